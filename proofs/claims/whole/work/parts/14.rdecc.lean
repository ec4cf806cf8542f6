theorem dX12_dayEnds_0 : decode cX12_dayEnds 0 = .ok (.aload_n 0, 1) := by decide +kernel
theorem dX12_dayEnds_1 : decode cX12_dayEnds 1 = .ok (.invokevirtual 93, 3) := by decide +kernel
theorem dX12_dayEnds_4 : decode cX12_dayEnds 4 = .ok (.iconst 0, 1) := by decide +kernel
theorem dX12_dayEnds_5 : decode cX12_dayEnds 5 = .ok (.istore_n 1, 1) := by decide +kernel
theorem dX12_dayEnds_6 : decode cX12_dayEnds 6 = .ok (.iload_n 1, 1) := by decide +kernel
theorem dX12_dayEnds_7 : decode cX12_dayEnds 7 = .ok (.aload_n 0, 1) := by decide +kernel
theorem dX12_dayEnds_8 : decode cX12_dayEnds 8 = .ok (.getfield 13, 3) := by decide +kernel
theorem dX12_dayEnds_11 : decode cX12_dayEnds 11 = .ok (.sipush 179, 3) := by decide +kernel
theorem dX12_dayEnds_14 : decode cX12_dayEnds 14 = .ok (.iaload, 1) := by decide +kernel
theorem dX12_dayEnds_15 : decode cX12_dayEnds 15 = .ok (.if_icmp .ge 20, 3) := by decide +kernel
theorem dX12_dayEnds_18 : decode cX12_dayEnds 18 = .ok (.aload_n 0, 1) := by decide +kernel
theorem dX12_dayEnds_19 : decode cX12_dayEnds 19 = .ok (.sipush 180, 3) := by decide +kernel
theorem dX12_dayEnds_22 : decode cX12_dayEnds 22 = .ok (.iconst 3, 1) := by decide +kernel
theorem dX12_dayEnds_23 : decode cX12_dayEnds 23 = .ok (.iload_n 1, 1) := by decide +kernel
theorem dX12_dayEnds_24 : decode cX12_dayEnds 24 = .ok (.imul, 1) := by decide +kernel
theorem dX12_dayEnds_25 : decode cX12_dayEnds 25 = .ok (.iadd, 1) := by decide +kernel
theorem dX12_dayEnds_26 : decode cX12_dayEnds 26 = .ok (.invokevirtual 96, 3) := by decide +kernel
theorem dX12_dayEnds_29 : decode cX12_dayEnds 29 = .ok (.iinc 1 1, 3) := by decide +kernel
theorem dX12_dayEnds_32 : decode cX12_dayEnds 32 = .ok (.goto (-26), 3) := by decide +kernel
theorem dX12_dayEnds_35 : decode cX12_dayEnds 35 = .ok (.iconst 0, 1) := by decide +kernel
theorem dX12_dayEnds_36 : decode cX12_dayEnds 36 = .ok (.istore_n 1, 1) := by decide +kernel
theorem dX12_dayEnds_37 : decode cX12_dayEnds 37 = .ok (.iload_n 1, 1) := by decide +kernel
theorem dX12_dayEnds_38 : decode cX12_dayEnds 38 = .ok (.bipush 24, 2) := by decide +kernel
theorem dX12_dayEnds_40 : decode cX12_dayEnds 40 = .ok (.if_icmp .ge 63, 3) := by decide +kernel
theorem dX12_dayEnds_43 : decode cX12_dayEnds 43 = .ok (.aload_n 0, 1) := by decide +kernel
theorem dX12_dayEnds_44 : decode cX12_dayEnds 44 = .ok (.getfield 13, 3) := by decide +kernel
theorem dX12_dayEnds_47 : decode cX12_dayEnds 47 = .ok (.bipush 49, 2) := by decide +kernel
theorem dX12_dayEnds_49 : decode cX12_dayEnds 49 = .ok (.iload_n 1, 1) := by decide +kernel
theorem dX12_dayEnds_50 : decode cX12_dayEnds 50 = .ok (.iadd, 1) := by decide +kernel
theorem dX12_dayEnds_51 : decode cX12_dayEnds 51 = .ok (.iaload, 1) := by decide +kernel
theorem dX12_dayEnds_52 : decode cX12_dayEnds 52 = .ok (.bipush 50, 2) := by decide +kernel
theorem dX12_dayEnds_54 : decode cX12_dayEnds 54 = .ok (.if_icmp .lt 43, 3) := by decide +kernel
theorem dX12_dayEnds_57 : decode cX12_dayEnds 57 = .ok (.aload_n 0, 1) := by decide +kernel
theorem dX12_dayEnds_58 : decode cX12_dayEnds 58 = .ok (.getfield 13, 3) := by decide +kernel
theorem dX12_dayEnds_61 : decode cX12_dayEnds 61 = .ok (.iconst 1, 1) := by decide +kernel
theorem dX12_dayEnds_62 : decode cX12_dayEnds 62 = .ok (.iload_n 1, 1) := by decide +kernel
theorem dX12_dayEnds_63 : decode cX12_dayEnds 63 = .ok (.iadd, 1) := by decide +kernel
theorem dX12_dayEnds_64 : decode cX12_dayEnds 64 = .ok (.iaload, 1) := by decide +kernel
theorem dX12_dayEnds_65 : decode cX12_dayEnds 65 = .ok (.ifCond .le 32, 3) := by decide +kernel
theorem dX12_dayEnds_68 : decode cX12_dayEnds 68 = .ok (.aload_n 0, 1) := by decide +kernel
theorem dX12_dayEnds_69 : decode cX12_dayEnds 69 = .ok (.getfield 13, 3) := by decide +kernel
theorem dX12_dayEnds_72 : decode cX12_dayEnds 72 = .ok (.bipush 49, 2) := by decide +kernel
theorem dX12_dayEnds_74 : decode cX12_dayEnds 74 = .ok (.iload_n 1, 1) := by decide +kernel
theorem dX12_dayEnds_75 : decode cX12_dayEnds 75 = .ok (.iadd, 1) := by decide +kernel
theorem dX12_dayEnds_76 : decode cX12_dayEnds 76 = .ok (.dup2, 1) := by decide +kernel
theorem dX12_dayEnds_77 : decode cX12_dayEnds 77 = .ok (.iaload, 1) := by decide +kernel
theorem dX12_dayEnds_78 : decode cX12_dayEnds 78 = .ok (.bipush 50, 2) := by decide +kernel
theorem dX12_dayEnds_80 : decode cX12_dayEnds 80 = .ok (.isub, 1) := by decide +kernel
theorem dX12_dayEnds_81 : decode cX12_dayEnds 81 = .ok (.iastore, 1) := by decide +kernel
theorem dX12_dayEnds_82 : decode cX12_dayEnds 82 = .ok (.aload_n 0, 1) := by decide +kernel
theorem dX12_dayEnds_83 : decode cX12_dayEnds 83 = .ok (.getfield 13, 3) := by decide +kernel
theorem dX12_dayEnds_86 : decode cX12_dayEnds 86 = .ok (.iconst 1, 1) := by decide +kernel
theorem dX12_dayEnds_87 : decode cX12_dayEnds 87 = .ok (.iload_n 1, 1) := by decide +kernel
theorem dX12_dayEnds_88 : decode cX12_dayEnds 88 = .ok (.iadd, 1) := by decide +kernel
theorem dX12_dayEnds_89 : decode cX12_dayEnds 89 = .ok (.dup2, 1) := by decide +kernel
theorem dX12_dayEnds_90 : decode cX12_dayEnds 90 = .ok (.iaload, 1) := by decide +kernel
theorem dX12_dayEnds_91 : decode cX12_dayEnds 91 = .ok (.iconst 1, 1) := by decide +kernel
theorem dX12_dayEnds_92 : decode cX12_dayEnds 92 = .ok (.isub, 1) := by decide +kernel
theorem dX12_dayEnds_93 : decode cX12_dayEnds 93 = .ok (.iastore, 1) := by decide +kernel
theorem dX12_dayEnds_94 : decode cX12_dayEnds 94 = .ok (.goto (-51), 3) := by decide +kernel
theorem dX12_dayEnds_97 : decode cX12_dayEnds 97 = .ok (.iinc 1 1, 3) := by decide +kernel
theorem dX12_dayEnds_100 : decode cX12_dayEnds 100 = .ok (.goto (-63), 3) := by decide +kernel
theorem dX12_dayEnds_103 : decode cX12_dayEnds 103 = .ok (.return_, 1) := by decide +kernel
noncomputable def o_X12_dayEnds_6 (F : Nat)   : Nat → Int32 → rs_S → Option (rs_S)
  | 0, _, _ => none
  | f + 1, l1, s => if (gW s (nI 179)) ≤ l1 then (some s) else ((o_X12_digs F s ((nI 180) + ((nI 3) * l1))).bind fun x3 => (o_X12_dayEnds_6 F f (l1 + nI 1) x3))
set_option maxHeartbeats 4000000 in
theorem t_X12_dayEnds_6 {Γ : jg_G} {g : Nat → jg_C} {n r : Nat} (hr : r + 11 ≤ n) (F : Nat)    (Q : jg_Q) {x : rs_S} (K1 : jg Γ mX12_dayEnds 2 0 0 35 [some (.ref r), none] [] (rs_h g r x, n) Q)  : ∀ (f : Nat) (l1 : Int32) (s : rs_S), o_X12_dayEnds_6 F f l1 s = some x → jg Γ mX12_dayEnds 2 0 0 6 [some (.ref r), some (.int l1)] [] (rs_h g r s, n) Q := by
  intro f
  induction f with
  | zero => intro l1 s h; rw [o_X12_dayEnds_6] at h; cases h
  | succ f ih =>
   intro l1 s h
   rw [o_X12_dayEnds_6] at h
   refine jg_iload_n dX12_dayEnds_6 rfl ?_
   refine jg_aload_n dX12_dayEnds_7 rfl ?_
   refine rs_ga fl_X12_13 dX12_dayEnds_8 hr rfl ?_
   refine jg_sipush (v := nI 179) dX12_dayEnds_11 (by decide) ?_
   refine rs_lwD (s := s) (i := (nI 179)) dX12_dayEnds_14 hr (by decide) ?_
   refine jg_icmp_ge (x := l1) (y := (gW s (nI 179))) (tgt := 35) dX12_dayEnds_15 (by decide) (fun c2 => ?_) (fun c2 => ?_)
   · replace h := it_t c2 h
     refine jg_fg (L' := [some (.ref r), none]) (by repeat (first | exact trivial | refine ⟨rfl, ?_⟩ | show jg_le _ _)) ?_
     obtain rfl := Option.some.inj h
     exact K1
   · replace h := it_f c2 h
     refine jg_aload_n dX12_dayEnds_18 rfl ?_
     refine jg_sipush (v := nI 180) dX12_dayEnds_19 (by decide) ?_
     refine jg_iconst (v := nI 3) dX12_dayEnds_22 (by decide) ?_
     refine jg_iload_n dX12_dayEnds_23 rfl ?_
     refine jg_imul (x := (nI 3)) (y := l1) dX12_dayEnds_24  ?_
     refine jg_iadd (x := (nI 180)) (y := ((nI 3) * l1)) dX12_dayEnds_25  ?_
     obtain ⟨x3, e_x3, h⟩ := bd_some h
     refine rs_call (As := [.int ((nI 180) + ((nI 3) * l1))]) kv_X12_96 dX12_dayEnds_26 hr rfl rfl (by decide) (Nat.le_of_ble_eq_true rfl) rfl (by decide) (Nat.le_of_ble_eq_true rfl) (t_X12_digs hr F s ((nI 180) + ((nI 3) * l1)) e_x3) ?_
     refine jg_iinc (x := l1) (v := l1 + nI 1) (L' := [some (.ref r), some (.int (l1 + nI 1))]) dX12_dayEnds_29 rfl (ic_k _ (by decide)) (by decide) rfl ?_
     refine jg_goto (tgt := 6) dX12_dayEnds_32 (by decide) ?_
     refine jg_fg (L' := [some (.ref r), some (.int (l1 + nI 1))]) (by repeat (first | exact trivial | refine ⟨rfl, ?_⟩ | show jg_le _ _)) ?_
     exact ih (l1 + nI 1) x3 h
noncomputable def o_X12_dayEnds_43 (F : Nat) (l1 : Int32)  : Nat → rs_S → Option (rs_S)
  | 0, _ => none
  | f + 1, s => if iL ((nI 49) + l1) 22216 then (if (gW s ((nI 49) + l1)) < (nI 50) then (some s) else (if iL ((nI 1) + l1) 22216 then (if (gW s ((nI 1) + l1)) ≤ 0 then (some s) else (o_X12_dayEnds_43 F l1 f (pW (pW s ((nI 49) + l1) ((gW s ((nI 49) + l1)) - (nI 50))) ((nI 1) + l1) ((gW (pW s ((nI 49) + l1) ((gW s ((nI 49) + l1)) - (nI 50))) ((nI 1) + l1)) - (nI 1))))) else none)) else none
set_option maxHeartbeats 4000000 in
theorem t_X12_dayEnds_43 {Γ : jg_G} {g : Nat → jg_C} {n r : Nat} (hr : r + 11 ≤ n) (F : Nat) (l1 : Int32)   (Q : jg_Q) {x : rs_S} (K1 : jg Γ mX12_dayEnds 2 0 0 97 [some (.ref r), some (.int l1)] [] (rs_h g r x, n) Q)  : ∀ (f : Nat) (s : rs_S), o_X12_dayEnds_43 F l1 f s = some x → jg Γ mX12_dayEnds 2 0 0 43 [some (.ref r), some (.int l1)] [] (rs_h g r s, n) Q := by
  intro f
  induction f with
  | zero => intro s h; rw [o_X12_dayEnds_43] at h; cases h
  | succ f ih =>
   intro s h
   rw [o_X12_dayEnds_43] at h
   refine jg_aload_n dX12_dayEnds_43 rfl ?_
   refine rs_ga fl_X12_13 dX12_dayEnds_44 hr rfl ?_
   refine jg_bipush (v := nI 49) dX12_dayEnds_47 (by decide) ?_
   refine jg_iload_n dX12_dayEnds_49 rfl ?_
   refine jg_iadd (x := (nI 49)) (y := l1) dX12_dayEnds_50  ?_
   obtain ⟨q6, h⟩ := gd_some h
   refine rs_lwD (s := s) (i := ((nI 49) + l1)) dX12_dayEnds_51 hr q6 ?_
   refine jg_bipush (v := nI 50) dX12_dayEnds_52 (by decide) ?_
   refine jg_icmp_lt (x := (gW s ((nI 49) + l1))) (y := (nI 50)) (tgt := 97) dX12_dayEnds_54 (by decide) (fun c7 => ?_) (fun c7 => ?_)
   · replace h := it_t c7 h
     refine jg_fg (L' := [some (.ref r), some (.int l1)]) (by repeat (first | exact trivial | refine ⟨rfl, ?_⟩ | show jg_le _ _)) ?_
     obtain rfl := Option.some.inj h
     exact K1
   · replace h := it_f c7 h
     refine jg_aload_n dX12_dayEnds_57 rfl ?_
     refine rs_ga fl_X12_13 dX12_dayEnds_58 hr rfl ?_
     refine jg_iconst (v := nI 1) dX12_dayEnds_61 (by decide) ?_
     refine jg_iload_n dX12_dayEnds_62 rfl ?_
     refine jg_iadd (x := (nI 1)) (y := l1) dX12_dayEnds_63  ?_
     obtain ⟨q8, h⟩ := gd_some h
     refine rs_lwD (s := s) (i := ((nI 1) + l1)) dX12_dayEnds_64 hr q8 ?_
     refine jg_if_le (x := (gW s ((nI 1) + l1))) (tgt := 97) dX12_dayEnds_65 (by decide) (fun c9 => ?_) (fun c9 => ?_)
     · replace h := it_t c9 h
       refine jg_fg (L' := [some (.ref r), some (.int l1)]) (by repeat (first | exact trivial | refine ⟨rfl, ?_⟩ | show jg_le _ _)) ?_
       obtain rfl := Option.some.inj h
       exact K1
     · replace h := it_f c9 h
       refine jg_aload_n dX12_dayEnds_68 rfl ?_
       refine rs_ga fl_X12_13 dX12_dayEnds_69 hr rfl ?_
       refine jg_bipush (v := nI 49) dX12_dayEnds_72 (by decide) ?_
       refine jg_iload_n dX12_dayEnds_74 rfl ?_
       refine jg_iadd (x := (nI 49)) (y := l1) dX12_dayEnds_75  ?_
       refine jg_dup2 dX12_dayEnds_76 rfl rfl ?_
       refine rs_lwD (s := s) (i := ((nI 49) + l1)) dX12_dayEnds_77 hr q6 ?_
       refine jg_bipush (v := nI 50) dX12_dayEnds_78 (by decide) ?_
       refine jg_isub (x := (gW s ((nI 49) + l1))) (y := (nI 50)) dX12_dayEnds_80  ?_
       refine rs_swD (s := s) (i := ((nI 49) + l1)) (x := ((gW s ((nI 49) + l1)) - (nI 50))) dX12_dayEnds_81 hr q6 ?_
       refine jg_aload_n dX12_dayEnds_82 rfl ?_
       refine rs_ga fl_X12_13 dX12_dayEnds_83 hr rfl ?_
       refine jg_iconst (v := nI 1) dX12_dayEnds_86 (by decide) ?_
       refine jg_iload_n dX12_dayEnds_87 rfl ?_
       refine jg_iadd (x := (nI 1)) (y := l1) dX12_dayEnds_88  ?_
       refine jg_dup2 dX12_dayEnds_89 rfl rfl ?_
       refine rs_lwD (s := (pW s ((nI 49) + l1) ((gW s ((nI 49) + l1)) - (nI 50)))) (i := ((nI 1) + l1)) dX12_dayEnds_90 hr q8 ?_
       refine jg_iconst (v := nI 1) dX12_dayEnds_91 (by decide) ?_
       refine jg_isub (x := (gW (pW s ((nI 49) + l1) ((gW s ((nI 49) + l1)) - (nI 50))) ((nI 1) + l1))) (y := (nI 1)) dX12_dayEnds_92  ?_
       refine rs_swD (s := (pW s ((nI 49) + l1) ((gW s ((nI 49) + l1)) - (nI 50)))) (i := ((nI 1) + l1)) (x := ((gW (pW s ((nI 49) + l1) ((gW s ((nI 49) + l1)) - (nI 50))) ((nI 1) + l1)) - (nI 1))) dX12_dayEnds_93 hr q8 ?_
       refine jg_goto (tgt := 43) dX12_dayEnds_94 (by decide) ?_
       refine jg_fg (L' := [some (.ref r), some (.int l1)]) (by repeat (first | exact trivial | refine ⟨rfl, ?_⟩ | show jg_le _ _)) ?_
       exact ih (pW (pW s ((nI 49) + l1) ((gW s ((nI 49) + l1)) - (nI 50))) ((nI 1) + l1) ((gW (pW s ((nI 49) + l1) ((gW s ((nI 49) + l1)) - (nI 50))) ((nI 1) + l1)) - (nI 1))) h
noncomputable def o_X12_dayEnds_37 (F : Nat)   : Nat → Int32 → rs_S → Option (rs_S)
  | 0, _, _ => none
  | f + 1, l1, s => if (nI 24) ≤ l1 then (some s) else ((o_X12_dayEnds_43 F l1 F s).bind fun x10 => (o_X12_dayEnds_37 F f (l1 + nI 1) x10))
set_option maxHeartbeats 4000000 in
theorem t_X12_dayEnds_37 {Γ : jg_G} {g : Nat → jg_C} {n r : Nat} (hr : r + 11 ≤ n) (F : Nat)    (Q : jg_Q) {x : rs_S} (K1 : jg Γ mX12_dayEnds 2 0 0 103 [none, none] [] (rs_h g r x, n) Q)  : ∀ (f : Nat) (l1 : Int32) (s : rs_S), o_X12_dayEnds_37 F f l1 s = some x → jg Γ mX12_dayEnds 2 0 0 37 [some (.ref r), some (.int l1)] [] (rs_h g r s, n) Q := by
  intro f
  induction f with
  | zero => intro l1 s h; rw [o_X12_dayEnds_37] at h; cases h
  | succ f ih =>
   intro l1 s h
   rw [o_X12_dayEnds_37] at h
   refine jg_iload_n dX12_dayEnds_37 rfl ?_
   refine jg_bipush (v := nI 24) dX12_dayEnds_38 (by decide) ?_
   refine jg_icmp_ge (x := l1) (y := (nI 24)) (tgt := 103) dX12_dayEnds_40 (by decide) (fun c5 => ?_) (fun c5 => ?_)
   · replace h := it_t c5 h
     refine jg_fg (L' := [none, none]) (by repeat (first | exact trivial | refine ⟨rfl, ?_⟩ | show jg_le _ _)) ?_
     obtain rfl := Option.some.inj h
     exact K1
   · replace h := it_f c5 h
     obtain ⟨x10, e_x10, h⟩ := bd_some h
     refine jg_fg (L' := [some (.ref r), some (.int l1)]) (by repeat (first | exact trivial | refine ⟨rfl, ?_⟩ | show jg_le _ _)) ?_
     refine t_X12_dayEnds_43 hr F l1  _ (x := x10) ?_ F s e_x10
     refine jg_iinc (x := l1) (v := l1 + nI 1) (L' := [some (.ref r), some (.int (l1 + nI 1))]) dX12_dayEnds_97 rfl (ic_k _ (by decide)) (by decide) rfl ?_
     refine jg_goto (tgt := 37) dX12_dayEnds_100 (by decide) ?_
     refine jg_fg (L' := [some (.ref r), some (.int (l1 + nI 1))]) (by repeat (first | exact trivial | refine ⟨rfl, ?_⟩ | show jg_le _ _)) ?_
     exact ih (l1 + nI 1) x10 h
noncomputable def o_X12_dayEnds (F : Nat) (s : rs_S) : Option (rs_S) := (o_X12_settles F s).bind fun x1 => ((o_X12_dayEnds_6 F F (nI 0) x1).bind fun x4 => ((o_X12_dayEnds_37 F F (nI 0) x4).bind fun x11 => (some x11)))
set_option maxHeartbeats 4000000 in
theorem t_X12_dayEnds {Γ : jg_G} {g : Nat → jg_C} {n r : Nat} (hr : r + 11 ≤ n) (F : Nat) (s : rs_S)  {x : rs_S} (h : o_X12_dayEnds F s = some x) : jc Γ mX12_dayEnds 2 0 0 [some (.ref r), none] (rs_h g r s, n) (.inl none) (rs_h g r x, n) := by
  refine jc_of ?_
  rw [o_X12_dayEnds] at h
  refine jg_aload_n dX12_dayEnds_0 rfl ?_
  obtain ⟨x1, e_x1, h⟩ := bd_some h
  refine rs_call (As := []) kv_X12_93 dX12_dayEnds_1 hr rfl rfl (by decide) (Nat.le_of_ble_eq_true rfl) rfl (by decide) (Nat.le_of_ble_eq_true rfl) (t_X12_settles hr F s e_x1) ?_
  refine jg_iconst (v := nI 0) dX12_dayEnds_4 (by decide) ?_
  refine jg_istore_n (L' := [some (.ref r), some (.int (nI 0))]) dX12_dayEnds_5 (by decide) rfl ?_
  obtain ⟨x4, e_x4, h⟩ := bd_some h
  refine jg_fg (L' := [some (.ref r), some (.int (nI 0))]) (by repeat (first | exact trivial | refine ⟨rfl, ?_⟩ | show jg_le _ _)) ?_
  refine t_X12_dayEnds_6 hr F  _ (x := x4) ?_ F (nI 0) x1 e_x4
  refine jg_iconst (v := nI 0) dX12_dayEnds_35 (by decide) ?_
  refine jg_istore_n (L' := [some (.ref r), some (.int (nI 0))]) dX12_dayEnds_36 (by decide) rfl ?_
  obtain ⟨x11, e_x11, h⟩ := bd_some h
  refine jg_fg (L' := [some (.ref r), some (.int (nI 0))]) (by repeat (first | exact trivial | refine ⟨rfl, ?_⟩ | show jg_le _ _)) ?_
  refine t_X12_dayEnds_37 hr F  _ (x := x11) ?_ F (nI 0) x4 e_x11
  obtain rfl := Option.some.inj h
  exact jg_return dX12_dayEnds_103 rfl ⟨rfl, rfl⟩
theorem dX12_year_0 : decode cX12_year 0 = .ok (.aload_n 0, 1) := by decide +kernel
theorem dX12_year_1 : decode cX12_year 1 = .ok (.getfield 13, 3) := by decide +kernel
theorem dX12_year_4 : decode cX12_year 4 = .ok (.iconst 0, 1) := by decide +kernel
theorem dX12_year_5 : decode cX12_year 5 = .ok (.iaload, 1) := by decide +kernel
theorem dX12_year_6 : decode cX12_year 6 = .ok (.sipush 2400, 3) := by decide +kernel
theorem dX12_year_9 : decode cX12_year 9 = .ok (.idiv, 1) := by decide +kernel
theorem dX12_year_10 : decode cX12_year 10 = .ok (.ireturn, 1) := by decide +kernel
noncomputable def o_X12_year (s : rs_S) : Option (Int32) := some ((gW s (nI 0)) / (nI 2400))
set_option maxHeartbeats 4000000 in
theorem t_X12_year {Γ : jg_G} {g : Nat → jg_C} {n r : Nat} (hr : r + 11 ≤ n) (s : rs_S)  {x : Int32} (h : o_X12_year s = some x) : jc Γ mX12_year 0 0 0 [some (.ref r)] (rs_h g r s, n) (.inl (some (.int x))) (rs_h g r s, n) := by
  refine jc_of ?_
  rw [o_X12_year] at h
  refine jg_aload_n dX12_year_0 rfl ?_
  refine rs_ga fl_X12_13 dX12_year_1 hr rfl ?_
  refine jg_iconst (v := nI 0) dX12_year_4 (by decide) ?_
  refine rs_lwD (s := s) (i := (nI 0)) dX12_year_5 hr (by decide) ?_
  refine jg_sipush (v := nI 2400) dX12_year_6 (by decide) ?_
  refine jg_idiv (x := (gW s (nI 0))) (y := (nI 2400)) dX12_year_9 (by decide) ?_
  obtain rfl := Option.some.inj h
  exact jg_ireturn dX12_year_10 rfl ⟨rfl, rfl⟩
theorem dX12_bondAt_0 : decode cX12_bondAt 0 = .ok (.sipush 2666, 3) := by decide +kernel
theorem dX12_bondAt_3 : decode cX12_bondAt 3 = .ok (.bipush 6, 2) := by decide +kernel
theorem dX12_bondAt_5 : decode cX12_bondAt 5 = .ok (.iload_n 0, 1) := by decide +kernel
theorem dX12_bondAt_6 : decode cX12_bondAt 6 = .ok (.imul, 1) := by decide +kernel
theorem dX12_bondAt_7 : decode cX12_bondAt 7 = .ok (.iadd, 1) := by decide +kernel
theorem dX12_bondAt_8 : decode cX12_bondAt 8 = .ok (.iload_n 1, 1) := by decide +kernel
theorem dX12_bondAt_9 : decode cX12_bondAt 9 = .ok (.iadd, 1) := by decide +kernel
theorem dX12_bondAt_10 : decode cX12_bondAt 10 = .ok (.ireturn, 1) := by decide +kernel
noncomputable def o_X12_bondAt (s : rs_S) (a1 : Int32) (a2 : Int32) : Option (Int32) := some (((nI 2666) + ((nI 6) * a1)) + a2)
set_option maxHeartbeats 4000000 in
theorem t_X12_bondAt {Γ : jg_G} {g : Nat → jg_C} {n r : Nat} (hr : r + 11 ≤ n) (s : rs_S) (a1 : Int32) (a2 : Int32)  {x : Int32} (h : o_X12_bondAt s a1 a2 = some x) : jc Γ mX12_bondAt 0 0 0 [some (.int a1), some (.int a2)] (rs_h g r s, n) (.inl (some (.int x))) (rs_h g r s, n) := by
  refine jc_of ?_
  rw [o_X12_bondAt] at h
  refine jg_sipush (v := nI 2666) dX12_bondAt_0 (by decide) ?_
  refine jg_bipush (v := nI 6) dX12_bondAt_3 (by decide) ?_
  refine jg_iload_n dX12_bondAt_5 rfl ?_
  refine jg_imul (x := (nI 6)) (y := a1) dX12_bondAt_6  ?_
  refine jg_iadd (x := (nI 2666)) (y := ((nI 6) * a1)) dX12_bondAt_7  ?_
  refine jg_iload_n dX12_bondAt_8 rfl ?_
  refine jg_iadd (x := ((nI 2666) + ((nI 6) * a1))) (y := a2) dX12_bondAt_9  ?_
  obtain rfl := Option.some.inj h
  exact jg_ireturn dX12_bondAt_10 rfl ⟨rfl, rfl⟩
theorem dX12_bondOf_0 : decode cX12_bondOf 0 = .ok (.aload_n 0, 1) := by decide +kernel
theorem dX12_bondOf_1 : decode cX12_bondOf 1 = .ok (.getfield 13, 3) := by decide +kernel
theorem dX12_bondOf_4 : decode cX12_bondOf 4 = .ok (.iload_n 1, 1) := by decide +kernel
theorem dX12_bondOf_5 : decode cX12_bondOf 5 = .ok (.iload_n 2, 1) := by decide +kernel
theorem dX12_bondOf_6 : decode cX12_bondOf 6 = .ok (.invokestatic 388, 3) := by decide +kernel
theorem dX12_bondOf_9 : decode cX12_bondOf 9 = .ok (.iaload, 1) := by decide +kernel
theorem dX12_bondOf_10 : decode cX12_bondOf 10 = .ok (.ireturn, 1) := by decide +kernel
noncomputable def o_X12_bondOf (s : rs_S) (a1 : Int32) (a2 : Int32) : Option (Int32) := (o_X12_bondAt s a1 a2).bind fun x1 => (if iL x1 22216 then (some (gW s x1)) else none)
set_option maxHeartbeats 4000000 in
theorem t_X12_bondOf {Γ : jg_G} {g : Nat → jg_C} {n r : Nat} (hr : r + 11 ≤ n) (s : rs_S) (a1 : Int32) (a2 : Int32)  {x : Int32} (h : o_X12_bondOf s a1 a2 = some x) : jc Γ mX12_bondOf 1 0 0 [some (.ref r), some (.int a1), some (.int a2)] (rs_h g r s, n) (.inl (some (.int x))) (rs_h g r s, n) := by
  refine jc_of ?_
  rw [o_X12_bondOf] at h
  refine jg_aload_n dX12_bondOf_0 rfl ?_
  refine rs_ga fl_X12_13 dX12_bondOf_1 hr rfl ?_
  refine jg_iload_n dX12_bondOf_4 rfl ?_
  refine jg_iload_n dX12_bondOf_5 rfl ?_
  obtain ⟨x1, e_x1, h⟩ := bd_some h
  refine rs_callS (As := [.int a1, .int a2]) ks_X12_388 dX12_bondOf_6 rfl (by decide) (Nat.le_of_ble_eq_true rfl) rfl (by decide) (Nat.le_of_ble_eq_true rfl) (t_X12_bondAt hr s a1 a2 e_x1) ?_
  obtain ⟨q2, h⟩ := gd_some h
  refine rs_lwD (s := s) (i := x1) dX12_bondOf_9 hr q2 ?_
  obtain rfl := Option.some.inj h
  exact jg_ireturn dX12_bondOf_10 rfl ⟨rfl, rfl⟩
theorem dX12_paysBond_0 : decode cX12_paysBond 0 = .ok (.aload_n 0, 1) := by decide +kernel
theorem dX12_paysBond_1 : decode cX12_paysBond 1 = .ok (.iload_n 1, 1) := by decide +kernel
theorem dX12_paysBond_2 : decode cX12_paysBond 2 = .ok (.iconst 3, 1) := by decide +kernel
theorem dX12_paysBond_3 : decode cX12_paysBond 3 = .ok (.invokevirtual 391, 3) := by decide +kernel
theorem dX12_paysBond_6 : decode cX12_paysBond 6 = .ok (.istore_n 3, 1) := by decide +kernel
theorem dX12_paysBond_7 : decode cX12_paysBond 7 = .ok (.iload_n 3, 1) := by decide +kernel
theorem dX12_paysBond_8 : decode cX12_paysBond 8 = .ok (.iload_n 2, 1) := by decide +kernel
theorem dX12_paysBond_9 : decode cX12_paysBond 9 = .ok (.if_icmp .lt 52, 3) := by decide +kernel
theorem dX12_paysBond_12 : decode cX12_paysBond 12 = .ok (.aload_n 0, 1) := by decide +kernel
theorem dX12_paysBond_13 : decode cX12_paysBond 13 = .ok (.getfield 13, 3) := by decide +kernel
theorem dX12_paysBond_16 : decode cX12_paysBond 16 = .ok (.iload_n 1, 1) := by decide +kernel
theorem dX12_paysBond_17 : decode cX12_paysBond 17 = .ok (.iconst 4, 1) := by decide +kernel
theorem dX12_paysBond_18 : decode cX12_paysBond 18 = .ok (.invokestatic 388, 3) := by decide +kernel
theorem dX12_paysBond_21 : decode cX12_paysBond 21 = .ok (.dup2, 1) := by decide +kernel
theorem dX12_paysBond_22 : decode cX12_paysBond 22 = .ok (.iaload, 1) := by decide +kernel
theorem dX12_paysBond_23 : decode cX12_paysBond 23 = .ok (.aload_n 0, 1) := by decide +kernel
theorem dX12_paysBond_24 : decode cX12_paysBond 24 = .ok (.iload_n 1, 1) := by decide +kernel
theorem dX12_paysBond_25 : decode cX12_paysBond 25 = .ok (.iconst 0, 1) := by decide +kernel
theorem dX12_paysBond_26 : decode cX12_paysBond 26 = .ok (.invokevirtual 391, 3) := by decide +kernel
theorem dX12_paysBond_29 : decode cX12_paysBond 29 = .ok (.i2l, 1) := by decide +kernel
theorem dX12_paysBond_30 : decode cX12_paysBond 30 = .ok (.aload_n 0, 1) := by decide +kernel
theorem dX12_paysBond_31 : decode cX12_paysBond 31 = .ok (.iload_n 1, 1) := by decide +kernel
theorem dX12_paysBond_32 : decode cX12_paysBond 32 = .ok (.iconst 1, 1) := by decide +kernel
theorem dX12_paysBond_33 : decode cX12_paysBond 33 = .ok (.invokevirtual 391, 3) := by decide +kernel
theorem dX12_paysBond_36 : decode cX12_paysBond 36 = .ok (.i2l, 1) := by decide +kernel
theorem dX12_paysBond_37 : decode cX12_paysBond 37 = .ok (.lmul, 1) := by decide +kernel
theorem dX12_paysBond_38 : decode cX12_paysBond 38 = .ok (.ldc2_w 400, 3) := by decide +kernel
theorem dX12_paysBond_41 : decode cX12_paysBond 41 = .ok (.ldiv, 1) := by decide +kernel
theorem dX12_paysBond_42 : decode cX12_paysBond 42 = .ok (.l2i, 1) := by decide +kernel
theorem dX12_paysBond_43 : decode cX12_paysBond 43 = .ok (.iload_n 3, 1) := by decide +kernel
theorem dX12_paysBond_44 : decode cX12_paysBond 44 = .ok (.iload_n 2, 1) := by decide +kernel
theorem dX12_paysBond_45 : decode cX12_paysBond 45 = .ok (.if_icmp .ne 12, 3) := by decide +kernel
theorem dX12_paysBond_48 : decode cX12_paysBond 48 = .ok (.aload_n 0, 1) := by decide +kernel
theorem dX12_paysBond_49 : decode cX12_paysBond 49 = .ok (.iload_n 1, 1) := by decide +kernel
theorem dX12_paysBond_50 : decode cX12_paysBond 50 = .ok (.iconst 0, 1) := by decide +kernel
theorem dX12_paysBond_51 : decode cX12_paysBond 51 = .ok (.invokevirtual 391, 3) := by decide +kernel
theorem dX12_paysBond_54 : decode cX12_paysBond 54 = .ok (.goto 4, 3) := by decide +kernel
theorem dX12_paysBond_57 : decode cX12_paysBond 57 = .ok (.iconst 0, 1) := by decide +kernel
theorem dX12_paysBond_58 : decode cX12_paysBond 58 = .ok (.iadd, 1) := by decide +kernel
theorem dX12_paysBond_59 : decode cX12_paysBond 59 = .ok (.iadd, 1) := by decide +kernel
theorem dX12_paysBond_60 : decode cX12_paysBond 60 = .ok (.iastore, 1) := by decide +kernel
theorem dX12_paysBond_61 : decode cX12_paysBond 61 = .ok (.aload_n 0, 1) := by decide +kernel
theorem dX12_paysBond_62 : decode cX12_paysBond 62 = .ok (.getfield 13, 3) := by decide +kernel
theorem dX12_paysBond_65 : decode cX12_paysBond 65 = .ok (.sipush 2652, 3) := by decide +kernel
theorem dX12_paysBond_68 : decode cX12_paysBond 68 = .ok (.iaload, 1) := by decide +kernel
theorem dX12_paysBond_69 : decode cX12_paysBond 69 = .ok (.aload_n 0, 1) := by decide +kernel
theorem dX12_paysBond_70 : decode cX12_paysBond 70 = .ok (.iload_n 1, 1) := by decide +kernel
theorem dX12_paysBond_71 : decode cX12_paysBond 71 = .ok (.iconst 4, 1) := by decide +kernel
theorem dX12_paysBond_72 : decode cX12_paysBond 72 = .ok (.invokevirtual 391, 3) := by decide +kernel
theorem dX12_paysBond_75 : decode cX12_paysBond 75 = .ok (.invokestatic 91, 3) := by decide +kernel
theorem dX12_paysBond_78 : decode cX12_paysBond 78 = .ok (.istore 4, 2) := by decide +kernel
theorem dX12_paysBond_80 : decode cX12_paysBond 80 = .ok (.aload_n 0, 1) := by decide +kernel
theorem dX12_paysBond_81 : decode cX12_paysBond 81 = .ok (.getfield 13, 3) := by decide +kernel
theorem dX12_paysBond_84 : decode cX12_paysBond 84 = .ok (.sipush 2652, 3) := by decide +kernel
theorem dX12_paysBond_87 : decode cX12_paysBond 87 = .ok (.dup2, 1) := by decide +kernel
theorem dX12_paysBond_88 : decode cX12_paysBond 88 = .ok (.iaload, 1) := by decide +kernel
theorem dX12_paysBond_89 : decode cX12_paysBond 89 = .ok (.iload 4, 2) := by decide +kernel
theorem dX12_paysBond_91 : decode cX12_paysBond 91 = .ok (.isub, 1) := by decide +kernel
theorem dX12_paysBond_92 : decode cX12_paysBond 92 = .ok (.iastore, 1) := by decide +kernel
theorem dX12_paysBond_93 : decode cX12_paysBond 93 = .ok (.aload_n 0, 1) := by decide +kernel
theorem dX12_paysBond_94 : decode cX12_paysBond 94 = .ok (.getfield 13, 3) := by decide +kernel
theorem dX12_paysBond_97 : decode cX12_paysBond 97 = .ok (.iload_n 1, 1) := by decide +kernel
theorem dX12_paysBond_98 : decode cX12_paysBond 98 = .ok (.iconst 4, 1) := by decide +kernel
theorem dX12_paysBond_99 : decode cX12_paysBond 99 = .ok (.invokestatic 388, 3) := by decide +kernel
theorem dX12_paysBond_102 : decode cX12_paysBond 102 = .ok (.dup2, 1) := by decide +kernel
theorem dX12_paysBond_103 : decode cX12_paysBond 103 = .ok (.iaload, 1) := by decide +kernel
theorem dX12_paysBond_104 : decode cX12_paysBond 104 = .ok (.iload 4, 2) := by decide +kernel
theorem dX12_paysBond_106 : decode cX12_paysBond 106 = .ok (.isub, 1) := by decide +kernel
theorem dX12_paysBond_107 : decode cX12_paysBond 107 = .ok (.iastore, 1) := by decide +kernel
theorem dX12_paysBond_108 : decode cX12_paysBond 108 = .ok (.aload_n 0, 1) := by decide +kernel
theorem dX12_paysBond_109 : decode cX12_paysBond 109 = .ok (.getfield 13, 3) := by decide +kernel
theorem dX12_paysBond_112 : decode cX12_paysBond 112 = .ok (.iload_n 1, 1) := by decide +kernel
theorem dX12_paysBond_113 : decode cX12_paysBond 113 = .ok (.iconst 5, 1) := by decide +kernel
theorem dX12_paysBond_114 : decode cX12_paysBond 114 = .ok (.invokestatic 388, 3) := by decide +kernel
theorem dX12_paysBond_117 : decode cX12_paysBond 117 = .ok (.dup2, 1) := by decide +kernel
theorem dX12_paysBond_118 : decode cX12_paysBond 118 = .ok (.iaload, 1) := by decide +kernel
theorem dX12_paysBond_119 : decode cX12_paysBond 119 = .ok (.iload 4, 2) := by decide +kernel
theorem dX12_paysBond_121 : decode cX12_paysBond 121 = .ok (.iadd, 1) := by decide +kernel
theorem dX12_paysBond_122 : decode cX12_paysBond 122 = .ok (.iastore, 1) := by decide +kernel
theorem dX12_paysBond_123 : decode cX12_paysBond 123 = .ok (.return_, 1) := by decide +kernel
noncomputable def o_X12_paysBond (s : rs_S) (a1 : Int32) (a2 : Int32) : Option (rs_S) := (o_X12_bondOf s a1 (nI 3)).bind fun x1 => (if x1 < a2 then ((o_X12_bondOf s a1 (nI 4)).bind fun x3 => ((o_X12_bondAt (pW s (nI 2652) ((gW s (nI 2652)) - (mni (gW s (nI 2652)) x3))) a1 (nI 4)).bind fun x4 => (if iL x4 22216 then ((o_X12_bondAt (pW (pW s (nI 2652) ((gW s (nI 2652)) - (mni (gW s (nI 2652)) x3))) x4 ((gW (pW s (nI 2652) ((gW s (nI 2652)) - (mni (gW s (nI 2652)) x3))) x4) - (mni (gW s (nI 2652)) x3))) a1 (nI 5)).bind fun x6 => (if iL x6 22216 then (some (pW (pW (pW s (nI 2652) ((gW s (nI 2652)) - (mni (gW s (nI 2652)) x3))) x4 ((gW (pW s (nI 2652) ((gW s (nI 2652)) - (mni (gW s (nI 2652)) x3))) x4) - (mni (gW s (nI 2652)) x3))) x6 ((gW (pW (pW s (nI 2652) ((gW s (nI 2652)) - (mni (gW s (nI 2652)) x3))) x4 ((gW (pW s (nI 2652) ((gW s (nI 2652)) - (mni (gW s (nI 2652)) x3))) x4) - (mni (gW s (nI 2652)) x3))) x6) + (mni (gW s (nI 2652)) x3)))) else none)) else none))) else ((o_X12_bondAt s a1 (nI 4)).bind fun x8 => (if iL x8 22216 then ((o_X12_bondOf s a1 (nI 0)).bind fun x10 => ((o_X12_bondOf s a1 (nI 1)).bind fun x11 => (if x1 = a2 then ((o_X12_bondOf s a1 (nI 0)).bind fun x18 => ((o_X12_bondOf (pW s x8 ((gW s x8) + ((((x10.toInt64 * x11.toInt64) / 10000).toInt32) + x18))) a1 (nI 4)).bind fun x19 => ((o_X12_bondAt (pW (pW s x8 ((gW s x8) + ((((x10.toInt64 * x11.toInt64) / 10000).toInt32) + x18))) (nI 2652) ((gW (pW s x8 ((gW s x8) + ((((x10.toInt64 * x11.toInt64) / 10000).toInt32) + x18))) (nI 2652)) - (mni (gW (pW s x8 ((gW s x8) + ((((x10.toInt64 * x11.toInt64) / 10000).toInt32) + x18))) (nI 2652)) x19))) a1 (nI 4)).bind fun x20 => (if iL x20 22216 then ((o_X12_bondAt (pW (pW (pW s x8 ((gW s x8) + ((((x10.toInt64 * x11.toInt64) / 10000).toInt32) + x18))) (nI 2652) ((gW (pW s x8 ((gW s x8) + ((((x10.toInt64 * x11.toInt64) / 10000).toInt32) + x18))) (nI 2652)) - (mni (gW (pW s x8 ((gW s x8) + ((((x10.toInt64 * x11.toInt64) / 10000).toInt32) + x18))) (nI 2652)) x19))) x20 ((gW (pW (pW s x8 ((gW s x8) + ((((x10.toInt64 * x11.toInt64) / 10000).toInt32) + x18))) (nI 2652) ((gW (pW s x8 ((gW s x8) + ((((x10.toInt64 * x11.toInt64) / 10000).toInt32) + x18))) (nI 2652)) - (mni (gW (pW s x8 ((gW s x8) + ((((x10.toInt64 * x11.toInt64) / 10000).toInt32) + x18))) (nI 2652)) x19))) x20) - (mni (gW (pW s x8 ((gW s x8) + ((((x10.toInt64 * x11.toInt64) / 10000).toInt32) + x18))) (nI 2652)) x19))) a1 (nI 5)).bind fun x22 => (if iL x22 22216 then (some (pW (pW (pW (pW s x8 ((gW s x8) + ((((x10.toInt64 * x11.toInt64) / 10000).toInt32) + x18))) (nI 2652) ((gW (pW s x8 ((gW s x8) + ((((x10.toInt64 * x11.toInt64) / 10000).toInt32) + x18))) (nI 2652)) - (mni (gW (pW s x8 ((gW s x8) + ((((x10.toInt64 * x11.toInt64) / 10000).toInt32) + x18))) (nI 2652)) x19))) x20 ((gW (pW (pW s x8 ((gW s x8) + ((((x10.toInt64 * x11.toInt64) / 10000).toInt32) + x18))) (nI 2652) ((gW (pW s x8 ((gW s x8) + ((((x10.toInt64 * x11.toInt64) / 10000).toInt32) + x18))) (nI 2652)) - (mni (gW (pW s x8 ((gW s x8) + ((((x10.toInt64 * x11.toInt64) / 10000).toInt32) + x18))) (nI 2652)) x19))) x20) - (mni (gW (pW s x8 ((gW s x8) + ((((x10.toInt64 * x11.toInt64) / 10000).toInt32) + x18))) (nI 2652)) x19))) x22 ((gW (pW (pW (pW s x8 ((gW s x8) + ((((x10.toInt64 * x11.toInt64) / 10000).toInt32) + x18))) (nI 2652) ((gW (pW s x8 ((gW s x8) + ((((x10.toInt64 * x11.toInt64) / 10000).toInt32) + x18))) (nI 2652)) - (mni (gW (pW s x8 ((gW s x8) + ((((x10.toInt64 * x11.toInt64) / 10000).toInt32) + x18))) (nI 2652)) x19))) x20 ((gW (pW (pW s x8 ((gW s x8) + ((((x10.toInt64 * x11.toInt64) / 10000).toInt32) + x18))) (nI 2652) ((gW (pW s x8 ((gW s x8) + ((((x10.toInt64 * x11.toInt64) / 10000).toInt32) + x18))) (nI 2652)) - (mni (gW (pW s x8 ((gW s x8) + ((((x10.toInt64 * x11.toInt64) / 10000).toInt32) + x18))) (nI 2652)) x19))) x20) - (mni (gW (pW s x8 ((gW s x8) + ((((x10.toInt64 * x11.toInt64) / 10000).toInt32) + x18))) (nI 2652)) x19))) x22) + (mni (gW (pW s x8 ((gW s x8) + ((((x10.toInt64 * x11.toInt64) / 10000).toInt32) + x18))) (nI 2652)) x19)))) else none)) else none)))) else ((o_X12_bondOf (pW s x8 ((gW s x8) + ((((x10.toInt64 * x11.toInt64) / 10000).toInt32) + (nI 0)))) a1 (nI 4)).bind fun x13 => ((o_X12_bondAt (pW (pW s x8 ((gW s x8) + ((((x10.toInt64 * x11.toInt64) / 10000).toInt32) + (nI 0)))) (nI 2652) ((gW (pW s x8 ((gW s x8) + ((((x10.toInt64 * x11.toInt64) / 10000).toInt32) + (nI 0)))) (nI 2652)) - (mni (gW (pW s x8 ((gW s x8) + ((((x10.toInt64 * x11.toInt64) / 10000).toInt32) + (nI 0)))) (nI 2652)) x13))) a1 (nI 4)).bind fun x14 => (if iL x14 22216 then ((o_X12_bondAt (pW (pW (pW s x8 ((gW s x8) + ((((x10.toInt64 * x11.toInt64) / 10000).toInt32) + (nI 0)))) (nI 2652) ((gW (pW s x8 ((gW s x8) + ((((x10.toInt64 * x11.toInt64) / 10000).toInt32) + (nI 0)))) (nI 2652)) - (mni (gW (pW s x8 ((gW s x8) + ((((x10.toInt64 * x11.toInt64) / 10000).toInt32) + (nI 0)))) (nI 2652)) x13))) x14 ((gW (pW (pW s x8 ((gW s x8) + ((((x10.toInt64 * x11.toInt64) / 10000).toInt32) + (nI 0)))) (nI 2652) ((gW (pW s x8 ((gW s x8) + ((((x10.toInt64 * x11.toInt64) / 10000).toInt32) + (nI 0)))) (nI 2652)) - (mni (gW (pW s x8 ((gW s x8) + ((((x10.toInt64 * x11.toInt64) / 10000).toInt32) + (nI 0)))) (nI 2652)) x13))) x14) - (mni (gW (pW s x8 ((gW s x8) + ((((x10.toInt64 * x11.toInt64) / 10000).toInt32) + (nI 0)))) (nI 2652)) x13))) a1 (nI 5)).bind fun x16 => (if iL x16 22216 then (some (pW (pW (pW (pW s x8 ((gW s x8) + ((((x10.toInt64 * x11.toInt64) / 10000).toInt32) + (nI 0)))) (nI 2652) ((gW (pW s x8 ((gW s x8) + ((((x10.toInt64 * x11.toInt64) / 10000).toInt32) + (nI 0)))) (nI 2652)) - (mni (gW (pW s x8 ((gW s x8) + ((((x10.toInt64 * x11.toInt64) / 10000).toInt32) + (nI 0)))) (nI 2652)) x13))) x14 ((gW (pW (pW s x8 ((gW s x8) + ((((x10.toInt64 * x11.toInt64) / 10000).toInt32) + (nI 0)))) (nI 2652) ((gW (pW s x8 ((gW s x8) + ((((x10.toInt64 * x11.toInt64) / 10000).toInt32) + (nI 0)))) (nI 2652)) - (mni (gW (pW s x8 ((gW s x8) + ((((x10.toInt64 * x11.toInt64) / 10000).toInt32) + (nI 0)))) (nI 2652)) x13))) x14) - (mni (gW (pW s x8 ((gW s x8) + ((((x10.toInt64 * x11.toInt64) / 10000).toInt32) + (nI 0)))) (nI 2652)) x13))) x16 ((gW (pW (pW (pW s x8 ((gW s x8) + ((((x10.toInt64 * x11.toInt64) / 10000).toInt32) + (nI 0)))) (nI 2652) ((gW (pW s x8 ((gW s x8) + ((((x10.toInt64 * x11.toInt64) / 10000).toInt32) + (nI 0)))) (nI 2652)) - (mni (gW (pW s x8 ((gW s x8) + ((((x10.toInt64 * x11.toInt64) / 10000).toInt32) + (nI 0)))) (nI 2652)) x13))) x14 ((gW (pW (pW s x8 ((gW s x8) + ((((x10.toInt64 * x11.toInt64) / 10000).toInt32) + (nI 0)))) (nI 2652) ((gW (pW s x8 ((gW s x8) + ((((x10.toInt64 * x11.toInt64) / 10000).toInt32) + (nI 0)))) (nI 2652)) - (mni (gW (pW s x8 ((gW s x8) + ((((x10.toInt64 * x11.toInt64) / 10000).toInt32) + (nI 0)))) (nI 2652)) x13))) x14) - (mni (gW (pW s x8 ((gW s x8) + ((((x10.toInt64 * x11.toInt64) / 10000).toInt32) + (nI 0)))) (nI 2652)) x13))) x16) + (mni (gW (pW s x8 ((gW s x8) + ((((x10.toInt64 * x11.toInt64) / 10000).toInt32) + (nI 0)))) (nI 2652)) x13)))) else none)) else none)))))) else none)))
set_option maxHeartbeats 4000000 in
theorem t_X12_paysBond {Γ : jg_G} {g : Nat → jg_C} {n r : Nat} (hr : r + 11 ≤ n) (s : rs_S) (a1 : Int32) (a2 : Int32)  {x : rs_S} (h : o_X12_paysBond s a1 a2 = some x) : jc Γ mX12_paysBond 2 0 0 [some (.ref r), some (.int a1), some (.int a2), none, none] (rs_h g r s, n) (.inl none) (rs_h g r x, n) := by
  refine jc_of ?_
  rw [o_X12_paysBond] at h
  refine jg_aload_n dX12_paysBond_0 rfl ?_
  refine jg_iload_n dX12_paysBond_1 rfl ?_
  refine jg_iconst (v := nI 3) dX12_paysBond_2 (by decide) ?_
  obtain ⟨x1, e_x1, h⟩ := bd_some h
  refine rs_call (As := [.int a1, .int (nI 3)]) kv_X12_391 dX12_paysBond_3 hr rfl rfl (by decide) (Nat.le_of_ble_eq_true rfl) rfl (by decide) (Nat.le_of_ble_eq_true rfl) (t_X12_bondOf hr s a1 (nI 3) e_x1) ?_
  refine jg_istore_n (L' := [some (.ref r), some (.int a1), some (.int a2), some (.int x1), none]) dX12_paysBond_6 (by decide) rfl ?_
  refine jg_iload_n dX12_paysBond_7 rfl ?_
  refine jg_iload_n dX12_paysBond_8 rfl ?_
  refine jg_icmp_lt (x := x1) (y := a2) (tgt := 61) dX12_paysBond_9 (by decide) (fun c2 => ?_) (fun c2 => ?_)
  · replace h := it_t c2 h
    refine jg_aload_n dX12_paysBond_61 rfl ?_
    refine rs_ga fl_X12_13 dX12_paysBond_62 hr rfl ?_
    refine jg_sipush (v := nI 2652) dX12_paysBond_65 (by decide) ?_
    refine rs_lwD (s := s) (i := (nI 2652)) dX12_paysBond_68 hr (by decide) ?_
    refine jg_aload_n dX12_paysBond_69 rfl ?_
    refine jg_iload_n dX12_paysBond_70 rfl ?_
    refine jg_iconst (v := nI 4) dX12_paysBond_71 (by decide) ?_
    obtain ⟨x3, e_x3, h⟩ := bd_some h
    refine rs_call (As := [.int a1, .int (nI 4)]) kv_X12_391 dX12_paysBond_72 hr rfl rfl (by decide) (Nat.le_of_ble_eq_true rfl) rfl (by decide) (Nat.le_of_ble_eq_true rfl) (t_X12_bondOf hr s a1 (nI 4) e_x3) ?_
    refine jg_mmin (x := (gW s (nI 2652))) (y := x3) km_X12_91 jw_min.1 jw_min.2 dX12_paysBond_75 (by decide) (Nat.le_of_ble_eq_true rfl) ?_
    refine jg_istore (L' := [some (.ref r), some (.int a1), some (.int a2), some (.int x1), some (.int (mni (gW s (nI 2652)) x3))]) dX12_paysBond_78 (by decide) rfl ?_
    refine jg_aload_n dX12_paysBond_80 rfl ?_
    refine rs_ga fl_X12_13 dX12_paysBond_81 hr rfl ?_
    refine jg_sipush (v := nI 2652) dX12_paysBond_84 (by decide) ?_
    refine jg_dup2 dX12_paysBond_87 rfl rfl ?_
    refine rs_lwD (s := s) (i := (nI 2652)) dX12_paysBond_88 hr (by decide) ?_
    refine jg_iload dX12_paysBond_89 rfl ?_
    refine jg_isub (x := (gW s (nI 2652))) (y := (mni (gW s (nI 2652)) x3)) dX12_paysBond_91  ?_
    refine rs_swD (s := s) (i := (nI 2652)) (x := ((gW s (nI 2652)) - (mni (gW s (nI 2652)) x3))) dX12_paysBond_92 hr (by decide) ?_
    refine jg_aload_n dX12_paysBond_93 rfl ?_
    refine rs_ga fl_X12_13 dX12_paysBond_94 hr rfl ?_
    refine jg_iload_n dX12_paysBond_97 rfl ?_
    refine jg_iconst (v := nI 4) dX12_paysBond_98 (by decide) ?_
    obtain ⟨x4, e_x4, h⟩ := bd_some h
    refine rs_callS (As := [.int a1, .int (nI 4)]) ks_X12_388 dX12_paysBond_99 rfl (by decide) (Nat.le_of_ble_eq_true rfl) rfl (by decide) (Nat.le_of_ble_eq_true rfl) (t_X12_bondAt hr (pW s (nI 2652) ((gW s (nI 2652)) - (mni (gW s (nI 2652)) x3))) a1 (nI 4) e_x4) ?_
    refine jg_dup2 dX12_paysBond_102 rfl rfl ?_
    obtain ⟨q5, h⟩ := gd_some h
    refine rs_lwD (s := (pW s (nI 2652) ((gW s (nI 2652)) - (mni (gW s (nI 2652)) x3)))) (i := x4) dX12_paysBond_103 hr q5 ?_
    refine jg_iload dX12_paysBond_104 rfl ?_
    refine jg_isub (x := (gW (pW s (nI 2652) ((gW s (nI 2652)) - (mni (gW s (nI 2652)) x3))) x4)) (y := (mni (gW s (nI 2652)) x3)) dX12_paysBond_106  ?_
    refine rs_swD (s := (pW s (nI 2652) ((gW s (nI 2652)) - (mni (gW s (nI 2652)) x3)))) (i := x4) (x := ((gW (pW s (nI 2652) ((gW s (nI 2652)) - (mni (gW s (nI 2652)) x3))) x4) - (mni (gW s (nI 2652)) x3))) dX12_paysBond_107 hr q5 ?_
    refine jg_aload_n dX12_paysBond_108 rfl ?_
    refine rs_ga fl_X12_13 dX12_paysBond_109 hr rfl ?_
    refine jg_iload_n dX12_paysBond_112 rfl ?_
    refine jg_iconst (v := nI 5) dX12_paysBond_113 (by decide) ?_
    obtain ⟨x6, e_x6, h⟩ := bd_some h
    refine rs_callS (As := [.int a1, .int (nI 5)]) ks_X12_388 dX12_paysBond_114 rfl (by decide) (Nat.le_of_ble_eq_true rfl) rfl (by decide) (Nat.le_of_ble_eq_true rfl) (t_X12_bondAt hr (pW (pW s (nI 2652) ((gW s (nI 2652)) - (mni (gW s (nI 2652)) x3))) x4 ((gW (pW s (nI 2652) ((gW s (nI 2652)) - (mni (gW s (nI 2652)) x3))) x4) - (mni (gW s (nI 2652)) x3))) a1 (nI 5) e_x6) ?_
    refine jg_dup2 dX12_paysBond_117 rfl rfl ?_
    obtain ⟨q7, h⟩ := gd_some h
    refine rs_lwD (s := (pW (pW s (nI 2652) ((gW s (nI 2652)) - (mni (gW s (nI 2652)) x3))) x4 ((gW (pW s (nI 2652) ((gW s (nI 2652)) - (mni (gW s (nI 2652)) x3))) x4) - (mni (gW s (nI 2652)) x3)))) (i := x6) dX12_paysBond_118 hr q7 ?_
    refine jg_iload dX12_paysBond_119 rfl ?_
    refine jg_iadd (x := (gW (pW (pW s (nI 2652) ((gW s (nI 2652)) - (mni (gW s (nI 2652)) x3))) x4 ((gW (pW s (nI 2652) ((gW s (nI 2652)) - (mni (gW s (nI 2652)) x3))) x4) - (mni (gW s (nI 2652)) x3))) x6)) (y := (mni (gW s (nI 2652)) x3)) dX12_paysBond_121  ?_
    refine rs_swD (s := (pW (pW s (nI 2652) ((gW s (nI 2652)) - (mni (gW s (nI 2652)) x3))) x4 ((gW (pW s (nI 2652) ((gW s (nI 2652)) - (mni (gW s (nI 2652)) x3))) x4) - (mni (gW s (nI 2652)) x3)))) (i := x6) (x := ((gW (pW (pW s (nI 2652) ((gW s (nI 2652)) - (mni (gW s (nI 2652)) x3))) x4 ((gW (pW s (nI 2652) ((gW s (nI 2652)) - (mni (gW s (nI 2652)) x3))) x4) - (mni (gW s (nI 2652)) x3))) x6) + (mni (gW s (nI 2652)) x3))) dX12_paysBond_122 hr q7 ?_
    obtain rfl := Option.some.inj h
    exact jg_return dX12_paysBond_123 rfl ⟨rfl, rfl⟩
  · replace h := it_f c2 h
    refine jg_aload_n dX12_paysBond_12 rfl ?_
    refine rs_ga fl_X12_13 dX12_paysBond_13 hr rfl ?_
    refine jg_iload_n dX12_paysBond_16 rfl ?_
    refine jg_iconst (v := nI 4) dX12_paysBond_17 (by decide) ?_
    obtain ⟨x8, e_x8, h⟩ := bd_some h
    refine rs_callS (As := [.int a1, .int (nI 4)]) ks_X12_388 dX12_paysBond_18 rfl (by decide) (Nat.le_of_ble_eq_true rfl) rfl (by decide) (Nat.le_of_ble_eq_true rfl) (t_X12_bondAt hr s a1 (nI 4) e_x8) ?_
    refine jg_dup2 dX12_paysBond_21 rfl rfl ?_
    obtain ⟨q9, h⟩ := gd_some h
    refine rs_lwD (s := s) (i := x8) dX12_paysBond_22 hr q9 ?_
    refine jg_aload_n dX12_paysBond_23 rfl ?_
    refine jg_iload_n dX12_paysBond_24 rfl ?_
    refine jg_iconst (v := nI 0) dX12_paysBond_25 (by decide) ?_
    obtain ⟨x10, e_x10, h⟩ := bd_some h
    refine rs_call (As := [.int a1, .int (nI 0)]) kv_X12_391 dX12_paysBond_26 hr rfl rfl (by decide) (Nat.le_of_ble_eq_true rfl) rfl (by decide) (Nat.le_of_ble_eq_true rfl) (t_X12_bondOf hr s a1 (nI 0) e_x10) ?_
    refine jg_i2l dX12_paysBond_29 ?_
    refine jg_aload_n dX12_paysBond_30 rfl ?_
    refine jg_iload_n dX12_paysBond_31 rfl ?_
    refine jg_iconst (v := nI 1) dX12_paysBond_32 (by decide) ?_
    obtain ⟨x11, e_x11, h⟩ := bd_some h
    refine rs_call (As := [.int a1, .int (nI 1)]) kv_X12_391 dX12_paysBond_33 hr rfl rfl (by decide) (Nat.le_of_ble_eq_true rfl) rfl (by decide) (Nat.le_of_ble_eq_true rfl) (t_X12_bondOf hr s a1 (nI 1) e_x11) ?_
    refine jg_i2l dX12_paysBond_36 ?_
    refine jg_lmul dX12_paysBond_37 ?_
    refine jg_ldc2 kk_X12_400 dX12_paysBond_38 ?_
    refine jg_ldiv dX12_paysBond_41 (by decide) ?_
    refine jg_l2i dX12_paysBond_42 ?_
    refine jg_iload_n dX12_paysBond_43 rfl ?_
    refine jg_iload_n dX12_paysBond_44 rfl ?_
    refine jg_icmp_ne (x := x1) (y := a2) (tgt := 57) dX12_paysBond_45 (by decide) (fun c12 => ?_) (fun c12 => ?_)
    · replace h := it_f c12 h
      refine jg_iconst (v := nI 0) dX12_paysBond_57 (by decide) ?_
      refine jg_iadd (x := (((x10.toInt64 * x11.toInt64) / 10000).toInt32)) (y := (nI 0)) dX12_paysBond_58  ?_
      refine jg_iadd (x := (gW s x8)) (y := ((((x10.toInt64 * x11.toInt64) / 10000).toInt32) + (nI 0))) dX12_paysBond_59  ?_
      refine rs_swD (s := s) (i := x8) (x := ((gW s x8) + ((((x10.toInt64 * x11.toInt64) / 10000).toInt32) + (nI 0)))) dX12_paysBond_60 hr q9 ?_
      refine jg_aload_n dX12_paysBond_61 rfl ?_
      refine rs_ga fl_X12_13 dX12_paysBond_62 hr rfl ?_
      refine jg_sipush (v := nI 2652) dX12_paysBond_65 (by decide) ?_
      refine rs_lwD (s := (pW s x8 ((gW s x8) + ((((x10.toInt64 * x11.toInt64) / 10000).toInt32) + (nI 0))))) (i := (nI 2652)) dX12_paysBond_68 hr (by decide) ?_
      refine jg_aload_n dX12_paysBond_69 rfl ?_
      refine jg_iload_n dX12_paysBond_70 rfl ?_
      refine jg_iconst (v := nI 4) dX12_paysBond_71 (by decide) ?_
      obtain ⟨x13, e_x13, h⟩ := bd_some h
      refine rs_call (As := [.int a1, .int (nI 4)]) kv_X12_391 dX12_paysBond_72 hr rfl rfl (by decide) (Nat.le_of_ble_eq_true rfl) rfl (by decide) (Nat.le_of_ble_eq_true rfl) (t_X12_bondOf hr (pW s x8 ((gW s x8) + ((((x10.toInt64 * x11.toInt64) / 10000).toInt32) + (nI 0)))) a1 (nI 4) e_x13) ?_
      refine jg_mmin (x := (gW (pW s x8 ((gW s x8) + ((((x10.toInt64 * x11.toInt64) / 10000).toInt32) + (nI 0)))) (nI 2652))) (y := x13) km_X12_91 jw_min.1 jw_min.2 dX12_paysBond_75 (by decide) (Nat.le_of_ble_eq_true rfl) ?_
      refine jg_istore (L' := [some (.ref r), some (.int a1), some (.int a2), some (.int x1), some (.int (mni (gW (pW s x8 ((gW s x8) + ((((x10.toInt64 * x11.toInt64) / 10000).toInt32) + (nI 0)))) (nI 2652)) x13))]) dX12_paysBond_78 (by decide) rfl ?_
      refine jg_aload_n dX12_paysBond_80 rfl ?_
      refine rs_ga fl_X12_13 dX12_paysBond_81 hr rfl ?_
      refine jg_sipush (v := nI 2652) dX12_paysBond_84 (by decide) ?_
      refine jg_dup2 dX12_paysBond_87 rfl rfl ?_
      refine rs_lwD (s := (pW s x8 ((gW s x8) + ((((x10.toInt64 * x11.toInt64) / 10000).toInt32) + (nI 0))))) (i := (nI 2652)) dX12_paysBond_88 hr (by decide) ?_
      refine jg_iload dX12_paysBond_89 rfl ?_
      refine jg_isub (x := (gW (pW s x8 ((gW s x8) + ((((x10.toInt64 * x11.toInt64) / 10000).toInt32) + (nI 0)))) (nI 2652))) (y := (mni (gW (pW s x8 ((gW s x8) + ((((x10.toInt64 * x11.toInt64) / 10000).toInt32) + (nI 0)))) (nI 2652)) x13)) dX12_paysBond_91  ?_
      refine rs_swD (s := (pW s x8 ((gW s x8) + ((((x10.toInt64 * x11.toInt64) / 10000).toInt32) + (nI 0))))) (i := (nI 2652)) (x := ((gW (pW s x8 ((gW s x8) + ((((x10.toInt64 * x11.toInt64) / 10000).toInt32) + (nI 0)))) (nI 2652)) - (mni (gW (pW s x8 ((gW s x8) + ((((x10.toInt64 * x11.toInt64) / 10000).toInt32) + (nI 0)))) (nI 2652)) x13))) dX12_paysBond_92 hr (by decide) ?_
      refine jg_aload_n dX12_paysBond_93 rfl ?_
      refine rs_ga fl_X12_13 dX12_paysBond_94 hr rfl ?_
      refine jg_iload_n dX12_paysBond_97 rfl ?_
      refine jg_iconst (v := nI 4) dX12_paysBond_98 (by decide) ?_
      obtain ⟨x14, e_x14, h⟩ := bd_some h
      refine rs_callS (As := [.int a1, .int (nI 4)]) ks_X12_388 dX12_paysBond_99 rfl (by decide) (Nat.le_of_ble_eq_true rfl) rfl (by decide) (Nat.le_of_ble_eq_true rfl) (t_X12_bondAt hr (pW (pW s x8 ((gW s x8) + ((((x10.toInt64 * x11.toInt64) / 10000).toInt32) + (nI 0)))) (nI 2652) ((gW (pW s x8 ((gW s x8) + ((((x10.toInt64 * x11.toInt64) / 10000).toInt32) + (nI 0)))) (nI 2652)) - (mni (gW (pW s x8 ((gW s x8) + ((((x10.toInt64 * x11.toInt64) / 10000).toInt32) + (nI 0)))) (nI 2652)) x13))) a1 (nI 4) e_x14) ?_
      refine jg_dup2 dX12_paysBond_102 rfl rfl ?_
      obtain ⟨q15, h⟩ := gd_some h
      refine rs_lwD (s := (pW (pW s x8 ((gW s x8) + ((((x10.toInt64 * x11.toInt64) / 10000).toInt32) + (nI 0)))) (nI 2652) ((gW (pW s x8 ((gW s x8) + ((((x10.toInt64 * x11.toInt64) / 10000).toInt32) + (nI 0)))) (nI 2652)) - (mni (gW (pW s x8 ((gW s x8) + ((((x10.toInt64 * x11.toInt64) / 10000).toInt32) + (nI 0)))) (nI 2652)) x13)))) (i := x14) dX12_paysBond_103 hr q15 ?_
      refine jg_iload dX12_paysBond_104 rfl ?_
      refine jg_isub (x := (gW (pW (pW s x8 ((gW s x8) + ((((x10.toInt64 * x11.toInt64) / 10000).toInt32) + (nI 0)))) (nI 2652) ((gW (pW s x8 ((gW s x8) + ((((x10.toInt64 * x11.toInt64) / 10000).toInt32) + (nI 0)))) (nI 2652)) - (mni (gW (pW s x8 ((gW s x8) + ((((x10.toInt64 * x11.toInt64) / 10000).toInt32) + (nI 0)))) (nI 2652)) x13))) x14)) (y := (mni (gW (pW s x8 ((gW s x8) + ((((x10.toInt64 * x11.toInt64) / 10000).toInt32) + (nI 0)))) (nI 2652)) x13)) dX12_paysBond_106  ?_
      refine rs_swD (s := (pW (pW s x8 ((gW s x8) + ((((x10.toInt64 * x11.toInt64) / 10000).toInt32) + (nI 0)))) (nI 2652) ((gW (pW s x8 ((gW s x8) + ((((x10.toInt64 * x11.toInt64) / 10000).toInt32) + (nI 0)))) (nI 2652)) - (mni (gW (pW s x8 ((gW s x8) + ((((x10.toInt64 * x11.toInt64) / 10000).toInt32) + (nI 0)))) (nI 2652)) x13)))) (i := x14) (x := ((gW (pW (pW s x8 ((gW s x8) + ((((x10.toInt64 * x11.toInt64) / 10000).toInt32) + (nI 0)))) (nI 2652) ((gW (pW s x8 ((gW s x8) + ((((x10.toInt64 * x11.toInt64) / 10000).toInt32) + (nI 0)))) (nI 2652)) - (mni (gW (pW s x8 ((gW s x8) + ((((x10.toInt64 * x11.toInt64) / 10000).toInt32) + (nI 0)))) (nI 2652)) x13))) x14) - (mni (gW (pW s x8 ((gW s x8) + ((((x10.toInt64 * x11.toInt64) / 10000).toInt32) + (nI 0)))) (nI 2652)) x13))) dX12_paysBond_107 hr q15 ?_
      refine jg_aload_n dX12_paysBond_108 rfl ?_
      refine rs_ga fl_X12_13 dX12_paysBond_109 hr rfl ?_
      refine jg_iload_n dX12_paysBond_112 rfl ?_
      refine jg_iconst (v := nI 5) dX12_paysBond_113 (by decide) ?_
      obtain ⟨x16, e_x16, h⟩ := bd_some h
      refine rs_callS (As := [.int a1, .int (nI 5)]) ks_X12_388 dX12_paysBond_114 rfl (by decide) (Nat.le_of_ble_eq_true rfl) rfl (by decide) (Nat.le_of_ble_eq_true rfl) (t_X12_bondAt hr (pW (pW (pW s x8 ((gW s x8) + ((((x10.toInt64 * x11.toInt64) / 10000).toInt32) + (nI 0)))) (nI 2652) ((gW (pW s x8 ((gW s x8) + ((((x10.toInt64 * x11.toInt64) / 10000).toInt32) + (nI 0)))) (nI 2652)) - (mni (gW (pW s x8 ((gW s x8) + ((((x10.toInt64 * x11.toInt64) / 10000).toInt32) + (nI 0)))) (nI 2652)) x13))) x14 ((gW (pW (pW s x8 ((gW s x8) + ((((x10.toInt64 * x11.toInt64) / 10000).toInt32) + (nI 0)))) (nI 2652) ((gW (pW s x8 ((gW s x8) + ((((x10.toInt64 * x11.toInt64) / 10000).toInt32) + (nI 0)))) (nI 2652)) - (mni (gW (pW s x8 ((gW s x8) + ((((x10.toInt64 * x11.toInt64) / 10000).toInt32) + (nI 0)))) (nI 2652)) x13))) x14) - (mni (gW (pW s x8 ((gW s x8) + ((((x10.toInt64 * x11.toInt64) / 10000).toInt32) + (nI 0)))) (nI 2652)) x13))) a1 (nI 5) e_x16) ?_
      refine jg_dup2 dX12_paysBond_117 rfl rfl ?_
      obtain ⟨q17, h⟩ := gd_some h
      refine rs_lwD (s := (pW (pW (pW s x8 ((gW s x8) + ((((x10.toInt64 * x11.toInt64) / 10000).toInt32) + (nI 0)))) (nI 2652) ((gW (pW s x8 ((gW s x8) + ((((x10.toInt64 * x11.toInt64) / 10000).toInt32) + (nI 0)))) (nI 2652)) - (mni (gW (pW s x8 ((gW s x8) + ((((x10.toInt64 * x11.toInt64) / 10000).toInt32) + (nI 0)))) (nI 2652)) x13))) x14 ((gW (pW (pW s x8 ((gW s x8) + ((((x10.toInt64 * x11.toInt64) / 10000).toInt32) + (nI 0)))) (nI 2652) ((gW (pW s x8 ((gW s x8) + ((((x10.toInt64 * x11.toInt64) / 10000).toInt32) + (nI 0)))) (nI 2652)) - (mni (gW (pW s x8 ((gW s x8) + ((((x10.toInt64 * x11.toInt64) / 10000).toInt32) + (nI 0)))) (nI 2652)) x13))) x14) - (mni (gW (pW s x8 ((gW s x8) + ((((x10.toInt64 * x11.toInt64) / 10000).toInt32) + (nI 0)))) (nI 2652)) x13)))) (i := x16) dX12_paysBond_118 hr q17 ?_
      refine jg_iload dX12_paysBond_119 rfl ?_
      refine jg_iadd (x := (gW (pW (pW (pW s x8 ((gW s x8) + ((((x10.toInt64 * x11.toInt64) / 10000).toInt32) + (nI 0)))) (nI 2652) ((gW (pW s x8 ((gW s x8) + ((((x10.toInt64 * x11.toInt64) / 10000).toInt32) + (nI 0)))) (nI 2652)) - (mni (gW (pW s x8 ((gW s x8) + ((((x10.toInt64 * x11.toInt64) / 10000).toInt32) + (nI 0)))) (nI 2652)) x13))) x14 ((gW (pW (pW s x8 ((gW s x8) + ((((x10.toInt64 * x11.toInt64) / 10000).toInt32) + (nI 0)))) (nI 2652) ((gW (pW s x8 ((gW s x8) + ((((x10.toInt64 * x11.toInt64) / 10000).toInt32) + (nI 0)))) (nI 2652)) - (mni (gW (pW s x8 ((gW s x8) + ((((x10.toInt64 * x11.toInt64) / 10000).toInt32) + (nI 0)))) (nI 2652)) x13))) x14) - (mni (gW (pW s x8 ((gW s x8) + ((((x10.toInt64 * x11.toInt64) / 10000).toInt32) + (nI 0)))) (nI 2652)) x13))) x16)) (y := (mni (gW (pW s x8 ((gW s x8) + ((((x10.toInt64 * x11.toInt64) / 10000).toInt32) + (nI 0)))) (nI 2652)) x13)) dX12_paysBond_121  ?_
      refine rs_swD (s := (pW (pW (pW s x8 ((gW s x8) + ((((x10.toInt64 * x11.toInt64) / 10000).toInt32) + (nI 0)))) (nI 2652) ((gW (pW s x8 ((gW s x8) + ((((x10.toInt64 * x11.toInt64) / 10000).toInt32) + (nI 0)))) (nI 2652)) - (mni (gW (pW s x8 ((gW s x8) + ((((x10.toInt64 * x11.toInt64) / 10000).toInt32) + (nI 0)))) (nI 2652)) x13))) x14 ((gW (pW (pW s x8 ((gW s x8) + ((((x10.toInt64 * x11.toInt64) / 10000).toInt32) + (nI 0)))) (nI 2652) ((gW (pW s x8 ((gW s x8) + ((((x10.toInt64 * x11.toInt64) / 10000).toInt32) + (nI 0)))) (nI 2652)) - (mni (gW (pW s x8 ((gW s x8) + ((((x10.toInt64 * x11.toInt64) / 10000).toInt32) + (nI 0)))) (nI 2652)) x13))) x14) - (mni (gW (pW s x8 ((gW s x8) + ((((x10.toInt64 * x11.toInt64) / 10000).toInt32) + (nI 0)))) (nI 2652)) x13)))) (i := x16) (x := ((gW (pW (pW (pW s x8 ((gW s x8) + ((((x10.toInt64 * x11.toInt64) / 10000).toInt32) + (nI 0)))) (nI 2652) ((gW (pW s x8 ((gW s x8) + ((((x10.toInt64 * x11.toInt64) / 10000).toInt32) + (nI 0)))) (nI 2652)) - (mni (gW (pW s x8 ((gW s x8) + ((((x10.toInt64 * x11.toInt64) / 10000).toInt32) + (nI 0)))) (nI 2652)) x13))) x14 ((gW (pW (pW s x8 ((gW s x8) + ((((x10.toInt64 * x11.toInt64) / 10000).toInt32) + (nI 0)))) (nI 2652) ((gW (pW s x8 ((gW s x8) + ((((x10.toInt64 * x11.toInt64) / 10000).toInt32) + (nI 0)))) (nI 2652)) - (mni (gW (pW s x8 ((gW s x8) + ((((x10.toInt64 * x11.toInt64) / 10000).toInt32) + (nI 0)))) (nI 2652)) x13))) x14) - (mni (gW (pW s x8 ((gW s x8) + ((((x10.toInt64 * x11.toInt64) / 10000).toInt32) + (nI 0)))) (nI 2652)) x13))) x16) + (mni (gW (pW s x8 ((gW s x8) + ((((x10.toInt64 * x11.toInt64) / 10000).toInt32) + (nI 0)))) (nI 2652)) x13))) dX12_paysBond_122 hr q17 ?_
      obtain rfl := Option.some.inj h
      exact jg_return dX12_paysBond_123 rfl ⟨rfl, rfl⟩
    · replace h := it_t c12 h
      refine jg_aload_n dX12_paysBond_48 rfl ?_
      refine jg_iload_n dX12_paysBond_49 rfl ?_
      refine jg_iconst (v := nI 0) dX12_paysBond_50 (by decide) ?_
      obtain ⟨x18, e_x18, h⟩ := bd_some h
      refine rs_call (As := [.int a1, .int (nI 0)]) kv_X12_391 dX12_paysBond_51 hr rfl rfl (by decide) (Nat.le_of_ble_eq_true rfl) rfl (by decide) (Nat.le_of_ble_eq_true rfl) (t_X12_bondOf hr s a1 (nI 0) e_x18) ?_
      refine jg_goto (tgt := 58) dX12_paysBond_54 (by decide) ?_
      refine jg_iadd (x := (((x10.toInt64 * x11.toInt64) / 10000).toInt32)) (y := x18) dX12_paysBond_58  ?_
      refine jg_iadd (x := (gW s x8)) (y := ((((x10.toInt64 * x11.toInt64) / 10000).toInt32) + x18)) dX12_paysBond_59  ?_
      refine rs_swD (s := s) (i := x8) (x := ((gW s x8) + ((((x10.toInt64 * x11.toInt64) / 10000).toInt32) + x18))) dX12_paysBond_60 hr q9 ?_
      refine jg_aload_n dX12_paysBond_61 rfl ?_
      refine rs_ga fl_X12_13 dX12_paysBond_62 hr rfl ?_
      refine jg_sipush (v := nI 2652) dX12_paysBond_65 (by decide) ?_
      refine rs_lwD (s := (pW s x8 ((gW s x8) + ((((x10.toInt64 * x11.toInt64) / 10000).toInt32) + x18)))) (i := (nI 2652)) dX12_paysBond_68 hr (by decide) ?_
      refine jg_aload_n dX12_paysBond_69 rfl ?_
      refine jg_iload_n dX12_paysBond_70 rfl ?_
      refine jg_iconst (v := nI 4) dX12_paysBond_71 (by decide) ?_
      obtain ⟨x19, e_x19, h⟩ := bd_some h
      refine rs_call (As := [.int a1, .int (nI 4)]) kv_X12_391 dX12_paysBond_72 hr rfl rfl (by decide) (Nat.le_of_ble_eq_true rfl) rfl (by decide) (Nat.le_of_ble_eq_true rfl) (t_X12_bondOf hr (pW s x8 ((gW s x8) + ((((x10.toInt64 * x11.toInt64) / 10000).toInt32) + x18))) a1 (nI 4) e_x19) ?_
      refine jg_mmin (x := (gW (pW s x8 ((gW s x8) + ((((x10.toInt64 * x11.toInt64) / 10000).toInt32) + x18))) (nI 2652))) (y := x19) km_X12_91 jw_min.1 jw_min.2 dX12_paysBond_75 (by decide) (Nat.le_of_ble_eq_true rfl) ?_
      refine jg_istore (L' := [some (.ref r), some (.int a1), some (.int a2), some (.int x1), some (.int (mni (gW (pW s x8 ((gW s x8) + ((((x10.toInt64 * x11.toInt64) / 10000).toInt32) + x18))) (nI 2652)) x19))]) dX12_paysBond_78 (by decide) rfl ?_
      refine jg_aload_n dX12_paysBond_80 rfl ?_
      refine rs_ga fl_X12_13 dX12_paysBond_81 hr rfl ?_
      refine jg_sipush (v := nI 2652) dX12_paysBond_84 (by decide) ?_
      refine jg_dup2 dX12_paysBond_87 rfl rfl ?_
      refine rs_lwD (s := (pW s x8 ((gW s x8) + ((((x10.toInt64 * x11.toInt64) / 10000).toInt32) + x18)))) (i := (nI 2652)) dX12_paysBond_88 hr (by decide) ?_
      refine jg_iload dX12_paysBond_89 rfl ?_
      refine jg_isub (x := (gW (pW s x8 ((gW s x8) + ((((x10.toInt64 * x11.toInt64) / 10000).toInt32) + x18))) (nI 2652))) (y := (mni (gW (pW s x8 ((gW s x8) + ((((x10.toInt64 * x11.toInt64) / 10000).toInt32) + x18))) (nI 2652)) x19)) dX12_paysBond_91  ?_
      refine rs_swD (s := (pW s x8 ((gW s x8) + ((((x10.toInt64 * x11.toInt64) / 10000).toInt32) + x18)))) (i := (nI 2652)) (x := ((gW (pW s x8 ((gW s x8) + ((((x10.toInt64 * x11.toInt64) / 10000).toInt32) + x18))) (nI 2652)) - (mni (gW (pW s x8 ((gW s x8) + ((((x10.toInt64 * x11.toInt64) / 10000).toInt32) + x18))) (nI 2652)) x19))) dX12_paysBond_92 hr (by decide) ?_
      refine jg_aload_n dX12_paysBond_93 rfl ?_
      refine rs_ga fl_X12_13 dX12_paysBond_94 hr rfl ?_
      refine jg_iload_n dX12_paysBond_97 rfl ?_
      refine jg_iconst (v := nI 4) dX12_paysBond_98 (by decide) ?_
      obtain ⟨x20, e_x20, h⟩ := bd_some h
      refine rs_callS (As := [.int a1, .int (nI 4)]) ks_X12_388 dX12_paysBond_99 rfl (by decide) (Nat.le_of_ble_eq_true rfl) rfl (by decide) (Nat.le_of_ble_eq_true rfl) (t_X12_bondAt hr (pW (pW s x8 ((gW s x8) + ((((x10.toInt64 * x11.toInt64) / 10000).toInt32) + x18))) (nI 2652) ((gW (pW s x8 ((gW s x8) + ((((x10.toInt64 * x11.toInt64) / 10000).toInt32) + x18))) (nI 2652)) - (mni (gW (pW s x8 ((gW s x8) + ((((x10.toInt64 * x11.toInt64) / 10000).toInt32) + x18))) (nI 2652)) x19))) a1 (nI 4) e_x20) ?_
      refine jg_dup2 dX12_paysBond_102 rfl rfl ?_
      obtain ⟨q21, h⟩ := gd_some h
      refine rs_lwD (s := (pW (pW s x8 ((gW s x8) + ((((x10.toInt64 * x11.toInt64) / 10000).toInt32) + x18))) (nI 2652) ((gW (pW s x8 ((gW s x8) + ((((x10.toInt64 * x11.toInt64) / 10000).toInt32) + x18))) (nI 2652)) - (mni (gW (pW s x8 ((gW s x8) + ((((x10.toInt64 * x11.toInt64) / 10000).toInt32) + x18))) (nI 2652)) x19)))) (i := x20) dX12_paysBond_103 hr q21 ?_
      refine jg_iload dX12_paysBond_104 rfl ?_
      refine jg_isub (x := (gW (pW (pW s x8 ((gW s x8) + ((((x10.toInt64 * x11.toInt64) / 10000).toInt32) + x18))) (nI 2652) ((gW (pW s x8 ((gW s x8) + ((((x10.toInt64 * x11.toInt64) / 10000).toInt32) + x18))) (nI 2652)) - (mni (gW (pW s x8 ((gW s x8) + ((((x10.toInt64 * x11.toInt64) / 10000).toInt32) + x18))) (nI 2652)) x19))) x20)) (y := (mni (gW (pW s x8 ((gW s x8) + ((((x10.toInt64 * x11.toInt64) / 10000).toInt32) + x18))) (nI 2652)) x19)) dX12_paysBond_106  ?_
      refine rs_swD (s := (pW (pW s x8 ((gW s x8) + ((((x10.toInt64 * x11.toInt64) / 10000).toInt32) + x18))) (nI 2652) ((gW (pW s x8 ((gW s x8) + ((((x10.toInt64 * x11.toInt64) / 10000).toInt32) + x18))) (nI 2652)) - (mni (gW (pW s x8 ((gW s x8) + ((((x10.toInt64 * x11.toInt64) / 10000).toInt32) + x18))) (nI 2652)) x19)))) (i := x20) (x := ((gW (pW (pW s x8 ((gW s x8) + ((((x10.toInt64 * x11.toInt64) / 10000).toInt32) + x18))) (nI 2652) ((gW (pW s x8 ((gW s x8) + ((((x10.toInt64 * x11.toInt64) / 10000).toInt32) + x18))) (nI 2652)) - (mni (gW (pW s x8 ((gW s x8) + ((((x10.toInt64 * x11.toInt64) / 10000).toInt32) + x18))) (nI 2652)) x19))) x20) - (mni (gW (pW s x8 ((gW s x8) + ((((x10.toInt64 * x11.toInt64) / 10000).toInt32) + x18))) (nI 2652)) x19))) dX12_paysBond_107 hr q21 ?_
      refine jg_aload_n dX12_paysBond_108 rfl ?_
      refine rs_ga fl_X12_13 dX12_paysBond_109 hr rfl ?_
      refine jg_iload_n dX12_paysBond_112 rfl ?_
      refine jg_iconst (v := nI 5) dX12_paysBond_113 (by decide) ?_
      obtain ⟨x22, e_x22, h⟩ := bd_some h
      refine rs_callS (As := [.int a1, .int (nI 5)]) ks_X12_388 dX12_paysBond_114 rfl (by decide) (Nat.le_of_ble_eq_true rfl) rfl (by decide) (Nat.le_of_ble_eq_true rfl) (t_X12_bondAt hr (pW (pW (pW s x8 ((gW s x8) + ((((x10.toInt64 * x11.toInt64) / 10000).toInt32) + x18))) (nI 2652) ((gW (pW s x8 ((gW s x8) + ((((x10.toInt64 * x11.toInt64) / 10000).toInt32) + x18))) (nI 2652)) - (mni (gW (pW s x8 ((gW s x8) + ((((x10.toInt64 * x11.toInt64) / 10000).toInt32) + x18))) (nI 2652)) x19))) x20 ((gW (pW (pW s x8 ((gW s x8) + ((((x10.toInt64 * x11.toInt64) / 10000).toInt32) + x18))) (nI 2652) ((gW (pW s x8 ((gW s x8) + ((((x10.toInt64 * x11.toInt64) / 10000).toInt32) + x18))) (nI 2652)) - (mni (gW (pW s x8 ((gW s x8) + ((((x10.toInt64 * x11.toInt64) / 10000).toInt32) + x18))) (nI 2652)) x19))) x20) - (mni (gW (pW s x8 ((gW s x8) + ((((x10.toInt64 * x11.toInt64) / 10000).toInt32) + x18))) (nI 2652)) x19))) a1 (nI 5) e_x22) ?_
      refine jg_dup2 dX12_paysBond_117 rfl rfl ?_
      obtain ⟨q23, h⟩ := gd_some h
      refine rs_lwD (s := (pW (pW (pW s x8 ((gW s x8) + ((((x10.toInt64 * x11.toInt64) / 10000).toInt32) + x18))) (nI 2652) ((gW (pW s x8 ((gW s x8) + ((((x10.toInt64 * x11.toInt64) / 10000).toInt32) + x18))) (nI 2652)) - (mni (gW (pW s x8 ((gW s x8) + ((((x10.toInt64 * x11.toInt64) / 10000).toInt32) + x18))) (nI 2652)) x19))) x20 ((gW (pW (pW s x8 ((gW s x8) + ((((x10.toInt64 * x11.toInt64) / 10000).toInt32) + x18))) (nI 2652) ((gW (pW s x8 ((gW s x8) + ((((x10.toInt64 * x11.toInt64) / 10000).toInt32) + x18))) (nI 2652)) - (mni (gW (pW s x8 ((gW s x8) + ((((x10.toInt64 * x11.toInt64) / 10000).toInt32) + x18))) (nI 2652)) x19))) x20) - (mni (gW (pW s x8 ((gW s x8) + ((((x10.toInt64 * x11.toInt64) / 10000).toInt32) + x18))) (nI 2652)) x19)))) (i := x22) dX12_paysBond_118 hr q23 ?_
      refine jg_iload dX12_paysBond_119 rfl ?_
      refine jg_iadd (x := (gW (pW (pW (pW s x8 ((gW s x8) + ((((x10.toInt64 * x11.toInt64) / 10000).toInt32) + x18))) (nI 2652) ((gW (pW s x8 ((gW s x8) + ((((x10.toInt64 * x11.toInt64) / 10000).toInt32) + x18))) (nI 2652)) - (mni (gW (pW s x8 ((gW s x8) + ((((x10.toInt64 * x11.toInt64) / 10000).toInt32) + x18))) (nI 2652)) x19))) x20 ((gW (pW (pW s x8 ((gW s x8) + ((((x10.toInt64 * x11.toInt64) / 10000).toInt32) + x18))) (nI 2652) ((gW (pW s x8 ((gW s x8) + ((((x10.toInt64 * x11.toInt64) / 10000).toInt32) + x18))) (nI 2652)) - (mni (gW (pW s x8 ((gW s x8) + ((((x10.toInt64 * x11.toInt64) / 10000).toInt32) + x18))) (nI 2652)) x19))) x20) - (mni (gW (pW s x8 ((gW s x8) + ((((x10.toInt64 * x11.toInt64) / 10000).toInt32) + x18))) (nI 2652)) x19))) x22)) (y := (mni (gW (pW s x8 ((gW s x8) + ((((x10.toInt64 * x11.toInt64) / 10000).toInt32) + x18))) (nI 2652)) x19)) dX12_paysBond_121  ?_
      refine rs_swD (s := (pW (pW (pW s x8 ((gW s x8) + ((((x10.toInt64 * x11.toInt64) / 10000).toInt32) + x18))) (nI 2652) ((gW (pW s x8 ((gW s x8) + ((((x10.toInt64 * x11.toInt64) / 10000).toInt32) + x18))) (nI 2652)) - (mni (gW (pW s x8 ((gW s x8) + ((((x10.toInt64 * x11.toInt64) / 10000).toInt32) + x18))) (nI 2652)) x19))) x20 ((gW (pW (pW s x8 ((gW s x8) + ((((x10.toInt64 * x11.toInt64) / 10000).toInt32) + x18))) (nI 2652) ((gW (pW s x8 ((gW s x8) + ((((x10.toInt64 * x11.toInt64) / 10000).toInt32) + x18))) (nI 2652)) - (mni (gW (pW s x8 ((gW s x8) + ((((x10.toInt64 * x11.toInt64) / 10000).toInt32) + x18))) (nI 2652)) x19))) x20) - (mni (gW (pW s x8 ((gW s x8) + ((((x10.toInt64 * x11.toInt64) / 10000).toInt32) + x18))) (nI 2652)) x19)))) (i := x22) (x := ((gW (pW (pW (pW s x8 ((gW s x8) + ((((x10.toInt64 * x11.toInt64) / 10000).toInt32) + x18))) (nI 2652) ((gW (pW s x8 ((gW s x8) + ((((x10.toInt64 * x11.toInt64) / 10000).toInt32) + x18))) (nI 2652)) - (mni (gW (pW s x8 ((gW s x8) + ((((x10.toInt64 * x11.toInt64) / 10000).toInt32) + x18))) (nI 2652)) x19))) x20 ((gW (pW (pW s x8 ((gW s x8) + ((((x10.toInt64 * x11.toInt64) / 10000).toInt32) + x18))) (nI 2652) ((gW (pW s x8 ((gW s x8) + ((((x10.toInt64 * x11.toInt64) / 10000).toInt32) + x18))) (nI 2652)) - (mni (gW (pW s x8 ((gW s x8) + ((((x10.toInt64 * x11.toInt64) / 10000).toInt32) + x18))) (nI 2652)) x19))) x20) - (mni (gW (pW s x8 ((gW s x8) + ((((x10.toInt64 * x11.toInt64) / 10000).toInt32) + x18))) (nI 2652)) x19))) x22) + (mni (gW (pW s x8 ((gW s x8) + ((((x10.toInt64 * x11.toInt64) / 10000).toInt32) + x18))) (nI 2652)) x19))) dX12_paysBond_122 hr q23 ?_
      obtain rfl := Option.some.inj h
      exact jg_return dX12_paysBond_123 rfl ⟨rfl, rfl⟩
theorem dX12_yearEnds_0 : decode cX12_yearEnds 0 = .ok (.aload_n 0, 1) := by decide +kernel
theorem dX12_yearEnds_1 : decode cX12_yearEnds 1 = .ok (.invokevirtual 394, 3) := by decide +kernel
theorem dX12_yearEnds_4 : decode cX12_yearEnds 4 = .ok (.iconst 1, 1) := by decide +kernel
theorem dX12_yearEnds_5 : decode cX12_yearEnds 5 = .ok (.isub, 1) := by decide +kernel
theorem dX12_yearEnds_6 : decode cX12_yearEnds 6 = .ok (.istore_n 1, 1) := by decide +kernel
theorem dX12_yearEnds_7 : decode cX12_yearEnds 7 = .ok (.iconst 0, 1) := by decide +kernel
theorem dX12_yearEnds_8 : decode cX12_yearEnds 8 = .ok (.istore_n 2, 1) := by decide +kernel
theorem dX12_yearEnds_9 : decode cX12_yearEnds 9 = .ok (.iload_n 2, 1) := by decide +kernel
theorem dX12_yearEnds_10 : decode cX12_yearEnds 10 = .ok (.bipush 10, 2) := by decide +kernel
theorem dX12_yearEnds_12 : decode cX12_yearEnds 12 = .ok (.if_icmp .ge 45, 3) := by decide +kernel
theorem dX12_yearEnds_15 : decode cX12_yearEnds 15 = .ok (.iconst 0, 1) := by decide +kernel
theorem dX12_yearEnds_16 : decode cX12_yearEnds 16 = .ok (.istore_n 3, 1) := by decide +kernel
theorem dX12_yearEnds_17 : decode cX12_yearEnds 17 = .ok (.iload_n 3, 1) := by decide +kernel
theorem dX12_yearEnds_18 : decode cX12_yearEnds 18 = .ok (.aload_n 0, 1) := by decide +kernel
theorem dX12_yearEnds_19 : decode cX12_yearEnds 19 = .ok (.getfield 13, 3) := by decide +kernel
theorem dX12_yearEnds_22 : decode cX12_yearEnds 22 = .ok (.sipush 2665, 3) := by decide +kernel
theorem dX12_yearEnds_25 : decode cX12_yearEnds 25 = .ok (.iaload, 1) := by decide +kernel
theorem dX12_yearEnds_26 : decode cX12_yearEnds 26 = .ok (.if_icmp .ge 25, 3) := by decide +kernel
theorem dX12_yearEnds_29 : decode cX12_yearEnds 29 = .ok (.aload_n 0, 1) := by decide +kernel
theorem dX12_yearEnds_30 : decode cX12_yearEnds 30 = .ok (.iload_n 3, 1) := by decide +kernel
theorem dX12_yearEnds_31 : decode cX12_yearEnds 31 = .ok (.iconst 2, 1) := by decide +kernel
theorem dX12_yearEnds_32 : decode cX12_yearEnds 32 = .ok (.invokevirtual 391, 3) := by decide +kernel
theorem dX12_yearEnds_35 : decode cX12_yearEnds 35 = .ok (.iload_n 2, 1) := by decide +kernel
theorem dX12_yearEnds_36 : decode cX12_yearEnds 36 = .ok (.if_icmp .ne 9, 3) := by decide +kernel
theorem dX12_yearEnds_39 : decode cX12_yearEnds 39 = .ok (.aload_n 0, 1) := by decide +kernel
theorem dX12_yearEnds_40 : decode cX12_yearEnds 40 = .ok (.iload_n 3, 1) := by decide +kernel
theorem dX12_yearEnds_41 : decode cX12_yearEnds 41 = .ok (.iload_n 1, 1) := by decide +kernel
theorem dX12_yearEnds_42 : decode cX12_yearEnds 42 = .ok (.invokevirtual 402, 3) := by decide +kernel
theorem dX12_yearEnds_45 : decode cX12_yearEnds 45 = .ok (.iinc 3 1, 3) := by decide +kernel
theorem dX12_yearEnds_48 : decode cX12_yearEnds 48 = .ok (.goto (-31), 3) := by decide +kernel
theorem dX12_yearEnds_51 : decode cX12_yearEnds 51 = .ok (.iinc 2 1, 3) := by decide +kernel
theorem dX12_yearEnds_54 : decode cX12_yearEnds 54 = .ok (.goto (-45), 3) := by decide +kernel
theorem dX12_yearEnds_57 : decode cX12_yearEnds 57 = .ok (.iconst 0, 1) := by decide +kernel
theorem dX12_yearEnds_58 : decode cX12_yearEnds 58 = .ok (.istore_n 2, 1) := by decide +kernel
theorem dX12_yearEnds_59 : decode cX12_yearEnds 59 = .ok (.iload_n 2, 1) := by decide +kernel
theorem dX12_yearEnds_60 : decode cX12_yearEnds 60 = .ok (.aload_n 0, 1) := by decide +kernel
theorem dX12_yearEnds_61 : decode cX12_yearEnds 61 = .ok (.getfield 13, 3) := by decide +kernel
theorem dX12_yearEnds_64 : decode cX12_yearEnds 64 = .ok (.sipush 1090, 3) := by decide +kernel
theorem dX12_yearEnds_67 : decode cX12_yearEnds 67 = .ok (.iaload, 1) := by decide +kernel
theorem dX12_yearEnds_68 : decode cX12_yearEnds 68 = .ok (.if_icmp .ge 40, 3) := by decide +kernel
theorem dX12_yearEnds_71 : decode cX12_yearEnds 71 = .ok (.aload_n 0, 1) := by decide +kernel
theorem dX12_yearEnds_72 : decode cX12_yearEnds 72 = .ok (.getfield 13, 3) := by decide +kernel
theorem dX12_yearEnds_75 : decode cX12_yearEnds 75 = .ok (.iload_n 2, 1) := by decide +kernel
theorem dX12_yearEnds_76 : decode cX12_yearEnds 76 = .ok (.iconst 1, 1) := by decide +kernel
theorem dX12_yearEnds_77 : decode cX12_yearEnds 77 = .ok (.invokestatic 170, 3) := by decide +kernel
theorem dX12_yearEnds_80 : decode cX12_yearEnds 80 = .ok (.aload_n 0, 1) := by decide +kernel
theorem dX12_yearEnds_81 : decode cX12_yearEnds 81 = .ok (.getfield 13, 3) := by decide +kernel
theorem dX12_yearEnds_84 : decode cX12_yearEnds 84 = .ok (.iload_n 2, 1) := by decide +kernel
theorem dX12_yearEnds_85 : decode cX12_yearEnds 85 = .ok (.iconst 0, 1) := by decide +kernel
theorem dX12_yearEnds_86 : decode cX12_yearEnds 86 = .ok (.invokestatic 170, 3) := by decide +kernel
theorem dX12_yearEnds_89 : decode cX12_yearEnds 89 = .ok (.iaload, 1) := by decide +kernel
theorem dX12_yearEnds_90 : decode cX12_yearEnds 90 = .ok (.iastore, 1) := by decide +kernel
theorem dX12_yearEnds_91 : decode cX12_yearEnds 91 = .ok (.aload_n 0, 1) := by decide +kernel
theorem dX12_yearEnds_92 : decode cX12_yearEnds 92 = .ok (.getfield 13, 3) := by decide +kernel
theorem dX12_yearEnds_95 : decode cX12_yearEnds 95 = .ok (.iload_n 2, 1) := by decide +kernel
theorem dX12_yearEnds_96 : decode cX12_yearEnds 96 = .ok (.iconst 0, 1) := by decide +kernel
theorem dX12_yearEnds_97 : decode cX12_yearEnds 97 = .ok (.invokestatic 170, 3) := by decide +kernel
theorem dX12_yearEnds_100 : decode cX12_yearEnds 100 = .ok (.iconst 0, 1) := by decide +kernel
theorem dX12_yearEnds_101 : decode cX12_yearEnds 101 = .ok (.iastore, 1) := by decide +kernel
theorem dX12_yearEnds_102 : decode cX12_yearEnds 102 = .ok (.iinc 2 1, 3) := by decide +kernel
theorem dX12_yearEnds_105 : decode cX12_yearEnds 105 = .ok (.goto (-46), 3) := by decide +kernel
theorem dX12_yearEnds_108 : decode cX12_yearEnds 108 = .ok (.return_, 1) := by decide +kernel
noncomputable def o_X12_yearEnds_17 (F : Nat) (l1 : Int32) (l2 : Int32)  : Nat → Int32 → rs_S → Option (rs_S)
  | 0, _, _ => none
  | f + 1, l3, s => if (gW s (nI 2665)) ≤ l3 then (some s) else ((o_X12_bondOf s l3 (nI 2)).bind fun x4 => (if x4 = l2 then ((o_X12_paysBond s l3 l1).bind fun x6 => (o_X12_yearEnds_17 F l1 l2 f (l3 + nI 1) x6)) else (o_X12_yearEnds_17 F l1 l2 f (l3 + nI 1) s)))
set_option maxHeartbeats 4000000 in
theorem t_X12_yearEnds_17 {Γ : jg_G} {g : Nat → jg_C} {n r : Nat} (hr : r + 11 ≤ n) (F : Nat) (l1 : Int32) (l2 : Int32)   (Q : jg_Q) {x : rs_S} (K1 : jg Γ mX12_yearEnds 3 0 0 51 [some (.ref r), some (.int l1), some (.int l2), none] [] (rs_h g r x, n) Q)  : ∀ (f : Nat) (l3 : Int32) (s : rs_S), o_X12_yearEnds_17 F l1 l2 f l3 s = some x → jg Γ mX12_yearEnds 3 0 0 17 [some (.ref r), some (.int l1), some (.int l2), some (.int l3)] [] (rs_h g r s, n) Q := by
  intro f
  induction f with
  | zero => intro l3 s h; rw [o_X12_yearEnds_17] at h; cases h
  | succ f ih =>
   intro l3 s h
   rw [o_X12_yearEnds_17] at h
   refine jg_iload_n dX12_yearEnds_17 rfl ?_
   refine jg_aload_n dX12_yearEnds_18 rfl ?_
   refine rs_ga fl_X12_13 dX12_yearEnds_19 hr rfl ?_
   refine jg_sipush (v := nI 2665) dX12_yearEnds_22 (by decide) ?_
   refine rs_lwD (s := s) (i := (nI 2665)) dX12_yearEnds_25 hr (by decide) ?_
   refine jg_icmp_ge (x := l3) (y := (gW s (nI 2665))) (tgt := 51) dX12_yearEnds_26 (by decide) (fun c3 => ?_) (fun c3 => ?_)
   · replace h := it_t c3 h
     refine jg_fg (L' := [some (.ref r), some (.int l1), some (.int l2), none]) (by repeat (first | exact trivial | refine ⟨rfl, ?_⟩ | show jg_le _ _)) ?_
     obtain rfl := Option.some.inj h
     exact K1
   · replace h := it_f c3 h
     refine jg_aload_n dX12_yearEnds_29 rfl ?_
     refine jg_iload_n dX12_yearEnds_30 rfl ?_
     refine jg_iconst (v := nI 2) dX12_yearEnds_31 (by decide) ?_
     obtain ⟨x4, e_x4, h⟩ := bd_some h
     refine rs_call (As := [.int l3, .int (nI 2)]) kv_X12_391 dX12_yearEnds_32 hr rfl rfl (by decide) (Nat.le_of_ble_eq_true rfl) rfl (by decide) (Nat.le_of_ble_eq_true rfl) (t_X12_bondOf hr s l3 (nI 2) e_x4) ?_
     refine jg_iload_n dX12_yearEnds_35 rfl ?_
     refine jg_icmp_ne (x := x4) (y := l2) (tgt := 45) dX12_yearEnds_36 (by decide) (fun c5 => ?_) (fun c5 => ?_)
     · replace h := it_f c5 h
       refine jg_iinc (x := l3) (v := l3 + nI 1) (L' := [some (.ref r), some (.int l1), some (.int l2), some (.int (l3 + nI 1))]) dX12_yearEnds_45 rfl (ic_k _ (by decide)) (by decide) rfl ?_
       refine jg_goto (tgt := 17) dX12_yearEnds_48 (by decide) ?_
       refine jg_fg (L' := [some (.ref r), some (.int l1), some (.int l2), some (.int (l3 + nI 1))]) (by repeat (first | exact trivial | refine ⟨rfl, ?_⟩ | show jg_le _ _)) ?_
       exact ih (l3 + nI 1) s h
     · replace h := it_t c5 h
       refine jg_aload_n dX12_yearEnds_39 rfl ?_
       refine jg_iload_n dX12_yearEnds_40 rfl ?_
       refine jg_iload_n dX12_yearEnds_41 rfl ?_
       obtain ⟨x6, e_x6, h⟩ := bd_some h
       refine rs_call (As := [.int l3, .int l1]) kv_X12_402 dX12_yearEnds_42 hr rfl rfl (by decide) (Nat.le_of_ble_eq_true rfl) rfl (by decide) (Nat.le_of_ble_eq_true rfl) (t_X12_paysBond hr s l3 l1 e_x6) ?_
       refine jg_iinc (x := l3) (v := l3 + nI 1) (L' := [some (.ref r), some (.int l1), some (.int l2), some (.int (l3 + nI 1))]) dX12_yearEnds_45 rfl (ic_k _ (by decide)) (by decide) rfl ?_
       refine jg_goto (tgt := 17) dX12_yearEnds_48 (by decide) ?_
       refine jg_fg (L' := [some (.ref r), some (.int l1), some (.int l2), some (.int (l3 + nI 1))]) (by repeat (first | exact trivial | refine ⟨rfl, ?_⟩ | show jg_le _ _)) ?_
       exact ih (l3 + nI 1) x6 h
noncomputable def o_X12_yearEnds_9 (F : Nat) (l1 : Int32)  : Nat → Int32 → rs_S → Option (rs_S)
  | 0, _, _ => none
  | f + 1, l2, s => if (nI 10) ≤ l2 then (some s) else ((o_X12_yearEnds_17 F l1 l2 F (nI 0) s).bind fun x7 => (o_X12_yearEnds_9 F l1 f (l2 + nI 1) x7))
set_option maxHeartbeats 4000000 in
theorem t_X12_yearEnds_9 {Γ : jg_G} {g : Nat → jg_C} {n r : Nat} (hr : r + 11 ≤ n) (F : Nat) (l1 : Int32)   (Q : jg_Q) {x : rs_S} (K1 : jg Γ mX12_yearEnds 3 0 0 57 [some (.ref r), none, none, none] [] (rs_h g r x, n) Q)  : ∀ (f : Nat) (l2 : Int32) (s : rs_S), o_X12_yearEnds_9 F l1 f l2 s = some x → jg Γ mX12_yearEnds 3 0 0 9 [some (.ref r), some (.int l1), some (.int l2), none] [] (rs_h g r s, n) Q := by
  intro f
  induction f with
  | zero => intro l2 s h; rw [o_X12_yearEnds_9] at h; cases h
  | succ f ih =>
   intro l2 s h
   rw [o_X12_yearEnds_9] at h
   refine jg_iload_n dX12_yearEnds_9 rfl ?_
   refine jg_bipush (v := nI 10) dX12_yearEnds_10 (by decide) ?_
   refine jg_icmp_ge (x := l2) (y := (nI 10)) (tgt := 57) dX12_yearEnds_12 (by decide) (fun c2 => ?_) (fun c2 => ?_)
   · replace h := it_t c2 h
     refine jg_fg (L' := [some (.ref r), none, none, none]) (by repeat (first | exact trivial | refine ⟨rfl, ?_⟩ | show jg_le _ _)) ?_
     obtain rfl := Option.some.inj h
     exact K1
   · replace h := it_f c2 h
     refine jg_iconst (v := nI 0) dX12_yearEnds_15 (by decide) ?_
     refine jg_istore_n (L' := [some (.ref r), some (.int l1), some (.int l2), some (.int (nI 0))]) dX12_yearEnds_16 (by decide) rfl ?_
     obtain ⟨x7, e_x7, h⟩ := bd_some h
     refine jg_fg (L' := [some (.ref r), some (.int l1), some (.int l2), some (.int (nI 0))]) (by repeat (first | exact trivial | refine ⟨rfl, ?_⟩ | show jg_le _ _)) ?_
     refine t_X12_yearEnds_17 hr F l1 l2  _ (x := x7) ?_ F (nI 0) s e_x7
     refine jg_iinc (x := l2) (v := l2 + nI 1) (L' := [some (.ref r), some (.int l1), some (.int (l2 + nI 1)), none]) dX12_yearEnds_51 rfl (ic_k _ (by decide)) (by decide) rfl ?_
     refine jg_goto (tgt := 9) dX12_yearEnds_54 (by decide) ?_
     refine jg_fg (L' := [some (.ref r), some (.int l1), some (.int (l2 + nI 1)), none]) (by repeat (first | exact trivial | refine ⟨rfl, ?_⟩ | show jg_le _ _)) ?_
     exact ih (l2 + nI 1) x7 h
noncomputable def o_X12_yearEnds_59 (F : Nat)   : Nat → Int32 → rs_S → Option (rs_S)
  | 0, _, _ => none
  | f + 1, l2, s => if (gW s (nI 1090)) ≤ l2 then (some s) else ((o_X12_payerAt s l2 (nI 1)).bind fun x10 => ((o_X12_payerAt s l2 (nI 0)).bind fun x11 => (if iL x11 22216 then (if iL x10 22216 then ((o_X12_payerAt (pW s x10 (gW s x11)) l2 (nI 0)).bind fun x14 => (if iL x14 22216 then (o_X12_yearEnds_59 F f (l2 + nI 1) (pW (pW s x10 (gW s x11)) x14 (nI 0))) else none)) else none) else none)))
set_option maxHeartbeats 4000000 in
theorem t_X12_yearEnds_59 {Γ : jg_G} {g : Nat → jg_C} {n r : Nat} (hr : r + 11 ≤ n) (F : Nat)    (Q : jg_Q) {x : rs_S} (K1 : jg Γ mX12_yearEnds 3 0 0 108 [none, none, none, none] [] (rs_h g r x, n) Q)  : ∀ (f : Nat) (l2 : Int32) (s : rs_S), o_X12_yearEnds_59 F f l2 s = some x → jg Γ mX12_yearEnds 3 0 0 59 [some (.ref r), none, some (.int l2), none] [] (rs_h g r s, n) Q := by
  intro f
  induction f with
  | zero => intro l2 s h; rw [o_X12_yearEnds_59] at h; cases h
  | succ f ih =>
   intro l2 s h
   rw [o_X12_yearEnds_59] at h
   refine jg_iload_n dX12_yearEnds_59 rfl ?_
   refine jg_aload_n dX12_yearEnds_60 rfl ?_
   refine rs_ga fl_X12_13 dX12_yearEnds_61 hr rfl ?_
   refine jg_sipush (v := nI 1090) dX12_yearEnds_64 (by decide) ?_
   refine rs_lwD (s := s) (i := (nI 1090)) dX12_yearEnds_67 hr (by decide) ?_
   refine jg_icmp_ge (x := l2) (y := (gW s (nI 1090))) (tgt := 108) dX12_yearEnds_68 (by decide) (fun c9 => ?_) (fun c9 => ?_)
   · replace h := it_t c9 h
     refine jg_fg (L' := [none, none, none, none]) (by repeat (first | exact trivial | refine ⟨rfl, ?_⟩ | show jg_le _ _)) ?_
     obtain rfl := Option.some.inj h
     exact K1
   · replace h := it_f c9 h
     refine jg_aload_n dX12_yearEnds_71 rfl ?_
     refine rs_ga fl_X12_13 dX12_yearEnds_72 hr rfl ?_
     refine jg_iload_n dX12_yearEnds_75 rfl ?_
     refine jg_iconst (v := nI 1) dX12_yearEnds_76 (by decide) ?_
     obtain ⟨x10, e_x10, h⟩ := bd_some h
     refine rs_callS (As := [.int l2, .int (nI 1)]) ks_X12_170 dX12_yearEnds_77 rfl (by decide) (Nat.le_of_ble_eq_true rfl) rfl (by decide) (Nat.le_of_ble_eq_true rfl) (t_X12_payerAt hr s l2 (nI 1) e_x10) ?_
     refine jg_aload_n dX12_yearEnds_80 rfl ?_
     refine rs_ga fl_X12_13 dX12_yearEnds_81 hr rfl ?_
     refine jg_iload_n dX12_yearEnds_84 rfl ?_
     refine jg_iconst (v := nI 0) dX12_yearEnds_85 (by decide) ?_
     obtain ⟨x11, e_x11, h⟩ := bd_some h
     refine rs_callS (As := [.int l2, .int (nI 0)]) ks_X12_170 dX12_yearEnds_86 rfl (by decide) (Nat.le_of_ble_eq_true rfl) rfl (by decide) (Nat.le_of_ble_eq_true rfl) (t_X12_payerAt hr s l2 (nI 0) e_x11) ?_
     obtain ⟨q12, h⟩ := gd_some h
     refine rs_lwD (s := s) (i := x11) dX12_yearEnds_89 hr q12 ?_
     obtain ⟨q13, h⟩ := gd_some h
     refine rs_swD (s := s) (i := x10) (x := (gW s x11)) dX12_yearEnds_90 hr q13 ?_
     refine jg_aload_n dX12_yearEnds_91 rfl ?_
     refine rs_ga fl_X12_13 dX12_yearEnds_92 hr rfl ?_
     refine jg_iload_n dX12_yearEnds_95 rfl ?_
     refine jg_iconst (v := nI 0) dX12_yearEnds_96 (by decide) ?_
     obtain ⟨x14, e_x14, h⟩ := bd_some h
     refine rs_callS (As := [.int l2, .int (nI 0)]) ks_X12_170 dX12_yearEnds_97 rfl (by decide) (Nat.le_of_ble_eq_true rfl) rfl (by decide) (Nat.le_of_ble_eq_true rfl) (t_X12_payerAt hr (pW s x10 (gW s x11)) l2 (nI 0) e_x14) ?_
     refine jg_iconst (v := nI 0) dX12_yearEnds_100 (by decide) ?_
     obtain ⟨q15, h⟩ := gd_some h
     refine rs_swD (s := (pW s x10 (gW s x11))) (i := x14) (x := (nI 0)) dX12_yearEnds_101 hr q15 ?_
     refine jg_iinc (x := l2) (v := l2 + nI 1) (L' := [some (.ref r), none, some (.int (l2 + nI 1)), none]) dX12_yearEnds_102 rfl (ic_k _ (by decide)) (by decide) rfl ?_
     refine jg_goto (tgt := 59) dX12_yearEnds_105 (by decide) ?_
     refine jg_fg (L' := [some (.ref r), none, some (.int (l2 + nI 1)), none]) (by repeat (first | exact trivial | refine ⟨rfl, ?_⟩ | show jg_le _ _)) ?_
     exact ih (l2 + nI 1) (pW (pW s x10 (gW s x11)) x14 (nI 0)) h
noncomputable def o_X12_yearEnds (F : Nat) (s : rs_S) : Option (rs_S) := (o_X12_year s).bind fun x1 => ((o_X12_yearEnds_9 F (x1 - (nI 1)) F (nI 0) s).bind fun x8 => ((o_X12_yearEnds_59 F F (nI 0) x8).bind fun x16 => (some x16)))
set_option maxHeartbeats 4000000 in
theorem t_X12_yearEnds {Γ : jg_G} {g : Nat → jg_C} {n r : Nat} (hr : r + 11 ≤ n) (F : Nat) (s : rs_S)  {x : rs_S} (h : o_X12_yearEnds F s = some x) : jc Γ mX12_yearEnds 3 0 0 [some (.ref r), none, none, none] (rs_h g r s, n) (.inl none) (rs_h g r x, n) := by
  refine jc_of ?_
  rw [o_X12_yearEnds] at h
  refine jg_aload_n dX12_yearEnds_0 rfl ?_
  obtain ⟨x1, e_x1, h⟩ := bd_some h
  refine rs_call (As := []) kv_X12_394 dX12_yearEnds_1 hr rfl rfl (by decide) (Nat.le_of_ble_eq_true rfl) rfl (by decide) (Nat.le_of_ble_eq_true rfl) (t_X12_year hr s e_x1) ?_
  refine jg_iconst (v := nI 1) dX12_yearEnds_4 (by decide) ?_
  refine jg_isub (x := x1) (y := (nI 1)) dX12_yearEnds_5  ?_
  refine jg_istore_n (L' := [some (.ref r), some (.int (x1 - (nI 1))), none, none]) dX12_yearEnds_6 (by decide) rfl ?_
  refine jg_iconst (v := nI 0) dX12_yearEnds_7 (by decide) ?_
  refine jg_istore_n (L' := [some (.ref r), some (.int (x1 - (nI 1))), some (.int (nI 0)), none]) dX12_yearEnds_8 (by decide) rfl ?_
  obtain ⟨x8, e_x8, h⟩ := bd_some h
  refine jg_fg (L' := [some (.ref r), some (.int (x1 - (nI 1))), some (.int (nI 0)), none]) (by repeat (first | exact trivial | refine ⟨rfl, ?_⟩ | show jg_le _ _)) ?_
  refine t_X12_yearEnds_9 hr F (x1 - (nI 1))  _ (x := x8) ?_ F (nI 0) s e_x8
  refine jg_iconst (v := nI 0) dX12_yearEnds_57 (by decide) ?_
  refine jg_istore_n (L' := [some (.ref r), none, some (.int (nI 0)), none]) dX12_yearEnds_58 (by decide) rfl ?_
  obtain ⟨x16, e_x16, h⟩ := bd_some h
  refine jg_fg (L' := [some (.ref r), none, some (.int (nI 0)), none]) (by repeat (first | exact trivial | refine ⟨rfl, ?_⟩ | show jg_le _ _)) ?_
  refine t_X12_yearEnds_59 hr F  _ (x := x16) ?_ F (nI 0) x8 e_x16
  obtain rfl := Option.some.inj h
  exact jg_return dX12_yearEnds_108 rfl ⟨rfl, rfl⟩
theorem dX12_anHour_0 : decode cX12_anHour 0 = .ok (.aload_n 0, 1) := by decide +kernel
theorem dX12_anHour_1 : decode cX12_anHour 1 = .ok (.getfield 13, 3) := by decide +kernel
theorem dX12_anHour_4 : decode cX12_anHour 4 = .ok (.iconst 0, 1) := by decide +kernel
theorem dX12_anHour_5 : decode cX12_anHour 5 = .ok (.dup2, 1) := by decide +kernel
theorem dX12_anHour_6 : decode cX12_anHour 6 = .ok (.iaload, 1) := by decide +kernel
theorem dX12_anHour_7 : decode cX12_anHour 7 = .ok (.iconst 1, 1) := by decide +kernel
theorem dX12_anHour_8 : decode cX12_anHour 8 = .ok (.iadd, 1) := by decide +kernel
theorem dX12_anHour_9 : decode cX12_anHour 9 = .ok (.iastore, 1) := by decide +kernel
theorem dX12_anHour_10 : decode cX12_anHour 10 = .ok (.aload_n 0, 1) := by decide +kernel
theorem dX12_anHour_11 : decode cX12_anHour 11 = .ok (.getfield 13, 3) := by decide +kernel
theorem dX12_anHour_14 : decode cX12_anHour 14 = .ok (.sipush 1082, 3) := by decide +kernel
theorem dX12_anHour_17 : decode cX12_anHour 17 = .ok (.aload_n 0, 1) := by decide +kernel
theorem dX12_anHour_18 : decode cX12_anHour 18 = .ok (.invokevirtual 73, 3) := by decide +kernel
theorem dX12_anHour_21 : decode cX12_anHour 21 = .ok (.bipush 7, 2) := by decide +kernel
theorem dX12_anHour_23 : decode cX12_anHour 23 = .ok (.iadd, 1) := by decide +kernel
theorem dX12_anHour_24 : decode cX12_anHour 24 = .ok (.bipush 8, 2) := by decide +kernel
theorem dX12_anHour_26 : decode cX12_anHour 26 = .ok (.irem, 1) := by decide +kernel
theorem dX12_anHour_27 : decode cX12_anHour 27 = .ok (.iadd, 1) := by decide +kernel
theorem dX12_anHour_28 : decode cX12_anHour 28 = .ok (.iconst 0, 1) := by decide +kernel
theorem dX12_anHour_29 : decode cX12_anHour 29 = .ok (.iastore, 1) := by decide +kernel
theorem dX12_anHour_30 : decode cX12_anHour 30 = .ok (.aload_n 0, 1) := by decide +kernel
theorem dX12_anHour_31 : decode cX12_anHour 31 = .ok (.invokevirtual 134, 3) := by decide +kernel
theorem dX12_anHour_34 : decode cX12_anHour 34 = .ok (.aload_n 0, 1) := by decide +kernel
theorem dX12_anHour_35 : decode cX12_anHour 35 = .ok (.getfield 13, 3) := by decide +kernel
theorem dX12_anHour_38 : decode cX12_anHour 38 = .ok (.sipush 1211, 3) := by decide +kernel
theorem dX12_anHour_41 : decode cX12_anHour 41 = .ok (.iaload, 1) := by decide +kernel
theorem dX12_anHour_42 : decode cX12_anHour 42 = .ok (.istore_n 1, 1) := by decide +kernel
theorem dX12_anHour_43 : decode cX12_anHour 43 = .ok (.iconst 0, 1) := by decide +kernel
theorem dX12_anHour_44 : decode cX12_anHour 44 = .ok (.istore_n 2, 1) := by decide +kernel
theorem dX12_anHour_45 : decode cX12_anHour 45 = .ok (.iload_n 2, 1) := by decide +kernel
theorem dX12_anHour_46 : decode cX12_anHour 46 = .ok (.iload_n 1, 1) := by decide +kernel
theorem dX12_anHour_47 : decode cX12_anHour 47 = .ok (.if_icmp .ge 42, 3) := by decide +kernel
theorem dX12_anHour_50 : decode cX12_anHour 50 = .ok (.aload_n 0, 1) := by decide +kernel
theorem dX12_anHour_51 : decode cX12_anHour 51 = .ok (.iload_n 2, 1) := by decide +kernel
theorem dX12_anHour_52 : decode cX12_anHour 52 = .ok (.bipush 9, 2) := by decide +kernel
theorem dX12_anHour_54 : decode cX12_anHour 54 = .ok (.invokevirtual 137, 3) := by decide +kernel
theorem dX12_anHour_57 : decode cX12_anHour 57 = .ok (.iconst 1, 1) := by decide +kernel
theorem dX12_anHour_58 : decode cX12_anHour 58 = .ok (.if_icmp .ne 25, 3) := by decide +kernel
theorem dX12_anHour_61 : decode cX12_anHour 61 = .ok (.aload_n 0, 1) := by decide +kernel
theorem dX12_anHour_62 : decode cX12_anHour 62 = .ok (.iload_n 2, 1) := by decide +kernel
theorem dX12_anHour_63 : decode cX12_anHour 63 = .ok (.bipush 12, 2) := by decide +kernel
theorem dX12_anHour_65 : decode cX12_anHour 65 = .ok (.invokevirtual 137, 3) := by decide +kernel
theorem dX12_anHour_68 : decode cX12_anHour 68 = .ok (.aload_n 0, 1) := by decide +kernel
theorem dX12_anHour_69 : decode cX12_anHour 69 = .ok (.invokevirtual 73, 3) := by decide +kernel
theorem dX12_anHour_72 : decode cX12_anHour 72 = .ok (.if_icmp .gt 11, 3) := by decide +kernel
theorem dX12_anHour_75 : decode cX12_anHour 75 = .ok (.aload_n 0, 1) := by decide +kernel
theorem dX12_anHour_76 : decode cX12_anHour 76 = .ok (.iload_n 2, 1) := by decide +kernel
theorem dX12_anHour_77 : decode cX12_anHour 77 = .ok (.bipush 9, 2) := by decide +kernel
theorem dX12_anHour_79 : decode cX12_anHour 79 = .ok (.iconst 2, 1) := by decide +kernel
theorem dX12_anHour_80 : decode cX12_anHour 80 = .ok (.invokevirtual 111, 3) := by decide +kernel
theorem dX12_anHour_83 : decode cX12_anHour 83 = .ok (.iinc 2 1, 3) := by decide +kernel
theorem dX12_anHour_86 : decode cX12_anHour 86 = .ok (.goto (-41), 3) := by decide +kernel
theorem dX12_anHour_89 : decode cX12_anHour 89 = .ok (.iconst 0, 1) := by decide +kernel
theorem dX12_anHour_90 : decode cX12_anHour 90 = .ok (.istore_n 2, 1) := by decide +kernel
theorem dX12_anHour_91 : decode cX12_anHour 91 = .ok (.iload_n 2, 1) := by decide +kernel
theorem dX12_anHour_92 : decode cX12_anHour 92 = .ok (.iload_n 1, 1) := by decide +kernel
theorem dX12_anHour_93 : decode cX12_anHour 93 = .ok (.if_icmp .ge 25, 3) := by decide +kernel
theorem dX12_anHour_96 : decode cX12_anHour 96 = .ok (.aload_n 0, 1) := by decide +kernel
theorem dX12_anHour_97 : decode cX12_anHour 97 = .ok (.iload_n 2, 1) := by decide +kernel
theorem dX12_anHour_98 : decode cX12_anHour 98 = .ok (.bipush 9, 2) := by decide +kernel
theorem dX12_anHour_100 : decode cX12_anHour 100 = .ok (.invokevirtual 137, 3) := by decide +kernel
theorem dX12_anHour_103 : decode cX12_anHour 103 = .ok (.iconst 3, 1) := by decide +kernel
theorem dX12_anHour_104 : decode cX12_anHour 104 = .ok (.if_icmp .ne 8, 3) := by decide +kernel
theorem dX12_anHour_107 : decode cX12_anHour 107 = .ok (.aload_n 0, 1) := by decide +kernel
theorem dX12_anHour_108 : decode cX12_anHour 108 = .ok (.iload_n 2, 1) := by decide +kernel
theorem dX12_anHour_109 : decode cX12_anHour 109 = .ok (.invokevirtual 184, 3) := by decide +kernel
theorem dX12_anHour_112 : decode cX12_anHour 112 = .ok (.iinc 2 1, 3) := by decide +kernel
theorem dX12_anHour_115 : decode cX12_anHour 115 = .ok (.goto (-24), 3) := by decide +kernel
theorem dX12_anHour_118 : decode cX12_anHour 118 = .ok (.aload_n 0, 1) := by decide +kernel
theorem dX12_anHour_119 : decode cX12_anHour 119 = .ok (.invokevirtual 187, 3) := by decide +kernel
theorem dX12_anHour_122 : decode cX12_anHour 122 = .ok (.iconst 0, 1) := by decide +kernel
theorem dX12_anHour_123 : decode cX12_anHour 123 = .ok (.istore_n 2, 1) := by decide +kernel
theorem dX12_anHour_124 : decode cX12_anHour 124 = .ok (.iload_n 2, 1) := by decide +kernel
theorem dX12_anHour_125 : decode cX12_anHour 125 = .ok (.aload_n 0, 1) := by decide +kernel
theorem dX12_anHour_126 : decode cX12_anHour 126 = .ok (.getfield 150, 3) := by decide +kernel
theorem dX12_anHour_129 : decode cX12_anHour 129 = .ok (.if_icmp .ge 19, 3) := by decide +kernel
theorem dX12_anHour_132 : decode cX12_anHour 132 = .ok (.aload_n 0, 1) := by decide +kernel
theorem dX12_anHour_133 : decode cX12_anHour 133 = .ok (.aload_n 0, 1) := by decide +kernel
theorem dX12_anHour_134 : decode cX12_anHour 134 = .ok (.getfield 23, 3) := by decide +kernel
theorem dX12_anHour_137 : decode cX12_anHour 137 = .ok (.iload_n 2, 1) := by decide +kernel
theorem dX12_anHour_138 : decode cX12_anHour 138 = .ok (.iaload, 1) := by decide +kernel
theorem dX12_anHour_139 : decode cX12_anHour 139 = .ok (.invokevirtual 190, 3) := by decide +kernel
theorem dX12_anHour_142 : decode cX12_anHour 142 = .ok (.iinc 2 1, 3) := by decide +kernel
theorem dX12_anHour_145 : decode cX12_anHour 145 = .ok (.goto (-21), 3) := by decide +kernel
theorem dX12_anHour_148 : decode cX12_anHour 148 = .ok (.iconst 0, 1) := by decide +kernel
theorem dX12_anHour_149 : decode cX12_anHour 149 = .ok (.istore_n 2, 1) := by decide +kernel
theorem dX12_anHour_150 : decode cX12_anHour 150 = .ok (.iload_n 2, 1) := by decide +kernel
theorem dX12_anHour_151 : decode cX12_anHour 151 = .ok (.iload_n 1, 1) := by decide +kernel
theorem dX12_anHour_152 : decode cX12_anHour 152 = .ok (.if_icmp .ge 25, 3) := by decide +kernel
theorem dX12_anHour_155 : decode cX12_anHour 155 = .ok (.aload_n 0, 1) := by decide +kernel
theorem dX12_anHour_156 : decode cX12_anHour 156 = .ok (.iload_n 2, 1) := by decide +kernel
theorem dX12_anHour_157 : decode cX12_anHour 157 = .ok (.bipush 9, 2) := by decide +kernel
theorem dX12_anHour_159 : decode cX12_anHour 159 = .ok (.invokevirtual 137, 3) := by decide +kernel
theorem dX12_anHour_162 : decode cX12_anHour 162 = .ok (.iconst 2, 1) := by decide +kernel
theorem dX12_anHour_163 : decode cX12_anHour 163 = .ok (.if_icmp .ne 8, 3) := by decide +kernel
theorem dX12_anHour_166 : decode cX12_anHour 166 = .ok (.aload_n 0, 1) := by decide +kernel
theorem dX12_anHour_167 : decode cX12_anHour 167 = .ok (.iload_n 2, 1) := by decide +kernel
theorem dX12_anHour_168 : decode cX12_anHour 168 = .ok (.invokevirtual 193, 3) := by decide +kernel
theorem dX12_anHour_171 : decode cX12_anHour 171 = .ok (.iinc 2 1, 3) := by decide +kernel
theorem dX12_anHour_174 : decode cX12_anHour 174 = .ok (.goto (-24), 3) := by decide +kernel
theorem dX12_anHour_177 : decode cX12_anHour 177 = .ok (.iconst 0, 1) := by decide +kernel
theorem dX12_anHour_178 : decode cX12_anHour 178 = .ok (.istore_n 2, 1) := by decide +kernel
theorem dX12_anHour_179 : decode cX12_anHour 179 = .ok (.iload_n 2, 1) := by decide +kernel
theorem dX12_anHour_180 : decode cX12_anHour 180 = .ok (.aload_n 0, 1) := by decide +kernel
theorem dX12_anHour_181 : decode cX12_anHour 181 = .ok (.getfield 13, 3) := by decide +kernel
theorem dX12_anHour_184 : decode cX12_anHour 184 = .ok (.sipush 1081, 3) := by decide +kernel
theorem dX12_anHour_187 : decode cX12_anHour 187 = .ok (.iaload, 1) := by decide +kernel
theorem dX12_anHour_188 : decode cX12_anHour 188 = .ok (.if_icmp .ge 13, 3) := by decide +kernel
theorem dX12_anHour_191 : decode cX12_anHour 191 = .ok (.aload_n 0, 1) := by decide +kernel
theorem dX12_anHour_192 : decode cX12_anHour 192 = .ok (.invokevirtual 196, 3) := by decide +kernel
theorem dX12_anHour_195 : decode cX12_anHour 195 = .ok (.iinc 2 1, 3) := by decide +kernel
theorem dX12_anHour_198 : decode cX12_anHour 198 = .ok (.goto (-19), 3) := by decide +kernel
theorem dX12_anHour_201 : decode cX12_anHour 201 = .ok (.iconst 0, 1) := by decide +kernel
theorem dX12_anHour_202 : decode cX12_anHour 202 = .ok (.istore_n 2, 1) := by decide +kernel
theorem dX12_anHour_203 : decode cX12_anHour 203 = .ok (.iload_n 2, 1) := by decide +kernel
theorem dX12_anHour_204 : decode cX12_anHour 204 = .ok (.aload_n 0, 1) := by decide +kernel
theorem dX12_anHour_205 : decode cX12_anHour 205 = .ok (.getfield 13, 3) := by decide +kernel
theorem dX12_anHour_208 : decode cX12_anHour 208 = .ok (.sipush 999, 3) := by decide +kernel
theorem dX12_anHour_211 : decode cX12_anHour 211 = .ok (.iaload, 1) := by decide +kernel
theorem dX12_anHour_212 : decode cX12_anHour 212 = .ok (.if_icmp .ge 38, 3) := by decide +kernel
theorem dX12_anHour_215 : decode cX12_anHour 215 = .ok (.aload_n 0, 1) := by decide +kernel
theorem dX12_anHour_216 : decode cX12_anHour 216 = .ok (.iload_n 2, 1) := by decide +kernel
theorem dX12_anHour_217 : decode cX12_anHour 217 = .ok (.iconst 4, 1) := by decide +kernel
theorem dX12_anHour_218 : decode cX12_anHour 218 = .ok (.invokevirtual 140, 3) := by decide +kernel
theorem dX12_anHour_221 : decode cX12_anHour 221 = .ok (.aload_n 0, 1) := by decide +kernel
theorem dX12_anHour_222 : decode cX12_anHour 222 = .ok (.iload_n 2, 1) := by decide +kernel
theorem dX12_anHour_223 : decode cX12_anHour 223 = .ok (.iconst 3, 1) := by decide +kernel
theorem dX12_anHour_224 : decode cX12_anHour 224 = .ok (.invokevirtual 140, 3) := by decide +kernel
theorem dX12_anHour_227 : decode cX12_anHour 227 = .ok (.if_icmp .le 17, 3) := by decide +kernel
theorem dX12_anHour_230 : decode cX12_anHour 230 = .ok (.aload_n 0, 1) := by decide +kernel
theorem dX12_anHour_231 : decode cX12_anHour 231 = .ok (.getfield 13, 3) := by decide +kernel
theorem dX12_anHour_234 : decode cX12_anHour 234 = .ok (.iload_n 2, 1) := by decide +kernel
theorem dX12_anHour_235 : decode cX12_anHour 235 = .ok (.iconst 5, 1) := by decide +kernel
theorem dX12_anHour_236 : decode cX12_anHour 236 = .ok (.invokestatic 100, 3) := by decide +kernel
theorem dX12_anHour_239 : decode cX12_anHour 239 = .ok (.dup2, 1) := by decide +kernel
theorem dX12_anHour_240 : decode cX12_anHour 240 = .ok (.iaload, 1) := by decide +kernel
theorem dX12_anHour_241 : decode cX12_anHour 241 = .ok (.iconst 1, 1) := by decide +kernel
theorem dX12_anHour_242 : decode cX12_anHour 242 = .ok (.iadd, 1) := by decide +kernel
theorem dX12_anHour_243 : decode cX12_anHour 243 = .ok (.iastore, 1) := by decide +kernel
theorem dX12_anHour_244 : decode cX12_anHour 244 = .ok (.iinc 2 1, 3) := by decide +kernel
theorem dX12_anHour_247 : decode cX12_anHour 247 = .ok (.goto (-44), 3) := by decide +kernel
theorem dX12_anHour_250 : decode cX12_anHour 250 = .ok (.aload_n 0, 1) := by decide +kernel
theorem dX12_anHour_251 : decode cX12_anHour 251 = .ok (.invokevirtual 73, 3) := by decide +kernel
theorem dX12_anHour_254 : decode cX12_anHour 254 = .ok (.bipush 24, 2) := by decide +kernel
theorem dX12_anHour_256 : decode cX12_anHour 256 = .ok (.irem, 1) := by decide +kernel
theorem dX12_anHour_257 : decode cX12_anHour 257 = .ok (.ifCond .ne 7, 3) := by decide +kernel
theorem dX12_anHour_260 : decode cX12_anHour 260 = .ok (.aload_n 0, 1) := by decide +kernel
theorem dX12_anHour_261 : decode cX12_anHour 261 = .ok (.invokevirtual 199, 3) := by decide +kernel
theorem dX12_anHour_264 : decode cX12_anHour 264 = .ok (.aload_n 0, 1) := by decide +kernel
theorem dX12_anHour_265 : decode cX12_anHour 265 = .ok (.invokevirtual 73, 3) := by decide +kernel
theorem dX12_anHour_268 : decode cX12_anHour 268 = .ok (.sipush 2400, 3) := by decide +kernel
theorem dX12_anHour_271 : decode cX12_anHour 271 = .ok (.irem, 1) := by decide +kernel
theorem dX12_anHour_272 : decode cX12_anHour 272 = .ok (.ifCond .ne 7, 3) := by decide +kernel
theorem dX12_anHour_275 : decode cX12_anHour 275 = .ok (.aload_n 0, 1) := by decide +kernel
theorem dX12_anHour_276 : decode cX12_anHour 276 = .ok (.invokevirtual 202, 3) := by decide +kernel
theorem dX12_anHour_279 : decode cX12_anHour 279 = .ok (.return_, 1) := by decide +kernel
noncomputable def o_X12_anHour_45 (F : Nat) (l1 : Int32)  : Nat → Int32 → rs_S → Option (rs_S)
  | 0, _, _ => none
  | f + 1, l2, s => if l1 ≤ l2 then (some s) else ((o_X12_of s l2 (nI 9)).bind fun x5 => (if x5 = (nI 1) then ((o_X12_of s l2 (nI 12)).bind fun x7 => ((o_X12_hour s).bind fun x8 => (if x8 < x7 then (o_X12_anHour_45 F l1 f (l2 + nI 1) s) else ((o_X12_sets s l2 (nI 9) (nI 2)).bind fun x10 => (o_X12_anHour_45 F l1 f (l2 + nI 1) x10))))) else (o_X12_anHour_45 F l1 f (l2 + nI 1) s)))
set_option maxHeartbeats 4000000 in
theorem t_X12_anHour_45 {Γ : jg_G} {g : Nat → jg_C} {n r : Nat} (hr : r + 11 ≤ n) (F : Nat) (l1 : Int32)   (Q : jg_Q) {x : rs_S} (K1 : jg Γ mX12_anHour 6 0 0 89 [some (.ref r), some (.int l1), none] [] (rs_h g r x, n) Q)  : ∀ (f : Nat) (l2 : Int32) (s : rs_S), o_X12_anHour_45 F l1 f l2 s = some x → jg Γ mX12_anHour 6 0 0 45 [some (.ref r), some (.int l1), some (.int l2)] [] (rs_h g r s, n) Q := by
  intro f
  induction f with
  | zero => intro l2 s h; rw [o_X12_anHour_45] at h; cases h
  | succ f ih =>
   intro l2 s h
   rw [o_X12_anHour_45] at h
   refine jg_iload_n dX12_anHour_45 rfl ?_
   refine jg_iload_n dX12_anHour_46 rfl ?_
   refine jg_icmp_ge (x := l2) (y := l1) (tgt := 89) dX12_anHour_47 (by decide) (fun c4 => ?_) (fun c4 => ?_)
   · replace h := it_t c4 h
     refine jg_fg (L' := [some (.ref r), some (.int l1), none]) (by repeat (first | exact trivial | refine ⟨rfl, ?_⟩ | show jg_le _ _)) ?_
     obtain rfl := Option.some.inj h
     exact K1
   · replace h := it_f c4 h
     refine jg_aload_n dX12_anHour_50 rfl ?_
     refine jg_iload_n dX12_anHour_51 rfl ?_
     refine jg_bipush (v := nI 9) dX12_anHour_52 (by decide) ?_
     obtain ⟨x5, e_x5, h⟩ := bd_some h
     refine rs_call (As := [.int l2, .int (nI 9)]) kv_X12_137 dX12_anHour_54 hr rfl rfl (by decide) (Nat.le_of_ble_eq_true rfl) rfl (by decide) (Nat.le_of_ble_eq_true rfl) (t_X12_of hr s l2 (nI 9) e_x5) ?_
     refine jg_iconst (v := nI 1) dX12_anHour_57 (by decide) ?_
     refine jg_icmp_ne (x := x5) (y := (nI 1)) (tgt := 83) dX12_anHour_58 (by decide) (fun c6 => ?_) (fun c6 => ?_)
     · replace h := it_f c6 h
       refine jg_iinc (x := l2) (v := l2 + nI 1) (L' := [some (.ref r), some (.int l1), some (.int (l2 + nI 1))]) dX12_anHour_83 rfl (ic_k _ (by decide)) (by decide) rfl ?_
       refine jg_goto (tgt := 45) dX12_anHour_86 (by decide) ?_
       refine jg_fg (L' := [some (.ref r), some (.int l1), some (.int (l2 + nI 1))]) (by repeat (first | exact trivial | refine ⟨rfl, ?_⟩ | show jg_le _ _)) ?_
       exact ih (l2 + nI 1) s h
     · replace h := it_t c6 h
       refine jg_aload_n dX12_anHour_61 rfl ?_
       refine jg_iload_n dX12_anHour_62 rfl ?_
       refine jg_bipush (v := nI 12) dX12_anHour_63 (by decide) ?_
       obtain ⟨x7, e_x7, h⟩ := bd_some h
       refine rs_call (As := [.int l2, .int (nI 12)]) kv_X12_137 dX12_anHour_65 hr rfl rfl (by decide) (Nat.le_of_ble_eq_true rfl) rfl (by decide) (Nat.le_of_ble_eq_true rfl) (t_X12_of hr s l2 (nI 12) e_x7) ?_
       refine jg_aload_n dX12_anHour_68 rfl ?_
       obtain ⟨x8, e_x8, h⟩ := bd_some h
       refine rs_call (As := []) kv_X12_73 dX12_anHour_69 hr rfl rfl (by decide) (Nat.le_of_ble_eq_true rfl) rfl (by decide) (Nat.le_of_ble_eq_true rfl) (t_X12_hour hr s e_x8) ?_
       refine jg_icmp_gt (x := x7) (y := x8) (tgt := 83) dX12_anHour_72 (by decide) (fun c9 => ?_) (fun c9 => ?_)
       · replace h := it_t c9 h
         refine jg_iinc (x := l2) (v := l2 + nI 1) (L' := [some (.ref r), some (.int l1), some (.int (l2 + nI 1))]) dX12_anHour_83 rfl (ic_k _ (by decide)) (by decide) rfl ?_
         refine jg_goto (tgt := 45) dX12_anHour_86 (by decide) ?_
         refine jg_fg (L' := [some (.ref r), some (.int l1), some (.int (l2 + nI 1))]) (by repeat (first | exact trivial | refine ⟨rfl, ?_⟩ | show jg_le _ _)) ?_
         exact ih (l2 + nI 1) s h
       · replace h := it_f c9 h
         refine jg_aload_n dX12_anHour_75 rfl ?_
         refine jg_iload_n dX12_anHour_76 rfl ?_
         refine jg_bipush (v := nI 9) dX12_anHour_77 (by decide) ?_
         refine jg_iconst (v := nI 2) dX12_anHour_79 (by decide) ?_
         obtain ⟨x10, e_x10, h⟩ := bd_some h
         refine rs_call (As := [.int l2, .int (nI 9), .int (nI 2)]) kv_X12_111 dX12_anHour_80 hr rfl rfl (by decide) (Nat.le_of_ble_eq_true rfl) rfl (by decide) (Nat.le_of_ble_eq_true rfl) (t_X12_sets hr s l2 (nI 9) (nI 2) e_x10) ?_
         refine jg_iinc (x := l2) (v := l2 + nI 1) (L' := [some (.ref r), some (.int l1), some (.int (l2 + nI 1))]) dX12_anHour_83 rfl (ic_k _ (by decide)) (by decide) rfl ?_
         refine jg_goto (tgt := 45) dX12_anHour_86 (by decide) ?_
         refine jg_fg (L' := [some (.ref r), some (.int l1), some (.int (l2 + nI 1))]) (by repeat (first | exact trivial | refine ⟨rfl, ?_⟩ | show jg_le _ _)) ?_
         exact ih (l2 + nI 1) x10 h
noncomputable def o_X12_anHour_91 (F : Nat) (l1 : Int32)  : Nat → Int32 → rs_S → Option (rs_S)
  | 0, _, _ => none
  | f + 1, l2, s => if l1 ≤ l2 then (some s) else ((o_X12_of s l2 (nI 9)).bind fun x13 => (if x13 = (nI 3) then ((o_X12_leaves F s l2).bind fun x15 => (o_X12_anHour_91 F l1 f (l2 + nI 1) x15)) else (o_X12_anHour_91 F l1 f (l2 + nI 1) s)))
set_option maxHeartbeats 4000000 in
theorem t_X12_anHour_91 {Γ : jg_G} {g : Nat → jg_C} {n r : Nat} (hr : r + 11 ≤ n) (F : Nat) (l1 : Int32)   (Q : jg_Q) {x : rs_S} (K1 : jg Γ mX12_anHour 6 0 0 118 [some (.ref r), some (.int l1), none] [] (rs_h g r x, n) Q)  : ∀ (f : Nat) (l2 : Int32) (s : rs_S), o_X12_anHour_91 F l1 f l2 s = some x → jg Γ mX12_anHour 6 0 0 91 [some (.ref r), some (.int l1), some (.int l2)] [] (rs_h g r s, n) Q := by
  intro f
  induction f with
  | zero => intro l2 s h; rw [o_X12_anHour_91] at h; cases h
  | succ f ih =>
   intro l2 s h
   rw [o_X12_anHour_91] at h
   refine jg_iload_n dX12_anHour_91 rfl ?_
   refine jg_iload_n dX12_anHour_92 rfl ?_
   refine jg_icmp_ge (x := l2) (y := l1) (tgt := 118) dX12_anHour_93 (by decide) (fun c12 => ?_) (fun c12 => ?_)
   · replace h := it_t c12 h
     refine jg_fg (L' := [some (.ref r), some (.int l1), none]) (by repeat (first | exact trivial | refine ⟨rfl, ?_⟩ | show jg_le _ _)) ?_
     obtain rfl := Option.some.inj h
     exact K1
   · replace h := it_f c12 h
     refine jg_aload_n dX12_anHour_96 rfl ?_
     refine jg_iload_n dX12_anHour_97 rfl ?_
     refine jg_bipush (v := nI 9) dX12_anHour_98 (by decide) ?_
     obtain ⟨x13, e_x13, h⟩ := bd_some h
     refine rs_call (As := [.int l2, .int (nI 9)]) kv_X12_137 dX12_anHour_100 hr rfl rfl (by decide) (Nat.le_of_ble_eq_true rfl) rfl (by decide) (Nat.le_of_ble_eq_true rfl) (t_X12_of hr s l2 (nI 9) e_x13) ?_
     refine jg_iconst (v := nI 3) dX12_anHour_103 (by decide) ?_
     refine jg_icmp_ne (x := x13) (y := (nI 3)) (tgt := 112) dX12_anHour_104 (by decide) (fun c14 => ?_) (fun c14 => ?_)
     · replace h := it_f c14 h
       refine jg_iinc (x := l2) (v := l2 + nI 1) (L' := [some (.ref r), some (.int l1), some (.int (l2 + nI 1))]) dX12_anHour_112 rfl (ic_k _ (by decide)) (by decide) rfl ?_
       refine jg_goto (tgt := 91) dX12_anHour_115 (by decide) ?_
       refine jg_fg (L' := [some (.ref r), some (.int l1), some (.int (l2 + nI 1))]) (by repeat (first | exact trivial | refine ⟨rfl, ?_⟩ | show jg_le _ _)) ?_
       exact ih (l2 + nI 1) s h
     · replace h := it_t c14 h
       refine jg_aload_n dX12_anHour_107 rfl ?_
       refine jg_iload_n dX12_anHour_108 rfl ?_
       obtain ⟨x15, e_x15, h⟩ := bd_some h
       refine rs_call (As := [.int l2]) kv_X12_184 dX12_anHour_109 hr rfl rfl (by decide) (Nat.le_of_ble_eq_true rfl) rfl (by decide) (Nat.le_of_ble_eq_true rfl) (t_X12_leaves hr F s l2 e_x15) ?_
       refine jg_iinc (x := l2) (v := l2 + nI 1) (L' := [some (.ref r), some (.int l1), some (.int (l2 + nI 1))]) dX12_anHour_112 rfl (ic_k _ (by decide)) (by decide) rfl ?_
       refine jg_goto (tgt := 91) dX12_anHour_115 (by decide) ?_
       refine jg_fg (L' := [some (.ref r), some (.int l1), some (.int (l2 + nI 1))]) (by repeat (first | exact trivial | refine ⟨rfl, ?_⟩ | show jg_le _ _)) ?_
       exact ih (l2 + nI 1) x15 h
noncomputable def o_X12_anHour_124 (F : Nat) (l1 : Int32)  : Nat → Int32 → rs_S → Option (rs_S)
  | 0, _, _ => none
  | f + 1, l2, s => if (s.1 6) ≤ l2 then (some s) else (if iL l2 80 then ((o_X12_comes F s (gR s 3 l2)).bind fun x20 => (o_X12_anHour_124 F l1 f (l2 + nI 1) x20)) else none)
set_option maxHeartbeats 4000000 in
theorem t_X12_anHour_124 {Γ : jg_G} {g : Nat → jg_C} {n r : Nat} (hr : r + 11 ≤ n) (F : Nat) (l1 : Int32)   (Q : jg_Q) {x : rs_S} (K1 : jg Γ mX12_anHour 6 0 0 148 [some (.ref r), some (.int l1), none] [] (rs_h g r x, n) Q)  : ∀ (f : Nat) (l2 : Int32) (s : rs_S), o_X12_anHour_124 F l1 f l2 s = some x → jg Γ mX12_anHour 6 0 0 124 [some (.ref r), some (.int l1), some (.int l2)] [] (rs_h g r s, n) Q := by
  intro f
  induction f with
  | zero => intro l2 s h; rw [o_X12_anHour_124] at h; cases h
  | succ f ih =>
   intro l2 s h
   rw [o_X12_anHour_124] at h
   refine jg_iload_n dX12_anHour_124 rfl ?_
   refine jg_aload_n dX12_anHour_125 rfl ?_
   refine rs_ga fl_X12_150 dX12_anHour_126 hr rfl ?_
   refine jg_icmp_ge (x := l2) (y := (s.1 6)) (tgt := 148) dX12_anHour_129 (by decide) (fun c18 => ?_) (fun c18 => ?_)
   · replace h := it_t c18 h
     refine jg_fg (L' := [some (.ref r), some (.int l1), none]) (by repeat (first | exact trivial | refine ⟨rfl, ?_⟩ | show jg_le _ _)) ?_
     obtain rfl := Option.some.inj h
     exact K1
   · replace h := it_f c18 h
     refine jg_aload_n dX12_anHour_132 rfl ?_
     refine jg_aload_n dX12_anHour_133 rfl ?_
     refine rs_ga fl_X12_23 dX12_anHour_134 hr rfl ?_
     refine jg_iload_n dX12_anHour_137 rfl ?_
     obtain ⟨q19, h⟩ := gd_some h
     refine rs_ldD (s := s) (i := l2) (j := 2) dX12_anHour_138 hr (by decide) rfl q19 ?_
     obtain ⟨x20, e_x20, h⟩ := bd_some h
     refine rs_call (As := [.int (gR s 3 l2)]) kv_X12_190 dX12_anHour_139 hr rfl rfl (by decide) (Nat.le_of_ble_eq_true rfl) rfl (by decide) (Nat.le_of_ble_eq_true rfl) (t_X12_comes hr F s (gR s 3 l2) e_x20) ?_
     refine jg_iinc (x := l2) (v := l2 + nI 1) (L' := [some (.ref r), some (.int l1), some (.int (l2 + nI 1))]) dX12_anHour_142 rfl (ic_k _ (by decide)) (by decide) rfl ?_
     refine jg_goto (tgt := 124) dX12_anHour_145 (by decide) ?_
     refine jg_fg (L' := [some (.ref r), some (.int l1), some (.int (l2 + nI 1))]) (by repeat (first | exact trivial | refine ⟨rfl, ?_⟩ | show jg_le _ _)) ?_
     exact ih (l2 + nI 1) x20 h
noncomputable def o_X12_anHour_150 (F : Nat) (l1 : Int32)  : Nat → Int32 → rs_S → Option (rs_S)
  | 0, _, _ => none
  | f + 1, l2, s => if l1 ≤ l2 then (some s) else ((o_X12_of s l2 (nI 9)).bind fun x23 => (if x23 = (nI 2) then ((o_X12_unloads s l2).bind fun x25 => (o_X12_anHour_150 F l1 f (l2 + nI 1) x25)) else (o_X12_anHour_150 F l1 f (l2 + nI 1) s)))
set_option maxHeartbeats 4000000 in
theorem t_X12_anHour_150 {Γ : jg_G} {g : Nat → jg_C} {n r : Nat} (hr : r + 11 ≤ n) (F : Nat) (l1 : Int32)   (Q : jg_Q) {x : rs_S} (K1 : jg Γ mX12_anHour 6 0 0 177 [some (.ref r), none, none] [] (rs_h g r x, n) Q)  : ∀ (f : Nat) (l2 : Int32) (s : rs_S), o_X12_anHour_150 F l1 f l2 s = some x → jg Γ mX12_anHour 6 0 0 150 [some (.ref r), some (.int l1), some (.int l2)] [] (rs_h g r s, n) Q := by
  intro f
  induction f with
  | zero => intro l2 s h; rw [o_X12_anHour_150] at h; cases h
  | succ f ih =>
   intro l2 s h
   rw [o_X12_anHour_150] at h
   refine jg_iload_n dX12_anHour_150 rfl ?_
   refine jg_iload_n dX12_anHour_151 rfl ?_
   refine jg_icmp_ge (x := l2) (y := l1) (tgt := 177) dX12_anHour_152 (by decide) (fun c22 => ?_) (fun c22 => ?_)
   · replace h := it_t c22 h
     refine jg_fg (L' := [some (.ref r), none, none]) (by repeat (first | exact trivial | refine ⟨rfl, ?_⟩ | show jg_le _ _)) ?_
     obtain rfl := Option.some.inj h
     exact K1
   · replace h := it_f c22 h
     refine jg_aload_n dX12_anHour_155 rfl ?_
     refine jg_iload_n dX12_anHour_156 rfl ?_
     refine jg_bipush (v := nI 9) dX12_anHour_157 (by decide) ?_
     obtain ⟨x23, e_x23, h⟩ := bd_some h
     refine rs_call (As := [.int l2, .int (nI 9)]) kv_X12_137 dX12_anHour_159 hr rfl rfl (by decide) (Nat.le_of_ble_eq_true rfl) rfl (by decide) (Nat.le_of_ble_eq_true rfl) (t_X12_of hr s l2 (nI 9) e_x23) ?_
     refine jg_iconst (v := nI 2) dX12_anHour_162 (by decide) ?_
     refine jg_icmp_ne (x := x23) (y := (nI 2)) (tgt := 171) dX12_anHour_163 (by decide) (fun c24 => ?_) (fun c24 => ?_)
     · replace h := it_f c24 h
       refine jg_iinc (x := l2) (v := l2 + nI 1) (L' := [some (.ref r), some (.int l1), some (.int (l2 + nI 1))]) dX12_anHour_171 rfl (ic_k _ (by decide)) (by decide) rfl ?_
       refine jg_goto (tgt := 150) dX12_anHour_174 (by decide) ?_
       refine jg_fg (L' := [some (.ref r), some (.int l1), some (.int (l2 + nI 1))]) (by repeat (first | exact trivial | refine ⟨rfl, ?_⟩ | show jg_le _ _)) ?_
       exact ih (l2 + nI 1) s h
     · replace h := it_t c24 h
       refine jg_aload_n dX12_anHour_166 rfl ?_
       refine jg_iload_n dX12_anHour_167 rfl ?_
       obtain ⟨x25, e_x25, h⟩ := bd_some h
       refine rs_call (As := [.int l2]) kv_X12_193 dX12_anHour_168 hr rfl rfl (by decide) (Nat.le_of_ble_eq_true rfl) rfl (by decide) (Nat.le_of_ble_eq_true rfl) (t_X12_unloads hr s l2 e_x25) ?_
       refine jg_iinc (x := l2) (v := l2 + nI 1) (L' := [some (.ref r), some (.int l1), some (.int (l2 + nI 1))]) dX12_anHour_171 rfl (ic_k _ (by decide)) (by decide) rfl ?_
       refine jg_goto (tgt := 150) dX12_anHour_174 (by decide) ?_
       refine jg_fg (L' := [some (.ref r), some (.int l1), some (.int (l2 + nI 1))]) (by repeat (first | exact trivial | refine ⟨rfl, ?_⟩ | show jg_le _ _)) ?_
       exact ih (l2 + nI 1) x25 h
noncomputable def o_X12_anHour_179 (F : Nat)   : Nat → Int32 → rs_S → Option (rs_S)
  | 0, _, _ => none
  | f + 1, l2, s => if (gW s (nI 1081)) ≤ l2 then (some s) else ((o_X12_hauls F s).bind fun x28 => (o_X12_anHour_179 F f (l2 + nI 1) x28))
set_option maxHeartbeats 4000000 in
theorem t_X12_anHour_179 {Γ : jg_G} {g : Nat → jg_C} {n r : Nat} (hr : r + 11 ≤ n) (F : Nat)    (Q : jg_Q) {x : rs_S} (K1 : jg Γ mX12_anHour 6 0 0 201 [some (.ref r), none, none] [] (rs_h g r x, n) Q)  : ∀ (f : Nat) (l2 : Int32) (s : rs_S), o_X12_anHour_179 F f l2 s = some x → jg Γ mX12_anHour 6 0 0 179 [some (.ref r), none, some (.int l2)] [] (rs_h g r s, n) Q := by
  intro f
  induction f with
  | zero => intro l2 s h; rw [o_X12_anHour_179] at h; cases h
  | succ f ih =>
   intro l2 s h
   rw [o_X12_anHour_179] at h
   refine jg_iload_n dX12_anHour_179 rfl ?_
   refine jg_aload_n dX12_anHour_180 rfl ?_
   refine rs_ga fl_X12_13 dX12_anHour_181 hr rfl ?_
   refine jg_sipush (v := nI 1081) dX12_anHour_184 (by decide) ?_
   refine rs_lwD (s := s) (i := (nI 1081)) dX12_anHour_187 hr (by decide) ?_
   refine jg_icmp_ge (x := l2) (y := (gW s (nI 1081))) (tgt := 201) dX12_anHour_188 (by decide) (fun c27 => ?_) (fun c27 => ?_)
   · replace h := it_t c27 h
     refine jg_fg (L' := [some (.ref r), none, none]) (by repeat (first | exact trivial | refine ⟨rfl, ?_⟩ | show jg_le _ _)) ?_
     obtain rfl := Option.some.inj h
     exact K1
   · replace h := it_f c27 h
     refine jg_aload_n dX12_anHour_191 rfl ?_
     obtain ⟨x28, e_x28, h⟩ := bd_some h
     refine rs_call (As := []) kv_X12_196 dX12_anHour_192 hr rfl rfl (by decide) (Nat.le_of_ble_eq_true rfl) rfl (by decide) (Nat.le_of_ble_eq_true rfl) (t_X12_hauls hr F s e_x28) ?_
     refine jg_iinc (x := l2) (v := l2 + nI 1) (L' := [some (.ref r), none, some (.int (l2 + nI 1))]) dX12_anHour_195 rfl (ic_k _ (by decide)) (by decide) rfl ?_
     refine jg_goto (tgt := 179) dX12_anHour_198 (by decide) ?_
     refine jg_fg (L' := [some (.ref r), none, some (.int (l2 + nI 1))]) (by repeat (first | exact trivial | refine ⟨rfl, ?_⟩ | show jg_le _ _)) ?_
     exact ih (l2 + nI 1) x28 h
noncomputable def o_X12_anHour_203 (F : Nat)   : Nat → Int32 → rs_S → Option (rs_S)
  | 0, _, _ => none
  | f + 1, l2, s => if (gW s (nI 999)) ≤ l2 then (some s) else ((o_X12_berthOf s l2 (nI 4)).bind fun x31 => ((o_X12_berthOf s l2 (nI 3)).bind fun x32 => (if x31 ≤ x32 then (o_X12_anHour_203 F f (l2 + nI 1) s) else ((o_X12_berthAt s l2 (nI 5)).bind fun x34 => (if iL x34 22216 then (o_X12_anHour_203 F f (l2 + nI 1) (pW s x34 ((gW s x34) + (nI 1)))) else none)))))
set_option maxHeartbeats 4000000 in
theorem t_X12_anHour_203 {Γ : jg_G} {g : Nat → jg_C} {n r : Nat} (hr : r + 11 ≤ n) (F : Nat)    (Q : jg_Q) {x : rs_S} (K1 : jg Γ mX12_anHour 6 0 0 250 [some (.ref r), none, none] [] (rs_h g r x, n) Q)  : ∀ (f : Nat) (l2 : Int32) (s : rs_S), o_X12_anHour_203 F f l2 s = some x → jg Γ mX12_anHour 6 0 0 203 [some (.ref r), none, some (.int l2)] [] (rs_h g r s, n) Q := by
  intro f
  induction f with
  | zero => intro l2 s h; rw [o_X12_anHour_203] at h; cases h
  | succ f ih =>
   intro l2 s h
   rw [o_X12_anHour_203] at h
   refine jg_iload_n dX12_anHour_203 rfl ?_
   refine jg_aload_n dX12_anHour_204 rfl ?_
   refine rs_ga fl_X12_13 dX12_anHour_205 hr rfl ?_
   refine jg_sipush (v := nI 999) dX12_anHour_208 (by decide) ?_
   refine rs_lwD (s := s) (i := (nI 999)) dX12_anHour_211 hr (by decide) ?_
   refine jg_icmp_ge (x := l2) (y := (gW s (nI 999))) (tgt := 250) dX12_anHour_212 (by decide) (fun c30 => ?_) (fun c30 => ?_)
   · replace h := it_t c30 h
     refine jg_fg (L' := [some (.ref r), none, none]) (by repeat (first | exact trivial | refine ⟨rfl, ?_⟩ | show jg_le _ _)) ?_
     obtain rfl := Option.some.inj h
     exact K1
   · replace h := it_f c30 h
     refine jg_aload_n dX12_anHour_215 rfl ?_
     refine jg_iload_n dX12_anHour_216 rfl ?_
     refine jg_iconst (v := nI 4) dX12_anHour_217 (by decide) ?_
     obtain ⟨x31, e_x31, h⟩ := bd_some h
     refine rs_call (As := [.int l2, .int (nI 4)]) kv_X12_140 dX12_anHour_218 hr rfl rfl (by decide) (Nat.le_of_ble_eq_true rfl) rfl (by decide) (Nat.le_of_ble_eq_true rfl) (t_X12_berthOf hr s l2 (nI 4) e_x31) ?_
     refine jg_aload_n dX12_anHour_221 rfl ?_
     refine jg_iload_n dX12_anHour_222 rfl ?_
     refine jg_iconst (v := nI 3) dX12_anHour_223 (by decide) ?_
     obtain ⟨x32, e_x32, h⟩ := bd_some h
     refine rs_call (As := [.int l2, .int (nI 3)]) kv_X12_140 dX12_anHour_224 hr rfl rfl (by decide) (Nat.le_of_ble_eq_true rfl) rfl (by decide) (Nat.le_of_ble_eq_true rfl) (t_X12_berthOf hr s l2 (nI 3) e_x32) ?_
     refine jg_icmp_le (x := x31) (y := x32) (tgt := 244) dX12_anHour_227 (by decide) (fun c33 => ?_) (fun c33 => ?_)
     · replace h := it_t c33 h
       refine jg_iinc (x := l2) (v := l2 + nI 1) (L' := [some (.ref r), none, some (.int (l2 + nI 1))]) dX12_anHour_244 rfl (ic_k _ (by decide)) (by decide) rfl ?_
       refine jg_goto (tgt := 203) dX12_anHour_247 (by decide) ?_
       refine jg_fg (L' := [some (.ref r), none, some (.int (l2 + nI 1))]) (by repeat (first | exact trivial | refine ⟨rfl, ?_⟩ | show jg_le _ _)) ?_
       exact ih (l2 + nI 1) s h
     · replace h := it_f c33 h
       refine jg_aload_n dX12_anHour_230 rfl ?_
       refine rs_ga fl_X12_13 dX12_anHour_231 hr rfl ?_
       refine jg_iload_n dX12_anHour_234 rfl ?_
       refine jg_iconst (v := nI 5) dX12_anHour_235 (by decide) ?_
       obtain ⟨x34, e_x34, h⟩ := bd_some h
       refine rs_callS (As := [.int l2, .int (nI 5)]) ks_X12_100 dX12_anHour_236 rfl (by decide) (Nat.le_of_ble_eq_true rfl) rfl (by decide) (Nat.le_of_ble_eq_true rfl) (t_X12_berthAt hr s l2 (nI 5) e_x34) ?_
       refine jg_dup2 dX12_anHour_239 rfl rfl ?_
       obtain ⟨q35, h⟩ := gd_some h
       refine rs_lwD (s := s) (i := x34) dX12_anHour_240 hr q35 ?_
       refine jg_iconst (v := nI 1) dX12_anHour_241 (by decide) ?_
       refine jg_iadd (x := (gW s x34)) (y := (nI 1)) dX12_anHour_242  ?_
       refine rs_swD (s := s) (i := x34) (x := ((gW s x34) + (nI 1))) dX12_anHour_243 hr q35 ?_
       refine jg_iinc (x := l2) (v := l2 + nI 1) (L' := [some (.ref r), none, some (.int (l2 + nI 1))]) dX12_anHour_244 rfl (ic_k _ (by decide)) (by decide) rfl ?_
       refine jg_goto (tgt := 203) dX12_anHour_247 (by decide) ?_
       refine jg_fg (L' := [some (.ref r), none, some (.int (l2 + nI 1))]) (by repeat (first | exact trivial | refine ⟨rfl, ?_⟩ | show jg_le _ _)) ?_
       exact ih (l2 + nI 1) (pW s x34 ((gW s x34) + (nI 1))) h
noncomputable def o_X12_anHour (F : Nat) (s : rs_S) : Option (rs_S) := (o_X12_hour (pW s (nI 0) ((gW s (nI 0)) + (nI 1)))).bind fun x1 => (if iL ((nI 1082) + (irm (x1 + (nI 7)) (nI 8))) 22216 then ((o_X12_looks F (pW (pW s (nI 0) ((gW s (nI 0)) + (nI 1))) ((nI 1082) + (irm (x1 + (nI 7)) (nI 8))) (nI 0))).bind fun x3 => ((o_X12_anHour_45 F (gW x3 (nI 1211)) F (nI 0) x3).bind fun x11 => ((o_X12_anHour_91 F (gW x3 (nI 1211)) F (nI 0) x11).bind fun x16 => ((o_X12_lines F x16).bind fun x17 => ((o_X12_anHour_124 F (gW x3 (nI 1211)) F (nI 0) x17).bind fun x21 => ((o_X12_anHour_150 F (gW x3 (nI 1211)) F (nI 0) x21).bind fun x26 => ((o_X12_anHour_179 F F (nI 0) x26).bind fun x29 => ((o_X12_anHour_203 F F (nI 0) x29).bind fun x36 => ((o_X12_hour x36).bind fun x37 => (if (irm x37 (nI 24)) = 0 then ((o_X12_dayEnds F x36).bind fun x42 => ((o_X12_hour x42).bind fun x43 => (if (irm x43 (nI 2400)) = 0 then ((o_X12_yearEnds F x42).bind fun x45 => (some x45)) else (some x42)))) else ((o_X12_hour x36).bind fun x39 => (if (irm x39 (nI 2400)) = 0 then ((o_X12_yearEnds F x36).bind fun x41 => (some x41)) else (some x36))))))))))))) else none)
set_option maxHeartbeats 4000000 in
theorem t_X12_anHour {Γ : jg_G} {g : Nat → jg_C} {n r : Nat} (hr : r + 11 ≤ n) (F : Nat) (s : rs_S)  {x : rs_S} (h : o_X12_anHour F s = some x) : jc Γ mX12_anHour 6 0 0 [some (.ref r), none, none] (rs_h g r s, n) (.inl none) (rs_h g r x, n) := by
  refine jc_of ?_
  rw [o_X12_anHour] at h
  refine jg_aload_n dX12_anHour_0 rfl ?_
  refine rs_ga fl_X12_13 dX12_anHour_1 hr rfl ?_
  refine jg_iconst (v := nI 0) dX12_anHour_4 (by decide) ?_
  refine jg_dup2 dX12_anHour_5 rfl rfl ?_
  refine rs_lwD (s := s) (i := (nI 0)) dX12_anHour_6 hr (by decide) ?_
  refine jg_iconst (v := nI 1) dX12_anHour_7 (by decide) ?_
  refine jg_iadd (x := (gW s (nI 0))) (y := (nI 1)) dX12_anHour_8  ?_
  refine rs_swD (s := s) (i := (nI 0)) (x := ((gW s (nI 0)) + (nI 1))) dX12_anHour_9 hr (by decide) ?_
  refine jg_aload_n dX12_anHour_10 rfl ?_
  refine rs_ga fl_X12_13 dX12_anHour_11 hr rfl ?_
  refine jg_sipush (v := nI 1082) dX12_anHour_14 (by decide) ?_
  refine jg_aload_n dX12_anHour_17 rfl ?_
  obtain ⟨x1, e_x1, h⟩ := bd_some h
  refine rs_call (As := []) kv_X12_73 dX12_anHour_18 hr rfl rfl (by decide) (Nat.le_of_ble_eq_true rfl) rfl (by decide) (Nat.le_of_ble_eq_true rfl) (t_X12_hour hr (pW s (nI 0) ((gW s (nI 0)) + (nI 1))) e_x1) ?_
  refine jg_bipush (v := nI 7) dX12_anHour_21 (by decide) ?_
  refine jg_iadd (x := x1) (y := (nI 7)) dX12_anHour_23  ?_
  refine jg_bipush (v := nI 8) dX12_anHour_24 (by decide) ?_
  refine jg_iremR (x := (x1 + (nI 7))) (y := (nI 8)) dX12_anHour_26 (by decide) ?_
  refine jg_iadd (x := (nI 1082)) (y := (irm (x1 + (nI 7)) (nI 8))) dX12_anHour_27  ?_
  refine jg_iconst (v := nI 0) dX12_anHour_28 (by decide) ?_
  obtain ⟨q2, h⟩ := gd_some h
  refine rs_swD (s := (pW s (nI 0) ((gW s (nI 0)) + (nI 1)))) (i := ((nI 1082) + (irm (x1 + (nI 7)) (nI 8)))) (x := (nI 0)) dX12_anHour_29 hr q2 ?_
  refine jg_aload_n dX12_anHour_30 rfl ?_
  obtain ⟨x3, e_x3, h⟩ := bd_some h
  refine rs_call (As := []) kv_X12_134 dX12_anHour_31 hr rfl rfl (by decide) (Nat.le_of_ble_eq_true rfl) rfl (by decide) (Nat.le_of_ble_eq_true rfl) (t_X12_looks hr F (pW (pW s (nI 0) ((gW s (nI 0)) + (nI 1))) ((nI 1082) + (irm (x1 + (nI 7)) (nI 8))) (nI 0)) e_x3) ?_
  refine jg_aload_n dX12_anHour_34 rfl ?_
  refine rs_ga fl_X12_13 dX12_anHour_35 hr rfl ?_
  refine jg_sipush (v := nI 1211) dX12_anHour_38 (by decide) ?_
  refine rs_lwD (s := x3) (i := (nI 1211)) dX12_anHour_41 hr (by decide) ?_
  refine jg_istore_n (L' := [some (.ref r), some (.int (gW x3 (nI 1211))), none]) dX12_anHour_42 (by decide) rfl ?_
  refine jg_iconst (v := nI 0) dX12_anHour_43 (by decide) ?_
  refine jg_istore_n (L' := [some (.ref r), some (.int (gW x3 (nI 1211))), some (.int (nI 0))]) dX12_anHour_44 (by decide) rfl ?_
  obtain ⟨x11, e_x11, h⟩ := bd_some h
  refine jg_fg (L' := [some (.ref r), some (.int (gW x3 (nI 1211))), some (.int (nI 0))]) (by repeat (first | exact trivial | refine ⟨rfl, ?_⟩ | show jg_le _ _)) ?_
  refine t_X12_anHour_45 hr F (gW x3 (nI 1211))  _ (x := x11) ?_ F (nI 0) x3 e_x11
  refine jg_iconst (v := nI 0) dX12_anHour_89 (by decide) ?_
  refine jg_istore_n (L' := [some (.ref r), some (.int (gW x3 (nI 1211))), some (.int (nI 0))]) dX12_anHour_90 (by decide) rfl ?_
  obtain ⟨x16, e_x16, h⟩ := bd_some h
  refine jg_fg (L' := [some (.ref r), some (.int (gW x3 (nI 1211))), some (.int (nI 0))]) (by repeat (first | exact trivial | refine ⟨rfl, ?_⟩ | show jg_le _ _)) ?_
  refine t_X12_anHour_91 hr F (gW x3 (nI 1211))  _ (x := x16) ?_ F (nI 0) x11 e_x16
  refine jg_aload_n dX12_anHour_118 rfl ?_
  obtain ⟨x17, e_x17, h⟩ := bd_some h
  refine rs_call (As := []) kv_X12_187 dX12_anHour_119 hr rfl rfl (by decide) (Nat.le_of_ble_eq_true rfl) rfl (by decide) (Nat.le_of_ble_eq_true rfl) (t_X12_lines hr F x16 e_x17) ?_
  refine jg_iconst (v := nI 0) dX12_anHour_122 (by decide) ?_
  refine jg_istore_n (L' := [some (.ref r), some (.int (gW x3 (nI 1211))), some (.int (nI 0))]) dX12_anHour_123 (by decide) rfl ?_
  obtain ⟨x21, e_x21, h⟩ := bd_some h
  refine jg_fg (L' := [some (.ref r), some (.int (gW x3 (nI 1211))), some (.int (nI 0))]) (by repeat (first | exact trivial | refine ⟨rfl, ?_⟩ | show jg_le _ _)) ?_
  refine t_X12_anHour_124 hr F (gW x3 (nI 1211))  _ (x := x21) ?_ F (nI 0) x17 e_x21
  refine jg_iconst (v := nI 0) dX12_anHour_148 (by decide) ?_
  refine jg_istore_n (L' := [some (.ref r), some (.int (gW x3 (nI 1211))), some (.int (nI 0))]) dX12_anHour_149 (by decide) rfl ?_
  obtain ⟨x26, e_x26, h⟩ := bd_some h
  refine jg_fg (L' := [some (.ref r), some (.int (gW x3 (nI 1211))), some (.int (nI 0))]) (by repeat (first | exact trivial | refine ⟨rfl, ?_⟩ | show jg_le _ _)) ?_
  refine t_X12_anHour_150 hr F (gW x3 (nI 1211))  _ (x := x26) ?_ F (nI 0) x21 e_x26
  refine jg_iconst (v := nI 0) dX12_anHour_177 (by decide) ?_
  refine jg_istore_n (L' := [some (.ref r), none, some (.int (nI 0))]) dX12_anHour_178 (by decide) rfl ?_
  obtain ⟨x29, e_x29, h⟩ := bd_some h
  refine jg_fg (L' := [some (.ref r), none, some (.int (nI 0))]) (by repeat (first | exact trivial | refine ⟨rfl, ?_⟩ | show jg_le _ _)) ?_
  refine t_X12_anHour_179 hr F  _ (x := x29) ?_ F (nI 0) x26 e_x29
  refine jg_iconst (v := nI 0) dX12_anHour_201 (by decide) ?_
  refine jg_istore_n (L' := [some (.ref r), none, some (.int (nI 0))]) dX12_anHour_202 (by decide) rfl ?_
  obtain ⟨x36, e_x36, h⟩ := bd_some h
  refine jg_fg (L' := [some (.ref r), none, some (.int (nI 0))]) (by repeat (first | exact trivial | refine ⟨rfl, ?_⟩ | show jg_le _ _)) ?_
  refine t_X12_anHour_203 hr F  _ (x := x36) ?_ F (nI 0) x29 e_x36
  refine jg_aload_n dX12_anHour_250 rfl ?_
  obtain ⟨x37, e_x37, h⟩ := bd_some h
  refine rs_call (As := []) kv_X12_73 dX12_anHour_251 hr rfl rfl (by decide) (Nat.le_of_ble_eq_true rfl) rfl (by decide) (Nat.le_of_ble_eq_true rfl) (t_X12_hour hr x36 e_x37) ?_
  refine jg_bipush (v := nI 24) dX12_anHour_254 (by decide) ?_
  refine jg_iremR (x := x37) (y := (nI 24)) dX12_anHour_256 (by decide) ?_
  refine jg_if_ne (x := (irm x37 (nI 24))) (tgt := 264) dX12_anHour_257 (by decide) (fun c38 => ?_) (fun c38 => ?_)
  · replace h := it_f c38 h
    refine jg_aload_n dX12_anHour_264 rfl ?_
    obtain ⟨x39, e_x39, h⟩ := bd_some h
    refine rs_call (As := []) kv_X12_73 dX12_anHour_265 hr rfl rfl (by decide) (Nat.le_of_ble_eq_true rfl) rfl (by decide) (Nat.le_of_ble_eq_true rfl) (t_X12_hour hr x36 e_x39) ?_
    refine jg_sipush (v := nI 2400) dX12_anHour_268 (by decide) ?_
    refine jg_iremR (x := x39) (y := (nI 2400)) dX12_anHour_271 (by decide) ?_
    refine jg_if_ne (x := (irm x39 (nI 2400))) (tgt := 279) dX12_anHour_272 (by decide) (fun c40 => ?_) (fun c40 => ?_)
    · replace h := it_f c40 h
      obtain rfl := Option.some.inj h
      exact jg_return dX12_anHour_279 rfl ⟨rfl, rfl⟩
    · replace h := it_t c40 h
      refine jg_aload_n dX12_anHour_275 rfl ?_
      obtain ⟨x41, e_x41, h⟩ := bd_some h
      refine rs_call (As := []) kv_X12_202 dX12_anHour_276 hr rfl rfl (by decide) (Nat.le_of_ble_eq_true rfl) rfl (by decide) (Nat.le_of_ble_eq_true rfl) (t_X12_yearEnds hr F x36 e_x41) ?_
      obtain rfl := Option.some.inj h
      exact jg_return dX12_anHour_279 rfl ⟨rfl, rfl⟩
  · replace h := it_t c38 h
    refine jg_aload_n dX12_anHour_260 rfl ?_
    obtain ⟨x42, e_x42, h⟩ := bd_some h
    refine rs_call (As := []) kv_X12_199 dX12_anHour_261 hr rfl rfl (by decide) (Nat.le_of_ble_eq_true rfl) rfl (by decide) (Nat.le_of_ble_eq_true rfl) (t_X12_dayEnds hr F x36 e_x42) ?_
    refine jg_aload_n dX12_anHour_264 rfl ?_
    obtain ⟨x43, e_x43, h⟩ := bd_some h
    refine rs_call (As := []) kv_X12_73 dX12_anHour_265 hr rfl rfl (by decide) (Nat.le_of_ble_eq_true rfl) rfl (by decide) (Nat.le_of_ble_eq_true rfl) (t_X12_hour hr x42 e_x43) ?_
    refine jg_sipush (v := nI 2400) dX12_anHour_268 (by decide) ?_
    refine jg_iremR (x := x43) (y := (nI 2400)) dX12_anHour_271 (by decide) ?_
    refine jg_if_ne (x := (irm x43 (nI 2400))) (tgt := 279) dX12_anHour_272 (by decide) (fun c44 => ?_) (fun c44 => ?_)
    · replace h := it_f c44 h
      obtain rfl := Option.some.inj h
      exact jg_return dX12_anHour_279 rfl ⟨rfl, rfl⟩
    · replace h := it_t c44 h
      refine jg_aload_n dX12_anHour_275 rfl ?_
      obtain ⟨x45, e_x45, h⟩ := bd_some h
      refine rs_call (As := []) kv_X12_202 dX12_anHour_276 hr rfl rfl (by decide) (Nat.le_of_ble_eq_true rfl) rfl (by decide) (Nat.le_of_ble_eq_true rfl) (t_X12_yearEnds hr F x42 e_x45) ?_
      obtain rfl := Option.some.inj h
      exact jg_return dX12_anHour_279 rfl ⟨rfl, rfl⟩
theorem dX12_hours_0 : decode cX12_hours 0 = .ok (.aload_n 0, 1) := by decide +kernel
theorem dX12_hours_1 : decode cX12_hours 1 = .ok (.iconst 0, 1) := by decide +kernel
theorem dX12_hours_2 : decode cX12_hours 2 = .ok (.putfield 3, 3) := by decide +kernel
theorem dX12_hours_5 : decode cX12_hours 5 = .ok (.aload_n 0, 1) := by decide +kernel
theorem dX12_hours_6 : decode cX12_hours 6 = .ok (.iload_n 1, 1) := by decide +kernel
theorem dX12_hours_7 : decode cX12_hours 7 = .ok (.iconst 0, 1) := by decide +kernel
theorem dX12_hours_8 : decode cX12_hours 8 = .ok (.bipush 120, 2) := by decide +kernel
theorem dX12_hours_10 : decode cX12_hours 10 = .ok (.invokestatic 49, 3) := by decide +kernel
theorem dX12_hours_13 : decode cX12_hours 13 = .ok (.ifCond .ne 7, 3) := by decide +kernel
theorem dX12_hours_16 : decode cX12_hours 16 = .ok (.iconst 1, 1) := by decide +kernel
theorem dX12_hours_17 : decode cX12_hours 17 = .ok (.goto 4, 3) := by decide +kernel
theorem dX12_hours_20 : decode cX12_hours 20 = .ok (.iconst 0, 1) := by decide +kernel
theorem dX12_hours_21 : decode cX12_hours 21 = .ok (.iconst 1, 1) := by decide +kernel
theorem dX12_hours_22 : decode cX12_hours 22 = .ok (.invokevirtual 69, 3) := by decide +kernel
theorem dX12_hours_25 : decode cX12_hours 25 = .ok (.ifCond .eq 5, 3) := by decide +kernel
theorem dX12_hours_28 : decode cX12_hours 28 = .ok (.iconst 0, 1) := by decide +kernel
theorem dX12_hours_29 : decode cX12_hours 29 = .ok (.ireturn, 1) := by decide +kernel
theorem dX12_hours_30 : decode cX12_hours 30 = .ok (.iconst 0, 1) := by decide +kernel
theorem dX12_hours_31 : decode cX12_hours 31 = .ok (.istore_n 2, 1) := by decide +kernel
theorem dX12_hours_32 : decode cX12_hours 32 = .ok (.iload_n 2, 1) := by decide +kernel
theorem dX12_hours_33 : decode cX12_hours 33 = .ok (.iload_n 1, 1) := by decide +kernel
theorem dX12_hours_34 : decode cX12_hours 34 = .ok (.if_icmp .ge 23, 3) := by decide +kernel
theorem dX12_hours_37 : decode cX12_hours 37 = .ok (.aload_n 0, 1) := by decide +kernel
theorem dX12_hours_38 : decode cX12_hours 38 = .ok (.invokevirtual 73, 3) := by decide +kernel
theorem dX12_hours_41 : decode cX12_hours 41 = .ok (.sipush 30000, 3) := by decide +kernel
theorem dX12_hours_44 : decode cX12_hours 44 = .ok (.if_icmp .ge 13, 3) := by decide +kernel
theorem dX12_hours_47 : decode cX12_hours 47 = .ok (.aload_n 0, 1) := by decide +kernel
theorem dX12_hours_48 : decode cX12_hours 48 = .ok (.invokevirtual 205, 3) := by decide +kernel
theorem dX12_hours_51 : decode cX12_hours 51 = .ok (.iinc 2 1, 3) := by decide +kernel
theorem dX12_hours_54 : decode cX12_hours 54 = .ok (.goto (-22), 3) := by decide +kernel
theorem dX12_hours_57 : decode cX12_hours 57 = .ok (.aload_n 0, 1) := by decide +kernel
theorem dX12_hours_58 : decode cX12_hours 58 = .ok (.invokevirtual 73, 3) := by decide +kernel
theorem dX12_hours_61 : decode cX12_hours 61 = .ok (.ireturn, 1) := by decide +kernel
noncomputable def o_X12_hours_32 (F : Nat) (l1 : Int32)  : Nat → Int32 → rs_S → Option (rs_S)
  | 0, _, _ => none
  | f + 1, l2, s => if l1 ≤ l2 then (some s) else ((o_X12_hour s).bind fun x4 => (if (nI 30000) ≤ x4 then (some s) else ((o_X12_anHour F s).bind fun x6 => (o_X12_hours_32 F l1 f (l2 + nI 1) x6))))
set_option maxHeartbeats 4000000 in
theorem t_X12_hours_32 {Γ : jg_G} {g : Nat → jg_C} {n r : Nat} (hr : r + 11 ≤ n) (F : Nat) (l1 : Int32)   (Q : jg_Q) {x : rs_S} (K1 : jg Γ mX12_hours 7 0 0 57 [some (.ref r), none, none] [] (rs_h g r x, n) Q)  : ∀ (f : Nat) (l2 : Int32) (s : rs_S), o_X12_hours_32 F l1 f l2 s = some x → jg Γ mX12_hours 7 0 0 32 [some (.ref r), some (.int l1), some (.int l2)] [] (rs_h g r s, n) Q := by
  intro f
  induction f with
  | zero => intro l2 s h; rw [o_X12_hours_32] at h; cases h
  | succ f ih =>
   intro l2 s h
   rw [o_X12_hours_32] at h
   refine jg_iload_n dX12_hours_32 rfl ?_
   refine jg_iload_n dX12_hours_33 rfl ?_
   refine jg_icmp_ge (x := l2) (y := l1) (tgt := 57) dX12_hours_34 (by decide) (fun c3 => ?_) (fun c3 => ?_)
   · replace h := it_t c3 h
     refine jg_fg (L' := [some (.ref r), none, none]) (by repeat (first | exact trivial | refine ⟨rfl, ?_⟩ | show jg_le _ _)) ?_
     obtain rfl := Option.some.inj h
     exact K1
   · replace h := it_f c3 h
     refine jg_aload_n dX12_hours_37 rfl ?_
     obtain ⟨x4, e_x4, h⟩ := bd_some h
     refine rs_call (As := []) kv_X12_73 dX12_hours_38 hr rfl rfl (by decide) (Nat.le_of_ble_eq_true rfl) rfl (by decide) (Nat.le_of_ble_eq_true rfl) (t_X12_hour hr s e_x4) ?_
     refine jg_sipush (v := nI 30000) dX12_hours_41 (by decide) ?_
     refine jg_icmp_ge (x := x4) (y := (nI 30000)) (tgt := 57) dX12_hours_44 (by decide) (fun c5 => ?_) (fun c5 => ?_)
     · replace h := it_t c5 h
       refine jg_fg (L' := [some (.ref r), none, none]) (by repeat (first | exact trivial | refine ⟨rfl, ?_⟩ | show jg_le _ _)) ?_
       obtain rfl := Option.some.inj h
       exact K1
     · replace h := it_f c5 h
       refine jg_aload_n dX12_hours_47 rfl ?_
       obtain ⟨x6, e_x6, h⟩ := bd_some h
       refine rs_call (As := []) kv_X12_205 dX12_hours_48 hr rfl rfl (by decide) (Nat.le_of_ble_eq_true rfl) rfl (by decide) (Nat.le_of_ble_eq_true rfl) (t_X12_anHour hr F s e_x6) ?_
       refine jg_iinc (x := l2) (v := l2 + nI 1) (L' := [some (.ref r), some (.int l1), some (.int (l2 + nI 1))]) dX12_hours_51 rfl (ic_k _ (by decide)) (by decide) rfl ?_
       refine jg_goto (tgt := 32) dX12_hours_54 (by decide) ?_
       refine jg_fg (L' := [some (.ref r), some (.int l1), some (.int (l2 + nI 1))]) (by repeat (first | exact trivial | refine ⟨rfl, ?_⟩ | show jg_le _ _)) ?_
       exact ih (l2 + nI 1) x6 h
noncomputable def o_X12_hours (F : Nat) (s : rs_S) (a1 : Int32) : Option (Int32 × rs_S) := (o_X12_in (pN s 0 (nI 0)) a1 (nI 0) (nI 120)).bind fun x1 => (if x1 = 0 then (some (nI 0, pN (pN s 0 (nI 0)) 0 (nI 1))) else ((o_X12_hours_32 F a1 F (nI 0) (pN s 0 (nI 0))).bind fun x7 => ((o_X12_hour x7).bind fun x8 => (some (x8, x7)))))
set_option maxHeartbeats 4000000 in
theorem t_X12_hours {Γ : jg_G} {g : Nat → jg_C} {n r : Nat} (hr : r + 11 ≤ n) (F : Nat) (s : rs_S) (a1 : Int32)  {x : Int32 × rs_S} (h : o_X12_hours F s a1 = some x) : jc Γ mX12_hours 7 0 0 [some (.ref r), some (.int a1), none] (rs_h g r s, n) (.inl (some (.int x.1))) (rs_h g r x.2, n) := by
  refine jc_of ?_
  rw [o_X12_hours] at h
  refine jg_aload_n dX12_hours_0 rfl ?_
  refine jg_iconst (v := nI 0) dX12_hours_1 (by decide) ?_
  refine rs_putD (s := s) (k := 0) (x := (nI 0)) fl_X12_3 dX12_hours_2 hr (by decide) (rfl) rfl rfl ?_
  refine jg_aload_n dX12_hours_5 rfl ?_
  refine jg_iload_n dX12_hours_6 rfl ?_
  refine jg_iconst (v := nI 0) dX12_hours_7 (by decide) ?_
  refine jg_bipush (v := nI 120) dX12_hours_8 (by decide) ?_
  obtain ⟨x1, e_x1, h⟩ := bd_some h
  refine rs_callS (As := [.int a1, .int (nI 0), .int (nI 120)]) ks_X12_49 dX12_hours_10 rfl (by decide) (Nat.le_of_ble_eq_true rfl) rfl (by decide) (Nat.le_of_ble_eq_true rfl) (t_X12_in hr (pN s 0 (nI 0)) a1 (nI 0) (nI 120) e_x1) ?_
  refine jg_if_ne (x := x1) (tgt := 20) dX12_hours_13 (by decide) (fun c2 => ?_) (fun c2 => ?_)
  · replace h := it_f c2 h
    refine jg_iconst (v := nI 0) dX12_hours_20 (by decide) ?_
    refine jg_iconst (v := nI 1) dX12_hours_21 (by decide) ?_
    refine rs_call (As := [.int (nI 0), .int (nI 1)]) kv_X12_69 dX12_hours_22 hr rfl rfl (by decide) (Nat.le_of_ble_eq_true rfl) rfl (by decide) (Nat.le_of_ble_eq_true rfl) (t_X12_throwsIf hr (pN s 0 (nI 0)) (nI 0) (nI 1) (o_thr0 (pN s 0 (nI 0)) (nI 1))) ?_
    refine jg_if_eq (x := (nI 0)) (tgt := 30) dX12_hours_25 (by decide) (fun _ => ?_) (fun q9 => absurd q9 (by decide))
    refine jg_iconst (v := nI 0) dX12_hours_30 (by decide) ?_
    refine jg_istore_n (L' := [some (.ref r), some (.int a1), some (.int (nI 0))]) dX12_hours_31 (by decide) rfl ?_
    obtain ⟨x7, e_x7, h⟩ := bd_some h
    refine jg_fg (L' := [some (.ref r), some (.int a1), some (.int (nI 0))]) (by repeat (first | exact trivial | refine ⟨rfl, ?_⟩ | show jg_le _ _)) ?_
    refine t_X12_hours_32 hr F a1  _ (x := x7) ?_ F (nI 0) (pN s 0 (nI 0)) e_x7
    refine jg_aload_n dX12_hours_57 rfl ?_
    obtain ⟨x8, e_x8, h⟩ := bd_some h
    refine rs_call (As := []) kv_X12_73 dX12_hours_58 hr rfl rfl (by decide) (Nat.le_of_ble_eq_true rfl) rfl (by decide) (Nat.le_of_ble_eq_true rfl) (t_X12_hour hr x7 e_x8) ?_
    obtain rfl := Option.some.inj h
    exact jg_ireturn dX12_hours_61 rfl ⟨rfl, rfl⟩
  · replace h := it_t c2 h
    refine jg_iconst (v := nI 1) dX12_hours_16 (by decide) ?_
    refine jg_goto (tgt := 21) dX12_hours_17 (by decide) ?_
    refine jg_iconst (v := nI 1) dX12_hours_21 (by decide) ?_
    refine rs_call (As := [.int (nI 1), .int (nI 1)]) kv_X12_69 dX12_hours_22 hr rfl rfl (by decide) (Nat.le_of_ble_eq_true rfl) rfl (by decide) (Nat.le_of_ble_eq_true rfl) (t_X12_throwsIf hr (pN s 0 (nI 0)) (nI 1) (nI 1) (o_thr1 (pN s 0 (nI 0)) (nI 1))) ?_
    refine jg_if_eq (x := (nI 1)) (tgt := 30) dX12_hours_25 (by decide) (fun q9 => absurd q9 (by decide)) (fun _ => ?_)
    refine jg_iconst (v := nI 0) dX12_hours_28 (by decide) ?_
    obtain rfl := Option.some.inj h
    exact jg_ireturn dX12_hours_29 rfl ⟨rfl, rfl⟩
theorem dX12_led_0 : decode cX12_led 0 = .ok (.aload_n 0, 1) := by decide +kernel
theorem dX12_led_1 : decode cX12_led 1 = .ok (.iconst 0, 1) := by decide +kernel
theorem dX12_led_2 : decode cX12_led 2 = .ok (.putfield 3, 3) := by decide +kernel
theorem dX12_led_5 : decode cX12_led 5 = .ok (.aload_n 0, 1) := by decide +kernel
theorem dX12_led_6 : decode cX12_led 6 = .ok (.aload_n 0, 1) := by decide +kernel
theorem dX12_led_7 : decode cX12_led 7 = .ok (.iload_n 1, 1) := by decide +kernel
theorem dX12_led_8 : decode cX12_led 8 = .ok (.invokevirtual 128, 3) := by decide +kernel
theorem dX12_led_11 : decode cX12_led 11 = .ok (.iconst 1, 1) := by decide +kernel
theorem dX12_led_12 : decode cX12_led 12 = .ok (.invokevirtual 69, 3) := by decide +kernel
theorem dX12_led_15 : decode cX12_led 15 = .ok (.ifCond .eq 5, 3) := by decide +kernel
theorem dX12_led_18 : decode cX12_led 18 = .ok (.iconst 0, 1) := by decide +kernel
theorem dX12_led_19 : decode cX12_led 19 = .ok (.ireturn, 1) := by decide +kernel
theorem dX12_led_20 : decode cX12_led 20 = .ok (.iload_n 2, 1) := by decide +kernel
theorem dX12_led_21 : decode cX12_led 21 = .ok (.tableswitch 203 0 9 #[55, 63, 71, 79, 87, 95, 103, 149, 161, 169], 55) := by decide +kernel
theorem dX12_led_76 : decode cX12_led 76 = .ok (.aload_n 0, 1) := by decide +kernel
theorem dX12_led_77 : decode cX12_led 77 = .ok (.iload_n 1, 1) := by decide +kernel
theorem dX12_led_78 : decode cX12_led 78 = .ok (.bipush 9, 2) := by decide +kernel
theorem dX12_led_80 : decode cX12_led 80 = .ok (.invokevirtual 137, 3) := by decide +kernel
theorem dX12_led_83 : decode cX12_led 83 = .ok (.ireturn, 1) := by decide +kernel
theorem dX12_led_84 : decode cX12_led 84 = .ok (.aload_n 0, 1) := by decide +kernel
theorem dX12_led_85 : decode cX12_led 85 = .ok (.iload_n 1, 1) := by decide +kernel
theorem dX12_led_86 : decode cX12_led 86 = .ok (.bipush 10, 2) := by decide +kernel
theorem dX12_led_88 : decode cX12_led 88 = .ok (.invokevirtual 137, 3) := by decide +kernel
theorem dX12_led_91 : decode cX12_led 91 = .ok (.ireturn, 1) := by decide +kernel
theorem dX12_led_92 : decode cX12_led 92 = .ok (.aload_n 0, 1) := by decide +kernel
theorem dX12_led_93 : decode cX12_led 93 = .ok (.iload_n 1, 1) := by decide +kernel
theorem dX12_led_94 : decode cX12_led 94 = .ok (.bipush 11, 2) := by decide +kernel
theorem dX12_led_96 : decode cX12_led 96 = .ok (.invokevirtual 137, 3) := by decide +kernel
theorem dX12_led_99 : decode cX12_led 99 = .ok (.ireturn, 1) := by decide +kernel
theorem dX12_led_100 : decode cX12_led 100 = .ok (.aload_n 0, 1) := by decide +kernel
theorem dX12_led_101 : decode cX12_led 101 = .ok (.iload_n 1, 1) := by decide +kernel
theorem dX12_led_102 : decode cX12_led 102 = .ok (.bipush 8, 2) := by decide +kernel
theorem dX12_led_104 : decode cX12_led 104 = .ok (.invokevirtual 137, 3) := by decide +kernel
theorem dX12_led_107 : decode cX12_led 107 = .ok (.ireturn, 1) := by decide +kernel
theorem dX12_led_108 : decode cX12_led 108 = .ok (.aload_n 0, 1) := by decide +kernel
theorem dX12_led_109 : decode cX12_led 109 = .ok (.iload_n 1, 1) := by decide +kernel
theorem dX12_led_110 : decode cX12_led 110 = .ok (.bipush 12, 2) := by decide +kernel
theorem dX12_led_112 : decode cX12_led 112 = .ok (.invokevirtual 137, 3) := by decide +kernel
theorem dX12_led_115 : decode cX12_led 115 = .ok (.ireturn, 1) := by decide +kernel
theorem dX12_led_116 : decode cX12_led 116 = .ok (.aload_n 0, 1) := by decide +kernel
theorem dX12_led_117 : decode cX12_led 117 = .ok (.iload_n 1, 1) := by decide +kernel
theorem dX12_led_118 : decode cX12_led 118 = .ok (.bipush 13, 2) := by decide +kernel
theorem dX12_led_120 : decode cX12_led 120 = .ok (.invokevirtual 137, 3) := by decide +kernel
theorem dX12_led_123 : decode cX12_led 123 = .ok (.ireturn, 1) := by decide +kernel
theorem dX12_led_124 : decode cX12_led 124 = .ok (.aload_n 0, 1) := by decide +kernel
theorem dX12_led_125 : decode cX12_led 125 = .ok (.iload_n 1, 1) := by decide +kernel
theorem dX12_led_126 : decode cX12_led 126 = .ok (.bipush 9, 2) := by decide +kernel
theorem dX12_led_128 : decode cX12_led 128 = .ok (.invokevirtual 137, 3) := by decide +kernel
theorem dX12_led_131 : decode cX12_led 131 = .ok (.iconst 4, 1) := by decide +kernel
theorem dX12_led_132 : decode cX12_led 132 = .ok (.if_icmp .ne 13, 3) := by decide +kernel
theorem dX12_led_135 : decode cX12_led 135 = .ok (.aload_n 0, 1) := by decide +kernel
theorem dX12_led_136 : decode cX12_led 136 = .ok (.iload_n 1, 1) := by decide +kernel
theorem dX12_led_137 : decode cX12_led 137 = .ok (.bipush 14, 2) := by decide +kernel
theorem dX12_led_139 : decode cX12_led 139 = .ok (.invokevirtual 137, 3) := by decide +kernel
theorem dX12_led_142 : decode cX12_led 142 = .ok (.goto 27, 3) := by decide +kernel
theorem dX12_led_145 : decode cX12_led 145 = .ok (.aload_n 0, 1) := by decide +kernel
theorem dX12_led_146 : decode cX12_led 146 = .ok (.iload_n 1, 1) := by decide +kernel
theorem dX12_led_147 : decode cX12_led 147 = .ok (.aload_n 0, 1) := by decide +kernel
theorem dX12_led_148 : decode cX12_led 148 = .ok (.iload_n 1, 1) := by decide +kernel
theorem dX12_led_149 : decode cX12_led 149 = .ok (.bipush 17, 2) := by decide +kernel
theorem dX12_led_151 : decode cX12_led 151 = .ok (.invokevirtual 137, 3) := by decide +kernel
theorem dX12_led_154 : decode cX12_led 154 = .ok (.aload_n 0, 1) := by decide +kernel
theorem dX12_led_155 : decode cX12_led 155 = .ok (.invokevirtual 73, 3) := by decide +kernel
theorem dX12_led_158 : decode cX12_led 158 = .ok (.aload_n 0, 1) := by decide +kernel
theorem dX12_led_159 : decode cX12_led 159 = .ok (.iload_n 1, 1) := by decide +kernel
theorem dX12_led_160 : decode cX12_led 160 = .ok (.bipush 8, 2) := by decide +kernel
theorem dX12_led_162 : decode cX12_led 162 = .ok (.invokevirtual 137, 3) := by decide +kernel
theorem dX12_led_165 : decode cX12_led 165 = .ok (.isub, 1) := by decide +kernel
theorem dX12_led_166 : decode cX12_led 166 = .ok (.invokevirtual 166, 3) := by decide +kernel
theorem dX12_led_169 : decode cX12_led 169 = .ok (.ireturn, 1) := by decide +kernel
theorem dX12_led_170 : decode cX12_led 170 = .ok (.iconst 0, 1) := by decide +kernel
theorem dX12_led_171 : decode cX12_led 171 = .ok (.aload_n 0, 1) := by decide +kernel
theorem dX12_led_172 : decode cX12_led 172 = .ok (.iload_n 1, 1) := by decide +kernel
theorem dX12_led_173 : decode cX12_led 173 = .ok (.bipush 15, 2) := by decide +kernel
theorem dX12_led_175 : decode cX12_led 175 = .ok (.invokevirtual 137, 3) := by decide +kernel
theorem dX12_led_178 : decode cX12_led 178 = .ok (.invokestatic 88, 3) := by decide +kernel
theorem dX12_led_181 : decode cX12_led 181 = .ok (.ireturn, 1) := by decide +kernel
theorem dX12_led_182 : decode cX12_led 182 = .ok (.aload_n 0, 1) := by decide +kernel
theorem dX12_led_183 : decode cX12_led 183 = .ok (.iload_n 1, 1) := by decide +kernel
theorem dX12_led_184 : decode cX12_led 184 = .ok (.bipush 16, 2) := by decide +kernel
theorem dX12_led_186 : decode cX12_led 186 = .ok (.invokevirtual 137, 3) := by decide +kernel
theorem dX12_led_189 : decode cX12_led 189 = .ok (.ireturn, 1) := by decide +kernel
theorem dX12_led_190 : decode cX12_led 190 = .ok (.aload_n 0, 1) := by decide +kernel
theorem dX12_led_191 : decode cX12_led 191 = .ok (.invokevirtual 187, 3) := by decide +kernel
theorem dX12_led_194 : decode cX12_led 194 = .ok (.iconst 0, 1) := by decide +kernel
theorem dX12_led_195 : decode cX12_led 195 = .ok (.istore_n 3, 1) := by decide +kernel
theorem dX12_led_196 : decode cX12_led 196 = .ok (.iload_n 3, 1) := by decide +kernel
theorem dX12_led_197 : decode cX12_led 197 = .ok (.aload_n 0, 1) := by decide +kernel
theorem dX12_led_198 : decode cX12_led 198 = .ok (.getfield 150, 3) := by decide +kernel
theorem dX12_led_201 : decode cX12_led 201 = .ok (.if_icmp .ge 21, 3) := by decide +kernel
theorem dX12_led_204 : decode cX12_led 204 = .ok (.aload_n 0, 1) := by decide +kernel
theorem dX12_led_205 : decode cX12_led 205 = .ok (.getfield 23, 3) := by decide +kernel
theorem dX12_led_208 : decode cX12_led 208 = .ok (.iload_n 3, 1) := by decide +kernel
theorem dX12_led_209 : decode cX12_led 209 = .ok (.iaload, 1) := by decide +kernel
theorem dX12_led_210 : decode cX12_led 210 = .ok (.iload_n 1, 1) := by decide +kernel
theorem dX12_led_211 : decode cX12_led 211 = .ok (.if_icmp .ne 5, 3) := by decide +kernel
theorem dX12_led_214 : decode cX12_led 214 = .ok (.iload_n 3, 1) := by decide +kernel
theorem dX12_led_215 : decode cX12_led 215 = .ok (.ireturn, 1) := by decide +kernel
theorem dX12_led_216 : decode cX12_led 216 = .ok (.iinc 3 1, 3) := by decide +kernel
theorem dX12_led_219 : decode cX12_led 219 = .ok (.goto (-23), 3) := by decide +kernel
theorem dX12_led_222 : decode cX12_led 222 = .ok (.iconst (-1), 1) := by decide +kernel
theorem dX12_led_223 : decode cX12_led 223 = .ok (.ireturn, 1) := by decide +kernel
theorem dX12_led_224 : decode cX12_led 224 = .ok (.aload_n 0, 1) := by decide +kernel
theorem dX12_led_225 : decode cX12_led 225 = .ok (.iconst 2, 1) := by decide +kernel
theorem dX12_led_226 : decode cX12_led 226 = .ok (.putfield 3, 3) := by decide +kernel
theorem dX12_led_229 : decode cX12_led 229 = .ok (.iconst 0, 1) := by decide +kernel
theorem dX12_led_230 : decode cX12_led 230 = .ok (.ireturn, 1) := by decide +kernel
noncomputable def o_X12_led_196 (F : Nat) (l1 : Int32) (s : rs_S) : Nat → Int32 → Option ((Unit) ⊕ (Int32 × rs_S))
  | 0, _ => none
  | f + 1, l3 => if (s.1 6) ≤ l3 then (some (.inl ())) else (if iL l3 80 then (if (gR s 3 l3) = l1 then (some (.inr (l3, s))) else (o_X12_led_196 F l1 s f (l3 + nI 1))) else none)
set_option maxHeartbeats 4000000 in
theorem t_X12_led_196 {Γ : jg_G} {g : Nat → jg_C} {n r : Nat} (hr : r + 11 ≤ n) (F : Nat) (l1 : Int32) (s : rs_S)  (Q : jg_Q) {x : (Unit) ⊕ (Int32 × rs_S)} (K1 : ∀ y, x = .inl y → jg Γ mX12_led 4 0 0 222 [none, none, none, none] [] (rs_h g r s, n) Q) (K2 : ∀ z, x = .inr z → Q (.inl (some (.int z.1))) (rs_h g r z.2, n)) : ∀ (f : Nat) (l3 : Int32), o_X12_led_196 F l1 s f l3 = some x → jg Γ mX12_led 4 0 0 196 [some (.ref r), some (.int l1), none, some (.int l3)] [] (rs_h g r s, n) Q := by
  intro f
  induction f with
  | zero => intro l3 h; rw [o_X12_led_196] at h; cases h
  | succ f ih =>
   intro l3 h
   rw [o_X12_led_196] at h
   refine jg_iload_n dX12_led_196 rfl ?_
   refine jg_aload_n dX12_led_197 rfl ?_
   refine rs_ga fl_X12_150 dX12_led_198 hr rfl ?_
   refine jg_icmp_ge (x := l3) (y := (s.1 6)) (tgt := 222) dX12_led_201 (by decide) (fun c30 => ?_) (fun c30 => ?_)
   · replace h := it_t c30 h
     refine jg_fg (L' := [none, none, none, none]) (by repeat (first | exact trivial | refine ⟨rfl, ?_⟩ | show jg_le _ _)) ?_
     obtain rfl := Option.some.inj h
     exact K1 _ rfl
   · replace h := it_f c30 h
     refine jg_aload_n dX12_led_204 rfl ?_
     refine rs_ga fl_X12_23 dX12_led_205 hr rfl ?_
     refine jg_iload_n dX12_led_208 rfl ?_
     obtain ⟨q31, h⟩ := gd_some h
     refine rs_ldD (s := s) (i := l3) (j := 2) dX12_led_209 hr (by decide) rfl q31 ?_
     refine jg_iload_n dX12_led_210 rfl ?_
     refine jg_icmp_ne (x := (gR s 3 l3)) (y := l1) (tgt := 216) dX12_led_211 (by decide) (fun c32 => ?_) (fun c32 => ?_)
     · replace h := it_f c32 h
       refine jg_iinc (x := l3) (v := l3 + nI 1) (L' := [some (.ref r), some (.int l1), none, some (.int (l3 + nI 1))]) dX12_led_216 rfl (ic_k _ (by decide)) (by decide) rfl ?_
       refine jg_goto (tgt := 196) dX12_led_219 (by decide) ?_
       refine jg_fg (L' := [some (.ref r), some (.int l1), none, some (.int (l3 + nI 1))]) (by repeat (first | exact trivial | refine ⟨rfl, ?_⟩ | show jg_le _ _)) ?_
       exact ih (l3 + nI 1) h
     · replace h := it_t c32 h
       refine jg_iload_n dX12_led_214 rfl ?_
       obtain rfl := Option.some.inj h
       exact jg_ireturn dX12_led_215 rfl (K2 _ rfl)
noncomputable def o_X12_led (F : Nat) (s : rs_S) (a1 : Int32) (a2 : Int32) : Option (Int32 × rs_S) := (o_X12_noShip (pN s 0 (nI 0)) a1).bind fun x1 => ((o_X12_throwsIf (pN s 0 (nI 0)) x1 (nI 1)).bind fun x2 => (if x2.1 = 0 then (if a2 = nI 0 then ((o_X12_of x2.2 a1 (nI 9)).bind fun x5 => (some (x5, x2.2))) else (if a2 = nI 1 then ((o_X12_of x2.2 a1 (nI 10)).bind fun x7 => (some (x7, x2.2))) else (if a2 = nI 2 then ((o_X12_of x2.2 a1 (nI 11)).bind fun x9 => (some (x9, x2.2))) else (if a2 = nI 3 then ((o_X12_of x2.2 a1 (nI 8)).bind fun x11 => (some (x11, x2.2))) else (if a2 = nI 4 then ((o_X12_of x2.2 a1 (nI 12)).bind fun x13 => (some (x13, x2.2))) else (if a2 = nI 5 then ((o_X12_of x2.2 a1 (nI 13)).bind fun x15 => (some (x15, x2.2))) else (if a2 = nI 6 then ((o_X12_of x2.2 a1 (nI 9)).bind fun x17 => (if x17 = (nI 4) then ((o_X12_of x2.2 a1 (nI 14)).bind fun x23 => (some (x23, x2.2))) else ((o_X12_of x2.2 a1 (nI 17)).bind fun x19 => ((o_X12_hour x2.2).bind fun x20 => ((o_X12_of x2.2 a1 (nI 8)).bind fun x21 => ((o_X12_dueOf F x2.2 a1 x19 (x20 - x21)).bind fun x22 => (some (x22.1, x22.2)))))))) else (if a2 = nI 7 then ((o_X12_of x2.2 a1 (nI 15)).bind fun x25 => (some (mxi (nI 0) x25, x2.2))) else (if a2 = nI 8 then ((o_X12_of x2.2 a1 (nI 16)).bind fun x27 => (some (x27, x2.2))) else (if a2 = nI 9 then ((o_X12_lines F x2.2).bind fun x29 => ((o_X12_led_196 F a1 x29 F (nI 0)).bind fun x33 => (Sum.elim (fun y34 => some ((-1), x29)) (fun z35 => some z35) x33))) else (some (nI 0, pN x2.2 0 (nI 2))))))))))))) else (some (nI 0, x2.2))))
set_option maxHeartbeats 4000000 in
theorem t_X12_led {Γ : jg_G} {g : Nat → jg_C} {n r : Nat} (hr : r + 11 ≤ n) (F : Nat) (s : rs_S) (a1 : Int32) (a2 : Int32)  {x : Int32 × rs_S} (h : o_X12_led F s a1 a2 = some x) : jc Γ mX12_led 4 0 0 [some (.ref r), some (.int a1), some (.int a2), none] (rs_h g r s, n) (.inl (some (.int x.1))) (rs_h g r x.2, n) := by
  refine jc_of ?_
  rw [o_X12_led] at h
  refine jg_aload_n dX12_led_0 rfl ?_
  refine jg_iconst (v := nI 0) dX12_led_1 (by decide) ?_
  refine rs_putD (s := s) (k := 0) (x := (nI 0)) fl_X12_3 dX12_led_2 hr (by decide) (rfl) rfl rfl ?_
  refine jg_aload_n dX12_led_5 rfl ?_
  refine jg_aload_n dX12_led_6 rfl ?_
  refine jg_iload_n dX12_led_7 rfl ?_
  obtain ⟨x1, e_x1, h⟩ := bd_some h
  refine rs_call (As := [.int a1]) kv_X12_128 dX12_led_8 hr rfl rfl (by decide) (Nat.le_of_ble_eq_true rfl) rfl (by decide) (Nat.le_of_ble_eq_true rfl) (t_X12_noShip hr (pN s 0 (nI 0)) a1 e_x1) ?_
  refine jg_iconst (v := nI 1) dX12_led_11 (by decide) ?_
  obtain ⟨x2, e_x2, h⟩ := bd_some h
  refine rs_call (As := [.int x1, .int (nI 1)]) kv_X12_69 dX12_led_12 hr rfl rfl (by decide) (Nat.le_of_ble_eq_true rfl) rfl (by decide) (Nat.le_of_ble_eq_true rfl) (t_X12_throwsIf hr (pN s 0 (nI 0)) x1 (nI 1) e_x2) ?_
  refine jg_if_eq (x := x2.1) (tgt := 20) dX12_led_15 (by decide) (fun c3 => ?_) (fun c3 => ?_)
  · replace h := it_t c3 h
    refine jg_iload_n dX12_led_20 rfl ?_
    by_cases c4 : a2 = nI 0
    · replace h := it_t c4 h
      refine jg_tableIn (off := 55) (tgt := 76) dX12_led_21 (by rw [c4]; decide) (by rw [c4]; decide) (by rw [c4]; rfl) (by decide) ?_
      refine jg_aload_n dX12_led_76 rfl ?_
      refine jg_iload_n dX12_led_77 rfl ?_
      refine jg_bipush (v := nI 9) dX12_led_78 (by decide) ?_
      obtain ⟨x5, e_x5, h⟩ := bd_some h
      refine rs_call (As := [.int a1, .int (nI 9)]) kv_X12_137 dX12_led_80 hr rfl rfl (by decide) (Nat.le_of_ble_eq_true rfl) rfl (by decide) (Nat.le_of_ble_eq_true rfl) (t_X12_of hr x2.2 a1 (nI 9) e_x5) ?_
      obtain rfl := Option.some.inj h
      exact jg_ireturn dX12_led_83 rfl ⟨rfl, rfl⟩
    replace h := it_f c4 h
    by_cases c6 : a2 = nI 1
    · replace h := it_t c6 h
      refine jg_tableIn (off := 63) (tgt := 84) dX12_led_21 (by rw [c6]; decide) (by rw [c6]; decide) (by rw [c6]; rfl) (by decide) ?_
      refine jg_aload_n dX12_led_84 rfl ?_
      refine jg_iload_n dX12_led_85 rfl ?_
      refine jg_bipush (v := nI 10) dX12_led_86 (by decide) ?_
      obtain ⟨x7, e_x7, h⟩ := bd_some h
      refine rs_call (As := [.int a1, .int (nI 10)]) kv_X12_137 dX12_led_88 hr rfl rfl (by decide) (Nat.le_of_ble_eq_true rfl) rfl (by decide) (Nat.le_of_ble_eq_true rfl) (t_X12_of hr x2.2 a1 (nI 10) e_x7) ?_
      obtain rfl := Option.some.inj h
      exact jg_ireturn dX12_led_91 rfl ⟨rfl, rfl⟩
    replace h := it_f c6 h
    by_cases c8 : a2 = nI 2
    · replace h := it_t c8 h
      refine jg_tableIn (off := 71) (tgt := 92) dX12_led_21 (by rw [c8]; decide) (by rw [c8]; decide) (by rw [c8]; rfl) (by decide) ?_
      refine jg_aload_n dX12_led_92 rfl ?_
      refine jg_iload_n dX12_led_93 rfl ?_
      refine jg_bipush (v := nI 11) dX12_led_94 (by decide) ?_
      obtain ⟨x9, e_x9, h⟩ := bd_some h
      refine rs_call (As := [.int a1, .int (nI 11)]) kv_X12_137 dX12_led_96 hr rfl rfl (by decide) (Nat.le_of_ble_eq_true rfl) rfl (by decide) (Nat.le_of_ble_eq_true rfl) (t_X12_of hr x2.2 a1 (nI 11) e_x9) ?_
      obtain rfl := Option.some.inj h
      exact jg_ireturn dX12_led_99 rfl ⟨rfl, rfl⟩
    replace h := it_f c8 h
    by_cases c10 : a2 = nI 3
    · replace h := it_t c10 h
      refine jg_tableIn (off := 79) (tgt := 100) dX12_led_21 (by rw [c10]; decide) (by rw [c10]; decide) (by rw [c10]; rfl) (by decide) ?_
      refine jg_aload_n dX12_led_100 rfl ?_
      refine jg_iload_n dX12_led_101 rfl ?_
      refine jg_bipush (v := nI 8) dX12_led_102 (by decide) ?_
      obtain ⟨x11, e_x11, h⟩ := bd_some h
      refine rs_call (As := [.int a1, .int (nI 8)]) kv_X12_137 dX12_led_104 hr rfl rfl (by decide) (Nat.le_of_ble_eq_true rfl) rfl (by decide) (Nat.le_of_ble_eq_true rfl) (t_X12_of hr x2.2 a1 (nI 8) e_x11) ?_
      obtain rfl := Option.some.inj h
      exact jg_ireturn dX12_led_107 rfl ⟨rfl, rfl⟩
    replace h := it_f c10 h
    by_cases c12 : a2 = nI 4
    · replace h := it_t c12 h
      refine jg_tableIn (off := 87) (tgt := 108) dX12_led_21 (by rw [c12]; decide) (by rw [c12]; decide) (by rw [c12]; rfl) (by decide) ?_
      refine jg_aload_n dX12_led_108 rfl ?_
      refine jg_iload_n dX12_led_109 rfl ?_
      refine jg_bipush (v := nI 12) dX12_led_110 (by decide) ?_
      obtain ⟨x13, e_x13, h⟩ := bd_some h
      refine rs_call (As := [.int a1, .int (nI 12)]) kv_X12_137 dX12_led_112 hr rfl rfl (by decide) (Nat.le_of_ble_eq_true rfl) rfl (by decide) (Nat.le_of_ble_eq_true rfl) (t_X12_of hr x2.2 a1 (nI 12) e_x13) ?_
      obtain rfl := Option.some.inj h
      exact jg_ireturn dX12_led_115 rfl ⟨rfl, rfl⟩
    replace h := it_f c12 h
    by_cases c14 : a2 = nI 5
    · replace h := it_t c14 h
      refine jg_tableIn (off := 95) (tgt := 116) dX12_led_21 (by rw [c14]; decide) (by rw [c14]; decide) (by rw [c14]; rfl) (by decide) ?_
      refine jg_aload_n dX12_led_116 rfl ?_
      refine jg_iload_n dX12_led_117 rfl ?_
      refine jg_bipush (v := nI 13) dX12_led_118 (by decide) ?_
      obtain ⟨x15, e_x15, h⟩ := bd_some h
      refine rs_call (As := [.int a1, .int (nI 13)]) kv_X12_137 dX12_led_120 hr rfl rfl (by decide) (Nat.le_of_ble_eq_true rfl) rfl (by decide) (Nat.le_of_ble_eq_true rfl) (t_X12_of hr x2.2 a1 (nI 13) e_x15) ?_
      obtain rfl := Option.some.inj h
      exact jg_ireturn dX12_led_123 rfl ⟨rfl, rfl⟩
    replace h := it_f c14 h
    by_cases c16 : a2 = nI 6
    · replace h := it_t c16 h
      refine jg_tableIn (off := 103) (tgt := 124) dX12_led_21 (by rw [c16]; decide) (by rw [c16]; decide) (by rw [c16]; rfl) (by decide) ?_
      refine jg_aload_n dX12_led_124 rfl ?_
      refine jg_iload_n dX12_led_125 rfl ?_
      refine jg_bipush (v := nI 9) dX12_led_126 (by decide) ?_
      obtain ⟨x17, e_x17, h⟩ := bd_some h
      refine rs_call (As := [.int a1, .int (nI 9)]) kv_X12_137 dX12_led_128 hr rfl rfl (by decide) (Nat.le_of_ble_eq_true rfl) rfl (by decide) (Nat.le_of_ble_eq_true rfl) (t_X12_of hr x2.2 a1 (nI 9) e_x17) ?_
      refine jg_iconst (v := nI 4) dX12_led_131 (by decide) ?_
      refine jg_icmp_ne (x := x17) (y := (nI 4)) (tgt := 145) dX12_led_132 (by decide) (fun c18 => ?_) (fun c18 => ?_)
      · replace h := it_f c18 h
        refine jg_aload_n dX12_led_145 rfl ?_
        refine jg_iload_n dX12_led_146 rfl ?_
        refine jg_aload_n dX12_led_147 rfl ?_
        refine jg_iload_n dX12_led_148 rfl ?_
        refine jg_bipush (v := nI 17) dX12_led_149 (by decide) ?_
        obtain ⟨x19, e_x19, h⟩ := bd_some h
        refine rs_call (As := [.int a1, .int (nI 17)]) kv_X12_137 dX12_led_151 hr rfl rfl (by decide) (Nat.le_of_ble_eq_true rfl) rfl (by decide) (Nat.le_of_ble_eq_true rfl) (t_X12_of hr x2.2 a1 (nI 17) e_x19) ?_
        refine jg_aload_n dX12_led_154 rfl ?_
        obtain ⟨x20, e_x20, h⟩ := bd_some h
        refine rs_call (As := []) kv_X12_73 dX12_led_155 hr rfl rfl (by decide) (Nat.le_of_ble_eq_true rfl) rfl (by decide) (Nat.le_of_ble_eq_true rfl) (t_X12_hour hr x2.2 e_x20) ?_
        refine jg_aload_n dX12_led_158 rfl ?_
        refine jg_iload_n dX12_led_159 rfl ?_
        refine jg_bipush (v := nI 8) dX12_led_160 (by decide) ?_
        obtain ⟨x21, e_x21, h⟩ := bd_some h
        refine rs_call (As := [.int a1, .int (nI 8)]) kv_X12_137 dX12_led_162 hr rfl rfl (by decide) (Nat.le_of_ble_eq_true rfl) rfl (by decide) (Nat.le_of_ble_eq_true rfl) (t_X12_of hr x2.2 a1 (nI 8) e_x21) ?_
        refine jg_isub (x := x20) (y := x21) dX12_led_165  ?_
        obtain ⟨x22, e_x22, h⟩ := bd_some h
        refine rs_call (As := [.int a1, .int x19, .int (x20 - x21)]) kv_X12_166 dX12_led_166 hr rfl rfl (by decide) (Nat.le_of_ble_eq_true rfl) rfl (by decide) (Nat.le_of_ble_eq_true rfl) (t_X12_dueOf hr F x2.2 a1 x19 (x20 - x21) e_x22) ?_
        obtain rfl := Option.some.inj h
        exact jg_ireturn dX12_led_169 rfl ⟨rfl, rfl⟩
      · replace h := it_t c18 h
        refine jg_aload_n dX12_led_135 rfl ?_
        refine jg_iload_n dX12_led_136 rfl ?_
        refine jg_bipush (v := nI 14) dX12_led_137 (by decide) ?_
        obtain ⟨x23, e_x23, h⟩ := bd_some h
        refine rs_call (As := [.int a1, .int (nI 14)]) kv_X12_137 dX12_led_139 hr rfl rfl (by decide) (Nat.le_of_ble_eq_true rfl) rfl (by decide) (Nat.le_of_ble_eq_true rfl) (t_X12_of hr x2.2 a1 (nI 14) e_x23) ?_
        refine jg_goto (tgt := 169) dX12_led_142 (by decide) ?_
        obtain rfl := Option.some.inj h
        exact jg_ireturn dX12_led_169 rfl ⟨rfl, rfl⟩
    replace h := it_f c16 h
    by_cases c24 : a2 = nI 7
    · replace h := it_t c24 h
      refine jg_tableIn (off := 149) (tgt := 170) dX12_led_21 (by rw [c24]; decide) (by rw [c24]; decide) (by rw [c24]; rfl) (by decide) ?_
      refine jg_iconst (v := nI 0) dX12_led_170 (by decide) ?_
      refine jg_aload_n dX12_led_171 rfl ?_
      refine jg_iload_n dX12_led_172 rfl ?_
      refine jg_bipush (v := nI 15) dX12_led_173 (by decide) ?_
      obtain ⟨x25, e_x25, h⟩ := bd_some h
      refine rs_call (As := [.int a1, .int (nI 15)]) kv_X12_137 dX12_led_175 hr rfl rfl (by decide) (Nat.le_of_ble_eq_true rfl) rfl (by decide) (Nat.le_of_ble_eq_true rfl) (t_X12_of hr x2.2 a1 (nI 15) e_x25) ?_
      refine jg_mmax (x := (nI 0)) (y := x25) km_X12_88 jw_max.1 jw_max.2 dX12_led_178 (by decide) (Nat.le_of_ble_eq_true rfl) ?_
      obtain rfl := Option.some.inj h
      exact jg_ireturn dX12_led_181 rfl ⟨rfl, rfl⟩
    replace h := it_f c24 h
    by_cases c26 : a2 = nI 8
    · replace h := it_t c26 h
      refine jg_tableIn (off := 161) (tgt := 182) dX12_led_21 (by rw [c26]; decide) (by rw [c26]; decide) (by rw [c26]; rfl) (by decide) ?_
      refine jg_aload_n dX12_led_182 rfl ?_
      refine jg_iload_n dX12_led_183 rfl ?_
      refine jg_bipush (v := nI 16) dX12_led_184 (by decide) ?_
      obtain ⟨x27, e_x27, h⟩ := bd_some h
      refine rs_call (As := [.int a1, .int (nI 16)]) kv_X12_137 dX12_led_186 hr rfl rfl (by decide) (Nat.le_of_ble_eq_true rfl) rfl (by decide) (Nat.le_of_ble_eq_true rfl) (t_X12_of hr x2.2 a1 (nI 16) e_x27) ?_
      obtain rfl := Option.some.inj h
      exact jg_ireturn dX12_led_189 rfl ⟨rfl, rfl⟩
    replace h := it_f c26 h
    by_cases c28 : a2 = nI 9
    · replace h := it_t c28 h
      refine jg_tableIn (off := 169) (tgt := 190) dX12_led_21 (by rw [c28]; decide) (by rw [c28]; decide) (by rw [c28]; rfl) (by decide) ?_
      refine jg_aload_n dX12_led_190 rfl ?_
      obtain ⟨x29, e_x29, h⟩ := bd_some h
      refine rs_call (As := []) kv_X12_187 dX12_led_191 hr rfl rfl (by decide) (Nat.le_of_ble_eq_true rfl) rfl (by decide) (Nat.le_of_ble_eq_true rfl) (t_X12_lines hr F x2.2 e_x29) ?_
      refine jg_iconst (v := nI 0) dX12_led_194 (by decide) ?_
      refine jg_istore_n (L' := [some (.ref r), some (.int a1), some (.int a2), some (.int (nI 0))]) dX12_led_195 (by decide) rfl ?_
      obtain ⟨x33, e_x33, h⟩ := bd_some h
      refine jg_fg (L' := [some (.ref r), some (.int a1), none, some (.int (nI 0))]) (by repeat (first | exact trivial | refine ⟨rfl, ?_⟩ | show jg_le _ _)) ?_
      refine t_X12_led_196 hr F a1 x29  _ (x := x33) ?_ ?_ F (nI 0) e_x33
      · intro y34 ey; subst ey; replace h := se_l h
        refine jg_iconst (v := (-1)) dX12_led_222 (by decide) ?_
        obtain rfl := Option.some.inj h
        exact jg_ireturn dX12_led_223 rfl ⟨rfl, rfl⟩
      · intro z35 ez; subst ez; replace h := se_r h
        obtain rfl := Option.some.inj h
        exact ⟨rfl, rfl⟩
    replace h := it_f c28 h
    refine jg_tableOut (tgt := 224) dX12_led_21 (jt_outN 0 9 (a2) (fun k h1 h2 => by rcases (show k = 0 ∨ k = 1 ∨ k = 2 ∨ k = 3 ∨ k = 4 ∨ k = 5 ∨ k = 6 ∨ k = 7 ∨ k = 8 ∨ k = 9 by omega) with rfl | rfl | rfl | rfl | rfl | rfl | rfl | rfl | rfl | rfl <;> assumption)) (by decide) ?_
    refine jg_aload_n dX12_led_224 rfl ?_
    refine jg_iconst (v := nI 2) dX12_led_225 (by decide) ?_
    refine rs_putD (s := x2.2) (k := 0) (x := (nI 2)) fl_X12_3 dX12_led_226 hr (by decide) (rfl) rfl rfl ?_
    refine jg_iconst (v := nI 0) dX12_led_229 (by decide) ?_
    obtain rfl := Option.some.inj h
    exact jg_ireturn dX12_led_230 rfl ⟨rfl, rfl⟩
  · replace h := it_f c3 h
    refine jg_iconst (v := nI 0) dX12_led_18 (by decide) ?_
    obtain rfl := Option.some.inj h
    exact jg_ireturn dX12_led_19 rfl ⟨rfl, rfl⟩
theorem dX12_quay_0 : decode cX12_quay 0 = .ok (.aload_n 0, 1) := by decide +kernel
theorem dX12_quay_1 : decode cX12_quay 1 = .ok (.iconst 0, 1) := by decide +kernel
theorem dX12_quay_2 : decode cX12_quay 2 = .ok (.putfield 3, 3) := by decide +kernel
theorem dX12_quay_5 : decode cX12_quay 5 = .ok (.aload_n 0, 1) := by decide +kernel
theorem dX12_quay_6 : decode cX12_quay 6 = .ok (.aload_n 0, 1) := by decide +kernel
theorem dX12_quay_7 : decode cX12_quay 7 = .ok (.iload_n 1, 1) := by decide +kernel
theorem dX12_quay_8 : decode cX12_quay 8 = .ok (.invokevirtual 131, 3) := by decide +kernel
theorem dX12_quay_11 : decode cX12_quay 11 = .ok (.iconst 1, 1) := by decide +kernel
theorem dX12_quay_12 : decode cX12_quay 12 = .ok (.invokevirtual 69, 3) := by decide +kernel
theorem dX12_quay_15 : decode cX12_quay 15 = .ok (.ifCond .eq 5, 3) := by decide +kernel
theorem dX12_quay_18 : decode cX12_quay 18 = .ok (.iconst 0, 1) := by decide +kernel
theorem dX12_quay_19 : decode cX12_quay 19 = .ok (.ireturn, 1) := by decide +kernel
theorem dX12_quay_20 : decode cX12_quay 20 = .ok (.iload_n 2, 1) := by decide +kernel
theorem dX12_quay_21 : decode cX12_quay 21 = .ok (.tableswitch 86 0 5 #[39, 46, 53, 63, 71, 78], 39) := by decide +kernel
theorem dX12_quay_60 : decode cX12_quay 60 = .ok (.aload_n 0, 1) := by decide +kernel
theorem dX12_quay_61 : decode cX12_quay 61 = .ok (.iload_n 1, 1) := by decide +kernel
theorem dX12_quay_62 : decode cX12_quay 62 = .ok (.iconst 0, 1) := by decide +kernel
theorem dX12_quay_63 : decode cX12_quay 63 = .ok (.invokevirtual 140, 3) := by decide +kernel
theorem dX12_quay_66 : decode cX12_quay 66 = .ok (.ireturn, 1) := by decide +kernel
theorem dX12_quay_67 : decode cX12_quay 67 = .ok (.aload_n 0, 1) := by decide +kernel
theorem dX12_quay_68 : decode cX12_quay 68 = .ok (.iload_n 1, 1) := by decide +kernel
theorem dX12_quay_69 : decode cX12_quay 69 = .ok (.iconst 4, 1) := by decide +kernel
theorem dX12_quay_70 : decode cX12_quay 70 = .ok (.invokevirtual 140, 3) := by decide +kernel
theorem dX12_quay_73 : decode cX12_quay 73 = .ok (.ireturn, 1) := by decide +kernel
theorem dX12_quay_74 : decode cX12_quay 74 = .ok (.aload_n 0, 1) := by decide +kernel
theorem dX12_quay_75 : decode cX12_quay 75 = .ok (.iload_n 1, 1) := by decide +kernel
theorem dX12_quay_76 : decode cX12_quay 76 = .ok (.iconst 5, 1) := by decide +kernel
theorem dX12_quay_77 : decode cX12_quay 77 = .ok (.invokevirtual 140, 3) := by decide +kernel
theorem dX12_quay_80 : decode cX12_quay 80 = .ok (.bipush 24, 2) := by decide +kernel
theorem dX12_quay_82 : decode cX12_quay 82 = .ok (.idiv, 1) := by decide +kernel
theorem dX12_quay_83 : decode cX12_quay 83 = .ok (.ireturn, 1) := by decide +kernel
theorem dX12_quay_84 : decode cX12_quay 84 = .ok (.aload_n 0, 1) := by decide +kernel
theorem dX12_quay_85 : decode cX12_quay 85 = .ok (.iload_n 1, 1) := by decide +kernel
theorem dX12_quay_86 : decode cX12_quay 86 = .ok (.bipush 6, 2) := by decide +kernel
theorem dX12_quay_88 : decode cX12_quay 88 = .ok (.invokevirtual 140, 3) := by decide +kernel
theorem dX12_quay_91 : decode cX12_quay 91 = .ok (.ireturn, 1) := by decide +kernel
theorem dX12_quay_92 : decode cX12_quay 92 = .ok (.aload_n 0, 1) := by decide +kernel
theorem dX12_quay_93 : decode cX12_quay 93 = .ok (.iload_n 1, 1) := by decide +kernel
theorem dX12_quay_94 : decode cX12_quay 94 = .ok (.iconst 5, 1) := by decide +kernel
theorem dX12_quay_95 : decode cX12_quay 95 = .ok (.invokevirtual 140, 3) := by decide +kernel
theorem dX12_quay_98 : decode cX12_quay 98 = .ok (.ireturn, 1) := by decide +kernel
theorem dX12_quay_99 : decode cX12_quay 99 = .ok (.aload_n 0, 1) := by decide +kernel
theorem dX12_quay_100 : decode cX12_quay 100 = .ok (.iload_n 1, 1) := by decide +kernel
theorem dX12_quay_101 : decode cX12_quay 101 = .ok (.bipush 7, 2) := by decide +kernel
theorem dX12_quay_103 : decode cX12_quay 103 = .ok (.invokevirtual 140, 3) := by decide +kernel
theorem dX12_quay_106 : decode cX12_quay 106 = .ok (.ireturn, 1) := by decide +kernel
theorem dX12_quay_107 : decode cX12_quay 107 = .ok (.aload_n 0, 1) := by decide +kernel
theorem dX12_quay_108 : decode cX12_quay 108 = .ok (.iconst 2, 1) := by decide +kernel
theorem dX12_quay_109 : decode cX12_quay 109 = .ok (.putfield 3, 3) := by decide +kernel
theorem dX12_quay_112 : decode cX12_quay 112 = .ok (.iconst 0, 1) := by decide +kernel
theorem dX12_quay_113 : decode cX12_quay 113 = .ok (.ireturn, 1) := by decide +kernel
noncomputable def o_X12_quay (s : rs_S) (a1 : Int32) (a2 : Int32) : Option (Int32 × rs_S) := (o_X12_noBerth (pN s 0 (nI 0)) a1).bind fun x1 => ((o_X12_throwsIf (pN s 0 (nI 0)) x1 (nI 1)).bind fun x2 => (if x2.1 = 0 then (if a2 = nI 0 then ((o_X12_berthOf x2.2 a1 (nI 0)).bind fun x5 => (some (x5, x2.2))) else (if a2 = nI 1 then ((o_X12_berthOf x2.2 a1 (nI 4)).bind fun x7 => (some (x7, x2.2))) else (if a2 = nI 2 then ((o_X12_berthOf x2.2 a1 (nI 5)).bind fun x9 => (some (x9 / (nI 24), x2.2))) else (if a2 = nI 3 then ((o_X12_berthOf x2.2 a1 (nI 6)).bind fun x11 => (some (x11, x2.2))) else (if a2 = nI 4 then ((o_X12_berthOf x2.2 a1 (nI 5)).bind fun x13 => (some (x13, x2.2))) else (if a2 = nI 5 then ((o_X12_berthOf x2.2 a1 (nI 7)).bind fun x15 => (some (x15, x2.2))) else (some (nI 0, pN x2.2 0 (nI 2))))))))) else (some (nI 0, x2.2))))
set_option maxHeartbeats 4000000 in
theorem t_X12_quay {Γ : jg_G} {g : Nat → jg_C} {n r : Nat} (hr : r + 11 ≤ n) (s : rs_S) (a1 : Int32) (a2 : Int32)  {x : Int32 × rs_S} (h : o_X12_quay s a1 a2 = some x) : jc Γ mX12_quay 2 0 0 [some (.ref r), some (.int a1), some (.int a2)] (rs_h g r s, n) (.inl (some (.int x.1))) (rs_h g r x.2, n) := by
  refine jc_of ?_
  rw [o_X12_quay] at h
  refine jg_aload_n dX12_quay_0 rfl ?_
  refine jg_iconst (v := nI 0) dX12_quay_1 (by decide) ?_
  refine rs_putD (s := s) (k := 0) (x := (nI 0)) fl_X12_3 dX12_quay_2 hr (by decide) (rfl) rfl rfl ?_
  refine jg_aload_n dX12_quay_5 rfl ?_
  refine jg_aload_n dX12_quay_6 rfl ?_
  refine jg_iload_n dX12_quay_7 rfl ?_
  obtain ⟨x1, e_x1, h⟩ := bd_some h
  refine rs_call (As := [.int a1]) kv_X12_131 dX12_quay_8 hr rfl rfl (by decide) (Nat.le_of_ble_eq_true rfl) rfl (by decide) (Nat.le_of_ble_eq_true rfl) (t_X12_noBerth hr (pN s 0 (nI 0)) a1 e_x1) ?_
  refine jg_iconst (v := nI 1) dX12_quay_11 (by decide) ?_
  obtain ⟨x2, e_x2, h⟩ := bd_some h
  refine rs_call (As := [.int x1, .int (nI 1)]) kv_X12_69 dX12_quay_12 hr rfl rfl (by decide) (Nat.le_of_ble_eq_true rfl) rfl (by decide) (Nat.le_of_ble_eq_true rfl) (t_X12_throwsIf hr (pN s 0 (nI 0)) x1 (nI 1) e_x2) ?_
  refine jg_if_eq (x := x2.1) (tgt := 20) dX12_quay_15 (by decide) (fun c3 => ?_) (fun c3 => ?_)
  · replace h := it_t c3 h
    refine jg_iload_n dX12_quay_20 rfl ?_
    by_cases c4 : a2 = nI 0
    · replace h := it_t c4 h
      refine jg_tableIn (off := 39) (tgt := 60) dX12_quay_21 (by rw [c4]; decide) (by rw [c4]; decide) (by rw [c4]; rfl) (by decide) ?_
      refine jg_aload_n dX12_quay_60 rfl ?_
      refine jg_iload_n dX12_quay_61 rfl ?_
      refine jg_iconst (v := nI 0) dX12_quay_62 (by decide) ?_
      obtain ⟨x5, e_x5, h⟩ := bd_some h
      refine rs_call (As := [.int a1, .int (nI 0)]) kv_X12_140 dX12_quay_63 hr rfl rfl (by decide) (Nat.le_of_ble_eq_true rfl) rfl (by decide) (Nat.le_of_ble_eq_true rfl) (t_X12_berthOf hr x2.2 a1 (nI 0) e_x5) ?_
      obtain rfl := Option.some.inj h
      exact jg_ireturn dX12_quay_66 rfl ⟨rfl, rfl⟩
    replace h := it_f c4 h
    by_cases c6 : a2 = nI 1
    · replace h := it_t c6 h
      refine jg_tableIn (off := 46) (tgt := 67) dX12_quay_21 (by rw [c6]; decide) (by rw [c6]; decide) (by rw [c6]; rfl) (by decide) ?_
      refine jg_aload_n dX12_quay_67 rfl ?_
      refine jg_iload_n dX12_quay_68 rfl ?_
      refine jg_iconst (v := nI 4) dX12_quay_69 (by decide) ?_
      obtain ⟨x7, e_x7, h⟩ := bd_some h
      refine rs_call (As := [.int a1, .int (nI 4)]) kv_X12_140 dX12_quay_70 hr rfl rfl (by decide) (Nat.le_of_ble_eq_true rfl) rfl (by decide) (Nat.le_of_ble_eq_true rfl) (t_X12_berthOf hr x2.2 a1 (nI 4) e_x7) ?_
      obtain rfl := Option.some.inj h
      exact jg_ireturn dX12_quay_73 rfl ⟨rfl, rfl⟩
    replace h := it_f c6 h
    by_cases c8 : a2 = nI 2
    · replace h := it_t c8 h
      refine jg_tableIn (off := 53) (tgt := 74) dX12_quay_21 (by rw [c8]; decide) (by rw [c8]; decide) (by rw [c8]; rfl) (by decide) ?_
      refine jg_aload_n dX12_quay_74 rfl ?_
      refine jg_iload_n dX12_quay_75 rfl ?_
      refine jg_iconst (v := nI 5) dX12_quay_76 (by decide) ?_
      obtain ⟨x9, e_x9, h⟩ := bd_some h
      refine rs_call (As := [.int a1, .int (nI 5)]) kv_X12_140 dX12_quay_77 hr rfl rfl (by decide) (Nat.le_of_ble_eq_true rfl) rfl (by decide) (Nat.le_of_ble_eq_true rfl) (t_X12_berthOf hr x2.2 a1 (nI 5) e_x9) ?_
      refine jg_bipush (v := nI 24) dX12_quay_80 (by decide) ?_
      refine jg_idiv (x := x9) (y := (nI 24)) dX12_quay_82 (by decide) ?_
      obtain rfl := Option.some.inj h
      exact jg_ireturn dX12_quay_83 rfl ⟨rfl, rfl⟩
    replace h := it_f c8 h
    by_cases c10 : a2 = nI 3
    · replace h := it_t c10 h
      refine jg_tableIn (off := 63) (tgt := 84) dX12_quay_21 (by rw [c10]; decide) (by rw [c10]; decide) (by rw [c10]; rfl) (by decide) ?_
      refine jg_aload_n dX12_quay_84 rfl ?_
      refine jg_iload_n dX12_quay_85 rfl ?_
      refine jg_bipush (v := nI 6) dX12_quay_86 (by decide) ?_
      obtain ⟨x11, e_x11, h⟩ := bd_some h
      refine rs_call (As := [.int a1, .int (nI 6)]) kv_X12_140 dX12_quay_88 hr rfl rfl (by decide) (Nat.le_of_ble_eq_true rfl) rfl (by decide) (Nat.le_of_ble_eq_true rfl) (t_X12_berthOf hr x2.2 a1 (nI 6) e_x11) ?_
      obtain rfl := Option.some.inj h
      exact jg_ireturn dX12_quay_91 rfl ⟨rfl, rfl⟩
    replace h := it_f c10 h
    by_cases c12 : a2 = nI 4
    · replace h := it_t c12 h
      refine jg_tableIn (off := 71) (tgt := 92) dX12_quay_21 (by rw [c12]; decide) (by rw [c12]; decide) (by rw [c12]; rfl) (by decide) ?_
      refine jg_aload_n dX12_quay_92 rfl ?_
      refine jg_iload_n dX12_quay_93 rfl ?_
      refine jg_iconst (v := nI 5) dX12_quay_94 (by decide) ?_
      obtain ⟨x13, e_x13, h⟩ := bd_some h
      refine rs_call (As := [.int a1, .int (nI 5)]) kv_X12_140 dX12_quay_95 hr rfl rfl (by decide) (Nat.le_of_ble_eq_true rfl) rfl (by decide) (Nat.le_of_ble_eq_true rfl) (t_X12_berthOf hr x2.2 a1 (nI 5) e_x13) ?_
      obtain rfl := Option.some.inj h
      exact jg_ireturn dX12_quay_98 rfl ⟨rfl, rfl⟩
    replace h := it_f c12 h
    by_cases c14 : a2 = nI 5
    · replace h := it_t c14 h
      refine jg_tableIn (off := 78) (tgt := 99) dX12_quay_21 (by rw [c14]; decide) (by rw [c14]; decide) (by rw [c14]; rfl) (by decide) ?_
      refine jg_aload_n dX12_quay_99 rfl ?_
      refine jg_iload_n dX12_quay_100 rfl ?_
      refine jg_bipush (v := nI 7) dX12_quay_101 (by decide) ?_
      obtain ⟨x15, e_x15, h⟩ := bd_some h
      refine rs_call (As := [.int a1, .int (nI 7)]) kv_X12_140 dX12_quay_103 hr rfl rfl (by decide) (Nat.le_of_ble_eq_true rfl) rfl (by decide) (Nat.le_of_ble_eq_true rfl) (t_X12_berthOf hr x2.2 a1 (nI 7) e_x15) ?_
      obtain rfl := Option.some.inj h
      exact jg_ireturn dX12_quay_106 rfl ⟨rfl, rfl⟩
    replace h := it_f c14 h
    refine jg_tableOut (tgt := 107) dX12_quay_21 (jt_outN 0 5 (a2) (fun k h1 h2 => by rcases (show k = 0 ∨ k = 1 ∨ k = 2 ∨ k = 3 ∨ k = 4 ∨ k = 5 by omega) with rfl | rfl | rfl | rfl | rfl | rfl <;> assumption)) (by decide) ?_
    refine jg_aload_n dX12_quay_107 rfl ?_
    refine jg_iconst (v := nI 2) dX12_quay_108 (by decide) ?_
    refine rs_putD (s := x2.2) (k := 0) (x := (nI 2)) fl_X12_3 dX12_quay_109 hr (by decide) (rfl) rfl rfl ?_
    refine jg_iconst (v := nI 0) dX12_quay_112 (by decide) ?_
    obtain rfl := Option.some.inj h
    exact jg_ireturn dX12_quay_113 rfl ⟨rfl, rfl⟩
  · replace h := it_f c3 h
    refine jg_iconst (v := nI 0) dX12_quay_18 (by decide) ?_
    obtain rfl := Option.some.inj h
    exact jg_ireturn dX12_quay_19 rfl ⟨rfl, rfl⟩
theorem dX12_feed_0 : decode cX12_feed 0 = .ok (.aload_n 0, 1) := by decide +kernel
theorem dX12_feed_1 : decode cX12_feed 1 = .ok (.iconst 0, 1) := by decide +kernel
theorem dX12_feed_2 : decode cX12_feed 2 = .ok (.putfield 3, 3) := by decide +kernel
theorem dX12_feed_5 : decode cX12_feed 5 = .ok (.aload_n 0, 1) := by decide +kernel
theorem dX12_feed_6 : decode cX12_feed 6 = .ok (.getfield 208, 3) := by decide +kernel
theorem dX12_feed_9 : decode cX12_feed 9 = .ok (.bipush 20, 2) := by decide +kernel
theorem dX12_feed_11 : decode cX12_feed 11 = .ok (.iadd, 1) := by decide +kernel
theorem dX12_feed_12 : decode cX12_feed 12 = .ok (.sipush 400, 3) := by decide +kernel
theorem dX12_feed_15 : decode cX12_feed 15 = .ok (.if_icmp .le 5, 3) := by decide +kernel
theorem dX12_feed_18 : decode cX12_feed 18 = .ok (.iconst (-1), 1) := by decide +kernel
theorem dX12_feed_19 : decode cX12_feed 19 = .ok (.ireturn, 1) := by decide +kernel
theorem dX12_feed_20 : decode cX12_feed 20 = .ok (.aload_n 0, 1) := by decide +kernel
theorem dX12_feed_21 : decode cX12_feed 21 = .ok (.getfield 33, 3) := by decide +kernel
theorem dX12_feed_24 : decode cX12_feed 24 = .ok (.iconst 0, 1) := by decide +kernel
theorem dX12_feed_25 : decode cX12_feed 25 = .ok (.iload_n 1, 1) := by decide +kernel
theorem dX12_feed_26 : decode cX12_feed 26 = .ok (.iastore, 1) := by decide +kernel
theorem dX12_feed_27 : decode cX12_feed 27 = .ok (.aload_n 0, 1) := by decide +kernel
theorem dX12_feed_28 : decode cX12_feed 28 = .ok (.getfield 33, 3) := by decide +kernel
theorem dX12_feed_31 : decode cX12_feed 31 = .ok (.iconst 1, 1) := by decide +kernel
theorem dX12_feed_32 : decode cX12_feed 32 = .ok (.iload_n 2, 1) := by decide +kernel
theorem dX12_feed_33 : decode cX12_feed 33 = .ok (.iastore, 1) := by decide +kernel
theorem dX12_feed_34 : decode cX12_feed 34 = .ok (.aload_n 0, 1) := by decide +kernel
theorem dX12_feed_35 : decode cX12_feed 35 = .ok (.getfield 33, 3) := by decide +kernel
theorem dX12_feed_38 : decode cX12_feed 38 = .ok (.iconst 2, 1) := by decide +kernel
theorem dX12_feed_39 : decode cX12_feed 39 = .ok (.iload_n 3, 1) := by decide +kernel
theorem dX12_feed_40 : decode cX12_feed 40 = .ok (.iastore, 1) := by decide +kernel
theorem dX12_feed_41 : decode cX12_feed 41 = .ok (.aload_n 0, 1) := by decide +kernel
theorem dX12_feed_42 : decode cX12_feed 42 = .ok (.getfield 33, 3) := by decide +kernel
theorem dX12_feed_45 : decode cX12_feed 45 = .ok (.iconst 3, 1) := by decide +kernel
theorem dX12_feed_46 : decode cX12_feed 46 = .ok (.iload 4, 2) := by decide +kernel
theorem dX12_feed_48 : decode cX12_feed 48 = .ok (.iastore, 1) := by decide +kernel
theorem dX12_feed_49 : decode cX12_feed 49 = .ok (.aload_n 0, 1) := by decide +kernel
theorem dX12_feed_50 : decode cX12_feed 50 = .ok (.getfield 33, 3) := by decide +kernel
theorem dX12_feed_53 : decode cX12_feed 53 = .ok (.iconst 4, 1) := by decide +kernel
theorem dX12_feed_54 : decode cX12_feed 54 = .ok (.iload 5, 2) := by decide +kernel
theorem dX12_feed_56 : decode cX12_feed 56 = .ok (.iastore, 1) := by decide +kernel
theorem dX12_feed_57 : decode cX12_feed 57 = .ok (.iconst 0, 1) := by decide +kernel
theorem dX12_feed_58 : decode cX12_feed 58 = .ok (.istore 6, 2) := by decide +kernel
theorem dX12_feed_60 : decode cX12_feed 60 = .ok (.iload 6, 2) := by decide +kernel
theorem dX12_feed_62 : decode cX12_feed 62 = .ok (.bipush 20, 2) := by decide +kernel
theorem dX12_feed_64 : decode cX12_feed 64 = .ok (.if_icmp .ge 42, 3) := by decide +kernel
theorem dX12_feed_67 : decode cX12_feed 67 = .ok (.aload_n 0, 1) := by decide +kernel
theorem dX12_feed_68 : decode cX12_feed 68 = .ok (.getfield 26, 3) := by decide +kernel
theorem dX12_feed_71 : decode cX12_feed 71 = .ok (.aload_n 0, 1) := by decide +kernel
theorem dX12_feed_72 : decode cX12_feed 72 = .ok (.getfield 208, 3) := by decide +kernel
theorem dX12_feed_75 : decode cX12_feed 75 = .ok (.iload 6, 2) := by decide +kernel
theorem dX12_feed_77 : decode cX12_feed 77 = .ok (.iadd, 1) := by decide +kernel
theorem dX12_feed_78 : decode cX12_feed 78 = .ok (.aload_n 0, 1) := by decide +kernel
theorem dX12_feed_79 : decode cX12_feed 79 = .ok (.getfield 33, 3) := by decide +kernel
theorem dX12_feed_82 : decode cX12_feed 82 = .ok (.iload 6, 2) := by decide +kernel
theorem dX12_feed_84 : decode cX12_feed 84 = .ok (.iconst 4, 1) := by decide +kernel
theorem dX12_feed_85 : decode cX12_feed 85 = .ok (.idiv, 1) := by decide +kernel
theorem dX12_feed_86 : decode cX12_feed 86 = .ok (.iaload, 1) := by decide +kernel
theorem dX12_feed_87 : decode cX12_feed 87 = .ok (.bipush 24, 2) := by decide +kernel
theorem dX12_feed_89 : decode cX12_feed 89 = .ok (.bipush 8, 2) := by decide +kernel
theorem dX12_feed_91 : decode cX12_feed 91 = .ok (.iload 6, 2) := by decide +kernel
theorem dX12_feed_93 : decode cX12_feed 93 = .ok (.iconst 4, 1) := by decide +kernel
theorem dX12_feed_94 : decode cX12_feed 94 = .ok (.irem, 1) := by decide +kernel
theorem dX12_feed_95 : decode cX12_feed 95 = .ok (.imul, 1) := by decide +kernel
theorem dX12_feed_96 : decode cX12_feed 96 = .ok (.isub, 1) := by decide +kernel
theorem dX12_feed_97 : decode cX12_feed 97 = .ok (.ishr, 1) := by decide +kernel
theorem dX12_feed_98 : decode cX12_feed 98 = .ok (.i2b, 1) := by decide +kernel
theorem dX12_feed_99 : decode cX12_feed 99 = .ok (.bastore, 1) := by decide +kernel
theorem dX12_feed_100 : decode cX12_feed 100 = .ok (.iinc 6 1, 3) := by decide +kernel
theorem dX12_feed_103 : decode cX12_feed 103 = .ok (.goto (-43), 3) := by decide +kernel
theorem dX12_feed_106 : decode cX12_feed 106 = .ok (.aload_n 0, 1) := by decide +kernel
theorem dX12_feed_107 : decode cX12_feed 107 = .ok (.dup, 1) := by decide +kernel
theorem dX12_feed_108 : decode cX12_feed 108 = .ok (.getfield 208, 3) := by decide +kernel
theorem dX12_feed_111 : decode cX12_feed 111 = .ok (.bipush 20, 2) := by decide +kernel
theorem dX12_feed_113 : decode cX12_feed 113 = .ok (.iadd, 1) := by decide +kernel
theorem dX12_feed_114 : decode cX12_feed 114 = .ok (.putfield 208, 3) := by decide +kernel
theorem dX12_feed_117 : decode cX12_feed 117 = .ok (.aload_n 0, 1) := by decide +kernel
theorem dX12_feed_118 : decode cX12_feed 118 = .ok (.getfield 208, 3) := by decide +kernel
theorem dX12_feed_121 : decode cX12_feed 121 = .ok (.ireturn, 1) := by decide +kernel
noncomputable def o_X12_feed_60 (F : Nat)   : Nat → Int32 → rs_S → Option (rs_S)
  | 0, _, _ => none
  | f + 1, l6, s => if (nI 20) ≤ l6 then (some s) else (if iL (l6 / (nI 4)) 5 then (if iL ((s.1 8) + l6) 400 then (o_X12_feed_60 F f (l6 + nI 1) (pR s 4 ((s.1 8) + l6) (vp_nar .byte (((gR s 5 (l6 / (nI 4))) >>> (((nI 24) - ((nI 8) * (irm l6 (nI 4)))) &&& 31)).toInt8.toInt32)))) else none) else none)
set_option maxHeartbeats 4000000 in
theorem t_X12_feed_60 {Γ : jg_G} {g : Nat → jg_C} {n r : Nat} (hr : r + 11 ≤ n) (F : Nat)    (Q : jg_Q) {x : rs_S} (K1 : jg Γ mX12_feed 0 0 0 106 [some (.ref r), none, none, none, none, none, none] [] (rs_h g r x, n) Q)  : ∀ (f : Nat) (l6 : Int32) (s : rs_S), o_X12_feed_60 F f l6 s = some x → jg Γ mX12_feed 0 0 0 60 [some (.ref r), none, none, none, none, none, some (.int l6)] [] (rs_h g r s, n) Q := by
  intro f
  induction f with
  | zero => intro l6 s h; rw [o_X12_feed_60] at h; cases h
  | succ f ih =>
   intro l6 s h
   rw [o_X12_feed_60] at h
   refine jg_iload dX12_feed_60 rfl ?_
   refine jg_bipush (v := nI 20) dX12_feed_62 (by decide) ?_
   refine jg_icmp_ge (x := l6) (y := (nI 20)) (tgt := 106) dX12_feed_64 (by decide) (fun c2 => ?_) (fun c2 => ?_)
   · replace h := it_t c2 h
     refine jg_fg (L' := [some (.ref r), none, none, none, none, none, none]) (by repeat (first | exact trivial | refine ⟨rfl, ?_⟩ | show jg_le _ _)) ?_
     obtain rfl := Option.some.inj h
     exact K1
   · replace h := it_f c2 h
     refine jg_aload_n dX12_feed_67 rfl ?_
     refine rs_ga fl_X12_26 dX12_feed_68 hr rfl ?_
     refine jg_aload_n dX12_feed_71 rfl ?_
     refine rs_ga fl_X12_208 dX12_feed_72 hr rfl ?_
     refine jg_iload dX12_feed_75 rfl ?_
     refine jg_iadd (x := (s.1 8)) (y := l6) dX12_feed_77  ?_
     refine jg_aload_n dX12_feed_78 rfl ?_
     refine rs_ga fl_X12_33 dX12_feed_79 hr rfl ?_
     refine jg_iload dX12_feed_82 rfl ?_
     refine jg_iconst (v := nI 4) dX12_feed_84 (by decide) ?_
     refine jg_idiv (x := l6) (y := (nI 4)) dX12_feed_85 (by decide) ?_
     obtain ⟨q3, h⟩ := gd_some h
     refine rs_ldD (s := s) (i := (l6 / (nI 4))) (j := 4) dX12_feed_86 hr (by decide) rfl q3 ?_
     refine jg_bipush (v := nI 24) dX12_feed_87 (by decide) ?_
     refine jg_bipush (v := nI 8) dX12_feed_89 (by decide) ?_
     refine jg_iload dX12_feed_91 rfl ?_
     refine jg_iconst (v := nI 4) dX12_feed_93 (by decide) ?_
     refine jg_iremR (x := l6) (y := (nI 4)) dX12_feed_94 (by decide) ?_
     refine jg_imul (x := (nI 8)) (y := (irm l6 (nI 4))) dX12_feed_95  ?_
     refine jg_isub (x := (nI 24)) (y := ((nI 8) * (irm l6 (nI 4)))) dX12_feed_96  ?_
     refine jg_ishr (x := (gR s 5 (l6 / (nI 4)))) (y := ((nI 24) - ((nI 8) * (irm l6 (nI 4))))) dX12_feed_97  ?_
     refine jg_i2b dX12_feed_98 ?_
     obtain ⟨q4, h⟩ := gd_some h
     refine rs_sbD (s := s) (i := ((s.1 8) + l6)) (x := (((gR s 5 (l6 / (nI 4))) >>> (((nI 24) - ((nI 8) * (irm l6 (nI 4)))) &&& 31)).toInt8.toInt32)) (j := 3) dX12_feed_99 hr (by decide) rfl q4 ?_
     refine jg_iinc (x := l6) (v := l6 + nI 1) (L' := [some (.ref r), none, none, none, none, none, some (.int (l6 + nI 1))]) dX12_feed_100 rfl (ic_k _ (by decide)) (by decide) rfl ?_
     refine jg_goto (tgt := 60) dX12_feed_103 (by decide) ?_
     refine jg_fg (L' := [some (.ref r), none, none, none, none, none, some (.int (l6 + nI 1))]) (by repeat (first | exact trivial | refine ⟨rfl, ?_⟩ | show jg_le _ _)) ?_
     exact ih (l6 + nI 1) (pR s 4 ((s.1 8) + l6) (vp_nar .byte (((gR s 5 (l6 / (nI 4))) >>> (((nI 24) - ((nI 8) * (irm l6 (nI 4)))) &&& 31)).toInt8.toInt32))) h
noncomputable def o_X12_feed (F : Nat) (s : rs_S) (a1 : Int32) (a2 : Int32) (a3 : Int32) (a4 : Int32) (a5 : Int32) : Option (Int32 × rs_S) := if (((pN s 0 (nI 0)).1 8) + (nI 20)) ≤ (nI 400) then ((o_X12_feed_60 F F (nI 0) (pR (pR (pR (pR (pR (pN s 0 (nI 0)) 5 (nI 0) a1) 5 (nI 1) a2) 5 (nI 2) a3) 5 (nI 3) a4) 5 (nI 4) a5)).bind fun x5 => (some ((pN x5 8 ((x5.1 8) + (nI 20))).1 8, pN x5 8 ((x5.1 8) + (nI 20))))) else (some ((-1), pN s 0 (nI 0)))
set_option maxHeartbeats 4000000 in
theorem t_X12_feed {Γ : jg_G} {g : Nat → jg_C} {n r : Nat} (hr : r + 11 ≤ n) (F : Nat) (s : rs_S) (a1 : Int32) (a2 : Int32) (a3 : Int32) (a4 : Int32) (a5 : Int32)  {x : Int32 × rs_S} (h : o_X12_feed F s a1 a2 a3 a4 a5 = some x) : jc Γ mX12_feed 0 0 0 [some (.ref r), some (.int a1), some (.int a2), some (.int a3), some (.int a4), some (.int a5), none] (rs_h g r s, n) (.inl (some (.int x.1))) (rs_h g r x.2, n) := by
  refine jc_of ?_
  rw [o_X12_feed] at h
  refine jg_aload_n dX12_feed_0 rfl ?_
  refine jg_iconst (v := nI 0) dX12_feed_1 (by decide) ?_
  refine rs_putD (s := s) (k := 0) (x := (nI 0)) fl_X12_3 dX12_feed_2 hr (by decide) (rfl) rfl rfl ?_
  refine jg_aload_n dX12_feed_5 rfl ?_
  refine rs_ga fl_X12_208 dX12_feed_6 hr rfl ?_
  refine jg_bipush (v := nI 20) dX12_feed_9 (by decide) ?_
  refine jg_iadd (x := ((pN s 0 (nI 0)).1 8)) (y := (nI 20)) dX12_feed_11  ?_
  refine jg_sipush (v := nI 400) dX12_feed_12 (by decide) ?_
  refine jg_icmp_le (x := (((pN s 0 (nI 0)).1 8) + (nI 20))) (y := (nI 400)) (tgt := 20) dX12_feed_15 (by decide) (fun c1 => ?_) (fun c1 => ?_)
  · replace h := it_t c1 h
    refine jg_aload_n dX12_feed_20 rfl ?_
    refine rs_ga fl_X12_33 dX12_feed_21 hr rfl ?_
    refine jg_iconst (v := nI 0) dX12_feed_24 (by decide) ?_
    refine jg_iload_n dX12_feed_25 rfl ?_
    refine rs_stD (s := (pN s 0 (nI 0))) (i := (nI 0)) (x := a1) (j := 4) dX12_feed_26 hr (by decide) rfl (by decide) ?_
    refine jg_aload_n dX12_feed_27 rfl ?_
    refine rs_ga fl_X12_33 dX12_feed_28 hr rfl ?_
    refine jg_iconst (v := nI 1) dX12_feed_31 (by decide) ?_
    refine jg_iload_n dX12_feed_32 rfl ?_
    refine rs_stD (s := (pR (pN s 0 (nI 0)) 5 (nI 0) a1)) (i := (nI 1)) (x := a2) (j := 4) dX12_feed_33 hr (by decide) rfl (by decide) ?_
    refine jg_aload_n dX12_feed_34 rfl ?_
    refine rs_ga fl_X12_33 dX12_feed_35 hr rfl ?_
    refine jg_iconst (v := nI 2) dX12_feed_38 (by decide) ?_
    refine jg_iload_n dX12_feed_39 rfl ?_
    refine rs_stD (s := (pR (pR (pN s 0 (nI 0)) 5 (nI 0) a1) 5 (nI 1) a2)) (i := (nI 2)) (x := a3) (j := 4) dX12_feed_40 hr (by decide) rfl (by decide) ?_
    refine jg_aload_n dX12_feed_41 rfl ?_
    refine rs_ga fl_X12_33 dX12_feed_42 hr rfl ?_
    refine jg_iconst (v := nI 3) dX12_feed_45 (by decide) ?_
    refine jg_iload dX12_feed_46 rfl ?_
    refine rs_stD (s := (pR (pR (pR (pN s 0 (nI 0)) 5 (nI 0) a1) 5 (nI 1) a2) 5 (nI 2) a3)) (i := (nI 3)) (x := a4) (j := 4) dX12_feed_48 hr (by decide) rfl (by decide) ?_
    refine jg_aload_n dX12_feed_49 rfl ?_
    refine rs_ga fl_X12_33 dX12_feed_50 hr rfl ?_
    refine jg_iconst (v := nI 4) dX12_feed_53 (by decide) ?_
    refine jg_iload dX12_feed_54 rfl ?_
    refine rs_stD (s := (pR (pR (pR (pR (pN s 0 (nI 0)) 5 (nI 0) a1) 5 (nI 1) a2) 5 (nI 2) a3) 5 (nI 3) a4)) (i := (nI 4)) (x := a5) (j := 4) dX12_feed_56 hr (by decide) rfl (by decide) ?_
    refine jg_iconst (v := nI 0) dX12_feed_57 (by decide) ?_
    refine jg_istore (L' := [some (.ref r), some (.int a1), some (.int a2), some (.int a3), some (.int a4), some (.int a5), some (.int (nI 0))]) dX12_feed_58 (by decide) rfl ?_
    obtain ⟨x5, e_x5, h⟩ := bd_some h
    refine jg_fg (L' := [some (.ref r), none, none, none, none, none, some (.int (nI 0))]) (by repeat (first | exact trivial | refine ⟨rfl, ?_⟩ | show jg_le _ _)) ?_
    refine t_X12_feed_60 hr F  _ (x := x5) ?_ F (nI 0) (pR (pR (pR (pR (pR (pN s 0 (nI 0)) 5 (nI 0) a1) 5 (nI 1) a2) 5 (nI 2) a3) 5 (nI 3) a4) 5 (nI 4) a5) e_x5
    refine jg_aload_n dX12_feed_106 rfl ?_
    refine jg_dup dX12_feed_107 rfl ?_
    refine rs_ga fl_X12_208 dX12_feed_108 hr rfl ?_
    refine jg_bipush (v := nI 20) dX12_feed_111 (by decide) ?_
    refine jg_iadd (x := (x5.1 8)) (y := (nI 20)) dX12_feed_113  ?_
    refine rs_putD (s := x5) (k := 8) (x := ((x5.1 8) + (nI 20))) fl_X12_208 dX12_feed_114 hr (by decide) (rfl) rfl rfl ?_
    refine jg_aload_n dX12_feed_117 rfl ?_
    refine rs_ga fl_X12_208 dX12_feed_118 hr rfl ?_
    obtain rfl := Option.some.inj h
    exact jg_ireturn dX12_feed_121 rfl ⟨rfl, rfl⟩
  · replace h := it_f c1 h
    refine jg_iconst (v := (-1)) dX12_feed_18 (by decide) ?_
    obtain rfl := Option.some.inj h
    exact jg_ireturn dX12_feed_19 rfl ⟨rfl, rfl⟩
theorem dX12_end_0 : decode cX12_end 0 = .ok (.aload_n 0, 1) := by decide +kernel
theorem dX12_end_1 : decode cX12_end 1 = .ok (.iconst 0, 1) := by decide +kernel
theorem dX12_end_2 : decode cX12_end 2 = .ok (.putfield 3, 3) := by decide +kernel
theorem dX12_end_5 : decode cX12_end 5 = .ok (.iload_n 1, 1) := by decide +kernel
theorem dX12_end_6 : decode cX12_end 6 = .ok (.ifCond .lt 11, 3) := by decide +kernel
theorem dX12_end_9 : decode cX12_end 9 = .ok (.iload_n 1, 1) := by decide +kernel
theorem dX12_end_10 : decode cX12_end 10 = .ok (.aload_n 0, 1) := by decide +kernel
theorem dX12_end_11 : decode cX12_end 11 = .ok (.getfield 208, 3) := by decide +kernel
theorem dX12_end_14 : decode cX12_end 14 = .ok (.if_icmp .le 5, 3) := by decide +kernel
theorem dX12_end_17 : decode cX12_end 17 = .ok (.iconst 0, 1) := by decide +kernel
theorem dX12_end_18 : decode cX12_end 18 = .ok (.ireturn, 1) := by decide +kernel
theorem dX12_end_19 : decode cX12_end 19 = .ok (.aload_n 0, 1) := by decide +kernel
theorem dX12_end_20 : decode cX12_end 20 = .ok (.iload_n 1, 1) := by decide +kernel
theorem dX12_end_21 : decode cX12_end 21 = .ok (.putfield 208, 3) := by decide +kernel
theorem dX12_end_24 : decode cX12_end 24 = .ok (.iconst 1, 1) := by decide +kernel
theorem dX12_end_25 : decode cX12_end 25 = .ok (.ireturn, 1) := by decide +kernel
noncomputable def o_X12_end (s : rs_S) (a1 : Int32) : Option (Int32 × rs_S) := if a1 < 0 then (some (nI 0, pN s 0 (nI 0))) else (if a1 ≤ ((pN s 0 (nI 0)).1 8) then (some (nI 1, pN (pN s 0 (nI 0)) 8 a1)) else (some (nI 0, pN s 0 (nI 0))))
set_option maxHeartbeats 4000000 in
theorem t_X12_end {Γ : jg_G} {g : Nat → jg_C} {n r : Nat} (hr : r + 11 ≤ n) (s : rs_S) (a1 : Int32)  {x : Int32 × rs_S} (h : o_X12_end s a1 = some x) : jc Γ mX12_end 0 0 0 [some (.ref r), some (.int a1)] (rs_h g r s, n) (.inl (some (.int x.1))) (rs_h g r x.2, n) := by
  refine jc_of ?_
  rw [o_X12_end] at h
  refine jg_aload_n dX12_end_0 rfl ?_
  refine jg_iconst (v := nI 0) dX12_end_1 (by decide) ?_
  refine rs_putD (s := s) (k := 0) (x := (nI 0)) fl_X12_3 dX12_end_2 hr (by decide) (rfl) rfl rfl ?_
  refine jg_iload_n dX12_end_5 rfl ?_
  refine jg_if_lt (x := a1) (tgt := 17) dX12_end_6 (by decide) (fun c1 => ?_) (fun c1 => ?_)
  · replace h := it_t c1 h
    refine jg_iconst (v := nI 0) dX12_end_17 (by decide) ?_
    obtain rfl := Option.some.inj h
    exact jg_zreturn dX12_end_18 rfl (rfl) ⟨rfl, rfl⟩
  · replace h := it_f c1 h
    refine jg_iload_n dX12_end_9 rfl ?_
    refine jg_aload_n dX12_end_10 rfl ?_
    refine rs_ga fl_X12_208 dX12_end_11 hr rfl ?_
    refine jg_icmp_le (x := a1) (y := ((pN s 0 (nI 0)).1 8)) (tgt := 19) dX12_end_14 (by decide) (fun c2 => ?_) (fun c2 => ?_)
    · replace h := it_t c2 h
      refine jg_aload_n dX12_end_19 rfl ?_
      refine jg_iload_n dX12_end_20 rfl ?_
      refine rs_putD (s := (pN s 0 (nI 0))) (k := 8) (x := a1) fl_X12_208 dX12_end_21 hr (by decide) (rfl) rfl rfl ?_
      refine jg_iconst (v := nI 1) dX12_end_24 (by decide) ?_
      obtain rfl := Option.some.inj h
      exact jg_zreturn dX12_end_25 rfl (rfl) ⟨rfl, rfl⟩
    · replace h := it_f c2 h
      refine jg_iconst (v := nI 0) dX12_end_17 (by decide) ?_
      obtain rfl := Option.some.inj h
      exact jg_zreturn dX12_end_18 rfl (rfl) ⟨rfl, rfl⟩
theorem dX12_fault_0 : decode cX12_fault 0 = .ok (.aload_n 0, 1) := by decide +kernel
theorem dX12_fault_1 : decode cX12_fault 1 = .ok (.iconst 0, 1) := by decide +kernel
theorem dX12_fault_2 : decode cX12_fault 2 = .ok (.putfield 3, 3) := by decide +kernel
theorem dX12_fault_5 : decode cX12_fault 5 = .ok (.aload_n 0, 1) := by decide +kernel
theorem dX12_fault_6 : decode cX12_fault 6 = .ok (.getfield 30, 3) := by decide +kernel
theorem dX12_fault_9 : decode cX12_fault 9 = .ok (.ireturn, 1) := by decide +kernel
noncomputable def o_X12_fault (s : rs_S) : Option (Int32 × rs_S) := some ((pN s 0 (nI 0)).1 13, pN s 0 (nI 0))
set_option maxHeartbeats 4000000 in
theorem t_X12_fault {Γ : jg_G} {g : Nat → jg_C} {n r : Nat} (hr : r + 11 ≤ n) (s : rs_S)  {x : Int32 × rs_S} (h : o_X12_fault s = some x) : jc Γ mX12_fault 0 0 0 [some (.ref r)] (rs_h g r s, n) (.inl (some (.int x.1))) (rs_h g r x.2, n) := by
  refine jc_of ?_
  rw [o_X12_fault] at h
  refine jg_aload_n dX12_fault_0 rfl ?_
  refine jg_iconst (v := nI 0) dX12_fault_1 (by decide) ?_
  refine rs_putD (s := s) (k := 0) (x := (nI 0)) fl_X12_3 dX12_fault_2 hr (by decide) (rfl) rfl rfl ?_
  refine jg_aload_n dX12_fault_5 rfl ?_
  refine rs_ga fl_X12_30 dX12_fault_6 hr rfl ?_
  obtain rfl := Option.some.inj h
  exact jg_ireturn dX12_fault_9 rfl ⟨rfl, rfl⟩
theorem dX12_uses_0 : decode cX12_uses 0 = .ok (.aload_n 0, 1) := by decide +kernel
theorem dX12_uses_1 : decode cX12_uses 1 = .ok (.iconst 0, 1) := by decide +kernel
theorem dX12_uses_2 : decode cX12_uses 2 = .ok (.putfield 3, 3) := by decide +kernel
theorem dX12_uses_5 : decode cX12_uses 5 = .ok (.aload_n 0, 1) := by decide +kernel
theorem dX12_uses_6 : decode cX12_uses 6 = .ok (.aload_n 0, 1) := by decide +kernel
theorem dX12_uses_7 : decode cX12_uses 7 = .ok (.getfield 208, 3) := by decide +kernel
theorem dX12_uses_10 : decode cX12_uses 10 = .ok (.putfield 214, 3) := by decide +kernel
theorem dX12_uses_13 : decode cX12_uses 13 = .ok (.aload_n 0, 1) := by decide +kernel
theorem dX12_uses_14 : decode cX12_uses 14 = .ok (.iconst 0, 1) := by decide +kernel
theorem dX12_uses_15 : decode cX12_uses 15 = .ok (.putfield 208, 3) := by decide +kernel
theorem dX12_uses_18 : decode cX12_uses 18 = .ok (.return_, 1) := by decide +kernel
noncomputable def o_X12_uses (s : rs_S) : Option (rs_S) := some (pN (pN (pN s 0 (nI 0)) 10 ((pN s 0 (nI 0)).1 8)) 8 (nI 0))
set_option maxHeartbeats 4000000 in
theorem t_X12_uses {Γ : jg_G} {g : Nat → jg_C} {n r : Nat} (hr : r + 11 ≤ n) (s : rs_S)  {x : rs_S} (h : o_X12_uses s = some x) : jc Γ mX12_uses 0 0 0 [some (.ref r)] (rs_h g r s, n) (.inl none) (rs_h g r x, n) := by
  refine jc_of ?_
  rw [o_X12_uses] at h
  refine jg_aload_n dX12_uses_0 rfl ?_
  refine jg_iconst (v := nI 0) dX12_uses_1 (by decide) ?_
  refine rs_putD (s := s) (k := 0) (x := (nI 0)) fl_X12_3 dX12_uses_2 hr (by decide) (rfl) rfl rfl ?_
  refine jg_aload_n dX12_uses_5 rfl ?_
  refine jg_aload_n dX12_uses_6 rfl ?_
  refine rs_ga fl_X12_208 dX12_uses_7 hr rfl ?_
  refine rs_putD (s := (pN s 0 (nI 0))) (k := 10) (x := ((pN s 0 (nI 0)).1 8)) fl_X12_214 dX12_uses_10 hr (by decide) (rfl) rfl rfl ?_
  refine jg_aload_n dX12_uses_13 rfl ?_
  refine jg_iconst (v := nI 0) dX12_uses_14 (by decide) ?_
  refine rs_putD (s := (pN (pN s 0 (nI 0)) 10 ((pN s 0 (nI 0)).1 8))) (k := 8) (x := (nI 0)) fl_X12_208 dX12_uses_15 hr (by decide) (rfl) rfl rfl ?_
  obtain rfl := Option.some.inj h
  exact jg_return dX12_uses_18 rfl ⟨rfl, rfl⟩
theorem dX12_isAt_0 : decode cX12_isAt 0 = .ok (.aload_n 0, 1) := by decide +kernel
theorem dX12_isAt_1 : decode cX12_isAt 1 = .ok (.getfield 211, 3) := by decide +kernel
theorem dX12_isAt_4 : decode cX12_isAt 4 = .ok (.aload_n 0, 1) := by decide +kernel
theorem dX12_isAt_5 : decode cX12_isAt 5 = .ok (.getfield 214, 3) := by decide +kernel
theorem dX12_isAt_8 : decode cX12_isAt 8 = .ok (.if_icmp .ge 33, 3) := by decide +kernel
theorem dX12_isAt_11 : decode cX12_isAt 11 = .ok (.aload_n 0, 1) := by decide +kernel
theorem dX12_isAt_12 : decode cX12_isAt 12 = .ok (.getfield 26, 3) := by decide +kernel
theorem dX12_isAt_15 : decode cX12_isAt 15 = .ok (.aload_n 0, 1) := by decide +kernel
theorem dX12_isAt_16 : decode cX12_isAt 16 = .ok (.getfield 211, 3) := by decide +kernel
theorem dX12_isAt_19 : decode cX12_isAt 19 = .ok (.baload, 1) := by decide +kernel
theorem dX12_isAt_20 : decode cX12_isAt 20 = .ok (.iload_n 1, 1) := by decide +kernel
theorem dX12_isAt_21 : decode cX12_isAt 21 = .ok (.if_icmp .lt 20, 3) := by decide +kernel
theorem dX12_isAt_24 : decode cX12_isAt 24 = .ok (.aload_n 0, 1) := by decide +kernel
theorem dX12_isAt_25 : decode cX12_isAt 25 = .ok (.getfield 26, 3) := by decide +kernel
theorem dX12_isAt_28 : decode cX12_isAt 28 = .ok (.aload_n 0, 1) := by decide +kernel
theorem dX12_isAt_29 : decode cX12_isAt 29 = .ok (.getfield 211, 3) := by decide +kernel
theorem dX12_isAt_32 : decode cX12_isAt 32 = .ok (.baload, 1) := by decide +kernel
theorem dX12_isAt_33 : decode cX12_isAt 33 = .ok (.iload_n 2, 1) := by decide +kernel
theorem dX12_isAt_34 : decode cX12_isAt 34 = .ok (.if_icmp .gt 7, 3) := by decide +kernel
theorem dX12_isAt_37 : decode cX12_isAt 37 = .ok (.iconst 1, 1) := by decide +kernel
theorem dX12_isAt_38 : decode cX12_isAt 38 = .ok (.goto 4, 3) := by decide +kernel
theorem dX12_isAt_41 : decode cX12_isAt 41 = .ok (.iconst 0, 1) := by decide +kernel
theorem dX12_isAt_42 : decode cX12_isAt 42 = .ok (.ireturn, 1) := by decide +kernel
noncomputable def o_X12_isAt (s : rs_S) (a1 : Int32) (a2 : Int32) : Option (Int32) := if (s.1 10) ≤ (s.1 9) then (some (nI 0)) else (if iL (s.1 9) 400 then (if (gR s 4 (s.1 9)) < a1 then (some (nI 0)) else (if a2 < (gR s 4 (s.1 9)) then (some (nI 0)) else (some (nI 1)))) else none)
set_option maxHeartbeats 4000000 in
theorem t_X12_isAt {Γ : jg_G} {g : Nat → jg_C} {n r : Nat} (hr : r + 11 ≤ n) (s : rs_S) (a1 : Int32) (a2 : Int32)  {x : Int32} (h : o_X12_isAt s a1 a2 = some x) : jc Γ mX12_isAt 0 0 0 [some (.ref r), some (.int a1), some (.int a2)] (rs_h g r s, n) (.inl (some (.int x))) (rs_h g r s, n) := by
  refine jc_of ?_
  rw [o_X12_isAt] at h
  refine jg_aload_n dX12_isAt_0 rfl ?_
  refine rs_ga fl_X12_211 dX12_isAt_1 hr rfl ?_
  refine jg_aload_n dX12_isAt_4 rfl ?_
  refine rs_ga fl_X12_214 dX12_isAt_5 hr rfl ?_
  refine jg_icmp_ge (x := (s.1 9)) (y := (s.1 10)) (tgt := 41) dX12_isAt_8 (by decide) (fun c1 => ?_) (fun c1 => ?_)
  · replace h := it_t c1 h
    refine jg_iconst (v := nI 0) dX12_isAt_41 (by decide) ?_
    obtain rfl := Option.some.inj h
    exact jg_zreturn dX12_isAt_42 rfl (rfl) ⟨rfl, rfl⟩
  · replace h := it_f c1 h
    refine jg_aload_n dX12_isAt_11 rfl ?_
    refine rs_ga fl_X12_26 dX12_isAt_12 hr rfl ?_
    refine jg_aload_n dX12_isAt_15 rfl ?_
    refine rs_ga fl_X12_211 dX12_isAt_16 hr rfl ?_
    obtain ⟨q2, h⟩ := gd_some h
    refine rs_lbD (s := s) (i := (s.1 9)) (j := 3) dX12_isAt_19 hr (by decide) rfl q2 ?_
    refine jg_iload_n dX12_isAt_20 rfl ?_
    refine jg_icmp_lt (x := (gR s 4 (s.1 9))) (y := a1) (tgt := 41) dX12_isAt_21 (by decide) (fun c3 => ?_) (fun c3 => ?_)
    · replace h := it_t c3 h
      refine jg_iconst (v := nI 0) dX12_isAt_41 (by decide) ?_
      obtain rfl := Option.some.inj h
      exact jg_zreturn dX12_isAt_42 rfl (rfl) ⟨rfl, rfl⟩
    · replace h := it_f c3 h
      refine jg_aload_n dX12_isAt_24 rfl ?_
      refine rs_ga fl_X12_26 dX12_isAt_25 hr rfl ?_
      refine jg_aload_n dX12_isAt_28 rfl ?_
      refine rs_ga fl_X12_211 dX12_isAt_29 hr rfl ?_
      refine rs_lbD (s := s) (i := (s.1 9)) (j := 3) dX12_isAt_32 hr (by decide) rfl q2 ?_
      refine jg_iload_n dX12_isAt_33 rfl ?_
      refine jg_icmp_gt (x := (gR s 4 (s.1 9))) (y := a2) (tgt := 41) dX12_isAt_34 (by decide) (fun c4 => ?_) (fun c4 => ?_)
      · replace h := it_t c4 h
        refine jg_iconst (v := nI 0) dX12_isAt_41 (by decide) ?_
        obtain rfl := Option.some.inj h
        exact jg_zreturn dX12_isAt_42 rfl (rfl) ⟨rfl, rfl⟩
      · replace h := it_f c4 h
        refine jg_iconst (v := nI 1) dX12_isAt_37 (by decide) ?_
        refine jg_goto (tgt := 42) dX12_isAt_38 (by decide) ?_
        obtain rfl := Option.some.inj h
        exact jg_zreturn dX12_isAt_42 rfl (rfl) ⟨rfl, rfl⟩
theorem dX12_blanks_0 : decode cX12_blanks 0 = .ok (.aload_n 0, 1) := by decide +kernel
theorem dX12_blanks_1 : decode cX12_blanks 1 = .ok (.bipush 32, 2) := by decide +kernel
theorem dX12_blanks_3 : decode cX12_blanks 3 = .ok (.bipush 32, 2) := by decide +kernel
theorem dX12_blanks_5 : decode cX12_blanks 5 = .ok (.invokevirtual 217, 3) := by decide +kernel
theorem dX12_blanks_8 : decode cX12_blanks 8 = .ok (.ifCond .eq 16, 3) := by decide +kernel
theorem dX12_blanks_11 : decode cX12_blanks 11 = .ok (.aload_n 0, 1) := by decide +kernel
theorem dX12_blanks_12 : decode cX12_blanks 12 = .ok (.dup, 1) := by decide +kernel
theorem dX12_blanks_13 : decode cX12_blanks 13 = .ok (.getfield 211, 3) := by decide +kernel
theorem dX12_blanks_16 : decode cX12_blanks 16 = .ok (.iconst 1, 1) := by decide +kernel
theorem dX12_blanks_17 : decode cX12_blanks 17 = .ok (.iadd, 1) := by decide +kernel
theorem dX12_blanks_18 : decode cX12_blanks 18 = .ok (.putfield 211, 3) := by decide +kernel
theorem dX12_blanks_21 : decode cX12_blanks 21 = .ok (.goto (-21), 3) := by decide +kernel
theorem dX12_blanks_24 : decode cX12_blanks 24 = .ok (.aload_n 0, 1) := by decide +kernel
theorem dX12_blanks_25 : decode cX12_blanks 25 = .ok (.aload_n 0, 1) := by decide +kernel
theorem dX12_blanks_26 : decode cX12_blanks 26 = .ok (.getfield 211, 3) := by decide +kernel
theorem dX12_blanks_29 : decode cX12_blanks 29 = .ok (.putfield 220, 3) := by decide +kernel
theorem dX12_blanks_32 : decode cX12_blanks 32 = .ok (.return_, 1) := by decide +kernel
noncomputable def o_X12_blanks_0 (F : Nat)   : Nat → rs_S → Option (rs_S)
  | 0, _ => none
  | f + 1, s => (o_X12_isAt s (nI 32) (nI 32)).bind fun x1 => (if x1 = 0 then (some s) else (o_X12_blanks_0 F f (pN s 9 ((s.1 9) + (nI 1)))))
set_option maxHeartbeats 4000000 in
theorem t_X12_blanks_0 {Γ : jg_G} {g : Nat → jg_C} {n r : Nat} (hr : r + 11 ≤ n) (F : Nat)    (Q : jg_Q) {x : rs_S} (K1 : jg Γ mX12_blanks 1 0 0 24 [some (.ref r)] [] (rs_h g r x, n) Q)  : ∀ (f : Nat) (s : rs_S), o_X12_blanks_0 F f s = some x → jg Γ mX12_blanks 1 0 0 0 [some (.ref r)] [] (rs_h g r s, n) Q := by
  intro f
  induction f with
  | zero => intro s h; rw [o_X12_blanks_0] at h; cases h
  | succ f ih =>
   intro s h
   rw [o_X12_blanks_0] at h
   refine jg_aload_n dX12_blanks_0 rfl ?_
   refine jg_bipush (v := nI 32) dX12_blanks_1 (by decide) ?_
   refine jg_bipush (v := nI 32) dX12_blanks_3 (by decide) ?_
   obtain ⟨x1, e_x1, h⟩ := bd_some h
   refine rs_call (As := [.int (nI 32), .int (nI 32)]) kv_X12_217 dX12_blanks_5 hr rfl rfl (by decide) (Nat.le_of_ble_eq_true rfl) rfl (by decide) (Nat.le_of_ble_eq_true rfl) (t_X12_isAt hr s (nI 32) (nI 32) e_x1) ?_
   refine jg_if_eq (x := x1) (tgt := 24) dX12_blanks_8 (by decide) (fun c2 => ?_) (fun c2 => ?_)
   · replace h := it_t c2 h
     refine jg_fg (L' := [some (.ref r)]) (by repeat (first | exact trivial | refine ⟨rfl, ?_⟩ | show jg_le _ _)) ?_
     obtain rfl := Option.some.inj h
     exact K1
   · replace h := it_f c2 h
     refine jg_aload_n dX12_blanks_11 rfl ?_
     refine jg_dup dX12_blanks_12 rfl ?_
     refine rs_ga fl_X12_211 dX12_blanks_13 hr rfl ?_
     refine jg_iconst (v := nI 1) dX12_blanks_16 (by decide) ?_
     refine jg_iadd (x := (s.1 9)) (y := (nI 1)) dX12_blanks_17  ?_
     refine rs_putD (s := s) (k := 9) (x := ((s.1 9) + (nI 1))) fl_X12_211 dX12_blanks_18 hr (by decide) (rfl) rfl rfl ?_
     refine jg_goto (tgt := 0) dX12_blanks_21 (by decide) ?_
     refine jg_fg (L' := [some (.ref r)]) (by repeat (first | exact trivial | refine ⟨rfl, ?_⟩ | show jg_le _ _)) ?_
     exact ih (pN s 9 ((s.1 9) + (nI 1))) h
noncomputable def o_X12_blanks (F : Nat) (s : rs_S) : Option (rs_S) := (o_X12_blanks_0 F F s).bind fun x3 => (some (pN x3 11 (x3.1 9)))
set_option maxHeartbeats 4000000 in
theorem t_X12_blanks {Γ : jg_G} {g : Nat → jg_C} {n r : Nat} (hr : r + 11 ≤ n) (F : Nat) (s : rs_S)  {x : rs_S} (h : o_X12_blanks F s = some x) : jc Γ mX12_blanks 1 0 0 [some (.ref r)] (rs_h g r s, n) (.inl none) (rs_h g r x, n) := by
  refine jc_of ?_
  rw [o_X12_blanks] at h
  obtain ⟨x3, e_x3, h⟩ := bd_some h
  refine jg_fg (L' := [some (.ref r)]) (by repeat (first | exact trivial | refine ⟨rfl, ?_⟩ | show jg_le _ _)) ?_
  refine t_X12_blanks_0 hr F  _ (x := x3) ?_ F s e_x3
  refine jg_aload_n dX12_blanks_24 rfl ?_
  refine jg_aload_n dX12_blanks_25 rfl ?_
  refine rs_ga fl_X12_211 dX12_blanks_26 hr rfl ?_
  refine rs_putD (s := x3) (k := 11) (x := (x3.1 9)) fl_X12_220 dX12_blanks_29 hr (by decide) (rfl) rfl rfl ?_
  obtain rfl := Option.some.inj h
  exact jg_return dX12_blanks_32 rfl ⟨rfl, rfl⟩
theorem dX12_word_0 : decode cX12_word 0 = .ok (.aload_n 0, 1) := by decide +kernel
theorem dX12_word_1 : decode cX12_word 1 = .ok (.invokevirtual 223, 3) := by decide +kernel
theorem dX12_word_4 : decode cX12_word 4 = .ok (.aload_n 0, 1) := by decide +kernel
theorem dX12_word_5 : decode cX12_word 5 = .ok (.bipush 97, 2) := by decide +kernel
theorem dX12_word_7 : decode cX12_word 7 = .ok (.bipush 122, 2) := by decide +kernel
theorem dX12_word_9 : decode cX12_word 9 = .ok (.invokevirtual 217, 3) := by decide +kernel
theorem dX12_word_12 : decode cX12_word 12 = .ok (.ifCond .eq 16, 3) := by decide +kernel
theorem dX12_word_15 : decode cX12_word 15 = .ok (.aload_n 0, 1) := by decide +kernel
theorem dX12_word_16 : decode cX12_word 16 = .ok (.dup, 1) := by decide +kernel
theorem dX12_word_17 : decode cX12_word 17 = .ok (.getfield 211, 3) := by decide +kernel
theorem dX12_word_20 : decode cX12_word 20 = .ok (.iconst 1, 1) := by decide +kernel
theorem dX12_word_21 : decode cX12_word 21 = .ok (.iadd, 1) := by decide +kernel
theorem dX12_word_22 : decode cX12_word 22 = .ok (.putfield 211, 3) := by decide +kernel
theorem dX12_word_25 : decode cX12_word 25 = .ok (.goto (-21), 3) := by decide +kernel
theorem dX12_word_28 : decode cX12_word 28 = .ok (.return_, 1) := by decide +kernel
noncomputable def o_X12_word_4 (F : Nat)   : Nat → rs_S → Option (rs_S)
  | 0, _ => none
  | f + 1, s => (o_X12_isAt s (nI 97) (nI 122)).bind fun x2 => (if x2 = 0 then (some s) else (o_X12_word_4 F f (pN s 9 ((s.1 9) + (nI 1)))))
set_option maxHeartbeats 4000000 in
theorem t_X12_word_4 {Γ : jg_G} {g : Nat → jg_C} {n r : Nat} (hr : r + 11 ≤ n) (F : Nat)    (Q : jg_Q) {x : rs_S} (K1 : jg Γ mX12_word 2 0 0 28 [none] [] (rs_h g r x, n) Q)  : ∀ (f : Nat) (s : rs_S), o_X12_word_4 F f s = some x → jg Γ mX12_word 2 0 0 4 [some (.ref r)] [] (rs_h g r s, n) Q := by
  intro f
  induction f with
  | zero => intro s h; rw [o_X12_word_4] at h; cases h
  | succ f ih =>
   intro s h
   rw [o_X12_word_4] at h
   refine jg_aload_n dX12_word_4 rfl ?_
   refine jg_bipush (v := nI 97) dX12_word_5 (by decide) ?_
   refine jg_bipush (v := nI 122) dX12_word_7 (by decide) ?_
   obtain ⟨x2, e_x2, h⟩ := bd_some h
   refine rs_call (As := [.int (nI 97), .int (nI 122)]) kv_X12_217 dX12_word_9 hr rfl rfl (by decide) (Nat.le_of_ble_eq_true rfl) rfl (by decide) (Nat.le_of_ble_eq_true rfl) (t_X12_isAt hr s (nI 97) (nI 122) e_x2) ?_
   refine jg_if_eq (x := x2) (tgt := 28) dX12_word_12 (by decide) (fun c3 => ?_) (fun c3 => ?_)
   · replace h := it_t c3 h
     refine jg_fg (L' := [none]) (by repeat (first | exact trivial | refine ⟨rfl, ?_⟩ | show jg_le _ _)) ?_
     obtain rfl := Option.some.inj h
     exact K1
   · replace h := it_f c3 h
     refine jg_aload_n dX12_word_15 rfl ?_
     refine jg_dup dX12_word_16 rfl ?_
     refine rs_ga fl_X12_211 dX12_word_17 hr rfl ?_
     refine jg_iconst (v := nI 1) dX12_word_20 (by decide) ?_
     refine jg_iadd (x := (s.1 9)) (y := (nI 1)) dX12_word_21  ?_
     refine rs_putD (s := s) (k := 9) (x := ((s.1 9) + (nI 1))) fl_X12_211 dX12_word_22 hr (by decide) (rfl) rfl rfl ?_
     refine jg_goto (tgt := 4) dX12_word_25 (by decide) ?_
     refine jg_fg (L' := [some (.ref r)]) (by repeat (first | exact trivial | refine ⟨rfl, ?_⟩ | show jg_le _ _)) ?_
     exact ih (pN s 9 ((s.1 9) + (nI 1))) h
noncomputable def o_X12_word (F : Nat) (s : rs_S) : Option (rs_S) := (o_X12_blanks F s).bind fun x1 => ((o_X12_word_4 F F x1).bind fun x4 => (some x4))
set_option maxHeartbeats 4000000 in
theorem t_X12_word {Γ : jg_G} {g : Nat → jg_C} {n r : Nat} (hr : r + 11 ≤ n) (F : Nat) (s : rs_S)  {x : rs_S} (h : o_X12_word F s = some x) : jc Γ mX12_word 2 0 0 [some (.ref r)] (rs_h g r s, n) (.inl none) (rs_h g r x, n) := by
  refine jc_of ?_
  rw [o_X12_word] at h
  refine jg_aload_n dX12_word_0 rfl ?_
  obtain ⟨x1, e_x1, h⟩ := bd_some h
  refine rs_call (As := []) kv_X12_223 dX12_word_1 hr rfl rfl (by decide) (Nat.le_of_ble_eq_true rfl) rfl (by decide) (Nat.le_of_ble_eq_true rfl) (t_X12_blanks hr F s e_x1) ?_
  obtain ⟨x4, e_x4, h⟩ := bd_some h
  refine jg_fg (L' := [some (.ref r)]) (by repeat (first | exact trivial | refine ⟨rfl, ?_⟩ | show jg_le _ _)) ?_
  refine t_X12_word_4 hr F  _ (x := x4) ?_ F x1 e_x4
  obtain rfl := Option.some.inj h
  exact jg_return dX12_word_28 rfl ⟨rfl, rfl⟩
theorem dX12_number_0 : decode cX12_number 0 = .ok (.aload_n 0, 1) := by decide +kernel
theorem dX12_number_1 : decode cX12_number 1 = .ok (.invokevirtual 223, 3) := by decide +kernel
theorem dX12_number_4 : decode cX12_number 4 = .ok (.iconst 0, 1) := by decide +kernel
theorem dX12_number_5 : decode cX12_number 5 = .ok (.istore_n 2, 1) := by decide +kernel
theorem dX12_number_6 : decode cX12_number 6 = .ok (.aload_n 0, 1) := by decide +kernel
theorem dX12_number_7 : decode cX12_number 7 = .ok (.bipush 48, 2) := by decide +kernel
theorem dX12_number_9 : decode cX12_number 9 = .ok (.bipush 57, 2) := by decide +kernel
theorem dX12_number_11 : decode cX12_number 11 = .ok (.invokevirtual 217, 3) := by decide +kernel
theorem dX12_number_14 : decode cX12_number 14 = .ok (.ifCond .eq 52, 3) := by decide +kernel
theorem dX12_number_17 : decode cX12_number 17 = .ok (.aload_n 0, 1) := by decide +kernel
theorem dX12_number_18 : decode cX12_number 18 = .ok (.getfield 211, 3) := by decide +kernel
theorem dX12_number_21 : decode cX12_number 21 = .ok (.aload_n 0, 1) := by decide +kernel
theorem dX12_number_22 : decode cX12_number 22 = .ok (.getfield 220, 3) := by decide +kernel
theorem dX12_number_25 : decode cX12_number 25 = .ok (.isub, 1) := by decide +kernel
theorem dX12_number_26 : decode cX12_number 26 = .ok (.bipush 6, 2) := by decide +kernel
theorem dX12_number_28 : decode cX12_number 28 = .ok (.if_icmp .ge 23, 3) := by decide +kernel
theorem dX12_number_31 : decode cX12_number 31 = .ok (.bipush 10, 2) := by decide +kernel
theorem dX12_number_33 : decode cX12_number 33 = .ok (.iload_n 2, 1) := by decide +kernel
theorem dX12_number_34 : decode cX12_number 34 = .ok (.imul, 1) := by decide +kernel
theorem dX12_number_35 : decode cX12_number 35 = .ok (.aload_n 0, 1) := by decide +kernel
theorem dX12_number_36 : decode cX12_number 36 = .ok (.getfield 26, 3) := by decide +kernel
theorem dX12_number_39 : decode cX12_number 39 = .ok (.aload_n 0, 1) := by decide +kernel
theorem dX12_number_40 : decode cX12_number 40 = .ok (.getfield 211, 3) := by decide +kernel
theorem dX12_number_43 : decode cX12_number 43 = .ok (.baload, 1) := by decide +kernel
theorem dX12_number_44 : decode cX12_number 44 = .ok (.iadd, 1) := by decide +kernel
theorem dX12_number_45 : decode cX12_number 45 = .ok (.bipush 48, 2) := by decide +kernel
theorem dX12_number_47 : decode cX12_number 47 = .ok (.isub, 1) := by decide +kernel
theorem dX12_number_48 : decode cX12_number 48 = .ok (.goto 4, 3) := by decide +kernel
theorem dX12_number_51 : decode cX12_number 51 = .ok (.iload_n 2, 1) := by decide +kernel
theorem dX12_number_52 : decode cX12_number 52 = .ok (.istore_n 2, 1) := by decide +kernel
theorem dX12_number_53 : decode cX12_number 53 = .ok (.aload_n 0, 1) := by decide +kernel
theorem dX12_number_54 : decode cX12_number 54 = .ok (.dup, 1) := by decide +kernel
theorem dX12_number_55 : decode cX12_number 55 = .ok (.getfield 211, 3) := by decide +kernel
theorem dX12_number_58 : decode cX12_number 58 = .ok (.iconst 1, 1) := by decide +kernel
theorem dX12_number_59 : decode cX12_number 59 = .ok (.iadd, 1) := by decide +kernel
theorem dX12_number_60 : decode cX12_number 60 = .ok (.putfield 211, 3) := by decide +kernel
theorem dX12_number_63 : decode cX12_number 63 = .ok (.goto (-57), 3) := by decide +kernel
theorem dX12_number_66 : decode cX12_number 66 = .ok (.aload_n 0, 1) := by decide +kernel
theorem dX12_number_67 : decode cX12_number 67 = .ok (.getfield 211, 3) := by decide +kernel
theorem dX12_number_70 : decode cX12_number 70 = .ok (.aload_n 0, 1) := by decide +kernel
theorem dX12_number_71 : decode cX12_number 71 = .ok (.getfield 220, 3) := by decide +kernel
theorem dX12_number_74 : decode cX12_number 74 = .ok (.if_icmp .eq 22, 3) := by decide +kernel
theorem dX12_number_77 : decode cX12_number 77 = .ok (.aload_n 0, 1) := by decide +kernel
theorem dX12_number_78 : decode cX12_number 78 = .ok (.getfield 211, 3) := by decide +kernel
theorem dX12_number_81 : decode cX12_number 81 = .ok (.aload_n 0, 1) := by decide +kernel
theorem dX12_number_82 : decode cX12_number 82 = .ok (.getfield 220, 3) := by decide +kernel
theorem dX12_number_85 : decode cX12_number 85 = .ok (.isub, 1) := by decide +kernel
theorem dX12_number_86 : decode cX12_number 86 = .ok (.bipush 6, 2) := by decide +kernel
theorem dX12_number_88 : decode cX12_number 88 = .ok (.if_icmp .gt 8, 3) := by decide +kernel
theorem dX12_number_91 : decode cX12_number 91 = .ok (.iload_n 2, 1) := by decide +kernel
theorem dX12_number_92 : decode cX12_number 92 = .ok (.iload_n 1, 1) := by decide +kernel
theorem dX12_number_93 : decode cX12_number 93 = .ok (.if_icmp .le 7, 3) := by decide +kernel
theorem dX12_number_96 : decode cX12_number 96 = .ok (.iconst (-1), 1) := by decide +kernel
theorem dX12_number_97 : decode cX12_number 97 = .ok (.goto 4, 3) := by decide +kernel
theorem dX12_number_100 : decode cX12_number 100 = .ok (.iload_n 2, 1) := by decide +kernel
theorem dX12_number_101 : decode cX12_number 101 = .ok (.ireturn, 1) := by decide +kernel
noncomputable def o_X12_number_6 (F : Nat) (l1 : Int32)  : Nat → Int32 → rs_S → Option (Int32 × rs_S)
  | 0, _, _ => none
  | f + 1, l2, s => (o_X12_isAt s (nI 48) (nI 57)).bind fun x2 => (if x2 = 0 then (some (l2, s)) else (if (nI 6) ≤ ((s.1 9) - (s.1 11)) then (o_X12_number_6 F l1 f l2 (pN s 9 ((s.1 9) + (nI 1)))) else (if iL (s.1 9) 400 then (o_X12_number_6 F l1 f ((((nI 10) * l2) + (gR s 4 (s.1 9))) - (nI 48)) (pN s 9 ((s.1 9) + (nI 1)))) else none)))
set_option maxHeartbeats 4000000 in
theorem t_X12_number_6 {Γ : jg_G} {g : Nat → jg_C} {n r : Nat} (hr : r + 11 ≤ n) (F : Nat) (l1 : Int32)   (Q : jg_Q) {x : Int32 × rs_S} (K1 : jg Γ mX12_number 2 0 0 66 [some (.ref r), some (.int l1), some (.int x.1)] [] (rs_h g r x.2, n) Q)  : ∀ (f : Nat) (l2 : Int32) (s : rs_S), o_X12_number_6 F l1 f l2 s = some x → jg Γ mX12_number 2 0 0 6 [some (.ref r), some (.int l1), some (.int l2)] [] (rs_h g r s, n) Q := by
  intro f
  induction f with
  | zero => intro l2 s h; rw [o_X12_number_6] at h; cases h
  | succ f ih =>
   intro l2 s h
   rw [o_X12_number_6] at h
   refine jg_aload_n dX12_number_6 rfl ?_
   refine jg_bipush (v := nI 48) dX12_number_7 (by decide) ?_
   refine jg_bipush (v := nI 57) dX12_number_9 (by decide) ?_
   obtain ⟨x2, e_x2, h⟩ := bd_some h
   refine rs_call (As := [.int (nI 48), .int (nI 57)]) kv_X12_217 dX12_number_11 hr rfl rfl (by decide) (Nat.le_of_ble_eq_true rfl) rfl (by decide) (Nat.le_of_ble_eq_true rfl) (t_X12_isAt hr s (nI 48) (nI 57) e_x2) ?_
   refine jg_if_eq (x := x2) (tgt := 66) dX12_number_14 (by decide) (fun c3 => ?_) (fun c3 => ?_)
   · replace h := it_t c3 h
     refine jg_fg (L' := [some (.ref r), some (.int l1), some (.int l2)]) (by repeat (first | exact trivial | refine ⟨rfl, ?_⟩ | show jg_le _ _)) ?_
     obtain rfl := Option.some.inj h
     exact K1
   · replace h := it_f c3 h
     refine jg_aload_n dX12_number_17 rfl ?_
     refine rs_ga fl_X12_211 dX12_number_18 hr rfl ?_
     refine jg_aload_n dX12_number_21 rfl ?_
     refine rs_ga fl_X12_220 dX12_number_22 hr rfl ?_
     refine jg_isub (x := (s.1 9)) (y := (s.1 11)) dX12_number_25  ?_
     refine jg_bipush (v := nI 6) dX12_number_26 (by decide) ?_
     refine jg_icmp_ge (x := ((s.1 9) - (s.1 11))) (y := (nI 6)) (tgt := 51) dX12_number_28 (by decide) (fun c4 => ?_) (fun c4 => ?_)
     · replace h := it_t c4 h
       refine jg_iload_n dX12_number_51 rfl ?_
       refine jg_istore_n (L' := [some (.ref r), some (.int l1), some (.int l2)]) dX12_number_52 (by decide) rfl ?_
       refine jg_aload_n dX12_number_53 rfl ?_
       refine jg_dup dX12_number_54 rfl ?_
       refine rs_ga fl_X12_211 dX12_number_55 hr rfl ?_
       refine jg_iconst (v := nI 1) dX12_number_58 (by decide) ?_
       refine jg_iadd (x := (s.1 9)) (y := (nI 1)) dX12_number_59  ?_
       refine rs_putD (s := s) (k := 9) (x := ((s.1 9) + (nI 1))) fl_X12_211 dX12_number_60 hr (by decide) (rfl) rfl rfl ?_
       refine jg_goto (tgt := 6) dX12_number_63 (by decide) ?_
       refine jg_fg (L' := [some (.ref r), some (.int l1), some (.int l2)]) (by repeat (first | exact trivial | refine ⟨rfl, ?_⟩ | show jg_le _ _)) ?_
       exact ih l2 (pN s 9 ((s.1 9) + (nI 1))) h
     · replace h := it_f c4 h
       refine jg_bipush (v := nI 10) dX12_number_31 (by decide) ?_
       refine jg_iload_n dX12_number_33 rfl ?_
       refine jg_imul (x := (nI 10)) (y := l2) dX12_number_34  ?_
       refine jg_aload_n dX12_number_35 rfl ?_
       refine rs_ga fl_X12_26 dX12_number_36 hr rfl ?_
       refine jg_aload_n dX12_number_39 rfl ?_
       refine rs_ga fl_X12_211 dX12_number_40 hr rfl ?_
       obtain ⟨q5, h⟩ := gd_some h
       refine rs_lbD (s := s) (i := (s.1 9)) (j := 3) dX12_number_43 hr (by decide) rfl q5 ?_
       refine jg_iadd (x := ((nI 10) * l2)) (y := (gR s 4 (s.1 9))) dX12_number_44  ?_
       refine jg_bipush (v := nI 48) dX12_number_45 (by decide) ?_
       refine jg_isub (x := (((nI 10) * l2) + (gR s 4 (s.1 9)))) (y := (nI 48)) dX12_number_47  ?_
       refine jg_goto (tgt := 52) dX12_number_48 (by decide) ?_
       refine jg_istore_n (L' := [some (.ref r), some (.int l1), some (.int ((((nI 10) * l2) + (gR s 4 (s.1 9))) - (nI 48)))]) dX12_number_52 (by decide) rfl ?_
       refine jg_aload_n dX12_number_53 rfl ?_
       refine jg_dup dX12_number_54 rfl ?_
       refine rs_ga fl_X12_211 dX12_number_55 hr rfl ?_
       refine jg_iconst (v := nI 1) dX12_number_58 (by decide) ?_
       refine jg_iadd (x := (s.1 9)) (y := (nI 1)) dX12_number_59  ?_
       refine rs_putD (s := s) (k := 9) (x := ((s.1 9) + (nI 1))) fl_X12_211 dX12_number_60 hr (by decide) (rfl) rfl rfl ?_
       refine jg_goto (tgt := 6) dX12_number_63 (by decide) ?_
       refine jg_fg (L' := [some (.ref r), some (.int l1), some (.int ((((nI 10) * l2) + (gR s 4 (s.1 9))) - (nI 48)))]) (by repeat (first | exact trivial | refine ⟨rfl, ?_⟩ | show jg_le _ _)) ?_
       exact ih ((((nI 10) * l2) + (gR s 4 (s.1 9))) - (nI 48)) (pN s 9 ((s.1 9) + (nI 1))) h
noncomputable def o_X12_number (F : Nat) (s : rs_S) (a1 : Int32) : Option (Int32 × rs_S) := (o_X12_blanks F s).bind fun x1 => ((o_X12_number_6 F a1 F (nI 0) x1).bind fun x6 => (if (x6.2.1 9) = (x6.2.1 11) then (some ((-1), x6.2)) else (if (nI 6) < ((x6.2.1 9) - (x6.2.1 11)) then (some ((-1), x6.2)) else (if x6.1 ≤ a1 then (some (x6.1, x6.2)) else (some ((-1), x6.2))))))
set_option maxHeartbeats 4000000 in
theorem t_X12_number {Γ : jg_G} {g : Nat → jg_C} {n r : Nat} (hr : r + 11 ≤ n) (F : Nat) (s : rs_S) (a1 : Int32)  {x : Int32 × rs_S} (h : o_X12_number F s a1 = some x) : jc Γ mX12_number 2 0 0 [some (.ref r), some (.int a1), none] (rs_h g r s, n) (.inl (some (.int x.1))) (rs_h g r x.2, n) := by
  refine jc_of ?_
  rw [o_X12_number] at h
  refine jg_aload_n dX12_number_0 rfl ?_
  obtain ⟨x1, e_x1, h⟩ := bd_some h
  refine rs_call (As := []) kv_X12_223 dX12_number_1 hr rfl rfl (by decide) (Nat.le_of_ble_eq_true rfl) rfl (by decide) (Nat.le_of_ble_eq_true rfl) (t_X12_blanks hr F s e_x1) ?_
  refine jg_iconst (v := nI 0) dX12_number_4 (by decide) ?_
  refine jg_istore_n (L' := [some (.ref r), some (.int a1), some (.int (nI 0))]) dX12_number_5 (by decide) rfl ?_
  obtain ⟨x6, e_x6, h⟩ := bd_some h
  refine jg_fg (L' := [some (.ref r), some (.int a1), some (.int (nI 0))]) (by repeat (first | exact trivial | refine ⟨rfl, ?_⟩ | show jg_le _ _)) ?_
  refine t_X12_number_6 hr F a1  _ (x := x6) ?_ F (nI 0) x1 e_x6
  refine jg_aload_n dX12_number_66 rfl ?_
  refine rs_ga fl_X12_211 dX12_number_67 hr rfl ?_
  refine jg_aload_n dX12_number_70 rfl ?_
  refine rs_ga fl_X12_220 dX12_number_71 hr rfl ?_
  refine jg_icmp_eq (x := (x6.2.1 9)) (y := (x6.2.1 11)) (tgt := 96) dX12_number_74 (by decide) (fun c7 => ?_) (fun c7 => ?_)
  · replace h := it_t c7 h
    refine jg_iconst (v := (-1)) dX12_number_96 (by decide) ?_
    refine jg_goto (tgt := 101) dX12_number_97 (by decide) ?_
    obtain rfl := Option.some.inj h
    exact jg_ireturn dX12_number_101 rfl ⟨rfl, rfl⟩
  · replace h := it_f c7 h
    refine jg_aload_n dX12_number_77 rfl ?_
    refine rs_ga fl_X12_211 dX12_number_78 hr rfl ?_
    refine jg_aload_n dX12_number_81 rfl ?_
    refine rs_ga fl_X12_220 dX12_number_82 hr rfl ?_
    refine jg_isub (x := (x6.2.1 9)) (y := (x6.2.1 11)) dX12_number_85  ?_
    refine jg_bipush (v := nI 6) dX12_number_86 (by decide) ?_
    refine jg_icmp_gt (x := ((x6.2.1 9) - (x6.2.1 11))) (y := (nI 6)) (tgt := 96) dX12_number_88 (by decide) (fun c8 => ?_) (fun c8 => ?_)
    · replace h := it_t c8 h
      refine jg_iconst (v := (-1)) dX12_number_96 (by decide) ?_
      refine jg_goto (tgt := 101) dX12_number_97 (by decide) ?_
      obtain rfl := Option.some.inj h
      exact jg_ireturn dX12_number_101 rfl ⟨rfl, rfl⟩
    · replace h := it_f c8 h
      refine jg_iload_n dX12_number_91 rfl ?_
      refine jg_iload_n dX12_number_92 rfl ?_
      refine jg_icmp_le (x := x6.1) (y := a1) (tgt := 100) dX12_number_93 (by decide) (fun c9 => ?_) (fun c9 => ?_)
      · replace h := it_t c9 h
        refine jg_iload_n dX12_number_100 rfl ?_
        obtain rfl := Option.some.inj h
        exact jg_ireturn dX12_number_101 rfl ⟨rfl, rfl⟩
      · replace h := it_f c9 h
        refine jg_iconst (v := (-1)) dX12_number_96 (by decide) ?_
        refine jg_goto (tgt := 101) dX12_number_97 (by decide) ?_
        obtain rfl := Option.some.inj h
        exact jg_ireturn dX12_number_101 rfl ⟨rfl, rfl⟩
theorem dX12_sign_0 : decode cX12_sign 0 = .ok (.aload_n 0, 1) := by decide +kernel
theorem dX12_sign_1 : decode cX12_sign 1 = .ok (.invokevirtual 223, 3) := by decide +kernel
theorem dX12_sign_4 : decode cX12_sign 4 = .ok (.aload_n 0, 1) := by decide +kernel
theorem dX12_sign_5 : decode cX12_sign 5 = .ok (.iload_n 1, 1) := by decide +kernel
theorem dX12_sign_6 : decode cX12_sign 6 = .ok (.iload_n 1, 1) := by decide +kernel
theorem dX12_sign_7 : decode cX12_sign 7 = .ok (.invokevirtual 217, 3) := by decide +kernel
theorem dX12_sign_10 : decode cX12_sign 10 = .ok (.ifCond .ne 5, 3) := by decide +kernel
theorem dX12_sign_13 : decode cX12_sign 13 = .ok (.iconst 0, 1) := by decide +kernel
theorem dX12_sign_14 : decode cX12_sign 14 = .ok (.ireturn, 1) := by decide +kernel
theorem dX12_sign_15 : decode cX12_sign 15 = .ok (.aload_n 0, 1) := by decide +kernel
theorem dX12_sign_16 : decode cX12_sign 16 = .ok (.dup, 1) := by decide +kernel
theorem dX12_sign_17 : decode cX12_sign 17 = .ok (.getfield 211, 3) := by decide +kernel
theorem dX12_sign_20 : decode cX12_sign 20 = .ok (.iconst 1, 1) := by decide +kernel
theorem dX12_sign_21 : decode cX12_sign 21 = .ok (.iadd, 1) := by decide +kernel
theorem dX12_sign_22 : decode cX12_sign 22 = .ok (.putfield 211, 3) := by decide +kernel
theorem dX12_sign_25 : decode cX12_sign 25 = .ok (.iconst 1, 1) := by decide +kernel
theorem dX12_sign_26 : decode cX12_sign 26 = .ok (.ireturn, 1) := by decide +kernel
noncomputable def o_X12_sign (F : Nat) (s : rs_S) (a1 : Int32) : Option (Int32 × rs_S) := (o_X12_blanks F s).bind fun x1 => ((o_X12_isAt x1 a1 a1).bind fun x2 => (if x2 = 0 then (some (nI 0, x1)) else (some (nI 1, pN x1 9 ((x1.1 9) + (nI 1))))))
set_option maxHeartbeats 4000000 in
theorem t_X12_sign {Γ : jg_G} {g : Nat → jg_C} {n r : Nat} (hr : r + 11 ≤ n) (F : Nat) (s : rs_S) (a1 : Int32)  {x : Int32 × rs_S} (h : o_X12_sign F s a1 = some x) : jc Γ mX12_sign 2 0 0 [some (.ref r), some (.int a1)] (rs_h g r s, n) (.inl (some (.int x.1))) (rs_h g r x.2, n) := by
  refine jc_of ?_
  rw [o_X12_sign] at h
  refine jg_aload_n dX12_sign_0 rfl ?_
  obtain ⟨x1, e_x1, h⟩ := bd_some h
  refine rs_call (As := []) kv_X12_223 dX12_sign_1 hr rfl rfl (by decide) (Nat.le_of_ble_eq_true rfl) rfl (by decide) (Nat.le_of_ble_eq_true rfl) (t_X12_blanks hr F s e_x1) ?_
  refine jg_aload_n dX12_sign_4 rfl ?_
  refine jg_iload_n dX12_sign_5 rfl ?_
  refine jg_iload_n dX12_sign_6 rfl ?_
  obtain ⟨x2, e_x2, h⟩ := bd_some h
  refine rs_call (As := [.int a1, .int a1]) kv_X12_217 dX12_sign_7 hr rfl rfl (by decide) (Nat.le_of_ble_eq_true rfl) rfl (by decide) (Nat.le_of_ble_eq_true rfl) (t_X12_isAt hr x1 a1 a1 e_x2) ?_
  refine jg_if_ne (x := x2) (tgt := 15) dX12_sign_10 (by decide) (fun c3 => ?_) (fun c3 => ?_)
  · replace h := it_f c3 h
    refine jg_aload_n dX12_sign_15 rfl ?_
    refine jg_dup dX12_sign_16 rfl ?_
    refine rs_ga fl_X12_211 dX12_sign_17 hr rfl ?_
    refine jg_iconst (v := nI 1) dX12_sign_20 (by decide) ?_
    refine jg_iadd (x := (x1.1 9)) (y := (nI 1)) dX12_sign_21  ?_
    refine rs_putD (s := x1) (k := 9) (x := ((x1.1 9) + (nI 1))) fl_X12_211 dX12_sign_22 hr (by decide) (rfl) rfl rfl ?_
    refine jg_iconst (v := nI 1) dX12_sign_25 (by decide) ?_
    obtain rfl := Option.some.inj h
    exact jg_zreturn dX12_sign_26 rfl (rfl) ⟨rfl, rfl⟩
  · replace h := it_t c3 h
    refine jg_iconst (v := nI 0) dX12_sign_13 (by decide) ?_
    obtain rfl := Option.some.inj h
    exact jg_zreturn dX12_sign_14 rfl (rfl) ⟨rfl, rfl⟩
theorem dX12_adds_0 : decode cX12_adds 0 = .ok (.bipush 21, 2) := by decide +kernel
theorem dX12_adds_2 : decode cX12_adds 2 = .ok (.invokestatic 242, 3) := by decide +kernel
theorem dX12_adds_5 : decode cX12_adds 5 = .ok (.bipush 82, 2) := by decide +kernel
theorem dX12_adds_7 : decode cX12_adds 7 = .ok (.iadd, 1) := by decide +kernel
theorem dX12_adds_8 : decode cX12_adds 8 = .ok (.iconst 2, 1) := by decide +kernel
theorem dX12_adds_9 : decode cX12_adds 9 = .ok (.aload_n 0, 1) := by decide +kernel
theorem dX12_adds_10 : decode cX12_adds 10 = .ok (.getfield 245, 3) := by decide +kernel
theorem dX12_adds_13 : decode cX12_adds 13 = .ok (.imul, 1) := by decide +kernel
theorem dX12_adds_14 : decode cX12_adds 14 = .ok (.iadd, 1) := by decide +kernel
theorem dX12_adds_15 : decode cX12_adds 15 = .ok (.istore_n 3, 1) := by decide +kernel
theorem dX12_adds_16 : decode cX12_adds 16 = .ok (.aload_n 0, 1) := by decide +kernel
theorem dX12_adds_17 : decode cX12_adds 17 = .ok (.getfield 13, 3) := by decide +kernel
theorem dX12_adds_20 : decode cX12_adds 20 = .ok (.iload_n 3, 1) := by decide +kernel
theorem dX12_adds_21 : decode cX12_adds 21 = .ok (.iload_n 1, 1) := by decide +kernel
theorem dX12_adds_22 : decode cX12_adds 22 = .ok (.iastore, 1) := by decide +kernel
theorem dX12_adds_23 : decode cX12_adds 23 = .ok (.aload_n 0, 1) := by decide +kernel
theorem dX12_adds_24 : decode cX12_adds 24 = .ok (.getfield 13, 3) := by decide +kernel
theorem dX12_adds_27 : decode cX12_adds 27 = .ok (.iload_n 3, 1) := by decide +kernel
theorem dX12_adds_28 : decode cX12_adds 28 = .ok (.iconst 1, 1) := by decide +kernel
theorem dX12_adds_29 : decode cX12_adds 29 = .ok (.iadd, 1) := by decide +kernel
theorem dX12_adds_30 : decode cX12_adds 30 = .ok (.iload_n 2, 1) := by decide +kernel
theorem dX12_adds_31 : decode cX12_adds 31 = .ok (.iastore, 1) := by decide +kernel
theorem dX12_adds_32 : decode cX12_adds 32 = .ok (.aload_n 0, 1) := by decide +kernel
theorem dX12_adds_33 : decode cX12_adds 33 = .ok (.dup, 1) := by decide +kernel
theorem dX12_adds_34 : decode cX12_adds 34 = .ok (.getfield 245, 3) := by decide +kernel
theorem dX12_adds_37 : decode cX12_adds 37 = .ok (.iconst 1, 1) := by decide +kernel
theorem dX12_adds_38 : decode cX12_adds 38 = .ok (.iadd, 1) := by decide +kernel
theorem dX12_adds_39 : decode cX12_adds 39 = .ok (.putfield 245, 3) := by decide +kernel
theorem dX12_adds_42 : decode cX12_adds 42 = .ok (.return_, 1) := by decide +kernel
noncomputable def o_X12_adds (s : rs_S) (a1 : Int32) (a2 : Int32) : Option (rs_S) := (o_X12_actAt s (nI 21)).bind fun x1 => (if iL ((x1 + (nI 82)) + ((nI 2) * (s.1 15))) 22216 then (if iL (((x1 + (nI 82)) + ((nI 2) * (s.1 15))) + (nI 1)) 22216 then (some (pN (pW (pW s ((x1 + (nI 82)) + ((nI 2) * (s.1 15))) a1) (((x1 + (nI 82)) + ((nI 2) * (s.1 15))) + (nI 1)) a2) 15 (((pW (pW s ((x1 + (nI 82)) + ((nI 2) * (s.1 15))) a1) (((x1 + (nI 82)) + ((nI 2) * (s.1 15))) + (nI 1)) a2).1 15) + (nI 1)))) else none) else none)
set_option maxHeartbeats 4000000 in
theorem t_X12_adds {Γ : jg_G} {g : Nat → jg_C} {n r : Nat} (hr : r + 11 ≤ n) (s : rs_S) (a1 : Int32) (a2 : Int32)  {x : rs_S} (h : o_X12_adds s a1 a2 = some x) : jc Γ mX12_adds 1 0 0 [some (.ref r), some (.int a1), some (.int a2), none] (rs_h g r s, n) (.inl none) (rs_h g r x, n) := by
  refine jc_of ?_
  rw [o_X12_adds] at h
  refine jg_bipush (v := nI 21) dX12_adds_0 (by decide) ?_
  obtain ⟨x1, e_x1, h⟩ := bd_some h
  refine rs_callS (As := [.int (nI 21)]) ks_X12_242 dX12_adds_2 rfl (by decide) (Nat.le_of_ble_eq_true rfl) rfl (by decide) (Nat.le_of_ble_eq_true rfl) (t_X12_actAt hr s (nI 21) e_x1) ?_
  refine jg_bipush (v := nI 82) dX12_adds_5 (by decide) ?_
  refine jg_iadd (x := x1) (y := (nI 82)) dX12_adds_7  ?_
  refine jg_iconst (v := nI 2) dX12_adds_8 (by decide) ?_
  refine jg_aload_n dX12_adds_9 rfl ?_
  refine rs_ga fl_X12_245 dX12_adds_10 hr rfl ?_
  refine jg_imul (x := (nI 2)) (y := (s.1 15)) dX12_adds_13  ?_
  refine jg_iadd (x := (x1 + (nI 82))) (y := ((nI 2) * (s.1 15))) dX12_adds_14  ?_
  refine jg_istore_n (L' := [some (.ref r), some (.int a1), some (.int a2), some (.int ((x1 + (nI 82)) + ((nI 2) * (s.1 15))))]) dX12_adds_15 (by decide) rfl ?_
  refine jg_aload_n dX12_adds_16 rfl ?_
  refine rs_ga fl_X12_13 dX12_adds_17 hr rfl ?_
  refine jg_iload_n dX12_adds_20 rfl ?_
  refine jg_iload_n dX12_adds_21 rfl ?_
  obtain ⟨q2, h⟩ := gd_some h
  refine rs_swD (s := s) (i := ((x1 + (nI 82)) + ((nI 2) * (s.1 15)))) (x := a1) dX12_adds_22 hr q2 ?_
  refine jg_aload_n dX12_adds_23 rfl ?_
  refine rs_ga fl_X12_13 dX12_adds_24 hr rfl ?_
  refine jg_iload_n dX12_adds_27 rfl ?_
  refine jg_iconst (v := nI 1) dX12_adds_28 (by decide) ?_
  refine jg_iadd (x := ((x1 + (nI 82)) + ((nI 2) * (s.1 15)))) (y := (nI 1)) dX12_adds_29  ?_
  refine jg_iload_n dX12_adds_30 rfl ?_
  obtain ⟨q3, h⟩ := gd_some h
  refine rs_swD (s := (pW s ((x1 + (nI 82)) + ((nI 2) * (s.1 15))) a1)) (i := (((x1 + (nI 82)) + ((nI 2) * (s.1 15))) + (nI 1))) (x := a2) dX12_adds_31 hr q3 ?_
  refine jg_aload_n dX12_adds_32 rfl ?_
  refine jg_dup dX12_adds_33 rfl ?_
  refine rs_ga fl_X12_245 dX12_adds_34 hr rfl ?_
  refine jg_iconst (v := nI 1) dX12_adds_37 (by decide) ?_
  refine jg_iadd (x := ((pW (pW s ((x1 + (nI 82)) + ((nI 2) * (s.1 15))) a1) (((x1 + (nI 82)) + ((nI 2) * (s.1 15))) + (nI 1)) a2).1 15)) (y := (nI 1)) dX12_adds_38  ?_
  refine rs_putD (s := (pW (pW s ((x1 + (nI 82)) + ((nI 2) * (s.1 15))) a1) (((x1 + (nI 82)) + ((nI 2) * (s.1 15))) + (nI 1)) a2)) (k := 15) (x := (((pW (pW s ((x1 + (nI 82)) + ((nI 2) * (s.1 15))) a1) (((x1 + (nI 82)) + ((nI 2) * (s.1 15))) + (nI 1)) a2).1 15) + (nI 1))) fl_X12_245 dX12_adds_39 hr (by decide) (rfl) rfl rfl ?_
  obtain rfl := Option.some.inj h
  exact jg_return dX12_adds_42 rfl ⟨rfl, rfl⟩
theorem dX12_copies_0 : decode cX12_copies 0 = .ok (.iconst 0, 1) := by decide +kernel
theorem dX12_copies_1 : decode cX12_copies 1 = .ok (.istore 4, 2) := by decide +kernel
theorem dX12_copies_3 : decode cX12_copies 3 = .ok (.iload 4, 2) := by decide +kernel
theorem dX12_copies_5 : decode cX12_copies 5 = .ok (.sipush 882, 3) := by decide +kernel
theorem dX12_copies_8 : decode cX12_copies 8 = .ok (.if_icmp .ge 33, 3) := by decide +kernel
theorem dX12_copies_11 : decode cX12_copies 11 = .ok (.aload_n 0, 1) := by decide +kernel
theorem dX12_copies_12 : decode cX12_copies 12 = .ok (.getfield 13, 3) := by decide +kernel
theorem dX12_copies_15 : decode cX12_copies 15 = .ok (.iload_n 2, 1) := by decide +kernel
theorem dX12_copies_16 : decode cX12_copies 16 = .ok (.invokestatic 242, 3) := by decide +kernel
theorem dX12_copies_19 : decode cX12_copies 19 = .ok (.iload 4, 2) := by decide +kernel
theorem dX12_copies_21 : decode cX12_copies 21 = .ok (.iadd, 1) := by decide +kernel
theorem dX12_copies_22 : decode cX12_copies 22 = .ok (.aload_n 0, 1) := by decide +kernel
theorem dX12_copies_23 : decode cX12_copies 23 = .ok (.getfield 13, 3) := by decide +kernel
theorem dX12_copies_26 : decode cX12_copies 26 = .ok (.iload_n 1, 1) := by decide +kernel
theorem dX12_copies_27 : decode cX12_copies 27 = .ok (.invokestatic 242, 3) := by decide +kernel
theorem dX12_copies_30 : decode cX12_copies 30 = .ok (.iload 4, 2) := by decide +kernel
theorem dX12_copies_32 : decode cX12_copies 32 = .ok (.iadd, 1) := by decide +kernel
theorem dX12_copies_33 : decode cX12_copies 33 = .ok (.iaload, 1) := by decide +kernel
theorem dX12_copies_34 : decode cX12_copies 34 = .ok (.iastore, 1) := by decide +kernel
theorem dX12_copies_35 : decode cX12_copies 35 = .ok (.iinc 4 1, 3) := by decide +kernel
theorem dX12_copies_38 : decode cX12_copies 38 = .ok (.goto (-35), 3) := by decide +kernel
theorem dX12_copies_41 : decode cX12_copies 41 = .ok (.aload_n 0, 1) := by decide +kernel
theorem dX12_copies_42 : decode cX12_copies 42 = .ok (.getfield 13, 3) := by decide +kernel
theorem dX12_copies_45 : decode cX12_copies 45 = .ok (.iload_n 2, 1) := by decide +kernel
theorem dX12_copies_46 : decode cX12_copies 46 = .ok (.invokestatic 242, 3) := by decide +kernel
theorem dX12_copies_49 : decode cX12_copies 49 = .ok (.iload_n 3, 1) := by decide +kernel
theorem dX12_copies_50 : decode cX12_copies 50 = .ok (.iastore, 1) := by decide +kernel
theorem dX12_copies_51 : decode cX12_copies 51 = .ok (.return_, 1) := by decide +kernel
noncomputable def o_X12_copies_3 (F : Nat) (l1 : Int32) (l2 : Int32) (l3 : Int32)  : Nat → Int32 → rs_S → Option (rs_S)
  | 0, _, _ => none
  | f + 1, l4, s => if (nI 882) ≤ l4 then (some s) else ((o_X12_actAt s l2).bind fun x2 => ((o_X12_actAt s l1).bind fun x3 => (if iL (x3 + l4) 22216 then (if iL (x2 + l4) 22216 then (o_X12_copies_3 F l1 l2 l3 f (l4 + nI 1) (pW s (x2 + l4) (gW s (x3 + l4)))) else none) else none)))
set_option maxHeartbeats 4000000 in
theorem t_X12_copies_3 {Γ : jg_G} {g : Nat → jg_C} {n r : Nat} (hr : r + 11 ≤ n) (F : Nat) (l1 : Int32) (l2 : Int32) (l3 : Int32)   (Q : jg_Q) {x : rs_S} (K1 : jg Γ mX12_copies 1 0 0 41 [some (.ref r), none, some (.int l2), some (.int l3), none] [] (rs_h g r x, n) Q)  : ∀ (f : Nat) (l4 : Int32) (s : rs_S), o_X12_copies_3 F l1 l2 l3 f l4 s = some x → jg Γ mX12_copies 1 0 0 3 [some (.ref r), some (.int l1), some (.int l2), some (.int l3), some (.int l4)] [] (rs_h g r s, n) Q := by
  intro f
  induction f with
  | zero => intro l4 s h; rw [o_X12_copies_3] at h; cases h
  | succ f ih =>
   intro l4 s h
   rw [o_X12_copies_3] at h
   refine jg_iload dX12_copies_3 rfl ?_
   refine jg_sipush (v := nI 882) dX12_copies_5 (by decide) ?_
   refine jg_icmp_ge (x := l4) (y := (nI 882)) (tgt := 41) dX12_copies_8 (by decide) (fun c1 => ?_) (fun c1 => ?_)
   · replace h := it_t c1 h
     refine jg_fg (L' := [some (.ref r), none, some (.int l2), some (.int l3), none]) (by repeat (first | exact trivial | refine ⟨rfl, ?_⟩ | show jg_le _ _)) ?_
     obtain rfl := Option.some.inj h
     exact K1
   · replace h := it_f c1 h
     refine jg_aload_n dX12_copies_11 rfl ?_
     refine rs_ga fl_X12_13 dX12_copies_12 hr rfl ?_
     refine jg_iload_n dX12_copies_15 rfl ?_
     obtain ⟨x2, e_x2, h⟩ := bd_some h
     refine rs_callS (As := [.int l2]) ks_X12_242 dX12_copies_16 rfl (by decide) (Nat.le_of_ble_eq_true rfl) rfl (by decide) (Nat.le_of_ble_eq_true rfl) (t_X12_actAt hr s l2 e_x2) ?_
     refine jg_iload dX12_copies_19 rfl ?_
     refine jg_iadd (x := x2) (y := l4) dX12_copies_21  ?_
     refine jg_aload_n dX12_copies_22 rfl ?_
     refine rs_ga fl_X12_13 dX12_copies_23 hr rfl ?_
     refine jg_iload_n dX12_copies_26 rfl ?_
     obtain ⟨x3, e_x3, h⟩ := bd_some h
     refine rs_callS (As := [.int l1]) ks_X12_242 dX12_copies_27 rfl (by decide) (Nat.le_of_ble_eq_true rfl) rfl (by decide) (Nat.le_of_ble_eq_true rfl) (t_X12_actAt hr s l1 e_x3) ?_
     refine jg_iload dX12_copies_30 rfl ?_
     refine jg_iadd (x := x3) (y := l4) dX12_copies_32  ?_
     obtain ⟨q4, h⟩ := gd_some h
     refine rs_lwD (s := s) (i := (x3 + l4)) dX12_copies_33 hr q4 ?_
     obtain ⟨q5, h⟩ := gd_some h
     refine rs_swD (s := s) (i := (x2 + l4)) (x := (gW s (x3 + l4))) dX12_copies_34 hr q5 ?_
     refine jg_iinc (x := l4) (v := l4 + nI 1) (L' := [some (.ref r), some (.int l1), some (.int l2), some (.int l3), some (.int (l4 + nI 1))]) dX12_copies_35 rfl (ic_k _ (by decide)) (by decide) rfl ?_
     refine jg_goto (tgt := 3) dX12_copies_38 (by decide) ?_
     refine jg_fg (L' := [some (.ref r), some (.int l1), some (.int l2), some (.int l3), some (.int (l4 + nI 1))]) (by repeat (first | exact trivial | refine ⟨rfl, ?_⟩ | show jg_le _ _)) ?_
     exact ih (l4 + nI 1) (pW s (x2 + l4) (gW s (x3 + l4))) h
noncomputable def o_X12_copies (F : Nat) (s : rs_S) (a1 : Int32) (a2 : Int32) (a3 : Int32) : Option (rs_S) := (o_X12_copies_3 F a1 a2 a3 F (nI 0) s).bind fun x6 => ((o_X12_actAt x6 a2).bind fun x7 => (if iL x7 22216 then (some (pW x6 x7 a3)) else none))
set_option maxHeartbeats 4000000 in
theorem t_X12_copies {Γ : jg_G} {g : Nat → jg_C} {n r : Nat} (hr : r + 11 ≤ n) (F : Nat) (s : rs_S) (a1 : Int32) (a2 : Int32) (a3 : Int32)  {x : rs_S} (h : o_X12_copies F s a1 a2 a3 = some x) : jc Γ mX12_copies 1 0 0 [some (.ref r), some (.int a1), some (.int a2), some (.int a3), none] (rs_h g r s, n) (.inl none) (rs_h g r x, n) := by
  refine jc_of ?_
  rw [o_X12_copies] at h
  refine jg_iconst (v := nI 0) dX12_copies_0 (by decide) ?_
  refine jg_istore (L' := [some (.ref r), some (.int a1), some (.int a2), some (.int a3), some (.int (nI 0))]) dX12_copies_1 (by decide) rfl ?_
  obtain ⟨x6, e_x6, h⟩ := bd_some h
  refine jg_fg (L' := [some (.ref r), some (.int a1), some (.int a2), some (.int a3), some (.int (nI 0))]) (by repeat (first | exact trivial | refine ⟨rfl, ?_⟩ | show jg_le _ _)) ?_
  refine t_X12_copies_3 hr F a1 a2 a3  _ (x := x6) ?_ F (nI 0) s e_x6
  refine jg_aload_n dX12_copies_41 rfl ?_
  refine rs_ga fl_X12_13 dX12_copies_42 hr rfl ?_
  refine jg_iload_n dX12_copies_45 rfl ?_
  obtain ⟨x7, e_x7, h⟩ := bd_some h
  refine rs_callS (As := [.int a2]) ks_X12_242 dX12_copies_46 rfl (by decide) (Nat.le_of_ble_eq_true rfl) rfl (by decide) (Nat.le_of_ble_eq_true rfl) (t_X12_actAt hr x6 a2 e_x7) ?_
  refine jg_iload_n dX12_copies_49 rfl ?_
  obtain ⟨q8, h⟩ := gd_some h
  refine rs_swD (s := x6) (i := x7) (x := a3) dX12_copies_50 hr q8 ?_
  obtain rfl := Option.some.inj h
  exact jg_return dX12_copies_51 rfl ⟨rfl, rfl⟩
theorem dX12_firstOf_0 : decode cX12_firstOf 0 = .ok (.iconst 0, 1) := by decide +kernel
theorem dX12_firstOf_1 : decode cX12_firstOf 1 = .ok (.istore_n 3, 1) := by decide +kernel
theorem dX12_firstOf_2 : decode cX12_firstOf 2 = .ok (.iload_n 3, 1) := by decide +kernel
theorem dX12_firstOf_3 : decode cX12_firstOf 3 = .ok (.aload_n 0, 1) := by decide +kernel
theorem dX12_firstOf_4 : decode cX12_firstOf 4 = .ok (.iload_n 1, 1) := by decide +kernel
theorem dX12_firstOf_5 : decode cX12_firstOf 5 = .ok (.invokevirtual 356, 3) := by decide +kernel
theorem dX12_firstOf_8 : decode cX12_firstOf 8 = .ok (.if_icmp .ge 39, 3) := by decide +kernel
theorem dX12_firstOf_11 : decode cX12_firstOf 11 = .ok (.aload_n 0, 1) := by decide +kernel
theorem dX12_firstOf_12 : decode cX12_firstOf 12 = .ok (.getfield 13, 3) := by decide +kernel
theorem dX12_firstOf_15 : decode cX12_firstOf 15 = .ok (.iload_n 1, 1) := by decide +kernel
theorem dX12_firstOf_16 : decode cX12_firstOf 16 = .ok (.invokestatic 242, 3) := by decide +kernel
theorem dX12_firstOf_19 : decode cX12_firstOf 19 = .ok (.iconst 2, 1) := by decide +kernel
theorem dX12_firstOf_20 : decode cX12_firstOf 20 = .ok (.iadd, 1) := by decide +kernel
theorem dX12_firstOf_21 : decode cX12_firstOf 21 = .ok (.iconst 4, 1) := by decide +kernel
theorem dX12_firstOf_22 : decode cX12_firstOf 22 = .ok (.iload_n 3, 1) := by decide +kernel
theorem dX12_firstOf_23 : decode cX12_firstOf 23 = .ok (.imul, 1) := by decide +kernel
theorem dX12_firstOf_24 : decode cX12_firstOf 24 = .ok (.iadd, 1) := by decide +kernel
theorem dX12_firstOf_25 : decode cX12_firstOf 25 = .ok (.iaload, 1) := by decide +kernel
theorem dX12_firstOf_26 : decode cX12_firstOf 26 = .ok (.iload_n 2, 1) := by decide +kernel
theorem dX12_firstOf_27 : decode cX12_firstOf 27 = .ok (.if_icmp .ne 14, 3) := by decide +kernel
theorem dX12_firstOf_30 : decode cX12_firstOf 30 = .ok (.aload_n 0, 1) := by decide +kernel
theorem dX12_firstOf_31 : decode cX12_firstOf 31 = .ok (.iload_n 1, 1) := by decide +kernel
theorem dX12_firstOf_32 : decode cX12_firstOf 32 = .ok (.iload_n 3, 1) := by decide +kernel
theorem dX12_firstOf_33 : decode cX12_firstOf 33 = .ok (.invokevirtual 364, 3) := by decide +kernel
theorem dX12_firstOf_36 : decode cX12_firstOf 36 = .ok (.ifCond .eq 5, 3) := by decide +kernel
theorem dX12_firstOf_39 : decode cX12_firstOf 39 = .ok (.iload_n 3, 1) := by decide +kernel
theorem dX12_firstOf_40 : decode cX12_firstOf 40 = .ok (.ireturn, 1) := by decide +kernel
theorem dX12_firstOf_41 : decode cX12_firstOf 41 = .ok (.iinc 3 1, 3) := by decide +kernel
theorem dX12_firstOf_44 : decode cX12_firstOf 44 = .ok (.goto (-42), 3) := by decide +kernel
theorem dX12_firstOf_47 : decode cX12_firstOf 47 = .ok (.iconst (-1), 1) := by decide +kernel
theorem dX12_firstOf_48 : decode cX12_firstOf 48 = .ok (.ireturn, 1) := by decide +kernel
noncomputable def o_X12_firstOf_2 (F : Nat) (l1 : Int32) (l2 : Int32)  : Nat → Int32 → rs_S → Option ((rs_S) ⊕ (Int32 × rs_S))
  | 0, _, _ => none
  | f + 1, l3, s => (o_X12_linesOf s l1).bind fun x1 => (if x1 ≤ l3 then (some (.inl s)) else ((o_X12_actAt s l1).bind fun x3 => (if iL ((x3 + (nI 2)) + ((nI 4) * l3)) 22216 then (if (gW s ((x3 + (nI 2)) + ((nI 4) * l3))) = l2 then ((o_X12_holds F s l1 l3).bind fun x6 => (if x6.1 = 0 then (o_X12_firstOf_2 F l1 l2 f (l3 + nI 1) x6.2) else (some (.inr (l3, x6.2))))) else (o_X12_firstOf_2 F l1 l2 f (l3 + nI 1) s)) else none)))
set_option maxHeartbeats 4000000 in
theorem t_X12_firstOf_2 {Γ : jg_G} {g : Nat → jg_C} {n r : Nat} (hr : r + 11 ≤ n) (F : Nat) (l1 : Int32) (l2 : Int32)   (Q : jg_Q) {x : (rs_S) ⊕ (Int32 × rs_S)} (K1 : ∀ y, x = .inl y → jg Γ mX12_firstOf 2 0 0 47 [none, none, none, none] [] (rs_h g r y, n) Q) (K2 : ∀ z, x = .inr z → Q (.inl (some (.int z.1))) (rs_h g r z.2, n)) : ∀ (f : Nat) (l3 : Int32) (s : rs_S), o_X12_firstOf_2 F l1 l2 f l3 s = some x → jg Γ mX12_firstOf 2 0 0 2 [some (.ref r), some (.int l1), some (.int l2), some (.int l3)] [] (rs_h g r s, n) Q := by
  intro f
  induction f with
  | zero => intro l3 s h; rw [o_X12_firstOf_2] at h; cases h
  | succ f ih =>
   intro l3 s h
   rw [o_X12_firstOf_2] at h
   refine jg_iload_n dX12_firstOf_2 rfl ?_
   refine jg_aload_n dX12_firstOf_3 rfl ?_
   refine jg_iload_n dX12_firstOf_4 rfl ?_
   obtain ⟨x1, e_x1, h⟩ := bd_some h
   refine rs_call (As := [.int l1]) kv_X12_356 dX12_firstOf_5 hr rfl rfl (by decide) (Nat.le_of_ble_eq_true rfl) rfl (by decide) (Nat.le_of_ble_eq_true rfl) (t_X12_linesOf hr s l1 e_x1) ?_
   refine jg_icmp_ge (x := l3) (y := x1) (tgt := 47) dX12_firstOf_8 (by decide) (fun c2 => ?_) (fun c2 => ?_)
   · replace h := it_t c2 h
     refine jg_fg (L' := [none, none, none, none]) (by repeat (first | exact trivial | refine ⟨rfl, ?_⟩ | show jg_le _ _)) ?_
     obtain rfl := Option.some.inj h
     exact K1 _ rfl
   · replace h := it_f c2 h
     refine jg_aload_n dX12_firstOf_11 rfl ?_
     refine rs_ga fl_X12_13 dX12_firstOf_12 hr rfl ?_
     refine jg_iload_n dX12_firstOf_15 rfl ?_
     obtain ⟨x3, e_x3, h⟩ := bd_some h
     refine rs_callS (As := [.int l1]) ks_X12_242 dX12_firstOf_16 rfl (by decide) (Nat.le_of_ble_eq_true rfl) rfl (by decide) (Nat.le_of_ble_eq_true rfl) (t_X12_actAt hr s l1 e_x3) ?_
     refine jg_iconst (v := nI 2) dX12_firstOf_19 (by decide) ?_
     refine jg_iadd (x := x3) (y := (nI 2)) dX12_firstOf_20  ?_
     refine jg_iconst (v := nI 4) dX12_firstOf_21 (by decide) ?_
     refine jg_iload_n dX12_firstOf_22 rfl ?_
     refine jg_imul (x := (nI 4)) (y := l3) dX12_firstOf_23  ?_
     refine jg_iadd (x := (x3 + (nI 2))) (y := ((nI 4) * l3)) dX12_firstOf_24  ?_
     obtain ⟨q4, h⟩ := gd_some h
     refine rs_lwD (s := s) (i := ((x3 + (nI 2)) + ((nI 4) * l3))) dX12_firstOf_25 hr q4 ?_
     refine jg_iload_n dX12_firstOf_26 rfl ?_
     refine jg_icmp_ne (x := (gW s ((x3 + (nI 2)) + ((nI 4) * l3)))) (y := l2) (tgt := 41) dX12_firstOf_27 (by decide) (fun c5 => ?_) (fun c5 => ?_)
     · replace h := it_f c5 h
       refine jg_iinc (x := l3) (v := l3 + nI 1) (L' := [some (.ref r), some (.int l1), some (.int l2), some (.int (l3 + nI 1))]) dX12_firstOf_41 rfl (ic_k _ (by decide)) (by decide) rfl ?_
       refine jg_goto (tgt := 2) dX12_firstOf_44 (by decide) ?_
       refine jg_fg (L' := [some (.ref r), some (.int l1), some (.int l2), some (.int (l3 + nI 1))]) (by repeat (first | exact trivial | refine ⟨rfl, ?_⟩ | show jg_le _ _)) ?_
       exact ih (l3 + nI 1) s h
     · replace h := it_t c5 h
       refine jg_aload_n dX12_firstOf_30 rfl ?_
       refine jg_iload_n dX12_firstOf_31 rfl ?_
       refine jg_iload_n dX12_firstOf_32 rfl ?_
       obtain ⟨x6, e_x6, h⟩ := bd_some h
       refine rs_call (As := [.int l1, .int l3]) kv_X12_364 dX12_firstOf_33 hr rfl rfl (by decide) (Nat.le_of_ble_eq_true rfl) rfl (by decide) (Nat.le_of_ble_eq_true rfl) (t_X12_holds hr F s l1 l3 e_x6) ?_
       refine jg_if_eq (x := x6.1) (tgt := 41) dX12_firstOf_36 (by decide) (fun c7 => ?_) (fun c7 => ?_)
       · replace h := it_t c7 h
         refine jg_iinc (x := l3) (v := l3 + nI 1) (L' := [some (.ref r), some (.int l1), some (.int l2), some (.int (l3 + nI 1))]) dX12_firstOf_41 rfl (ic_k _ (by decide)) (by decide) rfl ?_
         refine jg_goto (tgt := 2) dX12_firstOf_44 (by decide) ?_
         refine jg_fg (L' := [some (.ref r), some (.int l1), some (.int l2), some (.int (l3 + nI 1))]) (by repeat (first | exact trivial | refine ⟨rfl, ?_⟩ | show jg_le _ _)) ?_
         exact ih (l3 + nI 1) x6.2 h
       · replace h := it_f c7 h
         refine jg_iload_n dX12_firstOf_39 rfl ?_
         obtain rfl := Option.some.inj h
         exact jg_ireturn dX12_firstOf_40 rfl (K2 _ rfl)
noncomputable def o_X12_firstOf (F : Nat) (s : rs_S) (a1 : Int32) (a2 : Int32) : Option (Int32 × rs_S) := (o_X12_firstOf_2 F a1 a2 F (nI 0) s).bind fun x8 => (Sum.elim (fun y9 => some ((-1), y9)) (fun z10 => some z10) x8)
set_option maxHeartbeats 4000000 in
theorem t_X12_firstOf {Γ : jg_G} {g : Nat → jg_C} {n r : Nat} (hr : r + 11 ≤ n) (F : Nat) (s : rs_S) (a1 : Int32) (a2 : Int32)  {x : Int32 × rs_S} (h : o_X12_firstOf F s a1 a2 = some x) : jc Γ mX12_firstOf 2 0 0 [some (.ref r), some (.int a1), some (.int a2), none] (rs_h g r s, n) (.inl (some (.int x.1))) (rs_h g r x.2, n) := by
  refine jc_of ?_
  rw [o_X12_firstOf] at h
  refine jg_iconst (v := nI 0) dX12_firstOf_0 (by decide) ?_
  refine jg_istore_n (L' := [some (.ref r), some (.int a1), some (.int a2), some (.int (nI 0))]) dX12_firstOf_1 (by decide) rfl ?_
  obtain ⟨x8, e_x8, h⟩ := bd_some h
  refine jg_fg (L' := [some (.ref r), some (.int a1), some (.int a2), some (.int (nI 0))]) (by repeat (first | exact trivial | refine ⟨rfl, ?_⟩ | show jg_le _ _)) ?_
  refine t_X12_firstOf_2 hr F a1 a2  _ (x := x8) ?_ ?_ F (nI 0) s e_x8
  · intro y9 ey; subst ey; replace h := se_l h
    refine jg_iconst (v := (-1)) dX12_firstOf_47 (by decide) ?_
    obtain rfl := Option.some.inj h
    exact jg_ireturn dX12_firstOf_48 rfl ⟨rfl, rfl⟩
  · intro z10 ez; subst ez; replace h := se_r h
    obtain rfl := Option.some.inj h
    exact ⟨rfl, rfl⟩
theorem dX12_mostBack_0 : decode cX12_mostBack 0 = .ok (.iconst 0, 1) := by decide +kernel
theorem dX12_mostBack_1 : decode cX12_mostBack 1 = .ok (.istore_n 2, 1) := by decide +kernel
theorem dX12_mostBack_2 : decode cX12_mostBack 2 = .ok (.iconst 0, 1) := by decide +kernel
theorem dX12_mostBack_3 : decode cX12_mostBack 3 = .ok (.istore_n 3, 1) := by decide +kernel
theorem dX12_mostBack_4 : decode cX12_mostBack 4 = .ok (.iload_n 3, 1) := by decide +kernel
theorem dX12_mostBack_5 : decode cX12_mostBack 5 = .ok (.aload_n 0, 1) := by decide +kernel
theorem dX12_mostBack_6 : decode cX12_mostBack 6 = .ok (.iload_n 1, 1) := by decide +kernel
theorem dX12_mostBack_7 : decode cX12_mostBack 7 = .ok (.invokevirtual 356, 3) := by decide +kernel
theorem dX12_mostBack_10 : decode cX12_mostBack 10 = .ok (.if_icmp .ge 59, 3) := by decide +kernel
theorem dX12_mostBack_13 : decode cX12_mostBack 13 = .ok (.aload_n 0, 1) := by decide +kernel
theorem dX12_mostBack_14 : decode cX12_mostBack 14 = .ok (.getfield 13, 3) := by decide +kernel
theorem dX12_mostBack_17 : decode cX12_mostBack 17 = .ok (.iload_n 1, 1) := by decide +kernel
theorem dX12_mostBack_18 : decode cX12_mostBack 18 = .ok (.invokestatic 242, 3) := by decide +kernel
theorem dX12_mostBack_21 : decode cX12_mostBack 21 = .ok (.iconst 2, 1) := by decide +kernel
theorem dX12_mostBack_22 : decode cX12_mostBack 22 = .ok (.iadd, 1) := by decide +kernel
theorem dX12_mostBack_23 : decode cX12_mostBack 23 = .ok (.iconst 4, 1) := by decide +kernel
theorem dX12_mostBack_24 : decode cX12_mostBack 24 = .ok (.iload_n 3, 1) := by decide +kernel
theorem dX12_mostBack_25 : decode cX12_mostBack 25 = .ok (.imul, 1) := by decide +kernel
theorem dX12_mostBack_26 : decode cX12_mostBack 26 = .ok (.iadd, 1) := by decide +kernel
theorem dX12_mostBack_27 : decode cX12_mostBack 27 = .ok (.iaload, 1) := by decide +kernel
theorem dX12_mostBack_28 : decode cX12_mostBack 28 = .ok (.iconst 2, 1) := by decide +kernel
theorem dX12_mostBack_29 : decode cX12_mostBack 29 = .ok (.if_icmp .ne 34, 3) := by decide +kernel
theorem dX12_mostBack_32 : decode cX12_mostBack 32 = .ok (.aload_n 0, 1) := by decide +kernel
theorem dX12_mostBack_33 : decode cX12_mostBack 33 = .ok (.iload_n 1, 1) := by decide +kernel
theorem dX12_mostBack_34 : decode cX12_mostBack 34 = .ok (.iload_n 3, 1) := by decide +kernel
theorem dX12_mostBack_35 : decode cX12_mostBack 35 = .ok (.invokevirtual 364, 3) := by decide +kernel
theorem dX12_mostBack_38 : decode cX12_mostBack 38 = .ok (.ifCond .eq 25, 3) := by decide +kernel
theorem dX12_mostBack_41 : decode cX12_mostBack 41 = .ok (.iload_n 2, 1) := by decide +kernel
theorem dX12_mostBack_42 : decode cX12_mostBack 42 = .ok (.aload_n 0, 1) := by decide +kernel
theorem dX12_mostBack_43 : decode cX12_mostBack 43 = .ok (.getfield 13, 3) := by decide +kernel
theorem dX12_mostBack_46 : decode cX12_mostBack 46 = .ok (.iload_n 1, 1) := by decide +kernel
theorem dX12_mostBack_47 : decode cX12_mostBack 47 = .ok (.invokestatic 242, 3) := by decide +kernel
theorem dX12_mostBack_50 : decode cX12_mostBack 50 = .ok (.iconst 2, 1) := by decide +kernel
theorem dX12_mostBack_51 : decode cX12_mostBack 51 = .ok (.iadd, 1) := by decide +kernel
theorem dX12_mostBack_52 : decode cX12_mostBack 52 = .ok (.iconst 4, 1) := by decide +kernel
theorem dX12_mostBack_53 : decode cX12_mostBack 53 = .ok (.iload_n 3, 1) := by decide +kernel
theorem dX12_mostBack_54 : decode cX12_mostBack 54 = .ok (.imul, 1) := by decide +kernel
theorem dX12_mostBack_55 : decode cX12_mostBack 55 = .ok (.iadd, 1) := by decide +kernel
theorem dX12_mostBack_56 : decode cX12_mostBack 56 = .ok (.iconst 1, 1) := by decide +kernel
theorem dX12_mostBack_57 : decode cX12_mostBack 57 = .ok (.iadd, 1) := by decide +kernel
theorem dX12_mostBack_58 : decode cX12_mostBack 58 = .ok (.iaload, 1) := by decide +kernel
theorem dX12_mostBack_59 : decode cX12_mostBack 59 = .ok (.invokestatic 88, 3) := by decide +kernel
theorem dX12_mostBack_62 : decode cX12_mostBack 62 = .ok (.istore_n 2, 1) := by decide +kernel
theorem dX12_mostBack_63 : decode cX12_mostBack 63 = .ok (.iinc 3 1, 3) := by decide +kernel
theorem dX12_mostBack_66 : decode cX12_mostBack 66 = .ok (.goto (-62), 3) := by decide +kernel
theorem dX12_mostBack_69 : decode cX12_mostBack 69 = .ok (.iload_n 2, 1) := by decide +kernel
theorem dX12_mostBack_70 : decode cX12_mostBack 70 = .ok (.ireturn, 1) := by decide +kernel
noncomputable def o_X12_mostBack_4 (F : Nat) (l1 : Int32)  : Nat → Int32 → Int32 → rs_S → Option (Int32 × rs_S)
  | 0, _, _, _ => none
  | f + 1, l2, l3, s => (o_X12_linesOf s l1).bind fun x1 => (if x1 ≤ l3 then (some (l2, s)) else ((o_X12_actAt s l1).bind fun x3 => (if iL ((x3 + (nI 2)) + ((nI 4) * l3)) 22216 then (if (gW s ((x3 + (nI 2)) + ((nI 4) * l3))) = (nI 2) then ((o_X12_holds F s l1 l3).bind fun x6 => (if x6.1 = 0 then (o_X12_mostBack_4 F l1 f l2 (l3 + nI 1) x6.2) else ((o_X12_actAt x6.2 l1).bind fun x8 => (if iL (((x8 + (nI 2)) + ((nI 4) * l3)) + (nI 1)) 22216 then (o_X12_mostBack_4 F l1 f (mxi l2 (gW x6.2 (((x8 + (nI 2)) + ((nI 4) * l3)) + (nI 1)))) (l3 + nI 1) x6.2) else none)))) else (o_X12_mostBack_4 F l1 f l2 (l3 + nI 1) s)) else none)))
set_option maxHeartbeats 4000000 in
theorem t_X12_mostBack_4 {Γ : jg_G} {g : Nat → jg_C} {n r : Nat} (hr : r + 11 ≤ n) (F : Nat) (l1 : Int32)   (Q : jg_Q) {x : Int32 × rs_S} (K1 : jg Γ mX12_mostBack 2 0 0 69 [none, none, some (.int x.1), none] [] (rs_h g r x.2, n) Q)  : ∀ (f : Nat) (l2 : Int32) (l3 : Int32) (s : rs_S), o_X12_mostBack_4 F l1 f l2 l3 s = some x → jg Γ mX12_mostBack 2 0 0 4 [some (.ref r), some (.int l1), some (.int l2), some (.int l3)] [] (rs_h g r s, n) Q := by
  intro f
  induction f with
  | zero => intro l2 l3 s h; rw [o_X12_mostBack_4] at h; cases h
  | succ f ih =>
   intro l2 l3 s h
   rw [o_X12_mostBack_4] at h
   refine jg_iload_n dX12_mostBack_4 rfl ?_
   refine jg_aload_n dX12_mostBack_5 rfl ?_
   refine jg_iload_n dX12_mostBack_6 rfl ?_
   obtain ⟨x1, e_x1, h⟩ := bd_some h
   refine rs_call (As := [.int l1]) kv_X12_356 dX12_mostBack_7 hr rfl rfl (by decide) (Nat.le_of_ble_eq_true rfl) rfl (by decide) (Nat.le_of_ble_eq_true rfl) (t_X12_linesOf hr s l1 e_x1) ?_
   refine jg_icmp_ge (x := l3) (y := x1) (tgt := 69) dX12_mostBack_10 (by decide) (fun c2 => ?_) (fun c2 => ?_)
   · replace h := it_t c2 h
     refine jg_fg (L' := [none, none, some (.int l2), none]) (by repeat (first | exact trivial | refine ⟨rfl, ?_⟩ | show jg_le _ _)) ?_
     obtain rfl := Option.some.inj h
     exact K1
   · replace h := it_f c2 h
     refine jg_aload_n dX12_mostBack_13 rfl ?_
     refine rs_ga fl_X12_13 dX12_mostBack_14 hr rfl ?_
     refine jg_iload_n dX12_mostBack_17 rfl ?_
     obtain ⟨x3, e_x3, h⟩ := bd_some h
     refine rs_callS (As := [.int l1]) ks_X12_242 dX12_mostBack_18 rfl (by decide) (Nat.le_of_ble_eq_true rfl) rfl (by decide) (Nat.le_of_ble_eq_true rfl) (t_X12_actAt hr s l1 e_x3) ?_
     refine jg_iconst (v := nI 2) dX12_mostBack_21 (by decide) ?_
     refine jg_iadd (x := x3) (y := (nI 2)) dX12_mostBack_22  ?_
     refine jg_iconst (v := nI 4) dX12_mostBack_23 (by decide) ?_
     refine jg_iload_n dX12_mostBack_24 rfl ?_
     refine jg_imul (x := (nI 4)) (y := l3) dX12_mostBack_25  ?_
     refine jg_iadd (x := (x3 + (nI 2))) (y := ((nI 4) * l3)) dX12_mostBack_26  ?_
     obtain ⟨q4, h⟩ := gd_some h
     refine rs_lwD (s := s) (i := ((x3 + (nI 2)) + ((nI 4) * l3))) dX12_mostBack_27 hr q4 ?_
     refine jg_iconst (v := nI 2) dX12_mostBack_28 (by decide) ?_
     refine jg_icmp_ne (x := (gW s ((x3 + (nI 2)) + ((nI 4) * l3)))) (y := (nI 2)) (tgt := 63) dX12_mostBack_29 (by decide) (fun c5 => ?_) (fun c5 => ?_)
     · replace h := it_f c5 h
       refine jg_iinc (x := l3) (v := l3 + nI 1) (L' := [some (.ref r), some (.int l1), some (.int l2), some (.int (l3 + nI 1))]) dX12_mostBack_63 rfl (ic_k _ (by decide)) (by decide) rfl ?_
       refine jg_goto (tgt := 4) dX12_mostBack_66 (by decide) ?_
       refine jg_fg (L' := [some (.ref r), some (.int l1), some (.int l2), some (.int (l3 + nI 1))]) (by repeat (first | exact trivial | refine ⟨rfl, ?_⟩ | show jg_le _ _)) ?_
       exact ih l2 (l3 + nI 1) s h
     · replace h := it_t c5 h
       refine jg_aload_n dX12_mostBack_32 rfl ?_
       refine jg_iload_n dX12_mostBack_33 rfl ?_
       refine jg_iload_n dX12_mostBack_34 rfl ?_
       obtain ⟨x6, e_x6, h⟩ := bd_some h
       refine rs_call (As := [.int l1, .int l3]) kv_X12_364 dX12_mostBack_35 hr rfl rfl (by decide) (Nat.le_of_ble_eq_true rfl) rfl (by decide) (Nat.le_of_ble_eq_true rfl) (t_X12_holds hr F s l1 l3 e_x6) ?_
       refine jg_if_eq (x := x6.1) (tgt := 63) dX12_mostBack_38 (by decide) (fun c7 => ?_) (fun c7 => ?_)
       · replace h := it_t c7 h
         refine jg_iinc (x := l3) (v := l3 + nI 1) (L' := [some (.ref r), some (.int l1), some (.int l2), some (.int (l3 + nI 1))]) dX12_mostBack_63 rfl (ic_k _ (by decide)) (by decide) rfl ?_
         refine jg_goto (tgt := 4) dX12_mostBack_66 (by decide) ?_
         refine jg_fg (L' := [some (.ref r), some (.int l1), some (.int l2), some (.int (l3 + nI 1))]) (by repeat (first | exact trivial | refine ⟨rfl, ?_⟩ | show jg_le _ _)) ?_
         exact ih l2 (l3 + nI 1) x6.2 h
       · replace h := it_f c7 h
         refine jg_iload_n dX12_mostBack_41 rfl ?_
         refine jg_aload_n dX12_mostBack_42 rfl ?_
         refine rs_ga fl_X12_13 dX12_mostBack_43 hr rfl ?_
         refine jg_iload_n dX12_mostBack_46 rfl ?_
         obtain ⟨x8, e_x8, h⟩ := bd_some h
         refine rs_callS (As := [.int l1]) ks_X12_242 dX12_mostBack_47 rfl (by decide) (Nat.le_of_ble_eq_true rfl) rfl (by decide) (Nat.le_of_ble_eq_true rfl) (t_X12_actAt hr x6.2 l1 e_x8) ?_
         refine jg_iconst (v := nI 2) dX12_mostBack_50 (by decide) ?_
         refine jg_iadd (x := x8) (y := (nI 2)) dX12_mostBack_51  ?_
         refine jg_iconst (v := nI 4) dX12_mostBack_52 (by decide) ?_
         refine jg_iload_n dX12_mostBack_53 rfl ?_
         refine jg_imul (x := (nI 4)) (y := l3) dX12_mostBack_54  ?_
         refine jg_iadd (x := (x8 + (nI 2))) (y := ((nI 4) * l3)) dX12_mostBack_55  ?_
         refine jg_iconst (v := nI 1) dX12_mostBack_56 (by decide) ?_
         refine jg_iadd (x := ((x8 + (nI 2)) + ((nI 4) * l3))) (y := (nI 1)) dX12_mostBack_57  ?_
         obtain ⟨q9, h⟩ := gd_some h
         refine rs_lwD (s := x6.2) (i := (((x8 + (nI 2)) + ((nI 4) * l3)) + (nI 1))) dX12_mostBack_58 hr q9 ?_
         refine jg_mmax (x := l2) (y := (gW x6.2 (((x8 + (nI 2)) + ((nI 4) * l3)) + (nI 1)))) km_X12_88 jw_max.1 jw_max.2 dX12_mostBack_59 (by decide) (Nat.le_of_ble_eq_true rfl) ?_
         refine jg_istore_n (L' := [some (.ref r), some (.int l1), some (.int (mxi l2 (gW x6.2 (((x8 + (nI 2)) + ((nI 4) * l3)) + (nI 1))))), some (.int l3)]) dX12_mostBack_62 (by decide) rfl ?_
         refine jg_iinc (x := l3) (v := l3 + nI 1) (L' := [some (.ref r), some (.int l1), some (.int (mxi l2 (gW x6.2 (((x8 + (nI 2)) + ((nI 4) * l3)) + (nI 1))))), some (.int (l3 + nI 1))]) dX12_mostBack_63 rfl (ic_k _ (by decide)) (by decide) rfl ?_
         refine jg_goto (tgt := 4) dX12_mostBack_66 (by decide) ?_
         refine jg_fg (L' := [some (.ref r), some (.int l1), some (.int (mxi l2 (gW x6.2 (((x8 + (nI 2)) + ((nI 4) * l3)) + (nI 1))))), some (.int (l3 + nI 1))]) (by repeat (first | exact trivial | refine ⟨rfl, ?_⟩ | show jg_le _ _)) ?_
         exact ih (mxi l2 (gW x6.2 (((x8 + (nI 2)) + ((nI 4) * l3)) + (nI 1)))) (l3 + nI 1) x6.2 h
noncomputable def o_X12_mostBack (F : Nat) (s : rs_S) (a1 : Int32) : Option (Int32 × rs_S) := (o_X12_mostBack_4 F a1 F (nI 0) (nI 0) s).bind fun x10 => (some (x10.1, x10.2))
set_option maxHeartbeats 4000000 in
theorem t_X12_mostBack {Γ : jg_G} {g : Nat → jg_C} {n r : Nat} (hr : r + 11 ≤ n) (F : Nat) (s : rs_S) (a1 : Int32)  {x : Int32 × rs_S} (h : o_X12_mostBack F s a1 = some x) : jc Γ mX12_mostBack 2 0 0 [some (.ref r), some (.int a1), none, none] (rs_h g r s, n) (.inl (some (.int x.1))) (rs_h g r x.2, n) := by
  refine jc_of ?_
  rw [o_X12_mostBack] at h
  refine jg_iconst (v := nI 0) dX12_mostBack_0 (by decide) ?_
  refine jg_istore_n (L' := [some (.ref r), some (.int a1), some (.int (nI 0)), none]) dX12_mostBack_1 (by decide) rfl ?_
  refine jg_iconst (v := nI 0) dX12_mostBack_2 (by decide) ?_
  refine jg_istore_n (L' := [some (.ref r), some (.int a1), some (.int (nI 0)), some (.int (nI 0))]) dX12_mostBack_3 (by decide) rfl ?_
  obtain ⟨x10, e_x10, h⟩ := bd_some h
  refine jg_fg (L' := [some (.ref r), some (.int a1), some (.int (nI 0)), some (.int (nI 0))]) (by repeat (first | exact trivial | refine ⟨rfl, ?_⟩ | show jg_le _ _)) ?_
  refine t_X12_mostBack_4 hr F a1  _ (x := x10) ?_ F (nI 0) (nI 0) s e_x10
  refine jg_iload_n dX12_mostBack_69 rfl ?_
  obtain rfl := Option.some.inj h
  exact jg_ireturn dX12_mostBack_70 rfl ⟨rfl, rfl⟩
theorem dX12_judge_0 : decode cX12_judge 0 = .ok (.aload_n 0, 1) := by decide +kernel
theorem dX12_judge_1 : decode cX12_judge 1 = .ok (.iconst 0, 1) := by decide +kernel
theorem dX12_judge_2 : decode cX12_judge 2 = .ok (.putfield 3, 3) := by decide +kernel
theorem dX12_judge_5 : decode cX12_judge 5 = .ok (.aload_n 0, 1) := by decide +kernel
theorem dX12_judge_6 : decode cX12_judge 6 = .ok (.aload_n 0, 1) := by decide +kernel
theorem dX12_judge_7 : decode cX12_judge 7 = .ok (.iload_n 1, 1) := by decide +kernel
theorem dX12_judge_8 : decode cX12_judge 8 = .ok (.invokevirtual 128, 3) := by decide +kernel
theorem dX12_judge_11 : decode cX12_judge 11 = .ok (.iconst 1, 1) := by decide +kernel
theorem dX12_judge_12 : decode cX12_judge 12 = .ok (.invokevirtual 69, 3) := by decide +kernel
theorem dX12_judge_15 : decode cX12_judge 15 = .ok (.ifCond .eq 5, 3) := by decide +kernel
theorem dX12_judge_18 : decode cX12_judge 18 = .ok (.iconst 0, 1) := by decide +kernel
theorem dX12_judge_19 : decode cX12_judge 19 = .ok (.ireturn, 1) := by decide +kernel
theorem dX12_judge_20 : decode cX12_judge 20 = .ok (.aload_n 0, 1) := by decide +kernel
theorem dX12_judge_21 : decode cX12_judge 21 = .ok (.aload_n 0, 1) := by decide +kernel
theorem dX12_judge_22 : decode cX12_judge 22 = .ok (.invokevirtual 77, 3) := by decide +kernel
theorem dX12_judge_25 : decode cX12_judge 25 = .ok (.invokevirtual 115, 3) := by decide +kernel
theorem dX12_judge_28 : decode cX12_judge 28 = .ok (.istore_n 3, 1) := by decide +kernel
theorem dX12_judge_29 : decode cX12_judge 29 = .ok (.aload_n 0, 1) := by decide +kernel
theorem dX12_judge_30 : decode cX12_judge 30 = .ok (.iload_n 1, 1) := by decide +kernel
theorem dX12_judge_31 : decode cX12_judge 31 = .ok (.iload_n 3, 1) := by decide +kernel
theorem dX12_judge_32 : decode cX12_judge 32 = .ok (.iconst 0, 1) := by decide +kernel
theorem dX12_judge_33 : decode cX12_judge 33 = .ok (.invokevirtual 166, 3) := by decide +kernel
theorem dX12_judge_36 : decode cX12_judge 36 = .ok (.istore 4, 2) := by decide +kernel
theorem dX12_judge_38 : decode cX12_judge 38 = .ok (.iload_n 2, 1) := by decide +kernel
theorem dX12_judge_39 : decode cX12_judge 39 = .ok (.tableswitch 52 0 3 #[29, 32, 39, 46], 29) := by decide +kernel
theorem dX12_judge_68 : decode cX12_judge 68 = .ok (.iload 4, 2) := by decide +kernel
theorem dX12_judge_70 : decode cX12_judge 70 = .ok (.ireturn, 1) := by decide +kernel
theorem dX12_judge_71 : decode cX12_judge 71 = .ok (.aload_n 0, 1) := by decide +kernel
theorem dX12_judge_72 : decode cX12_judge 72 = .ok (.iload_n 3, 1) := by decide +kernel
theorem dX12_judge_73 : decode cX12_judge 73 = .ok (.iconst 0, 1) := by decide +kernel
theorem dX12_judge_74 : decode cX12_judge 74 = .ok (.invokevirtual 374, 3) := by decide +kernel
theorem dX12_judge_77 : decode cX12_judge 77 = .ok (.ireturn, 1) := by decide +kernel
theorem dX12_judge_78 : decode cX12_judge 78 = .ok (.aload_n 0, 1) := by decide +kernel
theorem dX12_judge_79 : decode cX12_judge 79 = .ok (.iload_n 3, 1) := by decide +kernel
theorem dX12_judge_80 : decode cX12_judge 80 = .ok (.iconst 1, 1) := by decide +kernel
theorem dX12_judge_81 : decode cX12_judge 81 = .ok (.invokevirtual 374, 3) := by decide +kernel
theorem dX12_judge_84 : decode cX12_judge 84 = .ok (.ireturn, 1) := by decide +kernel
theorem dX12_judge_85 : decode cX12_judge 85 = .ok (.aload_n 0, 1) := by decide +kernel
theorem dX12_judge_86 : decode cX12_judge 86 = .ok (.iload_n 3, 1) := by decide +kernel
theorem dX12_judge_87 : decode cX12_judge 87 = .ok (.invokevirtual 377, 3) := by decide +kernel
theorem dX12_judge_90 : decode cX12_judge 90 = .ok (.ireturn, 1) := by decide +kernel
theorem dX12_judge_91 : decode cX12_judge 91 = .ok (.aload_n 0, 1) := by decide +kernel
theorem dX12_judge_92 : decode cX12_judge 92 = .ok (.iconst 2, 1) := by decide +kernel
theorem dX12_judge_93 : decode cX12_judge 93 = .ok (.putfield 3, 3) := by decide +kernel
theorem dX12_judge_96 : decode cX12_judge 96 = .ok (.iconst 0, 1) := by decide +kernel
theorem dX12_judge_97 : decode cX12_judge 97 = .ok (.ireturn, 1) := by decide +kernel
noncomputable def o_X12_judge (F : Nat) (s : rs_S) (a1 : Int32) (a2 : Int32) : Option (Int32 × rs_S) := (o_X12_noShip (pN s 0 (nI 0)) a1).bind fun x1 => ((o_X12_throwsIf (pN s 0 (nI 0)) x1 (nI 1)).bind fun x2 => (if x2.1 = 0 then ((o_X12_today x2.2).bind fun x4 => ((o_X12_actOf F x2.2 x4).bind fun x5 => ((o_X12_dueOf F x2.2 a1 x5 (nI 0)).bind fun x6 => (if a2 = nI 0 then (some (x6.1, x6.2)) else (if a2 = nI 1 then ((o_X12_firstOf F x6.2 x5 (nI 0)).bind fun x9 => (some (x9.1, x9.2))) else (if a2 = nI 2 then ((o_X12_firstOf F x6.2 x5 (nI 1)).bind fun x11 => (some (x11.1, x11.2))) else (if a2 = nI 3 then ((o_X12_mostBack F x6.2 x5).bind fun x13 => (some (x13.1, x13.2))) else (some (nI 0, pN x6.2 0 (nI 2)))))))))) else (some (nI 0, x2.2))))
set_option maxHeartbeats 4000000 in
theorem t_X12_judge {Γ : jg_G} {g : Nat → jg_C} {n r : Nat} (hr : r + 11 ≤ n) (F : Nat) (s : rs_S) (a1 : Int32) (a2 : Int32)  {x : Int32 × rs_S} (h : o_X12_judge F s a1 a2 = some x) : jc Γ mX12_judge 4 0 0 [some (.ref r), some (.int a1), some (.int a2), none, none] (rs_h g r s, n) (.inl (some (.int x.1))) (rs_h g r x.2, n) := by
  refine jc_of ?_
  rw [o_X12_judge] at h
  refine jg_aload_n dX12_judge_0 rfl ?_
  refine jg_iconst (v := nI 0) dX12_judge_1 (by decide) ?_
  refine rs_putD (s := s) (k := 0) (x := (nI 0)) fl_X12_3 dX12_judge_2 hr (by decide) (rfl) rfl rfl ?_
  refine jg_aload_n dX12_judge_5 rfl ?_
  refine jg_aload_n dX12_judge_6 rfl ?_
  refine jg_iload_n dX12_judge_7 rfl ?_
  obtain ⟨x1, e_x1, h⟩ := bd_some h
  refine rs_call (As := [.int a1]) kv_X12_128 dX12_judge_8 hr rfl rfl (by decide) (Nat.le_of_ble_eq_true rfl) rfl (by decide) (Nat.le_of_ble_eq_true rfl) (t_X12_noShip hr (pN s 0 (nI 0)) a1 e_x1) ?_
  refine jg_iconst (v := nI 1) dX12_judge_11 (by decide) ?_
  obtain ⟨x2, e_x2, h⟩ := bd_some h
  refine rs_call (As := [.int x1, .int (nI 1)]) kv_X12_69 dX12_judge_12 hr rfl rfl (by decide) (Nat.le_of_ble_eq_true rfl) rfl (by decide) (Nat.le_of_ble_eq_true rfl) (t_X12_throwsIf hr (pN s 0 (nI 0)) x1 (nI 1) e_x2) ?_
  refine jg_if_eq (x := x2.1) (tgt := 20) dX12_judge_15 (by decide) (fun c3 => ?_) (fun c3 => ?_)
  · replace h := it_t c3 h
    refine jg_aload_n dX12_judge_20 rfl ?_
    refine jg_aload_n dX12_judge_21 rfl ?_
    obtain ⟨x4, e_x4, h⟩ := bd_some h
    refine rs_call (As := []) kv_X12_77 dX12_judge_22 hr rfl rfl (by decide) (Nat.le_of_ble_eq_true rfl) rfl (by decide) (Nat.le_of_ble_eq_true rfl) (t_X12_today hr x2.2 e_x4) ?_
    obtain ⟨x5, e_x5, h⟩ := bd_some h
    refine rs_call (As := [.int x4]) kv_X12_115 dX12_judge_25 hr rfl rfl (by decide) (Nat.le_of_ble_eq_true rfl) rfl (by decide) (Nat.le_of_ble_eq_true rfl) (t_X12_actOf hr F x2.2 x4 e_x5) ?_
    refine jg_istore_n (L' := [some (.ref r), some (.int a1), some (.int a2), some (.int x5), none]) dX12_judge_28 (by decide) rfl ?_
    refine jg_aload_n dX12_judge_29 rfl ?_
    refine jg_iload_n dX12_judge_30 rfl ?_
    refine jg_iload_n dX12_judge_31 rfl ?_
    refine jg_iconst (v := nI 0) dX12_judge_32 (by decide) ?_
    obtain ⟨x6, e_x6, h⟩ := bd_some h
    refine rs_call (As := [.int a1, .int x5, .int (nI 0)]) kv_X12_166 dX12_judge_33 hr rfl rfl (by decide) (Nat.le_of_ble_eq_true rfl) rfl (by decide) (Nat.le_of_ble_eq_true rfl) (t_X12_dueOf hr F x2.2 a1 x5 (nI 0) e_x6) ?_
    refine jg_istore (L' := [some (.ref r), some (.int a1), some (.int a2), some (.int x5), some (.int x6.1)]) dX12_judge_36 (by decide) rfl ?_
    refine jg_iload_n dX12_judge_38 rfl ?_
    by_cases c7 : a2 = nI 0
    · replace h := it_t c7 h
      refine jg_tableIn (off := 29) (tgt := 68) dX12_judge_39 (by rw [c7]; decide) (by rw [c7]; decide) (by rw [c7]; rfl) (by decide) ?_
      refine jg_iload dX12_judge_68 rfl ?_
      obtain rfl := Option.some.inj h
      exact jg_ireturn dX12_judge_70 rfl ⟨rfl, rfl⟩
    replace h := it_f c7 h
    by_cases c8 : a2 = nI 1
    · replace h := it_t c8 h
      refine jg_tableIn (off := 32) (tgt := 71) dX12_judge_39 (by rw [c8]; decide) (by rw [c8]; decide) (by rw [c8]; rfl) (by decide) ?_
      refine jg_aload_n dX12_judge_71 rfl ?_
      refine jg_iload_n dX12_judge_72 rfl ?_
      refine jg_iconst (v := nI 0) dX12_judge_73 (by decide) ?_
      obtain ⟨x9, e_x9, h⟩ := bd_some h
      refine rs_call (As := [.int x5, .int (nI 0)]) kv_X12_374 dX12_judge_74 hr rfl rfl (by decide) (Nat.le_of_ble_eq_true rfl) rfl (by decide) (Nat.le_of_ble_eq_true rfl) (t_X12_firstOf hr F x6.2 x5 (nI 0) e_x9) ?_
      obtain rfl := Option.some.inj h
      exact jg_ireturn dX12_judge_77 rfl ⟨rfl, rfl⟩
    replace h := it_f c8 h
    by_cases c10 : a2 = nI 2
    · replace h := it_t c10 h
      refine jg_tableIn (off := 39) (tgt := 78) dX12_judge_39 (by rw [c10]; decide) (by rw [c10]; decide) (by rw [c10]; rfl) (by decide) ?_
      refine jg_aload_n dX12_judge_78 rfl ?_
      refine jg_iload_n dX12_judge_79 rfl ?_
      refine jg_iconst (v := nI 1) dX12_judge_80 (by decide) ?_
      obtain ⟨x11, e_x11, h⟩ := bd_some h
      refine rs_call (As := [.int x5, .int (nI 1)]) kv_X12_374 dX12_judge_81 hr rfl rfl (by decide) (Nat.le_of_ble_eq_true rfl) rfl (by decide) (Nat.le_of_ble_eq_true rfl) (t_X12_firstOf hr F x6.2 x5 (nI 1) e_x11) ?_
      obtain rfl := Option.some.inj h
      exact jg_ireturn dX12_judge_84 rfl ⟨rfl, rfl⟩
    replace h := it_f c10 h
    by_cases c12 : a2 = nI 3
    · replace h := it_t c12 h
      refine jg_tableIn (off := 46) (tgt := 85) dX12_judge_39 (by rw [c12]; decide) (by rw [c12]; decide) (by rw [c12]; rfl) (by decide) ?_
      refine jg_aload_n dX12_judge_85 rfl ?_
      refine jg_iload_n dX12_judge_86 rfl ?_
      obtain ⟨x13, e_x13, h⟩ := bd_some h
      refine rs_call (As := [.int x5]) kv_X12_377 dX12_judge_87 hr rfl rfl (by decide) (Nat.le_of_ble_eq_true rfl) rfl (by decide) (Nat.le_of_ble_eq_true rfl) (t_X12_mostBack hr F x6.2 x5 e_x13) ?_
      obtain rfl := Option.some.inj h
      exact jg_ireturn dX12_judge_90 rfl ⟨rfl, rfl⟩
    replace h := it_f c12 h
    refine jg_tableOut (tgt := 91) dX12_judge_39 (jt_outN 0 3 (a2) (fun k h1 h2 => by rcases (show k = 0 ∨ k = 1 ∨ k = 2 ∨ k = 3 by omega) with rfl | rfl | rfl | rfl <;> assumption)) (by decide) ?_
    refine jg_aload_n dX12_judge_91 rfl ?_
    refine jg_iconst (v := nI 2) dX12_judge_92 (by decide) ?_
    refine rs_putD (s := x6.2) (k := 0) (x := (nI 2)) fl_X12_3 dX12_judge_93 hr (by decide) (rfl) rfl rfl ?_
    refine jg_iconst (v := nI 0) dX12_judge_96 (by decide) ?_
    obtain rfl := Option.some.inj h
    exact jg_ireturn dX12_judge_97 rfl ⟨rfl, rfl⟩
  · replace h := it_f c3 h
    refine jg_iconst (v := nI 0) dX12_judge_18 (by decide) ?_
    obtain rfl := Option.some.inj h
    exact jg_ireturn dX12_judge_19 rfl ⟨rfl, rfl⟩
theorem dX12_back_0 : decode cX12_back 0 = .ok (.aload_n 0, 1) := by decide +kernel
theorem dX12_back_1 : decode cX12_back 1 = .ok (.iconst 0, 1) := by decide +kernel
theorem dX12_back_2 : decode cX12_back 2 = .ok (.putfield 3, 3) := by decide +kernel
theorem dX12_back_5 : decode cX12_back 5 = .ok (.aload_n 0, 1) := by decide +kernel
theorem dX12_back_6 : decode cX12_back 6 = .ok (.aload_n 0, 1) := by decide +kernel
theorem dX12_back_7 : decode cX12_back 7 = .ok (.iload_n 1, 1) := by decide +kernel
theorem dX12_back_8 : decode cX12_back 8 = .ok (.invokevirtual 128, 3) := by decide +kernel
theorem dX12_back_11 : decode cX12_back 11 = .ok (.iconst 1, 1) := by decide +kernel
theorem dX12_back_12 : decode cX12_back 12 = .ok (.invokevirtual 69, 3) := by decide +kernel
theorem dX12_back_15 : decode cX12_back 15 = .ok (.ifCond .ne 24, 3) := by decide +kernel
theorem dX12_back_18 : decode cX12_back 18 = .ok (.aload_n 0, 1) := by decide +kernel
theorem dX12_back_19 : decode cX12_back 19 = .ok (.iload_n 1, 1) := by decide +kernel
theorem dX12_back_20 : decode cX12_back 20 = .ok (.bipush 9, 2) := by decide +kernel
theorem dX12_back_22 : decode cX12_back 22 = .ok (.invokevirtual 137, 3) := by decide +kernel
theorem dX12_back_25 : decode cX12_back 25 = .ok (.iconst 4, 1) := by decide +kernel
theorem dX12_back_26 : decode cX12_back 26 = .ok (.if_icmp .ne 13, 3) := by decide +kernel
theorem dX12_back_29 : decode cX12_back 29 = .ok (.aload_n 0, 1) := by decide +kernel
theorem dX12_back_30 : decode cX12_back 30 = .ok (.iload_n 1, 1) := by decide +kernel
theorem dX12_back_31 : decode cX12_back 31 = .ok (.bipush 15, 2) := by decide +kernel
theorem dX12_back_33 : decode cX12_back 33 = .ok (.invokevirtual 137, 3) := by decide +kernel
theorem dX12_back_36 : decode cX12_back 36 = .ok (.ifCond .lt 16, 3) := by decide +kernel
theorem dX12_back_39 : decode cX12_back 39 = .ok (.aload_n 0, 1) := by decide +kernel
theorem dX12_back_40 : decode cX12_back 40 = .ok (.getfield 3, 3) := by decide +kernel
theorem dX12_back_43 : decode cX12_back 43 = .ok (.ifCond .eq 7, 3) := by decide +kernel
theorem dX12_back_46 : decode cX12_back 46 = .ok (.iconst 0, 1) := by decide +kernel
theorem dX12_back_47 : decode cX12_back 47 = .ok (.goto 4, 3) := by decide +kernel
theorem dX12_back_50 : decode cX12_back 50 = .ok (.iconst (-1), 1) := by decide +kernel
theorem dX12_back_51 : decode cX12_back 51 = .ok (.ireturn, 1) := by decide +kernel
theorem dX12_back_52 : decode cX12_back 52 = .ok (.aload_n 0, 1) := by decide +kernel
theorem dX12_back_53 : decode cX12_back 53 = .ok (.iload_n 1, 1) := by decide +kernel
theorem dX12_back_54 : decode cX12_back 54 = .ok (.aload_n 0, 1) := by decide +kernel
theorem dX12_back_55 : decode cX12_back 55 = .ok (.iload_n 1, 1) := by decide +kernel
theorem dX12_back_56 : decode cX12_back 56 = .ok (.bipush 13, 2) := by decide +kernel
theorem dX12_back_58 : decode cX12_back 58 = .ok (.invokevirtual 137, 3) := by decide +kernel
theorem dX12_back_61 : decode cX12_back 61 = .ok (.aload_n 0, 1) := by decide +kernel
theorem dX12_back_62 : decode cX12_back 62 = .ok (.iload_n 1, 1) := by decide +kernel
theorem dX12_back_63 : decode cX12_back 63 = .ok (.bipush 8, 2) := by decide +kernel
theorem dX12_back_65 : decode cX12_back 65 = .ok (.invokevirtual 137, 3) := by decide +kernel
theorem dX12_back_68 : decode cX12_back 68 = .ok (.isub, 1) := by decide +kernel
theorem dX12_back_69 : decode cX12_back 69 = .ok (.invokevirtual 367, 3) := by decide +kernel
theorem dX12_back_72 : decode cX12_back 72 = .ok (.aload_n 0, 1) := by decide +kernel
theorem dX12_back_73 : decode cX12_back 73 = .ok (.getfield 13, 3) := by decide +kernel
theorem dX12_back_76 : decode cX12_back 76 = .ok (.sipush 2652, 3) := by decide +kernel
theorem dX12_back_79 : decode cX12_back 79 = .ok (.iaload, 1) := by decide +kernel
theorem dX12_back_80 : decode cX12_back 80 = .ok (.i2l, 1) := by decide +kernel
theorem dX12_back_81 : decode cX12_back 81 = .ok (.aload_n 0, 1) := by decide +kernel
theorem dX12_back_82 : decode cX12_back 82 = .ok (.iload_n 1, 1) := by decide +kernel
theorem dX12_back_83 : decode cX12_back 83 = .ok (.bipush 14, 2) := by decide +kernel
theorem dX12_back_85 : decode cX12_back 85 = .ok (.invokevirtual 137, 3) := by decide +kernel
theorem dX12_back_88 : decode cX12_back 88 = .ok (.i2l, 1) := by decide +kernel
theorem dX12_back_89 : decode cX12_back 89 = .ok (.aload_n 0, 1) := by decide +kernel
theorem dX12_back_90 : decode cX12_back 90 = .ok (.aload_n 0, 1) := by decide +kernel
theorem dX12_back_91 : decode cX12_back 91 = .ok (.iload_n 1, 1) := by decide +kernel
theorem dX12_back_92 : decode cX12_back 92 = .ok (.bipush 17, 2) := by decide +kernel
theorem dX12_back_94 : decode cX12_back 94 = .ok (.invokevirtual 137, 3) := by decide +kernel
theorem dX12_back_97 : decode cX12_back 97 = .ok (.invokevirtual 377, 3) := by decide +kernel
theorem dX12_back_100 : decode cX12_back 100 = .ok (.i2l, 1) := by decide +kernel
theorem dX12_back_101 : decode cX12_back 101 = .ok (.lmul, 1) := by decide +kernel
theorem dX12_back_102 : decode cX12_back 102 = .ok (.ldc2_w 380, 3) := by decide +kernel
theorem dX12_back_105 : decode cX12_back 105 = .ok (.ldiv, 1) := by decide +kernel
theorem dX12_back_106 : decode cX12_back 106 = .ok (.invokestatic 55, 3) := by decide +kernel
theorem dX12_back_109 : decode cX12_back 109 = .ok (.l2i, 1) := by decide +kernel
theorem dX12_back_110 : decode cX12_back 110 = .ok (.istore_n 2, 1) := by decide +kernel
theorem dX12_back_111 : decode cX12_back 111 = .ok (.aload_n 0, 1) := by decide +kernel
theorem dX12_back_112 : decode cX12_back 112 = .ok (.getfield 13, 3) := by decide +kernel
theorem dX12_back_115 : decode cX12_back 115 = .ok (.sipush 2652, 3) := by decide +kernel
theorem dX12_back_118 : decode cX12_back 118 = .ok (.dup2, 1) := by decide +kernel
theorem dX12_back_119 : decode cX12_back 119 = .ok (.iaload, 1) := by decide +kernel
theorem dX12_back_120 : decode cX12_back 120 = .ok (.iload_n 2, 1) := by decide +kernel
theorem dX12_back_121 : decode cX12_back 121 = .ok (.isub, 1) := by decide +kernel
theorem dX12_back_122 : decode cX12_back 122 = .ok (.iastore, 1) := by decide +kernel
theorem dX12_back_123 : decode cX12_back 123 = .ok (.aload_n 0, 1) := by decide +kernel
theorem dX12_back_124 : decode cX12_back 124 = .ok (.getfield 13, 3) := by decide +kernel
theorem dX12_back_127 : decode cX12_back 127 = .ok (.sipush 2654, 3) := by decide +kernel
theorem dX12_back_130 : decode cX12_back 130 = .ok (.aload_n 0, 1) := by decide +kernel
theorem dX12_back_131 : decode cX12_back 131 = .ok (.getfield 13, 3) := by decide +kernel
theorem dX12_back_134 : decode cX12_back 134 = .ok (.sipush 2654, 3) := by decide +kernel
theorem dX12_back_137 : decode cX12_back 137 = .ok (.iaload, 1) := by decide +kernel
theorem dX12_back_138 : decode cX12_back 138 = .ok (.iload_n 2, 1) := by decide +kernel
theorem dX12_back_139 : decode cX12_back 139 = .ok (.i2l, 1) := by decide +kernel
theorem dX12_back_140 : decode cX12_back 140 = .ok (.invokestatic 173, 3) := by decide +kernel
theorem dX12_back_143 : decode cX12_back 143 = .ok (.iastore, 1) := by decide +kernel
theorem dX12_back_144 : decode cX12_back 144 = .ok (.aload_n 0, 1) := by decide +kernel
theorem dX12_back_145 : decode cX12_back 145 = .ok (.iload_n 1, 1) := by decide +kernel
theorem dX12_back_146 : decode cX12_back 146 = .ok (.bipush 15, 2) := by decide +kernel
theorem dX12_back_148 : decode cX12_back 148 = .ok (.iload_n 2, 1) := by decide +kernel
theorem dX12_back_149 : decode cX12_back 149 = .ok (.invokevirtual 111, 3) := by decide +kernel
theorem dX12_back_152 : decode cX12_back 152 = .ok (.iload_n 2, 1) := by decide +kernel
theorem dX12_back_153 : decode cX12_back 153 = .ok (.ireturn, 1) := by decide +kernel
noncomputable def o_X12_back (F : Nat) (s : rs_S) (a1 : Int32) : Option (Int32 × rs_S) := (o_X12_noShip (pN s 0 (nI 0)) a1).bind fun x1 => ((o_X12_throwsIf (pN s 0 (nI 0)) x1 (nI 1)).bind fun x2 => (if x2.1 = 0 then ((o_X12_of x2.2 a1 (nI 9)).bind fun x5 => (if x5 = (nI 4) then ((o_X12_of x2.2 a1 (nI 15)).bind fun x8 => (if x8 < 0 then ((o_X12_of x2.2 a1 (nI 13)).bind fun x10 => ((o_X12_of x2.2 a1 (nI 8)).bind fun x11 => ((o_X12_looksAtShip x2.2 a1 (x10 - x11)).bind fun x12 => ((o_X12_of x12 a1 (nI 14)).bind fun x13 => ((o_X12_of x12 a1 (nI 17)).bind fun x14 => ((o_X12_mostBack F x12 x14).bind fun x15 => ((o_X12_added (pW x15.2 (nI 2652) ((gW x15.2 (nI 2652)) - ((mnl ((gW x12 (nI 2652)).toInt64) ((x13.toInt64 * x15.1.toInt64) / 100)).toInt32))) (gW (pW x15.2 (nI 2652) ((gW x15.2 (nI 2652)) - ((mnl ((gW x12 (nI 2652)).toInt64) ((x13.toInt64 * x15.1.toInt64) / 100)).toInt32))) (nI 2654)) (((mnl ((gW x12 (nI 2652)).toInt64) ((x13.toInt64 * x15.1.toInt64) / 100)).toInt32).toInt64)).bind fun x16 => ((o_X12_sets (pW (pW x15.2 (nI 2652) ((gW x15.2 (nI 2652)) - ((mnl ((gW x12 (nI 2652)).toInt64) ((x13.toInt64 * x15.1.toInt64) / 100)).toInt32))) (nI 2654) x16) a1 (nI 15) ((mnl ((gW x12 (nI 2652)).toInt64) ((x13.toInt64 * x15.1.toInt64) / 100)).toInt32)).bind fun x17 => (some ((mnl ((gW x12 (nI 2652)).toInt64) ((x13.toInt64 * x15.1.toInt64) / 100)).toInt32, x17)))))))))) else (if (x2.2.1 0) = 0 then (some ((-1), x2.2)) else (some (nI 0, x2.2))))) else (if (x2.2.1 0) = 0 then (some ((-1), x2.2)) else (some (nI 0, x2.2))))) else (if (x2.2.1 0) = 0 then (some ((-1), x2.2)) else (some (nI 0, x2.2)))))
set_option maxHeartbeats 4000000 in
theorem t_X12_back {Γ : jg_G} {g : Nat → jg_C} {n r : Nat} (hr : r + 11 ≤ n) (F : Nat) (s : rs_S) (a1 : Int32)  {x : Int32 × rs_S} (h : o_X12_back F s a1 = some x) : jc Γ mX12_back 3 0 0 [some (.ref r), some (.int a1), none] (rs_h g r s, n) (.inl (some (.int x.1))) (rs_h g r x.2, n) := by
  refine jc_of ?_
  rw [o_X12_back] at h
  refine jg_aload_n dX12_back_0 rfl ?_
  refine jg_iconst (v := nI 0) dX12_back_1 (by decide) ?_
  refine rs_putD (s := s) (k := 0) (x := (nI 0)) fl_X12_3 dX12_back_2 hr (by decide) (rfl) rfl rfl ?_
  refine jg_aload_n dX12_back_5 rfl ?_
  refine jg_aload_n dX12_back_6 rfl ?_
  refine jg_iload_n dX12_back_7 rfl ?_
  obtain ⟨x1, e_x1, h⟩ := bd_some h
  refine rs_call (As := [.int a1]) kv_X12_128 dX12_back_8 hr rfl rfl (by decide) (Nat.le_of_ble_eq_true rfl) rfl (by decide) (Nat.le_of_ble_eq_true rfl) (t_X12_noShip hr (pN s 0 (nI 0)) a1 e_x1) ?_
  refine jg_iconst (v := nI 1) dX12_back_11 (by decide) ?_
  obtain ⟨x2, e_x2, h⟩ := bd_some h
  refine rs_call (As := [.int x1, .int (nI 1)]) kv_X12_69 dX12_back_12 hr rfl rfl (by decide) (Nat.le_of_ble_eq_true rfl) rfl (by decide) (Nat.le_of_ble_eq_true rfl) (t_X12_throwsIf hr (pN s 0 (nI 0)) x1 (nI 1) e_x2) ?_
  refine jg_if_ne (x := x2.1) (tgt := 39) dX12_back_15 (by decide) (fun c3 => ?_) (fun c3 => ?_)
  · replace h := it_f c3 h
    refine jg_aload_n dX12_back_39 rfl ?_
    refine rs_ga fl_X12_3 dX12_back_40 hr rfl ?_
    refine jg_if_eq (x := (x2.2.1 0)) (tgt := 50) dX12_back_43 (by decide) (fun c4 => ?_) (fun c4 => ?_)
    · replace h := it_t c4 h
      refine jg_iconst (v := (-1)) dX12_back_50 (by decide) ?_
      obtain rfl := Option.some.inj h
      exact jg_ireturn dX12_back_51 rfl ⟨rfl, rfl⟩
    · replace h := it_f c4 h
      refine jg_iconst (v := nI 0) dX12_back_46 (by decide) ?_
      refine jg_goto (tgt := 51) dX12_back_47 (by decide) ?_
      obtain rfl := Option.some.inj h
      exact jg_ireturn dX12_back_51 rfl ⟨rfl, rfl⟩
  · replace h := it_t c3 h
    refine jg_aload_n dX12_back_18 rfl ?_
    refine jg_iload_n dX12_back_19 rfl ?_
    refine jg_bipush (v := nI 9) dX12_back_20 (by decide) ?_
    obtain ⟨x5, e_x5, h⟩ := bd_some h
    refine rs_call (As := [.int a1, .int (nI 9)]) kv_X12_137 dX12_back_22 hr rfl rfl (by decide) (Nat.le_of_ble_eq_true rfl) rfl (by decide) (Nat.le_of_ble_eq_true rfl) (t_X12_of hr x2.2 a1 (nI 9) e_x5) ?_
    refine jg_iconst (v := nI 4) dX12_back_25 (by decide) ?_
    refine jg_icmp_ne (x := x5) (y := (nI 4)) (tgt := 39) dX12_back_26 (by decide) (fun c6 => ?_) (fun c6 => ?_)
    · replace h := it_f c6 h
      refine jg_aload_n dX12_back_39 rfl ?_
      refine rs_ga fl_X12_3 dX12_back_40 hr rfl ?_
      refine jg_if_eq (x := (x2.2.1 0)) (tgt := 50) dX12_back_43 (by decide) (fun c7 => ?_) (fun c7 => ?_)
      · replace h := it_t c7 h
        refine jg_iconst (v := (-1)) dX12_back_50 (by decide) ?_
        obtain rfl := Option.some.inj h
        exact jg_ireturn dX12_back_51 rfl ⟨rfl, rfl⟩
      · replace h := it_f c7 h
        refine jg_iconst (v := nI 0) dX12_back_46 (by decide) ?_
        refine jg_goto (tgt := 51) dX12_back_47 (by decide) ?_
        obtain rfl := Option.some.inj h
        exact jg_ireturn dX12_back_51 rfl ⟨rfl, rfl⟩
    · replace h := it_t c6 h
      refine jg_aload_n dX12_back_29 rfl ?_
      refine jg_iload_n dX12_back_30 rfl ?_
      refine jg_bipush (v := nI 15) dX12_back_31 (by decide) ?_
      obtain ⟨x8, e_x8, h⟩ := bd_some h
      refine rs_call (As := [.int a1, .int (nI 15)]) kv_X12_137 dX12_back_33 hr rfl rfl (by decide) (Nat.le_of_ble_eq_true rfl) rfl (by decide) (Nat.le_of_ble_eq_true rfl) (t_X12_of hr x2.2 a1 (nI 15) e_x8) ?_
      refine jg_if_lt (x := x8) (tgt := 52) dX12_back_36 (by decide) (fun c9 => ?_) (fun c9 => ?_)
      · replace h := it_t c9 h
        refine jg_aload_n dX12_back_52 rfl ?_
        refine jg_iload_n dX12_back_53 rfl ?_
        refine jg_aload_n dX12_back_54 rfl ?_
        refine jg_iload_n dX12_back_55 rfl ?_
        refine jg_bipush (v := nI 13) dX12_back_56 (by decide) ?_
        obtain ⟨x10, e_x10, h⟩ := bd_some h
        refine rs_call (As := [.int a1, .int (nI 13)]) kv_X12_137 dX12_back_58 hr rfl rfl (by decide) (Nat.le_of_ble_eq_true rfl) rfl (by decide) (Nat.le_of_ble_eq_true rfl) (t_X12_of hr x2.2 a1 (nI 13) e_x10) ?_
        refine jg_aload_n dX12_back_61 rfl ?_
        refine jg_iload_n dX12_back_62 rfl ?_
        refine jg_bipush (v := nI 8) dX12_back_63 (by decide) ?_
        obtain ⟨x11, e_x11, h⟩ := bd_some h
        refine rs_call (As := [.int a1, .int (nI 8)]) kv_X12_137 dX12_back_65 hr rfl rfl (by decide) (Nat.le_of_ble_eq_true rfl) rfl (by decide) (Nat.le_of_ble_eq_true rfl) (t_X12_of hr x2.2 a1 (nI 8) e_x11) ?_
        refine jg_isub (x := x10) (y := x11) dX12_back_68  ?_
        obtain ⟨x12, e_x12, h⟩ := bd_some h
        refine rs_call (As := [.int a1, .int (x10 - x11)]) kv_X12_367 dX12_back_69 hr rfl rfl (by decide) (Nat.le_of_ble_eq_true rfl) rfl (by decide) (Nat.le_of_ble_eq_true rfl) (t_X12_looksAtShip hr x2.2 a1 (x10 - x11) e_x12) ?_
        refine jg_aload_n dX12_back_72 rfl ?_
        refine rs_ga fl_X12_13 dX12_back_73 hr rfl ?_
        refine jg_sipush (v := nI 2652) dX12_back_76 (by decide) ?_
        refine rs_lwD (s := x12) (i := (nI 2652)) dX12_back_79 hr (by decide) ?_
        refine jg_i2l dX12_back_80 ?_
        refine jg_aload_n dX12_back_81 rfl ?_
        refine jg_iload_n dX12_back_82 rfl ?_
        refine jg_bipush (v := nI 14) dX12_back_83 (by decide) ?_
        obtain ⟨x13, e_x13, h⟩ := bd_some h
        refine rs_call (As := [.int a1, .int (nI 14)]) kv_X12_137 dX12_back_85 hr rfl rfl (by decide) (Nat.le_of_ble_eq_true rfl) rfl (by decide) (Nat.le_of_ble_eq_true rfl) (t_X12_of hr x12 a1 (nI 14) e_x13) ?_
        refine jg_i2l dX12_back_88 ?_
        refine jg_aload_n dX12_back_89 rfl ?_
        refine jg_aload_n dX12_back_90 rfl ?_
        refine jg_iload_n dX12_back_91 rfl ?_
        refine jg_bipush (v := nI 17) dX12_back_92 (by decide) ?_
        obtain ⟨x14, e_x14, h⟩ := bd_some h
        refine rs_call (As := [.int a1, .int (nI 17)]) kv_X12_137 dX12_back_94 hr rfl rfl (by decide) (Nat.le_of_ble_eq_true rfl) rfl (by decide) (Nat.le_of_ble_eq_true rfl) (t_X12_of hr x12 a1 (nI 17) e_x14) ?_
        obtain ⟨x15, e_x15, h⟩ := bd_some h
        refine rs_call (As := [.int x14]) kv_X12_377 dX12_back_97 hr rfl rfl (by decide) (Nat.le_of_ble_eq_true rfl) rfl (by decide) (Nat.le_of_ble_eq_true rfl) (t_X12_mostBack hr F x12 x14 e_x15) ?_
        refine jg_i2l dX12_back_100 ?_
        refine jg_lmul dX12_back_101 ?_
        refine jg_ldc2 kk_X12_380 dX12_back_102 ?_
        refine jg_ldiv dX12_back_105 (by decide) ?_
        refine jg_mminl (x := ((gW x12 (nI 2652)).toInt64)) (y := ((x13.toInt64 * x15.1.toInt64) / 100)) km_X12_55 jw_minl.1 jw_minl.2 dX12_back_106 (by decide) (Nat.le_of_ble_eq_true rfl) ?_
        refine jg_l2i dX12_back_109 ?_
        refine jg_istore_n (L' := [some (.ref r), some (.int a1), some (.int ((mnl ((gW x12 (nI 2652)).toInt64) ((x13.toInt64 * x15.1.toInt64) / 100)).toInt32))]) dX12_back_110 (by decide) rfl ?_
        refine jg_aload_n dX12_back_111 rfl ?_
        refine rs_ga fl_X12_13 dX12_back_112 hr rfl ?_
        refine jg_sipush (v := nI 2652) dX12_back_115 (by decide) ?_
        refine jg_dup2 dX12_back_118 rfl rfl ?_
        refine rs_lwD (s := x15.2) (i := (nI 2652)) dX12_back_119 hr (by decide) ?_
        refine jg_iload_n dX12_back_120 rfl ?_
        refine jg_isub (x := (gW x15.2 (nI 2652))) (y := ((mnl ((gW x12 (nI 2652)).toInt64) ((x13.toInt64 * x15.1.toInt64) / 100)).toInt32)) dX12_back_121  ?_
        refine rs_swD (s := x15.2) (i := (nI 2652)) (x := ((gW x15.2 (nI 2652)) - ((mnl ((gW x12 (nI 2652)).toInt64) ((x13.toInt64 * x15.1.toInt64) / 100)).toInt32))) dX12_back_122 hr (by decide) ?_
        refine jg_aload_n dX12_back_123 rfl ?_
        refine rs_ga fl_X12_13 dX12_back_124 hr rfl ?_
        refine jg_sipush (v := nI 2654) dX12_back_127 (by decide) ?_
        refine jg_aload_n dX12_back_130 rfl ?_
        refine rs_ga fl_X12_13 dX12_back_131 hr rfl ?_
        refine jg_sipush (v := nI 2654) dX12_back_134 (by decide) ?_
        refine rs_lwD (s := (pW x15.2 (nI 2652) ((gW x15.2 (nI 2652)) - ((mnl ((gW x12 (nI 2652)).toInt64) ((x13.toInt64 * x15.1.toInt64) / 100)).toInt32)))) (i := (nI 2654)) dX12_back_137 hr (by decide) ?_
        refine jg_iload_n dX12_back_138 rfl ?_
        refine jg_i2l dX12_back_139 ?_
        obtain ⟨x16, e_x16, h⟩ := bd_some h
        refine rs_callS (As := [.int (gW (pW x15.2 (nI 2652) ((gW x15.2 (nI 2652)) - ((mnl ((gW x12 (nI 2652)).toInt64) ((x13.toInt64 * x15.1.toInt64) / 100)).toInt32))) (nI 2654)), .long (((mnl ((gW x12 (nI 2652)).toInt64) ((x13.toInt64 * x15.1.toInt64) / 100)).toInt32).toInt64)]) ks_X12_173 dX12_back_140 rfl (by decide) (Nat.le_of_ble_eq_true rfl) rfl (by decide) (Nat.le_of_ble_eq_true rfl) (t_X12_added hr (pW x15.2 (nI 2652) ((gW x15.2 (nI 2652)) - ((mnl ((gW x12 (nI 2652)).toInt64) ((x13.toInt64 * x15.1.toInt64) / 100)).toInt32))) (gW (pW x15.2 (nI 2652) ((gW x15.2 (nI 2652)) - ((mnl ((gW x12 (nI 2652)).toInt64) ((x13.toInt64 * x15.1.toInt64) / 100)).toInt32))) (nI 2654)) (((mnl ((gW x12 (nI 2652)).toInt64) ((x13.toInt64 * x15.1.toInt64) / 100)).toInt32).toInt64) e_x16) ?_
        refine rs_swD (s := (pW x15.2 (nI 2652) ((gW x15.2 (nI 2652)) - ((mnl ((gW x12 (nI 2652)).toInt64) ((x13.toInt64 * x15.1.toInt64) / 100)).toInt32)))) (i := (nI 2654)) (x := x16) dX12_back_143 hr (by decide) ?_
        refine jg_aload_n dX12_back_144 rfl ?_
        refine jg_iload_n dX12_back_145 rfl ?_
        refine jg_bipush (v := nI 15) dX12_back_146 (by decide) ?_
        refine jg_iload_n dX12_back_148 rfl ?_
        obtain ⟨x17, e_x17, h⟩ := bd_some h
        refine rs_call (As := [.int a1, .int (nI 15), .int ((mnl ((gW x12 (nI 2652)).toInt64) ((x13.toInt64 * x15.1.toInt64) / 100)).toInt32)]) kv_X12_111 dX12_back_149 hr rfl rfl (by decide) (Nat.le_of_ble_eq_true rfl) rfl (by decide) (Nat.le_of_ble_eq_true rfl) (t_X12_sets hr (pW (pW x15.2 (nI 2652) ((gW x15.2 (nI 2652)) - ((mnl ((gW x12 (nI 2652)).toInt64) ((x13.toInt64 * x15.1.toInt64) / 100)).toInt32))) (nI 2654) x16) a1 (nI 15) ((mnl ((gW x12 (nI 2652)).toInt64) ((x13.toInt64 * x15.1.toInt64) / 100)).toInt32) e_x17) ?_
        refine jg_iload_n dX12_back_152 rfl ?_
        obtain rfl := Option.some.inj h
        exact jg_ireturn dX12_back_153 rfl ⟨rfl, rfl⟩
      · replace h := it_f c9 h
        refine jg_aload_n dX12_back_39 rfl ?_
        refine rs_ga fl_X12_3 dX12_back_40 hr rfl ?_
        refine jg_if_eq (x := (x2.2.1 0)) (tgt := 50) dX12_back_43 (by decide) (fun c18 => ?_) (fun c18 => ?_)
        · replace h := it_t c18 h
          refine jg_iconst (v := (-1)) dX12_back_50 (by decide) ?_
          obtain rfl := Option.some.inj h
          exact jg_ireturn dX12_back_51 rfl ⟨rfl, rfl⟩
        · replace h := it_f c18 h
          refine jg_iconst (v := nI 0) dX12_back_46 (by decide) ?_
          refine jg_goto (tgt := 51) dX12_back_47 (by decide) ?_
          obtain rfl := Option.some.inj h
          exact jg_ireturn dX12_back_51 rfl ⟨rfl, rfl⟩
theorem dX12_looksAtPayer_0 : decode cX12_looksAtPayer 0 = .ok (.aload_n 0, 1) := by decide +kernel
theorem dX12_looksAtPayer_1 : decode cX12_looksAtPayer 1 = .ok (.iconst (-1), 1) := by decide +kernel
theorem dX12_looksAtPayer_2 : decode cX12_looksAtPayer 2 = .ok (.putfield 359, 3) := by decide +kernel
theorem dX12_looksAtPayer_5 : decode cX12_looksAtPayer 5 = .ok (.aload_n 0, 1) := by decide +kernel
theorem dX12_looksAtPayer_6 : decode cX12_looksAtPayer 6 = .ok (.iconst 0, 1) := by decide +kernel
theorem dX12_looksAtPayer_7 : decode cX12_looksAtPayer 7 = .ok (.putfield 361, 3) := by decide +kernel
theorem dX12_looksAtPayer_10 : decode cX12_looksAtPayer 10 = .ok (.aload_n 0, 1) := by decide +kernel
theorem dX12_looksAtPayer_11 : decode cX12_looksAtPayer 11 = .ok (.getfield 40, 3) := by decide +kernel
theorem dX12_looksAtPayer_14 : decode cX12_looksAtPayer 14 = .ok (.iconst 0, 1) := by decide +kernel
theorem dX12_looksAtPayer_15 : decode cX12_looksAtPayer 15 = .ok (.iconst 0, 1) := by decide +kernel
theorem dX12_looksAtPayer_16 : decode cX12_looksAtPayer 16 = .ok (.iastore, 1) := by decide +kernel
theorem dX12_looksAtPayer_17 : decode cX12_looksAtPayer 17 = .ok (.aload_n 0, 1) := by decide +kernel
theorem dX12_looksAtPayer_18 : decode cX12_looksAtPayer 18 = .ok (.getfield 40, 3) := by decide +kernel
theorem dX12_looksAtPayer_21 : decode cX12_looksAtPayer 21 = .ok (.iconst 1, 1) := by decide +kernel
theorem dX12_looksAtPayer_22 : decode cX12_looksAtPayer 22 = .ok (.iconst 0, 1) := by decide +kernel
theorem dX12_looksAtPayer_23 : decode cX12_looksAtPayer 23 = .ok (.iastore, 1) := by decide +kernel
theorem dX12_looksAtPayer_24 : decode cX12_looksAtPayer 24 = .ok (.aload_n 0, 1) := by decide +kernel
theorem dX12_looksAtPayer_25 : decode cX12_looksAtPayer 25 = .ok (.getfield 40, 3) := by decide +kernel
theorem dX12_looksAtPayer_28 : decode cX12_looksAtPayer 28 = .ok (.iconst 2, 1) := by decide +kernel
theorem dX12_looksAtPayer_29 : decode cX12_looksAtPayer 29 = .ok (.iconst 0, 1) := by decide +kernel
theorem dX12_looksAtPayer_30 : decode cX12_looksAtPayer 30 = .ok (.iastore, 1) := by decide +kernel
theorem dX12_looksAtPayer_31 : decode cX12_looksAtPayer 31 = .ok (.aload_n 0, 1) := by decide +kernel
theorem dX12_looksAtPayer_32 : decode cX12_looksAtPayer 32 = .ok (.getfield 40, 3) := by decide +kernel
theorem dX12_looksAtPayer_35 : decode cX12_looksAtPayer 35 = .ok (.iconst 3, 1) := by decide +kernel
theorem dX12_looksAtPayer_36 : decode cX12_looksAtPayer 36 = .ok (.aload_n 0, 1) := by decide +kernel
theorem dX12_looksAtPayer_37 : decode cX12_looksAtPayer 37 = .ok (.getfield 13, 3) := by decide +kernel
theorem dX12_looksAtPayer_40 : decode cX12_looksAtPayer 40 = .ok (.iload_n 1, 1) := by decide +kernel
theorem dX12_looksAtPayer_41 : decode cX12_looksAtPayer 41 = .ok (.iconst 0, 1) := by decide +kernel
theorem dX12_looksAtPayer_42 : decode cX12_looksAtPayer 42 = .ok (.invokestatic 170, 3) := by decide +kernel
theorem dX12_looksAtPayer_45 : decode cX12_looksAtPayer 45 = .ok (.iaload, 1) := by decide +kernel
theorem dX12_looksAtPayer_46 : decode cX12_looksAtPayer 46 = .ok (.iastore, 1) := by decide +kernel
theorem dX12_looksAtPayer_47 : decode cX12_looksAtPayer 47 = .ok (.aload_n 0, 1) := by decide +kernel
theorem dX12_looksAtPayer_48 : decode cX12_looksAtPayer 48 = .ok (.getfield 40, 3) := by decide +kernel
theorem dX12_looksAtPayer_51 : decode cX12_looksAtPayer 51 = .ok (.iconst 4, 1) := by decide +kernel
theorem dX12_looksAtPayer_52 : decode cX12_looksAtPayer 52 = .ok (.aload_n 0, 1) := by decide +kernel
theorem dX12_looksAtPayer_53 : decode cX12_looksAtPayer 53 = .ok (.getfield 13, 3) := by decide +kernel
theorem dX12_looksAtPayer_56 : decode cX12_looksAtPayer 56 = .ok (.iload_n 1, 1) := by decide +kernel
theorem dX12_looksAtPayer_57 : decode cX12_looksAtPayer 57 = .ok (.iconst 1, 1) := by decide +kernel
theorem dX12_looksAtPayer_58 : decode cX12_looksAtPayer 58 = .ok (.invokestatic 170, 3) := by decide +kernel
theorem dX12_looksAtPayer_61 : decode cX12_looksAtPayer 61 = .ok (.iaload, 1) := by decide +kernel
theorem dX12_looksAtPayer_62 : decode cX12_looksAtPayer 62 = .ok (.iastore, 1) := by decide +kernel
theorem dX12_looksAtPayer_63 : decode cX12_looksAtPayer 63 = .ok (.return_, 1) := by decide +kernel
noncomputable def o_X12_looksAtPayer (s : rs_S) (a1 : Int32) : Option (rs_S) := (o_X12_payerAt (pR (pR (pR (pN (pN s 18 (-1)) 19 (nI 0)) 7 (nI 0) (nI 0)) 7 (nI 1) (nI 0)) 7 (nI 2) (nI 0)) a1 (nI 0)).bind fun x1 => (if iL x1 22216 then ((o_X12_payerAt (pR (pR (pR (pR (pN (pN s 18 (-1)) 19 (nI 0)) 7 (nI 0) (nI 0)) 7 (nI 1) (nI 0)) 7 (nI 2) (nI 0)) 7 (nI 3) (gW (pR (pR (pR (pN (pN s 18 (-1)) 19 (nI 0)) 7 (nI 0) (nI 0)) 7 (nI 1) (nI 0)) 7 (nI 2) (nI 0)) x1)) a1 (nI 1)).bind fun x3 => (if iL x3 22216 then (some (pR (pR (pR (pR (pR (pN (pN s 18 (-1)) 19 (nI 0)) 7 (nI 0) (nI 0)) 7 (nI 1) (nI 0)) 7 (nI 2) (nI 0)) 7 (nI 3) (gW (pR (pR (pR (pN (pN s 18 (-1)) 19 (nI 0)) 7 (nI 0) (nI 0)) 7 (nI 1) (nI 0)) 7 (nI 2) (nI 0)) x1)) 7 (nI 4) (gW (pR (pR (pR (pR (pN (pN s 18 (-1)) 19 (nI 0)) 7 (nI 0) (nI 0)) 7 (nI 1) (nI 0)) 7 (nI 2) (nI 0)) 7 (nI 3) (gW (pR (pR (pR (pN (pN s 18 (-1)) 19 (nI 0)) 7 (nI 0) (nI 0)) 7 (nI 1) (nI 0)) 7 (nI 2) (nI 0)) x1)) x3))) else none)) else none)
set_option maxHeartbeats 4000000 in
theorem t_X12_looksAtPayer {Γ : jg_G} {g : Nat → jg_C} {n r : Nat} (hr : r + 11 ≤ n) (s : rs_S) (a1 : Int32)  {x : rs_S} (h : o_X12_looksAtPayer s a1 = some x) : jc Γ mX12_looksAtPayer 1 0 0 [some (.ref r), some (.int a1)] (rs_h g r s, n) (.inl none) (rs_h g r x, n) := by
  refine jc_of ?_
  rw [o_X12_looksAtPayer] at h
  refine jg_aload_n dX12_looksAtPayer_0 rfl ?_
  refine jg_iconst (v := (-1)) dX12_looksAtPayer_1 (by decide) ?_
  refine rs_putD (s := s) (k := 18) (x := (-1)) fl_X12_359 dX12_looksAtPayer_2 hr (by decide) (rfl) rfl rfl ?_
  refine jg_aload_n dX12_looksAtPayer_5 rfl ?_
  refine jg_iconst (v := nI 0) dX12_looksAtPayer_6 (by decide) ?_
  refine rs_putD (s := (pN s 18 (-1))) (k := 19) (x := (nI 0)) fl_X12_361 dX12_looksAtPayer_7 hr (by decide) (rfl) rfl rfl ?_
  refine jg_aload_n dX12_looksAtPayer_10 rfl ?_
  refine rs_ga fl_X12_40 dX12_looksAtPayer_11 hr rfl ?_
  refine jg_iconst (v := nI 0) dX12_looksAtPayer_14 (by decide) ?_
  refine jg_iconst (v := nI 0) dX12_looksAtPayer_15 (by decide) ?_
  refine rs_stD (s := (pN (pN s 18 (-1)) 19 (nI 0))) (i := (nI 0)) (x := (nI 0)) (j := 6) dX12_looksAtPayer_16 hr (by decide) rfl (by decide) ?_
  refine jg_aload_n dX12_looksAtPayer_17 rfl ?_
  refine rs_ga fl_X12_40 dX12_looksAtPayer_18 hr rfl ?_
  refine jg_iconst (v := nI 1) dX12_looksAtPayer_21 (by decide) ?_
  refine jg_iconst (v := nI 0) dX12_looksAtPayer_22 (by decide) ?_
  refine rs_stD (s := (pR (pN (pN s 18 (-1)) 19 (nI 0)) 7 (nI 0) (nI 0))) (i := (nI 1)) (x := (nI 0)) (j := 6) dX12_looksAtPayer_23 hr (by decide) rfl (by decide) ?_
  refine jg_aload_n dX12_looksAtPayer_24 rfl ?_
  refine rs_ga fl_X12_40 dX12_looksAtPayer_25 hr rfl ?_
  refine jg_iconst (v := nI 2) dX12_looksAtPayer_28 (by decide) ?_
  refine jg_iconst (v := nI 0) dX12_looksAtPayer_29 (by decide) ?_
  refine rs_stD (s := (pR (pR (pN (pN s 18 (-1)) 19 (nI 0)) 7 (nI 0) (nI 0)) 7 (nI 1) (nI 0))) (i := (nI 2)) (x := (nI 0)) (j := 6) dX12_looksAtPayer_30 hr (by decide) rfl (by decide) ?_
  refine jg_aload_n dX12_looksAtPayer_31 rfl ?_
  refine rs_ga fl_X12_40 dX12_looksAtPayer_32 hr rfl ?_
  refine jg_iconst (v := nI 3) dX12_looksAtPayer_35 (by decide) ?_
  refine jg_aload_n dX12_looksAtPayer_36 rfl ?_
  refine rs_ga fl_X12_13 dX12_looksAtPayer_37 hr rfl ?_
  refine jg_iload_n dX12_looksAtPayer_40 rfl ?_
  refine jg_iconst (v := nI 0) dX12_looksAtPayer_41 (by decide) ?_
  obtain ⟨x1, e_x1, h⟩ := bd_some h
  refine rs_callS (As := [.int a1, .int (nI 0)]) ks_X12_170 dX12_looksAtPayer_42 rfl (by decide) (Nat.le_of_ble_eq_true rfl) rfl (by decide) (Nat.le_of_ble_eq_true rfl) (t_X12_payerAt hr (pR (pR (pR (pN (pN s 18 (-1)) 19 (nI 0)) 7 (nI 0) (nI 0)) 7 (nI 1) (nI 0)) 7 (nI 2) (nI 0)) a1 (nI 0) e_x1) ?_
  obtain ⟨q2, h⟩ := gd_some h
  refine rs_lwD (s := (pR (pR (pR (pN (pN s 18 (-1)) 19 (nI 0)) 7 (nI 0) (nI 0)) 7 (nI 1) (nI 0)) 7 (nI 2) (nI 0))) (i := x1) dX12_looksAtPayer_45 hr q2 ?_
  refine rs_stD (s := (pR (pR (pR (pN (pN s 18 (-1)) 19 (nI 0)) 7 (nI 0) (nI 0)) 7 (nI 1) (nI 0)) 7 (nI 2) (nI 0))) (i := (nI 3)) (x := (gW (pR (pR (pR (pN (pN s 18 (-1)) 19 (nI 0)) 7 (nI 0) (nI 0)) 7 (nI 1) (nI 0)) 7 (nI 2) (nI 0)) x1)) (j := 6) dX12_looksAtPayer_46 hr (by decide) rfl (by decide) ?_
  refine jg_aload_n dX12_looksAtPayer_47 rfl ?_
  refine rs_ga fl_X12_40 dX12_looksAtPayer_48 hr rfl ?_
  refine jg_iconst (v := nI 4) dX12_looksAtPayer_51 (by decide) ?_
  refine jg_aload_n dX12_looksAtPayer_52 rfl ?_
  refine rs_ga fl_X12_13 dX12_looksAtPayer_53 hr rfl ?_
  refine jg_iload_n dX12_looksAtPayer_56 rfl ?_
  refine jg_iconst (v := nI 1) dX12_looksAtPayer_57 (by decide) ?_
  obtain ⟨x3, e_x3, h⟩ := bd_some h
  refine rs_callS (As := [.int a1, .int (nI 1)]) ks_X12_170 dX12_looksAtPayer_58 rfl (by decide) (Nat.le_of_ble_eq_true rfl) rfl (by decide) (Nat.le_of_ble_eq_true rfl) (t_X12_payerAt hr (pR (pR (pR (pR (pN (pN s 18 (-1)) 19 (nI 0)) 7 (nI 0) (nI 0)) 7 (nI 1) (nI 0)) 7 (nI 2) (nI 0)) 7 (nI 3) (gW (pR (pR (pR (pN (pN s 18 (-1)) 19 (nI 0)) 7 (nI 0) (nI 0)) 7 (nI 1) (nI 0)) 7 (nI 2) (nI 0)) x1)) a1 (nI 1) e_x3) ?_
  obtain ⟨q4, h⟩ := gd_some h
  refine rs_lwD (s := (pR (pR (pR (pR (pN (pN s 18 (-1)) 19 (nI 0)) 7 (nI 0) (nI 0)) 7 (nI 1) (nI 0)) 7 (nI 2) (nI 0)) 7 (nI 3) (gW (pR (pR (pR (pN (pN s 18 (-1)) 19 (nI 0)) 7 (nI 0) (nI 0)) 7 (nI 1) (nI 0)) 7 (nI 2) (nI 0)) x1))) (i := x3) dX12_looksAtPayer_61 hr q4 ?_
  refine rs_stD (s := (pR (pR (pR (pR (pN (pN s 18 (-1)) 19 (nI 0)) 7 (nI 0) (nI 0)) 7 (nI 1) (nI 0)) 7 (nI 2) (nI 0)) 7 (nI 3) (gW (pR (pR (pR (pN (pN s 18 (-1)) 19 (nI 0)) 7 (nI 0) (nI 0)) 7 (nI 1) (nI 0)) 7 (nI 2) (nI 0)) x1))) (i := (nI 4)) (x := (gW (pR (pR (pR (pR (pN (pN s 18 (-1)) 19 (nI 0)) 7 (nI 0) (nI 0)) 7 (nI 1) (nI 0)) 7 (nI 2) (nI 0)) 7 (nI 3) (gW (pR (pR (pR (pN (pN s 18 (-1)) 19 (nI 0)) 7 (nI 0) (nI 0)) 7 (nI 1) (nI 0)) 7 (nI 2) (nI 0)) x1)) x3)) (j := 6) dX12_looksAtPayer_62 hr (by decide) rfl (by decide) ?_
  obtain rfl := Option.some.inj h
  exact jg_return dX12_looksAtPayer_63 rfl ⟨rfl, rfl⟩
theorem dX12_votesOf_0 : decode cX12_votesOf 0 = .ok (.aload_n 0, 1) := by decide +kernel
theorem dX12_votesOf_1 : decode cX12_votesOf 1 = .ok (.iload_n 1, 1) := by decide +kernel
theorem dX12_votesOf_2 : decode cX12_votesOf 2 = .ok (.invokevirtual 382, 3) := by decide +kernel
theorem dX12_votesOf_5 : decode cX12_votesOf 5 = .ok (.aload_n 0, 1) := by decide +kernel
theorem dX12_votesOf_6 : decode cX12_votesOf 6 = .ok (.aload_n 0, 1) := by decide +kernel
theorem dX12_votesOf_7 : decode cX12_votesOf 7 = .ok (.aload_n 0, 1) := by decide +kernel
theorem dX12_votesOf_8 : decode cX12_votesOf 8 = .ok (.invokevirtual 77, 3) := by decide +kernel
theorem dX12_votesOf_11 : decode cX12_votesOf 11 = .ok (.invokevirtual 115, 3) := by decide +kernel
theorem dX12_votesOf_14 : decode cX12_votesOf 14 = .ok (.iconst 3, 1) := by decide +kernel
theorem dX12_votesOf_15 : decode cX12_votesOf 15 = .ok (.invokevirtual 370, 3) := by decide +kernel
theorem dX12_votesOf_18 : decode cX12_votesOf 18 = .ok (.l2i, 1) := by decide +kernel
theorem dX12_votesOf_19 : decode cX12_votesOf 19 = .ok (.ireturn, 1) := by decide +kernel
noncomputable def o_X12_votesOf (F : Nat) (s : rs_S) (a1 : Int32) : Option (Int32 × rs_S) := (o_X12_looksAtPayer s a1).bind fun x1 => ((o_X12_today x1).bind fun x2 => ((o_X12_actOf F x1 x2).bind fun x3 => ((o_X12_sumOf F x1 x3 (nI 3)).bind fun x4 => (some (x4.1.toInt32, x4.2)))))
set_option maxHeartbeats 4000000 in
theorem t_X12_votesOf {Γ : jg_G} {g : Nat → jg_C} {n r : Nat} (hr : r + 11 ≤ n) (F : Nat) (s : rs_S) (a1 : Int32)  {x : Int32 × rs_S} (h : o_X12_votesOf F s a1 = some x) : jc Γ mX12_votesOf 3 0 0 [some (.ref r), some (.int a1)] (rs_h g r s, n) (.inl (some (.int x.1))) (rs_h g r x.2, n) := by
  refine jc_of ?_
  rw [o_X12_votesOf] at h
  refine jg_aload_n dX12_votesOf_0 rfl ?_
  refine jg_iload_n dX12_votesOf_1 rfl ?_
  obtain ⟨x1, e_x1, h⟩ := bd_some h
  refine rs_call (As := [.int a1]) kv_X12_382 dX12_votesOf_2 hr rfl rfl (by decide) (Nat.le_of_ble_eq_true rfl) rfl (by decide) (Nat.le_of_ble_eq_true rfl) (t_X12_looksAtPayer hr s a1 e_x1) ?_
  refine jg_aload_n dX12_votesOf_5 rfl ?_
  refine jg_aload_n dX12_votesOf_6 rfl ?_
  refine jg_aload_n dX12_votesOf_7 rfl ?_
  obtain ⟨x2, e_x2, h⟩ := bd_some h
  refine rs_call (As := []) kv_X12_77 dX12_votesOf_8 hr rfl rfl (by decide) (Nat.le_of_ble_eq_true rfl) rfl (by decide) (Nat.le_of_ble_eq_true rfl) (t_X12_today hr x1 e_x2) ?_
  obtain ⟨x3, e_x3, h⟩ := bd_some h
  refine rs_call (As := [.int x2]) kv_X12_115 dX12_votesOf_11 hr rfl rfl (by decide) (Nat.le_of_ble_eq_true rfl) rfl (by decide) (Nat.le_of_ble_eq_true rfl) (t_X12_actOf hr F x1 x2 e_x3) ?_
  refine jg_iconst (v := nI 3) dX12_votesOf_14 (by decide) ?_
  obtain ⟨x4, e_x4, h⟩ := bd_some h
  refine rs_call (As := [.int x3, .int (nI 3)]) kv_X12_370 dX12_votesOf_15 hr rfl rfl (by decide) (Nat.le_of_ble_eq_true rfl) rfl (by decide) (Nat.le_of_ble_eq_true rfl) (t_X12_sumOf hr F x1 x3 (nI 3) e_x4) ?_
  refine jg_l2i dX12_votesOf_18 ?_
  obtain rfl := Option.some.inj h
  exact jg_ireturn dX12_votesOf_19 rfl ⟨rfl, rfl⟩
theorem dX12_vote_0 : decode cX12_vote 0 = .ok (.aload_n 0, 1) := by decide +kernel
theorem dX12_vote_1 : decode cX12_vote 1 = .ok (.iconst 0, 1) := by decide +kernel
theorem dX12_vote_2 : decode cX12_vote 2 = .ok (.putfield 3, 3) := by decide +kernel
theorem dX12_vote_5 : decode cX12_vote 5 = .ok (.aload_n 0, 1) := by decide +kernel
theorem dX12_vote_6 : decode cX12_vote 6 = .ok (.aload_n 0, 1) := by decide +kernel
theorem dX12_vote_7 : decode cX12_vote 7 = .ok (.iload_n 1, 1) := by decide +kernel
theorem dX12_vote_8 : decode cX12_vote 8 = .ok (.invokevirtual 107, 3) := by decide +kernel
theorem dX12_vote_11 : decode cX12_vote 11 = .ok (.iconst 1, 1) := by decide +kernel
theorem dX12_vote_12 : decode cX12_vote 12 = .ok (.invokevirtual 69, 3) := by decide +kernel
theorem dX12_vote_15 : decode cX12_vote 15 = .ok (.ifCond .ne 41, 3) := by decide +kernel
theorem dX12_vote_18 : decode cX12_vote 18 = .ok (.aload_n 0, 1) := by decide +kernel
theorem dX12_vote_19 : decode cX12_vote 19 = .ok (.aload_n 0, 1) := by decide +kernel
theorem dX12_vote_20 : decode cX12_vote 20 = .ok (.getfield 13, 3) := by decide +kernel
theorem dX12_vote_23 : decode cX12_vote 23 = .ok (.sipush 2661, 3) := by decide +kernel
theorem dX12_vote_26 : decode cX12_vote 26 = .ok (.iaload, 1) := by decide +kernel
theorem dX12_vote_27 : decode cX12_vote 27 = .ok (.ifCond .ne 7, 3) := by decide +kernel
theorem dX12_vote_30 : decode cX12_vote 30 = .ok (.iconst 1, 1) := by decide +kernel
theorem dX12_vote_31 : decode cX12_vote 31 = .ok (.goto 4, 3) := by decide +kernel
theorem dX12_vote_34 : decode cX12_vote 34 = .ok (.iconst 0, 1) := by decide +kernel
theorem dX12_vote_35 : decode cX12_vote 35 = .ok (.iconst 2, 1) := by decide +kernel
theorem dX12_vote_36 : decode cX12_vote 36 = .ok (.invokevirtual 69, 3) := by decide +kernel
theorem dX12_vote_39 : decode cX12_vote 39 = .ok (.ifCond .ne 17, 3) := by decide +kernel
theorem dX12_vote_42 : decode cX12_vote 42 = .ok (.aload_n 0, 1) := by decide +kernel
theorem dX12_vote_43 : decode cX12_vote 43 = .ok (.getfield 13, 3) := by decide +kernel
theorem dX12_vote_46 : decode cX12_vote 46 = .ok (.iload_n 1, 1) := by decide +kernel
theorem dX12_vote_47 : decode cX12_vote 47 = .ok (.iconst 3, 1) := by decide +kernel
theorem dX12_vote_48 : decode cX12_vote 48 = .ok (.invokestatic 170, 3) := by decide +kernel
theorem dX12_vote_51 : decode cX12_vote 51 = .ok (.iaload, 1) := by decide +kernel
theorem dX12_vote_52 : decode cX12_vote 52 = .ok (.iconst 1, 1) := by decide +kernel
theorem dX12_vote_53 : decode cX12_vote 53 = .ok (.if_icmp .ne 16, 3) := by decide +kernel
theorem dX12_vote_56 : decode cX12_vote 56 = .ok (.aload_n 0, 1) := by decide +kernel
theorem dX12_vote_57 : decode cX12_vote 57 = .ok (.getfield 3, 3) := by decide +kernel
theorem dX12_vote_60 : decode cX12_vote 60 = .ok (.ifCond .eq 7, 3) := by decide +kernel
theorem dX12_vote_63 : decode cX12_vote 63 = .ok (.iconst 0, 1) := by decide +kernel
theorem dX12_vote_64 : decode cX12_vote 64 = .ok (.goto 4, 3) := by decide +kernel
theorem dX12_vote_67 : decode cX12_vote 67 = .ok (.iconst (-1), 1) := by decide +kernel
theorem dX12_vote_68 : decode cX12_vote 68 = .ok (.ireturn, 1) := by decide +kernel
theorem dX12_vote_69 : decode cX12_vote 69 = .ok (.aload_n 0, 1) := by decide +kernel
theorem dX12_vote_70 : decode cX12_vote 70 = .ok (.iload_n 1, 1) := by decide +kernel
theorem dX12_vote_71 : decode cX12_vote 71 = .ok (.invokevirtual 385, 3) := by decide +kernel
theorem dX12_vote_74 : decode cX12_vote 74 = .ok (.istore_n 3, 1) := by decide +kernel
theorem dX12_vote_75 : decode cX12_vote 75 = .ok (.aload_n 0, 1) := by decide +kernel
theorem dX12_vote_76 : decode cX12_vote 76 = .ok (.getfield 13, 3) := by decide +kernel
theorem dX12_vote_79 : decode cX12_vote 79 = .ok (.iload_n 1, 1) := by decide +kernel
theorem dX12_vote_80 : decode cX12_vote 80 = .ok (.iconst 3, 1) := by decide +kernel
theorem dX12_vote_81 : decode cX12_vote 81 = .ok (.invokestatic 170, 3) := by decide +kernel
theorem dX12_vote_84 : decode cX12_vote 84 = .ok (.iconst 1, 1) := by decide +kernel
theorem dX12_vote_85 : decode cX12_vote 85 = .ok (.iastore, 1) := by decide +kernel
theorem dX12_vote_86 : decode cX12_vote 86 = .ok (.aload_n 0, 1) := by decide +kernel
theorem dX12_vote_87 : decode cX12_vote 87 = .ok (.getfield 13, 3) := by decide +kernel
theorem dX12_vote_90 : decode cX12_vote 90 = .ok (.sipush 2664, 3) := by decide +kernel
theorem dX12_vote_93 : decode cX12_vote 93 = .ok (.dup2, 1) := by decide +kernel
theorem dX12_vote_94 : decode cX12_vote 94 = .ok (.iaload, 1) := by decide +kernel
theorem dX12_vote_95 : decode cX12_vote 95 = .ok (.iload_n 3, 1) := by decide +kernel
theorem dX12_vote_96 : decode cX12_vote 96 = .ok (.iadd, 1) := by decide +kernel
theorem dX12_vote_97 : decode cX12_vote 97 = .ok (.iastore, 1) := by decide +kernel
theorem dX12_vote_98 : decode cX12_vote 98 = .ok (.aload_n 0, 1) := by decide +kernel
theorem dX12_vote_99 : decode cX12_vote 99 = .ok (.getfield 13, 3) := by decide +kernel
theorem dX12_vote_102 : decode cX12_vote 102 = .ok (.sipush 2663, 3) := by decide +kernel
theorem dX12_vote_105 : decode cX12_vote 105 = .ok (.dup2, 1) := by decide +kernel
theorem dX12_vote_106 : decode cX12_vote 106 = .ok (.iaload, 1) := by decide +kernel
theorem dX12_vote_107 : decode cX12_vote 107 = .ok (.iload_n 2, 1) := by decide +kernel
theorem dX12_vote_108 : decode cX12_vote 108 = .ok (.ifCond .eq 7, 3) := by decide +kernel
theorem dX12_vote_111 : decode cX12_vote 111 = .ok (.iload_n 3, 1) := by decide +kernel
theorem dX12_vote_112 : decode cX12_vote 112 = .ok (.goto 4, 3) := by decide +kernel
theorem dX12_vote_115 : decode cX12_vote 115 = .ok (.iconst 0, 1) := by decide +kernel
theorem dX12_vote_116 : decode cX12_vote 116 = .ok (.iadd, 1) := by decide +kernel
theorem dX12_vote_117 : decode cX12_vote 117 = .ok (.iastore, 1) := by decide +kernel
theorem dX12_vote_118 : decode cX12_vote 118 = .ok (.iload_n 3, 1) := by decide +kernel
theorem dX12_vote_119 : decode cX12_vote 119 = .ok (.ireturn, 1) := by decide +kernel
noncomputable def o_X12_vote (F : Nat) (s : rs_S) (a1 : Int32) (a2 : Int32) : Option (Int32 × rs_S) := (o_X12_noPayer (pN s 0 (nI 0)) a1).bind fun x1 => ((o_X12_throwsIf (pN s 0 (nI 0)) x1 (nI 1)).bind fun x2 => (if x2.1 = 0 then (if (gW x2.2 (nI 2661)) = 0 then (if ((pN x2.2 0 (nI 2)).1 0) = 0 then (some ((-1), pN x2.2 0 (nI 2))) else (some (nI 0, pN x2.2 0 (nI 2)))) else ((o_X12_payerAt x2.2 a1 (nI 3)).bind fun x6 => (if iL x6 22216 then (if (gW x2.2 x6) = (nI 1) then (if (x2.2.1 0) = 0 then (some ((-1), x2.2)) else (some (nI 0, x2.2))) else ((o_X12_votesOf F x2.2 a1).bind fun x9 => ((o_X12_payerAt x9.2 a1 (nI 3)).bind fun x10 => (if iL x10 22216 then (if a2 = 0 then (some (x9.1, pW (pW (pW x9.2 x10 (nI 1)) (nI 2664) ((gW (pW x9.2 x10 (nI 1)) (nI 2664)) + x9.1)) (nI 2663) ((gW (pW (pW x9.2 x10 (nI 1)) (nI 2664) ((gW (pW x9.2 x10 (nI 1)) (nI 2664)) + x9.1)) (nI 2663)) + (nI 0)))) else (some (x9.1, pW (pW (pW x9.2 x10 (nI 1)) (nI 2664) ((gW (pW x9.2 x10 (nI 1)) (nI 2664)) + x9.1)) (nI 2663) ((gW (pW (pW x9.2 x10 (nI 1)) (nI 2664) ((gW (pW x9.2 x10 (nI 1)) (nI 2664)) + x9.1)) (nI 2663)) + x9.1)))) else none)))) else none))) else (if (x2.2.1 0) = 0 then (some ((-1), x2.2)) else (some (nI 0, x2.2)))))
set_option maxHeartbeats 4000000 in
theorem t_X12_vote {Γ : jg_G} {g : Nat → jg_C} {n r : Nat} (hr : r + 11 ≤ n) (F : Nat) (s : rs_S) (a1 : Int32) (a2 : Int32)  {x : Int32 × rs_S} (h : o_X12_vote F s a1 a2 = some x) : jc Γ mX12_vote 4 0 0 [some (.ref r), some (.int a1), some (.int a2), none] (rs_h g r s, n) (.inl (some (.int x.1))) (rs_h g r x.2, n) := by
  refine jc_of ?_
  rw [o_X12_vote] at h
  refine jg_aload_n dX12_vote_0 rfl ?_
  refine jg_iconst (v := nI 0) dX12_vote_1 (by decide) ?_
  refine rs_putD (s := s) (k := 0) (x := (nI 0)) fl_X12_3 dX12_vote_2 hr (by decide) (rfl) rfl rfl ?_
  refine jg_aload_n dX12_vote_5 rfl ?_
  refine jg_aload_n dX12_vote_6 rfl ?_
  refine jg_iload_n dX12_vote_7 rfl ?_
  obtain ⟨x1, e_x1, h⟩ := bd_some h
  refine rs_call (As := [.int a1]) kv_X12_107 dX12_vote_8 hr rfl rfl (by decide) (Nat.le_of_ble_eq_true rfl) rfl (by decide) (Nat.le_of_ble_eq_true rfl) (t_X12_noPayer hr (pN s 0 (nI 0)) a1 e_x1) ?_
  refine jg_iconst (v := nI 1) dX12_vote_11 (by decide) ?_
  obtain ⟨x2, e_x2, h⟩ := bd_some h
  refine rs_call (As := [.int x1, .int (nI 1)]) kv_X12_69 dX12_vote_12 hr rfl rfl (by decide) (Nat.le_of_ble_eq_true rfl) rfl (by decide) (Nat.le_of_ble_eq_true rfl) (t_X12_throwsIf hr (pN s 0 (nI 0)) x1 (nI 1) e_x2) ?_
  refine jg_if_ne (x := x2.1) (tgt := 56) dX12_vote_15 (by decide) (fun c3 => ?_) (fun c3 => ?_)
  · replace h := it_f c3 h
    refine jg_aload_n dX12_vote_56 rfl ?_
    refine rs_ga fl_X12_3 dX12_vote_57 hr rfl ?_
    refine jg_if_eq (x := (x2.2.1 0)) (tgt := 67) dX12_vote_60 (by decide) (fun c4 => ?_) (fun c4 => ?_)
    · replace h := it_t c4 h
      refine jg_iconst (v := (-1)) dX12_vote_67 (by decide) ?_
      obtain rfl := Option.some.inj h
      exact jg_ireturn dX12_vote_68 rfl ⟨rfl, rfl⟩
    · replace h := it_f c4 h
      refine jg_iconst (v := nI 0) dX12_vote_63 (by decide) ?_
      refine jg_goto (tgt := 68) dX12_vote_64 (by decide) ?_
      obtain rfl := Option.some.inj h
      exact jg_ireturn dX12_vote_68 rfl ⟨rfl, rfl⟩
  · replace h := it_t c3 h
    refine jg_aload_n dX12_vote_18 rfl ?_
    refine jg_aload_n dX12_vote_19 rfl ?_
    refine rs_ga fl_X12_13 dX12_vote_20 hr rfl ?_
    refine jg_sipush (v := nI 2661) dX12_vote_23 (by decide) ?_
    refine rs_lwD (s := x2.2) (i := (nI 2661)) dX12_vote_26 hr (by decide) ?_
    refine jg_if_ne (x := (gW x2.2 (nI 2661))) (tgt := 34) dX12_vote_27 (by decide) (fun c5 => ?_) (fun c5 => ?_)
    · replace h := it_f c5 h
      refine jg_iconst (v := nI 0) dX12_vote_34 (by decide) ?_
      refine jg_iconst (v := nI 2) dX12_vote_35 (by decide) ?_
      refine rs_call (As := [.int (nI 0), .int (nI 2)]) kv_X12_69 dX12_vote_36 hr rfl rfl (by decide) (Nat.le_of_ble_eq_true rfl) rfl (by decide) (Nat.le_of_ble_eq_true rfl) (t_X12_throwsIf hr x2.2 (nI 0) (nI 2) (o_thr0 x2.2 (nI 2))) ?_
      refine jg_if_ne (x := (nI 0)) (tgt := 56) dX12_vote_39 (by decide) (fun q9 => absurd q9 (by decide)) (fun _ => ?_)
      refine jg_aload_n dX12_vote_42 rfl ?_
      refine rs_ga fl_X12_13 dX12_vote_43 hr rfl ?_
      refine jg_iload_n dX12_vote_46 rfl ?_
      refine jg_iconst (v := nI 3) dX12_vote_47 (by decide) ?_
      obtain ⟨x6, e_x6, h⟩ := bd_some h
      refine rs_callS (As := [.int a1, .int (nI 3)]) ks_X12_170 dX12_vote_48 rfl (by decide) (Nat.le_of_ble_eq_true rfl) rfl (by decide) (Nat.le_of_ble_eq_true rfl) (t_X12_payerAt hr x2.2 a1 (nI 3) e_x6) ?_
      obtain ⟨q7, h⟩ := gd_some h
      refine rs_lwD (s := x2.2) (i := x6) dX12_vote_51 hr q7 ?_
      refine jg_iconst (v := nI 1) dX12_vote_52 (by decide) ?_
      refine jg_icmp_ne (x := (gW x2.2 x6)) (y := (nI 1)) (tgt := 69) dX12_vote_53 (by decide) (fun c8 => ?_) (fun c8 => ?_)
      · replace h := it_f c8 h
        refine jg_aload_n dX12_vote_69 rfl ?_
        refine jg_iload_n dX12_vote_70 rfl ?_
        obtain ⟨x9, e_x9, h⟩ := bd_some h
        refine rs_call (As := [.int a1]) kv_X12_385 dX12_vote_71 hr rfl rfl (by decide) (Nat.le_of_ble_eq_true rfl) rfl (by decide) (Nat.le_of_ble_eq_true rfl) (t_X12_votesOf hr F x2.2 a1 e_x9) ?_
        refine jg_istore_n (L' := [some (.ref r), some (.int a1), some (.int a2), some (.int x9.1)]) dX12_vote_74 (by decide) rfl ?_
        refine jg_aload_n dX12_vote_75 rfl ?_
        refine rs_ga fl_X12_13 dX12_vote_76 hr rfl ?_
        refine jg_iload_n dX12_vote_79 rfl ?_
        refine jg_iconst (v := nI 3) dX12_vote_80 (by decide) ?_
        obtain ⟨x10, e_x10, h⟩ := bd_some h
        refine rs_callS (As := [.int a1, .int (nI 3)]) ks_X12_170 dX12_vote_81 rfl (by decide) (Nat.le_of_ble_eq_true rfl) rfl (by decide) (Nat.le_of_ble_eq_true rfl) (t_X12_payerAt hr x9.2 a1 (nI 3) e_x10) ?_
        refine jg_iconst (v := nI 1) dX12_vote_84 (by decide) ?_
        obtain ⟨q11, h⟩ := gd_some h
        refine rs_swD (s := x9.2) (i := x10) (x := (nI 1)) dX12_vote_85 hr q11 ?_
        refine jg_aload_n dX12_vote_86 rfl ?_
        refine rs_ga fl_X12_13 dX12_vote_87 hr rfl ?_
        refine jg_sipush (v := nI 2664) dX12_vote_90 (by decide) ?_
        refine jg_dup2 dX12_vote_93 rfl rfl ?_
        refine rs_lwD (s := (pW x9.2 x10 (nI 1))) (i := (nI 2664)) dX12_vote_94 hr (by decide) ?_
        refine jg_iload_n dX12_vote_95 rfl ?_
        refine jg_iadd (x := (gW (pW x9.2 x10 (nI 1)) (nI 2664))) (y := x9.1) dX12_vote_96  ?_
        refine rs_swD (s := (pW x9.2 x10 (nI 1))) (i := (nI 2664)) (x := ((gW (pW x9.2 x10 (nI 1)) (nI 2664)) + x9.1)) dX12_vote_97 hr (by decide) ?_
        refine jg_aload_n dX12_vote_98 rfl ?_
        refine rs_ga fl_X12_13 dX12_vote_99 hr rfl ?_
        refine jg_sipush (v := nI 2663) dX12_vote_102 (by decide) ?_
        refine jg_dup2 dX12_vote_105 rfl rfl ?_
        refine rs_lwD (s := (pW (pW x9.2 x10 (nI 1)) (nI 2664) ((gW (pW x9.2 x10 (nI 1)) (nI 2664)) + x9.1))) (i := (nI 2663)) dX12_vote_106 hr (by decide) ?_
        refine jg_iload_n dX12_vote_107 rfl ?_
        refine jg_if_eq (x := a2) (tgt := 115) dX12_vote_108 (by decide) (fun c12 => ?_) (fun c12 => ?_)
        · replace h := it_t c12 h
          refine jg_iconst (v := nI 0) dX12_vote_115 (by decide) ?_
          refine jg_iadd (x := (gW (pW (pW x9.2 x10 (nI 1)) (nI 2664) ((gW (pW x9.2 x10 (nI 1)) (nI 2664)) + x9.1)) (nI 2663))) (y := (nI 0)) dX12_vote_116  ?_
          refine rs_swD (s := (pW (pW x9.2 x10 (nI 1)) (nI 2664) ((gW (pW x9.2 x10 (nI 1)) (nI 2664)) + x9.1))) (i := (nI 2663)) (x := ((gW (pW (pW x9.2 x10 (nI 1)) (nI 2664) ((gW (pW x9.2 x10 (nI 1)) (nI 2664)) + x9.1)) (nI 2663)) + (nI 0))) dX12_vote_117 hr (by decide) ?_
          refine jg_iload_n dX12_vote_118 rfl ?_
          obtain rfl := Option.some.inj h
          exact jg_ireturn dX12_vote_119 rfl ⟨rfl, rfl⟩
        · replace h := it_f c12 h
          refine jg_iload_n dX12_vote_111 rfl ?_
          refine jg_goto (tgt := 116) dX12_vote_112 (by decide) ?_
          refine jg_iadd (x := (gW (pW (pW x9.2 x10 (nI 1)) (nI 2664) ((gW (pW x9.2 x10 (nI 1)) (nI 2664)) + x9.1)) (nI 2663))) (y := x9.1) dX12_vote_116  ?_
          refine rs_swD (s := (pW (pW x9.2 x10 (nI 1)) (nI 2664) ((gW (pW x9.2 x10 (nI 1)) (nI 2664)) + x9.1))) (i := (nI 2663)) (x := ((gW (pW (pW x9.2 x10 (nI 1)) (nI 2664) ((gW (pW x9.2 x10 (nI 1)) (nI 2664)) + x9.1)) (nI 2663)) + x9.1)) dX12_vote_117 hr (by decide) ?_
          refine jg_iload_n dX12_vote_118 rfl ?_
          obtain rfl := Option.some.inj h
          exact jg_ireturn dX12_vote_119 rfl ⟨rfl, rfl⟩
      · replace h := it_t c8 h
        refine jg_aload_n dX12_vote_56 rfl ?_
        refine rs_ga fl_X12_3 dX12_vote_57 hr rfl ?_
        refine jg_if_eq (x := (x2.2.1 0)) (tgt := 67) dX12_vote_60 (by decide) (fun c13 => ?_) (fun c13 => ?_)
        · replace h := it_t c13 h
          refine jg_iconst (v := (-1)) dX12_vote_67 (by decide) ?_
          obtain rfl := Option.some.inj h
          exact jg_ireturn dX12_vote_68 rfl ⟨rfl, rfl⟩
        · replace h := it_f c13 h
          refine jg_iconst (v := nI 0) dX12_vote_63 (by decide) ?_
          refine jg_goto (tgt := 68) dX12_vote_64 (by decide) ?_
          obtain rfl := Option.some.inj h
          exact jg_ireturn dX12_vote_68 rfl ⟨rfl, rfl⟩
    · replace h := it_t c5 h
      refine jg_iconst (v := nI 1) dX12_vote_30 (by decide) ?_
      refine jg_goto (tgt := 35) dX12_vote_31 (by decide) ?_
      refine jg_iconst (v := nI 2) dX12_vote_35 (by decide) ?_
      refine rs_call (As := [.int (nI 1), .int (nI 2)]) kv_X12_69 dX12_vote_36 hr rfl rfl (by decide) (Nat.le_of_ble_eq_true rfl) rfl (by decide) (Nat.le_of_ble_eq_true rfl) (t_X12_throwsIf hr x2.2 (nI 1) (nI 2) (o_thr1 x2.2 (nI 2))) ?_
      refine jg_if_ne (x := (nI 1)) (tgt := 56) dX12_vote_39 (by decide) (fun _ => ?_) (fun q9 => absurd q9 (by decide))
      refine jg_aload_n dX12_vote_56 rfl ?_
      refine rs_ga fl_X12_3 dX12_vote_57 hr rfl ?_
      refine jg_if_eq (x := ((pN x2.2 0 (nI 2)).1 0)) (tgt := 67) dX12_vote_60 (by decide) (fun c14 => ?_) (fun c14 => ?_)
      · replace h := it_t c14 h
        refine jg_iconst (v := (-1)) dX12_vote_67 (by decide) ?_
        obtain rfl := Option.some.inj h
        exact jg_ireturn dX12_vote_68 rfl ⟨rfl, rfl⟩
      · replace h := it_f c14 h
        refine jg_iconst (v := nI 0) dX12_vote_63 (by decide) ?_
        refine jg_goto (tgt := 68) dX12_vote_64 (by decide) ?_
        obtain rfl := Option.some.inj h
        exact jg_ireturn dX12_vote_68 rfl ⟨rfl, rfl⟩
