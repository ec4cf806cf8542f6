/-! THE REFERENCE AS FUNCTIONS, the rest (by program wip/whole/rdec2.py) -/
theorem dX12_isWord_0 : decode cX12_isWord 0 = .ok (.aload_n 0, 1) := by decide +kernel
theorem dX12_isWord_1 : decode cX12_isWord 1 = .ok (.getfield 211, 3) := by decide +kernel
theorem dX12_isWord_4 : decode cX12_isWord 4 = .ok (.aload_n 0, 1) := by decide +kernel
theorem dX12_isWord_5 : decode cX12_isWord 5 = .ok (.getfield 220, 3) := by decide +kernel
theorem dX12_isWord_8 : decode cX12_isWord 8 = .ok (.isub, 1) := by decide +kernel
theorem dX12_isWord_9 : decode cX12_isWord 9 = .ok (.aload_n 1, 1) := by decide +kernel
theorem dX12_isWord_10 : decode cX12_isWord 10 = .ok (.invokevirtual 226, 3) := by decide +kernel
theorem dX12_isWord_13 : decode cX12_isWord 13 = .ok (.if_icmp .ne 7, 3) := by decide +kernel
theorem dX12_isWord_16 : decode cX12_isWord 16 = .ok (.iconst 1, 1) := by decide +kernel
theorem dX12_isWord_17 : decode cX12_isWord 17 = .ok (.goto 4, 3) := by decide +kernel
theorem dX12_isWord_20 : decode cX12_isWord 20 = .ok (.iconst 0, 1) := by decide +kernel
theorem dX12_isWord_21 : decode cX12_isWord 21 = .ok (.istore_n 2, 1) := by decide +kernel
theorem dX12_isWord_22 : decode cX12_isWord 22 = .ok (.iconst 0, 1) := by decide +kernel
theorem dX12_isWord_23 : decode cX12_isWord 23 = .ok (.istore_n 3, 1) := by decide +kernel
theorem dX12_isWord_24 : decode cX12_isWord 24 = .ok (.iload_n 2, 1) := by decide +kernel
theorem dX12_isWord_25 : decode cX12_isWord 25 = .ok (.ifCond .eq 42, 3) := by decide +kernel
theorem dX12_isWord_28 : decode cX12_isWord 28 = .ok (.iload_n 3, 1) := by decide +kernel
theorem dX12_isWord_29 : decode cX12_isWord 29 = .ok (.aload_n 1, 1) := by decide +kernel
theorem dX12_isWord_30 : decode cX12_isWord 30 = .ok (.invokevirtual 226, 3) := by decide +kernel
theorem dX12_isWord_33 : decode cX12_isWord 33 = .ok (.if_icmp .ge 34, 3) := by decide +kernel
theorem dX12_isWord_36 : decode cX12_isWord 36 = .ok (.aload_n 0, 1) := by decide +kernel
theorem dX12_isWord_37 : decode cX12_isWord 37 = .ok (.getfield 26, 3) := by decide +kernel
theorem dX12_isWord_40 : decode cX12_isWord 40 = .ok (.aload_n 0, 1) := by decide +kernel
theorem dX12_isWord_41 : decode cX12_isWord 41 = .ok (.getfield 220, 3) := by decide +kernel
theorem dX12_isWord_44 : decode cX12_isWord 44 = .ok (.iload_n 3, 1) := by decide +kernel
theorem dX12_isWord_45 : decode cX12_isWord 45 = .ok (.iadd, 1) := by decide +kernel
theorem dX12_isWord_46 : decode cX12_isWord 46 = .ok (.baload, 1) := by decide +kernel
theorem dX12_isWord_47 : decode cX12_isWord 47 = .ok (.aload_n 1, 1) := by decide +kernel
theorem dX12_isWord_48 : decode cX12_isWord 48 = .ok (.iload_n 3, 1) := by decide +kernel
theorem dX12_isWord_49 : decode cX12_isWord 49 = .ok (.invokevirtual 231, 3) := by decide +kernel
theorem dX12_isWord_52 : decode cX12_isWord 52 = .ok (.if_icmp .ne 7, 3) := by decide +kernel
theorem dX12_isWord_55 : decode cX12_isWord 55 = .ok (.iconst 1, 1) := by decide +kernel
theorem dX12_isWord_56 : decode cX12_isWord 56 = .ok (.goto 4, 3) := by decide +kernel
theorem dX12_isWord_59 : decode cX12_isWord 59 = .ok (.iconst 0, 1) := by decide +kernel
theorem dX12_isWord_60 : decode cX12_isWord 60 = .ok (.istore_n 2, 1) := by decide +kernel
theorem dX12_isWord_61 : decode cX12_isWord 61 = .ok (.iinc 3 1, 3) := by decide +kernel
theorem dX12_isWord_64 : decode cX12_isWord 64 = .ok (.goto (-40), 3) := by decide +kernel
theorem dX12_isWord_67 : decode cX12_isWord 67 = .ok (.iload_n 2, 1) := by decide +kernel
theorem dX12_isWord_68 : decode cX12_isWord 68 = .ok (.ireturn, 1) := by decide +kernel
noncomputable def o_X12_isWord_24 (F : Nat) (l1 : Nat) (s : rs_S) : Nat → Int32 → Int32 → Option (Int32)
  | 0, _, _ => none
  | f + 1, l2, l3 => if l2 = 0 then (some l2) else (if l1 < 41 then (if (nI (sl l1)) ≤ l3 then (some l2) else (if iL ((s.1 11) + l3) 400 then (if iL l3 (sl l1) then (if (gR s 4 ((s.1 11) + l3)) = (sch l1 l3.toNatClampNeg) then (o_X12_isWord_24 F l1 s f (nI 1) (l3 + nI 1)) else (o_X12_isWord_24 F l1 s f (nI 0) (l3 + nI 1))) else none) else none)) else none)
set_option maxHeartbeats 4000000 in
theorem t_X12_isWord_24 {Γ : jg_G} {g : Nat → jg_C} {n r : Nat} (hr : r + 11 ≤ n) (F : Nat) (l1 : Nat) (s : rs_S)  (Q : jg_Q) {x : Int32} (K1 : jg Γ mX12_isWord 4 0 0 67 [none, none, some (.int x), none] [] (rs_h g r s, n) Q)  : ∀ (f : Nat) (l2 : Int32) (l3 : Int32), o_X12_isWord_24 F l1 s f l2 l3 = some x → jg Γ mX12_isWord 4 0 0 24 [some (.ref r), some (.ref (1000000 + l1)), some (.int l2), some (.int l3)] [] (rs_h g r s, n) Q := by
  intro f
  induction f with
  | zero => intro l2 l3 h; rw [o_X12_isWord_24] at h; cases h
  | succ f ih =>
   intro l2 l3 h
   rw [o_X12_isWord_24] at h
   refine jg_iload_n dX12_isWord_24 rfl ?_
   refine jg_if_eq (x := l2) (tgt := 67) dX12_isWord_25 (by decide) (fun c3 => ?_) (fun c3 => ?_)
   · replace h := it_t c3 h
     refine jg_fg (L' := [none, none, some (.int l2), none]) (by repeat (first | exact trivial | refine ⟨rfl, ?_⟩ | show jg_le _ _)) ?_
     obtain rfl := Option.some.inj h
     exact K1
   · replace h := it_f c3 h
     refine jg_iload_n dX12_isWord_28 rfl ?_
     refine jg_aload_n dX12_isWord_29 rfl ?_
     obtain ⟨q4, h⟩ := gd_some h
     refine jc_T (i := l1) (As := []) q4 rfl kv_X12_226 dX12_isWord_30 rfl (by decide) (Nat.le_of_ble_eq_true rfl) rfl (by decide) (Nat.le_of_ble_eq_true rfl) (t_J0_length q4) ?_
     refine jg_icmp_ge (x := l3) (y := (nI (sl l1))) (tgt := 67) dX12_isWord_33 (by decide) (fun c5 => ?_) (fun c5 => ?_)
     · replace h := it_t c5 h
       refine jg_fg (L' := [none, none, some (.int l2), none]) (by repeat (first | exact trivial | refine ⟨rfl, ?_⟩ | show jg_le _ _)) ?_
       obtain rfl := Option.some.inj h
       exact K1
     · replace h := it_f c5 h
       refine jg_aload_n dX12_isWord_36 rfl ?_
       refine rs_ga fl_X12_26 dX12_isWord_37 hr rfl ?_
       refine jg_aload_n dX12_isWord_40 rfl ?_
       refine rs_ga fl_X12_220 dX12_isWord_41 hr rfl ?_
       refine jg_iload_n dX12_isWord_44 rfl ?_
       refine jg_iadd (x := (s.1 11)) (y := l3) dX12_isWord_45  ?_
       obtain ⟨q6, h⟩ := gd_some h
       refine rs_lbD (s := s) (i := ((s.1 11) + l3)) (j := 3) dX12_isWord_46 hr (by decide) rfl q6 ?_
       refine jg_aload_n dX12_isWord_47 rfl ?_
       refine jg_iload_n dX12_isWord_48 rfl ?_
       obtain ⟨q7, h⟩ := gd_some h
       refine jc_T (i := l1) (As := [.int l3]) q4 rfl kv_X12_231 dX12_isWord_49 rfl (by decide) (Nat.le_of_ble_eq_true rfl) rfl (by decide) (Nat.le_of_ble_eq_true rfl) (t_J0_charAt q4 q7) ?_
       refine jg_icmp_ne (x := (gR s 4 ((s.1 11) + l3))) (y := (sch l1 l3.toNatClampNeg)) (tgt := 59) dX12_isWord_52 (by decide) (fun c8 => ?_) (fun c8 => ?_)
       · replace h := it_f c8 h
         refine jg_iconst (v := nI 0) dX12_isWord_59 (by decide) ?_
         refine jg_istore_n (L' := [some (.ref r), some (.ref (1000000 + l1)), some (.int (nI 0)), some (.int l3)]) dX12_isWord_60 (by decide) rfl ?_
         refine jg_iinc (x := l3) (v := l3 + nI 1) (L' := [some (.ref r), some (.ref (1000000 + l1)), some (.int (nI 0)), some (.int (l3 + nI 1))]) dX12_isWord_61 rfl (ic_k _ (by decide)) (by decide) rfl ?_
         refine jg_goto (tgt := 24) dX12_isWord_64 (by decide) ?_
         refine jg_fg (L' := [some (.ref r), some (.ref (1000000 + l1)), some (.int (nI 0)), some (.int (l3 + nI 1))]) (by repeat (first | exact trivial | refine ⟨rfl, ?_⟩ | show jg_le _ _)) ?_
         exact ih (nI 0) (l3 + nI 1) h
       · replace h := it_t c8 h
         refine jg_iconst (v := nI 1) dX12_isWord_55 (by decide) ?_
         refine jg_goto (tgt := 60) dX12_isWord_56 (by decide) ?_
         refine jg_istore_n (L' := [some (.ref r), some (.ref (1000000 + l1)), some (.int (nI 1)), some (.int l3)]) dX12_isWord_60 (by decide) rfl ?_
         refine jg_iinc (x := l3) (v := l3 + nI 1) (L' := [some (.ref r), some (.ref (1000000 + l1)), some (.int (nI 1)), some (.int (l3 + nI 1))]) dX12_isWord_61 rfl (ic_k _ (by decide)) (by decide) rfl ?_
         refine jg_goto (tgt := 24) dX12_isWord_64 (by decide) ?_
         refine jg_fg (L' := [some (.ref r), some (.ref (1000000 + l1)), some (.int (nI 1)), some (.int (l3 + nI 1))]) (by repeat (first | exact trivial | refine ⟨rfl, ?_⟩ | show jg_le _ _)) ?_
         exact ih (nI 1) (l3 + nI 1) h
noncomputable def o_X12_isWord (F : Nat) (s : rs_S) (a1 : Nat) : Option (Int32) := if a1 < 41 then (if ((s.1 9) - (s.1 11)) = (nI (sl a1)) then ((o_X12_isWord_24 F a1 s F (nI 1) (nI 0)).bind fun x10 => (if zb x10 then some x10 else none)) else ((o_X12_isWord_24 F a1 s F (nI 0) (nI 0)).bind fun x9 => (if zb x9 then some x9 else none))) else none
set_option maxHeartbeats 4000000 in
theorem t_X12_isWord {Γ : jg_G} {g : Nat → jg_C} {n r : Nat} (hr : r + 11 ≤ n) (F : Nat) (s : rs_S) (a1 : Nat)  {x : Int32} (h : o_X12_isWord F s a1 = some x) : jc Γ mX12_isWord 4 0 0 [some (.ref r), some (.ref (1000000 + a1)), none, none] (rs_h g r s, n) (.inl (some (.int x))) (rs_h g r s, n) := by
  refine jc_of ?_
  rw [o_X12_isWord] at h
  refine jg_aload_n dX12_isWord_0 rfl ?_
  refine rs_ga fl_X12_211 dX12_isWord_1 hr rfl ?_
  refine jg_aload_n dX12_isWord_4 rfl ?_
  refine rs_ga fl_X12_220 dX12_isWord_5 hr rfl ?_
  refine jg_isub (x := (s.1 9)) (y := (s.1 11)) dX12_isWord_8  ?_
  refine jg_aload_n dX12_isWord_9 rfl ?_
  obtain ⟨q1, h⟩ := gd_some h
  refine jc_T (i := a1) (As := []) q1 rfl kv_X12_226 dX12_isWord_10 rfl (by decide) (Nat.le_of_ble_eq_true rfl) rfl (by decide) (Nat.le_of_ble_eq_true rfl) (t_J0_length q1) ?_
  refine jg_icmp_ne (x := ((s.1 9) - (s.1 11))) (y := (nI (sl a1))) (tgt := 20) dX12_isWord_13 (by decide) (fun c2 => ?_) (fun c2 => ?_)
  · replace h := it_f c2 h
    refine jg_iconst (v := nI 0) dX12_isWord_20 (by decide) ?_
    refine jg_istore_n (L' := [some (.ref r), some (.ref (1000000 + a1)), some (.int (nI 0)), none]) dX12_isWord_21 (by decide) rfl ?_
    refine jg_iconst (v := nI 0) dX12_isWord_22 (by decide) ?_
    refine jg_istore_n (L' := [some (.ref r), some (.ref (1000000 + a1)), some (.int (nI 0)), some (.int (nI 0))]) dX12_isWord_23 (by decide) rfl ?_
    obtain ⟨x9, e_x9, h⟩ := bd_some h
    refine jg_fg (L' := [some (.ref r), some (.ref (1000000 + a1)), some (.int (nI 0)), some (.int (nI 0))]) (by repeat (first | exact trivial | refine ⟨rfl, ?_⟩ | show jg_le _ _)) ?_
    refine t_X12_isWord_24 hr F a1 s  _ (x := x9) ?_ F (nI 0) (nI 0) e_x9
    refine jg_iload_n dX12_isWord_67 rfl ?_
    obtain ⟨q9, h⟩ := gd_some h
    obtain rfl := Option.some.inj h
    exact jg_zreturn dX12_isWord_68 rfl (zb_nar q9) ⟨rfl, rfl⟩
  · replace h := it_t c2 h
    refine jg_iconst (v := nI 1) dX12_isWord_16 (by decide) ?_
    refine jg_goto (tgt := 21) dX12_isWord_17 (by decide) ?_
    refine jg_istore_n (L' := [some (.ref r), some (.ref (1000000 + a1)), some (.int (nI 1)), none]) dX12_isWord_21 (by decide) rfl ?_
    refine jg_iconst (v := nI 0) dX12_isWord_22 (by decide) ?_
    refine jg_istore_n (L' := [some (.ref r), some (.ref (1000000 + a1)), some (.int (nI 1)), some (.int (nI 0))]) dX12_isWord_23 (by decide) rfl ?_
    obtain ⟨x10, e_x10, h⟩ := bd_some h
    refine jg_fg (L' := [some (.ref r), some (.ref (1000000 + a1)), some (.int (nI 1)), some (.int (nI 0))]) (by repeat (first | exact trivial | refine ⟨rfl, ?_⟩ | show jg_le _ _)) ?_
    refine t_X12_isWord_24 hr F a1 s  _ (x := x10) ?_ F (nI 1) (nI 0) e_x10
    refine jg_iload_n dX12_isWord_67 rfl ?_
    obtain ⟨q9, h⟩ := gd_some h
    obtain rfl := Option.some.inj h
    exact jg_zreturn dX12_isWord_68 rfl (zb_nar q9) ⟨rfl, rfl⟩
theorem dX12_sortOf_0 : decode cX12_sortOf 0 = .ok (.aload_n 0, 1) := by decide +kernel
theorem dX12_sortOf_1 : decode cX12_sortOf 1 = .ok (.ldc_w 311, 3) := by decide +kernel
theorem dX12_sortOf_4 : decode cX12_sortOf 4 = .ok (.invokevirtual 238, 3) := by decide +kernel
theorem dX12_sortOf_7 : decode cX12_sortOf 7 = .ok (.ifCond .eq 7, 3) := by decide +kernel
theorem dX12_sortOf_10 : decode cX12_sortOf 10 = .ok (.iconst 0, 1) := by decide +kernel
theorem dX12_sortOf_11 : decode cX12_sortOf 11 = .ok (.goto 104, 3) := by decide +kernel
theorem dX12_sortOf_14 : decode cX12_sortOf 14 = .ok (.aload_n 0, 1) := by decide +kernel
theorem dX12_sortOf_15 : decode cX12_sortOf 15 = .ok (.ldc_w 313, 3) := by decide +kernel
theorem dX12_sortOf_18 : decode cX12_sortOf 18 = .ok (.invokevirtual 238, 3) := by decide +kernel
theorem dX12_sortOf_21 : decode cX12_sortOf 21 = .ok (.ifCond .eq 7, 3) := by decide +kernel
theorem dX12_sortOf_24 : decode cX12_sortOf 24 = .ok (.iconst 1, 1) := by decide +kernel
theorem dX12_sortOf_25 : decode cX12_sortOf 25 = .ok (.goto 90, 3) := by decide +kernel
theorem dX12_sortOf_28 : decode cX12_sortOf 28 = .ok (.aload_n 0, 1) := by decide +kernel
theorem dX12_sortOf_29 : decode cX12_sortOf 29 = .ok (.ldc_w 315, 3) := by decide +kernel
theorem dX12_sortOf_32 : decode cX12_sortOf 32 = .ok (.invokevirtual 238, 3) := by decide +kernel
theorem dX12_sortOf_35 : decode cX12_sortOf 35 = .ok (.ifCond .eq 7, 3) := by decide +kernel
theorem dX12_sortOf_38 : decode cX12_sortOf 38 = .ok (.iconst 2, 1) := by decide +kernel
theorem dX12_sortOf_39 : decode cX12_sortOf 39 = .ok (.goto 76, 3) := by decide +kernel
theorem dX12_sortOf_42 : decode cX12_sortOf 42 = .ok (.aload_n 0, 1) := by decide +kernel
theorem dX12_sortOf_43 : decode cX12_sortOf 43 = .ok (.ldc_w 317, 3) := by decide +kernel
theorem dX12_sortOf_46 : decode cX12_sortOf 46 = .ok (.invokevirtual 238, 3) := by decide +kernel
theorem dX12_sortOf_49 : decode cX12_sortOf 49 = .ok (.ifCond .eq 7, 3) := by decide +kernel
theorem dX12_sortOf_52 : decode cX12_sortOf 52 = .ok (.iconst 3, 1) := by decide +kernel
theorem dX12_sortOf_53 : decode cX12_sortOf 53 = .ok (.goto 62, 3) := by decide +kernel
theorem dX12_sortOf_56 : decode cX12_sortOf 56 = .ok (.aload_n 0, 1) := by decide +kernel
theorem dX12_sortOf_57 : decode cX12_sortOf 57 = .ok (.ldc_w 319, 3) := by decide +kernel
theorem dX12_sortOf_60 : decode cX12_sortOf 60 = .ok (.invokevirtual 238, 3) := by decide +kernel
theorem dX12_sortOf_63 : decode cX12_sortOf 63 = .ok (.ifCond .eq 7, 3) := by decide +kernel
theorem dX12_sortOf_66 : decode cX12_sortOf 66 = .ok (.iconst 4, 1) := by decide +kernel
theorem dX12_sortOf_67 : decode cX12_sortOf 67 = .ok (.goto 48, 3) := by decide +kernel
theorem dX12_sortOf_70 : decode cX12_sortOf 70 = .ok (.aload_n 0, 1) := by decide +kernel
theorem dX12_sortOf_71 : decode cX12_sortOf 71 = .ok (.ldc_w 321, 3) := by decide +kernel
theorem dX12_sortOf_74 : decode cX12_sortOf 74 = .ok (.invokevirtual 238, 3) := by decide +kernel
theorem dX12_sortOf_77 : decode cX12_sortOf 77 = .ok (.ifCond .eq 7, 3) := by decide +kernel
theorem dX12_sortOf_80 : decode cX12_sortOf 80 = .ok (.iconst 5, 1) := by decide +kernel
theorem dX12_sortOf_81 : decode cX12_sortOf 81 = .ok (.goto 34, 3) := by decide +kernel
theorem dX12_sortOf_84 : decode cX12_sortOf 84 = .ok (.aload_n 0, 1) := by decide +kernel
theorem dX12_sortOf_85 : decode cX12_sortOf 85 = .ok (.ldc_w 323, 3) := by decide +kernel
theorem dX12_sortOf_88 : decode cX12_sortOf 88 = .ok (.invokevirtual 238, 3) := by decide +kernel
theorem dX12_sortOf_91 : decode cX12_sortOf 91 = .ok (.ifCond .eq 8, 3) := by decide +kernel
theorem dX12_sortOf_94 : decode cX12_sortOf 94 = .ok (.bipush 6, 2) := by decide +kernel
theorem dX12_sortOf_96 : decode cX12_sortOf 96 = .ok (.goto 19, 3) := by decide +kernel
theorem dX12_sortOf_99 : decode cX12_sortOf 99 = .ok (.aload_n 0, 1) := by decide +kernel
theorem dX12_sortOf_100 : decode cX12_sortOf 100 = .ok (.ldc_w 325, 3) := by decide +kernel
theorem dX12_sortOf_103 : decode cX12_sortOf 103 = .ok (.invokevirtual 238, 3) := by decide +kernel
theorem dX12_sortOf_106 : decode cX12_sortOf 106 = .ok (.ifCond .eq 8, 3) := by decide +kernel
theorem dX12_sortOf_109 : decode cX12_sortOf 109 = .ok (.bipush 7, 2) := by decide +kernel
theorem dX12_sortOf_111 : decode cX12_sortOf 111 = .ok (.goto 4, 3) := by decide +kernel
theorem dX12_sortOf_114 : decode cX12_sortOf 114 = .ok (.iconst (-1), 1) := by decide +kernel
theorem dX12_sortOf_115 : decode cX12_sortOf 115 = .ok (.ireturn, 1) := by decide +kernel
noncomputable def o_X12_sortOf (F : Nat) (s : rs_S) : Option (Int32) := (o_X12_isWord F s 14).bind fun x1 => (if x1 = 0 then ((o_X12_isWord F s 15).bind fun x3 => (if x3 = 0 then ((o_X12_isWord F s 16).bind fun x5 => (if x5 = 0 then ((o_X12_isWord F s 17).bind fun x7 => (if x7 = 0 then ((o_X12_isWord F s 18).bind fun x9 => (if x9 = 0 then ((o_X12_isWord F s 19).bind fun x11 => (if x11 = 0 then ((o_X12_isWord F s 20).bind fun x13 => (if x13 = 0 then ((o_X12_isWord F s 21).bind fun x15 => (if x15 = 0 then (some (-1)) else (some (nI 7)))) else (some (nI 6)))) else (some (nI 5)))) else (some (nI 4)))) else (some (nI 3)))) else (some (nI 2)))) else (some (nI 1)))) else (some (nI 0)))
set_option maxHeartbeats 4000000 in
theorem t_X12_sortOf {Γ : jg_G} {g : Nat → jg_C} {n r : Nat} (hr : r + 11 ≤ n) (F : Nat) (s : rs_S)  {x : Int32} (h : o_X12_sortOf F s = some x) : jc Γ mX12_sortOf 5 0 0 [some (.ref r)] (rs_h g r s, n) (.inl (some (.int x))) (rs_h g r s, n) := by
  refine jc_of ?_
  rw [o_X12_sortOf] at h
  refine jg_aload_n dX12_sortOf_0 rfl ?_
  refine jg_ldcws (i := 14) rfl dX12_sortOf_1 ?_
  obtain ⟨x1, e_x1, h⟩ := bd_some h
  refine rs_call (As := [.ref (1000000 + 14)]) kv_X12_238 dX12_sortOf_4 hr rfl rfl (by decide) (Nat.le_of_ble_eq_true rfl) rfl (by decide) (Nat.le_of_ble_eq_true rfl) (t_X12_isWord hr F s 14 e_x1) ?_
  refine jg_if_eq (x := x1) (tgt := 14) dX12_sortOf_7 (by decide) (fun c2 => ?_) (fun c2 => ?_)
  · replace h := it_t c2 h
    refine jg_aload_n dX12_sortOf_14 rfl ?_
    refine jg_ldcws (i := 15) rfl dX12_sortOf_15 ?_
    obtain ⟨x3, e_x3, h⟩ := bd_some h
    refine rs_call (As := [.ref (1000000 + 15)]) kv_X12_238 dX12_sortOf_18 hr rfl rfl (by decide) (Nat.le_of_ble_eq_true rfl) rfl (by decide) (Nat.le_of_ble_eq_true rfl) (t_X12_isWord hr F s 15 e_x3) ?_
    refine jg_if_eq (x := x3) (tgt := 28) dX12_sortOf_21 (by decide) (fun c4 => ?_) (fun c4 => ?_)
    · replace h := it_t c4 h
      refine jg_aload_n dX12_sortOf_28 rfl ?_
      refine jg_ldcws (i := 16) rfl dX12_sortOf_29 ?_
      obtain ⟨x5, e_x5, h⟩ := bd_some h
      refine rs_call (As := [.ref (1000000 + 16)]) kv_X12_238 dX12_sortOf_32 hr rfl rfl (by decide) (Nat.le_of_ble_eq_true rfl) rfl (by decide) (Nat.le_of_ble_eq_true rfl) (t_X12_isWord hr F s 16 e_x5) ?_
      refine jg_if_eq (x := x5) (tgt := 42) dX12_sortOf_35 (by decide) (fun c6 => ?_) (fun c6 => ?_)
      · replace h := it_t c6 h
        refine jg_aload_n dX12_sortOf_42 rfl ?_
        refine jg_ldcws (i := 17) rfl dX12_sortOf_43 ?_
        obtain ⟨x7, e_x7, h⟩ := bd_some h
        refine rs_call (As := [.ref (1000000 + 17)]) kv_X12_238 dX12_sortOf_46 hr rfl rfl (by decide) (Nat.le_of_ble_eq_true rfl) rfl (by decide) (Nat.le_of_ble_eq_true rfl) (t_X12_isWord hr F s 17 e_x7) ?_
        refine jg_if_eq (x := x7) (tgt := 56) dX12_sortOf_49 (by decide) (fun c8 => ?_) (fun c8 => ?_)
        · replace h := it_t c8 h
          refine jg_aload_n dX12_sortOf_56 rfl ?_
          refine jg_ldcws (i := 18) rfl dX12_sortOf_57 ?_
          obtain ⟨x9, e_x9, h⟩ := bd_some h
          refine rs_call (As := [.ref (1000000 + 18)]) kv_X12_238 dX12_sortOf_60 hr rfl rfl (by decide) (Nat.le_of_ble_eq_true rfl) rfl (by decide) (Nat.le_of_ble_eq_true rfl) (t_X12_isWord hr F s 18 e_x9) ?_
          refine jg_if_eq (x := x9) (tgt := 70) dX12_sortOf_63 (by decide) (fun c10 => ?_) (fun c10 => ?_)
          · replace h := it_t c10 h
            refine jg_aload_n dX12_sortOf_70 rfl ?_
            refine jg_ldcws (i := 19) rfl dX12_sortOf_71 ?_
            obtain ⟨x11, e_x11, h⟩ := bd_some h
            refine rs_call (As := [.ref (1000000 + 19)]) kv_X12_238 dX12_sortOf_74 hr rfl rfl (by decide) (Nat.le_of_ble_eq_true rfl) rfl (by decide) (Nat.le_of_ble_eq_true rfl) (t_X12_isWord hr F s 19 e_x11) ?_
            refine jg_if_eq (x := x11) (tgt := 84) dX12_sortOf_77 (by decide) (fun c12 => ?_) (fun c12 => ?_)
            · replace h := it_t c12 h
              refine jg_aload_n dX12_sortOf_84 rfl ?_
              refine jg_ldcws (i := 20) rfl dX12_sortOf_85 ?_
              obtain ⟨x13, e_x13, h⟩ := bd_some h
              refine rs_call (As := [.ref (1000000 + 20)]) kv_X12_238 dX12_sortOf_88 hr rfl rfl (by decide) (Nat.le_of_ble_eq_true rfl) rfl (by decide) (Nat.le_of_ble_eq_true rfl) (t_X12_isWord hr F s 20 e_x13) ?_
              refine jg_if_eq (x := x13) (tgt := 99) dX12_sortOf_91 (by decide) (fun c14 => ?_) (fun c14 => ?_)
              · replace h := it_t c14 h
                refine jg_aload_n dX12_sortOf_99 rfl ?_
                refine jg_ldcws (i := 21) rfl dX12_sortOf_100 ?_
                obtain ⟨x15, e_x15, h⟩ := bd_some h
                refine rs_call (As := [.ref (1000000 + 21)]) kv_X12_238 dX12_sortOf_103 hr rfl rfl (by decide) (Nat.le_of_ble_eq_true rfl) rfl (by decide) (Nat.le_of_ble_eq_true rfl) (t_X12_isWord hr F s 21 e_x15) ?_
                refine jg_if_eq (x := x15) (tgt := 114) dX12_sortOf_106 (by decide) (fun c16 => ?_) (fun c16 => ?_)
                · replace h := it_t c16 h
                  refine jg_iconst (v := (-1)) dX12_sortOf_114 (by decide) ?_
                  obtain rfl := Option.some.inj h
                  exact jg_ireturn dX12_sortOf_115 rfl ⟨rfl, rfl⟩
                · replace h := it_f c16 h
                  refine jg_bipush (v := nI 7) dX12_sortOf_109 (by decide) ?_
                  refine jg_goto (tgt := 115) dX12_sortOf_111 (by decide) ?_
                  obtain rfl := Option.some.inj h
                  exact jg_ireturn dX12_sortOf_115 rfl ⟨rfl, rfl⟩
              · replace h := it_f c14 h
                refine jg_bipush (v := nI 6) dX12_sortOf_94 (by decide) ?_
                refine jg_goto (tgt := 115) dX12_sortOf_96 (by decide) ?_
                obtain rfl := Option.some.inj h
                exact jg_ireturn dX12_sortOf_115 rfl ⟨rfl, rfl⟩
            · replace h := it_f c12 h
              refine jg_iconst (v := nI 5) dX12_sortOf_80 (by decide) ?_
              refine jg_goto (tgt := 115) dX12_sortOf_81 (by decide) ?_
              obtain rfl := Option.some.inj h
              exact jg_ireturn dX12_sortOf_115 rfl ⟨rfl, rfl⟩
          · replace h := it_f c10 h
            refine jg_iconst (v := nI 4) dX12_sortOf_66 (by decide) ?_
            refine jg_goto (tgt := 115) dX12_sortOf_67 (by decide) ?_
            obtain rfl := Option.some.inj h
            exact jg_ireturn dX12_sortOf_115 rfl ⟨rfl, rfl⟩
        · replace h := it_f c8 h
          refine jg_iconst (v := nI 3) dX12_sortOf_52 (by decide) ?_
          refine jg_goto (tgt := 115) dX12_sortOf_53 (by decide) ?_
          obtain rfl := Option.some.inj h
          exact jg_ireturn dX12_sortOf_115 rfl ⟨rfl, rfl⟩
      · replace h := it_f c6 h
        refine jg_iconst (v := nI 2) dX12_sortOf_38 (by decide) ?_
        refine jg_goto (tgt := 115) dX12_sortOf_39 (by decide) ?_
        obtain rfl := Option.some.inj h
        exact jg_ireturn dX12_sortOf_115 rfl ⟨rfl, rfl⟩
    · replace h := it_f c4 h
      refine jg_iconst (v := nI 1) dX12_sortOf_24 (by decide) ?_
      refine jg_goto (tgt := 115) dX12_sortOf_25 (by decide) ?_
      obtain rfl := Option.some.inj h
      exact jg_ireturn dX12_sortOf_115 rfl ⟨rfl, rfl⟩
  · replace h := it_f c2 h
    refine jg_iconst (v := nI 0) dX12_sortOf_10 (by decide) ?_
    refine jg_goto (tgt := 115) dX12_sortOf_11 (by decide) ?_
    obtain rfl := Option.some.inj h
    exact jg_ireturn dX12_sortOf_115 rfl ⟨rfl, rfl⟩
theorem dX12_wordOf_0 : decode cX12_wordOf 0 = .ok (.aload_n 0, 1) := by decide +kernel
theorem dX12_wordOf_1 : decode cX12_wordOf 1 = .ok (.ldc 248, 2) := by decide +kernel
theorem dX12_wordOf_3 : decode cX12_wordOf 3 = .ok (.invokevirtual 238, 3) := by decide +kernel
theorem dX12_wordOf_6 : decode cX12_wordOf 6 = .ok (.ifCond .eq 7, 3) := by decide +kernel
theorem dX12_wordOf_9 : decode cX12_wordOf 9 = .ok (.iconst 0, 1) := by decide +kernel
theorem dX12_wordOf_10 : decode cX12_wordOf 10 = .ok (.goto 86, 3) := by decide +kernel
theorem dX12_wordOf_13 : decode cX12_wordOf 13 = .ok (.aload_n 0, 1) := by decide +kernel
theorem dX12_wordOf_14 : decode cX12_wordOf 14 = .ok (.ldc 250, 2) := by decide +kernel
theorem dX12_wordOf_16 : decode cX12_wordOf 16 = .ok (.invokevirtual 238, 3) := by decide +kernel
theorem dX12_wordOf_19 : decode cX12_wordOf 19 = .ok (.ifCond .eq 7, 3) := by decide +kernel
theorem dX12_wordOf_22 : decode cX12_wordOf 22 = .ok (.iconst 1, 1) := by decide +kernel
theorem dX12_wordOf_23 : decode cX12_wordOf 23 = .ok (.goto 73, 3) := by decide +kernel
theorem dX12_wordOf_26 : decode cX12_wordOf 26 = .ok (.aload_n 0, 1) := by decide +kernel
theorem dX12_wordOf_27 : decode cX12_wordOf 27 = .ok (.ldc 252, 2) := by decide +kernel
theorem dX12_wordOf_29 : decode cX12_wordOf 29 = .ok (.invokevirtual 238, 3) := by decide +kernel
theorem dX12_wordOf_32 : decode cX12_wordOf 32 = .ok (.ifCond .eq 7, 3) := by decide +kernel
theorem dX12_wordOf_35 : decode cX12_wordOf 35 = .ok (.iconst 2, 1) := by decide +kernel
theorem dX12_wordOf_36 : decode cX12_wordOf 36 = .ok (.goto 60, 3) := by decide +kernel
theorem dX12_wordOf_39 : decode cX12_wordOf 39 = .ok (.aload_n 0, 1) := by decide +kernel
theorem dX12_wordOf_40 : decode cX12_wordOf 40 = .ok (.ldc 254, 2) := by decide +kernel
theorem dX12_wordOf_42 : decode cX12_wordOf 42 = .ok (.invokevirtual 238, 3) := by decide +kernel
theorem dX12_wordOf_45 : decode cX12_wordOf 45 = .ok (.ifCond .eq 7, 3) := by decide +kernel
theorem dX12_wordOf_48 : decode cX12_wordOf 48 = .ok (.iconst 3, 1) := by decide +kernel
theorem dX12_wordOf_49 : decode cX12_wordOf 49 = .ok (.goto 47, 3) := by decide +kernel
theorem dX12_wordOf_52 : decode cX12_wordOf 52 = .ok (.aload_n 0, 1) := by decide +kernel
theorem dX12_wordOf_53 : decode cX12_wordOf 53 = .ok (.ldc_w 256, 3) := by decide +kernel
theorem dX12_wordOf_56 : decode cX12_wordOf 56 = .ok (.invokevirtual 238, 3) := by decide +kernel
theorem dX12_wordOf_59 : decode cX12_wordOf 59 = .ok (.ifCond .eq 7, 3) := by decide +kernel
theorem dX12_wordOf_62 : decode cX12_wordOf 62 = .ok (.iconst 4, 1) := by decide +kernel
theorem dX12_wordOf_63 : decode cX12_wordOf 63 = .ok (.goto 33, 3) := by decide +kernel
theorem dX12_wordOf_66 : decode cX12_wordOf 66 = .ok (.aload_n 0, 1) := by decide +kernel
theorem dX12_wordOf_67 : decode cX12_wordOf 67 = .ok (.ldc_w 258, 3) := by decide +kernel
theorem dX12_wordOf_70 : decode cX12_wordOf 70 = .ok (.invokevirtual 238, 3) := by decide +kernel
theorem dX12_wordOf_73 : decode cX12_wordOf 73 = .ok (.ifCond .eq 7, 3) := by decide +kernel
theorem dX12_wordOf_76 : decode cX12_wordOf 76 = .ok (.iconst 5, 1) := by decide +kernel
theorem dX12_wordOf_77 : decode cX12_wordOf 77 = .ok (.goto 19, 3) := by decide +kernel
theorem dX12_wordOf_80 : decode cX12_wordOf 80 = .ok (.aload_n 0, 1) := by decide +kernel
theorem dX12_wordOf_81 : decode cX12_wordOf 81 = .ok (.ldc_w 260, 3) := by decide +kernel
theorem dX12_wordOf_84 : decode cX12_wordOf 84 = .ok (.invokevirtual 238, 3) := by decide +kernel
theorem dX12_wordOf_87 : decode cX12_wordOf 87 = .ok (.ifCond .eq 8, 3) := by decide +kernel
theorem dX12_wordOf_90 : decode cX12_wordOf 90 = .ok (.bipush 6, 2) := by decide +kernel
theorem dX12_wordOf_92 : decode cX12_wordOf 92 = .ok (.goto 4, 3) := by decide +kernel
theorem dX12_wordOf_95 : decode cX12_wordOf 95 = .ok (.iconst (-1), 1) := by decide +kernel
theorem dX12_wordOf_96 : decode cX12_wordOf 96 = .ok (.ireturn, 1) := by decide +kernel
noncomputable def o_X12_wordOf (F : Nat) (s : rs_S) : Option (Int32) := (o_X12_isWord F s 29).bind fun x1 => (if x1 = 0 then ((o_X12_isWord F s 30).bind fun x3 => (if x3 = 0 then ((o_X12_isWord F s 31).bind fun x5 => (if x5 = 0 then ((o_X12_isWord F s 32).bind fun x7 => (if x7 = 0 then ((o_X12_isWord F s 33).bind fun x9 => (if x9 = 0 then ((o_X12_isWord F s 34).bind fun x11 => (if x11 = 0 then ((o_X12_isWord F s 35).bind fun x13 => (if x13 = 0 then (some (-1)) else (some (nI 6)))) else (some (nI 5)))) else (some (nI 4)))) else (some (nI 3)))) else (some (nI 2)))) else (some (nI 1)))) else (some (nI 0)))
set_option maxHeartbeats 4000000 in
theorem t_X12_wordOf {Γ : jg_G} {g : Nat → jg_C} {n r : Nat} (hr : r + 11 ≤ n) (F : Nat) (s : rs_S)  {x : Int32} (h : o_X12_wordOf F s = some x) : jc Γ mX12_wordOf 5 0 0 [some (.ref r)] (rs_h g r s, n) (.inl (some (.int x))) (rs_h g r s, n) := by
  refine jc_of ?_
  rw [o_X12_wordOf] at h
  refine jg_aload_n dX12_wordOf_0 rfl ?_
  refine jg_ldcs (i := 29) rfl dX12_wordOf_1 ?_
  obtain ⟨x1, e_x1, h⟩ := bd_some h
  refine rs_call (As := [.ref (1000000 + 29)]) kv_X12_238 dX12_wordOf_3 hr rfl rfl (by decide) (Nat.le_of_ble_eq_true rfl) rfl (by decide) (Nat.le_of_ble_eq_true rfl) (t_X12_isWord hr F s 29 e_x1) ?_
  refine jg_if_eq (x := x1) (tgt := 13) dX12_wordOf_6 (by decide) (fun c2 => ?_) (fun c2 => ?_)
  · replace h := it_t c2 h
    refine jg_aload_n dX12_wordOf_13 rfl ?_
    refine jg_ldcs (i := 30) rfl dX12_wordOf_14 ?_
    obtain ⟨x3, e_x3, h⟩ := bd_some h
    refine rs_call (As := [.ref (1000000 + 30)]) kv_X12_238 dX12_wordOf_16 hr rfl rfl (by decide) (Nat.le_of_ble_eq_true rfl) rfl (by decide) (Nat.le_of_ble_eq_true rfl) (t_X12_isWord hr F s 30 e_x3) ?_
    refine jg_if_eq (x := x3) (tgt := 26) dX12_wordOf_19 (by decide) (fun c4 => ?_) (fun c4 => ?_)
    · replace h := it_t c4 h
      refine jg_aload_n dX12_wordOf_26 rfl ?_
      refine jg_ldcs (i := 31) rfl dX12_wordOf_27 ?_
      obtain ⟨x5, e_x5, h⟩ := bd_some h
      refine rs_call (As := [.ref (1000000 + 31)]) kv_X12_238 dX12_wordOf_29 hr rfl rfl (by decide) (Nat.le_of_ble_eq_true rfl) rfl (by decide) (Nat.le_of_ble_eq_true rfl) (t_X12_isWord hr F s 31 e_x5) ?_
      refine jg_if_eq (x := x5) (tgt := 39) dX12_wordOf_32 (by decide) (fun c6 => ?_) (fun c6 => ?_)
      · replace h := it_t c6 h
        refine jg_aload_n dX12_wordOf_39 rfl ?_
        refine jg_ldcs (i := 32) rfl dX12_wordOf_40 ?_
        obtain ⟨x7, e_x7, h⟩ := bd_some h
        refine rs_call (As := [.ref (1000000 + 32)]) kv_X12_238 dX12_wordOf_42 hr rfl rfl (by decide) (Nat.le_of_ble_eq_true rfl) rfl (by decide) (Nat.le_of_ble_eq_true rfl) (t_X12_isWord hr F s 32 e_x7) ?_
        refine jg_if_eq (x := x7) (tgt := 52) dX12_wordOf_45 (by decide) (fun c8 => ?_) (fun c8 => ?_)
        · replace h := it_t c8 h
          refine jg_aload_n dX12_wordOf_52 rfl ?_
          refine jg_ldcws (i := 33) rfl dX12_wordOf_53 ?_
          obtain ⟨x9, e_x9, h⟩ := bd_some h
          refine rs_call (As := [.ref (1000000 + 33)]) kv_X12_238 dX12_wordOf_56 hr rfl rfl (by decide) (Nat.le_of_ble_eq_true rfl) rfl (by decide) (Nat.le_of_ble_eq_true rfl) (t_X12_isWord hr F s 33 e_x9) ?_
          refine jg_if_eq (x := x9) (tgt := 66) dX12_wordOf_59 (by decide) (fun c10 => ?_) (fun c10 => ?_)
          · replace h := it_t c10 h
            refine jg_aload_n dX12_wordOf_66 rfl ?_
            refine jg_ldcws (i := 34) rfl dX12_wordOf_67 ?_
            obtain ⟨x11, e_x11, h⟩ := bd_some h
            refine rs_call (As := [.ref (1000000 + 34)]) kv_X12_238 dX12_wordOf_70 hr rfl rfl (by decide) (Nat.le_of_ble_eq_true rfl) rfl (by decide) (Nat.le_of_ble_eq_true rfl) (t_X12_isWord hr F s 34 e_x11) ?_
            refine jg_if_eq (x := x11) (tgt := 80) dX12_wordOf_73 (by decide) (fun c12 => ?_) (fun c12 => ?_)
            · replace h := it_t c12 h
              refine jg_aload_n dX12_wordOf_80 rfl ?_
              refine jg_ldcws (i := 35) rfl dX12_wordOf_81 ?_
              obtain ⟨x13, e_x13, h⟩ := bd_some h
              refine rs_call (As := [.ref (1000000 + 35)]) kv_X12_238 dX12_wordOf_84 hr rfl rfl (by decide) (Nat.le_of_ble_eq_true rfl) rfl (by decide) (Nat.le_of_ble_eq_true rfl) (t_X12_isWord hr F s 35 e_x13) ?_
              refine jg_if_eq (x := x13) (tgt := 95) dX12_wordOf_87 (by decide) (fun c14 => ?_) (fun c14 => ?_)
              · replace h := it_t c14 h
                refine jg_iconst (v := (-1)) dX12_wordOf_95 (by decide) ?_
                obtain rfl := Option.some.inj h
                exact jg_ireturn dX12_wordOf_96 rfl ⟨rfl, rfl⟩
              · replace h := it_f c14 h
                refine jg_bipush (v := nI 6) dX12_wordOf_90 (by decide) ?_
                refine jg_goto (tgt := 96) dX12_wordOf_92 (by decide) ?_
                obtain rfl := Option.some.inj h
                exact jg_ireturn dX12_wordOf_96 rfl ⟨rfl, rfl⟩
            · replace h := it_f c12 h
              refine jg_iconst (v := nI 5) dX12_wordOf_76 (by decide) ?_
              refine jg_goto (tgt := 96) dX12_wordOf_77 (by decide) ?_
              obtain rfl := Option.some.inj h
              exact jg_ireturn dX12_wordOf_96 rfl ⟨rfl, rfl⟩
          · replace h := it_f c10 h
            refine jg_iconst (v := nI 4) dX12_wordOf_62 (by decide) ?_
            refine jg_goto (tgt := 96) dX12_wordOf_63 (by decide) ?_
            obtain rfl := Option.some.inj h
            exact jg_ireturn dX12_wordOf_96 rfl ⟨rfl, rfl⟩
        · replace h := it_f c8 h
          refine jg_iconst (v := nI 3) dX12_wordOf_48 (by decide) ?_
          refine jg_goto (tgt := 96) dX12_wordOf_49 (by decide) ?_
          obtain rfl := Option.some.inj h
          exact jg_ireturn dX12_wordOf_96 rfl ⟨rfl, rfl⟩
      · replace h := it_f c6 h
        refine jg_iconst (v := nI 2) dX12_wordOf_35 (by decide) ?_
        refine jg_goto (tgt := 96) dX12_wordOf_36 (by decide) ?_
        obtain rfl := Option.some.inj h
        exact jg_ireturn dX12_wordOf_96 rfl ⟨rfl, rfl⟩
    · replace h := it_f c4 h
      refine jg_iconst (v := nI 1) dX12_wordOf_22 (by decide) ?_
      refine jg_goto (tgt := 96) dX12_wordOf_23 (by decide) ?_
      obtain rfl := Option.some.inj h
      exact jg_ireturn dX12_wordOf_96 rfl ⟨rfl, rfl⟩
  · replace h := it_f c2 h
    refine jg_iconst (v := nI 0) dX12_wordOf_9 (by decide) ?_
    refine jg_goto (tgt := 96) dX12_wordOf_10 (by decide) ?_
    obtain rfl := Option.some.inj h
    exact jg_ireturn dX12_wordOf_96 rfl ⟨rfl, rfl⟩
theorem dX12_factOf_0 : decode cX12_factOf 0 = .ok (.aload_n 0, 1) := by decide +kernel
theorem dX12_factOf_1 : decode cX12_factOf 1 = .ok (.ldc_w 262, 3) := by decide +kernel
theorem dX12_factOf_4 : decode cX12_factOf 4 = .ok (.invokevirtual 238, 3) := by decide +kernel
theorem dX12_factOf_7 : decode cX12_factOf 7 = .ok (.ifCond .eq 7, 3) := by decide +kernel
theorem dX12_factOf_10 : decode cX12_factOf 10 = .ok (.iconst 0, 1) := by decide +kernel
theorem dX12_factOf_11 : decode cX12_factOf 11 = .ok (.goto 60, 3) := by decide +kernel
theorem dX12_factOf_14 : decode cX12_factOf 14 = .ok (.aload_n 0, 1) := by decide +kernel
theorem dX12_factOf_15 : decode cX12_factOf 15 = .ok (.ldc_w 264, 3) := by decide +kernel
theorem dX12_factOf_18 : decode cX12_factOf 18 = .ok (.invokevirtual 238, 3) := by decide +kernel
theorem dX12_factOf_21 : decode cX12_factOf 21 = .ok (.ifCond .eq 7, 3) := by decide +kernel
theorem dX12_factOf_24 : decode cX12_factOf 24 = .ok (.iconst 1, 1) := by decide +kernel
theorem dX12_factOf_25 : decode cX12_factOf 25 = .ok (.goto 46, 3) := by decide +kernel
theorem dX12_factOf_28 : decode cX12_factOf 28 = .ok (.aload_n 0, 1) := by decide +kernel
theorem dX12_factOf_29 : decode cX12_factOf 29 = .ok (.ldc_w 266, 3) := by decide +kernel
theorem dX12_factOf_32 : decode cX12_factOf 32 = .ok (.invokevirtual 238, 3) := by decide +kernel
theorem dX12_factOf_35 : decode cX12_factOf 35 = .ok (.ifCond .eq 7, 3) := by decide +kernel
theorem dX12_factOf_38 : decode cX12_factOf 38 = .ok (.iconst 2, 1) := by decide +kernel
theorem dX12_factOf_39 : decode cX12_factOf 39 = .ok (.goto 32, 3) := by decide +kernel
theorem dX12_factOf_42 : decode cX12_factOf 42 = .ok (.aload_n 0, 1) := by decide +kernel
theorem dX12_factOf_43 : decode cX12_factOf 43 = .ok (.ldc_w 268, 3) := by decide +kernel
theorem dX12_factOf_46 : decode cX12_factOf 46 = .ok (.invokevirtual 238, 3) := by decide +kernel
theorem dX12_factOf_49 : decode cX12_factOf 49 = .ok (.ifCond .eq 7, 3) := by decide +kernel
theorem dX12_factOf_52 : decode cX12_factOf 52 = .ok (.iconst 3, 1) := by decide +kernel
theorem dX12_factOf_53 : decode cX12_factOf 53 = .ok (.goto 18, 3) := by decide +kernel
theorem dX12_factOf_56 : decode cX12_factOf 56 = .ok (.aload_n 0, 1) := by decide +kernel
theorem dX12_factOf_57 : decode cX12_factOf 57 = .ok (.ldc_w 270, 3) := by decide +kernel
theorem dX12_factOf_60 : decode cX12_factOf 60 = .ok (.invokevirtual 238, 3) := by decide +kernel
theorem dX12_factOf_63 : decode cX12_factOf 63 = .ok (.ifCond .eq 7, 3) := by decide +kernel
theorem dX12_factOf_66 : decode cX12_factOf 66 = .ok (.iconst 4, 1) := by decide +kernel
theorem dX12_factOf_67 : decode cX12_factOf 67 = .ok (.goto 4, 3) := by decide +kernel
theorem dX12_factOf_70 : decode cX12_factOf 70 = .ok (.iconst (-1), 1) := by decide +kernel
theorem dX12_factOf_71 : decode cX12_factOf 71 = .ok (.ireturn, 1) := by decide +kernel
noncomputable def o_X12_factOf (F : Nat) (s : rs_S) : Option (Int32) := (o_X12_isWord F s 23).bind fun x1 => (if x1 = 0 then ((o_X12_isWord F s 24).bind fun x3 => (if x3 = 0 then ((o_X12_isWord F s 36).bind fun x5 => (if x5 = 0 then ((o_X12_isWord F s 37).bind fun x7 => (if x7 = 0 then ((o_X12_isWord F s 38).bind fun x9 => (if x9 = 0 then (some (-1)) else (some (nI 4)))) else (some (nI 3)))) else (some (nI 2)))) else (some (nI 1)))) else (some (nI 0)))
set_option maxHeartbeats 4000000 in
theorem t_X12_factOf {Γ : jg_G} {g : Nat → jg_C} {n r : Nat} (hr : r + 11 ≤ n) (F : Nat) (s : rs_S)  {x : Int32} (h : o_X12_factOf F s = some x) : jc Γ mX12_factOf 5 0 0 [some (.ref r)] (rs_h g r s, n) (.inl (some (.int x))) (rs_h g r s, n) := by
  refine jc_of ?_
  rw [o_X12_factOf] at h
  refine jg_aload_n dX12_factOf_0 rfl ?_
  refine jg_ldcws (i := 23) rfl dX12_factOf_1 ?_
  obtain ⟨x1, e_x1, h⟩ := bd_some h
  refine rs_call (As := [.ref (1000000 + 23)]) kv_X12_238 dX12_factOf_4 hr rfl rfl (by decide) (Nat.le_of_ble_eq_true rfl) rfl (by decide) (Nat.le_of_ble_eq_true rfl) (t_X12_isWord hr F s 23 e_x1) ?_
  refine jg_if_eq (x := x1) (tgt := 14) dX12_factOf_7 (by decide) (fun c2 => ?_) (fun c2 => ?_)
  · replace h := it_t c2 h
    refine jg_aload_n dX12_factOf_14 rfl ?_
    refine jg_ldcws (i := 24) rfl dX12_factOf_15 ?_
    obtain ⟨x3, e_x3, h⟩ := bd_some h
    refine rs_call (As := [.ref (1000000 + 24)]) kv_X12_238 dX12_factOf_18 hr rfl rfl (by decide) (Nat.le_of_ble_eq_true rfl) rfl (by decide) (Nat.le_of_ble_eq_true rfl) (t_X12_isWord hr F s 24 e_x3) ?_
    refine jg_if_eq (x := x3) (tgt := 28) dX12_factOf_21 (by decide) (fun c4 => ?_) (fun c4 => ?_)
    · replace h := it_t c4 h
      refine jg_aload_n dX12_factOf_28 rfl ?_
      refine jg_ldcws (i := 36) rfl dX12_factOf_29 ?_
      obtain ⟨x5, e_x5, h⟩ := bd_some h
      refine rs_call (As := [.ref (1000000 + 36)]) kv_X12_238 dX12_factOf_32 hr rfl rfl (by decide) (Nat.le_of_ble_eq_true rfl) rfl (by decide) (Nat.le_of_ble_eq_true rfl) (t_X12_isWord hr F s 36 e_x5) ?_
      refine jg_if_eq (x := x5) (tgt := 42) dX12_factOf_35 (by decide) (fun c6 => ?_) (fun c6 => ?_)
      · replace h := it_t c6 h
        refine jg_aload_n dX12_factOf_42 rfl ?_
        refine jg_ldcws (i := 37) rfl dX12_factOf_43 ?_
        obtain ⟨x7, e_x7, h⟩ := bd_some h
        refine rs_call (As := [.ref (1000000 + 37)]) kv_X12_238 dX12_factOf_46 hr rfl rfl (by decide) (Nat.le_of_ble_eq_true rfl) rfl (by decide) (Nat.le_of_ble_eq_true rfl) (t_X12_isWord hr F s 37 e_x7) ?_
        refine jg_if_eq (x := x7) (tgt := 56) dX12_factOf_49 (by decide) (fun c8 => ?_) (fun c8 => ?_)
        · replace h := it_t c8 h
          refine jg_aload_n dX12_factOf_56 rfl ?_
          refine jg_ldcws (i := 38) rfl dX12_factOf_57 ?_
          obtain ⟨x9, e_x9, h⟩ := bd_some h
          refine rs_call (As := [.ref (1000000 + 38)]) kv_X12_238 dX12_factOf_60 hr rfl rfl (by decide) (Nat.le_of_ble_eq_true rfl) rfl (by decide) (Nat.le_of_ble_eq_true rfl) (t_X12_isWord hr F s 38 e_x9) ?_
          refine jg_if_eq (x := x9) (tgt := 70) dX12_factOf_63 (by decide) (fun c10 => ?_) (fun c10 => ?_)
          · replace h := it_t c10 h
            refine jg_iconst (v := (-1)) dX12_factOf_70 (by decide) ?_
            obtain rfl := Option.some.inj h
            exact jg_ireturn dX12_factOf_71 rfl ⟨rfl, rfl⟩
          · replace h := it_f c10 h
            refine jg_iconst (v := nI 4) dX12_factOf_66 (by decide) ?_
            refine jg_goto (tgt := 71) dX12_factOf_67 (by decide) ?_
            obtain rfl := Option.some.inj h
            exact jg_ireturn dX12_factOf_71 rfl ⟨rfl, rfl⟩
        · replace h := it_f c8 h
          refine jg_iconst (v := nI 3) dX12_factOf_52 (by decide) ?_
          refine jg_goto (tgt := 71) dX12_factOf_53 (by decide) ?_
          obtain rfl := Option.some.inj h
          exact jg_ireturn dX12_factOf_71 rfl ⟨rfl, rfl⟩
      · replace h := it_f c6 h
        refine jg_iconst (v := nI 2) dX12_factOf_38 (by decide) ?_
        refine jg_goto (tgt := 71) dX12_factOf_39 (by decide) ?_
        obtain rfl := Option.some.inj h
        exact jg_ireturn dX12_factOf_71 rfl ⟨rfl, rfl⟩
    · replace h := it_f c4 h
      refine jg_iconst (v := nI 1) dX12_factOf_24 (by decide) ?_
      refine jg_goto (tgt := 71) dX12_factOf_25 (by decide) ?_
      obtain rfl := Option.some.inj h
      exact jg_ireturn dX12_factOf_71 rfl ⟨rfl, rfl⟩
  · replace h := it_f c2 h
    refine jg_iconst (v := nI 0) dX12_factOf_10 (by decide) ?_
    refine jg_goto (tgt := 71) dX12_factOf_11 (by decide) ?_
    obtain rfl := Option.some.inj h
    exact jg_ireturn dX12_factOf_71 rfl ⟨rfl, rfl⟩
theorem dX12_passes_0 : decode cX12_passes 0 = .ok (.aload_n 0, 1) := by decide +kernel
theorem dX12_passes_1 : decode cX12_passes 1 = .ok (.invokevirtual 235, 3) := by decide +kernel
theorem dX12_passes_4 : decode cX12_passes 4 = .ok (.aload_n 0, 1) := by decide +kernel
theorem dX12_passes_5 : decode cX12_passes 5 = .ok (.aload_n 1, 1) := by decide +kernel
theorem dX12_passes_6 : decode cX12_passes 6 = .ok (.invokevirtual 238, 3) := by decide +kernel
theorem dX12_passes_9 : decode cX12_passes 9 = .ok (.ifCond .eq 5, 3) := by decide +kernel
theorem dX12_passes_12 : decode cX12_passes 12 = .ok (.iconst 1, 1) := by decide +kernel
theorem dX12_passes_13 : decode cX12_passes 13 = .ok (.ireturn, 1) := by decide +kernel
theorem dX12_passes_14 : decode cX12_passes 14 = .ok (.aload_n 0, 1) := by decide +kernel
theorem dX12_passes_15 : decode cX12_passes 15 = .ok (.aload_n 0, 1) := by decide +kernel
theorem dX12_passes_16 : decode cX12_passes 16 = .ok (.getfield 220, 3) := by decide +kernel
theorem dX12_passes_19 : decode cX12_passes 19 = .ok (.putfield 211, 3) := by decide +kernel
theorem dX12_passes_22 : decode cX12_passes 22 = .ok (.iconst 0, 1) := by decide +kernel
theorem dX12_passes_23 : decode cX12_passes 23 = .ok (.ireturn, 1) := by decide +kernel
noncomputable def o_X12_passes (F : Nat) (s : rs_S) (a1 : Nat) : Option (Int32 × rs_S) := (o_X12_word F s).bind fun x1 => ((o_X12_isWord F x1 a1).bind fun x2 => (if x2 = 0 then (some (nI 0, pN x1 9 (x1.1 11))) else (some (nI 1, x1))))
set_option maxHeartbeats 4000000 in
theorem t_X12_passes {Γ : jg_G} {g : Nat → jg_C} {n r : Nat} (hr : r + 11 ≤ n) (F : Nat) (s : rs_S) (a1 : Nat)  {x : Int32 × rs_S} (h : o_X12_passes F s a1 = some x) : jc Γ mX12_passes 5 0 0 [some (.ref r), some (.ref (1000000 + a1))] (rs_h g r s, n) (.inl (some (.int x.1))) (rs_h g r x.2, n) := by
  refine jc_of ?_
  rw [o_X12_passes] at h
  refine jg_aload_n dX12_passes_0 rfl ?_
  obtain ⟨x1, e_x1, h⟩ := bd_some h
  refine rs_call (As := []) kv_X12_235 dX12_passes_1 hr rfl rfl (by decide) (Nat.le_of_ble_eq_true rfl) rfl (by decide) (Nat.le_of_ble_eq_true rfl) (t_X12_word hr F s e_x1) ?_
  refine jg_aload_n dX12_passes_4 rfl ?_
  refine jg_aload_n dX12_passes_5 rfl ?_
  obtain ⟨x2, e_x2, h⟩ := bd_some h
  refine rs_call (As := [.ref (1000000 + a1)]) kv_X12_238 dX12_passes_6 hr rfl rfl (by decide) (Nat.le_of_ble_eq_true rfl) rfl (by decide) (Nat.le_of_ble_eq_true rfl) (t_X12_isWord hr F x1 a1 e_x2) ?_
  refine jg_if_eq (x := x2) (tgt := 14) dX12_passes_9 (by decide) (fun c3 => ?_) (fun c3 => ?_)
  · replace h := it_t c3 h
    refine jg_aload_n dX12_passes_14 rfl ?_
    refine jg_aload_n dX12_passes_15 rfl ?_
    refine rs_ga fl_X12_220 dX12_passes_16 hr rfl ?_
    refine rs_putD (s := x1) (k := 9) (x := (x1.1 11)) fl_X12_211 dX12_passes_19 hr (by decide) (rfl) rfl rfl ?_
    refine jg_iconst (v := nI 0) dX12_passes_22 (by decide) ?_
    obtain rfl := Option.some.inj h
    exact jg_zreturn dX12_passes_23 rfl (rfl) ⟨rfl, rfl⟩
  · replace h := it_f c3 h
    refine jg_iconst (v := nI 1) dX12_passes_12 (by decide) ?_
    obtain rfl := Option.some.inj h
    exact jg_zreturn dX12_passes_13 rfl (rfl) ⟨rfl, rfl⟩
theorem dX12_readTurn_0 : decode cX12_readTurn 0 = .ok (.aload_n 0, 1) := by decide +kernel
theorem dX12_readTurn_1 : decode cX12_readTurn 1 = .ok (.invokevirtual 235, 3) := by decide +kernel
theorem dX12_readTurn_4 : decode cX12_readTurn 4 = .ok (.aload_n 0, 1) := by decide +kernel
theorem dX12_readTurn_5 : decode cX12_readTurn 5 = .ok (.ldc_w 327, 3) := by decide +kernel
theorem dX12_readTurn_8 : decode cX12_readTurn 8 = .ok (.invokevirtual 238, 3) := by decide +kernel
theorem dX12_readTurn_11 : decode cX12_readTurn 11 = .ok (.ifCond .eq 7, 3) := by decide +kernel
theorem dX12_readTurn_14 : decode cX12_readTurn 14 = .ok (.iconst 0, 1) := by decide +kernel
theorem dX12_readTurn_15 : decode cX12_readTurn 15 = .ok (.goto 46, 3) := by decide +kernel
theorem dX12_readTurn_18 : decode cX12_readTurn 18 = .ok (.aload_n 0, 1) := by decide +kernel
theorem dX12_readTurn_19 : decode cX12_readTurn 19 = .ok (.ldc_w 262, 3) := by decide +kernel
theorem dX12_readTurn_22 : decode cX12_readTurn 22 = .ok (.invokevirtual 238, 3) := by decide +kernel
theorem dX12_readTurn_25 : decode cX12_readTurn 25 = .ok (.ifCond .eq 7, 3) := by decide +kernel
theorem dX12_readTurn_28 : decode cX12_readTurn 28 = .ok (.iconst 1, 1) := by decide +kernel
theorem dX12_readTurn_29 : decode cX12_readTurn 29 = .ok (.goto 32, 3) := by decide +kernel
theorem dX12_readTurn_32 : decode cX12_readTurn 32 = .ok (.aload_n 0, 1) := by decide +kernel
theorem dX12_readTurn_33 : decode cX12_readTurn 33 = .ok (.ldc_w 264, 3) := by decide +kernel
theorem dX12_readTurn_36 : decode cX12_readTurn 36 = .ok (.invokevirtual 238, 3) := by decide +kernel
theorem dX12_readTurn_39 : decode cX12_readTurn 39 = .ok (.ifCond .eq 7, 3) := by decide +kernel
theorem dX12_readTurn_42 : decode cX12_readTurn 42 = .ok (.iconst 2, 1) := by decide +kernel
theorem dX12_readTurn_43 : decode cX12_readTurn 43 = .ok (.goto 18, 3) := by decide +kernel
theorem dX12_readTurn_46 : decode cX12_readTurn 46 = .ok (.aload_n 0, 1) := by decide +kernel
theorem dX12_readTurn_47 : decode cX12_readTurn 47 = .ok (.ldc_w 329, 3) := by decide +kernel
theorem dX12_readTurn_50 : decode cX12_readTurn 50 = .ok (.invokevirtual 238, 3) := by decide +kernel
theorem dX12_readTurn_53 : decode cX12_readTurn 53 = .ok (.ifCond .eq 7, 3) := by decide +kernel
theorem dX12_readTurn_56 : decode cX12_readTurn 56 = .ok (.iconst 3, 1) := by decide +kernel
theorem dX12_readTurn_57 : decode cX12_readTurn 57 = .ok (.goto 4, 3) := by decide +kernel
theorem dX12_readTurn_60 : decode cX12_readTurn 60 = .ok (.iconst (-1), 1) := by decide +kernel
theorem dX12_readTurn_61 : decode cX12_readTurn 61 = .ok (.istore_n 2, 1) := by decide +kernel
theorem dX12_readTurn_62 : decode cX12_readTurn 62 = .ok (.iload_n 2, 1) := by decide +kernel
theorem dX12_readTurn_63 : decode cX12_readTurn 63 = .ok (.ifCond .ge 5, 3) := by decide +kernel
theorem dX12_readTurn_66 : decode cX12_readTurn 66 = .ok (.iconst 0, 1) := by decide +kernel
theorem dX12_readTurn_67 : decode cX12_readTurn 67 = .ok (.ireturn, 1) := by decide +kernel
theorem dX12_readTurn_68 : decode cX12_readTurn 68 = .ok (.aload_n 0, 1) := by decide +kernel
theorem dX12_readTurn_69 : decode cX12_readTurn 69 = .ok (.getfield 13, 3) := by decide +kernel
theorem dX12_readTurn_72 : decode cX12_readTurn 72 = .ok (.iload_n 1, 1) := by decide +kernel
theorem dX12_readTurn_73 : decode cX12_readTurn 73 = .ok (.iconst 1, 1) := by decide +kernel
theorem dX12_readTurn_74 : decode cX12_readTurn 74 = .ok (.iadd, 1) := by decide +kernel
theorem dX12_readTurn_75 : decode cX12_readTurn 75 = .ok (.iconst 2, 1) := by decide +kernel
theorem dX12_readTurn_76 : decode cX12_readTurn 76 = .ok (.iload_n 2, 1) := by decide +kernel
theorem dX12_readTurn_77 : decode cX12_readTurn 77 = .ok (.imul, 1) := by decide +kernel
theorem dX12_readTurn_78 : decode cX12_readTurn 78 = .ok (.aload_n 0, 1) := by decide +kernel
theorem dX12_readTurn_79 : decode cX12_readTurn 79 = .ok (.ldc_w 331, 3) := by decide +kernel
theorem dX12_readTurn_82 : decode cX12_readTurn 82 = .ok (.invokevirtual 284, 3) := by decide +kernel
theorem dX12_readTurn_85 : decode cX12_readTurn 85 = .ok (.ifCond .eq 7, 3) := by decide +kernel
theorem dX12_readTurn_88 : decode cX12_readTurn 88 = .ok (.iconst 1, 1) := by decide +kernel
theorem dX12_readTurn_89 : decode cX12_readTurn 89 = .ok (.goto 4, 3) := by decide +kernel
theorem dX12_readTurn_92 : decode cX12_readTurn 92 = .ok (.iconst 0, 1) := by decide +kernel
theorem dX12_readTurn_93 : decode cX12_readTurn 93 = .ok (.iadd, 1) := by decide +kernel
theorem dX12_readTurn_94 : decode cX12_readTurn 94 = .ok (.iastore, 1) := by decide +kernel
theorem dX12_readTurn_95 : decode cX12_readTurn 95 = .ok (.iconst 1, 1) := by decide +kernel
theorem dX12_readTurn_96 : decode cX12_readTurn 96 = .ok (.ireturn, 1) := by decide +kernel
noncomputable def o_X12_readTurn (F : Nat) (s : rs_S) (a1 : Int32) : Option (Int32 × rs_S) := (o_X12_word F s).bind fun x1 => ((o_X12_isWord F x1 22).bind fun x2 => (if x2 = 0 then ((o_X12_isWord F x1 23).bind fun x4 => (if x4 = 0 then ((o_X12_isWord F x1 24).bind fun x6 => (if x6 = 0 then ((o_X12_isWord F x1 25).bind fun x8 => (if x8 = 0 then (some (nI 0, x1)) else ((o_X12_passes F x1 26).bind fun x10 => (if x10.1 = 0 then (if iL (a1 + (nI 1)) 22216 then (some (nI 1, pW x10.2 (a1 + (nI 1)) (((nI 2) * (nI 3)) + (nI 0)))) else none) else (if iL (a1 + (nI 1)) 22216 then (some (nI 1, pW x10.2 (a1 + (nI 1)) (((nI 2) * (nI 3)) + (nI 1)))) else none))))) else ((o_X12_passes F x1 26).bind fun x14 => (if x14.1 = 0 then (if iL (a1 + (nI 1)) 22216 then (some (nI 1, pW x14.2 (a1 + (nI 1)) (((nI 2) * (nI 2)) + (nI 0)))) else none) else (if iL (a1 + (nI 1)) 22216 then (some (nI 1, pW x14.2 (a1 + (nI 1)) (((nI 2) * (nI 2)) + (nI 1)))) else none))))) else ((o_X12_passes F x1 26).bind fun x18 => (if x18.1 = 0 then (if iL (a1 + (nI 1)) 22216 then (some (nI 1, pW x18.2 (a1 + (nI 1)) (((nI 2) * (nI 1)) + (nI 0)))) else none) else (if iL (a1 + (nI 1)) 22216 then (some (nI 1, pW x18.2 (a1 + (nI 1)) (((nI 2) * (nI 1)) + (nI 1)))) else none))))) else ((o_X12_passes F x1 26).bind fun x22 => (if x22.1 = 0 then (if iL (a1 + (nI 1)) 22216 then (some (nI 1, pW x22.2 (a1 + (nI 1)) (((nI 2) * (nI 0)) + (nI 0)))) else none) else (if iL (a1 + (nI 1)) 22216 then (some (nI 1, pW x22.2 (a1 + (nI 1)) (((nI 2) * (nI 0)) + (nI 1)))) else none)))))
set_option maxHeartbeats 4000000 in
theorem t_X12_readTurn {Γ : jg_G} {g : Nat → jg_C} {n r : Nat} (hr : r + 11 ≤ n) (F : Nat) (s : rs_S) (a1 : Int32)  {x : Int32 × rs_S} (h : o_X12_readTurn F s a1 = some x) : jc Γ mX12_readTurn 6 0 0 [some (.ref r), some (.int a1), none] (rs_h g r s, n) (.inl (some (.int x.1))) (rs_h g r x.2, n) := by
  refine jc_of ?_
  rw [o_X12_readTurn] at h
  refine jg_aload_n dX12_readTurn_0 rfl ?_
  obtain ⟨x1, e_x1, h⟩ := bd_some h
  refine rs_call (As := []) kv_X12_235 dX12_readTurn_1 hr rfl rfl (by decide) (Nat.le_of_ble_eq_true rfl) rfl (by decide) (Nat.le_of_ble_eq_true rfl) (t_X12_word hr F s e_x1) ?_
  refine jg_aload_n dX12_readTurn_4 rfl ?_
  refine jg_ldcws (i := 22) rfl dX12_readTurn_5 ?_
  obtain ⟨x2, e_x2, h⟩ := bd_some h
  refine rs_call (As := [.ref (1000000 + 22)]) kv_X12_238 dX12_readTurn_8 hr rfl rfl (by decide) (Nat.le_of_ble_eq_true rfl) rfl (by decide) (Nat.le_of_ble_eq_true rfl) (t_X12_isWord hr F x1 22 e_x2) ?_
  refine jg_if_eq (x := x2) (tgt := 18) dX12_readTurn_11 (by decide) (fun c3 => ?_) (fun c3 => ?_)
  · replace h := it_t c3 h
    refine jg_aload_n dX12_readTurn_18 rfl ?_
    refine jg_ldcws (i := 23) rfl dX12_readTurn_19 ?_
    obtain ⟨x4, e_x4, h⟩ := bd_some h
    refine rs_call (As := [.ref (1000000 + 23)]) kv_X12_238 dX12_readTurn_22 hr rfl rfl (by decide) (Nat.le_of_ble_eq_true rfl) rfl (by decide) (Nat.le_of_ble_eq_true rfl) (t_X12_isWord hr F x1 23 e_x4) ?_
    refine jg_if_eq (x := x4) (tgt := 32) dX12_readTurn_25 (by decide) (fun c5 => ?_) (fun c5 => ?_)
    · replace h := it_t c5 h
      refine jg_aload_n dX12_readTurn_32 rfl ?_
      refine jg_ldcws (i := 24) rfl dX12_readTurn_33 ?_
      obtain ⟨x6, e_x6, h⟩ := bd_some h
      refine rs_call (As := [.ref (1000000 + 24)]) kv_X12_238 dX12_readTurn_36 hr rfl rfl (by decide) (Nat.le_of_ble_eq_true rfl) rfl (by decide) (Nat.le_of_ble_eq_true rfl) (t_X12_isWord hr F x1 24 e_x6) ?_
      refine jg_if_eq (x := x6) (tgt := 46) dX12_readTurn_39 (by decide) (fun c7 => ?_) (fun c7 => ?_)
      · replace h := it_t c7 h
        refine jg_aload_n dX12_readTurn_46 rfl ?_
        refine jg_ldcws (i := 25) rfl dX12_readTurn_47 ?_
        obtain ⟨x8, e_x8, h⟩ := bd_some h
        refine rs_call (As := [.ref (1000000 + 25)]) kv_X12_238 dX12_readTurn_50 hr rfl rfl (by decide) (Nat.le_of_ble_eq_true rfl) rfl (by decide) (Nat.le_of_ble_eq_true rfl) (t_X12_isWord hr F x1 25 e_x8) ?_
        refine jg_if_eq (x := x8) (tgt := 60) dX12_readTurn_53 (by decide) (fun c9 => ?_) (fun c9 => ?_)
        · replace h := it_t c9 h
          refine jg_iconst (v := (-1)) dX12_readTurn_60 (by decide) ?_
          refine jg_istore_n (L' := [some (.ref r), some (.int a1), some (.int (-1))]) dX12_readTurn_61 (by decide) rfl ?_
          refine jg_iload_n dX12_readTurn_62 rfl ?_
          refine jg_if_ge (x := (-1)) (tgt := 68) dX12_readTurn_63 (by decide) (fun q9 => absurd q9 (by decide)) (fun _ => ?_)
          refine jg_iconst (v := nI 0) dX12_readTurn_66 (by decide) ?_
          obtain rfl := Option.some.inj h
          exact jg_zreturn dX12_readTurn_67 rfl (rfl) ⟨rfl, rfl⟩
        · replace h := it_f c9 h
          refine jg_iconst (v := nI 3) dX12_readTurn_56 (by decide) ?_
          refine jg_goto (tgt := 61) dX12_readTurn_57 (by decide) ?_
          refine jg_istore_n (L' := [some (.ref r), some (.int a1), some (.int (nI 3))]) dX12_readTurn_61 (by decide) rfl ?_
          refine jg_iload_n dX12_readTurn_62 rfl ?_
          refine jg_if_ge (x := (nI 3)) (tgt := 68) dX12_readTurn_63 (by decide) (fun _ => ?_) (fun q9 => absurd q9 (by decide))
          refine jg_aload_n dX12_readTurn_68 rfl ?_
          refine rs_ga fl_X12_13 dX12_readTurn_69 hr rfl ?_
          refine jg_iload_n dX12_readTurn_72 rfl ?_
          refine jg_iconst (v := nI 1) dX12_readTurn_73 (by decide) ?_
          refine jg_iadd (x := a1) (y := (nI 1)) dX12_readTurn_74  ?_
          refine jg_iconst (v := nI 2) dX12_readTurn_75 (by decide) ?_
          refine jg_iload_n dX12_readTurn_76 rfl ?_
          refine jg_imul (x := (nI 2)) (y := (nI 3)) dX12_readTurn_77  ?_
          refine jg_aload_n dX12_readTurn_78 rfl ?_
          refine jg_ldcws (i := 26) rfl dX12_readTurn_79 ?_
          obtain ⟨x10, e_x10, h⟩ := bd_some h
          refine rs_call (As := [.ref (1000000 + 26)]) kv_X12_284 dX12_readTurn_82 hr rfl rfl (by decide) (Nat.le_of_ble_eq_true rfl) rfl (by decide) (Nat.le_of_ble_eq_true rfl) (t_X12_passes hr F x1 26 e_x10) ?_
          refine jg_if_eq (x := x10.1) (tgt := 92) dX12_readTurn_85 (by decide) (fun c11 => ?_) (fun c11 => ?_)
          · replace h := it_t c11 h
            refine jg_iconst (v := nI 0) dX12_readTurn_92 (by decide) ?_
            refine jg_iadd (x := ((nI 2) * (nI 3))) (y := (nI 0)) dX12_readTurn_93  ?_
            obtain ⟨q12, h⟩ := gd_some h
            refine rs_swD (s := x10.2) (i := (a1 + (nI 1))) (x := (((nI 2) * (nI 3)) + (nI 0))) dX12_readTurn_94 hr q12 ?_
            refine jg_iconst (v := nI 1) dX12_readTurn_95 (by decide) ?_
            obtain rfl := Option.some.inj h
            exact jg_zreturn dX12_readTurn_96 rfl (rfl) ⟨rfl, rfl⟩
          · replace h := it_f c11 h
            refine jg_iconst (v := nI 1) dX12_readTurn_88 (by decide) ?_
            refine jg_goto (tgt := 93) dX12_readTurn_89 (by decide) ?_
            refine jg_iadd (x := ((nI 2) * (nI 3))) (y := (nI 1)) dX12_readTurn_93  ?_
            obtain ⟨q13, h⟩ := gd_some h
            refine rs_swD (s := x10.2) (i := (a1 + (nI 1))) (x := (((nI 2) * (nI 3)) + (nI 1))) dX12_readTurn_94 hr q13 ?_
            refine jg_iconst (v := nI 1) dX12_readTurn_95 (by decide) ?_
            obtain rfl := Option.some.inj h
            exact jg_zreturn dX12_readTurn_96 rfl (rfl) ⟨rfl, rfl⟩
      · replace h := it_f c7 h
        refine jg_iconst (v := nI 2) dX12_readTurn_42 (by decide) ?_
        refine jg_goto (tgt := 61) dX12_readTurn_43 (by decide) ?_
        refine jg_istore_n (L' := [some (.ref r), some (.int a1), some (.int (nI 2))]) dX12_readTurn_61 (by decide) rfl ?_
        refine jg_iload_n dX12_readTurn_62 rfl ?_
        refine jg_if_ge (x := (nI 2)) (tgt := 68) dX12_readTurn_63 (by decide) (fun _ => ?_) (fun q9 => absurd q9 (by decide))
        refine jg_aload_n dX12_readTurn_68 rfl ?_
        refine rs_ga fl_X12_13 dX12_readTurn_69 hr rfl ?_
        refine jg_iload_n dX12_readTurn_72 rfl ?_
        refine jg_iconst (v := nI 1) dX12_readTurn_73 (by decide) ?_
        refine jg_iadd (x := a1) (y := (nI 1)) dX12_readTurn_74  ?_
        refine jg_iconst (v := nI 2) dX12_readTurn_75 (by decide) ?_
        refine jg_iload_n dX12_readTurn_76 rfl ?_
        refine jg_imul (x := (nI 2)) (y := (nI 2)) dX12_readTurn_77  ?_
        refine jg_aload_n dX12_readTurn_78 rfl ?_
        refine jg_ldcws (i := 26) rfl dX12_readTurn_79 ?_
        obtain ⟨x14, e_x14, h⟩ := bd_some h
        refine rs_call (As := [.ref (1000000 + 26)]) kv_X12_284 dX12_readTurn_82 hr rfl rfl (by decide) (Nat.le_of_ble_eq_true rfl) rfl (by decide) (Nat.le_of_ble_eq_true rfl) (t_X12_passes hr F x1 26 e_x14) ?_
        refine jg_if_eq (x := x14.1) (tgt := 92) dX12_readTurn_85 (by decide) (fun c15 => ?_) (fun c15 => ?_)
        · replace h := it_t c15 h
          refine jg_iconst (v := nI 0) dX12_readTurn_92 (by decide) ?_
          refine jg_iadd (x := ((nI 2) * (nI 2))) (y := (nI 0)) dX12_readTurn_93  ?_
          obtain ⟨q16, h⟩ := gd_some h
          refine rs_swD (s := x14.2) (i := (a1 + (nI 1))) (x := (((nI 2) * (nI 2)) + (nI 0))) dX12_readTurn_94 hr q16 ?_
          refine jg_iconst (v := nI 1) dX12_readTurn_95 (by decide) ?_
          obtain rfl := Option.some.inj h
          exact jg_zreturn dX12_readTurn_96 rfl (rfl) ⟨rfl, rfl⟩
        · replace h := it_f c15 h
          refine jg_iconst (v := nI 1) dX12_readTurn_88 (by decide) ?_
          refine jg_goto (tgt := 93) dX12_readTurn_89 (by decide) ?_
          refine jg_iadd (x := ((nI 2) * (nI 2))) (y := (nI 1)) dX12_readTurn_93  ?_
          obtain ⟨q17, h⟩ := gd_some h
          refine rs_swD (s := x14.2) (i := (a1 + (nI 1))) (x := (((nI 2) * (nI 2)) + (nI 1))) dX12_readTurn_94 hr q17 ?_
          refine jg_iconst (v := nI 1) dX12_readTurn_95 (by decide) ?_
          obtain rfl := Option.some.inj h
          exact jg_zreturn dX12_readTurn_96 rfl (rfl) ⟨rfl, rfl⟩
    · replace h := it_f c5 h
      refine jg_iconst (v := nI 1) dX12_readTurn_28 (by decide) ?_
      refine jg_goto (tgt := 61) dX12_readTurn_29 (by decide) ?_
      refine jg_istore_n (L' := [some (.ref r), some (.int a1), some (.int (nI 1))]) dX12_readTurn_61 (by decide) rfl ?_
      refine jg_iload_n dX12_readTurn_62 rfl ?_
      refine jg_if_ge (x := (nI 1)) (tgt := 68) dX12_readTurn_63 (by decide) (fun _ => ?_) (fun q9 => absurd q9 (by decide))
      refine jg_aload_n dX12_readTurn_68 rfl ?_
      refine rs_ga fl_X12_13 dX12_readTurn_69 hr rfl ?_
      refine jg_iload_n dX12_readTurn_72 rfl ?_
      refine jg_iconst (v := nI 1) dX12_readTurn_73 (by decide) ?_
      refine jg_iadd (x := a1) (y := (nI 1)) dX12_readTurn_74  ?_
      refine jg_iconst (v := nI 2) dX12_readTurn_75 (by decide) ?_
      refine jg_iload_n dX12_readTurn_76 rfl ?_
      refine jg_imul (x := (nI 2)) (y := (nI 1)) dX12_readTurn_77  ?_
      refine jg_aload_n dX12_readTurn_78 rfl ?_
      refine jg_ldcws (i := 26) rfl dX12_readTurn_79 ?_
      obtain ⟨x18, e_x18, h⟩ := bd_some h
      refine rs_call (As := [.ref (1000000 + 26)]) kv_X12_284 dX12_readTurn_82 hr rfl rfl (by decide) (Nat.le_of_ble_eq_true rfl) rfl (by decide) (Nat.le_of_ble_eq_true rfl) (t_X12_passes hr F x1 26 e_x18) ?_
      refine jg_if_eq (x := x18.1) (tgt := 92) dX12_readTurn_85 (by decide) (fun c19 => ?_) (fun c19 => ?_)
      · replace h := it_t c19 h
        refine jg_iconst (v := nI 0) dX12_readTurn_92 (by decide) ?_
        refine jg_iadd (x := ((nI 2) * (nI 1))) (y := (nI 0)) dX12_readTurn_93  ?_
        obtain ⟨q20, h⟩ := gd_some h
        refine rs_swD (s := x18.2) (i := (a1 + (nI 1))) (x := (((nI 2) * (nI 1)) + (nI 0))) dX12_readTurn_94 hr q20 ?_
        refine jg_iconst (v := nI 1) dX12_readTurn_95 (by decide) ?_
        obtain rfl := Option.some.inj h
        exact jg_zreturn dX12_readTurn_96 rfl (rfl) ⟨rfl, rfl⟩
      · replace h := it_f c19 h
        refine jg_iconst (v := nI 1) dX12_readTurn_88 (by decide) ?_
        refine jg_goto (tgt := 93) dX12_readTurn_89 (by decide) ?_
        refine jg_iadd (x := ((nI 2) * (nI 1))) (y := (nI 1)) dX12_readTurn_93  ?_
        obtain ⟨q21, h⟩ := gd_some h
        refine rs_swD (s := x18.2) (i := (a1 + (nI 1))) (x := (((nI 2) * (nI 1)) + (nI 1))) dX12_readTurn_94 hr q21 ?_
        refine jg_iconst (v := nI 1) dX12_readTurn_95 (by decide) ?_
        obtain rfl := Option.some.inj h
        exact jg_zreturn dX12_readTurn_96 rfl (rfl) ⟨rfl, rfl⟩
  · replace h := it_f c3 h
    refine jg_iconst (v := nI 0) dX12_readTurn_14 (by decide) ?_
    refine jg_goto (tgt := 61) dX12_readTurn_15 (by decide) ?_
    refine jg_istore_n (L' := [some (.ref r), some (.int a1), some (.int (nI 0))]) dX12_readTurn_61 (by decide) rfl ?_
    refine jg_iload_n dX12_readTurn_62 rfl ?_
    refine jg_if_ge (x := (nI 0)) (tgt := 68) dX12_readTurn_63 (by decide) (fun _ => ?_) (fun q9 => absurd q9 (by decide))
    refine jg_aload_n dX12_readTurn_68 rfl ?_
    refine rs_ga fl_X12_13 dX12_readTurn_69 hr rfl ?_
    refine jg_iload_n dX12_readTurn_72 rfl ?_
    refine jg_iconst (v := nI 1) dX12_readTurn_73 (by decide) ?_
    refine jg_iadd (x := a1) (y := (nI 1)) dX12_readTurn_74  ?_
    refine jg_iconst (v := nI 2) dX12_readTurn_75 (by decide) ?_
    refine jg_iload_n dX12_readTurn_76 rfl ?_
    refine jg_imul (x := (nI 2)) (y := (nI 0)) dX12_readTurn_77  ?_
    refine jg_aload_n dX12_readTurn_78 rfl ?_
    refine jg_ldcws (i := 26) rfl dX12_readTurn_79 ?_
    obtain ⟨x22, e_x22, h⟩ := bd_some h
    refine rs_call (As := [.ref (1000000 + 26)]) kv_X12_284 dX12_readTurn_82 hr rfl rfl (by decide) (Nat.le_of_ble_eq_true rfl) rfl (by decide) (Nat.le_of_ble_eq_true rfl) (t_X12_passes hr F x1 26 e_x22) ?_
    refine jg_if_eq (x := x22.1) (tgt := 92) dX12_readTurn_85 (by decide) (fun c23 => ?_) (fun c23 => ?_)
    · replace h := it_t c23 h
      refine jg_iconst (v := nI 0) dX12_readTurn_92 (by decide) ?_
      refine jg_iadd (x := ((nI 2) * (nI 0))) (y := (nI 0)) dX12_readTurn_93  ?_
      obtain ⟨q24, h⟩ := gd_some h
      refine rs_swD (s := x22.2) (i := (a1 + (nI 1))) (x := (((nI 2) * (nI 0)) + (nI 0))) dX12_readTurn_94 hr q24 ?_
      refine jg_iconst (v := nI 1) dX12_readTurn_95 (by decide) ?_
      obtain rfl := Option.some.inj h
      exact jg_zreturn dX12_readTurn_96 rfl (rfl) ⟨rfl, rfl⟩
    · replace h := it_f c23 h
      refine jg_iconst (v := nI 1) dX12_readTurn_88 (by decide) ?_
      refine jg_goto (tgt := 93) dX12_readTurn_89 (by decide) ?_
      refine jg_iadd (x := ((nI 2) * (nI 0))) (y := (nI 1)) dX12_readTurn_93  ?_
      obtain ⟨q25, h⟩ := gd_some h
      refine rs_swD (s := x22.2) (i := (a1 + (nI 1))) (x := (((nI 2) * (nI 0)) + (nI 1))) dX12_readTurn_94 hr q25 ?_
      refine jg_iconst (v := nI 1) dX12_readTurn_95 (by decide) ?_
      obtain rfl := Option.some.inj h
      exact jg_zreturn dX12_readTurn_96 rfl (rfl) ⟨rfl, rfl⟩
theorem dX12_best_0 : decode cX12_best 0 = .ok (.aload_n 0, 1) := by decide +kernel
theorem dX12_best_1 : decode cX12_best 1 = .ok (.iconst 0, 1) := by decide +kernel
theorem dX12_best_2 : decode cX12_best 2 = .ok (.putfield 3, 3) := by decide +kernel
theorem dX12_best_5 : decode cX12_best 5 = .ok (.aload_n 0, 1) := by decide +kernel
theorem dX12_best_6 : decode cX12_best 6 = .ok (.iload_n 1, 1) := by decide +kernel
theorem dX12_best_7 : decode cX12_best 7 = .ok (.iconst 0, 1) := by decide +kernel
theorem dX12_best_8 : decode cX12_best 8 = .ok (.ldc 110, 2) := by decide +kernel
theorem dX12_best_10 : decode cX12_best 10 = .ok (.invokestatic 49, 3) := by decide +kernel
theorem dX12_best_13 : decode cX12_best 13 = .ok (.ifCond .ne 7, 3) := by decide +kernel
theorem dX12_best_16 : decode cX12_best 16 = .ok (.iconst 1, 1) := by decide +kernel
theorem dX12_best_17 : decode cX12_best 17 = .ok (.goto 4, 3) := by decide +kernel
theorem dX12_best_20 : decode cX12_best 20 = .ok (.iconst 0, 1) := by decide +kernel
theorem dX12_best_21 : decode cX12_best 21 = .ok (.iconst 1, 1) := by decide +kernel
theorem dX12_best_22 : decode cX12_best 22 = .ok (.invokevirtual 69, 3) := by decide +kernel
theorem dX12_best_25 : decode cX12_best 25 = .ok (.ifCond .eq 5, 3) := by decide +kernel
theorem dX12_best_28 : decode cX12_best 28 = .ok (.iconst 0, 1) := by decide +kernel
theorem dX12_best_29 : decode cX12_best 29 = .ok (.ireturn, 1) := by decide +kernel
theorem dX12_best_30 : decode cX12_best 30 = .ok (.iconst 0, 1) := by decide +kernel
theorem dX12_best_31 : decode cX12_best 31 = .ok (.istore_n 2, 1) := by decide +kernel
theorem dX12_best_32 : decode cX12_best 32 = .ok (.iconst 1, 1) := by decide +kernel
theorem dX12_best_33 : decode cX12_best 33 = .ok (.istore_n 3, 1) := by decide +kernel
theorem dX12_best_34 : decode cX12_best 34 = .ok (.iload_n 3, 1) := by decide +kernel
theorem dX12_best_35 : decode cX12_best 35 = .ok (.iconst 1, 1) := by decide +kernel
theorem dX12_best_36 : decode cX12_best 36 = .ok (.aload_n 0, 1) := by decide +kernel
theorem dX12_best_37 : decode cX12_best 37 = .ok (.getfield 13, 3) := by decide +kernel
theorem dX12_best_40 : decode cX12_best 40 = .ok (.sipush 2786, 3) := by decide +kernel
theorem dX12_best_43 : decode cX12_best 43 = .ok (.iaload, 1) := by decide +kernel
theorem dX12_best_44 : decode cX12_best 44 = .ok (.ishl, 1) := by decide +kernel
theorem dX12_best_45 : decode cX12_best 45 = .ok (.if_icmp .ge 52, 3) := by decide +kernel
theorem dX12_best_48 : decode cX12_best 48 = .ok (.aload_n 0, 1) := by decide +kernel
theorem dX12_best_49 : decode cX12_best 49 = .ok (.iload_n 1, 1) := by decide +kernel
theorem dX12_best_50 : decode cX12_best 50 = .ok (.iload_n 3, 1) := by decide +kernel
theorem dX12_best_51 : decode cX12_best 51 = .ok (.invokevirtual 412, 3) := by decide +kernel
theorem dX12_best_54 : decode cX12_best 54 = .ok (.istore 4, 2) := by decide +kernel
theorem dX12_best_56 : decode cX12_best 56 = .ok (.aload_n 0, 1) := by decide +kernel
theorem dX12_best_57 : decode cX12_best 57 = .ok (.iload_n 1, 1) := by decide +kernel
theorem dX12_best_58 : decode cX12_best 58 = .ok (.iload_n 2, 1) := by decide +kernel
theorem dX12_best_59 : decode cX12_best 59 = .ok (.invokevirtual 412, 3) := by decide +kernel
theorem dX12_best_62 : decode cX12_best 62 = .ok (.istore 5, 2) := by decide +kernel
theorem dX12_best_64 : decode cX12_best 64 = .ok (.iload 4, 2) := by decide +kernel
theorem dX12_best_66 : decode cX12_best 66 = .ok (.iload 5, 2) := by decide +kernel
theorem dX12_best_68 : decode cX12_best 68 = .ok (.if_icmp .gt 21, 3) := by decide +kernel
theorem dX12_best_71 : decode cX12_best 71 = .ok (.iload 4, 2) := by decide +kernel
theorem dX12_best_73 : decode cX12_best 73 = .ok (.iload 5, 2) := by decide +kernel
theorem dX12_best_75 : decode cX12_best 75 = .ok (.if_icmp .ne 16, 3) := by decide +kernel
theorem dX12_best_78 : decode cX12_best 78 = .ok (.iload_n 3, 1) := by decide +kernel
theorem dX12_best_79 : decode cX12_best 79 = .ok (.invokestatic 415, 3) := by decide +kernel
theorem dX12_best_82 : decode cX12_best 82 = .ok (.iload_n 2, 1) := by decide +kernel
theorem dX12_best_83 : decode cX12_best 83 = .ok (.invokestatic 415, 3) := by decide +kernel
theorem dX12_best_86 : decode cX12_best 86 = .ok (.if_icmp .ge 5, 3) := by decide +kernel
theorem dX12_best_89 : decode cX12_best 89 = .ok (.iload_n 3, 1) := by decide +kernel
theorem dX12_best_90 : decode cX12_best 90 = .ok (.istore_n 2, 1) := by decide +kernel
theorem dX12_best_91 : decode cX12_best 91 = .ok (.iinc 3 1, 3) := by decide +kernel
theorem dX12_best_94 : decode cX12_best 94 = .ok (.goto (-60), 3) := by decide +kernel
theorem dX12_best_97 : decode cX12_best 97 = .ok (.iload_n 2, 1) := by decide +kernel
theorem dX12_best_98 : decode cX12_best 98 = .ok (.ireturn, 1) := by decide +kernel
noncomputable def o_X12_best_34 (F : Nat) (l1 : Int32) (s : rs_S) : Nat → Int32 → Int32 → Option (Int32)
  | 0, _, _ => none
  | f + 1, l2, l3 => if ((nI 1) <<< ((gW s (nI 2786)) &&& 31)) ≤ l3 then (some l2) else ((o_X12_worthOf F s l1 l3).bind fun x4 => ((o_X12_worthOf F s l1 l2).bind fun x5 => (if x5 < x4 then (o_X12_best_34 F l1 s f l3 (l3 + nI 1)) else (if x4 = x5 then ((o_bitCount () l3).bind fun x8 => ((o_bitCount () l2).bind fun x9 => (if x9 ≤ x8 then (o_X12_best_34 F l1 s f l2 (l3 + nI 1)) else (o_X12_best_34 F l1 s f l3 (l3 + nI 1))))) else (o_X12_best_34 F l1 s f l2 (l3 + nI 1))))))
set_option maxHeartbeats 4000000 in
theorem t_X12_best_34 {Γ : jg_G} {g : Nat → jg_C} {n r : Nat} (hr : r + 11 ≤ n) (F : Nat) (l1 : Int32) (s : rs_S)  (Q : jg_Q) {x : Int32} (K1 : jg Γ mX12_best 1 0 0 97 [none, none, some (.int x), none, none, none] [] (rs_h g r s, n) Q)  : ∀ (f : Nat) (l2 : Int32) (l3 : Int32), o_X12_best_34 F l1 s f l2 l3 = some x → jg Γ mX12_best 1 0 0 34 [some (.ref r), some (.int l1), some (.int l2), some (.int l3), none, none] [] (rs_h g r s, n) Q := by
  intro f
  induction f with
  | zero => intro l2 l3 h; rw [o_X12_best_34] at h; cases h
  | succ f ih =>
   intro l2 l3 h
   rw [o_X12_best_34] at h
   refine jg_iload_n dX12_best_34 rfl ?_
   refine jg_iconst (v := nI 1) dX12_best_35 (by decide) ?_
   refine jg_aload_n dX12_best_36 rfl ?_
   refine rs_ga fl_X12_13 dX12_best_37 hr rfl ?_
   refine jg_sipush (v := nI 2786) dX12_best_40 (by decide) ?_
   refine rs_lwD (s := s) (i := (nI 2786)) dX12_best_43 hr (by decide) ?_
   refine jg_ishl (x := (nI 1)) (y := (gW s (nI 2786))) dX12_best_44  ?_
   refine jg_icmp_ge (x := l3) (y := ((nI 1) <<< ((gW s (nI 2786)) &&& 31))) (tgt := 97) dX12_best_45 (by decide) (fun c3 => ?_) (fun c3 => ?_)
   · replace h := it_t c3 h
     refine jg_fg (L' := [none, none, some (.int l2), none, none, none]) (by repeat (first | exact trivial | refine ⟨rfl, ?_⟩ | show jg_le _ _)) ?_
     obtain rfl := Option.some.inj h
     exact K1
   · replace h := it_f c3 h
     refine jg_aload_n dX12_best_48 rfl ?_
     refine jg_iload_n dX12_best_49 rfl ?_
     refine jg_iload_n dX12_best_50 rfl ?_
     obtain ⟨x4, e_x4, h⟩ := bd_some h
     refine rs_call (As := [.int l1, .int l3]) kv_X12_412 dX12_best_51 hr rfl rfl (by decide) (Nat.le_of_ble_eq_true rfl) rfl (by decide) (Nat.le_of_ble_eq_true rfl) (t_X12_worthOf hr F s l1 l3 e_x4) ?_
     refine jg_istore (L' := [some (.ref r), some (.int l1), some (.int l2), some (.int l3), some (.int x4), none]) dX12_best_54 (by decide) rfl ?_
     refine jg_aload_n dX12_best_56 rfl ?_
     refine jg_iload_n dX12_best_57 rfl ?_
     refine jg_iload_n dX12_best_58 rfl ?_
     obtain ⟨x5, e_x5, h⟩ := bd_some h
     refine rs_call (As := [.int l1, .int l2]) kv_X12_412 dX12_best_59 hr rfl rfl (by decide) (Nat.le_of_ble_eq_true rfl) rfl (by decide) (Nat.le_of_ble_eq_true rfl) (t_X12_worthOf hr F s l1 l2 e_x5) ?_
     refine jg_istore (L' := [some (.ref r), some (.int l1), some (.int l2), some (.int l3), some (.int x4), some (.int x5)]) dX12_best_62 (by decide) rfl ?_
     refine jg_iload dX12_best_64 rfl ?_
     refine jg_iload dX12_best_66 rfl ?_
     refine jg_icmp_gt (x := x4) (y := x5) (tgt := 89) dX12_best_68 (by decide) (fun c6 => ?_) (fun c6 => ?_)
     · replace h := it_t c6 h
       refine jg_iload_n dX12_best_89 rfl ?_
       refine jg_istore_n (L' := [some (.ref r), some (.int l1), some (.int l3), some (.int l3), some (.int x4), some (.int x5)]) dX12_best_90 (by decide) rfl ?_
       refine jg_iinc (x := l3) (v := l3 + nI 1) (L' := [some (.ref r), some (.int l1), some (.int l3), some (.int (l3 + nI 1)), some (.int x4), some (.int x5)]) dX12_best_91 rfl (ic_k _ (by decide)) (by decide) rfl ?_
       refine jg_goto (tgt := 34) dX12_best_94 (by decide) ?_
       refine jg_fg (L' := [some (.ref r), some (.int l1), some (.int l3), some (.int (l3 + nI 1)), none, none]) (by repeat (first | exact trivial | refine ⟨rfl, ?_⟩ | show jg_le _ _)) ?_
       exact ih l3 (l3 + nI 1) h
     · replace h := it_f c6 h
       refine jg_iload dX12_best_71 rfl ?_
       refine jg_iload dX12_best_73 rfl ?_
       refine jg_icmp_ne (x := x4) (y := x5) (tgt := 91) dX12_best_75 (by decide) (fun c7 => ?_) (fun c7 => ?_)
       · replace h := it_f c7 h
         refine jg_iinc (x := l3) (v := l3 + nI 1) (L' := [some (.ref r), some (.int l1), some (.int l2), some (.int (l3 + nI 1)), some (.int x4), some (.int x5)]) dX12_best_91 rfl (ic_k _ (by decide)) (by decide) rfl ?_
         refine jg_goto (tgt := 34) dX12_best_94 (by decide) ?_
         refine jg_fg (L' := [some (.ref r), some (.int l1), some (.int l2), some (.int (l3 + nI 1)), none, none]) (by repeat (first | exact trivial | refine ⟨rfl, ?_⟩ | show jg_le _ _)) ?_
         exact ih l2 (l3 + nI 1) h
       · replace h := it_t c7 h
         refine jg_iload_n dX12_best_78 rfl ?_
         obtain ⟨x8, e_x8, h⟩ := bd_some h
         refine jcs0 (As := [.int l3]) ks_X12_415 dX12_best_79 rfl (by decide) (Nat.le_of_ble_eq_true rfl) rfl (by decide) (Nat.le_of_ble_eq_true rfl) (t_bitCount () l3 e_x8) ?_
         refine jg_iload_n dX12_best_82 rfl ?_
         obtain ⟨x9, e_x9, h⟩ := bd_some h
         refine jcs0 (As := [.int l2]) ks_X12_415 dX12_best_83 rfl (by decide) (Nat.le_of_ble_eq_true rfl) rfl (by decide) (Nat.le_of_ble_eq_true rfl) (t_bitCount () l2 e_x9) ?_
         refine jg_icmp_ge (x := x8) (y := x9) (tgt := 91) dX12_best_86 (by decide) (fun c10 => ?_) (fun c10 => ?_)
         · replace h := it_t c10 h
           refine jg_iinc (x := l3) (v := l3 + nI 1) (L' := [some (.ref r), some (.int l1), some (.int l2), some (.int (l3 + nI 1)), some (.int x4), some (.int x5)]) dX12_best_91 rfl (ic_k _ (by decide)) (by decide) rfl ?_
           refine jg_goto (tgt := 34) dX12_best_94 (by decide) ?_
           refine jg_fg (L' := [some (.ref r), some (.int l1), some (.int l2), some (.int (l3 + nI 1)), none, none]) (by repeat (first | exact trivial | refine ⟨rfl, ?_⟩ | show jg_le _ _)) ?_
           exact ih l2 (l3 + nI 1) h
         · replace h := it_f c10 h
           refine jg_iload_n dX12_best_89 rfl ?_
           refine jg_istore_n (L' := [some (.ref r), some (.int l1), some (.int l3), some (.int l3), some (.int x4), some (.int x5)]) dX12_best_90 (by decide) rfl ?_
           refine jg_iinc (x := l3) (v := l3 + nI 1) (L' := [some (.ref r), some (.int l1), some (.int l3), some (.int (l3 + nI 1)), some (.int x4), some (.int x5)]) dX12_best_91 rfl (ic_k _ (by decide)) (by decide) rfl ?_
           refine jg_goto (tgt := 34) dX12_best_94 (by decide) ?_
           refine jg_fg (L' := [some (.ref r), some (.int l1), some (.int l3), some (.int (l3 + nI 1)), none, none]) (by repeat (first | exact trivial | refine ⟨rfl, ?_⟩ | show jg_le _ _)) ?_
           exact ih l3 (l3 + nI 1) h
noncomputable def o_X12_best (F : Nat) (s : rs_S) (a1 : Int32) : Option (Int32 × rs_S) := (o_X12_in (pN s 0 (nI 0)) a1 (nI 0) (nI 1000000)).bind fun x1 => (if x1 = 0 then (some (nI 0, pN (pN s 0 (nI 0)) 0 (nI 1))) else ((o_X12_best_34 F a1 (pN s 0 (nI 0)) F (nI 0) (nI 1)).bind fun x11 => (some (x11, pN s 0 (nI 0)))))
set_option maxHeartbeats 4000000 in
theorem t_X12_best {Γ : jg_G} {g : Nat → jg_C} {n r : Nat} (hr : r + 11 ≤ n) (F : Nat) (s : rs_S) (a1 : Int32)  {x : Int32 × rs_S} (h : o_X12_best F s a1 = some x) : jc Γ mX12_best 1 0 0 [some (.ref r), some (.int a1), none, none, none, none] (rs_h g r s, n) (.inl (some (.int x.1))) (rs_h g r x.2, n) := by
  refine jc_of ?_
  rw [o_X12_best] at h
  refine jg_aload_n dX12_best_0 rfl ?_
  refine jg_iconst (v := nI 0) dX12_best_1 (by decide) ?_
  refine rs_putD (s := s) (k := 0) (x := (nI 0)) fl_X12_3 dX12_best_2 hr (by decide) (rfl) rfl rfl ?_
  refine jg_aload_n dX12_best_5 rfl ?_
  refine jg_iload_n dX12_best_6 rfl ?_
  refine jg_iconst (v := nI 0) dX12_best_7 (by decide) ?_
  refine jg_ldc kk_X12_110 dX12_best_8 ?_
  rw [show (1000000 : Int32) = nI 1000000 from rfl]
  obtain ⟨x1, e_x1, h⟩ := bd_some h
  refine rs_callS (As := [.int a1, .int (nI 0), .int (nI 1000000)]) ks_X12_49 dX12_best_10 rfl (by decide) (Nat.le_of_ble_eq_true rfl) rfl (by decide) (Nat.le_of_ble_eq_true rfl) (t_X12_in hr (pN s 0 (nI 0)) a1 (nI 0) (nI 1000000) e_x1) ?_
  refine jg_if_ne (x := x1) (tgt := 20) dX12_best_13 (by decide) (fun c2 => ?_) (fun c2 => ?_)
  · replace h := it_f c2 h
    refine jg_iconst (v := nI 0) dX12_best_20 (by decide) ?_
    refine jg_iconst (v := nI 1) dX12_best_21 (by decide) ?_
    refine rs_call (As := [.int (nI 0), .int (nI 1)]) kv_X12_69 dX12_best_22 hr rfl rfl (by decide) (Nat.le_of_ble_eq_true rfl) rfl (by decide) (Nat.le_of_ble_eq_true rfl) (t_X12_throwsIf hr (pN s 0 (nI 0)) (nI 0) (nI 1) (o_thr0 (pN s 0 (nI 0)) (nI 1))) ?_
    refine jg_if_eq (x := (nI 0)) (tgt := 30) dX12_best_25 (by decide) (fun _ => ?_) (fun q9 => absurd q9 (by decide))
    refine jg_iconst (v := nI 0) dX12_best_30 (by decide) ?_
    refine jg_istore_n (L' := [some (.ref r), some (.int a1), some (.int (nI 0)), none, none, none]) dX12_best_31 (by decide) rfl ?_
    refine jg_iconst (v := nI 1) dX12_best_32 (by decide) ?_
    refine jg_istore_n (L' := [some (.ref r), some (.int a1), some (.int (nI 0)), some (.int (nI 1)), none, none]) dX12_best_33 (by decide) rfl ?_
    obtain ⟨x11, e_x11, h⟩ := bd_some h
    refine jg_fg (L' := [some (.ref r), some (.int a1), some (.int (nI 0)), some (.int (nI 1)), none, none]) (by repeat (first | exact trivial | refine ⟨rfl, ?_⟩ | show jg_le _ _)) ?_
    refine t_X12_best_34 hr F a1 (pN s 0 (nI 0))  _ (x := x11) ?_ F (nI 0) (nI 1) e_x11
    refine jg_iload_n dX12_best_97 rfl ?_
    obtain rfl := Option.some.inj h
    exact jg_ireturn dX12_best_98 rfl ⟨rfl, rfl⟩
  · replace h := it_t c2 h
    refine jg_iconst (v := nI 1) dX12_best_16 (by decide) ?_
    refine jg_goto (tgt := 21) dX12_best_17 (by decide) ?_
    refine jg_iconst (v := nI 1) dX12_best_21 (by decide) ?_
    refine rs_call (As := [.int (nI 1), .int (nI 1)]) kv_X12_69 dX12_best_22 hr rfl rfl (by decide) (Nat.le_of_ble_eq_true rfl) rfl (by decide) (Nat.le_of_ble_eq_true rfl) (t_X12_throwsIf hr (pN s 0 (nI 0)) (nI 1) (nI 1) (o_thr1 (pN s 0 (nI 0)) (nI 1))) ?_
    refine jg_if_eq (x := (nI 1)) (tgt := 30) dX12_best_25 (by decide) (fun q9 => absurd q9 (by decide)) (fun _ => ?_)
    refine jg_iconst (v := nI 0) dX12_best_28 (by decide) ?_
    obtain rfl := Option.some.inj h
    exact jg_ireturn dX12_best_29 rfl ⟨rfl, rfl⟩
theorem dX12_readAllOf_0 : decode cX12_readAllOf 0 = .ok (.aload_n 0, 1) := by decide +kernel
theorem dX12_readAllOf_1 : decode cX12_readAllOf 1 = .ok (.invokevirtual 287, 3) := by decide +kernel
theorem dX12_readAllOf_4 : decode cX12_readAllOf 4 = .ok (.ifCond .ne 5, 3) := by decide +kernel
theorem dX12_readAllOf_7 : decode cX12_readAllOf 7 = .ok (.iconst 0, 1) := by decide +kernel
theorem dX12_readAllOf_8 : decode cX12_readAllOf 8 = .ok (.ireturn, 1) := by decide +kernel
theorem dX12_readAllOf_9 : decode cX12_readAllOf 9 = .ok (.aload_n 0, 1) := by decide +kernel
theorem dX12_readAllOf_10 : decode cX12_readAllOf 10 = .ok (.ldc_w 304, 3) := by decide +kernel
theorem dX12_readAllOf_13 : decode cX12_readAllOf 13 = .ok (.invokevirtual 284, 3) := by decide +kernel
theorem dX12_readAllOf_16 : decode cX12_readAllOf 16 = .ok (.ifCond .eq 23, 3) := by decide +kernel
theorem dX12_readAllOf_19 : decode cX12_readAllOf 19 = .ok (.aload_n 0, 1) := by decide +kernel
theorem dX12_readAllOf_20 : decode cX12_readAllOf 20 = .ok (.invokevirtual 287, 3) := by decide +kernel
theorem dX12_readAllOf_23 : decode cX12_readAllOf 23 = .ok (.ifCond .ne 5, 3) := by decide +kernel
theorem dX12_readAllOf_26 : decode cX12_readAllOf 26 = .ok (.iconst 0, 1) := by decide +kernel
theorem dX12_readAllOf_27 : decode cX12_readAllOf 27 = .ok (.ireturn, 1) := by decide +kernel
theorem dX12_readAllOf_28 : decode cX12_readAllOf 28 = .ok (.aload_n 0, 1) := by decide +kernel
theorem dX12_readAllOf_29 : decode cX12_readAllOf 29 = .ok (.sipush 301, 3) := by decide +kernel
theorem dX12_readAllOf_32 : decode cX12_readAllOf 32 = .ok (.iconst 0, 1) := by decide +kernel
theorem dX12_readAllOf_33 : decode cX12_readAllOf 33 = .ok (.invokevirtual 290, 3) := by decide +kernel
theorem dX12_readAllOf_36 : decode cX12_readAllOf 36 = .ok (.goto (-27), 3) := by decide +kernel
theorem dX12_readAllOf_39 : decode cX12_readAllOf 39 = .ok (.iconst 1, 1) := by decide +kernel
theorem dX12_readAllOf_40 : decode cX12_readAllOf 40 = .ok (.ireturn, 1) := by decide +kernel
noncomputable def o_X12_readAllOf_9 (F : Nat) (rA : rs_S → Option (Int32 × rs_S))  : Nat → rs_S → Option ((rs_S) ⊕ (Int32 × rs_S))
  | 0, _ => none
  | f + 1, s => (o_X12_passes F s 39).bind fun x3 => (if x3.1 = 0 then (some (.inl x3.2)) else ((rA x3.2).bind fun x5 => (if x5.1 = 0 then (some (.inr (nI 0, x5.2))) else ((o_X12_adds x5.2 (nI 301) (nI 0)).bind fun x7 => (o_X12_readAllOf_9 F rA f x7)))))
set_option maxHeartbeats 4000000 in
theorem t_X12_readAllOf_9 {Γ : jg_G} {g : Nat → jg_C} {n r : Nat} (hr : r + 11 ≤ n) (F : Nat) (rA : rs_S → Option (Int32 × rs_S))  (dA : Nat) (h9 : 9 ≤ dA) (hA : ∀ s x, rA s = some x → jc Γ mX12_readAtom dA 0 0 [some (.ref r), none, none, none] (rs_h g r s, n) (.inl (some (.int x.1))) (rs_h g r x.2, n)) (Q : jg_Q) {x : (rs_S) ⊕ (Int32 × rs_S)} (K1 : ∀ y, x = .inl y → jg Γ mX12_readAllOf (dA + 1) 0 0 39 [none] [] (rs_h g r y, n) Q) (K2 : ∀ z, x = .inr z → Q (.inl (some (.int z.1))) (rs_h g r z.2, n)) : ∀ (f : Nat) (s : rs_S), o_X12_readAllOf_9 F rA f s = some x → jg Γ mX12_readAllOf (dA + 1) 0 0 9 [some (.ref r)] [] (rs_h g r s, n) Q := by
  intro f
  induction f with
  | zero => intro s h; rw [o_X12_readAllOf_9] at h; cases h
  | succ f ih =>
   intro s h
   rw [o_X12_readAllOf_9] at h
   refine jg_aload_n dX12_readAllOf_9 rfl ?_
   refine jg_ldcws (i := 39) rfl dX12_readAllOf_10 ?_
   obtain ⟨x3, e_x3, h⟩ := bd_some h
   refine rs_call (As := [.ref (1000000 + 39)]) kv_X12_284 dX12_readAllOf_13 hr rfl rfl (by decide) (Nat.le_of_ble_eq_true rfl) rfl (by omega) (Nat.le_of_ble_eq_true rfl) (t_X12_passes hr F s 39 e_x3) ?_
   refine jg_if_eq (x := x3.1) (tgt := 39) dX12_readAllOf_16 (by decide) (fun c4 => ?_) (fun c4 => ?_)
   · replace h := it_t c4 h
     refine jg_fg (L' := [none]) (by repeat (first | exact trivial | refine ⟨rfl, ?_⟩ | show jg_le _ _)) ?_
     obtain rfl := Option.some.inj h
     exact K1 _ rfl
   · replace h := it_f c4 h
     refine jg_aload_n dX12_readAllOf_19 rfl ?_
     obtain ⟨x5, e_x5, h⟩ := bd_some h
     refine rs_call (As := []) kv_X12_287 dX12_readAllOf_20 hr rfl rfl (by decide) (Nat.le_of_ble_eq_true rfl) rfl (by omega) (Nat.le_of_ble_eq_true rfl) (hA x3.2 _ e_x5) ?_
     refine jg_if_ne (x := x5.1) (tgt := 28) dX12_readAllOf_23 (by decide) (fun c6 => ?_) (fun c6 => ?_)
     · replace h := it_f c6 h
       refine jg_aload_n dX12_readAllOf_28 rfl ?_
       refine jg_sipush (v := nI 301) dX12_readAllOf_29 (by decide) ?_
       refine jg_iconst (v := nI 0) dX12_readAllOf_32 (by decide) ?_
       obtain ⟨x7, e_x7, h⟩ := bd_some h
       refine rs_call (As := [.int (nI 301), .int (nI 0)]) kv_X12_290 dX12_readAllOf_33 hr rfl rfl (by decide) (Nat.le_of_ble_eq_true rfl) rfl (by omega) (Nat.le_of_ble_eq_true rfl) (t_X12_adds hr x5.2 (nI 301) (nI 0) e_x7) ?_
       refine jg_goto (tgt := 9) dX12_readAllOf_36 (by decide) ?_
       refine jg_fg (L' := [some (.ref r)]) (by repeat (first | exact trivial | refine ⟨rfl, ?_⟩ | show jg_le _ _)) ?_
       exact ih x7 h
     · replace h := it_t c6 h
       refine jg_iconst (v := nI 0) dX12_readAllOf_26 (by decide) ?_
       obtain rfl := Option.some.inj h
       exact jg_zreturn dX12_readAllOf_27 rfl (rfl) (K2 _ rfl)
noncomputable def o_X12_readAllOf (F : Nat) (rA : rs_S → Option (Int32 × rs_S)) (s : rs_S) : Option (Int32 × rs_S) := (rA s).bind fun x1 => (if x1.1 = 0 then (some (nI 0, x1.2)) else ((o_X12_readAllOf_9 F rA F x1.2).bind fun x8 => (Sum.elim (fun y9 => some (nI 1, y9)) (fun z10 => some z10) x8)))
set_option maxHeartbeats 4000000 in
theorem t_X12_readAllOf {Γ : jg_G} {g : Nat → jg_C} {n r : Nat} (hr : r + 11 ≤ n) (F : Nat) (rA : rs_S → Option (Int32 × rs_S)) (s : rs_S) (dA : Nat) (h9 : 9 ≤ dA) (hA : ∀ s x, rA s = some x → jc Γ mX12_readAtom dA 0 0 [some (.ref r), none, none, none] (rs_h g r s, n) (.inl (some (.int x.1))) (rs_h g r x.2, n)) {x : Int32 × rs_S} (h : o_X12_readAllOf F rA s = some x) : jc Γ mX12_readAllOf (dA + 1) 0 0 [some (.ref r)] (rs_h g r s, n) (.inl (some (.int x.1))) (rs_h g r x.2, n) := by
  refine jc_of ?_
  rw [o_X12_readAllOf] at h
  refine jg_aload_n dX12_readAllOf_0 rfl ?_
  obtain ⟨x1, e_x1, h⟩ := bd_some h
  refine rs_call (As := []) kv_X12_287 dX12_readAllOf_1 hr rfl rfl (by decide) (Nat.le_of_ble_eq_true rfl) rfl (by omega) (Nat.le_of_ble_eq_true rfl) (hA s _ e_x1) ?_
  refine jg_if_ne (x := x1.1) (tgt := 9) dX12_readAllOf_4 (by decide) (fun c2 => ?_) (fun c2 => ?_)
  · replace h := it_f c2 h
    obtain ⟨x8, e_x8, h⟩ := bd_some h
    refine jg_fg (L' := [some (.ref r)]) (by repeat (first | exact trivial | refine ⟨rfl, ?_⟩ | show jg_le _ _)) ?_
    refine t_X12_readAllOf_9 hr F rA dA h9 hA _ (x := x8) ?_ ?_ F x1.2 e_x8
    · intro y9 ey; subst ey; replace h := se_l h
      refine jg_iconst (v := nI 1) dX12_readAllOf_39 (by decide) ?_
      obtain rfl := Option.some.inj h
      exact jg_zreturn dX12_readAllOf_40 rfl (rfl) ⟨rfl, rfl⟩
    · intro z10 ez; subst ez; replace h := se_r h
      obtain rfl := Option.some.inj h
      exact ⟨rfl, rfl⟩
  · replace h := it_t c2 h
    refine jg_iconst (v := nI 0) dX12_readAllOf_7 (by decide) ?_
    obtain rfl := Option.some.inj h
    exact jg_zreturn dX12_readAllOf_8 rfl (rfl) ⟨rfl, rfl⟩
theorem dX12_readCond_0 : decode cX12_readCond 0 = .ok (.aload_n 0, 1) := by decide +kernel
theorem dX12_readCond_1 : decode cX12_readCond 1 = .ok (.invokevirtual 306, 3) := by decide +kernel
theorem dX12_readCond_4 : decode cX12_readCond 4 = .ok (.ifCond .ne 5, 3) := by decide +kernel
theorem dX12_readCond_7 : decode cX12_readCond 7 = .ok (.iconst 0, 1) := by decide +kernel
theorem dX12_readCond_8 : decode cX12_readCond 8 = .ok (.ireturn, 1) := by decide +kernel
theorem dX12_readCond_9 : decode cX12_readCond 9 = .ok (.aload_n 0, 1) := by decide +kernel
theorem dX12_readCond_10 : decode cX12_readCond 10 = .ok (.ldc_w 309, 3) := by decide +kernel
theorem dX12_readCond_13 : decode cX12_readCond 13 = .ok (.invokevirtual 284, 3) := by decide +kernel
theorem dX12_readCond_16 : decode cX12_readCond 16 = .ok (.ifCond .eq 23, 3) := by decide +kernel
theorem dX12_readCond_19 : decode cX12_readCond 19 = .ok (.aload_n 0, 1) := by decide +kernel
theorem dX12_readCond_20 : decode cX12_readCond 20 = .ok (.invokevirtual 306, 3) := by decide +kernel
theorem dX12_readCond_23 : decode cX12_readCond 23 = .ok (.ifCond .ne 5, 3) := by decide +kernel
theorem dX12_readCond_26 : decode cX12_readCond 26 = .ok (.iconst 0, 1) := by decide +kernel
theorem dX12_readCond_27 : decode cX12_readCond 27 = .ok (.ireturn, 1) := by decide +kernel
theorem dX12_readCond_28 : decode cX12_readCond 28 = .ok (.aload_n 0, 1) := by decide +kernel
theorem dX12_readCond_29 : decode cX12_readCond 29 = .ok (.sipush 302, 3) := by decide +kernel
theorem dX12_readCond_32 : decode cX12_readCond 32 = .ok (.iconst 0, 1) := by decide +kernel
theorem dX12_readCond_33 : decode cX12_readCond 33 = .ok (.invokevirtual 290, 3) := by decide +kernel
theorem dX12_readCond_36 : decode cX12_readCond 36 = .ok (.goto (-27), 3) := by decide +kernel
theorem dX12_readCond_39 : decode cX12_readCond 39 = .ok (.iconst 1, 1) := by decide +kernel
theorem dX12_readCond_40 : decode cX12_readCond 40 = .ok (.ireturn, 1) := by decide +kernel
noncomputable def o_X12_readCond_9 (F : Nat) (rA : rs_S → Option (Int32 × rs_S))  : Nat → rs_S → Option ((rs_S) ⊕ (Int32 × rs_S))
  | 0, _ => none
  | f + 1, s => (o_X12_passes F s 40).bind fun x3 => (if x3.1 = 0 then (some (.inl x3.2)) else ((o_X12_readAllOf F rA x3.2).bind fun x5 => (if x5.1 = 0 then (some (.inr (nI 0, x5.2))) else ((o_X12_adds x5.2 (nI 302) (nI 0)).bind fun x7 => (o_X12_readCond_9 F rA f x7)))))
set_option maxHeartbeats 4000000 in
theorem t_X12_readCond_9 {Γ : jg_G} {g : Nat → jg_C} {n r : Nat} (hr : r + 11 ≤ n) (F : Nat) (rA : rs_S → Option (Int32 × rs_S))  (dA : Nat) (h9 : 9 ≤ dA) (hA : ∀ s x, rA s = some x → jc Γ mX12_readAtom dA 0 0 [some (.ref r), none, none, none] (rs_h g r s, n) (.inl (some (.int x.1))) (rs_h g r x.2, n)) (Q : jg_Q) {x : (rs_S) ⊕ (Int32 × rs_S)} (K1 : ∀ y, x = .inl y → jg Γ mX12_readCond (dA + 2) 0 0 39 [none] [] (rs_h g r y, n) Q) (K2 : ∀ z, x = .inr z → Q (.inl (some (.int z.1))) (rs_h g r z.2, n)) : ∀ (f : Nat) (s : rs_S), o_X12_readCond_9 F rA f s = some x → jg Γ mX12_readCond (dA + 2) 0 0 9 [some (.ref r)] [] (rs_h g r s, n) Q := by
  intro f
  induction f with
  | zero => intro s h; rw [o_X12_readCond_9] at h; cases h
  | succ f ih =>
   intro s h
   rw [o_X12_readCond_9] at h
   refine jg_aload_n dX12_readCond_9 rfl ?_
   refine jg_ldcws (i := 40) rfl dX12_readCond_10 ?_
   obtain ⟨x3, e_x3, h⟩ := bd_some h
   refine rs_call (As := [.ref (1000000 + 40)]) kv_X12_284 dX12_readCond_13 hr rfl rfl (by decide) (Nat.le_of_ble_eq_true rfl) rfl (by omega) (Nat.le_of_ble_eq_true rfl) (t_X12_passes hr F s 40 e_x3) ?_
   refine jg_if_eq (x := x3.1) (tgt := 39) dX12_readCond_16 (by decide) (fun c4 => ?_) (fun c4 => ?_)
   · replace h := it_t c4 h
     refine jg_fg (L' := [none]) (by repeat (first | exact trivial | refine ⟨rfl, ?_⟩ | show jg_le _ _)) ?_
     obtain rfl := Option.some.inj h
     exact K1 _ rfl
   · replace h := it_f c4 h
     refine jg_aload_n dX12_readCond_19 rfl ?_
     obtain ⟨x5, e_x5, h⟩ := bd_some h
     refine rs_call (As := []) kv_X12_306 dX12_readCond_20 hr rfl rfl (by decide) (Nat.le_of_ble_eq_true rfl) rfl (by omega) (Nat.le_of_ble_eq_true rfl) (t_X12_readAllOf hr F rA x3.2 dA h9 hA e_x5) ?_
     refine jg_if_ne (x := x5.1) (tgt := 28) dX12_readCond_23 (by decide) (fun c6 => ?_) (fun c6 => ?_)
     · replace h := it_f c6 h
       refine jg_aload_n dX12_readCond_28 rfl ?_
       refine jg_sipush (v := nI 302) dX12_readCond_29 (by decide) ?_
       refine jg_iconst (v := nI 0) dX12_readCond_32 (by decide) ?_
       obtain ⟨x7, e_x7, h⟩ := bd_some h
       refine rs_call (As := [.int (nI 302), .int (nI 0)]) kv_X12_290 dX12_readCond_33 hr rfl rfl (by decide) (Nat.le_of_ble_eq_true rfl) rfl (by omega) (Nat.le_of_ble_eq_true rfl) (t_X12_adds hr x5.2 (nI 302) (nI 0) e_x7) ?_
       refine jg_goto (tgt := 9) dX12_readCond_36 (by decide) ?_
       refine jg_fg (L' := [some (.ref r)]) (by repeat (first | exact trivial | refine ⟨rfl, ?_⟩ | show jg_le _ _)) ?_
       exact ih x7 h
     · replace h := it_t c6 h
       refine jg_iconst (v := nI 0) dX12_readCond_26 (by decide) ?_
       obtain rfl := Option.some.inj h
       exact jg_zreturn dX12_readCond_27 rfl (rfl) (K2 _ rfl)
noncomputable def o_X12_readCond (F : Nat) (rA : rs_S → Option (Int32 × rs_S)) (s : rs_S) : Option (Int32 × rs_S) := (o_X12_readAllOf F rA s).bind fun x1 => (if x1.1 = 0 then (some (nI 0, x1.2)) else ((o_X12_readCond_9 F rA F x1.2).bind fun x8 => (Sum.elim (fun y9 => some (nI 1, y9)) (fun z10 => some z10) x8)))
set_option maxHeartbeats 4000000 in
theorem t_X12_readCond {Γ : jg_G} {g : Nat → jg_C} {n r : Nat} (hr : r + 11 ≤ n) (F : Nat) (rA : rs_S → Option (Int32 × rs_S)) (s : rs_S) (dA : Nat) (h9 : 9 ≤ dA) (hA : ∀ s x, rA s = some x → jc Γ mX12_readAtom dA 0 0 [some (.ref r), none, none, none] (rs_h g r s, n) (.inl (some (.int x.1))) (rs_h g r x.2, n)) {x : Int32 × rs_S} (h : o_X12_readCond F rA s = some x) : jc Γ mX12_readCond (dA + 2) 0 0 [some (.ref r)] (rs_h g r s, n) (.inl (some (.int x.1))) (rs_h g r x.2, n) := by
  refine jc_of ?_
  rw [o_X12_readCond] at h
  refine jg_aload_n dX12_readCond_0 rfl ?_
  obtain ⟨x1, e_x1, h⟩ := bd_some h
  refine rs_call (As := []) kv_X12_306 dX12_readCond_1 hr rfl rfl (by decide) (Nat.le_of_ble_eq_true rfl) rfl (by omega) (Nat.le_of_ble_eq_true rfl) (t_X12_readAllOf hr F rA s dA h9 hA e_x1) ?_
  refine jg_if_ne (x := x1.1) (tgt := 9) dX12_readCond_4 (by decide) (fun c2 => ?_) (fun c2 => ?_)
  · replace h := it_f c2 h
    obtain ⟨x8, e_x8, h⟩ := bd_some h
    refine jg_fg (L' := [some (.ref r)]) (by repeat (first | exact trivial | refine ⟨rfl, ?_⟩ | show jg_le _ _)) ?_
    refine t_X12_readCond_9 hr F rA dA h9 hA _ (x := x8) ?_ ?_ F x1.2 e_x8
    · intro y9 ey; subst ey; replace h := se_l h
      refine jg_iconst (v := nI 1) dX12_readCond_39 (by decide) ?_
      obtain rfl := Option.some.inj h
      exact jg_zreturn dX12_readCond_40 rfl (rfl) ⟨rfl, rfl⟩
    · intro z10 ez; subst ez; replace h := se_r h
      obtain rfl := Option.some.inj h
      exact ⟨rfl, rfl⟩
  · replace h := it_t c2 h
    refine jg_iconst (v := nI 0) dX12_readCond_7 (by decide) ?_
    obtain rfl := Option.some.inj h
    exact jg_zreturn dX12_readCond_8 rfl (rfl) ⟨rfl, rfl⟩
theorem dX12_readAtom_0 : decode cX12_readAtom 0 = .ok (.aload_n 0, 1) := by decide +kernel
theorem dX12_readAtom_1 : decode cX12_readAtom 1 = .ok (.bipush 40, 2) := by decide +kernel
theorem dX12_readAtom_3 : decode cX12_readAtom 3 = .ok (.invokevirtual 272, 3) := by decide +kernel
theorem dX12_readAtom_6 : decode cX12_readAtom 6 = .ok (.ifCond .eq 50, 3) := by decide +kernel
theorem dX12_readAtom_9 : decode cX12_readAtom 9 = .ok (.aload_n 0, 1) := by decide +kernel
theorem dX12_readAtom_10 : decode cX12_readAtom 10 = .ok (.getfield 275, 3) := by decide +kernel
theorem dX12_readAtom_13 : decode cX12_readAtom 13 = .ok (.bipush 6, 2) := by decide +kernel
theorem dX12_readAtom_15 : decode cX12_readAtom 15 = .ok (.if_icmp .ne 5, 3) := by decide +kernel
theorem dX12_readAtom_18 : decode cX12_readAtom 18 = .ok (.iconst 0, 1) := by decide +kernel
theorem dX12_readAtom_19 : decode cX12_readAtom 19 = .ok (.ireturn, 1) := by decide +kernel
theorem dX12_readAtom_20 : decode cX12_readAtom 20 = .ok (.aload_n 0, 1) := by decide +kernel
theorem dX12_readAtom_21 : decode cX12_readAtom 21 = .ok (.dup, 1) := by decide +kernel
theorem dX12_readAtom_22 : decode cX12_readAtom 22 = .ok (.getfield 275, 3) := by decide +kernel
theorem dX12_readAtom_25 : decode cX12_readAtom 25 = .ok (.iconst 1, 1) := by decide +kernel
theorem dX12_readAtom_26 : decode cX12_readAtom 26 = .ok (.iadd, 1) := by decide +kernel
theorem dX12_readAtom_27 : decode cX12_readAtom 27 = .ok (.putfield 275, 3) := by decide +kernel
theorem dX12_readAtom_30 : decode cX12_readAtom 30 = .ok (.aload_n 0, 1) := by decide +kernel
theorem dX12_readAtom_31 : decode cX12_readAtom 31 = .ok (.invokevirtual 278, 3) := by decide +kernel
theorem dX12_readAtom_34 : decode cX12_readAtom 34 = .ok (.ifCond .ne 5, 3) := by decide +kernel
theorem dX12_readAtom_37 : decode cX12_readAtom 37 = .ok (.iconst 0, 1) := by decide +kernel
theorem dX12_readAtom_38 : decode cX12_readAtom 38 = .ok (.ireturn, 1) := by decide +kernel
theorem dX12_readAtom_39 : decode cX12_readAtom 39 = .ok (.aload_n 0, 1) := by decide +kernel
theorem dX12_readAtom_40 : decode cX12_readAtom 40 = .ok (.dup, 1) := by decide +kernel
theorem dX12_readAtom_41 : decode cX12_readAtom 41 = .ok (.getfield 275, 3) := by decide +kernel
theorem dX12_readAtom_44 : decode cX12_readAtom 44 = .ok (.iconst 1, 1) := by decide +kernel
theorem dX12_readAtom_45 : decode cX12_readAtom 45 = .ok (.isub, 1) := by decide +kernel
theorem dX12_readAtom_46 : decode cX12_readAtom 46 = .ok (.putfield 275, 3) := by decide +kernel
theorem dX12_readAtom_49 : decode cX12_readAtom 49 = .ok (.aload_n 0, 1) := by decide +kernel
theorem dX12_readAtom_50 : decode cX12_readAtom 50 = .ok (.bipush 41, 2) := by decide +kernel
theorem dX12_readAtom_52 : decode cX12_readAtom 52 = .ok (.invokevirtual 272, 3) := by decide +kernel
theorem dX12_readAtom_55 : decode cX12_readAtom 55 = .ok (.ireturn, 1) := by decide +kernel
theorem dX12_readAtom_56 : decode cX12_readAtom 56 = .ok (.aload_n 0, 1) := by decide +kernel
theorem dX12_readAtom_57 : decode cX12_readAtom 57 = .ok (.ldc_w 282, 3) := by decide +kernel
theorem dX12_readAtom_60 : decode cX12_readAtom 60 = .ok (.invokevirtual 284, 3) := by decide +kernel
theorem dX12_readAtom_63 : decode cX12_readAtom 63 = .ok (.ifCond .eq 53, 3) := by decide +kernel
theorem dX12_readAtom_66 : decode cX12_readAtom 66 = .ok (.aload_n 0, 1) := by decide +kernel
theorem dX12_readAtom_67 : decode cX12_readAtom 67 = .ok (.getfield 275, 3) := by decide +kernel
theorem dX12_readAtom_70 : decode cX12_readAtom 70 = .ok (.bipush 6, 2) := by decide +kernel
theorem dX12_readAtom_72 : decode cX12_readAtom 72 = .ok (.if_icmp .ne 5, 3) := by decide +kernel
theorem dX12_readAtom_75 : decode cX12_readAtom 75 = .ok (.iconst 0, 1) := by decide +kernel
theorem dX12_readAtom_76 : decode cX12_readAtom 76 = .ok (.ireturn, 1) := by decide +kernel
theorem dX12_readAtom_77 : decode cX12_readAtom 77 = .ok (.aload_n 0, 1) := by decide +kernel
theorem dX12_readAtom_78 : decode cX12_readAtom 78 = .ok (.dup, 1) := by decide +kernel
theorem dX12_readAtom_79 : decode cX12_readAtom 79 = .ok (.getfield 275, 3) := by decide +kernel
theorem dX12_readAtom_82 : decode cX12_readAtom 82 = .ok (.iconst 1, 1) := by decide +kernel
theorem dX12_readAtom_83 : decode cX12_readAtom 83 = .ok (.iadd, 1) := by decide +kernel
theorem dX12_readAtom_84 : decode cX12_readAtom 84 = .ok (.putfield 275, 3) := by decide +kernel
theorem dX12_readAtom_87 : decode cX12_readAtom 87 = .ok (.aload_n 0, 1) := by decide +kernel
theorem dX12_readAtom_88 : decode cX12_readAtom 88 = .ok (.invokevirtual 287, 3) := by decide +kernel
theorem dX12_readAtom_91 : decode cX12_readAtom 91 = .ok (.ifCond .ne 5, 3) := by decide +kernel
theorem dX12_readAtom_94 : decode cX12_readAtom 94 = .ok (.iconst 0, 1) := by decide +kernel
theorem dX12_readAtom_95 : decode cX12_readAtom 95 = .ok (.ireturn, 1) := by decide +kernel
theorem dX12_readAtom_96 : decode cX12_readAtom 96 = .ok (.aload_n 0, 1) := by decide +kernel
theorem dX12_readAtom_97 : decode cX12_readAtom 97 = .ok (.dup, 1) := by decide +kernel
theorem dX12_readAtom_98 : decode cX12_readAtom 98 = .ok (.getfield 275, 3) := by decide +kernel
theorem dX12_readAtom_101 : decode cX12_readAtom 101 = .ok (.iconst 1, 1) := by decide +kernel
theorem dX12_readAtom_102 : decode cX12_readAtom 102 = .ok (.isub, 1) := by decide +kernel
theorem dX12_readAtom_103 : decode cX12_readAtom 103 = .ok (.putfield 275, 3) := by decide +kernel
theorem dX12_readAtom_106 : decode cX12_readAtom 106 = .ok (.aload_n 0, 1) := by decide +kernel
theorem dX12_readAtom_107 : decode cX12_readAtom 107 = .ok (.sipush 300, 3) := by decide +kernel
theorem dX12_readAtom_110 : decode cX12_readAtom 110 = .ok (.iconst 0, 1) := by decide +kernel
theorem dX12_readAtom_111 : decode cX12_readAtom 111 = .ok (.invokevirtual 290, 3) := by decide +kernel
theorem dX12_readAtom_114 : decode cX12_readAtom 114 = .ok (.iconst 1, 1) := by decide +kernel
theorem dX12_readAtom_115 : decode cX12_readAtom 115 = .ok (.ireturn, 1) := by decide +kernel
theorem dX12_readAtom_116 : decode cX12_readAtom 116 = .ok (.aload_n 0, 1) := by decide +kernel
theorem dX12_readAtom_117 : decode cX12_readAtom 117 = .ok (.invokevirtual 235, 3) := by decide +kernel
theorem dX12_readAtom_120 : decode cX12_readAtom 120 = .ok (.aload_n 0, 1) := by decide +kernel
theorem dX12_readAtom_121 : decode cX12_readAtom 121 = .ok (.invokevirtual 294, 3) := by decide +kernel
theorem dX12_readAtom_124 : decode cX12_readAtom 124 = .ok (.ifCond .lt 14, 3) := by decide +kernel
theorem dX12_readAtom_127 : decode cX12_readAtom 127 = .ok (.aload_n 0, 1) := by decide +kernel
theorem dX12_readAtom_128 : decode cX12_readAtom 128 = .ok (.aload_n 0, 1) := by decide +kernel
theorem dX12_readAtom_129 : decode cX12_readAtom 129 = .ok (.invokevirtual 294, 3) := by decide +kernel
theorem dX12_readAtom_132 : decode cX12_readAtom 132 = .ok (.iconst 0, 1) := by decide +kernel
theorem dX12_readAtom_133 : decode cX12_readAtom 133 = .ok (.invokevirtual 290, 3) := by decide +kernel
theorem dX12_readAtom_136 : decode cX12_readAtom 136 = .ok (.iconst 1, 1) := by decide +kernel
theorem dX12_readAtom_137 : decode cX12_readAtom 137 = .ok (.ireturn, 1) := by decide +kernel
theorem dX12_readAtom_138 : decode cX12_readAtom 138 = .ok (.aload_n 0, 1) := by decide +kernel
theorem dX12_readAtom_139 : decode cX12_readAtom 139 = .ok (.invokevirtual 297, 3) := by decide +kernel
theorem dX12_readAtom_142 : decode cX12_readAtom 142 = .ok (.istore_n 1, 1) := by decide +kernel
theorem dX12_readAtom_143 : decode cX12_readAtom 143 = .ok (.iload_n 1, 1) := by decide +kernel
theorem dX12_readAtom_144 : decode cX12_readAtom 144 = .ok (.ifCond .ge 5, 3) := by decide +kernel
theorem dX12_readAtom_147 : decode cX12_readAtom 147 = .ok (.iconst 0, 1) := by decide +kernel
theorem dX12_readAtom_148 : decode cX12_readAtom 148 = .ok (.ireturn, 1) := by decide +kernel
theorem dX12_readAtom_149 : decode cX12_readAtom 149 = .ok (.aload_n 0, 1) := by decide +kernel
theorem dX12_readAtom_150 : decode cX12_readAtom 150 = .ok (.bipush 60, 2) := by decide +kernel
theorem dX12_readAtom_152 : decode cX12_readAtom 152 = .ok (.invokevirtual 272, 3) := by decide +kernel
theorem dX12_readAtom_155 : decode cX12_readAtom 155 = .ok (.istore_n 2, 1) := by decide +kernel
theorem dX12_readAtom_156 : decode cX12_readAtom 156 = .ok (.iload_n 2, 1) := by decide +kernel
theorem dX12_readAtom_157 : decode cX12_readAtom 157 = .ok (.ifCond .ne 14, 3) := by decide +kernel
theorem dX12_readAtom_160 : decode cX12_readAtom 160 = .ok (.aload_n 0, 1) := by decide +kernel
theorem dX12_readAtom_161 : decode cX12_readAtom 161 = .ok (.bipush 62, 2) := by decide +kernel
theorem dX12_readAtom_163 : decode cX12_readAtom 163 = .ok (.invokevirtual 272, 3) := by decide +kernel
theorem dX12_readAtom_166 : decode cX12_readAtom 166 = .ok (.ifCond .ne 5, 3) := by decide +kernel
theorem dX12_readAtom_169 : decode cX12_readAtom 169 = .ok (.iconst 0, 1) := by decide +kernel
theorem dX12_readAtom_170 : decode cX12_readAtom 170 = .ok (.ireturn, 1) := by decide +kernel
theorem dX12_readAtom_171 : decode cX12_readAtom 171 = .ok (.aload_n 0, 1) := by decide +kernel
theorem dX12_readAtom_172 : decode cX12_readAtom 172 = .ok (.ldc_w 300, 3) := by decide +kernel
theorem dX12_readAtom_175 : decode cX12_readAtom 175 = .ok (.invokevirtual 301, 3) := by decide +kernel
theorem dX12_readAtom_178 : decode cX12_readAtom 178 = .ok (.istore_n 3, 1) := by decide +kernel
theorem dX12_readAtom_179 : decode cX12_readAtom 179 = .ok (.iload_n 3, 1) := by decide +kernel
theorem dX12_readAtom_180 : decode cX12_readAtom 180 = .ok (.ifCond .ge 5, 3) := by decide +kernel
theorem dX12_readAtom_183 : decode cX12_readAtom 183 = .ok (.iconst 0, 1) := by decide +kernel
theorem dX12_readAtom_184 : decode cX12_readAtom 184 = .ok (.ireturn, 1) := by decide +kernel
theorem dX12_readAtom_185 : decode cX12_readAtom 185 = .ok (.aload_n 0, 1) := by decide +kernel
theorem dX12_readAtom_186 : decode cX12_readAtom 186 = .ok (.iload_n 2, 1) := by decide +kernel
theorem dX12_readAtom_187 : decode cX12_readAtom 187 = .ok (.ifCond .eq 8, 3) := by decide +kernel
theorem dX12_readAtom_190 : decode cX12_readAtom 190 = .ok (.bipush 100, 2) := by decide +kernel
theorem dX12_readAtom_192 : decode cX12_readAtom 192 = .ok (.goto 6, 3) := by decide +kernel
theorem dX12_readAtom_195 : decode cX12_readAtom 195 = .ok (.sipush 200, 3) := by decide +kernel
theorem dX12_readAtom_198 : decode cX12_readAtom 198 = .ok (.iload_n 1, 1) := by decide +kernel
theorem dX12_readAtom_199 : decode cX12_readAtom 199 = .ok (.iadd, 1) := by decide +kernel
theorem dX12_readAtom_200 : decode cX12_readAtom 200 = .ok (.iload_n 3, 1) := by decide +kernel
theorem dX12_readAtom_201 : decode cX12_readAtom 201 = .ok (.invokevirtual 290, 3) := by decide +kernel
theorem dX12_readAtom_204 : decode cX12_readAtom 204 = .ok (.iconst 1, 1) := by decide +kernel
theorem dX12_readAtom_205 : decode cX12_readAtom 205 = .ok (.ireturn, 1) := by decide +kernel
noncomputable def o_X12_readAtom (F : Nat) (rA : rs_S → Option (Int32 × rs_S)) (rC : rs_S → Option (Int32 × rs_S)) (s : rs_S) : Option (Int32 × rs_S) := (o_X12_sign F s (nI 40)).bind fun x1 => (if x1.1 = 0 then ((o_X12_passes F x1.2 28).bind fun x3 => (if x3.1 = 0 then ((o_X12_word F x3.2).bind fun x5 => ((o_X12_wordOf F x5).bind fun x6 => (if x6 < 0 then ((o_X12_factOf F x5).bind fun x8 => (if 0 ≤ x8 then ((o_X12_sign F x5 (nI 60)).bind fun x10 => (if x10.1 = 0 then ((o_X12_sign F x10.2 (nI 62)).bind fun x17 => (if x17.1 = 0 then (some (nI 0, x17.2)) else ((o_X12_number F x17.2 (nI 999999)).bind fun x19 => (if 0 ≤ x19.1 then (if x10.1 = 0 then ((o_X12_adds x19.2 ((nI 200) + x8) x19.1).bind fun x22 => (some (nI 1, x22))) else ((o_X12_adds x19.2 ((nI 100) + x8) x19.1).bind fun x23 => (some (nI 1, x23)))) else (some (nI 0, x19.2)))))) else ((o_X12_number F x10.2 (nI 999999)).bind fun x12 => (if 0 ≤ x12.1 then (if x10.1 = 0 then ((o_X12_adds x12.2 ((nI 200) + x8) x12.1).bind fun x15 => (some (nI 1, x15))) else ((o_X12_adds x12.2 ((nI 100) + x8) x12.1).bind fun x16 => (some (nI 1, x16)))) else (some (nI 0, x12.2)))))) else (some (nI 0, x5)))) else ((o_X12_wordOf F x5).bind fun x24 => ((o_X12_adds x5 x24 (nI 0)).bind fun x25 => (some (nI 1, x25))))))) else (if (x3.2.1 12) = (nI 6) then (some (nI 0, x3.2)) else ((rA (pN x3.2 12 ((x3.2.1 12) + (nI 1)))).bind fun x27 => (if x27.1 = 0 then (some (nI 0, x27.2)) else ((o_X12_adds (pN x27.2 12 ((x27.2.1 12) - (nI 1))) (nI 300) (nI 0)).bind fun x29 => (some (nI 1, x29)))))))) else (if (x1.2.1 12) = (nI 6) then (some (nI 0, x1.2)) else ((rC (pN x1.2 12 ((x1.2.1 12) + (nI 1)))).bind fun x31 => (if x31.1 = 0 then (some (nI 0, x31.2)) else ((o_X12_sign F (pN x31.2 12 ((x31.2.1 12) - (nI 1))) (nI 41)).bind fun x33 => (if zb x33.1 then some (x33.1, x33.2) else none))))))
set_option maxHeartbeats 4000000 in
theorem t_X12_readAtom {Γ : jg_G} {g : Nat → jg_C} {n r : Nat} (hr : r + 11 ≤ n) (F : Nat) (rA : rs_S → Option (Int32 × rs_S)) (rC : rs_S → Option (Int32 × rs_S)) (s : rs_S) (dA : Nat) (h9 : 9 ≤ dA) (hA : ∀ s x, rA s = some x → jc Γ mX12_readAtom dA 0 0 [some (.ref r), none, none, none] (rs_h g r s, n) (.inl (some (.int x.1))) (rs_h g r x.2, n)) (hC : ∀ s x, rC s = some x → jc Γ mX12_readCond (dA + 2) 0 0 [some (.ref r)] (rs_h g r s, n) (.inl (some (.int x.1))) (rs_h g r x.2, n)) {x : Int32 × rs_S} (h : o_X12_readAtom F rA rC s = some x) : jc Γ mX12_readAtom (dA + 3) 0 0 [some (.ref r), none, none, none] (rs_h g r s, n) (.inl (some (.int x.1))) (rs_h g r x.2, n) := by
  refine jc_of ?_
  rw [o_X12_readAtom] at h
  refine jg_aload_n dX12_readAtom_0 rfl ?_
  refine jg_bipush (v := nI 40) dX12_readAtom_1 (by decide) ?_
  obtain ⟨x1, e_x1, h⟩ := bd_some h
  refine rs_call (As := [.int (nI 40)]) kv_X12_272 dX12_readAtom_3 hr rfl rfl (by decide) (Nat.le_of_ble_eq_true rfl) rfl (by omega) (Nat.le_of_ble_eq_true rfl) (t_X12_sign hr F s (nI 40) e_x1) ?_
  refine jg_if_eq (x := x1.1) (tgt := 56) dX12_readAtom_6 (by decide) (fun c2 => ?_) (fun c2 => ?_)
  · replace h := it_t c2 h
    refine jg_aload_n dX12_readAtom_56 rfl ?_
    refine jg_ldcws (i := 28) rfl dX12_readAtom_57 ?_
    obtain ⟨x3, e_x3, h⟩ := bd_some h
    refine rs_call (As := [.ref (1000000 + 28)]) kv_X12_284 dX12_readAtom_60 hr rfl rfl (by decide) (Nat.le_of_ble_eq_true rfl) rfl (by omega) (Nat.le_of_ble_eq_true rfl) (t_X12_passes hr F x1.2 28 e_x3) ?_
    refine jg_if_eq (x := x3.1) (tgt := 116) dX12_readAtom_63 (by decide) (fun c4 => ?_) (fun c4 => ?_)
    · replace h := it_t c4 h
      refine jg_aload_n dX12_readAtom_116 rfl ?_
      obtain ⟨x5, e_x5, h⟩ := bd_some h
      refine rs_call (As := []) kv_X12_235 dX12_readAtom_117 hr rfl rfl (by decide) (Nat.le_of_ble_eq_true rfl) rfl (by omega) (Nat.le_of_ble_eq_true rfl) (t_X12_word hr F x3.2 e_x5) ?_
      refine jg_aload_n dX12_readAtom_120 rfl ?_
      obtain ⟨x6, e_x6, h⟩ := bd_some h
      refine rs_call (As := []) kv_X12_294 dX12_readAtom_121 hr rfl rfl (by decide) (Nat.le_of_ble_eq_true rfl) rfl (by omega) (Nat.le_of_ble_eq_true rfl) (t_X12_wordOf hr F x5 e_x6) ?_
      refine jg_if_lt (x := x6) (tgt := 138) dX12_readAtom_124 (by decide) (fun c7 => ?_) (fun c7 => ?_)
      · replace h := it_t c7 h
        refine jg_aload_n dX12_readAtom_138 rfl ?_
        obtain ⟨x8, e_x8, h⟩ := bd_some h
        refine rs_call (As := []) kv_X12_297 dX12_readAtom_139 hr rfl rfl (by decide) (Nat.le_of_ble_eq_true rfl) rfl (by omega) (Nat.le_of_ble_eq_true rfl) (t_X12_factOf hr F x5 e_x8) ?_
        refine jg_istore_n (L' := [some (.ref r), some (.int x8), none, none]) dX12_readAtom_142 (by decide) rfl ?_
        refine jg_iload_n dX12_readAtom_143 rfl ?_
        refine jg_if_ge (x := x8) (tgt := 149) dX12_readAtom_144 (by decide) (fun c9 => ?_) (fun c9 => ?_)
        · replace h := it_t c9 h
          refine jg_aload_n dX12_readAtom_149 rfl ?_
          refine jg_bipush (v := nI 60) dX12_readAtom_150 (by decide) ?_
          obtain ⟨x10, e_x10, h⟩ := bd_some h
          refine rs_call (As := [.int (nI 60)]) kv_X12_272 dX12_readAtom_152 hr rfl rfl (by decide) (Nat.le_of_ble_eq_true rfl) rfl (by omega) (Nat.le_of_ble_eq_true rfl) (t_X12_sign hr F x5 (nI 60) e_x10) ?_
          refine jg_istore_n (L' := [some (.ref r), some (.int x8), some (.int x10.1), none]) dX12_readAtom_155 (by decide) rfl ?_
          refine jg_iload_n dX12_readAtom_156 rfl ?_
          refine jg_if_ne (x := x10.1) (tgt := 171) dX12_readAtom_157 (by decide) (fun c11 => ?_) (fun c11 => ?_)
          · replace h := it_f c11 h
            refine jg_aload_n dX12_readAtom_171 rfl ?_
            refine jg_ldcw kk_X12_300 dX12_readAtom_172 ?_
            rw [show (999999 : Int32) = nI 999999 from rfl]
            obtain ⟨x12, e_x12, h⟩ := bd_some h
            refine rs_call (As := [.int (nI 999999)]) kv_X12_301 dX12_readAtom_175 hr rfl rfl (by decide) (Nat.le_of_ble_eq_true rfl) rfl (by omega) (Nat.le_of_ble_eq_true rfl) (t_X12_number hr F x10.2 (nI 999999) e_x12) ?_
            refine jg_istore_n (L' := [some (.ref r), some (.int x8), some (.int x10.1), some (.int x12.1)]) dX12_readAtom_178 (by decide) rfl ?_
            refine jg_iload_n dX12_readAtom_179 rfl ?_
            refine jg_if_ge (x := x12.1) (tgt := 185) dX12_readAtom_180 (by decide) (fun c13 => ?_) (fun c13 => ?_)
            · replace h := it_t c13 h
              refine jg_aload_n dX12_readAtom_185 rfl ?_
              refine jg_iload_n dX12_readAtom_186 rfl ?_
              refine jg_if_eq (x := x10.1) (tgt := 195) dX12_readAtom_187 (by decide) (fun c14 => ?_) (fun c14 => ?_)
              · replace h := it_t c14 h
                refine jg_sipush (v := nI 200) dX12_readAtom_195 (by decide) ?_
                refine jg_iload_n dX12_readAtom_198 rfl ?_
                refine jg_iadd (x := (nI 200)) (y := x8) dX12_readAtom_199  ?_
                refine jg_iload_n dX12_readAtom_200 rfl ?_
                obtain ⟨x15, e_x15, h⟩ := bd_some h
                refine rs_call (As := [.int ((nI 200) + x8), .int x12.1]) kv_X12_290 dX12_readAtom_201 hr rfl rfl (by decide) (Nat.le_of_ble_eq_true rfl) rfl (by omega) (Nat.le_of_ble_eq_true rfl) (t_X12_adds hr x12.2 ((nI 200) + x8) x12.1 e_x15) ?_
                refine jg_iconst (v := nI 1) dX12_readAtom_204 (by decide) ?_
                obtain rfl := Option.some.inj h
                exact jg_zreturn dX12_readAtom_205 rfl (rfl) ⟨rfl, rfl⟩
              · replace h := it_f c14 h
                refine jg_bipush (v := nI 100) dX12_readAtom_190 (by decide) ?_
                refine jg_goto (tgt := 198) dX12_readAtom_192 (by decide) ?_
                refine jg_iload_n dX12_readAtom_198 rfl ?_
                refine jg_iadd (x := (nI 100)) (y := x8) dX12_readAtom_199  ?_
                refine jg_iload_n dX12_readAtom_200 rfl ?_
                obtain ⟨x16, e_x16, h⟩ := bd_some h
                refine rs_call (As := [.int ((nI 100) + x8), .int x12.1]) kv_X12_290 dX12_readAtom_201 hr rfl rfl (by decide) (Nat.le_of_ble_eq_true rfl) rfl (by omega) (Nat.le_of_ble_eq_true rfl) (t_X12_adds hr x12.2 ((nI 100) + x8) x12.1 e_x16) ?_
                refine jg_iconst (v := nI 1) dX12_readAtom_204 (by decide) ?_
                obtain rfl := Option.some.inj h
                exact jg_zreturn dX12_readAtom_205 rfl (rfl) ⟨rfl, rfl⟩
            · replace h := it_f c13 h
              refine jg_iconst (v := nI 0) dX12_readAtom_183 (by decide) ?_
              obtain rfl := Option.some.inj h
              exact jg_zreturn dX12_readAtom_184 rfl (rfl) ⟨rfl, rfl⟩
          · replace h := it_t c11 h
            refine jg_aload_n dX12_readAtom_160 rfl ?_
            refine jg_bipush (v := nI 62) dX12_readAtom_161 (by decide) ?_
            obtain ⟨x17, e_x17, h⟩ := bd_some h
            refine rs_call (As := [.int (nI 62)]) kv_X12_272 dX12_readAtom_163 hr rfl rfl (by decide) (Nat.le_of_ble_eq_true rfl) rfl (by omega) (Nat.le_of_ble_eq_true rfl) (t_X12_sign hr F x10.2 (nI 62) e_x17) ?_
            refine jg_if_ne (x := x17.1) (tgt := 171) dX12_readAtom_166 (by decide) (fun c18 => ?_) (fun c18 => ?_)
            · replace h := it_f c18 h
              refine jg_aload_n dX12_readAtom_171 rfl ?_
              refine jg_ldcw kk_X12_300 dX12_readAtom_172 ?_
              rw [show (999999 : Int32) = nI 999999 from rfl]
              obtain ⟨x19, e_x19, h⟩ := bd_some h
              refine rs_call (As := [.int (nI 999999)]) kv_X12_301 dX12_readAtom_175 hr rfl rfl (by decide) (Nat.le_of_ble_eq_true rfl) rfl (by omega) (Nat.le_of_ble_eq_true rfl) (t_X12_number hr F x17.2 (nI 999999) e_x19) ?_
              refine jg_istore_n (L' := [some (.ref r), some (.int x8), some (.int x10.1), some (.int x19.1)]) dX12_readAtom_178 (by decide) rfl ?_
              refine jg_iload_n dX12_readAtom_179 rfl ?_
              refine jg_if_ge (x := x19.1) (tgt := 185) dX12_readAtom_180 (by decide) (fun c20 => ?_) (fun c20 => ?_)
              · replace h := it_t c20 h
                refine jg_aload_n dX12_readAtom_185 rfl ?_
                refine jg_iload_n dX12_readAtom_186 rfl ?_
                refine jg_if_eq (x := x10.1) (tgt := 195) dX12_readAtom_187 (by decide) (fun c21 => ?_) (fun c21 => ?_)
                · replace h := it_t c21 h
                  refine jg_sipush (v := nI 200) dX12_readAtom_195 (by decide) ?_
                  refine jg_iload_n dX12_readAtom_198 rfl ?_
                  refine jg_iadd (x := (nI 200)) (y := x8) dX12_readAtom_199  ?_
                  refine jg_iload_n dX12_readAtom_200 rfl ?_
                  obtain ⟨x22, e_x22, h⟩ := bd_some h
                  refine rs_call (As := [.int ((nI 200) + x8), .int x19.1]) kv_X12_290 dX12_readAtom_201 hr rfl rfl (by decide) (Nat.le_of_ble_eq_true rfl) rfl (by omega) (Nat.le_of_ble_eq_true rfl) (t_X12_adds hr x19.2 ((nI 200) + x8) x19.1 e_x22) ?_
                  refine jg_iconst (v := nI 1) dX12_readAtom_204 (by decide) ?_
                  obtain rfl := Option.some.inj h
                  exact jg_zreturn dX12_readAtom_205 rfl (rfl) ⟨rfl, rfl⟩
                · replace h := it_f c21 h
                  refine jg_bipush (v := nI 100) dX12_readAtom_190 (by decide) ?_
                  refine jg_goto (tgt := 198) dX12_readAtom_192 (by decide) ?_
                  refine jg_iload_n dX12_readAtom_198 rfl ?_
                  refine jg_iadd (x := (nI 100)) (y := x8) dX12_readAtom_199  ?_
                  refine jg_iload_n dX12_readAtom_200 rfl ?_
                  obtain ⟨x23, e_x23, h⟩ := bd_some h
                  refine rs_call (As := [.int ((nI 100) + x8), .int x19.1]) kv_X12_290 dX12_readAtom_201 hr rfl rfl (by decide) (Nat.le_of_ble_eq_true rfl) rfl (by omega) (Nat.le_of_ble_eq_true rfl) (t_X12_adds hr x19.2 ((nI 100) + x8) x19.1 e_x23) ?_
                  refine jg_iconst (v := nI 1) dX12_readAtom_204 (by decide) ?_
                  obtain rfl := Option.some.inj h
                  exact jg_zreturn dX12_readAtom_205 rfl (rfl) ⟨rfl, rfl⟩
              · replace h := it_f c20 h
                refine jg_iconst (v := nI 0) dX12_readAtom_183 (by decide) ?_
                obtain rfl := Option.some.inj h
                exact jg_zreturn dX12_readAtom_184 rfl (rfl) ⟨rfl, rfl⟩
            · replace h := it_t c18 h
              refine jg_iconst (v := nI 0) dX12_readAtom_169 (by decide) ?_
              obtain rfl := Option.some.inj h
              exact jg_zreturn dX12_readAtom_170 rfl (rfl) ⟨rfl, rfl⟩
        · replace h := it_f c9 h
          refine jg_iconst (v := nI 0) dX12_readAtom_147 (by decide) ?_
          obtain rfl := Option.some.inj h
          exact jg_zreturn dX12_readAtom_148 rfl (rfl) ⟨rfl, rfl⟩
      · replace h := it_f c7 h
        refine jg_aload_n dX12_readAtom_127 rfl ?_
        refine jg_aload_n dX12_readAtom_128 rfl ?_
        obtain ⟨x24, e_x24, h⟩ := bd_some h
        refine rs_call (As := []) kv_X12_294 dX12_readAtom_129 hr rfl rfl (by decide) (Nat.le_of_ble_eq_true rfl) rfl (by omega) (Nat.le_of_ble_eq_true rfl) (t_X12_wordOf hr F x5 e_x24) ?_
        refine jg_iconst (v := nI 0) dX12_readAtom_132 (by decide) ?_
        obtain ⟨x25, e_x25, h⟩ := bd_some h
        refine rs_call (As := [.int x24, .int (nI 0)]) kv_X12_290 dX12_readAtom_133 hr rfl rfl (by decide) (Nat.le_of_ble_eq_true rfl) rfl (by omega) (Nat.le_of_ble_eq_true rfl) (t_X12_adds hr x5 x24 (nI 0) e_x25) ?_
        refine jg_iconst (v := nI 1) dX12_readAtom_136 (by decide) ?_
        obtain rfl := Option.some.inj h
        exact jg_zreturn dX12_readAtom_137 rfl (rfl) ⟨rfl, rfl⟩
    · replace h := it_f c4 h
      refine jg_aload_n dX12_readAtom_66 rfl ?_
      refine rs_ga fl_X12_275 dX12_readAtom_67 hr rfl ?_
      refine jg_bipush (v := nI 6) dX12_readAtom_70 (by decide) ?_
      refine jg_icmp_ne (x := (x3.2.1 12)) (y := (nI 6)) (tgt := 77) dX12_readAtom_72 (by decide) (fun c26 => ?_) (fun c26 => ?_)
      · replace h := it_f c26 h
        refine jg_aload_n dX12_readAtom_77 rfl ?_
        refine jg_dup dX12_readAtom_78 rfl ?_
        refine rs_ga fl_X12_275 dX12_readAtom_79 hr rfl ?_
        refine jg_iconst (v := nI 1) dX12_readAtom_82 (by decide) ?_
        refine jg_iadd (x := (x3.2.1 12)) (y := (nI 1)) dX12_readAtom_83  ?_
        refine rs_putD (s := x3.2) (k := 12) (x := ((x3.2.1 12) + (nI 1))) fl_X12_275 dX12_readAtom_84 hr (by decide) (rfl) rfl rfl ?_
        refine jg_aload_n dX12_readAtom_87 rfl ?_
        obtain ⟨x27, e_x27, h⟩ := bd_some h
        refine rs_call (As := []) kv_X12_287 dX12_readAtom_88 hr rfl rfl (by decide) (Nat.le_of_ble_eq_true rfl) rfl (by omega) (Nat.le_of_ble_eq_true rfl) (hA (pN x3.2 12 ((x3.2.1 12) + (nI 1))) _ e_x27) ?_
        refine jg_if_ne (x := x27.1) (tgt := 96) dX12_readAtom_91 (by decide) (fun c28 => ?_) (fun c28 => ?_)
        · replace h := it_f c28 h
          refine jg_aload_n dX12_readAtom_96 rfl ?_
          refine jg_dup dX12_readAtom_97 rfl ?_
          refine rs_ga fl_X12_275 dX12_readAtom_98 hr rfl ?_
          refine jg_iconst (v := nI 1) dX12_readAtom_101 (by decide) ?_
          refine jg_isub (x := (x27.2.1 12)) (y := (nI 1)) dX12_readAtom_102  ?_
          refine rs_putD (s := x27.2) (k := 12) (x := ((x27.2.1 12) - (nI 1))) fl_X12_275 dX12_readAtom_103 hr (by decide) (rfl) rfl rfl ?_
          refine jg_aload_n dX12_readAtom_106 rfl ?_
          refine jg_sipush (v := nI 300) dX12_readAtom_107 (by decide) ?_
          refine jg_iconst (v := nI 0) dX12_readAtom_110 (by decide) ?_
          obtain ⟨x29, e_x29, h⟩ := bd_some h
          refine rs_call (As := [.int (nI 300), .int (nI 0)]) kv_X12_290 dX12_readAtom_111 hr rfl rfl (by decide) (Nat.le_of_ble_eq_true rfl) rfl (by omega) (Nat.le_of_ble_eq_true rfl) (t_X12_adds hr (pN x27.2 12 ((x27.2.1 12) - (nI 1))) (nI 300) (nI 0) e_x29) ?_
          refine jg_iconst (v := nI 1) dX12_readAtom_114 (by decide) ?_
          obtain rfl := Option.some.inj h
          exact jg_zreturn dX12_readAtom_115 rfl (rfl) ⟨rfl, rfl⟩
        · replace h := it_t c28 h
          refine jg_iconst (v := nI 0) dX12_readAtom_94 (by decide) ?_
          obtain rfl := Option.some.inj h
          exact jg_zreturn dX12_readAtom_95 rfl (rfl) ⟨rfl, rfl⟩
      · replace h := it_t c26 h
        refine jg_iconst (v := nI 0) dX12_readAtom_75 (by decide) ?_
        obtain rfl := Option.some.inj h
        exact jg_zreturn dX12_readAtom_76 rfl (rfl) ⟨rfl, rfl⟩
  · replace h := it_f c2 h
    refine jg_aload_n dX12_readAtom_9 rfl ?_
    refine rs_ga fl_X12_275 dX12_readAtom_10 hr rfl ?_
    refine jg_bipush (v := nI 6) dX12_readAtom_13 (by decide) ?_
    refine jg_icmp_ne (x := (x1.2.1 12)) (y := (nI 6)) (tgt := 20) dX12_readAtom_15 (by decide) (fun c30 => ?_) (fun c30 => ?_)
    · replace h := it_f c30 h
      refine jg_aload_n dX12_readAtom_20 rfl ?_
      refine jg_dup dX12_readAtom_21 rfl ?_
      refine rs_ga fl_X12_275 dX12_readAtom_22 hr rfl ?_
      refine jg_iconst (v := nI 1) dX12_readAtom_25 (by decide) ?_
      refine jg_iadd (x := (x1.2.1 12)) (y := (nI 1)) dX12_readAtom_26  ?_
      refine rs_putD (s := x1.2) (k := 12) (x := ((x1.2.1 12) + (nI 1))) fl_X12_275 dX12_readAtom_27 hr (by decide) (rfl) rfl rfl ?_
      refine jg_aload_n dX12_readAtom_30 rfl ?_
      obtain ⟨x31, e_x31, h⟩ := bd_some h
      refine rs_call (As := []) kv_X12_278 dX12_readAtom_31 hr rfl rfl (by decide) (Nat.le_of_ble_eq_true rfl) rfl (by omega) (Nat.le_of_ble_eq_true rfl) (hC (pN x1.2 12 ((x1.2.1 12) + (nI 1))) _ e_x31) ?_
      refine jg_if_ne (x := x31.1) (tgt := 39) dX12_readAtom_34 (by decide) (fun c32 => ?_) (fun c32 => ?_)
      · replace h := it_f c32 h
        refine jg_aload_n dX12_readAtom_39 rfl ?_
        refine jg_dup dX12_readAtom_40 rfl ?_
        refine rs_ga fl_X12_275 dX12_readAtom_41 hr rfl ?_
        refine jg_iconst (v := nI 1) dX12_readAtom_44 (by decide) ?_
        refine jg_isub (x := (x31.2.1 12)) (y := (nI 1)) dX12_readAtom_45  ?_
        refine rs_putD (s := x31.2) (k := 12) (x := ((x31.2.1 12) - (nI 1))) fl_X12_275 dX12_readAtom_46 hr (by decide) (rfl) rfl rfl ?_
        refine jg_aload_n dX12_readAtom_49 rfl ?_
        refine jg_bipush (v := nI 41) dX12_readAtom_50 (by decide) ?_
        obtain ⟨x33, e_x33, h⟩ := bd_some h
        refine rs_call (As := [.int (nI 41)]) kv_X12_272 dX12_readAtom_52 hr rfl rfl (by decide) (Nat.le_of_ble_eq_true rfl) rfl (by omega) (Nat.le_of_ble_eq_true rfl) (t_X12_sign hr F (pN x31.2 12 ((x31.2.1 12) - (nI 1))) (nI 41) e_x33) ?_
        obtain ⟨q9, h⟩ := gd_some h
        obtain rfl := Option.some.inj h
        exact jg_zreturn dX12_readAtom_55 rfl (zb_nar q9) ⟨rfl, rfl⟩
      · replace h := it_t c32 h
        refine jg_iconst (v := nI 0) dX12_readAtom_37 (by decide) ?_
        obtain rfl := Option.some.inj h
        exact jg_zreturn dX12_readAtom_38 rfl (rfl) ⟨rfl, rfl⟩
    · replace h := it_t c30 h
      refine jg_iconst (v := nI 0) dX12_readAtom_18 (by decide) ?_
      obtain rfl := Option.some.inj h
      exact jg_zreturn dX12_readAtom_19 rfl (rfl) ⟨rfl, rfl⟩
noncomputable def o_rdA (F : Nat) : Nat → rs_S → Option (Int32 × rs_S)
  | 0, _ => none
  | f + 1, s => o_X12_readAtom F (o_rdA F f) (o_X12_readCond F (o_rdA F f)) s
theorem t_rdA {Γ : jg_G} {g : Nat → jg_C} {n r : Nat} (hr : r + 11 ≤ n) (F : Nat) : ∀ (f : Nat) (s : rs_S) (x : Int32 × rs_S), o_rdA F f s = some x → jc Γ mX12_readAtom (9 + 3 * f) 0 0 [some (.ref r), none, none, none] (rs_h g r s, n) (.inl (some (.int x.1))) (rs_h g r x.2, n) := by
  intro f
  induction f with
  | zero => intro s x h; cases h
  | succ f ih =>
    intro s x h
    rw [o_rdA] at h
    exact t_X12_readAtom hr F _ _ s (9 + 3 * f) (by omega) ih (fun s x h => t_X12_readCond hr F _ s (9 + 3 * f) (by omega) ih h) h
noncomputable def o_rdC (F : Nat) (s : rs_S) : Option (Int32 × rs_S) := o_X12_readCond F (o_rdA F 10) s
theorem t_rdC {Γ : jg_G} {g : Nat → jg_C} {n r : Nat} (hr : r + 11 ≤ n) (F : Nat) (s : rs_S) {x : Int32 × rs_S} (h : o_rdC F s = some x) : jc Γ mX12_readCond 41 0 0 [some (.ref r)] (rs_h g r s, n) (.inl (some (.int x.1))) (rs_h g r x.2, n) := t_X12_readCond hr F _ s 39 (by omega) (t_rdA hr F 10) h
theorem dX12_readLine_0 : decode cX12_readLine 0 = .ok (.aload_n 0, 1) := by decide +kernel
theorem dX12_readLine_1 : decode cX12_readLine 1 = .ok (.invokevirtual 235, 3) := by decide +kernel
theorem dX12_readLine_4 : decode cX12_readLine 4 = .ok (.iload_n 1, 1) := by decide +kernel
theorem dX12_readLine_5 : decode cX12_readLine 5 = .ok (.bipush 20, 2) := by decide +kernel
theorem dX12_readLine_7 : decode cX12_readLine 7 = .ok (.if_icmp .ne 5, 3) := by decide +kernel
theorem dX12_readLine_10 : decode cX12_readLine 10 = .ok (.iconst 0, 1) := by decide +kernel
theorem dX12_readLine_11 : decode cX12_readLine 11 = .ok (.ireturn, 1) := by decide +kernel
theorem dX12_readLine_12 : decode cX12_readLine 12 = .ok (.bipush 21, 2) := by decide +kernel
theorem dX12_readLine_14 : decode cX12_readLine 14 = .ok (.invokestatic 242, 3) := by decide +kernel
theorem dX12_readLine_17 : decode cX12_readLine 17 = .ok (.iconst 2, 1) := by decide +kernel
theorem dX12_readLine_18 : decode cX12_readLine 18 = .ok (.iadd, 1) := by decide +kernel
theorem dX12_readLine_19 : decode cX12_readLine 19 = .ok (.iconst 4, 1) := by decide +kernel
theorem dX12_readLine_20 : decode cX12_readLine 20 = .ok (.iload_n 1, 1) := by decide +kernel
theorem dX12_readLine_21 : decode cX12_readLine 21 = .ok (.imul, 1) := by decide +kernel
theorem dX12_readLine_22 : decode cX12_readLine 22 = .ok (.iadd, 1) := by decide +kernel
theorem dX12_readLine_23 : decode cX12_readLine 23 = .ok (.istore_n 2, 1) := by decide +kernel
theorem dX12_readLine_24 : decode cX12_readLine 24 = .ok (.aload_n 0, 1) := by decide +kernel
theorem dX12_readLine_25 : decode cX12_readLine 25 = .ok (.invokevirtual 333, 3) := by decide +kernel
theorem dX12_readLine_28 : decode cX12_readLine 28 = .ok (.istore_n 3, 1) := by decide +kernel
theorem dX12_readLine_29 : decode cX12_readLine 29 = .ok (.aload_n 0, 1) := by decide +kernel
theorem dX12_readLine_30 : decode cX12_readLine 30 = .ok (.getfield 13, 3) := by decide +kernel
theorem dX12_readLine_33 : decode cX12_readLine 33 = .ok (.iload_n 2, 1) := by decide +kernel
theorem dX12_readLine_34 : decode cX12_readLine 34 = .ok (.iload_n 3, 1) := by decide +kernel
theorem dX12_readLine_35 : decode cX12_readLine 35 = .ok (.iastore, 1) := by decide +kernel
theorem dX12_readLine_36 : decode cX12_readLine 36 = .ok (.aload_n 0, 1) := by decide +kernel
theorem dX12_readLine_37 : decode cX12_readLine 37 = .ok (.getfield 13, 3) := by decide +kernel
theorem dX12_readLine_40 : decode cX12_readLine 40 = .ok (.iload_n 2, 1) := by decide +kernel
theorem dX12_readLine_41 : decode cX12_readLine 41 = .ok (.iconst 2, 1) := by decide +kernel
theorem dX12_readLine_42 : decode cX12_readLine 42 = .ok (.iadd, 1) := by decide +kernel
theorem dX12_readLine_43 : decode cX12_readLine 43 = .ok (.aload_n 0, 1) := by decide +kernel
theorem dX12_readLine_44 : decode cX12_readLine 44 = .ok (.getfield 245, 3) := by decide +kernel
theorem dX12_readLine_47 : decode cX12_readLine 47 = .ok (.iastore, 1) := by decide +kernel
theorem dX12_readLine_48 : decode cX12_readLine 48 = .ok (.aload_n 0, 1) := by decide +kernel
theorem dX12_readLine_49 : decode cX12_readLine 49 = .ok (.getfield 13, 3) := by decide +kernel
theorem dX12_readLine_52 : decode cX12_readLine 52 = .ok (.iload_n 2, 1) := by decide +kernel
theorem dX12_readLine_53 : decode cX12_readLine 53 = .ok (.iconst 3, 1) := by decide +kernel
theorem dX12_readLine_54 : decode cX12_readLine 54 = .ok (.iadd, 1) := by decide +kernel
theorem dX12_readLine_55 : decode cX12_readLine 55 = .ok (.aload_n 0, 1) := by decide +kernel
theorem dX12_readLine_56 : decode cX12_readLine 56 = .ok (.getfield 245, 3) := by decide +kernel
theorem dX12_readLine_59 : decode cX12_readLine 59 = .ok (.iastore, 1) := by decide +kernel
theorem dX12_readLine_60 : decode cX12_readLine 60 = .ok (.iload_n 3, 1) := by decide +kernel
theorem dX12_readLine_61 : decode cX12_readLine 61 = .ok (.ifCond .ge 5, 3) := by decide +kernel
theorem dX12_readLine_64 : decode cX12_readLine 64 = .ok (.iconst 0, 1) := by decide +kernel
theorem dX12_readLine_65 : decode cX12_readLine 65 = .ok (.ireturn, 1) := by decide +kernel
theorem dX12_readLine_66 : decode cX12_readLine 66 = .ok (.iload_n 3, 1) := by decide +kernel
theorem dX12_readLine_67 : decode cX12_readLine 67 = .ok (.iconst 4, 1) := by decide +kernel
theorem dX12_readLine_68 : decode cX12_readLine 68 = .ok (.if_icmp .ne 9, 3) := by decide +kernel
theorem dX12_readLine_71 : decode cX12_readLine 71 = .ok (.aload_n 0, 1) := by decide +kernel
theorem dX12_readLine_72 : decode cX12_readLine 72 = .ok (.iload_n 2, 1) := by decide +kernel
theorem dX12_readLine_73 : decode cX12_readLine 73 = .ok (.invokevirtual 336, 3) := by decide +kernel
theorem dX12_readLine_76 : decode cX12_readLine 76 = .ok (.ireturn, 1) := by decide +kernel
theorem dX12_readLine_77 : decode cX12_readLine 77 = .ok (.aload_n 0, 1) := by decide +kernel
theorem dX12_readLine_78 : decode cX12_readLine 78 = .ok (.getfield 13, 3) := by decide +kernel
theorem dX12_readLine_81 : decode cX12_readLine 81 = .ok (.iload_n 2, 1) := by decide +kernel
theorem dX12_readLine_82 : decode cX12_readLine 82 = .ok (.iconst 1, 1) := by decide +kernel
theorem dX12_readLine_83 : decode cX12_readLine 83 = .ok (.iadd, 1) := by decide +kernel
theorem dX12_readLine_84 : decode cX12_readLine 84 = .ok (.aload_n 0, 1) := by decide +kernel
theorem dX12_readLine_85 : decode cX12_readLine 85 = .ok (.iload_n 3, 1) := by decide +kernel
theorem dX12_readLine_86 : decode cX12_readLine 86 = .ok (.iconst 2, 1) := by decide +kernel
theorem dX12_readLine_87 : decode cX12_readLine 87 = .ok (.if_icmp .eq 9, 3) := by decide +kernel
theorem dX12_readLine_90 : decode cX12_readLine 90 = .ok (.iload_n 3, 1) := by decide +kernel
theorem dX12_readLine_91 : decode cX12_readLine 91 = .ok (.bipush 6, 2) := by decide +kernel
theorem dX12_readLine_93 : decode cX12_readLine 93 = .ok (.if_icmp .ne 8, 3) := by decide +kernel
theorem dX12_readLine_96 : decode cX12_readLine 96 = .ok (.bipush 100, 2) := by decide +kernel
theorem dX12_readLine_98 : decode cX12_readLine 98 = .ok (.goto 16, 3) := by decide +kernel
theorem dX12_readLine_101 : decode cX12_readLine 101 = .ok (.iload_n 3, 1) := by decide +kernel
theorem dX12_readLine_102 : decode cX12_readLine 102 = .ok (.iconst 5, 1) := by decide +kernel
theorem dX12_readLine_103 : decode cX12_readLine 103 = .ok (.if_icmp .ne 8, 3) := by decide +kernel
theorem dX12_readLine_106 : decode cX12_readLine 106 = .ok (.bipush 50, 2) := by decide +kernel
theorem dX12_readLine_108 : decode cX12_readLine 108 = .ok (.goto 6, 3) := by decide +kernel
theorem dX12_readLine_111 : decode cX12_readLine 111 = .ok (.ldc_w 300, 3) := by decide +kernel
theorem dX12_readLine_114 : decode cX12_readLine 114 = .ok (.invokevirtual 301, 3) := by decide +kernel
theorem dX12_readLine_117 : decode cX12_readLine 117 = .ok (.iastore, 1) := by decide +kernel
theorem dX12_readLine_118 : decode cX12_readLine 118 = .ok (.aload_n 0, 1) := by decide +kernel
theorem dX12_readLine_119 : decode cX12_readLine 119 = .ok (.getfield 13, 3) := by decide +kernel
theorem dX12_readLine_122 : decode cX12_readLine 122 = .ok (.iload_n 2, 1) := by decide +kernel
theorem dX12_readLine_123 : decode cX12_readLine 123 = .ok (.iconst 1, 1) := by decide +kernel
theorem dX12_readLine_124 : decode cX12_readLine 124 = .ok (.iadd, 1) := by decide +kernel
theorem dX12_readLine_125 : decode cX12_readLine 125 = .ok (.iaload, 1) := by decide +kernel
theorem dX12_readLine_126 : decode cX12_readLine 126 = .ok (.ifCond .ge 5, 3) := by decide +kernel
theorem dX12_readLine_129 : decode cX12_readLine 129 = .ok (.iconst 0, 1) := by decide +kernel
theorem dX12_readLine_130 : decode cX12_readLine 130 = .ok (.ireturn, 1) := by decide +kernel
theorem dX12_readLine_131 : decode cX12_readLine 131 = .ok (.iload_n 3, 1) := by decide +kernel
theorem dX12_readLine_132 : decode cX12_readLine 132 = .ok (.iconst 4, 1) := by decide +kernel
theorem dX12_readLine_133 : decode cX12_readLine 133 = .ok (.if_icmp .le 5, 3) := by decide +kernel
theorem dX12_readLine_136 : decode cX12_readLine 136 = .ok (.iconst 1, 1) := by decide +kernel
theorem dX12_readLine_137 : decode cX12_readLine 137 = .ok (.ireturn, 1) := by decide +kernel
theorem dX12_readLine_138 : decode cX12_readLine 138 = .ok (.aload_n 0, 1) := by decide +kernel
theorem dX12_readLine_139 : decode cX12_readLine 139 = .ok (.ldc_w 339, 3) := by decide +kernel
theorem dX12_readLine_142 : decode cX12_readLine 142 = .ok (.invokevirtual 284, 3) := by decide +kernel
theorem dX12_readLine_145 : decode cX12_readLine 145 = .ok (.ifCond .eq 17, 3) := by decide +kernel
theorem dX12_readLine_148 : decode cX12_readLine 148 = .ok (.aload_n 0, 1) := by decide +kernel
theorem dX12_readLine_149 : decode cX12_readLine 149 = .ok (.iconst 0, 1) := by decide +kernel
theorem dX12_readLine_150 : decode cX12_readLine 150 = .ok (.putfield 275, 3) := by decide +kernel
theorem dX12_readLine_153 : decode cX12_readLine 153 = .ok (.aload_n 0, 1) := by decide +kernel
theorem dX12_readLine_154 : decode cX12_readLine 154 = .ok (.invokevirtual 278, 3) := by decide +kernel
theorem dX12_readLine_157 : decode cX12_readLine 157 = .ok (.ifCond .ne 5, 3) := by decide +kernel
theorem dX12_readLine_160 : decode cX12_readLine 160 = .ok (.iconst 0, 1) := by decide +kernel
theorem dX12_readLine_161 : decode cX12_readLine 161 = .ok (.ireturn, 1) := by decide +kernel
theorem dX12_readLine_162 : decode cX12_readLine 162 = .ok (.aload_n 0, 1) := by decide +kernel
theorem dX12_readLine_163 : decode cX12_readLine 163 = .ok (.getfield 13, 3) := by decide +kernel
theorem dX12_readLine_166 : decode cX12_readLine 166 = .ok (.iload_n 2, 1) := by decide +kernel
theorem dX12_readLine_167 : decode cX12_readLine 167 = .ok (.iconst 3, 1) := by decide +kernel
theorem dX12_readLine_168 : decode cX12_readLine 168 = .ok (.iadd, 1) := by decide +kernel
theorem dX12_readLine_169 : decode cX12_readLine 169 = .ok (.aload_n 0, 1) := by decide +kernel
theorem dX12_readLine_170 : decode cX12_readLine 170 = .ok (.getfield 245, 3) := by decide +kernel
theorem dX12_readLine_173 : decode cX12_readLine 173 = .ok (.iastore, 1) := by decide +kernel
theorem dX12_readLine_174 : decode cX12_readLine 174 = .ok (.iconst 1, 1) := by decide +kernel
theorem dX12_readLine_175 : decode cX12_readLine 175 = .ok (.ireturn, 1) := by decide +kernel
noncomputable def o_X12_readLine (F : Nat) (s : rs_S) (a1 : Int32) : Option (Int32 × rs_S) := (o_X12_word F s).bind fun x1 => (if a1 = (nI 20) then (some (nI 0, x1)) else ((o_X12_actAt x1 (nI 21)).bind fun x3 => ((o_X12_sortOf F x1).bind fun x4 => (if iL ((x3 + (nI 2)) + ((nI 4) * a1)) 22216 then (if iL (((x3 + (nI 2)) + ((nI 4) * a1)) + (nI 2)) 22216 then (if iL (((x3 + (nI 2)) + ((nI 4) * a1)) + (nI 3)) 22216 then (if 0 ≤ x4 then (if x4 = (nI 4) then ((o_X12_readTurn F (pW (pW (pW x1 ((x3 + (nI 2)) + ((nI 4) * a1)) x4) (((x3 + (nI 2)) + ((nI 4) * a1)) + (nI 2)) ((pW x1 ((x3 + (nI 2)) + ((nI 4) * a1)) x4).1 15)) (((x3 + (nI 2)) + ((nI 4) * a1)) + (nI 3)) ((pW (pW x1 ((x3 + (nI 2)) + ((nI 4) * a1)) x4) (((x3 + (nI 2)) + ((nI 4) * a1)) + (nI 2)) ((pW x1 ((x3 + (nI 2)) + ((nI 4) * a1)) x4).1 15)).1 15)) ((x3 + (nI 2)) + ((nI 4) * a1))).bind fun x45 => (if zb x45.1 then some (x45.1, x45.2) else none)) else (if x4 = (nI 2) then ((o_X12_number F (pW (pW (pW x1 ((x3 + (nI 2)) + ((nI 4) * a1)) x4) (((x3 + (nI 2)) + ((nI 4) * a1)) + (nI 2)) ((pW x1 ((x3 + (nI 2)) + ((nI 4) * a1)) x4).1 15)) (((x3 + (nI 2)) + ((nI 4) * a1)) + (nI 3)) ((pW (pW x1 ((x3 + (nI 2)) + ((nI 4) * a1)) x4) (((x3 + (nI 2)) + ((nI 4) * a1)) + (nI 2)) ((pW x1 ((x3 + (nI 2)) + ((nI 4) * a1)) x4).1 15)).1 15)) (nI 100)).bind fun x11 => (if iL (((x3 + (nI 2)) + ((nI 4) * a1)) + (nI 1)) 22216 then (if 0 ≤ (gW (pW x11.2 (((x3 + (nI 2)) + ((nI 4) * a1)) + (nI 1)) x11.1) (((x3 + (nI 2)) + ((nI 4) * a1)) + (nI 1))) then (if x4 ≤ (nI 4) then ((o_X12_passes F (pW x11.2 (((x3 + (nI 2)) + ((nI 4) * a1)) + (nI 1)) x11.1) 27).bind fun x15 => (if x15.1 = 0 then (some (nI 1, pW x15.2 (((x3 + (nI 2)) + ((nI 4) * a1)) + (nI 3)) (x15.2.1 15))) else ((o_rdC F (pN x15.2 12 (nI 0))).bind fun x17 => (if x17.1 = 0 then (some (nI 0, x17.2)) else (some (nI 1, pW x17.2 (((x3 + (nI 2)) + ((nI 4) * a1)) + (nI 3)) (x17.2.1 15))))))) else (some (nI 1, pW x11.2 (((x3 + (nI 2)) + ((nI 4) * a1)) + (nI 1)) x11.1))) else (some (nI 0, pW x11.2 (((x3 + (nI 2)) + ((nI 4) * a1)) + (nI 1)) x11.1))) else none)) else (if x4 = (nI 6) then ((o_X12_number F (pW (pW (pW x1 ((x3 + (nI 2)) + ((nI 4) * a1)) x4) (((x3 + (nI 2)) + ((nI 4) * a1)) + (nI 2)) ((pW x1 ((x3 + (nI 2)) + ((nI 4) * a1)) x4).1 15)) (((x3 + (nI 2)) + ((nI 4) * a1)) + (nI 3)) ((pW (pW x1 ((x3 + (nI 2)) + ((nI 4) * a1)) x4) (((x3 + (nI 2)) + ((nI 4) * a1)) + (nI 2)) ((pW x1 ((x3 + (nI 2)) + ((nI 4) * a1)) x4).1 15)).1 15)) (nI 100)).bind fun x37 => (if iL (((x3 + (nI 2)) + ((nI 4) * a1)) + (nI 1)) 22216 then (if 0 ≤ (gW (pW x37.2 (((x3 + (nI 2)) + ((nI 4) * a1)) + (nI 1)) x37.1) (((x3 + (nI 2)) + ((nI 4) * a1)) + (nI 1))) then (if x4 ≤ (nI 4) then ((o_X12_passes F (pW x37.2 (((x3 + (nI 2)) + ((nI 4) * a1)) + (nI 1)) x37.1) 27).bind fun x41 => (if x41.1 = 0 then (some (nI 1, pW x41.2 (((x3 + (nI 2)) + ((nI 4) * a1)) + (nI 3)) (x41.2.1 15))) else ((o_rdC F (pN x41.2 12 (nI 0))).bind fun x43 => (if x43.1 = 0 then (some (nI 0, x43.2)) else (some (nI 1, pW x43.2 (((x3 + (nI 2)) + ((nI 4) * a1)) + (nI 3)) (x43.2.1 15))))))) else (some (nI 1, pW x37.2 (((x3 + (nI 2)) + ((nI 4) * a1)) + (nI 1)) x37.1))) else (some (nI 0, pW x37.2 (((x3 + (nI 2)) + ((nI 4) * a1)) + (nI 1)) x37.1))) else none)) else (if x4 = (nI 5) then ((o_X12_number F (pW (pW (pW x1 ((x3 + (nI 2)) + ((nI 4) * a1)) x4) (((x3 + (nI 2)) + ((nI 4) * a1)) + (nI 2)) ((pW x1 ((x3 + (nI 2)) + ((nI 4) * a1)) x4).1 15)) (((x3 + (nI 2)) + ((nI 4) * a1)) + (nI 3)) ((pW (pW x1 ((x3 + (nI 2)) + ((nI 4) * a1)) x4) (((x3 + (nI 2)) + ((nI 4) * a1)) + (nI 2)) ((pW x1 ((x3 + (nI 2)) + ((nI 4) * a1)) x4).1 15)).1 15)) (nI 50)).bind fun x29 => (if iL (((x3 + (nI 2)) + ((nI 4) * a1)) + (nI 1)) 22216 then (if 0 ≤ (gW (pW x29.2 (((x3 + (nI 2)) + ((nI 4) * a1)) + (nI 1)) x29.1) (((x3 + (nI 2)) + ((nI 4) * a1)) + (nI 1))) then (if x4 ≤ (nI 4) then ((o_X12_passes F (pW x29.2 (((x3 + (nI 2)) + ((nI 4) * a1)) + (nI 1)) x29.1) 27).bind fun x33 => (if x33.1 = 0 then (some (nI 1, pW x33.2 (((x3 + (nI 2)) + ((nI 4) * a1)) + (nI 3)) (x33.2.1 15))) else ((o_rdC F (pN x33.2 12 (nI 0))).bind fun x35 => (if x35.1 = 0 then (some (nI 0, x35.2)) else (some (nI 1, pW x35.2 (((x3 + (nI 2)) + ((nI 4) * a1)) + (nI 3)) (x35.2.1 15))))))) else (some (nI 1, pW x29.2 (((x3 + (nI 2)) + ((nI 4) * a1)) + (nI 1)) x29.1))) else (some (nI 0, pW x29.2 (((x3 + (nI 2)) + ((nI 4) * a1)) + (nI 1)) x29.1))) else none)) else ((o_X12_number F (pW (pW (pW x1 ((x3 + (nI 2)) + ((nI 4) * a1)) x4) (((x3 + (nI 2)) + ((nI 4) * a1)) + (nI 2)) ((pW x1 ((x3 + (nI 2)) + ((nI 4) * a1)) x4).1 15)) (((x3 + (nI 2)) + ((nI 4) * a1)) + (nI 3)) ((pW (pW x1 ((x3 + (nI 2)) + ((nI 4) * a1)) x4) (((x3 + (nI 2)) + ((nI 4) * a1)) + (nI 2)) ((pW x1 ((x3 + (nI 2)) + ((nI 4) * a1)) x4).1 15)).1 15)) (nI 999999)).bind fun x21 => (if iL (((x3 + (nI 2)) + ((nI 4) * a1)) + (nI 1)) 22216 then (if 0 ≤ (gW (pW x21.2 (((x3 + (nI 2)) + ((nI 4) * a1)) + (nI 1)) x21.1) (((x3 + (nI 2)) + ((nI 4) * a1)) + (nI 1))) then (if x4 ≤ (nI 4) then ((o_X12_passes F (pW x21.2 (((x3 + (nI 2)) + ((nI 4) * a1)) + (nI 1)) x21.1) 27).bind fun x25 => (if x25.1 = 0 then (some (nI 1, pW x25.2 (((x3 + (nI 2)) + ((nI 4) * a1)) + (nI 3)) (x25.2.1 15))) else ((o_rdC F (pN x25.2 12 (nI 0))).bind fun x27 => (if x27.1 = 0 then (some (nI 0, x27.2)) else (some (nI 1, pW x27.2 (((x3 + (nI 2)) + ((nI 4) * a1)) + (nI 3)) (x27.2.1 15))))))) else (some (nI 1, pW x21.2 (((x3 + (nI 2)) + ((nI 4) * a1)) + (nI 1)) x21.1))) else (some (nI 0, pW x21.2 (((x3 + (nI 2)) + ((nI 4) * a1)) + (nI 1)) x21.1))) else none)))))) else (some (nI 0, pW (pW (pW x1 ((x3 + (nI 2)) + ((nI 4) * a1)) x4) (((x3 + (nI 2)) + ((nI 4) * a1)) + (nI 2)) ((pW x1 ((x3 + (nI 2)) + ((nI 4) * a1)) x4).1 15)) (((x3 + (nI 2)) + ((nI 4) * a1)) + (nI 3)) ((pW (pW x1 ((x3 + (nI 2)) + ((nI 4) * a1)) x4) (((x3 + (nI 2)) + ((nI 4) * a1)) + (nI 2)) ((pW x1 ((x3 + (nI 2)) + ((nI 4) * a1)) x4).1 15)).1 15)))) else none) else none) else none))))
set_option maxHeartbeats 4000000 in
theorem t_X12_readLine {Γ : jg_G} {g : Nat → jg_C} {n r : Nat} (hr : r + 11 ≤ n) (F : Nat) (s : rs_S) (a1 : Int32)  {x : Int32 × rs_S} (h : o_X12_readLine F s a1 = some x) : jc Γ mX12_readLine 42 0 0 [some (.ref r), some (.int a1), none, none] (rs_h g r s, n) (.inl (some (.int x.1))) (rs_h g r x.2, n) := by
  refine jc_of ?_
  rw [o_X12_readLine] at h
  refine jg_aload_n dX12_readLine_0 rfl ?_
  obtain ⟨x1, e_x1, h⟩ := bd_some h
  refine rs_call (As := []) kv_X12_235 dX12_readLine_1 hr rfl rfl (by decide) (Nat.le_of_ble_eq_true rfl) rfl (by decide) (Nat.le_of_ble_eq_true rfl) (t_X12_word hr F s e_x1) ?_
  refine jg_iload_n dX12_readLine_4 rfl ?_
  refine jg_bipush (v := nI 20) dX12_readLine_5 (by decide) ?_
  refine jg_icmp_ne (x := a1) (y := (nI 20)) (tgt := 12) dX12_readLine_7 (by decide) (fun c2 => ?_) (fun c2 => ?_)
  · replace h := it_f c2 h
    refine jg_bipush (v := nI 21) dX12_readLine_12 (by decide) ?_
    obtain ⟨x3, e_x3, h⟩ := bd_some h
    refine rs_callS (As := [.int (nI 21)]) ks_X12_242 dX12_readLine_14 rfl (by decide) (Nat.le_of_ble_eq_true rfl) rfl (by decide) (Nat.le_of_ble_eq_true rfl) (t_X12_actAt hr x1 (nI 21) e_x3) ?_
    refine jg_iconst (v := nI 2) dX12_readLine_17 (by decide) ?_
    refine jg_iadd (x := x3) (y := (nI 2)) dX12_readLine_18  ?_
    refine jg_iconst (v := nI 4) dX12_readLine_19 (by decide) ?_
    refine jg_iload_n dX12_readLine_20 rfl ?_
    refine jg_imul (x := (nI 4)) (y := a1) dX12_readLine_21  ?_
    refine jg_iadd (x := (x3 + (nI 2))) (y := ((nI 4) * a1)) dX12_readLine_22  ?_
    refine jg_istore_n (L' := [some (.ref r), some (.int a1), some (.int ((x3 + (nI 2)) + ((nI 4) * a1))), none]) dX12_readLine_23 (by decide) rfl ?_
    refine jg_aload_n dX12_readLine_24 rfl ?_
    obtain ⟨x4, e_x4, h⟩ := bd_some h
    refine rs_call (As := []) kv_X12_333 dX12_readLine_25 hr rfl rfl (by decide) (Nat.le_of_ble_eq_true rfl) rfl (by decide) (Nat.le_of_ble_eq_true rfl) (t_X12_sortOf hr F x1 e_x4) ?_
    refine jg_istore_n (L' := [some (.ref r), some (.int a1), some (.int ((x3 + (nI 2)) + ((nI 4) * a1))), some (.int x4)]) dX12_readLine_28 (by decide) rfl ?_
    refine jg_aload_n dX12_readLine_29 rfl ?_
    refine rs_ga fl_X12_13 dX12_readLine_30 hr rfl ?_
    refine jg_iload_n dX12_readLine_33 rfl ?_
    refine jg_iload_n dX12_readLine_34 rfl ?_
    obtain ⟨q5, h⟩ := gd_some h
    refine rs_swD (s := x1) (i := ((x3 + (nI 2)) + ((nI 4) * a1))) (x := x4) dX12_readLine_35 hr q5 ?_
    refine jg_aload_n dX12_readLine_36 rfl ?_
    refine rs_ga fl_X12_13 dX12_readLine_37 hr rfl ?_
    refine jg_iload_n dX12_readLine_40 rfl ?_
    refine jg_iconst (v := nI 2) dX12_readLine_41 (by decide) ?_
    refine jg_iadd (x := ((x3 + (nI 2)) + ((nI 4) * a1))) (y := (nI 2)) dX12_readLine_42  ?_
    refine jg_aload_n dX12_readLine_43 rfl ?_
    refine rs_ga fl_X12_245 dX12_readLine_44 hr rfl ?_
    obtain ⟨q6, h⟩ := gd_some h
    refine rs_swD (s := (pW x1 ((x3 + (nI 2)) + ((nI 4) * a1)) x4)) (i := (((x3 + (nI 2)) + ((nI 4) * a1)) + (nI 2))) (x := ((pW x1 ((x3 + (nI 2)) + ((nI 4) * a1)) x4).1 15)) dX12_readLine_47 hr q6 ?_
    refine jg_aload_n dX12_readLine_48 rfl ?_
    refine rs_ga fl_X12_13 dX12_readLine_49 hr rfl ?_
    refine jg_iload_n dX12_readLine_52 rfl ?_
    refine jg_iconst (v := nI 3) dX12_readLine_53 (by decide) ?_
    refine jg_iadd (x := ((x3 + (nI 2)) + ((nI 4) * a1))) (y := (nI 3)) dX12_readLine_54  ?_
    refine jg_aload_n dX12_readLine_55 rfl ?_
    refine rs_ga fl_X12_245 dX12_readLine_56 hr rfl ?_
    obtain ⟨q7, h⟩ := gd_some h
    refine rs_swD (s := (pW (pW x1 ((x3 + (nI 2)) + ((nI 4) * a1)) x4) (((x3 + (nI 2)) + ((nI 4) * a1)) + (nI 2)) ((pW x1 ((x3 + (nI 2)) + ((nI 4) * a1)) x4).1 15))) (i := (((x3 + (nI 2)) + ((nI 4) * a1)) + (nI 3))) (x := ((pW (pW x1 ((x3 + (nI 2)) + ((nI 4) * a1)) x4) (((x3 + (nI 2)) + ((nI 4) * a1)) + (nI 2)) ((pW x1 ((x3 + (nI 2)) + ((nI 4) * a1)) x4).1 15)).1 15)) dX12_readLine_59 hr q7 ?_
    refine jg_iload_n dX12_readLine_60 rfl ?_
    refine jg_if_ge (x := x4) (tgt := 66) dX12_readLine_61 (by decide) (fun c8 => ?_) (fun c8 => ?_)
    · replace h := it_t c8 h
      refine jg_iload_n dX12_readLine_66 rfl ?_
      refine jg_iconst (v := nI 4) dX12_readLine_67 (by decide) ?_
      refine jg_icmp_ne (x := x4) (y := (nI 4)) (tgt := 77) dX12_readLine_68 (by decide) (fun c9 => ?_) (fun c9 => ?_)
      · replace h := it_f c9 h
        refine jg_aload_n dX12_readLine_77 rfl ?_
        refine rs_ga fl_X12_13 dX12_readLine_78 hr rfl ?_
        refine jg_iload_n dX12_readLine_81 rfl ?_
        refine jg_iconst (v := nI 1) dX12_readLine_82 (by decide) ?_
        refine jg_iadd (x := ((x3 + (nI 2)) + ((nI 4) * a1))) (y := (nI 1)) dX12_readLine_83  ?_
        refine jg_aload_n dX12_readLine_84 rfl ?_
        refine jg_iload_n dX12_readLine_85 rfl ?_
        refine jg_iconst (v := nI 2) dX12_readLine_86 (by decide) ?_
        refine jg_icmp_eq (x := x4) (y := (nI 2)) (tgt := 96) dX12_readLine_87 (by decide) (fun c10 => ?_) (fun c10 => ?_)
        · replace h := it_t c10 h
          refine jg_bipush (v := nI 100) dX12_readLine_96 (by decide) ?_
          refine jg_goto (tgt := 114) dX12_readLine_98 (by decide) ?_
          obtain ⟨x11, e_x11, h⟩ := bd_some h
          refine rs_call (As := [.int (nI 100)]) kv_X12_301 dX12_readLine_114 hr rfl rfl (by decide) (Nat.le_of_ble_eq_true rfl) rfl (by decide) (Nat.le_of_ble_eq_true rfl) (t_X12_number hr F (pW (pW (pW x1 ((x3 + (nI 2)) + ((nI 4) * a1)) x4) (((x3 + (nI 2)) + ((nI 4) * a1)) + (nI 2)) ((pW x1 ((x3 + (nI 2)) + ((nI 4) * a1)) x4).1 15)) (((x3 + (nI 2)) + ((nI 4) * a1)) + (nI 3)) ((pW (pW x1 ((x3 + (nI 2)) + ((nI 4) * a1)) x4) (((x3 + (nI 2)) + ((nI 4) * a1)) + (nI 2)) ((pW x1 ((x3 + (nI 2)) + ((nI 4) * a1)) x4).1 15)).1 15)) (nI 100) e_x11) ?_
          obtain ⟨q12, h⟩ := gd_some h
          refine rs_swD (s := x11.2) (i := (((x3 + (nI 2)) + ((nI 4) * a1)) + (nI 1))) (x := x11.1) dX12_readLine_117 hr q12 ?_
          refine jg_aload_n dX12_readLine_118 rfl ?_
          refine rs_ga fl_X12_13 dX12_readLine_119 hr rfl ?_
          refine jg_iload_n dX12_readLine_122 rfl ?_
          refine jg_iconst (v := nI 1) dX12_readLine_123 (by decide) ?_
          refine jg_iadd (x := ((x3 + (nI 2)) + ((nI 4) * a1))) (y := (nI 1)) dX12_readLine_124  ?_
          refine rs_lwD (s := (pW x11.2 (((x3 + (nI 2)) + ((nI 4) * a1)) + (nI 1)) x11.1)) (i := (((x3 + (nI 2)) + ((nI 4) * a1)) + (nI 1))) dX12_readLine_125 hr q12 ?_
          refine jg_if_ge (x := (gW (pW x11.2 (((x3 + (nI 2)) + ((nI 4) * a1)) + (nI 1)) x11.1) (((x3 + (nI 2)) + ((nI 4) * a1)) + (nI 1)))) (tgt := 131) dX12_readLine_126 (by decide) (fun c13 => ?_) (fun c13 => ?_)
          · replace h := it_t c13 h
            refine jg_iload_n dX12_readLine_131 rfl ?_
            refine jg_iconst (v := nI 4) dX12_readLine_132 (by decide) ?_
            refine jg_icmp_le (x := x4) (y := (nI 4)) (tgt := 138) dX12_readLine_133 (by decide) (fun c14 => ?_) (fun c14 => ?_)
            · replace h := it_t c14 h
              refine jg_aload_n dX12_readLine_138 rfl ?_
              refine jg_ldcws (i := 27) rfl dX12_readLine_139 ?_
              obtain ⟨x15, e_x15, h⟩ := bd_some h
              refine rs_call (As := [.ref (1000000 + 27)]) kv_X12_284 dX12_readLine_142 hr rfl rfl (by decide) (Nat.le_of_ble_eq_true rfl) rfl (by decide) (Nat.le_of_ble_eq_true rfl) (t_X12_passes hr F (pW x11.2 (((x3 + (nI 2)) + ((nI 4) * a1)) + (nI 1)) x11.1) 27 e_x15) ?_
              refine jg_if_eq (x := x15.1) (tgt := 162) dX12_readLine_145 (by decide) (fun c16 => ?_) (fun c16 => ?_)
              · replace h := it_t c16 h
                refine jg_aload_n dX12_readLine_162 rfl ?_
                refine rs_ga fl_X12_13 dX12_readLine_163 hr rfl ?_
                refine jg_iload_n dX12_readLine_166 rfl ?_
                refine jg_iconst (v := nI 3) dX12_readLine_167 (by decide) ?_
                refine jg_iadd (x := ((x3 + (nI 2)) + ((nI 4) * a1))) (y := (nI 3)) dX12_readLine_168  ?_
                refine jg_aload_n dX12_readLine_169 rfl ?_
                refine rs_ga fl_X12_245 dX12_readLine_170 hr rfl ?_
                refine rs_swD (s := x15.2) (i := (((x3 + (nI 2)) + ((nI 4) * a1)) + (nI 3))) (x := (x15.2.1 15)) dX12_readLine_173 hr q7 ?_
                refine jg_iconst (v := nI 1) dX12_readLine_174 (by decide) ?_
                obtain rfl := Option.some.inj h
                exact jg_zreturn dX12_readLine_175 rfl (rfl) ⟨rfl, rfl⟩
              · replace h := it_f c16 h
                refine jg_aload_n dX12_readLine_148 rfl ?_
                refine jg_iconst (v := nI 0) dX12_readLine_149 (by decide) ?_
                refine rs_putD (s := x15.2) (k := 12) (x := (nI 0)) fl_X12_275 dX12_readLine_150 hr (by decide) (rfl) rfl rfl ?_
                refine jg_aload_n dX12_readLine_153 rfl ?_
                obtain ⟨x17, e_x17, h⟩ := bd_some h
                refine rs_call (As := []) kv_X12_278 dX12_readLine_154 hr rfl rfl (by decide) (Nat.le_of_ble_eq_true rfl) rfl (by decide) (Nat.le_of_ble_eq_true rfl) (t_rdC hr F (pN x15.2 12 (nI 0)) e_x17) ?_
                refine jg_if_ne (x := x17.1) (tgt := 162) dX12_readLine_157 (by decide) (fun c18 => ?_) (fun c18 => ?_)
                · replace h := it_f c18 h
                  refine jg_aload_n dX12_readLine_162 rfl ?_
                  refine rs_ga fl_X12_13 dX12_readLine_163 hr rfl ?_
                  refine jg_iload_n dX12_readLine_166 rfl ?_
                  refine jg_iconst (v := nI 3) dX12_readLine_167 (by decide) ?_
                  refine jg_iadd (x := ((x3 + (nI 2)) + ((nI 4) * a1))) (y := (nI 3)) dX12_readLine_168  ?_
                  refine jg_aload_n dX12_readLine_169 rfl ?_
                  refine rs_ga fl_X12_245 dX12_readLine_170 hr rfl ?_
                  refine rs_swD (s := x17.2) (i := (((x3 + (nI 2)) + ((nI 4) * a1)) + (nI 3))) (x := (x17.2.1 15)) dX12_readLine_173 hr q7 ?_
                  refine jg_iconst (v := nI 1) dX12_readLine_174 (by decide) ?_
                  obtain rfl := Option.some.inj h
                  exact jg_zreturn dX12_readLine_175 rfl (rfl) ⟨rfl, rfl⟩
                · replace h := it_t c18 h
                  refine jg_iconst (v := nI 0) dX12_readLine_160 (by decide) ?_
                  obtain rfl := Option.some.inj h
                  exact jg_zreturn dX12_readLine_161 rfl (rfl) ⟨rfl, rfl⟩
            · replace h := it_f c14 h
              refine jg_iconst (v := nI 1) dX12_readLine_136 (by decide) ?_
              obtain rfl := Option.some.inj h
              exact jg_zreturn dX12_readLine_137 rfl (rfl) ⟨rfl, rfl⟩
          · replace h := it_f c13 h
            refine jg_iconst (v := nI 0) dX12_readLine_129 (by decide) ?_
            obtain rfl := Option.some.inj h
            exact jg_zreturn dX12_readLine_130 rfl (rfl) ⟨rfl, rfl⟩
        · replace h := it_f c10 h
          refine jg_iload_n dX12_readLine_90 rfl ?_
          refine jg_bipush (v := nI 6) dX12_readLine_91 (by decide) ?_
          refine jg_icmp_ne (x := x4) (y := (nI 6)) (tgt := 101) dX12_readLine_93 (by decide) (fun c19 => ?_) (fun c19 => ?_)
          · replace h := it_f c19 h
            refine jg_iload_n dX12_readLine_101 rfl ?_
            refine jg_iconst (v := nI 5) dX12_readLine_102 (by decide) ?_
            refine jg_icmp_ne (x := x4) (y := (nI 5)) (tgt := 111) dX12_readLine_103 (by decide) (fun c20 => ?_) (fun c20 => ?_)
            · replace h := it_f c20 h
              refine jg_ldcw kk_X12_300 dX12_readLine_111 ?_
              rw [show (999999 : Int32) = nI 999999 from rfl]
              obtain ⟨x21, e_x21, h⟩ := bd_some h
              refine rs_call (As := [.int (nI 999999)]) kv_X12_301 dX12_readLine_114 hr rfl rfl (by decide) (Nat.le_of_ble_eq_true rfl) rfl (by decide) (Nat.le_of_ble_eq_true rfl) (t_X12_number hr F (pW (pW (pW x1 ((x3 + (nI 2)) + ((nI 4) * a1)) x4) (((x3 + (nI 2)) + ((nI 4) * a1)) + (nI 2)) ((pW x1 ((x3 + (nI 2)) + ((nI 4) * a1)) x4).1 15)) (((x3 + (nI 2)) + ((nI 4) * a1)) + (nI 3)) ((pW (pW x1 ((x3 + (nI 2)) + ((nI 4) * a1)) x4) (((x3 + (nI 2)) + ((nI 4) * a1)) + (nI 2)) ((pW x1 ((x3 + (nI 2)) + ((nI 4) * a1)) x4).1 15)).1 15)) (nI 999999) e_x21) ?_
              obtain ⟨q22, h⟩ := gd_some h
              refine rs_swD (s := x21.2) (i := (((x3 + (nI 2)) + ((nI 4) * a1)) + (nI 1))) (x := x21.1) dX12_readLine_117 hr q22 ?_
              refine jg_aload_n dX12_readLine_118 rfl ?_
              refine rs_ga fl_X12_13 dX12_readLine_119 hr rfl ?_
              refine jg_iload_n dX12_readLine_122 rfl ?_
              refine jg_iconst (v := nI 1) dX12_readLine_123 (by decide) ?_
              refine jg_iadd (x := ((x3 + (nI 2)) + ((nI 4) * a1))) (y := (nI 1)) dX12_readLine_124  ?_
              refine rs_lwD (s := (pW x21.2 (((x3 + (nI 2)) + ((nI 4) * a1)) + (nI 1)) x21.1)) (i := (((x3 + (nI 2)) + ((nI 4) * a1)) + (nI 1))) dX12_readLine_125 hr q22 ?_
              refine jg_if_ge (x := (gW (pW x21.2 (((x3 + (nI 2)) + ((nI 4) * a1)) + (nI 1)) x21.1) (((x3 + (nI 2)) + ((nI 4) * a1)) + (nI 1)))) (tgt := 131) dX12_readLine_126 (by decide) (fun c23 => ?_) (fun c23 => ?_)
              · replace h := it_t c23 h
                refine jg_iload_n dX12_readLine_131 rfl ?_
                refine jg_iconst (v := nI 4) dX12_readLine_132 (by decide) ?_
                refine jg_icmp_le (x := x4) (y := (nI 4)) (tgt := 138) dX12_readLine_133 (by decide) (fun c24 => ?_) (fun c24 => ?_)
                · replace h := it_t c24 h
                  refine jg_aload_n dX12_readLine_138 rfl ?_
                  refine jg_ldcws (i := 27) rfl dX12_readLine_139 ?_
                  obtain ⟨x25, e_x25, h⟩ := bd_some h
                  refine rs_call (As := [.ref (1000000 + 27)]) kv_X12_284 dX12_readLine_142 hr rfl rfl (by decide) (Nat.le_of_ble_eq_true rfl) rfl (by decide) (Nat.le_of_ble_eq_true rfl) (t_X12_passes hr F (pW x21.2 (((x3 + (nI 2)) + ((nI 4) * a1)) + (nI 1)) x21.1) 27 e_x25) ?_
                  refine jg_if_eq (x := x25.1) (tgt := 162) dX12_readLine_145 (by decide) (fun c26 => ?_) (fun c26 => ?_)
                  · replace h := it_t c26 h
                    refine jg_aload_n dX12_readLine_162 rfl ?_
                    refine rs_ga fl_X12_13 dX12_readLine_163 hr rfl ?_
                    refine jg_iload_n dX12_readLine_166 rfl ?_
                    refine jg_iconst (v := nI 3) dX12_readLine_167 (by decide) ?_
                    refine jg_iadd (x := ((x3 + (nI 2)) + ((nI 4) * a1))) (y := (nI 3)) dX12_readLine_168  ?_
                    refine jg_aload_n dX12_readLine_169 rfl ?_
                    refine rs_ga fl_X12_245 dX12_readLine_170 hr rfl ?_
                    refine rs_swD (s := x25.2) (i := (((x3 + (nI 2)) + ((nI 4) * a1)) + (nI 3))) (x := (x25.2.1 15)) dX12_readLine_173 hr q7 ?_
                    refine jg_iconst (v := nI 1) dX12_readLine_174 (by decide) ?_
                    obtain rfl := Option.some.inj h
                    exact jg_zreturn dX12_readLine_175 rfl (rfl) ⟨rfl, rfl⟩
                  · replace h := it_f c26 h
                    refine jg_aload_n dX12_readLine_148 rfl ?_
                    refine jg_iconst (v := nI 0) dX12_readLine_149 (by decide) ?_
                    refine rs_putD (s := x25.2) (k := 12) (x := (nI 0)) fl_X12_275 dX12_readLine_150 hr (by decide) (rfl) rfl rfl ?_
                    refine jg_aload_n dX12_readLine_153 rfl ?_
                    obtain ⟨x27, e_x27, h⟩ := bd_some h
                    refine rs_call (As := []) kv_X12_278 dX12_readLine_154 hr rfl rfl (by decide) (Nat.le_of_ble_eq_true rfl) rfl (by decide) (Nat.le_of_ble_eq_true rfl) (t_rdC hr F (pN x25.2 12 (nI 0)) e_x27) ?_
                    refine jg_if_ne (x := x27.1) (tgt := 162) dX12_readLine_157 (by decide) (fun c28 => ?_) (fun c28 => ?_)
                    · replace h := it_f c28 h
                      refine jg_aload_n dX12_readLine_162 rfl ?_
                      refine rs_ga fl_X12_13 dX12_readLine_163 hr rfl ?_
                      refine jg_iload_n dX12_readLine_166 rfl ?_
                      refine jg_iconst (v := nI 3) dX12_readLine_167 (by decide) ?_
                      refine jg_iadd (x := ((x3 + (nI 2)) + ((nI 4) * a1))) (y := (nI 3)) dX12_readLine_168  ?_
                      refine jg_aload_n dX12_readLine_169 rfl ?_
                      refine rs_ga fl_X12_245 dX12_readLine_170 hr rfl ?_
                      refine rs_swD (s := x27.2) (i := (((x3 + (nI 2)) + ((nI 4) * a1)) + (nI 3))) (x := (x27.2.1 15)) dX12_readLine_173 hr q7 ?_
                      refine jg_iconst (v := nI 1) dX12_readLine_174 (by decide) ?_
                      obtain rfl := Option.some.inj h
                      exact jg_zreturn dX12_readLine_175 rfl (rfl) ⟨rfl, rfl⟩
                    · replace h := it_t c28 h
                      refine jg_iconst (v := nI 0) dX12_readLine_160 (by decide) ?_
                      obtain rfl := Option.some.inj h
                      exact jg_zreturn dX12_readLine_161 rfl (rfl) ⟨rfl, rfl⟩
                · replace h := it_f c24 h
                  refine jg_iconst (v := nI 1) dX12_readLine_136 (by decide) ?_
                  obtain rfl := Option.some.inj h
                  exact jg_zreturn dX12_readLine_137 rfl (rfl) ⟨rfl, rfl⟩
              · replace h := it_f c23 h
                refine jg_iconst (v := nI 0) dX12_readLine_129 (by decide) ?_
                obtain rfl := Option.some.inj h
                exact jg_zreturn dX12_readLine_130 rfl (rfl) ⟨rfl, rfl⟩
            · replace h := it_t c20 h
              refine jg_bipush (v := nI 50) dX12_readLine_106 (by decide) ?_
              refine jg_goto (tgt := 114) dX12_readLine_108 (by decide) ?_
              obtain ⟨x29, e_x29, h⟩ := bd_some h
              refine rs_call (As := [.int (nI 50)]) kv_X12_301 dX12_readLine_114 hr rfl rfl (by decide) (Nat.le_of_ble_eq_true rfl) rfl (by decide) (Nat.le_of_ble_eq_true rfl) (t_X12_number hr F (pW (pW (pW x1 ((x3 + (nI 2)) + ((nI 4) * a1)) x4) (((x3 + (nI 2)) + ((nI 4) * a1)) + (nI 2)) ((pW x1 ((x3 + (nI 2)) + ((nI 4) * a1)) x4).1 15)) (((x3 + (nI 2)) + ((nI 4) * a1)) + (nI 3)) ((pW (pW x1 ((x3 + (nI 2)) + ((nI 4) * a1)) x4) (((x3 + (nI 2)) + ((nI 4) * a1)) + (nI 2)) ((pW x1 ((x3 + (nI 2)) + ((nI 4) * a1)) x4).1 15)).1 15)) (nI 50) e_x29) ?_
              obtain ⟨q30, h⟩ := gd_some h
              refine rs_swD (s := x29.2) (i := (((x3 + (nI 2)) + ((nI 4) * a1)) + (nI 1))) (x := x29.1) dX12_readLine_117 hr q30 ?_
              refine jg_aload_n dX12_readLine_118 rfl ?_
              refine rs_ga fl_X12_13 dX12_readLine_119 hr rfl ?_
              refine jg_iload_n dX12_readLine_122 rfl ?_
              refine jg_iconst (v := nI 1) dX12_readLine_123 (by decide) ?_
              refine jg_iadd (x := ((x3 + (nI 2)) + ((nI 4) * a1))) (y := (nI 1)) dX12_readLine_124  ?_
              refine rs_lwD (s := (pW x29.2 (((x3 + (nI 2)) + ((nI 4) * a1)) + (nI 1)) x29.1)) (i := (((x3 + (nI 2)) + ((nI 4) * a1)) + (nI 1))) dX12_readLine_125 hr q30 ?_
              refine jg_if_ge (x := (gW (pW x29.2 (((x3 + (nI 2)) + ((nI 4) * a1)) + (nI 1)) x29.1) (((x3 + (nI 2)) + ((nI 4) * a1)) + (nI 1)))) (tgt := 131) dX12_readLine_126 (by decide) (fun c31 => ?_) (fun c31 => ?_)
              · replace h := it_t c31 h
                refine jg_iload_n dX12_readLine_131 rfl ?_
                refine jg_iconst (v := nI 4) dX12_readLine_132 (by decide) ?_
                refine jg_icmp_le (x := x4) (y := (nI 4)) (tgt := 138) dX12_readLine_133 (by decide) (fun c32 => ?_) (fun c32 => ?_)
                · replace h := it_t c32 h
                  refine jg_aload_n dX12_readLine_138 rfl ?_
                  refine jg_ldcws (i := 27) rfl dX12_readLine_139 ?_
                  obtain ⟨x33, e_x33, h⟩ := bd_some h
                  refine rs_call (As := [.ref (1000000 + 27)]) kv_X12_284 dX12_readLine_142 hr rfl rfl (by decide) (Nat.le_of_ble_eq_true rfl) rfl (by decide) (Nat.le_of_ble_eq_true rfl) (t_X12_passes hr F (pW x29.2 (((x3 + (nI 2)) + ((nI 4) * a1)) + (nI 1)) x29.1) 27 e_x33) ?_
                  refine jg_if_eq (x := x33.1) (tgt := 162) dX12_readLine_145 (by decide) (fun c34 => ?_) (fun c34 => ?_)
                  · replace h := it_t c34 h
                    refine jg_aload_n dX12_readLine_162 rfl ?_
                    refine rs_ga fl_X12_13 dX12_readLine_163 hr rfl ?_
                    refine jg_iload_n dX12_readLine_166 rfl ?_
                    refine jg_iconst (v := nI 3) dX12_readLine_167 (by decide) ?_
                    refine jg_iadd (x := ((x3 + (nI 2)) + ((nI 4) * a1))) (y := (nI 3)) dX12_readLine_168  ?_
                    refine jg_aload_n dX12_readLine_169 rfl ?_
                    refine rs_ga fl_X12_245 dX12_readLine_170 hr rfl ?_
                    refine rs_swD (s := x33.2) (i := (((x3 + (nI 2)) + ((nI 4) * a1)) + (nI 3))) (x := (x33.2.1 15)) dX12_readLine_173 hr q7 ?_
                    refine jg_iconst (v := nI 1) dX12_readLine_174 (by decide) ?_
                    obtain rfl := Option.some.inj h
                    exact jg_zreturn dX12_readLine_175 rfl (rfl) ⟨rfl, rfl⟩
                  · replace h := it_f c34 h
                    refine jg_aload_n dX12_readLine_148 rfl ?_
                    refine jg_iconst (v := nI 0) dX12_readLine_149 (by decide) ?_
                    refine rs_putD (s := x33.2) (k := 12) (x := (nI 0)) fl_X12_275 dX12_readLine_150 hr (by decide) (rfl) rfl rfl ?_
                    refine jg_aload_n dX12_readLine_153 rfl ?_
                    obtain ⟨x35, e_x35, h⟩ := bd_some h
                    refine rs_call (As := []) kv_X12_278 dX12_readLine_154 hr rfl rfl (by decide) (Nat.le_of_ble_eq_true rfl) rfl (by decide) (Nat.le_of_ble_eq_true rfl) (t_rdC hr F (pN x33.2 12 (nI 0)) e_x35) ?_
                    refine jg_if_ne (x := x35.1) (tgt := 162) dX12_readLine_157 (by decide) (fun c36 => ?_) (fun c36 => ?_)
                    · replace h := it_f c36 h
                      refine jg_aload_n dX12_readLine_162 rfl ?_
                      refine rs_ga fl_X12_13 dX12_readLine_163 hr rfl ?_
                      refine jg_iload_n dX12_readLine_166 rfl ?_
                      refine jg_iconst (v := nI 3) dX12_readLine_167 (by decide) ?_
                      refine jg_iadd (x := ((x3 + (nI 2)) + ((nI 4) * a1))) (y := (nI 3)) dX12_readLine_168  ?_
                      refine jg_aload_n dX12_readLine_169 rfl ?_
                      refine rs_ga fl_X12_245 dX12_readLine_170 hr rfl ?_
                      refine rs_swD (s := x35.2) (i := (((x3 + (nI 2)) + ((nI 4) * a1)) + (nI 3))) (x := (x35.2.1 15)) dX12_readLine_173 hr q7 ?_
                      refine jg_iconst (v := nI 1) dX12_readLine_174 (by decide) ?_
                      obtain rfl := Option.some.inj h
                      exact jg_zreturn dX12_readLine_175 rfl (rfl) ⟨rfl, rfl⟩
                    · replace h := it_t c36 h
                      refine jg_iconst (v := nI 0) dX12_readLine_160 (by decide) ?_
                      obtain rfl := Option.some.inj h
                      exact jg_zreturn dX12_readLine_161 rfl (rfl) ⟨rfl, rfl⟩
                · replace h := it_f c32 h
                  refine jg_iconst (v := nI 1) dX12_readLine_136 (by decide) ?_
                  obtain rfl := Option.some.inj h
                  exact jg_zreturn dX12_readLine_137 rfl (rfl) ⟨rfl, rfl⟩
              · replace h := it_f c31 h
                refine jg_iconst (v := nI 0) dX12_readLine_129 (by decide) ?_
                obtain rfl := Option.some.inj h
                exact jg_zreturn dX12_readLine_130 rfl (rfl) ⟨rfl, rfl⟩
          · replace h := it_t c19 h
            refine jg_bipush (v := nI 100) dX12_readLine_96 (by decide) ?_
            refine jg_goto (tgt := 114) dX12_readLine_98 (by decide) ?_
            obtain ⟨x37, e_x37, h⟩ := bd_some h
            refine rs_call (As := [.int (nI 100)]) kv_X12_301 dX12_readLine_114 hr rfl rfl (by decide) (Nat.le_of_ble_eq_true rfl) rfl (by decide) (Nat.le_of_ble_eq_true rfl) (t_X12_number hr F (pW (pW (pW x1 ((x3 + (nI 2)) + ((nI 4) * a1)) x4) (((x3 + (nI 2)) + ((nI 4) * a1)) + (nI 2)) ((pW x1 ((x3 + (nI 2)) + ((nI 4) * a1)) x4).1 15)) (((x3 + (nI 2)) + ((nI 4) * a1)) + (nI 3)) ((pW (pW x1 ((x3 + (nI 2)) + ((nI 4) * a1)) x4) (((x3 + (nI 2)) + ((nI 4) * a1)) + (nI 2)) ((pW x1 ((x3 + (nI 2)) + ((nI 4) * a1)) x4).1 15)).1 15)) (nI 100) e_x37) ?_
            obtain ⟨q38, h⟩ := gd_some h
            refine rs_swD (s := x37.2) (i := (((x3 + (nI 2)) + ((nI 4) * a1)) + (nI 1))) (x := x37.1) dX12_readLine_117 hr q38 ?_
            refine jg_aload_n dX12_readLine_118 rfl ?_
            refine rs_ga fl_X12_13 dX12_readLine_119 hr rfl ?_
            refine jg_iload_n dX12_readLine_122 rfl ?_
            refine jg_iconst (v := nI 1) dX12_readLine_123 (by decide) ?_
            refine jg_iadd (x := ((x3 + (nI 2)) + ((nI 4) * a1))) (y := (nI 1)) dX12_readLine_124  ?_
            refine rs_lwD (s := (pW x37.2 (((x3 + (nI 2)) + ((nI 4) * a1)) + (nI 1)) x37.1)) (i := (((x3 + (nI 2)) + ((nI 4) * a1)) + (nI 1))) dX12_readLine_125 hr q38 ?_
            refine jg_if_ge (x := (gW (pW x37.2 (((x3 + (nI 2)) + ((nI 4) * a1)) + (nI 1)) x37.1) (((x3 + (nI 2)) + ((nI 4) * a1)) + (nI 1)))) (tgt := 131) dX12_readLine_126 (by decide) (fun c39 => ?_) (fun c39 => ?_)
            · replace h := it_t c39 h
              refine jg_iload_n dX12_readLine_131 rfl ?_
              refine jg_iconst (v := nI 4) dX12_readLine_132 (by decide) ?_
              refine jg_icmp_le (x := x4) (y := (nI 4)) (tgt := 138) dX12_readLine_133 (by decide) (fun c40 => ?_) (fun c40 => ?_)
              · replace h := it_t c40 h
                refine jg_aload_n dX12_readLine_138 rfl ?_
                refine jg_ldcws (i := 27) rfl dX12_readLine_139 ?_
                obtain ⟨x41, e_x41, h⟩ := bd_some h
                refine rs_call (As := [.ref (1000000 + 27)]) kv_X12_284 dX12_readLine_142 hr rfl rfl (by decide) (Nat.le_of_ble_eq_true rfl) rfl (by decide) (Nat.le_of_ble_eq_true rfl) (t_X12_passes hr F (pW x37.2 (((x3 + (nI 2)) + ((nI 4) * a1)) + (nI 1)) x37.1) 27 e_x41) ?_
                refine jg_if_eq (x := x41.1) (tgt := 162) dX12_readLine_145 (by decide) (fun c42 => ?_) (fun c42 => ?_)
                · replace h := it_t c42 h
                  refine jg_aload_n dX12_readLine_162 rfl ?_
                  refine rs_ga fl_X12_13 dX12_readLine_163 hr rfl ?_
                  refine jg_iload_n dX12_readLine_166 rfl ?_
                  refine jg_iconst (v := nI 3) dX12_readLine_167 (by decide) ?_
                  refine jg_iadd (x := ((x3 + (nI 2)) + ((nI 4) * a1))) (y := (nI 3)) dX12_readLine_168  ?_
                  refine jg_aload_n dX12_readLine_169 rfl ?_
                  refine rs_ga fl_X12_245 dX12_readLine_170 hr rfl ?_
                  refine rs_swD (s := x41.2) (i := (((x3 + (nI 2)) + ((nI 4) * a1)) + (nI 3))) (x := (x41.2.1 15)) dX12_readLine_173 hr q7 ?_
                  refine jg_iconst (v := nI 1) dX12_readLine_174 (by decide) ?_
                  obtain rfl := Option.some.inj h
                  exact jg_zreturn dX12_readLine_175 rfl (rfl) ⟨rfl, rfl⟩
                · replace h := it_f c42 h
                  refine jg_aload_n dX12_readLine_148 rfl ?_
                  refine jg_iconst (v := nI 0) dX12_readLine_149 (by decide) ?_
                  refine rs_putD (s := x41.2) (k := 12) (x := (nI 0)) fl_X12_275 dX12_readLine_150 hr (by decide) (rfl) rfl rfl ?_
                  refine jg_aload_n dX12_readLine_153 rfl ?_
                  obtain ⟨x43, e_x43, h⟩ := bd_some h
                  refine rs_call (As := []) kv_X12_278 dX12_readLine_154 hr rfl rfl (by decide) (Nat.le_of_ble_eq_true rfl) rfl (by decide) (Nat.le_of_ble_eq_true rfl) (t_rdC hr F (pN x41.2 12 (nI 0)) e_x43) ?_
                  refine jg_if_ne (x := x43.1) (tgt := 162) dX12_readLine_157 (by decide) (fun c44 => ?_) (fun c44 => ?_)
                  · replace h := it_f c44 h
                    refine jg_aload_n dX12_readLine_162 rfl ?_
                    refine rs_ga fl_X12_13 dX12_readLine_163 hr rfl ?_
                    refine jg_iload_n dX12_readLine_166 rfl ?_
                    refine jg_iconst (v := nI 3) dX12_readLine_167 (by decide) ?_
                    refine jg_iadd (x := ((x3 + (nI 2)) + ((nI 4) * a1))) (y := (nI 3)) dX12_readLine_168  ?_
                    refine jg_aload_n dX12_readLine_169 rfl ?_
                    refine rs_ga fl_X12_245 dX12_readLine_170 hr rfl ?_
                    refine rs_swD (s := x43.2) (i := (((x3 + (nI 2)) + ((nI 4) * a1)) + (nI 3))) (x := (x43.2.1 15)) dX12_readLine_173 hr q7 ?_
                    refine jg_iconst (v := nI 1) dX12_readLine_174 (by decide) ?_
                    obtain rfl := Option.some.inj h
                    exact jg_zreturn dX12_readLine_175 rfl (rfl) ⟨rfl, rfl⟩
                  · replace h := it_t c44 h
                    refine jg_iconst (v := nI 0) dX12_readLine_160 (by decide) ?_
                    obtain rfl := Option.some.inj h
                    exact jg_zreturn dX12_readLine_161 rfl (rfl) ⟨rfl, rfl⟩
              · replace h := it_f c40 h
                refine jg_iconst (v := nI 1) dX12_readLine_136 (by decide) ?_
                obtain rfl := Option.some.inj h
                exact jg_zreturn dX12_readLine_137 rfl (rfl) ⟨rfl, rfl⟩
            · replace h := it_f c39 h
              refine jg_iconst (v := nI 0) dX12_readLine_129 (by decide) ?_
              obtain rfl := Option.some.inj h
              exact jg_zreturn dX12_readLine_130 rfl (rfl) ⟨rfl, rfl⟩
      · replace h := it_t c9 h
        refine jg_aload_n dX12_readLine_71 rfl ?_
        refine jg_iload_n dX12_readLine_72 rfl ?_
        obtain ⟨x45, e_x45, h⟩ := bd_some h
        refine rs_call (As := [.int ((x3 + (nI 2)) + ((nI 4) * a1))]) kv_X12_336 dX12_readLine_73 hr rfl rfl (by decide) (Nat.le_of_ble_eq_true rfl) rfl (by decide) (Nat.le_of_ble_eq_true rfl) (t_X12_readTurn hr F (pW (pW (pW x1 ((x3 + (nI 2)) + ((nI 4) * a1)) x4) (((x3 + (nI 2)) + ((nI 4) * a1)) + (nI 2)) ((pW x1 ((x3 + (nI 2)) + ((nI 4) * a1)) x4).1 15)) (((x3 + (nI 2)) + ((nI 4) * a1)) + (nI 3)) ((pW (pW x1 ((x3 + (nI 2)) + ((nI 4) * a1)) x4) (((x3 + (nI 2)) + ((nI 4) * a1)) + (nI 2)) ((pW x1 ((x3 + (nI 2)) + ((nI 4) * a1)) x4).1 15)).1 15)) ((x3 + (nI 2)) + ((nI 4) * a1)) e_x45) ?_
        obtain ⟨q9, h⟩ := gd_some h
        obtain rfl := Option.some.inj h
        exact jg_zreturn dX12_readLine_76 rfl (zb_nar q9) ⟨rfl, rfl⟩
    · replace h := it_f c8 h
      refine jg_iconst (v := nI 0) dX12_readLine_64 (by decide) ?_
      obtain rfl := Option.some.inj h
      exact jg_zreturn dX12_readLine_65 rfl (rfl) ⟨rfl, rfl⟩
  · replace h := it_t c2 h
    refine jg_iconst (v := nI 0) dX12_readLine_10 (by decide) ?_
    obtain rfl := Option.some.inj h
    exact jg_zreturn dX12_readLine_11 rfl (rfl) ⟨rfl, rfl⟩
theorem dX12_readAll_0 : decode cX12_readAll 0 = .ok (.aload_n 0, 1) := by decide +kernel
theorem dX12_readAll_1 : decode cX12_readAll 1 = .ok (.iconst 0, 1) := by decide +kernel
theorem dX12_readAll_2 : decode cX12_readAll 2 = .ok (.putfield 211, 3) := by decide +kernel
theorem dX12_readAll_5 : decode cX12_readAll 5 = .ok (.aload_n 0, 1) := by decide +kernel
theorem dX12_readAll_6 : decode cX12_readAll 6 = .ok (.iconst 0, 1) := by decide +kernel
theorem dX12_readAll_7 : decode cX12_readAll 7 = .ok (.putfield 245, 3) := by decide +kernel
theorem dX12_readAll_10 : decode cX12_readAll 10 = .ok (.aload_n 0, 1) := by decide +kernel
theorem dX12_readAll_11 : decode cX12_readAll 11 = .ok (.invokevirtual 223, 3) := by decide +kernel
theorem dX12_readAll_14 : decode cX12_readAll 14 = .ok (.aload_n 0, 1) := by decide +kernel
theorem dX12_readAll_15 : decode cX12_readAll 15 = .ok (.getfield 211, 3) := by decide +kernel
theorem dX12_readAll_18 : decode cX12_readAll 18 = .ok (.aload_n 0, 1) := by decide +kernel
theorem dX12_readAll_19 : decode cX12_readAll 19 = .ok (.getfield 214, 3) := by decide +kernel
theorem dX12_readAll_22 : decode cX12_readAll 22 = .ok (.if_icmp .ne 5, 3) := by decide +kernel
theorem dX12_readAll_25 : decode cX12_readAll 25 = .ok (.iconst 0, 1) := by decide +kernel
theorem dX12_readAll_26 : decode cX12_readAll 26 = .ok (.ireturn, 1) := by decide +kernel
theorem dX12_readAll_27 : decode cX12_readAll 27 = .ok (.iconst 0, 1) := by decide +kernel
theorem dX12_readAll_28 : decode cX12_readAll 28 = .ok (.istore_n 1, 1) := by decide +kernel
theorem dX12_readAll_29 : decode cX12_readAll 29 = .ok (.aload_n 0, 1) := by decide +kernel
theorem dX12_readAll_30 : decode cX12_readAll 30 = .ok (.iload_n 1, 1) := by decide +kernel
theorem dX12_readAll_31 : decode cX12_readAll 31 = .ok (.invokevirtual 341, 3) := by decide +kernel
theorem dX12_readAll_34 : decode cX12_readAll 34 = .ok (.ifCond .ne 5, 3) := by decide +kernel
theorem dX12_readAll_37 : decode cX12_readAll 37 = .ok (.iconst (-1), 1) := by decide +kernel
theorem dX12_readAll_38 : decode cX12_readAll 38 = .ok (.ireturn, 1) := by decide +kernel
theorem dX12_readAll_39 : decode cX12_readAll 39 = .ok (.aload_n 0, 1) := by decide +kernel
theorem dX12_readAll_40 : decode cX12_readAll 40 = .ok (.invokevirtual 223, 3) := by decide +kernel
theorem dX12_readAll_43 : decode cX12_readAll 43 = .ok (.aload_n 0, 1) := by decide +kernel
theorem dX12_readAll_44 : decode cX12_readAll 44 = .ok (.getfield 211, 3) := by decide +kernel
theorem dX12_readAll_47 : decode cX12_readAll 47 = .ok (.aload_n 0, 1) := by decide +kernel
theorem dX12_readAll_48 : decode cX12_readAll 48 = .ok (.getfield 214, 3) := by decide +kernel
theorem dX12_readAll_51 : decode cX12_readAll 51 = .ok (.if_icmp .ne 7, 3) := by decide +kernel
theorem dX12_readAll_54 : decode cX12_readAll 54 = .ok (.iload_n 1, 1) := by decide +kernel
theorem dX12_readAll_55 : decode cX12_readAll 55 = .ok (.iconst 1, 1) := by decide +kernel
theorem dX12_readAll_56 : decode cX12_readAll 56 = .ok (.iadd, 1) := by decide +kernel
theorem dX12_readAll_57 : decode cX12_readAll 57 = .ok (.ireturn, 1) := by decide +kernel
theorem dX12_readAll_58 : decode cX12_readAll 58 = .ok (.aload_n 0, 1) := by decide +kernel
theorem dX12_readAll_59 : decode cX12_readAll 59 = .ok (.bipush 59, 2) := by decide +kernel
theorem dX12_readAll_61 : decode cX12_readAll 61 = .ok (.bipush 59, 2) := by decide +kernel
theorem dX12_readAll_63 : decode cX12_readAll 63 = .ok (.invokevirtual 217, 3) := by decide +kernel
theorem dX12_readAll_66 : decode cX12_readAll 66 = .ok (.ifCond .ne 5, 3) := by decide +kernel
theorem dX12_readAll_69 : decode cX12_readAll 69 = .ok (.iconst (-1), 1) := by decide +kernel
theorem dX12_readAll_70 : decode cX12_readAll 70 = .ok (.ireturn, 1) := by decide +kernel
theorem dX12_readAll_71 : decode cX12_readAll 71 = .ok (.aload_n 0, 1) := by decide +kernel
theorem dX12_readAll_72 : decode cX12_readAll 72 = .ok (.dup, 1) := by decide +kernel
theorem dX12_readAll_73 : decode cX12_readAll 73 = .ok (.getfield 211, 3) := by decide +kernel
theorem dX12_readAll_76 : decode cX12_readAll 76 = .ok (.iconst 1, 1) := by decide +kernel
theorem dX12_readAll_77 : decode cX12_readAll 77 = .ok (.iadd, 1) := by decide +kernel
theorem dX12_readAll_78 : decode cX12_readAll 78 = .ok (.putfield 211, 3) := by decide +kernel
theorem dX12_readAll_81 : decode cX12_readAll 81 = .ok (.iinc 1 1, 3) := by decide +kernel
theorem dX12_readAll_84 : decode cX12_readAll 84 = .ok (.goto (-55), 3) := by decide +kernel
noncomputable def o_X12_readAll_29 (F : Nat)   : Nat → Int32 → rs_S → Option ((rs_S) ⊕ (Int32 × rs_S))
  | 0, _, _ => none
  | f + 1, l1, s => (o_X12_readLine F s l1).bind fun x3 => (if x3.1 = 0 then (some (.inl x3.2)) else ((o_X12_blanks F x3.2).bind fun x5 => (if (x5.1 9) = (x5.1 10) then (some (.inr (l1 + (nI 1), x5))) else ((o_X12_isAt x5 (nI 59) (nI 59)).bind fun x7 => (if x7 = 0 then (some (.inr ((-1), x5))) else (o_X12_readAll_29 F f (l1 + nI 1) (pN x5 9 ((x5.1 9) + (nI 1)))))))))
set_option maxHeartbeats 4000000 in
theorem t_X12_readAll_29 {Γ : jg_G} {g : Nat → jg_C} {n r : Nat} (hr : r + 11 ≤ n) (F : Nat)    (Q : jg_Q) {x : (rs_S) ⊕ (Int32 × rs_S)} (K1 : ∀ y, x = .inl y → jg Γ mX12_readAll 43 0 0 37 [none, none] [] (rs_h g r y, n) Q) (K2 : ∀ z, x = .inr z → Q (.inl (some (.int z.1))) (rs_h g r z.2, n)) : ∀ (f : Nat) (l1 : Int32) (s : rs_S), o_X12_readAll_29 F f l1 s = some x → jg Γ mX12_readAll 43 0 0 29 [some (.ref r), some (.int l1)] [] (rs_h g r s, n) Q := by
  intro f
  induction f with
  | zero => intro l1 s h; rw [o_X12_readAll_29] at h; cases h
  | succ f ih =>
   intro l1 s h
   rw [o_X12_readAll_29] at h
   refine jg_aload_n dX12_readAll_29 rfl ?_
   refine jg_iload_n dX12_readAll_30 rfl ?_
   obtain ⟨x3, e_x3, h⟩ := bd_some h
   refine rs_call (As := [.int l1]) kv_X12_341 dX12_readAll_31 hr rfl rfl (by decide) (Nat.le_of_ble_eq_true rfl) rfl (by decide) (Nat.le_of_ble_eq_true rfl) (t_X12_readLine hr F s l1 e_x3) ?_
   refine jg_if_ne (x := x3.1) (tgt := 39) dX12_readAll_34 (by decide) (fun c4 => ?_) (fun c4 => ?_)
   · replace h := it_f c4 h
     refine jg_aload_n dX12_readAll_39 rfl ?_
     obtain ⟨x5, e_x5, h⟩ := bd_some h
     refine rs_call (As := []) kv_X12_223 dX12_readAll_40 hr rfl rfl (by decide) (Nat.le_of_ble_eq_true rfl) rfl (by decide) (Nat.le_of_ble_eq_true rfl) (t_X12_blanks hr F x3.2 e_x5) ?_
     refine jg_aload_n dX12_readAll_43 rfl ?_
     refine rs_ga fl_X12_211 dX12_readAll_44 hr rfl ?_
     refine jg_aload_n dX12_readAll_47 rfl ?_
     refine rs_ga fl_X12_214 dX12_readAll_48 hr rfl ?_
     refine jg_icmp_ne (x := (x5.1 9)) (y := (x5.1 10)) (tgt := 58) dX12_readAll_51 (by decide) (fun c6 => ?_) (fun c6 => ?_)
     · replace h := it_f c6 h
       refine jg_aload_n dX12_readAll_58 rfl ?_
       refine jg_bipush (v := nI 59) dX12_readAll_59 (by decide) ?_
       refine jg_bipush (v := nI 59) dX12_readAll_61 (by decide) ?_
       obtain ⟨x7, e_x7, h⟩ := bd_some h
       refine rs_call (As := [.int (nI 59), .int (nI 59)]) kv_X12_217 dX12_readAll_63 hr rfl rfl (by decide) (Nat.le_of_ble_eq_true rfl) rfl (by decide) (Nat.le_of_ble_eq_true rfl) (t_X12_isAt hr x5 (nI 59) (nI 59) e_x7) ?_
       refine jg_if_ne (x := x7) (tgt := 71) dX12_readAll_66 (by decide) (fun c8 => ?_) (fun c8 => ?_)
       · replace h := it_f c8 h
         refine jg_aload_n dX12_readAll_71 rfl ?_
         refine jg_dup dX12_readAll_72 rfl ?_
         refine rs_ga fl_X12_211 dX12_readAll_73 hr rfl ?_
         refine jg_iconst (v := nI 1) dX12_readAll_76 (by decide) ?_
         refine jg_iadd (x := (x5.1 9)) (y := (nI 1)) dX12_readAll_77  ?_
         refine rs_putD (s := x5) (k := 9) (x := ((x5.1 9) + (nI 1))) fl_X12_211 dX12_readAll_78 hr (by decide) (rfl) rfl rfl ?_
         refine jg_iinc (x := l1) (v := l1 + nI 1) (L' := [some (.ref r), some (.int (l1 + nI 1))]) dX12_readAll_81 rfl (ic_k _ (by decide)) (by decide) rfl ?_
         refine jg_goto (tgt := 29) dX12_readAll_84 (by decide) ?_
         refine jg_fg (L' := [some (.ref r), some (.int (l1 + nI 1))]) (by repeat (first | exact trivial | refine ⟨rfl, ?_⟩ | show jg_le _ _)) ?_
         exact ih (l1 + nI 1) (pN x5 9 ((x5.1 9) + (nI 1))) h
       · replace h := it_t c8 h
         refine jg_iconst (v := (-1)) dX12_readAll_69 (by decide) ?_
         obtain rfl := Option.some.inj h
         exact jg_ireturn dX12_readAll_70 rfl (K2 _ rfl)
     · replace h := it_t c6 h
       refine jg_iload_n dX12_readAll_54 rfl ?_
       refine jg_iconst (v := nI 1) dX12_readAll_55 (by decide) ?_
       refine jg_iadd (x := l1) (y := (nI 1)) dX12_readAll_56  ?_
       obtain rfl := Option.some.inj h
       exact jg_ireturn dX12_readAll_57 rfl (K2 _ rfl)
   · replace h := it_t c4 h
     refine jg_fg (L' := [none, none]) (by repeat (first | exact trivial | refine ⟨rfl, ?_⟩ | show jg_le _ _)) ?_
     obtain rfl := Option.some.inj h
     exact K1 _ rfl
noncomputable def o_X12_readAll (F : Nat) (s : rs_S) : Option (Int32 × rs_S) := (o_X12_blanks F (pN (pN s 9 (nI 0)) 15 (nI 0))).bind fun x1 => (if (x1.1 9) = (x1.1 10) then (some (nI 0, x1)) else ((o_X12_readAll_29 F F (nI 0) x1).bind fun x9 => (Sum.elim (fun y10 => some ((-1), y10)) (fun z11 => some z11) x9)))
set_option maxHeartbeats 4000000 in
theorem t_X12_readAll {Γ : jg_G} {g : Nat → jg_C} {n r : Nat} (hr : r + 11 ≤ n) (F : Nat) (s : rs_S)  {x : Int32 × rs_S} (h : o_X12_readAll F s = some x) : jc Γ mX12_readAll 43 0 0 [some (.ref r), none] (rs_h g r s, n) (.inl (some (.int x.1))) (rs_h g r x.2, n) := by
  refine jc_of ?_
  rw [o_X12_readAll] at h
  refine jg_aload_n dX12_readAll_0 rfl ?_
  refine jg_iconst (v := nI 0) dX12_readAll_1 (by decide) ?_
  refine rs_putD (s := s) (k := 9) (x := (nI 0)) fl_X12_211 dX12_readAll_2 hr (by decide) (rfl) rfl rfl ?_
  refine jg_aload_n dX12_readAll_5 rfl ?_
  refine jg_iconst (v := nI 0) dX12_readAll_6 (by decide) ?_
  refine rs_putD (s := (pN s 9 (nI 0))) (k := 15) (x := (nI 0)) fl_X12_245 dX12_readAll_7 hr (by decide) (rfl) rfl rfl ?_
  refine jg_aload_n dX12_readAll_10 rfl ?_
  obtain ⟨x1, e_x1, h⟩ := bd_some h
  refine rs_call (As := []) kv_X12_223 dX12_readAll_11 hr rfl rfl (by decide) (Nat.le_of_ble_eq_true rfl) rfl (by decide) (Nat.le_of_ble_eq_true rfl) (t_X12_blanks hr F (pN (pN s 9 (nI 0)) 15 (nI 0)) e_x1) ?_
  refine jg_aload_n dX12_readAll_14 rfl ?_
  refine rs_ga fl_X12_211 dX12_readAll_15 hr rfl ?_
  refine jg_aload_n dX12_readAll_18 rfl ?_
  refine rs_ga fl_X12_214 dX12_readAll_19 hr rfl ?_
  refine jg_icmp_ne (x := (x1.1 9)) (y := (x1.1 10)) (tgt := 27) dX12_readAll_22 (by decide) (fun c2 => ?_) (fun c2 => ?_)
  · replace h := it_f c2 h
    refine jg_iconst (v := nI 0) dX12_readAll_27 (by decide) ?_
    refine jg_istore_n (L' := [some (.ref r), some (.int (nI 0))]) dX12_readAll_28 (by decide) rfl ?_
    obtain ⟨x9, e_x9, h⟩ := bd_some h
    refine jg_fg (L' := [some (.ref r), some (.int (nI 0))]) (by repeat (first | exact trivial | refine ⟨rfl, ?_⟩ | show jg_le _ _)) ?_
    refine t_X12_readAll_29 hr F  _ (x := x9) ?_ ?_ F (nI 0) x1 e_x9
    · intro y10 ey; subst ey; replace h := se_l h
      refine jg_iconst (v := (-1)) dX12_readAll_37 (by decide) ?_
      obtain rfl := Option.some.inj h
      exact jg_ireturn dX12_readAll_38 rfl ⟨rfl, rfl⟩
    · intro z11 ez; subst ez; replace h := se_r h
      obtain rfl := Option.some.inj h
      exact ⟨rfl, rfl⟩
  · replace h := it_t c2 h
    refine jg_iconst (v := nI 0) dX12_readAll_25 (by decide) ?_
    obtain rfl := Option.some.inj h
    exact jg_ireturn dX12_readAll_26 rfl ⟨rfl, rfl⟩
theorem dX12_reads_0 : decode cX12_reads 0 = .ok (.aload_n 0, 1) := by decide +kernel
theorem dX12_reads_1 : decode cX12_reads 1 = .ok (.invokevirtual 344, 3) := by decide +kernel
theorem dX12_reads_4 : decode cX12_reads 4 = .ok (.istore_n 1, 1) := by decide +kernel
theorem dX12_reads_5 : decode cX12_reads 5 = .ok (.aload_n 0, 1) := by decide +kernel
theorem dX12_reads_6 : decode cX12_reads 6 = .ok (.iload_n 1, 1) := by decide +kernel
theorem dX12_reads_7 : decode cX12_reads 7 = .ok (.ifCond .ge 10, 3) := by decide +kernel
theorem dX12_reads_10 : decode cX12_reads 10 = .ok (.aload_n 0, 1) := by decide +kernel
theorem dX12_reads_11 : decode cX12_reads 11 = .ok (.getfield 220, 3) := by decide +kernel
theorem dX12_reads_14 : decode cX12_reads 14 = .ok (.goto 4, 3) := by decide +kernel
theorem dX12_reads_17 : decode cX12_reads 17 = .ok (.iconst (-1), 1) := by decide +kernel
theorem dX12_reads_18 : decode cX12_reads 18 = .ok (.putfield 30, 3) := by decide +kernel
theorem dX12_reads_21 : decode cX12_reads 21 = .ok (.aload_n 0, 1) := by decide +kernel
theorem dX12_reads_22 : decode cX12_reads 22 = .ok (.getfield 13, 3) := by decide +kernel
theorem dX12_reads_25 : decode cX12_reads 25 = .ok (.bipush 21, 2) := by decide +kernel
theorem dX12_reads_27 : decode cX12_reads 27 = .ok (.invokestatic 242, 3) := by decide +kernel
theorem dX12_reads_30 : decode cX12_reads 30 = .ok (.iconst 1, 1) := by decide +kernel
theorem dX12_reads_31 : decode cX12_reads 31 = .ok (.iadd, 1) := by decide +kernel
theorem dX12_reads_32 : decode cX12_reads 32 = .ok (.iload_n 1, 1) := by decide +kernel
theorem dX12_reads_33 : decode cX12_reads 33 = .ok (.iastore, 1) := by decide +kernel
theorem dX12_reads_34 : decode cX12_reads 34 = .ok (.iload_n 1, 1) := by decide +kernel
theorem dX12_reads_35 : decode cX12_reads 35 = .ok (.ireturn, 1) := by decide +kernel
noncomputable def o_X12_reads (F : Nat) (s : rs_S) : Option (Int32 × rs_S) := (o_X12_readAll F s).bind fun x1 => (if 0 ≤ x1.1 then ((o_X12_actAt (pN x1.2 13 (-1)) (nI 21)).bind fun x3 => (if iL (x3 + (nI 1)) 22216 then (some (x1.1, pW (pN x1.2 13 (-1)) (x3 + (nI 1)) x1.1)) else none)) else ((o_X12_actAt (pN x1.2 13 (x1.2.1 11)) (nI 21)).bind fun x5 => (if iL (x5 + (nI 1)) 22216 then (some (x1.1, pW (pN x1.2 13 (x1.2.1 11)) (x5 + (nI 1)) x1.1)) else none)))
set_option maxHeartbeats 4000000 in
theorem t_X12_reads {Γ : jg_G} {g : Nat → jg_C} {n r : Nat} (hr : r + 11 ≤ n) (F : Nat) (s : rs_S)  {x : Int32 × rs_S} (h : o_X12_reads F s = some x) : jc Γ mX12_reads 44 0 0 [some (.ref r), none] (rs_h g r s, n) (.inl (some (.int x.1))) (rs_h g r x.2, n) := by
  refine jc_of ?_
  rw [o_X12_reads] at h
  refine jg_aload_n dX12_reads_0 rfl ?_
  obtain ⟨x1, e_x1, h⟩ := bd_some h
  refine rs_call (As := []) kv_X12_344 dX12_reads_1 hr rfl rfl (by decide) (Nat.le_of_ble_eq_true rfl) rfl (by decide) (Nat.le_of_ble_eq_true rfl) (t_X12_readAll hr F s e_x1) ?_
  refine jg_istore_n (L' := [some (.ref r), some (.int x1.1)]) dX12_reads_4 (by decide) rfl ?_
  refine jg_aload_n dX12_reads_5 rfl ?_
  refine jg_iload_n dX12_reads_6 rfl ?_
  refine jg_if_ge (x := x1.1) (tgt := 17) dX12_reads_7 (by decide) (fun c2 => ?_) (fun c2 => ?_)
  · replace h := it_t c2 h
    refine jg_iconst (v := (-1)) dX12_reads_17 (by decide) ?_
    refine rs_putD (s := x1.2) (k := 13) (x := (-1)) fl_X12_30 dX12_reads_18 hr (by decide) (rfl) rfl rfl ?_
    refine jg_aload_n dX12_reads_21 rfl ?_
    refine rs_ga fl_X12_13 dX12_reads_22 hr rfl ?_
    refine jg_bipush (v := nI 21) dX12_reads_25 (by decide) ?_
    obtain ⟨x3, e_x3, h⟩ := bd_some h
    refine rs_callS (As := [.int (nI 21)]) ks_X12_242 dX12_reads_27 rfl (by decide) (Nat.le_of_ble_eq_true rfl) rfl (by decide) (Nat.le_of_ble_eq_true rfl) (t_X12_actAt hr (pN x1.2 13 (-1)) (nI 21) e_x3) ?_
    refine jg_iconst (v := nI 1) dX12_reads_30 (by decide) ?_
    refine jg_iadd (x := x3) (y := (nI 1)) dX12_reads_31  ?_
    refine jg_iload_n dX12_reads_32 rfl ?_
    obtain ⟨q4, h⟩ := gd_some h
    refine rs_swD (s := (pN x1.2 13 (-1))) (i := (x3 + (nI 1))) (x := x1.1) dX12_reads_33 hr q4 ?_
    refine jg_iload_n dX12_reads_34 rfl ?_
    obtain rfl := Option.some.inj h
    exact jg_ireturn dX12_reads_35 rfl ⟨rfl, rfl⟩
  · replace h := it_f c2 h
    refine jg_aload_n dX12_reads_10 rfl ?_
    refine rs_ga fl_X12_220 dX12_reads_11 hr rfl ?_
    refine jg_goto (tgt := 18) dX12_reads_14 (by decide) ?_
    refine rs_putD (s := x1.2) (k := 13) (x := (x1.2.1 11)) fl_X12_30 dX12_reads_18 hr (by decide) (rfl) rfl rfl ?_
    refine jg_aload_n dX12_reads_21 rfl ?_
    refine rs_ga fl_X12_13 dX12_reads_22 hr rfl ?_
    refine jg_bipush (v := nI 21) dX12_reads_25 (by decide) ?_
    obtain ⟨x5, e_x5, h⟩ := bd_some h
    refine rs_callS (As := [.int (nI 21)]) ks_X12_242 dX12_reads_27 rfl (by decide) (Nat.le_of_ble_eq_true rfl) rfl (by decide) (Nat.le_of_ble_eq_true rfl) (t_X12_actAt hr (pN x1.2 13 (x1.2.1 11)) (nI 21) e_x5) ?_
    refine jg_iconst (v := nI 1) dX12_reads_30 (by decide) ?_
    refine jg_iadd (x := x5) (y := (nI 1)) dX12_reads_31  ?_
    refine jg_iload_n dX12_reads_32 rfl ?_
    obtain ⟨q6, h⟩ := gd_some h
    refine rs_swD (s := (pN x1.2 13 (x1.2.1 11))) (i := (x5 + (nI 1))) (x := x1.1) dX12_reads_33 hr q6 ?_
    refine jg_iload_n dX12_reads_34 rfl ?_
    obtain rfl := Option.some.inj h
    exact jg_ireturn dX12_reads_35 rfl ⟨rfl, rfl⟩
theorem dX12_act_0 : decode cX12_act 0 = .ok (.aload_n 0, 1) := by decide +kernel
theorem dX12_act_1 : decode cX12_act 1 = .ok (.invokevirtual 347, 3) := by decide +kernel
theorem dX12_act_4 : decode cX12_act 4 = .ok (.aload_n 0, 1) := by decide +kernel
theorem dX12_act_5 : decode cX12_act 5 = .ok (.iload_n 1, 1) := by decide +kernel
theorem dX12_act_6 : decode cX12_act 6 = .ok (.aload_n 0, 1) := by decide +kernel
theorem dX12_act_7 : decode cX12_act 7 = .ok (.invokevirtual 77, 3) := by decide +kernel
theorem dX12_act_10 : decode cX12_act 10 = .ok (.sipush 1250, 3) := by decide +kernel
theorem dX12_act_13 : decode cX12_act 13 = .ok (.invokestatic 49, 3) := by decide +kernel
theorem dX12_act_16 : decode cX12_act 16 = .ok (.ifCond .ne 7, 3) := by decide +kernel
theorem dX12_act_19 : decode cX12_act 19 = .ok (.iconst 1, 1) := by decide +kernel
theorem dX12_act_20 : decode cX12_act 20 = .ok (.goto 4, 3) := by decide +kernel
theorem dX12_act_23 : decode cX12_act 23 = .ok (.iconst 0, 1) := by decide +kernel
theorem dX12_act_24 : decode cX12_act 24 = .ok (.iconst 1, 1) := by decide +kernel
theorem dX12_act_25 : decode cX12_act 25 = .ok (.invokevirtual 69, 3) := by decide +kernel
theorem dX12_act_28 : decode cX12_act 28 = .ok (.ifCond .eq 5, 3) := by decide +kernel
theorem dX12_act_31 : decode cX12_act 31 = .ok (.iconst 0, 1) := by decide +kernel
theorem dX12_act_32 : decode cX12_act 32 = .ok (.ireturn, 1) := by decide +kernel
theorem dX12_act_33 : decode cX12_act 33 = .ok (.aload_n 0, 1) := by decide +kernel
theorem dX12_act_34 : decode cX12_act 34 = .ok (.invokevirtual 350, 3) := by decide +kernel
theorem dX12_act_37 : decode cX12_act 37 = .ok (.istore_n 2, 1) := by decide +kernel
theorem dX12_act_38 : decode cX12_act 38 = .ok (.aload_n 0, 1) := by decide +kernel
theorem dX12_act_39 : decode cX12_act 39 = .ok (.iload_n 2, 1) := by decide +kernel
theorem dX12_act_40 : decode cX12_act 40 = .ok (.ifCond .ge 7, 3) := by decide +kernel
theorem dX12_act_43 : decode cX12_act 43 = .ok (.iconst 1, 1) := by decide +kernel
theorem dX12_act_44 : decode cX12_act 44 = .ok (.goto 4, 3) := by decide +kernel
theorem dX12_act_47 : decode cX12_act 47 = .ok (.iconst 0, 1) := by decide +kernel
theorem dX12_act_48 : decode cX12_act 48 = .ok (.iconst 1, 1) := by decide +kernel
theorem dX12_act_49 : decode cX12_act 49 = .ok (.invokevirtual 69, 3) := by decide +kernel
theorem dX12_act_52 : decode cX12_act 52 = .ok (.ifCond .ne 54, 3) := by decide +kernel
theorem dX12_act_55 : decode cX12_act 55 = .ok (.aload_n 0, 1) := by decide +kernel
theorem dX12_act_56 : decode cX12_act 56 = .ok (.aload_n 0, 1) := by decide +kernel
theorem dX12_act_57 : decode cX12_act 57 = .ok (.getfield 13, 3) := by decide +kernel
theorem dX12_act_60 : decode cX12_act 60 = .ok (.sipush 2660, 3) := by decide +kernel
theorem dX12_act_63 : decode cX12_act 63 = .ok (.iaload, 1) := by decide +kernel
theorem dX12_act_64 : decode cX12_act 64 = .ok (.iconst 1, 1) := by decide +kernel
theorem dX12_act_65 : decode cX12_act 65 = .ok (.if_icmp .ne 7, 3) := by decide +kernel
theorem dX12_act_68 : decode cX12_act 68 = .ok (.iconst 1, 1) := by decide +kernel
theorem dX12_act_69 : decode cX12_act 69 = .ok (.goto 4, 3) := by decide +kernel
theorem dX12_act_72 : decode cX12_act 72 = .ok (.iconst 0, 1) := by decide +kernel
theorem dX12_act_73 : decode cX12_act 73 = .ok (.iconst 2, 1) := by decide +kernel
theorem dX12_act_74 : decode cX12_act 74 = .ok (.invokevirtual 69, 3) := by decide +kernel
theorem dX12_act_77 : decode cX12_act 77 = .ok (.ifCond .ne 29, 3) := by decide +kernel
theorem dX12_act_80 : decode cX12_act 80 = .ok (.aload_n 0, 1) := by decide +kernel
theorem dX12_act_81 : decode cX12_act 81 = .ok (.aload_n 0, 1) := by decide +kernel
theorem dX12_act_82 : decode cX12_act 82 = .ok (.getfield 13, 3) := by decide +kernel
theorem dX12_act_85 : decode cX12_act 85 = .ok (.sipush 2811, 3) := by decide +kernel
theorem dX12_act_88 : decode cX12_act 88 = .ok (.iaload, 1) := by decide +kernel
theorem dX12_act_89 : decode cX12_act 89 = .ok (.bipush 20, 2) := by decide +kernel
theorem dX12_act_91 : decode cX12_act 91 = .ok (.if_icmp .ne 7, 3) := by decide +kernel
theorem dX12_act_94 : decode cX12_act 94 = .ok (.iconst 1, 1) := by decide +kernel
theorem dX12_act_95 : decode cX12_act 95 = .ok (.goto 4, 3) := by decide +kernel
theorem dX12_act_98 : decode cX12_act 98 = .ok (.iconst 0, 1) := by decide +kernel
theorem dX12_act_99 : decode cX12_act 99 = .ok (.iconst 3, 1) := by decide +kernel
theorem dX12_act_100 : decode cX12_act 100 = .ok (.invokevirtual 69, 3) := by decide +kernel
theorem dX12_act_103 : decode cX12_act 103 = .ok (.ifCond .eq 5, 3) := by decide +kernel
theorem dX12_act_106 : decode cX12_act 106 = .ok (.iconst 0, 1) := by decide +kernel
theorem dX12_act_107 : decode cX12_act 107 = .ok (.ireturn, 1) := by decide +kernel
theorem dX12_act_108 : decode cX12_act 108 = .ok (.aload_n 0, 1) := by decide +kernel
theorem dX12_act_109 : decode cX12_act 109 = .ok (.bipush 21, 2) := by decide +kernel
theorem dX12_act_111 : decode cX12_act 111 = .ok (.aload_n 0, 1) := by decide +kernel
theorem dX12_act_112 : decode cX12_act 112 = .ok (.getfield 13, 3) := by decide +kernel
theorem dX12_act_115 : decode cX12_act 115 = .ok (.sipush 2811, 3) := by decide +kernel
theorem dX12_act_118 : decode cX12_act 118 = .ok (.iaload, 1) := by decide +kernel
theorem dX12_act_119 : decode cX12_act 119 = .ok (.iload_n 1, 1) := by decide +kernel
theorem dX12_act_120 : decode cX12_act 120 = .ok (.invokevirtual 353, 3) := by decide +kernel
theorem dX12_act_123 : decode cX12_act 123 = .ok (.aload_n 0, 1) := by decide +kernel
theorem dX12_act_124 : decode cX12_act 124 = .ok (.getfield 13, 3) := by decide +kernel
theorem dX12_act_127 : decode cX12_act 127 = .ok (.sipush 2811, 3) := by decide +kernel
theorem dX12_act_130 : decode cX12_act 130 = .ok (.dup2, 1) := by decide +kernel
theorem dX12_act_131 : decode cX12_act 131 = .ok (.iaload, 1) := by decide +kernel
theorem dX12_act_132 : decode cX12_act 132 = .ok (.iconst 1, 1) := by decide +kernel
theorem dX12_act_133 : decode cX12_act 133 = .ok (.iadd, 1) := by decide +kernel
theorem dX12_act_134 : decode cX12_act 134 = .ok (.iastore, 1) := by decide +kernel
theorem dX12_act_135 : decode cX12_act 135 = .ok (.iload_n 2, 1) := by decide +kernel
theorem dX12_act_136 : decode cX12_act 136 = .ok (.ireturn, 1) := by decide +kernel
noncomputable def o_X12_act (F : Nat) (s : rs_S) (a1 : Int32) : Option (Int32 × rs_S) := (o_X12_uses s).bind fun x1 => ((o_X12_today x1).bind fun x2 => ((o_X12_in x1 a1 x2 (nI 1250)).bind fun x3 => (if x3 = 0 then (some (nI 0, pN x1 0 (nI 1))) else ((o_X12_reads F x1).bind fun x5 => (if 0 ≤ x5.1 then (if (gW x5.2 (nI 2660)) = (nI 1) then (some (nI 0, pN x5.2 0 (nI 2))) else (if (gW x5.2 (nI 2811)) = (nI 20) then (some (nI 0, pN x5.2 0 (nI 3))) else ((o_X12_copies F x5.2 (nI 21) (gW x5.2 (nI 2811)) a1).bind fun x9 => (some (x5.1, pW x9 (nI 2811) ((gW x9 (nI 2811)) + (nI 1))))))) else (some (nI 0, pN x5.2 0 (nI 1))))))))
set_option maxHeartbeats 4000000 in
theorem t_X12_act {Γ : jg_G} {g : Nat → jg_C} {n r : Nat} (hr : r + 11 ≤ n) (F : Nat) (s : rs_S) (a1 : Int32)  {x : Int32 × rs_S} (h : o_X12_act F s a1 = some x) : jc Γ mX12_act 45 0 0 [some (.ref r), some (.int a1), none] (rs_h g r s, n) (.inl (some (.int x.1))) (rs_h g r x.2, n) := by
  refine jc_of ?_
  rw [o_X12_act] at h
  refine jg_aload_n dX12_act_0 rfl ?_
  obtain ⟨x1, e_x1, h⟩ := bd_some h
  refine rs_call (As := []) kv_X12_347 dX12_act_1 hr rfl rfl (by decide) (Nat.le_of_ble_eq_true rfl) rfl (by decide) (Nat.le_of_ble_eq_true rfl) (t_X12_uses hr s e_x1) ?_
  refine jg_aload_n dX12_act_4 rfl ?_
  refine jg_iload_n dX12_act_5 rfl ?_
  refine jg_aload_n dX12_act_6 rfl ?_
  obtain ⟨x2, e_x2, h⟩ := bd_some h
  refine rs_call (As := []) kv_X12_77 dX12_act_7 hr rfl rfl (by decide) (Nat.le_of_ble_eq_true rfl) rfl (by decide) (Nat.le_of_ble_eq_true rfl) (t_X12_today hr x1 e_x2) ?_
  refine jg_sipush (v := nI 1250) dX12_act_10 (by decide) ?_
  obtain ⟨x3, e_x3, h⟩ := bd_some h
  refine rs_callS (As := [.int a1, .int x2, .int (nI 1250)]) ks_X12_49 dX12_act_13 rfl (by decide) (Nat.le_of_ble_eq_true rfl) rfl (by decide) (Nat.le_of_ble_eq_true rfl) (t_X12_in hr x1 a1 x2 (nI 1250) e_x3) ?_
  refine jg_if_ne (x := x3) (tgt := 23) dX12_act_16 (by decide) (fun c4 => ?_) (fun c4 => ?_)
  · replace h := it_f c4 h
    refine jg_iconst (v := nI 0) dX12_act_23 (by decide) ?_
    refine jg_iconst (v := nI 1) dX12_act_24 (by decide) ?_
    refine rs_call (As := [.int (nI 0), .int (nI 1)]) kv_X12_69 dX12_act_25 hr rfl rfl (by decide) (Nat.le_of_ble_eq_true rfl) rfl (by decide) (Nat.le_of_ble_eq_true rfl) (t_X12_throwsIf hr x1 (nI 0) (nI 1) (o_thr0 x1 (nI 1))) ?_
    refine jg_if_eq (x := (nI 0)) (tgt := 33) dX12_act_28 (by decide) (fun _ => ?_) (fun q9 => absurd q9 (by decide))
    refine jg_aload_n dX12_act_33 rfl ?_
    obtain ⟨x5, e_x5, h⟩ := bd_some h
    refine rs_call (As := []) kv_X12_350 dX12_act_34 hr rfl rfl (by decide) (Nat.le_of_ble_eq_true rfl) rfl (by decide) (Nat.le_of_ble_eq_true rfl) (t_X12_reads hr F x1 e_x5) ?_
    refine jg_istore_n (L' := [some (.ref r), some (.int a1), some (.int x5.1)]) dX12_act_37 (by decide) rfl ?_
    refine jg_aload_n dX12_act_38 rfl ?_
    refine jg_iload_n dX12_act_39 rfl ?_
    refine jg_if_ge (x := x5.1) (tgt := 47) dX12_act_40 (by decide) (fun c6 => ?_) (fun c6 => ?_)
    · replace h := it_t c6 h
      refine jg_iconst (v := nI 0) dX12_act_47 (by decide) ?_
      refine jg_iconst (v := nI 1) dX12_act_48 (by decide) ?_
      refine rs_call (As := [.int (nI 0), .int (nI 1)]) kv_X12_69 dX12_act_49 hr rfl rfl (by decide) (Nat.le_of_ble_eq_true rfl) rfl (by decide) (Nat.le_of_ble_eq_true rfl) (t_X12_throwsIf hr x5.2 (nI 0) (nI 1) (o_thr0 x5.2 (nI 1))) ?_
      refine jg_if_ne (x := (nI 0)) (tgt := 106) dX12_act_52 (by decide) (fun q9 => absurd q9 (by decide)) (fun _ => ?_)
      refine jg_aload_n dX12_act_55 rfl ?_
      refine jg_aload_n dX12_act_56 rfl ?_
      refine rs_ga fl_X12_13 dX12_act_57 hr rfl ?_
      refine jg_sipush (v := nI 2660) dX12_act_60 (by decide) ?_
      refine rs_lwD (s := x5.2) (i := (nI 2660)) dX12_act_63 hr (by decide) ?_
      refine jg_iconst (v := nI 1) dX12_act_64 (by decide) ?_
      refine jg_icmp_ne (x := (gW x5.2 (nI 2660))) (y := (nI 1)) (tgt := 72) dX12_act_65 (by decide) (fun c7 => ?_) (fun c7 => ?_)
      · replace h := it_f c7 h
        refine jg_iconst (v := nI 0) dX12_act_72 (by decide) ?_
        refine jg_iconst (v := nI 2) dX12_act_73 (by decide) ?_
        refine rs_call (As := [.int (nI 0), .int (nI 2)]) kv_X12_69 dX12_act_74 hr rfl rfl (by decide) (Nat.le_of_ble_eq_true rfl) rfl (by decide) (Nat.le_of_ble_eq_true rfl) (t_X12_throwsIf hr x5.2 (nI 0) (nI 2) (o_thr0 x5.2 (nI 2))) ?_
        refine jg_if_ne (x := (nI 0)) (tgt := 106) dX12_act_77 (by decide) (fun q9 => absurd q9 (by decide)) (fun _ => ?_)
        refine jg_aload_n dX12_act_80 rfl ?_
        refine jg_aload_n dX12_act_81 rfl ?_
        refine rs_ga fl_X12_13 dX12_act_82 hr rfl ?_
        refine jg_sipush (v := nI 2811) dX12_act_85 (by decide) ?_
        refine rs_lwD (s := x5.2) (i := (nI 2811)) dX12_act_88 hr (by decide) ?_
        refine jg_bipush (v := nI 20) dX12_act_89 (by decide) ?_
        refine jg_icmp_ne (x := (gW x5.2 (nI 2811))) (y := (nI 20)) (tgt := 98) dX12_act_91 (by decide) (fun c8 => ?_) (fun c8 => ?_)
        · replace h := it_f c8 h
          refine jg_iconst (v := nI 0) dX12_act_98 (by decide) ?_
          refine jg_iconst (v := nI 3) dX12_act_99 (by decide) ?_
          refine rs_call (As := [.int (nI 0), .int (nI 3)]) kv_X12_69 dX12_act_100 hr rfl rfl (by decide) (Nat.le_of_ble_eq_true rfl) rfl (by decide) (Nat.le_of_ble_eq_true rfl) (t_X12_throwsIf hr x5.2 (nI 0) (nI 3) (o_thr0 x5.2 (nI 3))) ?_
          refine jg_if_eq (x := (nI 0)) (tgt := 108) dX12_act_103 (by decide) (fun _ => ?_) (fun q9 => absurd q9 (by decide))
          refine jg_aload_n dX12_act_108 rfl ?_
          refine jg_bipush (v := nI 21) dX12_act_109 (by decide) ?_
          refine jg_aload_n dX12_act_111 rfl ?_
          refine rs_ga fl_X12_13 dX12_act_112 hr rfl ?_
          refine jg_sipush (v := nI 2811) dX12_act_115 (by decide) ?_
          refine rs_lwD (s := x5.2) (i := (nI 2811)) dX12_act_118 hr (by decide) ?_
          refine jg_iload_n dX12_act_119 rfl ?_
          obtain ⟨x9, e_x9, h⟩ := bd_some h
          refine rs_call (As := [.int (nI 21), .int (gW x5.2 (nI 2811)), .int a1]) kv_X12_353 dX12_act_120 hr rfl rfl (by decide) (Nat.le_of_ble_eq_true rfl) rfl (by decide) (Nat.le_of_ble_eq_true rfl) (t_X12_copies hr F x5.2 (nI 21) (gW x5.2 (nI 2811)) a1 e_x9) ?_
          refine jg_aload_n dX12_act_123 rfl ?_
          refine rs_ga fl_X12_13 dX12_act_124 hr rfl ?_
          refine jg_sipush (v := nI 2811) dX12_act_127 (by decide) ?_
          refine jg_dup2 dX12_act_130 rfl rfl ?_
          refine rs_lwD (s := x9) (i := (nI 2811)) dX12_act_131 hr (by decide) ?_
          refine jg_iconst (v := nI 1) dX12_act_132 (by decide) ?_
          refine jg_iadd (x := (gW x9 (nI 2811))) (y := (nI 1)) dX12_act_133  ?_
          refine rs_swD (s := x9) (i := (nI 2811)) (x := ((gW x9 (nI 2811)) + (nI 1))) dX12_act_134 hr (by decide) ?_
          refine jg_iload_n dX12_act_135 rfl ?_
          obtain rfl := Option.some.inj h
          exact jg_ireturn dX12_act_136 rfl ⟨rfl, rfl⟩
        · replace h := it_t c8 h
          refine jg_iconst (v := nI 1) dX12_act_94 (by decide) ?_
          refine jg_goto (tgt := 99) dX12_act_95 (by decide) ?_
          refine jg_iconst (v := nI 3) dX12_act_99 (by decide) ?_
          refine rs_call (As := [.int (nI 1), .int (nI 3)]) kv_X12_69 dX12_act_100 hr rfl rfl (by decide) (Nat.le_of_ble_eq_true rfl) rfl (by decide) (Nat.le_of_ble_eq_true rfl) (t_X12_throwsIf hr x5.2 (nI 1) (nI 3) (o_thr1 x5.2 (nI 3))) ?_
          refine jg_if_eq (x := (nI 1)) (tgt := 108) dX12_act_103 (by decide) (fun q9 => absurd q9 (by decide)) (fun _ => ?_)
          refine jg_iconst (v := nI 0) dX12_act_106 (by decide) ?_
          obtain rfl := Option.some.inj h
          exact jg_ireturn dX12_act_107 rfl ⟨rfl, rfl⟩
      · replace h := it_t c7 h
        refine jg_iconst (v := nI 1) dX12_act_68 (by decide) ?_
        refine jg_goto (tgt := 73) dX12_act_69 (by decide) ?_
        refine jg_iconst (v := nI 2) dX12_act_73 (by decide) ?_
        refine rs_call (As := [.int (nI 1), .int (nI 2)]) kv_X12_69 dX12_act_74 hr rfl rfl (by decide) (Nat.le_of_ble_eq_true rfl) rfl (by decide) (Nat.le_of_ble_eq_true rfl) (t_X12_throwsIf hr x5.2 (nI 1) (nI 2) (o_thr1 x5.2 (nI 2))) ?_
        refine jg_if_ne (x := (nI 1)) (tgt := 106) dX12_act_77 (by decide) (fun _ => ?_) (fun q9 => absurd q9 (by decide))
        refine jg_iconst (v := nI 0) dX12_act_106 (by decide) ?_
        obtain rfl := Option.some.inj h
        exact jg_ireturn dX12_act_107 rfl ⟨rfl, rfl⟩
    · replace h := it_f c6 h
      refine jg_iconst (v := nI 1) dX12_act_43 (by decide) ?_
      refine jg_goto (tgt := 48) dX12_act_44 (by decide) ?_
      refine jg_iconst (v := nI 1) dX12_act_48 (by decide) ?_
      refine rs_call (As := [.int (nI 1), .int (nI 1)]) kv_X12_69 dX12_act_49 hr rfl rfl (by decide) (Nat.le_of_ble_eq_true rfl) rfl (by decide) (Nat.le_of_ble_eq_true rfl) (t_X12_throwsIf hr x5.2 (nI 1) (nI 1) (o_thr1 x5.2 (nI 1))) ?_
      refine jg_if_ne (x := (nI 1)) (tgt := 106) dX12_act_52 (by decide) (fun _ => ?_) (fun q9 => absurd q9 (by decide))
      refine jg_iconst (v := nI 0) dX12_act_106 (by decide) ?_
      obtain rfl := Option.some.inj h
      exact jg_ireturn dX12_act_107 rfl ⟨rfl, rfl⟩
  · replace h := it_t c4 h
    refine jg_iconst (v := nI 1) dX12_act_19 (by decide) ?_
    refine jg_goto (tgt := 24) dX12_act_20 (by decide) ?_
    refine jg_iconst (v := nI 1) dX12_act_24 (by decide) ?_
    refine rs_call (As := [.int (nI 1), .int (nI 1)]) kv_X12_69 dX12_act_25 hr rfl rfl (by decide) (Nat.le_of_ble_eq_true rfl) rfl (by decide) (Nat.le_of_ble_eq_true rfl) (t_X12_throwsIf hr x1 (nI 1) (nI 1) (o_thr1 x1 (nI 1))) ?_
    refine jg_if_eq (x := (nI 1)) (tgt := 33) dX12_act_28 (by decide) (fun q9 => absurd q9 (by decide)) (fun _ => ?_)
    refine jg_iconst (v := nI 0) dX12_act_31 (by decide) ?_
    obtain rfl := Option.some.inj h
    exact jg_ireturn dX12_act_32 rfl ⟨rfl, rfl⟩
theorem dX12_propose_0 : decode cX12_propose 0 = .ok (.aload_n 0, 1) := by decide +kernel
theorem dX12_propose_1 : decode cX12_propose 1 = .ok (.invokevirtual 347, 3) := by decide +kernel
theorem dX12_propose_4 : decode cX12_propose 4 = .ok (.aload_n 0, 1) := by decide +kernel
theorem dX12_propose_5 : decode cX12_propose 5 = .ok (.iload_n 1, 1) := by decide +kernel
theorem dX12_propose_6 : decode cX12_propose 6 = .ok (.aload_n 0, 1) := by decide +kernel
theorem dX12_propose_7 : decode cX12_propose 7 = .ok (.invokevirtual 77, 3) := by decide +kernel
theorem dX12_propose_10 : decode cX12_propose 10 = .ok (.sipush 1250, 3) := by decide +kernel
theorem dX12_propose_13 : decode cX12_propose 13 = .ok (.invokestatic 49, 3) := by decide +kernel
theorem dX12_propose_16 : decode cX12_propose 16 = .ok (.ifCond .ne 7, 3) := by decide +kernel
theorem dX12_propose_19 : decode cX12_propose 19 = .ok (.iconst 1, 1) := by decide +kernel
theorem dX12_propose_20 : decode cX12_propose 20 = .ok (.goto 4, 3) := by decide +kernel
theorem dX12_propose_23 : decode cX12_propose 23 = .ok (.iconst 0, 1) := by decide +kernel
theorem dX12_propose_24 : decode cX12_propose 24 = .ok (.iconst 1, 1) := by decide +kernel
theorem dX12_propose_25 : decode cX12_propose 25 = .ok (.invokevirtual 69, 3) := by decide +kernel
theorem dX12_propose_28 : decode cX12_propose 28 = .ok (.ifCond .eq 5, 3) := by decide +kernel
theorem dX12_propose_31 : decode cX12_propose 31 = .ok (.iconst 0, 1) := by decide +kernel
theorem dX12_propose_32 : decode cX12_propose 32 = .ok (.ireturn, 1) := by decide +kernel
theorem dX12_propose_33 : decode cX12_propose 33 = .ok (.aload_n 0, 1) := by decide +kernel
theorem dX12_propose_34 : decode cX12_propose 34 = .ok (.invokevirtual 350, 3) := by decide +kernel
theorem dX12_propose_37 : decode cX12_propose 37 = .ok (.istore_n 2, 1) := by decide +kernel
theorem dX12_propose_38 : decode cX12_propose 38 = .ok (.aload_n 0, 1) := by decide +kernel
theorem dX12_propose_39 : decode cX12_propose 39 = .ok (.iload_n 2, 1) := by decide +kernel
theorem dX12_propose_40 : decode cX12_propose 40 = .ok (.ifCond .ge 7, 3) := by decide +kernel
theorem dX12_propose_43 : decode cX12_propose 43 = .ok (.iconst 1, 1) := by decide +kernel
theorem dX12_propose_44 : decode cX12_propose 44 = .ok (.goto 4, 3) := by decide +kernel
theorem dX12_propose_47 : decode cX12_propose 47 = .ok (.iconst 0, 1) := by decide +kernel
theorem dX12_propose_48 : decode cX12_propose 48 = .ok (.iconst 1, 1) := by decide +kernel
theorem dX12_propose_49 : decode cX12_propose 49 = .ok (.invokevirtual 69, 3) := by decide +kernel
theorem dX12_propose_52 : decode cX12_propose 52 = .ok (.ifCond .ne 54, 3) := by decide +kernel
theorem dX12_propose_55 : decode cX12_propose 55 = .ok (.aload_n 0, 1) := by decide +kernel
theorem dX12_propose_56 : decode cX12_propose 56 = .ok (.aload_n 0, 1) := by decide +kernel
theorem dX12_propose_57 : decode cX12_propose 57 = .ok (.getfield 13, 3) := by decide +kernel
theorem dX12_propose_60 : decode cX12_propose 60 = .ok (.sipush 2661, 3) := by decide +kernel
theorem dX12_propose_63 : decode cX12_propose 63 = .ok (.iaload, 1) := by decide +kernel
theorem dX12_propose_64 : decode cX12_propose 64 = .ok (.iconst 1, 1) := by decide +kernel
theorem dX12_propose_65 : decode cX12_propose 65 = .ok (.if_icmp .ne 7, 3) := by decide +kernel
theorem dX12_propose_68 : decode cX12_propose 68 = .ok (.iconst 1, 1) := by decide +kernel
theorem dX12_propose_69 : decode cX12_propose 69 = .ok (.goto 4, 3) := by decide +kernel
theorem dX12_propose_72 : decode cX12_propose 72 = .ok (.iconst 0, 1) := by decide +kernel
theorem dX12_propose_73 : decode cX12_propose 73 = .ok (.iconst 2, 1) := by decide +kernel
theorem dX12_propose_74 : decode cX12_propose 74 = .ok (.invokevirtual 69, 3) := by decide +kernel
theorem dX12_propose_77 : decode cX12_propose 77 = .ok (.ifCond .ne 29, 3) := by decide +kernel
theorem dX12_propose_80 : decode cX12_propose 80 = .ok (.aload_n 0, 1) := by decide +kernel
theorem dX12_propose_81 : decode cX12_propose 81 = .ok (.aload_n 0, 1) := by decide +kernel
theorem dX12_propose_82 : decode cX12_propose 82 = .ok (.getfield 13, 3) := by decide +kernel
theorem dX12_propose_85 : decode cX12_propose 85 = .ok (.sipush 2811, 3) := by decide +kernel
theorem dX12_propose_88 : decode cX12_propose 88 = .ok (.iaload, 1) := by decide +kernel
theorem dX12_propose_89 : decode cX12_propose 89 = .ok (.bipush 20, 2) := by decide +kernel
theorem dX12_propose_91 : decode cX12_propose 91 = .ok (.if_icmp .ne 7, 3) := by decide +kernel
theorem dX12_propose_94 : decode cX12_propose 94 = .ok (.iconst 1, 1) := by decide +kernel
theorem dX12_propose_95 : decode cX12_propose 95 = .ok (.goto 4, 3) := by decide +kernel
theorem dX12_propose_98 : decode cX12_propose 98 = .ok (.iconst 0, 1) := by decide +kernel
theorem dX12_propose_99 : decode cX12_propose 99 = .ok (.iconst 3, 1) := by decide +kernel
theorem dX12_propose_100 : decode cX12_propose 100 = .ok (.invokevirtual 69, 3) := by decide +kernel
theorem dX12_propose_103 : decode cX12_propose 103 = .ok (.ifCond .eq 5, 3) := by decide +kernel
theorem dX12_propose_106 : decode cX12_propose 106 = .ok (.iconst 0, 1) := by decide +kernel
theorem dX12_propose_107 : decode cX12_propose 107 = .ok (.ireturn, 1) := by decide +kernel
theorem dX12_propose_108 : decode cX12_propose 108 = .ok (.aload_n 0, 1) := by decide +kernel
theorem dX12_propose_109 : decode cX12_propose 109 = .ok (.bipush 21, 2) := by decide +kernel
theorem dX12_propose_111 : decode cX12_propose 111 = .ok (.bipush 20, 2) := by decide +kernel
theorem dX12_propose_113 : decode cX12_propose 113 = .ok (.iload_n 1, 1) := by decide +kernel
theorem dX12_propose_114 : decode cX12_propose 114 = .ok (.invokevirtual 353, 3) := by decide +kernel
theorem dX12_propose_117 : decode cX12_propose 117 = .ok (.aload_n 0, 1) := by decide +kernel
theorem dX12_propose_118 : decode cX12_propose 118 = .ok (.getfield 13, 3) := by decide +kernel
theorem dX12_propose_121 : decode cX12_propose 121 = .ok (.sipush 2661, 3) := by decide +kernel
theorem dX12_propose_124 : decode cX12_propose 124 = .ok (.iconst 1, 1) := by decide +kernel
theorem dX12_propose_125 : decode cX12_propose 125 = .ok (.iastore, 1) := by decide +kernel
theorem dX12_propose_126 : decode cX12_propose 126 = .ok (.aload_n 0, 1) := by decide +kernel
theorem dX12_propose_127 : decode cX12_propose 127 = .ok (.getfield 13, 3) := by decide +kernel
theorem dX12_propose_130 : decode cX12_propose 130 = .ok (.sipush 2662, 3) := by decide +kernel
theorem dX12_propose_133 : decode cX12_propose 133 = .ok (.iload_n 1, 1) := by decide +kernel
theorem dX12_propose_134 : decode cX12_propose 134 = .ok (.iastore, 1) := by decide +kernel
theorem dX12_propose_135 : decode cX12_propose 135 = .ok (.aload_n 0, 1) := by decide +kernel
theorem dX12_propose_136 : decode cX12_propose 136 = .ok (.getfield 13, 3) := by decide +kernel
theorem dX12_propose_139 : decode cX12_propose 139 = .ok (.sipush 2663, 3) := by decide +kernel
theorem dX12_propose_142 : decode cX12_propose 142 = .ok (.iconst 0, 1) := by decide +kernel
theorem dX12_propose_143 : decode cX12_propose 143 = .ok (.iastore, 1) := by decide +kernel
theorem dX12_propose_144 : decode cX12_propose 144 = .ok (.aload_n 0, 1) := by decide +kernel
theorem dX12_propose_145 : decode cX12_propose 145 = .ok (.getfield 13, 3) := by decide +kernel
theorem dX12_propose_148 : decode cX12_propose 148 = .ok (.sipush 2664, 3) := by decide +kernel
theorem dX12_propose_151 : decode cX12_propose 151 = .ok (.iconst 0, 1) := by decide +kernel
theorem dX12_propose_152 : decode cX12_propose 152 = .ok (.iastore, 1) := by decide +kernel
theorem dX12_propose_153 : decode cX12_propose 153 = .ok (.iconst 0, 1) := by decide +kernel
theorem dX12_propose_154 : decode cX12_propose 154 = .ok (.istore_n 3, 1) := by decide +kernel
theorem dX12_propose_155 : decode cX12_propose 155 = .ok (.iload_n 3, 1) := by decide +kernel
theorem dX12_propose_156 : decode cX12_propose 156 = .ok (.bipush 30, 2) := by decide +kernel
theorem dX12_propose_158 : decode cX12_propose 158 = .ok (.if_icmp .ge 20, 3) := by decide +kernel
theorem dX12_propose_161 : decode cX12_propose 161 = .ok (.aload_n 0, 1) := by decide +kernel
theorem dX12_propose_162 : decode cX12_propose 162 = .ok (.getfield 13, 3) := by decide +kernel
theorem dX12_propose_165 : decode cX12_propose 165 = .ok (.iload_n 3, 1) := by decide +kernel
theorem dX12_propose_166 : decode cX12_propose 166 = .ok (.iconst 3, 1) := by decide +kernel
theorem dX12_propose_167 : decode cX12_propose 167 = .ok (.invokestatic 170, 3) := by decide +kernel
theorem dX12_propose_170 : decode cX12_propose 170 = .ok (.iconst 0, 1) := by decide +kernel
theorem dX12_propose_171 : decode cX12_propose 171 = .ok (.iastore, 1) := by decide +kernel
theorem dX12_propose_172 : decode cX12_propose 172 = .ok (.iinc 3 1, 3) := by decide +kernel
theorem dX12_propose_175 : decode cX12_propose 175 = .ok (.goto (-20), 3) := by decide +kernel
theorem dX12_propose_178 : decode cX12_propose 178 = .ok (.iload_n 2, 1) := by decide +kernel
theorem dX12_propose_179 : decode cX12_propose 179 = .ok (.ireturn, 1) := by decide +kernel
noncomputable def o_X12_propose_155 (F : Nat) (l2 : Int32)  : Nat → Int32 → rs_S → Option (rs_S)
  | 0, _, _ => none
  | f + 1, l3, s => if (nI 30) ≤ l3 then (some s) else ((o_X12_payerAt s l3 (nI 3)).bind fun x11 => (if iL x11 22216 then (o_X12_propose_155 F l2 f (l3 + nI 1) (pW s x11 (nI 0))) else none))
set_option maxHeartbeats 4000000 in
theorem t_X12_propose_155 {Γ : jg_G} {g : Nat → jg_C} {n r : Nat} (hr : r + 11 ≤ n) (F : Nat) (l2 : Int32)   (Q : jg_Q) {x : rs_S} (K1 : jg Γ mX12_propose 45 0 0 178 [none, none, some (.int l2), none] [] (rs_h g r x, n) Q)  : ∀ (f : Nat) (l3 : Int32) (s : rs_S), o_X12_propose_155 F l2 f l3 s = some x → jg Γ mX12_propose 45 0 0 155 [some (.ref r), none, some (.int l2), some (.int l3)] [] (rs_h g r s, n) Q := by
  intro f
  induction f with
  | zero => intro l3 s h; rw [o_X12_propose_155] at h; cases h
  | succ f ih =>
   intro l3 s h
   rw [o_X12_propose_155] at h
   refine jg_iload_n dX12_propose_155 rfl ?_
   refine jg_bipush (v := nI 30) dX12_propose_156 (by decide) ?_
   refine jg_icmp_ge (x := l3) (y := (nI 30)) (tgt := 178) dX12_propose_158 (by decide) (fun c10 => ?_) (fun c10 => ?_)
   · replace h := it_t c10 h
     refine jg_fg (L' := [none, none, some (.int l2), none]) (by repeat (first | exact trivial | refine ⟨rfl, ?_⟩ | show jg_le _ _)) ?_
     obtain rfl := Option.some.inj h
     exact K1
   · replace h := it_f c10 h
     refine jg_aload_n dX12_propose_161 rfl ?_
     refine rs_ga fl_X12_13 dX12_propose_162 hr rfl ?_
     refine jg_iload_n dX12_propose_165 rfl ?_
     refine jg_iconst (v := nI 3) dX12_propose_166 (by decide) ?_
     obtain ⟨x11, e_x11, h⟩ := bd_some h
     refine rs_callS (As := [.int l3, .int (nI 3)]) ks_X12_170 dX12_propose_167 rfl (by decide) (Nat.le_of_ble_eq_true rfl) rfl (by decide) (Nat.le_of_ble_eq_true rfl) (t_X12_payerAt hr s l3 (nI 3) e_x11) ?_
     refine jg_iconst (v := nI 0) dX12_propose_170 (by decide) ?_
     obtain ⟨q12, h⟩ := gd_some h
     refine rs_swD (s := s) (i := x11) (x := (nI 0)) dX12_propose_171 hr q12 ?_
     refine jg_iinc (x := l3) (v := l3 + nI 1) (L' := [some (.ref r), none, some (.int l2), some (.int (l3 + nI 1))]) dX12_propose_172 rfl (ic_k _ (by decide)) (by decide) rfl ?_
     refine jg_goto (tgt := 155) dX12_propose_175 (by decide) ?_
     refine jg_fg (L' := [some (.ref r), none, some (.int l2), some (.int (l3 + nI 1))]) (by repeat (first | exact trivial | refine ⟨rfl, ?_⟩ | show jg_le _ _)) ?_
     exact ih (l3 + nI 1) (pW s x11 (nI 0)) h
noncomputable def o_X12_propose (F : Nat) (s : rs_S) (a1 : Int32) : Option (Int32 × rs_S) := (o_X12_uses s).bind fun x1 => ((o_X12_today x1).bind fun x2 => ((o_X12_in x1 a1 x2 (nI 1250)).bind fun x3 => (if x3 = 0 then (some (nI 0, pN x1 0 (nI 1))) else ((o_X12_reads F x1).bind fun x5 => (if 0 ≤ x5.1 then (if (gW x5.2 (nI 2661)) = (nI 1) then (some (nI 0, pN x5.2 0 (nI 2))) else (if (gW x5.2 (nI 2811)) = (nI 20) then (some (nI 0, pN x5.2 0 (nI 3))) else ((o_X12_copies F x5.2 (nI 21) (nI 20) a1).bind fun x9 => ((o_X12_propose_155 F x5.1 F (nI 0) (pW (pW (pW (pW x9 (nI 2661) (nI 1)) (nI 2662) a1) (nI 2663) (nI 0)) (nI 2664) (nI 0))).bind fun x13 => (some (x5.1, x13)))))) else (some (nI 0, pN x5.2 0 (nI 1))))))))
set_option maxHeartbeats 4000000 in
theorem t_X12_propose {Γ : jg_G} {g : Nat → jg_C} {n r : Nat} (hr : r + 11 ≤ n) (F : Nat) (s : rs_S) (a1 : Int32)  {x : Int32 × rs_S} (h : o_X12_propose F s a1 = some x) : jc Γ mX12_propose 45 0 0 [some (.ref r), some (.int a1), none, none] (rs_h g r s, n) (.inl (some (.int x.1))) (rs_h g r x.2, n) := by
  refine jc_of ?_
  rw [o_X12_propose] at h
  refine jg_aload_n dX12_propose_0 rfl ?_
  obtain ⟨x1, e_x1, h⟩ := bd_some h
  refine rs_call (As := []) kv_X12_347 dX12_propose_1 hr rfl rfl (by decide) (Nat.le_of_ble_eq_true rfl) rfl (by decide) (Nat.le_of_ble_eq_true rfl) (t_X12_uses hr s e_x1) ?_
  refine jg_aload_n dX12_propose_4 rfl ?_
  refine jg_iload_n dX12_propose_5 rfl ?_
  refine jg_aload_n dX12_propose_6 rfl ?_
  obtain ⟨x2, e_x2, h⟩ := bd_some h
  refine rs_call (As := []) kv_X12_77 dX12_propose_7 hr rfl rfl (by decide) (Nat.le_of_ble_eq_true rfl) rfl (by decide) (Nat.le_of_ble_eq_true rfl) (t_X12_today hr x1 e_x2) ?_
  refine jg_sipush (v := nI 1250) dX12_propose_10 (by decide) ?_
  obtain ⟨x3, e_x3, h⟩ := bd_some h
  refine rs_callS (As := [.int a1, .int x2, .int (nI 1250)]) ks_X12_49 dX12_propose_13 rfl (by decide) (Nat.le_of_ble_eq_true rfl) rfl (by decide) (Nat.le_of_ble_eq_true rfl) (t_X12_in hr x1 a1 x2 (nI 1250) e_x3) ?_
  refine jg_if_ne (x := x3) (tgt := 23) dX12_propose_16 (by decide) (fun c4 => ?_) (fun c4 => ?_)
  · replace h := it_f c4 h
    refine jg_iconst (v := nI 0) dX12_propose_23 (by decide) ?_
    refine jg_iconst (v := nI 1) dX12_propose_24 (by decide) ?_
    refine rs_call (As := [.int (nI 0), .int (nI 1)]) kv_X12_69 dX12_propose_25 hr rfl rfl (by decide) (Nat.le_of_ble_eq_true rfl) rfl (by decide) (Nat.le_of_ble_eq_true rfl) (t_X12_throwsIf hr x1 (nI 0) (nI 1) (o_thr0 x1 (nI 1))) ?_
    refine jg_if_eq (x := (nI 0)) (tgt := 33) dX12_propose_28 (by decide) (fun _ => ?_) (fun q9 => absurd q9 (by decide))
    refine jg_aload_n dX12_propose_33 rfl ?_
    obtain ⟨x5, e_x5, h⟩ := bd_some h
    refine rs_call (As := []) kv_X12_350 dX12_propose_34 hr rfl rfl (by decide) (Nat.le_of_ble_eq_true rfl) rfl (by decide) (Nat.le_of_ble_eq_true rfl) (t_X12_reads hr F x1 e_x5) ?_
    refine jg_istore_n (L' := [some (.ref r), some (.int a1), some (.int x5.1), none]) dX12_propose_37 (by decide) rfl ?_
    refine jg_aload_n dX12_propose_38 rfl ?_
    refine jg_iload_n dX12_propose_39 rfl ?_
    refine jg_if_ge (x := x5.1) (tgt := 47) dX12_propose_40 (by decide) (fun c6 => ?_) (fun c6 => ?_)
    · replace h := it_t c6 h
      refine jg_iconst (v := nI 0) dX12_propose_47 (by decide) ?_
      refine jg_iconst (v := nI 1) dX12_propose_48 (by decide) ?_
      refine rs_call (As := [.int (nI 0), .int (nI 1)]) kv_X12_69 dX12_propose_49 hr rfl rfl (by decide) (Nat.le_of_ble_eq_true rfl) rfl (by decide) (Nat.le_of_ble_eq_true rfl) (t_X12_throwsIf hr x5.2 (nI 0) (nI 1) (o_thr0 x5.2 (nI 1))) ?_
      refine jg_if_ne (x := (nI 0)) (tgt := 106) dX12_propose_52 (by decide) (fun q9 => absurd q9 (by decide)) (fun _ => ?_)
      refine jg_aload_n dX12_propose_55 rfl ?_
      refine jg_aload_n dX12_propose_56 rfl ?_
      refine rs_ga fl_X12_13 dX12_propose_57 hr rfl ?_
      refine jg_sipush (v := nI 2661) dX12_propose_60 (by decide) ?_
      refine rs_lwD (s := x5.2) (i := (nI 2661)) dX12_propose_63 hr (by decide) ?_
      refine jg_iconst (v := nI 1) dX12_propose_64 (by decide) ?_
      refine jg_icmp_ne (x := (gW x5.2 (nI 2661))) (y := (nI 1)) (tgt := 72) dX12_propose_65 (by decide) (fun c7 => ?_) (fun c7 => ?_)
      · replace h := it_f c7 h
        refine jg_iconst (v := nI 0) dX12_propose_72 (by decide) ?_
        refine jg_iconst (v := nI 2) dX12_propose_73 (by decide) ?_
        refine rs_call (As := [.int (nI 0), .int (nI 2)]) kv_X12_69 dX12_propose_74 hr rfl rfl (by decide) (Nat.le_of_ble_eq_true rfl) rfl (by decide) (Nat.le_of_ble_eq_true rfl) (t_X12_throwsIf hr x5.2 (nI 0) (nI 2) (o_thr0 x5.2 (nI 2))) ?_
        refine jg_if_ne (x := (nI 0)) (tgt := 106) dX12_propose_77 (by decide) (fun q9 => absurd q9 (by decide)) (fun _ => ?_)
        refine jg_aload_n dX12_propose_80 rfl ?_
        refine jg_aload_n dX12_propose_81 rfl ?_
        refine rs_ga fl_X12_13 dX12_propose_82 hr rfl ?_
        refine jg_sipush (v := nI 2811) dX12_propose_85 (by decide) ?_
        refine rs_lwD (s := x5.2) (i := (nI 2811)) dX12_propose_88 hr (by decide) ?_
        refine jg_bipush (v := nI 20) dX12_propose_89 (by decide) ?_
        refine jg_icmp_ne (x := (gW x5.2 (nI 2811))) (y := (nI 20)) (tgt := 98) dX12_propose_91 (by decide) (fun c8 => ?_) (fun c8 => ?_)
        · replace h := it_f c8 h
          refine jg_iconst (v := nI 0) dX12_propose_98 (by decide) ?_
          refine jg_iconst (v := nI 3) dX12_propose_99 (by decide) ?_
          refine rs_call (As := [.int (nI 0), .int (nI 3)]) kv_X12_69 dX12_propose_100 hr rfl rfl (by decide) (Nat.le_of_ble_eq_true rfl) rfl (by decide) (Nat.le_of_ble_eq_true rfl) (t_X12_throwsIf hr x5.2 (nI 0) (nI 3) (o_thr0 x5.2 (nI 3))) ?_
          refine jg_if_eq (x := (nI 0)) (tgt := 108) dX12_propose_103 (by decide) (fun _ => ?_) (fun q9 => absurd q9 (by decide))
          refine jg_aload_n dX12_propose_108 rfl ?_
          refine jg_bipush (v := nI 21) dX12_propose_109 (by decide) ?_
          refine jg_bipush (v := nI 20) dX12_propose_111 (by decide) ?_
          refine jg_iload_n dX12_propose_113 rfl ?_
          obtain ⟨x9, e_x9, h⟩ := bd_some h
          refine rs_call (As := [.int (nI 21), .int (nI 20), .int a1]) kv_X12_353 dX12_propose_114 hr rfl rfl (by decide) (Nat.le_of_ble_eq_true rfl) rfl (by decide) (Nat.le_of_ble_eq_true rfl) (t_X12_copies hr F x5.2 (nI 21) (nI 20) a1 e_x9) ?_
          refine jg_aload_n dX12_propose_117 rfl ?_
          refine rs_ga fl_X12_13 dX12_propose_118 hr rfl ?_
          refine jg_sipush (v := nI 2661) dX12_propose_121 (by decide) ?_
          refine jg_iconst (v := nI 1) dX12_propose_124 (by decide) ?_
          refine rs_swD (s := x9) (i := (nI 2661)) (x := (nI 1)) dX12_propose_125 hr (by decide) ?_
          refine jg_aload_n dX12_propose_126 rfl ?_
          refine rs_ga fl_X12_13 dX12_propose_127 hr rfl ?_
          refine jg_sipush (v := nI 2662) dX12_propose_130 (by decide) ?_
          refine jg_iload_n dX12_propose_133 rfl ?_
          refine rs_swD (s := (pW x9 (nI 2661) (nI 1))) (i := (nI 2662)) (x := a1) dX12_propose_134 hr (by decide) ?_
          refine jg_aload_n dX12_propose_135 rfl ?_
          refine rs_ga fl_X12_13 dX12_propose_136 hr rfl ?_
          refine jg_sipush (v := nI 2663) dX12_propose_139 (by decide) ?_
          refine jg_iconst (v := nI 0) dX12_propose_142 (by decide) ?_
          refine rs_swD (s := (pW (pW x9 (nI 2661) (nI 1)) (nI 2662) a1)) (i := (nI 2663)) (x := (nI 0)) dX12_propose_143 hr (by decide) ?_
          refine jg_aload_n dX12_propose_144 rfl ?_
          refine rs_ga fl_X12_13 dX12_propose_145 hr rfl ?_
          refine jg_sipush (v := nI 2664) dX12_propose_148 (by decide) ?_
          refine jg_iconst (v := nI 0) dX12_propose_151 (by decide) ?_
          refine rs_swD (s := (pW (pW (pW x9 (nI 2661) (nI 1)) (nI 2662) a1) (nI 2663) (nI 0))) (i := (nI 2664)) (x := (nI 0)) dX12_propose_152 hr (by decide) ?_
          refine jg_iconst (v := nI 0) dX12_propose_153 (by decide) ?_
          refine jg_istore_n (L' := [some (.ref r), some (.int a1), some (.int x5.1), some (.int (nI 0))]) dX12_propose_154 (by decide) rfl ?_
          obtain ⟨x13, e_x13, h⟩ := bd_some h
          refine jg_fg (L' := [some (.ref r), none, some (.int x5.1), some (.int (nI 0))]) (by repeat (first | exact trivial | refine ⟨rfl, ?_⟩ | show jg_le _ _)) ?_
          refine t_X12_propose_155 hr F x5.1  _ (x := x13) ?_ F (nI 0) (pW (pW (pW (pW x9 (nI 2661) (nI 1)) (nI 2662) a1) (nI 2663) (nI 0)) (nI 2664) (nI 0)) e_x13
          refine jg_iload_n dX12_propose_178 rfl ?_
          obtain rfl := Option.some.inj h
          exact jg_ireturn dX12_propose_179 rfl ⟨rfl, rfl⟩
        · replace h := it_t c8 h
          refine jg_iconst (v := nI 1) dX12_propose_94 (by decide) ?_
          refine jg_goto (tgt := 99) dX12_propose_95 (by decide) ?_
          refine jg_iconst (v := nI 3) dX12_propose_99 (by decide) ?_
          refine rs_call (As := [.int (nI 1), .int (nI 3)]) kv_X12_69 dX12_propose_100 hr rfl rfl (by decide) (Nat.le_of_ble_eq_true rfl) rfl (by decide) (Nat.le_of_ble_eq_true rfl) (t_X12_throwsIf hr x5.2 (nI 1) (nI 3) (o_thr1 x5.2 (nI 3))) ?_
          refine jg_if_eq (x := (nI 1)) (tgt := 108) dX12_propose_103 (by decide) (fun q9 => absurd q9 (by decide)) (fun _ => ?_)
          refine jg_iconst (v := nI 0) dX12_propose_106 (by decide) ?_
          obtain rfl := Option.some.inj h
          exact jg_ireturn dX12_propose_107 rfl ⟨rfl, rfl⟩
      · replace h := it_t c7 h
        refine jg_iconst (v := nI 1) dX12_propose_68 (by decide) ?_
        refine jg_goto (tgt := 73) dX12_propose_69 (by decide) ?_
        refine jg_iconst (v := nI 2) dX12_propose_73 (by decide) ?_
        refine rs_call (As := [.int (nI 1), .int (nI 2)]) kv_X12_69 dX12_propose_74 hr rfl rfl (by decide) (Nat.le_of_ble_eq_true rfl) rfl (by decide) (Nat.le_of_ble_eq_true rfl) (t_X12_throwsIf hr x5.2 (nI 1) (nI 2) (o_thr1 x5.2 (nI 2))) ?_
        refine jg_if_ne (x := (nI 1)) (tgt := 106) dX12_propose_77 (by decide) (fun _ => ?_) (fun q9 => absurd q9 (by decide))
        refine jg_iconst (v := nI 0) dX12_propose_106 (by decide) ?_
        obtain rfl := Option.some.inj h
        exact jg_ireturn dX12_propose_107 rfl ⟨rfl, rfl⟩
    · replace h := it_f c6 h
      refine jg_iconst (v := nI 1) dX12_propose_43 (by decide) ?_
      refine jg_goto (tgt := 48) dX12_propose_44 (by decide) ?_
      refine jg_iconst (v := nI 1) dX12_propose_48 (by decide) ?_
      refine rs_call (As := [.int (nI 1), .int (nI 1)]) kv_X12_69 dX12_propose_49 hr rfl rfl (by decide) (Nat.le_of_ble_eq_true rfl) rfl (by decide) (Nat.le_of_ble_eq_true rfl) (t_X12_throwsIf hr x5.2 (nI 1) (nI 1) (o_thr1 x5.2 (nI 1))) ?_
      refine jg_if_ne (x := (nI 1)) (tgt := 106) dX12_propose_52 (by decide) (fun _ => ?_) (fun q9 => absurd q9 (by decide))
      refine jg_iconst (v := nI 0) dX12_propose_106 (by decide) ?_
      obtain rfl := Option.some.inj h
      exact jg_ireturn dX12_propose_107 rfl ⟨rfl, rfl⟩
  · replace h := it_t c4 h
    refine jg_iconst (v := nI 1) dX12_propose_19 (by decide) ?_
    refine jg_goto (tgt := 24) dX12_propose_20 (by decide) ?_
    refine jg_iconst (v := nI 1) dX12_propose_24 (by decide) ?_
    refine rs_call (As := [.int (nI 1), .int (nI 1)]) kv_X12_69 dX12_propose_25 hr rfl rfl (by decide) (Nat.le_of_ble_eq_true rfl) rfl (by decide) (Nat.le_of_ble_eq_true rfl) (t_X12_throwsIf hr x1 (nI 1) (nI 1) (o_thr1 x1 (nI 1))) ?_
    refine jg_if_eq (x := (nI 1)) (tgt := 33) dX12_propose_28 (by decide) (fun q9 => absurd q9 (by decide)) (fun _ => ?_)
    refine jg_iconst (v := nI 0) dX12_propose_31 (by decide) ?_
    obtain rfl := Option.some.inj h
    exact jg_ireturn dX12_propose_32 rfl ⟨rfl, rfl⟩
theorem dX12_another_0 : decode cX12_another 0 = .ok (.aload_n 0, 1) := by decide +kernel
theorem dX12_another_1 : decode cX12_another 1 = .ok (.invokevirtual 347, 3) := by decide +kernel
theorem dX12_another_4 : decode cX12_another 4 = .ok (.aload_n 0, 1) := by decide +kernel
theorem dX12_another_5 : decode cX12_another 5 = .ok (.invokevirtual 350, 3) := by decide +kernel
theorem dX12_another_8 : decode cX12_another 8 = .ok (.istore_n 3, 1) := by decide +kernel
theorem dX12_another_9 : decode cX12_another 9 = .ok (.aload_n 0, 1) := by decide +kernel
theorem dX12_another_10 : decode cX12_another 10 = .ok (.iload_n 3, 1) := by decide +kernel
theorem dX12_another_11 : decode cX12_another 11 = .ok (.ifCond .ge 7, 3) := by decide +kernel
theorem dX12_another_14 : decode cX12_another 14 = .ok (.iconst 1, 1) := by decide +kernel
theorem dX12_another_15 : decode cX12_another 15 = .ok (.goto 4, 3) := by decide +kernel
theorem dX12_another_18 : decode cX12_another 18 = .ok (.iconst 0, 1) := by decide +kernel
theorem dX12_another_19 : decode cX12_another 19 = .ok (.iconst 1, 1) := by decide +kernel
theorem dX12_another_20 : decode cX12_another 20 = .ok (.invokevirtual 69, 3) := by decide +kernel
theorem dX12_another_23 : decode cX12_another 23 = .ok (.ifCond .eq 5, 3) := by decide +kernel
theorem dX12_another_26 : decode cX12_another 26 = .ok (.iconst 0, 1) := by decide +kernel
theorem dX12_another_27 : decode cX12_another 27 = .ok (.ireturn, 1) := by decide +kernel
theorem dX12_another_28 : decode cX12_another 28 = .ok (.iconst 0, 1) := by decide +kernel
theorem dX12_another_29 : decode cX12_another 29 = .ok (.istore 4, 2) := by decide +kernel
theorem dX12_another_31 : decode cX12_another 31 = .ok (.iconst 0, 1) := by decide +kernel
theorem dX12_another_32 : decode cX12_another 32 = .ok (.istore 5, 2) := by decide +kernel
theorem dX12_another_34 : decode cX12_another 34 = .ok (.iconst 0, 1) := by decide +kernel
theorem dX12_another_35 : decode cX12_another 35 = .ok (.istore 6, 2) := by decide +kernel
theorem dX12_another_37 : decode cX12_another 37 = .ok (.iload 6, 2) := by decide +kernel
theorem dX12_another_39 : decode cX12_another 39 = .ok (.aload_n 0, 1) := by decide +kernel
theorem dX12_another_40 : decode cX12_another 40 = .ok (.getfield 13, 3) := by decide +kernel
theorem dX12_another_43 : decode cX12_another 43 = .ok (.sipush 1211, 3) := by decide +kernel
theorem dX12_another_46 : decode cX12_another 46 = .ok (.iaload, 1) := by decide +kernel
theorem dX12_another_47 : decode cX12_another 47 = .ok (.if_icmp .ge 96, 3) := by decide +kernel
theorem dX12_another_50 : decode cX12_another 50 = .ok (.aload_n 0, 1) := by decide +kernel
theorem dX12_another_51 : decode cX12_another 51 = .ok (.iload 6, 2) := by decide +kernel
theorem dX12_another_53 : decode cX12_another 53 = .ok (.bipush 9, 2) := by decide +kernel
theorem dX12_another_55 : decode cX12_another 55 = .ok (.invokevirtual 137, 3) := by decide +kernel
theorem dX12_another_58 : decode cX12_another 58 = .ok (.iconst 4, 1) := by decide +kernel
theorem dX12_another_59 : decode cX12_another 59 = .ok (.if_icmp .ne 78, 3) := by decide +kernel
theorem dX12_another_62 : decode cX12_another 62 = .ok (.aload_n 0, 1) := by decide +kernel
theorem dX12_another_63 : decode cX12_another 63 = .ok (.iload 6, 2) := by decide +kernel
theorem dX12_another_65 : decode cX12_another 65 = .ok (.bipush 13, 2) := by decide +kernel
theorem dX12_another_67 : decode cX12_another 67 = .ok (.invokevirtual 137, 3) := by decide +kernel
theorem dX12_another_70 : decode cX12_another 70 = .ok (.sipush 2400, 3) := by decide +kernel
theorem dX12_another_73 : decode cX12_another 73 = .ok (.idiv, 1) := by decide +kernel
theorem dX12_another_74 : decode cX12_another 74 = .ok (.iload_n 1, 1) := by decide +kernel
theorem dX12_another_75 : decode cX12_another 75 = .ok (.if_icmp .eq 6, 3) := by decide +kernel
theorem dX12_another_78 : decode cX12_another 78 = .ok (.goto 59, 3) := by decide +kernel
theorem dX12_another_81 : decode cX12_another 81 = .ok (.aload_n 0, 1) := by decide +kernel
theorem dX12_another_82 : decode cX12_another 82 = .ok (.iload 6, 2) := by decide +kernel
theorem dX12_another_84 : decode cX12_another 84 = .ok (.bipush 21, 2) := by decide +kernel
theorem dX12_another_86 : decode cX12_another 86 = .ok (.aload_n 0, 1) := by decide +kernel
theorem dX12_another_87 : decode cX12_another 87 = .ok (.iload 6, 2) := by decide +kernel
theorem dX12_another_89 : decode cX12_another 89 = .ok (.bipush 13, 2) := by decide +kernel
theorem dX12_another_91 : decode cX12_another 91 = .ok (.invokevirtual 137, 3) := by decide +kernel
theorem dX12_another_94 : decode cX12_another 94 = .ok (.aload_n 0, 1) := by decide +kernel
theorem dX12_another_95 : decode cX12_another 95 = .ok (.iload 6, 2) := by decide +kernel
theorem dX12_another_97 : decode cX12_another 97 = .ok (.bipush 8, 2) := by decide +kernel
theorem dX12_another_99 : decode cX12_another 99 = .ok (.invokevirtual 137, 3) := by decide +kernel
theorem dX12_another_102 : decode cX12_another 102 = .ok (.isub, 1) := by decide +kernel
theorem dX12_another_103 : decode cX12_another 103 = .ok (.invokevirtual 166, 3) := by decide +kernel
theorem dX12_another_106 : decode cX12_another 106 = .ok (.istore 7, 2) := by decide +kernel
theorem dX12_another_108 : decode cX12_another 108 = .ok (.iload 7, 2) := by decide +kernel
theorem dX12_another_110 : decode cX12_another 110 = .ok (.aload_n 0, 1) := by decide +kernel
theorem dX12_another_111 : decode cX12_another 111 = .ok (.iload 6, 2) := by decide +kernel
theorem dX12_another_113 : decode cX12_another 113 = .ok (.bipush 7, 2) := by decide +kernel
theorem dX12_another_115 : decode cX12_another 115 = .ok (.invokevirtual 137, 3) := by decide +kernel
theorem dX12_another_118 : decode cX12_another 118 = .ok (.if_icmp .le 9, 3) := by decide +kernel
theorem dX12_another_121 : decode cX12_another 121 = .ok (.iinc 5 1, 3) := by decide +kernel
theorem dX12_another_124 : decode cX12_another 124 = .ok (.goto 13, 3) := by decide +kernel
theorem dX12_another_127 : decode cX12_another 127 = .ok (.iload 4, 2) := by decide +kernel
theorem dX12_another_129 : decode cX12_another 129 = .ok (.iload 7, 2) := by decide +kernel
theorem dX12_another_131 : decode cX12_another 131 = .ok (.i2l, 1) := by decide +kernel
theorem dX12_another_132 : decode cX12_another 132 = .ok (.invokestatic 173, 3) := by decide +kernel
theorem dX12_another_135 : decode cX12_another 135 = .ok (.istore 4, 2) := by decide +kernel
theorem dX12_another_137 : decode cX12_another 137 = .ok (.iinc 6 1, 3) := by decide +kernel
theorem dX12_another_140 : decode cX12_another 140 = .ok (.goto (-103), 3) := by decide +kernel
theorem dX12_another_143 : decode cX12_another 143 = .ok (.iload_n 2, 1) := by decide +kernel
theorem dX12_another_144 : decode cX12_another 144 = .ok (.ifCond .eq 8, 3) := by decide +kernel
theorem dX12_another_147 : decode cX12_another 147 = .ok (.iload 5, 2) := by decide +kernel
theorem dX12_another_149 : decode cX12_another 149 = .ok (.goto 5, 3) := by decide +kernel
theorem dX12_another_152 : decode cX12_another 152 = .ok (.iload 4, 2) := by decide +kernel
theorem dX12_another_154 : decode cX12_another 154 = .ok (.ireturn, 1) := by decide +kernel
noncomputable def o_X12_another_37 (F : Nat) (l1 : Int32) (l2 : Int32)  : Nat → Int32 → Int32 → Int32 → rs_S → Option (Int32 × Int32 × rs_S)
  | 0, _, _, _, _ => none
  | f + 1, l4, l5, l6, s => if (gW s (nI 1211)) ≤ l6 then (some (l4, l5, s)) else ((o_X12_of s l6 (nI 9)).bind fun x5 => (if x5 = (nI 4) then ((o_X12_of s l6 (nI 13)).bind fun x7 => (if (x7 / (nI 2400)) = l1 then ((o_X12_of s l6 (nI 13)).bind fun x9 => ((o_X12_of s l6 (nI 8)).bind fun x10 => ((o_X12_dueOf F s l6 (nI 21) (x9 - x10)).bind fun x11 => ((o_X12_of x11.2 l6 (nI 7)).bind fun x12 => (if x11.1 ≤ x12 then ((o_X12_added x11.2 l4 x11.1.toInt64).bind fun x14 => (o_X12_another_37 F l1 l2 f x14 l5 (l6 + nI 1) x11.2)) else (o_X12_another_37 F l1 l2 f l4 (l5 + nI 1) (l6 + nI 1) x11.2)))))) else (o_X12_another_37 F l1 l2 f l4 l5 (l6 + nI 1) s))) else (o_X12_another_37 F l1 l2 f l4 l5 (l6 + nI 1) s)))
set_option maxHeartbeats 4000000 in
theorem t_X12_another_37 {Γ : jg_G} {g : Nat → jg_C} {n r : Nat} (hr : r + 11 ≤ n) (F : Nat) (l1 : Int32) (l2 : Int32)   (Q : jg_Q) {x : Int32 × Int32 × rs_S} (K1 : jg Γ mX12_another 45 0 0 143 [none, none, some (.int l2), none, some (.int x.1), some (.int x.2.1), none, none] [] (rs_h g r x.2.2, n) Q)  : ∀ (f : Nat) (l4 : Int32) (l5 : Int32) (l6 : Int32) (s : rs_S), o_X12_another_37 F l1 l2 f l4 l5 l6 s = some x → jg Γ mX12_another 45 0 0 37 [some (.ref r), some (.int l1), some (.int l2), none, some (.int l4), some (.int l5), some (.int l6), none] [] (rs_h g r s, n) Q := by
  intro f
  induction f with
  | zero => intro l4 l5 l6 s h; rw [o_X12_another_37] at h; cases h
  | succ f ih =>
   intro l4 l5 l6 s h
   rw [o_X12_another_37] at h
   refine jg_iload dX12_another_37 rfl ?_
   refine jg_aload_n dX12_another_39 rfl ?_
   refine rs_ga fl_X12_13 dX12_another_40 hr rfl ?_
   refine jg_sipush (v := nI 1211) dX12_another_43 (by decide) ?_
   refine rs_lwD (s := s) (i := (nI 1211)) dX12_another_46 hr (by decide) ?_
   refine jg_icmp_ge (x := l6) (y := (gW s (nI 1211))) (tgt := 143) dX12_another_47 (by decide) (fun c4 => ?_) (fun c4 => ?_)
   · replace h := it_t c4 h
     refine jg_fg (L' := [none, none, some (.int l2), none, some (.int l4), some (.int l5), none, none]) (by repeat (first | exact trivial | refine ⟨rfl, ?_⟩ | show jg_le _ _)) ?_
     obtain rfl := Option.some.inj h
     exact K1
   · replace h := it_f c4 h
     refine jg_aload_n dX12_another_50 rfl ?_
     refine jg_iload dX12_another_51 rfl ?_
     refine jg_bipush (v := nI 9) dX12_another_53 (by decide) ?_
     obtain ⟨x5, e_x5, h⟩ := bd_some h
     refine rs_call (As := [.int l6, .int (nI 9)]) kv_X12_137 dX12_another_55 hr rfl rfl (by decide) (Nat.le_of_ble_eq_true rfl) rfl (by decide) (Nat.le_of_ble_eq_true rfl) (t_X12_of hr s l6 (nI 9) e_x5) ?_
     refine jg_iconst (v := nI 4) dX12_another_58 (by decide) ?_
     refine jg_icmp_ne (x := x5) (y := (nI 4)) (tgt := 137) dX12_another_59 (by decide) (fun c6 => ?_) (fun c6 => ?_)
     · replace h := it_f c6 h
       refine jg_iinc (x := l6) (v := l6 + nI 1) (L' := [some (.ref r), some (.int l1), some (.int l2), none, some (.int l4), some (.int l5), some (.int (l6 + nI 1)), none]) dX12_another_137 rfl (ic_k _ (by decide)) (by decide) rfl ?_
       refine jg_goto (tgt := 37) dX12_another_140 (by decide) ?_
       refine jg_fg (L' := [some (.ref r), some (.int l1), some (.int l2), none, some (.int l4), some (.int l5), some (.int (l6 + nI 1)), none]) (by repeat (first | exact trivial | refine ⟨rfl, ?_⟩ | show jg_le _ _)) ?_
       exact ih l4 l5 (l6 + nI 1) s h
     · replace h := it_t c6 h
       refine jg_aload_n dX12_another_62 rfl ?_
       refine jg_iload dX12_another_63 rfl ?_
       refine jg_bipush (v := nI 13) dX12_another_65 (by decide) ?_
       obtain ⟨x7, e_x7, h⟩ := bd_some h
       refine rs_call (As := [.int l6, .int (nI 13)]) kv_X12_137 dX12_another_67 hr rfl rfl (by decide) (Nat.le_of_ble_eq_true rfl) rfl (by decide) (Nat.le_of_ble_eq_true rfl) (t_X12_of hr s l6 (nI 13) e_x7) ?_
       refine jg_sipush (v := nI 2400) dX12_another_70 (by decide) ?_
       refine jg_idiv (x := x7) (y := (nI 2400)) dX12_another_73 (by decide) ?_
       refine jg_iload_n dX12_another_74 rfl ?_
       refine jg_icmp_eq (x := (x7 / (nI 2400))) (y := l1) (tgt := 81) dX12_another_75 (by decide) (fun c8 => ?_) (fun c8 => ?_)
       · replace h := it_t c8 h
         refine jg_aload_n dX12_another_81 rfl ?_
         refine jg_iload dX12_another_82 rfl ?_
         refine jg_bipush (v := nI 21) dX12_another_84 (by decide) ?_
         refine jg_aload_n dX12_another_86 rfl ?_
         refine jg_iload dX12_another_87 rfl ?_
         refine jg_bipush (v := nI 13) dX12_another_89 (by decide) ?_
         obtain ⟨x9, e_x9, h⟩ := bd_some h
         refine rs_call (As := [.int l6, .int (nI 13)]) kv_X12_137 dX12_another_91 hr rfl rfl (by decide) (Nat.le_of_ble_eq_true rfl) rfl (by decide) (Nat.le_of_ble_eq_true rfl) (t_X12_of hr s l6 (nI 13) e_x9) ?_
         refine jg_aload_n dX12_another_94 rfl ?_
         refine jg_iload dX12_another_95 rfl ?_
         refine jg_bipush (v := nI 8) dX12_another_97 (by decide) ?_
         obtain ⟨x10, e_x10, h⟩ := bd_some h
         refine rs_call (As := [.int l6, .int (nI 8)]) kv_X12_137 dX12_another_99 hr rfl rfl (by decide) (Nat.le_of_ble_eq_true rfl) rfl (by decide) (Nat.le_of_ble_eq_true rfl) (t_X12_of hr s l6 (nI 8) e_x10) ?_
         refine jg_isub (x := x9) (y := x10) dX12_another_102  ?_
         obtain ⟨x11, e_x11, h⟩ := bd_some h
         refine rs_call (As := [.int l6, .int (nI 21), .int (x9 - x10)]) kv_X12_166 dX12_another_103 hr rfl rfl (by decide) (Nat.le_of_ble_eq_true rfl) rfl (by decide) (Nat.le_of_ble_eq_true rfl) (t_X12_dueOf hr F s l6 (nI 21) (x9 - x10) e_x11) ?_
         refine jg_istore (L' := [some (.ref r), some (.int l1), some (.int l2), none, some (.int l4), some (.int l5), some (.int l6), some (.int x11.1)]) dX12_another_106 (by decide) rfl ?_
         refine jg_iload dX12_another_108 rfl ?_
         refine jg_aload_n dX12_another_110 rfl ?_
         refine jg_iload dX12_another_111 rfl ?_
         refine jg_bipush (v := nI 7) dX12_another_113 (by decide) ?_
         obtain ⟨x12, e_x12, h⟩ := bd_some h
         refine rs_call (As := [.int l6, .int (nI 7)]) kv_X12_137 dX12_another_115 hr rfl rfl (by decide) (Nat.le_of_ble_eq_true rfl) rfl (by decide) (Nat.le_of_ble_eq_true rfl) (t_X12_of hr x11.2 l6 (nI 7) e_x12) ?_
         refine jg_icmp_le (x := x11.1) (y := x12) (tgt := 127) dX12_another_118 (by decide) (fun c13 => ?_) (fun c13 => ?_)
         · replace h := it_t c13 h
           refine jg_iload dX12_another_127 rfl ?_
           refine jg_iload dX12_another_129 rfl ?_
           refine jg_i2l dX12_another_131 ?_
           obtain ⟨x14, e_x14, h⟩ := bd_some h
           refine rs_callS (As := [.int l4, .long x11.1.toInt64]) ks_X12_173 dX12_another_132 rfl (by decide) (Nat.le_of_ble_eq_true rfl) rfl (by decide) (Nat.le_of_ble_eq_true rfl) (t_X12_added hr x11.2 l4 x11.1.toInt64 e_x14) ?_
           refine jg_istore (L' := [some (.ref r), some (.int l1), some (.int l2), none, some (.int x14), some (.int l5), some (.int l6), some (.int x11.1)]) dX12_another_135 (by decide) rfl ?_
           refine jg_iinc (x := l6) (v := l6 + nI 1) (L' := [some (.ref r), some (.int l1), some (.int l2), none, some (.int x14), some (.int l5), some (.int (l6 + nI 1)), some (.int x11.1)]) dX12_another_137 rfl (ic_k _ (by decide)) (by decide) rfl ?_
           refine jg_goto (tgt := 37) dX12_another_140 (by decide) ?_
           refine jg_fg (L' := [some (.ref r), some (.int l1), some (.int l2), none, some (.int x14), some (.int l5), some (.int (l6 + nI 1)), none]) (by repeat (first | exact trivial | refine ⟨rfl, ?_⟩ | show jg_le _ _)) ?_
           exact ih x14 l5 (l6 + nI 1) x11.2 h
         · replace h := it_f c13 h
           refine jg_iinc (x := l5) (v := l5 + nI 1) (L' := [some (.ref r), some (.int l1), some (.int l2), none, some (.int l4), some (.int (l5 + nI 1)), some (.int l6), some (.int x11.1)]) dX12_another_121 rfl (ic_k _ (by decide)) (by decide) rfl ?_
           refine jg_goto (tgt := 137) dX12_another_124 (by decide) ?_
           refine jg_iinc (x := l6) (v := l6 + nI 1) (L' := [some (.ref r), some (.int l1), some (.int l2), none, some (.int l4), some (.int (l5 + nI 1)), some (.int (l6 + nI 1)), some (.int x11.1)]) dX12_another_137 rfl (ic_k _ (by decide)) (by decide) rfl ?_
           refine jg_goto (tgt := 37) dX12_another_140 (by decide) ?_
           refine jg_fg (L' := [some (.ref r), some (.int l1), some (.int l2), none, some (.int l4), some (.int (l5 + nI 1)), some (.int (l6 + nI 1)), none]) (by repeat (first | exact trivial | refine ⟨rfl, ?_⟩ | show jg_le _ _)) ?_
           exact ih l4 (l5 + nI 1) (l6 + nI 1) x11.2 h
       · replace h := it_f c8 h
         refine jg_goto (tgt := 137) dX12_another_78 (by decide) ?_
         refine jg_iinc (x := l6) (v := l6 + nI 1) (L' := [some (.ref r), some (.int l1), some (.int l2), none, some (.int l4), some (.int l5), some (.int (l6 + nI 1)), none]) dX12_another_137 rfl (ic_k _ (by decide)) (by decide) rfl ?_
         refine jg_goto (tgt := 37) dX12_another_140 (by decide) ?_
         refine jg_fg (L' := [some (.ref r), some (.int l1), some (.int l2), none, some (.int l4), some (.int l5), some (.int (l6 + nI 1)), none]) (by repeat (first | exact trivial | refine ⟨rfl, ?_⟩ | show jg_le _ _)) ?_
         exact ih l4 l5 (l6 + nI 1) s h
noncomputable def o_X12_another (F : Nat) (s : rs_S) (a1 : Int32) (a2 : Int32) : Option (Int32 × rs_S) := (o_X12_uses s).bind fun x1 => ((o_X12_reads F x1).bind fun x2 => (if 0 ≤ x2.1 then ((o_X12_another_37 F a1 a2 F (nI 0) (nI 0) (nI 0) x2.2).bind fun x15 => (if a2 = 0 then (some (x15.1, x15.2.2)) else (some (x15.2.1, x15.2.2)))) else (some (nI 0, pN x2.2 0 (nI 1)))))
set_option maxHeartbeats 4000000 in
theorem t_X12_another {Γ : jg_G} {g : Nat → jg_C} {n r : Nat} (hr : r + 11 ≤ n) (F : Nat) (s : rs_S) (a1 : Int32) (a2 : Int32)  {x : Int32 × rs_S} (h : o_X12_another F s a1 a2 = some x) : jc Γ mX12_another 45 0 0 [some (.ref r), some (.int a1), some (.int a2), none, none, none, none, none] (rs_h g r s, n) (.inl (some (.int x.1))) (rs_h g r x.2, n) := by
  refine jc_of ?_
  rw [o_X12_another] at h
  refine jg_aload_n dX12_another_0 rfl ?_
  obtain ⟨x1, e_x1, h⟩ := bd_some h
  refine rs_call (As := []) kv_X12_347 dX12_another_1 hr rfl rfl (by decide) (Nat.le_of_ble_eq_true rfl) rfl (by decide) (Nat.le_of_ble_eq_true rfl) (t_X12_uses hr s e_x1) ?_
  refine jg_aload_n dX12_another_4 rfl ?_
  obtain ⟨x2, e_x2, h⟩ := bd_some h
  refine rs_call (As := []) kv_X12_350 dX12_another_5 hr rfl rfl (by decide) (Nat.le_of_ble_eq_true rfl) rfl (by decide) (Nat.le_of_ble_eq_true rfl) (t_X12_reads hr F x1 e_x2) ?_
  refine jg_istore_n (L' := [some (.ref r), some (.int a1), some (.int a2), some (.int x2.1), none, none, none, none]) dX12_another_8 (by decide) rfl ?_
  refine jg_aload_n dX12_another_9 rfl ?_
  refine jg_iload_n dX12_another_10 rfl ?_
  refine jg_if_ge (x := x2.1) (tgt := 18) dX12_another_11 (by decide) (fun c3 => ?_) (fun c3 => ?_)
  · replace h := it_t c3 h
    refine jg_iconst (v := nI 0) dX12_another_18 (by decide) ?_
    refine jg_iconst (v := nI 1) dX12_another_19 (by decide) ?_
    refine rs_call (As := [.int (nI 0), .int (nI 1)]) kv_X12_69 dX12_another_20 hr rfl rfl (by decide) (Nat.le_of_ble_eq_true rfl) rfl (by decide) (Nat.le_of_ble_eq_true rfl) (t_X12_throwsIf hr x2.2 (nI 0) (nI 1) (o_thr0 x2.2 (nI 1))) ?_
    refine jg_if_eq (x := (nI 0)) (tgt := 28) dX12_another_23 (by decide) (fun _ => ?_) (fun q9 => absurd q9 (by decide))
    refine jg_iconst (v := nI 0) dX12_another_28 (by decide) ?_
    refine jg_istore (L' := [some (.ref r), some (.int a1), some (.int a2), some (.int x2.1), some (.int (nI 0)), none, none, none]) dX12_another_29 (by decide) rfl ?_
    refine jg_iconst (v := nI 0) dX12_another_31 (by decide) ?_
    refine jg_istore (L' := [some (.ref r), some (.int a1), some (.int a2), some (.int x2.1), some (.int (nI 0)), some (.int (nI 0)), none, none]) dX12_another_32 (by decide) rfl ?_
    refine jg_iconst (v := nI 0) dX12_another_34 (by decide) ?_
    refine jg_istore (L' := [some (.ref r), some (.int a1), some (.int a2), some (.int x2.1), some (.int (nI 0)), some (.int (nI 0)), some (.int (nI 0)), none]) dX12_another_35 (by decide) rfl ?_
    obtain ⟨x15, e_x15, h⟩ := bd_some h
    refine jg_fg (L' := [some (.ref r), some (.int a1), some (.int a2), none, some (.int (nI 0)), some (.int (nI 0)), some (.int (nI 0)), none]) (by repeat (first | exact trivial | refine ⟨rfl, ?_⟩ | show jg_le _ _)) ?_
    refine t_X12_another_37 hr F a1 a2  _ (x := x15) ?_ F (nI 0) (nI 0) (nI 0) x2.2 e_x15
    refine jg_iload_n dX12_another_143 rfl ?_
    refine jg_if_eq (x := a2) (tgt := 152) dX12_another_144 (by decide) (fun c16 => ?_) (fun c16 => ?_)
    · replace h := it_t c16 h
      refine jg_iload dX12_another_152 rfl ?_
      obtain rfl := Option.some.inj h
      exact jg_ireturn dX12_another_154 rfl ⟨rfl, rfl⟩
    · replace h := it_f c16 h
      refine jg_iload dX12_another_147 rfl ?_
      refine jg_goto (tgt := 154) dX12_another_149 (by decide) ?_
      obtain rfl := Option.some.inj h
      exact jg_ireturn dX12_another_154 rfl ⟨rfl, rfl⟩
  · replace h := it_f c3 h
    refine jg_iconst (v := nI 1) dX12_another_14 (by decide) ?_
    refine jg_goto (tgt := 19) dX12_another_15 (by decide) ?_
    refine jg_iconst (v := nI 1) dX12_another_19 (by decide) ?_
    refine rs_call (As := [.int (nI 1), .int (nI 1)]) kv_X12_69 dX12_another_20 hr rfl rfl (by decide) (Nat.le_of_ble_eq_true rfl) rfl (by decide) (Nat.le_of_ble_eq_true rfl) (t_X12_throwsIf hr x2.2 (nI 1) (nI 1) (o_thr1 x2.2 (nI 1))) ?_
    refine jg_if_eq (x := (nI 1)) (tgt := 28) dX12_another_23 (by decide) (fun q9 => absurd q9 (by decide)) (fun _ => ?_)
    refine jg_iconst (v := nI 0) dX12_another_26 (by decide) ?_
    obtain rfl := Option.some.inj h
    exact jg_ireturn dX12_another_27 rfl ⟨rfl, rfl⟩
theorem dX12_brings_0 : decode cX12_brings 0 = .ok (.aload_n 0, 1) := by decide +kernel
theorem dX12_brings_1 : decode cX12_brings 1 = .ok (.getfield 405, 3) := by decide +kernel
theorem dX12_brings_4 : decode cX12_brings 4 = .ok (.ifCond .lt 12, 3) := by decide +kernel
theorem dX12_brings_7 : decode cX12_brings 7 = .ok (.iload_n 3, 1) := by decide +kernel
theorem dX12_brings_8 : decode cX12_brings 8 = .ok (.aload_n 0, 1) := by decide +kernel
theorem dX12_brings_9 : decode cX12_brings 9 = .ok (.getfield 405, 3) := by decide +kernel
theorem dX12_brings_12 : decode cX12_brings 12 = .ok (.if_icmp .lt 4, 3) := by decide +kernel
theorem dX12_brings_15 : decode cX12_brings 15 = .ok (.return_, 1) := by decide +kernel
theorem dX12_brings_16 : decode cX12_brings 16 = .ok (.iload_n 2, 1) := by decide +kernel
theorem dX12_brings_17 : decode cX12_brings 17 = .ok (.iconst 1, 1) := by decide +kernel
theorem dX12_brings_18 : decode cX12_brings 18 = .ok (.iload_n 1, 1) := by decide +kernel
theorem dX12_brings_19 : decode cX12_brings 19 = .ok (.ishl, 1) := by decide +kernel
theorem dX12_brings_20 : decode cX12_brings 20 = .ok (.iconst 1, 1) := by decide +kernel
theorem dX12_brings_21 : decode cX12_brings 21 = .ok (.isub, 1) := by decide +kernel
theorem dX12_brings_22 : decode cX12_brings 22 = .ok (.if_icmp .ne 9, 3) := by decide +kernel
theorem dX12_brings_25 : decode cX12_brings 25 = .ok (.aload_n 0, 1) := by decide +kernel
theorem dX12_brings_26 : decode cX12_brings 26 = .ok (.iload_n 3, 1) := by decide +kernel
theorem dX12_brings_27 : decode cX12_brings 27 = .ok (.putfield 405, 3) := by decide +kernel
theorem dX12_brings_30 : decode cX12_brings 30 = .ok (.return_, 1) := by decide +kernel
theorem dX12_brings_31 : decode cX12_brings 31 = .ok (.iconst 0, 1) := by decide +kernel
theorem dX12_brings_32 : decode cX12_brings 32 = .ok (.istore 4, 2) := by decide +kernel
theorem dX12_brings_34 : decode cX12_brings 34 = .ok (.iload 4, 2) := by decide +kernel
theorem dX12_brings_36 : decode cX12_brings 36 = .ok (.iload_n 1, 1) := by decide +kernel
theorem dX12_brings_37 : decode cX12_brings 37 = .ok (.if_icmp .ge 189, 3) := by decide +kernel
theorem dX12_brings_40 : decode cX12_brings 40 = .ok (.iconst 0, 1) := by decide +kernel
theorem dX12_brings_41 : decode cX12_brings 41 = .ok (.istore 5, 2) := by decide +kernel
theorem dX12_brings_43 : decode cX12_brings 43 = .ok (.iload 5, 2) := by decide +kernel
theorem dX12_brings_45 : decode cX12_brings 45 = .ok (.aload_n 0, 1) := by decide +kernel
theorem dX12_brings_46 : decode cX12_brings 46 = .ok (.getfield 13, 3) := by decide +kernel
theorem dX12_brings_49 : decode cX12_brings 49 = .ok (.sipush 999, 3) := by decide +kernel
theorem dX12_brings_52 : decode cX12_brings 52 = .ok (.iaload, 1) := by decide +kernel
theorem dX12_brings_53 : decode cX12_brings 53 = .ok (.if_icmp .ge 167, 3) := by decide +kernel
theorem dX12_brings_56 : decode cX12_brings 56 = .ok (.iload_n 2, 1) := by decide +kernel
theorem dX12_brings_57 : decode cX12_brings 57 = .ok (.iload 4, 2) := by decide +kernel
theorem dX12_brings_59 : decode cX12_brings 59 = .ok (.ishr, 1) := by decide +kernel
theorem dX12_brings_60 : decode cX12_brings 60 = .ok (.iconst 1, 1) := by decide +kernel
theorem dX12_brings_61 : decode cX12_brings 61 = .ok (.iand, 1) := by decide +kernel
theorem dX12_brings_62 : decode cX12_brings 62 = .ok (.iconst 1, 1) := by decide +kernel
theorem dX12_brings_63 : decode cX12_brings 63 = .ok (.if_icmp .ne 6, 3) := by decide +kernel
theorem dX12_brings_66 : decode cX12_brings 66 = .ok (.goto 148, 3) := by decide +kernel
theorem dX12_brings_69 : decode cX12_brings 69 = .ok (.iconst 1, 1) := by decide +kernel
theorem dX12_brings_70 : decode cX12_brings 70 = .ok (.aload_n 0, 1) := by decide +kernel
theorem dX12_brings_71 : decode cX12_brings 71 = .ok (.getfield 43, 3) := by decide +kernel
theorem dX12_brings_74 : decode cX12_brings 74 = .ok (.iload 5, 2) := by decide +kernel
theorem dX12_brings_76 : decode cX12_brings 76 = .ok (.iaload, 1) := by decide +kernel
theorem dX12_brings_77 : decode cX12_brings 77 = .ok (.invokestatic 88, 3) := by decide +kernel
theorem dX12_brings_80 : decode cX12_brings 80 = .ok (.istore 6, 2) := by decide +kernel
theorem dX12_brings_82 : decode cX12_brings 82 = .ok (.iload 6, 2) := by decide +kernel
theorem dX12_brings_84 : decode cX12_brings 84 = .ok (.bipush 72, 2) := by decide +kernel
theorem dX12_brings_86 : decode cX12_brings 86 = .ok (.if_icmp .gt 31, 3) := by decide +kernel
theorem dX12_brings_89 : decode cX12_brings 89 = .ok (.aload_n 0, 1) := by decide +kernel
theorem dX12_brings_90 : decode cX12_brings 90 = .ok (.getfield 46, 3) := by decide +kernel
theorem dX12_brings_93 : decode cX12_brings 93 = .ok (.bipush 10, 2) := by decide +kernel
theorem dX12_brings_95 : decode cX12_brings 95 = .ok (.iload 4, 2) := by decide +kernel
theorem dX12_brings_97 : decode cX12_brings 97 = .ok (.imul, 1) := by decide +kernel
theorem dX12_brings_98 : decode cX12_brings 98 = .ok (.iload 5, 2) := by decide +kernel
theorem dX12_brings_100 : decode cX12_brings 100 = .ok (.iadd, 1) := by decide +kernel
theorem dX12_brings_101 : decode cX12_brings 101 = .ok (.bipush 73, 2) := by decide +kernel
theorem dX12_brings_103 : decode cX12_brings 103 = .ok (.imul, 1) := by decide +kernel
theorem dX12_brings_104 : decode cX12_brings 104 = .ok (.iload 6, 2) := by decide +kernel
theorem dX12_brings_106 : decode cX12_brings 106 = .ok (.iadd, 1) := by decide +kernel
theorem dX12_brings_107 : decode cX12_brings 107 = .ok (.baload, 1) := by decide +kernel
theorem dX12_brings_108 : decode cX12_brings 108 = .ok (.ifCond .ne 9, 3) := by decide +kernel
theorem dX12_brings_111 : decode cX12_brings 111 = .ok (.iinc 6 1, 3) := by decide +kernel
theorem dX12_brings_114 : decode cX12_brings 114 = .ok (.goto (-32), 3) := by decide +kernel
theorem dX12_brings_117 : decode cX12_brings 117 = .ok (.iload 6, 2) := by decide +kernel
theorem dX12_brings_119 : decode cX12_brings 119 = .ok (.bipush 72, 2) := by decide +kernel
theorem dX12_brings_121 : decode cX12_brings 121 = .ok (.if_icmp .le 6, 3) := by decide +kernel
theorem dX12_brings_124 : decode cX12_brings 124 = .ok (.goto 90, 3) := by decide +kernel
theorem dX12_brings_127 : decode cX12_brings 127 = .ok (.aload_n 0, 1) := by decide +kernel
theorem dX12_brings_128 : decode cX12_brings 128 = .ok (.getfield 43, 3) := by decide +kernel
theorem dX12_brings_131 : decode cX12_brings 131 = .ok (.iload 5, 2) := by decide +kernel
theorem dX12_brings_133 : decode cX12_brings 133 = .ok (.iaload, 1) := by decide +kernel
theorem dX12_brings_134 : decode cX12_brings 134 = .ok (.istore 7, 2) := by decide +kernel
theorem dX12_brings_136 : decode cX12_brings 136 = .ok (.aload_n 0, 1) := by decide +kernel
theorem dX12_brings_137 : decode cX12_brings 137 = .ok (.getfield 43, 3) := by decide +kernel
theorem dX12_brings_140 : decode cX12_brings 140 = .ok (.iload 5, 2) := by decide +kernel
theorem dX12_brings_142 : decode cX12_brings 142 = .ok (.iload 6, 2) := by decide +kernel
theorem dX12_brings_144 : decode cX12_brings 144 = .ok (.aload_n 0, 1) := by decide +kernel
theorem dX12_brings_145 : decode cX12_brings 145 = .ok (.aload_n 0, 1) := by decide +kernel
theorem dX12_brings_146 : decode cX12_brings 146 = .ok (.getfield 23, 3) := by decide +kernel
theorem dX12_brings_149 : decode cX12_brings 149 = .ok (.iload 4, 2) := by decide +kernel
theorem dX12_brings_151 : decode cX12_brings 151 = .ok (.iaload, 1) := by decide +kernel
theorem dX12_brings_152 : decode cX12_brings 152 = .ok (.iconst 2, 1) := by decide +kernel
theorem dX12_brings_153 : decode cX12_brings 153 = .ok (.invokevirtual 137, 3) := by decide +kernel
theorem dX12_brings_156 : decode cX12_brings 156 = .ok (.aload_n 0, 1) := by decide +kernel
theorem dX12_brings_157 : decode cX12_brings 157 = .ok (.iload 5, 2) := by decide +kernel
theorem dX12_brings_159 : decode cX12_brings 159 = .ok (.iconst 2, 1) := by decide +kernel
theorem dX12_brings_160 : decode cX12_brings 160 = .ok (.invokevirtual 140, 3) := by decide +kernel
theorem dX12_brings_163 : decode cX12_brings 163 = .ok (.iadd, 1) := by decide +kernel
theorem dX12_brings_164 : decode cX12_brings 164 = .ok (.iconst 1, 1) := by decide +kernel
theorem dX12_brings_165 : decode cX12_brings 165 = .ok (.isub, 1) := by decide +kernel
theorem dX12_brings_166 : decode cX12_brings 166 = .ok (.aload_n 0, 1) := by decide +kernel
theorem dX12_brings_167 : decode cX12_brings 167 = .ok (.iload 5, 2) := by decide +kernel
theorem dX12_brings_169 : decode cX12_brings 169 = .ok (.iconst 2, 1) := by decide +kernel
theorem dX12_brings_170 : decode cX12_brings 170 = .ok (.invokevirtual 140, 3) := by decide +kernel
theorem dX12_brings_173 : decode cX12_brings 173 = .ok (.idiv, 1) := by decide +kernel
theorem dX12_brings_174 : decode cX12_brings 174 = .ok (.iadd, 1) := by decide +kernel
theorem dX12_brings_175 : decode cX12_brings 175 = .ok (.aload_n 0, 1) := by decide +kernel
theorem dX12_brings_176 : decode cX12_brings 176 = .ok (.iload 5, 2) := by decide +kernel
theorem dX12_brings_178 : decode cX12_brings 178 = .ok (.iconst 0, 1) := by decide +kernel
theorem dX12_brings_179 : decode cX12_brings 179 = .ok (.invokevirtual 140, 3) := by decide +kernel
theorem dX12_brings_182 : decode cX12_brings 182 = .ok (.bipush 6, 2) := by decide +kernel
theorem dX12_brings_184 : decode cX12_brings 184 = .ok (.idiv, 1) := by decide +kernel
theorem dX12_brings_185 : decode cX12_brings 185 = .ok (.iadd, 1) := by decide +kernel
theorem dX12_brings_186 : decode cX12_brings 186 = .ok (.bipush 6, 2) := by decide +kernel
theorem dX12_brings_188 : decode cX12_brings 188 = .ok (.iadd, 1) := by decide +kernel
theorem dX12_brings_189 : decode cX12_brings 189 = .ok (.iastore, 1) := by decide +kernel
theorem dX12_brings_190 : decode cX12_brings 190 = .ok (.aload_n 0, 1) := by decide +kernel
theorem dX12_brings_191 : decode cX12_brings 191 = .ok (.iload_n 1, 1) := by decide +kernel
theorem dX12_brings_192 : decode cX12_brings 192 = .ok (.iload_n 2, 1) := by decide +kernel
theorem dX12_brings_193 : decode cX12_brings 193 = .ok (.iconst 1, 1) := by decide +kernel
theorem dX12_brings_194 : decode cX12_brings 194 = .ok (.iload 4, 2) := by decide +kernel
theorem dX12_brings_196 : decode cX12_brings 196 = .ok (.ishl, 1) := by decide +kernel
theorem dX12_brings_197 : decode cX12_brings 197 = .ok (.ior, 1) := by decide +kernel
theorem dX12_brings_198 : decode cX12_brings 198 = .ok (.iload_n 3, 1) := by decide +kernel
theorem dX12_brings_199 : decode cX12_brings 199 = .ok (.iload 6, 2) := by decide +kernel
theorem dX12_brings_201 : decode cX12_brings 201 = .ok (.iadd, 1) := by decide +kernel
theorem dX12_brings_202 : decode cX12_brings 202 = .ok (.invokevirtual 408, 3) := by decide +kernel
theorem dX12_brings_205 : decode cX12_brings 205 = .ok (.aload_n 0, 1) := by decide +kernel
theorem dX12_brings_206 : decode cX12_brings 206 = .ok (.getfield 43, 3) := by decide +kernel
theorem dX12_brings_209 : decode cX12_brings 209 = .ok (.iload 5, 2) := by decide +kernel
theorem dX12_brings_211 : decode cX12_brings 211 = .ok (.iload 7, 2) := by decide +kernel
theorem dX12_brings_213 : decode cX12_brings 213 = .ok (.iastore, 1) := by decide +kernel
theorem dX12_brings_214 : decode cX12_brings 214 = .ok (.iinc 5 1, 3) := by decide +kernel
theorem dX12_brings_217 : decode cX12_brings 217 = .ok (.goto (-174), 3) := by decide +kernel
theorem dX12_brings_220 : decode cX12_brings 220 = .ok (.iinc 4 1, 3) := by decide +kernel
theorem dX12_brings_223 : decode cX12_brings 223 = .ok (.goto (-189), 3) := by decide +kernel
theorem dX12_brings_226 : decode cX12_brings 226 = .ok (.return_, 1) := by decide +kernel
noncomputable def o_X12_brings_82 (F : Nat) (rB : rs_S → Int32 → Int32 → Int32 → Option rs_S) (l1 : Int32) (l2 : Int32) (l3 : Int32) (l4 : Int32) (l5 : Int32) (s : rs_S) : Nat → Int32 → Option (Int32)
  | 0, _ => none
  | f + 1, l6 => if (nI 72) < l6 then (some l6) else (if iL (((((nI 10) * l4) + l5) * (nI 73)) + l6) 2920 then (if (gR s 9 (((((nI 10) * l4) + l5) * (nI 73)) + l6)) = 0 then (o_X12_brings_82 F rB l1 l2 l3 l4 l5 s f (l6 + nI 1)) else (some l6)) else none)
set_option maxHeartbeats 4000000 in
theorem t_X12_brings_82 {Γ : jg_G} {g : Nat → jg_C} {n r : Nat} (hr : r + 11 ≤ n) (F : Nat) (rB : rs_S → Int32 → Int32 → Int32 → Option rs_S) (l1 : Int32) (l2 : Int32) (l3 : Int32) (l4 : Int32) (l5 : Int32) (s : rs_S) (dB : Nat) (h9 : 9 ≤ dB) (hB : ∀ s a1 a2 a3 x, rB s a1 a2 a3 = some x → jc Γ mX12_brings dB 0 0 [some (.ref r), some (.int a1), some (.int a2), some (.int a3), none, none, none, none] (rs_h g r s, n) (.inl none) (rs_h g r x, n)) (Q : jg_Q) {x : Int32} (K1 : jg Γ mX12_brings (dB + 1) 0 0 117 [some (.ref r), some (.int l1), some (.int l2), some (.int l3), some (.int l4), some (.int l5), some (.int x), none] [] (rs_h g r s, n) Q)  : ∀ (f : Nat) (l6 : Int32), o_X12_brings_82 F rB l1 l2 l3 l4 l5 s f l6 = some x → jg Γ mX12_brings (dB + 1) 0 0 82 [some (.ref r), some (.int l1), some (.int l2), some (.int l3), some (.int l4), some (.int l5), some (.int l6), none] [] (rs_h g r s, n) Q := by
  intro f
  induction f with
  | zero => intro l6 h; rw [o_X12_brings_82] at h; cases h
  | succ f ih =>
   intro l6 h
   rw [o_X12_brings_82] at h
   refine jg_iload dX12_brings_82 rfl ?_
   refine jg_bipush (v := nI 72) dX12_brings_84 (by decide) ?_
   refine jg_icmp_gt (x := l6) (y := (nI 72)) (tgt := 117) dX12_brings_86 (by decide) (fun c7 => ?_) (fun c7 => ?_)
   · replace h := it_t c7 h
     refine jg_fg (L' := [some (.ref r), some (.int l1), some (.int l2), some (.int l3), some (.int l4), some (.int l5), some (.int l6), none]) (by repeat (first | exact trivial | refine ⟨rfl, ?_⟩ | show jg_le _ _)) ?_
     obtain rfl := Option.some.inj h
     exact K1
   · replace h := it_f c7 h
     refine jg_aload_n dX12_brings_89 rfl ?_
     refine rs_ga fl_X12_46 dX12_brings_90 hr rfl ?_
     refine jg_bipush (v := nI 10) dX12_brings_93 (by decide) ?_
     refine jg_iload dX12_brings_95 rfl ?_
     refine jg_imul (x := (nI 10)) (y := l4) dX12_brings_97  ?_
     refine jg_iload dX12_brings_98 rfl ?_
     refine jg_iadd (x := ((nI 10) * l4)) (y := l5) dX12_brings_100  ?_
     refine jg_bipush (v := nI 73) dX12_brings_101 (by decide) ?_
     refine jg_imul (x := (((nI 10) * l4) + l5)) (y := (nI 73)) dX12_brings_103  ?_
     refine jg_iload dX12_brings_104 rfl ?_
     refine jg_iadd (x := ((((nI 10) * l4) + l5) * (nI 73))) (y := l6) dX12_brings_106  ?_
     obtain ⟨q8, h⟩ := gd_some h
     refine rs_lzD (s := s) (i := (((((nI 10) * l4) + l5) * (nI 73)) + l6)) (j := 8) dX12_brings_107 hr (by decide) rfl q8 ?_
     refine jg_if_ne (x := (gR s 9 (((((nI 10) * l4) + l5) * (nI 73)) + l6))) (tgt := 117) dX12_brings_108 (by decide) (fun c9 => ?_) (fun c9 => ?_)
     · replace h := it_f c9 h
       refine jg_fg (L' := [some (.ref r), some (.int l1), some (.int l2), some (.int l3), some (.int l4), some (.int l5), some (.int l6), none]) (by repeat (first | exact trivial | refine ⟨rfl, ?_⟩ | show jg_le _ _)) ?_
       obtain rfl := Option.some.inj h
       exact K1
     · replace h := it_t c9 h
       refine jg_iinc (x := l6) (v := l6 + nI 1) (L' := [some (.ref r), some (.int l1), some (.int l2), some (.int l3), some (.int l4), some (.int l5), some (.int (l6 + nI 1)), none]) dX12_brings_111 rfl (ic_k _ (by decide)) (by decide) rfl ?_
       refine jg_goto (tgt := 82) dX12_brings_114 (by decide) ?_
       refine jg_fg (L' := [some (.ref r), some (.int l1), some (.int l2), some (.int l3), some (.int l4), some (.int l5), some (.int (l6 + nI 1)), none]) (by repeat (first | exact trivial | refine ⟨rfl, ?_⟩ | show jg_le _ _)) ?_
       exact ih (l6 + nI 1) h
noncomputable def o_X12_brings_43 (F : Nat) (rB : rs_S → Int32 → Int32 → Int32 → Option rs_S) (l1 : Int32) (l2 : Int32) (l3 : Int32) (l4 : Int32)  : Nat → Int32 → rs_S → Option (rs_S)
  | 0, _, _ => none
  | f + 1, l5, s => if (gW s (nI 999)) ≤ l5 then (some s) else (if ((l2 >>> (l4 &&& 31)) &&& (nI 1)) = (nI 1) then (o_X12_brings_43 F rB l1 l2 l3 l4 f (l5 + nI 1) s) else (if iL l5 10 then ((o_X12_brings_82 F rB l1 l2 l3 l4 l5 s F (mxi (nI 1) (gR s 8 l5))).bind fun x10 => (if x10 ≤ (nI 72) then (if iL l4 80 then ((o_X12_of s (gR s 3 l4) (nI 2)).bind fun x13 => ((o_X12_berthOf s l5 (nI 2)).bind fun x14 => ((o_X12_berthOf s l5 (nI 2)).bind fun x15 => (if ¬ x15 = 0 then ((o_X12_berthOf s l5 (nI 0)).bind fun x17 => ((rB (pR s 8 l5 (((x10 + (((x13 + x14) - (nI 1)) / x15)) + (x17 / (nI 6))) + (nI 6))) l1 (l2 ||| ((nI 1) <<< (l4 &&& 31))) (l3 + x10)).bind fun x18 => (o_X12_brings_43 F rB l1 l2 l3 l4 f (l5 + nI 1) (pR x18 8 l5 (gR s 8 l5))))) else none)))) else none) else (o_X12_brings_43 F rB l1 l2 l3 l4 f (l5 + nI 1) s))) else none))
set_option maxHeartbeats 4000000 in
theorem t_X12_brings_43 {Γ : jg_G} {g : Nat → jg_C} {n r : Nat} (hr : r + 11 ≤ n) (F : Nat) (rB : rs_S → Int32 → Int32 → Int32 → Option rs_S) (l1 : Int32) (l2 : Int32) (l3 : Int32) (l4 : Int32)  (dB : Nat) (h9 : 9 ≤ dB) (hB : ∀ s a1 a2 a3 x, rB s a1 a2 a3 = some x → jc Γ mX12_brings dB 0 0 [some (.ref r), some (.int a1), some (.int a2), some (.int a3), none, none, none, none] (rs_h g r s, n) (.inl none) (rs_h g r x, n)) (Q : jg_Q) {x : rs_S} (K1 : jg Γ mX12_brings (dB + 1) 0 0 220 [some (.ref r), some (.int l1), some (.int l2), some (.int l3), some (.int l4), none, none, none] [] (rs_h g r x, n) Q)  : ∀ (f : Nat) (l5 : Int32) (s : rs_S), o_X12_brings_43 F rB l1 l2 l3 l4 f l5 s = some x → jg Γ mX12_brings (dB + 1) 0 0 43 [some (.ref r), some (.int l1), some (.int l2), some (.int l3), some (.int l4), some (.int l5), none, none] [] (rs_h g r s, n) Q := by
  intro f
  induction f with
  | zero => intro l5 s h; rw [o_X12_brings_43] at h; cases h
  | succ f ih =>
   intro l5 s h
   rw [o_X12_brings_43] at h
   refine jg_iload dX12_brings_43 rfl ?_
   refine jg_aload_n dX12_brings_45 rfl ?_
   refine rs_ga fl_X12_13 dX12_brings_46 hr rfl ?_
   refine jg_sipush (v := nI 999) dX12_brings_49 (by decide) ?_
   refine rs_lwD (s := s) (i := (nI 999)) dX12_brings_52 hr (by decide) ?_
   refine jg_icmp_ge (x := l5) (y := (gW s (nI 999))) (tgt := 220) dX12_brings_53 (by decide) (fun c4 => ?_) (fun c4 => ?_)
   · replace h := it_t c4 h
     refine jg_fg (L' := [some (.ref r), some (.int l1), some (.int l2), some (.int l3), some (.int l4), none, none, none]) (by repeat (first | exact trivial | refine ⟨rfl, ?_⟩ | show jg_le _ _)) ?_
     obtain rfl := Option.some.inj h
     exact K1
   · replace h := it_f c4 h
     refine jg_iload_n dX12_brings_56 rfl ?_
     refine jg_iload dX12_brings_57 rfl ?_
     refine jg_ishr (x := l2) (y := l4) dX12_brings_59  ?_
     refine jg_iconst (v := nI 1) dX12_brings_60 (by decide) ?_
     refine jg_iand (x := (l2 >>> (l4 &&& 31))) (y := (nI 1)) dX12_brings_61  ?_
     refine jg_iconst (v := nI 1) dX12_brings_62 (by decide) ?_
     refine jg_icmp_ne (x := ((l2 >>> (l4 &&& 31)) &&& (nI 1))) (y := (nI 1)) (tgt := 69) dX12_brings_63 (by decide) (fun c5 => ?_) (fun c5 => ?_)
     · replace h := it_f c5 h
       refine jg_iconst (v := nI 1) dX12_brings_69 (by decide) ?_
       refine jg_aload_n dX12_brings_70 rfl ?_
       refine rs_ga fl_X12_43 dX12_brings_71 hr rfl ?_
       refine jg_iload dX12_brings_74 rfl ?_
       obtain ⟨q6, h⟩ := gd_some h
       refine rs_ldD (s := s) (i := l5) (j := 7) dX12_brings_76 hr (by decide) rfl q6 ?_
       refine jg_mmax (x := (nI 1)) (y := (gR s 8 l5)) km_X12_88 jw_max.1 jw_max.2 dX12_brings_77 (by omega) (Nat.le_of_ble_eq_true rfl) ?_
       refine jg_istore (L' := [some (.ref r), some (.int l1), some (.int l2), some (.int l3), some (.int l4), some (.int l5), some (.int (mxi (nI 1) (gR s 8 l5))), none]) dX12_brings_80 (by decide) rfl ?_
       obtain ⟨x10, e_x10, h⟩ := bd_some h
       refine jg_fg (L' := [some (.ref r), some (.int l1), some (.int l2), some (.int l3), some (.int l4), some (.int l5), some (.int (mxi (nI 1) (gR s 8 l5))), none]) (by repeat (first | exact trivial | refine ⟨rfl, ?_⟩ | show jg_le _ _)) ?_
       refine t_X12_brings_82 hr F rB l1 l2 l3 l4 l5 s dB h9 hB _ (x := x10) ?_ F (mxi (nI 1) (gR s 8 l5)) e_x10
       refine jg_iload dX12_brings_117 rfl ?_
       refine jg_bipush (v := nI 72) dX12_brings_119 (by decide) ?_
       refine jg_icmp_le (x := x10) (y := (nI 72)) (tgt := 127) dX12_brings_121 (by decide) (fun c11 => ?_) (fun c11 => ?_)
       · replace h := it_t c11 h
         refine jg_aload_n dX12_brings_127 rfl ?_
         refine rs_ga fl_X12_43 dX12_brings_128 hr rfl ?_
         refine jg_iload dX12_brings_131 rfl ?_
         refine rs_ldD (s := s) (i := l5) (j := 7) dX12_brings_133 hr (by decide) rfl q6 ?_
         refine jg_istore (L' := [some (.ref r), some (.int l1), some (.int l2), some (.int l3), some (.int l4), some (.int l5), some (.int x10), some (.int (gR s 8 l5))]) dX12_brings_134 (by decide) rfl ?_
         refine jg_aload_n dX12_brings_136 rfl ?_
         refine rs_ga fl_X12_43 dX12_brings_137 hr rfl ?_
         refine jg_iload dX12_brings_140 rfl ?_
         refine jg_iload dX12_brings_142 rfl ?_
         refine jg_aload_n dX12_brings_144 rfl ?_
         refine jg_aload_n dX12_brings_145 rfl ?_
         refine rs_ga fl_X12_23 dX12_brings_146 hr rfl ?_
         refine jg_iload dX12_brings_149 rfl ?_
         obtain ⟨q12, h⟩ := gd_some h
         refine rs_ldD (s := s) (i := l4) (j := 2) dX12_brings_151 hr (by decide) rfl q12 ?_
         refine jg_iconst (v := nI 2) dX12_brings_152 (by decide) ?_
         obtain ⟨x13, e_x13, h⟩ := bd_some h
         refine rs_call (As := [.int (gR s 3 l4), .int (nI 2)]) kv_X12_137 dX12_brings_153 hr rfl rfl (by decide) (Nat.le_of_ble_eq_true rfl) rfl (by omega) (Nat.le_of_ble_eq_true rfl) (t_X12_of hr s (gR s 3 l4) (nI 2) e_x13) ?_
         refine jg_aload_n dX12_brings_156 rfl ?_
         refine jg_iload dX12_brings_157 rfl ?_
         refine jg_iconst (v := nI 2) dX12_brings_159 (by decide) ?_
         obtain ⟨x14, e_x14, h⟩ := bd_some h
         refine rs_call (As := [.int l5, .int (nI 2)]) kv_X12_140 dX12_brings_160 hr rfl rfl (by decide) (Nat.le_of_ble_eq_true rfl) rfl (by omega) (Nat.le_of_ble_eq_true rfl) (t_X12_berthOf hr s l5 (nI 2) e_x14) ?_
         refine jg_iadd (x := x13) (y := x14) dX12_brings_163  ?_
         refine jg_iconst (v := nI 1) dX12_brings_164 (by decide) ?_
         refine jg_isub (x := (x13 + x14)) (y := (nI 1)) dX12_brings_165  ?_
         refine jg_aload_n dX12_brings_166 rfl ?_
         refine jg_iload dX12_brings_167 rfl ?_
         refine jg_iconst (v := nI 2) dX12_brings_169 (by decide) ?_
         obtain ⟨x15, e_x15, h⟩ := bd_some h
         refine rs_call (As := [.int l5, .int (nI 2)]) kv_X12_140 dX12_brings_170 hr rfl rfl (by decide) (Nat.le_of_ble_eq_true rfl) rfl (by omega) (Nat.le_of_ble_eq_true rfl) (t_X12_berthOf hr s l5 (nI 2) e_x15) ?_
         obtain ⟨q16, h⟩ := gd_some h
         refine jg_idiv (x := ((x13 + x14) - (nI 1))) (y := x15) dX12_brings_173 q16 ?_
         refine jg_iadd (x := x10) (y := (((x13 + x14) - (nI 1)) / x15)) dX12_brings_174  ?_
         refine jg_aload_n dX12_brings_175 rfl ?_
         refine jg_iload dX12_brings_176 rfl ?_
         refine jg_iconst (v := nI 0) dX12_brings_178 (by decide) ?_
         obtain ⟨x17, e_x17, h⟩ := bd_some h
         refine rs_call (As := [.int l5, .int (nI 0)]) kv_X12_140 dX12_brings_179 hr rfl rfl (by decide) (Nat.le_of_ble_eq_true rfl) rfl (by omega) (Nat.le_of_ble_eq_true rfl) (t_X12_berthOf hr s l5 (nI 0) e_x17) ?_
         refine jg_bipush (v := nI 6) dX12_brings_182 (by decide) ?_
         refine jg_idiv (x := x17) (y := (nI 6)) dX12_brings_184 (by decide) ?_
         refine jg_iadd (x := (x10 + (((x13 + x14) - (nI 1)) / x15))) (y := (x17 / (nI 6))) dX12_brings_185  ?_
         refine jg_bipush (v := nI 6) dX12_brings_186 (by decide) ?_
         refine jg_iadd (x := ((x10 + (((x13 + x14) - (nI 1)) / x15)) + (x17 / (nI 6)))) (y := (nI 6)) dX12_brings_188  ?_
         refine rs_stD (s := s) (i := l5) (x := (((x10 + (((x13 + x14) - (nI 1)) / x15)) + (x17 / (nI 6))) + (nI 6))) (j := 7) dX12_brings_189 hr (by decide) rfl q6 ?_
         refine jg_aload_n dX12_brings_190 rfl ?_
         refine jg_iload_n dX12_brings_191 rfl ?_
         refine jg_iload_n dX12_brings_192 rfl ?_
         refine jg_iconst (v := nI 1) dX12_brings_193 (by decide) ?_
         refine jg_iload dX12_brings_194 rfl ?_
         refine jg_ishl (x := (nI 1)) (y := l4) dX12_brings_196  ?_
         refine jg_ior (x := l2) (y := ((nI 1) <<< (l4 &&& 31))) dX12_brings_197  ?_
         refine jg_iload_n dX12_brings_198 rfl ?_
         refine jg_iload dX12_brings_199 rfl ?_
         refine jg_iadd (x := l3) (y := x10) dX12_brings_201  ?_
         obtain ⟨x18, e_x18, h⟩ := bd_some h
         refine rs_call (As := [.int l1, .int (l2 ||| ((nI 1) <<< (l4 &&& 31))), .int (l3 + x10)]) kv_X12_408 dX12_brings_202 hr rfl rfl (by decide) (Nat.le_of_ble_eq_true rfl) rfl (by omega) (Nat.le_of_ble_eq_true rfl) (hB (pR s 8 l5 (((x10 + (((x13 + x14) - (nI 1)) / x15)) + (x17 / (nI 6))) + (nI 6))) l1 (l2 ||| ((nI 1) <<< (l4 &&& 31))) (l3 + x10) _ e_x18) ?_
         refine jg_aload_n dX12_brings_205 rfl ?_
         refine rs_ga fl_X12_43 dX12_brings_206 hr rfl ?_
         refine jg_iload dX12_brings_209 rfl ?_
         refine jg_iload dX12_brings_211 rfl ?_
         refine rs_stD (s := x18) (i := l5) (x := (gR s 8 l5)) (j := 7) dX12_brings_213 hr (by decide) rfl q6 ?_
         refine jg_iinc (x := l5) (v := l5 + nI 1) (L' := [some (.ref r), some (.int l1), some (.int l2), some (.int l3), some (.int l4), some (.int (l5 + nI 1)), some (.int x10), some (.int (gR s 8 l5))]) dX12_brings_214 rfl (ic_k _ (by decide)) (by decide) rfl ?_
         refine jg_goto (tgt := 43) dX12_brings_217 (by decide) ?_
         refine jg_fg (L' := [some (.ref r), some (.int l1), some (.int l2), some (.int l3), some (.int l4), some (.int (l5 + nI 1)), none, none]) (by repeat (first | exact trivial | refine ⟨rfl, ?_⟩ | show jg_le _ _)) ?_
         exact ih (l5 + nI 1) (pR x18 8 l5 (gR s 8 l5)) h
       · replace h := it_f c11 h
         refine jg_goto (tgt := 214) dX12_brings_124 (by decide) ?_
         refine jg_iinc (x := l5) (v := l5 + nI 1) (L' := [some (.ref r), some (.int l1), some (.int l2), some (.int l3), some (.int l4), some (.int (l5 + nI 1)), some (.int x10), none]) dX12_brings_214 rfl (ic_k _ (by decide)) (by decide) rfl ?_
         refine jg_goto (tgt := 43) dX12_brings_217 (by decide) ?_
         refine jg_fg (L' := [some (.ref r), some (.int l1), some (.int l2), some (.int l3), some (.int l4), some (.int (l5 + nI 1)), none, none]) (by repeat (first | exact trivial | refine ⟨rfl, ?_⟩ | show jg_le _ _)) ?_
         exact ih (l5 + nI 1) s h
     · replace h := it_t c5 h
       refine jg_goto (tgt := 214) dX12_brings_66 (by decide) ?_
       refine jg_iinc (x := l5) (v := l5 + nI 1) (L' := [some (.ref r), some (.int l1), some (.int l2), some (.int l3), some (.int l4), some (.int (l5 + nI 1)), none, none]) dX12_brings_214 rfl (ic_k _ (by decide)) (by decide) rfl ?_
       refine jg_goto (tgt := 43) dX12_brings_217 (by decide) ?_
       refine jg_fg (L' := [some (.ref r), some (.int l1), some (.int l2), some (.int l3), some (.int l4), some (.int (l5 + nI 1)), none, none]) (by repeat (first | exact trivial | refine ⟨rfl, ?_⟩ | show jg_le _ _)) ?_
       exact ih (l5 + nI 1) s h
noncomputable def o_X12_brings_34 (F : Nat) (rB : rs_S → Int32 → Int32 → Int32 → Option rs_S) (l1 : Int32) (l2 : Int32) (l3 : Int32)  : Nat → Int32 → rs_S → Option (rs_S)
  | 0, _, _ => none
  | f + 1, l4, s => if l1 ≤ l4 then (some s) else ((o_X12_brings_43 F rB l1 l2 l3 l4 F (nI 0) s).bind fun x19 => (o_X12_brings_34 F rB l1 l2 l3 f (l4 + nI 1) x19))
set_option maxHeartbeats 4000000 in
theorem t_X12_brings_34 {Γ : jg_G} {g : Nat → jg_C} {n r : Nat} (hr : r + 11 ≤ n) (F : Nat) (rB : rs_S → Int32 → Int32 → Int32 → Option rs_S) (l1 : Int32) (l2 : Int32) (l3 : Int32)  (dB : Nat) (h9 : 9 ≤ dB) (hB : ∀ s a1 a2 a3 x, rB s a1 a2 a3 = some x → jc Γ mX12_brings dB 0 0 [some (.ref r), some (.int a1), some (.int a2), some (.int a3), none, none, none, none] (rs_h g r s, n) (.inl none) (rs_h g r x, n)) (Q : jg_Q) {x : rs_S} (K1 : jg Γ mX12_brings (dB + 1) 0 0 226 [none, none, none, none, none, none, none, none] [] (rs_h g r x, n) Q)  : ∀ (f : Nat) (l4 : Int32) (s : rs_S), o_X12_brings_34 F rB l1 l2 l3 f l4 s = some x → jg Γ mX12_brings (dB + 1) 0 0 34 [some (.ref r), some (.int l1), some (.int l2), some (.int l3), some (.int l4), none, none, none] [] (rs_h g r s, n) Q := by
  intro f
  induction f with
  | zero => intro l4 s h; rw [o_X12_brings_34] at h; cases h
  | succ f ih =>
   intro l4 s h
   rw [o_X12_brings_34] at h
   refine jg_iload dX12_brings_34 rfl ?_
   refine jg_iload_n dX12_brings_36 rfl ?_
   refine jg_icmp_ge (x := l4) (y := l1) (tgt := 226) dX12_brings_37 (by decide) (fun c3 => ?_) (fun c3 => ?_)
   · replace h := it_t c3 h
     refine jg_fg (L' := [none, none, none, none, none, none, none, none]) (by repeat (first | exact trivial | refine ⟨rfl, ?_⟩ | show jg_le _ _)) ?_
     obtain rfl := Option.some.inj h
     exact K1
   · replace h := it_f c3 h
     refine jg_iconst (v := nI 0) dX12_brings_40 (by decide) ?_
     refine jg_istore (L' := [some (.ref r), some (.int l1), some (.int l2), some (.int l3), some (.int l4), some (.int (nI 0)), none, none]) dX12_brings_41 (by decide) rfl ?_
     obtain ⟨x19, e_x19, h⟩ := bd_some h
     refine jg_fg (L' := [some (.ref r), some (.int l1), some (.int l2), some (.int l3), some (.int l4), some (.int (nI 0)), none, none]) (by repeat (first | exact trivial | refine ⟨rfl, ?_⟩ | show jg_le _ _)) ?_
     refine t_X12_brings_43 hr F rB l1 l2 l3 l4 dB h9 hB _ (x := x19) ?_ F (nI 0) s e_x19
     refine jg_iinc (x := l4) (v := l4 + nI 1) (L' := [some (.ref r), some (.int l1), some (.int l2), some (.int l3), some (.int (l4 + nI 1)), none, none, none]) dX12_brings_220 rfl (ic_k _ (by decide)) (by decide) rfl ?_
     refine jg_goto (tgt := 34) dX12_brings_223 (by decide) ?_
     refine jg_fg (L' := [some (.ref r), some (.int l1), some (.int l2), some (.int l3), some (.int (l4 + nI 1)), none, none, none]) (by repeat (first | exact trivial | refine ⟨rfl, ?_⟩ | show jg_le _ _)) ?_
     exact ih (l4 + nI 1) x19 h
noncomputable def o_X12_brings (F : Nat) (rB : rs_S → Int32 → Int32 → Int32 → Option rs_S) (s : rs_S) (a1 : Int32) (a2 : Int32) (a3 : Int32) : Option (rs_S) := if (s.1 22) < 0 then (if a2 = (((nI 1) <<< (a1 &&& 31)) - (nI 1)) then (some (pN s 22 a3)) else ((o_X12_brings_34 F rB a1 a2 a3 F (nI 0) s).bind fun x20 => (some x20))) else (if a3 < (s.1 22) then (if a2 = (((nI 1) <<< (a1 &&& 31)) - (nI 1)) then (some (pN s 22 a3)) else ((o_X12_brings_34 F rB a1 a2 a3 F (nI 0) s).bind fun x23 => (some x23))) else (some s))
set_option maxHeartbeats 4000000 in
theorem t_X12_brings {Γ : jg_G} {g : Nat → jg_C} {n r : Nat} (hr : r + 11 ≤ n) (F : Nat) (rB : rs_S → Int32 → Int32 → Int32 → Option rs_S) (s : rs_S) (a1 : Int32) (a2 : Int32) (a3 : Int32) (dB : Nat) (h9 : 9 ≤ dB) (hB : ∀ s a1 a2 a3 x, rB s a1 a2 a3 = some x → jc Γ mX12_brings dB 0 0 [some (.ref r), some (.int a1), some (.int a2), some (.int a3), none, none, none, none] (rs_h g r s, n) (.inl none) (rs_h g r x, n)) {x : rs_S} (h : o_X12_brings F rB s a1 a2 a3 = some x) : jc Γ mX12_brings (dB + 1) 0 0 [some (.ref r), some (.int a1), some (.int a2), some (.int a3), none, none, none, none] (rs_h g r s, n) (.inl none) (rs_h g r x, n) := by
  refine jc_of ?_
  rw [o_X12_brings] at h
  refine jg_aload_n dX12_brings_0 rfl ?_
  refine rs_ga fl_X12_405 dX12_brings_1 hr rfl ?_
  refine jg_if_lt (x := (s.1 22)) (tgt := 16) dX12_brings_4 (by decide) (fun c1 => ?_) (fun c1 => ?_)
  · replace h := it_t c1 h
    refine jg_iload_n dX12_brings_16 rfl ?_
    refine jg_iconst (v := nI 1) dX12_brings_17 (by decide) ?_
    refine jg_iload_n dX12_brings_18 rfl ?_
    refine jg_ishl (x := (nI 1)) (y := a1) dX12_brings_19  ?_
    refine jg_iconst (v := nI 1) dX12_brings_20 (by decide) ?_
    refine jg_isub (x := ((nI 1) <<< (a1 &&& 31))) (y := (nI 1)) dX12_brings_21  ?_
    refine jg_icmp_ne (x := a2) (y := (((nI 1) <<< (a1 &&& 31)) - (nI 1))) (tgt := 31) dX12_brings_22 (by decide) (fun c2 => ?_) (fun c2 => ?_)
    · replace h := it_f c2 h
      refine jg_iconst (v := nI 0) dX12_brings_31 (by decide) ?_
      refine jg_istore (L' := [some (.ref r), some (.int a1), some (.int a2), some (.int a3), some (.int (nI 0)), none, none, none]) dX12_brings_32 (by decide) rfl ?_
      obtain ⟨x20, e_x20, h⟩ := bd_some h
      refine jg_fg (L' := [some (.ref r), some (.int a1), some (.int a2), some (.int a3), some (.int (nI 0)), none, none, none]) (by repeat (first | exact trivial | refine ⟨rfl, ?_⟩ | show jg_le _ _)) ?_
      refine t_X12_brings_34 hr F rB a1 a2 a3 dB h9 hB _ (x := x20) ?_ F (nI 0) s e_x20
      obtain rfl := Option.some.inj h
      exact jg_return dX12_brings_226 rfl ⟨rfl, rfl⟩
    · replace h := it_t c2 h
      refine jg_aload_n dX12_brings_25 rfl ?_
      refine jg_iload_n dX12_brings_26 rfl ?_
      refine rs_putD (s := s) (k := 22) (x := a3) fl_X12_405 dX12_brings_27 hr (by decide) (rfl) rfl rfl ?_
      obtain rfl := Option.some.inj h
      exact jg_return dX12_brings_30 rfl ⟨rfl, rfl⟩
  · replace h := it_f c1 h
    refine jg_iload_n dX12_brings_7 rfl ?_
    refine jg_aload_n dX12_brings_8 rfl ?_
    refine rs_ga fl_X12_405 dX12_brings_9 hr rfl ?_
    refine jg_icmp_lt (x := a3) (y := (s.1 22)) (tgt := 16) dX12_brings_12 (by decide) (fun c21 => ?_) (fun c21 => ?_)
    · replace h := it_t c21 h
      refine jg_iload_n dX12_brings_16 rfl ?_
      refine jg_iconst (v := nI 1) dX12_brings_17 (by decide) ?_
      refine jg_iload_n dX12_brings_18 rfl ?_
      refine jg_ishl (x := (nI 1)) (y := a1) dX12_brings_19  ?_
      refine jg_iconst (v := nI 1) dX12_brings_20 (by decide) ?_
      refine jg_isub (x := ((nI 1) <<< (a1 &&& 31))) (y := (nI 1)) dX12_brings_21  ?_
      refine jg_icmp_ne (x := a2) (y := (((nI 1) <<< (a1 &&& 31)) - (nI 1))) (tgt := 31) dX12_brings_22 (by decide) (fun c22 => ?_) (fun c22 => ?_)
      · replace h := it_f c22 h
        refine jg_iconst (v := nI 0) dX12_brings_31 (by decide) ?_
        refine jg_istore (L' := [some (.ref r), some (.int a1), some (.int a2), some (.int a3), some (.int (nI 0)), none, none, none]) dX12_brings_32 (by decide) rfl ?_
        obtain ⟨x23, e_x23, h⟩ := bd_some h
        refine jg_fg (L' := [some (.ref r), some (.int a1), some (.int a2), some (.int a3), some (.int (nI 0)), none, none, none]) (by repeat (first | exact trivial | refine ⟨rfl, ?_⟩ | show jg_le _ _)) ?_
        refine t_X12_brings_34 hr F rB a1 a2 a3 dB h9 hB _ (x := x23) ?_ F (nI 0) s e_x23
        obtain rfl := Option.some.inj h
        exact jg_return dX12_brings_226 rfl ⟨rfl, rfl⟩
      · replace h := it_t c22 h
        refine jg_aload_n dX12_brings_25 rfl ?_
        refine jg_iload_n dX12_brings_26 rfl ?_
        refine rs_putD (s := s) (k := 22) (x := a3) fl_X12_405 dX12_brings_27 hr (by decide) (rfl) rfl rfl ?_
        obtain rfl := Option.some.inj h
        exact jg_return dX12_brings_30 rfl ⟨rfl, rfl⟩
    · replace h := it_f c21 h
      obtain rfl := Option.some.inj h
      exact jg_return dX12_brings_15 rfl ⟨rfl, rfl⟩
noncomputable def o_brg (F : Nat) : Nat → rs_S → Int32 → Int32 → Int32 → Option rs_S
  | 0, _, _, _, _ => none
  | f + 1, s, a1, a2, a3 => o_X12_brings F (o_brg F f) s a1 a2 a3
theorem t_brg {Γ : jg_G} {g : Nat → jg_C} {n r : Nat} (hr : r + 11 ≤ n) (F : Nat) : ∀ (f : Nat) (s : rs_S) (a1 a2 a3 : Int32) (x : rs_S), o_brg F f s a1 a2 a3 = some x → jc Γ mX12_brings (9 + f) 0 0 [some (.ref r), some (.int a1), some (.int a2), some (.int a3), none, none, none, none] (rs_h g r s, n) (.inl none) (rs_h g r x, n) := by
  intro f
  induction f with
  | zero => intro s a1 a2 a3 x h; cases h
  | succ f ih =>
    intro s a1 a2 a3 x h
    rw [o_brg] at h
    exact t_X12_brings hr F _ s a1 a2 a3 (9 + f) (by omega) ih h
noncomputable def o_brB (F : Nat) (s : rs_S) (a1 a2 a3 : Int32) : Option rs_S := o_brg F 8 s a1 a2 a3
theorem t_brB {Γ : jg_G} {g : Nat → jg_C} {n r : Nat} (hr : r + 11 ≤ n) (F : Nat) (s : rs_S) (a1 a2 a3 : Int32) {x : rs_S} (h : o_brB F s a1 a2 a3 = some x) : jc Γ mX12_brings 17 0 0 [some (.ref r), some (.int a1), some (.int a2), some (.int a3), none, none, none, none] (rs_h g r s, n) (.inl none) (rs_h g r x, n) := t_brg hr F 8 s a1 a2 a3 x h
theorem dX12_bring_0 : decode cX12_bring 0 = .ok (.aload_n 0, 1) := by decide +kernel
theorem dX12_bring_1 : decode cX12_bring 1 = .ok (.iconst 0, 1) := by decide +kernel
theorem dX12_bring_2 : decode cX12_bring 2 = .ok (.putfield 3, 3) := by decide +kernel
theorem dX12_bring_5 : decode cX12_bring 5 = .ok (.aload_n 0, 1) := by decide +kernel
theorem dX12_bring_6 : decode cX12_bring 6 = .ok (.invokevirtual 187, 3) := by decide +kernel
theorem dX12_bring_9 : decode cX12_bring 9 = .ok (.aload_n 0, 1) := by decide +kernel
theorem dX12_bring_10 : decode cX12_bring 10 = .ok (.invokevirtual 134, 3) := by decide +kernel
theorem dX12_bring_13 : decode cX12_bring 13 = .ok (.iconst 4, 1) := by decide +kernel
theorem dX12_bring_14 : decode cX12_bring 14 = .ok (.aload_n 0, 1) := by decide +kernel
theorem dX12_bring_15 : decode cX12_bring 15 = .ok (.getfield 150, 3) := by decide +kernel
theorem dX12_bring_18 : decode cX12_bring 18 = .ok (.invokestatic 91, 3) := by decide +kernel
theorem dX12_bring_21 : decode cX12_bring 21 = .ok (.istore_n 1, 1) := by decide +kernel
theorem dX12_bring_22 : decode cX12_bring 22 = .ok (.iconst 0, 1) := by decide +kernel
theorem dX12_bring_23 : decode cX12_bring 23 = .ok (.istore_n 2, 1) := by decide +kernel
theorem dX12_bring_24 : decode cX12_bring 24 = .ok (.iload_n 2, 1) := by decide +kernel
theorem dX12_bring_25 : decode cX12_bring 25 = .ok (.aload_n 0, 1) := by decide +kernel
theorem dX12_bring_26 : decode cX12_bring 26 = .ok (.getfield 13, 3) := by decide +kernel
theorem dX12_bring_29 : decode cX12_bring 29 = .ok (.sipush 999, 3) := by decide +kernel
theorem dX12_bring_32 : decode cX12_bring 32 = .ok (.iaload, 1) := by decide +kernel
theorem dX12_bring_33 : decode cX12_bring 33 = .ok (.if_icmp .ge 128, 3) := by decide +kernel
theorem dX12_bring_36 : decode cX12_bring 36 = .ok (.aload_n 0, 1) := by decide +kernel
theorem dX12_bring_37 : decode cX12_bring 37 = .ok (.getfield 43, 3) := by decide +kernel
theorem dX12_bring_40 : decode cX12_bring 40 = .ok (.iload_n 2, 1) := by decide +kernel
theorem dX12_bring_41 : decode cX12_bring 41 = .ok (.aload_n 0, 1) := by decide +kernel
theorem dX12_bring_42 : decode cX12_bring 42 = .ok (.iload_n 2, 1) := by decide +kernel
theorem dX12_bring_43 : decode cX12_bring 43 = .ok (.bipush 6, 2) := by decide +kernel
theorem dX12_bring_45 : decode cX12_bring 45 = .ok (.invokevirtual 140, 3) := by decide +kernel
theorem dX12_bring_48 : decode cX12_bring 48 = .ok (.ifCond .lt 8, 3) := by decide +kernel
theorem dX12_bring_51 : decode cX12_bring 51 = .ok (.bipush 24, 2) := by decide +kernel
theorem dX12_bring_53 : decode cX12_bring 53 = .ok (.goto 4, 3) := by decide +kernel
theorem dX12_bring_56 : decode cX12_bring 56 = .ok (.iconst 0, 1) := by decide +kernel
theorem dX12_bring_57 : decode cX12_bring 57 = .ok (.iastore, 1) := by decide +kernel
theorem dX12_bring_58 : decode cX12_bring 58 = .ok (.iconst 0, 1) := by decide +kernel
theorem dX12_bring_59 : decode cX12_bring 59 = .ok (.istore_n 3, 1) := by decide +kernel
theorem dX12_bring_60 : decode cX12_bring 60 = .ok (.iload_n 3, 1) := by decide +kernel
theorem dX12_bring_61 : decode cX12_bring 61 = .ok (.iload_n 1, 1) := by decide +kernel
theorem dX12_bring_62 : decode cX12_bring 62 = .ok (.if_icmp .ge 93, 3) := by decide +kernel
theorem dX12_bring_65 : decode cX12_bring 65 = .ok (.iconst 1, 1) := by decide +kernel
theorem dX12_bring_66 : decode cX12_bring 66 = .ok (.istore 4, 2) := by decide +kernel
theorem dX12_bring_68 : decode cX12_bring 68 = .ok (.iload 4, 2) := by decide +kernel
theorem dX12_bring_70 : decode cX12_bring 70 = .ok (.bipush 72, 2) := by decide +kernel
theorem dX12_bring_72 : decode cX12_bring 72 = .ok (.if_icmp .gt 77, 3) := by decide +kernel
theorem dX12_bring_75 : decode cX12_bring 75 = .ok (.aload_n 0, 1) := by decide +kernel
theorem dX12_bring_76 : decode cX12_bring 76 = .ok (.getfield 46, 3) := by decide +kernel
theorem dX12_bring_79 : decode cX12_bring 79 = .ok (.bipush 10, 2) := by decide +kernel
theorem dX12_bring_81 : decode cX12_bring 81 = .ok (.iload_n 3, 1) := by decide +kernel
theorem dX12_bring_82 : decode cX12_bring 82 = .ok (.imul, 1) := by decide +kernel
theorem dX12_bring_83 : decode cX12_bring 83 = .ok (.iload_n 2, 1) := by decide +kernel
theorem dX12_bring_84 : decode cX12_bring 84 = .ok (.iadd, 1) := by decide +kernel
theorem dX12_bring_85 : decode cX12_bring 85 = .ok (.bipush 73, 2) := by decide +kernel
theorem dX12_bring_87 : decode cX12_bring 87 = .ok (.imul, 1) := by decide +kernel
theorem dX12_bring_88 : decode cX12_bring 88 = .ok (.iload 4, 2) := by decide +kernel
theorem dX12_bring_90 : decode cX12_bring 90 = .ok (.iadd, 1) := by decide +kernel
theorem dX12_bring_91 : decode cX12_bring 91 = .ok (.aload_n 0, 1) := by decide +kernel
theorem dX12_bring_92 : decode cX12_bring 92 = .ok (.aload_n 0, 1) := by decide +kernel
theorem dX12_bring_93 : decode cX12_bring 93 = .ok (.getfield 23, 3) := by decide +kernel
theorem dX12_bring_96 : decode cX12_bring 96 = .ok (.iload_n 3, 1) := by decide +kernel
theorem dX12_bring_97 : decode cX12_bring 97 = .ok (.iaload, 1) := by decide +kernel
theorem dX12_bring_98 : decode cX12_bring 98 = .ok (.iload_n 2, 1) := by decide +kernel
theorem dX12_bring_99 : decode cX12_bring 99 = .ok (.invokevirtual 180, 3) := by decide +kernel
theorem dX12_bring_102 : decode cX12_bring 102 = .ok (.ifCond .eq 39, 3) := by decide +kernel
theorem dX12_bring_105 : decode cX12_bring 105 = .ok (.aload_n 0, 1) := by decide +kernel
theorem dX12_bring_106 : decode cX12_bring 106 = .ok (.aload_n 0, 1) := by decide +kernel
theorem dX12_bring_107 : decode cX12_bring 107 = .ok (.aload_n 0, 1) := by decide +kernel
theorem dX12_bring_108 : decode cX12_bring 108 = .ok (.getfield 23, 3) := by decide +kernel
theorem dX12_bring_111 : decode cX12_bring 111 = .ok (.iload_n 3, 1) := by decide +kernel
theorem dX12_bring_112 : decode cX12_bring 112 = .ok (.iaload, 1) := by decide +kernel
theorem dX12_bring_113 : decode cX12_bring 113 = .ok (.iconst 4, 1) := by decide +kernel
theorem dX12_bring_114 : decode cX12_bring 114 = .ok (.invokevirtual 137, 3) := by decide +kernel
theorem dX12_bring_117 : decode cX12_bring 117 = .ok (.aload_n 0, 1) := by decide +kernel
theorem dX12_bring_118 : decode cX12_bring 118 = .ok (.iload_n 2, 1) := by decide +kernel
theorem dX12_bring_119 : decode cX12_bring 119 = .ok (.iconst 0, 1) := by decide +kernel
theorem dX12_bring_120 : decode cX12_bring 120 = .ok (.invokevirtual 140, 3) := by decide +kernel
theorem dX12_bring_123 : decode cX12_bring 123 = .ok (.aload_n 0, 1) := by decide +kernel
theorem dX12_bring_124 : decode cX12_bring 124 = .ok (.invokevirtual 73, 3) := by decide +kernel
theorem dX12_bring_127 : decode cX12_bring 127 = .ok (.iload 4, 2) := by decide +kernel
theorem dX12_bring_129 : decode cX12_bring 129 = .ok (.iadd, 1) := by decide +kernel
theorem dX12_bring_130 : decode cX12_bring 130 = .ok (.iconst 0, 1) := by decide +kernel
theorem dX12_bring_131 : decode cX12_bring 131 = .ok (.invokevirtual 143, 3) := by decide +kernel
theorem dX12_bring_134 : decode cX12_bring 134 = .ok (.ifCond .eq 7, 3) := by decide +kernel
theorem dX12_bring_137 : decode cX12_bring 137 = .ok (.iconst 1, 1) := by decide +kernel
theorem dX12_bring_138 : decode cX12_bring 138 = .ok (.goto 4, 3) := by decide +kernel
theorem dX12_bring_141 : decode cX12_bring 141 = .ok (.iconst 0, 1) := by decide +kernel
theorem dX12_bring_142 : decode cX12_bring 142 = .ok (.bastore, 1) := by decide +kernel
theorem dX12_bring_143 : decode cX12_bring 143 = .ok (.iinc 4 1, 3) := by decide +kernel
theorem dX12_bring_146 : decode cX12_bring 146 = .ok (.goto (-78), 3) := by decide +kernel
theorem dX12_bring_149 : decode cX12_bring 149 = .ok (.iinc 3 1, 3) := by decide +kernel
theorem dX12_bring_152 : decode cX12_bring 152 = .ok (.goto (-92), 3) := by decide +kernel
theorem dX12_bring_155 : decode cX12_bring 155 = .ok (.iinc 2 1, 3) := by decide +kernel
theorem dX12_bring_158 : decode cX12_bring 158 = .ok (.goto (-134), 3) := by decide +kernel
theorem dX12_bring_161 : decode cX12_bring 161 = .ok (.aload_n 0, 1) := by decide +kernel
theorem dX12_bring_162 : decode cX12_bring 162 = .ok (.iconst (-1), 1) := by decide +kernel
theorem dX12_bring_163 : decode cX12_bring 163 = .ok (.putfield 405, 3) := by decide +kernel
theorem dX12_bring_166 : decode cX12_bring 166 = .ok (.aload_n 0, 1) := by decide +kernel
theorem dX12_bring_167 : decode cX12_bring 167 = .ok (.iload_n 1, 1) := by decide +kernel
theorem dX12_bring_168 : decode cX12_bring 168 = .ok (.iconst 0, 1) := by decide +kernel
theorem dX12_bring_169 : decode cX12_bring 169 = .ok (.iconst 0, 1) := by decide +kernel
theorem dX12_bring_170 : decode cX12_bring 170 = .ok (.invokevirtual 408, 3) := by decide +kernel
theorem dX12_bring_173 : decode cX12_bring 173 = .ok (.aload_n 0, 1) := by decide +kernel
theorem dX12_bring_174 : decode cX12_bring 174 = .ok (.getfield 405, 3) := by decide +kernel
theorem dX12_bring_177 : decode cX12_bring 177 = .ok (.ireturn, 1) := by decide +kernel
noncomputable def o_X12_bring_68 (F : Nat) (l1 : Int32) (l2 : Int32) (l3 : Int32)  : Nat → Int32 → rs_S → Option (rs_S)
  | 0, _, _ => none
  | f + 1, l4, s => if (nI 72) < l4 then (some s) else (if iL l3 80 then ((o_X12_mayHave s (gR s 3 l3) l2).bind fun x10 => (if x10 = 0 then (if iL (((((nI 10) * l3) + l2) * (nI 73)) + l4) 2920 then (o_X12_bring_68 F l1 l2 l3 f (l4 + nI 1) (pR s 9 (((((nI 10) * l3) + l2) * (nI 73)) + l4) (vp_nar .boolean (nI 0)))) else none) else ((o_X12_of s (gR s 3 l3) (nI 4)).bind fun x13 => ((o_X12_berthOf s l2 (nI 0)).bind fun x14 => ((o_X12_hour s).bind fun x15 => ((o_X12_isSafe F s x13 x14 (x15 + l4) (nI 0)).bind fun x16 => (if x16 = 0 then (if iL (((((nI 10) * l3) + l2) * (nI 73)) + l4) 2920 then (o_X12_bring_68 F l1 l2 l3 f (l4 + nI 1) (pR s 9 (((((nI 10) * l3) + l2) * (nI 73)) + l4) (vp_nar .boolean (nI 0)))) else none) else (if iL (((((nI 10) * l3) + l2) * (nI 73)) + l4) 2920 then (o_X12_bring_68 F l1 l2 l3 f (l4 + nI 1) (pR s 9 (((((nI 10) * l3) + l2) * (nI 73)) + l4) (vp_nar .boolean (nI 1)))) else none)))))))) else none)
set_option maxHeartbeats 4000000 in
theorem t_X12_bring_68 {Γ : jg_G} {g : Nat → jg_C} {n r : Nat} (hr : r + 11 ≤ n) (F : Nat) (l1 : Int32) (l2 : Int32) (l3 : Int32)   (Q : jg_Q) {x : rs_S} (K1 : jg Γ mX12_bring 18 0 0 149 [some (.ref r), some (.int l1), some (.int l2), some (.int l3), none] [] (rs_h g r x, n) Q)  : ∀ (f : Nat) (l4 : Int32) (s : rs_S), o_X12_bring_68 F l1 l2 l3 f l4 s = some x → jg Γ mX12_bring 18 0 0 68 [some (.ref r), some (.int l1), some (.int l2), some (.int l3), some (.int l4)] [] (rs_h g r s, n) Q := by
  intro f
  induction f with
  | zero => intro l4 s h; rw [o_X12_bring_68] at h; cases h
  | succ f ih =>
   intro l4 s h
   rw [o_X12_bring_68] at h
   refine jg_iload dX12_bring_68 rfl ?_
   refine jg_bipush (v := nI 72) dX12_bring_70 (by decide) ?_
   refine jg_icmp_gt (x := l4) (y := (nI 72)) (tgt := 149) dX12_bring_72 (by decide) (fun c8 => ?_) (fun c8 => ?_)
   · replace h := it_t c8 h
     refine jg_fg (L' := [some (.ref r), some (.int l1), some (.int l2), some (.int l3), none]) (by repeat (first | exact trivial | refine ⟨rfl, ?_⟩ | show jg_le _ _)) ?_
     obtain rfl := Option.some.inj h
     exact K1
   · replace h := it_f c8 h
     refine jg_aload_n dX12_bring_75 rfl ?_
     refine rs_ga fl_X12_46 dX12_bring_76 hr rfl ?_
     refine jg_bipush (v := nI 10) dX12_bring_79 (by decide) ?_
     refine jg_iload_n dX12_bring_81 rfl ?_
     refine jg_imul (x := (nI 10)) (y := l3) dX12_bring_82  ?_
     refine jg_iload_n dX12_bring_83 rfl ?_
     refine jg_iadd (x := ((nI 10) * l3)) (y := l2) dX12_bring_84  ?_
     refine jg_bipush (v := nI 73) dX12_bring_85 (by decide) ?_
     refine jg_imul (x := (((nI 10) * l3) + l2)) (y := (nI 73)) dX12_bring_87  ?_
     refine jg_iload dX12_bring_88 rfl ?_
     refine jg_iadd (x := ((((nI 10) * l3) + l2) * (nI 73))) (y := l4) dX12_bring_90  ?_
     refine jg_aload_n dX12_bring_91 rfl ?_
     refine jg_aload_n dX12_bring_92 rfl ?_
     refine rs_ga fl_X12_23 dX12_bring_93 hr rfl ?_
     refine jg_iload_n dX12_bring_96 rfl ?_
     obtain ⟨q9, h⟩ := gd_some h
     refine rs_ldD (s := s) (i := l3) (j := 2) dX12_bring_97 hr (by decide) rfl q9 ?_
     refine jg_iload_n dX12_bring_98 rfl ?_
     obtain ⟨x10, e_x10, h⟩ := bd_some h
     refine rs_call (As := [.int (gR s 3 l3), .int l2]) kv_X12_180 dX12_bring_99 hr rfl rfl (by decide) (Nat.le_of_ble_eq_true rfl) rfl (by decide) (Nat.le_of_ble_eq_true rfl) (t_X12_mayHave hr s (gR s 3 l3) l2 e_x10) ?_
     refine jg_if_eq (x := x10) (tgt := 141) dX12_bring_102 (by decide) (fun c11 => ?_) (fun c11 => ?_)
     · replace h := it_t c11 h
       refine jg_iconst (v := nI 0) dX12_bring_141 (by decide) ?_
       obtain ⟨q12, h⟩ := gd_some h
       refine rs_szD (s := s) (i := (((((nI 10) * l3) + l2) * (nI 73)) + l4)) (x := (nI 0)) (j := 8) dX12_bring_142 hr (by decide) rfl q12 ?_
       refine jg_iinc (x := l4) (v := l4 + nI 1) (L' := [some (.ref r), some (.int l1), some (.int l2), some (.int l3), some (.int (l4 + nI 1))]) dX12_bring_143 rfl (ic_k _ (by decide)) (by decide) rfl ?_
       refine jg_goto (tgt := 68) dX12_bring_146 (by decide) ?_
       refine jg_fg (L' := [some (.ref r), some (.int l1), some (.int l2), some (.int l3), some (.int (l4 + nI 1))]) (by repeat (first | exact trivial | refine ⟨rfl, ?_⟩ | show jg_le _ _)) ?_
       exact ih (l4 + nI 1) (pR s 9 (((((nI 10) * l3) + l2) * (nI 73)) + l4) (vp_nar .boolean (nI 0))) h
     · replace h := it_f c11 h
       refine jg_aload_n dX12_bring_105 rfl ?_
       refine jg_aload_n dX12_bring_106 rfl ?_
       refine jg_aload_n dX12_bring_107 rfl ?_
       refine rs_ga fl_X12_23 dX12_bring_108 hr rfl ?_
       refine jg_iload_n dX12_bring_111 rfl ?_
       refine rs_ldD (s := s) (i := l3) (j := 2) dX12_bring_112 hr (by decide) rfl q9 ?_
       refine jg_iconst (v := nI 4) dX12_bring_113 (by decide) ?_
       obtain ⟨x13, e_x13, h⟩ := bd_some h
       refine rs_call (As := [.int (gR s 3 l3), .int (nI 4)]) kv_X12_137 dX12_bring_114 hr rfl rfl (by decide) (Nat.le_of_ble_eq_true rfl) rfl (by decide) (Nat.le_of_ble_eq_true rfl) (t_X12_of hr s (gR s 3 l3) (nI 4) e_x13) ?_
       refine jg_aload_n dX12_bring_117 rfl ?_
       refine jg_iload_n dX12_bring_118 rfl ?_
       refine jg_iconst (v := nI 0) dX12_bring_119 (by decide) ?_
       obtain ⟨x14, e_x14, h⟩ := bd_some h
       refine rs_call (As := [.int l2, .int (nI 0)]) kv_X12_140 dX12_bring_120 hr rfl rfl (by decide) (Nat.le_of_ble_eq_true rfl) rfl (by decide) (Nat.le_of_ble_eq_true rfl) (t_X12_berthOf hr s l2 (nI 0) e_x14) ?_
       refine jg_aload_n dX12_bring_123 rfl ?_
       obtain ⟨x15, e_x15, h⟩ := bd_some h
       refine rs_call (As := []) kv_X12_73 dX12_bring_124 hr rfl rfl (by decide) (Nat.le_of_ble_eq_true rfl) rfl (by decide) (Nat.le_of_ble_eq_true rfl) (t_X12_hour hr s e_x15) ?_
       refine jg_iload dX12_bring_127 rfl ?_
       refine jg_iadd (x := x15) (y := l4) dX12_bring_129  ?_
       refine jg_iconst (v := nI 0) dX12_bring_130 (by decide) ?_
       obtain ⟨x16, e_x16, h⟩ := bd_some h
       refine rs_call (As := [.int x13, .int x14, .int (x15 + l4), .int (nI 0)]) kv_X12_143 dX12_bring_131 hr rfl rfl (by decide) (Nat.le_of_ble_eq_true rfl) rfl (by decide) (Nat.le_of_ble_eq_true rfl) (t_X12_isSafe hr F s x13 x14 (x15 + l4) (nI 0) e_x16) ?_
       refine jg_if_eq (x := x16) (tgt := 141) dX12_bring_134 (by decide) (fun c17 => ?_) (fun c17 => ?_)
       · replace h := it_t c17 h
         refine jg_iconst (v := nI 0) dX12_bring_141 (by decide) ?_
         obtain ⟨q18, h⟩ := gd_some h
         refine rs_szD (s := s) (i := (((((nI 10) * l3) + l2) * (nI 73)) + l4)) (x := (nI 0)) (j := 8) dX12_bring_142 hr (by decide) rfl q18 ?_
         refine jg_iinc (x := l4) (v := l4 + nI 1) (L' := [some (.ref r), some (.int l1), some (.int l2), some (.int l3), some (.int (l4 + nI 1))]) dX12_bring_143 rfl (ic_k _ (by decide)) (by decide) rfl ?_
         refine jg_goto (tgt := 68) dX12_bring_146 (by decide) ?_
         refine jg_fg (L' := [some (.ref r), some (.int l1), some (.int l2), some (.int l3), some (.int (l4 + nI 1))]) (by repeat (first | exact trivial | refine ⟨rfl, ?_⟩ | show jg_le _ _)) ?_
         exact ih (l4 + nI 1) (pR s 9 (((((nI 10) * l3) + l2) * (nI 73)) + l4) (vp_nar .boolean (nI 0))) h
       · replace h := it_f c17 h
         refine jg_iconst (v := nI 1) dX12_bring_137 (by decide) ?_
         refine jg_goto (tgt := 142) dX12_bring_138 (by decide) ?_
         obtain ⟨q19, h⟩ := gd_some h
         refine rs_szD (s := s) (i := (((((nI 10) * l3) + l2) * (nI 73)) + l4)) (x := (nI 1)) (j := 8) dX12_bring_142 hr (by decide) rfl q19 ?_
         refine jg_iinc (x := l4) (v := l4 + nI 1) (L' := [some (.ref r), some (.int l1), some (.int l2), some (.int l3), some (.int (l4 + nI 1))]) dX12_bring_143 rfl (ic_k _ (by decide)) (by decide) rfl ?_
         refine jg_goto (tgt := 68) dX12_bring_146 (by decide) ?_
         refine jg_fg (L' := [some (.ref r), some (.int l1), some (.int l2), some (.int l3), some (.int (l4 + nI 1))]) (by repeat (first | exact trivial | refine ⟨rfl, ?_⟩ | show jg_le _ _)) ?_
         exact ih (l4 + nI 1) (pR s 9 (((((nI 10) * l3) + l2) * (nI 73)) + l4) (vp_nar .boolean (nI 1))) h
noncomputable def o_X12_bring_60 (F : Nat) (l1 : Int32) (l2 : Int32)  : Nat → Int32 → rs_S → Option (rs_S)
  | 0, _, _ => none
  | f + 1, l3, s => if l1 ≤ l3 then (some s) else ((o_X12_bring_68 F l1 l2 l3 F (nI 1) s).bind fun x20 => (o_X12_bring_60 F l1 l2 f (l3 + nI 1) x20))
set_option maxHeartbeats 4000000 in
theorem t_X12_bring_60 {Γ : jg_G} {g : Nat → jg_C} {n r : Nat} (hr : r + 11 ≤ n) (F : Nat) (l1 : Int32) (l2 : Int32)   (Q : jg_Q) {x : rs_S} (K1 : jg Γ mX12_bring 18 0 0 155 [some (.ref r), some (.int l1), some (.int l2), none, none] [] (rs_h g r x, n) Q)  : ∀ (f : Nat) (l3 : Int32) (s : rs_S), o_X12_bring_60 F l1 l2 f l3 s = some x → jg Γ mX12_bring 18 0 0 60 [some (.ref r), some (.int l1), some (.int l2), some (.int l3), none] [] (rs_h g r s, n) Q := by
  intro f
  induction f with
  | zero => intro l3 s h; rw [o_X12_bring_60] at h; cases h
  | succ f ih =>
   intro l3 s h
   rw [o_X12_bring_60] at h
   refine jg_iload_n dX12_bring_60 rfl ?_
   refine jg_iload_n dX12_bring_61 rfl ?_
   refine jg_icmp_ge (x := l3) (y := l1) (tgt := 155) dX12_bring_62 (by decide) (fun c7 => ?_) (fun c7 => ?_)
   · replace h := it_t c7 h
     refine jg_fg (L' := [some (.ref r), some (.int l1), some (.int l2), none, none]) (by repeat (first | exact trivial | refine ⟨rfl, ?_⟩ | show jg_le _ _)) ?_
     obtain rfl := Option.some.inj h
     exact K1
   · replace h := it_f c7 h
     refine jg_iconst (v := nI 1) dX12_bring_65 (by decide) ?_
     refine jg_istore (L' := [some (.ref r), some (.int l1), some (.int l2), some (.int l3), some (.int (nI 1))]) dX12_bring_66 (by decide) rfl ?_
     obtain ⟨x20, e_x20, h⟩ := bd_some h
     refine jg_fg (L' := [some (.ref r), some (.int l1), some (.int l2), some (.int l3), some (.int (nI 1))]) (by repeat (first | exact trivial | refine ⟨rfl, ?_⟩ | show jg_le _ _)) ?_
     refine t_X12_bring_68 hr F l1 l2 l3  _ (x := x20) ?_ F (nI 1) s e_x20
     refine jg_iinc (x := l3) (v := l3 + nI 1) (L' := [some (.ref r), some (.int l1), some (.int l2), some (.int (l3 + nI 1)), none]) dX12_bring_149 rfl (ic_k _ (by decide)) (by decide) rfl ?_
     refine jg_goto (tgt := 60) dX12_bring_152 (by decide) ?_
     refine jg_fg (L' := [some (.ref r), some (.int l1), some (.int l2), some (.int (l3 + nI 1)), none]) (by repeat (first | exact trivial | refine ⟨rfl, ?_⟩ | show jg_le _ _)) ?_
     exact ih (l3 + nI 1) x20 h
noncomputable def o_X12_bring_24 (F : Nat) (l1 : Int32)  : Nat → Int32 → rs_S → Option (rs_S)
  | 0, _, _ => none
  | f + 1, l2, s => if (gW s (nI 999)) ≤ l2 then (some s) else ((o_X12_berthOf s l2 (nI 6)).bind fun x4 => (if x4 < 0 then (if iL l2 10 then ((o_X12_bring_60 F l1 l2 F (nI 0) (pR s 8 l2 (nI 0))).bind fun x21 => (o_X12_bring_24 F l1 f (l2 + nI 1) x21)) else none) else (if iL l2 10 then ((o_X12_bring_60 F l1 l2 F (nI 0) (pR s 8 l2 (nI 24))).bind fun x23 => (o_X12_bring_24 F l1 f (l2 + nI 1) x23)) else none)))
set_option maxHeartbeats 4000000 in
theorem t_X12_bring_24 {Γ : jg_G} {g : Nat → jg_C} {n r : Nat} (hr : r + 11 ≤ n) (F : Nat) (l1 : Int32)   (Q : jg_Q) {x : rs_S} (K1 : jg Γ mX12_bring 18 0 0 161 [some (.ref r), some (.int l1), none, none, none] [] (rs_h g r x, n) Q)  : ∀ (f : Nat) (l2 : Int32) (s : rs_S), o_X12_bring_24 F l1 f l2 s = some x → jg Γ mX12_bring 18 0 0 24 [some (.ref r), some (.int l1), some (.int l2), none, none] [] (rs_h g r s, n) Q := by
  intro f
  induction f with
  | zero => intro l2 s h; rw [o_X12_bring_24] at h; cases h
  | succ f ih =>
   intro l2 s h
   rw [o_X12_bring_24] at h
   refine jg_iload_n dX12_bring_24 rfl ?_
   refine jg_aload_n dX12_bring_25 rfl ?_
   refine rs_ga fl_X12_13 dX12_bring_26 hr rfl ?_
   refine jg_sipush (v := nI 999) dX12_bring_29 (by decide) ?_
   refine rs_lwD (s := s) (i := (nI 999)) dX12_bring_32 hr (by decide) ?_
   refine jg_icmp_ge (x := l2) (y := (gW s (nI 999))) (tgt := 161) dX12_bring_33 (by decide) (fun c3 => ?_) (fun c3 => ?_)
   · replace h := it_t c3 h
     refine jg_fg (L' := [some (.ref r), some (.int l1), none, none, none]) (by repeat (first | exact trivial | refine ⟨rfl, ?_⟩ | show jg_le _ _)) ?_
     obtain rfl := Option.some.inj h
     exact K1
   · replace h := it_f c3 h
     refine jg_aload_n dX12_bring_36 rfl ?_
     refine rs_ga fl_X12_43 dX12_bring_37 hr rfl ?_
     refine jg_iload_n dX12_bring_40 rfl ?_
     refine jg_aload_n dX12_bring_41 rfl ?_
     refine jg_iload_n dX12_bring_42 rfl ?_
     refine jg_bipush (v := nI 6) dX12_bring_43 (by decide) ?_
     obtain ⟨x4, e_x4, h⟩ := bd_some h
     refine rs_call (As := [.int l2, .int (nI 6)]) kv_X12_140 dX12_bring_45 hr rfl rfl (by decide) (Nat.le_of_ble_eq_true rfl) rfl (by decide) (Nat.le_of_ble_eq_true rfl) (t_X12_berthOf hr s l2 (nI 6) e_x4) ?_
     refine jg_if_lt (x := x4) (tgt := 56) dX12_bring_48 (by decide) (fun c5 => ?_) (fun c5 => ?_)
     · replace h := it_t c5 h
       refine jg_iconst (v := nI 0) dX12_bring_56 (by decide) ?_
       obtain ⟨q6, h⟩ := gd_some h
       refine rs_stD (s := s) (i := l2) (x := (nI 0)) (j := 7) dX12_bring_57 hr (by decide) rfl q6 ?_
       refine jg_iconst (v := nI 0) dX12_bring_58 (by decide) ?_
       refine jg_istore_n (L' := [some (.ref r), some (.int l1), some (.int l2), some (.int (nI 0)), none]) dX12_bring_59 (by decide) rfl ?_
       obtain ⟨x21, e_x21, h⟩ := bd_some h
       refine jg_fg (L' := [some (.ref r), some (.int l1), some (.int l2), some (.int (nI 0)), none]) (by repeat (first | exact trivial | refine ⟨rfl, ?_⟩ | show jg_le _ _)) ?_
       refine t_X12_bring_60 hr F l1 l2  _ (x := x21) ?_ F (nI 0) (pR s 8 l2 (nI 0)) e_x21
       refine jg_iinc (x := l2) (v := l2 + nI 1) (L' := [some (.ref r), some (.int l1), some (.int (l2 + nI 1)), none, none]) dX12_bring_155 rfl (ic_k _ (by decide)) (by decide) rfl ?_
       refine jg_goto (tgt := 24) dX12_bring_158 (by decide) ?_
       refine jg_fg (L' := [some (.ref r), some (.int l1), some (.int (l2 + nI 1)), none, none]) (by repeat (first | exact trivial | refine ⟨rfl, ?_⟩ | show jg_le _ _)) ?_
       exact ih (l2 + nI 1) x21 h
     · replace h := it_f c5 h
       refine jg_bipush (v := nI 24) dX12_bring_51 (by decide) ?_
       refine jg_goto (tgt := 57) dX12_bring_53 (by decide) ?_
       obtain ⟨q22, h⟩ := gd_some h
       refine rs_stD (s := s) (i := l2) (x := (nI 24)) (j := 7) dX12_bring_57 hr (by decide) rfl q22 ?_
       refine jg_iconst (v := nI 0) dX12_bring_58 (by decide) ?_
       refine jg_istore_n (L' := [some (.ref r), some (.int l1), some (.int l2), some (.int (nI 0)), none]) dX12_bring_59 (by decide) rfl ?_
       obtain ⟨x23, e_x23, h⟩ := bd_some h
       refine jg_fg (L' := [some (.ref r), some (.int l1), some (.int l2), some (.int (nI 0)), none]) (by repeat (first | exact trivial | refine ⟨rfl, ?_⟩ | show jg_le _ _)) ?_
       refine t_X12_bring_60 hr F l1 l2  _ (x := x23) ?_ F (nI 0) (pR s 8 l2 (nI 24)) e_x23
       refine jg_iinc (x := l2) (v := l2 + nI 1) (L' := [some (.ref r), some (.int l1), some (.int (l2 + nI 1)), none, none]) dX12_bring_155 rfl (ic_k _ (by decide)) (by decide) rfl ?_
       refine jg_goto (tgt := 24) dX12_bring_158 (by decide) ?_
       refine jg_fg (L' := [some (.ref r), some (.int l1), some (.int (l2 + nI 1)), none, none]) (by repeat (first | exact trivial | refine ⟨rfl, ?_⟩ | show jg_le _ _)) ?_
       exact ih (l2 + nI 1) x23 h
noncomputable def o_X12_bring (F : Nat) (s : rs_S) : Option (Int32 × rs_S) := (o_X12_lines F (pN s 0 (nI 0))).bind fun x1 => ((o_X12_looks F x1).bind fun x2 => ((o_X12_bring_24 F (mni (nI 4) (x2.1 6)) F (nI 0) x2).bind fun x24 => ((o_brB F (pN x24 22 (-1)) (mni (nI 4) (x2.1 6)) (nI 0) (nI 0)).bind fun x25 => (some (x25.1 22, x25)))))
set_option maxHeartbeats 4000000 in
theorem t_X12_bring {Γ : jg_G} {g : Nat → jg_C} {n r : Nat} (hr : r + 11 ≤ n) (F : Nat) (s : rs_S)  {x : Int32 × rs_S} (h : o_X12_bring F s = some x) : jc Γ mX12_bring 18 0 0 [some (.ref r), none, none, none, none] (rs_h g r s, n) (.inl (some (.int x.1))) (rs_h g r x.2, n) := by
  refine jc_of ?_
  rw [o_X12_bring] at h
  refine jg_aload_n dX12_bring_0 rfl ?_
  refine jg_iconst (v := nI 0) dX12_bring_1 (by decide) ?_
  refine rs_putD (s := s) (k := 0) (x := (nI 0)) fl_X12_3 dX12_bring_2 hr (by decide) (rfl) rfl rfl ?_
  refine jg_aload_n dX12_bring_5 rfl ?_
  obtain ⟨x1, e_x1, h⟩ := bd_some h
  refine rs_call (As := []) kv_X12_187 dX12_bring_6 hr rfl rfl (by decide) (Nat.le_of_ble_eq_true rfl) rfl (by decide) (Nat.le_of_ble_eq_true rfl) (t_X12_lines hr F (pN s 0 (nI 0)) e_x1) ?_
  refine jg_aload_n dX12_bring_9 rfl ?_
  obtain ⟨x2, e_x2, h⟩ := bd_some h
  refine rs_call (As := []) kv_X12_134 dX12_bring_10 hr rfl rfl (by decide) (Nat.le_of_ble_eq_true rfl) rfl (by decide) (Nat.le_of_ble_eq_true rfl) (t_X12_looks hr F x1 e_x2) ?_
  refine jg_iconst (v := nI 4) dX12_bring_13 (by decide) ?_
  refine jg_aload_n dX12_bring_14 rfl ?_
  refine rs_ga fl_X12_150 dX12_bring_15 hr rfl ?_
  refine jg_mmin (x := (nI 4)) (y := (x2.1 6)) km_X12_91 jw_min.1 jw_min.2 dX12_bring_18 (by decide) (Nat.le_of_ble_eq_true rfl) ?_
  refine jg_istore_n (L' := [some (.ref r), some (.int (mni (nI 4) (x2.1 6))), none, none, none]) dX12_bring_21 (by decide) rfl ?_
  refine jg_iconst (v := nI 0) dX12_bring_22 (by decide) ?_
  refine jg_istore_n (L' := [some (.ref r), some (.int (mni (nI 4) (x2.1 6))), some (.int (nI 0)), none, none]) dX12_bring_23 (by decide) rfl ?_
  obtain ⟨x24, e_x24, h⟩ := bd_some h
  refine jg_fg (L' := [some (.ref r), some (.int (mni (nI 4) (x2.1 6))), some (.int (nI 0)), none, none]) (by repeat (first | exact trivial | refine ⟨rfl, ?_⟩ | show jg_le _ _)) ?_
  refine t_X12_bring_24 hr F (mni (nI 4) (x2.1 6))  _ (x := x24) ?_ F (nI 0) x2 e_x24
  refine jg_aload_n dX12_bring_161 rfl ?_
  refine jg_iconst (v := (-1)) dX12_bring_162 (by decide) ?_
  refine rs_putD (s := x24) (k := 22) (x := (-1)) fl_X12_405 dX12_bring_163 hr (by decide) (rfl) rfl rfl ?_
  refine jg_aload_n dX12_bring_166 rfl ?_
  refine jg_iload_n dX12_bring_167 rfl ?_
  refine jg_iconst (v := nI 0) dX12_bring_168 (by decide) ?_
  refine jg_iconst (v := nI 0) dX12_bring_169 (by decide) ?_
  obtain ⟨x25, e_x25, h⟩ := bd_some h
  refine rs_call (As := [.int (mni (nI 4) (x2.1 6)), .int (nI 0), .int (nI 0)]) kv_X12_408 dX12_bring_170 hr rfl rfl (by decide) (Nat.le_of_ble_eq_true rfl) rfl (by decide) (Nat.le_of_ble_eq_true rfl) (t_brB hr F (pN x24 22 (-1)) (mni (nI 4) (x2.1 6)) (nI 0) (nI 0) e_x25) ?_
  refine jg_aload_n dX12_bring_173 rfl ?_
  refine rs_ga fl_X12_405 dX12_bring_174 hr rfl ?_
  obtain rfl := Option.some.inj h
  exact jg_ireturn dX12_bring_177 rfl ⟨rfl, rfl⟩
