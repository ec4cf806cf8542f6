theorem dX12_close_0 : decode cX12_close 0 = .ok (.aload_n 0, 1) := by decide +kernel
theorem dX12_close_1 : decode cX12_close 1 = .ok (.iconst 0, 1) := by decide +kernel
theorem dX12_close_2 : decode cX12_close 2 = .ok (.putfield 3, 3) := by decide +kernel
theorem dX12_close_5 : decode cX12_close 5 = .ok (.aload_n 0, 1) := by decide +kernel
theorem dX12_close_6 : decode cX12_close 6 = .ok (.aload_n 0, 1) := by decide +kernel
theorem dX12_close_7 : decode cX12_close 7 = .ok (.getfield 13, 3) := by decide +kernel
theorem dX12_close_10 : decode cX12_close 10 = .ok (.sipush 2661, 3) := by decide +kernel
theorem dX12_close_13 : decode cX12_close 13 = .ok (.iaload, 1) := by decide +kernel
theorem dX12_close_14 : decode cX12_close 14 = .ok (.ifCond .ne 7, 3) := by decide +kernel
theorem dX12_close_17 : decode cX12_close 17 = .ok (.iconst 1, 1) := by decide +kernel
theorem dX12_close_18 : decode cX12_close 18 = .ok (.goto 4, 3) := by decide +kernel
theorem dX12_close_21 : decode cX12_close 21 = .ok (.iconst 0, 1) := by decide +kernel
theorem dX12_close_22 : decode cX12_close 22 = .ok (.iconst 1, 1) := by decide +kernel
theorem dX12_close_23 : decode cX12_close 23 = .ok (.invokevirtual 69, 3) := by decide +kernel
theorem dX12_close_26 : decode cX12_close 26 = .ok (.ifCond .eq 5, 3) := by decide +kernel
theorem dX12_close_29 : decode cX12_close 29 = .ok (.iconst 0, 1) := by decide +kernel
theorem dX12_close_30 : decode cX12_close 30 = .ok (.ireturn, 1) := by decide +kernel
theorem dX12_close_31 : decode cX12_close 31 = .ok (.aload_n 0, 1) := by decide +kernel
theorem dX12_close_32 : decode cX12_close 32 = .ok (.getfield 13, 3) := by decide +kernel
theorem dX12_close_35 : decode cX12_close 35 = .ok (.sipush 2661, 3) := by decide +kernel
theorem dX12_close_38 : decode cX12_close 38 = .ok (.iconst 0, 1) := by decide +kernel
theorem dX12_close_39 : decode cX12_close 39 = .ok (.iastore, 1) := by decide +kernel
theorem dX12_close_40 : decode cX12_close 40 = .ok (.aload_n 0, 1) := by decide +kernel
theorem dX12_close_41 : decode cX12_close 41 = .ok (.getfield 13, 3) := by decide +kernel
theorem dX12_close_44 : decode cX12_close 44 = .ok (.sipush 2663, 3) := by decide +kernel
theorem dX12_close_47 : decode cX12_close 47 = .ok (.iaload, 1) := by decide +kernel
theorem dX12_close_48 : decode cX12_close 48 = .ok (.i2l, 1) := by decide +kernel
theorem dX12_close_49 : decode cX12_close 49 = .ok (.ldc2_w 380, 3) := by decide +kernel
theorem dX12_close_52 : decode cX12_close 52 = .ok (.lmul, 1) := by decide +kernel
theorem dX12_close_53 : decode cX12_close 53 = .ok (.aload_n 0, 1) := by decide +kernel
theorem dX12_close_54 : decode cX12_close 54 = .ok (.bipush 6, 2) := by decide +kernel
theorem dX12_close_56 : decode cX12_close 56 = .ok (.bipush 50, 2) := by decide +kernel
theorem dX12_close_58 : decode cX12_close 58 = .ok (.invokevirtual 147, 3) := by decide +kernel
theorem dX12_close_61 : decode cX12_close 61 = .ok (.i2l, 1) := by decide +kernel
theorem dX12_close_62 : decode cX12_close 62 = .ok (.aload_n 0, 1) := by decide +kernel
theorem dX12_close_63 : decode cX12_close 63 = .ok (.getfield 13, 3) := by decide +kernel
theorem dX12_close_66 : decode cX12_close 66 = .ok (.sipush 2664, 3) := by decide +kernel
theorem dX12_close_69 : decode cX12_close 69 = .ok (.iaload, 1) := by decide +kernel
theorem dX12_close_70 : decode cX12_close 70 = .ok (.i2l, 1) := by decide +kernel
theorem dX12_close_71 : decode cX12_close 71 = .ok (.lmul, 1) := by decide +kernel
theorem dX12_close_72 : decode cX12_close 72 = .ok (.lcmp, 1) := by decide +kernel
theorem dX12_close_73 : decode cX12_close 73 = .ok (.ifCond .le 16, 3) := by decide +kernel
theorem dX12_close_76 : decode cX12_close 76 = .ok (.aload_n 0, 1) := by decide +kernel
theorem dX12_close_77 : decode cX12_close 77 = .ok (.getfield 13, 3) := by decide +kernel
theorem dX12_close_80 : decode cX12_close 80 = .ok (.sipush 2811, 3) := by decide +kernel
theorem dX12_close_83 : decode cX12_close 83 = .ok (.iaload, 1) := by decide +kernel
theorem dX12_close_84 : decode cX12_close 84 = .ok (.bipush 20, 2) := by decide +kernel
theorem dX12_close_86 : decode cX12_close 86 = .ok (.if_icmp .ne 5, 3) := by decide +kernel
theorem dX12_close_89 : decode cX12_close 89 = .ok (.iconst 0, 1) := by decide +kernel
theorem dX12_close_90 : decode cX12_close 90 = .ok (.ireturn, 1) := by decide +kernel
theorem dX12_close_91 : decode cX12_close 91 = .ok (.aload_n 0, 1) := by decide +kernel
theorem dX12_close_92 : decode cX12_close 92 = .ok (.bipush 20, 2) := by decide +kernel
theorem dX12_close_94 : decode cX12_close 94 = .ok (.aload_n 0, 1) := by decide +kernel
theorem dX12_close_95 : decode cX12_close 95 = .ok (.getfield 13, 3) := by decide +kernel
theorem dX12_close_98 : decode cX12_close 98 = .ok (.sipush 2811, 3) := by decide +kernel
theorem dX12_close_101 : decode cX12_close 101 = .ok (.iaload, 1) := by decide +kernel
theorem dX12_close_102 : decode cX12_close 102 = .ok (.aload_n 0, 1) := by decide +kernel
theorem dX12_close_103 : decode cX12_close 103 = .ok (.getfield 13, 3) := by decide +kernel
theorem dX12_close_106 : decode cX12_close 106 = .ok (.sipush 2662, 3) := by decide +kernel
theorem dX12_close_109 : decode cX12_close 109 = .ok (.iaload, 1) := by decide +kernel
theorem dX12_close_110 : decode cX12_close 110 = .ok (.aload_n 0, 1) := by decide +kernel
theorem dX12_close_111 : decode cX12_close 111 = .ok (.invokevirtual 77, 3) := by decide +kernel
theorem dX12_close_114 : decode cX12_close 114 = .ok (.invokestatic 88, 3) := by decide +kernel
theorem dX12_close_117 : decode cX12_close 117 = .ok (.invokevirtual 353, 3) := by decide +kernel
theorem dX12_close_120 : decode cX12_close 120 = .ok (.aload_n 0, 1) := by decide +kernel
theorem dX12_close_121 : decode cX12_close 121 = .ok (.getfield 13, 3) := by decide +kernel
theorem dX12_close_124 : decode cX12_close 124 = .ok (.sipush 2811, 3) := by decide +kernel
theorem dX12_close_127 : decode cX12_close 127 = .ok (.dup2, 1) := by decide +kernel
theorem dX12_close_128 : decode cX12_close 128 = .ok (.iaload, 1) := by decide +kernel
theorem dX12_close_129 : decode cX12_close 129 = .ok (.iconst 1, 1) := by decide +kernel
theorem dX12_close_130 : decode cX12_close 130 = .ok (.iadd, 1) := by decide +kernel
theorem dX12_close_131 : decode cX12_close 131 = .ok (.iastore, 1) := by decide +kernel
theorem dX12_close_132 : decode cX12_close 132 = .ok (.iconst 1, 1) := by decide +kernel
theorem dX12_close_133 : decode cX12_close 133 = .ok (.ireturn, 1) := by decide +kernel
noncomputable def o_X12_close (F : Nat) (s : rs_S) : Option (Int32 × rs_S) := if (gW (pN s 0 (nI 0)) (nI 2661)) = 0 then (some (nI 0, pN (pN s 0 (nI 0)) 0 (nI 1))) else ((o_X12_lastOf F (pW (pN s 0 (nI 0)) (nI 2661) (nI 0)) (nI 6) (nI 50)).bind fun x2 => (if (lg_cmp (((gW (pW (pN s 0 (nI 0)) (nI 2661) (nI 0)) (nI 2663)).toInt64) * 100) (x2.toInt64 * ((gW (pW (pN s 0 (nI 0)) (nI 2661) (nI 0)) (nI 2664)).toInt64))) ≤ 0 then (some (nI 0, pW (pN s 0 (nI 0)) (nI 2661) (nI 0))) else (if (gW (pW (pN s 0 (nI 0)) (nI 2661) (nI 0)) (nI 2811)) = (nI 20) then (some (nI 0, pW (pN s 0 (nI 0)) (nI 2661) (nI 0))) else ((o_X12_today (pW (pN s 0 (nI 0)) (nI 2661) (nI 0))).bind fun x5 => ((o_X12_copies F (pW (pN s 0 (nI 0)) (nI 2661) (nI 0)) (nI 20) (gW (pW (pN s 0 (nI 0)) (nI 2661) (nI 0)) (nI 2811)) (mxi (gW (pW (pN s 0 (nI 0)) (nI 2661) (nI 0)) (nI 2662)) x5)).bind fun x6 => (some (nI 1, pW x6 (nI 2811) ((gW x6 (nI 2811)) + (nI 1)))))))))
set_option maxHeartbeats 4000000 in
theorem t_X12_close {Γ : jg_G} {g : Nat → jg_C} {n r : Nat} (hr : r + 11 ≤ n) (F : Nat) (s : rs_S)  {x : Int32 × rs_S} (h : o_X12_close F s = some x) : jc Γ mX12_close 3 0 0 [some (.ref r)] (rs_h g r s, n) (.inl (some (.int x.1))) (rs_h g r x.2, n) := by
  refine jc_of ?_
  rw [o_X12_close] at h
  refine jg_aload_n dX12_close_0 rfl ?_
  refine jg_iconst (v := nI 0) dX12_close_1 (by decide) ?_
  refine rs_putD (s := s) (k := 0) (x := (nI 0)) fl_X12_3 dX12_close_2 hr (by decide) (rfl) rfl rfl ?_
  refine jg_aload_n dX12_close_5 rfl ?_
  refine jg_aload_n dX12_close_6 rfl ?_
  refine rs_ga fl_X12_13 dX12_close_7 hr rfl ?_
  refine jg_sipush (v := nI 2661) dX12_close_10 (by decide) ?_
  refine rs_lwD (s := (pN s 0 (nI 0))) (i := (nI 2661)) dX12_close_13 hr (by decide) ?_
  refine jg_if_ne (x := (gW (pN s 0 (nI 0)) (nI 2661))) (tgt := 21) dX12_close_14 (by decide) (fun c1 => ?_) (fun c1 => ?_)
  · replace h := it_f c1 h
    refine jg_iconst (v := nI 0) dX12_close_21 (by decide) ?_
    refine jg_iconst (v := nI 1) dX12_close_22 (by decide) ?_
    refine rs_call (As := [.int (nI 0), .int (nI 1)]) kv_X12_69 dX12_close_23 hr rfl rfl (by decide) (Nat.le_of_ble_eq_true rfl) rfl (by decide) (Nat.le_of_ble_eq_true rfl) (t_X12_throwsIf hr (pN s 0 (nI 0)) (nI 0) (nI 1) (o_thr0 (pN s 0 (nI 0)) (nI 1))) ?_
    refine jg_if_eq (x := (nI 0)) (tgt := 31) dX12_close_26 (by decide) (fun _ => ?_) (fun q9 => absurd q9 (by decide))
    refine jg_aload_n dX12_close_31 rfl ?_
    refine rs_ga fl_X12_13 dX12_close_32 hr rfl ?_
    refine jg_sipush (v := nI 2661) dX12_close_35 (by decide) ?_
    refine jg_iconst (v := nI 0) dX12_close_38 (by decide) ?_
    refine rs_swD (s := (pN s 0 (nI 0))) (i := (nI 2661)) (x := (nI 0)) dX12_close_39 hr (by decide) ?_
    refine jg_aload_n dX12_close_40 rfl ?_
    refine rs_ga fl_X12_13 dX12_close_41 hr rfl ?_
    refine jg_sipush (v := nI 2663) dX12_close_44 (by decide) ?_
    refine rs_lwD (s := (pW (pN s 0 (nI 0)) (nI 2661) (nI 0))) (i := (nI 2663)) dX12_close_47 hr (by decide) ?_
    refine jg_i2l dX12_close_48 ?_
    refine jg_ldc2 kk_X12_380 dX12_close_49 ?_
    refine jg_lmul dX12_close_52 ?_
    refine jg_aload_n dX12_close_53 rfl ?_
    refine jg_bipush (v := nI 6) dX12_close_54 (by decide) ?_
    refine jg_bipush (v := nI 50) dX12_close_56 (by decide) ?_
    obtain ⟨x2, e_x2, h⟩ := bd_some h
    refine rs_call (As := [.int (nI 6), .int (nI 50)]) kv_X12_147 dX12_close_58 hr rfl rfl (by decide) (Nat.le_of_ble_eq_true rfl) rfl (by decide) (Nat.le_of_ble_eq_true rfl) (t_X12_lastOf hr F (pW (pN s 0 (nI 0)) (nI 2661) (nI 0)) (nI 6) (nI 50) e_x2) ?_
    refine jg_i2l dX12_close_61 ?_
    refine jg_aload_n dX12_close_62 rfl ?_
    refine rs_ga fl_X12_13 dX12_close_63 hr rfl ?_
    refine jg_sipush (v := nI 2664) dX12_close_66 (by decide) ?_
    refine rs_lwD (s := (pW (pN s 0 (nI 0)) (nI 2661) (nI 0))) (i := (nI 2664)) dX12_close_69 hr (by decide) ?_
    refine jg_i2l dX12_close_70 ?_
    refine jg_lmul dX12_close_71 ?_
    refine jg_lcmp dX12_close_72 ?_
    refine jg_if_le (x := (lg_cmp (((gW (pW (pN s 0 (nI 0)) (nI 2661) (nI 0)) (nI 2663)).toInt64) * 100) (x2.toInt64 * ((gW (pW (pN s 0 (nI 0)) (nI 2661) (nI 0)) (nI 2664)).toInt64)))) (tgt := 89) dX12_close_73 (by decide) (fun c3 => ?_) (fun c3 => ?_)
    · replace h := it_t c3 h
      refine jg_iconst (v := nI 0) dX12_close_89 (by decide) ?_
      obtain rfl := Option.some.inj h
      exact jg_zreturn dX12_close_90 rfl (rfl) ⟨rfl, rfl⟩
    · replace h := it_f c3 h
      refine jg_aload_n dX12_close_76 rfl ?_
      refine rs_ga fl_X12_13 dX12_close_77 hr rfl ?_
      refine jg_sipush (v := nI 2811) dX12_close_80 (by decide) ?_
      refine rs_lwD (s := (pW (pN s 0 (nI 0)) (nI 2661) (nI 0))) (i := (nI 2811)) dX12_close_83 hr (by decide) ?_
      refine jg_bipush (v := nI 20) dX12_close_84 (by decide) ?_
      refine jg_icmp_ne (x := (gW (pW (pN s 0 (nI 0)) (nI 2661) (nI 0)) (nI 2811))) (y := (nI 20)) (tgt := 91) dX12_close_86 (by decide) (fun c4 => ?_) (fun c4 => ?_)
      · replace h := it_f c4 h
        refine jg_aload_n dX12_close_91 rfl ?_
        refine jg_bipush (v := nI 20) dX12_close_92 (by decide) ?_
        refine jg_aload_n dX12_close_94 rfl ?_
        refine rs_ga fl_X12_13 dX12_close_95 hr rfl ?_
        refine jg_sipush (v := nI 2811) dX12_close_98 (by decide) ?_
        refine rs_lwD (s := (pW (pN s 0 (nI 0)) (nI 2661) (nI 0))) (i := (nI 2811)) dX12_close_101 hr (by decide) ?_
        refine jg_aload_n dX12_close_102 rfl ?_
        refine rs_ga fl_X12_13 dX12_close_103 hr rfl ?_
        refine jg_sipush (v := nI 2662) dX12_close_106 (by decide) ?_
        refine rs_lwD (s := (pW (pN s 0 (nI 0)) (nI 2661) (nI 0))) (i := (nI 2662)) dX12_close_109 hr (by decide) ?_
        refine jg_aload_n dX12_close_110 rfl ?_
        obtain ⟨x5, e_x5, h⟩ := bd_some h
        refine rs_call (As := []) kv_X12_77 dX12_close_111 hr rfl rfl (by decide) (Nat.le_of_ble_eq_true rfl) rfl (by decide) (Nat.le_of_ble_eq_true rfl) (t_X12_today hr (pW (pN s 0 (nI 0)) (nI 2661) (nI 0)) e_x5) ?_
        refine jg_mmax (x := (gW (pW (pN s 0 (nI 0)) (nI 2661) (nI 0)) (nI 2662))) (y := x5) km_X12_88 jw_max.1 jw_max.2 dX12_close_114 (by decide) (Nat.le_of_ble_eq_true rfl) ?_
        obtain ⟨x6, e_x6, h⟩ := bd_some h
        refine rs_call (As := [.int (nI 20), .int (gW (pW (pN s 0 (nI 0)) (nI 2661) (nI 0)) (nI 2811)), .int (mxi (gW (pW (pN s 0 (nI 0)) (nI 2661) (nI 0)) (nI 2662)) x5)]) kv_X12_353 dX12_close_117 hr rfl rfl (by decide) (Nat.le_of_ble_eq_true rfl) rfl (by decide) (Nat.le_of_ble_eq_true rfl) (t_X12_copies hr F (pW (pN s 0 (nI 0)) (nI 2661) (nI 0)) (nI 20) (gW (pW (pN s 0 (nI 0)) (nI 2661) (nI 0)) (nI 2811)) (mxi (gW (pW (pN s 0 (nI 0)) (nI 2661) (nI 0)) (nI 2662)) x5) e_x6) ?_
        refine jg_aload_n dX12_close_120 rfl ?_
        refine rs_ga fl_X12_13 dX12_close_121 hr rfl ?_
        refine jg_sipush (v := nI 2811) dX12_close_124 (by decide) ?_
        refine jg_dup2 dX12_close_127 rfl rfl ?_
        refine rs_lwD (s := x6) (i := (nI 2811)) dX12_close_128 hr (by decide) ?_
        refine jg_iconst (v := nI 1) dX12_close_129 (by decide) ?_
        refine jg_iadd (x := (gW x6 (nI 2811))) (y := (nI 1)) dX12_close_130  ?_
        refine rs_swD (s := x6) (i := (nI 2811)) (x := ((gW x6 (nI 2811)) + (nI 1))) dX12_close_131 hr (by decide) ?_
        refine jg_iconst (v := nI 1) dX12_close_132 (by decide) ?_
        obtain rfl := Option.some.inj h
        exact jg_zreturn dX12_close_133 rfl (rfl) ⟨rfl, rfl⟩
      · replace h := it_t c4 h
        refine jg_iconst (v := nI 0) dX12_close_89 (by decide) ?_
        obtain rfl := Option.some.inj h
        exact jg_zreturn dX12_close_90 rfl (rfl) ⟨rfl, rfl⟩
  · replace h := it_t c1 h
    refine jg_iconst (v := nI 1) dX12_close_17 (by decide) ?_
    refine jg_goto (tgt := 22) dX12_close_18 (by decide) ?_
    refine jg_iconst (v := nI 1) dX12_close_22 (by decide) ?_
    refine rs_call (As := [.int (nI 1), .int (nI 1)]) kv_X12_69 dX12_close_23 hr rfl rfl (by decide) (Nat.le_of_ble_eq_true rfl) rfl (by decide) (Nat.le_of_ble_eq_true rfl) (t_X12_throwsIf hr (pN s 0 (nI 0)) (nI 1) (nI 1) (o_thr1 (pN s 0 (nI 0)) (nI 1))) ?_
    refine jg_if_eq (x := (nI 1)) (tgt := 31) dX12_close_26 (by decide) (fun q9 => absurd q9 (by decide)) (fun _ => ?_)
    refine jg_iconst (v := nI 0) dX12_close_29 (by decide) ?_
    obtain rfl := Option.some.inj h
    exact jg_zreturn dX12_close_30 rfl (rfl) ⟨rfl, rfl⟩
theorem dX12_pays_0 : decode cX12_pays 0 = .ok (.aload_n 0, 1) := by decide +kernel
theorem dX12_pays_1 : decode cX12_pays 1 = .ok (.iconst 0, 1) := by decide +kernel
theorem dX12_pays_2 : decode cX12_pays 2 = .ok (.putfield 3, 3) := by decide +kernel
theorem dX12_pays_5 : decode cX12_pays 5 = .ok (.aload_n 0, 1) := by decide +kernel
theorem dX12_pays_6 : decode cX12_pays 6 = .ok (.aload_n 0, 1) := by decide +kernel
theorem dX12_pays_7 : decode cX12_pays 7 = .ok (.iload_n 1, 1) := by decide +kernel
theorem dX12_pays_8 : decode cX12_pays 8 = .ok (.invokevirtual 107, 3) := by decide +kernel
theorem dX12_pays_11 : decode cX12_pays 11 = .ok (.iconst 1, 1) := by decide +kernel
theorem dX12_pays_12 : decode cX12_pays 12 = .ok (.invokevirtual 69, 3) := by decide +kernel
theorem dX12_pays_15 : decode cX12_pays 15 = .ok (.ifCond .eq 5, 3) := by decide +kernel
theorem dX12_pays_18 : decode cX12_pays 18 = .ok (.iconst 0, 1) := by decide +kernel
theorem dX12_pays_19 : decode cX12_pays 19 = .ok (.ireturn, 1) := by decide +kernel
theorem dX12_pays_20 : decode cX12_pays 20 = .ok (.iconst 0, 1) := by decide +kernel
theorem dX12_pays_21 : decode cX12_pays 21 = .ok (.istore_n 3, 1) := by decide +kernel
theorem dX12_pays_22 : decode cX12_pays 22 = .ok (.iload_n 2, 1) := by decide +kernel
theorem dX12_pays_23 : decode cX12_pays 23 = .ok (.tableswitch 115 0 4 #[33, 44, 55, 61, 104], 33) := by decide +kernel
theorem dX12_pays_56 : decode cX12_pays 56 = .ok (.aload_n 0, 1) := by decide +kernel
theorem dX12_pays_57 : decode cX12_pays 57 = .ok (.getfield 13, 3) := by decide +kernel
theorem dX12_pays_60 : decode cX12_pays 60 = .ok (.iload_n 1, 1) := by decide +kernel
theorem dX12_pays_61 : decode cX12_pays 61 = .ok (.iconst 0, 1) := by decide +kernel
theorem dX12_pays_62 : decode cX12_pays 62 = .ok (.invokestatic 170, 3) := by decide +kernel
theorem dX12_pays_65 : decode cX12_pays 65 = .ok (.iaload, 1) := by decide +kernel
theorem dX12_pays_66 : decode cX12_pays 66 = .ok (.ireturn, 1) := by decide +kernel
theorem dX12_pays_67 : decode cX12_pays 67 = .ok (.aload_n 0, 1) := by decide +kernel
theorem dX12_pays_68 : decode cX12_pays 68 = .ok (.getfield 13, 3) := by decide +kernel
theorem dX12_pays_71 : decode cX12_pays 71 = .ok (.iload_n 1, 1) := by decide +kernel
theorem dX12_pays_72 : decode cX12_pays 72 = .ok (.iconst 1, 1) := by decide +kernel
theorem dX12_pays_73 : decode cX12_pays 73 = .ok (.invokestatic 170, 3) := by decide +kernel
theorem dX12_pays_76 : decode cX12_pays 76 = .ok (.iaload, 1) := by decide +kernel
theorem dX12_pays_77 : decode cX12_pays 77 = .ok (.ireturn, 1) := by decide +kernel
theorem dX12_pays_78 : decode cX12_pays 78 = .ok (.aload_n 0, 1) := by decide +kernel
theorem dX12_pays_79 : decode cX12_pays 79 = .ok (.iload_n 1, 1) := by decide +kernel
theorem dX12_pays_80 : decode cX12_pays 80 = .ok (.invokevirtual 385, 3) := by decide +kernel
theorem dX12_pays_83 : decode cX12_pays 83 = .ok (.ireturn, 1) := by decide +kernel
theorem dX12_pays_84 : decode cX12_pays 84 = .ok (.iconst 0, 1) := by decide +kernel
theorem dX12_pays_85 : decode cX12_pays 85 = .ok (.istore 4, 2) := by decide +kernel
theorem dX12_pays_87 : decode cX12_pays 87 = .ok (.iload 4, 2) := by decide +kernel
theorem dX12_pays_89 : decode cX12_pays 89 = .ok (.aload_n 0, 1) := by decide +kernel
theorem dX12_pays_90 : decode cX12_pays 90 = .ok (.getfield 13, 3) := by decide +kernel
theorem dX12_pays_93 : decode cX12_pays 93 = .ok (.sipush 1211, 3) := by decide +kernel
theorem dX12_pays_96 : decode cX12_pays 96 = .ok (.iaload, 1) := by decide +kernel
theorem dX12_pays_97 : decode cX12_pays 97 = .ok (.if_icmp .ge 28, 3) := by decide +kernel
theorem dX12_pays_100 : decode cX12_pays 100 = .ok (.iload_n 3, 1) := by decide +kernel
theorem dX12_pays_101 : decode cX12_pays 101 = .ok (.aload_n 0, 1) := by decide +kernel
theorem dX12_pays_102 : decode cX12_pays 102 = .ok (.iload 4, 2) := by decide +kernel
theorem dX12_pays_104 : decode cX12_pays 104 = .ok (.iconst 0, 1) := by decide +kernel
theorem dX12_pays_105 : decode cX12_pays 105 = .ok (.invokevirtual 137, 3) := by decide +kernel
theorem dX12_pays_108 : decode cX12_pays 108 = .ok (.iload_n 1, 1) := by decide +kernel
theorem dX12_pays_109 : decode cX12_pays 109 = .ok (.if_icmp .ne 7, 3) := by decide +kernel
theorem dX12_pays_112 : decode cX12_pays 112 = .ok (.iconst 1, 1) := by decide +kernel
theorem dX12_pays_113 : decode cX12_pays 113 = .ok (.goto 4, 3) := by decide +kernel
theorem dX12_pays_116 : decode cX12_pays 116 = .ok (.iconst 0, 1) := by decide +kernel
theorem dX12_pays_117 : decode cX12_pays 117 = .ok (.iadd, 1) := by decide +kernel
theorem dX12_pays_118 : decode cX12_pays 118 = .ok (.istore_n 3, 1) := by decide +kernel
theorem dX12_pays_119 : decode cX12_pays 119 = .ok (.iinc 4 1, 3) := by decide +kernel
theorem dX12_pays_122 : decode cX12_pays 122 = .ok (.goto (-35), 3) := by decide +kernel
theorem dX12_pays_125 : decode cX12_pays 125 = .ok (.iload_n 3, 1) := by decide +kernel
theorem dX12_pays_126 : decode cX12_pays 126 = .ok (.ireturn, 1) := by decide +kernel
theorem dX12_pays_127 : decode cX12_pays 127 = .ok (.aload_n 0, 1) := by decide +kernel
theorem dX12_pays_128 : decode cX12_pays 128 = .ok (.getfield 13, 3) := by decide +kernel
theorem dX12_pays_131 : decode cX12_pays 131 = .ok (.iload_n 1, 1) := by decide +kernel
theorem dX12_pays_132 : decode cX12_pays 132 = .ok (.iconst 2, 1) := by decide +kernel
theorem dX12_pays_133 : decode cX12_pays 133 = .ok (.invokestatic 170, 3) := by decide +kernel
theorem dX12_pays_136 : decode cX12_pays 136 = .ok (.iaload, 1) := by decide +kernel
theorem dX12_pays_137 : decode cX12_pays 137 = .ok (.ireturn, 1) := by decide +kernel
theorem dX12_pays_138 : decode cX12_pays 138 = .ok (.aload_n 0, 1) := by decide +kernel
theorem dX12_pays_139 : decode cX12_pays 139 = .ok (.iconst 2, 1) := by decide +kernel
theorem dX12_pays_140 : decode cX12_pays 140 = .ok (.putfield 3, 3) := by decide +kernel
theorem dX12_pays_143 : decode cX12_pays 143 = .ok (.iconst 0, 1) := by decide +kernel
theorem dX12_pays_144 : decode cX12_pays 144 = .ok (.ireturn, 1) := by decide +kernel
noncomputable def o_X12_pays_87 (F : Nat) (l1 : Int32) (s : rs_S) : Nat → Int32 → Int32 → Option (Int32)
  | 0, _, _ => none
  | f + 1, l3, l4 => if (gW s (nI 1211)) ≤ l4 then (some l3) else ((o_X12_of s l4 (nI 0)).bind fun x14 => (if x14 = l1 then (o_X12_pays_87 F l1 s f (l3 + (nI 1)) (l4 + nI 1)) else (o_X12_pays_87 F l1 s f (l3 + (nI 0)) (l4 + nI 1))))
set_option maxHeartbeats 4000000 in
theorem t_X12_pays_87 {Γ : jg_G} {g : Nat → jg_C} {n r : Nat} (hr : r + 11 ≤ n) (F : Nat) (l1 : Int32) (s : rs_S)  (Q : jg_Q) {x : Int32} (K1 : jg Γ mX12_pays 4 0 0 125 [none, none, none, some (.int x), none] [] (rs_h g r s, n) Q)  : ∀ (f : Nat) (l3 : Int32) (l4 : Int32), o_X12_pays_87 F l1 s f l3 l4 = some x → jg Γ mX12_pays 4 0 0 87 [some (.ref r), some (.int l1), none, some (.int l3), some (.int l4)] [] (rs_h g r s, n) Q := by
  intro f
  induction f with
  | zero => intro l3 l4 h; rw [o_X12_pays_87] at h; cases h
  | succ f ih =>
   intro l3 l4 h
   rw [o_X12_pays_87] at h
   refine jg_iload dX12_pays_87 rfl ?_
   refine jg_aload_n dX12_pays_89 rfl ?_
   refine rs_ga fl_X12_13 dX12_pays_90 hr rfl ?_
   refine jg_sipush (v := nI 1211) dX12_pays_93 (by decide) ?_
   refine rs_lwD (s := s) (i := (nI 1211)) dX12_pays_96 hr (by decide) ?_
   refine jg_icmp_ge (x := l4) (y := (gW s (nI 1211))) (tgt := 125) dX12_pays_97 (by decide) (fun c13 => ?_) (fun c13 => ?_)
   · replace h := it_t c13 h
     refine jg_fg (L' := [none, none, none, some (.int l3), none]) (by repeat (first | exact trivial | refine ⟨rfl, ?_⟩ | show jg_le _ _)) ?_
     obtain rfl := Option.some.inj h
     exact K1
   · replace h := it_f c13 h
     refine jg_iload_n dX12_pays_100 rfl ?_
     refine jg_aload_n dX12_pays_101 rfl ?_
     refine jg_iload dX12_pays_102 rfl ?_
     refine jg_iconst (v := nI 0) dX12_pays_104 (by decide) ?_
     obtain ⟨x14, e_x14, h⟩ := bd_some h
     refine rs_call (As := [.int l4, .int (nI 0)]) kv_X12_137 dX12_pays_105 hr rfl rfl (by decide) (Nat.le_of_ble_eq_true rfl) rfl (by decide) (Nat.le_of_ble_eq_true rfl) (t_X12_of hr s l4 (nI 0) e_x14) ?_
     refine jg_iload_n dX12_pays_108 rfl ?_
     refine jg_icmp_ne (x := x14) (y := l1) (tgt := 116) dX12_pays_109 (by decide) (fun c15 => ?_) (fun c15 => ?_)
     · replace h := it_f c15 h
       refine jg_iconst (v := nI 0) dX12_pays_116 (by decide) ?_
       refine jg_iadd (x := l3) (y := (nI 0)) dX12_pays_117  ?_
       refine jg_istore_n (L' := [some (.ref r), some (.int l1), none, some (.int (l3 + (nI 0))), some (.int l4)]) dX12_pays_118 (by decide) rfl ?_
       refine jg_iinc (x := l4) (v := l4 + nI 1) (L' := [some (.ref r), some (.int l1), none, some (.int (l3 + (nI 0))), some (.int (l4 + nI 1))]) dX12_pays_119 rfl (ic_k _ (by decide)) (by decide) rfl ?_
       refine jg_goto (tgt := 87) dX12_pays_122 (by decide) ?_
       refine jg_fg (L' := [some (.ref r), some (.int l1), none, some (.int (l3 + (nI 0))), some (.int (l4 + nI 1))]) (by repeat (first | exact trivial | refine ⟨rfl, ?_⟩ | show jg_le _ _)) ?_
       exact ih (l3 + (nI 0)) (l4 + nI 1) h
     · replace h := it_t c15 h
       refine jg_iconst (v := nI 1) dX12_pays_112 (by decide) ?_
       refine jg_goto (tgt := 117) dX12_pays_113 (by decide) ?_
       refine jg_iadd (x := l3) (y := (nI 1)) dX12_pays_117  ?_
       refine jg_istore_n (L' := [some (.ref r), some (.int l1), none, some (.int (l3 + (nI 1))), some (.int l4)]) dX12_pays_118 (by decide) rfl ?_
       refine jg_iinc (x := l4) (v := l4 + nI 1) (L' := [some (.ref r), some (.int l1), none, some (.int (l3 + (nI 1))), some (.int (l4 + nI 1))]) dX12_pays_119 rfl (ic_k _ (by decide)) (by decide) rfl ?_
       refine jg_goto (tgt := 87) dX12_pays_122 (by decide) ?_
       refine jg_fg (L' := [some (.ref r), some (.int l1), none, some (.int (l3 + (nI 1))), some (.int (l4 + nI 1))]) (by repeat (first | exact trivial | refine ⟨rfl, ?_⟩ | show jg_le _ _)) ?_
       exact ih (l3 + (nI 1)) (l4 + nI 1) h
noncomputable def o_X12_pays (F : Nat) (s : rs_S) (a1 : Int32) (a2 : Int32) : Option (Int32 × rs_S) := (o_X12_noPayer (pN s 0 (nI 0)) a1).bind fun x1 => ((o_X12_throwsIf (pN s 0 (nI 0)) x1 (nI 1)).bind fun x2 => (if x2.1 = 0 then (if a2 = nI 0 then ((o_X12_payerAt x2.2 a1 (nI 0)).bind fun x5 => (if iL x5 22216 then (some (gW x2.2 x5, x2.2)) else none)) else (if a2 = nI 1 then ((o_X12_payerAt x2.2 a1 (nI 1)).bind fun x8 => (if iL x8 22216 then (some (gW x2.2 x8, x2.2)) else none)) else (if a2 = nI 2 then ((o_X12_votesOf F x2.2 a1).bind fun x11 => (some (x11.1, x11.2))) else (if a2 = nI 3 then ((o_X12_pays_87 F a1 x2.2 F (nI 0) (nI 0)).bind fun x16 => (some (x16, x2.2))) else (if a2 = nI 4 then ((o_X12_payerAt x2.2 a1 (nI 2)).bind fun x18 => (if iL x18 22216 then (some (gW x2.2 x18, x2.2)) else none)) else (some (nI 0, pN x2.2 0 (nI 2)))))))) else (some (nI 0, x2.2))))
set_option maxHeartbeats 4000000 in
theorem t_X12_pays {Γ : jg_G} {g : Nat → jg_C} {n r : Nat} (hr : r + 11 ≤ n) (F : Nat) (s : rs_S) (a1 : Int32) (a2 : Int32)  {x : Int32 × rs_S} (h : o_X12_pays F s a1 a2 = some x) : jc Γ mX12_pays 4 0 0 [some (.ref r), some (.int a1), some (.int a2), none, none] (rs_h g r s, n) (.inl (some (.int x.1))) (rs_h g r x.2, n) := by
  refine jc_of ?_
  rw [o_X12_pays] at h
  refine jg_aload_n dX12_pays_0 rfl ?_
  refine jg_iconst (v := nI 0) dX12_pays_1 (by decide) ?_
  refine rs_putD (s := s) (k := 0) (x := (nI 0)) fl_X12_3 dX12_pays_2 hr (by decide) (rfl) rfl rfl ?_
  refine jg_aload_n dX12_pays_5 rfl ?_
  refine jg_aload_n dX12_pays_6 rfl ?_
  refine jg_iload_n dX12_pays_7 rfl ?_
  obtain ⟨x1, e_x1, h⟩ := bd_some h
  refine rs_call (As := [.int a1]) kv_X12_107 dX12_pays_8 hr rfl rfl (by decide) (Nat.le_of_ble_eq_true rfl) rfl (by decide) (Nat.le_of_ble_eq_true rfl) (t_X12_noPayer hr (pN s 0 (nI 0)) a1 e_x1) ?_
  refine jg_iconst (v := nI 1) dX12_pays_11 (by decide) ?_
  obtain ⟨x2, e_x2, h⟩ := bd_some h
  refine rs_call (As := [.int x1, .int (nI 1)]) kv_X12_69 dX12_pays_12 hr rfl rfl (by decide) (Nat.le_of_ble_eq_true rfl) rfl (by decide) (Nat.le_of_ble_eq_true rfl) (t_X12_throwsIf hr (pN s 0 (nI 0)) x1 (nI 1) e_x2) ?_
  refine jg_if_eq (x := x2.1) (tgt := 20) dX12_pays_15 (by decide) (fun c3 => ?_) (fun c3 => ?_)
  · replace h := it_t c3 h
    refine jg_iconst (v := nI 0) dX12_pays_20 (by decide) ?_
    refine jg_istore_n (L' := [some (.ref r), some (.int a1), some (.int a2), some (.int (nI 0)), none]) dX12_pays_21 (by decide) rfl ?_
    refine jg_iload_n dX12_pays_22 rfl ?_
    by_cases c4 : a2 = nI 0
    · replace h := it_t c4 h
      refine jg_tableIn (off := 33) (tgt := 56) dX12_pays_23 (by rw [c4]; decide) (by rw [c4]; decide) (by rw [c4]; rfl) (by decide) ?_
      refine jg_aload_n dX12_pays_56 rfl ?_
      refine rs_ga fl_X12_13 dX12_pays_57 hr rfl ?_
      refine jg_iload_n dX12_pays_60 rfl ?_
      refine jg_iconst (v := nI 0) dX12_pays_61 (by decide) ?_
      obtain ⟨x5, e_x5, h⟩ := bd_some h
      refine rs_callS (As := [.int a1, .int (nI 0)]) ks_X12_170 dX12_pays_62 rfl (by decide) (Nat.le_of_ble_eq_true rfl) rfl (by decide) (Nat.le_of_ble_eq_true rfl) (t_X12_payerAt hr x2.2 a1 (nI 0) e_x5) ?_
      obtain ⟨q6, h⟩ := gd_some h
      refine rs_lwD (s := x2.2) (i := x5) dX12_pays_65 hr q6 ?_
      obtain rfl := Option.some.inj h
      exact jg_ireturn dX12_pays_66 rfl ⟨rfl, rfl⟩
    replace h := it_f c4 h
    by_cases c7 : a2 = nI 1
    · replace h := it_t c7 h
      refine jg_tableIn (off := 44) (tgt := 67) dX12_pays_23 (by rw [c7]; decide) (by rw [c7]; decide) (by rw [c7]; rfl) (by decide) ?_
      refine jg_aload_n dX12_pays_67 rfl ?_
      refine rs_ga fl_X12_13 dX12_pays_68 hr rfl ?_
      refine jg_iload_n dX12_pays_71 rfl ?_
      refine jg_iconst (v := nI 1) dX12_pays_72 (by decide) ?_
      obtain ⟨x8, e_x8, h⟩ := bd_some h
      refine rs_callS (As := [.int a1, .int (nI 1)]) ks_X12_170 dX12_pays_73 rfl (by decide) (Nat.le_of_ble_eq_true rfl) rfl (by decide) (Nat.le_of_ble_eq_true rfl) (t_X12_payerAt hr x2.2 a1 (nI 1) e_x8) ?_
      obtain ⟨q9, h⟩ := gd_some h
      refine rs_lwD (s := x2.2) (i := x8) dX12_pays_76 hr q9 ?_
      obtain rfl := Option.some.inj h
      exact jg_ireturn dX12_pays_77 rfl ⟨rfl, rfl⟩
    replace h := it_f c7 h
    by_cases c10 : a2 = nI 2
    · replace h := it_t c10 h
      refine jg_tableIn (off := 55) (tgt := 78) dX12_pays_23 (by rw [c10]; decide) (by rw [c10]; decide) (by rw [c10]; rfl) (by decide) ?_
      refine jg_aload_n dX12_pays_78 rfl ?_
      refine jg_iload_n dX12_pays_79 rfl ?_
      obtain ⟨x11, e_x11, h⟩ := bd_some h
      refine rs_call (As := [.int a1]) kv_X12_385 dX12_pays_80 hr rfl rfl (by decide) (Nat.le_of_ble_eq_true rfl) rfl (by decide) (Nat.le_of_ble_eq_true rfl) (t_X12_votesOf hr F x2.2 a1 e_x11) ?_
      obtain rfl := Option.some.inj h
      exact jg_ireturn dX12_pays_83 rfl ⟨rfl, rfl⟩
    replace h := it_f c10 h
    by_cases c12 : a2 = nI 3
    · replace h := it_t c12 h
      refine jg_tableIn (off := 61) (tgt := 84) dX12_pays_23 (by rw [c12]; decide) (by rw [c12]; decide) (by rw [c12]; rfl) (by decide) ?_
      refine jg_iconst (v := nI 0) dX12_pays_84 (by decide) ?_
      refine jg_istore (L' := [some (.ref r), some (.int a1), some (.int a2), some (.int (nI 0)), some (.int (nI 0))]) dX12_pays_85 (by decide) rfl ?_
      obtain ⟨x16, e_x16, h⟩ := bd_some h
      refine jg_fg (L' := [some (.ref r), some (.int a1), none, some (.int (nI 0)), some (.int (nI 0))]) (by repeat (first | exact trivial | refine ⟨rfl, ?_⟩ | show jg_le _ _)) ?_
      refine t_X12_pays_87 hr F a1 x2.2  _ (x := x16) ?_ F (nI 0) (nI 0) e_x16
      refine jg_iload_n dX12_pays_125 rfl ?_
      obtain rfl := Option.some.inj h
      exact jg_ireturn dX12_pays_126 rfl ⟨rfl, rfl⟩
    replace h := it_f c12 h
    by_cases c17 : a2 = nI 4
    · replace h := it_t c17 h
      refine jg_tableIn (off := 104) (tgt := 127) dX12_pays_23 (by rw [c17]; decide) (by rw [c17]; decide) (by rw [c17]; rfl) (by decide) ?_
      refine jg_aload_n dX12_pays_127 rfl ?_
      refine rs_ga fl_X12_13 dX12_pays_128 hr rfl ?_
      refine jg_iload_n dX12_pays_131 rfl ?_
      refine jg_iconst (v := nI 2) dX12_pays_132 (by decide) ?_
      obtain ⟨x18, e_x18, h⟩ := bd_some h
      refine rs_callS (As := [.int a1, .int (nI 2)]) ks_X12_170 dX12_pays_133 rfl (by decide) (Nat.le_of_ble_eq_true rfl) rfl (by decide) (Nat.le_of_ble_eq_true rfl) (t_X12_payerAt hr x2.2 a1 (nI 2) e_x18) ?_
      obtain ⟨q19, h⟩ := gd_some h
      refine rs_lwD (s := x2.2) (i := x18) dX12_pays_136 hr q19 ?_
      obtain rfl := Option.some.inj h
      exact jg_ireturn dX12_pays_137 rfl ⟨rfl, rfl⟩
    replace h := it_f c17 h
    refine jg_tableOut (tgt := 138) dX12_pays_23 (jt_outN 0 4 (a2) (fun k h1 h2 => by rcases (show k = 0 ∨ k = 1 ∨ k = 2 ∨ k = 3 ∨ k = 4 by omega) with rfl | rfl | rfl | rfl | rfl <;> assumption)) (by decide) ?_
    refine jg_aload_n dX12_pays_138 rfl ?_
    refine jg_iconst (v := nI 2) dX12_pays_139 (by decide) ?_
    refine rs_putD (s := x2.2) (k := 0) (x := (nI 2)) fl_X12_3 dX12_pays_140 hr (by decide) (rfl) rfl rfl ?_
    refine jg_iconst (v := nI 0) dX12_pays_143 (by decide) ?_
    obtain rfl := Option.some.inj h
    exact jg_ireturn dX12_pays_144 rfl ⟨rfl, rfl⟩
  · replace h := it_f c3 h
    refine jg_iconst (v := nI 0) dX12_pays_18 (by decide) ?_
    obtain rfl := Option.some.inj h
    exact jg_ireturn dX12_pays_19 rfl ⟨rfl, rfl⟩
theorem dX12_cash_0 : decode cX12_cash 0 = .ok (.aload_n 0, 1) := by decide +kernel
theorem dX12_cash_1 : decode cX12_cash 1 = .ok (.iconst 0, 1) := by decide +kernel
theorem dX12_cash_2 : decode cX12_cash 2 = .ok (.putfield 3, 3) := by decide +kernel
theorem dX12_cash_5 : decode cX12_cash 5 = .ok (.aload_n 0, 1) := by decide +kernel
theorem dX12_cash_6 : decode cX12_cash 6 = .ok (.iload_n 1, 1) := by decide +kernel
theorem dX12_cash_7 : decode cX12_cash 7 = .ok (.iconst 0, 1) := by decide +kernel
theorem dX12_cash_8 : decode cX12_cash 8 = .ok (.ldc 110, 2) := by decide +kernel
theorem dX12_cash_10 : decode cX12_cash 10 = .ok (.invokestatic 49, 3) := by decide +kernel
theorem dX12_cash_13 : decode cX12_cash 13 = .ok (.ifCond .ne 7, 3) := by decide +kernel
theorem dX12_cash_16 : decode cX12_cash 16 = .ok (.iconst 1, 1) := by decide +kernel
theorem dX12_cash_17 : decode cX12_cash 17 = .ok (.goto 4, 3) := by decide +kernel
theorem dX12_cash_20 : decode cX12_cash 20 = .ok (.iconst 0, 1) := by decide +kernel
theorem dX12_cash_21 : decode cX12_cash 21 = .ok (.iconst 1, 1) := by decide +kernel
theorem dX12_cash_22 : decode cX12_cash 22 = .ok (.invokevirtual 69, 3) := by decide +kernel
theorem dX12_cash_25 : decode cX12_cash 25 = .ok (.ifCond .eq 5, 3) := by decide +kernel
theorem dX12_cash_28 : decode cX12_cash 28 = .ok (.iconst 0, 1) := by decide +kernel
theorem dX12_cash_29 : decode cX12_cash 29 = .ok (.ireturn, 1) := by decide +kernel
theorem dX12_cash_30 : decode cX12_cash 30 = .ok (.aload_n 0, 1) := by decide +kernel
theorem dX12_cash_31 : decode cX12_cash 31 = .ok (.getfield 13, 3) := by decide +kernel
theorem dX12_cash_34 : decode cX12_cash 34 = .ok (.sipush 2652, 3) := by decide +kernel
theorem dX12_cash_37 : decode cX12_cash 37 = .ok (.aload_n 0, 1) := by decide +kernel
theorem dX12_cash_38 : decode cX12_cash 38 = .ok (.getfield 13, 3) := by decide +kernel
theorem dX12_cash_41 : decode cX12_cash 41 = .ok (.sipush 2652, 3) := by decide +kernel
theorem dX12_cash_44 : decode cX12_cash 44 = .ok (.iaload, 1) := by decide +kernel
theorem dX12_cash_45 : decode cX12_cash 45 = .ok (.iload_n 1, 1) := by decide +kernel
theorem dX12_cash_46 : decode cX12_cash 46 = .ok (.i2l, 1) := by decide +kernel
theorem dX12_cash_47 : decode cX12_cash 47 = .ok (.invokestatic 173, 3) := by decide +kernel
theorem dX12_cash_50 : decode cX12_cash 50 = .ok (.iastore, 1) := by decide +kernel
theorem dX12_cash_51 : decode cX12_cash 51 = .ok (.aload_n 0, 1) := by decide +kernel
theorem dX12_cash_52 : decode cX12_cash 52 = .ok (.getfield 13, 3) := by decide +kernel
theorem dX12_cash_55 : decode cX12_cash 55 = .ok (.sipush 2652, 3) := by decide +kernel
theorem dX12_cash_58 : decode cX12_cash 58 = .ok (.iaload, 1) := by decide +kernel
theorem dX12_cash_59 : decode cX12_cash 59 = .ok (.ireturn, 1) := by decide +kernel
noncomputable def o_X12_cash (s : rs_S) (a1 : Int32) : Option (Int32 × rs_S) := (o_X12_in (pN s 0 (nI 0)) a1 (nI 0) (nI 1000000)).bind fun x1 => (if x1 = 0 then (some (nI 0, pN (pN s 0 (nI 0)) 0 (nI 1))) else ((o_X12_added (pN s 0 (nI 0)) (gW (pN s 0 (nI 0)) (nI 2652)) a1.toInt64).bind fun x3 => (some (gW (pW (pN s 0 (nI 0)) (nI 2652) x3) (nI 2652), pW (pN s 0 (nI 0)) (nI 2652) x3))))
set_option maxHeartbeats 4000000 in
theorem t_X12_cash {Γ : jg_G} {g : Nat → jg_C} {n r : Nat} (hr : r + 11 ≤ n) (s : rs_S) (a1 : Int32)  {x : Int32 × rs_S} (h : o_X12_cash s a1 = some x) : jc Γ mX12_cash 2 0 0 [some (.ref r), some (.int a1)] (rs_h g r s, n) (.inl (some (.int x.1))) (rs_h g r x.2, n) := by
  refine jc_of ?_
  rw [o_X12_cash] at h
  refine jg_aload_n dX12_cash_0 rfl ?_
  refine jg_iconst (v := nI 0) dX12_cash_1 (by decide) ?_
  refine rs_putD (s := s) (k := 0) (x := (nI 0)) fl_X12_3 dX12_cash_2 hr (by decide) (rfl) rfl rfl ?_
  refine jg_aload_n dX12_cash_5 rfl ?_
  refine jg_iload_n dX12_cash_6 rfl ?_
  refine jg_iconst (v := nI 0) dX12_cash_7 (by decide) ?_
  refine jg_ldc kk_X12_110 dX12_cash_8 ?_
  rw [show (1000000 : Int32) = nI 1000000 from rfl]
  obtain ⟨x1, e_x1, h⟩ := bd_some h
  refine rs_callS (As := [.int a1, .int (nI 0), .int (nI 1000000)]) ks_X12_49 dX12_cash_10 rfl (by decide) (Nat.le_of_ble_eq_true rfl) rfl (by decide) (Nat.le_of_ble_eq_true rfl) (t_X12_in hr (pN s 0 (nI 0)) a1 (nI 0) (nI 1000000) e_x1) ?_
  refine jg_if_ne (x := x1) (tgt := 20) dX12_cash_13 (by decide) (fun c2 => ?_) (fun c2 => ?_)
  · replace h := it_f c2 h
    refine jg_iconst (v := nI 0) dX12_cash_20 (by decide) ?_
    refine jg_iconst (v := nI 1) dX12_cash_21 (by decide) ?_
    refine rs_call (As := [.int (nI 0), .int (nI 1)]) kv_X12_69 dX12_cash_22 hr rfl rfl (by decide) (Nat.le_of_ble_eq_true rfl) rfl (by decide) (Nat.le_of_ble_eq_true rfl) (t_X12_throwsIf hr (pN s 0 (nI 0)) (nI 0) (nI 1) (o_thr0 (pN s 0 (nI 0)) (nI 1))) ?_
    refine jg_if_eq (x := (nI 0)) (tgt := 30) dX12_cash_25 (by decide) (fun _ => ?_) (fun q9 => absurd q9 (by decide))
    refine jg_aload_n dX12_cash_30 rfl ?_
    refine rs_ga fl_X12_13 dX12_cash_31 hr rfl ?_
    refine jg_sipush (v := nI 2652) dX12_cash_34 (by decide) ?_
    refine jg_aload_n dX12_cash_37 rfl ?_
    refine rs_ga fl_X12_13 dX12_cash_38 hr rfl ?_
    refine jg_sipush (v := nI 2652) dX12_cash_41 (by decide) ?_
    refine rs_lwD (s := (pN s 0 (nI 0))) (i := (nI 2652)) dX12_cash_44 hr (by decide) ?_
    refine jg_iload_n dX12_cash_45 rfl ?_
    refine jg_i2l dX12_cash_46 ?_
    obtain ⟨x3, e_x3, h⟩ := bd_some h
    refine rs_callS (As := [.int (gW (pN s 0 (nI 0)) (nI 2652)), .long a1.toInt64]) ks_X12_173 dX12_cash_47 rfl (by decide) (Nat.le_of_ble_eq_true rfl) rfl (by decide) (Nat.le_of_ble_eq_true rfl) (t_X12_added hr (pN s 0 (nI 0)) (gW (pN s 0 (nI 0)) (nI 2652)) a1.toInt64 e_x3) ?_
    refine rs_swD (s := (pN s 0 (nI 0))) (i := (nI 2652)) (x := x3) dX12_cash_50 hr (by decide) ?_
    refine jg_aload_n dX12_cash_51 rfl ?_
    refine rs_ga fl_X12_13 dX12_cash_52 hr rfl ?_
    refine jg_sipush (v := nI 2652) dX12_cash_55 (by decide) ?_
    refine rs_lwD (s := (pW (pN s 0 (nI 0)) (nI 2652) x3)) (i := (nI 2652)) dX12_cash_58 hr (by decide) ?_
    obtain rfl := Option.some.inj h
    exact jg_ireturn dX12_cash_59 rfl ⟨rfl, rfl⟩
  · replace h := it_t c2 h
    refine jg_iconst (v := nI 1) dX12_cash_16 (by decide) ?_
    refine jg_goto (tgt := 21) dX12_cash_17 (by decide) ?_
    refine jg_iconst (v := nI 1) dX12_cash_21 (by decide) ?_
    refine rs_call (As := [.int (nI 1), .int (nI 1)]) kv_X12_69 dX12_cash_22 hr rfl rfl (by decide) (Nat.le_of_ble_eq_true rfl) rfl (by decide) (Nat.le_of_ble_eq_true rfl) (t_X12_throwsIf hr (pN s 0 (nI 0)) (nI 1) (nI 1) (o_thr1 (pN s 0 (nI 0)) (nI 1))) ?_
    refine jg_if_eq (x := (nI 1)) (tgt := 30) dX12_cash_25 (by decide) (fun q9 => absurd q9 (by decide)) (fun _ => ?_)
    refine jg_iconst (v := nI 0) dX12_cash_28 (by decide) ?_
    obtain rfl := Option.some.inj h
    exact jg_ireturn dX12_cash_29 rfl ⟨rfl, rfl⟩
theorem dX12_isOver_0 : decode cX12_isOver 0 = .ok (.aload_n 0, 1) := by decide +kernel
theorem dX12_isOver_1 : decode cX12_isOver 1 = .ok (.iload_n 1, 1) := by decide +kernel
theorem dX12_isOver_2 : decode cX12_isOver 2 = .ok (.iconst 3, 1) := by decide +kernel
theorem dX12_isOver_3 : decode cX12_isOver 3 = .ok (.invokevirtual 391, 3) := by decide +kernel
theorem dX12_isOver_6 : decode cX12_isOver 6 = .ok (.aload_n 0, 1) := by decide +kernel
theorem dX12_isOver_7 : decode cX12_isOver 7 = .ok (.invokevirtual 394, 3) := by decide +kernel
theorem dX12_isOver_10 : decode cX12_isOver 10 = .ok (.if_icmp .ge 7, 3) := by decide +kernel
theorem dX12_isOver_13 : decode cX12_isOver 13 = .ok (.iconst 1, 1) := by decide +kernel
theorem dX12_isOver_14 : decode cX12_isOver 14 = .ok (.goto 4, 3) := by decide +kernel
theorem dX12_isOver_17 : decode cX12_isOver 17 = .ok (.iconst 0, 1) := by decide +kernel
theorem dX12_isOver_18 : decode cX12_isOver 18 = .ok (.ireturn, 1) := by decide +kernel
noncomputable def o_X12_isOver (s : rs_S) (a1 : Int32) : Option (Int32) := (o_X12_bondOf s a1 (nI 3)).bind fun x1 => ((o_X12_year s).bind fun x2 => (if x2 ≤ x1 then (some (nI 0)) else (some (nI 1))))
set_option maxHeartbeats 4000000 in
theorem t_X12_isOver {Γ : jg_G} {g : Nat → jg_C} {n r : Nat} (hr : r + 11 ≤ n) (s : rs_S) (a1 : Int32)  {x : Int32} (h : o_X12_isOver s a1 = some x) : jc Γ mX12_isOver 2 0 0 [some (.ref r), some (.int a1)] (rs_h g r s, n) (.inl (some (.int x))) (rs_h g r s, n) := by
  refine jc_of ?_
  rw [o_X12_isOver] at h
  refine jg_aload_n dX12_isOver_0 rfl ?_
  refine jg_iload_n dX12_isOver_1 rfl ?_
  refine jg_iconst (v := nI 3) dX12_isOver_2 (by decide) ?_
  obtain ⟨x1, e_x1, h⟩ := bd_some h
  refine rs_call (As := [.int a1, .int (nI 3)]) kv_X12_391 dX12_isOver_3 hr rfl rfl (by decide) (Nat.le_of_ble_eq_true rfl) rfl (by decide) (Nat.le_of_ble_eq_true rfl) (t_X12_bondOf hr s a1 (nI 3) e_x1) ?_
  refine jg_aload_n dX12_isOver_6 rfl ?_
  obtain ⟨x2, e_x2, h⟩ := bd_some h
  refine rs_call (As := []) kv_X12_394 dX12_isOver_7 hr rfl rfl (by decide) (Nat.le_of_ble_eq_true rfl) rfl (by decide) (Nat.le_of_ble_eq_true rfl) (t_X12_year hr s e_x2) ?_
  refine jg_icmp_ge (x := x1) (y := x2) (tgt := 17) dX12_isOver_10 (by decide) (fun c3 => ?_) (fun c3 => ?_)
  · replace h := it_t c3 h
    refine jg_iconst (v := nI 0) dX12_isOver_17 (by decide) ?_
    obtain rfl := Option.some.inj h
    exact jg_zreturn dX12_isOver_18 rfl (rfl) ⟨rfl, rfl⟩
  · replace h := it_f c3 h
    refine jg_iconst (v := nI 1) dX12_isOver_13 (by decide) ?_
    refine jg_goto (tgt := 18) dX12_isOver_14 (by decide) ?_
    obtain rfl := Option.some.inj h
    exact jg_zreturn dX12_isOver_18 rfl (rfl) ⟨rfl, rfl⟩
theorem dX12_bond_0 : decode cX12_bond 0 = .ok (.aload_n 0, 1) := by decide +kernel
theorem dX12_bond_1 : decode cX12_bond 1 = .ok (.iconst 0, 1) := by decide +kernel
theorem dX12_bond_2 : decode cX12_bond 2 = .ok (.putfield 3, 3) := by decide +kernel
theorem dX12_bond_5 : decode cX12_bond 5 = .ok (.aload_n 0, 1) := by decide +kernel
theorem dX12_bond_6 : decode cX12_bond 6 = .ok (.iload_n 1, 1) := by decide +kernel
theorem dX12_bond_7 : decode cX12_bond 7 = .ok (.iconst 1, 1) := by decide +kernel
theorem dX12_bond_8 : decode cX12_bond 8 = .ok (.ldc 110, 2) := by decide +kernel
theorem dX12_bond_10 : decode cX12_bond 10 = .ok (.invokestatic 49, 3) := by decide +kernel
theorem dX12_bond_13 : decode cX12_bond 13 = .ok (.ifCond .eq 35, 3) := by decide +kernel
theorem dX12_bond_16 : decode cX12_bond 16 = .ok (.iload_n 2, 1) := by decide +kernel
theorem dX12_bond_17 : decode cX12_bond 17 = .ok (.iconst 0, 1) := by decide +kernel
theorem dX12_bond_18 : decode cX12_bond 18 = .ok (.sipush 2000, 3) := by decide +kernel
theorem dX12_bond_21 : decode cX12_bond 21 = .ok (.invokestatic 49, 3) := by decide +kernel
theorem dX12_bond_24 : decode cX12_bond 24 = .ok (.ifCond .eq 24, 3) := by decide +kernel
theorem dX12_bond_27 : decode cX12_bond 27 = .ok (.iload_n 3, 1) := by decide +kernel
theorem dX12_bond_28 : decode cX12_bond 28 = .ok (.iconst 0, 1) := by decide +kernel
theorem dX12_bond_29 : decode cX12_bond 29 = .ok (.bipush 9, 2) := by decide +kernel
theorem dX12_bond_31 : decode cX12_bond 31 = .ok (.invokestatic 49, 3) := by decide +kernel
theorem dX12_bond_34 : decode cX12_bond 34 = .ok (.ifCond .eq 14, 3) := by decide +kernel
theorem dX12_bond_37 : decode cX12_bond 37 = .ok (.iload 4, 2) := by decide +kernel
theorem dX12_bond_39 : decode cX12_bond 39 = .ok (.iconst 1, 1) := by decide +kernel
theorem dX12_bond_40 : decode cX12_bond 40 = .ok (.bipush 30, 2) := by decide +kernel
theorem dX12_bond_42 : decode cX12_bond 42 = .ok (.invokestatic 49, 3) := by decide +kernel
theorem dX12_bond_45 : decode cX12_bond 45 = .ok (.ifCond .ne 7, 3) := by decide +kernel
theorem dX12_bond_48 : decode cX12_bond 48 = .ok (.iconst 1, 1) := by decide +kernel
theorem dX12_bond_49 : decode cX12_bond 49 = .ok (.goto 4, 3) := by decide +kernel
theorem dX12_bond_52 : decode cX12_bond 52 = .ok (.iconst 0, 1) := by decide +kernel
theorem dX12_bond_53 : decode cX12_bond 53 = .ok (.iconst 1, 1) := by decide +kernel
theorem dX12_bond_54 : decode cX12_bond 54 = .ok (.invokevirtual 69, 3) := by decide +kernel
theorem dX12_bond_57 : decode cX12_bond 57 = .ok (.ifCond .ne 29, 3) := by decide +kernel
theorem dX12_bond_60 : decode cX12_bond 60 = .ok (.aload_n 0, 1) := by decide +kernel
theorem dX12_bond_61 : decode cX12_bond 61 = .ok (.aload_n 0, 1) := by decide +kernel
theorem dX12_bond_62 : decode cX12_bond 62 = .ok (.getfield 13, 3) := by decide +kernel
theorem dX12_bond_65 : decode cX12_bond 65 = .ok (.sipush 2665, 3) := by decide +kernel
theorem dX12_bond_68 : decode cX12_bond 68 = .ok (.iaload, 1) := by decide +kernel
theorem dX12_bond_69 : decode cX12_bond 69 = .ok (.bipush 20, 2) := by decide +kernel
theorem dX12_bond_71 : decode cX12_bond 71 = .ok (.if_icmp .ne 7, 3) := by decide +kernel
theorem dX12_bond_74 : decode cX12_bond 74 = .ok (.iconst 1, 1) := by decide +kernel
theorem dX12_bond_75 : decode cX12_bond 75 = .ok (.goto 4, 3) := by decide +kernel
theorem dX12_bond_78 : decode cX12_bond 78 = .ok (.iconst 0, 1) := by decide +kernel
theorem dX12_bond_79 : decode cX12_bond 79 = .ok (.iconst 2, 1) := by decide +kernel
theorem dX12_bond_80 : decode cX12_bond 80 = .ok (.invokevirtual 69, 3) := by decide +kernel
theorem dX12_bond_83 : decode cX12_bond 83 = .ok (.ifCond .eq 5, 3) := by decide +kernel
theorem dX12_bond_86 : decode cX12_bond 86 = .ok (.iconst 0, 1) := by decide +kernel
theorem dX12_bond_87 : decode cX12_bond 87 = .ok (.ireturn, 1) := by decide +kernel
theorem dX12_bond_88 : decode cX12_bond 88 = .ok (.aload_n 0, 1) := by decide +kernel
theorem dX12_bond_89 : decode cX12_bond 89 = .ok (.getfield 13, 3) := by decide +kernel
theorem dX12_bond_92 : decode cX12_bond 92 = .ok (.sipush 2665, 3) := by decide +kernel
theorem dX12_bond_95 : decode cX12_bond 95 = .ok (.iaload, 1) := by decide +kernel
theorem dX12_bond_96 : decode cX12_bond 96 = .ok (.istore 5, 2) := by decide +kernel
theorem dX12_bond_98 : decode cX12_bond 98 = .ok (.iload_n 1, 1) := by decide +kernel
theorem dX12_bond_99 : decode cX12_bond 99 = .ok (.i2l, 1) := by decide +kernel
theorem dX12_bond_100 : decode cX12_bond 100 = .ok (.lstore 6, 2) := by decide +kernel
theorem dX12_bond_102 : decode cX12_bond 102 = .ok (.iconst 0, 1) := by decide +kernel
theorem dX12_bond_103 : decode cX12_bond 103 = .ok (.istore 8, 2) := by decide +kernel
theorem dX12_bond_105 : decode cX12_bond 105 = .ok (.iload 8, 2) := by decide +kernel
theorem dX12_bond_107 : decode cX12_bond 107 = .ok (.iload 5, 2) := by decide +kernel
theorem dX12_bond_109 : decode cX12_bond 109 = .ok (.if_icmp .ge 45, 3) := by decide +kernel
theorem dX12_bond_112 : decode cX12_bond 112 = .ok (.lload 6, 2) := by decide +kernel
theorem dX12_bond_114 : decode cX12_bond 114 = .ok (.aload_n 0, 1) := by decide +kernel
theorem dX12_bond_115 : decode cX12_bond 115 = .ok (.iload 8, 2) := by decide +kernel
theorem dX12_bond_117 : decode cX12_bond 117 = .ok (.invokevirtual 397, 3) := by decide +kernel
theorem dX12_bond_120 : decode cX12_bond 120 = .ok (.ifCond .eq 13, 3) := by decide +kernel
theorem dX12_bond_123 : decode cX12_bond 123 = .ok (.aload_n 0, 1) := by decide +kernel
theorem dX12_bond_124 : decode cX12_bond 124 = .ok (.iload 8, 2) := by decide +kernel
theorem dX12_bond_126 : decode cX12_bond 126 = .ok (.iconst 4, 1) := by decide +kernel
theorem dX12_bond_127 : decode cX12_bond 127 = .ok (.invokevirtual 391, 3) := by decide +kernel
theorem dX12_bond_130 : decode cX12_bond 130 = .ok (.ifCond .le 14, 3) := by decide +kernel
theorem dX12_bond_133 : decode cX12_bond 133 = .ok (.aload_n 0, 1) := by decide +kernel
theorem dX12_bond_134 : decode cX12_bond 134 = .ok (.iload 8, 2) := by decide +kernel
theorem dX12_bond_136 : decode cX12_bond 136 = .ok (.iconst 0, 1) := by decide +kernel
theorem dX12_bond_137 : decode cX12_bond 137 = .ok (.invokevirtual 391, 3) := by decide +kernel
theorem dX12_bond_140 : decode cX12_bond 140 = .ok (.i2l, 1) := by decide +kernel
theorem dX12_bond_141 : decode cX12_bond 141 = .ok (.goto 4, 3) := by decide +kernel
theorem dX12_bond_144 : decode cX12_bond 144 = .ok (.lconst 0, 1) := by decide +kernel
theorem dX12_bond_145 : decode cX12_bond 145 = .ok (.ladd, 1) := by decide +kernel
theorem dX12_bond_146 : decode cX12_bond 146 = .ok (.lstore 6, 2) := by decide +kernel
theorem dX12_bond_148 : decode cX12_bond 148 = .ok (.iinc 8 1, 3) := by decide +kernel
theorem dX12_bond_151 : decode cX12_bond 151 = .ok (.goto (-46), 3) := by decide +kernel
theorem dX12_bond_154 : decode cX12_bond 154 = .ok (.lload 6, 2) := by decide +kernel
theorem dX12_bond_156 : decode cX12_bond 156 = .ok (.aload_n 0, 1) := by decide +kernel
theorem dX12_bond_157 : decode cX12_bond 157 = .ok (.bipush 7, 2) := by decide +kernel
theorem dX12_bond_159 : decode cX12_bond 159 = .ok (.iconst 0, 1) := by decide +kernel
theorem dX12_bond_160 : decode cX12_bond 160 = .ok (.invokevirtual 147, 3) := by decide +kernel
theorem dX12_bond_163 : decode cX12_bond 163 = .ok (.i2l, 1) := by decide +kernel
theorem dX12_bond_164 : decode cX12_bond 164 = .ok (.lcmp, 1) := by decide +kernel
theorem dX12_bond_165 : decode cX12_bond 165 = .ok (.ifCond .le 5, 3) := by decide +kernel
theorem dX12_bond_168 : decode cX12_bond 168 = .ok (.iconst (-1), 1) := by decide +kernel
theorem dX12_bond_169 : decode cX12_bond 169 = .ok (.ireturn, 1) := by decide +kernel
theorem dX12_bond_170 : decode cX12_bond 170 = .ok (.aload_n 0, 1) := by decide +kernel
theorem dX12_bond_171 : decode cX12_bond 171 = .ok (.getfield 13, 3) := by decide +kernel
theorem dX12_bond_174 : decode cX12_bond 174 = .ok (.iload 5, 2) := by decide +kernel
theorem dX12_bond_176 : decode cX12_bond 176 = .ok (.iconst 0, 1) := by decide +kernel
theorem dX12_bond_177 : decode cX12_bond 177 = .ok (.invokestatic 388, 3) := by decide +kernel
theorem dX12_bond_180 : decode cX12_bond 180 = .ok (.iload_n 1, 1) := by decide +kernel
theorem dX12_bond_181 : decode cX12_bond 181 = .ok (.iastore, 1) := by decide +kernel
theorem dX12_bond_182 : decode cX12_bond 182 = .ok (.aload_n 0, 1) := by decide +kernel
theorem dX12_bond_183 : decode cX12_bond 183 = .ok (.getfield 13, 3) := by decide +kernel
theorem dX12_bond_186 : decode cX12_bond 186 = .ok (.iload 5, 2) := by decide +kernel
theorem dX12_bond_188 : decode cX12_bond 188 = .ok (.iconst 1, 1) := by decide +kernel
theorem dX12_bond_189 : decode cX12_bond 189 = .ok (.invokestatic 388, 3) := by decide +kernel
theorem dX12_bond_192 : decode cX12_bond 192 = .ok (.iload_n 2, 1) := by decide +kernel
theorem dX12_bond_193 : decode cX12_bond 193 = .ok (.iastore, 1) := by decide +kernel
theorem dX12_bond_194 : decode cX12_bond 194 = .ok (.aload_n 0, 1) := by decide +kernel
theorem dX12_bond_195 : decode cX12_bond 195 = .ok (.getfield 13, 3) := by decide +kernel
theorem dX12_bond_198 : decode cX12_bond 198 = .ok (.iload 5, 2) := by decide +kernel
theorem dX12_bond_200 : decode cX12_bond 200 = .ok (.iconst 2, 1) := by decide +kernel
theorem dX12_bond_201 : decode cX12_bond 201 = .ok (.invokestatic 388, 3) := by decide +kernel
theorem dX12_bond_204 : decode cX12_bond 204 = .ok (.iload_n 3, 1) := by decide +kernel
theorem dX12_bond_205 : decode cX12_bond 205 = .ok (.iastore, 1) := by decide +kernel
theorem dX12_bond_206 : decode cX12_bond 206 = .ok (.aload_n 0, 1) := by decide +kernel
theorem dX12_bond_207 : decode cX12_bond 207 = .ok (.getfield 13, 3) := by decide +kernel
theorem dX12_bond_210 : decode cX12_bond 210 = .ok (.iload 5, 2) := by decide +kernel
theorem dX12_bond_212 : decode cX12_bond 212 = .ok (.iconst 3, 1) := by decide +kernel
theorem dX12_bond_213 : decode cX12_bond 213 = .ok (.invokestatic 388, 3) := by decide +kernel
theorem dX12_bond_216 : decode cX12_bond 216 = .ok (.aload_n 0, 1) := by decide +kernel
theorem dX12_bond_217 : decode cX12_bond 217 = .ok (.invokevirtual 394, 3) := by decide +kernel
theorem dX12_bond_220 : decode cX12_bond 220 = .ok (.iload 4, 2) := by decide +kernel
theorem dX12_bond_222 : decode cX12_bond 222 = .ok (.iadd, 1) := by decide +kernel
theorem dX12_bond_223 : decode cX12_bond 223 = .ok (.iconst 1, 1) := by decide +kernel
theorem dX12_bond_224 : decode cX12_bond 224 = .ok (.isub, 1) := by decide +kernel
theorem dX12_bond_225 : decode cX12_bond 225 = .ok (.iastore, 1) := by decide +kernel
theorem dX12_bond_226 : decode cX12_bond 226 = .ok (.aload_n 0, 1) := by decide +kernel
theorem dX12_bond_227 : decode cX12_bond 227 = .ok (.getfield 13, 3) := by decide +kernel
theorem dX12_bond_230 : decode cX12_bond 230 = .ok (.iload 5, 2) := by decide +kernel
theorem dX12_bond_232 : decode cX12_bond 232 = .ok (.iconst 4, 1) := by decide +kernel
theorem dX12_bond_233 : decode cX12_bond 233 = .ok (.invokestatic 388, 3) := by decide +kernel
theorem dX12_bond_236 : decode cX12_bond 236 = .ok (.iconst 0, 1) := by decide +kernel
theorem dX12_bond_237 : decode cX12_bond 237 = .ok (.iastore, 1) := by decide +kernel
theorem dX12_bond_238 : decode cX12_bond 238 = .ok (.aload_n 0, 1) := by decide +kernel
theorem dX12_bond_239 : decode cX12_bond 239 = .ok (.getfield 13, 3) := by decide +kernel
theorem dX12_bond_242 : decode cX12_bond 242 = .ok (.iload 5, 2) := by decide +kernel
theorem dX12_bond_244 : decode cX12_bond 244 = .ok (.iconst 5, 1) := by decide +kernel
theorem dX12_bond_245 : decode cX12_bond 245 = .ok (.invokestatic 388, 3) := by decide +kernel
theorem dX12_bond_248 : decode cX12_bond 248 = .ok (.iconst 0, 1) := by decide +kernel
theorem dX12_bond_249 : decode cX12_bond 249 = .ok (.iastore, 1) := by decide +kernel
theorem dX12_bond_250 : decode cX12_bond 250 = .ok (.aload_n 0, 1) := by decide +kernel
theorem dX12_bond_251 : decode cX12_bond 251 = .ok (.getfield 13, 3) := by decide +kernel
theorem dX12_bond_254 : decode cX12_bond 254 = .ok (.sipush 2665, 3) := by decide +kernel
theorem dX12_bond_257 : decode cX12_bond 257 = .ok (.dup2, 1) := by decide +kernel
theorem dX12_bond_258 : decode cX12_bond 258 = .ok (.iaload, 1) := by decide +kernel
theorem dX12_bond_259 : decode cX12_bond 259 = .ok (.iconst 1, 1) := by decide +kernel
theorem dX12_bond_260 : decode cX12_bond 260 = .ok (.iadd, 1) := by decide +kernel
theorem dX12_bond_261 : decode cX12_bond 261 = .ok (.iastore, 1) := by decide +kernel
theorem dX12_bond_262 : decode cX12_bond 262 = .ok (.aload_n 0, 1) := by decide +kernel
theorem dX12_bond_263 : decode cX12_bond 263 = .ok (.getfield 13, 3) := by decide +kernel
theorem dX12_bond_266 : decode cX12_bond 266 = .ok (.sipush 2652, 3) := by decide +kernel
theorem dX12_bond_269 : decode cX12_bond 269 = .ok (.aload_n 0, 1) := by decide +kernel
theorem dX12_bond_270 : decode cX12_bond 270 = .ok (.getfield 13, 3) := by decide +kernel
theorem dX12_bond_273 : decode cX12_bond 273 = .ok (.sipush 2652, 3) := by decide +kernel
theorem dX12_bond_276 : decode cX12_bond 276 = .ok (.iaload, 1) := by decide +kernel
theorem dX12_bond_277 : decode cX12_bond 277 = .ok (.iload_n 1, 1) := by decide +kernel
theorem dX12_bond_278 : decode cX12_bond 278 = .ok (.i2l, 1) := by decide +kernel
theorem dX12_bond_279 : decode cX12_bond 279 = .ok (.invokestatic 173, 3) := by decide +kernel
theorem dX12_bond_282 : decode cX12_bond 282 = .ok (.iastore, 1) := by decide +kernel
theorem dX12_bond_283 : decode cX12_bond 283 = .ok (.iload 5, 2) := by decide +kernel
theorem dX12_bond_285 : decode cX12_bond 285 = .ok (.ireturn, 1) := by decide +kernel
noncomputable def o_X12_bond_105 (F : Nat) (l1 : Int32) (l2 : Int32) (l3 : Int32) (l4 : Int32) (l5 : Int32) (s : rs_S) : Nat → Int64 → Int32 → Option (Int64)
  | 0, _, _ => none
  | f + 1, l6, l8 => if l5 ≤ l8 then (some l6) else ((o_X12_isOver s l8).bind fun x11 => (if x11 = 0 then ((o_X12_bondOf s l8 (nI 0)).bind fun x13 => (o_X12_bond_105 F l1 l2 l3 l4 l5 s f (l6 + x13.toInt64) (l8 + nI 1))) else ((o_X12_bondOf s l8 (nI 4)).bind fun x14 => (if x14 ≤ 0 then (o_X12_bond_105 F l1 l2 l3 l4 l5 s f (l6 + 0) (l8 + nI 1)) else ((o_X12_bondOf s l8 (nI 0)).bind fun x16 => (o_X12_bond_105 F l1 l2 l3 l4 l5 s f (l6 + x16.toInt64) (l8 + nI 1)))))))
set_option maxHeartbeats 4000000 in
theorem t_X12_bond_105 {Γ : jg_G} {g : Nat → jg_C} {n r : Nat} (hr : r + 11 ≤ n) (F : Nat) (l1 : Int32) (l2 : Int32) (l3 : Int32) (l4 : Int32) (l5 : Int32) (s : rs_S)  (Q : jg_Q) {x : Int64} (K1 : jg Γ mX12_bond 3 0 0 154 [some (.ref r), some (.int l1), some (.int l2), some (.int l3), some (.int l4), some (.int l5), some (.long x), none, none] [] (rs_h g r s, n) Q)  : ∀ (f : Nat) (l6 : Int64) (l8 : Int32), o_X12_bond_105 F l1 l2 l3 l4 l5 s f l6 l8 = some x → jg Γ mX12_bond 3 0 0 105 [some (.ref r), some (.int l1), some (.int l2), some (.int l3), some (.int l4), some (.int l5), some (.long l6), none, some (.int l8)] [] (rs_h g r s, n) Q := by
  intro f
  induction f with
  | zero => intro l6 l8 h; rw [o_X12_bond_105] at h; cases h
  | succ f ih =>
   intro l6 l8 h
   rw [o_X12_bond_105] at h
   refine jg_iload dX12_bond_105 rfl ?_
   refine jg_iload dX12_bond_107 rfl ?_
   refine jg_icmp_ge (x := l8) (y := l5) (tgt := 154) dX12_bond_109 (by decide) (fun c10 => ?_) (fun c10 => ?_)
   · replace h := it_t c10 h
     refine jg_fg (L' := [some (.ref r), some (.int l1), some (.int l2), some (.int l3), some (.int l4), some (.int l5), some (.long l6), none, none]) (by repeat (first | exact trivial | refine ⟨rfl, ?_⟩ | show jg_le _ _)) ?_
     obtain rfl := Option.some.inj h
     exact K1
   · replace h := it_f c10 h
     refine jg_lload dX12_bond_112 rfl ?_
     refine jg_aload_n dX12_bond_114 rfl ?_
     refine jg_iload dX12_bond_115 rfl ?_
     obtain ⟨x11, e_x11, h⟩ := bd_some h
     refine rs_call (As := [.int l8]) kv_X12_397 dX12_bond_117 hr rfl rfl (by decide) (Nat.le_of_ble_eq_true rfl) rfl (by decide) (Nat.le_of_ble_eq_true rfl) (t_X12_isOver hr s l8 e_x11) ?_
     refine jg_if_eq (x := x11) (tgt := 133) dX12_bond_120 (by decide) (fun c12 => ?_) (fun c12 => ?_)
     · replace h := it_t c12 h
       refine jg_aload_n dX12_bond_133 rfl ?_
       refine jg_iload dX12_bond_134 rfl ?_
       refine jg_iconst (v := nI 0) dX12_bond_136 (by decide) ?_
       obtain ⟨x13, e_x13, h⟩ := bd_some h
       refine rs_call (As := [.int l8, .int (nI 0)]) kv_X12_391 dX12_bond_137 hr rfl rfl (by decide) (Nat.le_of_ble_eq_true rfl) rfl (by decide) (Nat.le_of_ble_eq_true rfl) (t_X12_bondOf hr s l8 (nI 0) e_x13) ?_
       refine jg_i2l dX12_bond_140 ?_
       refine jg_goto (tgt := 145) dX12_bond_141 (by decide) ?_
       refine jg_ladd dX12_bond_145 ?_
       refine jg_lstore (L' := [some (.ref r), some (.int l1), some (.int l2), some (.int l3), some (.int l4), some (.int l5), some (.long (l6 + x13.toInt64)), none, some (.int l8)]) dX12_bond_146 (by decide) rfl ?_
       refine jg_iinc (x := l8) (v := l8 + nI 1) (L' := [some (.ref r), some (.int l1), some (.int l2), some (.int l3), some (.int l4), some (.int l5), some (.long (l6 + x13.toInt64)), none, some (.int (l8 + nI 1))]) dX12_bond_148 rfl (ic_k _ (by decide)) (by decide) rfl ?_
       refine jg_goto (tgt := 105) dX12_bond_151 (by decide) ?_
       refine jg_fg (L' := [some (.ref r), some (.int l1), some (.int l2), some (.int l3), some (.int l4), some (.int l5), some (.long (l6 + x13.toInt64)), none, some (.int (l8 + nI 1))]) (by repeat (first | exact trivial | refine ⟨rfl, ?_⟩ | show jg_le _ _)) ?_
       exact ih (l6 + x13.toInt64) (l8 + nI 1) h
     · replace h := it_f c12 h
       refine jg_aload_n dX12_bond_123 rfl ?_
       refine jg_iload dX12_bond_124 rfl ?_
       refine jg_iconst (v := nI 4) dX12_bond_126 (by decide) ?_
       obtain ⟨x14, e_x14, h⟩ := bd_some h
       refine rs_call (As := [.int l8, .int (nI 4)]) kv_X12_391 dX12_bond_127 hr rfl rfl (by decide) (Nat.le_of_ble_eq_true rfl) rfl (by decide) (Nat.le_of_ble_eq_true rfl) (t_X12_bondOf hr s l8 (nI 4) e_x14) ?_
       refine jg_if_le (x := x14) (tgt := 144) dX12_bond_130 (by decide) (fun c15 => ?_) (fun c15 => ?_)
       · replace h := it_t c15 h
         refine jg_lconst (v := 0) dX12_bond_144 (by decide) ?_
         refine jg_ladd dX12_bond_145 ?_
         refine jg_lstore (L' := [some (.ref r), some (.int l1), some (.int l2), some (.int l3), some (.int l4), some (.int l5), some (.long (l6 + 0)), none, some (.int l8)]) dX12_bond_146 (by decide) rfl ?_
         refine jg_iinc (x := l8) (v := l8 + nI 1) (L' := [some (.ref r), some (.int l1), some (.int l2), some (.int l3), some (.int l4), some (.int l5), some (.long (l6 + 0)), none, some (.int (l8 + nI 1))]) dX12_bond_148 rfl (ic_k _ (by decide)) (by decide) rfl ?_
         refine jg_goto (tgt := 105) dX12_bond_151 (by decide) ?_
         refine jg_fg (L' := [some (.ref r), some (.int l1), some (.int l2), some (.int l3), some (.int l4), some (.int l5), some (.long (l6 + 0)), none, some (.int (l8 + nI 1))]) (by repeat (first | exact trivial | refine ⟨rfl, ?_⟩ | show jg_le _ _)) ?_
         exact ih (l6 + 0) (l8 + nI 1) h
       · replace h := it_f c15 h
         refine jg_aload_n dX12_bond_133 rfl ?_
         refine jg_iload dX12_bond_134 rfl ?_
         refine jg_iconst (v := nI 0) dX12_bond_136 (by decide) ?_
         obtain ⟨x16, e_x16, h⟩ := bd_some h
         refine rs_call (As := [.int l8, .int (nI 0)]) kv_X12_391 dX12_bond_137 hr rfl rfl (by decide) (Nat.le_of_ble_eq_true rfl) rfl (by decide) (Nat.le_of_ble_eq_true rfl) (t_X12_bondOf hr s l8 (nI 0) e_x16) ?_
         refine jg_i2l dX12_bond_140 ?_
         refine jg_goto (tgt := 145) dX12_bond_141 (by decide) ?_
         refine jg_ladd dX12_bond_145 ?_
         refine jg_lstore (L' := [some (.ref r), some (.int l1), some (.int l2), some (.int l3), some (.int l4), some (.int l5), some (.long (l6 + x16.toInt64)), none, some (.int l8)]) dX12_bond_146 (by decide) rfl ?_
         refine jg_iinc (x := l8) (v := l8 + nI 1) (L' := [some (.ref r), some (.int l1), some (.int l2), some (.int l3), some (.int l4), some (.int l5), some (.long (l6 + x16.toInt64)), none, some (.int (l8 + nI 1))]) dX12_bond_148 rfl (ic_k _ (by decide)) (by decide) rfl ?_
         refine jg_goto (tgt := 105) dX12_bond_151 (by decide) ?_
         refine jg_fg (L' := [some (.ref r), some (.int l1), some (.int l2), some (.int l3), some (.int l4), some (.int l5), some (.long (l6 + x16.toInt64)), none, some (.int (l8 + nI 1))]) (by repeat (first | exact trivial | refine ⟨rfl, ?_⟩ | show jg_le _ _)) ?_
         exact ih (l6 + x16.toInt64) (l8 + nI 1) h
noncomputable def o_X12_bond (F : Nat) (s : rs_S) (a1 : Int32) (a2 : Int32) (a3 : Int32) (a4 : Int32) : Option (Int32 × rs_S) := (o_X12_in (pN s 0 (nI 0)) a1 (nI 1) (nI 1000000)).bind fun x1 => (if x1 = 0 then (some (nI 0, pN (pN s 0 (nI 0)) 0 (nI 1))) else ((o_X12_in (pN s 0 (nI 0)) a2 (nI 0) (nI 2000)).bind fun x3 => (if x3 = 0 then (some (nI 0, pN (pN s 0 (nI 0)) 0 (nI 1))) else ((o_X12_in (pN s 0 (nI 0)) a3 (nI 0) (nI 9)).bind fun x5 => (if x5 = 0 then (some (nI 0, pN (pN s 0 (nI 0)) 0 (nI 1))) else ((o_X12_in (pN s 0 (nI 0)) a4 (nI 1) (nI 30)).bind fun x7 => (if x7 = 0 then (some (nI 0, pN (pN s 0 (nI 0)) 0 (nI 1))) else (if (gW (pN s 0 (nI 0)) (nI 2665)) = (nI 20) then (some (nI 0, pN (pN s 0 (nI 0)) 0 (nI 2))) else ((o_X12_bond_105 F a1 a2 a3 a4 (gW (pN s 0 (nI 0)) (nI 2665)) (pN s 0 (nI 0)) F a1.toInt64 (nI 0)).bind fun x17 => ((o_X12_lastOf F (pN s 0 (nI 0)) (nI 7) (nI 0)).bind fun x18 => (if (lg_cmp x17 x18.toInt64) ≤ 0 then ((o_X12_bondAt (pN s 0 (nI 0)) (gW (pN s 0 (nI 0)) (nI 2665)) (nI 0)).bind fun x20 => (if iL x20 22216 then ((o_X12_bondAt (pW (pN s 0 (nI 0)) x20 a1) (gW (pN s 0 (nI 0)) (nI 2665)) (nI 1)).bind fun x22 => (if iL x22 22216 then ((o_X12_bondAt (pW (pW (pN s 0 (nI 0)) x20 a1) x22 a2) (gW (pN s 0 (nI 0)) (nI 2665)) (nI 2)).bind fun x24 => (if iL x24 22216 then ((o_X12_bondAt (pW (pW (pW (pN s 0 (nI 0)) x20 a1) x22 a2) x24 a3) (gW (pN s 0 (nI 0)) (nI 2665)) (nI 3)).bind fun x26 => ((o_X12_year (pW (pW (pW (pN s 0 (nI 0)) x20 a1) x22 a2) x24 a3)).bind fun x27 => (if iL x26 22216 then ((o_X12_bondAt (pW (pW (pW (pW (pN s 0 (nI 0)) x20 a1) x22 a2) x24 a3) x26 ((x27 + a4) - (nI 1))) (gW (pN s 0 (nI 0)) (nI 2665)) (nI 4)).bind fun x29 => (if iL x29 22216 then ((o_X12_bondAt (pW (pW (pW (pW (pW (pN s 0 (nI 0)) x20 a1) x22 a2) x24 a3) x26 ((x27 + a4) - (nI 1))) x29 (nI 0)) (gW (pN s 0 (nI 0)) (nI 2665)) (nI 5)).bind fun x31 => (if iL x31 22216 then ((o_X12_added (pW (pW (pW (pW (pW (pW (pW (pN s 0 (nI 0)) x20 a1) x22 a2) x24 a3) x26 ((x27 + a4) - (nI 1))) x29 (nI 0)) x31 (nI 0)) (nI 2665) ((gW (pW (pW (pW (pW (pW (pW (pN s 0 (nI 0)) x20 a1) x22 a2) x24 a3) x26 ((x27 + a4) - (nI 1))) x29 (nI 0)) x31 (nI 0)) (nI 2665)) + (nI 1))) (gW (pW (pW (pW (pW (pW (pW (pW (pN s 0 (nI 0)) x20 a1) x22 a2) x24 a3) x26 ((x27 + a4) - (nI 1))) x29 (nI 0)) x31 (nI 0)) (nI 2665) ((gW (pW (pW (pW (pW (pW (pW (pN s 0 (nI 0)) x20 a1) x22 a2) x24 a3) x26 ((x27 + a4) - (nI 1))) x29 (nI 0)) x31 (nI 0)) (nI 2665)) + (nI 1))) (nI 2652)) a1.toInt64).bind fun x33 => (some (gW (pN s 0 (nI 0)) (nI 2665), pW (pW (pW (pW (pW (pW (pW (pW (pN s 0 (nI 0)) x20 a1) x22 a2) x24 a3) x26 ((x27 + a4) - (nI 1))) x29 (nI 0)) x31 (nI 0)) (nI 2665) ((gW (pW (pW (pW (pW (pW (pW (pN s 0 (nI 0)) x20 a1) x22 a2) x24 a3) x26 ((x27 + a4) - (nI 1))) x29 (nI 0)) x31 (nI 0)) (nI 2665)) + (nI 1))) (nI 2652) x33))) else none)) else none)) else none))) else none)) else none)) else none)) else (some ((-1), pN s 0 (nI 0))))))))))))))
set_option maxHeartbeats 4000000 in
theorem t_X12_bond {Γ : jg_G} {g : Nat → jg_C} {n r : Nat} (hr : r + 11 ≤ n) (F : Nat) (s : rs_S) (a1 : Int32) (a2 : Int32) (a3 : Int32) (a4 : Int32)  {x : Int32 × rs_S} (h : o_X12_bond F s a1 a2 a3 a4 = some x) : jc Γ mX12_bond 3 0 0 [some (.ref r), some (.int a1), some (.int a2), some (.int a3), some (.int a4), none, none, none, none] (rs_h g r s, n) (.inl (some (.int x.1))) (rs_h g r x.2, n) := by
  refine jc_of ?_
  rw [o_X12_bond] at h
  refine jg_aload_n dX12_bond_0 rfl ?_
  refine jg_iconst (v := nI 0) dX12_bond_1 (by decide) ?_
  refine rs_putD (s := s) (k := 0) (x := (nI 0)) fl_X12_3 dX12_bond_2 hr (by decide) (rfl) rfl rfl ?_
  refine jg_aload_n dX12_bond_5 rfl ?_
  refine jg_iload_n dX12_bond_6 rfl ?_
  refine jg_iconst (v := nI 1) dX12_bond_7 (by decide) ?_
  refine jg_ldc kk_X12_110 dX12_bond_8 ?_
  rw [show (1000000 : Int32) = nI 1000000 from rfl]
  obtain ⟨x1, e_x1, h⟩ := bd_some h
  refine rs_callS (As := [.int a1, .int (nI 1), .int (nI 1000000)]) ks_X12_49 dX12_bond_10 rfl (by decide) (Nat.le_of_ble_eq_true rfl) rfl (by decide) (Nat.le_of_ble_eq_true rfl) (t_X12_in hr (pN s 0 (nI 0)) a1 (nI 1) (nI 1000000) e_x1) ?_
  refine jg_if_eq (x := x1) (tgt := 48) dX12_bond_13 (by decide) (fun c2 => ?_) (fun c2 => ?_)
  · replace h := it_t c2 h
    refine jg_iconst (v := nI 1) dX12_bond_48 (by decide) ?_
    refine jg_goto (tgt := 53) dX12_bond_49 (by decide) ?_
    refine jg_iconst (v := nI 1) dX12_bond_53 (by decide) ?_
    refine rs_call (As := [.int (nI 1), .int (nI 1)]) kv_X12_69 dX12_bond_54 hr rfl rfl (by decide) (Nat.le_of_ble_eq_true rfl) rfl (by decide) (Nat.le_of_ble_eq_true rfl) (t_X12_throwsIf hr (pN s 0 (nI 0)) (nI 1) (nI 1) (o_thr1 (pN s 0 (nI 0)) (nI 1))) ?_
    refine jg_if_ne (x := (nI 1)) (tgt := 86) dX12_bond_57 (by decide) (fun _ => ?_) (fun q9 => absurd q9 (by decide))
    refine jg_iconst (v := nI 0) dX12_bond_86 (by decide) ?_
    obtain rfl := Option.some.inj h
    exact jg_ireturn dX12_bond_87 rfl ⟨rfl, rfl⟩
  · replace h := it_f c2 h
    refine jg_iload_n dX12_bond_16 rfl ?_
    refine jg_iconst (v := nI 0) dX12_bond_17 (by decide) ?_
    refine jg_sipush (v := nI 2000) dX12_bond_18 (by decide) ?_
    obtain ⟨x3, e_x3, h⟩ := bd_some h
    refine rs_callS (As := [.int a2, .int (nI 0), .int (nI 2000)]) ks_X12_49 dX12_bond_21 rfl (by decide) (Nat.le_of_ble_eq_true rfl) rfl (by decide) (Nat.le_of_ble_eq_true rfl) (t_X12_in hr (pN s 0 (nI 0)) a2 (nI 0) (nI 2000) e_x3) ?_
    refine jg_if_eq (x := x3) (tgt := 48) dX12_bond_24 (by decide) (fun c4 => ?_) (fun c4 => ?_)
    · replace h := it_t c4 h
      refine jg_iconst (v := nI 1) dX12_bond_48 (by decide) ?_
      refine jg_goto (tgt := 53) dX12_bond_49 (by decide) ?_
      refine jg_iconst (v := nI 1) dX12_bond_53 (by decide) ?_
      refine rs_call (As := [.int (nI 1), .int (nI 1)]) kv_X12_69 dX12_bond_54 hr rfl rfl (by decide) (Nat.le_of_ble_eq_true rfl) rfl (by decide) (Nat.le_of_ble_eq_true rfl) (t_X12_throwsIf hr (pN s 0 (nI 0)) (nI 1) (nI 1) (o_thr1 (pN s 0 (nI 0)) (nI 1))) ?_
      refine jg_if_ne (x := (nI 1)) (tgt := 86) dX12_bond_57 (by decide) (fun _ => ?_) (fun q9 => absurd q9 (by decide))
      refine jg_iconst (v := nI 0) dX12_bond_86 (by decide) ?_
      obtain rfl := Option.some.inj h
      exact jg_ireturn dX12_bond_87 rfl ⟨rfl, rfl⟩
    · replace h := it_f c4 h
      refine jg_iload_n dX12_bond_27 rfl ?_
      refine jg_iconst (v := nI 0) dX12_bond_28 (by decide) ?_
      refine jg_bipush (v := nI 9) dX12_bond_29 (by decide) ?_
      obtain ⟨x5, e_x5, h⟩ := bd_some h
      refine rs_callS (As := [.int a3, .int (nI 0), .int (nI 9)]) ks_X12_49 dX12_bond_31 rfl (by decide) (Nat.le_of_ble_eq_true rfl) rfl (by decide) (Nat.le_of_ble_eq_true rfl) (t_X12_in hr (pN s 0 (nI 0)) a3 (nI 0) (nI 9) e_x5) ?_
      refine jg_if_eq (x := x5) (tgt := 48) dX12_bond_34 (by decide) (fun c6 => ?_) (fun c6 => ?_)
      · replace h := it_t c6 h
        refine jg_iconst (v := nI 1) dX12_bond_48 (by decide) ?_
        refine jg_goto (tgt := 53) dX12_bond_49 (by decide) ?_
        refine jg_iconst (v := nI 1) dX12_bond_53 (by decide) ?_
        refine rs_call (As := [.int (nI 1), .int (nI 1)]) kv_X12_69 dX12_bond_54 hr rfl rfl (by decide) (Nat.le_of_ble_eq_true rfl) rfl (by decide) (Nat.le_of_ble_eq_true rfl) (t_X12_throwsIf hr (pN s 0 (nI 0)) (nI 1) (nI 1) (o_thr1 (pN s 0 (nI 0)) (nI 1))) ?_
        refine jg_if_ne (x := (nI 1)) (tgt := 86) dX12_bond_57 (by decide) (fun _ => ?_) (fun q9 => absurd q9 (by decide))
        refine jg_iconst (v := nI 0) dX12_bond_86 (by decide) ?_
        obtain rfl := Option.some.inj h
        exact jg_ireturn dX12_bond_87 rfl ⟨rfl, rfl⟩
      · replace h := it_f c6 h
        refine jg_iload dX12_bond_37 rfl ?_
        refine jg_iconst (v := nI 1) dX12_bond_39 (by decide) ?_
        refine jg_bipush (v := nI 30) dX12_bond_40 (by decide) ?_
        obtain ⟨x7, e_x7, h⟩ := bd_some h
        refine rs_callS (As := [.int a4, .int (nI 1), .int (nI 30)]) ks_X12_49 dX12_bond_42 rfl (by decide) (Nat.le_of_ble_eq_true rfl) rfl (by decide) (Nat.le_of_ble_eq_true rfl) (t_X12_in hr (pN s 0 (nI 0)) a4 (nI 1) (nI 30) e_x7) ?_
        refine jg_if_ne (x := x7) (tgt := 52) dX12_bond_45 (by decide) (fun c8 => ?_) (fun c8 => ?_)
        · replace h := it_f c8 h
          refine jg_iconst (v := nI 0) dX12_bond_52 (by decide) ?_
          refine jg_iconst (v := nI 1) dX12_bond_53 (by decide) ?_
          refine rs_call (As := [.int (nI 0), .int (nI 1)]) kv_X12_69 dX12_bond_54 hr rfl rfl (by decide) (Nat.le_of_ble_eq_true rfl) rfl (by decide) (Nat.le_of_ble_eq_true rfl) (t_X12_throwsIf hr (pN s 0 (nI 0)) (nI 0) (nI 1) (o_thr0 (pN s 0 (nI 0)) (nI 1))) ?_
          refine jg_if_ne (x := (nI 0)) (tgt := 86) dX12_bond_57 (by decide) (fun q9 => absurd q9 (by decide)) (fun _ => ?_)
          refine jg_aload_n dX12_bond_60 rfl ?_
          refine jg_aload_n dX12_bond_61 rfl ?_
          refine rs_ga fl_X12_13 dX12_bond_62 hr rfl ?_
          refine jg_sipush (v := nI 2665) dX12_bond_65 (by decide) ?_
          refine rs_lwD (s := (pN s 0 (nI 0))) (i := (nI 2665)) dX12_bond_68 hr (by decide) ?_
          refine jg_bipush (v := nI 20) dX12_bond_69 (by decide) ?_
          refine jg_icmp_ne (x := (gW (pN s 0 (nI 0)) (nI 2665))) (y := (nI 20)) (tgt := 78) dX12_bond_71 (by decide) (fun c9 => ?_) (fun c9 => ?_)
          · replace h := it_f c9 h
            refine jg_iconst (v := nI 0) dX12_bond_78 (by decide) ?_
            refine jg_iconst (v := nI 2) dX12_bond_79 (by decide) ?_
            refine rs_call (As := [.int (nI 0), .int (nI 2)]) kv_X12_69 dX12_bond_80 hr rfl rfl (by decide) (Nat.le_of_ble_eq_true rfl) rfl (by decide) (Nat.le_of_ble_eq_true rfl) (t_X12_throwsIf hr (pN s 0 (nI 0)) (nI 0) (nI 2) (o_thr0 (pN s 0 (nI 0)) (nI 2))) ?_
            refine jg_if_eq (x := (nI 0)) (tgt := 88) dX12_bond_83 (by decide) (fun _ => ?_) (fun q9 => absurd q9 (by decide))
            refine jg_aload_n dX12_bond_88 rfl ?_
            refine rs_ga fl_X12_13 dX12_bond_89 hr rfl ?_
            refine jg_sipush (v := nI 2665) dX12_bond_92 (by decide) ?_
            refine rs_lwD (s := (pN s 0 (nI 0))) (i := (nI 2665)) dX12_bond_95 hr (by decide) ?_
            refine jg_istore (L' := [some (.ref r), some (.int a1), some (.int a2), some (.int a3), some (.int a4), some (.int (gW (pN s 0 (nI 0)) (nI 2665))), none, none, none]) dX12_bond_96 (by decide) rfl ?_
            refine jg_iload_n dX12_bond_98 rfl ?_
            refine jg_i2l dX12_bond_99 ?_
            refine jg_lstore (L' := [some (.ref r), some (.int a1), some (.int a2), some (.int a3), some (.int a4), some (.int (gW (pN s 0 (nI 0)) (nI 2665))), some (.long a1.toInt64), none, none]) dX12_bond_100 (by decide) rfl ?_
            refine jg_iconst (v := nI 0) dX12_bond_102 (by decide) ?_
            refine jg_istore (L' := [some (.ref r), some (.int a1), some (.int a2), some (.int a3), some (.int a4), some (.int (gW (pN s 0 (nI 0)) (nI 2665))), some (.long a1.toInt64), none, some (.int (nI 0))]) dX12_bond_103 (by decide) rfl ?_
            obtain ⟨x17, e_x17, h⟩ := bd_some h
            refine jg_fg (L' := [some (.ref r), some (.int a1), some (.int a2), some (.int a3), some (.int a4), some (.int (gW (pN s 0 (nI 0)) (nI 2665))), some (.long a1.toInt64), none, some (.int (nI 0))]) (by repeat (first | exact trivial | refine ⟨rfl, ?_⟩ | show jg_le _ _)) ?_
            refine t_X12_bond_105 hr F a1 a2 a3 a4 (gW (pN s 0 (nI 0)) (nI 2665)) (pN s 0 (nI 0))  _ (x := x17) ?_ F a1.toInt64 (nI 0) e_x17
            refine jg_lload dX12_bond_154 rfl ?_
            refine jg_aload_n dX12_bond_156 rfl ?_
            refine jg_bipush (v := nI 7) dX12_bond_157 (by decide) ?_
            refine jg_iconst (v := nI 0) dX12_bond_159 (by decide) ?_
            obtain ⟨x18, e_x18, h⟩ := bd_some h
            refine rs_call (As := [.int (nI 7), .int (nI 0)]) kv_X12_147 dX12_bond_160 hr rfl rfl (by decide) (Nat.le_of_ble_eq_true rfl) rfl (by decide) (Nat.le_of_ble_eq_true rfl) (t_X12_lastOf hr F (pN s 0 (nI 0)) (nI 7) (nI 0) e_x18) ?_
            refine jg_i2l dX12_bond_163 ?_
            refine jg_lcmp dX12_bond_164 ?_
            refine jg_if_le (x := (lg_cmp x17 x18.toInt64)) (tgt := 170) dX12_bond_165 (by decide) (fun c19 => ?_) (fun c19 => ?_)
            · replace h := it_t c19 h
              refine jg_aload_n dX12_bond_170 rfl ?_
              refine rs_ga fl_X12_13 dX12_bond_171 hr rfl ?_
              refine jg_iload dX12_bond_174 rfl ?_
              refine jg_iconst (v := nI 0) dX12_bond_176 (by decide) ?_
              obtain ⟨x20, e_x20, h⟩ := bd_some h
              refine rs_callS (As := [.int (gW (pN s 0 (nI 0)) (nI 2665)), .int (nI 0)]) ks_X12_388 dX12_bond_177 rfl (by decide) (Nat.le_of_ble_eq_true rfl) rfl (by decide) (Nat.le_of_ble_eq_true rfl) (t_X12_bondAt hr (pN s 0 (nI 0)) (gW (pN s 0 (nI 0)) (nI 2665)) (nI 0) e_x20) ?_
              refine jg_iload_n dX12_bond_180 rfl ?_
              obtain ⟨q21, h⟩ := gd_some h
              refine rs_swD (s := (pN s 0 (nI 0))) (i := x20) (x := a1) dX12_bond_181 hr q21 ?_
              refine jg_aload_n dX12_bond_182 rfl ?_
              refine rs_ga fl_X12_13 dX12_bond_183 hr rfl ?_
              refine jg_iload dX12_bond_186 rfl ?_
              refine jg_iconst (v := nI 1) dX12_bond_188 (by decide) ?_
              obtain ⟨x22, e_x22, h⟩ := bd_some h
              refine rs_callS (As := [.int (gW (pN s 0 (nI 0)) (nI 2665)), .int (nI 1)]) ks_X12_388 dX12_bond_189 rfl (by decide) (Nat.le_of_ble_eq_true rfl) rfl (by decide) (Nat.le_of_ble_eq_true rfl) (t_X12_bondAt hr (pW (pN s 0 (nI 0)) x20 a1) (gW (pN s 0 (nI 0)) (nI 2665)) (nI 1) e_x22) ?_
              refine jg_iload_n dX12_bond_192 rfl ?_
              obtain ⟨q23, h⟩ := gd_some h
              refine rs_swD (s := (pW (pN s 0 (nI 0)) x20 a1)) (i := x22) (x := a2) dX12_bond_193 hr q23 ?_
              refine jg_aload_n dX12_bond_194 rfl ?_
              refine rs_ga fl_X12_13 dX12_bond_195 hr rfl ?_
              refine jg_iload dX12_bond_198 rfl ?_
              refine jg_iconst (v := nI 2) dX12_bond_200 (by decide) ?_
              obtain ⟨x24, e_x24, h⟩ := bd_some h
              refine rs_callS (As := [.int (gW (pN s 0 (nI 0)) (nI 2665)), .int (nI 2)]) ks_X12_388 dX12_bond_201 rfl (by decide) (Nat.le_of_ble_eq_true rfl) rfl (by decide) (Nat.le_of_ble_eq_true rfl) (t_X12_bondAt hr (pW (pW (pN s 0 (nI 0)) x20 a1) x22 a2) (gW (pN s 0 (nI 0)) (nI 2665)) (nI 2) e_x24) ?_
              refine jg_iload_n dX12_bond_204 rfl ?_
              obtain ⟨q25, h⟩ := gd_some h
              refine rs_swD (s := (pW (pW (pN s 0 (nI 0)) x20 a1) x22 a2)) (i := x24) (x := a3) dX12_bond_205 hr q25 ?_
              refine jg_aload_n dX12_bond_206 rfl ?_
              refine rs_ga fl_X12_13 dX12_bond_207 hr rfl ?_
              refine jg_iload dX12_bond_210 rfl ?_
              refine jg_iconst (v := nI 3) dX12_bond_212 (by decide) ?_
              obtain ⟨x26, e_x26, h⟩ := bd_some h
              refine rs_callS (As := [.int (gW (pN s 0 (nI 0)) (nI 2665)), .int (nI 3)]) ks_X12_388 dX12_bond_213 rfl (by decide) (Nat.le_of_ble_eq_true rfl) rfl (by decide) (Nat.le_of_ble_eq_true rfl) (t_X12_bondAt hr (pW (pW (pW (pN s 0 (nI 0)) x20 a1) x22 a2) x24 a3) (gW (pN s 0 (nI 0)) (nI 2665)) (nI 3) e_x26) ?_
              refine jg_aload_n dX12_bond_216 rfl ?_
              obtain ⟨x27, e_x27, h⟩ := bd_some h
              refine rs_call (As := []) kv_X12_394 dX12_bond_217 hr rfl rfl (by decide) (Nat.le_of_ble_eq_true rfl) rfl (by decide) (Nat.le_of_ble_eq_true rfl) (t_X12_year hr (pW (pW (pW (pN s 0 (nI 0)) x20 a1) x22 a2) x24 a3) e_x27) ?_
              refine jg_iload dX12_bond_220 rfl ?_
              refine jg_iadd (x := x27) (y := a4) dX12_bond_222  ?_
              refine jg_iconst (v := nI 1) dX12_bond_223 (by decide) ?_
              refine jg_isub (x := (x27 + a4)) (y := (nI 1)) dX12_bond_224  ?_
              obtain ⟨q28, h⟩ := gd_some h
              refine rs_swD (s := (pW (pW (pW (pN s 0 (nI 0)) x20 a1) x22 a2) x24 a3)) (i := x26) (x := ((x27 + a4) - (nI 1))) dX12_bond_225 hr q28 ?_
              refine jg_aload_n dX12_bond_226 rfl ?_
              refine rs_ga fl_X12_13 dX12_bond_227 hr rfl ?_
              refine jg_iload dX12_bond_230 rfl ?_
              refine jg_iconst (v := nI 4) dX12_bond_232 (by decide) ?_
              obtain ⟨x29, e_x29, h⟩ := bd_some h
              refine rs_callS (As := [.int (gW (pN s 0 (nI 0)) (nI 2665)), .int (nI 4)]) ks_X12_388 dX12_bond_233 rfl (by decide) (Nat.le_of_ble_eq_true rfl) rfl (by decide) (Nat.le_of_ble_eq_true rfl) (t_X12_bondAt hr (pW (pW (pW (pW (pN s 0 (nI 0)) x20 a1) x22 a2) x24 a3) x26 ((x27 + a4) - (nI 1))) (gW (pN s 0 (nI 0)) (nI 2665)) (nI 4) e_x29) ?_
              refine jg_iconst (v := nI 0) dX12_bond_236 (by decide) ?_
              obtain ⟨q30, h⟩ := gd_some h
              refine rs_swD (s := (pW (pW (pW (pW (pN s 0 (nI 0)) x20 a1) x22 a2) x24 a3) x26 ((x27 + a4) - (nI 1)))) (i := x29) (x := (nI 0)) dX12_bond_237 hr q30 ?_
              refine jg_aload_n dX12_bond_238 rfl ?_
              refine rs_ga fl_X12_13 dX12_bond_239 hr rfl ?_
              refine jg_iload dX12_bond_242 rfl ?_
              refine jg_iconst (v := nI 5) dX12_bond_244 (by decide) ?_
              obtain ⟨x31, e_x31, h⟩ := bd_some h
              refine rs_callS (As := [.int (gW (pN s 0 (nI 0)) (nI 2665)), .int (nI 5)]) ks_X12_388 dX12_bond_245 rfl (by decide) (Nat.le_of_ble_eq_true rfl) rfl (by decide) (Nat.le_of_ble_eq_true rfl) (t_X12_bondAt hr (pW (pW (pW (pW (pW (pN s 0 (nI 0)) x20 a1) x22 a2) x24 a3) x26 ((x27 + a4) - (nI 1))) x29 (nI 0)) (gW (pN s 0 (nI 0)) (nI 2665)) (nI 5) e_x31) ?_
              refine jg_iconst (v := nI 0) dX12_bond_248 (by decide) ?_
              obtain ⟨q32, h⟩ := gd_some h
              refine rs_swD (s := (pW (pW (pW (pW (pW (pN s 0 (nI 0)) x20 a1) x22 a2) x24 a3) x26 ((x27 + a4) - (nI 1))) x29 (nI 0))) (i := x31) (x := (nI 0)) dX12_bond_249 hr q32 ?_
              refine jg_aload_n dX12_bond_250 rfl ?_
              refine rs_ga fl_X12_13 dX12_bond_251 hr rfl ?_
              refine jg_sipush (v := nI 2665) dX12_bond_254 (by decide) ?_
              refine jg_dup2 dX12_bond_257 rfl rfl ?_
              refine rs_lwD (s := (pW (pW (pW (pW (pW (pW (pN s 0 (nI 0)) x20 a1) x22 a2) x24 a3) x26 ((x27 + a4) - (nI 1))) x29 (nI 0)) x31 (nI 0))) (i := (nI 2665)) dX12_bond_258 hr (by decide) ?_
              refine jg_iconst (v := nI 1) dX12_bond_259 (by decide) ?_
              refine jg_iadd (x := (gW (pW (pW (pW (pW (pW (pW (pN s 0 (nI 0)) x20 a1) x22 a2) x24 a3) x26 ((x27 + a4) - (nI 1))) x29 (nI 0)) x31 (nI 0)) (nI 2665))) (y := (nI 1)) dX12_bond_260  ?_
              refine rs_swD (s := (pW (pW (pW (pW (pW (pW (pN s 0 (nI 0)) x20 a1) x22 a2) x24 a3) x26 ((x27 + a4) - (nI 1))) x29 (nI 0)) x31 (nI 0))) (i := (nI 2665)) (x := ((gW (pW (pW (pW (pW (pW (pW (pN s 0 (nI 0)) x20 a1) x22 a2) x24 a3) x26 ((x27 + a4) - (nI 1))) x29 (nI 0)) x31 (nI 0)) (nI 2665)) + (nI 1))) dX12_bond_261 hr (by decide) ?_
              refine jg_aload_n dX12_bond_262 rfl ?_
              refine rs_ga fl_X12_13 dX12_bond_263 hr rfl ?_
              refine jg_sipush (v := nI 2652) dX12_bond_266 (by decide) ?_
              refine jg_aload_n dX12_bond_269 rfl ?_
              refine rs_ga fl_X12_13 dX12_bond_270 hr rfl ?_
              refine jg_sipush (v := nI 2652) dX12_bond_273 (by decide) ?_
              refine rs_lwD (s := (pW (pW (pW (pW (pW (pW (pW (pN s 0 (nI 0)) x20 a1) x22 a2) x24 a3) x26 ((x27 + a4) - (nI 1))) x29 (nI 0)) x31 (nI 0)) (nI 2665) ((gW (pW (pW (pW (pW (pW (pW (pN s 0 (nI 0)) x20 a1) x22 a2) x24 a3) x26 ((x27 + a4) - (nI 1))) x29 (nI 0)) x31 (nI 0)) (nI 2665)) + (nI 1)))) (i := (nI 2652)) dX12_bond_276 hr (by decide) ?_
              refine jg_iload_n dX12_bond_277 rfl ?_
              refine jg_i2l dX12_bond_278 ?_
              obtain ⟨x33, e_x33, h⟩ := bd_some h
              refine rs_callS (As := [.int (gW (pW (pW (pW (pW (pW (pW (pW (pN s 0 (nI 0)) x20 a1) x22 a2) x24 a3) x26 ((x27 + a4) - (nI 1))) x29 (nI 0)) x31 (nI 0)) (nI 2665) ((gW (pW (pW (pW (pW (pW (pW (pN s 0 (nI 0)) x20 a1) x22 a2) x24 a3) x26 ((x27 + a4) - (nI 1))) x29 (nI 0)) x31 (nI 0)) (nI 2665)) + (nI 1))) (nI 2652)), .long a1.toInt64]) ks_X12_173 dX12_bond_279 rfl (by decide) (Nat.le_of_ble_eq_true rfl) rfl (by decide) (Nat.le_of_ble_eq_true rfl) (t_X12_added hr (pW (pW (pW (pW (pW (pW (pW (pN s 0 (nI 0)) x20 a1) x22 a2) x24 a3) x26 ((x27 + a4) - (nI 1))) x29 (nI 0)) x31 (nI 0)) (nI 2665) ((gW (pW (pW (pW (pW (pW (pW (pN s 0 (nI 0)) x20 a1) x22 a2) x24 a3) x26 ((x27 + a4) - (nI 1))) x29 (nI 0)) x31 (nI 0)) (nI 2665)) + (nI 1))) (gW (pW (pW (pW (pW (pW (pW (pW (pN s 0 (nI 0)) x20 a1) x22 a2) x24 a3) x26 ((x27 + a4) - (nI 1))) x29 (nI 0)) x31 (nI 0)) (nI 2665) ((gW (pW (pW (pW (pW (pW (pW (pN s 0 (nI 0)) x20 a1) x22 a2) x24 a3) x26 ((x27 + a4) - (nI 1))) x29 (nI 0)) x31 (nI 0)) (nI 2665)) + (nI 1))) (nI 2652)) a1.toInt64 e_x33) ?_
              refine rs_swD (s := (pW (pW (pW (pW (pW (pW (pW (pN s 0 (nI 0)) x20 a1) x22 a2) x24 a3) x26 ((x27 + a4) - (nI 1))) x29 (nI 0)) x31 (nI 0)) (nI 2665) ((gW (pW (pW (pW (pW (pW (pW (pN s 0 (nI 0)) x20 a1) x22 a2) x24 a3) x26 ((x27 + a4) - (nI 1))) x29 (nI 0)) x31 (nI 0)) (nI 2665)) + (nI 1)))) (i := (nI 2652)) (x := x33) dX12_bond_282 hr (by decide) ?_
              refine jg_iload dX12_bond_283 rfl ?_
              obtain rfl := Option.some.inj h
              exact jg_ireturn dX12_bond_285 rfl ⟨rfl, rfl⟩
            · replace h := it_f c19 h
              refine jg_iconst (v := (-1)) dX12_bond_168 (by decide) ?_
              obtain rfl := Option.some.inj h
              exact jg_ireturn dX12_bond_169 rfl ⟨rfl, rfl⟩
          · replace h := it_t c9 h
            refine jg_iconst (v := nI 1) dX12_bond_74 (by decide) ?_
            refine jg_goto (tgt := 79) dX12_bond_75 (by decide) ?_
            refine jg_iconst (v := nI 2) dX12_bond_79 (by decide) ?_
            refine rs_call (As := [.int (nI 1), .int (nI 2)]) kv_X12_69 dX12_bond_80 hr rfl rfl (by decide) (Nat.le_of_ble_eq_true rfl) rfl (by decide) (Nat.le_of_ble_eq_true rfl) (t_X12_throwsIf hr (pN s 0 (nI 0)) (nI 1) (nI 2) (o_thr1 (pN s 0 (nI 0)) (nI 2))) ?_
            refine jg_if_eq (x := (nI 1)) (tgt := 88) dX12_bond_83 (by decide) (fun q9 => absurd q9 (by decide)) (fun _ => ?_)
            refine jg_iconst (v := nI 0) dX12_bond_86 (by decide) ?_
            obtain rfl := Option.some.inj h
            exact jg_ireturn dX12_bond_87 rfl ⟨rfl, rfl⟩
        · replace h := it_t c8 h
          refine jg_iconst (v := nI 1) dX12_bond_48 (by decide) ?_
          refine jg_goto (tgt := 53) dX12_bond_49 (by decide) ?_
          refine jg_iconst (v := nI 1) dX12_bond_53 (by decide) ?_
          refine rs_call (As := [.int (nI 1), .int (nI 1)]) kv_X12_69 dX12_bond_54 hr rfl rfl (by decide) (Nat.le_of_ble_eq_true rfl) rfl (by decide) (Nat.le_of_ble_eq_true rfl) (t_X12_throwsIf hr (pN s 0 (nI 0)) (nI 1) (nI 1) (o_thr1 (pN s 0 (nI 0)) (nI 1))) ?_
          refine jg_if_ne (x := (nI 1)) (tgt := 86) dX12_bond_57 (by decide) (fun _ => ?_) (fun q9 => absurd q9 (by decide))
          refine jg_iconst (v := nI 0) dX12_bond_86 (by decide) ?_
          obtain rfl := Option.some.inj h
          exact jg_ireturn dX12_bond_87 rfl ⟨rfl, rfl⟩
theorem dX12_owes_0 : decode cX12_owes 0 = .ok (.aload_n 0, 1) := by decide +kernel
theorem dX12_owes_1 : decode cX12_owes 1 = .ok (.iconst 0, 1) := by decide +kernel
theorem dX12_owes_2 : decode cX12_owes 2 = .ok (.putfield 3, 3) := by decide +kernel
theorem dX12_owes_5 : decode cX12_owes 5 = .ok (.aload_n 0, 1) := by decide +kernel
theorem dX12_owes_6 : decode cX12_owes 6 = .ok (.iload_n 1, 1) := by decide +kernel
theorem dX12_owes_7 : decode cX12_owes 7 = .ok (.iconst 0, 1) := by decide +kernel
theorem dX12_owes_8 : decode cX12_owes 8 = .ok (.aload_n 0, 1) := by decide +kernel
theorem dX12_owes_9 : decode cX12_owes 9 = .ok (.getfield 13, 3) := by decide +kernel
theorem dX12_owes_12 : decode cX12_owes 12 = .ok (.sipush 2665, 3) := by decide +kernel
theorem dX12_owes_15 : decode cX12_owes 15 = .ok (.iaload, 1) := by decide +kernel
theorem dX12_owes_16 : decode cX12_owes 16 = .ok (.iconst 1, 1) := by decide +kernel
theorem dX12_owes_17 : decode cX12_owes 17 = .ok (.isub, 1) := by decide +kernel
theorem dX12_owes_18 : decode cX12_owes 18 = .ok (.invokestatic 49, 3) := by decide +kernel
theorem dX12_owes_21 : decode cX12_owes 21 = .ok (.ifCond .ne 7, 3) := by decide +kernel
theorem dX12_owes_24 : decode cX12_owes 24 = .ok (.iconst 1, 1) := by decide +kernel
theorem dX12_owes_25 : decode cX12_owes 25 = .ok (.goto 4, 3) := by decide +kernel
theorem dX12_owes_28 : decode cX12_owes 28 = .ok (.iconst 0, 1) := by decide +kernel
theorem dX12_owes_29 : decode cX12_owes 29 = .ok (.iconst 1, 1) := by decide +kernel
theorem dX12_owes_30 : decode cX12_owes 30 = .ok (.invokevirtual 69, 3) := by decide +kernel
theorem dX12_owes_33 : decode cX12_owes 33 = .ok (.ifCond .eq 5, 3) := by decide +kernel
theorem dX12_owes_36 : decode cX12_owes 36 = .ok (.iconst 0, 1) := by decide +kernel
theorem dX12_owes_37 : decode cX12_owes 37 = .ok (.ireturn, 1) := by decide +kernel
theorem dX12_owes_38 : decode cX12_owes 38 = .ok (.iload_n 2, 1) := by decide +kernel
theorem dX12_owes_39 : decode cX12_owes 39 = .ok (.tableswitch 69 0 3 #[29, 36, 55, 62], 29) := by decide +kernel
theorem dX12_owes_68 : decode cX12_owes 68 = .ok (.aload_n 0, 1) := by decide +kernel
theorem dX12_owes_69 : decode cX12_owes 69 = .ok (.iload_n 1, 1) := by decide +kernel
theorem dX12_owes_70 : decode cX12_owes 70 = .ok (.iconst 4, 1) := by decide +kernel
theorem dX12_owes_71 : decode cX12_owes 71 = .ok (.invokevirtual 391, 3) := by decide +kernel
theorem dX12_owes_74 : decode cX12_owes 74 = .ok (.ireturn, 1) := by decide +kernel
theorem dX12_owes_75 : decode cX12_owes 75 = .ok (.aload_n 0, 1) := by decide +kernel
theorem dX12_owes_76 : decode cX12_owes 76 = .ok (.iload_n 1, 1) := by decide +kernel
theorem dX12_owes_77 : decode cX12_owes 77 = .ok (.invokevirtual 397, 3) := by decide +kernel
theorem dX12_owes_80 : decode cX12_owes 80 = .ok (.ifCond .eq 7, 3) := by decide +kernel
theorem dX12_owes_83 : decode cX12_owes 83 = .ok (.iconst 0, 1) := by decide +kernel
theorem dX12_owes_84 : decode cX12_owes 84 = .ok (.goto 9, 3) := by decide +kernel
theorem dX12_owes_87 : decode cX12_owes 87 = .ok (.aload_n 0, 1) := by decide +kernel
theorem dX12_owes_88 : decode cX12_owes 88 = .ok (.iload_n 1, 1) := by decide +kernel
theorem dX12_owes_89 : decode cX12_owes 89 = .ok (.iconst 0, 1) := by decide +kernel
theorem dX12_owes_90 : decode cX12_owes 90 = .ok (.invokevirtual 391, 3) := by decide +kernel
theorem dX12_owes_93 : decode cX12_owes 93 = .ok (.ireturn, 1) := by decide +kernel
theorem dX12_owes_94 : decode cX12_owes 94 = .ok (.aload_n 0, 1) := by decide +kernel
theorem dX12_owes_95 : decode cX12_owes 95 = .ok (.iload_n 1, 1) := by decide +kernel
theorem dX12_owes_96 : decode cX12_owes 96 = .ok (.iconst 5, 1) := by decide +kernel
theorem dX12_owes_97 : decode cX12_owes 97 = .ok (.invokevirtual 391, 3) := by decide +kernel
theorem dX12_owes_100 : decode cX12_owes 100 = .ok (.ireturn, 1) := by decide +kernel
theorem dX12_owes_101 : decode cX12_owes 101 = .ok (.aload_n 0, 1) := by decide +kernel
theorem dX12_owes_102 : decode cX12_owes 102 = .ok (.iload_n 1, 1) := by decide +kernel
theorem dX12_owes_103 : decode cX12_owes 103 = .ok (.iconst 3, 1) := by decide +kernel
theorem dX12_owes_104 : decode cX12_owes 104 = .ok (.invokevirtual 391, 3) := by decide +kernel
theorem dX12_owes_107 : decode cX12_owes 107 = .ok (.ireturn, 1) := by decide +kernel
theorem dX12_owes_108 : decode cX12_owes 108 = .ok (.aload_n 0, 1) := by decide +kernel
theorem dX12_owes_109 : decode cX12_owes 109 = .ok (.iconst 2, 1) := by decide +kernel
theorem dX12_owes_110 : decode cX12_owes 110 = .ok (.putfield 3, 3) := by decide +kernel
theorem dX12_owes_113 : decode cX12_owes 113 = .ok (.iconst 0, 1) := by decide +kernel
theorem dX12_owes_114 : decode cX12_owes 114 = .ok (.ireturn, 1) := by decide +kernel
noncomputable def o_X12_owes (s : rs_S) (a1 : Int32) (a2 : Int32) : Option (Int32 × rs_S) := (o_X12_in (pN s 0 (nI 0)) a1 (nI 0) ((gW (pN s 0 (nI 0)) (nI 2665)) - (nI 1))).bind fun x1 => (if x1 = 0 then (some (nI 0, pN (pN s 0 (nI 0)) 0 (nI 1))) else (if a2 = nI 0 then ((o_X12_bondOf (pN s 0 (nI 0)) a1 (nI 4)).bind fun x4 => (some (x4, pN s 0 (nI 0)))) else (if a2 = nI 1 then ((o_X12_isOver (pN s 0 (nI 0)) a1).bind fun x6 => (if x6 = 0 then ((o_X12_bondOf (pN s 0 (nI 0)) a1 (nI 0)).bind fun x8 => (some (x8, pN s 0 (nI 0)))) else (some (nI 0, pN s 0 (nI 0))))) else (if a2 = nI 2 then ((o_X12_bondOf (pN s 0 (nI 0)) a1 (nI 5)).bind fun x10 => (some (x10, pN s 0 (nI 0)))) else (if a2 = nI 3 then ((o_X12_bondOf (pN s 0 (nI 0)) a1 (nI 3)).bind fun x12 => (some (x12, pN s 0 (nI 0)))) else (some (nI 0, pN (pN s 0 (nI 0)) 0 (nI 2))))))))
set_option maxHeartbeats 4000000 in
theorem t_X12_owes {Γ : jg_G} {g : Nat → jg_C} {n r : Nat} (hr : r + 11 ≤ n) (s : rs_S) (a1 : Int32) (a2 : Int32)  {x : Int32 × rs_S} (h : o_X12_owes s a1 a2 = some x) : jc Γ mX12_owes 3 0 0 [some (.ref r), some (.int a1), some (.int a2)] (rs_h g r s, n) (.inl (some (.int x.1))) (rs_h g r x.2, n) := by
  refine jc_of ?_
  rw [o_X12_owes] at h
  refine jg_aload_n dX12_owes_0 rfl ?_
  refine jg_iconst (v := nI 0) dX12_owes_1 (by decide) ?_
  refine rs_putD (s := s) (k := 0) (x := (nI 0)) fl_X12_3 dX12_owes_2 hr (by decide) (rfl) rfl rfl ?_
  refine jg_aload_n dX12_owes_5 rfl ?_
  refine jg_iload_n dX12_owes_6 rfl ?_
  refine jg_iconst (v := nI 0) dX12_owes_7 (by decide) ?_
  refine jg_aload_n dX12_owes_8 rfl ?_
  refine rs_ga fl_X12_13 dX12_owes_9 hr rfl ?_
  refine jg_sipush (v := nI 2665) dX12_owes_12 (by decide) ?_
  refine rs_lwD (s := (pN s 0 (nI 0))) (i := (nI 2665)) dX12_owes_15 hr (by decide) ?_
  refine jg_iconst (v := nI 1) dX12_owes_16 (by decide) ?_
  refine jg_isub (x := (gW (pN s 0 (nI 0)) (nI 2665))) (y := (nI 1)) dX12_owes_17  ?_
  obtain ⟨x1, e_x1, h⟩ := bd_some h
  refine rs_callS (As := [.int a1, .int (nI 0), .int ((gW (pN s 0 (nI 0)) (nI 2665)) - (nI 1))]) ks_X12_49 dX12_owes_18 rfl (by decide) (Nat.le_of_ble_eq_true rfl) rfl (by decide) (Nat.le_of_ble_eq_true rfl) (t_X12_in hr (pN s 0 (nI 0)) a1 (nI 0) ((gW (pN s 0 (nI 0)) (nI 2665)) - (nI 1)) e_x1) ?_
  refine jg_if_ne (x := x1) (tgt := 28) dX12_owes_21 (by decide) (fun c2 => ?_) (fun c2 => ?_)
  · replace h := it_f c2 h
    refine jg_iconst (v := nI 0) dX12_owes_28 (by decide) ?_
    refine jg_iconst (v := nI 1) dX12_owes_29 (by decide) ?_
    refine rs_call (As := [.int (nI 0), .int (nI 1)]) kv_X12_69 dX12_owes_30 hr rfl rfl (by decide) (Nat.le_of_ble_eq_true rfl) rfl (by decide) (Nat.le_of_ble_eq_true rfl) (t_X12_throwsIf hr (pN s 0 (nI 0)) (nI 0) (nI 1) (o_thr0 (pN s 0 (nI 0)) (nI 1))) ?_
    refine jg_if_eq (x := (nI 0)) (tgt := 38) dX12_owes_33 (by decide) (fun _ => ?_) (fun q9 => absurd q9 (by decide))
    refine jg_iload_n dX12_owes_38 rfl ?_
    by_cases c3 : a2 = nI 0
    · replace h := it_t c3 h
      refine jg_tableIn (off := 29) (tgt := 68) dX12_owes_39 (by rw [c3]; decide) (by rw [c3]; decide) (by rw [c3]; rfl) (by decide) ?_
      refine jg_aload_n dX12_owes_68 rfl ?_
      refine jg_iload_n dX12_owes_69 rfl ?_
      refine jg_iconst (v := nI 4) dX12_owes_70 (by decide) ?_
      obtain ⟨x4, e_x4, h⟩ := bd_some h
      refine rs_call (As := [.int a1, .int (nI 4)]) kv_X12_391 dX12_owes_71 hr rfl rfl (by decide) (Nat.le_of_ble_eq_true rfl) rfl (by decide) (Nat.le_of_ble_eq_true rfl) (t_X12_bondOf hr (pN s 0 (nI 0)) a1 (nI 4) e_x4) ?_
      obtain rfl := Option.some.inj h
      exact jg_ireturn dX12_owes_74 rfl ⟨rfl, rfl⟩
    replace h := it_f c3 h
    by_cases c5 : a2 = nI 1
    · replace h := it_t c5 h
      refine jg_tableIn (off := 36) (tgt := 75) dX12_owes_39 (by rw [c5]; decide) (by rw [c5]; decide) (by rw [c5]; rfl) (by decide) ?_
      refine jg_aload_n dX12_owes_75 rfl ?_
      refine jg_iload_n dX12_owes_76 rfl ?_
      obtain ⟨x6, e_x6, h⟩ := bd_some h
      refine rs_call (As := [.int a1]) kv_X12_397 dX12_owes_77 hr rfl rfl (by decide) (Nat.le_of_ble_eq_true rfl) rfl (by decide) (Nat.le_of_ble_eq_true rfl) (t_X12_isOver hr (pN s 0 (nI 0)) a1 e_x6) ?_
      refine jg_if_eq (x := x6) (tgt := 87) dX12_owes_80 (by decide) (fun c7 => ?_) (fun c7 => ?_)
      · replace h := it_t c7 h
        refine jg_aload_n dX12_owes_87 rfl ?_
        refine jg_iload_n dX12_owes_88 rfl ?_
        refine jg_iconst (v := nI 0) dX12_owes_89 (by decide) ?_
        obtain ⟨x8, e_x8, h⟩ := bd_some h
        refine rs_call (As := [.int a1, .int (nI 0)]) kv_X12_391 dX12_owes_90 hr rfl rfl (by decide) (Nat.le_of_ble_eq_true rfl) rfl (by decide) (Nat.le_of_ble_eq_true rfl) (t_X12_bondOf hr (pN s 0 (nI 0)) a1 (nI 0) e_x8) ?_
        obtain rfl := Option.some.inj h
        exact jg_ireturn dX12_owes_93 rfl ⟨rfl, rfl⟩
      · replace h := it_f c7 h
        refine jg_iconst (v := nI 0) dX12_owes_83 (by decide) ?_
        refine jg_goto (tgt := 93) dX12_owes_84 (by decide) ?_
        obtain rfl := Option.some.inj h
        exact jg_ireturn dX12_owes_93 rfl ⟨rfl, rfl⟩
    replace h := it_f c5 h
    by_cases c9 : a2 = nI 2
    · replace h := it_t c9 h
      refine jg_tableIn (off := 55) (tgt := 94) dX12_owes_39 (by rw [c9]; decide) (by rw [c9]; decide) (by rw [c9]; rfl) (by decide) ?_
      refine jg_aload_n dX12_owes_94 rfl ?_
      refine jg_iload_n dX12_owes_95 rfl ?_
      refine jg_iconst (v := nI 5) dX12_owes_96 (by decide) ?_
      obtain ⟨x10, e_x10, h⟩ := bd_some h
      refine rs_call (As := [.int a1, .int (nI 5)]) kv_X12_391 dX12_owes_97 hr rfl rfl (by decide) (Nat.le_of_ble_eq_true rfl) rfl (by decide) (Nat.le_of_ble_eq_true rfl) (t_X12_bondOf hr (pN s 0 (nI 0)) a1 (nI 5) e_x10) ?_
      obtain rfl := Option.some.inj h
      exact jg_ireturn dX12_owes_100 rfl ⟨rfl, rfl⟩
    replace h := it_f c9 h
    by_cases c11 : a2 = nI 3
    · replace h := it_t c11 h
      refine jg_tableIn (off := 62) (tgt := 101) dX12_owes_39 (by rw [c11]; decide) (by rw [c11]; decide) (by rw [c11]; rfl) (by decide) ?_
      refine jg_aload_n dX12_owes_101 rfl ?_
      refine jg_iload_n dX12_owes_102 rfl ?_
      refine jg_iconst (v := nI 3) dX12_owes_103 (by decide) ?_
      obtain ⟨x12, e_x12, h⟩ := bd_some h
      refine rs_call (As := [.int a1, .int (nI 3)]) kv_X12_391 dX12_owes_104 hr rfl rfl (by decide) (Nat.le_of_ble_eq_true rfl) rfl (by decide) (Nat.le_of_ble_eq_true rfl) (t_X12_bondOf hr (pN s 0 (nI 0)) a1 (nI 3) e_x12) ?_
      obtain rfl := Option.some.inj h
      exact jg_ireturn dX12_owes_107 rfl ⟨rfl, rfl⟩
    replace h := it_f c11 h
    refine jg_tableOut (tgt := 108) dX12_owes_39 (jt_outN 0 3 (a2) (fun k h1 h2 => by rcases (show k = 0 ∨ k = 1 ∨ k = 2 ∨ k = 3 by omega) with rfl | rfl | rfl | rfl <;> assumption)) (by decide) ?_
    refine jg_aload_n dX12_owes_108 rfl ?_
    refine jg_iconst (v := nI 2) dX12_owes_109 (by decide) ?_
    refine rs_putD (s := (pN s 0 (nI 0))) (k := 0) (x := (nI 2)) fl_X12_3 dX12_owes_110 hr (by decide) (rfl) rfl rfl ?_
    refine jg_iconst (v := nI 0) dX12_owes_113 (by decide) ?_
    obtain rfl := Option.some.inj h
    exact jg_ireturn dX12_owes_114 rfl ⟨rfl, rfl⟩
  · replace h := it_t c2 h
    refine jg_iconst (v := nI 1) dX12_owes_24 (by decide) ?_
    refine jg_goto (tgt := 29) dX12_owes_25 (by decide) ?_
    refine jg_iconst (v := nI 1) dX12_owes_29 (by decide) ?_
    refine rs_call (As := [.int (nI 1), .int (nI 1)]) kv_X12_69 dX12_owes_30 hr rfl rfl (by decide) (Nat.le_of_ble_eq_true rfl) rfl (by decide) (Nat.le_of_ble_eq_true rfl) (t_X12_throwsIf hr (pN s 0 (nI 0)) (nI 1) (nI 1) (o_thr1 (pN s 0 (nI 0)) (nI 1))) ?_
    refine jg_if_eq (x := (nI 1)) (tgt := 38) dX12_owes_33 (by decide) (fun q9 => absurd q9 (by decide)) (fun _ => ?_)
    refine jg_iconst (v := nI 0) dX12_owes_36 (by decide) ?_
    obtain rfl := Option.some.inj h
    exact jg_ireturn dX12_owes_37 rfl ⟨rfl, rfl⟩
theorem dX12_work_0 : decode cX12_work 0 = .ok (.aload_n 0, 1) := by decide +kernel
theorem dX12_work_1 : decode cX12_work 1 = .ok (.iconst 0, 1) := by decide +kernel
theorem dX12_work_2 : decode cX12_work 2 = .ok (.putfield 3, 3) := by decide +kernel
theorem dX12_work_5 : decode cX12_work 5 = .ok (.aload_n 0, 1) := by decide +kernel
theorem dX12_work_6 : decode cX12_work 6 = .ok (.iload_n 1, 1) := by decide +kernel
theorem dX12_work_7 : decode cX12_work 7 = .ok (.iconst 0, 1) := by decide +kernel
theorem dX12_work_8 : decode cX12_work 8 = .ok (.ldc 110, 2) := by decide +kernel
theorem dX12_work_10 : decode cX12_work 10 = .ok (.invokestatic 49, 3) := by decide +kernel
theorem dX12_work_13 : decode cX12_work 13 = .ok (.ifCond .eq 35, 3) := by decide +kernel
theorem dX12_work_16 : decode cX12_work 16 = .ok (.iload_n 2, 1) := by decide +kernel
theorem dX12_work_17 : decode cX12_work 17 = .ok (.iconst 0, 1) := by decide +kernel
theorem dX12_work_18 : decode cX12_work 18 = .ok (.ldc_w 411, 3) := by decide +kernel
theorem dX12_work_21 : decode cX12_work 21 = .ok (.invokestatic 49, 3) := by decide +kernel
theorem dX12_work_24 : decode cX12_work 24 = .ok (.ifCond .eq 24, 3) := by decide +kernel
theorem dX12_work_27 : decode cX12_work 27 = .ok (.iload_n 3, 1) := by decide +kernel
theorem dX12_work_28 : decode cX12_work 28 = .ok (.iconst 0, 1) := by decide +kernel
theorem dX12_work_29 : decode cX12_work 29 = .ok (.bipush 29, 2) := by decide +kernel
theorem dX12_work_31 : decode cX12_work 31 = .ok (.invokestatic 49, 3) := by decide +kernel
theorem dX12_work_34 : decode cX12_work 34 = .ok (.ifCond .eq 14, 3) := by decide +kernel
theorem dX12_work_37 : decode cX12_work 37 = .ok (.iload 4, 2) := by decide +kernel
theorem dX12_work_39 : decode cX12_work 39 = .ok (.iconst 0, 1) := by decide +kernel
theorem dX12_work_40 : decode cX12_work 40 = .ok (.bipush 100, 2) := by decide +kernel
theorem dX12_work_42 : decode cX12_work 42 = .ok (.invokestatic 49, 3) := by decide +kernel
theorem dX12_work_45 : decode cX12_work 45 = .ok (.ifCond .ne 7, 3) := by decide +kernel
theorem dX12_work_48 : decode cX12_work 48 = .ok (.iconst 1, 1) := by decide +kernel
theorem dX12_work_49 : decode cX12_work 49 = .ok (.goto 4, 3) := by decide +kernel
theorem dX12_work_52 : decode cX12_work 52 = .ok (.iconst 0, 1) := by decide +kernel
theorem dX12_work_53 : decode cX12_work 53 = .ok (.iconst 1, 1) := by decide +kernel
theorem dX12_work_54 : decode cX12_work 54 = .ok (.invokevirtual 69, 3) := by decide +kernel
theorem dX12_work_57 : decode cX12_work 57 = .ok (.ifCond .eq 5, 3) := by decide +kernel
theorem dX12_work_60 : decode cX12_work 60 = .ok (.iconst 0, 1) := by decide +kernel
theorem dX12_work_61 : decode cX12_work 61 = .ok (.ireturn, 1) := by decide +kernel
theorem dX12_work_62 : decode cX12_work 62 = .ok (.aload_n 0, 1) := by decide +kernel
theorem dX12_work_63 : decode cX12_work 63 = .ok (.getfield 13, 3) := by decide +kernel
theorem dX12_work_66 : decode cX12_work 66 = .ok (.sipush 2786, 3) := by decide +kernel
theorem dX12_work_69 : decode cX12_work 69 = .ok (.iaload, 1) := by decide +kernel
theorem dX12_work_70 : decode cX12_work 70 = .ok (.istore 5, 2) := by decide +kernel
theorem dX12_work_72 : decode cX12_work 72 = .ok (.iload 5, 2) := by decide +kernel
theorem dX12_work_74 : decode cX12_work 74 = .ok (.bipush 6, 2) := by decide +kernel
theorem dX12_work_76 : decode cX12_work 76 = .ok (.if_icmp .ne 5, 3) := by decide +kernel
theorem dX12_work_79 : decode cX12_work 79 = .ok (.iconst (-1), 1) := by decide +kernel
theorem dX12_work_80 : decode cX12_work 80 = .ok (.ireturn, 1) := by decide +kernel
theorem dX12_work_81 : decode cX12_work 81 = .ok (.aload_n 0, 1) := by decide +kernel
theorem dX12_work_82 : decode cX12_work 82 = .ok (.getfield 13, 3) := by decide +kernel
theorem dX12_work_85 : decode cX12_work 85 = .ok (.sipush 2787, 3) := by decide +kernel
theorem dX12_work_88 : decode cX12_work 88 = .ok (.iconst 4, 1) := by decide +kernel
theorem dX12_work_89 : decode cX12_work 89 = .ok (.iload 5, 2) := by decide +kernel
theorem dX12_work_91 : decode cX12_work 91 = .ok (.imul, 1) := by decide +kernel
theorem dX12_work_92 : decode cX12_work 92 = .ok (.iadd, 1) := by decide +kernel
theorem dX12_work_93 : decode cX12_work 93 = .ok (.iload_n 1, 1) := by decide +kernel
theorem dX12_work_94 : decode cX12_work 94 = .ok (.iastore, 1) := by decide +kernel
theorem dX12_work_95 : decode cX12_work 95 = .ok (.aload_n 0, 1) := by decide +kernel
theorem dX12_work_96 : decode cX12_work 96 = .ok (.getfield 13, 3) := by decide +kernel
theorem dX12_work_99 : decode cX12_work 99 = .ok (.sipush 2787, 3) := by decide +kernel
theorem dX12_work_102 : decode cX12_work 102 = .ok (.iconst 4, 1) := by decide +kernel
theorem dX12_work_103 : decode cX12_work 103 = .ok (.iload 5, 2) := by decide +kernel
theorem dX12_work_105 : decode cX12_work 105 = .ok (.imul, 1) := by decide +kernel
theorem dX12_work_106 : decode cX12_work 106 = .ok (.iadd, 1) := by decide +kernel
theorem dX12_work_107 : decode cX12_work 107 = .ok (.iconst 1, 1) := by decide +kernel
theorem dX12_work_108 : decode cX12_work 108 = .ok (.iadd, 1) := by decide +kernel
theorem dX12_work_109 : decode cX12_work 109 = .ok (.iload_n 2, 1) := by decide +kernel
theorem dX12_work_110 : decode cX12_work 110 = .ok (.bipush 100, 2) := by decide +kernel
theorem dX12_work_112 : decode cX12_work 112 = .ok (.iload 4, 2) := by decide +kernel
theorem dX12_work_114 : decode cX12_work 114 = .ok (.isub, 1) := by decide +kernel
theorem dX12_work_115 : decode cX12_work 115 = .ok (.imul, 1) := by decide +kernel
theorem dX12_work_116 : decode cX12_work 116 = .ok (.bipush 100, 2) := by decide +kernel
theorem dX12_work_118 : decode cX12_work 118 = .ok (.idiv, 1) := by decide +kernel
theorem dX12_work_119 : decode cX12_work 119 = .ok (.iastore, 1) := by decide +kernel
theorem dX12_work_120 : decode cX12_work 120 = .ok (.aload_n 0, 1) := by decide +kernel
theorem dX12_work_121 : decode cX12_work 121 = .ok (.getfield 13, 3) := by decide +kernel
theorem dX12_work_124 : decode cX12_work 124 = .ok (.sipush 2787, 3) := by decide +kernel
theorem dX12_work_127 : decode cX12_work 127 = .ok (.iconst 4, 1) := by decide +kernel
theorem dX12_work_128 : decode cX12_work 128 = .ok (.iload 5, 2) := by decide +kernel
theorem dX12_work_130 : decode cX12_work 130 = .ok (.imul, 1) := by decide +kernel
theorem dX12_work_131 : decode cX12_work 131 = .ok (.iadd, 1) := by decide +kernel
theorem dX12_work_132 : decode cX12_work 132 = .ok (.iconst 2, 1) := by decide +kernel
theorem dX12_work_133 : decode cX12_work 133 = .ok (.iadd, 1) := by decide +kernel
theorem dX12_work_134 : decode cX12_work 134 = .ok (.iload_n 3, 1) := by decide +kernel
theorem dX12_work_135 : decode cX12_work 135 = .ok (.iastore, 1) := by decide +kernel
theorem dX12_work_136 : decode cX12_work 136 = .ok (.aload_n 0, 1) := by decide +kernel
theorem dX12_work_137 : decode cX12_work 137 = .ok (.getfield 13, 3) := by decide +kernel
theorem dX12_work_140 : decode cX12_work 140 = .ok (.sipush 2786, 3) := by decide +kernel
theorem dX12_work_143 : decode cX12_work 143 = .ok (.dup2, 1) := by decide +kernel
theorem dX12_work_144 : decode cX12_work 144 = .ok (.iaload, 1) := by decide +kernel
theorem dX12_work_145 : decode cX12_work 145 = .ok (.iconst 1, 1) := by decide +kernel
theorem dX12_work_146 : decode cX12_work 146 = .ok (.iadd, 1) := by decide +kernel
theorem dX12_work_147 : decode cX12_work 147 = .ok (.iastore, 1) := by decide +kernel
theorem dX12_work_148 : decode cX12_work 148 = .ok (.iload 5, 2) := by decide +kernel
theorem dX12_work_150 : decode cX12_work 150 = .ok (.iconst 1, 1) := by decide +kernel
theorem dX12_work_151 : decode cX12_work 151 = .ok (.iadd, 1) := by decide +kernel
theorem dX12_work_152 : decode cX12_work 152 = .ok (.ireturn, 1) := by decide +kernel
noncomputable def o_X12_work (s : rs_S) (a1 : Int32) (a2 : Int32) (a3 : Int32) (a4 : Int32) : Option (Int32 × rs_S) := (o_X12_in (pN s 0 (nI 0)) a1 (nI 0) (nI 1000000)).bind fun x1 => (if x1 = 0 then (some (nI 0, pN (pN s 0 (nI 0)) 0 (nI 1))) else ((o_X12_in (pN s 0 (nI 0)) a2 (nI 0) (nI 100000)).bind fun x3 => (if x3 = 0 then (some (nI 0, pN (pN s 0 (nI 0)) 0 (nI 1))) else ((o_X12_in (pN s 0 (nI 0)) a3 (nI 0) (nI 29)).bind fun x5 => (if x5 = 0 then (some (nI 0, pN (pN s 0 (nI 0)) 0 (nI 1))) else ((o_X12_in (pN s 0 (nI 0)) a4 (nI 0) (nI 100)).bind fun x7 => (if x7 = 0 then (some (nI 0, pN (pN s 0 (nI 0)) 0 (nI 1))) else (if (gW (pN s 0 (nI 0)) (nI 2786)) = (nI 6) then (some ((-1), pN s 0 (nI 0))) else (if iL ((nI 2787) + ((nI 4) * (gW (pN s 0 (nI 0)) (nI 2786)))) 22216 then (if iL (((nI 2787) + ((nI 4) * (gW (pN s 0 (nI 0)) (nI 2786)))) + (nI 1)) 22216 then (if iL (((nI 2787) + ((nI 4) * (gW (pN s 0 (nI 0)) (nI 2786)))) + (nI 2)) 22216 then (some ((gW (pN s 0 (nI 0)) (nI 2786)) + (nI 1), pW (pW (pW (pW (pN s 0 (nI 0)) ((nI 2787) + ((nI 4) * (gW (pN s 0 (nI 0)) (nI 2786)))) a1) (((nI 2787) + ((nI 4) * (gW (pN s 0 (nI 0)) (nI 2786)))) + (nI 1)) ((a2 * ((nI 100) - a4)) / (nI 100))) (((nI 2787) + ((nI 4) * (gW (pN s 0 (nI 0)) (nI 2786)))) + (nI 2)) a3) (nI 2786) ((gW (pW (pW (pW (pN s 0 (nI 0)) ((nI 2787) + ((nI 4) * (gW (pN s 0 (nI 0)) (nI 2786)))) a1) (((nI 2787) + ((nI 4) * (gW (pN s 0 (nI 0)) (nI 2786)))) + (nI 1)) ((a2 * ((nI 100) - a4)) / (nI 100))) (((nI 2787) + ((nI 4) * (gW (pN s 0 (nI 0)) (nI 2786)))) + (nI 2)) a3) (nI 2786)) + (nI 1)))) else none) else none) else none)))))))))
set_option maxHeartbeats 4000000 in
theorem t_X12_work {Γ : jg_G} {g : Nat → jg_C} {n r : Nat} (hr : r + 11 ≤ n) (s : rs_S) (a1 : Int32) (a2 : Int32) (a3 : Int32) (a4 : Int32)  {x : Int32 × rs_S} (h : o_X12_work s a1 a2 a3 a4 = some x) : jc Γ mX12_work 1 0 0 [some (.ref r), some (.int a1), some (.int a2), some (.int a3), some (.int a4), none] (rs_h g r s, n) (.inl (some (.int x.1))) (rs_h g r x.2, n) := by
  refine jc_of ?_
  rw [o_X12_work] at h
  refine jg_aload_n dX12_work_0 rfl ?_
  refine jg_iconst (v := nI 0) dX12_work_1 (by decide) ?_
  refine rs_putD (s := s) (k := 0) (x := (nI 0)) fl_X12_3 dX12_work_2 hr (by decide) (rfl) rfl rfl ?_
  refine jg_aload_n dX12_work_5 rfl ?_
  refine jg_iload_n dX12_work_6 rfl ?_
  refine jg_iconst (v := nI 0) dX12_work_7 (by decide) ?_
  refine jg_ldc kk_X12_110 dX12_work_8 ?_
  rw [show (1000000 : Int32) = nI 1000000 from rfl]
  obtain ⟨x1, e_x1, h⟩ := bd_some h
  refine rs_callS (As := [.int a1, .int (nI 0), .int (nI 1000000)]) ks_X12_49 dX12_work_10 rfl (by decide) (Nat.le_of_ble_eq_true rfl) rfl (by decide) (Nat.le_of_ble_eq_true rfl) (t_X12_in hr (pN s 0 (nI 0)) a1 (nI 0) (nI 1000000) e_x1) ?_
  refine jg_if_eq (x := x1) (tgt := 48) dX12_work_13 (by decide) (fun c2 => ?_) (fun c2 => ?_)
  · replace h := it_t c2 h
    refine jg_iconst (v := nI 1) dX12_work_48 (by decide) ?_
    refine jg_goto (tgt := 53) dX12_work_49 (by decide) ?_
    refine jg_iconst (v := nI 1) dX12_work_53 (by decide) ?_
    refine rs_call (As := [.int (nI 1), .int (nI 1)]) kv_X12_69 dX12_work_54 hr rfl rfl (by decide) (Nat.le_of_ble_eq_true rfl) rfl (by decide) (Nat.le_of_ble_eq_true rfl) (t_X12_throwsIf hr (pN s 0 (nI 0)) (nI 1) (nI 1) (o_thr1 (pN s 0 (nI 0)) (nI 1))) ?_
    refine jg_if_eq (x := (nI 1)) (tgt := 62) dX12_work_57 (by decide) (fun q9 => absurd q9 (by decide)) (fun _ => ?_)
    refine jg_iconst (v := nI 0) dX12_work_60 (by decide) ?_
    obtain rfl := Option.some.inj h
    exact jg_ireturn dX12_work_61 rfl ⟨rfl, rfl⟩
  · replace h := it_f c2 h
    refine jg_iload_n dX12_work_16 rfl ?_
    refine jg_iconst (v := nI 0) dX12_work_17 (by decide) ?_
    refine jg_ldcw kk_X12_411 dX12_work_18 ?_
    rw [show (100000 : Int32) = nI 100000 from rfl]
    obtain ⟨x3, e_x3, h⟩ := bd_some h
    refine rs_callS (As := [.int a2, .int (nI 0), .int (nI 100000)]) ks_X12_49 dX12_work_21 rfl (by decide) (Nat.le_of_ble_eq_true rfl) rfl (by decide) (Nat.le_of_ble_eq_true rfl) (t_X12_in hr (pN s 0 (nI 0)) a2 (nI 0) (nI 100000) e_x3) ?_
    refine jg_if_eq (x := x3) (tgt := 48) dX12_work_24 (by decide) (fun c4 => ?_) (fun c4 => ?_)
    · replace h := it_t c4 h
      refine jg_iconst (v := nI 1) dX12_work_48 (by decide) ?_
      refine jg_goto (tgt := 53) dX12_work_49 (by decide) ?_
      refine jg_iconst (v := nI 1) dX12_work_53 (by decide) ?_
      refine rs_call (As := [.int (nI 1), .int (nI 1)]) kv_X12_69 dX12_work_54 hr rfl rfl (by decide) (Nat.le_of_ble_eq_true rfl) rfl (by decide) (Nat.le_of_ble_eq_true rfl) (t_X12_throwsIf hr (pN s 0 (nI 0)) (nI 1) (nI 1) (o_thr1 (pN s 0 (nI 0)) (nI 1))) ?_
      refine jg_if_eq (x := (nI 1)) (tgt := 62) dX12_work_57 (by decide) (fun q9 => absurd q9 (by decide)) (fun _ => ?_)
      refine jg_iconst (v := nI 0) dX12_work_60 (by decide) ?_
      obtain rfl := Option.some.inj h
      exact jg_ireturn dX12_work_61 rfl ⟨rfl, rfl⟩
    · replace h := it_f c4 h
      refine jg_iload_n dX12_work_27 rfl ?_
      refine jg_iconst (v := nI 0) dX12_work_28 (by decide) ?_
      refine jg_bipush (v := nI 29) dX12_work_29 (by decide) ?_
      obtain ⟨x5, e_x5, h⟩ := bd_some h
      refine rs_callS (As := [.int a3, .int (nI 0), .int (nI 29)]) ks_X12_49 dX12_work_31 rfl (by decide) (Nat.le_of_ble_eq_true rfl) rfl (by decide) (Nat.le_of_ble_eq_true rfl) (t_X12_in hr (pN s 0 (nI 0)) a3 (nI 0) (nI 29) e_x5) ?_
      refine jg_if_eq (x := x5) (tgt := 48) dX12_work_34 (by decide) (fun c6 => ?_) (fun c6 => ?_)
      · replace h := it_t c6 h
        refine jg_iconst (v := nI 1) dX12_work_48 (by decide) ?_
        refine jg_goto (tgt := 53) dX12_work_49 (by decide) ?_
        refine jg_iconst (v := nI 1) dX12_work_53 (by decide) ?_
        refine rs_call (As := [.int (nI 1), .int (nI 1)]) kv_X12_69 dX12_work_54 hr rfl rfl (by decide) (Nat.le_of_ble_eq_true rfl) rfl (by decide) (Nat.le_of_ble_eq_true rfl) (t_X12_throwsIf hr (pN s 0 (nI 0)) (nI 1) (nI 1) (o_thr1 (pN s 0 (nI 0)) (nI 1))) ?_
        refine jg_if_eq (x := (nI 1)) (tgt := 62) dX12_work_57 (by decide) (fun q9 => absurd q9 (by decide)) (fun _ => ?_)
        refine jg_iconst (v := nI 0) dX12_work_60 (by decide) ?_
        obtain rfl := Option.some.inj h
        exact jg_ireturn dX12_work_61 rfl ⟨rfl, rfl⟩
      · replace h := it_f c6 h
        refine jg_iload dX12_work_37 rfl ?_
        refine jg_iconst (v := nI 0) dX12_work_39 (by decide) ?_
        refine jg_bipush (v := nI 100) dX12_work_40 (by decide) ?_
        obtain ⟨x7, e_x7, h⟩ := bd_some h
        refine rs_callS (As := [.int a4, .int (nI 0), .int (nI 100)]) ks_X12_49 dX12_work_42 rfl (by decide) (Nat.le_of_ble_eq_true rfl) rfl (by decide) (Nat.le_of_ble_eq_true rfl) (t_X12_in hr (pN s 0 (nI 0)) a4 (nI 0) (nI 100) e_x7) ?_
        refine jg_if_ne (x := x7) (tgt := 52) dX12_work_45 (by decide) (fun c8 => ?_) (fun c8 => ?_)
        · replace h := it_f c8 h
          refine jg_iconst (v := nI 0) dX12_work_52 (by decide) ?_
          refine jg_iconst (v := nI 1) dX12_work_53 (by decide) ?_
          refine rs_call (As := [.int (nI 0), .int (nI 1)]) kv_X12_69 dX12_work_54 hr rfl rfl (by decide) (Nat.le_of_ble_eq_true rfl) rfl (by decide) (Nat.le_of_ble_eq_true rfl) (t_X12_throwsIf hr (pN s 0 (nI 0)) (nI 0) (nI 1) (o_thr0 (pN s 0 (nI 0)) (nI 1))) ?_
          refine jg_if_eq (x := (nI 0)) (tgt := 62) dX12_work_57 (by decide) (fun _ => ?_) (fun q9 => absurd q9 (by decide))
          refine jg_aload_n dX12_work_62 rfl ?_
          refine rs_ga fl_X12_13 dX12_work_63 hr rfl ?_
          refine jg_sipush (v := nI 2786) dX12_work_66 (by decide) ?_
          refine rs_lwD (s := (pN s 0 (nI 0))) (i := (nI 2786)) dX12_work_69 hr (by decide) ?_
          refine jg_istore (L' := [some (.ref r), some (.int a1), some (.int a2), some (.int a3), some (.int a4), some (.int (gW (pN s 0 (nI 0)) (nI 2786)))]) dX12_work_70 (by decide) rfl ?_
          refine jg_iload dX12_work_72 rfl ?_
          refine jg_bipush (v := nI 6) dX12_work_74 (by decide) ?_
          refine jg_icmp_ne (x := (gW (pN s 0 (nI 0)) (nI 2786))) (y := (nI 6)) (tgt := 81) dX12_work_76 (by decide) (fun c9 => ?_) (fun c9 => ?_)
          · replace h := it_f c9 h
            refine jg_aload_n dX12_work_81 rfl ?_
            refine rs_ga fl_X12_13 dX12_work_82 hr rfl ?_
            refine jg_sipush (v := nI 2787) dX12_work_85 (by decide) ?_
            refine jg_iconst (v := nI 4) dX12_work_88 (by decide) ?_
            refine jg_iload dX12_work_89 rfl ?_
            refine jg_imul (x := (nI 4)) (y := (gW (pN s 0 (nI 0)) (nI 2786))) dX12_work_91  ?_
            refine jg_iadd (x := (nI 2787)) (y := ((nI 4) * (gW (pN s 0 (nI 0)) (nI 2786)))) dX12_work_92  ?_
            refine jg_iload_n dX12_work_93 rfl ?_
            obtain ⟨q10, h⟩ := gd_some h
            refine rs_swD (s := (pN s 0 (nI 0))) (i := ((nI 2787) + ((nI 4) * (gW (pN s 0 (nI 0)) (nI 2786))))) (x := a1) dX12_work_94 hr q10 ?_
            refine jg_aload_n dX12_work_95 rfl ?_
            refine rs_ga fl_X12_13 dX12_work_96 hr rfl ?_
            refine jg_sipush (v := nI 2787) dX12_work_99 (by decide) ?_
            refine jg_iconst (v := nI 4) dX12_work_102 (by decide) ?_
            refine jg_iload dX12_work_103 rfl ?_
            refine jg_imul (x := (nI 4)) (y := (gW (pN s 0 (nI 0)) (nI 2786))) dX12_work_105  ?_
            refine jg_iadd (x := (nI 2787)) (y := ((nI 4) * (gW (pN s 0 (nI 0)) (nI 2786)))) dX12_work_106  ?_
            refine jg_iconst (v := nI 1) dX12_work_107 (by decide) ?_
            refine jg_iadd (x := ((nI 2787) + ((nI 4) * (gW (pN s 0 (nI 0)) (nI 2786))))) (y := (nI 1)) dX12_work_108  ?_
            refine jg_iload_n dX12_work_109 rfl ?_
            refine jg_bipush (v := nI 100) dX12_work_110 (by decide) ?_
            refine jg_iload dX12_work_112 rfl ?_
            refine jg_isub (x := (nI 100)) (y := a4) dX12_work_114  ?_
            refine jg_imul (x := a2) (y := ((nI 100) - a4)) dX12_work_115  ?_
            refine jg_bipush (v := nI 100) dX12_work_116 (by decide) ?_
            refine jg_idiv (x := (a2 * ((nI 100) - a4))) (y := (nI 100)) dX12_work_118 (by decide) ?_
            obtain ⟨q11, h⟩ := gd_some h
            refine rs_swD (s := (pW (pN s 0 (nI 0)) ((nI 2787) + ((nI 4) * (gW (pN s 0 (nI 0)) (nI 2786)))) a1)) (i := (((nI 2787) + ((nI 4) * (gW (pN s 0 (nI 0)) (nI 2786)))) + (nI 1))) (x := ((a2 * ((nI 100) - a4)) / (nI 100))) dX12_work_119 hr q11 ?_
            refine jg_aload_n dX12_work_120 rfl ?_
            refine rs_ga fl_X12_13 dX12_work_121 hr rfl ?_
            refine jg_sipush (v := nI 2787) dX12_work_124 (by decide) ?_
            refine jg_iconst (v := nI 4) dX12_work_127 (by decide) ?_
            refine jg_iload dX12_work_128 rfl ?_
            refine jg_imul (x := (nI 4)) (y := (gW (pN s 0 (nI 0)) (nI 2786))) dX12_work_130  ?_
            refine jg_iadd (x := (nI 2787)) (y := ((nI 4) * (gW (pN s 0 (nI 0)) (nI 2786)))) dX12_work_131  ?_
            refine jg_iconst (v := nI 2) dX12_work_132 (by decide) ?_
            refine jg_iadd (x := ((nI 2787) + ((nI 4) * (gW (pN s 0 (nI 0)) (nI 2786))))) (y := (nI 2)) dX12_work_133  ?_
            refine jg_iload_n dX12_work_134 rfl ?_
            obtain ⟨q12, h⟩ := gd_some h
            refine rs_swD (s := (pW (pW (pN s 0 (nI 0)) ((nI 2787) + ((nI 4) * (gW (pN s 0 (nI 0)) (nI 2786)))) a1) (((nI 2787) + ((nI 4) * (gW (pN s 0 (nI 0)) (nI 2786)))) + (nI 1)) ((a2 * ((nI 100) - a4)) / (nI 100)))) (i := (((nI 2787) + ((nI 4) * (gW (pN s 0 (nI 0)) (nI 2786)))) + (nI 2))) (x := a3) dX12_work_135 hr q12 ?_
            refine jg_aload_n dX12_work_136 rfl ?_
            refine rs_ga fl_X12_13 dX12_work_137 hr rfl ?_
            refine jg_sipush (v := nI 2786) dX12_work_140 (by decide) ?_
            refine jg_dup2 dX12_work_143 rfl rfl ?_
            refine rs_lwD (s := (pW (pW (pW (pN s 0 (nI 0)) ((nI 2787) + ((nI 4) * (gW (pN s 0 (nI 0)) (nI 2786)))) a1) (((nI 2787) + ((nI 4) * (gW (pN s 0 (nI 0)) (nI 2786)))) + (nI 1)) ((a2 * ((nI 100) - a4)) / (nI 100))) (((nI 2787) + ((nI 4) * (gW (pN s 0 (nI 0)) (nI 2786)))) + (nI 2)) a3)) (i := (nI 2786)) dX12_work_144 hr (by decide) ?_
            refine jg_iconst (v := nI 1) dX12_work_145 (by decide) ?_
            refine jg_iadd (x := (gW (pW (pW (pW (pN s 0 (nI 0)) ((nI 2787) + ((nI 4) * (gW (pN s 0 (nI 0)) (nI 2786)))) a1) (((nI 2787) + ((nI 4) * (gW (pN s 0 (nI 0)) (nI 2786)))) + (nI 1)) ((a2 * ((nI 100) - a4)) / (nI 100))) (((nI 2787) + ((nI 4) * (gW (pN s 0 (nI 0)) (nI 2786)))) + (nI 2)) a3) (nI 2786))) (y := (nI 1)) dX12_work_146  ?_
            refine rs_swD (s := (pW (pW (pW (pN s 0 (nI 0)) ((nI 2787) + ((nI 4) * (gW (pN s 0 (nI 0)) (nI 2786)))) a1) (((nI 2787) + ((nI 4) * (gW (pN s 0 (nI 0)) (nI 2786)))) + (nI 1)) ((a2 * ((nI 100) - a4)) / (nI 100))) (((nI 2787) + ((nI 4) * (gW (pN s 0 (nI 0)) (nI 2786)))) + (nI 2)) a3)) (i := (nI 2786)) (x := ((gW (pW (pW (pW (pN s 0 (nI 0)) ((nI 2787) + ((nI 4) * (gW (pN s 0 (nI 0)) (nI 2786)))) a1) (((nI 2787) + ((nI 4) * (gW (pN s 0 (nI 0)) (nI 2786)))) + (nI 1)) ((a2 * ((nI 100) - a4)) / (nI 100))) (((nI 2787) + ((nI 4) * (gW (pN s 0 (nI 0)) (nI 2786)))) + (nI 2)) a3) (nI 2786)) + (nI 1))) dX12_work_147 hr (by decide) ?_
            refine jg_iload dX12_work_148 rfl ?_
            refine jg_iconst (v := nI 1) dX12_work_150 (by decide) ?_
            refine jg_iadd (x := (gW (pN s 0 (nI 0)) (nI 2786))) (y := (nI 1)) dX12_work_151  ?_
            obtain rfl := Option.some.inj h
            exact jg_ireturn dX12_work_152 rfl ⟨rfl, rfl⟩
          · replace h := it_t c9 h
            refine jg_iconst (v := (-1)) dX12_work_79 (by decide) ?_
            obtain rfl := Option.some.inj h
            exact jg_ireturn dX12_work_80 rfl ⟨rfl, rfl⟩
        · replace h := it_t c8 h
          refine jg_iconst (v := nI 1) dX12_work_48 (by decide) ?_
          refine jg_goto (tgt := 53) dX12_work_49 (by decide) ?_
          refine jg_iconst (v := nI 1) dX12_work_53 (by decide) ?_
          refine rs_call (As := [.int (nI 1), .int (nI 1)]) kv_X12_69 dX12_work_54 hr rfl rfl (by decide) (Nat.le_of_ble_eq_true rfl) rfl (by decide) (Nat.le_of_ble_eq_true rfl) (t_X12_throwsIf hr (pN s 0 (nI 0)) (nI 1) (nI 1) (o_thr1 (pN s 0 (nI 0)) (nI 1))) ?_
          refine jg_if_eq (x := (nI 1)) (tgt := 62) dX12_work_57 (by decide) (fun q9 => absurd q9 (by decide)) (fun _ => ?_)
          refine jg_iconst (v := nI 0) dX12_work_60 (by decide) ?_
          obtain rfl := Option.some.inj h
          exact jg_ireturn dX12_work_61 rfl ⟨rfl, rfl⟩
theorem dX12_worthOf_0 : decode cX12_worthOf 0 = .ok (.iload_n 1, 1) := by decide +kernel
theorem dX12_worthOf_1 : decode cX12_worthOf 1 = .ok (.istore_n 3, 1) := by decide +kernel
theorem dX12_worthOf_2 : decode cX12_worthOf 2 = .ok (.iconst 0, 1) := by decide +kernel
theorem dX12_worthOf_3 : decode cX12_worthOf 3 = .ok (.istore 4, 2) := by decide +kernel
theorem dX12_worthOf_5 : decode cX12_worthOf 5 = .ok (.iconst 0, 1) := by decide +kernel
theorem dX12_worthOf_6 : decode cX12_worthOf 6 = .ok (.istore 5, 2) := by decide +kernel
theorem dX12_worthOf_8 : decode cX12_worthOf 8 = .ok (.iload 5, 2) := by decide +kernel
theorem dX12_worthOf_10 : decode cX12_worthOf 10 = .ok (.bipush 30, 2) := by decide +kernel
theorem dX12_worthOf_12 : decode cX12_worthOf 12 = .ok (.if_icmp .ge 107, 3) := by decide +kernel
theorem dX12_worthOf_15 : decode cX12_worthOf 15 = .ok (.iload_n 3, 1) := by decide +kernel
theorem dX12_worthOf_16 : decode cX12_worthOf 16 = .ok (.iload 4, 2) := by decide +kernel
theorem dX12_worthOf_18 : decode cX12_worthOf 18 = .ok (.iadd, 1) := by decide +kernel
theorem dX12_worthOf_19 : decode cX12_worthOf 19 = .ok (.istore_n 3, 1) := by decide +kernel
theorem dX12_worthOf_20 : decode cX12_worthOf 20 = .ok (.iconst 0, 1) := by decide +kernel
theorem dX12_worthOf_21 : decode cX12_worthOf 21 = .ok (.istore 6, 2) := by decide +kernel
theorem dX12_worthOf_23 : decode cX12_worthOf 23 = .ok (.iload 6, 2) := by decide +kernel
theorem dX12_worthOf_25 : decode cX12_worthOf 25 = .ok (.aload_n 0, 1) := by decide +kernel
theorem dX12_worthOf_26 : decode cX12_worthOf 26 = .ok (.getfield 13, 3) := by decide +kernel
theorem dX12_worthOf_29 : decode cX12_worthOf 29 = .ok (.sipush 2786, 3) := by decide +kernel
theorem dX12_worthOf_32 : decode cX12_worthOf 32 = .ok (.iaload, 1) := by decide +kernel
theorem dX12_worthOf_33 : decode cX12_worthOf 33 = .ok (.if_icmp .ge 80, 3) := by decide +kernel
theorem dX12_worthOf_36 : decode cX12_worthOf 36 = .ok (.sipush 2787, 3) := by decide +kernel
theorem dX12_worthOf_39 : decode cX12_worthOf 39 = .ok (.iconst 4, 1) := by decide +kernel
theorem dX12_worthOf_40 : decode cX12_worthOf 40 = .ok (.iload 6, 2) := by decide +kernel
theorem dX12_worthOf_42 : decode cX12_worthOf 42 = .ok (.imul, 1) := by decide +kernel
theorem dX12_worthOf_43 : decode cX12_worthOf 43 = .ok (.iadd, 1) := by decide +kernel
theorem dX12_worthOf_44 : decode cX12_worthOf 44 = .ok (.istore 7, 2) := by decide +kernel
theorem dX12_worthOf_46 : decode cX12_worthOf 46 = .ok (.iload_n 2, 1) := by decide +kernel
theorem dX12_worthOf_47 : decode cX12_worthOf 47 = .ok (.iload 6, 2) := by decide +kernel
theorem dX12_worthOf_49 : decode cX12_worthOf 49 = .ok (.ishr, 1) := by decide +kernel
theorem dX12_worthOf_50 : decode cX12_worthOf 50 = .ok (.iconst 1, 1) := by decide +kernel
theorem dX12_worthOf_51 : decode cX12_worthOf 51 = .ok (.iand, 1) := by decide +kernel
theorem dX12_worthOf_52 : decode cX12_worthOf 52 = .ok (.ifCond .eq 55, 3) := by decide +kernel
theorem dX12_worthOf_55 : decode cX12_worthOf 55 = .ok (.aload_n 0, 1) := by decide +kernel
theorem dX12_worthOf_56 : decode cX12_worthOf 56 = .ok (.getfield 13, 3) := by decide +kernel
theorem dX12_worthOf_59 : decode cX12_worthOf 59 = .ok (.iload 7, 2) := by decide +kernel
theorem dX12_worthOf_61 : decode cX12_worthOf 61 = .ok (.iconst 2, 1) := by decide +kernel
theorem dX12_worthOf_62 : decode cX12_worthOf 62 = .ok (.iadd, 1) := by decide +kernel
theorem dX12_worthOf_63 : decode cX12_worthOf 63 = .ok (.iaload, 1) := by decide +kernel
theorem dX12_worthOf_64 : decode cX12_worthOf 64 = .ok (.iload 5, 2) := by decide +kernel
theorem dX12_worthOf_66 : decode cX12_worthOf 66 = .ok (.if_icmp .ne 41, 3) := by decide +kernel
theorem dX12_worthOf_69 : decode cX12_worthOf 69 = .ok (.aload_n 0, 1) := by decide +kernel
theorem dX12_worthOf_70 : decode cX12_worthOf 70 = .ok (.getfield 13, 3) := by decide +kernel
theorem dX12_worthOf_73 : decode cX12_worthOf 73 = .ok (.iload 7, 2) := by decide +kernel
theorem dX12_worthOf_75 : decode cX12_worthOf 75 = .ok (.iaload, 1) := by decide +kernel
theorem dX12_worthOf_76 : decode cX12_worthOf 76 = .ok (.iload_n 3, 1) := by decide +kernel
theorem dX12_worthOf_77 : decode cX12_worthOf 77 = .ok (.if_icmp .le 6, 3) := by decide +kernel
theorem dX12_worthOf_80 : decode cX12_worthOf 80 = .ok (.goto 27, 3) := by decide +kernel
theorem dX12_worthOf_83 : decode cX12_worthOf 83 = .ok (.iload_n 3, 1) := by decide +kernel
theorem dX12_worthOf_84 : decode cX12_worthOf 84 = .ok (.aload_n 0, 1) := by decide +kernel
theorem dX12_worthOf_85 : decode cX12_worthOf 85 = .ok (.getfield 13, 3) := by decide +kernel
theorem dX12_worthOf_88 : decode cX12_worthOf 88 = .ok (.iload 7, 2) := by decide +kernel
theorem dX12_worthOf_90 : decode cX12_worthOf 90 = .ok (.iaload, 1) := by decide +kernel
theorem dX12_worthOf_91 : decode cX12_worthOf 91 = .ok (.isub, 1) := by decide +kernel
theorem dX12_worthOf_92 : decode cX12_worthOf 92 = .ok (.istore_n 3, 1) := by decide +kernel
theorem dX12_worthOf_93 : decode cX12_worthOf 93 = .ok (.iload 4, 2) := by decide +kernel
theorem dX12_worthOf_95 : decode cX12_worthOf 95 = .ok (.aload_n 0, 1) := by decide +kernel
theorem dX12_worthOf_96 : decode cX12_worthOf 96 = .ok (.getfield 13, 3) := by decide +kernel
theorem dX12_worthOf_99 : decode cX12_worthOf 99 = .ok (.iload 7, 2) := by decide +kernel
theorem dX12_worthOf_101 : decode cX12_worthOf 101 = .ok (.iconst 1, 1) := by decide +kernel
theorem dX12_worthOf_102 : decode cX12_worthOf 102 = .ok (.iadd, 1) := by decide +kernel
theorem dX12_worthOf_103 : decode cX12_worthOf 103 = .ok (.iaload, 1) := by decide +kernel
theorem dX12_worthOf_104 : decode cX12_worthOf 104 = .ok (.iadd, 1) := by decide +kernel
theorem dX12_worthOf_105 : decode cX12_worthOf 105 = .ok (.istore 4, 2) := by decide +kernel
theorem dX12_worthOf_107 : decode cX12_worthOf 107 = .ok (.iinc 6 1, 3) := by decide +kernel
theorem dX12_worthOf_110 : decode cX12_worthOf 110 = .ok (.goto (-87), 3) := by decide +kernel
theorem dX12_worthOf_113 : decode cX12_worthOf 113 = .ok (.iinc 5 1, 3) := by decide +kernel
theorem dX12_worthOf_116 : decode cX12_worthOf 116 = .ok (.goto (-108), 3) := by decide +kernel
theorem dX12_worthOf_119 : decode cX12_worthOf 119 = .ok (.iload_n 3, 1) := by decide +kernel
theorem dX12_worthOf_120 : decode cX12_worthOf 120 = .ok (.ireturn, 1) := by decide +kernel
noncomputable def o_X12_worthOf_23 (F : Nat) (l2 : Int32) (l5 : Int32) (s : rs_S) : Nat → Int32 → Int32 → Int32 → Option (Int32 × Int32)
  | 0, _, _, _ => none
  | f + 1, l3, l4, l6 => if (gW s (nI 2786)) ≤ l6 then (some (l3, l4)) else (if ((l2 >>> (l6 &&& 31)) &&& (nI 1)) = 0 then (o_X12_worthOf_23 F l2 l5 s f l3 l4 (l6 + nI 1)) else (if iL (((nI 2787) + ((nI 4) * l6)) + (nI 2)) 22216 then (if (gW s (((nI 2787) + ((nI 4) * l6)) + (nI 2))) = l5 then (if iL ((nI 2787) + ((nI 4) * l6)) 22216 then (if (gW s ((nI 2787) + ((nI 4) * l6))) ≤ l3 then (if iL (((nI 2787) + ((nI 4) * l6)) + (nI 1)) 22216 then (o_X12_worthOf_23 F l2 l5 s f (l3 - (gW s ((nI 2787) + ((nI 4) * l6)))) (l4 + (gW s (((nI 2787) + ((nI 4) * l6)) + (nI 1)))) (l6 + nI 1)) else none) else (o_X12_worthOf_23 F l2 l5 s f l3 l4 (l6 + nI 1))) else none) else (o_X12_worthOf_23 F l2 l5 s f l3 l4 (l6 + nI 1))) else none))
set_option maxHeartbeats 4000000 in
theorem t_X12_worthOf_23 {Γ : jg_G} {g : Nat → jg_C} {n r : Nat} (hr : r + 11 ≤ n) (F : Nat) (l2 : Int32) (l5 : Int32) (s : rs_S)  (Q : jg_Q) {x : Int32 × Int32} (K1 : jg Γ mX12_worthOf 0 0 0 113 [some (.ref r), none, some (.int l2), some (.int x.1), some (.int x.2), some (.int l5), none, none] [] (rs_h g r s, n) Q)  : ∀ (f : Nat) (l3 : Int32) (l4 : Int32) (l6 : Int32), o_X12_worthOf_23 F l2 l5 s f l3 l4 l6 = some x → jg Γ mX12_worthOf 0 0 0 23 [some (.ref r), none, some (.int l2), some (.int l3), some (.int l4), some (.int l5), some (.int l6), none] [] (rs_h g r s, n) Q := by
  intro f
  induction f with
  | zero => intro l3 l4 l6 h; rw [o_X12_worthOf_23] at h; cases h
  | succ f ih =>
   intro l3 l4 l6 h
   rw [o_X12_worthOf_23] at h
   refine jg_iload dX12_worthOf_23 rfl ?_
   refine jg_aload_n dX12_worthOf_25 rfl ?_
   refine rs_ga fl_X12_13 dX12_worthOf_26 hr rfl ?_
   refine jg_sipush (v := nI 2786) dX12_worthOf_29 (by decide) ?_
   refine rs_lwD (s := s) (i := (nI 2786)) dX12_worthOf_32 hr (by decide) ?_
   refine jg_icmp_ge (x := l6) (y := (gW s (nI 2786))) (tgt := 113) dX12_worthOf_33 (by decide) (fun c2 => ?_) (fun c2 => ?_)
   · replace h := it_t c2 h
     refine jg_fg (L' := [some (.ref r), none, some (.int l2), some (.int l3), some (.int l4), some (.int l5), none, none]) (by repeat (first | exact trivial | refine ⟨rfl, ?_⟩ | show jg_le _ _)) ?_
     obtain rfl := Option.some.inj h
     exact K1
   · replace h := it_f c2 h
     refine jg_sipush (v := nI 2787) dX12_worthOf_36 (by decide) ?_
     refine jg_iconst (v := nI 4) dX12_worthOf_39 (by decide) ?_
     refine jg_iload dX12_worthOf_40 rfl ?_
     refine jg_imul (x := (nI 4)) (y := l6) dX12_worthOf_42  ?_
     refine jg_iadd (x := (nI 2787)) (y := ((nI 4) * l6)) dX12_worthOf_43  ?_
     refine jg_istore (L' := [some (.ref r), none, some (.int l2), some (.int l3), some (.int l4), some (.int l5), some (.int l6), some (.int ((nI 2787) + ((nI 4) * l6)))]) dX12_worthOf_44 (by decide) rfl ?_
     refine jg_iload_n dX12_worthOf_46 rfl ?_
     refine jg_iload dX12_worthOf_47 rfl ?_
     refine jg_ishr (x := l2) (y := l6) dX12_worthOf_49  ?_
     refine jg_iconst (v := nI 1) dX12_worthOf_50 (by decide) ?_
     refine jg_iand (x := (l2 >>> (l6 &&& 31))) (y := (nI 1)) dX12_worthOf_51  ?_
     refine jg_if_eq (x := ((l2 >>> (l6 &&& 31)) &&& (nI 1))) (tgt := 107) dX12_worthOf_52 (by decide) (fun c3 => ?_) (fun c3 => ?_)
     · replace h := it_t c3 h
       refine jg_iinc (x := l6) (v := l6 + nI 1) (L' := [some (.ref r), none, some (.int l2), some (.int l3), some (.int l4), some (.int l5), some (.int (l6 + nI 1)), some (.int ((nI 2787) + ((nI 4) * l6)))]) dX12_worthOf_107 rfl (ic_k _ (by decide)) (by decide) rfl ?_
       refine jg_goto (tgt := 23) dX12_worthOf_110 (by decide) ?_
       refine jg_fg (L' := [some (.ref r), none, some (.int l2), some (.int l3), some (.int l4), some (.int l5), some (.int (l6 + nI 1)), none]) (by repeat (first | exact trivial | refine ⟨rfl, ?_⟩ | show jg_le _ _)) ?_
       exact ih l3 l4 (l6 + nI 1) h
     · replace h := it_f c3 h
       refine jg_aload_n dX12_worthOf_55 rfl ?_
       refine rs_ga fl_X12_13 dX12_worthOf_56 hr rfl ?_
       refine jg_iload dX12_worthOf_59 rfl ?_
       refine jg_iconst (v := nI 2) dX12_worthOf_61 (by decide) ?_
       refine jg_iadd (x := ((nI 2787) + ((nI 4) * l6))) (y := (nI 2)) dX12_worthOf_62  ?_
       obtain ⟨q4, h⟩ := gd_some h
       refine rs_lwD (s := s) (i := (((nI 2787) + ((nI 4) * l6)) + (nI 2))) dX12_worthOf_63 hr q4 ?_
       refine jg_iload dX12_worthOf_64 rfl ?_
       refine jg_icmp_ne (x := (gW s (((nI 2787) + ((nI 4) * l6)) + (nI 2)))) (y := l5) (tgt := 107) dX12_worthOf_66 (by decide) (fun c5 => ?_) (fun c5 => ?_)
       · replace h := it_f c5 h
         refine jg_iinc (x := l6) (v := l6 + nI 1) (L' := [some (.ref r), none, some (.int l2), some (.int l3), some (.int l4), some (.int l5), some (.int (l6 + nI 1)), some (.int ((nI 2787) + ((nI 4) * l6)))]) dX12_worthOf_107 rfl (ic_k _ (by decide)) (by decide) rfl ?_
         refine jg_goto (tgt := 23) dX12_worthOf_110 (by decide) ?_
         refine jg_fg (L' := [some (.ref r), none, some (.int l2), some (.int l3), some (.int l4), some (.int l5), some (.int (l6 + nI 1)), none]) (by repeat (first | exact trivial | refine ⟨rfl, ?_⟩ | show jg_le _ _)) ?_
         exact ih l3 l4 (l6 + nI 1) h
       · replace h := it_t c5 h
         refine jg_aload_n dX12_worthOf_69 rfl ?_
         refine rs_ga fl_X12_13 dX12_worthOf_70 hr rfl ?_
         refine jg_iload dX12_worthOf_73 rfl ?_
         obtain ⟨q6, h⟩ := gd_some h
         refine rs_lwD (s := s) (i := ((nI 2787) + ((nI 4) * l6))) dX12_worthOf_75 hr q6 ?_
         refine jg_iload_n dX12_worthOf_76 rfl ?_
         refine jg_icmp_le (x := (gW s ((nI 2787) + ((nI 4) * l6)))) (y := l3) (tgt := 83) dX12_worthOf_77 (by decide) (fun c7 => ?_) (fun c7 => ?_)
         · replace h := it_t c7 h
           refine jg_iload_n dX12_worthOf_83 rfl ?_
           refine jg_aload_n dX12_worthOf_84 rfl ?_
           refine rs_ga fl_X12_13 dX12_worthOf_85 hr rfl ?_
           refine jg_iload dX12_worthOf_88 rfl ?_
           refine rs_lwD (s := s) (i := ((nI 2787) + ((nI 4) * l6))) dX12_worthOf_90 hr q6 ?_
           refine jg_isub (x := l3) (y := (gW s ((nI 2787) + ((nI 4) * l6)))) dX12_worthOf_91  ?_
           refine jg_istore_n (L' := [some (.ref r), none, some (.int l2), some (.int (l3 - (gW s ((nI 2787) + ((nI 4) * l6))))), some (.int l4), some (.int l5), some (.int l6), some (.int ((nI 2787) + ((nI 4) * l6)))]) dX12_worthOf_92 (by decide) rfl ?_
           refine jg_iload dX12_worthOf_93 rfl ?_
           refine jg_aload_n dX12_worthOf_95 rfl ?_
           refine rs_ga fl_X12_13 dX12_worthOf_96 hr rfl ?_
           refine jg_iload dX12_worthOf_99 rfl ?_
           refine jg_iconst (v := nI 1) dX12_worthOf_101 (by decide) ?_
           refine jg_iadd (x := ((nI 2787) + ((nI 4) * l6))) (y := (nI 1)) dX12_worthOf_102  ?_
           obtain ⟨q8, h⟩ := gd_some h
           refine rs_lwD (s := s) (i := (((nI 2787) + ((nI 4) * l6)) + (nI 1))) dX12_worthOf_103 hr q8 ?_
           refine jg_iadd (x := l4) (y := (gW s (((nI 2787) + ((nI 4) * l6)) + (nI 1)))) dX12_worthOf_104  ?_
           refine jg_istore (L' := [some (.ref r), none, some (.int l2), some (.int (l3 - (gW s ((nI 2787) + ((nI 4) * l6))))), some (.int (l4 + (gW s (((nI 2787) + ((nI 4) * l6)) + (nI 1))))), some (.int l5), some (.int l6), some (.int ((nI 2787) + ((nI 4) * l6)))]) dX12_worthOf_105 (by decide) rfl ?_
           refine jg_iinc (x := l6) (v := l6 + nI 1) (L' := [some (.ref r), none, some (.int l2), some (.int (l3 - (gW s ((nI 2787) + ((nI 4) * l6))))), some (.int (l4 + (gW s (((nI 2787) + ((nI 4) * l6)) + (nI 1))))), some (.int l5), some (.int (l6 + nI 1)), some (.int ((nI 2787) + ((nI 4) * l6)))]) dX12_worthOf_107 rfl (ic_k _ (by decide)) (by decide) rfl ?_
           refine jg_goto (tgt := 23) dX12_worthOf_110 (by decide) ?_
           refine jg_fg (L' := [some (.ref r), none, some (.int l2), some (.int (l3 - (gW s ((nI 2787) + ((nI 4) * l6))))), some (.int (l4 + (gW s (((nI 2787) + ((nI 4) * l6)) + (nI 1))))), some (.int l5), some (.int (l6 + nI 1)), none]) (by repeat (first | exact trivial | refine ⟨rfl, ?_⟩ | show jg_le _ _)) ?_
           exact ih (l3 - (gW s ((nI 2787) + ((nI 4) * l6)))) (l4 + (gW s (((nI 2787) + ((nI 4) * l6)) + (nI 1)))) (l6 + nI 1) h
         · replace h := it_f c7 h
           refine jg_goto (tgt := 107) dX12_worthOf_80 (by decide) ?_
           refine jg_iinc (x := l6) (v := l6 + nI 1) (L' := [some (.ref r), none, some (.int l2), some (.int l3), some (.int l4), some (.int l5), some (.int (l6 + nI 1)), some (.int ((nI 2787) + ((nI 4) * l6)))]) dX12_worthOf_107 rfl (ic_k _ (by decide)) (by decide) rfl ?_
           refine jg_goto (tgt := 23) dX12_worthOf_110 (by decide) ?_
           refine jg_fg (L' := [some (.ref r), none, some (.int l2), some (.int l3), some (.int l4), some (.int l5), some (.int (l6 + nI 1)), none]) (by repeat (first | exact trivial | refine ⟨rfl, ?_⟩ | show jg_le _ _)) ?_
           exact ih l3 l4 (l6 + nI 1) h
noncomputable def o_X12_worthOf_8 (F : Nat) (l2 : Int32) (s : rs_S) : Nat → Int32 → Int32 → Int32 → Option (Int32)
  | 0, _, _, _ => none
  | f + 1, l3, l4, l5 => if (nI 30) ≤ l5 then (some l3) else ((o_X12_worthOf_23 F l2 l5 s F (l3 + l4) l4 (nI 0)).bind fun x9 => (o_X12_worthOf_8 F l2 s f x9.1 x9.2 (l5 + nI 1)))
set_option maxHeartbeats 4000000 in
theorem t_X12_worthOf_8 {Γ : jg_G} {g : Nat → jg_C} {n r : Nat} (hr : r + 11 ≤ n) (F : Nat) (l2 : Int32) (s : rs_S)  (Q : jg_Q) {x : Int32} (K1 : jg Γ mX12_worthOf 0 0 0 119 [none, none, none, some (.int x), none, none, none, none] [] (rs_h g r s, n) Q)  : ∀ (f : Nat) (l3 : Int32) (l4 : Int32) (l5 : Int32), o_X12_worthOf_8 F l2 s f l3 l4 l5 = some x → jg Γ mX12_worthOf 0 0 0 8 [some (.ref r), none, some (.int l2), some (.int l3), some (.int l4), some (.int l5), none, none] [] (rs_h g r s, n) Q := by
  intro f
  induction f with
  | zero => intro l3 l4 l5 h; rw [o_X12_worthOf_8] at h; cases h
  | succ f ih =>
   intro l3 l4 l5 h
   rw [o_X12_worthOf_8] at h
   refine jg_iload dX12_worthOf_8 rfl ?_
   refine jg_bipush (v := nI 30) dX12_worthOf_10 (by decide) ?_
   refine jg_icmp_ge (x := l5) (y := (nI 30)) (tgt := 119) dX12_worthOf_12 (by decide) (fun c1 => ?_) (fun c1 => ?_)
   · replace h := it_t c1 h
     refine jg_fg (L' := [none, none, none, some (.int l3), none, none, none, none]) (by repeat (first | exact trivial | refine ⟨rfl, ?_⟩ | show jg_le _ _)) ?_
     obtain rfl := Option.some.inj h
     exact K1
   · replace h := it_f c1 h
     refine jg_iload_n dX12_worthOf_15 rfl ?_
     refine jg_iload dX12_worthOf_16 rfl ?_
     refine jg_iadd (x := l3) (y := l4) dX12_worthOf_18  ?_
     refine jg_istore_n (L' := [some (.ref r), none, some (.int l2), some (.int (l3 + l4)), some (.int l4), some (.int l5), none, none]) dX12_worthOf_19 (by decide) rfl ?_
     refine jg_iconst (v := nI 0) dX12_worthOf_20 (by decide) ?_
     refine jg_istore (L' := [some (.ref r), none, some (.int l2), some (.int (l3 + l4)), some (.int l4), some (.int l5), some (.int (nI 0)), none]) dX12_worthOf_21 (by decide) rfl ?_
     obtain ⟨x9, e_x9, h⟩ := bd_some h
     refine jg_fg (L' := [some (.ref r), none, some (.int l2), some (.int (l3 + l4)), some (.int l4), some (.int l5), some (.int (nI 0)), none]) (by repeat (first | exact trivial | refine ⟨rfl, ?_⟩ | show jg_le _ _)) ?_
     refine t_X12_worthOf_23 hr F l2 l5 s  _ (x := x9) ?_ F (l3 + l4) l4 (nI 0) e_x9
     refine jg_iinc (x := l5) (v := l5 + nI 1) (L' := [some (.ref r), none, some (.int l2), some (.int x9.1), some (.int x9.2), some (.int (l5 + nI 1)), none, none]) dX12_worthOf_113 rfl (ic_k _ (by decide)) (by decide) rfl ?_
     refine jg_goto (tgt := 8) dX12_worthOf_116 (by decide) ?_
     refine jg_fg (L' := [some (.ref r), none, some (.int l2), some (.int x9.1), some (.int x9.2), some (.int (l5 + nI 1)), none, none]) (by repeat (first | exact trivial | refine ⟨rfl, ?_⟩ | show jg_le _ _)) ?_
     exact ih x9.1 x9.2 (l5 + nI 1) h
noncomputable def o_X12_worthOf (F : Nat) (s : rs_S) (a1 : Int32) (a2 : Int32) : Option (Int32) := (o_X12_worthOf_8 F a2 s F a1 (nI 0) (nI 0)).bind fun x10 => (some x10)
set_option maxHeartbeats 4000000 in
theorem t_X12_worthOf {Γ : jg_G} {g : Nat → jg_C} {n r : Nat} (hr : r + 11 ≤ n) (F : Nat) (s : rs_S) (a1 : Int32) (a2 : Int32)  {x : Int32} (h : o_X12_worthOf F s a1 a2 = some x) : jc Γ mX12_worthOf 0 0 0 [some (.ref r), some (.int a1), some (.int a2), none, none, none, none, none] (rs_h g r s, n) (.inl (some (.int x))) (rs_h g r s, n) := by
  refine jc_of ?_
  rw [o_X12_worthOf] at h
  refine jg_iload_n dX12_worthOf_0 rfl ?_
  refine jg_istore_n (L' := [some (.ref r), some (.int a1), some (.int a2), some (.int a1), none, none, none, none]) dX12_worthOf_1 (by decide) rfl ?_
  refine jg_iconst (v := nI 0) dX12_worthOf_2 (by decide) ?_
  refine jg_istore (L' := [some (.ref r), some (.int a1), some (.int a2), some (.int a1), some (.int (nI 0)), none, none, none]) dX12_worthOf_3 (by decide) rfl ?_
  refine jg_iconst (v := nI 0) dX12_worthOf_5 (by decide) ?_
  refine jg_istore (L' := [some (.ref r), some (.int a1), some (.int a2), some (.int a1), some (.int (nI 0)), some (.int (nI 0)), none, none]) dX12_worthOf_6 (by decide) rfl ?_
  obtain ⟨x10, e_x10, h⟩ := bd_some h
  refine jg_fg (L' := [some (.ref r), none, some (.int a2), some (.int a1), some (.int (nI 0)), some (.int (nI 0)), none, none]) (by repeat (first | exact trivial | refine ⟨rfl, ?_⟩ | show jg_le _ _)) ?_
  refine t_X12_worthOf_8 hr F a2 s  _ (x := x10) ?_ F a1 (nI 0) (nI 0) e_x10
  refine jg_iload_n dX12_worthOf_119 rfl ?_
  obtain rfl := Option.some.inj h
  exact jg_ireturn dX12_worthOf_120 rfl ⟨rfl, rfl⟩
theorem dX12_worth_0 : decode cX12_worth 0 = .ok (.aload_n 0, 1) := by decide +kernel
theorem dX12_worth_1 : decode cX12_worth 1 = .ok (.iconst 0, 1) := by decide +kernel
theorem dX12_worth_2 : decode cX12_worth 2 = .ok (.putfield 3, 3) := by decide +kernel
theorem dX12_worth_5 : decode cX12_worth 5 = .ok (.aload_n 0, 1) := by decide +kernel
theorem dX12_worth_6 : decode cX12_worth 6 = .ok (.iload_n 1, 1) := by decide +kernel
theorem dX12_worth_7 : decode cX12_worth 7 = .ok (.iconst 0, 1) := by decide +kernel
theorem dX12_worth_8 : decode cX12_worth 8 = .ok (.ldc 110, 2) := by decide +kernel
theorem dX12_worth_10 : decode cX12_worth 10 = .ok (.invokestatic 49, 3) := by decide +kernel
theorem dX12_worth_13 : decode cX12_worth 13 = .ok (.ifCond .ne 7, 3) := by decide +kernel
theorem dX12_worth_16 : decode cX12_worth 16 = .ok (.iconst 1, 1) := by decide +kernel
theorem dX12_worth_17 : decode cX12_worth 17 = .ok (.goto 4, 3) := by decide +kernel
theorem dX12_worth_20 : decode cX12_worth 20 = .ok (.iconst 0, 1) := by decide +kernel
theorem dX12_worth_21 : decode cX12_worth 21 = .ok (.iconst 1, 1) := by decide +kernel
theorem dX12_worth_22 : decode cX12_worth 22 = .ok (.invokevirtual 69, 3) := by decide +kernel
theorem dX12_worth_25 : decode cX12_worth 25 = .ok (.ifCond .eq 7, 3) := by decide +kernel
theorem dX12_worth_28 : decode cX12_worth 28 = .ok (.iconst 0, 1) := by decide +kernel
theorem dX12_worth_29 : decode cX12_worth 29 = .ok (.goto 9, 3) := by decide +kernel
theorem dX12_worth_32 : decode cX12_worth 32 = .ok (.aload_n 0, 1) := by decide +kernel
theorem dX12_worth_33 : decode cX12_worth 33 = .ok (.iload_n 1, 1) := by decide +kernel
theorem dX12_worth_34 : decode cX12_worth 34 = .ok (.iload_n 2, 1) := by decide +kernel
theorem dX12_worth_35 : decode cX12_worth 35 = .ok (.invokevirtual 412, 3) := by decide +kernel
theorem dX12_worth_38 : decode cX12_worth 38 = .ok (.ireturn, 1) := by decide +kernel
noncomputable def o_X12_worth (F : Nat) (s : rs_S) (a1 : Int32) (a2 : Int32) : Option (Int32 × rs_S) := (o_X12_in (pN s 0 (nI 0)) a1 (nI 0) (nI 1000000)).bind fun x1 => (if x1 = 0 then (some (nI 0, pN (pN s 0 (nI 0)) 0 (nI 1))) else ((o_X12_worthOf F (pN s 0 (nI 0)) a1 a2).bind fun x3 => (some (x3, pN s 0 (nI 0)))))
set_option maxHeartbeats 4000000 in
theorem t_X12_worth {Γ : jg_G} {g : Nat → jg_C} {n r : Nat} (hr : r + 11 ≤ n) (F : Nat) (s : rs_S) (a1 : Int32) (a2 : Int32)  {x : Int32 × rs_S} (h : o_X12_worth F s a1 a2 = some x) : jc Γ mX12_worth 1 0 0 [some (.ref r), some (.int a1), some (.int a2)] (rs_h g r s, n) (.inl (some (.int x.1))) (rs_h g r x.2, n) := by
  refine jc_of ?_
  rw [o_X12_worth] at h
  refine jg_aload_n dX12_worth_0 rfl ?_
  refine jg_iconst (v := nI 0) dX12_worth_1 (by decide) ?_
  refine rs_putD (s := s) (k := 0) (x := (nI 0)) fl_X12_3 dX12_worth_2 hr (by decide) (rfl) rfl rfl ?_
  refine jg_aload_n dX12_worth_5 rfl ?_
  refine jg_iload_n dX12_worth_6 rfl ?_
  refine jg_iconst (v := nI 0) dX12_worth_7 (by decide) ?_
  refine jg_ldc kk_X12_110 dX12_worth_8 ?_
  rw [show (1000000 : Int32) = nI 1000000 from rfl]
  obtain ⟨x1, e_x1, h⟩ := bd_some h
  refine rs_callS (As := [.int a1, .int (nI 0), .int (nI 1000000)]) ks_X12_49 dX12_worth_10 rfl (by decide) (Nat.le_of_ble_eq_true rfl) rfl (by decide) (Nat.le_of_ble_eq_true rfl) (t_X12_in hr (pN s 0 (nI 0)) a1 (nI 0) (nI 1000000) e_x1) ?_
  refine jg_if_ne (x := x1) (tgt := 20) dX12_worth_13 (by decide) (fun c2 => ?_) (fun c2 => ?_)
  · replace h := it_f c2 h
    refine jg_iconst (v := nI 0) dX12_worth_20 (by decide) ?_
    refine jg_iconst (v := nI 1) dX12_worth_21 (by decide) ?_
    refine rs_call (As := [.int (nI 0), .int (nI 1)]) kv_X12_69 dX12_worth_22 hr rfl rfl (by decide) (Nat.le_of_ble_eq_true rfl) rfl (by decide) (Nat.le_of_ble_eq_true rfl) (t_X12_throwsIf hr (pN s 0 (nI 0)) (nI 0) (nI 1) (o_thr0 (pN s 0 (nI 0)) (nI 1))) ?_
    refine jg_if_eq (x := (nI 0)) (tgt := 32) dX12_worth_25 (by decide) (fun _ => ?_) (fun q9 => absurd q9 (by decide))
    refine jg_aload_n dX12_worth_32 rfl ?_
    refine jg_iload_n dX12_worth_33 rfl ?_
    refine jg_iload_n dX12_worth_34 rfl ?_
    obtain ⟨x3, e_x3, h⟩ := bd_some h
    refine rs_call (As := [.int a1, .int a2]) kv_X12_412 dX12_worth_35 hr rfl rfl (by decide) (Nat.le_of_ble_eq_true rfl) rfl (by decide) (Nat.le_of_ble_eq_true rfl) (t_X12_worthOf hr F (pN s 0 (nI 0)) a1 a2 e_x3) ?_
    obtain rfl := Option.some.inj h
    exact jg_ireturn dX12_worth_38 rfl ⟨rfl, rfl⟩
  · replace h := it_t c2 h
    refine jg_iconst (v := nI 1) dX12_worth_16 (by decide) ?_
    refine jg_goto (tgt := 21) dX12_worth_17 (by decide) ?_
    refine jg_iconst (v := nI 1) dX12_worth_21 (by decide) ?_
    refine rs_call (As := [.int (nI 1), .int (nI 1)]) kv_X12_69 dX12_worth_22 hr rfl rfl (by decide) (Nat.le_of_ble_eq_true rfl) rfl (by decide) (Nat.le_of_ble_eq_true rfl) (t_X12_throwsIf hr (pN s 0 (nI 0)) (nI 1) (nI 1) (o_thr1 (pN s 0 (nI 0)) (nI 1))) ?_
    refine jg_if_eq (x := (nI 1)) (tgt := 32) dX12_worth_25 (by decide) (fun q9 => absurd q9 (by decide)) (fun _ => ?_)
    refine jg_iconst (v := nI 0) dX12_worth_28 (by decide) ?_
    refine jg_goto (tgt := 38) dX12_worth_29 (by decide) ?_
    obtain rfl := Option.some.inj h
    exact jg_ireturn dX12_worth_38 rfl ⟨rfl, rfl⟩
theorem dX12_sumCells_0 : decode cX12_sumCells 0 = .ok (.iconst 0, 1) := by decide +kernel
theorem dX12_sumCells_1 : decode cX12_sumCells 1 = .ok (.istore_n 2, 1) := by decide +kernel
theorem dX12_sumCells_2 : decode cX12_sumCells 2 = .ok (.iconst 0, 1) := by decide +kernel
theorem dX12_sumCells_3 : decode cX12_sumCells 3 = .ok (.istore_n 3, 1) := by decide +kernel
theorem dX12_sumCells_4 : decode cX12_sumCells 4 = .ok (.iload_n 3, 1) := by decide +kernel
theorem dX12_sumCells_5 : decode cX12_sumCells 5 = .ok (.bipush 24, 2) := by decide +kernel
theorem dX12_sumCells_7 : decode cX12_sumCells 7 = .ok (.if_icmp .ge 20, 3) := by decide +kernel
theorem dX12_sumCells_10 : decode cX12_sumCells 10 = .ok (.iload_n 2, 1) := by decide +kernel
theorem dX12_sumCells_11 : decode cX12_sumCells 11 = .ok (.aload_n 0, 1) := by decide +kernel
theorem dX12_sumCells_12 : decode cX12_sumCells 12 = .ok (.getfield 13, 3) := by decide +kernel
theorem dX12_sumCells_15 : decode cX12_sumCells 15 = .ok (.iload_n 1, 1) := by decide +kernel
theorem dX12_sumCells_16 : decode cX12_sumCells 16 = .ok (.iload_n 3, 1) := by decide +kernel
theorem dX12_sumCells_17 : decode cX12_sumCells 17 = .ok (.iadd, 1) := by decide +kernel
theorem dX12_sumCells_18 : decode cX12_sumCells 18 = .ok (.iaload, 1) := by decide +kernel
theorem dX12_sumCells_19 : decode cX12_sumCells 19 = .ok (.iadd, 1) := by decide +kernel
theorem dX12_sumCells_20 : decode cX12_sumCells 20 = .ok (.istore_n 2, 1) := by decide +kernel
theorem dX12_sumCells_21 : decode cX12_sumCells 21 = .ok (.iinc 3 1, 3) := by decide +kernel
theorem dX12_sumCells_24 : decode cX12_sumCells 24 = .ok (.goto (-20), 3) := by decide +kernel
theorem dX12_sumCells_27 : decode cX12_sumCells 27 = .ok (.iload_n 2, 1) := by decide +kernel
theorem dX12_sumCells_28 : decode cX12_sumCells 28 = .ok (.ireturn, 1) := by decide +kernel
noncomputable def o_X12_sumCells_4 (F : Nat) (l1 : Int32) (s : rs_S) : Nat → Int32 → Int32 → Option (Int32)
  | 0, _, _ => none
  | f + 1, l2, l3 => if (nI 24) ≤ l3 then (some l2) else (if iL (l1 + l3) 22216 then (o_X12_sumCells_4 F l1 s f (l2 + (gW s (l1 + l3))) (l3 + nI 1)) else none)
set_option maxHeartbeats 4000000 in
theorem t_X12_sumCells_4 {Γ : jg_G} {g : Nat → jg_C} {n r : Nat} (hr : r + 11 ≤ n) (F : Nat) (l1 : Int32) (s : rs_S)  (Q : jg_Q) {x : Int32} (K1 : jg Γ mX12_sumCells 0 0 0 27 [none, none, some (.int x), none] [] (rs_h g r s, n) Q)  : ∀ (f : Nat) (l2 : Int32) (l3 : Int32), o_X12_sumCells_4 F l1 s f l2 l3 = some x → jg Γ mX12_sumCells 0 0 0 4 [some (.ref r), some (.int l1), some (.int l2), some (.int l3)] [] (rs_h g r s, n) Q := by
  intro f
  induction f with
  | zero => intro l2 l3 h; rw [o_X12_sumCells_4] at h; cases h
  | succ f ih =>
   intro l2 l3 h
   rw [o_X12_sumCells_4] at h
   refine jg_iload_n dX12_sumCells_4 rfl ?_
   refine jg_bipush (v := nI 24) dX12_sumCells_5 (by decide) ?_
   refine jg_icmp_ge (x := l3) (y := (nI 24)) (tgt := 27) dX12_sumCells_7 (by decide) (fun c1 => ?_) (fun c1 => ?_)
   · replace h := it_t c1 h
     refine jg_fg (L' := [none, none, some (.int l2), none]) (by repeat (first | exact trivial | refine ⟨rfl, ?_⟩ | show jg_le _ _)) ?_
     obtain rfl := Option.some.inj h
     exact K1
   · replace h := it_f c1 h
     refine jg_iload_n dX12_sumCells_10 rfl ?_
     refine jg_aload_n dX12_sumCells_11 rfl ?_
     refine rs_ga fl_X12_13 dX12_sumCells_12 hr rfl ?_
     refine jg_iload_n dX12_sumCells_15 rfl ?_
     refine jg_iload_n dX12_sumCells_16 rfl ?_
     refine jg_iadd (x := l1) (y := l3) dX12_sumCells_17  ?_
     obtain ⟨q2, h⟩ := gd_some h
     refine rs_lwD (s := s) (i := (l1 + l3)) dX12_sumCells_18 hr q2 ?_
     refine jg_iadd (x := l2) (y := (gW s (l1 + l3))) dX12_sumCells_19  ?_
     refine jg_istore_n (L' := [some (.ref r), some (.int l1), some (.int (l2 + (gW s (l1 + l3)))), some (.int l3)]) dX12_sumCells_20 (by decide) rfl ?_
     refine jg_iinc (x := l3) (v := l3 + nI 1) (L' := [some (.ref r), some (.int l1), some (.int (l2 + (gW s (l1 + l3)))), some (.int (l3 + nI 1))]) dX12_sumCells_21 rfl (ic_k _ (by decide)) (by decide) rfl ?_
     refine jg_goto (tgt := 4) dX12_sumCells_24 (by decide) ?_
     refine jg_fg (L' := [some (.ref r), some (.int l1), some (.int (l2 + (gW s (l1 + l3)))), some (.int (l3 + nI 1))]) (by repeat (first | exact trivial | refine ⟨rfl, ?_⟩ | show jg_le _ _)) ?_
     exact ih (l2 + (gW s (l1 + l3))) (l3 + nI 1) h
noncomputable def o_X12_sumCells (F : Nat) (s : rs_S) (a1 : Int32) : Option (Int32) := (o_X12_sumCells_4 F a1 s F (nI 0) (nI 0)).bind fun x3 => (some x3)
set_option maxHeartbeats 4000000 in
theorem t_X12_sumCells {Γ : jg_G} {g : Nat → jg_C} {n r : Nat} (hr : r + 11 ≤ n) (F : Nat) (s : rs_S) (a1 : Int32)  {x : Int32} (h : o_X12_sumCells F s a1 = some x) : jc Γ mX12_sumCells 0 0 0 [some (.ref r), some (.int a1), none, none] (rs_h g r s, n) (.inl (some (.int x))) (rs_h g r s, n) := by
  refine jc_of ?_
  rw [o_X12_sumCells] at h
  refine jg_iconst (v := nI 0) dX12_sumCells_0 (by decide) ?_
  refine jg_istore_n (L' := [some (.ref r), some (.int a1), some (.int (nI 0)), none]) dX12_sumCells_1 (by decide) rfl ?_
  refine jg_iconst (v := nI 0) dX12_sumCells_2 (by decide) ?_
  refine jg_istore_n (L' := [some (.ref r), some (.int a1), some (.int (nI 0)), some (.int (nI 0))]) dX12_sumCells_3 (by decide) rfl ?_
  obtain ⟨x3, e_x3, h⟩ := bd_some h
  refine jg_fg (L' := [some (.ref r), some (.int a1), some (.int (nI 0)), some (.int (nI 0))]) (by repeat (first | exact trivial | refine ⟨rfl, ?_⟩ | show jg_le _ _)) ?_
  refine t_X12_sumCells_4 hr F a1 s  _ (x := x3) ?_ F (nI 0) (nI 0) e_x3
  refine jg_iload_n dX12_sumCells_27 rfl ?_
  obtain rfl := Option.some.inj h
  exact jg_ireturn dX12_sumCells_28 rfl ⟨rfl, rfl⟩
theorem dX12_count_0 : decode cX12_count 0 = .ok (.aload_n 0, 1) := by decide +kernel
theorem dX12_count_1 : decode cX12_count 1 = .ok (.iconst 0, 1) := by decide +kernel
theorem dX12_count_2 : decode cX12_count 2 = .ok (.putfield 3, 3) := by decide +kernel
theorem dX12_count_5 : decode cX12_count 5 = .ok (.iconst 0, 1) := by decide +kernel
theorem dX12_count_6 : decode cX12_count 6 = .ok (.istore_n 2, 1) := by decide +kernel
theorem dX12_count_7 : decode cX12_count 7 = .ok (.iload_n 1, 1) := by decide +kernel
theorem dX12_count_8 : decode cX12_count 8 = .ok (.tableswitch 387 0 23 #[112, 117, 122, 127, 136, 145, 145, 195, 200, 231, 240, 249, 258, 267, 276, 285, 294, 303, 312, 321, 334, 343, 374, 381], 112) := by decide +kernel
theorem dX12_count_120 : decode cX12_count 120 = .ok (.aload_n 0, 1) := by decide +kernel
theorem dX12_count_121 : decode cX12_count 121 = .ok (.invokevirtual 73, 3) := by decide +kernel
theorem dX12_count_124 : decode cX12_count 124 = .ok (.ireturn, 1) := by decide +kernel
theorem dX12_count_125 : decode cX12_count 125 = .ok (.aload_n 0, 1) := by decide +kernel
theorem dX12_count_126 : decode cX12_count 126 = .ok (.invokevirtual 77, 3) := by decide +kernel
theorem dX12_count_129 : decode cX12_count 129 = .ok (.ireturn, 1) := by decide +kernel
theorem dX12_count_130 : decode cX12_count 130 = .ok (.aload_n 0, 1) := by decide +kernel
theorem dX12_count_131 : decode cX12_count 131 = .ok (.invokevirtual 394, 3) := by decide +kernel
theorem dX12_count_134 : decode cX12_count 134 = .ok (.ireturn, 1) := by decide +kernel
theorem dX12_count_135 : decode cX12_count 135 = .ok (.aload_n 0, 1) := by decide +kernel
theorem dX12_count_136 : decode cX12_count 136 = .ok (.getfield 13, 3) := by decide +kernel
theorem dX12_count_139 : decode cX12_count 139 = .ok (.sipush 999, 3) := by decide +kernel
theorem dX12_count_142 : decode cX12_count 142 = .ok (.iaload, 1) := by decide +kernel
theorem dX12_count_143 : decode cX12_count 143 = .ok (.ireturn, 1) := by decide +kernel
theorem dX12_count_144 : decode cX12_count 144 = .ok (.aload_n 0, 1) := by decide +kernel
theorem dX12_count_145 : decode cX12_count 145 = .ok (.getfield 13, 3) := by decide +kernel
theorem dX12_count_148 : decode cX12_count 148 = .ok (.sipush 1211, 3) := by decide +kernel
theorem dX12_count_151 : decode cX12_count 151 = .ok (.iaload, 1) := by decide +kernel
theorem dX12_count_152 : decode cX12_count 152 = .ok (.ireturn, 1) := by decide +kernel
theorem dX12_count_153 : decode cX12_count 153 = .ok (.iconst 0, 1) := by decide +kernel
theorem dX12_count_154 : decode cX12_count 154 = .ok (.istore_n 3, 1) := by decide +kernel
theorem dX12_count_155 : decode cX12_count 155 = .ok (.iload_n 3, 1) := by decide +kernel
theorem dX12_count_156 : decode cX12_count 156 = .ok (.aload_n 0, 1) := by decide +kernel
theorem dX12_count_157 : decode cX12_count 157 = .ok (.getfield 13, 3) := by decide +kernel
theorem dX12_count_160 : decode cX12_count 160 = .ok (.sipush 1211, 3) := by decide +kernel
theorem dX12_count_163 : decode cX12_count 163 = .ok (.iaload, 1) := by decide +kernel
theorem dX12_count_164 : decode cX12_count 164 = .ok (.if_icmp .ge 37, 3) := by decide +kernel
theorem dX12_count_167 : decode cX12_count 167 = .ok (.iload_n 2, 1) := by decide +kernel
theorem dX12_count_168 : decode cX12_count 168 = .ok (.aload_n 0, 1) := by decide +kernel
theorem dX12_count_169 : decode cX12_count 169 = .ok (.iload_n 3, 1) := by decide +kernel
theorem dX12_count_170 : decode cX12_count 170 = .ok (.bipush 9, 2) := by decide +kernel
theorem dX12_count_172 : decode cX12_count 172 = .ok (.invokevirtual 137, 3) := by decide +kernel
theorem dX12_count_175 : decode cX12_count 175 = .ok (.iload_n 1, 1) := by decide +kernel
theorem dX12_count_176 : decode cX12_count 176 = .ok (.iconst 5, 1) := by decide +kernel
theorem dX12_count_177 : decode cX12_count 177 = .ok (.if_icmp .ne 7, 3) := by decide +kernel
theorem dX12_count_180 : decode cX12_count 180 = .ok (.iconst 0, 1) := by decide +kernel
theorem dX12_count_181 : decode cX12_count 181 = .ok (.goto 4, 3) := by decide +kernel
theorem dX12_count_184 : decode cX12_count 184 = .ok (.iconst 4, 1) := by decide +kernel
theorem dX12_count_185 : decode cX12_count 185 = .ok (.if_icmp .ne 7, 3) := by decide +kernel
theorem dX12_count_188 : decode cX12_count 188 = .ok (.iconst 1, 1) := by decide +kernel
theorem dX12_count_189 : decode cX12_count 189 = .ok (.goto 4, 3) := by decide +kernel
theorem dX12_count_192 : decode cX12_count 192 = .ok (.iconst 0, 1) := by decide +kernel
theorem dX12_count_193 : decode cX12_count 193 = .ok (.iadd, 1) := by decide +kernel
theorem dX12_count_194 : decode cX12_count 194 = .ok (.istore_n 2, 1) := by decide +kernel
theorem dX12_count_195 : decode cX12_count 195 = .ok (.iinc 3 1, 3) := by decide +kernel
theorem dX12_count_198 : decode cX12_count 198 = .ok (.goto (-43), 3) := by decide +kernel
theorem dX12_count_201 : decode cX12_count 201 = .ok (.iload_n 2, 1) := by decide +kernel
theorem dX12_count_202 : decode cX12_count 202 = .ok (.ireturn, 1) := by decide +kernel
theorem dX12_count_203 : decode cX12_count 203 = .ok (.aload_n 0, 1) := by decide +kernel
theorem dX12_count_204 : decode cX12_count 204 = .ok (.invokevirtual 156, 3) := by decide +kernel
theorem dX12_count_207 : decode cX12_count 207 = .ok (.ireturn, 1) := by decide +kernel
theorem dX12_count_208 : decode cX12_count 208 = .ok (.iconst 0, 1) := by decide +kernel
theorem dX12_count_209 : decode cX12_count 209 = .ok (.istore_n 3, 1) := by decide +kernel
theorem dX12_count_210 : decode cX12_count 210 = .ok (.iload_n 3, 1) := by decide +kernel
theorem dX12_count_211 : decode cX12_count 211 = .ok (.aload_n 0, 1) := by decide +kernel
theorem dX12_count_212 : decode cX12_count 212 = .ok (.getfield 13, 3) := by decide +kernel
theorem dX12_count_215 : decode cX12_count 215 = .ok (.sipush 999, 3) := by decide +kernel
theorem dX12_count_218 : decode cX12_count 218 = .ok (.iaload, 1) := by decide +kernel
theorem dX12_count_219 : decode cX12_count 219 = .ok (.if_icmp .ge 18, 3) := by decide +kernel
theorem dX12_count_222 : decode cX12_count 222 = .ok (.iload_n 2, 1) := by decide +kernel
theorem dX12_count_223 : decode cX12_count 223 = .ok (.aload_n 0, 1) := by decide +kernel
theorem dX12_count_224 : decode cX12_count 224 = .ok (.iload_n 3, 1) := by decide +kernel
theorem dX12_count_225 : decode cX12_count 225 = .ok (.iconst 4, 1) := by decide +kernel
theorem dX12_count_226 : decode cX12_count 226 = .ok (.invokevirtual 140, 3) := by decide +kernel
theorem dX12_count_229 : decode cX12_count 229 = .ok (.iadd, 1) := by decide +kernel
theorem dX12_count_230 : decode cX12_count 230 = .ok (.istore_n 2, 1) := by decide +kernel
theorem dX12_count_231 : decode cX12_count 231 = .ok (.iinc 3 1, 3) := by decide +kernel
theorem dX12_count_234 : decode cX12_count 234 = .ok (.goto (-24), 3) := by decide +kernel
theorem dX12_count_237 : decode cX12_count 237 = .ok (.iload_n 2, 1) := by decide +kernel
theorem dX12_count_238 : decode cX12_count 238 = .ok (.ireturn, 1) := by decide +kernel
theorem dX12_count_239 : decode cX12_count 239 = .ok (.aload_n 0, 1) := by decide +kernel
theorem dX12_count_240 : decode cX12_count 240 = .ok (.getfield 13, 3) := by decide +kernel
theorem dX12_count_243 : decode cX12_count 243 = .ok (.sipush 2659, 3) := by decide +kernel
theorem dX12_count_246 : decode cX12_count 246 = .ok (.iaload, 1) := by decide +kernel
theorem dX12_count_247 : decode cX12_count 247 = .ok (.ireturn, 1) := by decide +kernel
theorem dX12_count_248 : decode cX12_count 248 = .ok (.aload_n 0, 1) := by decide +kernel
theorem dX12_count_249 : decode cX12_count 249 = .ok (.getfield 13, 3) := by decide +kernel
theorem dX12_count_252 : decode cX12_count 252 = .ok (.sipush 2652, 3) := by decide +kernel
theorem dX12_count_255 : decode cX12_count 255 = .ok (.iaload, 1) := by decide +kernel
theorem dX12_count_256 : decode cX12_count 256 = .ok (.ireturn, 1) := by decide +kernel
theorem dX12_count_257 : decode cX12_count 257 = .ok (.aload_n 0, 1) := by decide +kernel
theorem dX12_count_258 : decode cX12_count 258 = .ok (.getfield 13, 3) := by decide +kernel
theorem dX12_count_261 : decode cX12_count 261 = .ok (.sipush 2653, 3) := by decide +kernel
theorem dX12_count_264 : decode cX12_count 264 = .ok (.iaload, 1) := by decide +kernel
theorem dX12_count_265 : decode cX12_count 265 = .ok (.ireturn, 1) := by decide +kernel
theorem dX12_count_266 : decode cX12_count 266 = .ok (.aload_n 0, 1) := by decide +kernel
theorem dX12_count_267 : decode cX12_count 267 = .ok (.getfield 13, 3) := by decide +kernel
theorem dX12_count_270 : decode cX12_count 270 = .ok (.sipush 2654, 3) := by decide +kernel
theorem dX12_count_273 : decode cX12_count 273 = .ok (.iaload, 1) := by decide +kernel
theorem dX12_count_274 : decode cX12_count 274 = .ok (.ireturn, 1) := by decide +kernel
theorem dX12_count_275 : decode cX12_count 275 = .ok (.aload_n 0, 1) := by decide +kernel
theorem dX12_count_276 : decode cX12_count 276 = .ok (.getfield 13, 3) := by decide +kernel
theorem dX12_count_279 : decode cX12_count 279 = .ok (.sipush 2655, 3) := by decide +kernel
theorem dX12_count_282 : decode cX12_count 282 = .ok (.iaload, 1) := by decide +kernel
theorem dX12_count_283 : decode cX12_count 283 = .ok (.ireturn, 1) := by decide +kernel
theorem dX12_count_284 : decode cX12_count 284 = .ok (.aload_n 0, 1) := by decide +kernel
theorem dX12_count_285 : decode cX12_count 285 = .ok (.getfield 13, 3) := by decide +kernel
theorem dX12_count_288 : decode cX12_count 288 = .ok (.sipush 2656, 3) := by decide +kernel
theorem dX12_count_291 : decode cX12_count 291 = .ok (.iaload, 1) := by decide +kernel
theorem dX12_count_292 : decode cX12_count 292 = .ok (.ireturn, 1) := by decide +kernel
theorem dX12_count_293 : decode cX12_count 293 = .ok (.aload_n 0, 1) := by decide +kernel
theorem dX12_count_294 : decode cX12_count 294 = .ok (.getfield 13, 3) := by decide +kernel
theorem dX12_count_297 : decode cX12_count 297 = .ok (.sipush 2657, 3) := by decide +kernel
theorem dX12_count_300 : decode cX12_count 300 = .ok (.iaload, 1) := by decide +kernel
theorem dX12_count_301 : decode cX12_count 301 = .ok (.ireturn, 1) := by decide +kernel
theorem dX12_count_302 : decode cX12_count 302 = .ok (.aload_n 0, 1) := by decide +kernel
theorem dX12_count_303 : decode cX12_count 303 = .ok (.getfield 13, 3) := by decide +kernel
theorem dX12_count_306 : decode cX12_count 306 = .ok (.sipush 2658, 3) := by decide +kernel
theorem dX12_count_309 : decode cX12_count 309 = .ok (.iaload, 1) := by decide +kernel
theorem dX12_count_310 : decode cX12_count 310 = .ok (.ireturn, 1) := by decide +kernel
theorem dX12_count_311 : decode cX12_count 311 = .ok (.aload_n 0, 1) := by decide +kernel
theorem dX12_count_312 : decode cX12_count 312 = .ok (.getfield 13, 3) := by decide +kernel
theorem dX12_count_315 : decode cX12_count 315 = .ok (.sipush 198, 3) := by decide +kernel
theorem dX12_count_318 : decode cX12_count 318 = .ok (.iaload, 1) := by decide +kernel
theorem dX12_count_319 : decode cX12_count 319 = .ok (.ireturn, 1) := by decide +kernel
theorem dX12_count_320 : decode cX12_count 320 = .ok (.aload_n 0, 1) := by decide +kernel
theorem dX12_count_321 : decode cX12_count 321 = .ok (.getfield 13, 3) := by decide +kernel
theorem dX12_count_324 : decode cX12_count 324 = .ok (.sipush 2811, 3) := by decide +kernel
theorem dX12_count_327 : decode cX12_count 327 = .ok (.iaload, 1) := by decide +kernel
theorem dX12_count_328 : decode cX12_count 328 = .ok (.ireturn, 1) := by decide +kernel
theorem dX12_count_329 : decode cX12_count 329 = .ok (.aload_n 0, 1) := by decide +kernel
theorem dX12_count_330 : decode cX12_count 330 = .ok (.aload_n 0, 1) := by decide +kernel
theorem dX12_count_331 : decode cX12_count 331 = .ok (.aload_n 0, 1) := by decide +kernel
theorem dX12_count_332 : decode cX12_count 332 = .ok (.invokevirtual 77, 3) := by decide +kernel
theorem dX12_count_335 : decode cX12_count 335 = .ok (.invokevirtual 115, 3) := by decide +kernel
theorem dX12_count_338 : decode cX12_count 338 = .ok (.invokevirtual 356, 3) := by decide +kernel
theorem dX12_count_341 : decode cX12_count 341 = .ok (.ireturn, 1) := by decide +kernel
theorem dX12_count_342 : decode cX12_count 342 = .ok (.aload_n 0, 1) := by decide +kernel
theorem dX12_count_343 : decode cX12_count 343 = .ok (.getfield 13, 3) := by decide +kernel
theorem dX12_count_346 : decode cX12_count 346 = .ok (.sipush 2665, 3) := by decide +kernel
theorem dX12_count_349 : decode cX12_count 349 = .ok (.iaload, 1) := by decide +kernel
theorem dX12_count_350 : decode cX12_count 350 = .ok (.ireturn, 1) := by decide +kernel
theorem dX12_count_351 : decode cX12_count 351 = .ok (.iconst 0, 1) := by decide +kernel
theorem dX12_count_352 : decode cX12_count 352 = .ok (.istore_n 3, 1) := by decide +kernel
theorem dX12_count_353 : decode cX12_count 353 = .ok (.iload_n 3, 1) := by decide +kernel
theorem dX12_count_354 : decode cX12_count 354 = .ok (.aload_n 0, 1) := by decide +kernel
theorem dX12_count_355 : decode cX12_count 355 = .ok (.getfield 13, 3) := by decide +kernel
theorem dX12_count_358 : decode cX12_count 358 = .ok (.sipush 2665, 3) := by decide +kernel
theorem dX12_count_361 : decode cX12_count 361 = .ok (.iaload, 1) := by decide +kernel
theorem dX12_count_362 : decode cX12_count 362 = .ok (.if_icmp .ge 18, 3) := by decide +kernel
theorem dX12_count_365 : decode cX12_count 365 = .ok (.iload_n 2, 1) := by decide +kernel
theorem dX12_count_366 : decode cX12_count 366 = .ok (.aload_n 0, 1) := by decide +kernel
theorem dX12_count_367 : decode cX12_count 367 = .ok (.iload_n 3, 1) := by decide +kernel
theorem dX12_count_368 : decode cX12_count 368 = .ok (.iconst 4, 1) := by decide +kernel
theorem dX12_count_369 : decode cX12_count 369 = .ok (.invokevirtual 391, 3) := by decide +kernel
theorem dX12_count_372 : decode cX12_count 372 = .ok (.iadd, 1) := by decide +kernel
theorem dX12_count_373 : decode cX12_count 373 = .ok (.istore_n 2, 1) := by decide +kernel
theorem dX12_count_374 : decode cX12_count 374 = .ok (.iinc 3 1, 3) := by decide +kernel
theorem dX12_count_377 : decode cX12_count 377 = .ok (.goto (-24), 3) := by decide +kernel
theorem dX12_count_380 : decode cX12_count 380 = .ok (.iload_n 2, 1) := by decide +kernel
theorem dX12_count_381 : decode cX12_count 381 = .ok (.ireturn, 1) := by decide +kernel
theorem dX12_count_382 : decode cX12_count 382 = .ok (.aload_n 0, 1) := by decide +kernel
theorem dX12_count_383 : decode cX12_count 383 = .ok (.bipush 49, 2) := by decide +kernel
theorem dX12_count_385 : decode cX12_count 385 = .ok (.invokevirtual 420, 3) := by decide +kernel
theorem dX12_count_388 : decode cX12_count 388 = .ok (.ireturn, 1) := by decide +kernel
theorem dX12_count_389 : decode cX12_count 389 = .ok (.aload_n 0, 1) := by decide +kernel
theorem dX12_count_390 : decode cX12_count 390 = .ok (.iconst 1, 1) := by decide +kernel
theorem dX12_count_391 : decode cX12_count 391 = .ok (.invokevirtual 420, 3) := by decide +kernel
theorem dX12_count_394 : decode cX12_count 394 = .ok (.ireturn, 1) := by decide +kernel
theorem dX12_count_395 : decode cX12_count 395 = .ok (.iconst (-1), 1) := by decide +kernel
theorem dX12_count_396 : decode cX12_count 396 = .ok (.ireturn, 1) := by decide +kernel
noncomputable def o_X12_count_155 (F : Nat) (l1 : Int32) (s : rs_S) : Nat → Int32 → Int32 → Option (Int32)
  | 0, _, _ => none
  | f + 1, l2, l3 => if (gW s (nI 1211)) ≤ l3 then (some l2) else ((o_X12_of s l3 (nI 9)).bind fun x11 => (if l1 = (nI 5) then (if x11 = (nI 0) then (o_X12_count_155 F l1 s f (l2 + (nI 1)) (l3 + nI 1)) else (o_X12_count_155 F l1 s f (l2 + (nI 0)) (l3 + nI 1))) else (if x11 = (nI 4) then (o_X12_count_155 F l1 s f (l2 + (nI 1)) (l3 + nI 1)) else (o_X12_count_155 F l1 s f (l2 + (nI 0)) (l3 + nI 1)))))
set_option maxHeartbeats 4000000 in
theorem t_X12_count_155 {Γ : jg_G} {g : Nat → jg_C} {n r : Nat} (hr : r + 11 ≤ n) (F : Nat) (l1 : Int32) (s : rs_S)  (Q : jg_Q) {x : Int32} (K1 : jg Γ mX12_count 2 0 0 201 [none, none, some (.int x), none] [] (rs_h g r s, n) Q)  : ∀ (f : Nat) (l2 : Int32) (l3 : Int32), o_X12_count_155 F l1 s f l2 l3 = some x → jg Γ mX12_count 2 0 0 155 [some (.ref r), some (.int l1), some (.int l2), some (.int l3)] [] (rs_h g r s, n) Q := by
  intro f
  induction f with
  | zero => intro l2 l3 h; rw [o_X12_count_155] at h; cases h
  | succ f ih =>
   intro l2 l3 h
   rw [o_X12_count_155] at h
   refine jg_iload_n dX12_count_155 rfl ?_
   refine jg_aload_n dX12_count_156 rfl ?_
   refine rs_ga fl_X12_13 dX12_count_157 hr rfl ?_
   refine jg_sipush (v := nI 1211) dX12_count_160 (by decide) ?_
   refine rs_lwD (s := s) (i := (nI 1211)) dX12_count_163 hr (by decide) ?_
   refine jg_icmp_ge (x := l3) (y := (gW s (nI 1211))) (tgt := 201) dX12_count_164 (by decide) (fun c10 => ?_) (fun c10 => ?_)
   · replace h := it_t c10 h
     refine jg_fg (L' := [none, none, some (.int l2), none]) (by repeat (first | exact trivial | refine ⟨rfl, ?_⟩ | show jg_le _ _)) ?_
     obtain rfl := Option.some.inj h
     exact K1
   · replace h := it_f c10 h
     refine jg_iload_n dX12_count_167 rfl ?_
     refine jg_aload_n dX12_count_168 rfl ?_
     refine jg_iload_n dX12_count_169 rfl ?_
     refine jg_bipush (v := nI 9) dX12_count_170 (by decide) ?_
     obtain ⟨x11, e_x11, h⟩ := bd_some h
     refine rs_call (As := [.int l3, .int (nI 9)]) kv_X12_137 dX12_count_172 hr rfl rfl (by decide) (Nat.le_of_ble_eq_true rfl) rfl (by decide) (Nat.le_of_ble_eq_true rfl) (t_X12_of hr s l3 (nI 9) e_x11) ?_
     refine jg_iload_n dX12_count_175 rfl ?_
     refine jg_iconst (v := nI 5) dX12_count_176 (by decide) ?_
     refine jg_icmp_ne (x := l1) (y := (nI 5)) (tgt := 184) dX12_count_177 (by decide) (fun c12 => ?_) (fun c12 => ?_)
     · replace h := it_f c12 h
       refine jg_iconst (v := nI 4) dX12_count_184 (by decide) ?_
       refine jg_icmp_ne (x := x11) (y := (nI 4)) (tgt := 192) dX12_count_185 (by decide) (fun c13 => ?_) (fun c13 => ?_)
       · replace h := it_f c13 h
         refine jg_iconst (v := nI 0) dX12_count_192 (by decide) ?_
         refine jg_iadd (x := l2) (y := (nI 0)) dX12_count_193  ?_
         refine jg_istore_n (L' := [some (.ref r), some (.int l1), some (.int (l2 + (nI 0))), some (.int l3)]) dX12_count_194 (by decide) rfl ?_
         refine jg_iinc (x := l3) (v := l3 + nI 1) (L' := [some (.ref r), some (.int l1), some (.int (l2 + (nI 0))), some (.int (l3 + nI 1))]) dX12_count_195 rfl (ic_k _ (by decide)) (by decide) rfl ?_
         refine jg_goto (tgt := 155) dX12_count_198 (by decide) ?_
         refine jg_fg (L' := [some (.ref r), some (.int l1), some (.int (l2 + (nI 0))), some (.int (l3 + nI 1))]) (by repeat (first | exact trivial | refine ⟨rfl, ?_⟩ | show jg_le _ _)) ?_
         exact ih (l2 + (nI 0)) (l3 + nI 1) h
       · replace h := it_t c13 h
         refine jg_iconst (v := nI 1) dX12_count_188 (by decide) ?_
         refine jg_goto (tgt := 193) dX12_count_189 (by decide) ?_
         refine jg_iadd (x := l2) (y := (nI 1)) dX12_count_193  ?_
         refine jg_istore_n (L' := [some (.ref r), some (.int l1), some (.int (l2 + (nI 1))), some (.int l3)]) dX12_count_194 (by decide) rfl ?_
         refine jg_iinc (x := l3) (v := l3 + nI 1) (L' := [some (.ref r), some (.int l1), some (.int (l2 + (nI 1))), some (.int (l3 + nI 1))]) dX12_count_195 rfl (ic_k _ (by decide)) (by decide) rfl ?_
         refine jg_goto (tgt := 155) dX12_count_198 (by decide) ?_
         refine jg_fg (L' := [some (.ref r), some (.int l1), some (.int (l2 + (nI 1))), some (.int (l3 + nI 1))]) (by repeat (first | exact trivial | refine ⟨rfl, ?_⟩ | show jg_le _ _)) ?_
         exact ih (l2 + (nI 1)) (l3 + nI 1) h
     · replace h := it_t c12 h
       refine jg_iconst (v := nI 0) dX12_count_180 (by decide) ?_
       refine jg_goto (tgt := 185) dX12_count_181 (by decide) ?_
       refine jg_icmp_ne (x := x11) (y := (nI 0)) (tgt := 192) dX12_count_185 (by decide) (fun c14 => ?_) (fun c14 => ?_)
       · replace h := it_f c14 h
         refine jg_iconst (v := nI 0) dX12_count_192 (by decide) ?_
         refine jg_iadd (x := l2) (y := (nI 0)) dX12_count_193  ?_
         refine jg_istore_n (L' := [some (.ref r), some (.int l1), some (.int (l2 + (nI 0))), some (.int l3)]) dX12_count_194 (by decide) rfl ?_
         refine jg_iinc (x := l3) (v := l3 + nI 1) (L' := [some (.ref r), some (.int l1), some (.int (l2 + (nI 0))), some (.int (l3 + nI 1))]) dX12_count_195 rfl (ic_k _ (by decide)) (by decide) rfl ?_
         refine jg_goto (tgt := 155) dX12_count_198 (by decide) ?_
         refine jg_fg (L' := [some (.ref r), some (.int l1), some (.int (l2 + (nI 0))), some (.int (l3 + nI 1))]) (by repeat (first | exact trivial | refine ⟨rfl, ?_⟩ | show jg_le _ _)) ?_
         exact ih (l2 + (nI 0)) (l3 + nI 1) h
       · replace h := it_t c14 h
         refine jg_iconst (v := nI 1) dX12_count_188 (by decide) ?_
         refine jg_goto (tgt := 193) dX12_count_189 (by decide) ?_
         refine jg_iadd (x := l2) (y := (nI 1)) dX12_count_193  ?_
         refine jg_istore_n (L' := [some (.ref r), some (.int l1), some (.int (l2 + (nI 1))), some (.int l3)]) dX12_count_194 (by decide) rfl ?_
         refine jg_iinc (x := l3) (v := l3 + nI 1) (L' := [some (.ref r), some (.int l1), some (.int (l2 + (nI 1))), some (.int (l3 + nI 1))]) dX12_count_195 rfl (ic_k _ (by decide)) (by decide) rfl ?_
         refine jg_goto (tgt := 155) dX12_count_198 (by decide) ?_
         refine jg_fg (L' := [some (.ref r), some (.int l1), some (.int (l2 + (nI 1))), some (.int (l3 + nI 1))]) (by repeat (first | exact trivial | refine ⟨rfl, ?_⟩ | show jg_le _ _)) ?_
         exact ih (l2 + (nI 1)) (l3 + nI 1) h
noncomputable def o_X12_count_210 (F : Nat)  (s : rs_S) : Nat → Int32 → Int32 → Option (Int32)
  | 0, _, _ => none
  | f + 1, l2, l3 => if (gW s (nI 999)) ≤ l3 then (some l2) else ((o_X12_berthOf s l3 (nI 4)).bind fun x22 => (o_X12_count_210 F s f (l2 + x22) (l3 + nI 1)))
set_option maxHeartbeats 4000000 in
theorem t_X12_count_210 {Γ : jg_G} {g : Nat → jg_C} {n r : Nat} (hr : r + 11 ≤ n) (F : Nat)  (s : rs_S)  (Q : jg_Q) {x : Int32} (K1 : jg Γ mX12_count 2 0 0 237 [none, none, some (.int x), none] [] (rs_h g r s, n) Q)  : ∀ (f : Nat) (l2 : Int32) (l3 : Int32), o_X12_count_210 F s f l2 l3 = some x → jg Γ mX12_count 2 0 0 210 [some (.ref r), none, some (.int l2), some (.int l3)] [] (rs_h g r s, n) Q := by
  intro f
  induction f with
  | zero => intro l2 l3 h; rw [o_X12_count_210] at h; cases h
  | succ f ih =>
   intro l2 l3 h
   rw [o_X12_count_210] at h
   refine jg_iload_n dX12_count_210 rfl ?_
   refine jg_aload_n dX12_count_211 rfl ?_
   refine rs_ga fl_X12_13 dX12_count_212 hr rfl ?_
   refine jg_sipush (v := nI 999) dX12_count_215 (by decide) ?_
   refine rs_lwD (s := s) (i := (nI 999)) dX12_count_218 hr (by decide) ?_
   refine jg_icmp_ge (x := l3) (y := (gW s (nI 999))) (tgt := 237) dX12_count_219 (by decide) (fun c21 => ?_) (fun c21 => ?_)
   · replace h := it_t c21 h
     refine jg_fg (L' := [none, none, some (.int l2), none]) (by repeat (first | exact trivial | refine ⟨rfl, ?_⟩ | show jg_le _ _)) ?_
     obtain rfl := Option.some.inj h
     exact K1
   · replace h := it_f c21 h
     refine jg_iload_n dX12_count_222 rfl ?_
     refine jg_aload_n dX12_count_223 rfl ?_
     refine jg_iload_n dX12_count_224 rfl ?_
     refine jg_iconst (v := nI 4) dX12_count_225 (by decide) ?_
     obtain ⟨x22, e_x22, h⟩ := bd_some h
     refine rs_call (As := [.int l3, .int (nI 4)]) kv_X12_140 dX12_count_226 hr rfl rfl (by decide) (Nat.le_of_ble_eq_true rfl) rfl (by decide) (Nat.le_of_ble_eq_true rfl) (t_X12_berthOf hr s l3 (nI 4) e_x22) ?_
     refine jg_iadd (x := l2) (y := x22) dX12_count_229  ?_
     refine jg_istore_n (L' := [some (.ref r), none, some (.int (l2 + x22)), some (.int l3)]) dX12_count_230 (by decide) rfl ?_
     refine jg_iinc (x := l3) (v := l3 + nI 1) (L' := [some (.ref r), none, some (.int (l2 + x22)), some (.int (l3 + nI 1))]) dX12_count_231 rfl (ic_k _ (by decide)) (by decide) rfl ?_
     refine jg_goto (tgt := 210) dX12_count_234 (by decide) ?_
     refine jg_fg (L' := [some (.ref r), none, some (.int (l2 + x22)), some (.int (l3 + nI 1))]) (by repeat (first | exact trivial | refine ⟨rfl, ?_⟩ | show jg_le _ _)) ?_
     exact ih (l2 + x22) (l3 + nI 1) h
noncomputable def o_X12_count_353 (F : Nat)  (s : rs_S) : Nat → Int32 → Int32 → Option (Int32)
  | 0, _, _ => none
  | f + 1, l2, l3 => if (gW s (nI 2665)) ≤ l3 then (some l2) else ((o_X12_bondOf s l3 (nI 4)).bind fun x41 => (o_X12_count_353 F s f (l2 + x41) (l3 + nI 1)))
set_option maxHeartbeats 4000000 in
theorem t_X12_count_353 {Γ : jg_G} {g : Nat → jg_C} {n r : Nat} (hr : r + 11 ≤ n) (F : Nat)  (s : rs_S)  (Q : jg_Q) {x : Int32} (K1 : jg Γ mX12_count 2 0 0 380 [none, none, some (.int x), none] [] (rs_h g r s, n) Q)  : ∀ (f : Nat) (l2 : Int32) (l3 : Int32), o_X12_count_353 F s f l2 l3 = some x → jg Γ mX12_count 2 0 0 353 [some (.ref r), none, some (.int l2), some (.int l3)] [] (rs_h g r s, n) Q := by
  intro f
  induction f with
  | zero => intro l2 l3 h; rw [o_X12_count_353] at h; cases h
  | succ f ih =>
   intro l2 l3 h
   rw [o_X12_count_353] at h
   refine jg_iload_n dX12_count_353 rfl ?_
   refine jg_aload_n dX12_count_354 rfl ?_
   refine rs_ga fl_X12_13 dX12_count_355 hr rfl ?_
   refine jg_sipush (v := nI 2665) dX12_count_358 (by decide) ?_
   refine rs_lwD (s := s) (i := (nI 2665)) dX12_count_361 hr (by decide) ?_
   refine jg_icmp_ge (x := l3) (y := (gW s (nI 2665))) (tgt := 380) dX12_count_362 (by decide) (fun c40 => ?_) (fun c40 => ?_)
   · replace h := it_t c40 h
     refine jg_fg (L' := [none, none, some (.int l2), none]) (by repeat (first | exact trivial | refine ⟨rfl, ?_⟩ | show jg_le _ _)) ?_
     obtain rfl := Option.some.inj h
     exact K1
   · replace h := it_f c40 h
     refine jg_iload_n dX12_count_365 rfl ?_
     refine jg_aload_n dX12_count_366 rfl ?_
     refine jg_iload_n dX12_count_367 rfl ?_
     refine jg_iconst (v := nI 4) dX12_count_368 (by decide) ?_
     obtain ⟨x41, e_x41, h⟩ := bd_some h
     refine rs_call (As := [.int l3, .int (nI 4)]) kv_X12_391 dX12_count_369 hr rfl rfl (by decide) (Nat.le_of_ble_eq_true rfl) rfl (by decide) (Nat.le_of_ble_eq_true rfl) (t_X12_bondOf hr s l3 (nI 4) e_x41) ?_
     refine jg_iadd (x := l2) (y := x41) dX12_count_372  ?_
     refine jg_istore_n (L' := [some (.ref r), none, some (.int (l2 + x41)), some (.int l3)]) dX12_count_373 (by decide) rfl ?_
     refine jg_iinc (x := l3) (v := l3 + nI 1) (L' := [some (.ref r), none, some (.int (l2 + x41)), some (.int (l3 + nI 1))]) dX12_count_374 rfl (ic_k _ (by decide)) (by decide) rfl ?_
     refine jg_goto (tgt := 353) dX12_count_377 (by decide) ?_
     refine jg_fg (L' := [some (.ref r), none, some (.int (l2 + x41)), some (.int (l3 + nI 1))]) (by repeat (first | exact trivial | refine ⟨rfl, ?_⟩ | show jg_le _ _)) ?_
     exact ih (l2 + x41) (l3 + nI 1) h
noncomputable def o_X12_count (F : Nat) (s : rs_S) (a1 : Int32) : Option (Int32 × rs_S) := if a1 = nI 0 then ((o_X12_hour (pN s 0 (nI 0))).bind fun x2 => (some (x2, pN s 0 (nI 0)))) else (if a1 = nI 1 then ((o_X12_today (pN s 0 (nI 0))).bind fun x4 => (some (x4, pN s 0 (nI 0)))) else (if a1 = nI 2 then ((o_X12_year (pN s 0 (nI 0))).bind fun x6 => (some (x6, pN s 0 (nI 0)))) else (if a1 = nI 3 then (some (gW (pN s 0 (nI 0)) (nI 999), pN s 0 (nI 0))) else (if a1 = nI 4 then (some (gW (pN s 0 (nI 0)) (nI 1211), pN s 0 (nI 0))) else (if a1 = nI 5 then ((o_X12_count_155 F a1 (pN s 0 (nI 0)) F (nI 0) (nI 0)).bind fun x15 => (some (x15, pN s 0 (nI 0)))) else (if a1 = nI 6 then ((o_X12_count_155 F a1 (pN s 0 (nI 0)) F (nI 0) (nI 0)).bind fun x17 => (some (x17, pN s 0 (nI 0)))) else (if a1 = nI 7 then ((o_X12_freePilots F (pN s 0 (nI 0))).bind fun x19 => (some (x19, pN s 0 (nI 0)))) else (if a1 = nI 8 then ((o_X12_count_210 F (pN s 0 (nI 0)) F (nI 0) (nI 0)).bind fun x23 => (some (x23, pN s 0 (nI 0)))) else (if a1 = nI 9 then (some (gW (pN s 0 (nI 0)) (nI 2659), pN s 0 (nI 0))) else (if a1 = nI 10 then (some (gW (pN s 0 (nI 0)) (nI 2652), pN s 0 (nI 0))) else (if a1 = nI 11 then (some (gW (pN s 0 (nI 0)) (nI 2653), pN s 0 (nI 0))) else (if a1 = nI 12 then (some (gW (pN s 0 (nI 0)) (nI 2654), pN s 0 (nI 0))) else (if a1 = nI 13 then (some (gW (pN s 0 (nI 0)) (nI 2655), pN s 0 (nI 0))) else (if a1 = nI 14 then (some (gW (pN s 0 (nI 0)) (nI 2656), pN s 0 (nI 0))) else (if a1 = nI 15 then (some (gW (pN s 0 (nI 0)) (nI 2657), pN s 0 (nI 0))) else (if a1 = nI 16 then (some (gW (pN s 0 (nI 0)) (nI 2658), pN s 0 (nI 0))) else (if a1 = nI 17 then (some (gW (pN s 0 (nI 0)) (nI 198), pN s 0 (nI 0))) else (if a1 = nI 18 then (some (gW (pN s 0 (nI 0)) (nI 2811), pN s 0 (nI 0))) else (if a1 = nI 19 then ((o_X12_today (pN s 0 (nI 0))).bind fun x35 => ((o_X12_actOf F (pN s 0 (nI 0)) x35).bind fun x36 => ((o_X12_linesOf (pN s 0 (nI 0)) x36).bind fun x37 => (some (x37, pN s 0 (nI 0)))))) else (if a1 = nI 20 then (some (gW (pN s 0 (nI 0)) (nI 2665), pN s 0 (nI 0))) else (if a1 = nI 21 then ((o_X12_count_353 F (pN s 0 (nI 0)) F (nI 0) (nI 0)).bind fun x42 => (some (x42, pN s 0 (nI 0)))) else (if a1 = nI 22 then ((o_X12_sumCells F (pN s 0 (nI 0)) (nI 49)).bind fun x44 => (some (x44, pN s 0 (nI 0)))) else (if a1 = nI 23 then ((o_X12_sumCells F (pN s 0 (nI 0)) (nI 1)).bind fun x46 => (some (x46, pN s 0 (nI 0)))) else (some ((-1), pN s 0 (nI 0))))))))))))))))))))))))))
set_option maxHeartbeats 4000000 in
theorem t_X12_count {Γ : jg_G} {g : Nat → jg_C} {n r : Nat} (hr : r + 11 ≤ n) (F : Nat) (s : rs_S) (a1 : Int32)  {x : Int32 × rs_S} (h : o_X12_count F s a1 = some x) : jc Γ mX12_count 2 0 0 [some (.ref r), some (.int a1), none, none] (rs_h g r s, n) (.inl (some (.int x.1))) (rs_h g r x.2, n) := by
  refine jc_of ?_
  rw [o_X12_count] at h
  refine jg_aload_n dX12_count_0 rfl ?_
  refine jg_iconst (v := nI 0) dX12_count_1 (by decide) ?_
  refine rs_putD (s := s) (k := 0) (x := (nI 0)) fl_X12_3 dX12_count_2 hr (by decide) (rfl) rfl rfl ?_
  refine jg_iconst (v := nI 0) dX12_count_5 (by decide) ?_
  refine jg_istore_n (L' := [some (.ref r), some (.int a1), some (.int (nI 0)), none]) dX12_count_6 (by decide) rfl ?_
  refine jg_iload_n dX12_count_7 rfl ?_
  by_cases c1 : a1 = nI 0
  · replace h := it_t c1 h
    refine jg_tableIn (off := 112) (tgt := 120) dX12_count_8 (by rw [c1]; decide) (by rw [c1]; decide) (by rw [c1]; rfl) (by decide) ?_
    refine jg_aload_n dX12_count_120 rfl ?_
    obtain ⟨x2, e_x2, h⟩ := bd_some h
    refine rs_call (As := []) kv_X12_73 dX12_count_121 hr rfl rfl (by decide) (Nat.le_of_ble_eq_true rfl) rfl (by decide) (Nat.le_of_ble_eq_true rfl) (t_X12_hour hr (pN s 0 (nI 0)) e_x2) ?_
    obtain rfl := Option.some.inj h
    exact jg_ireturn dX12_count_124 rfl ⟨rfl, rfl⟩
  replace h := it_f c1 h
  by_cases c3 : a1 = nI 1
  · replace h := it_t c3 h
    refine jg_tableIn (off := 117) (tgt := 125) dX12_count_8 (by rw [c3]; decide) (by rw [c3]; decide) (by rw [c3]; rfl) (by decide) ?_
    refine jg_aload_n dX12_count_125 rfl ?_
    obtain ⟨x4, e_x4, h⟩ := bd_some h
    refine rs_call (As := []) kv_X12_77 dX12_count_126 hr rfl rfl (by decide) (Nat.le_of_ble_eq_true rfl) rfl (by decide) (Nat.le_of_ble_eq_true rfl) (t_X12_today hr (pN s 0 (nI 0)) e_x4) ?_
    obtain rfl := Option.some.inj h
    exact jg_ireturn dX12_count_129 rfl ⟨rfl, rfl⟩
  replace h := it_f c3 h
  by_cases c5 : a1 = nI 2
  · replace h := it_t c5 h
    refine jg_tableIn (off := 122) (tgt := 130) dX12_count_8 (by rw [c5]; decide) (by rw [c5]; decide) (by rw [c5]; rfl) (by decide) ?_
    refine jg_aload_n dX12_count_130 rfl ?_
    obtain ⟨x6, e_x6, h⟩ := bd_some h
    refine rs_call (As := []) kv_X12_394 dX12_count_131 hr rfl rfl (by decide) (Nat.le_of_ble_eq_true rfl) rfl (by decide) (Nat.le_of_ble_eq_true rfl) (t_X12_year hr (pN s 0 (nI 0)) e_x6) ?_
    obtain rfl := Option.some.inj h
    exact jg_ireturn dX12_count_134 rfl ⟨rfl, rfl⟩
  replace h := it_f c5 h
  by_cases c7 : a1 = nI 3
  · replace h := it_t c7 h
    refine jg_tableIn (off := 127) (tgt := 135) dX12_count_8 (by rw [c7]; decide) (by rw [c7]; decide) (by rw [c7]; rfl) (by decide) ?_
    refine jg_aload_n dX12_count_135 rfl ?_
    refine rs_ga fl_X12_13 dX12_count_136 hr rfl ?_
    refine jg_sipush (v := nI 999) dX12_count_139 (by decide) ?_
    refine rs_lwD (s := (pN s 0 (nI 0))) (i := (nI 999)) dX12_count_142 hr (by decide) ?_
    obtain rfl := Option.some.inj h
    exact jg_ireturn dX12_count_143 rfl ⟨rfl, rfl⟩
  replace h := it_f c7 h
  by_cases c8 : a1 = nI 4
  · replace h := it_t c8 h
    refine jg_tableIn (off := 136) (tgt := 144) dX12_count_8 (by rw [c8]; decide) (by rw [c8]; decide) (by rw [c8]; rfl) (by decide) ?_
    refine jg_aload_n dX12_count_144 rfl ?_
    refine rs_ga fl_X12_13 dX12_count_145 hr rfl ?_
    refine jg_sipush (v := nI 1211) dX12_count_148 (by decide) ?_
    refine rs_lwD (s := (pN s 0 (nI 0))) (i := (nI 1211)) dX12_count_151 hr (by decide) ?_
    obtain rfl := Option.some.inj h
    exact jg_ireturn dX12_count_152 rfl ⟨rfl, rfl⟩
  replace h := it_f c8 h
  by_cases c9 : a1 = nI 5
  · replace h := it_t c9 h
    refine jg_tableIn (off := 145) (tgt := 153) dX12_count_8 (by rw [c9]; decide) (by rw [c9]; decide) (by rw [c9]; rfl) (by decide) ?_
    refine jg_iconst (v := nI 0) dX12_count_153 (by decide) ?_
    refine jg_istore_n (L' := [some (.ref r), some (.int a1), some (.int (nI 0)), some (.int (nI 0))]) dX12_count_154 (by decide) rfl ?_
    obtain ⟨x15, e_x15, h⟩ := bd_some h
    refine jg_fg (L' := [some (.ref r), some (.int a1), some (.int (nI 0)), some (.int (nI 0))]) (by repeat (first | exact trivial | refine ⟨rfl, ?_⟩ | show jg_le _ _)) ?_
    refine t_X12_count_155 hr F a1 (pN s 0 (nI 0))  _ (x := x15) ?_ F (nI 0) (nI 0) e_x15
    refine jg_iload_n dX12_count_201 rfl ?_
    obtain rfl := Option.some.inj h
    exact jg_ireturn dX12_count_202 rfl ⟨rfl, rfl⟩
  replace h := it_f c9 h
  by_cases c16 : a1 = nI 6
  · replace h := it_t c16 h
    refine jg_tableIn (off := 145) (tgt := 153) dX12_count_8 (by rw [c16]; decide) (by rw [c16]; decide) (by rw [c16]; rfl) (by decide) ?_
    refine jg_iconst (v := nI 0) dX12_count_153 (by decide) ?_
    refine jg_istore_n (L' := [some (.ref r), some (.int a1), some (.int (nI 0)), some (.int (nI 0))]) dX12_count_154 (by decide) rfl ?_
    obtain ⟨x17, e_x17, h⟩ := bd_some h
    refine jg_fg (L' := [some (.ref r), some (.int a1), some (.int (nI 0)), some (.int (nI 0))]) (by repeat (first | exact trivial | refine ⟨rfl, ?_⟩ | show jg_le _ _)) ?_
    refine t_X12_count_155 hr F a1 (pN s 0 (nI 0))  _ (x := x17) ?_ F (nI 0) (nI 0) e_x17
    refine jg_iload_n dX12_count_201 rfl ?_
    obtain rfl := Option.some.inj h
    exact jg_ireturn dX12_count_202 rfl ⟨rfl, rfl⟩
  replace h := it_f c16 h
  by_cases c18 : a1 = nI 7
  · replace h := it_t c18 h
    refine jg_tableIn (off := 195) (tgt := 203) dX12_count_8 (by rw [c18]; decide) (by rw [c18]; decide) (by rw [c18]; rfl) (by decide) ?_
    refine jg_aload_n dX12_count_203 rfl ?_
    obtain ⟨x19, e_x19, h⟩ := bd_some h
    refine rs_call (As := []) kv_X12_156 dX12_count_204 hr rfl rfl (by decide) (Nat.le_of_ble_eq_true rfl) rfl (by decide) (Nat.le_of_ble_eq_true rfl) (t_X12_freePilots hr F (pN s 0 (nI 0)) e_x19) ?_
    obtain rfl := Option.some.inj h
    exact jg_ireturn dX12_count_207 rfl ⟨rfl, rfl⟩
  replace h := it_f c18 h
  by_cases c20 : a1 = nI 8
  · replace h := it_t c20 h
    refine jg_tableIn (off := 200) (tgt := 208) dX12_count_8 (by rw [c20]; decide) (by rw [c20]; decide) (by rw [c20]; rfl) (by decide) ?_
    refine jg_iconst (v := nI 0) dX12_count_208 (by decide) ?_
    refine jg_istore_n (L' := [some (.ref r), some (.int a1), some (.int (nI 0)), some (.int (nI 0))]) dX12_count_209 (by decide) rfl ?_
    obtain ⟨x23, e_x23, h⟩ := bd_some h
    refine jg_fg (L' := [some (.ref r), none, some (.int (nI 0)), some (.int (nI 0))]) (by repeat (first | exact trivial | refine ⟨rfl, ?_⟩ | show jg_le _ _)) ?_
    refine t_X12_count_210 hr F (pN s 0 (nI 0))  _ (x := x23) ?_ F (nI 0) (nI 0) e_x23
    refine jg_iload_n dX12_count_237 rfl ?_
    obtain rfl := Option.some.inj h
    exact jg_ireturn dX12_count_238 rfl ⟨rfl, rfl⟩
  replace h := it_f c20 h
  by_cases c24 : a1 = nI 9
  · replace h := it_t c24 h
    refine jg_tableIn (off := 231) (tgt := 239) dX12_count_8 (by rw [c24]; decide) (by rw [c24]; decide) (by rw [c24]; rfl) (by decide) ?_
    refine jg_aload_n dX12_count_239 rfl ?_
    refine rs_ga fl_X12_13 dX12_count_240 hr rfl ?_
    refine jg_sipush (v := nI 2659) dX12_count_243 (by decide) ?_
    refine rs_lwD (s := (pN s 0 (nI 0))) (i := (nI 2659)) dX12_count_246 hr (by decide) ?_
    obtain rfl := Option.some.inj h
    exact jg_ireturn dX12_count_247 rfl ⟨rfl, rfl⟩
  replace h := it_f c24 h
  by_cases c25 : a1 = nI 10
  · replace h := it_t c25 h
    refine jg_tableIn (off := 240) (tgt := 248) dX12_count_8 (by rw [c25]; decide) (by rw [c25]; decide) (by rw [c25]; rfl) (by decide) ?_
    refine jg_aload_n dX12_count_248 rfl ?_
    refine rs_ga fl_X12_13 dX12_count_249 hr rfl ?_
    refine jg_sipush (v := nI 2652) dX12_count_252 (by decide) ?_
    refine rs_lwD (s := (pN s 0 (nI 0))) (i := (nI 2652)) dX12_count_255 hr (by decide) ?_
    obtain rfl := Option.some.inj h
    exact jg_ireturn dX12_count_256 rfl ⟨rfl, rfl⟩
  replace h := it_f c25 h
  by_cases c26 : a1 = nI 11
  · replace h := it_t c26 h
    refine jg_tableIn (off := 249) (tgt := 257) dX12_count_8 (by rw [c26]; decide) (by rw [c26]; decide) (by rw [c26]; rfl) (by decide) ?_
    refine jg_aload_n dX12_count_257 rfl ?_
    refine rs_ga fl_X12_13 dX12_count_258 hr rfl ?_
    refine jg_sipush (v := nI 2653) dX12_count_261 (by decide) ?_
    refine rs_lwD (s := (pN s 0 (nI 0))) (i := (nI 2653)) dX12_count_264 hr (by decide) ?_
    obtain rfl := Option.some.inj h
    exact jg_ireturn dX12_count_265 rfl ⟨rfl, rfl⟩
  replace h := it_f c26 h
  by_cases c27 : a1 = nI 12
  · replace h := it_t c27 h
    refine jg_tableIn (off := 258) (tgt := 266) dX12_count_8 (by rw [c27]; decide) (by rw [c27]; decide) (by rw [c27]; rfl) (by decide) ?_
    refine jg_aload_n dX12_count_266 rfl ?_
    refine rs_ga fl_X12_13 dX12_count_267 hr rfl ?_
    refine jg_sipush (v := nI 2654) dX12_count_270 (by decide) ?_
    refine rs_lwD (s := (pN s 0 (nI 0))) (i := (nI 2654)) dX12_count_273 hr (by decide) ?_
    obtain rfl := Option.some.inj h
    exact jg_ireturn dX12_count_274 rfl ⟨rfl, rfl⟩
  replace h := it_f c27 h
  by_cases c28 : a1 = nI 13
  · replace h := it_t c28 h
    refine jg_tableIn (off := 267) (tgt := 275) dX12_count_8 (by rw [c28]; decide) (by rw [c28]; decide) (by rw [c28]; rfl) (by decide) ?_
    refine jg_aload_n dX12_count_275 rfl ?_
    refine rs_ga fl_X12_13 dX12_count_276 hr rfl ?_
    refine jg_sipush (v := nI 2655) dX12_count_279 (by decide) ?_
    refine rs_lwD (s := (pN s 0 (nI 0))) (i := (nI 2655)) dX12_count_282 hr (by decide) ?_
    obtain rfl := Option.some.inj h
    exact jg_ireturn dX12_count_283 rfl ⟨rfl, rfl⟩
  replace h := it_f c28 h
  by_cases c29 : a1 = nI 14
  · replace h := it_t c29 h
    refine jg_tableIn (off := 276) (tgt := 284) dX12_count_8 (by rw [c29]; decide) (by rw [c29]; decide) (by rw [c29]; rfl) (by decide) ?_
    refine jg_aload_n dX12_count_284 rfl ?_
    refine rs_ga fl_X12_13 dX12_count_285 hr rfl ?_
    refine jg_sipush (v := nI 2656) dX12_count_288 (by decide) ?_
    refine rs_lwD (s := (pN s 0 (nI 0))) (i := (nI 2656)) dX12_count_291 hr (by decide) ?_
    obtain rfl := Option.some.inj h
    exact jg_ireturn dX12_count_292 rfl ⟨rfl, rfl⟩
  replace h := it_f c29 h
  by_cases c30 : a1 = nI 15
  · replace h := it_t c30 h
    refine jg_tableIn (off := 285) (tgt := 293) dX12_count_8 (by rw [c30]; decide) (by rw [c30]; decide) (by rw [c30]; rfl) (by decide) ?_
    refine jg_aload_n dX12_count_293 rfl ?_
    refine rs_ga fl_X12_13 dX12_count_294 hr rfl ?_
    refine jg_sipush (v := nI 2657) dX12_count_297 (by decide) ?_
    refine rs_lwD (s := (pN s 0 (nI 0))) (i := (nI 2657)) dX12_count_300 hr (by decide) ?_
    obtain rfl := Option.some.inj h
    exact jg_ireturn dX12_count_301 rfl ⟨rfl, rfl⟩
  replace h := it_f c30 h
  by_cases c31 : a1 = nI 16
  · replace h := it_t c31 h
    refine jg_tableIn (off := 294) (tgt := 302) dX12_count_8 (by rw [c31]; decide) (by rw [c31]; decide) (by rw [c31]; rfl) (by decide) ?_
    refine jg_aload_n dX12_count_302 rfl ?_
    refine rs_ga fl_X12_13 dX12_count_303 hr rfl ?_
    refine jg_sipush (v := nI 2658) dX12_count_306 (by decide) ?_
    refine rs_lwD (s := (pN s 0 (nI 0))) (i := (nI 2658)) dX12_count_309 hr (by decide) ?_
    obtain rfl := Option.some.inj h
    exact jg_ireturn dX12_count_310 rfl ⟨rfl, rfl⟩
  replace h := it_f c31 h
  by_cases c32 : a1 = nI 17
  · replace h := it_t c32 h
    refine jg_tableIn (off := 303) (tgt := 311) dX12_count_8 (by rw [c32]; decide) (by rw [c32]; decide) (by rw [c32]; rfl) (by decide) ?_
    refine jg_aload_n dX12_count_311 rfl ?_
    refine rs_ga fl_X12_13 dX12_count_312 hr rfl ?_
    refine jg_sipush (v := nI 198) dX12_count_315 (by decide) ?_
    refine rs_lwD (s := (pN s 0 (nI 0))) (i := (nI 198)) dX12_count_318 hr (by decide) ?_
    obtain rfl := Option.some.inj h
    exact jg_ireturn dX12_count_319 rfl ⟨rfl, rfl⟩
  replace h := it_f c32 h
  by_cases c33 : a1 = nI 18
  · replace h := it_t c33 h
    refine jg_tableIn (off := 312) (tgt := 320) dX12_count_8 (by rw [c33]; decide) (by rw [c33]; decide) (by rw [c33]; rfl) (by decide) ?_
    refine jg_aload_n dX12_count_320 rfl ?_
    refine rs_ga fl_X12_13 dX12_count_321 hr rfl ?_
    refine jg_sipush (v := nI 2811) dX12_count_324 (by decide) ?_
    refine rs_lwD (s := (pN s 0 (nI 0))) (i := (nI 2811)) dX12_count_327 hr (by decide) ?_
    obtain rfl := Option.some.inj h
    exact jg_ireturn dX12_count_328 rfl ⟨rfl, rfl⟩
  replace h := it_f c33 h
  by_cases c34 : a1 = nI 19
  · replace h := it_t c34 h
    refine jg_tableIn (off := 321) (tgt := 329) dX12_count_8 (by rw [c34]; decide) (by rw [c34]; decide) (by rw [c34]; rfl) (by decide) ?_
    refine jg_aload_n dX12_count_329 rfl ?_
    refine jg_aload_n dX12_count_330 rfl ?_
    refine jg_aload_n dX12_count_331 rfl ?_
    obtain ⟨x35, e_x35, h⟩ := bd_some h
    refine rs_call (As := []) kv_X12_77 dX12_count_332 hr rfl rfl (by decide) (Nat.le_of_ble_eq_true rfl) rfl (by decide) (Nat.le_of_ble_eq_true rfl) (t_X12_today hr (pN s 0 (nI 0)) e_x35) ?_
    obtain ⟨x36, e_x36, h⟩ := bd_some h
    refine rs_call (As := [.int x35]) kv_X12_115 dX12_count_335 hr rfl rfl (by decide) (Nat.le_of_ble_eq_true rfl) rfl (by decide) (Nat.le_of_ble_eq_true rfl) (t_X12_actOf hr F (pN s 0 (nI 0)) x35 e_x36) ?_
    obtain ⟨x37, e_x37, h⟩ := bd_some h
    refine rs_call (As := [.int x36]) kv_X12_356 dX12_count_338 hr rfl rfl (by decide) (Nat.le_of_ble_eq_true rfl) rfl (by decide) (Nat.le_of_ble_eq_true rfl) (t_X12_linesOf hr (pN s 0 (nI 0)) x36 e_x37) ?_
    obtain rfl := Option.some.inj h
    exact jg_ireturn dX12_count_341 rfl ⟨rfl, rfl⟩
  replace h := it_f c34 h
  by_cases c38 : a1 = nI 20
  · replace h := it_t c38 h
    refine jg_tableIn (off := 334) (tgt := 342) dX12_count_8 (by rw [c38]; decide) (by rw [c38]; decide) (by rw [c38]; rfl) (by decide) ?_
    refine jg_aload_n dX12_count_342 rfl ?_
    refine rs_ga fl_X12_13 dX12_count_343 hr rfl ?_
    refine jg_sipush (v := nI 2665) dX12_count_346 (by decide) ?_
    refine rs_lwD (s := (pN s 0 (nI 0))) (i := (nI 2665)) dX12_count_349 hr (by decide) ?_
    obtain rfl := Option.some.inj h
    exact jg_ireturn dX12_count_350 rfl ⟨rfl, rfl⟩
  replace h := it_f c38 h
  by_cases c39 : a1 = nI 21
  · replace h := it_t c39 h
    refine jg_tableIn (off := 343) (tgt := 351) dX12_count_8 (by rw [c39]; decide) (by rw [c39]; decide) (by rw [c39]; rfl) (by decide) ?_
    refine jg_iconst (v := nI 0) dX12_count_351 (by decide) ?_
    refine jg_istore_n (L' := [some (.ref r), some (.int a1), some (.int (nI 0)), some (.int (nI 0))]) dX12_count_352 (by decide) rfl ?_
    obtain ⟨x42, e_x42, h⟩ := bd_some h
    refine jg_fg (L' := [some (.ref r), none, some (.int (nI 0)), some (.int (nI 0))]) (by repeat (first | exact trivial | refine ⟨rfl, ?_⟩ | show jg_le _ _)) ?_
    refine t_X12_count_353 hr F (pN s 0 (nI 0))  _ (x := x42) ?_ F (nI 0) (nI 0) e_x42
    refine jg_iload_n dX12_count_380 rfl ?_
    obtain rfl := Option.some.inj h
    exact jg_ireturn dX12_count_381 rfl ⟨rfl, rfl⟩
  replace h := it_f c39 h
  by_cases c43 : a1 = nI 22
  · replace h := it_t c43 h
    refine jg_tableIn (off := 374) (tgt := 382) dX12_count_8 (by rw [c43]; decide) (by rw [c43]; decide) (by rw [c43]; rfl) (by decide) ?_
    refine jg_aload_n dX12_count_382 rfl ?_
    refine jg_bipush (v := nI 49) dX12_count_383 (by decide) ?_
    obtain ⟨x44, e_x44, h⟩ := bd_some h
    refine rs_call (As := [.int (nI 49)]) kv_X12_420 dX12_count_385 hr rfl rfl (by decide) (Nat.le_of_ble_eq_true rfl) rfl (by decide) (Nat.le_of_ble_eq_true rfl) (t_X12_sumCells hr F (pN s 0 (nI 0)) (nI 49) e_x44) ?_
    obtain rfl := Option.some.inj h
    exact jg_ireturn dX12_count_388 rfl ⟨rfl, rfl⟩
  replace h := it_f c43 h
  by_cases c45 : a1 = nI 23
  · replace h := it_t c45 h
    refine jg_tableIn (off := 381) (tgt := 389) dX12_count_8 (by rw [c45]; decide) (by rw [c45]; decide) (by rw [c45]; rfl) (by decide) ?_
    refine jg_aload_n dX12_count_389 rfl ?_
    refine jg_iconst (v := nI 1) dX12_count_390 (by decide) ?_
    obtain ⟨x46, e_x46, h⟩ := bd_some h
    refine rs_call (As := [.int (nI 1)]) kv_X12_420 dX12_count_391 hr rfl rfl (by decide) (Nat.le_of_ble_eq_true rfl) rfl (by decide) (Nat.le_of_ble_eq_true rfl) (t_X12_sumCells hr F (pN s 0 (nI 0)) (nI 1) e_x46) ?_
    obtain rfl := Option.some.inj h
    exact jg_ireturn dX12_count_394 rfl ⟨rfl, rfl⟩
  replace h := it_f c45 h
  refine jg_tableOut (tgt := 395) dX12_count_8 (jt_outN 0 23 (a1) (fun k h1 h2 => by rcases (show k = 0 ∨ k = 1 ∨ k = 2 ∨ k = 3 ∨ k = 4 ∨ k = 5 ∨ k = 6 ∨ k = 7 ∨ k = 8 ∨ k = 9 ∨ k = 10 ∨ k = 11 ∨ k = 12 ∨ k = 13 ∨ k = 14 ∨ k = 15 ∨ k = 16 ∨ k = 17 ∨ k = 18 ∨ k = 19 ∨ k = 20 ∨ k = 21 ∨ k = 22 ∨ k = 23 by omega) with rfl | rfl | rfl | rfl | rfl | rfl | rfl | rfl | rfl | rfl | rfl | rfl | rfl | rfl | rfl | rfl | rfl | rfl | rfl | rfl | rfl | rfl | rfl | rfl <;> assumption)) (by decide) ?_
  refine jg_iconst (v := (-1)) dX12_count_395 (by decide) ?_
  obtain rfl := Option.some.inj h
  exact jg_ireturn dX12_count_396 rfl ⟨rfl, rfl⟩
