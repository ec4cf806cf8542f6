theorem dX8_dig_120 : decode cX8_dig 120 = .ok (.bipush 24, 2) := by decide +kernel
theorem dX8_dig_122 : decode cX8_dig 122 = .ok (.if_icmp .lt 16, 3) := by decide +kernel
theorem dX8_dig_125 : decode cX8_dig 125 = .ok (.aload_n 0, 1) := by decide +kernel
theorem dX8_dig_126 : decode cX8_dig 126 = .ok (.dup, 1) := by decide +kernel
theorem dX8_dig_127 : decode cX8_dig 127 = .ok (.getfield 62, 3) := by decide +kernel
theorem dX8_dig_130 : decode cX8_dig 130 = .ok (.iload_n 3, 1) := by decide +kernel
theorem dX8_dig_131 : decode cX8_dig 131 = .ok (.iadd, 1) := by decide +kernel
theorem dX8_dig_132 : decode cX8_dig 132 = .ok (.putfield 62, 3) := by decide +kernel
theorem dX8_dig_135 : decode cX8_dig 135 = .ok (.goto 14, 3) := by decide +kernel
theorem dX8_dig_138 : decode cX8_dig 138 = .ok (.aload_n 0, 1) := by decide +kernel
theorem dX8_dig_139 : decode cX8_dig 139 = .ok (.getfield 18, 3) := by decide +kernel
theorem dX8_dig_142 : decode cX8_dig 142 = .ok (.iload 4, 2) := by decide +kernel
theorem dX8_dig_144 : decode cX8_dig 144 = .ok (.dup2, 1) := by decide +kernel
theorem dX8_dig_145 : decode cX8_dig 145 = .ok (.iaload, 1) := by decide +kernel
theorem dX8_dig_146 : decode cX8_dig 146 = .ok (.iload_n 3, 1) := by decide +kernel
theorem dX8_dig_147 : decode cX8_dig 147 = .ok (.iadd, 1) := by decide +kernel
theorem dX8_dig_148 : decode cX8_dig 148 = .ok (.iastore, 1) := by decide +kernel
theorem dX8_dig_149 : decode cX8_dig 149 = .ok (.return_, 1) := by decide +kernel
noncomputable def o_X8_dig_35 (F : Nat) (τ : cT) (n : Nat) (b : Nat) (l1 : Int32) (l2 : Int32) (l3 : Int32)  : Nat → cS → Option (cS)
  | 0, _ => none
  | f + 1, s => if iL l2 24 then (if 0 ≤ (cg s (b + 4) l2) then (some s) else (if (nI 200) ≤ (cg s (b + 2) l2) then (some s) else ((some (ca (ca s (b + 2) l2 ((cg s (b + 2) l2) + (nI 1))) (b + 4) l2 ((cg (ca s (b + 2) l2 ((cg s (b + 2) l2) + (nI 1))) (b + 4) l2) + (nI 50)))).bind fun x9 => (o_X8_dig_35 F τ n b l1 l2 l3 f x9)))) else none
set_option maxHeartbeats 4000000 in
theorem t_X8_dig_35 {Γ : jg_G} {g : Nat → jg_C} (F : Nat) (τ : cT) (n : Nat) (b : Nat) (l1 : Int32) (l2 : Int32) (l3 : Int32)  (hB : Bd τ n b) (Q : jg_Q) {x : cS} (K1 : jg Γ mX8_dig 0 0 0 80 [some (.ref (b + 1)), some (.int l1), some (.int l2), some (.int l3), none] [] (ct_h g τ x, n) Q)  : ∀ (f : Nat) (s : cS), o_X8_dig_35 F τ n b l1 l2 l3 f s = some x → jg Γ mX8_dig 0 0 0 35 [some (.ref (b + 1)), some (.int l1), some (.int l2), some (.int l3), none] [] (ct_h g τ s, n) Q := by
  intro f
  induction f with
  | zero => intro s h; rw [o_X8_dig_35] at h; cases h
  | succ f ih =>
   intro s h
   rw [o_X8_dig_35] at h
   refine jg_aload_n dX8_dig_35 rfl ?_
   refine cs_get (s := s) (w := .ref (b + 4)) fl_X8_18 dX8_dig_36 (hB.ob 1 (by decide) rfl) rfl ?_
   refine jg_iload_n dX8_dig_39 rfl ?_
   obtain ⟨q6, h⟩ := gd_some h
   refine cs_lda (s := s) (q := (b + 4)) (i := l2) dX8_dig_40 (hB.ar 4 (by decide) rfl) q6 ?_
   refine jg_if_ge (x := (cg s (b + 4) l2)) (tgt := 80) dX8_dig_41 (by decide) (fun c7 => ?_) (fun c7 => ?_)
   · replace h := it_t c7 h
     refine jg_fg (L' := [some (.ref (b + 1)), some (.int l1), some (.int l2), some (.int l3), none]) (by repeat (first | exact trivial | refine ⟨rfl, ?_⟩ | show jg_le _ _)) ?_
     obtain rfl := Option.some.inj h
     exact K1
   · replace h := it_f c7 h
     refine jg_aload_n dX8_dig_44 rfl ?_
     refine cs_get (s := s) (w := .ref (b + 2)) fl_X8_9 dX8_dig_45 (hB.ob 1 (by decide) rfl) rfl ?_
     refine jg_iload_n dX8_dig_48 rfl ?_
     refine cs_lda (s := s) (q := (b + 2)) (i := l2) dX8_dig_49 (hB.ar 2 (by decide) rfl) q6 ?_
     refine jg_sipush (v := nI 200) dX8_dig_50 (by decide) ?_
     refine jg_icmp_ge (x := (cg s (b + 2) l2)) (y := (nI 200)) (tgt := 80) dX8_dig_53 (by decide) (fun c8 => ?_) (fun c8 => ?_)
     · replace h := it_t c8 h
       refine jg_fg (L' := [some (.ref (b + 1)), some (.int l1), some (.int l2), some (.int l3), none]) (by repeat (first | exact trivial | refine ⟨rfl, ?_⟩ | show jg_le _ _)) ?_
       obtain rfl := Option.some.inj h
       exact K1
     · replace h := it_f c8 h
       refine jg_aload_n dX8_dig_56 rfl ?_
       refine cs_get (s := s) (w := .ref (b + 2)) fl_X8_9 dX8_dig_57 (hB.ob 1 (by decide) rfl) rfl ?_
       refine jg_iload_n dX8_dig_60 rfl ?_
       refine jg_dup2 dX8_dig_61 rfl rfl ?_
       refine cs_lda (s := s) (q := (b + 2)) (i := l2) dX8_dig_62 (hB.ar 2 (by decide) rfl) q6 ?_
       refine jg_iconst (v := nI 1) dX8_dig_63 (by decide) ?_
       refine jg_iadd (x := (cg s (b + 2) l2)) (y := (nI 1)) dX8_dig_64  ?_
       refine cs_sta (s := s) (q := (b + 2)) (i := l2) (x := ((cg s (b + 2) l2) + (nI 1))) dX8_dig_65 (hB.ar 2 (by decide) rfl) q6 ?_
       refine jg_aload_n dX8_dig_66 rfl ?_
       refine cs_get (s := (ca s (b + 2) l2 ((cg s (b + 2) l2) + (nI 1)))) (w := .ref (b + 4)) fl_X8_18 dX8_dig_67 (hB.ob 1 (by decide) rfl) rfl ?_
       refine jg_iload_n dX8_dig_70 rfl ?_
       refine jg_dup2 dX8_dig_71 rfl rfl ?_
       refine cs_lda (s := (ca s (b + 2) l2 ((cg s (b + 2) l2) + (nI 1)))) (q := (b + 4)) (i := l2) dX8_dig_72 (hB.ar 4 (by decide) rfl) q6 ?_
       refine jg_bipush (v := nI 50) dX8_dig_73 (by decide) ?_
       refine jg_iadd (x := (cg (ca s (b + 2) l2 ((cg s (b + 2) l2) + (nI 1))) (b + 4) l2)) (y := (nI 50)) dX8_dig_75  ?_
       refine cs_sta (s := (ca s (b + 2) l2 ((cg s (b + 2) l2) + (nI 1)))) (q := (b + 4)) (i := l2) (x := ((cg (ca s (b + 2) l2 ((cg s (b + 2) l2) + (nI 1))) (b + 4) l2) + (nI 50))) dX8_dig_76 (hB.ar 4 (by decide) rfl) q6 ?_
       obtain ⟨x9, e_x9, h⟩ := bd_some h
       refine cs_sub (Option.some.inj e_x9) ?_
       refine jg_goto (tgt := 35) dX8_dig_77 (by decide) ?_
       refine jg_fg (L' := [some (.ref (b + 1)), some (.int l1), some (.int l2), some (.int l3), none]) (by repeat (first | exact trivial | refine ⟨rfl, ?_⟩ | show jg_le _ _)) ?_
       exact ih x9 h
noncomputable def o_X8_dig (F : Nat) (τ : cT) (n : Nat) (b : Nat) (s : cS) (a1 : Int32) : Option (cS) := if iL a1 6 then (if (cg s (b + 9) a1) < 0 then (some s) else (if (cg s (b + 9) a1) < (nI 24) then (if iL (cg s (b + 9) a1) 24 then ((some (ca s (b + 4) (cg s (b + 9) a1) ((cg s (b + 4) (cg s (b + 9) a1)) - (cg s (b + 8) a1)))).bind fun x5 => ((o_X8_dig_35 F τ n b a1 (cg s (b + 9) a1) (cg s (b + 8) a1) F x5).bind fun x10 => (if 0 ≤ (cg x10 (b + 4) (cg s (b + 9) a1)) then (if (cg x10 (b + 10) a1) < 0 then (some (cp x10 (b + 1) 13 ((x10.1 (b + 1) 13) + (cg s (b + 8) a1)))) else (if (cg x10 (b + 10) a1) < (nI 24) then (if iL (cg x10 (b + 10) a1) 24 then ((some (ca x10 (b + 4) (cg x10 (b + 10) a1) ((cg x10 (b + 4) (cg x10 (b + 10) a1)) + (cg s (b + 8) a1)))).bind fun x15 => (some x15)) else none) else (some (cp x10 (b + 1) 13 ((x10.1 (b + 1) 13) + (cg s (b + 8) a1)))))) else (if (cg (ca x10 (b + 4) (cg s (b + 9) a1) (nI 0)) (b + 10) a1) < 0 then ((some (cp (ca x10 (b + 4) (cg s (b + 9) a1) (nI 0)) (b + 1) 13 (((ca x10 (b + 4) (cg s (b + 9) a1) (nI 0)).1 (b + 1) 13) + ((cg s (b + 8) a1) + (cg x10 (b + 4) (cg s (b + 9) a1)))))).bind fun x17 => (some x17)) else (if (cg (ca x10 (b + 4) (cg s (b + 9) a1) (nI 0)) (b + 10) a1) < (nI 24) then (if iL (cg (ca x10 (b + 4) (cg s (b + 9) a1) (nI 0)) (b + 10) a1) 24 then ((some (ca (ca x10 (b + 4) (cg s (b + 9) a1) (nI 0)) (b + 4) (cg (ca x10 (b + 4) (cg s (b + 9) a1) (nI 0)) (b + 10) a1) ((cg (ca x10 (b + 4) (cg s (b + 9) a1) (nI 0)) (b + 4) (cg (ca x10 (b + 4) (cg s (b + 9) a1) (nI 0)) (b + 10) a1)) + ((cg s (b + 8) a1) + (cg x10 (b + 4) (cg s (b + 9) a1)))))).bind fun x20 => (some x20)) else none) else ((some (cp (ca x10 (b + 4) (cg s (b + 9) a1) (nI 0)) (b + 1) 13 (((ca x10 (b + 4) (cg s (b + 9) a1) (nI 0)).1 (b + 1) 13) + ((cg s (b + 8) a1) + (cg x10 (b + 4) (cg s (b + 9) a1)))))).bind fun x21 => (some x21))))))) else none) else (some s))) else none
set_option maxHeartbeats 4000000 in
theorem t_X8_dig {Γ : jg_G} {g : Nat → jg_C} (F : Nat) (τ : cT) (n : Nat) (b : Nat) (s : cS) (a1 : Int32) (hB : Bd τ n b) {x : cS} (h : o_X8_dig F τ n b s a1 = some x) : jc Γ mX8_dig 0 0 0 [some (.ref (b + 1)), some (.int a1), none, none, none] (ct_h g τ s, n) (.inl none) (ct_h g τ x, n) := by
  refine jc_of ?_
  rw [o_X8_dig] at h
  refine jg_aload_n dX8_dig_0 rfl ?_
  refine cs_get (s := s) (w := .ref (b + 9)) fl_X8_33 dX8_dig_1 (hB.ob 1 (by decide) rfl) rfl ?_
  refine jg_iload_n dX8_dig_4 rfl ?_
  obtain ⟨q1, h⟩ := gd_some h
  refine cs_lda (s := s) (q := (b + 9)) (i := a1) dX8_dig_5 (hB.ar 9 (by decide) rfl) q1 ?_
  refine jg_istore_n (L' := [some (.ref (b + 1)), some (.int a1), some (.int (cg s (b + 9) a1)), none, none]) dX8_dig_6 (by decide) rfl ?_
  refine jg_iload_n dX8_dig_7 rfl ?_
  refine jg_if_lt (x := (cg s (b + 9) a1)) (tgt := 17) dX8_dig_8 (by decide) (fun c2 => ?_) (fun c2 => ?_)
  · replace h := it_t c2 h
    obtain rfl := Option.some.inj h
    exact jg_return dX8_dig_17 rfl ⟨rfl, rfl⟩
  · replace h := it_f c2 h
    refine jg_iload_n dX8_dig_11 rfl ?_
    refine jg_bipush (v := nI 24) dX8_dig_12 (by decide) ?_
    refine jg_icmp_lt (x := (cg s (b + 9) a1)) (y := (nI 24)) (tgt := 18) dX8_dig_14 (by decide) (fun c3 => ?_) (fun c3 => ?_)
    · replace h := it_t c3 h
      refine jg_aload_n dX8_dig_18 rfl ?_
      refine cs_get (s := s) (w := .ref (b + 8)) fl_X8_30 dX8_dig_19 (hB.ob 1 (by decide) rfl) rfl ?_
      refine jg_iload_n dX8_dig_22 rfl ?_
      refine cs_lda (s := s) (q := (b + 8)) (i := a1) dX8_dig_23 (hB.ar 8 (by decide) rfl) q1 ?_
      refine jg_istore_n (L' := [some (.ref (b + 1)), some (.int a1), some (.int (cg s (b + 9) a1)), some (.int (cg s (b + 8) a1)), none]) dX8_dig_24 (by decide) rfl ?_
      refine jg_aload_n dX8_dig_25 rfl ?_
      refine cs_get (s := s) (w := .ref (b + 4)) fl_X8_18 dX8_dig_26 (hB.ob 1 (by decide) rfl) rfl ?_
      refine jg_iload_n dX8_dig_29 rfl ?_
      refine jg_dup2 dX8_dig_30 rfl rfl ?_
      obtain ⟨q4, h⟩ := gd_some h
      refine cs_lda (s := s) (q := (b + 4)) (i := (cg s (b + 9) a1)) dX8_dig_31 (hB.ar 4 (by decide) rfl) q4 ?_
      refine jg_iload_n dX8_dig_32 rfl ?_
      refine jg_isub (x := (cg s (b + 4) (cg s (b + 9) a1))) (y := (cg s (b + 8) a1)) dX8_dig_33  ?_
      refine cs_sta (s := s) (q := (b + 4)) (i := (cg s (b + 9) a1)) (x := ((cg s (b + 4) (cg s (b + 9) a1)) - (cg s (b + 8) a1))) dX8_dig_34 (hB.ar 4 (by decide) rfl) q4 ?_
      obtain ⟨x5, e_x5, h⟩ := bd_some h
      refine cs_sub (Option.some.inj e_x5) ?_
      obtain ⟨x10, e_x10, h⟩ := bd_some h
      refine jg_fg (L' := [some (.ref (b + 1)), some (.int a1), some (.int (cg s (b + 9) a1)), some (.int (cg s (b + 8) a1)), none]) (by repeat (first | exact trivial | refine ⟨rfl, ?_⟩ | show jg_le _ _)) ?_
      refine t_X8_dig_35  F τ n b a1 (cg s (b + 9) a1) (cg s (b + 8) a1) hB _ (x := x10) ?_ F x5 e_x10
      refine jg_aload_n dX8_dig_80 rfl ?_
      refine cs_get (s := x10) (w := .ref (b + 4)) fl_X8_18 dX8_dig_81 (hB.ob 1 (by decide) rfl) rfl ?_
      refine jg_iload_n dX8_dig_84 rfl ?_
      refine cs_lda (s := x10) (q := (b + 4)) (i := (cg s (b + 9) a1)) dX8_dig_85 (hB.ar 4 (by decide) rfl) q4 ?_
      refine jg_if_ge (x := (cg x10 (b + 4) (cg s (b + 9) a1))) (tgt := 105) dX8_dig_86 (by decide) (fun c11 => ?_) (fun c11 => ?_)
      · replace h := it_t c11 h
        refine jg_aload_n dX8_dig_105 rfl ?_
        refine cs_get (s := x10) (w := .ref (b + 10)) fl_X8_36 dX8_dig_106 (hB.ob 1 (by decide) rfl) rfl ?_
        refine jg_iload_n dX8_dig_109 rfl ?_
        refine cs_lda (s := x10) (q := (b + 10)) (i := a1) dX8_dig_110 (hB.ar 10 (by decide) rfl) q1 ?_
        refine jg_istore (L' := [some (.ref (b + 1)), some (.int a1), some (.int (cg s (b + 9) a1)), some (.int (cg s (b + 8) a1)), some (.int (cg x10 (b + 10) a1))]) dX8_dig_111 (by decide) rfl ?_
        refine jg_iload dX8_dig_113 rfl ?_
        refine jg_if_lt (x := (cg x10 (b + 10) a1)) (tgt := 125) dX8_dig_115 (by decide) (fun c12 => ?_) (fun c12 => ?_)
        · replace h := it_t c12 h
          refine jg_aload_n dX8_dig_125 rfl ?_
          refine jg_dup dX8_dig_126 rfl ?_
          refine cs_get (s := x10) (w := .int (x10.1 (b + 1) 13)) fl_X8_62 dX8_dig_127 (hB.ob 1 (by decide) rfl) rfl ?_
          refine jg_iload_n dX8_dig_130 rfl ?_
          refine jg_iadd (x := (x10.1 (b + 1) 13)) (y := (cg s (b + 8) a1)) dX8_dig_131  ?_
          refine cs_put (s := x10) (k := 13) (x := ((x10.1 (b + 1) 13) + (cg s (b + 8) a1))) fl_X8_62 dX8_dig_132 (hB.ob 1 (by decide) rfl) (ltb rfl) (rfl) rfl rfl ?_
          refine jg_goto (tgt := 149) dX8_dig_135 (by decide) ?_
          obtain rfl := Option.some.inj h
          exact jg_return dX8_dig_149 rfl ⟨rfl, rfl⟩
        · replace h := it_f c12 h
          refine jg_iload dX8_dig_118 rfl ?_
          refine jg_bipush (v := nI 24) dX8_dig_120 (by decide) ?_
          refine jg_icmp_lt (x := (cg x10 (b + 10) a1)) (y := (nI 24)) (tgt := 138) dX8_dig_122 (by decide) (fun c13 => ?_) (fun c13 => ?_)
          · replace h := it_t c13 h
            refine jg_aload_n dX8_dig_138 rfl ?_
            refine cs_get (s := x10) (w := .ref (b + 4)) fl_X8_18 dX8_dig_139 (hB.ob 1 (by decide) rfl) rfl ?_
            refine jg_iload dX8_dig_142 rfl ?_
            refine jg_dup2 dX8_dig_144 rfl rfl ?_
            obtain ⟨q14, h⟩ := gd_some h
            refine cs_lda (s := x10) (q := (b + 4)) (i := (cg x10 (b + 10) a1)) dX8_dig_145 (hB.ar 4 (by decide) rfl) q14 ?_
            refine jg_iload_n dX8_dig_146 rfl ?_
            refine jg_iadd (x := (cg x10 (b + 4) (cg x10 (b + 10) a1))) (y := (cg s (b + 8) a1)) dX8_dig_147  ?_
            refine cs_sta (s := x10) (q := (b + 4)) (i := (cg x10 (b + 10) a1)) (x := ((cg x10 (b + 4) (cg x10 (b + 10) a1)) + (cg s (b + 8) a1))) dX8_dig_148 (hB.ar 4 (by decide) rfl) q14 ?_
            obtain ⟨x15, e_x15, h⟩ := bd_some h
            refine cs_sub (Option.some.inj e_x15) ?_
            obtain rfl := Option.some.inj h
            exact jg_return dX8_dig_149 rfl ⟨rfl, rfl⟩
          · replace h := it_f c13 h
            refine jg_aload_n dX8_dig_125 rfl ?_
            refine jg_dup dX8_dig_126 rfl ?_
            refine cs_get (s := x10) (w := .int (x10.1 (b + 1) 13)) fl_X8_62 dX8_dig_127 (hB.ob 1 (by decide) rfl) rfl ?_
            refine jg_iload_n dX8_dig_130 rfl ?_
            refine jg_iadd (x := (x10.1 (b + 1) 13)) (y := (cg s (b + 8) a1)) dX8_dig_131  ?_
            refine cs_put (s := x10) (k := 13) (x := ((x10.1 (b + 1) 13) + (cg s (b + 8) a1))) fl_X8_62 dX8_dig_132 (hB.ob 1 (by decide) rfl) (ltb rfl) (rfl) rfl rfl ?_
            refine jg_goto (tgt := 149) dX8_dig_135 (by decide) ?_
            obtain rfl := Option.some.inj h
            exact jg_return dX8_dig_149 rfl ⟨rfl, rfl⟩
      · replace h := it_f c11 h
        refine jg_iload_n dX8_dig_89 rfl ?_
        refine jg_aload_n dX8_dig_90 rfl ?_
        refine cs_get (s := x10) (w := .ref (b + 4)) fl_X8_18 dX8_dig_91 (hB.ob 1 (by decide) rfl) rfl ?_
        refine jg_iload_n dX8_dig_94 rfl ?_
        refine cs_lda (s := x10) (q := (b + 4)) (i := (cg s (b + 9) a1)) dX8_dig_95 (hB.ar 4 (by decide) rfl) q4 ?_
        refine jg_iadd (x := (cg s (b + 8) a1)) (y := (cg x10 (b + 4) (cg s (b + 9) a1))) dX8_dig_96  ?_
        refine jg_istore_n (L' := [some (.ref (b + 1)), some (.int a1), some (.int (cg s (b + 9) a1)), some (.int ((cg s (b + 8) a1) + (cg x10 (b + 4) (cg s (b + 9) a1)))), none]) dX8_dig_97 (by decide) rfl ?_
        refine jg_aload_n dX8_dig_98 rfl ?_
        refine cs_get (s := x10) (w := .ref (b + 4)) fl_X8_18 dX8_dig_99 (hB.ob 1 (by decide) rfl) rfl ?_
        refine jg_iload_n dX8_dig_102 rfl ?_
        refine jg_iconst (v := nI 0) dX8_dig_103 (by decide) ?_
        refine cs_sta (s := x10) (q := (b + 4)) (i := (cg s (b + 9) a1)) (x := (nI 0)) dX8_dig_104 (hB.ar 4 (by decide) rfl) q4 ?_
        refine jg_aload_n dX8_dig_105 rfl ?_
        refine cs_get (s := (ca x10 (b + 4) (cg s (b + 9) a1) (nI 0))) (w := .ref (b + 10)) fl_X8_36 dX8_dig_106 (hB.ob 1 (by decide) rfl) rfl ?_
        refine jg_iload_n dX8_dig_109 rfl ?_
        refine cs_lda (s := (ca x10 (b + 4) (cg s (b + 9) a1) (nI 0))) (q := (b + 10)) (i := a1) dX8_dig_110 (hB.ar 10 (by decide) rfl) q1 ?_
        refine jg_istore (L' := [some (.ref (b + 1)), some (.int a1), some (.int (cg s (b + 9) a1)), some (.int ((cg s (b + 8) a1) + (cg x10 (b + 4) (cg s (b + 9) a1)))), some (.int (cg (ca x10 (b + 4) (cg s (b + 9) a1) (nI 0)) (b + 10) a1))]) dX8_dig_111 (by decide) rfl ?_
        refine jg_iload dX8_dig_113 rfl ?_
        refine jg_if_lt (x := (cg (ca x10 (b + 4) (cg s (b + 9) a1) (nI 0)) (b + 10) a1)) (tgt := 125) dX8_dig_115 (by decide) (fun c16 => ?_) (fun c16 => ?_)
        · replace h := it_t c16 h
          refine jg_aload_n dX8_dig_125 rfl ?_
          refine jg_dup dX8_dig_126 rfl ?_
          refine cs_get (s := (ca x10 (b + 4) (cg s (b + 9) a1) (nI 0))) (w := .int ((ca x10 (b + 4) (cg s (b + 9) a1) (nI 0)).1 (b + 1) 13)) fl_X8_62 dX8_dig_127 (hB.ob 1 (by decide) rfl) rfl ?_
          refine jg_iload_n dX8_dig_130 rfl ?_
          refine jg_iadd (x := ((ca x10 (b + 4) (cg s (b + 9) a1) (nI 0)).1 (b + 1) 13)) (y := ((cg s (b + 8) a1) + (cg x10 (b + 4) (cg s (b + 9) a1)))) dX8_dig_131  ?_
          refine cs_put (s := (ca x10 (b + 4) (cg s (b + 9) a1) (nI 0))) (k := 13) (x := (((ca x10 (b + 4) (cg s (b + 9) a1) (nI 0)).1 (b + 1) 13) + ((cg s (b + 8) a1) + (cg x10 (b + 4) (cg s (b + 9) a1))))) fl_X8_62 dX8_dig_132 (hB.ob 1 (by decide) rfl) (ltb rfl) (rfl) rfl rfl ?_
          obtain ⟨x17, e_x17, h⟩ := bd_some h
          refine cs_sub (Option.some.inj e_x17) ?_
          refine jg_goto (tgt := 149) dX8_dig_135 (by decide) ?_
          obtain rfl := Option.some.inj h
          exact jg_return dX8_dig_149 rfl ⟨rfl, rfl⟩
        · replace h := it_f c16 h
          refine jg_iload dX8_dig_118 rfl ?_
          refine jg_bipush (v := nI 24) dX8_dig_120 (by decide) ?_
          refine jg_icmp_lt (x := (cg (ca x10 (b + 4) (cg s (b + 9) a1) (nI 0)) (b + 10) a1)) (y := (nI 24)) (tgt := 138) dX8_dig_122 (by decide) (fun c18 => ?_) (fun c18 => ?_)
          · replace h := it_t c18 h
            refine jg_aload_n dX8_dig_138 rfl ?_
            refine cs_get (s := (ca x10 (b + 4) (cg s (b + 9) a1) (nI 0))) (w := .ref (b + 4)) fl_X8_18 dX8_dig_139 (hB.ob 1 (by decide) rfl) rfl ?_
            refine jg_iload dX8_dig_142 rfl ?_
            refine jg_dup2 dX8_dig_144 rfl rfl ?_
            obtain ⟨q19, h⟩ := gd_some h
            refine cs_lda (s := (ca x10 (b + 4) (cg s (b + 9) a1) (nI 0))) (q := (b + 4)) (i := (cg (ca x10 (b + 4) (cg s (b + 9) a1) (nI 0)) (b + 10) a1)) dX8_dig_145 (hB.ar 4 (by decide) rfl) q19 ?_
            refine jg_iload_n dX8_dig_146 rfl ?_
            refine jg_iadd (x := (cg (ca x10 (b + 4) (cg s (b + 9) a1) (nI 0)) (b + 4) (cg (ca x10 (b + 4) (cg s (b + 9) a1) (nI 0)) (b + 10) a1))) (y := ((cg s (b + 8) a1) + (cg x10 (b + 4) (cg s (b + 9) a1)))) dX8_dig_147  ?_
            refine cs_sta (s := (ca x10 (b + 4) (cg s (b + 9) a1) (nI 0))) (q := (b + 4)) (i := (cg (ca x10 (b + 4) (cg s (b + 9) a1) (nI 0)) (b + 10) a1)) (x := ((cg (ca x10 (b + 4) (cg s (b + 9) a1) (nI 0)) (b + 4) (cg (ca x10 (b + 4) (cg s (b + 9) a1) (nI 0)) (b + 10) a1)) + ((cg s (b + 8) a1) + (cg x10 (b + 4) (cg s (b + 9) a1))))) dX8_dig_148 (hB.ar 4 (by decide) rfl) q19 ?_
            obtain ⟨x20, e_x20, h⟩ := bd_some h
            refine cs_sub (Option.some.inj e_x20) ?_
            obtain rfl := Option.some.inj h
            exact jg_return dX8_dig_149 rfl ⟨rfl, rfl⟩
          · replace h := it_f c18 h
            refine jg_aload_n dX8_dig_125 rfl ?_
            refine jg_dup dX8_dig_126 rfl ?_
            refine cs_get (s := (ca x10 (b + 4) (cg s (b + 9) a1) (nI 0))) (w := .int ((ca x10 (b + 4) (cg s (b + 9) a1) (nI 0)).1 (b + 1) 13)) fl_X8_62 dX8_dig_127 (hB.ob 1 (by decide) rfl) rfl ?_
            refine jg_iload_n dX8_dig_130 rfl ?_
            refine jg_iadd (x := ((ca x10 (b + 4) (cg s (b + 9) a1) (nI 0)).1 (b + 1) 13)) (y := ((cg s (b + 8) a1) + (cg x10 (b + 4) (cg s (b + 9) a1)))) dX8_dig_131  ?_
            refine cs_put (s := (ca x10 (b + 4) (cg s (b + 9) a1) (nI 0))) (k := 13) (x := (((ca x10 (b + 4) (cg s (b + 9) a1) (nI 0)).1 (b + 1) 13) + ((cg s (b + 8) a1) + (cg x10 (b + 4) (cg s (b + 9) a1))))) fl_X8_62 dX8_dig_132 (hB.ob 1 (by decide) rfl) (ltb rfl) (rfl) rfl rfl ?_
            obtain ⟨x21, e_x21, h⟩ := bd_some h
            refine cs_sub (Option.some.inj e_x21) ?_
            refine jg_goto (tgt := 149) dX8_dig_135 (by decide) ?_
            obtain rfl := Option.some.inj h
            exact jg_return dX8_dig_149 rfl ⟨rfl, rfl⟩
    · replace h := it_f c3 h
      obtain rfl := Option.some.inj h
      exact jg_return dX8_dig_17 rfl ⟨rfl, rfl⟩
theorem dX8_endDay_0 : decode cX8_endDay 0 = .ok (.aload_n 0, 1) := by decide +kernel
theorem dX8_endDay_1 : decode cX8_endDay 1 = .ok (.aload_n 0, 1) := by decide +kernel
theorem dX8_endDay_2 : decode cX8_endDay 2 = .ok (.iload_n 1, 1) := by decide +kernel
theorem dX8_endDay_3 : decode cX8_endDay 3 = .ok (.invokevirtual 71, 3) := by decide +kernel
theorem dX8_endDay_6 : decode cX8_endDay 6 = .ok (.invokevirtual 75, 3) := by decide +kernel
theorem dX8_endDay_9 : decode cX8_endDay 9 = .ok (.iconst 0, 1) := by decide +kernel
theorem dX8_endDay_10 : decode cX8_endDay 10 = .ok (.istore_n 2, 1) := by decide +kernel
theorem dX8_endDay_11 : decode cX8_endDay 11 = .ok (.iload_n 2, 1) := by decide +kernel
theorem dX8_endDay_12 : decode cX8_endDay 12 = .ok (.aload_n 0, 1) := by decide +kernel
theorem dX8_endDay_13 : decode cX8_endDay 13 = .ok (.getfield 53, 3) := by decide +kernel
theorem dX8_endDay_16 : decode cX8_endDay 16 = .ok (.if_icmp .ge 14, 3) := by decide +kernel
theorem dX8_endDay_19 : decode cX8_endDay 19 = .ok (.aload_n 0, 1) := by decide +kernel
theorem dX8_endDay_20 : decode cX8_endDay 20 = .ok (.iload_n 2, 1) := by decide +kernel
theorem dX8_endDay_21 : decode cX8_endDay 21 = .ok (.invokevirtual 79, 3) := by decide +kernel
theorem dX8_endDay_24 : decode cX8_endDay 24 = .ok (.iinc 2 1, 3) := by decide +kernel
theorem dX8_endDay_27 : decode cX8_endDay 27 = .ok (.goto (-16), 3) := by decide +kernel
theorem dX8_endDay_30 : decode cX8_endDay 30 = .ok (.iconst 0, 1) := by decide +kernel
theorem dX8_endDay_31 : decode cX8_endDay 31 = .ok (.istore_n 2, 1) := by decide +kernel
theorem dX8_endDay_32 : decode cX8_endDay 32 = .ok (.iload_n 2, 1) := by decide +kernel
theorem dX8_endDay_33 : decode cX8_endDay 33 = .ok (.bipush 24, 2) := by decide +kernel
theorem dX8_endDay_35 : decode cX8_endDay 35 = .ok (.if_icmp .ge 53, 3) := by decide +kernel
theorem dX8_endDay_38 : decode cX8_endDay 38 = .ok (.aload_n 0, 1) := by decide +kernel
theorem dX8_endDay_39 : decode cX8_endDay 39 = .ok (.getfield 18, 3) := by decide +kernel
theorem dX8_endDay_42 : decode cX8_endDay 42 = .ok (.iload_n 2, 1) := by decide +kernel
theorem dX8_endDay_43 : decode cX8_endDay 43 = .ok (.iaload, 1) := by decide +kernel
theorem dX8_endDay_44 : decode cX8_endDay 44 = .ok (.bipush 50, 2) := by decide +kernel
theorem dX8_endDay_46 : decode cX8_endDay 46 = .ok (.if_icmp .lt 36, 3) := by decide +kernel
theorem dX8_endDay_49 : decode cX8_endDay 49 = .ok (.aload_n 0, 1) := by decide +kernel
theorem dX8_endDay_50 : decode cX8_endDay 50 = .ok (.getfield 9, 3) := by decide +kernel
theorem dX8_endDay_53 : decode cX8_endDay 53 = .ok (.iload_n 2, 1) := by decide +kernel
theorem dX8_endDay_54 : decode cX8_endDay 54 = .ok (.iaload, 1) := by decide +kernel
theorem dX8_endDay_55 : decode cX8_endDay 55 = .ok (.ifCond .le 27, 3) := by decide +kernel
theorem dX8_endDay_58 : decode cX8_endDay 58 = .ok (.aload_n 0, 1) := by decide +kernel
theorem dX8_endDay_59 : decode cX8_endDay 59 = .ok (.getfield 18, 3) := by decide +kernel
theorem dX8_endDay_62 : decode cX8_endDay 62 = .ok (.iload_n 2, 1) := by decide +kernel
theorem dX8_endDay_63 : decode cX8_endDay 63 = .ok (.dup2, 1) := by decide +kernel
theorem dX8_endDay_64 : decode cX8_endDay 64 = .ok (.iaload, 1) := by decide +kernel
theorem dX8_endDay_65 : decode cX8_endDay 65 = .ok (.bipush 50, 2) := by decide +kernel
theorem dX8_endDay_67 : decode cX8_endDay 67 = .ok (.isub, 1) := by decide +kernel
theorem dX8_endDay_68 : decode cX8_endDay 68 = .ok (.iastore, 1) := by decide +kernel
theorem dX8_endDay_69 : decode cX8_endDay 69 = .ok (.aload_n 0, 1) := by decide +kernel
theorem dX8_endDay_70 : decode cX8_endDay 70 = .ok (.getfield 9, 3) := by decide +kernel
theorem dX8_endDay_73 : decode cX8_endDay 73 = .ok (.iload_n 2, 1) := by decide +kernel
theorem dX8_endDay_74 : decode cX8_endDay 74 = .ok (.dup2, 1) := by decide +kernel
theorem dX8_endDay_75 : decode cX8_endDay 75 = .ok (.iaload, 1) := by decide +kernel
theorem dX8_endDay_76 : decode cX8_endDay 76 = .ok (.iconst 1, 1) := by decide +kernel
theorem dX8_endDay_77 : decode cX8_endDay 77 = .ok (.isub, 1) := by decide +kernel
theorem dX8_endDay_78 : decode cX8_endDay 78 = .ok (.iastore, 1) := by decide +kernel
theorem dX8_endDay_79 : decode cX8_endDay 79 = .ok (.goto (-41), 3) := by decide +kernel
theorem dX8_endDay_82 : decode cX8_endDay 82 = .ok (.iinc 2 1, 3) := by decide +kernel
theorem dX8_endDay_85 : decode cX8_endDay 85 = .ok (.goto (-53), 3) := by decide +kernel
theorem dX8_endDay_88 : decode cX8_endDay 88 = .ok (.return_, 1) := by decide +kernel
noncomputable def o_X8_endDay_11 (F : Nat) (τ : cT) (n : Nat) (b : Nat)  : Nat → Int32 → cS → Option (cS)
  | 0, _, _ => none
  | f + 1, l2, s => if (s.1 (b + 1) 10) ≤ l2 then (some s) else ((o_X8_dig F τ n b s l2).bind fun x4 => (o_X8_endDay_11 F τ n b f (l2 + nI 1) x4))
set_option maxHeartbeats 4000000 in
theorem t_X8_endDay_11 {Γ : jg_G} {g : Nat → jg_C} (F : Nat) (τ : cT) (n : Nat) (b : Nat)  (hB : Bd τ n b) (Q : jg_Q) {x : cS} (K1 : jg Γ mX8_endDay 2 0 0 30 [some (.ref (b + 1)), none, none] [] (ct_h g τ x, n) Q)  : ∀ (f : Nat) (l2 : Int32) (s : cS), o_X8_endDay_11 F τ n b f l2 s = some x → jg Γ mX8_endDay 2 0 0 11 [some (.ref (b + 1)), none, some (.int l2)] [] (ct_h g τ s, n) Q := by
  intro f
  induction f with
  | zero => intro l2 s h; rw [o_X8_endDay_11] at h; cases h
  | succ f ih =>
   intro l2 s h
   rw [o_X8_endDay_11] at h
   refine jg_iload_n dX8_endDay_11 rfl ?_
   refine jg_aload_n dX8_endDay_12 rfl ?_
   refine cs_get (s := s) (w := .int (s.1 (b + 1) 10)) fl_X8_53 dX8_endDay_13 (hB.ob 1 (by decide) rfl) rfl ?_
   refine jg_icmp_ge (x := l2) (y := (s.1 (b + 1) 10)) (tgt := 30) dX8_endDay_16 (by decide) (fun c3 => ?_) (fun c3 => ?_)
   · replace h := it_t c3 h
     refine jg_fg (L' := [some (.ref (b + 1)), none, none]) (by repeat (first | exact trivial | refine ⟨rfl, ?_⟩ | show jg_le _ _)) ?_
     obtain rfl := Option.some.inj h
     exact K1
   · replace h := it_f c3 h
     refine jg_aload_n dX8_endDay_19 rfl ?_
     refine jg_iload_n dX8_endDay_20 rfl ?_
     obtain ⟨x4, e_x4, h⟩ := bd_some h
     refine cs_call (q := (b + 1)) (As := [.int l2]) kv_X8_79 dX8_endDay_21 (hB.ob 1 (by decide) rfl) rfl rfl (by decide) (Nat.le_of_ble_eq_true rfl) rfl (by decide) (Nat.le_of_ble_eq_true rfl) (t_X8_dig F τ n b s l2 hB e_x4) ?_
     refine jg_iinc (x := l2) (v := l2 + nI 1) (L' := [some (.ref (b + 1)), none, some (.int (l2 + nI 1))]) dX8_endDay_24 rfl (ic_k _ (by decide)) (by decide) rfl ?_
     refine jg_goto (tgt := 11) dX8_endDay_27 (by decide) ?_
     refine jg_fg (L' := [some (.ref (b + 1)), none, some (.int (l2 + nI 1))]) (by repeat (first | exact trivial | refine ⟨rfl, ?_⟩ | show jg_le _ _)) ?_
     exact ih (l2 + nI 1) x4 h
noncomputable def o_X8_endDay_38 (F : Nat) (τ : cT) (n : Nat) (b : Nat) (l2 : Int32)  : Nat → cS → Option (cS)
  | 0, _ => none
  | f + 1, s => if iL l2 24 then (if (cg s (b + 4) l2) < (nI 50) then (some s) else (if (cg s (b + 2) l2) ≤ 0 then (some s) else ((some (ca (ca s (b + 4) l2 ((cg s (b + 4) l2) - (nI 50))) (b + 2) l2 ((cg (ca s (b + 4) l2 ((cg s (b + 4) l2) - (nI 50))) (b + 2) l2) - (nI 1)))).bind fun x10 => (o_X8_endDay_38 F τ n b l2 f x10)))) else none
set_option maxHeartbeats 4000000 in
theorem t_X8_endDay_38 {Γ : jg_G} {g : Nat → jg_C} (F : Nat) (τ : cT) (n : Nat) (b : Nat) (l2 : Int32)  (hB : Bd τ n b) (Q : jg_Q) {x : cS} (K1 : jg Γ mX8_endDay 2 0 0 82 [some (.ref (b + 1)), none, some (.int l2)] [] (ct_h g τ x, n) Q)  : ∀ (f : Nat) (s : cS), o_X8_endDay_38 F τ n b l2 f s = some x → jg Γ mX8_endDay 2 0 0 38 [some (.ref (b + 1)), none, some (.int l2)] [] (ct_h g τ s, n) Q := by
  intro f
  induction f with
  | zero => intro s h; rw [o_X8_endDay_38] at h; cases h
  | succ f ih =>
   intro s h
   rw [o_X8_endDay_38] at h
   refine jg_aload_n dX8_endDay_38 rfl ?_
   refine cs_get (s := s) (w := .ref (b + 4)) fl_X8_18 dX8_endDay_39 (hB.ob 1 (by decide) rfl) rfl ?_
   refine jg_iload_n dX8_endDay_42 rfl ?_
   obtain ⟨q7, h⟩ := gd_some h
   refine cs_lda (s := s) (q := (b + 4)) (i := l2) dX8_endDay_43 (hB.ar 4 (by decide) rfl) q7 ?_
   refine jg_bipush (v := nI 50) dX8_endDay_44 (by decide) ?_
   refine jg_icmp_lt (x := (cg s (b + 4) l2)) (y := (nI 50)) (tgt := 82) dX8_endDay_46 (by decide) (fun c8 => ?_) (fun c8 => ?_)
   · replace h := it_t c8 h
     refine jg_fg (L' := [some (.ref (b + 1)), none, some (.int l2)]) (by repeat (first | exact trivial | refine ⟨rfl, ?_⟩ | show jg_le _ _)) ?_
     obtain rfl := Option.some.inj h
     exact K1
   · replace h := it_f c8 h
     refine jg_aload_n dX8_endDay_49 rfl ?_
     refine cs_get (s := s) (w := .ref (b + 2)) fl_X8_9 dX8_endDay_50 (hB.ob 1 (by decide) rfl) rfl ?_
     refine jg_iload_n dX8_endDay_53 rfl ?_
     refine cs_lda (s := s) (q := (b + 2)) (i := l2) dX8_endDay_54 (hB.ar 2 (by decide) rfl) q7 ?_
     refine jg_if_le (x := (cg s (b + 2) l2)) (tgt := 82) dX8_endDay_55 (by decide) (fun c9 => ?_) (fun c9 => ?_)
     · replace h := it_t c9 h
       refine jg_fg (L' := [some (.ref (b + 1)), none, some (.int l2)]) (by repeat (first | exact trivial | refine ⟨rfl, ?_⟩ | show jg_le _ _)) ?_
       obtain rfl := Option.some.inj h
       exact K1
     · replace h := it_f c9 h
       refine jg_aload_n dX8_endDay_58 rfl ?_
       refine cs_get (s := s) (w := .ref (b + 4)) fl_X8_18 dX8_endDay_59 (hB.ob 1 (by decide) rfl) rfl ?_
       refine jg_iload_n dX8_endDay_62 rfl ?_
       refine jg_dup2 dX8_endDay_63 rfl rfl ?_
       refine cs_lda (s := s) (q := (b + 4)) (i := l2) dX8_endDay_64 (hB.ar 4 (by decide) rfl) q7 ?_
       refine jg_bipush (v := nI 50) dX8_endDay_65 (by decide) ?_
       refine jg_isub (x := (cg s (b + 4) l2)) (y := (nI 50)) dX8_endDay_67  ?_
       refine cs_sta (s := s) (q := (b + 4)) (i := l2) (x := ((cg s (b + 4) l2) - (nI 50))) dX8_endDay_68 (hB.ar 4 (by decide) rfl) q7 ?_
       refine jg_aload_n dX8_endDay_69 rfl ?_
       refine cs_get (s := (ca s (b + 4) l2 ((cg s (b + 4) l2) - (nI 50)))) (w := .ref (b + 2)) fl_X8_9 dX8_endDay_70 (hB.ob 1 (by decide) rfl) rfl ?_
       refine jg_iload_n dX8_endDay_73 rfl ?_
       refine jg_dup2 dX8_endDay_74 rfl rfl ?_
       refine cs_lda (s := (ca s (b + 4) l2 ((cg s (b + 4) l2) - (nI 50)))) (q := (b + 2)) (i := l2) dX8_endDay_75 (hB.ar 2 (by decide) rfl) q7 ?_
       refine jg_iconst (v := nI 1) dX8_endDay_76 (by decide) ?_
       refine jg_isub (x := (cg (ca s (b + 4) l2 ((cg s (b + 4) l2) - (nI 50))) (b + 2) l2)) (y := (nI 1)) dX8_endDay_77  ?_
       refine cs_sta (s := (ca s (b + 4) l2 ((cg s (b + 4) l2) - (nI 50)))) (q := (b + 2)) (i := l2) (x := ((cg (ca s (b + 4) l2 ((cg s (b + 4) l2) - (nI 50))) (b + 2) l2) - (nI 1))) dX8_endDay_78 (hB.ar 2 (by decide) rfl) q7 ?_
       obtain ⟨x10, e_x10, h⟩ := bd_some h
       refine cs_sub (Option.some.inj e_x10) ?_
       refine jg_goto (tgt := 38) dX8_endDay_79 (by decide) ?_
       refine jg_fg (L' := [some (.ref (b + 1)), none, some (.int l2)]) (by repeat (first | exact trivial | refine ⟨rfl, ?_⟩ | show jg_le _ _)) ?_
       exact ih x10 h
noncomputable def o_X8_endDay_32 (F : Nat) (τ : cT) (n : Nat) (b : Nat)  : Nat → Int32 → cS → Option (cS)
  | 0, _, _ => none
  | f + 1, l2, s => if (nI 24) ≤ l2 then (some s) else ((o_X8_endDay_38 F τ n b l2 F s).bind fun x11 => (o_X8_endDay_32 F τ n b f (l2 + nI 1) x11))
set_option maxHeartbeats 4000000 in
theorem t_X8_endDay_32 {Γ : jg_G} {g : Nat → jg_C} (F : Nat) (τ : cT) (n : Nat) (b : Nat)  (hB : Bd τ n b) (Q : jg_Q) {x : cS} (K1 : jg Γ mX8_endDay 2 0 0 88 [none, none, none] [] (ct_h g τ x, n) Q)  : ∀ (f : Nat) (l2 : Int32) (s : cS), o_X8_endDay_32 F τ n b f l2 s = some x → jg Γ mX8_endDay 2 0 0 32 [some (.ref (b + 1)), none, some (.int l2)] [] (ct_h g τ s, n) Q := by
  intro f
  induction f with
  | zero => intro l2 s h; rw [o_X8_endDay_32] at h; cases h
  | succ f ih =>
   intro l2 s h
   rw [o_X8_endDay_32] at h
   refine jg_iload_n dX8_endDay_32 rfl ?_
   refine jg_bipush (v := nI 24) dX8_endDay_33 (by decide) ?_
   refine jg_icmp_ge (x := l2) (y := (nI 24)) (tgt := 88) dX8_endDay_35 (by decide) (fun c6 => ?_) (fun c6 => ?_)
   · replace h := it_t c6 h
     refine jg_fg (L' := [none, none, none]) (by repeat (first | exact trivial | refine ⟨rfl, ?_⟩ | show jg_le _ _)) ?_
     obtain rfl := Option.some.inj h
     exact K1
   · replace h := it_f c6 h
     obtain ⟨x11, e_x11, h⟩ := bd_some h
     refine jg_fg (L' := [some (.ref (b + 1)), none, some (.int l2)]) (by repeat (first | exact trivial | refine ⟨rfl, ?_⟩ | show jg_le _ _)) ?_
     refine t_X8_endDay_38  F τ n b l2 hB _ (x := x11) ?_ F s e_x11
     refine jg_iinc (x := l2) (v := l2 + nI 1) (L' := [some (.ref (b + 1)), none, some (.int (l2 + nI 1))]) dX8_endDay_82 rfl (ic_k _ (by decide)) (by decide) rfl ?_
     refine jg_goto (tgt := 32) dX8_endDay_85 (by decide) ?_
     refine jg_fg (L' := [some (.ref (b + 1)), none, some (.int (l2 + nI 1))]) (by repeat (first | exact trivial | refine ⟨rfl, ?_⟩ | show jg_le _ _)) ?_
     exact ih (l2 + nI 1) x11 h
noncomputable def o_X8_endDay (F : Nat) (τ : cT) (n : Nat) (b : Nat) (s : cS) (a1 : Int32) : Option (cS) := (o_X8_runOf F τ n b s a1).bind fun x1 => ((o_X8_silt F τ n b s x1).bind fun x2 => ((o_X8_endDay_11 F τ n b F (nI 0) x2).bind fun x5 => ((o_X8_endDay_32 F τ n b F (nI 0) x5).bind fun x12 => (some x12))))
set_option maxHeartbeats 4000000 in
theorem t_X8_endDay {Γ : jg_G} {g : Nat → jg_C} (F : Nat) (τ : cT) (n : Nat) (b : Nat) (s : cS) (a1 : Int32) (hB : Bd τ n b) {x : cS} (h : o_X8_endDay F τ n b s a1 = some x) : jc Γ mX8_endDay 2 0 0 [some (.ref (b + 1)), some (.int a1), none] (ct_h g τ s, n) (.inl none) (ct_h g τ x, n) := by
  refine jc_of ?_
  rw [o_X8_endDay] at h
  refine jg_aload_n dX8_endDay_0 rfl ?_
  refine jg_aload_n dX8_endDay_1 rfl ?_
  refine jg_iload_n dX8_endDay_2 rfl ?_
  obtain ⟨x1, e_x1, h⟩ := bd_some h
  refine cs_call (q := (b + 1)) (As := [.int a1]) kv_X8_71 dX8_endDay_3 (hB.ob 1 (by decide) rfl) rfl rfl (by decide) (Nat.le_of_ble_eq_true rfl) rfl (by decide) (Nat.le_of_ble_eq_true rfl) (t_X8_runOf F τ n b s a1 hB e_x1) ?_
  obtain ⟨x2, e_x2, h⟩ := bd_some h
  refine cs_call (q := (b + 1)) (As := [.int x1]) kv_X8_75 dX8_endDay_6 (hB.ob 1 (by decide) rfl) rfl rfl (by decide) (Nat.le_of_ble_eq_true rfl) rfl (by decide) (Nat.le_of_ble_eq_true rfl) (t_X8_silt F τ n b s x1 hB e_x2) ?_
  refine jg_iconst (v := nI 0) dX8_endDay_9 (by decide) ?_
  refine jg_istore_n (L' := [some (.ref (b + 1)), some (.int a1), some (.int (nI 0))]) dX8_endDay_10 (by decide) rfl ?_
  obtain ⟨x5, e_x5, h⟩ := bd_some h
  refine jg_fg (L' := [some (.ref (b + 1)), none, some (.int (nI 0))]) (by repeat (first | exact trivial | refine ⟨rfl, ?_⟩ | show jg_le _ _)) ?_
  refine t_X8_endDay_11  F τ n b hB _ (x := x5) ?_ F (nI 0) x2 e_x5
  refine jg_iconst (v := nI 0) dX8_endDay_30 (by decide) ?_
  refine jg_istore_n (L' := [some (.ref (b + 1)), none, some (.int (nI 0))]) dX8_endDay_31 (by decide) rfl ?_
  obtain ⟨x12, e_x12, h⟩ := bd_some h
  refine jg_fg (L' := [some (.ref (b + 1)), none, some (.int (nI 0))]) (by repeat (first | exact trivial | refine ⟨rfl, ?_⟩ | show jg_le _ _)) ?_
  refine t_X8_endDay_32  F τ n b hB _ (x := x12) ?_ F (nI 0) x5 e_x12
  obtain rfl := Option.some.inj h
  exact jg_return dX8_endDay_88 rfl ⟨rfl, rfl⟩
theorem dX6_payRank_0 : decode cX6_payRank 0 = .ok (.iconst 0, 1) := by decide +kernel
theorem dX6_payRank_1 : decode cX6_payRank 1 = .ok (.istore_n 2, 1) := by decide +kernel
theorem dX6_payRank_2 : decode cX6_payRank 2 = .ok (.iload_n 2, 1) := by decide +kernel
theorem dX6_payRank_3 : decode cX6_payRank 3 = .ok (.aload_n 0, 1) := by decide +kernel
theorem dX6_payRank_4 : decode cX6_payRank 4 = .ok (.getfield 56, 3) := by decide +kernel
theorem dX6_payRank_7 : decode cX6_payRank 7 = .ok (.if_icmp .ge 63, 3) := by decide +kernel
theorem dX6_payRank_10 : decode cX6_payRank 10 = .ok (.aload_n 0, 1) := by decide +kernel
theorem dX6_payRank_11 : decode cX6_payRank 11 = .ok (.getfield 27, 3) := by decide +kernel
theorem dX6_payRank_14 : decode cX6_payRank 14 = .ok (.iload_n 2, 1) := by decide +kernel
theorem dX6_payRank_15 : decode cX6_payRank 15 = .ok (.iaload, 1) := by decide +kernel
theorem dX6_payRank_16 : decode cX6_payRank 16 = .ok (.iload_n 1, 1) := by decide +kernel
theorem dX6_payRank_17 : decode cX6_payRank 17 = .ok (.if_icmp .ne 47, 3) := by decide +kernel
theorem dX6_payRank_20 : decode cX6_payRank 20 = .ok (.aload_n 0, 1) := by decide +kernel
theorem dX6_payRank_21 : decode cX6_payRank 21 = .ok (.getfield 39, 3) := by decide +kernel
theorem dX6_payRank_24 : decode cX6_payRank 24 = .ok (.aload_n 0, 1) := by decide +kernel
theorem dX6_payRank_25 : decode cX6_payRank 25 = .ok (.getfield 33, 3) := by decide +kernel
theorem dX6_payRank_28 : decode cX6_payRank 28 = .ok (.iload_n 2, 1) := by decide +kernel
theorem dX6_payRank_29 : decode cX6_payRank 29 = .ok (.iaload, 1) := by decide +kernel
theorem dX6_payRank_30 : decode cX6_payRank 30 = .ok (.invokestatic 63, 3) := by decide +kernel
theorem dX6_payRank_33 : decode cX6_payRank 33 = .ok (.istore_n 3, 1) := by decide +kernel
theorem dX6_payRank_34 : decode cX6_payRank 34 = .ok (.aload_n 0, 1) := by decide +kernel
theorem dX6_payRank_35 : decode cX6_payRank 35 = .ok (.getfield 33, 3) := by decide +kernel
theorem dX6_payRank_38 : decode cX6_payRank 38 = .ok (.iload_n 2, 1) := by decide +kernel
theorem dX6_payRank_39 : decode cX6_payRank 39 = .ok (.dup2, 1) := by decide +kernel
theorem dX6_payRank_40 : decode cX6_payRank 40 = .ok (.iaload, 1) := by decide +kernel
theorem dX6_payRank_41 : decode cX6_payRank 41 = .ok (.iload_n 3, 1) := by decide +kernel
theorem dX6_payRank_42 : decode cX6_payRank 42 = .ok (.isub, 1) := by decide +kernel
theorem dX6_payRank_43 : decode cX6_payRank 43 = .ok (.iastore, 1) := by decide +kernel
theorem dX6_payRank_44 : decode cX6_payRank 44 = .ok (.aload_n 0, 1) := by decide +kernel
theorem dX6_payRank_45 : decode cX6_payRank 45 = .ok (.getfield 36, 3) := by decide +kernel
theorem dX6_payRank_48 : decode cX6_payRank 48 = .ok (.iload_n 2, 1) := by decide +kernel
theorem dX6_payRank_49 : decode cX6_payRank 49 = .ok (.dup2, 1) := by decide +kernel
theorem dX6_payRank_50 : decode cX6_payRank 50 = .ok (.iaload, 1) := by decide +kernel
theorem dX6_payRank_51 : decode cX6_payRank 51 = .ok (.iload_n 3, 1) := by decide +kernel
theorem dX6_payRank_52 : decode cX6_payRank 52 = .ok (.iadd, 1) := by decide +kernel
theorem dX6_payRank_53 : decode cX6_payRank 53 = .ok (.iastore, 1) := by decide +kernel
theorem dX6_payRank_54 : decode cX6_payRank 54 = .ok (.aload_n 0, 1) := by decide +kernel
theorem dX6_payRank_55 : decode cX6_payRank 55 = .ok (.dup, 1) := by decide +kernel
theorem dX6_payRank_56 : decode cX6_payRank 56 = .ok (.getfield 39, 3) := by decide +kernel
theorem dX6_payRank_59 : decode cX6_payRank 59 = .ok (.iload_n 3, 1) := by decide +kernel
theorem dX6_payRank_60 : decode cX6_payRank 60 = .ok (.isub, 1) := by decide +kernel
theorem dX6_payRank_61 : decode cX6_payRank 61 = .ok (.putfield 39, 3) := by decide +kernel
theorem dX6_payRank_64 : decode cX6_payRank 64 = .ok (.iinc 2 1, 3) := by decide +kernel
theorem dX6_payRank_67 : decode cX6_payRank 67 = .ok (.goto (-65), 3) := by decide +kernel
theorem dX6_payRank_70 : decode cX6_payRank 70 = .ok (.return_, 1) := by decide +kernel
noncomputable def o_X6_payRank_2 (F : Nat) (τ : cT) (n : Nat) (b : Nat) (l1 : Int32)  : Nat → Int32 → cS → Option (cS)
  | 0, _, _ => none
  | f + 1, l2, s => if (s.1 (b + 121) 13) ≤ l2 then (some s) else (if iL l2 20 then (if (cg s (b + 127) l2) = l1 then ((some (ca s (b + 129) l2 ((cg s (b + 129) l2) - (mni (s.1 (b + 121) 0) (cg s (b + 129) l2))))).bind fun x4 => ((some (ca x4 (b + 130) l2 ((cg x4 (b + 130) l2) + (mni (s.1 (b + 121) 0) (cg s (b + 129) l2))))).bind fun x5 => ((some (cp x5 (b + 121) 0 ((x5.1 (b + 121) 0) - (mni (s.1 (b + 121) 0) (cg s (b + 129) l2))))).bind fun x6 => (o_X6_payRank_2 F τ n b l1 f (l2 + nI 1) x6)))) else (o_X6_payRank_2 F τ n b l1 f (l2 + nI 1) s)) else none)
set_option maxHeartbeats 4000000 in
theorem t_X6_payRank_2 {Γ : jg_G} {g : Nat → jg_C} (F : Nat) (τ : cT) (n : Nat) (b : Nat) (l1 : Int32)  (hB : Bd τ n b) (Q : jg_Q) {x : cS} (K1 : jg Γ mX6_payRank 1 0 0 70 [none, none, none, none] [] (ct_h g τ x, n) Q)  : ∀ (f : Nat) (l2 : Int32) (s : cS), o_X6_payRank_2 F τ n b l1 f l2 s = some x → jg Γ mX6_payRank 1 0 0 2 [some (.ref (b + 121)), some (.int l1), some (.int l2), none] [] (ct_h g τ s, n) Q := by
  intro f
  induction f with
  | zero => intro l2 s h; rw [o_X6_payRank_2] at h; cases h
  | succ f ih =>
   intro l2 s h
   rw [o_X6_payRank_2] at h
   refine jg_iload_n dX6_payRank_2 rfl ?_
   refine jg_aload_n dX6_payRank_3 rfl ?_
   refine cs_get (s := s) (w := .int (s.1 (b + 121) 13)) fl_X6_56 dX6_payRank_4 (hB.ob 121 (by decide) rfl) rfl ?_
   refine jg_icmp_ge (x := l2) (y := (s.1 (b + 121) 13)) (tgt := 70) dX6_payRank_7 (by decide) (fun c1 => ?_) (fun c1 => ?_)
   · replace h := it_t c1 h
     refine jg_fg (L' := [none, none, none, none]) (by repeat (first | exact trivial | refine ⟨rfl, ?_⟩ | show jg_le _ _)) ?_
     obtain rfl := Option.some.inj h
     exact K1
   · replace h := it_f c1 h
     refine jg_aload_n dX6_payRank_10 rfl ?_
     refine cs_get (s := s) (w := .ref (b + 127)) fl_X6_27 dX6_payRank_11 (hB.ob 121 (by decide) rfl) rfl ?_
     refine jg_iload_n dX6_payRank_14 rfl ?_
     obtain ⟨q2, h⟩ := gd_some h
     refine cs_lda (s := s) (q := (b + 127)) (i := l2) dX6_payRank_15 (hB.ar 127 (by decide) rfl) q2 ?_
     refine jg_iload_n dX6_payRank_16 rfl ?_
     refine jg_icmp_ne (x := (cg s (b + 127) l2)) (y := l1) (tgt := 64) dX6_payRank_17 (by decide) (fun c3 => ?_) (fun c3 => ?_)
     · replace h := it_f c3 h
       refine jg_iinc (x := l2) (v := l2 + nI 1) (L' := [some (.ref (b + 121)), some (.int l1), some (.int (l2 + nI 1)), none]) dX6_payRank_64 rfl (ic_k _ (by decide)) (by decide) rfl ?_
       refine jg_goto (tgt := 2) dX6_payRank_67 (by decide) ?_
       refine jg_fg (L' := [some (.ref (b + 121)), some (.int l1), some (.int (l2 + nI 1)), none]) (by repeat (first | exact trivial | refine ⟨rfl, ?_⟩ | show jg_le _ _)) ?_
       exact ih (l2 + nI 1) s h
     · replace h := it_t c3 h
       refine jg_aload_n dX6_payRank_20 rfl ?_
       refine cs_get (s := s) (w := .int (s.1 (b + 121) 0)) fl_X6_39 dX6_payRank_21 (hB.ob 121 (by decide) rfl) rfl ?_
       refine jg_aload_n dX6_payRank_24 rfl ?_
       refine cs_get (s := s) (w := .ref (b + 129)) fl_X6_33 dX6_payRank_25 (hB.ob 121 (by decide) rfl) rfl ?_
       refine jg_iload_n dX6_payRank_28 rfl ?_
       refine cs_lda (s := s) (q := (b + 129)) (i := l2) dX6_payRank_29 (hB.ar 129 (by decide) rfl) q2 ?_
       refine jg_mmin (x := (s.1 (b + 121) 0)) (y := (cg s (b + 129) l2)) km_X6_63 jw_min.1 jw_min.2 dX6_payRank_30 (by decide) (Nat.le_of_ble_eq_true rfl) ?_
       refine jg_istore_n (L' := [some (.ref (b + 121)), some (.int l1), some (.int l2), some (.int (mni (s.1 (b + 121) 0) (cg s (b + 129) l2)))]) dX6_payRank_33 (by decide) rfl ?_
       refine jg_aload_n dX6_payRank_34 rfl ?_
       refine cs_get (s := s) (w := .ref (b + 129)) fl_X6_33 dX6_payRank_35 (hB.ob 121 (by decide) rfl) rfl ?_
       refine jg_iload_n dX6_payRank_38 rfl ?_
       refine jg_dup2 dX6_payRank_39 rfl rfl ?_
       refine cs_lda (s := s) (q := (b + 129)) (i := l2) dX6_payRank_40 (hB.ar 129 (by decide) rfl) q2 ?_
       refine jg_iload_n dX6_payRank_41 rfl ?_
       refine jg_isub (x := (cg s (b + 129) l2)) (y := (mni (s.1 (b + 121) 0) (cg s (b + 129) l2))) dX6_payRank_42  ?_
       refine cs_sta (s := s) (q := (b + 129)) (i := l2) (x := ((cg s (b + 129) l2) - (mni (s.1 (b + 121) 0) (cg s (b + 129) l2)))) dX6_payRank_43 (hB.ar 129 (by decide) rfl) q2 ?_
       obtain ⟨x4, e_x4, h⟩ := bd_some h
       refine cs_sub (Option.some.inj e_x4) ?_
       refine jg_aload_n dX6_payRank_44 rfl ?_
       refine cs_get (s := x4) (w := .ref (b + 130)) fl_X6_36 dX6_payRank_45 (hB.ob 121 (by decide) rfl) rfl ?_
       refine jg_iload_n dX6_payRank_48 rfl ?_
       refine jg_dup2 dX6_payRank_49 rfl rfl ?_
       refine cs_lda (s := x4) (q := (b + 130)) (i := l2) dX6_payRank_50 (hB.ar 130 (by decide) rfl) q2 ?_
       refine jg_iload_n dX6_payRank_51 rfl ?_
       refine jg_iadd (x := (cg x4 (b + 130) l2)) (y := (mni (s.1 (b + 121) 0) (cg s (b + 129) l2))) dX6_payRank_52  ?_
       refine cs_sta (s := x4) (q := (b + 130)) (i := l2) (x := ((cg x4 (b + 130) l2) + (mni (s.1 (b + 121) 0) (cg s (b + 129) l2)))) dX6_payRank_53 (hB.ar 130 (by decide) rfl) q2 ?_
       obtain ⟨x5, e_x5, h⟩ := bd_some h
       refine cs_sub (Option.some.inj e_x5) ?_
       refine jg_aload_n dX6_payRank_54 rfl ?_
       refine jg_dup dX6_payRank_55 rfl ?_
       refine cs_get (s := x5) (w := .int (x5.1 (b + 121) 0)) fl_X6_39 dX6_payRank_56 (hB.ob 121 (by decide) rfl) rfl ?_
       refine jg_iload_n dX6_payRank_59 rfl ?_
       refine jg_isub (x := (x5.1 (b + 121) 0)) (y := (mni (s.1 (b + 121) 0) (cg s (b + 129) l2))) dX6_payRank_60  ?_
       refine cs_put (s := x5) (k := 0) (x := ((x5.1 (b + 121) 0) - (mni (s.1 (b + 121) 0) (cg s (b + 129) l2)))) fl_X6_39 dX6_payRank_61 (hB.ob 121 (by decide) rfl) (ltb rfl) (rfl) rfl rfl ?_
       obtain ⟨x6, e_x6, h⟩ := bd_some h
       refine cs_sub (Option.some.inj e_x6) ?_
       refine jg_iinc (x := l2) (v := l2 + nI 1) (L' := [some (.ref (b + 121)), some (.int l1), some (.int (l2 + nI 1)), some (.int (mni (s.1 (b + 121) 0) (cg s (b + 129) l2)))]) dX6_payRank_64 rfl (ic_k _ (by decide)) (by decide) rfl ?_
       refine jg_goto (tgt := 2) dX6_payRank_67 (by decide) ?_
       refine jg_fg (L' := [some (.ref (b + 121)), some (.int l1), some (.int (l2 + nI 1)), none]) (by repeat (first | exact trivial | refine ⟨rfl, ?_⟩ | show jg_le _ _)) ?_
       exact ih (l2 + nI 1) x6 h
noncomputable def o_X6_payRank (F : Nat) (τ : cT) (n : Nat) (b : Nat) (s : cS) (a1 : Int32) : Option (cS) := (o_X6_payRank_2 F τ n b a1 F (nI 0) s).bind fun x7 => (some x7)
set_option maxHeartbeats 4000000 in
theorem t_X6_payRank {Γ : jg_G} {g : Nat → jg_C} (F : Nat) (τ : cT) (n : Nat) (b : Nat) (s : cS) (a1 : Int32) (hB : Bd τ n b) {x : cS} (h : o_X6_payRank F τ n b s a1 = some x) : jc Γ mX6_payRank 1 0 0 [some (.ref (b + 121)), some (.int a1), none, none] (ct_h g τ s, n) (.inl none) (ct_h g τ x, n) := by
  refine jc_of ?_
  rw [o_X6_payRank] at h
  refine jg_iconst (v := nI 0) dX6_payRank_0 (by decide) ?_
  refine jg_istore_n (L' := [some (.ref (b + 121)), some (.int a1), some (.int (nI 0)), none]) dX6_payRank_1 (by decide) rfl ?_
  obtain ⟨x7, e_x7, h⟩ := bd_some h
  refine jg_fg (L' := [some (.ref (b + 121)), some (.int a1), some (.int (nI 0)), none]) (by repeat (first | exact trivial | refine ⟨rfl, ?_⟩ | show jg_le _ _)) ?_
  refine t_X6_payRank_2  F τ n b a1 hB _ (x := x7) ?_ F (nI 0) s e_x7
  obtain rfl := Option.some.inj h
  exact jg_return dX6_payRank_70 rfl ⟨rfl, rfl⟩
theorem dX6_endYear_0 : decode cX6_endYear 0 = .ok (.iconst 0, 1) := by decide +kernel
theorem dX6_endYear_1 : decode cX6_endYear 1 = .ok (.istore_n 2, 1) := by decide +kernel
theorem dX6_endYear_2 : decode cX6_endYear 2 = .ok (.iload_n 2, 1) := by decide +kernel
theorem dX6_endYear_3 : decode cX6_endYear 3 = .ok (.aload_n 0, 1) := by decide +kernel
theorem dX6_endYear_4 : decode cX6_endYear 4 = .ok (.getfield 56, 3) := by decide +kernel
theorem dX6_endYear_7 : decode cX6_endYear 7 = .ok (.if_icmp .ge 70, 3) := by decide +kernel
theorem dX6_endYear_10 : decode cX6_endYear 10 = .ok (.aload_n 0, 1) := by decide +kernel
theorem dX6_endYear_11 : decode cX6_endYear 11 = .ok (.getfield 30, 3) := by decide +kernel
theorem dX6_endYear_14 : decode cX6_endYear 14 = .ok (.iload_n 2, 1) := by decide +kernel
theorem dX6_endYear_15 : decode cX6_endYear 15 = .ok (.iaload, 1) := by decide +kernel
theorem dX6_endYear_16 : decode cX6_endYear 16 = .ok (.iload_n 1, 1) := by decide +kernel
theorem dX6_endYear_17 : decode cX6_endYear 17 = .ok (.if_icmp .lt 29, 3) := by decide +kernel
theorem dX6_endYear_20 : decode cX6_endYear 20 = .ok (.aload_n 0, 1) := by decide +kernel
theorem dX6_endYear_21 : decode cX6_endYear 21 = .ok (.getfield 33, 3) := by decide +kernel
theorem dX6_endYear_24 : decode cX6_endYear 24 = .ok (.iload_n 2, 1) := by decide +kernel
theorem dX6_endYear_25 : decode cX6_endYear 25 = .ok (.dup2, 1) := by decide +kernel
theorem dX6_endYear_26 : decode cX6_endYear 26 = .ok (.iaload, 1) := by decide +kernel
theorem dX6_endYear_27 : decode cX6_endYear 27 = .ok (.aload_n 0, 1) := by decide +kernel
theorem dX6_endYear_28 : decode cX6_endYear 28 = .ok (.getfield 21, 3) := by decide +kernel
theorem dX6_endYear_31 : decode cX6_endYear 31 = .ok (.iload_n 2, 1) := by decide +kernel
theorem dX6_endYear_32 : decode cX6_endYear 32 = .ok (.iaload, 1) := by decide +kernel
theorem dX6_endYear_33 : decode cX6_endYear 33 = .ok (.aload_n 0, 1) := by decide +kernel
theorem dX6_endYear_34 : decode cX6_endYear 34 = .ok (.getfield 24, 3) := by decide +kernel
theorem dX6_endYear_37 : decode cX6_endYear 37 = .ok (.iload_n 2, 1) := by decide +kernel
theorem dX6_endYear_38 : decode cX6_endYear 38 = .ok (.iaload, 1) := by decide +kernel
theorem dX6_endYear_39 : decode cX6_endYear 39 = .ok (.imul, 1) := by decide +kernel
theorem dX6_endYear_40 : decode cX6_endYear 40 = .ok (.sipush 10000, 3) := by decide +kernel
theorem dX6_endYear_43 : decode cX6_endYear 43 = .ok (.idiv, 1) := by decide +kernel
theorem dX6_endYear_44 : decode cX6_endYear 44 = .ok (.iadd, 1) := by decide +kernel
theorem dX6_endYear_45 : decode cX6_endYear 45 = .ok (.iastore, 1) := by decide +kernel
theorem dX6_endYear_46 : decode cX6_endYear 46 = .ok (.aload_n 0, 1) := by decide +kernel
theorem dX6_endYear_47 : decode cX6_endYear 47 = .ok (.getfield 30, 3) := by decide +kernel
theorem dX6_endYear_50 : decode cX6_endYear 50 = .ok (.iload_n 2, 1) := by decide +kernel
theorem dX6_endYear_51 : decode cX6_endYear 51 = .ok (.iaload, 1) := by decide +kernel
theorem dX6_endYear_52 : decode cX6_endYear 52 = .ok (.iload_n 1, 1) := by decide +kernel
theorem dX6_endYear_53 : decode cX6_endYear 53 = .ok (.if_icmp .ne 18, 3) := by decide +kernel
theorem dX6_endYear_56 : decode cX6_endYear 56 = .ok (.aload_n 0, 1) := by decide +kernel
theorem dX6_endYear_57 : decode cX6_endYear 57 = .ok (.getfield 33, 3) := by decide +kernel
theorem dX6_endYear_60 : decode cX6_endYear 60 = .ok (.iload_n 2, 1) := by decide +kernel
theorem dX6_endYear_61 : decode cX6_endYear 61 = .ok (.dup2, 1) := by decide +kernel
theorem dX6_endYear_62 : decode cX6_endYear 62 = .ok (.iaload, 1) := by decide +kernel
theorem dX6_endYear_63 : decode cX6_endYear 63 = .ok (.aload_n 0, 1) := by decide +kernel
theorem dX6_endYear_64 : decode cX6_endYear 64 = .ok (.getfield 21, 3) := by decide +kernel
theorem dX6_endYear_67 : decode cX6_endYear 67 = .ok (.iload_n 2, 1) := by decide +kernel
theorem dX6_endYear_68 : decode cX6_endYear 68 = .ok (.iaload, 1) := by decide +kernel
theorem dX6_endYear_69 : decode cX6_endYear 69 = .ok (.iadd, 1) := by decide +kernel
theorem dX6_endYear_70 : decode cX6_endYear 70 = .ok (.iastore, 1) := by decide +kernel
theorem dX6_endYear_71 : decode cX6_endYear 71 = .ok (.iinc 2 1, 3) := by decide +kernel
theorem dX6_endYear_74 : decode cX6_endYear 74 = .ok (.goto (-72), 3) := by decide +kernel
theorem dX6_endYear_77 : decode cX6_endYear 77 = .ok (.iconst 0, 1) := by decide +kernel
theorem dX6_endYear_78 : decode cX6_endYear 78 = .ok (.istore_n 2, 1) := by decide +kernel
theorem dX6_endYear_79 : decode cX6_endYear 79 = .ok (.iload_n 2, 1) := by decide +kernel
theorem dX6_endYear_80 : decode cX6_endYear 80 = .ok (.bipush 10, 2) := by decide +kernel
theorem dX6_endYear_82 : decode cX6_endYear 82 = .ok (.if_icmp .ge 14, 3) := by decide +kernel
theorem dX6_endYear_85 : decode cX6_endYear 85 = .ok (.aload_n 0, 1) := by decide +kernel
theorem dX6_endYear_86 : decode cX6_endYear 86 = .ok (.iload_n 2, 1) := by decide +kernel
theorem dX6_endYear_87 : decode cX6_endYear 87 = .ok (.invokevirtual 69, 3) := by decide +kernel
theorem dX6_endYear_90 : decode cX6_endYear 90 = .ok (.iinc 2 1, 3) := by decide +kernel
theorem dX6_endYear_93 : decode cX6_endYear 93 = .ok (.goto (-14), 3) := by decide +kernel
theorem dX6_endYear_96 : decode cX6_endYear 96 = .ok (.iconst 0, 1) := by decide +kernel
theorem dX6_endYear_97 : decode cX6_endYear 97 = .ok (.istore_n 2, 1) := by decide +kernel
theorem dX6_endYear_98 : decode cX6_endYear 98 = .ok (.iload_n 2, 1) := by decide +kernel
theorem dX6_endYear_99 : decode cX6_endYear 99 = .ok (.aload_n 0, 1) := by decide +kernel
theorem dX6_endYear_100 : decode cX6_endYear 100 = .ok (.getfield 53, 3) := by decide +kernel
theorem dX6_endYear_103 : decode cX6_endYear 103 = .ok (.if_icmp .ge 28, 3) := by decide +kernel
theorem dX6_endYear_106 : decode cX6_endYear 106 = .ok (.aload_n 0, 1) := by decide +kernel
theorem dX6_endYear_107 : decode cX6_endYear 107 = .ok (.getfield 15, 3) := by decide +kernel
theorem dX6_endYear_110 : decode cX6_endYear 110 = .ok (.iload_n 2, 1) := by decide +kernel
theorem dX6_endYear_111 : decode cX6_endYear 111 = .ok (.aload_n 0, 1) := by decide +kernel
theorem dX6_endYear_112 : decode cX6_endYear 112 = .ok (.getfield 9, 3) := by decide +kernel
theorem dX6_endYear_115 : decode cX6_endYear 115 = .ok (.iload_n 2, 1) := by decide +kernel
theorem dX6_endYear_116 : decode cX6_endYear 116 = .ok (.iaload, 1) := by decide +kernel
theorem dX6_endYear_117 : decode cX6_endYear 117 = .ok (.iastore, 1) := by decide +kernel
theorem dX6_endYear_118 : decode cX6_endYear 118 = .ok (.aload_n 0, 1) := by decide +kernel
theorem dX6_endYear_119 : decode cX6_endYear 119 = .ok (.getfield 9, 3) := by decide +kernel
theorem dX6_endYear_122 : decode cX6_endYear 122 = .ok (.iload_n 2, 1) := by decide +kernel
theorem dX6_endYear_123 : decode cX6_endYear 123 = .ok (.iconst 0, 1) := by decide +kernel
theorem dX6_endYear_124 : decode cX6_endYear 124 = .ok (.iastore, 1) := by decide +kernel
theorem dX6_endYear_125 : decode cX6_endYear 125 = .ok (.iinc 2 1, 3) := by decide +kernel
theorem dX6_endYear_128 : decode cX6_endYear 128 = .ok (.goto (-30), 3) := by decide +kernel
theorem dX6_endYear_131 : decode cX6_endYear 131 = .ok (.return_, 1) := by decide +kernel
noncomputable def o_X6_endYear_2 (F : Nat) (τ : cT) (n : Nat) (b : Nat) (l1 : Int32)  : Nat → Int32 → cS → Option (cS)
  | 0, _, _ => none
  | f + 1, l2, s => if (s.1 (b + 121) 13) ≤ l2 then (some s) else (if iL l2 20 then (if (cg s (b + 128) l2) < l1 then (if (cg s (b + 128) l2) = l1 then ((some (ca s (b + 129) l2 ((cg s (b + 129) l2) + (cg s (b + 125) l2)))).bind fun x5 => (o_X6_endYear_2 F τ n b l1 f (l2 + nI 1) x5)) else (o_X6_endYear_2 F τ n b l1 f (l2 + nI 1) s)) else ((some (ca s (b + 129) l2 ((cg s (b + 129) l2) + (((cg s (b + 125) l2) * (cg s (b + 126) l2)) / (nI 10000))))).bind fun x6 => (if (cg x6 (b + 128) l2) = l1 then ((some (ca x6 (b + 129) l2 ((cg x6 (b + 129) l2) + (cg x6 (b + 125) l2)))).bind fun x8 => (o_X6_endYear_2 F τ n b l1 f (l2 + nI 1) x8)) else (o_X6_endYear_2 F τ n b l1 f (l2 + nI 1) x6)))) else none)
set_option maxHeartbeats 4000000 in
theorem t_X6_endYear_2 {Γ : jg_G} {g : Nat → jg_C} (F : Nat) (τ : cT) (n : Nat) (b : Nat) (l1 : Int32)  (hB : Bd τ n b) (Q : jg_Q) {x : cS} (K1 : jg Γ mX6_endYear 2 0 0 77 [some (.ref (b + 121)), none, none] [] (ct_h g τ x, n) Q)  : ∀ (f : Nat) (l2 : Int32) (s : cS), o_X6_endYear_2 F τ n b l1 f l2 s = some x → jg Γ mX6_endYear 2 0 0 2 [some (.ref (b + 121)), some (.int l1), some (.int l2)] [] (ct_h g τ s, n) Q := by
  intro f
  induction f with
  | zero => intro l2 s h; rw [o_X6_endYear_2] at h; cases h
  | succ f ih =>
   intro l2 s h
   rw [o_X6_endYear_2] at h
   refine jg_iload_n dX6_endYear_2 rfl ?_
   refine jg_aload_n dX6_endYear_3 rfl ?_
   refine cs_get (s := s) (w := .int (s.1 (b + 121) 13)) fl_X6_56 dX6_endYear_4 (hB.ob 121 (by decide) rfl) rfl ?_
   refine jg_icmp_ge (x := l2) (y := (s.1 (b + 121) 13)) (tgt := 77) dX6_endYear_7 (by decide) (fun c1 => ?_) (fun c1 => ?_)
   · replace h := it_t c1 h
     refine jg_fg (L' := [some (.ref (b + 121)), none, none]) (by repeat (first | exact trivial | refine ⟨rfl, ?_⟩ | show jg_le _ _)) ?_
     obtain rfl := Option.some.inj h
     exact K1
   · replace h := it_f c1 h
     refine jg_aload_n dX6_endYear_10 rfl ?_
     refine cs_get (s := s) (w := .ref (b + 128)) fl_X6_30 dX6_endYear_11 (hB.ob 121 (by decide) rfl) rfl ?_
     refine jg_iload_n dX6_endYear_14 rfl ?_
     obtain ⟨q2, h⟩ := gd_some h
     refine cs_lda (s := s) (q := (b + 128)) (i := l2) dX6_endYear_15 (hB.ar 128 (by decide) rfl) q2 ?_
     refine jg_iload_n dX6_endYear_16 rfl ?_
     refine jg_icmp_lt (x := (cg s (b + 128) l2)) (y := l1) (tgt := 46) dX6_endYear_17 (by decide) (fun c3 => ?_) (fun c3 => ?_)
     · replace h := it_t c3 h
       refine jg_aload_n dX6_endYear_46 rfl ?_
       refine cs_get (s := s) (w := .ref (b + 128)) fl_X6_30 dX6_endYear_47 (hB.ob 121 (by decide) rfl) rfl ?_
       refine jg_iload_n dX6_endYear_50 rfl ?_
       refine cs_lda (s := s) (q := (b + 128)) (i := l2) dX6_endYear_51 (hB.ar 128 (by decide) rfl) q2 ?_
       refine jg_iload_n dX6_endYear_52 rfl ?_
       refine jg_icmp_ne (x := (cg s (b + 128) l2)) (y := l1) (tgt := 71) dX6_endYear_53 (by decide) (fun c4 => ?_) (fun c4 => ?_)
       · replace h := it_f c4 h
         refine jg_iinc (x := l2) (v := l2 + nI 1) (L' := [some (.ref (b + 121)), some (.int l1), some (.int (l2 + nI 1))]) dX6_endYear_71 rfl (ic_k _ (by decide)) (by decide) rfl ?_
         refine jg_goto (tgt := 2) dX6_endYear_74 (by decide) ?_
         refine jg_fg (L' := [some (.ref (b + 121)), some (.int l1), some (.int (l2 + nI 1))]) (by repeat (first | exact trivial | refine ⟨rfl, ?_⟩ | show jg_le _ _)) ?_
         exact ih (l2 + nI 1) s h
       · replace h := it_t c4 h
         refine jg_aload_n dX6_endYear_56 rfl ?_
         refine cs_get (s := s) (w := .ref (b + 129)) fl_X6_33 dX6_endYear_57 (hB.ob 121 (by decide) rfl) rfl ?_
         refine jg_iload_n dX6_endYear_60 rfl ?_
         refine jg_dup2 dX6_endYear_61 rfl rfl ?_
         refine cs_lda (s := s) (q := (b + 129)) (i := l2) dX6_endYear_62 (hB.ar 129 (by decide) rfl) q2 ?_
         refine jg_aload_n dX6_endYear_63 rfl ?_
         refine cs_get (s := s) (w := .ref (b + 125)) fl_X6_21 dX6_endYear_64 (hB.ob 121 (by decide) rfl) rfl ?_
         refine jg_iload_n dX6_endYear_67 rfl ?_
         refine cs_lda (s := s) (q := (b + 125)) (i := l2) dX6_endYear_68 (hB.ar 125 (by decide) rfl) q2 ?_
         refine jg_iadd (x := (cg s (b + 129) l2)) (y := (cg s (b + 125) l2)) dX6_endYear_69  ?_
         refine cs_sta (s := s) (q := (b + 129)) (i := l2) (x := ((cg s (b + 129) l2) + (cg s (b + 125) l2))) dX6_endYear_70 (hB.ar 129 (by decide) rfl) q2 ?_
         obtain ⟨x5, e_x5, h⟩ := bd_some h
         refine cs_sub (Option.some.inj e_x5) ?_
         refine jg_iinc (x := l2) (v := l2 + nI 1) (L' := [some (.ref (b + 121)), some (.int l1), some (.int (l2 + nI 1))]) dX6_endYear_71 rfl (ic_k _ (by decide)) (by decide) rfl ?_
         refine jg_goto (tgt := 2) dX6_endYear_74 (by decide) ?_
         refine jg_fg (L' := [some (.ref (b + 121)), some (.int l1), some (.int (l2 + nI 1))]) (by repeat (first | exact trivial | refine ⟨rfl, ?_⟩ | show jg_le _ _)) ?_
         exact ih (l2 + nI 1) x5 h
     · replace h := it_f c3 h
       refine jg_aload_n dX6_endYear_20 rfl ?_
       refine cs_get (s := s) (w := .ref (b + 129)) fl_X6_33 dX6_endYear_21 (hB.ob 121 (by decide) rfl) rfl ?_
       refine jg_iload_n dX6_endYear_24 rfl ?_
       refine jg_dup2 dX6_endYear_25 rfl rfl ?_
       refine cs_lda (s := s) (q := (b + 129)) (i := l2) dX6_endYear_26 (hB.ar 129 (by decide) rfl) q2 ?_
       refine jg_aload_n dX6_endYear_27 rfl ?_
       refine cs_get (s := s) (w := .ref (b + 125)) fl_X6_21 dX6_endYear_28 (hB.ob 121 (by decide) rfl) rfl ?_
       refine jg_iload_n dX6_endYear_31 rfl ?_
       refine cs_lda (s := s) (q := (b + 125)) (i := l2) dX6_endYear_32 (hB.ar 125 (by decide) rfl) q2 ?_
       refine jg_aload_n dX6_endYear_33 rfl ?_
       refine cs_get (s := s) (w := .ref (b + 126)) fl_X6_24 dX6_endYear_34 (hB.ob 121 (by decide) rfl) rfl ?_
       refine jg_iload_n dX6_endYear_37 rfl ?_
       refine cs_lda (s := s) (q := (b + 126)) (i := l2) dX6_endYear_38 (hB.ar 126 (by decide) rfl) q2 ?_
       refine jg_imul (x := (cg s (b + 125) l2)) (y := (cg s (b + 126) l2)) dX6_endYear_39  ?_
       refine jg_sipush (v := nI 10000) dX6_endYear_40 (by decide) ?_
       refine jg_idiv (x := ((cg s (b + 125) l2) * (cg s (b + 126) l2))) (y := (nI 10000)) dX6_endYear_43 (by decide) ?_
       refine jg_iadd (x := (cg s (b + 129) l2)) (y := (((cg s (b + 125) l2) * (cg s (b + 126) l2)) / (nI 10000))) dX6_endYear_44  ?_
       refine cs_sta (s := s) (q := (b + 129)) (i := l2) (x := ((cg s (b + 129) l2) + (((cg s (b + 125) l2) * (cg s (b + 126) l2)) / (nI 10000)))) dX6_endYear_45 (hB.ar 129 (by decide) rfl) q2 ?_
       obtain ⟨x6, e_x6, h⟩ := bd_some h
       refine cs_sub (Option.some.inj e_x6) ?_
       refine jg_aload_n dX6_endYear_46 rfl ?_
       refine cs_get (s := x6) (w := .ref (b + 128)) fl_X6_30 dX6_endYear_47 (hB.ob 121 (by decide) rfl) rfl ?_
       refine jg_iload_n dX6_endYear_50 rfl ?_
       refine cs_lda (s := x6) (q := (b + 128)) (i := l2) dX6_endYear_51 (hB.ar 128 (by decide) rfl) q2 ?_
       refine jg_iload_n dX6_endYear_52 rfl ?_
       refine jg_icmp_ne (x := (cg x6 (b + 128) l2)) (y := l1) (tgt := 71) dX6_endYear_53 (by decide) (fun c7 => ?_) (fun c7 => ?_)
       · replace h := it_f c7 h
         refine jg_iinc (x := l2) (v := l2 + nI 1) (L' := [some (.ref (b + 121)), some (.int l1), some (.int (l2 + nI 1))]) dX6_endYear_71 rfl (ic_k _ (by decide)) (by decide) rfl ?_
         refine jg_goto (tgt := 2) dX6_endYear_74 (by decide) ?_
         refine jg_fg (L' := [some (.ref (b + 121)), some (.int l1), some (.int (l2 + nI 1))]) (by repeat (first | exact trivial | refine ⟨rfl, ?_⟩ | show jg_le _ _)) ?_
         exact ih (l2 + nI 1) x6 h
       · replace h := it_t c7 h
         refine jg_aload_n dX6_endYear_56 rfl ?_
         refine cs_get (s := x6) (w := .ref (b + 129)) fl_X6_33 dX6_endYear_57 (hB.ob 121 (by decide) rfl) rfl ?_
         refine jg_iload_n dX6_endYear_60 rfl ?_
         refine jg_dup2 dX6_endYear_61 rfl rfl ?_
         refine cs_lda (s := x6) (q := (b + 129)) (i := l2) dX6_endYear_62 (hB.ar 129 (by decide) rfl) q2 ?_
         refine jg_aload_n dX6_endYear_63 rfl ?_
         refine cs_get (s := x6) (w := .ref (b + 125)) fl_X6_21 dX6_endYear_64 (hB.ob 121 (by decide) rfl) rfl ?_
         refine jg_iload_n dX6_endYear_67 rfl ?_
         refine cs_lda (s := x6) (q := (b + 125)) (i := l2) dX6_endYear_68 (hB.ar 125 (by decide) rfl) q2 ?_
         refine jg_iadd (x := (cg x6 (b + 129) l2)) (y := (cg x6 (b + 125) l2)) dX6_endYear_69  ?_
         refine cs_sta (s := x6) (q := (b + 129)) (i := l2) (x := ((cg x6 (b + 129) l2) + (cg x6 (b + 125) l2))) dX6_endYear_70 (hB.ar 129 (by decide) rfl) q2 ?_
         obtain ⟨x8, e_x8, h⟩ := bd_some h
         refine cs_sub (Option.some.inj e_x8) ?_
         refine jg_iinc (x := l2) (v := l2 + nI 1) (L' := [some (.ref (b + 121)), some (.int l1), some (.int (l2 + nI 1))]) dX6_endYear_71 rfl (ic_k _ (by decide)) (by decide) rfl ?_
         refine jg_goto (tgt := 2) dX6_endYear_74 (by decide) ?_
         refine jg_fg (L' := [some (.ref (b + 121)), some (.int l1), some (.int (l2 + nI 1))]) (by repeat (first | exact trivial | refine ⟨rfl, ?_⟩ | show jg_le _ _)) ?_
         exact ih (l2 + nI 1) x8 h
noncomputable def o_X6_endYear_79 (F : Nat) (τ : cT) (n : Nat) (b : Nat)  : Nat → Int32 → cS → Option (cS)
  | 0, _, _ => none
  | f + 1, l2, s => if (nI 10) ≤ l2 then (some s) else ((o_X6_payRank F τ n b s l2).bind fun x11 => (o_X6_endYear_79 F τ n b f (l2 + nI 1) x11))
set_option maxHeartbeats 4000000 in
theorem t_X6_endYear_79 {Γ : jg_G} {g : Nat → jg_C} (F : Nat) (τ : cT) (n : Nat) (b : Nat)  (hB : Bd τ n b) (Q : jg_Q) {x : cS} (K1 : jg Γ mX6_endYear 2 0 0 96 [some (.ref (b + 121)), none, none] [] (ct_h g τ x, n) Q)  : ∀ (f : Nat) (l2 : Int32) (s : cS), o_X6_endYear_79 F τ n b f l2 s = some x → jg Γ mX6_endYear 2 0 0 79 [some (.ref (b + 121)), none, some (.int l2)] [] (ct_h g τ s, n) Q := by
  intro f
  induction f with
  | zero => intro l2 s h; rw [o_X6_endYear_79] at h; cases h
  | succ f ih =>
   intro l2 s h
   rw [o_X6_endYear_79] at h
   refine jg_iload_n dX6_endYear_79 rfl ?_
   refine jg_bipush (v := nI 10) dX6_endYear_80 (by decide) ?_
   refine jg_icmp_ge (x := l2) (y := (nI 10)) (tgt := 96) dX6_endYear_82 (by decide) (fun c10 => ?_) (fun c10 => ?_)
   · replace h := it_t c10 h
     refine jg_fg (L' := [some (.ref (b + 121)), none, none]) (by repeat (first | exact trivial | refine ⟨rfl, ?_⟩ | show jg_le _ _)) ?_
     obtain rfl := Option.some.inj h
     exact K1
   · replace h := it_f c10 h
     refine jg_aload_n dX6_endYear_85 rfl ?_
     refine jg_iload_n dX6_endYear_86 rfl ?_
     obtain ⟨x11, e_x11, h⟩ := bd_some h
     refine cs_call (q := (b + 121)) (As := [.int l2]) kv_X6_69 dX6_endYear_87 (hB.ob 121 (by decide) rfl) rfl rfl (by decide) (Nat.le_of_ble_eq_true rfl) rfl (by decide) (Nat.le_of_ble_eq_true rfl) (t_X6_payRank F τ n b s l2 hB e_x11) ?_
     refine jg_iinc (x := l2) (v := l2 + nI 1) (L' := [some (.ref (b + 121)), none, some (.int (l2 + nI 1))]) dX6_endYear_90 rfl (ic_k _ (by decide)) (by decide) rfl ?_
     refine jg_goto (tgt := 79) dX6_endYear_93 (by decide) ?_
     refine jg_fg (L' := [some (.ref (b + 121)), none, some (.int (l2 + nI 1))]) (by repeat (first | exact trivial | refine ⟨rfl, ?_⟩ | show jg_le _ _)) ?_
     exact ih (l2 + nI 1) x11 h
noncomputable def o_X6_endYear_98 (F : Nat) (τ : cT) (n : Nat) (b : Nat)  : Nat → Int32 → cS → Option (cS)
  | 0, _, _ => none
  | f + 1, l2, s => if (s.1 (b + 121) 6) ≤ l2 then (some s) else (if iL l2 30 then ((some (ca (ca s (b + 123) l2 (cg s (b + 122) l2)) (b + 122) l2 (nI 0))).bind fun x15 => (o_X6_endYear_98 F τ n b f (l2 + nI 1) x15)) else none)
set_option maxHeartbeats 4000000 in
theorem t_X6_endYear_98 {Γ : jg_G} {g : Nat → jg_C} (F : Nat) (τ : cT) (n : Nat) (b : Nat)  (hB : Bd τ n b) (Q : jg_Q) {x : cS} (K1 : jg Γ mX6_endYear 2 0 0 131 [none, none, none] [] (ct_h g τ x, n) Q)  : ∀ (f : Nat) (l2 : Int32) (s : cS), o_X6_endYear_98 F τ n b f l2 s = some x → jg Γ mX6_endYear 2 0 0 98 [some (.ref (b + 121)), none, some (.int l2)] [] (ct_h g τ s, n) Q := by
  intro f
  induction f with
  | zero => intro l2 s h; rw [o_X6_endYear_98] at h; cases h
  | succ f ih =>
   intro l2 s h
   rw [o_X6_endYear_98] at h
   refine jg_iload_n dX6_endYear_98 rfl ?_
   refine jg_aload_n dX6_endYear_99 rfl ?_
   refine cs_get (s := s) (w := .int (s.1 (b + 121) 6)) fl_X6_53 dX6_endYear_100 (hB.ob 121 (by decide) rfl) rfl ?_
   refine jg_icmp_ge (x := l2) (y := (s.1 (b + 121) 6)) (tgt := 131) dX6_endYear_103 (by decide) (fun c13 => ?_) (fun c13 => ?_)
   · replace h := it_t c13 h
     refine jg_fg (L' := [none, none, none]) (by repeat (first | exact trivial | refine ⟨rfl, ?_⟩ | show jg_le _ _)) ?_
     obtain rfl := Option.some.inj h
     exact K1
   · replace h := it_f c13 h
     refine jg_aload_n dX6_endYear_106 rfl ?_
     refine cs_get (s := s) (w := .ref (b + 123)) fl_X6_15 dX6_endYear_107 (hB.ob 121 (by decide) rfl) rfl ?_
     refine jg_iload_n dX6_endYear_110 rfl ?_
     refine jg_aload_n dX6_endYear_111 rfl ?_
     refine cs_get (s := s) (w := .ref (b + 122)) fl_X6_9 dX6_endYear_112 (hB.ob 121 (by decide) rfl) rfl ?_
     refine jg_iload_n dX6_endYear_115 rfl ?_
     obtain ⟨q14, h⟩ := gd_some h
     refine cs_lda (s := s) (q := (b + 122)) (i := l2) dX6_endYear_116 (hB.ar 122 (by decide) rfl) q14 ?_
     refine cs_sta (s := s) (q := (b + 123)) (i := l2) (x := (cg s (b + 122) l2)) dX6_endYear_117 (hB.ar 123 (by decide) rfl) q14 ?_
     refine jg_aload_n dX6_endYear_118 rfl ?_
     refine cs_get (s := (ca s (b + 123) l2 (cg s (b + 122) l2))) (w := .ref (b + 122)) fl_X6_9 dX6_endYear_119 (hB.ob 121 (by decide) rfl) rfl ?_
     refine jg_iload_n dX6_endYear_122 rfl ?_
     refine jg_iconst (v := nI 0) dX6_endYear_123 (by decide) ?_
     refine cs_sta (s := (ca s (b + 123) l2 (cg s (b + 122) l2))) (q := (b + 122)) (i := l2) (x := (nI 0)) dX6_endYear_124 (hB.ar 122 (by decide) rfl) q14 ?_
     obtain ⟨x15, e_x15, h⟩ := bd_some h
     refine cs_sub (Option.some.inj e_x15) ?_
     refine jg_iinc (x := l2) (v := l2 + nI 1) (L' := [some (.ref (b + 121)), none, some (.int (l2 + nI 1))]) dX6_endYear_125 rfl (ic_k _ (by decide)) (by decide) rfl ?_
     refine jg_goto (tgt := 98) dX6_endYear_128 (by decide) ?_
     refine jg_fg (L' := [some (.ref (b + 121)), none, some (.int (l2 + nI 1))]) (by repeat (first | exact trivial | refine ⟨rfl, ?_⟩ | show jg_le _ _)) ?_
     exact ih (l2 + nI 1) x15 h
noncomputable def o_X6_endYear (F : Nat) (τ : cT) (n : Nat) (b : Nat) (s : cS) (a1 : Int32) : Option (cS) := (o_X6_endYear_2 F τ n b a1 F (nI 0) s).bind fun x9 => ((o_X6_endYear_79 F τ n b F (nI 0) x9).bind fun x12 => ((o_X6_endYear_98 F τ n b F (nI 0) x12).bind fun x16 => (some x16)))
set_option maxHeartbeats 4000000 in
theorem t_X6_endYear {Γ : jg_G} {g : Nat → jg_C} (F : Nat) (τ : cT) (n : Nat) (b : Nat) (s : cS) (a1 : Int32) (hB : Bd τ n b) {x : cS} (h : o_X6_endYear F τ n b s a1 = some x) : jc Γ mX6_endYear 2 0 0 [some (.ref (b + 121)), some (.int a1), none] (ct_h g τ s, n) (.inl none) (ct_h g τ x, n) := by
  refine jc_of ?_
  rw [o_X6_endYear] at h
  refine jg_iconst (v := nI 0) dX6_endYear_0 (by decide) ?_
  refine jg_istore_n (L' := [some (.ref (b + 121)), some (.int a1), some (.int (nI 0))]) dX6_endYear_1 (by decide) rfl ?_
  obtain ⟨x9, e_x9, h⟩ := bd_some h
  refine jg_fg (L' := [some (.ref (b + 121)), some (.int a1), some (.int (nI 0))]) (by repeat (first | exact trivial | refine ⟨rfl, ?_⟩ | show jg_le _ _)) ?_
  refine t_X6_endYear_2  F τ n b a1 hB _ (x := x9) ?_ F (nI 0) s e_x9
  refine jg_iconst (v := nI 0) dX6_endYear_77 (by decide) ?_
  refine jg_istore_n (L' := [some (.ref (b + 121)), none, some (.int (nI 0))]) dX6_endYear_78 (by decide) rfl ?_
  obtain ⟨x12, e_x12, h⟩ := bd_some h
  refine jg_fg (L' := [some (.ref (b + 121)), none, some (.int (nI 0))]) (by repeat (first | exact trivial | refine ⟨rfl, ?_⟩ | show jg_le _ _)) ?_
  refine t_X6_endYear_79  F τ n b hB _ (x := x12) ?_ F (nI 0) x9 e_x12
  refine jg_iconst (v := nI 0) dX6_endYear_96 (by decide) ?_
  refine jg_istore_n (L' := [some (.ref (b + 121)), none, some (.int (nI 0))]) dX6_endYear_97 (by decide) rfl ?_
  obtain ⟨x16, e_x16, h⟩ := bd_some h
  refine jg_fg (L' := [some (.ref (b + 121)), none, some (.int (nI 0))]) (by repeat (first | exact trivial | refine ⟨rfl, ?_⟩ | show jg_le _ _)) ?_
  refine t_X6_endYear_98  F τ n b hB _ (x := x16) ?_ F (nI 0) x12 e_x16
  obtain rfl := Option.some.inj h
  exact jg_return dX6_endYear_131 rfl ⟨rfl, rfl⟩
theorem dX2_passHour_0 : decode cX2_passHour 0 = .ok (.aload_n 0, 1) := by decide +kernel
theorem dX2_passHour_1 : decode cX2_passHour 1 = .ok (.dup, 1) := by decide +kernel
theorem dX2_passHour_2 : decode cX2_passHour 2 = .ok (.getfield 9, 3) := by decide +kernel
theorem dX2_passHour_5 : decode cX2_passHour 5 = .ok (.iconst 1, 1) := by decide +kernel
theorem dX2_passHour_6 : decode cX2_passHour 6 = .ok (.iadd, 1) := by decide +kernel
theorem dX2_passHour_7 : decode cX2_passHour 7 = .ok (.putfield 9, 3) := by decide +kernel
theorem dX2_passHour_10 : decode cX2_passHour 10 = .ok (.aload_n 0, 1) := by decide +kernel
theorem dX2_passHour_11 : decode cX2_passHour 11 = .ok (.invokevirtual 100, 3) := by decide +kernel
theorem dX2_passHour_14 : decode cX2_passHour 14 = .ok (.astore_n 1, 1) := by decide +kernel
theorem dX2_passHour_15 : decode cX2_passHour 15 = .ok (.aload_n 1, 1) := by decide +kernel
theorem dX2_passHour_16 : decode cX2_passHour 16 = .ok (.iconst 5, 1) := by decide +kernel
theorem dX2_passHour_17 : decode cX2_passHour 17 = .ok (.iconst 5, 1) := by decide +kernel
theorem dX2_passHour_18 : decode cX2_passHour 18 = .ok (.invokevirtual 104, 3) := by decide +kernel
theorem dX2_passHour_21 : decode cX2_passHour 21 = .ok (.istore_n 2, 1) := by decide +kernel
theorem dX2_passHour_22 : decode cX2_passHour 22 = .ok (.aload_n 0, 1) := by decide +kernel
theorem dX2_passHour_23 : decode cX2_passHour 23 = .ok (.getfield 45, 3) := by decide +kernel
theorem dX2_passHour_26 : decode cX2_passHour 26 = .ok (.invokevirtual 110, 3) := by decide +kernel
theorem dX2_passHour_29 : decode cX2_passHour 29 = .ok (.aload_n 0, 1) := by decide +kernel
theorem dX2_passHour_30 : decode cX2_passHour 30 = .ok (.getfield 45, 3) := by decide +kernel
theorem dX2_passHour_33 : decode cX2_passHour 33 = .ok (.aload_n 0, 1) := by decide +kernel
theorem dX2_passHour_34 : decode cX2_passHour 34 = .ok (.getfield 9, 3) := by decide +kernel
theorem dX2_passHour_37 : decode cX2_passHour 37 = .ok (.invokevirtual 113, 3) := by decide +kernel
theorem dX2_passHour_40 : decode cX2_passHour 40 = .ok (.aload_n 0, 1) := by decide +kernel
theorem dX2_passHour_41 : decode cX2_passHour 41 = .ok (.getfield 45, 3) := by decide +kernel
theorem dX2_passHour_44 : decode cX2_passHour 44 = .ok (.iconst 3, 1) := by decide +kernel
theorem dX2_passHour_45 : decode cX2_passHour 45 = .ok (.invokevirtual 117, 3) := by decide +kernel
theorem dX2_passHour_48 : decode cX2_passHour 48 = .ok (.ifCond .eq 8, 3) := by decide +kernel
theorem dX2_passHour_51 : decode cX2_passHour 51 = .ok (.aload_n 0, 1) := by decide +kernel
theorem dX2_passHour_52 : decode cX2_passHour 52 = .ok (.iload_n 2, 1) := by decide +kernel
theorem dX2_passHour_53 : decode cX2_passHour 53 = .ok (.invokevirtual 121, 3) := by decide +kernel
theorem dX2_passHour_56 : decode cX2_passHour 56 = .ok (.aload_n 0, 1) := by decide +kernel
theorem dX2_passHour_57 : decode cX2_passHour 57 = .ok (.getfield 45, 3) := by decide +kernel
theorem dX2_passHour_60 : decode cX2_passHour 60 = .ok (.iconst 0, 1) := by decide +kernel
theorem dX2_passHour_61 : decode cX2_passHour 61 = .ok (.invokevirtual 117, 3) := by decide +kernel
theorem dX2_passHour_64 : decode cX2_passHour 64 = .ok (.ifCond .eq 14, 3) := by decide +kernel
theorem dX2_passHour_67 : decode cX2_passHour 67 = .ok (.aload_n 0, 1) := by decide +kernel
theorem dX2_passHour_68 : decode cX2_passHour 68 = .ok (.iload_n 2, 1) := by decide +kernel
theorem dX2_passHour_69 : decode cX2_passHour 69 = .ok (.aload_n 1, 1) := by decide +kernel
theorem dX2_passHour_70 : decode cX2_passHour 70 = .ok (.iconst 4, 1) := by decide +kernel
theorem dX2_passHour_71 : decode cX2_passHour 71 = .ok (.iconst 0, 1) := by decide +kernel
theorem dX2_passHour_72 : decode cX2_passHour 72 = .ok (.invokevirtual 104, 3) := by decide +kernel
theorem dX2_passHour_75 : decode cX2_passHour 75 = .ok (.invokevirtual 124, 3) := by decide +kernel
theorem dX2_passHour_78 : decode cX2_passHour 78 = .ok (.aload_n 0, 1) := by decide +kernel
theorem dX2_passHour_79 : decode cX2_passHour 79 = .ok (.getfield 45, 3) := by decide +kernel
theorem dX2_passHour_82 : decode cX2_passHour 82 = .ok (.invokevirtual 128, 3) := by decide +kernel
theorem dX2_passHour_85 : decode cX2_passHour 85 = .ok (.aload_n 0, 1) := by decide +kernel
theorem dX2_passHour_86 : decode cX2_passHour 86 = .ok (.getfield 45, 3) := by decide +kernel
theorem dX2_passHour_89 : decode cX2_passHour 89 = .ok (.invokevirtual 131, 3) := by decide +kernel
theorem dX2_passHour_92 : decode cX2_passHour 92 = .ok (.aload_n 0, 1) := by decide +kernel
theorem dX2_passHour_93 : decode cX2_passHour 93 = .ok (.getfield 45, 3) := by decide +kernel
theorem dX2_passHour_96 : decode cX2_passHour 96 = .ok (.invokevirtual 134, 3) := by decide +kernel
theorem dX2_passHour_99 : decode cX2_passHour 99 = .ok (.aload_n 0, 1) := by decide +kernel
theorem dX2_passHour_100 : decode cX2_passHour 100 = .ok (.getfield 9, 3) := by decide +kernel
theorem dX2_passHour_103 : decode cX2_passHour 103 = .ok (.bipush 24, 2) := by decide +kernel
theorem dX2_passHour_105 : decode cX2_passHour 105 = .ok (.irem, 1) := by decide +kernel
theorem dX2_passHour_106 : decode cX2_passHour 106 = .ok (.ifCond .ne 19, 3) := by decide +kernel
theorem dX2_passHour_109 : decode cX2_passHour 109 = .ok (.aload_n 0, 1) := by decide +kernel
theorem dX2_passHour_110 : decode cX2_passHour 110 = .ok (.getfield 18, 3) := by decide +kernel
theorem dX2_passHour_113 : decode cX2_passHour 113 = .ok (.aload_n 0, 1) := by decide +kernel
theorem dX2_passHour_114 : decode cX2_passHour 114 = .ok (.getfield 9, 3) := by decide +kernel
theorem dX2_passHour_117 : decode cX2_passHour 117 = .ok (.bipush 24, 2) := by decide +kernel
theorem dX2_passHour_119 : decode cX2_passHour 119 = .ok (.idiv, 1) := by decide +kernel
theorem dX2_passHour_120 : decode cX2_passHour 120 = .ok (.iconst 1, 1) := by decide +kernel
theorem dX2_passHour_121 : decode cX2_passHour 121 = .ok (.isub, 1) := by decide +kernel
theorem dX2_passHour_122 : decode cX2_passHour 122 = .ok (.invokevirtual 137, 3) := by decide +kernel
theorem dX2_passHour_125 : decode cX2_passHour 125 = .ok (.aload_n 0, 1) := by decide +kernel
theorem dX2_passHour_126 : decode cX2_passHour 126 = .ok (.getfield 9, 3) := by decide +kernel
theorem dX2_passHour_129 : decode cX2_passHour 129 = .ok (.sipush 2400, 3) := by decide +kernel
theorem dX2_passHour_132 : decode cX2_passHour 132 = .ok (.irem, 1) := by decide +kernel
theorem dX2_passHour_133 : decode cX2_passHour 133 = .ok (.ifCond .ne 20, 3) := by decide +kernel
theorem dX2_passHour_136 : decode cX2_passHour 136 = .ok (.aload_n 0, 1) := by decide +kernel
theorem dX2_passHour_137 : decode cX2_passHour 137 = .ok (.getfield 52, 3) := by decide +kernel
theorem dX2_passHour_140 : decode cX2_passHour 140 = .ok (.aload_n 0, 1) := by decide +kernel
theorem dX2_passHour_141 : decode cX2_passHour 141 = .ok (.getfield 9, 3) := by decide +kernel
theorem dX2_passHour_144 : decode cX2_passHour 144 = .ok (.sipush 2400, 3) := by decide +kernel
theorem dX2_passHour_147 : decode cX2_passHour 147 = .ok (.idiv, 1) := by decide +kernel
theorem dX2_passHour_148 : decode cX2_passHour 148 = .ok (.iconst 1, 1) := by decide +kernel
theorem dX2_passHour_149 : decode cX2_passHour 149 = .ok (.isub, 1) := by decide +kernel
theorem dX2_passHour_150 : decode cX2_passHour 150 = .ok (.invokevirtual 140, 3) := by decide +kernel
theorem dX2_passHour_153 : decode cX2_passHour 153 = .ok (.return_, 1) := by decide +kernel
noncomputable def o_X2_passHour (F : Nat) (τ : cT) (n : Nat) (b : Nat) (s : cS) : Option (cS) := (o_X2_actOfToday F τ n b (cp s b 0 ((s.1 b 0) + (nI 1)))).bind fun x1 => (if acb τ n x1 = true then ((o_X0_lastNumber F τ n x1 (cp s b 0 ((s.1 b 0) + (nI 1))) (nI 5) (nI 5)).bind fun x3 => ((o_X5_nextHourOfPilots F τ n b (cp s b 0 ((s.1 b 0) + (nI 1)))).bind fun x4 => ((o_X5_arrive F τ n b x4 (x4.1 b 0)).bind fun x5 => ((o_X5_hasInState F τ n b x5 (nI 3)).bind fun x6 => (if x6 = 0 then ((o_X5_hasInState F τ n b x5 (nI 0)).bind fun x8 => (if x8 = 0 then ((o_X5_unload F τ n b x5).bind fun x10 => ((o_X5_cart F τ n b x10).bind fun x11 => ((o_X5_weigh F τ n b x11).bind fun x12 => (if (irm (x12.1 b 0) (nI 24)) = 0 then ((o_X8_endDay F τ n b x12 (((x12.1 b 0) / (nI 24)) - (nI 1))).bind fun x16 => (if (irm (x16.1 b 0) (nI 2400)) = 0 then ((o_X6_endYear F τ n b x16 (((x16.1 b 0) / (nI 2400)) - (nI 1))).bind fun x18 => (some x18)) else (some x16))) else (if (irm (x12.1 b 0) (nI 2400)) = 0 then ((o_X6_endYear F τ n b x12 (((x12.1 b 0) / (nI 2400)) - (nI 1))).bind fun x15 => (some x15)) else (some x12)))))) else ((o_X0_lastNumber F τ n x1 x5 (nI 4) (nI 0)).bind fun x19 => ((o_X2_shipsComeIn F τ n b x5 x3 x19).bind fun x20 => ((o_X5_unload F τ n b x20).bind fun x21 => ((o_X5_cart F τ n b x21).bind fun x22 => ((o_X5_weigh F τ n b x22).bind fun x23 => (if (irm (x23.1 b 0) (nI 24)) = 0 then ((o_X8_endDay F τ n b x23 (((x23.1 b 0) / (nI 24)) - (nI 1))).bind fun x27 => (if (irm (x27.1 b 0) (nI 2400)) = 0 then ((o_X6_endYear F τ n b x27 (((x27.1 b 0) / (nI 2400)) - (nI 1))).bind fun x29 => (some x29)) else (some x27))) else (if (irm (x23.1 b 0) (nI 2400)) = 0 then ((o_X6_endYear F τ n b x23 (((x23.1 b 0) / (nI 2400)) - (nI 1))).bind fun x26 => (some x26)) else (some x23)))))))))) else ((o_X2_shipsLeave F τ n b x5 x3).bind fun x30 => ((o_X5_hasInState F τ n b x30 (nI 0)).bind fun x31 => (if x31 = 0 then ((o_X5_unload F τ n b x30).bind fun x33 => ((o_X5_cart F τ n b x33).bind fun x34 => ((o_X5_weigh F τ n b x34).bind fun x35 => (if (irm (x35.1 b 0) (nI 24)) = 0 then ((o_X8_endDay F τ n b x35 (((x35.1 b 0) / (nI 24)) - (nI 1))).bind fun x39 => (if (irm (x39.1 b 0) (nI 2400)) = 0 then ((o_X6_endYear F τ n b x39 (((x39.1 b 0) / (nI 2400)) - (nI 1))).bind fun x41 => (some x41)) else (some x39))) else (if (irm (x35.1 b 0) (nI 2400)) = 0 then ((o_X6_endYear F τ n b x35 (((x35.1 b 0) / (nI 2400)) - (nI 1))).bind fun x38 => (some x38)) else (some x35)))))) else ((o_X0_lastNumber F τ n x1 x30 (nI 4) (nI 0)).bind fun x42 => ((o_X2_shipsComeIn F τ n b x30 x3 x42).bind fun x43 => ((o_X5_unload F τ n b x43).bind fun x44 => ((o_X5_cart F τ n b x44).bind fun x45 => ((o_X5_weigh F τ n b x45).bind fun x46 => (if (irm (x46.1 b 0) (nI 24)) = 0 then ((o_X8_endDay F τ n b x46 (((x46.1 b 0) / (nI 24)) - (nI 1))).bind fun x50 => (if (irm (x50.1 b 0) (nI 2400)) = 0 then ((o_X6_endYear F τ n b x50 (((x50.1 b 0) / (nI 2400)) - (nI 1))).bind fun x52 => (some x52)) else (some x50))) else (if (irm (x46.1 b 0) (nI 2400)) = 0 then ((o_X6_endYear F τ n b x46 (((x46.1 b 0) / (nI 2400)) - (nI 1))).bind fun x49 => (some x49)) else (some x46)))))))))))))))) else none)
set_option maxHeartbeats 4000000 in
theorem t_X2_passHour {Γ : jg_G} {g : Nat → jg_C} (F : Nat) (τ : cT) (n : Nat) (b : Nat) (s : cS) (hB : Bd τ n b) {x : cS} (h : o_X2_passHour F τ n b s = some x) : jc Γ mX2_passHour 5 0 0 [some (.ref b), none, none] (ct_h g τ s, n) (.inl none) (ct_h g τ x, n) := by
  refine jc_of ?_
  rw [o_X2_passHour] at h
  refine jg_aload_n dX2_passHour_0 rfl ?_
  refine jg_dup dX2_passHour_1 rfl ?_
  refine cs_get (s := s) (w := .int (s.1 b 0)) fl_X2_9 dX2_passHour_2 hB.ob0 rfl ?_
  refine jg_iconst (v := nI 1) dX2_passHour_5 (by decide) ?_
  refine jg_iadd (x := (s.1 b 0)) (y := (nI 1)) dX2_passHour_6  ?_
  refine cs_put (s := s) (k := 0) (x := ((s.1 b 0) + (nI 1))) fl_X2_9 dX2_passHour_7 hB.ob0 (ltb rfl) (rfl) rfl rfl ?_
  refine jg_aload_n dX2_passHour_10 rfl ?_
  obtain ⟨x1, e_x1, h⟩ := bd_some h
  refine cs_call (q := b) (As := []) kv_X2_100 dX2_passHour_11 hB.ob0 rfl rfl (by decide) (Nat.le_of_ble_eq_true rfl) rfl (by decide) (Nat.le_of_ble_eq_true rfl) (t_X2_actOfToday F τ n b (cp s b 0 ((s.1 b 0) + (nI 1))) hB e_x1) ?_
  obtain ⟨q2, h⟩ := gd_some h
  refine jg_astore_n (L' := [some (.ref b), some (.ref x1), none]) dX2_passHour_14 (by decide) rfl ?_
  refine jg_aload_n dX2_passHour_15 rfl ?_
  refine jg_iconst (v := nI 5) dX2_passHour_16 (by decide) ?_
  refine jg_iconst (v := nI 5) dX2_passHour_17 (by decide) ?_
  obtain ⟨x3, e_x3, h⟩ := bd_some h
  refine cs_call (q := x1) (As := [.int (nI 5), .int (nI 5)]) kv_X2_104 dX2_passHour_18 (acb_ob q2) rfl rfl (by decide) (Nat.le_of_ble_eq_true rfl) rfl (by decide) (Nat.le_of_ble_eq_true rfl) (t_X0_lastNumber F τ n x1 (cp s b 0 ((s.1 b 0) + (nI 1))) (nI 5) (nI 5) q2 e_x3) ?_
  refine jg_istore_n (L' := [some (.ref b), some (.ref x1), some (.int x3)]) dX2_passHour_21 (by decide) rfl ?_
  refine jg_aload_n dX2_passHour_22 rfl ?_
  refine cs_get (s := (cp s b 0 ((s.1 b 0) + (nI 1)))) (w := .ref (b + 27)) fl_X2_45 dX2_passHour_23 hB.ob0 rfl ?_
  obtain ⟨x4, e_x4, h⟩ := bd_some h
  refine cs_call (q := (b + 27)) (As := []) kv_X2_110 dX2_passHour_26 (hB.ob 27 (by decide) rfl) rfl rfl (by decide) (Nat.le_of_ble_eq_true rfl) rfl (by decide) (Nat.le_of_ble_eq_true rfl) (t_X5_nextHourOfPilots F τ n b (cp s b 0 ((s.1 b 0) + (nI 1))) hB e_x4) ?_
  refine jg_aload_n dX2_passHour_29 rfl ?_
  refine cs_get (s := x4) (w := .ref (b + 27)) fl_X2_45 dX2_passHour_30 hB.ob0 rfl ?_
  refine jg_aload_n dX2_passHour_33 rfl ?_
  refine cs_get (s := x4) (w := .int (x4.1 b 0)) fl_X2_9 dX2_passHour_34 hB.ob0 rfl ?_
  obtain ⟨x5, e_x5, h⟩ := bd_some h
  refine cs_call (q := (b + 27)) (As := [.int (x4.1 b 0)]) kv_X2_113 dX2_passHour_37 (hB.ob 27 (by decide) rfl) rfl rfl (by decide) (Nat.le_of_ble_eq_true rfl) rfl (by decide) (Nat.le_of_ble_eq_true rfl) (t_X5_arrive F τ n b x4 (x4.1 b 0) hB e_x5) ?_
  refine jg_aload_n dX2_passHour_40 rfl ?_
  refine cs_get (s := x5) (w := .ref (b + 27)) fl_X2_45 dX2_passHour_41 hB.ob0 rfl ?_
  refine jg_iconst (v := nI 3) dX2_passHour_44 (by decide) ?_
  obtain ⟨x6, e_x6, h⟩ := bd_some h
  refine cs_call (q := (b + 27)) (As := [.int (nI 3)]) kv_X2_117 dX2_passHour_45 (hB.ob 27 (by decide) rfl) rfl rfl (by decide) (Nat.le_of_ble_eq_true rfl) rfl (by decide) (Nat.le_of_ble_eq_true rfl) (t_X5_hasInState F τ n b x5 (nI 3) hB e_x6) ?_
  refine jg_if_eq (x := x6) (tgt := 56) dX2_passHour_48 (by decide) (fun c7 => ?_) (fun c7 => ?_)
  · replace h := it_t c7 h
    refine jg_aload_n dX2_passHour_56 rfl ?_
    refine cs_get (s := x5) (w := .ref (b + 27)) fl_X2_45 dX2_passHour_57 hB.ob0 rfl ?_
    refine jg_iconst (v := nI 0) dX2_passHour_60 (by decide) ?_
    obtain ⟨x8, e_x8, h⟩ := bd_some h
    refine cs_call (q := (b + 27)) (As := [.int (nI 0)]) kv_X2_117 dX2_passHour_61 (hB.ob 27 (by decide) rfl) rfl rfl (by decide) (Nat.le_of_ble_eq_true rfl) rfl (by decide) (Nat.le_of_ble_eq_true rfl) (t_X5_hasInState F τ n b x5 (nI 0) hB e_x8) ?_
    refine jg_if_eq (x := x8) (tgt := 78) dX2_passHour_64 (by decide) (fun c9 => ?_) (fun c9 => ?_)
    · replace h := it_t c9 h
      refine jg_aload_n dX2_passHour_78 rfl ?_
      refine cs_get (s := x5) (w := .ref (b + 27)) fl_X2_45 dX2_passHour_79 hB.ob0 rfl ?_
      obtain ⟨x10, e_x10, h⟩ := bd_some h
      refine cs_call (q := (b + 27)) (As := []) kv_X2_128 dX2_passHour_82 (hB.ob 27 (by decide) rfl) rfl rfl (by decide) (Nat.le_of_ble_eq_true rfl) rfl (by decide) (Nat.le_of_ble_eq_true rfl) (t_X5_unload F τ n b x5 hB e_x10) ?_
      refine jg_aload_n dX2_passHour_85 rfl ?_
      refine cs_get (s := x10) (w := .ref (b + 27)) fl_X2_45 dX2_passHour_86 hB.ob0 rfl ?_
      obtain ⟨x11, e_x11, h⟩ := bd_some h
      refine cs_call (q := (b + 27)) (As := []) kv_X2_131 dX2_passHour_89 (hB.ob 27 (by decide) rfl) rfl rfl (by decide) (Nat.le_of_ble_eq_true rfl) rfl (by decide) (Nat.le_of_ble_eq_true rfl) (t_X5_cart F τ n b x10 hB e_x11) ?_
      refine jg_aload_n dX2_passHour_92 rfl ?_
      refine cs_get (s := x11) (w := .ref (b + 27)) fl_X2_45 dX2_passHour_93 hB.ob0 rfl ?_
      obtain ⟨x12, e_x12, h⟩ := bd_some h
      refine cs_call (q := (b + 27)) (As := []) kv_X2_134 dX2_passHour_96 (hB.ob 27 (by decide) rfl) rfl rfl (by decide) (Nat.le_of_ble_eq_true rfl) rfl (by decide) (Nat.le_of_ble_eq_true rfl) (t_X5_weigh F τ n b x11 hB e_x12) ?_
      refine jg_aload_n dX2_passHour_99 rfl ?_
      refine cs_get (s := x12) (w := .int (x12.1 b 0)) fl_X2_9 dX2_passHour_100 hB.ob0 rfl ?_
      refine jg_bipush (v := nI 24) dX2_passHour_103 (by decide) ?_
      refine jg_iremR (x := (x12.1 b 0)) (y := (nI 24)) dX2_passHour_105 (by decide) ?_
      refine jg_if_ne (x := (irm (x12.1 b 0) (nI 24))) (tgt := 125) dX2_passHour_106 (by decide) (fun c13 => ?_) (fun c13 => ?_)
      · replace h := it_f c13 h
        refine jg_aload_n dX2_passHour_125 rfl ?_
        refine cs_get (s := x12) (w := .int (x12.1 b 0)) fl_X2_9 dX2_passHour_126 hB.ob0 rfl ?_
        refine jg_sipush (v := nI 2400) dX2_passHour_129 (by decide) ?_
        refine jg_iremR (x := (x12.1 b 0)) (y := (nI 2400)) dX2_passHour_132 (by decide) ?_
        refine jg_if_ne (x := (irm (x12.1 b 0) (nI 2400))) (tgt := 153) dX2_passHour_133 (by decide) (fun c14 => ?_) (fun c14 => ?_)
        · replace h := it_f c14 h
          obtain rfl := Option.some.inj h
          exact jg_return dX2_passHour_153 rfl ⟨rfl, rfl⟩
        · replace h := it_t c14 h
          refine jg_aload_n dX2_passHour_136 rfl ?_
          refine cs_get (s := x12) (w := .ref (b + 121)) fl_X2_52 dX2_passHour_137 hB.ob0 rfl ?_
          refine jg_aload_n dX2_passHour_140 rfl ?_
          refine cs_get (s := x12) (w := .int (x12.1 b 0)) fl_X2_9 dX2_passHour_141 hB.ob0 rfl ?_
          refine jg_sipush (v := nI 2400) dX2_passHour_144 (by decide) ?_
          refine jg_idiv (x := (x12.1 b 0)) (y := (nI 2400)) dX2_passHour_147 (by decide) ?_
          refine jg_iconst (v := nI 1) dX2_passHour_148 (by decide) ?_
          refine jg_isub (x := ((x12.1 b 0) / (nI 2400))) (y := (nI 1)) dX2_passHour_149  ?_
          obtain ⟨x15, e_x15, h⟩ := bd_some h
          refine cs_call (q := (b + 121)) (As := [.int (((x12.1 b 0) / (nI 2400)) - (nI 1))]) kv_X2_140 dX2_passHour_150 (hB.ob 121 (by decide) rfl) rfl rfl (by decide) (Nat.le_of_ble_eq_true rfl) rfl (by decide) (Nat.le_of_ble_eq_true rfl) (t_X6_endYear F τ n b x12 (((x12.1 b 0) / (nI 2400)) - (nI 1)) hB e_x15) ?_
          obtain rfl := Option.some.inj h
          exact jg_return dX2_passHour_153 rfl ⟨rfl, rfl⟩
      · replace h := it_t c13 h
        refine jg_aload_n dX2_passHour_109 rfl ?_
        refine cs_get (s := x12) (w := .ref (b + 1)) fl_X2_18 dX2_passHour_110 hB.ob0 rfl ?_
        refine jg_aload_n dX2_passHour_113 rfl ?_
        refine cs_get (s := x12) (w := .int (x12.1 b 0)) fl_X2_9 dX2_passHour_114 hB.ob0 rfl ?_
        refine jg_bipush (v := nI 24) dX2_passHour_117 (by decide) ?_
        refine jg_idiv (x := (x12.1 b 0)) (y := (nI 24)) dX2_passHour_119 (by decide) ?_
        refine jg_iconst (v := nI 1) dX2_passHour_120 (by decide) ?_
        refine jg_isub (x := ((x12.1 b 0) / (nI 24))) (y := (nI 1)) dX2_passHour_121  ?_
        obtain ⟨x16, e_x16, h⟩ := bd_some h
        refine cs_call (q := (b + 1)) (As := [.int (((x12.1 b 0) / (nI 24)) - (nI 1))]) kv_X2_137 dX2_passHour_122 (hB.ob 1 (by decide) rfl) rfl rfl (by decide) (Nat.le_of_ble_eq_true rfl) rfl (by decide) (Nat.le_of_ble_eq_true rfl) (t_X8_endDay F τ n b x12 (((x12.1 b 0) / (nI 24)) - (nI 1)) hB e_x16) ?_
        refine jg_aload_n dX2_passHour_125 rfl ?_
        refine cs_get (s := x16) (w := .int (x16.1 b 0)) fl_X2_9 dX2_passHour_126 hB.ob0 rfl ?_
        refine jg_sipush (v := nI 2400) dX2_passHour_129 (by decide) ?_
        refine jg_iremR (x := (x16.1 b 0)) (y := (nI 2400)) dX2_passHour_132 (by decide) ?_
        refine jg_if_ne (x := (irm (x16.1 b 0) (nI 2400))) (tgt := 153) dX2_passHour_133 (by decide) (fun c17 => ?_) (fun c17 => ?_)
        · replace h := it_f c17 h
          obtain rfl := Option.some.inj h
          exact jg_return dX2_passHour_153 rfl ⟨rfl, rfl⟩
        · replace h := it_t c17 h
          refine jg_aload_n dX2_passHour_136 rfl ?_
          refine cs_get (s := x16) (w := .ref (b + 121)) fl_X2_52 dX2_passHour_137 hB.ob0 rfl ?_
          refine jg_aload_n dX2_passHour_140 rfl ?_
          refine cs_get (s := x16) (w := .int (x16.1 b 0)) fl_X2_9 dX2_passHour_141 hB.ob0 rfl ?_
          refine jg_sipush (v := nI 2400) dX2_passHour_144 (by decide) ?_
          refine jg_idiv (x := (x16.1 b 0)) (y := (nI 2400)) dX2_passHour_147 (by decide) ?_
          refine jg_iconst (v := nI 1) dX2_passHour_148 (by decide) ?_
          refine jg_isub (x := ((x16.1 b 0) / (nI 2400))) (y := (nI 1)) dX2_passHour_149  ?_
          obtain ⟨x18, e_x18, h⟩ := bd_some h
          refine cs_call (q := (b + 121)) (As := [.int (((x16.1 b 0) / (nI 2400)) - (nI 1))]) kv_X2_140 dX2_passHour_150 (hB.ob 121 (by decide) rfl) rfl rfl (by decide) (Nat.le_of_ble_eq_true rfl) rfl (by decide) (Nat.le_of_ble_eq_true rfl) (t_X6_endYear F τ n b x16 (((x16.1 b 0) / (nI 2400)) - (nI 1)) hB e_x18) ?_
          obtain rfl := Option.some.inj h
          exact jg_return dX2_passHour_153 rfl ⟨rfl, rfl⟩
    · replace h := it_f c9 h
      refine jg_aload_n dX2_passHour_67 rfl ?_
      refine jg_iload_n dX2_passHour_68 rfl ?_
      refine jg_aload_n dX2_passHour_69 rfl ?_
      refine jg_iconst (v := nI 4) dX2_passHour_70 (by decide) ?_
      refine jg_iconst (v := nI 0) dX2_passHour_71 (by decide) ?_
      obtain ⟨x19, e_x19, h⟩ := bd_some h
      refine cs_call (q := x1) (As := [.int (nI 4), .int (nI 0)]) kv_X2_104 dX2_passHour_72 (acb_ob q2) rfl rfl (by decide) (Nat.le_of_ble_eq_true rfl) rfl (by decide) (Nat.le_of_ble_eq_true rfl) (t_X0_lastNumber F τ n x1 x5 (nI 4) (nI 0) q2 e_x19) ?_
      obtain ⟨x20, e_x20, h⟩ := bd_some h
      refine cs_call (q := b) (As := [.int x3, .int x19]) kv_X2_124 dX2_passHour_75 hB.ob0 rfl rfl (by decide) (Nat.le_of_ble_eq_true rfl) rfl (by decide) (Nat.le_of_ble_eq_true rfl) (t_X2_shipsComeIn F τ n b x5 x3 x19 hB e_x20) ?_
      refine jg_aload_n dX2_passHour_78 rfl ?_
      refine cs_get (s := x20) (w := .ref (b + 27)) fl_X2_45 dX2_passHour_79 hB.ob0 rfl ?_
      obtain ⟨x21, e_x21, h⟩ := bd_some h
      refine cs_call (q := (b + 27)) (As := []) kv_X2_128 dX2_passHour_82 (hB.ob 27 (by decide) rfl) rfl rfl (by decide) (Nat.le_of_ble_eq_true rfl) rfl (by decide) (Nat.le_of_ble_eq_true rfl) (t_X5_unload F τ n b x20 hB e_x21) ?_
      refine jg_aload_n dX2_passHour_85 rfl ?_
      refine cs_get (s := x21) (w := .ref (b + 27)) fl_X2_45 dX2_passHour_86 hB.ob0 rfl ?_
      obtain ⟨x22, e_x22, h⟩ := bd_some h
      refine cs_call (q := (b + 27)) (As := []) kv_X2_131 dX2_passHour_89 (hB.ob 27 (by decide) rfl) rfl rfl (by decide) (Nat.le_of_ble_eq_true rfl) rfl (by decide) (Nat.le_of_ble_eq_true rfl) (t_X5_cart F τ n b x21 hB e_x22) ?_
      refine jg_aload_n dX2_passHour_92 rfl ?_
      refine cs_get (s := x22) (w := .ref (b + 27)) fl_X2_45 dX2_passHour_93 hB.ob0 rfl ?_
      obtain ⟨x23, e_x23, h⟩ := bd_some h
      refine cs_call (q := (b + 27)) (As := []) kv_X2_134 dX2_passHour_96 (hB.ob 27 (by decide) rfl) rfl rfl (by decide) (Nat.le_of_ble_eq_true rfl) rfl (by decide) (Nat.le_of_ble_eq_true rfl) (t_X5_weigh F τ n b x22 hB e_x23) ?_
      refine jg_aload_n dX2_passHour_99 rfl ?_
      refine cs_get (s := x23) (w := .int (x23.1 b 0)) fl_X2_9 dX2_passHour_100 hB.ob0 rfl ?_
      refine jg_bipush (v := nI 24) dX2_passHour_103 (by decide) ?_
      refine jg_iremR (x := (x23.1 b 0)) (y := (nI 24)) dX2_passHour_105 (by decide) ?_
      refine jg_if_ne (x := (irm (x23.1 b 0) (nI 24))) (tgt := 125) dX2_passHour_106 (by decide) (fun c24 => ?_) (fun c24 => ?_)
      · replace h := it_f c24 h
        refine jg_aload_n dX2_passHour_125 rfl ?_
        refine cs_get (s := x23) (w := .int (x23.1 b 0)) fl_X2_9 dX2_passHour_126 hB.ob0 rfl ?_
        refine jg_sipush (v := nI 2400) dX2_passHour_129 (by decide) ?_
        refine jg_iremR (x := (x23.1 b 0)) (y := (nI 2400)) dX2_passHour_132 (by decide) ?_
        refine jg_if_ne (x := (irm (x23.1 b 0) (nI 2400))) (tgt := 153) dX2_passHour_133 (by decide) (fun c25 => ?_) (fun c25 => ?_)
        · replace h := it_f c25 h
          obtain rfl := Option.some.inj h
          exact jg_return dX2_passHour_153 rfl ⟨rfl, rfl⟩
        · replace h := it_t c25 h
          refine jg_aload_n dX2_passHour_136 rfl ?_
          refine cs_get (s := x23) (w := .ref (b + 121)) fl_X2_52 dX2_passHour_137 hB.ob0 rfl ?_
          refine jg_aload_n dX2_passHour_140 rfl ?_
          refine cs_get (s := x23) (w := .int (x23.1 b 0)) fl_X2_9 dX2_passHour_141 hB.ob0 rfl ?_
          refine jg_sipush (v := nI 2400) dX2_passHour_144 (by decide) ?_
          refine jg_idiv (x := (x23.1 b 0)) (y := (nI 2400)) dX2_passHour_147 (by decide) ?_
          refine jg_iconst (v := nI 1) dX2_passHour_148 (by decide) ?_
          refine jg_isub (x := ((x23.1 b 0) / (nI 2400))) (y := (nI 1)) dX2_passHour_149  ?_
          obtain ⟨x26, e_x26, h⟩ := bd_some h
          refine cs_call (q := (b + 121)) (As := [.int (((x23.1 b 0) / (nI 2400)) - (nI 1))]) kv_X2_140 dX2_passHour_150 (hB.ob 121 (by decide) rfl) rfl rfl (by decide) (Nat.le_of_ble_eq_true rfl) rfl (by decide) (Nat.le_of_ble_eq_true rfl) (t_X6_endYear F τ n b x23 (((x23.1 b 0) / (nI 2400)) - (nI 1)) hB e_x26) ?_
          obtain rfl := Option.some.inj h
          exact jg_return dX2_passHour_153 rfl ⟨rfl, rfl⟩
      · replace h := it_t c24 h
        refine jg_aload_n dX2_passHour_109 rfl ?_
        refine cs_get (s := x23) (w := .ref (b + 1)) fl_X2_18 dX2_passHour_110 hB.ob0 rfl ?_
        refine jg_aload_n dX2_passHour_113 rfl ?_
        refine cs_get (s := x23) (w := .int (x23.1 b 0)) fl_X2_9 dX2_passHour_114 hB.ob0 rfl ?_
        refine jg_bipush (v := nI 24) dX2_passHour_117 (by decide) ?_
        refine jg_idiv (x := (x23.1 b 0)) (y := (nI 24)) dX2_passHour_119 (by decide) ?_
        refine jg_iconst (v := nI 1) dX2_passHour_120 (by decide) ?_
        refine jg_isub (x := ((x23.1 b 0) / (nI 24))) (y := (nI 1)) dX2_passHour_121  ?_
        obtain ⟨x27, e_x27, h⟩ := bd_some h
        refine cs_call (q := (b + 1)) (As := [.int (((x23.1 b 0) / (nI 24)) - (nI 1))]) kv_X2_137 dX2_passHour_122 (hB.ob 1 (by decide) rfl) rfl rfl (by decide) (Nat.le_of_ble_eq_true rfl) rfl (by decide) (Nat.le_of_ble_eq_true rfl) (t_X8_endDay F τ n b x23 (((x23.1 b 0) / (nI 24)) - (nI 1)) hB e_x27) ?_
        refine jg_aload_n dX2_passHour_125 rfl ?_
        refine cs_get (s := x27) (w := .int (x27.1 b 0)) fl_X2_9 dX2_passHour_126 hB.ob0 rfl ?_
        refine jg_sipush (v := nI 2400) dX2_passHour_129 (by decide) ?_
        refine jg_iremR (x := (x27.1 b 0)) (y := (nI 2400)) dX2_passHour_132 (by decide) ?_
        refine jg_if_ne (x := (irm (x27.1 b 0) (nI 2400))) (tgt := 153) dX2_passHour_133 (by decide) (fun c28 => ?_) (fun c28 => ?_)
        · replace h := it_f c28 h
          obtain rfl := Option.some.inj h
          exact jg_return dX2_passHour_153 rfl ⟨rfl, rfl⟩
        · replace h := it_t c28 h
          refine jg_aload_n dX2_passHour_136 rfl ?_
          refine cs_get (s := x27) (w := .ref (b + 121)) fl_X2_52 dX2_passHour_137 hB.ob0 rfl ?_
          refine jg_aload_n dX2_passHour_140 rfl ?_
          refine cs_get (s := x27) (w := .int (x27.1 b 0)) fl_X2_9 dX2_passHour_141 hB.ob0 rfl ?_
          refine jg_sipush (v := nI 2400) dX2_passHour_144 (by decide) ?_
          refine jg_idiv (x := (x27.1 b 0)) (y := (nI 2400)) dX2_passHour_147 (by decide) ?_
          refine jg_iconst (v := nI 1) dX2_passHour_148 (by decide) ?_
          refine jg_isub (x := ((x27.1 b 0) / (nI 2400))) (y := (nI 1)) dX2_passHour_149  ?_
          obtain ⟨x29, e_x29, h⟩ := bd_some h
          refine cs_call (q := (b + 121)) (As := [.int (((x27.1 b 0) / (nI 2400)) - (nI 1))]) kv_X2_140 dX2_passHour_150 (hB.ob 121 (by decide) rfl) rfl rfl (by decide) (Nat.le_of_ble_eq_true rfl) rfl (by decide) (Nat.le_of_ble_eq_true rfl) (t_X6_endYear F τ n b x27 (((x27.1 b 0) / (nI 2400)) - (nI 1)) hB e_x29) ?_
          obtain rfl := Option.some.inj h
          exact jg_return dX2_passHour_153 rfl ⟨rfl, rfl⟩
  · replace h := it_f c7 h
    refine jg_aload_n dX2_passHour_51 rfl ?_
    refine jg_iload_n dX2_passHour_52 rfl ?_
    obtain ⟨x30, e_x30, h⟩ := bd_some h
    refine cs_call (q := b) (As := [.int x3]) kv_X2_121 dX2_passHour_53 hB.ob0 rfl rfl (by decide) (Nat.le_of_ble_eq_true rfl) rfl (by decide) (Nat.le_of_ble_eq_true rfl) (t_X2_shipsLeave F τ n b x5 x3 hB e_x30) ?_
    refine jg_aload_n dX2_passHour_56 rfl ?_
    refine cs_get (s := x30) (w := .ref (b + 27)) fl_X2_45 dX2_passHour_57 hB.ob0 rfl ?_
    refine jg_iconst (v := nI 0) dX2_passHour_60 (by decide) ?_
    obtain ⟨x31, e_x31, h⟩ := bd_some h
    refine cs_call (q := (b + 27)) (As := [.int (nI 0)]) kv_X2_117 dX2_passHour_61 (hB.ob 27 (by decide) rfl) rfl rfl (by decide) (Nat.le_of_ble_eq_true rfl) rfl (by decide) (Nat.le_of_ble_eq_true rfl) (t_X5_hasInState F τ n b x30 (nI 0) hB e_x31) ?_
    refine jg_if_eq (x := x31) (tgt := 78) dX2_passHour_64 (by decide) (fun c32 => ?_) (fun c32 => ?_)
    · replace h := it_t c32 h
      refine jg_aload_n dX2_passHour_78 rfl ?_
      refine cs_get (s := x30) (w := .ref (b + 27)) fl_X2_45 dX2_passHour_79 hB.ob0 rfl ?_
      obtain ⟨x33, e_x33, h⟩ := bd_some h
      refine cs_call (q := (b + 27)) (As := []) kv_X2_128 dX2_passHour_82 (hB.ob 27 (by decide) rfl) rfl rfl (by decide) (Nat.le_of_ble_eq_true rfl) rfl (by decide) (Nat.le_of_ble_eq_true rfl) (t_X5_unload F τ n b x30 hB e_x33) ?_
      refine jg_aload_n dX2_passHour_85 rfl ?_
      refine cs_get (s := x33) (w := .ref (b + 27)) fl_X2_45 dX2_passHour_86 hB.ob0 rfl ?_
      obtain ⟨x34, e_x34, h⟩ := bd_some h
      refine cs_call (q := (b + 27)) (As := []) kv_X2_131 dX2_passHour_89 (hB.ob 27 (by decide) rfl) rfl rfl (by decide) (Nat.le_of_ble_eq_true rfl) rfl (by decide) (Nat.le_of_ble_eq_true rfl) (t_X5_cart F τ n b x33 hB e_x34) ?_
      refine jg_aload_n dX2_passHour_92 rfl ?_
      refine cs_get (s := x34) (w := .ref (b + 27)) fl_X2_45 dX2_passHour_93 hB.ob0 rfl ?_
      obtain ⟨x35, e_x35, h⟩ := bd_some h
      refine cs_call (q := (b + 27)) (As := []) kv_X2_134 dX2_passHour_96 (hB.ob 27 (by decide) rfl) rfl rfl (by decide) (Nat.le_of_ble_eq_true rfl) rfl (by decide) (Nat.le_of_ble_eq_true rfl) (t_X5_weigh F τ n b x34 hB e_x35) ?_
      refine jg_aload_n dX2_passHour_99 rfl ?_
      refine cs_get (s := x35) (w := .int (x35.1 b 0)) fl_X2_9 dX2_passHour_100 hB.ob0 rfl ?_
      refine jg_bipush (v := nI 24) dX2_passHour_103 (by decide) ?_
      refine jg_iremR (x := (x35.1 b 0)) (y := (nI 24)) dX2_passHour_105 (by decide) ?_
      refine jg_if_ne (x := (irm (x35.1 b 0) (nI 24))) (tgt := 125) dX2_passHour_106 (by decide) (fun c36 => ?_) (fun c36 => ?_)
      · replace h := it_f c36 h
        refine jg_aload_n dX2_passHour_125 rfl ?_
        refine cs_get (s := x35) (w := .int (x35.1 b 0)) fl_X2_9 dX2_passHour_126 hB.ob0 rfl ?_
        refine jg_sipush (v := nI 2400) dX2_passHour_129 (by decide) ?_
        refine jg_iremR (x := (x35.1 b 0)) (y := (nI 2400)) dX2_passHour_132 (by decide) ?_
        refine jg_if_ne (x := (irm (x35.1 b 0) (nI 2400))) (tgt := 153) dX2_passHour_133 (by decide) (fun c37 => ?_) (fun c37 => ?_)
        · replace h := it_f c37 h
          obtain rfl := Option.some.inj h
          exact jg_return dX2_passHour_153 rfl ⟨rfl, rfl⟩
        · replace h := it_t c37 h
          refine jg_aload_n dX2_passHour_136 rfl ?_
          refine cs_get (s := x35) (w := .ref (b + 121)) fl_X2_52 dX2_passHour_137 hB.ob0 rfl ?_
          refine jg_aload_n dX2_passHour_140 rfl ?_
          refine cs_get (s := x35) (w := .int (x35.1 b 0)) fl_X2_9 dX2_passHour_141 hB.ob0 rfl ?_
          refine jg_sipush (v := nI 2400) dX2_passHour_144 (by decide) ?_
          refine jg_idiv (x := (x35.1 b 0)) (y := (nI 2400)) dX2_passHour_147 (by decide) ?_
          refine jg_iconst (v := nI 1) dX2_passHour_148 (by decide) ?_
          refine jg_isub (x := ((x35.1 b 0) / (nI 2400))) (y := (nI 1)) dX2_passHour_149  ?_
          obtain ⟨x38, e_x38, h⟩ := bd_some h
          refine cs_call (q := (b + 121)) (As := [.int (((x35.1 b 0) / (nI 2400)) - (nI 1))]) kv_X2_140 dX2_passHour_150 (hB.ob 121 (by decide) rfl) rfl rfl (by decide) (Nat.le_of_ble_eq_true rfl) rfl (by decide) (Nat.le_of_ble_eq_true rfl) (t_X6_endYear F τ n b x35 (((x35.1 b 0) / (nI 2400)) - (nI 1)) hB e_x38) ?_
          obtain rfl := Option.some.inj h
          exact jg_return dX2_passHour_153 rfl ⟨rfl, rfl⟩
      · replace h := it_t c36 h
        refine jg_aload_n dX2_passHour_109 rfl ?_
        refine cs_get (s := x35) (w := .ref (b + 1)) fl_X2_18 dX2_passHour_110 hB.ob0 rfl ?_
        refine jg_aload_n dX2_passHour_113 rfl ?_
        refine cs_get (s := x35) (w := .int (x35.1 b 0)) fl_X2_9 dX2_passHour_114 hB.ob0 rfl ?_
        refine jg_bipush (v := nI 24) dX2_passHour_117 (by decide) ?_
        refine jg_idiv (x := (x35.1 b 0)) (y := (nI 24)) dX2_passHour_119 (by decide) ?_
        refine jg_iconst (v := nI 1) dX2_passHour_120 (by decide) ?_
        refine jg_isub (x := ((x35.1 b 0) / (nI 24))) (y := (nI 1)) dX2_passHour_121  ?_
        obtain ⟨x39, e_x39, h⟩ := bd_some h
        refine cs_call (q := (b + 1)) (As := [.int (((x35.1 b 0) / (nI 24)) - (nI 1))]) kv_X2_137 dX2_passHour_122 (hB.ob 1 (by decide) rfl) rfl rfl (by decide) (Nat.le_of_ble_eq_true rfl) rfl (by decide) (Nat.le_of_ble_eq_true rfl) (t_X8_endDay F τ n b x35 (((x35.1 b 0) / (nI 24)) - (nI 1)) hB e_x39) ?_
        refine jg_aload_n dX2_passHour_125 rfl ?_
        refine cs_get (s := x39) (w := .int (x39.1 b 0)) fl_X2_9 dX2_passHour_126 hB.ob0 rfl ?_
        refine jg_sipush (v := nI 2400) dX2_passHour_129 (by decide) ?_
        refine jg_iremR (x := (x39.1 b 0)) (y := (nI 2400)) dX2_passHour_132 (by decide) ?_
        refine jg_if_ne (x := (irm (x39.1 b 0) (nI 2400))) (tgt := 153) dX2_passHour_133 (by decide) (fun c40 => ?_) (fun c40 => ?_)
        · replace h := it_f c40 h
          obtain rfl := Option.some.inj h
          exact jg_return dX2_passHour_153 rfl ⟨rfl, rfl⟩
        · replace h := it_t c40 h
          refine jg_aload_n dX2_passHour_136 rfl ?_
          refine cs_get (s := x39) (w := .ref (b + 121)) fl_X2_52 dX2_passHour_137 hB.ob0 rfl ?_
          refine jg_aload_n dX2_passHour_140 rfl ?_
          refine cs_get (s := x39) (w := .int (x39.1 b 0)) fl_X2_9 dX2_passHour_141 hB.ob0 rfl ?_
          refine jg_sipush (v := nI 2400) dX2_passHour_144 (by decide) ?_
          refine jg_idiv (x := (x39.1 b 0)) (y := (nI 2400)) dX2_passHour_147 (by decide) ?_
          refine jg_iconst (v := nI 1) dX2_passHour_148 (by decide) ?_
          refine jg_isub (x := ((x39.1 b 0) / (nI 2400))) (y := (nI 1)) dX2_passHour_149  ?_
          obtain ⟨x41, e_x41, h⟩ := bd_some h
          refine cs_call (q := (b + 121)) (As := [.int (((x39.1 b 0) / (nI 2400)) - (nI 1))]) kv_X2_140 dX2_passHour_150 (hB.ob 121 (by decide) rfl) rfl rfl (by decide) (Nat.le_of_ble_eq_true rfl) rfl (by decide) (Nat.le_of_ble_eq_true rfl) (t_X6_endYear F τ n b x39 (((x39.1 b 0) / (nI 2400)) - (nI 1)) hB e_x41) ?_
          obtain rfl := Option.some.inj h
          exact jg_return dX2_passHour_153 rfl ⟨rfl, rfl⟩
    · replace h := it_f c32 h
      refine jg_aload_n dX2_passHour_67 rfl ?_
      refine jg_iload_n dX2_passHour_68 rfl ?_
      refine jg_aload_n dX2_passHour_69 rfl ?_
      refine jg_iconst (v := nI 4) dX2_passHour_70 (by decide) ?_
      refine jg_iconst (v := nI 0) dX2_passHour_71 (by decide) ?_
      obtain ⟨x42, e_x42, h⟩ := bd_some h
      refine cs_call (q := x1) (As := [.int (nI 4), .int (nI 0)]) kv_X2_104 dX2_passHour_72 (acb_ob q2) rfl rfl (by decide) (Nat.le_of_ble_eq_true rfl) rfl (by decide) (Nat.le_of_ble_eq_true rfl) (t_X0_lastNumber F τ n x1 x30 (nI 4) (nI 0) q2 e_x42) ?_
      obtain ⟨x43, e_x43, h⟩ := bd_some h
      refine cs_call (q := b) (As := [.int x3, .int x42]) kv_X2_124 dX2_passHour_75 hB.ob0 rfl rfl (by decide) (Nat.le_of_ble_eq_true rfl) rfl (by decide) (Nat.le_of_ble_eq_true rfl) (t_X2_shipsComeIn F τ n b x30 x3 x42 hB e_x43) ?_
      refine jg_aload_n dX2_passHour_78 rfl ?_
      refine cs_get (s := x43) (w := .ref (b + 27)) fl_X2_45 dX2_passHour_79 hB.ob0 rfl ?_
      obtain ⟨x44, e_x44, h⟩ := bd_some h
      refine cs_call (q := (b + 27)) (As := []) kv_X2_128 dX2_passHour_82 (hB.ob 27 (by decide) rfl) rfl rfl (by decide) (Nat.le_of_ble_eq_true rfl) rfl (by decide) (Nat.le_of_ble_eq_true rfl) (t_X5_unload F τ n b x43 hB e_x44) ?_
      refine jg_aload_n dX2_passHour_85 rfl ?_
      refine cs_get (s := x44) (w := .ref (b + 27)) fl_X2_45 dX2_passHour_86 hB.ob0 rfl ?_
      obtain ⟨x45, e_x45, h⟩ := bd_some h
      refine cs_call (q := (b + 27)) (As := []) kv_X2_131 dX2_passHour_89 (hB.ob 27 (by decide) rfl) rfl rfl (by decide) (Nat.le_of_ble_eq_true rfl) rfl (by decide) (Nat.le_of_ble_eq_true rfl) (t_X5_cart F τ n b x44 hB e_x45) ?_
      refine jg_aload_n dX2_passHour_92 rfl ?_
      refine cs_get (s := x45) (w := .ref (b + 27)) fl_X2_45 dX2_passHour_93 hB.ob0 rfl ?_
      obtain ⟨x46, e_x46, h⟩ := bd_some h
      refine cs_call (q := (b + 27)) (As := []) kv_X2_134 dX2_passHour_96 (hB.ob 27 (by decide) rfl) rfl rfl (by decide) (Nat.le_of_ble_eq_true rfl) rfl (by decide) (Nat.le_of_ble_eq_true rfl) (t_X5_weigh F τ n b x45 hB e_x46) ?_
      refine jg_aload_n dX2_passHour_99 rfl ?_
      refine cs_get (s := x46) (w := .int (x46.1 b 0)) fl_X2_9 dX2_passHour_100 hB.ob0 rfl ?_
      refine jg_bipush (v := nI 24) dX2_passHour_103 (by decide) ?_
      refine jg_iremR (x := (x46.1 b 0)) (y := (nI 24)) dX2_passHour_105 (by decide) ?_
      refine jg_if_ne (x := (irm (x46.1 b 0) (nI 24))) (tgt := 125) dX2_passHour_106 (by decide) (fun c47 => ?_) (fun c47 => ?_)
      · replace h := it_f c47 h
        refine jg_aload_n dX2_passHour_125 rfl ?_
        refine cs_get (s := x46) (w := .int (x46.1 b 0)) fl_X2_9 dX2_passHour_126 hB.ob0 rfl ?_
        refine jg_sipush (v := nI 2400) dX2_passHour_129 (by decide) ?_
        refine jg_iremR (x := (x46.1 b 0)) (y := (nI 2400)) dX2_passHour_132 (by decide) ?_
        refine jg_if_ne (x := (irm (x46.1 b 0) (nI 2400))) (tgt := 153) dX2_passHour_133 (by decide) (fun c48 => ?_) (fun c48 => ?_)
        · replace h := it_f c48 h
          obtain rfl := Option.some.inj h
          exact jg_return dX2_passHour_153 rfl ⟨rfl, rfl⟩
        · replace h := it_t c48 h
          refine jg_aload_n dX2_passHour_136 rfl ?_
          refine cs_get (s := x46) (w := .ref (b + 121)) fl_X2_52 dX2_passHour_137 hB.ob0 rfl ?_
          refine jg_aload_n dX2_passHour_140 rfl ?_
          refine cs_get (s := x46) (w := .int (x46.1 b 0)) fl_X2_9 dX2_passHour_141 hB.ob0 rfl ?_
          refine jg_sipush (v := nI 2400) dX2_passHour_144 (by decide) ?_
          refine jg_idiv (x := (x46.1 b 0)) (y := (nI 2400)) dX2_passHour_147 (by decide) ?_
          refine jg_iconst (v := nI 1) dX2_passHour_148 (by decide) ?_
          refine jg_isub (x := ((x46.1 b 0) / (nI 2400))) (y := (nI 1)) dX2_passHour_149  ?_
          obtain ⟨x49, e_x49, h⟩ := bd_some h
          refine cs_call (q := (b + 121)) (As := [.int (((x46.1 b 0) / (nI 2400)) - (nI 1))]) kv_X2_140 dX2_passHour_150 (hB.ob 121 (by decide) rfl) rfl rfl (by decide) (Nat.le_of_ble_eq_true rfl) rfl (by decide) (Nat.le_of_ble_eq_true rfl) (t_X6_endYear F τ n b x46 (((x46.1 b 0) / (nI 2400)) - (nI 1)) hB e_x49) ?_
          obtain rfl := Option.some.inj h
          exact jg_return dX2_passHour_153 rfl ⟨rfl, rfl⟩
      · replace h := it_t c47 h
        refine jg_aload_n dX2_passHour_109 rfl ?_
        refine cs_get (s := x46) (w := .ref (b + 1)) fl_X2_18 dX2_passHour_110 hB.ob0 rfl ?_
        refine jg_aload_n dX2_passHour_113 rfl ?_
        refine cs_get (s := x46) (w := .int (x46.1 b 0)) fl_X2_9 dX2_passHour_114 hB.ob0 rfl ?_
        refine jg_bipush (v := nI 24) dX2_passHour_117 (by decide) ?_
        refine jg_idiv (x := (x46.1 b 0)) (y := (nI 24)) dX2_passHour_119 (by decide) ?_
        refine jg_iconst (v := nI 1) dX2_passHour_120 (by decide) ?_
        refine jg_isub (x := ((x46.1 b 0) / (nI 24))) (y := (nI 1)) dX2_passHour_121  ?_
        obtain ⟨x50, e_x50, h⟩ := bd_some h
        refine cs_call (q := (b + 1)) (As := [.int (((x46.1 b 0) / (nI 24)) - (nI 1))]) kv_X2_137 dX2_passHour_122 (hB.ob 1 (by decide) rfl) rfl rfl (by decide) (Nat.le_of_ble_eq_true rfl) rfl (by decide) (Nat.le_of_ble_eq_true rfl) (t_X8_endDay F τ n b x46 (((x46.1 b 0) / (nI 24)) - (nI 1)) hB e_x50) ?_
        refine jg_aload_n dX2_passHour_125 rfl ?_
        refine cs_get (s := x50) (w := .int (x50.1 b 0)) fl_X2_9 dX2_passHour_126 hB.ob0 rfl ?_
        refine jg_sipush (v := nI 2400) dX2_passHour_129 (by decide) ?_
        refine jg_iremR (x := (x50.1 b 0)) (y := (nI 2400)) dX2_passHour_132 (by decide) ?_
        refine jg_if_ne (x := (irm (x50.1 b 0) (nI 2400))) (tgt := 153) dX2_passHour_133 (by decide) (fun c51 => ?_) (fun c51 => ?_)
        · replace h := it_f c51 h
          obtain rfl := Option.some.inj h
          exact jg_return dX2_passHour_153 rfl ⟨rfl, rfl⟩
        · replace h := it_t c51 h
          refine jg_aload_n dX2_passHour_136 rfl ?_
          refine cs_get (s := x50) (w := .ref (b + 121)) fl_X2_52 dX2_passHour_137 hB.ob0 rfl ?_
          refine jg_aload_n dX2_passHour_140 rfl ?_
          refine cs_get (s := x50) (w := .int (x50.1 b 0)) fl_X2_9 dX2_passHour_141 hB.ob0 rfl ?_
          refine jg_sipush (v := nI 2400) dX2_passHour_144 (by decide) ?_
          refine jg_idiv (x := (x50.1 b 0)) (y := (nI 2400)) dX2_passHour_147 (by decide) ?_
          refine jg_iconst (v := nI 1) dX2_passHour_148 (by decide) ?_
          refine jg_isub (x := ((x50.1 b 0) / (nI 2400))) (y := (nI 1)) dX2_passHour_149  ?_
          obtain ⟨x52, e_x52, h⟩ := bd_some h
          refine cs_call (q := (b + 121)) (As := [.int (((x50.1 b 0) / (nI 2400)) - (nI 1))]) kv_X2_140 dX2_passHour_150 (hB.ob 121 (by decide) rfl) rfl rfl (by decide) (Nat.le_of_ble_eq_true rfl) rfl (by decide) (Nat.le_of_ble_eq_true rfl) (t_X6_endYear F τ n b x50 (((x50.1 b 0) / (nI 2400)) - (nI 1)) hB e_x52) ?_
          obtain rfl := Option.some.inj h
          exact jg_return dX2_passHour_153 rfl ⟨rfl, rfl⟩
theorem dX2_countAheadOf_0 : decode cX2_countAheadOf 0 = .ok (.aload_n 0, 1) := by decide +kernel
theorem dX2_countAheadOf_1 : decode cX2_countAheadOf 1 = .ok (.getfield 45, 3) := by decide +kernel
theorem dX2_countAheadOf_4 : decode cX2_countAheadOf 4 = .ok (.getfield 159, 3) := by decide +kernel
theorem dX2_countAheadOf_7 : decode cX2_countAheadOf 7 = .ok (.iload_n 1, 1) := by decide +kernel
theorem dX2_countAheadOf_8 : decode cX2_countAheadOf 8 = .ok (.aaload, 1) := by decide +kernel
theorem dX2_countAheadOf_9 : decode cX2_countAheadOf 9 = .ok (.getfield 163, 3) := by decide +kernel
theorem dX2_countAheadOf_12 : decode cX2_countAheadOf 12 = .ok (.ifCond .eq 5, 3) := by decide +kernel
theorem dX2_countAheadOf_15 : decode cX2_countAheadOf 15 = .ok (.iconst (-1), 1) := by decide +kernel
theorem dX2_countAheadOf_16 : decode cX2_countAheadOf 16 = .ok (.ireturn, 1) := by decide +kernel
theorem dX2_countAheadOf_17 : decode cX2_countAheadOf 17 = .ok (.aload_n 0, 1) := by decide +kernel
theorem dX2_countAheadOf_18 : decode cX2_countAheadOf 18 = .ok (.invokevirtual 100, 3) := by decide +kernel
theorem dX2_countAheadOf_21 : decode cX2_countAheadOf 21 = .ok (.iconst 4, 1) := by decide +kernel
theorem dX2_countAheadOf_22 : decode cX2_countAheadOf 22 = .ok (.iconst 0, 1) := by decide +kernel
theorem dX2_countAheadOf_23 : decode cX2_countAheadOf 23 = .ok (.invokevirtual 104, 3) := by decide +kernel
theorem dX2_countAheadOf_26 : decode cX2_countAheadOf 26 = .ok (.istore_n 2, 1) := by decide +kernel
theorem dX2_countAheadOf_27 : decode cX2_countAheadOf 27 = .ok (.iconst 0, 1) := by decide +kernel
theorem dX2_countAheadOf_28 : decode cX2_countAheadOf 28 = .ok (.istore_n 3, 1) := by decide +kernel
theorem dX2_countAheadOf_29 : decode cX2_countAheadOf 29 = .ok (.iconst 0, 1) := by decide +kernel
theorem dX2_countAheadOf_30 : decode cX2_countAheadOf 30 = .ok (.istore 4, 2) := by decide +kernel
theorem dX2_countAheadOf_32 : decode cX2_countAheadOf 32 = .ok (.iload 4, 2) := by decide +kernel
theorem dX2_countAheadOf_34 : decode cX2_countAheadOf 34 = .ok (.aload_n 0, 1) := by decide +kernel
theorem dX2_countAheadOf_35 : decode cX2_countAheadOf 35 = .ok (.getfield 45, 3) := by decide +kernel
theorem dX2_countAheadOf_38 : decode cX2_countAheadOf 38 = .ok (.getfield 156, 3) := by decide +kernel
theorem dX2_countAheadOf_41 : decode cX2_countAheadOf 41 = .ok (.if_icmp .ge 42, 3) := by decide +kernel
theorem dX2_countAheadOf_44 : decode cX2_countAheadOf 44 = .ok (.aload_n 0, 1) := by decide +kernel
theorem dX2_countAheadOf_45 : decode cX2_countAheadOf 45 = .ok (.getfield 45, 3) := by decide +kernel
theorem dX2_countAheadOf_48 : decode cX2_countAheadOf 48 = .ok (.getfield 159, 3) := by decide +kernel
theorem dX2_countAheadOf_51 : decode cX2_countAheadOf 51 = .ok (.iload 4, 2) := by decide +kernel
theorem dX2_countAheadOf_53 : decode cX2_countAheadOf 53 = .ok (.aaload, 1) := by decide +kernel
theorem dX2_countAheadOf_54 : decode cX2_countAheadOf 54 = .ok (.getfield 163, 3) := by decide +kernel
theorem dX2_countAheadOf_57 : decode cX2_countAheadOf 57 = .ok (.ifCond .ne 20, 3) := by decide +kernel
theorem dX2_countAheadOf_60 : decode cX2_countAheadOf 60 = .ok (.aload_n 0, 1) := by decide +kernel
theorem dX2_countAheadOf_61 : decode cX2_countAheadOf 61 = .ok (.getfield 45, 3) := by decide +kernel
theorem dX2_countAheadOf_64 : decode cX2_countAheadOf 64 = .ok (.iload 4, 2) := by decide +kernel
theorem dX2_countAheadOf_66 : decode cX2_countAheadOf 66 = .ok (.iload_n 1, 1) := by decide +kernel
theorem dX2_countAheadOf_67 : decode cX2_countAheadOf 67 = .ok (.iload_n 2, 1) := by decide +kernel
theorem dX2_countAheadOf_68 : decode cX2_countAheadOf 68 = .ok (.invokevirtual 272, 3) := by decide +kernel
theorem dX2_countAheadOf_71 : decode cX2_countAheadOf 71 = .ok (.ifCond .eq 6, 3) := by decide +kernel
theorem dX2_countAheadOf_74 : decode cX2_countAheadOf 74 = .ok (.iinc 3 1, 3) := by decide +kernel
theorem dX2_countAheadOf_77 : decode cX2_countAheadOf 77 = .ok (.iinc 4 1, 3) := by decide +kernel
theorem dX2_countAheadOf_80 : decode cX2_countAheadOf 80 = .ok (.goto (-48), 3) := by decide +kernel
theorem dX2_countAheadOf_83 : decode cX2_countAheadOf 83 = .ok (.iload_n 3, 1) := by decide +kernel
theorem dX2_countAheadOf_84 : decode cX2_countAheadOf 84 = .ok (.ireturn, 1) := by decide +kernel
noncomputable def o_X2_countAheadOf_32 (F : Nat) (τ : cT) (n : Nat) (b : Nat) (l1 : Int32) (l2 : Int32) (s : cS) : Nat → Int32 → Int32 → Option (Int32)
  | 0, _, _ => none
  | f + 1, l3, l4 => if (s.1 (b + 27) 3) ≤ l4 then (some l3) else (if iL l4 80 then (if (s.1 (b + 39 + 1 + l4.toNatClampNeg) 10) = 0 then ((o_X5_isAhead τ n b s l4 l1 l2).bind fun x9 => (if x9 = 0 then (o_X2_countAheadOf_32 F τ n b l1 l2 s f l3 (l4 + nI 1)) else (o_X2_countAheadOf_32 F τ n b l1 l2 s f (l3 + nI 1) (l4 + nI 1)))) else (o_X2_countAheadOf_32 F τ n b l1 l2 s f l3 (l4 + nI 1))) else none)
set_option maxHeartbeats 4000000 in
theorem t_X2_countAheadOf_32 {Γ : jg_G} {g : Nat → jg_C} (F : Nat) (τ : cT) (n : Nat) (b : Nat) (l1 : Int32) (l2 : Int32) (s : cS) (hB : Bd τ n b) (Q : jg_Q) {x : Int32} (K1 : jg Γ mX2_countAheadOf 3 0 0 83 [none, none, none, some (.int x), none] [] (ct_h g τ s, n) Q)  : ∀ (f : Nat) (l3 : Int32) (l4 : Int32), o_X2_countAheadOf_32 F τ n b l1 l2 s f l3 l4 = some x → jg Γ mX2_countAheadOf 3 0 0 32 [some (.ref b), some (.int l1), some (.int l2), some (.int l3), some (.int l4)] [] (ct_h g τ s, n) Q := by
  intro f
  induction f with
  | zero => intro l3 l4 h; rw [o_X2_countAheadOf_32] at h; cases h
  | succ f ih =>
   intro l3 l4 h
   rw [o_X2_countAheadOf_32] at h
   refine jg_iload dX2_countAheadOf_32 rfl ?_
   refine jg_aload_n dX2_countAheadOf_34 rfl ?_
   refine cs_get (s := s) (w := .ref (b + 27)) fl_X2_45 dX2_countAheadOf_35 hB.ob0 rfl ?_
   refine cs_get (s := s) (w := .int (s.1 (b + 27) 3)) fl_X2_156 dX2_countAheadOf_38 (hB.ob 27 (by decide) rfl) rfl ?_
   refine jg_icmp_ge (x := l4) (y := (s.1 (b + 27) 3)) (tgt := 83) dX2_countAheadOf_41 (by decide) (fun c6 => ?_) (fun c6 => ?_)
   · replace h := it_t c6 h
     refine jg_fg (L' := [none, none, none, some (.int l3), none]) (by repeat (first | exact trivial | refine ⟨rfl, ?_⟩ | show jg_le _ _)) ?_
     obtain rfl := Option.some.inj h
     exact K1
   · replace h := it_f c6 h
     refine jg_aload_n dX2_countAheadOf_44 rfl ?_
     refine cs_get (s := s) (w := .ref (b + 27)) fl_X2_45 dX2_countAheadOf_45 hB.ob0 rfl ?_
     refine cs_get (s := s) (w := .ref (b + 39)) fl_X2_159 dX2_countAheadOf_48 (hB.ob 27 (by decide) rfl) rfl ?_
     refine jg_iload dX2_countAheadOf_51 rfl ?_
     obtain ⟨q7, h⟩ := gd_some h
     refine cs_ldr (s := s) (q := (b + 39)) (i := l4) (kd := 6) (by decide) dX2_countAheadOf_53 (hB.ar 39 (by decide) rfl) q7 ?_
     refine cs_get (s := s) (w := .int (s.1 (b + 39 + 1 + l4.toNatClampNeg) 10)) fl_X2_163 dX2_countAheadOf_54 (hB.ship q7.2) rfl ?_
     refine jg_if_ne (x := (s.1 (b + 39 + 1 + l4.toNatClampNeg) 10)) (tgt := 77) dX2_countAheadOf_57 (by decide) (fun c8 => ?_) (fun c8 => ?_)
     · replace h := it_f c8 h
       refine jg_iinc (x := l4) (v := l4 + nI 1) (L' := [some (.ref b), some (.int l1), some (.int l2), some (.int l3), some (.int (l4 + nI 1))]) dX2_countAheadOf_77 rfl (ic_k _ (by decide)) (by decide) rfl ?_
       refine jg_goto (tgt := 32) dX2_countAheadOf_80 (by decide) ?_
       refine jg_fg (L' := [some (.ref b), some (.int l1), some (.int l2), some (.int l3), some (.int (l4 + nI 1))]) (by repeat (first | exact trivial | refine ⟨rfl, ?_⟩ | show jg_le _ _)) ?_
       exact ih l3 (l4 + nI 1) h
     · replace h := it_t c8 h
       refine jg_aload_n dX2_countAheadOf_60 rfl ?_
       refine cs_get (s := s) (w := .ref (b + 27)) fl_X2_45 dX2_countAheadOf_61 hB.ob0 rfl ?_
       refine jg_iload dX2_countAheadOf_64 rfl ?_
       refine jg_iload_n dX2_countAheadOf_66 rfl ?_
       refine jg_iload_n dX2_countAheadOf_67 rfl ?_
       obtain ⟨x9, e_x9, h⟩ := bd_some h
       refine cs_call (q := (b + 27)) (As := [.int l4, .int l1, .int l2]) kv_X2_272 dX2_countAheadOf_68 (hB.ob 27 (by decide) rfl) rfl rfl (by decide) (Nat.le_of_ble_eq_true rfl) rfl (by decide) (Nat.le_of_ble_eq_true rfl) (t_X5_isAhead τ n b s l4 l1 l2 hB e_x9) ?_
       refine jg_if_eq (x := x9) (tgt := 77) dX2_countAheadOf_71 (by decide) (fun c10 => ?_) (fun c10 => ?_)
       · replace h := it_t c10 h
         refine jg_iinc (x := l4) (v := l4 + nI 1) (L' := [some (.ref b), some (.int l1), some (.int l2), some (.int l3), some (.int (l4 + nI 1))]) dX2_countAheadOf_77 rfl (ic_k _ (by decide)) (by decide) rfl ?_
         refine jg_goto (tgt := 32) dX2_countAheadOf_80 (by decide) ?_
         refine jg_fg (L' := [some (.ref b), some (.int l1), some (.int l2), some (.int l3), some (.int (l4 + nI 1))]) (by repeat (first | exact trivial | refine ⟨rfl, ?_⟩ | show jg_le _ _)) ?_
         exact ih l3 (l4 + nI 1) h
       · replace h := it_f c10 h
         refine jg_iinc (x := l3) (v := l3 + nI 1) (L' := [some (.ref b), some (.int l1), some (.int l2), some (.int (l3 + nI 1)), some (.int l4)]) dX2_countAheadOf_74 rfl (ic_k _ (by decide)) (by decide) rfl ?_
         refine jg_iinc (x := l4) (v := l4 + nI 1) (L' := [some (.ref b), some (.int l1), some (.int l2), some (.int (l3 + nI 1)), some (.int (l4 + nI 1))]) dX2_countAheadOf_77 rfl (ic_k _ (by decide)) (by decide) rfl ?_
         refine jg_goto (tgt := 32) dX2_countAheadOf_80 (by decide) ?_
         refine jg_fg (L' := [some (.ref b), some (.int l1), some (.int l2), some (.int (l3 + nI 1)), some (.int (l4 + nI 1))]) (by repeat (first | exact trivial | refine ⟨rfl, ?_⟩ | show jg_le _ _)) ?_
         exact ih (l3 + nI 1) (l4 + nI 1) h
noncomputable def o_X2_countAheadOf (F : Nat) (τ : cT) (n : Nat) (b : Nat) (s : cS) (a1 : Int32) : Option (Int32) := if iL a1 80 then (if (s.1 (b + 39 + 1 + a1.toNatClampNeg) 10) = 0 then ((o_X2_actOfToday F τ n b s).bind fun x3 => (if acb τ n x3 = true then ((o_X0_lastNumber F τ n x3 s (nI 4) (nI 0)).bind fun x5 => ((o_X2_countAheadOf_32 F τ n b a1 x5 s F (nI 0) (nI 0)).bind fun x11 => (some x11))) else none)) else (some (-1))) else none
set_option maxHeartbeats 4000000 in
theorem t_X2_countAheadOf {Γ : jg_G} {g : Nat → jg_C} (F : Nat) (τ : cT) (n : Nat) (b : Nat) (s : cS) (a1 : Int32) (hB : Bd τ n b) {x : Int32} (h : o_X2_countAheadOf F τ n b s a1 = some x) : jc Γ mX2_countAheadOf 3 0 0 [some (.ref b), some (.int a1), none, none, none] (ct_h g τ s, n) (.inl (some (.int x))) (ct_h g τ s, n) := by
  refine jc_of ?_
  rw [o_X2_countAheadOf] at h
  refine jg_aload_n dX2_countAheadOf_0 rfl ?_
  refine cs_get (s := s) (w := .ref (b + 27)) fl_X2_45 dX2_countAheadOf_1 hB.ob0 rfl ?_
  refine cs_get (s := s) (w := .ref (b + 39)) fl_X2_159 dX2_countAheadOf_4 (hB.ob 27 (by decide) rfl) rfl ?_
  refine jg_iload_n dX2_countAheadOf_7 rfl ?_
  obtain ⟨q1, h⟩ := gd_some h
  refine cs_ldr (s := s) (q := (b + 39)) (i := a1) (kd := 6) (by decide) dX2_countAheadOf_8 (hB.ar 39 (by decide) rfl) q1 ?_
  refine cs_get (s := s) (w := .int (s.1 (b + 39 + 1 + a1.toNatClampNeg) 10)) fl_X2_163 dX2_countAheadOf_9 (hB.ship q1.2) rfl ?_
  refine jg_if_eq (x := (s.1 (b + 39 + 1 + a1.toNatClampNeg) 10)) (tgt := 17) dX2_countAheadOf_12 (by decide) (fun c2 => ?_) (fun c2 => ?_)
  · replace h := it_t c2 h
    refine jg_aload_n dX2_countAheadOf_17 rfl ?_
    obtain ⟨x3, e_x3, h⟩ := bd_some h
    refine cs_call (q := b) (As := []) kv_X2_100 dX2_countAheadOf_18 hB.ob0 rfl rfl (by decide) (Nat.le_of_ble_eq_true rfl) rfl (by decide) (Nat.le_of_ble_eq_true rfl) (t_X2_actOfToday F τ n b s hB e_x3) ?_
    obtain ⟨q4, h⟩ := gd_some h
    refine jg_iconst (v := nI 4) dX2_countAheadOf_21 (by decide) ?_
    refine jg_iconst (v := nI 0) dX2_countAheadOf_22 (by decide) ?_
    obtain ⟨x5, e_x5, h⟩ := bd_some h
    refine cs_call (q := x3) (As := [.int (nI 4), .int (nI 0)]) kv_X2_104 dX2_countAheadOf_23 (acb_ob q4) rfl rfl (by decide) (Nat.le_of_ble_eq_true rfl) rfl (by decide) (Nat.le_of_ble_eq_true rfl) (t_X0_lastNumber F τ n x3 s (nI 4) (nI 0) q4 e_x5) ?_
    refine jg_istore_n (L' := [some (.ref b), some (.int a1), some (.int x5), none, none]) dX2_countAheadOf_26 (by decide) rfl ?_
    refine jg_iconst (v := nI 0) dX2_countAheadOf_27 (by decide) ?_
    refine jg_istore_n (L' := [some (.ref b), some (.int a1), some (.int x5), some (.int (nI 0)), none]) dX2_countAheadOf_28 (by decide) rfl ?_
    refine jg_iconst (v := nI 0) dX2_countAheadOf_29 (by decide) ?_
    refine jg_istore (L' := [some (.ref b), some (.int a1), some (.int x5), some (.int (nI 0)), some (.int (nI 0))]) dX2_countAheadOf_30 (by decide) rfl ?_
    obtain ⟨x11, e_x11, h⟩ := bd_some h
    refine jg_fg (L' := [some (.ref b), some (.int a1), some (.int x5), some (.int (nI 0)), some (.int (nI 0))]) (by repeat (first | exact trivial | refine ⟨rfl, ?_⟩ | show jg_le _ _)) ?_
    refine t_X2_countAheadOf_32  F τ n b a1 x5 s hB _ (x := x11) ?_ F (nI 0) (nI 0) e_x11
    refine jg_iload_n dX2_countAheadOf_83 rfl ?_
    obtain rfl := Option.some.inj h
    exact jg_ireturn dX2_countAheadOf_84 rfl ⟨rfl, rfl⟩
  · replace h := it_f c2 h
    refine jg_iconst (v := (-1)) dX2_countAheadOf_15 (by decide) ?_
    obtain rfl := Option.some.inj h
    exact jg_ireturn dX2_countAheadOf_16 rfl ⟨rfl, rfl⟩
theorem dX2_firstSafeHour_0 : decode cX2_firstSafeHour 0 = .ok (.iload_n 3, 1) := by decide +kernel
theorem dX2_firstSafeHour_1 : decode cX2_firstSafeHour 1 = .ok (.ifCond .eq 10, 3) := by decide +kernel
theorem dX2_firstSafeHour_4 : decode cX2_firstSafeHour 4 = .ok (.aload_n 1, 1) := by decide +kernel
theorem dX2_firstSafeHour_5 : decode cX2_firstSafeHour 5 = .ok (.getfield 178, 3) := by decide +kernel
theorem dX2_firstSafeHour_8 : decode cX2_firstSafeHour 8 = .ok (.goto 7, 3) := by decide +kernel
theorem dX2_firstSafeHour_11 : decode cX2_firstSafeHour 11 = .ok (.aload_n 1, 1) := by decide +kernel
theorem dX2_firstSafeHour_12 : decode cX2_firstSafeHour 12 = .ok (.getfield 269, 3) := by decide +kernel
theorem dX2_firstSafeHour_15 : decode cX2_firstSafeHour 15 = .ok (.aload_n 0, 1) := by decide +kernel
theorem dX2_firstSafeHour_16 : decode cX2_firstSafeHour 16 = .ok (.invokevirtual 100, 3) := by decide +kernel
theorem dX2_firstSafeHour_19 : decode cX2_firstSafeHour 19 = .ok (.iconst 5, 1) := by decide +kernel
theorem dX2_firstSafeHour_20 : decode cX2_firstSafeHour 20 = .ok (.iconst 5, 1) := by decide +kernel
theorem dX2_firstSafeHour_21 : decode cX2_firstSafeHour 21 = .ok (.invokevirtual 104, 3) := by decide +kernel
theorem dX2_firstSafeHour_24 : decode cX2_firstSafeHour 24 = .ok (.iadd, 1) := by decide +kernel
theorem dX2_firstSafeHour_25 : decode cX2_firstSafeHour 25 = .ok (.istore 4, 2) := by decide +kernel
theorem dX2_firstSafeHour_27 : decode cX2_firstSafeHour 27 = .ok (.aload_n 0, 1) := by decide +kernel
theorem dX2_firstSafeHour_28 : decode cX2_firstSafeHour 28 = .ok (.invokevirtual 153, 3) := by decide +kernel
theorem dX2_firstSafeHour_31 : decode cX2_firstSafeHour 31 = .ok (.aload_n 0, 1) := by decide +kernel
theorem dX2_firstSafeHour_32 : decode cX2_firstSafeHour 32 = .ok (.getfield 9, 3) := by decide +kernel
theorem dX2_firstSafeHour_35 : decode cX2_firstSafeHour 35 = .ok (.iconst 1, 1) := by decide +kernel
theorem dX2_firstSafeHour_36 : decode cX2_firstSafeHour 36 = .ok (.iadd, 1) := by decide +kernel
theorem dX2_firstSafeHour_37 : decode cX2_firstSafeHour 37 = .ok (.istore 5, 2) := by decide +kernel
theorem dX2_firstSafeHour_39 : decode cX2_firstSafeHour 39 = .ok (.iload 5, 2) := by decide +kernel
theorem dX2_firstSafeHour_41 : decode cX2_firstSafeHour 41 = .ok (.aload_n 0, 1) := by decide +kernel
theorem dX2_firstSafeHour_42 : decode cX2_firstSafeHour 42 = .ok (.getfield 9, 3) := by decide +kernel
theorem dX2_firstSafeHour_45 : decode cX2_firstSafeHour 45 = .ok (.bipush 50, 2) := by decide +kernel
theorem dX2_firstSafeHour_47 : decode cX2_firstSafeHour 47 = .ok (.iadd, 1) := by decide +kernel
theorem dX2_firstSafeHour_48 : decode cX2_firstSafeHour 48 = .ok (.if_icmp .gt 32, 3) := by decide +kernel
theorem dX2_firstSafeHour_51 : decode cX2_firstSafeHour 51 = .ok (.aload_n 0, 1) := by decide +kernel
theorem dX2_firstSafeHour_52 : decode cX2_firstSafeHour 52 = .ok (.getfield 18, 3) := by decide +kernel
theorem dX2_firstSafeHour_55 : decode cX2_firstSafeHour 55 = .ok (.iload 4, 2) := by decide +kernel
theorem dX2_firstSafeHour_57 : decode cX2_firstSafeHour 57 = .ok (.aload_n 0, 1) := by decide +kernel
theorem dX2_firstSafeHour_58 : decode cX2_firstSafeHour 58 = .ok (.getfield 67, 3) := by decide +kernel
theorem dX2_firstSafeHour_61 : decode cX2_firstSafeHour 61 = .ok (.iload_n 2, 1) := by decide +kernel
theorem dX2_firstSafeHour_62 : decode cX2_firstSafeHour 62 = .ok (.iload 5, 2) := by decide +kernel
theorem dX2_firstSafeHour_64 : decode cX2_firstSafeHour 64 = .ok (.iload_n 3, 1) := by decide +kernel
theorem dX2_firstSafeHour_65 : decode cX2_firstSafeHour 65 = .ok (.invokevirtual 181, 3) := by decide +kernel
theorem dX2_firstSafeHour_68 : decode cX2_firstSafeHour 68 = .ok (.ifCond .eq 6, 3) := by decide +kernel
theorem dX2_firstSafeHour_71 : decode cX2_firstSafeHour 71 = .ok (.iload 5, 2) := by decide +kernel
theorem dX2_firstSafeHour_73 : decode cX2_firstSafeHour 73 = .ok (.ireturn, 1) := by decide +kernel
theorem dX2_firstSafeHour_74 : decode cX2_firstSafeHour 74 = .ok (.iinc 5 1, 3) := by decide +kernel
theorem dX2_firstSafeHour_77 : decode cX2_firstSafeHour 77 = .ok (.goto (-38), 3) := by decide +kernel
theorem dX2_firstSafeHour_80 : decode cX2_firstSafeHour 80 = .ok (.iconst (-1), 1) := by decide +kernel
theorem dX2_firstSafeHour_81 : decode cX2_firstSafeHour 81 = .ok (.ireturn, 1) := by decide +kernel
noncomputable def o_X2_firstSafeHour_39 (F : Nat) (τ : cT) (n : Nat) (b : Nat) (a1 : Nat) (l2 : Int32) (l3 : Int32) (l4 : Int32) (s : cS) : Nat → Int32 → Option ((Unit) ⊕ (Int32 × cS))
  | 0, _ => none
  | f + 1, l5 => if ((s.1 b 0) + (nI 50)) < l5 then (some (.inl ())) else ((o_X8_bears F τ n b (b + 168) s l4 l2 l5 l3).bind fun x7 => (if x7 = 0 then (o_X2_firstSafeHour_39 F τ n b a1 l2 l3 l4 s f (l5 + nI 1)) else (some (.inr (l5, s)))))
set_option maxHeartbeats 4000000 in
theorem t_X2_firstSafeHour_39 {Γ : jg_G} {g : Nat → jg_C} (F : Nat) (τ : cT) (n : Nat) (b : Nat) (a1 : Nat) (l2 : Int32) (l3 : Int32) (l4 : Int32) (s : cS) (hB : Bd τ n b) (h1 : Ob τ n a1 9) (Q : jg_Q) {x : (Unit) ⊕ (Int32 × cS)} (K1 : ∀ y, x = .inl y → jg Γ mX2_firstSafeHour 2 0 0 80 [none, none, none, none, none, none] [] (ct_h g τ s, n) Q) (K2 : ∀ z, x = .inr z → Q (.inl (some (.int z.1))) (ct_h g τ z.2, n)) : ∀ (f : Nat) (l5 : Int32), o_X2_firstSafeHour_39 F τ n b a1 l2 l3 l4 s f l5 = some x → jg Γ mX2_firstSafeHour 2 0 0 39 [some (.ref b), none, some (.int l2), some (.int l3), some (.int l4), some (.int l5)] [] (ct_h g τ s, n) Q := by
  intro f
  induction f with
  | zero => intro l5 h; rw [o_X2_firstSafeHour_39] at h; cases h
  | succ f ih =>
   intro l5 h
   rw [o_X2_firstSafeHour_39] at h
   refine jg_iload dX2_firstSafeHour_39 rfl ?_
   refine jg_aload_n dX2_firstSafeHour_41 rfl ?_
   refine cs_get (s := s) (w := .int (s.1 b 0)) fl_X2_9 dX2_firstSafeHour_42 hB.ob0 rfl ?_
   refine jg_bipush (v := nI 50) dX2_firstSafeHour_45 (by decide) ?_
   refine jg_iadd (x := (s.1 b 0)) (y := (nI 50)) dX2_firstSafeHour_47  ?_
   refine jg_icmp_gt (x := l5) (y := ((s.1 b 0) + (nI 50))) (tgt := 80) dX2_firstSafeHour_48 (by decide) (fun c6 => ?_) (fun c6 => ?_)
   · replace h := it_t c6 h
     refine jg_fg (L' := [none, none, none, none, none, none]) (by repeat (first | exact trivial | refine ⟨rfl, ?_⟩ | show jg_le _ _)) ?_
     obtain rfl := Option.some.inj h
     exact K1 _ rfl
   · replace h := it_f c6 h
     refine jg_aload_n dX2_firstSafeHour_51 rfl ?_
     refine cs_get (s := s) (w := .ref (b + 1)) fl_X2_18 dX2_firstSafeHour_52 hB.ob0 rfl ?_
     refine jg_iload dX2_firstSafeHour_55 rfl ?_
     refine jg_aload_n dX2_firstSafeHour_57 rfl ?_
     refine cs_get (s := s) (w := .ref (b + 168)) fl_X2_67 dX2_firstSafeHour_58 hB.ob0 rfl ?_
     refine jg_iload_n dX2_firstSafeHour_61 rfl ?_
     refine jg_iload dX2_firstSafeHour_62 rfl ?_
     refine jg_iload_n dX2_firstSafeHour_64 rfl ?_
     obtain ⟨x7, e_x7, h⟩ := bd_some h
     refine cs_call (q := (b + 1)) (As := [.int l4, .ref (b + 168), .int l2, .int l5, .int l3]) kv_X2_181 dX2_firstSafeHour_65 (hB.ob 1 (by decide) rfl) rfl rfl (by decide) (Nat.le_of_ble_eq_true rfl) rfl (by decide) (Nat.le_of_ble_eq_true rfl) (t_X8_bears F τ n b (b + 168) s l4 l2 l5 l3 hB (hB.ar 168 (by decide) rfl) e_x7) ?_
     refine jg_if_eq (x := x7) (tgt := 74) dX2_firstSafeHour_68 (by decide) (fun c8 => ?_) (fun c8 => ?_)
     · replace h := it_t c8 h
       refine jg_iinc (x := l5) (v := l5 + nI 1) (L' := [some (.ref b), none, some (.int l2), some (.int l3), some (.int l4), some (.int (l5 + nI 1))]) dX2_firstSafeHour_74 rfl (ic_k _ (by decide)) (by decide) rfl ?_
       refine jg_goto (tgt := 39) dX2_firstSafeHour_77 (by decide) ?_
       refine jg_fg (L' := [some (.ref b), none, some (.int l2), some (.int l3), some (.int l4), some (.int (l5 + nI 1))]) (by repeat (first | exact trivial | refine ⟨rfl, ?_⟩ | show jg_le _ _)) ?_
       exact ih (l5 + nI 1) h
     · replace h := it_f c8 h
       refine jg_iload dX2_firstSafeHour_71 rfl ?_
       obtain rfl := Option.some.inj h
       exact jg_ireturn dX2_firstSafeHour_73 rfl (K2 _ rfl)
noncomputable def o_X2_firstSafeHour (F : Nat) (τ : cT) (n : Nat) (b : Nat) (a1 : Nat) (s : cS) (a2 : Int32) (a3 : Int32) : Option (Int32 × cS) := if a3 = 0 then ((o_X2_actOfToday F τ n b s).bind fun x2 => (if acb τ n x2 = true then ((o_X0_lastNumber F τ n x2 s (nI 5) (nI 5)).bind fun x4 => ((o_X2_fillDepths F τ n b s).bind fun x5 => ((o_X2_firstSafeHour_39 F τ n b a1 a2 a3 ((s.1 a1 4) + x4) x5 F ((x5.1 b 0) + (nI 1))).bind fun x9 => (Sum.elim (fun y10 => some ((-1), x5)) (fun z11 => some z11) x9)))) else none)) else ((o_X2_actOfToday F τ n b s).bind fun x12 => (if acb τ n x12 = true then ((o_X0_lastNumber F τ n x12 s (nI 5) (nI 5)).bind fun x14 => ((o_X2_fillDepths F τ n b s).bind fun x15 => ((o_X2_firstSafeHour_39 F τ n b a1 a2 a3 ((s.1 a1 5) + x14) x15 F ((x15.1 b 0) + (nI 1))).bind fun x16 => (Sum.elim (fun y17 => some ((-1), x15)) (fun z18 => some z18) x16)))) else none))
set_option maxHeartbeats 4000000 in
theorem t_X2_firstSafeHour {Γ : jg_G} {g : Nat → jg_C} (F : Nat) (τ : cT) (n : Nat) (b : Nat) (a1 : Nat) (s : cS) (a2 : Int32) (a3 : Int32) (hB : Bd τ n b) (h1 : Ob τ n a1 9) {x : Int32 × cS} (h : o_X2_firstSafeHour F τ n b a1 s a2 a3 = some x) : jc Γ mX2_firstSafeHour 2 0 0 [some (.ref b), some (.ref a1), some (.int a2), some (.int a3), none, none] (ct_h g τ s, n) (.inl (some (.int x.1))) (ct_h g τ x.2, n) := by
  refine jc_of ?_
  rw [o_X2_firstSafeHour] at h
  refine jg_iload_n dX2_firstSafeHour_0 rfl ?_
  refine jg_if_eq (x := a3) (tgt := 11) dX2_firstSafeHour_1 (by decide) (fun c1 => ?_) (fun c1 => ?_)
  · replace h := it_t c1 h
    refine jg_aload_n dX2_firstSafeHour_11 rfl ?_
    refine cs_get (s := s) (w := .int (s.1 a1 4)) fl_X2_269 dX2_firstSafeHour_12 h1 rfl ?_
    refine jg_aload_n dX2_firstSafeHour_15 rfl ?_
    obtain ⟨x2, e_x2, h⟩ := bd_some h
    refine cs_call (q := b) (As := []) kv_X2_100 dX2_firstSafeHour_16 hB.ob0 rfl rfl (by decide) (Nat.le_of_ble_eq_true rfl) rfl (by decide) (Nat.le_of_ble_eq_true rfl) (t_X2_actOfToday F τ n b s hB e_x2) ?_
    obtain ⟨q3, h⟩ := gd_some h
    refine jg_iconst (v := nI 5) dX2_firstSafeHour_19 (by decide) ?_
    refine jg_iconst (v := nI 5) dX2_firstSafeHour_20 (by decide) ?_
    obtain ⟨x4, e_x4, h⟩ := bd_some h
    refine cs_call (q := x2) (As := [.int (nI 5), .int (nI 5)]) kv_X2_104 dX2_firstSafeHour_21 (acb_ob q3) rfl rfl (by decide) (Nat.le_of_ble_eq_true rfl) rfl (by decide) (Nat.le_of_ble_eq_true rfl) (t_X0_lastNumber F τ n x2 s (nI 5) (nI 5) q3 e_x4) ?_
    refine jg_iadd (x := (s.1 a1 4)) (y := x4) dX2_firstSafeHour_24  ?_
    refine jg_istore (L' := [some (.ref b), some (.ref a1), some (.int a2), some (.int a3), some (.int ((s.1 a1 4) + x4)), none]) dX2_firstSafeHour_25 (by decide) rfl ?_
    refine jg_aload_n dX2_firstSafeHour_27 rfl ?_
    obtain ⟨x5, e_x5, h⟩ := bd_some h
    refine cs_call (q := b) (As := []) kv_X2_153 dX2_firstSafeHour_28 hB.ob0 rfl rfl (by decide) (Nat.le_of_ble_eq_true rfl) rfl (by decide) (Nat.le_of_ble_eq_true rfl) (t_X2_fillDepths F τ n b s hB e_x5) ?_
    refine jg_aload_n dX2_firstSafeHour_31 rfl ?_
    refine cs_get (s := x5) (w := .int (x5.1 b 0)) fl_X2_9 dX2_firstSafeHour_32 hB.ob0 rfl ?_
    refine jg_iconst (v := nI 1) dX2_firstSafeHour_35 (by decide) ?_
    refine jg_iadd (x := (x5.1 b 0)) (y := (nI 1)) dX2_firstSafeHour_36  ?_
    refine jg_istore (L' := [some (.ref b), some (.ref a1), some (.int a2), some (.int a3), some (.int ((s.1 a1 4) + x4)), some (.int ((x5.1 b 0) + (nI 1)))]) dX2_firstSafeHour_37 (by decide) rfl ?_
    obtain ⟨x9, e_x9, h⟩ := bd_some h
    refine jg_fg (L' := [some (.ref b), none, some (.int a2), some (.int a3), some (.int ((s.1 a1 4) + x4)), some (.int ((x5.1 b 0) + (nI 1)))]) (by repeat (first | exact trivial | refine ⟨rfl, ?_⟩ | show jg_le _ _)) ?_
    refine t_X2_firstSafeHour_39  F τ n b a1 a2 a3 ((s.1 a1 4) + x4) x5 hB h1 _ (x := x9) ?_ ?_ F ((x5.1 b 0) + (nI 1)) e_x9
    · intro y10 ey; subst ey; replace h := se_l h
      refine jg_iconst (v := (-1)) dX2_firstSafeHour_80 (by decide) ?_
      obtain rfl := Option.some.inj h
      exact jg_ireturn dX2_firstSafeHour_81 rfl ⟨rfl, rfl⟩
    · intro z11 ez; subst ez; replace h := se_r h
      obtain rfl := Option.some.inj h
      exact ⟨rfl, rfl⟩
  · replace h := it_f c1 h
    refine jg_aload_n dX2_firstSafeHour_4 rfl ?_
    refine cs_get (s := s) (w := .int (s.1 a1 5)) fl_X2_178 dX2_firstSafeHour_5 h1 rfl ?_
    refine jg_goto (tgt := 15) dX2_firstSafeHour_8 (by decide) ?_
    refine jg_aload_n dX2_firstSafeHour_15 rfl ?_
    obtain ⟨x12, e_x12, h⟩ := bd_some h
    refine cs_call (q := b) (As := []) kv_X2_100 dX2_firstSafeHour_16 hB.ob0 rfl rfl (by decide) (Nat.le_of_ble_eq_true rfl) rfl (by decide) (Nat.le_of_ble_eq_true rfl) (t_X2_actOfToday F τ n b s hB e_x12) ?_
    obtain ⟨q13, h⟩ := gd_some h
    refine jg_iconst (v := nI 5) dX2_firstSafeHour_19 (by decide) ?_
    refine jg_iconst (v := nI 5) dX2_firstSafeHour_20 (by decide) ?_
    obtain ⟨x14, e_x14, h⟩ := bd_some h
    refine cs_call (q := x12) (As := [.int (nI 5), .int (nI 5)]) kv_X2_104 dX2_firstSafeHour_21 (acb_ob q13) rfl rfl (by decide) (Nat.le_of_ble_eq_true rfl) rfl (by decide) (Nat.le_of_ble_eq_true rfl) (t_X0_lastNumber F τ n x12 s (nI 5) (nI 5) q13 e_x14) ?_
    refine jg_iadd (x := (s.1 a1 5)) (y := x14) dX2_firstSafeHour_24  ?_
    refine jg_istore (L' := [some (.ref b), some (.ref a1), some (.int a2), some (.int a3), some (.int ((s.1 a1 5) + x14)), none]) dX2_firstSafeHour_25 (by decide) rfl ?_
    refine jg_aload_n dX2_firstSafeHour_27 rfl ?_
    obtain ⟨x15, e_x15, h⟩ := bd_some h
    refine cs_call (q := b) (As := []) kv_X2_153 dX2_firstSafeHour_28 hB.ob0 rfl rfl (by decide) (Nat.le_of_ble_eq_true rfl) rfl (by decide) (Nat.le_of_ble_eq_true rfl) (t_X2_fillDepths F τ n b s hB e_x15) ?_
    refine jg_aload_n dX2_firstSafeHour_31 rfl ?_
    refine cs_get (s := x15) (w := .int (x15.1 b 0)) fl_X2_9 dX2_firstSafeHour_32 hB.ob0 rfl ?_
    refine jg_iconst (v := nI 1) dX2_firstSafeHour_35 (by decide) ?_
    refine jg_iadd (x := (x15.1 b 0)) (y := (nI 1)) dX2_firstSafeHour_36  ?_
    refine jg_istore (L' := [some (.ref b), some (.ref a1), some (.int a2), some (.int a3), some (.int ((s.1 a1 5) + x14)), some (.int ((x15.1 b 0) + (nI 1)))]) dX2_firstSafeHour_37 (by decide) rfl ?_
    obtain ⟨x16, e_x16, h⟩ := bd_some h
    refine jg_fg (L' := [some (.ref b), none, some (.int a2), some (.int a3), some (.int ((s.1 a1 5) + x14)), some (.int ((x15.1 b 0) + (nI 1)))]) (by repeat (first | exact trivial | refine ⟨rfl, ?_⟩ | show jg_le _ _)) ?_
    refine t_X2_firstSafeHour_39  F τ n b a1 a2 a3 ((s.1 a1 5) + x14) x15 hB h1 _ (x := x16) ?_ ?_ F ((x15.1 b 0) + (nI 1)) e_x16
    · intro y17 ey; subst ey; replace h := se_l h
      refine jg_iconst (v := (-1)) dX2_firstSafeHour_80 (by decide) ?_
      obtain rfl := Option.some.inj h
      exact jg_ireturn dX2_firstSafeHour_81 rfl ⟨rfl, rfl⟩
    · intro z18 ez; subst ez; replace h := se_r h
      obtain rfl := Option.some.inj h
      exact ⟨rfl, rfl⟩
theorem dX7_isLetter_0 : decode cX7_isLetter 0 = .ok (.iload_n 0, 1) := by decide +kernel
theorem dX7_isLetter_1 : decode cX7_isLetter 1 = .ok (.bipush 97, 2) := by decide +kernel
theorem dX7_isLetter_3 : decode cX7_isLetter 3 = .ok (.if_icmp .lt 13, 3) := by decide +kernel
theorem dX7_isLetter_6 : decode cX7_isLetter 6 = .ok (.iload_n 0, 1) := by decide +kernel
theorem dX7_isLetter_7 : decode cX7_isLetter 7 = .ok (.bipush 122, 2) := by decide +kernel
theorem dX7_isLetter_9 : decode cX7_isLetter 9 = .ok (.if_icmp .gt 7, 3) := by decide +kernel
theorem dX7_isLetter_12 : decode cX7_isLetter 12 = .ok (.iconst 1, 1) := by decide +kernel
theorem dX7_isLetter_13 : decode cX7_isLetter 13 = .ok (.goto 4, 3) := by decide +kernel
theorem dX7_isLetter_16 : decode cX7_isLetter 16 = .ok (.iconst 0, 1) := by decide +kernel
theorem dX7_isLetter_17 : decode cX7_isLetter 17 = .ok (.ireturn, 1) := by decide +kernel
noncomputable def o_X7_isLetter (τ : cT) (n : Nat) (s : cS) (a1 : Int32) : Option (Int32) := if a1 < (nI 97) then (some (nI 0)) else (if (nI 122) < a1 then (some (nI 0)) else (some (nI 1)))
set_option maxHeartbeats 4000000 in
theorem t_X7_isLetter {Γ : jg_G} {g : Nat → jg_C} (τ : cT) (n : Nat) (s : cS) (a1 : Int32)  {x : Int32} (h : o_X7_isLetter τ n s a1 = some x) : jc Γ mX7_isLetter 0 0 0 [some (.int a1)] (ct_h g τ s, n) (.inl (some (.int x))) (ct_h g τ s, n) := by
  refine jc_of ?_
  rw [o_X7_isLetter] at h
  refine jg_iload_n dX7_isLetter_0 rfl ?_
  refine jg_bipush (v := nI 97) dX7_isLetter_1 (by decide) ?_
  refine jg_icmp_lt (x := a1) (y := (nI 97)) (tgt := 16) dX7_isLetter_3 (by decide) (fun c1 => ?_) (fun c1 => ?_)
  · replace h := it_t c1 h
    refine jg_iconst (v := nI 0) dX7_isLetter_16 (by decide) ?_
    obtain rfl := Option.some.inj h
    exact jg_zreturn dX7_isLetter_17 rfl (rfl) ⟨rfl, rfl⟩
  · replace h := it_f c1 h
    refine jg_iload_n dX7_isLetter_6 rfl ?_
    refine jg_bipush (v := nI 122) dX7_isLetter_7 (by decide) ?_
    refine jg_icmp_gt (x := a1) (y := (nI 122)) (tgt := 16) dX7_isLetter_9 (by decide) (fun c2 => ?_) (fun c2 => ?_)
    · replace h := it_t c2 h
      refine jg_iconst (v := nI 0) dX7_isLetter_16 (by decide) ?_
      obtain rfl := Option.some.inj h
      exact jg_zreturn dX7_isLetter_17 rfl (rfl) ⟨rfl, rfl⟩
    · replace h := it_f c2 h
      refine jg_iconst (v := nI 1) dX7_isLetter_12 (by decide) ?_
      refine jg_goto (tgt := 17) dX7_isLetter_13 (by decide) ?_
      obtain rfl := Option.some.inj h
      exact jg_zreturn dX7_isLetter_17 rfl (rfl) ⟨rfl, rfl⟩
theorem dX7_isDigit_0 : decode cX7_isDigit 0 = .ok (.iload_n 0, 1) := by decide +kernel
theorem dX7_isDigit_1 : decode cX7_isDigit 1 = .ok (.bipush 48, 2) := by decide +kernel
theorem dX7_isDigit_3 : decode cX7_isDigit 3 = .ok (.if_icmp .lt 13, 3) := by decide +kernel
theorem dX7_isDigit_6 : decode cX7_isDigit 6 = .ok (.iload_n 0, 1) := by decide +kernel
theorem dX7_isDigit_7 : decode cX7_isDigit 7 = .ok (.bipush 57, 2) := by decide +kernel
theorem dX7_isDigit_9 : decode cX7_isDigit 9 = .ok (.if_icmp .gt 7, 3) := by decide +kernel
theorem dX7_isDigit_12 : decode cX7_isDigit 12 = .ok (.iconst 1, 1) := by decide +kernel
theorem dX7_isDigit_13 : decode cX7_isDigit 13 = .ok (.goto 4, 3) := by decide +kernel
theorem dX7_isDigit_16 : decode cX7_isDigit 16 = .ok (.iconst 0, 1) := by decide +kernel
theorem dX7_isDigit_17 : decode cX7_isDigit 17 = .ok (.ireturn, 1) := by decide +kernel
noncomputable def o_X7_isDigit (τ : cT) (n : Nat) (s : cS) (a1 : Int32) : Option (Int32) := if a1 < (nI 48) then (some (nI 0)) else (if (nI 57) < a1 then (some (nI 0)) else (some (nI 1)))
set_option maxHeartbeats 4000000 in
theorem t_X7_isDigit {Γ : jg_G} {g : Nat → jg_C} (τ : cT) (n : Nat) (s : cS) (a1 : Int32)  {x : Int32} (h : o_X7_isDigit τ n s a1 = some x) : jc Γ mX7_isDigit 0 0 0 [some (.int a1)] (ct_h g τ s, n) (.inl (some (.int x))) (ct_h g τ s, n) := by
  refine jc_of ?_
  rw [o_X7_isDigit] at h
  refine jg_iload_n dX7_isDigit_0 rfl ?_
  refine jg_bipush (v := nI 48) dX7_isDigit_1 (by decide) ?_
  refine jg_icmp_lt (x := a1) (y := (nI 48)) (tgt := 16) dX7_isDigit_3 (by decide) (fun c1 => ?_) (fun c1 => ?_)
  · replace h := it_t c1 h
    refine jg_iconst (v := nI 0) dX7_isDigit_16 (by decide) ?_
    obtain rfl := Option.some.inj h
    exact jg_zreturn dX7_isDigit_17 rfl (rfl) ⟨rfl, rfl⟩
  · replace h := it_f c1 h
    refine jg_iload_n dX7_isDigit_6 rfl ?_
    refine jg_bipush (v := nI 57) dX7_isDigit_7 (by decide) ?_
    refine jg_icmp_gt (x := a1) (y := (nI 57)) (tgt := 16) dX7_isDigit_9 (by decide) (fun c2 => ?_) (fun c2 => ?_)
    · replace h := it_t c2 h
      refine jg_iconst (v := nI 0) dX7_isDigit_16 (by decide) ?_
      obtain rfl := Option.some.inj h
      exact jg_zreturn dX7_isDigit_17 rfl (rfl) ⟨rfl, rfl⟩
    · replace h := it_f c2 h
      refine jg_iconst (v := nI 1) dX7_isDigit_12 (by decide) ?_
      refine jg_goto (tgt := 17) dX7_isDigit_13 (by decide) ?_
      obtain rfl := Option.some.inj h
      exact jg_zreturn dX7_isDigit_17 rfl (rfl) ⟨rfl, rfl⟩
theorem dX7_goesOn_0 : decode cX7_goesOn 0 = .ok (.iload_n 0, 1) := by decide +kernel
theorem dX7_goesOn_1 : decode cX7_goesOn 1 = .ok (.invokestatic 90, 3) := by decide +kernel
theorem dX7_goesOn_4 : decode cX7_goesOn 4 = .ok (.ifCond .eq 10, 3) := by decide +kernel
theorem dX7_goesOn_7 : decode cX7_goesOn 7 = .ok (.iload_n 1, 1) := by decide +kernel
theorem dX7_goesOn_8 : decode cX7_goesOn 8 = .ok (.invokestatic 90, 3) := by decide +kernel
theorem dX7_goesOn_11 : decode cX7_goesOn 11 = .ok (.ifCond .ne 17, 3) := by decide +kernel
theorem dX7_goesOn_14 : decode cX7_goesOn 14 = .ok (.iload_n 0, 1) := by decide +kernel
theorem dX7_goesOn_15 : decode cX7_goesOn 15 = .ok (.invokestatic 94, 3) := by decide +kernel
theorem dX7_goesOn_18 : decode cX7_goesOn 18 = .ok (.ifCond .eq 14, 3) := by decide +kernel
theorem dX7_goesOn_21 : decode cX7_goesOn 21 = .ok (.iload_n 1, 1) := by decide +kernel
theorem dX7_goesOn_22 : decode cX7_goesOn 22 = .ok (.invokestatic 94, 3) := by decide +kernel
theorem dX7_goesOn_25 : decode cX7_goesOn 25 = .ok (.ifCond .eq 7, 3) := by decide +kernel
theorem dX7_goesOn_28 : decode cX7_goesOn 28 = .ok (.iconst 1, 1) := by decide +kernel
theorem dX7_goesOn_29 : decode cX7_goesOn 29 = .ok (.goto 4, 3) := by decide +kernel
theorem dX7_goesOn_32 : decode cX7_goesOn 32 = .ok (.iconst 0, 1) := by decide +kernel
theorem dX7_goesOn_33 : decode cX7_goesOn 33 = .ok (.ireturn, 1) := by decide +kernel
noncomputable def o_X7_goesOn (τ : cT) (n : Nat) (s : cS) (a1 : Int32) (a2 : Int32) : Option (Int32) := (o_X7_isLetter τ n s a1).bind fun x1 => (if x1 = 0 then ((o_X7_isDigit τ n s a1).bind fun x3 => (if x3 = 0 then (some (nI 0)) else ((o_X7_isDigit τ n s a2).bind fun x5 => (if x5 = 0 then (some (nI 0)) else (some (nI 1)))))) else ((o_X7_isLetter τ n s a2).bind fun x7 => (if x7 = 0 then ((o_X7_isDigit τ n s a1).bind fun x9 => (if x9 = 0 then (some (nI 0)) else ((o_X7_isDigit τ n s a2).bind fun x11 => (if x11 = 0 then (some (nI 0)) else (some (nI 1)))))) else (some (nI 1)))))
set_option maxHeartbeats 4000000 in
theorem t_X7_goesOn {Γ : jg_G} {g : Nat → jg_C} (τ : cT) (n : Nat) (s : cS) (a1 : Int32) (a2 : Int32)  {x : Int32} (h : o_X7_goesOn τ n s a1 a2 = some x) : jc Γ mX7_goesOn 1 0 0 [some (.int a1), some (.int a2)] (ct_h g τ s, n) (.inl (some (.int x))) (ct_h g τ s, n) := by
  refine jc_of ?_
  rw [o_X7_goesOn] at h
  refine jg_iload_n dX7_goesOn_0 rfl ?_
  obtain ⟨x1, e_x1, h⟩ := bd_some h
  refine cs_callS (As := [.int a1]) ks_X7_90 dX7_goesOn_1 rfl (by decide) (Nat.le_of_ble_eq_true rfl) rfl (by decide) (Nat.le_of_ble_eq_true rfl) (t_X7_isLetter τ n s a1 e_x1) ?_
  refine jg_if_eq (x := x1) (tgt := 14) dX7_goesOn_4 (by decide) (fun c2 => ?_) (fun c2 => ?_)
  · replace h := it_t c2 h
    refine jg_iload_n dX7_goesOn_14 rfl ?_
    obtain ⟨x3, e_x3, h⟩ := bd_some h
    refine cs_callS (As := [.int a1]) ks_X7_94 dX7_goesOn_15 rfl (by decide) (Nat.le_of_ble_eq_true rfl) rfl (by decide) (Nat.le_of_ble_eq_true rfl) (t_X7_isDigit τ n s a1 e_x3) ?_
    refine jg_if_eq (x := x3) (tgt := 32) dX7_goesOn_18 (by decide) (fun c4 => ?_) (fun c4 => ?_)
    · replace h := it_t c4 h
      refine jg_iconst (v := nI 0) dX7_goesOn_32 (by decide) ?_
      obtain rfl := Option.some.inj h
      exact jg_zreturn dX7_goesOn_33 rfl (rfl) ⟨rfl, rfl⟩
    · replace h := it_f c4 h
      refine jg_iload_n dX7_goesOn_21 rfl ?_
      obtain ⟨x5, e_x5, h⟩ := bd_some h
      refine cs_callS (As := [.int a2]) ks_X7_94 dX7_goesOn_22 rfl (by decide) (Nat.le_of_ble_eq_true rfl) rfl (by decide) (Nat.le_of_ble_eq_true rfl) (t_X7_isDigit τ n s a2 e_x5) ?_
      refine jg_if_eq (x := x5) (tgt := 32) dX7_goesOn_25 (by decide) (fun c6 => ?_) (fun c6 => ?_)
      · replace h := it_t c6 h
        refine jg_iconst (v := nI 0) dX7_goesOn_32 (by decide) ?_
        obtain rfl := Option.some.inj h
        exact jg_zreturn dX7_goesOn_33 rfl (rfl) ⟨rfl, rfl⟩
      · replace h := it_f c6 h
        refine jg_iconst (v := nI 1) dX7_goesOn_28 (by decide) ?_
        refine jg_goto (tgt := 33) dX7_goesOn_29 (by decide) ?_
        obtain rfl := Option.some.inj h
        exact jg_zreturn dX7_goesOn_33 rfl (rfl) ⟨rfl, rfl⟩
  · replace h := it_f c2 h
    refine jg_iload_n dX7_goesOn_7 rfl ?_
    obtain ⟨x7, e_x7, h⟩ := bd_some h
    refine cs_callS (As := [.int a2]) ks_X7_90 dX7_goesOn_8 rfl (by decide) (Nat.le_of_ble_eq_true rfl) rfl (by decide) (Nat.le_of_ble_eq_true rfl) (t_X7_isLetter τ n s a2 e_x7) ?_
    refine jg_if_ne (x := x7) (tgt := 28) dX7_goesOn_11 (by decide) (fun c8 => ?_) (fun c8 => ?_)
    · replace h := it_f c8 h
      refine jg_iconst (v := nI 1) dX7_goesOn_28 (by decide) ?_
      refine jg_goto (tgt := 33) dX7_goesOn_29 (by decide) ?_
      obtain rfl := Option.some.inj h
      exact jg_zreturn dX7_goesOn_33 rfl (rfl) ⟨rfl, rfl⟩
    · replace h := it_t c8 h
      refine jg_iload_n dX7_goesOn_14 rfl ?_
      obtain ⟨x9, e_x9, h⟩ := bd_some h
      refine cs_callS (As := [.int a1]) ks_X7_94 dX7_goesOn_15 rfl (by decide) (Nat.le_of_ble_eq_true rfl) rfl (by decide) (Nat.le_of_ble_eq_true rfl) (t_X7_isDigit τ n s a1 e_x9) ?_
      refine jg_if_eq (x := x9) (tgt := 32) dX7_goesOn_18 (by decide) (fun c10 => ?_) (fun c10 => ?_)
      · replace h := it_t c10 h
        refine jg_iconst (v := nI 0) dX7_goesOn_32 (by decide) ?_
        obtain rfl := Option.some.inj h
        exact jg_zreturn dX7_goesOn_33 rfl (rfl) ⟨rfl, rfl⟩
      · replace h := it_f c10 h
        refine jg_iload_n dX7_goesOn_21 rfl ?_
        obtain ⟨x11, e_x11, h⟩ := bd_some h
        refine cs_callS (As := [.int a2]) ks_X7_94 dX7_goesOn_22 rfl (by decide) (Nat.le_of_ble_eq_true rfl) rfl (by decide) (Nat.le_of_ble_eq_true rfl) (t_X7_isDigit τ n s a2 e_x11) ?_
        refine jg_if_eq (x := x11) (tgt := 32) dX7_goesOn_25 (by decide) (fun c12 => ?_) (fun c12 => ?_)
        · replace h := it_t c12 h
          refine jg_iconst (v := nI 0) dX7_goesOn_32 (by decide) ?_
          obtain rfl := Option.some.inj h
          exact jg_zreturn dX7_goesOn_33 rfl (rfl) ⟨rfl, rfl⟩
        · replace h := it_f c12 h
          refine jg_iconst (v := nI 1) dX7_goesOn_28 (by decide) ?_
          refine jg_goto (tgt := 33) dX7_goesOn_29 (by decide) ?_
          obtain rfl := Option.some.inj h
          exact jg_zreturn dX7_goesOn_33 rfl (rfl) ⟨rfl, rfl⟩
theorem dX7_placeOf_0 : decode cX7_placeOf 0 = .ok (.iload_n 3, 1) := by decide +kernel
theorem dX7_placeOf_1 : decode cX7_placeOf 1 = .ok (.iload_n 2, 1) := by decide +kernel
theorem dX7_placeOf_2 : decode cX7_placeOf 2 = .ok (.isub, 1) := by decide +kernel
theorem dX7_placeOf_3 : decode cX7_placeOf 3 = .ok (.istore 4, 2) := by decide +kernel
theorem dX7_placeOf_5 : decode cX7_placeOf 5 = .ok (.iload 4, 2) := by decide +kernel
theorem dX7_placeOf_7 : decode cX7_placeOf 7 = .ok (.bipush 8, 2) := by decide +kernel
theorem dX7_placeOf_9 : decode cX7_placeOf 9 = .ok (.if_icmp .lt 5, 3) := by decide +kernel
theorem dX7_placeOf_12 : decode cX7_placeOf 12 = .ok (.iconst (-1), 1) := by decide +kernel
theorem dX7_placeOf_13 : decode cX7_placeOf 13 = .ok (.ireturn, 1) := by decide +kernel
theorem dX7_placeOf_14 : decode cX7_placeOf 14 = .ok (.iconst 0, 1) := by decide +kernel
theorem dX7_placeOf_15 : decode cX7_placeOf 15 = .ok (.istore 5, 2) := by decide +kernel
theorem dX7_placeOf_17 : decode cX7_placeOf 17 = .ok (.iload 5, 2) := by decide +kernel
theorem dX7_placeOf_19 : decode cX7_placeOf 19 = .ok (.bipush 8, 2) := by decide +kernel
theorem dX7_placeOf_21 : decode cX7_placeOf 21 = .ok (.iadd, 1) := by decide +kernel
theorem dX7_placeOf_22 : decode cX7_placeOf 22 = .ok (.aload_n 0, 1) := by decide +kernel
theorem dX7_placeOf_23 : decode cX7_placeOf 23 = .ok (.invokevirtual 113, 3) := by decide +kernel
theorem dX7_placeOf_26 : decode cX7_placeOf 26 = .ok (.if_icmp .gt 70, 3) := by decide +kernel
theorem dX7_placeOf_29 : decode cX7_placeOf 29 = .ok (.iconst 0, 1) := by decide +kernel
theorem dX7_placeOf_30 : decode cX7_placeOf 30 = .ok (.istore 6, 2) := by decide +kernel
theorem dX7_placeOf_32 : decode cX7_placeOf 32 = .ok (.iload 6, 2) := by decide +kernel
theorem dX7_placeOf_34 : decode cX7_placeOf 34 = .ok (.iload 4, 2) := by decide +kernel
theorem dX7_placeOf_36 : decode cX7_placeOf 36 = .ok (.if_icmp .ge 27, 3) := by decide +kernel
theorem dX7_placeOf_39 : decode cX7_placeOf 39 = .ok (.aload_n 0, 1) := by decide +kernel
theorem dX7_placeOf_40 : decode cX7_placeOf 40 = .ok (.iload 5, 2) := by decide +kernel
theorem dX7_placeOf_42 : decode cX7_placeOf 42 = .ok (.iload 6, 2) := by decide +kernel
theorem dX7_placeOf_44 : decode cX7_placeOf 44 = .ok (.iadd, 1) := by decide +kernel
theorem dX7_placeOf_45 : decode cX7_placeOf 45 = .ok (.invokevirtual 118, 3) := by decide +kernel
theorem dX7_placeOf_48 : decode cX7_placeOf 48 = .ok (.aload_n 1, 1) := by decide +kernel
theorem dX7_placeOf_49 : decode cX7_placeOf 49 = .ok (.iload_n 2, 1) := by decide +kernel
theorem dX7_placeOf_50 : decode cX7_placeOf 50 = .ok (.iload 6, 2) := by decide +kernel
theorem dX7_placeOf_52 : decode cX7_placeOf 52 = .ok (.iadd, 1) := by decide +kernel
theorem dX7_placeOf_53 : decode cX7_placeOf 53 = .ok (.baload, 1) := by decide +kernel
theorem dX7_placeOf_54 : decode cX7_placeOf 54 = .ok (.if_icmp .ne 9, 3) := by decide +kernel
theorem dX7_placeOf_57 : decode cX7_placeOf 57 = .ok (.iinc 6 1, 3) := by decide +kernel
theorem dX7_placeOf_60 : decode cX7_placeOf 60 = .ok (.goto (-28), 3) := by decide +kernel
theorem dX7_placeOf_63 : decode cX7_placeOf 63 = .ok (.iload 6, 2) := by decide +kernel
theorem dX7_placeOf_65 : decode cX7_placeOf 65 = .ok (.iload 4, 2) := by decide +kernel
theorem dX7_placeOf_67 : decode cX7_placeOf 67 = .ok (.if_icmp .ne 23, 3) := by decide +kernel
theorem dX7_placeOf_70 : decode cX7_placeOf 70 = .ok (.aload_n 0, 1) := by decide +kernel
theorem dX7_placeOf_71 : decode cX7_placeOf 71 = .ok (.iload 5, 2) := by decide +kernel
theorem dX7_placeOf_73 : decode cX7_placeOf 73 = .ok (.iload 4, 2) := by decide +kernel
theorem dX7_placeOf_75 : decode cX7_placeOf 75 = .ok (.iadd, 1) := by decide +kernel
theorem dX7_placeOf_76 : decode cX7_placeOf 76 = .ok (.invokevirtual 118, 3) := by decide +kernel
theorem dX7_placeOf_79 : decode cX7_placeOf 79 = .ok (.bipush 32, 2) := by decide +kernel
theorem dX7_placeOf_81 : decode cX7_placeOf 81 = .ok (.if_icmp .ne 9, 3) := by decide +kernel
theorem dX7_placeOf_84 : decode cX7_placeOf 84 = .ok (.iload 5, 2) := by decide +kernel
theorem dX7_placeOf_86 : decode cX7_placeOf 86 = .ok (.bipush 8, 2) := by decide +kernel
theorem dX7_placeOf_88 : decode cX7_placeOf 88 = .ok (.idiv, 1) := by decide +kernel
theorem dX7_placeOf_89 : decode cX7_placeOf 89 = .ok (.ireturn, 1) := by decide +kernel
theorem dX7_placeOf_90 : decode cX7_placeOf 90 = .ok (.iinc 5 8, 3) := by decide +kernel
theorem dX7_placeOf_93 : decode cX7_placeOf 93 = .ok (.goto (-76), 3) := by decide +kernel
theorem dX7_placeOf_96 : decode cX7_placeOf 96 = .ok (.iconst (-1), 1) := by decide +kernel
theorem dX7_placeOf_97 : decode cX7_placeOf 97 = .ok (.ireturn, 1) := by decide +kernel
noncomputable def o_X7_placeOf_32 (F : Nat) (τ : cT) (n : Nat) (a1 : Nat) (a2 : Nat) (l2 : Int32) (l4 : Int32) (l5 : Int32) (s : cS) : Nat → Int32 → Option (Int32)
  | 0, _ => none
  | f + 1, l6 => if l4 ≤ l6 then (some l6) else (if a1 < 41 then (if iL (l5 + l6) (sl a1) then (if iL (l2 + l6) 400 then (if (sch a1 (l5 + l6).toNatClampNeg) = (cg s a2 (l2 + l6)) then (o_X7_placeOf_32 F τ n a1 a2 l2 l4 l5 s f (l6 + nI 1)) else (some l6)) else none) else none) else none)
set_option maxHeartbeats 4000000 in
theorem t_X7_placeOf_32 {Γ : jg_G} {g : Nat → jg_C} (F : Nat) (τ : cT) (n : Nat) (a1 : Nat) (a2 : Nat) (l2 : Int32) (l4 : Int32) (l5 : Int32) (s : cS) (h2 : Ar τ n a2 1 400) (Q : jg_Q) {x : Int32} (K1 : jg Γ mX7_placeOf 4 0 0 63 [some (.ref (1000000 + a1)), some (.ref a2), some (.int l2), none, some (.int l4), some (.int l5), some (.int x)] [] (ct_h g τ s, n) Q)  : ∀ (f : Nat) (l6 : Int32), o_X7_placeOf_32 F τ n a1 a2 l2 l4 l5 s f l6 = some x → jg Γ mX7_placeOf 4 0 0 32 [some (.ref (1000000 + a1)), some (.ref a2), some (.int l2), none, some (.int l4), some (.int l5), some (.int l6)] [] (ct_h g τ s, n) Q := by
  intro f
  induction f with
  | zero => intro l6 h; rw [o_X7_placeOf_32] at h; cases h
  | succ f ih =>
   intro l6 h
   rw [o_X7_placeOf_32] at h
   refine jg_iload dX7_placeOf_32 rfl ?_
   refine jg_iload dX7_placeOf_34 rfl ?_
   refine jg_icmp_ge (x := l6) (y := l4) (tgt := 63) dX7_placeOf_36 (by decide) (fun c4 => ?_) (fun c4 => ?_)
   · replace h := it_t c4 h
     refine jg_fg (L' := [some (.ref (1000000 + a1)), some (.ref a2), some (.int l2), none, some (.int l4), some (.int l5), some (.int l6)]) (by repeat (first | exact trivial | refine ⟨rfl, ?_⟩ | show jg_le _ _)) ?_
     obtain rfl := Option.some.inj h
     exact K1
   · replace h := it_f c4 h
     refine jg_aload_n dX7_placeOf_39 rfl ?_
     refine jg_iload dX7_placeOf_40 rfl ?_
     refine jg_iload dX7_placeOf_42 rfl ?_
     refine jg_iadd (x := l5) (y := l6) dX7_placeOf_44  ?_
     obtain ⟨q5, h⟩ := gd_some h
     obtain ⟨q6, h⟩ := gd_some h
     refine jc_T (i := a1) (As := [.int (l5 + l6)]) q5 rfl kv_X7_118 dX7_placeOf_45 rfl (by decide) (Nat.le_of_ble_eq_true rfl) rfl (by decide) (Nat.le_of_ble_eq_true rfl) (t_J0_charAt q5 q6) ?_
     refine jg_aload_n dX7_placeOf_48 rfl ?_
     refine jg_iload_n dX7_placeOf_49 rfl ?_
     refine jg_iload dX7_placeOf_50 rfl ?_
     refine jg_iadd (x := l2) (y := l6) dX7_placeOf_52  ?_
     obtain ⟨q7, h⟩ := gd_some h
     refine cs_ldb (s := s) (q := a2) (i := (l2 + l6)) dX7_placeOf_53 h2 q7 ?_
     refine jg_icmp_ne (x := (sch a1 (l5 + l6).toNatClampNeg)) (y := (cg s a2 (l2 + l6))) (tgt := 63) dX7_placeOf_54 (by decide) (fun c8 => ?_) (fun c8 => ?_)
     · replace h := it_f c8 h
       refine jg_fg (L' := [some (.ref (1000000 + a1)), some (.ref a2), some (.int l2), none, some (.int l4), some (.int l5), some (.int l6)]) (by repeat (first | exact trivial | refine ⟨rfl, ?_⟩ | show jg_le _ _)) ?_
       obtain rfl := Option.some.inj h
       exact K1
     · replace h := it_t c8 h
       refine jg_iinc (x := l6) (v := l6 + nI 1) (L' := [some (.ref (1000000 + a1)), some (.ref a2), some (.int l2), none, some (.int l4), some (.int l5), some (.int (l6 + nI 1))]) dX7_placeOf_57 rfl (ic_k _ (by decide)) (by decide) rfl ?_
       refine jg_goto (tgt := 32) dX7_placeOf_60 (by decide) ?_
       refine jg_fg (L' := [some (.ref (1000000 + a1)), some (.ref a2), some (.int l2), none, some (.int l4), some (.int l5), some (.int (l6 + nI 1))]) (by repeat (first | exact trivial | refine ⟨rfl, ?_⟩ | show jg_le _ _)) ?_
       exact ih (l6 + nI 1) h
noncomputable def o_X7_placeOf_17 (F : Nat) (τ : cT) (n : Nat) (a1 : Nat) (a2 : Nat) (l2 : Int32) (l4 : Int32) (s : cS) : Nat → Int32 → Option ((Unit) ⊕ (Int32))
  | 0, _ => none
  | f + 1, l5 => if a1 < 41 then (if (nI (sl a1)) < (l5 + (nI 8)) then (some (.inl ())) else ((o_X7_placeOf_32 F τ n a1 a2 l2 l4 l5 s F (nI 0)).bind fun x9 => (if x9 = l4 then (if iL (l5 + l4) (sl a1) then (if (sch a1 (l5 + l4).toNatClampNeg) = (nI 32) then (some (.inr (l5 / (nI 8)))) else (o_X7_placeOf_17 F τ n a1 a2 l2 l4 s f (l5 + nI 8))) else none) else (o_X7_placeOf_17 F τ n a1 a2 l2 l4 s f (l5 + nI 8))))) else none
set_option maxHeartbeats 4000000 in
theorem t_X7_placeOf_17 {Γ : jg_G} {g : Nat → jg_C} (F : Nat) (τ : cT) (n : Nat) (a1 : Nat) (a2 : Nat) (l2 : Int32) (l4 : Int32) (s : cS) (h2 : Ar τ n a2 1 400) (Q : jg_Q) {x : (Unit) ⊕ (Int32)} (K1 : ∀ y, x = .inl y → jg Γ mX7_placeOf 4 0 0 96 [none, none, none, none, none, none, none] [] (ct_h g τ s, n) Q) (K2 : ∀ z, x = .inr z → Q (.inl (some (.int z))) (ct_h g τ s, n)) : ∀ (f : Nat) (l5 : Int32), o_X7_placeOf_17 F τ n a1 a2 l2 l4 s f l5 = some x → jg Γ mX7_placeOf 4 0 0 17 [some (.ref (1000000 + a1)), some (.ref a2), some (.int l2), none, some (.int l4), some (.int l5), none] [] (ct_h g τ s, n) Q := by
  intro f
  induction f with
  | zero => intro l5 h; rw [o_X7_placeOf_17] at h; cases h
  | succ f ih =>
   intro l5 h
   rw [o_X7_placeOf_17] at h
   refine jg_iload dX7_placeOf_17 rfl ?_
   refine jg_bipush (v := nI 8) dX7_placeOf_19 (by decide) ?_
   refine jg_iadd (x := l5) (y := (nI 8)) dX7_placeOf_21  ?_
   refine jg_aload_n dX7_placeOf_22 rfl ?_
   obtain ⟨q2, h⟩ := gd_some h
   refine jc_T (i := a1) (As := []) q2 rfl kv_X7_113 dX7_placeOf_23 rfl (by decide) (Nat.le_of_ble_eq_true rfl) rfl (by decide) (Nat.le_of_ble_eq_true rfl) (t_J0_length q2) ?_
   refine jg_icmp_gt (x := (l5 + (nI 8))) (y := (nI (sl a1))) (tgt := 96) dX7_placeOf_26 (by decide) (fun c3 => ?_) (fun c3 => ?_)
   · replace h := it_t c3 h
     refine jg_fg (L' := [none, none, none, none, none, none, none]) (by repeat (first | exact trivial | refine ⟨rfl, ?_⟩ | show jg_le _ _)) ?_
     obtain rfl := Option.some.inj h
     exact K1 _ rfl
   · replace h := it_f c3 h
     refine jg_iconst (v := nI 0) dX7_placeOf_29 (by decide) ?_
     refine jg_istore (L' := [some (.ref (1000000 + a1)), some (.ref a2), some (.int l2), none, some (.int l4), some (.int l5), some (.int (nI 0))]) dX7_placeOf_30 (by decide) rfl ?_
     obtain ⟨x9, e_x9, h⟩ := bd_some h
     refine jg_fg (L' := [some (.ref (1000000 + a1)), some (.ref a2), some (.int l2), none, some (.int l4), some (.int l5), some (.int (nI 0))]) (by repeat (first | exact trivial | refine ⟨rfl, ?_⟩ | show jg_le _ _)) ?_
     refine t_X7_placeOf_32  F τ n a1 a2 l2 l4 l5 s h2 _ (x := x9) ?_ F (nI 0) e_x9
     refine jg_iload dX7_placeOf_63 rfl ?_
     refine jg_iload dX7_placeOf_65 rfl ?_
     refine jg_icmp_ne (x := x9) (y := l4) (tgt := 90) dX7_placeOf_67 (by decide) (fun c10 => ?_) (fun c10 => ?_)
     · replace h := it_f c10 h
       refine jg_iinc (x := l5) (v := l5 + nI 8) (L' := [some (.ref (1000000 + a1)), some (.ref a2), some (.int l2), none, some (.int l4), some (.int (l5 + nI 8)), some (.int x9)]) dX7_placeOf_90 rfl (ic_k _ (by decide)) (by decide) rfl ?_
       refine jg_goto (tgt := 17) dX7_placeOf_93 (by decide) ?_
       refine jg_fg (L' := [some (.ref (1000000 + a1)), some (.ref a2), some (.int l2), none, some (.int l4), some (.int (l5 + nI 8)), none]) (by repeat (first | exact trivial | refine ⟨rfl, ?_⟩ | show jg_le _ _)) ?_
       exact ih (l5 + nI 8) h
     · replace h := it_t c10 h
       refine jg_aload_n dX7_placeOf_70 rfl ?_
       refine jg_iload dX7_placeOf_71 rfl ?_
       refine jg_iload dX7_placeOf_73 rfl ?_
       refine jg_iadd (x := l5) (y := l4) dX7_placeOf_75  ?_
       obtain ⟨q11, h⟩ := gd_some h
       refine jc_T (i := a1) (As := [.int (l5 + l4)]) q2 rfl kv_X7_118 dX7_placeOf_76 rfl (by decide) (Nat.le_of_ble_eq_true rfl) rfl (by decide) (Nat.le_of_ble_eq_true rfl) (t_J0_charAt q2 q11) ?_
       refine jg_bipush (v := nI 32) dX7_placeOf_79 (by decide) ?_
       refine jg_icmp_ne (x := (sch a1 (l5 + l4).toNatClampNeg)) (y := (nI 32)) (tgt := 90) dX7_placeOf_81 (by decide) (fun c12 => ?_) (fun c12 => ?_)
       · replace h := it_f c12 h
         refine jg_iinc (x := l5) (v := l5 + nI 8) (L' := [some (.ref (1000000 + a1)), some (.ref a2), some (.int l2), none, some (.int l4), some (.int (l5 + nI 8)), some (.int x9)]) dX7_placeOf_90 rfl (ic_k _ (by decide)) (by decide) rfl ?_
         refine jg_goto (tgt := 17) dX7_placeOf_93 (by decide) ?_
         refine jg_fg (L' := [some (.ref (1000000 + a1)), some (.ref a2), some (.int l2), none, some (.int l4), some (.int (l5 + nI 8)), none]) (by repeat (first | exact trivial | refine ⟨rfl, ?_⟩ | show jg_le _ _)) ?_
         exact ih (l5 + nI 8) h
       · replace h := it_t c12 h
         refine jg_iload dX7_placeOf_84 rfl ?_
         refine jg_bipush (v := nI 8) dX7_placeOf_86 (by decide) ?_
         refine jg_idiv (x := l5) (y := (nI 8)) dX7_placeOf_88 (by decide) ?_
         obtain rfl := Option.some.inj h
         exact jg_ireturn dX7_placeOf_89 rfl (K2 _ rfl)
noncomputable def o_X7_placeOf (F : Nat) (τ : cT) (n : Nat) (a1 : Nat) (a2 : Nat) (s : cS) (a3 : Int32) (a4 : Int32) : Option (Int32) := if (a4 - a3) < (nI 8) then ((o_X7_placeOf_17 F τ n a1 a2 a3 (a4 - a3) s F (nI 0)).bind fun x13 => (Sum.elim (fun y14 => some (-1)) (fun z15 => some z15) x13)) else (some (-1))
set_option maxHeartbeats 4000000 in
theorem t_X7_placeOf {Γ : jg_G} {g : Nat → jg_C} (F : Nat) (τ : cT) (n : Nat) (a1 : Nat) (a2 : Nat) (s : cS) (a3 : Int32) (a4 : Int32) (h2 : Ar τ n a2 1 400) {x : Int32} (h : o_X7_placeOf F τ n a1 a2 s a3 a4 = some x) : jc Γ mX7_placeOf 4 0 0 [some (.ref (1000000 + a1)), some (.ref a2), some (.int a3), some (.int a4), none, none, none] (ct_h g τ s, n) (.inl (some (.int x))) (ct_h g τ s, n) := by
  refine jc_of ?_
  rw [o_X7_placeOf] at h
  refine jg_iload_n dX7_placeOf_0 rfl ?_
  refine jg_iload_n dX7_placeOf_1 rfl ?_
  refine jg_isub (x := a4) (y := a3) dX7_placeOf_2  ?_
  refine jg_istore (L' := [some (.ref (1000000 + a1)), some (.ref a2), some (.int a3), some (.int a4), some (.int (a4 - a3)), none, none]) dX7_placeOf_3 (by decide) rfl ?_
  refine jg_iload dX7_placeOf_5 rfl ?_
  refine jg_bipush (v := nI 8) dX7_placeOf_7 (by decide) ?_
  refine jg_icmp_lt (x := (a4 - a3)) (y := (nI 8)) (tgt := 14) dX7_placeOf_9 (by decide) (fun c1 => ?_) (fun c1 => ?_)
  · replace h := it_t c1 h
    refine jg_iconst (v := nI 0) dX7_placeOf_14 (by decide) ?_
    refine jg_istore (L' := [some (.ref (1000000 + a1)), some (.ref a2), some (.int a3), some (.int a4), some (.int (a4 - a3)), some (.int (nI 0)), none]) dX7_placeOf_15 (by decide) rfl ?_
    obtain ⟨x13, e_x13, h⟩ := bd_some h
    refine jg_fg (L' := [some (.ref (1000000 + a1)), some (.ref a2), some (.int a3), none, some (.int (a4 - a3)), some (.int (nI 0)), none]) (by repeat (first | exact trivial | refine ⟨rfl, ?_⟩ | show jg_le _ _)) ?_
    refine t_X7_placeOf_17  F τ n a1 a2 a3 (a4 - a3) s h2 _ (x := x13) ?_ ?_ F (nI 0) e_x13
    · intro y14 ey; subst ey; replace h := se_l h
      refine jg_iconst (v := (-1)) dX7_placeOf_96 (by decide) ?_
      obtain rfl := Option.some.inj h
      exact jg_ireturn dX7_placeOf_97 rfl ⟨rfl, rfl⟩
    · intro z15 ez; subst ez; replace h := se_r h
      obtain rfl := Option.some.inj h
      exact ⟨rfl, rfl⟩
  · replace h := it_f c1 h
    refine jg_iconst (v := (-1)) dX7_placeOf_12 (by decide) ?_
    obtain rfl := Option.some.inj h
    exact jg_ireturn dX7_placeOf_13 rfl ⟨rfl, rfl⟩
theorem dX7_wordOf_0 : decode cX7_wordOf 0 = .ok (.ldc 103, 2) := by decide +kernel
theorem dX7_wordOf_2 : decode cX7_wordOf 2 = .ok (.aload_n 0, 1) := by decide +kernel
theorem dX7_wordOf_3 : decode cX7_wordOf 3 = .ok (.iload_n 1, 1) := by decide +kernel
theorem dX7_wordOf_4 : decode cX7_wordOf 4 = .ok (.iload_n 2, 1) := by decide +kernel
theorem dX7_wordOf_5 : decode cX7_wordOf 5 = .ok (.invokestatic 105, 3) := by decide +kernel
theorem dX7_wordOf_8 : decode cX7_wordOf 8 = .ok (.istore_n 3, 1) := by decide +kernel
theorem dX7_wordOf_9 : decode cX7_wordOf 9 = .ok (.iload_n 3, 1) := by decide +kernel
theorem dX7_wordOf_10 : decode cX7_wordOf 10 = .ok (.iconst (-1), 1) := by decide +kernel
theorem dX7_wordOf_11 : decode cX7_wordOf 11 = .ok (.if_icmp .eq 9, 3) := by decide +kernel
theorem dX7_wordOf_14 : decode cX7_wordOf 14 = .ok (.sipush 200, 3) := by decide +kernel
theorem dX7_wordOf_17 : decode cX7_wordOf 17 = .ok (.iload_n 3, 1) := by decide +kernel
theorem dX7_wordOf_18 : decode cX7_wordOf 18 = .ok (.iadd, 1) := by decide +kernel
theorem dX7_wordOf_19 : decode cX7_wordOf 19 = .ok (.ireturn, 1) := by decide +kernel
theorem dX7_wordOf_20 : decode cX7_wordOf 20 = .ok (.ldc 109, 2) := by decide +kernel
theorem dX7_wordOf_22 : decode cX7_wordOf 22 = .ok (.aload_n 0, 1) := by decide +kernel
theorem dX7_wordOf_23 : decode cX7_wordOf 23 = .ok (.iload_n 1, 1) := by decide +kernel
theorem dX7_wordOf_24 : decode cX7_wordOf 24 = .ok (.iload_n 2, 1) := by decide +kernel
theorem dX7_wordOf_25 : decode cX7_wordOf 25 = .ok (.invokestatic 105, 3) := by decide +kernel
theorem dX7_wordOf_28 : decode cX7_wordOf 28 = .ok (.istore_n 3, 1) := by decide +kernel
theorem dX7_wordOf_29 : decode cX7_wordOf 29 = .ok (.iload_n 3, 1) := by decide +kernel
theorem dX7_wordOf_30 : decode cX7_wordOf 30 = .ok (.iconst (-1), 1) := by decide +kernel
theorem dX7_wordOf_31 : decode cX7_wordOf 31 = .ok (.if_icmp .eq 9, 3) := by decide +kernel
theorem dX7_wordOf_34 : decode cX7_wordOf 34 = .ok (.sipush 300, 3) := by decide +kernel
theorem dX7_wordOf_37 : decode cX7_wordOf 37 = .ok (.iload_n 3, 1) := by decide +kernel
theorem dX7_wordOf_38 : decode cX7_wordOf 38 = .ok (.iadd, 1) := by decide +kernel
theorem dX7_wordOf_39 : decode cX7_wordOf 39 = .ok (.ireturn, 1) := by decide +kernel
theorem dX7_wordOf_40 : decode cX7_wordOf 40 = .ok (.ldc 111, 2) := by decide +kernel
theorem dX7_wordOf_42 : decode cX7_wordOf 42 = .ok (.aload_n 0, 1) := by decide +kernel
theorem dX7_wordOf_43 : decode cX7_wordOf 43 = .ok (.iload_n 1, 1) := by decide +kernel
theorem dX7_wordOf_44 : decode cX7_wordOf 44 = .ok (.iload_n 2, 1) := by decide +kernel
theorem dX7_wordOf_45 : decode cX7_wordOf 45 = .ok (.invokestatic 105, 3) := by decide +kernel
theorem dX7_wordOf_48 : decode cX7_wordOf 48 = .ok (.istore_n 3, 1) := by decide +kernel
theorem dX7_wordOf_49 : decode cX7_wordOf 49 = .ok (.iload_n 3, 1) := by decide +kernel
theorem dX7_wordOf_50 : decode cX7_wordOf 50 = .ok (.iconst (-1), 1) := by decide +kernel
theorem dX7_wordOf_51 : decode cX7_wordOf 51 = .ok (.if_icmp .ne 7, 3) := by decide +kernel
theorem dX7_wordOf_54 : decode cX7_wordOf 54 = .ok (.iconst (-1), 1) := by decide +kernel
theorem dX7_wordOf_55 : decode cX7_wordOf 55 = .ok (.goto 8, 3) := by decide +kernel
theorem dX7_wordOf_58 : decode cX7_wordOf 58 = .ok (.sipush 400, 3) := by decide +kernel
theorem dX7_wordOf_61 : decode cX7_wordOf 61 = .ok (.iload_n 3, 1) := by decide +kernel
theorem dX7_wordOf_62 : decode cX7_wordOf 62 = .ok (.iadd, 1) := by decide +kernel
theorem dX7_wordOf_63 : decode cX7_wordOf 63 = .ok (.ireturn, 1) := by decide +kernel
noncomputable def o_X7_wordOf (F : Nat) (τ : cT) (n : Nat) (a1 : Nat) (s : cS) (a2 : Int32) (a3 : Int32) : Option (Int32) := (o_X7_placeOf F τ n 7 a1 s a2 a3).bind fun x1 => (if x1 = (-1) then ((o_X7_placeOf F τ n 8 a1 s a2 a3).bind fun x3 => (if x3 = (-1) then ((o_X7_placeOf F τ n 9 a1 s a2 a3).bind fun x5 => (if x5 = (-1) then (some (-1)) else (some ((nI 400) + x5)))) else (some ((nI 300) + x3)))) else (some ((nI 200) + x1)))
set_option maxHeartbeats 4000000 in
theorem t_X7_wordOf {Γ : jg_G} {g : Nat → jg_C} (F : Nat) (τ : cT) (n : Nat) (a1 : Nat) (s : cS) (a2 : Int32) (a3 : Int32) (h1 : Ar τ n a1 1 400) {x : Int32} (h : o_X7_wordOf F τ n a1 s a2 a3 = some x) : jc Γ mX7_wordOf 5 0 0 [some (.ref a1), some (.int a2), some (.int a3), none] (ct_h g τ s, n) (.inl (some (.int x))) (ct_h g τ s, n) := by
  refine jc_of ?_
  rw [o_X7_wordOf] at h
  refine jg_ldcs (i := 7) rfl dX7_wordOf_0 ?_
  refine jg_aload_n dX7_wordOf_2 rfl ?_
  refine jg_iload_n dX7_wordOf_3 rfl ?_
  refine jg_iload_n dX7_wordOf_4 rfl ?_
  obtain ⟨x1, e_x1, h⟩ := bd_some h
  refine cs_callS (As := [.ref (1000000 + 7), .ref a1, .int a2, .int a3]) ks_X7_105 dX7_wordOf_5 rfl (by decide) (Nat.le_of_ble_eq_true rfl) rfl (by decide) (Nat.le_of_ble_eq_true rfl) (t_X7_placeOf F τ n 7 a1 s a2 a3 h1 e_x1) ?_
  refine jg_istore_n (L' := [some (.ref a1), some (.int a2), some (.int a3), some (.int x1)]) dX7_wordOf_8 (by decide) rfl ?_
  refine jg_iload_n dX7_wordOf_9 rfl ?_
  refine jg_iconst (v := (-1)) dX7_wordOf_10 (by decide) ?_
  refine jg_icmp_eq (x := x1) (y := (-1)) (tgt := 20) dX7_wordOf_11 (by decide) (fun c2 => ?_) (fun c2 => ?_)
  · replace h := it_t c2 h
    refine jg_ldcs (i := 8) rfl dX7_wordOf_20 ?_
    refine jg_aload_n dX7_wordOf_22 rfl ?_
    refine jg_iload_n dX7_wordOf_23 rfl ?_
    refine jg_iload_n dX7_wordOf_24 rfl ?_
    obtain ⟨x3, e_x3, h⟩ := bd_some h
    refine cs_callS (As := [.ref (1000000 + 8), .ref a1, .int a2, .int a3]) ks_X7_105 dX7_wordOf_25 rfl (by decide) (Nat.le_of_ble_eq_true rfl) rfl (by decide) (Nat.le_of_ble_eq_true rfl) (t_X7_placeOf F τ n 8 a1 s a2 a3 h1 e_x3) ?_
    refine jg_istore_n (L' := [some (.ref a1), some (.int a2), some (.int a3), some (.int x3)]) dX7_wordOf_28 (by decide) rfl ?_
    refine jg_iload_n dX7_wordOf_29 rfl ?_
    refine jg_iconst (v := (-1)) dX7_wordOf_30 (by decide) ?_
    refine jg_icmp_eq (x := x3) (y := (-1)) (tgt := 40) dX7_wordOf_31 (by decide) (fun c4 => ?_) (fun c4 => ?_)
    · replace h := it_t c4 h
      refine jg_ldcs (i := 9) rfl dX7_wordOf_40 ?_
      refine jg_aload_n dX7_wordOf_42 rfl ?_
      refine jg_iload_n dX7_wordOf_43 rfl ?_
      refine jg_iload_n dX7_wordOf_44 rfl ?_
      obtain ⟨x5, e_x5, h⟩ := bd_some h
      refine cs_callS (As := [.ref (1000000 + 9), .ref a1, .int a2, .int a3]) ks_X7_105 dX7_wordOf_45 rfl (by decide) (Nat.le_of_ble_eq_true rfl) rfl (by decide) (Nat.le_of_ble_eq_true rfl) (t_X7_placeOf F τ n 9 a1 s a2 a3 h1 e_x5) ?_
      refine jg_istore_n (L' := [some (.ref a1), some (.int a2), some (.int a3), some (.int x5)]) dX7_wordOf_48 (by decide) rfl ?_
      refine jg_iload_n dX7_wordOf_49 rfl ?_
      refine jg_iconst (v := (-1)) dX7_wordOf_50 (by decide) ?_
      refine jg_icmp_ne (x := x5) (y := (-1)) (tgt := 58) dX7_wordOf_51 (by decide) (fun c6 => ?_) (fun c6 => ?_)
      · replace h := it_f c6 h
        refine jg_sipush (v := nI 400) dX7_wordOf_58 (by decide) ?_
        refine jg_iload_n dX7_wordOf_61 rfl ?_
        refine jg_iadd (x := (nI 400)) (y := x5) dX7_wordOf_62  ?_
        obtain rfl := Option.some.inj h
        exact jg_ireturn dX7_wordOf_63 rfl ⟨rfl, rfl⟩
      · replace h := it_t c6 h
        refine jg_iconst (v := (-1)) dX7_wordOf_54 (by decide) ?_
        refine jg_goto (tgt := 63) dX7_wordOf_55 (by decide) ?_
        obtain rfl := Option.some.inj h
        exact jg_ireturn dX7_wordOf_63 rfl ⟨rfl, rfl⟩
    · replace h := it_f c4 h
      refine jg_sipush (v := nI 300) dX7_wordOf_34 (by decide) ?_
      refine jg_iload_n dX7_wordOf_37 rfl ?_
      refine jg_iadd (x := (nI 300)) (y := x3) dX7_wordOf_38  ?_
      obtain rfl := Option.some.inj h
      exact jg_ireturn dX7_wordOf_39 rfl ⟨rfl, rfl⟩
  · replace h := it_f c2 h
    refine jg_sipush (v := nI 200) dX7_wordOf_14 (by decide) ?_
    refine jg_iload_n dX7_wordOf_17 rfl ?_
    refine jg_iadd (x := (nI 200)) (y := x1) dX7_wordOf_18  ?_
    obtain rfl := Option.some.inj h
    exact jg_ireturn dX7_wordOf_19 rfl ⟨rfl, rfl⟩
theorem dX7_numberOf_0 : decode cX7_numberOf 0 = .ok (.iload_n 2, 1) := by decide +kernel
theorem dX7_numberOf_1 : decode cX7_numberOf 1 = .ok (.iload_n 1, 1) := by decide +kernel
theorem dX7_numberOf_2 : decode cX7_numberOf 2 = .ok (.isub, 1) := by decide +kernel
theorem dX7_numberOf_3 : decode cX7_numberOf 3 = .ok (.bipush 6, 2) := by decide +kernel
theorem dX7_numberOf_5 : decode cX7_numberOf 5 = .ok (.if_icmp .le 5, 3) := by decide +kernel
theorem dX7_numberOf_8 : decode cX7_numberOf 8 = .ok (.iconst (-1), 1) := by decide +kernel
theorem dX7_numberOf_9 : decode cX7_numberOf 9 = .ok (.ireturn, 1) := by decide +kernel
theorem dX7_numberOf_10 : decode cX7_numberOf 10 = .ok (.iconst 0, 1) := by decide +kernel
theorem dX7_numberOf_11 : decode cX7_numberOf 11 = .ok (.istore_n 3, 1) := by decide +kernel
theorem dX7_numberOf_12 : decode cX7_numberOf 12 = .ok (.iload_n 1, 1) := by decide +kernel
theorem dX7_numberOf_13 : decode cX7_numberOf 13 = .ok (.istore 4, 2) := by decide +kernel
theorem dX7_numberOf_15 : decode cX7_numberOf 15 = .ok (.iload 4, 2) := by decide +kernel
theorem dX7_numberOf_17 : decode cX7_numberOf 17 = .ok (.iload_n 2, 1) := by decide +kernel
theorem dX7_numberOf_18 : decode cX7_numberOf 18 = .ok (.if_icmp .ge 22, 3) := by decide +kernel
theorem dX7_numberOf_21 : decode cX7_numberOf 21 = .ok (.iload_n 3, 1) := by decide +kernel
theorem dX7_numberOf_22 : decode cX7_numberOf 22 = .ok (.bipush 10, 2) := by decide +kernel
theorem dX7_numberOf_24 : decode cX7_numberOf 24 = .ok (.imul, 1) := by decide +kernel
theorem dX7_numberOf_25 : decode cX7_numberOf 25 = .ok (.aload_n 0, 1) := by decide +kernel
theorem dX7_numberOf_26 : decode cX7_numberOf 26 = .ok (.iload 4, 2) := by decide +kernel
theorem dX7_numberOf_28 : decode cX7_numberOf 28 = .ok (.baload, 1) := by decide +kernel
theorem dX7_numberOf_29 : decode cX7_numberOf 29 = .ok (.iadd, 1) := by decide +kernel
theorem dX7_numberOf_30 : decode cX7_numberOf 30 = .ok (.bipush 48, 2) := by decide +kernel
theorem dX7_numberOf_32 : decode cX7_numberOf 32 = .ok (.isub, 1) := by decide +kernel
theorem dX7_numberOf_33 : decode cX7_numberOf 33 = .ok (.istore_n 3, 1) := by decide +kernel
theorem dX7_numberOf_34 : decode cX7_numberOf 34 = .ok (.iinc 4 1, 3) := by decide +kernel
theorem dX7_numberOf_37 : decode cX7_numberOf 37 = .ok (.goto (-22), 3) := by decide +kernel
theorem dX7_numberOf_40 : decode cX7_numberOf 40 = .ok (.sipush 1000, 3) := by decide +kernel
theorem dX7_numberOf_43 : decode cX7_numberOf 43 = .ok (.iload_n 3, 1) := by decide +kernel
theorem dX7_numberOf_44 : decode cX7_numberOf 44 = .ok (.iadd, 1) := by decide +kernel
theorem dX7_numberOf_45 : decode cX7_numberOf 45 = .ok (.ireturn, 1) := by decide +kernel
noncomputable def o_X7_numberOf_15 (F : Nat) (τ : cT) (n : Nat) (a1 : Nat) (l2 : Int32) (s : cS) : Nat → Int32 → Int32 → Option (Int32)
  | 0, _, _ => none
  | f + 1, l3, l4 => if l2 ≤ l4 then (some l3) else (if iL l4 400 then (o_X7_numberOf_15 F τ n a1 l2 s f (((l3 * (nI 10)) + (cg s a1 l4)) - (nI 48)) (l4 + nI 1)) else none)
set_option maxHeartbeats 4000000 in
theorem t_X7_numberOf_15 {Γ : jg_G} {g : Nat → jg_C} (F : Nat) (τ : cT) (n : Nat) (a1 : Nat) (l2 : Int32) (s : cS) (h1 : Ar τ n a1 1 400) (Q : jg_Q) {x : Int32} (K1 : jg Γ mX7_numberOf 0 0 0 40 [none, none, none, some (.int x), none] [] (ct_h g τ s, n) Q)  : ∀ (f : Nat) (l3 : Int32) (l4 : Int32), o_X7_numberOf_15 F τ n a1 l2 s f l3 l4 = some x → jg Γ mX7_numberOf 0 0 0 15 [some (.ref a1), none, some (.int l2), some (.int l3), some (.int l4)] [] (ct_h g τ s, n) Q := by
  intro f
  induction f with
  | zero => intro l3 l4 h; rw [o_X7_numberOf_15] at h; cases h
  | succ f ih =>
   intro l3 l4 h
   rw [o_X7_numberOf_15] at h
   refine jg_iload dX7_numberOf_15 rfl ?_
   refine jg_iload_n dX7_numberOf_17 rfl ?_
   refine jg_icmp_ge (x := l4) (y := l2) (tgt := 40) dX7_numberOf_18 (by decide) (fun c2 => ?_) (fun c2 => ?_)
   · replace h := it_t c2 h
     refine jg_fg (L' := [none, none, none, some (.int l3), none]) (by repeat (first | exact trivial | refine ⟨rfl, ?_⟩ | show jg_le _ _)) ?_
     obtain rfl := Option.some.inj h
     exact K1
   · replace h := it_f c2 h
     refine jg_iload_n dX7_numberOf_21 rfl ?_
     refine jg_bipush (v := nI 10) dX7_numberOf_22 (by decide) ?_
     refine jg_imul (x := l3) (y := (nI 10)) dX7_numberOf_24  ?_
     refine jg_aload_n dX7_numberOf_25 rfl ?_
     refine jg_iload dX7_numberOf_26 rfl ?_
     obtain ⟨q3, h⟩ := gd_some h
     refine cs_ldb (s := s) (q := a1) (i := l4) dX7_numberOf_28 h1 q3 ?_
     refine jg_iadd (x := (l3 * (nI 10))) (y := (cg s a1 l4)) dX7_numberOf_29  ?_
     refine jg_bipush (v := nI 48) dX7_numberOf_30 (by decide) ?_
     refine jg_isub (x := ((l3 * (nI 10)) + (cg s a1 l4))) (y := (nI 48)) dX7_numberOf_32  ?_
     refine jg_istore_n (L' := [some (.ref a1), none, some (.int l2), some (.int (((l3 * (nI 10)) + (cg s a1 l4)) - (nI 48))), some (.int l4)]) dX7_numberOf_33 (by decide) rfl ?_
     refine jg_iinc (x := l4) (v := l4 + nI 1) (L' := [some (.ref a1), none, some (.int l2), some (.int (((l3 * (nI 10)) + (cg s a1 l4)) - (nI 48))), some (.int (l4 + nI 1))]) dX7_numberOf_34 rfl (ic_k _ (by decide)) (by decide) rfl ?_
     refine jg_goto (tgt := 15) dX7_numberOf_37 (by decide) ?_
     refine jg_fg (L' := [some (.ref a1), none, some (.int l2), some (.int (((l3 * (nI 10)) + (cg s a1 l4)) - (nI 48))), some (.int (l4 + nI 1))]) (by repeat (first | exact trivial | refine ⟨rfl, ?_⟩ | show jg_le _ _)) ?_
     exact ih (((l3 * (nI 10)) + (cg s a1 l4)) - (nI 48)) (l4 + nI 1) h
noncomputable def o_X7_numberOf (F : Nat) (τ : cT) (n : Nat) (a1 : Nat) (s : cS) (a2 : Int32) (a3 : Int32) : Option (Int32) := if (a3 - a2) ≤ (nI 6) then ((o_X7_numberOf_15 F τ n a1 a3 s F (nI 0) a2).bind fun x4 => (some ((nI 1000) + x4))) else (some (-1))
set_option maxHeartbeats 4000000 in
theorem t_X7_numberOf {Γ : jg_G} {g : Nat → jg_C} (F : Nat) (τ : cT) (n : Nat) (a1 : Nat) (s : cS) (a2 : Int32) (a3 : Int32) (h1 : Ar τ n a1 1 400) {x : Int32} (h : o_X7_numberOf F τ n a1 s a2 a3 = some x) : jc Γ mX7_numberOf 0 0 0 [some (.ref a1), some (.int a2), some (.int a3), none, none] (ct_h g τ s, n) (.inl (some (.int x))) (ct_h g τ s, n) := by
  refine jc_of ?_
  rw [o_X7_numberOf] at h
  refine jg_iload_n dX7_numberOf_0 rfl ?_
  refine jg_iload_n dX7_numberOf_1 rfl ?_
  refine jg_isub (x := a3) (y := a2) dX7_numberOf_2  ?_
  refine jg_bipush (v := nI 6) dX7_numberOf_3 (by decide) ?_
  refine jg_icmp_le (x := (a3 - a2)) (y := (nI 6)) (tgt := 10) dX7_numberOf_5 (by decide) (fun c1 => ?_) (fun c1 => ?_)
  · replace h := it_t c1 h
    refine jg_iconst (v := nI 0) dX7_numberOf_10 (by decide) ?_
    refine jg_istore_n (L' := [some (.ref a1), some (.int a2), some (.int a3), some (.int (nI 0)), none]) dX7_numberOf_11 (by decide) rfl ?_
    refine jg_iload_n dX7_numberOf_12 rfl ?_
    refine jg_istore (L' := [some (.ref a1), some (.int a2), some (.int a3), some (.int (nI 0)), some (.int a2)]) dX7_numberOf_13 (by decide) rfl ?_
    obtain ⟨x4, e_x4, h⟩ := bd_some h
    refine jg_fg (L' := [some (.ref a1), none, some (.int a3), some (.int (nI 0)), some (.int a2)]) (by repeat (first | exact trivial | refine ⟨rfl, ?_⟩ | show jg_le _ _)) ?_
    refine t_X7_numberOf_15  F τ n a1 a3 s h1 _ (x := x4) ?_ F (nI 0) a2 e_x4
    refine jg_sipush (v := nI 1000) dX7_numberOf_40 (by decide) ?_
    refine jg_iload_n dX7_numberOf_43 rfl ?_
    refine jg_iadd (x := (nI 1000)) (y := x4) dX7_numberOf_44  ?_
    obtain rfl := Option.some.inj h
    exact jg_ireturn dX7_numberOf_45 rfl ⟨rfl, rfl⟩
  · replace h := it_f c1 h
    refine jg_iconst (v := (-1)) dX7_numberOf_8 (by decide) ?_
    obtain rfl := Option.some.inj h
    exact jg_ireturn dX7_numberOf_9 rfl ⟨rfl, rfl⟩
theorem dX7_thingOf_0 : decode cX7_thingOf 0 = .ok (.aload_n 0, 1) := by decide +kernel
theorem dX7_thingOf_1 : decode cX7_thingOf 1 = .ok (.iload_n 1, 1) := by decide +kernel
theorem dX7_thingOf_2 : decode cX7_thingOf 2 = .ok (.baload, 1) := by decide +kernel
theorem dX7_thingOf_3 : decode cX7_thingOf 3 = .ok (.istore_n 3, 1) := by decide +kernel
theorem dX7_thingOf_4 : decode cX7_thingOf 4 = .ok (.iload_n 3, 1) := by decide +kernel
theorem dX7_thingOf_5 : decode cX7_thingOf 5 = .ok (.invokestatic 90, 3) := by decide +kernel
theorem dX7_thingOf_8 : decode cX7_thingOf 8 = .ok (.ifCond .eq 10, 3) := by decide +kernel
theorem dX7_thingOf_11 : decode cX7_thingOf 11 = .ok (.aload_n 0, 1) := by decide +kernel
theorem dX7_thingOf_12 : decode cX7_thingOf 12 = .ok (.iload_n 1, 1) := by decide +kernel
theorem dX7_thingOf_13 : decode cX7_thingOf 13 = .ok (.iload_n 2, 1) := by decide +kernel
theorem dX7_thingOf_14 : decode cX7_thingOf 14 = .ok (.invokestatic 97, 3) := by decide +kernel
theorem dX7_thingOf_17 : decode cX7_thingOf 17 = .ok (.ireturn, 1) := by decide +kernel
theorem dX7_thingOf_18 : decode cX7_thingOf 18 = .ok (.iload_n 3, 1) := by decide +kernel
theorem dX7_thingOf_19 : decode cX7_thingOf 19 = .ok (.invokestatic 94, 3) := by decide +kernel
theorem dX7_thingOf_22 : decode cX7_thingOf 22 = .ok (.ifCond .eq 10, 3) := by decide +kernel
theorem dX7_thingOf_25 : decode cX7_thingOf 25 = .ok (.aload_n 0, 1) := by decide +kernel
theorem dX7_thingOf_26 : decode cX7_thingOf 26 = .ok (.iload_n 1, 1) := by decide +kernel
theorem dX7_thingOf_27 : decode cX7_thingOf 27 = .ok (.iload_n 2, 1) := by decide +kernel
theorem dX7_thingOf_28 : decode cX7_thingOf 28 = .ok (.invokestatic 100, 3) := by decide +kernel
theorem dX7_thingOf_31 : decode cX7_thingOf 31 = .ok (.ireturn, 1) := by decide +kernel
theorem dX7_thingOf_32 : decode cX7_thingOf 32 = .ok (.iload_n 3, 1) := by decide +kernel
theorem dX7_thingOf_33 : decode cX7_thingOf 33 = .ok (.bipush 59, 2) := by decide +kernel
theorem dX7_thingOf_35 : decode cX7_thingOf 35 = .ok (.if_icmp .eq 27, 3) := by decide +kernel
theorem dX7_thingOf_38 : decode cX7_thingOf 38 = .ok (.iload_n 3, 1) := by decide +kernel
theorem dX7_thingOf_39 : decode cX7_thingOf 39 = .ok (.bipush 40, 2) := by decide +kernel
theorem dX7_thingOf_41 : decode cX7_thingOf 41 = .ok (.if_icmp .eq 21, 3) := by decide +kernel
theorem dX7_thingOf_44 : decode cX7_thingOf 44 = .ok (.iload_n 3, 1) := by decide +kernel
theorem dX7_thingOf_45 : decode cX7_thingOf 45 = .ok (.bipush 41, 2) := by decide +kernel
theorem dX7_thingOf_47 : decode cX7_thingOf 47 = .ok (.if_icmp .eq 15, 3) := by decide +kernel
theorem dX7_thingOf_50 : decode cX7_thingOf 50 = .ok (.iload_n 3, 1) := by decide +kernel
theorem dX7_thingOf_51 : decode cX7_thingOf 51 = .ok (.bipush 60, 2) := by decide +kernel
theorem dX7_thingOf_53 : decode cX7_thingOf 53 = .ok (.if_icmp .eq 9, 3) := by decide +kernel
theorem dX7_thingOf_56 : decode cX7_thingOf 56 = .ok (.iload_n 3, 1) := by decide +kernel
theorem dX7_thingOf_57 : decode cX7_thingOf 57 = .ok (.bipush 62, 2) := by decide +kernel
theorem dX7_thingOf_59 : decode cX7_thingOf 59 = .ok (.if_icmp .ne 7, 3) := by decide +kernel
theorem dX7_thingOf_62 : decode cX7_thingOf 62 = .ok (.iconst 1, 1) := by decide +kernel
theorem dX7_thingOf_63 : decode cX7_thingOf 63 = .ok (.goto 4, 3) := by decide +kernel
theorem dX7_thingOf_66 : decode cX7_thingOf 66 = .ok (.iconst 0, 1) := by decide +kernel
theorem dX7_thingOf_67 : decode cX7_thingOf 67 = .ok (.istore 4, 2) := by decide +kernel
theorem dX7_thingOf_69 : decode cX7_thingOf 69 = .ok (.iload 4, 2) := by decide +kernel
theorem dX7_thingOf_71 : decode cX7_thingOf 71 = .ok (.ifCond .eq 7, 3) := by decide +kernel
theorem dX7_thingOf_74 : decode cX7_thingOf 74 = .ok (.iload_n 3, 1) := by decide +kernel
theorem dX7_thingOf_75 : decode cX7_thingOf 75 = .ok (.goto 4, 3) := by decide +kernel
theorem dX7_thingOf_78 : decode cX7_thingOf 78 = .ok (.iconst (-1), 1) := by decide +kernel
theorem dX7_thingOf_79 : decode cX7_thingOf 79 = .ok (.ireturn, 1) := by decide +kernel
noncomputable def o_X7_thingOf (F : Nat) (τ : cT) (n : Nat) (a1 : Nat) (s : cS) (a2 : Int32) (a3 : Int32) : Option (Int32) := if iL a2 400 then ((o_X7_isLetter τ n s (cg s a1 a2)).bind fun x2 => (if x2 = 0 then ((o_X7_isDigit τ n s (cg s a1 a2)).bind fun x4 => (if x4 = 0 then (if (cg s a1 a2) = (nI 59) then (some (cg s a1 a2)) else (if (cg s a1 a2) = (nI 40) then (some (cg s a1 a2)) else (if (cg s a1 a2) = (nI 41) then (some (cg s a1 a2)) else (if (cg s a1 a2) = (nI 60) then (some (cg s a1 a2)) else (if (cg s a1 a2) = (nI 62) then (some (cg s a1 a2)) else (some (-1))))))) else ((o_X7_numberOf F τ n a1 s a2 a3).bind fun x11 => (some x11)))) else ((o_X7_wordOf F τ n a1 s a2 a3).bind fun x12 => (some x12)))) else none
set_option maxHeartbeats 4000000 in
theorem t_X7_thingOf {Γ : jg_G} {g : Nat → jg_C} (F : Nat) (τ : cT) (n : Nat) (a1 : Nat) (s : cS) (a2 : Int32) (a3 : Int32) (h1 : Ar τ n a1 1 400) {x : Int32} (h : o_X7_thingOf F τ n a1 s a2 a3 = some x) : jc Γ mX7_thingOf 6 0 0 [some (.ref a1), some (.int a2), some (.int a3), none, none] (ct_h g τ s, n) (.inl (some (.int x))) (ct_h g τ s, n) := by
  refine jc_of ?_
  rw [o_X7_thingOf] at h
  refine jg_aload_n dX7_thingOf_0 rfl ?_
  refine jg_iload_n dX7_thingOf_1 rfl ?_
  obtain ⟨q1, h⟩ := gd_some h
  refine cs_ldb (s := s) (q := a1) (i := a2) dX7_thingOf_2 h1 q1 ?_
  refine jg_istore_n (L' := [some (.ref a1), some (.int a2), some (.int a3), some (.int (cg s a1 a2)), none]) dX7_thingOf_3 (by decide) rfl ?_
  refine jg_iload_n dX7_thingOf_4 rfl ?_
  obtain ⟨x2, e_x2, h⟩ := bd_some h
  refine cs_callS (As := [.int (cg s a1 a2)]) ks_X7_90 dX7_thingOf_5 rfl (by decide) (Nat.le_of_ble_eq_true rfl) rfl (by decide) (Nat.le_of_ble_eq_true rfl) (t_X7_isLetter τ n s (cg s a1 a2) e_x2) ?_
  refine jg_if_eq (x := x2) (tgt := 18) dX7_thingOf_8 (by decide) (fun c3 => ?_) (fun c3 => ?_)
  · replace h := it_t c3 h
    refine jg_iload_n dX7_thingOf_18 rfl ?_
    obtain ⟨x4, e_x4, h⟩ := bd_some h
    refine cs_callS (As := [.int (cg s a1 a2)]) ks_X7_94 dX7_thingOf_19 rfl (by decide) (Nat.le_of_ble_eq_true rfl) rfl (by decide) (Nat.le_of_ble_eq_true rfl) (t_X7_isDigit τ n s (cg s a1 a2) e_x4) ?_
    refine jg_if_eq (x := x4) (tgt := 32) dX7_thingOf_22 (by decide) (fun c5 => ?_) (fun c5 => ?_)
    · replace h := it_t c5 h
      refine jg_iload_n dX7_thingOf_32 rfl ?_
      refine jg_bipush (v := nI 59) dX7_thingOf_33 (by decide) ?_
      refine jg_icmp_eq (x := (cg s a1 a2)) (y := (nI 59)) (tgt := 62) dX7_thingOf_35 (by decide) (fun c6 => ?_) (fun c6 => ?_)
      · replace h := it_t c6 h
        refine jg_iconst (v := nI 1) dX7_thingOf_62 (by decide) ?_
        refine jg_goto (tgt := 67) dX7_thingOf_63 (by decide) ?_
        refine jg_istore (L' := [some (.ref a1), some (.int a2), some (.int a3), some (.int (cg s a1 a2)), some (.int (nI 1))]) dX7_thingOf_67 (by decide) rfl ?_
        refine jg_iload dX7_thingOf_69 rfl ?_
        refine jg_if_eq (x := (nI 1)) (tgt := 78) dX7_thingOf_71 (by decide) (fun q9 => absurd q9 (by decide)) (fun _ => ?_)
        refine jg_iload_n dX7_thingOf_74 rfl ?_
        refine jg_goto (tgt := 79) dX7_thingOf_75 (by decide) ?_
        obtain rfl := Option.some.inj h
        exact jg_ireturn dX7_thingOf_79 rfl ⟨rfl, rfl⟩
      · replace h := it_f c6 h
        refine jg_iload_n dX7_thingOf_38 rfl ?_
        refine jg_bipush (v := nI 40) dX7_thingOf_39 (by decide) ?_
        refine jg_icmp_eq (x := (cg s a1 a2)) (y := (nI 40)) (tgt := 62) dX7_thingOf_41 (by decide) (fun c7 => ?_) (fun c7 => ?_)
        · replace h := it_t c7 h
          refine jg_iconst (v := nI 1) dX7_thingOf_62 (by decide) ?_
          refine jg_goto (tgt := 67) dX7_thingOf_63 (by decide) ?_
          refine jg_istore (L' := [some (.ref a1), some (.int a2), some (.int a3), some (.int (cg s a1 a2)), some (.int (nI 1))]) dX7_thingOf_67 (by decide) rfl ?_
          refine jg_iload dX7_thingOf_69 rfl ?_
          refine jg_if_eq (x := (nI 1)) (tgt := 78) dX7_thingOf_71 (by decide) (fun q9 => absurd q9 (by decide)) (fun _ => ?_)
          refine jg_iload_n dX7_thingOf_74 rfl ?_
          refine jg_goto (tgt := 79) dX7_thingOf_75 (by decide) ?_
          obtain rfl := Option.some.inj h
          exact jg_ireturn dX7_thingOf_79 rfl ⟨rfl, rfl⟩
        · replace h := it_f c7 h
          refine jg_iload_n dX7_thingOf_44 rfl ?_
          refine jg_bipush (v := nI 41) dX7_thingOf_45 (by decide) ?_
          refine jg_icmp_eq (x := (cg s a1 a2)) (y := (nI 41)) (tgt := 62) dX7_thingOf_47 (by decide) (fun c8 => ?_) (fun c8 => ?_)
          · replace h := it_t c8 h
            refine jg_iconst (v := nI 1) dX7_thingOf_62 (by decide) ?_
            refine jg_goto (tgt := 67) dX7_thingOf_63 (by decide) ?_
            refine jg_istore (L' := [some (.ref a1), some (.int a2), some (.int a3), some (.int (cg s a1 a2)), some (.int (nI 1))]) dX7_thingOf_67 (by decide) rfl ?_
            refine jg_iload dX7_thingOf_69 rfl ?_
            refine jg_if_eq (x := (nI 1)) (tgt := 78) dX7_thingOf_71 (by decide) (fun q9 => absurd q9 (by decide)) (fun _ => ?_)
            refine jg_iload_n dX7_thingOf_74 rfl ?_
            refine jg_goto (tgt := 79) dX7_thingOf_75 (by decide) ?_
            obtain rfl := Option.some.inj h
            exact jg_ireturn dX7_thingOf_79 rfl ⟨rfl, rfl⟩
          · replace h := it_f c8 h
            refine jg_iload_n dX7_thingOf_50 rfl ?_
            refine jg_bipush (v := nI 60) dX7_thingOf_51 (by decide) ?_
            refine jg_icmp_eq (x := (cg s a1 a2)) (y := (nI 60)) (tgt := 62) dX7_thingOf_53 (by decide) (fun c9 => ?_) (fun c9 => ?_)
            · replace h := it_t c9 h
              refine jg_iconst (v := nI 1) dX7_thingOf_62 (by decide) ?_
              refine jg_goto (tgt := 67) dX7_thingOf_63 (by decide) ?_
              refine jg_istore (L' := [some (.ref a1), some (.int a2), some (.int a3), some (.int (cg s a1 a2)), some (.int (nI 1))]) dX7_thingOf_67 (by decide) rfl ?_
              refine jg_iload dX7_thingOf_69 rfl ?_
              refine jg_if_eq (x := (nI 1)) (tgt := 78) dX7_thingOf_71 (by decide) (fun q9 => absurd q9 (by decide)) (fun _ => ?_)
              refine jg_iload_n dX7_thingOf_74 rfl ?_
              refine jg_goto (tgt := 79) dX7_thingOf_75 (by decide) ?_
              obtain rfl := Option.some.inj h
              exact jg_ireturn dX7_thingOf_79 rfl ⟨rfl, rfl⟩
            · replace h := it_f c9 h
              refine jg_iload_n dX7_thingOf_56 rfl ?_
              refine jg_bipush (v := nI 62) dX7_thingOf_57 (by decide) ?_
              refine jg_icmp_ne (x := (cg s a1 a2)) (y := (nI 62)) (tgt := 66) dX7_thingOf_59 (by decide) (fun c10 => ?_) (fun c10 => ?_)
              · replace h := it_f c10 h
                refine jg_iconst (v := nI 0) dX7_thingOf_66 (by decide) ?_
                refine jg_istore (L' := [some (.ref a1), some (.int a2), some (.int a3), some (.int (cg s a1 a2)), some (.int (nI 0))]) dX7_thingOf_67 (by decide) rfl ?_
                refine jg_iload dX7_thingOf_69 rfl ?_
                refine jg_if_eq (x := (nI 0)) (tgt := 78) dX7_thingOf_71 (by decide) (fun _ => ?_) (fun q9 => absurd q9 (by decide))
                refine jg_iconst (v := (-1)) dX7_thingOf_78 (by decide) ?_
                obtain rfl := Option.some.inj h
                exact jg_ireturn dX7_thingOf_79 rfl ⟨rfl, rfl⟩
              · replace h := it_t c10 h
                refine jg_iconst (v := nI 1) dX7_thingOf_62 (by decide) ?_
                refine jg_goto (tgt := 67) dX7_thingOf_63 (by decide) ?_
                refine jg_istore (L' := [some (.ref a1), some (.int a2), some (.int a3), some (.int (cg s a1 a2)), some (.int (nI 1))]) dX7_thingOf_67 (by decide) rfl ?_
                refine jg_iload dX7_thingOf_69 rfl ?_
                refine jg_if_eq (x := (nI 1)) (tgt := 78) dX7_thingOf_71 (by decide) (fun q9 => absurd q9 (by decide)) (fun _ => ?_)
                refine jg_iload_n dX7_thingOf_74 rfl ?_
                refine jg_goto (tgt := 79) dX7_thingOf_75 (by decide) ?_
                obtain rfl := Option.some.inj h
                exact jg_ireturn dX7_thingOf_79 rfl ⟨rfl, rfl⟩
    · replace h := it_f c5 h
      refine jg_aload_n dX7_thingOf_25 rfl ?_
      refine jg_iload_n dX7_thingOf_26 rfl ?_
      refine jg_iload_n dX7_thingOf_27 rfl ?_
      obtain ⟨x11, e_x11, h⟩ := bd_some h
      refine cs_callS (As := [.ref a1, .int a2, .int a3]) ks_X7_100 dX7_thingOf_28 rfl (by decide) (Nat.le_of_ble_eq_true rfl) rfl (by decide) (Nat.le_of_ble_eq_true rfl) (t_X7_numberOf F τ n a1 s a2 a3 h1 e_x11) ?_
      obtain rfl := Option.some.inj h
      exact jg_ireturn dX7_thingOf_31 rfl ⟨rfl, rfl⟩
  · replace h := it_f c3 h
    refine jg_aload_n dX7_thingOf_11 rfl ?_
    refine jg_iload_n dX7_thingOf_12 rfl ?_
    refine jg_iload_n dX7_thingOf_13 rfl ?_
    obtain ⟨x12, e_x12, h⟩ := bd_some h
    refine cs_callS (As := [.ref a1, .int a2, .int a3]) ks_X7_97 dX7_thingOf_14 rfl (by decide) (Nat.le_of_ble_eq_true rfl) rfl (by decide) (Nat.le_of_ble_eq_true rfl) (t_X7_wordOf F τ n a1 s a2 a3 h1 e_x12) ?_
    obtain rfl := Option.some.inj h
    exact jg_ireturn dX7_thingOf_17 rfl ⟨rfl, rfl⟩
theorem dX7_addThing_0 : decode cX7_addThing 0 = .ok (.aload_n 0, 1) := by decide +kernel
theorem dX7_addThing_1 : decode cX7_addThing 1 = .ok (.getfield 64, 3) := by decide +kernel
theorem dX7_addThing_4 : decode cX7_addThing 4 = .ok (.aload_n 0, 1) := by decide +kernel
theorem dX7_addThing_5 : decode cX7_addThing 5 = .ok (.getfield 15, 3) := by decide +kernel
theorem dX7_addThing_8 : decode cX7_addThing 8 = .ok (.arraylength, 1) := by decide +kernel
theorem dX7_addThing_9 : decode cX7_addThing 9 = .ok (.if_icmp .ge 33, 3) := by decide +kernel
theorem dX7_addThing_12 : decode cX7_addThing 12 = .ok (.aload_n 0, 1) := by decide +kernel
theorem dX7_addThing_13 : decode cX7_addThing 13 = .ok (.getfield 15, 3) := by decide +kernel
theorem dX7_addThing_16 : decode cX7_addThing 16 = .ok (.aload_n 0, 1) := by decide +kernel
theorem dX7_addThing_17 : decode cX7_addThing 17 = .ok (.getfield 64, 3) := by decide +kernel
theorem dX7_addThing_20 : decode cX7_addThing 20 = .ok (.iload_n 1, 1) := by decide +kernel
theorem dX7_addThing_21 : decode cX7_addThing 21 = .ok (.iastore, 1) := by decide +kernel
theorem dX7_addThing_22 : decode cX7_addThing 22 = .ok (.aload_n 0, 1) := by decide +kernel
theorem dX7_addThing_23 : decode cX7_addThing 23 = .ok (.getfield 19, 3) := by decide +kernel
theorem dX7_addThing_26 : decode cX7_addThing 26 = .ok (.aload_n 0, 1) := by decide +kernel
theorem dX7_addThing_27 : decode cX7_addThing 27 = .ok (.getfield 64, 3) := by decide +kernel
theorem dX7_addThing_30 : decode cX7_addThing 30 = .ok (.iload_n 2, 1) := by decide +kernel
theorem dX7_addThing_31 : decode cX7_addThing 31 = .ok (.iastore, 1) := by decide +kernel
theorem dX7_addThing_32 : decode cX7_addThing 32 = .ok (.aload_n 0, 1) := by decide +kernel
theorem dX7_addThing_33 : decode cX7_addThing 33 = .ok (.dup, 1) := by decide +kernel
theorem dX7_addThing_34 : decode cX7_addThing 34 = .ok (.getfield 64, 3) := by decide +kernel
theorem dX7_addThing_37 : decode cX7_addThing 37 = .ok (.iconst 1, 1) := by decide +kernel
theorem dX7_addThing_38 : decode cX7_addThing 38 = .ok (.iadd, 1) := by decide +kernel
theorem dX7_addThing_39 : decode cX7_addThing 39 = .ok (.putfield 64, 3) := by decide +kernel
theorem dX7_addThing_42 : decode cX7_addThing 42 = .ok (.return_, 1) := by decide +kernel
noncomputable def o_X7_addThing (τ : cT) (n : Nat) (o : Nat) (s : cS) (a1 : Int32) (a2 : Int32) : Option (cS) := if (nI 401) ≤ (s.1 (o + 2) 3) then (some s) else (if iL (s.1 (o + 2) 3) 401 then (if iL ((ca s (o + 3) (s.1 (o + 2) 3) a1).1 (o + 2) 3) 401 then ((some (ca (ca s (o + 3) (s.1 (o + 2) 3) a1) (o + 4) ((ca s (o + 3) (s.1 (o + 2) 3) a1).1 (o + 2) 3) a2)).bind fun x4 => (some (cp x4 (o + 2) 3 ((x4.1 (o + 2) 3) + (nI 1))))) else none) else none)
set_option maxHeartbeats 4000000 in
theorem t_X7_addThing {Γ : jg_G} {g : Nat → jg_C} (τ : cT) (n : Nat) (o : Nat) (s : cS) (a1 : Int32) (a2 : Int32) (hO : Sh τ n o) {x : cS} (h : o_X7_addThing τ n o s a1 a2 = some x) : jc Γ mX7_addThing 0 0 0 [some (.ref (o + 2)), some (.int a1), some (.int a2)] (ct_h g τ s, n) (.inl none) (ct_h g τ x, n) := by
  refine jc_of ?_
  rw [o_X7_addThing] at h
  refine jg_aload_n dX7_addThing_0 rfl ?_
  refine cs_get (s := s) (w := .int (s.1 (o + 2) 3)) fl_X7_64 dX7_addThing_1 (hO.ob 2 (by decide) rfl) rfl ?_
  refine jg_aload_n dX7_addThing_4 rfl ?_
  refine cs_get (s := s) (w := .ref (o + 3)) fl_X7_15 dX7_addThing_5 (hO.ob 2 (by decide) rfl) rfl ?_
  refine cs_len (s := s) (q := (o + 3)) (by decide) dX7_addThing_8 (hO.ar 3 (by decide) rfl) ?_
  refine jg_icmp_ge (x := (s.1 (o + 2) 3)) (y := (nI 401)) (tgt := 42) dX7_addThing_9 (by decide) (fun c1 => ?_) (fun c1 => ?_)
  · replace h := it_t c1 h
    obtain rfl := Option.some.inj h
    exact jg_return dX7_addThing_42 rfl ⟨rfl, rfl⟩
  · replace h := it_f c1 h
    refine jg_aload_n dX7_addThing_12 rfl ?_
    refine cs_get (s := s) (w := .ref (o + 3)) fl_X7_15 dX7_addThing_13 (hO.ob 2 (by decide) rfl) rfl ?_
    refine jg_aload_n dX7_addThing_16 rfl ?_
    refine cs_get (s := s) (w := .int (s.1 (o + 2) 3)) fl_X7_64 dX7_addThing_17 (hO.ob 2 (by decide) rfl) rfl ?_
    refine jg_iload_n dX7_addThing_20 rfl ?_
    obtain ⟨q2, h⟩ := gd_some h
    refine cs_sta (s := s) (q := (o + 3)) (i := (s.1 (o + 2) 3)) (x := a1) dX7_addThing_21 (hO.ar 3 (by decide) rfl) q2 ?_
    refine jg_aload_n dX7_addThing_22 rfl ?_
    refine cs_get (s := (ca s (o + 3) (s.1 (o + 2) 3) a1)) (w := .ref (o + 4)) fl_X7_19 dX7_addThing_23 (hO.ob 2 (by decide) rfl) rfl ?_
    refine jg_aload_n dX7_addThing_26 rfl ?_
    refine cs_get (s := (ca s (o + 3) (s.1 (o + 2) 3) a1)) (w := .int ((ca s (o + 3) (s.1 (o + 2) 3) a1).1 (o + 2) 3)) fl_X7_64 dX7_addThing_27 (hO.ob 2 (by decide) rfl) rfl ?_
    refine jg_iload_n dX7_addThing_30 rfl ?_
    obtain ⟨q3, h⟩ := gd_some h
    refine cs_sta (s := (ca s (o + 3) (s.1 (o + 2) 3) a1)) (q := (o + 4)) (i := ((ca s (o + 3) (s.1 (o + 2) 3) a1).1 (o + 2) 3)) (x := a2) dX7_addThing_31 (hO.ar 4 (by decide) rfl) q3 ?_
    obtain ⟨x4, e_x4, h⟩ := bd_some h
    refine cs_sub (Option.some.inj e_x4) ?_
    refine jg_aload_n dX7_addThing_32 rfl ?_
    refine jg_dup dX7_addThing_33 rfl ?_
    refine cs_get (s := x4) (w := .int (x4.1 (o + 2) 3)) fl_X7_64 dX7_addThing_34 (hO.ob 2 (by decide) rfl) rfl ?_
    refine jg_iconst (v := nI 1) dX7_addThing_37 (by decide) ?_
    refine jg_iadd (x := (x4.1 (o + 2) 3)) (y := (nI 1)) dX7_addThing_38  ?_
    refine cs_put (s := x4) (k := 3) (x := ((x4.1 (o + 2) 3) + (nI 1))) fl_X7_64 dX7_addThing_39 (hO.ob 2 (by decide) rfl) (ltb rfl) (rfl) rfl rfl ?_
    obtain rfl := Option.some.inj h
    exact jg_return dX7_addThing_42 rfl ⟨rfl, rfl⟩
theorem dX7_findThings_0 : decode cX7_findThings 0 = .ok (.aload_n 0, 1) := by decide +kernel
theorem dX7_findThings_1 : decode cX7_findThings 1 = .ok (.iconst 0, 1) := by decide +kernel
theorem dX7_findThings_2 : decode cX7_findThings 2 = .ok (.putfield 64, 3) := by decide +kernel
theorem dX7_findThings_5 : decode cX7_findThings 5 = .ok (.iconst 0, 1) := by decide +kernel
theorem dX7_findThings_6 : decode cX7_findThings 6 = .ok (.istore_n 3, 1) := by decide +kernel
theorem dX7_findThings_7 : decode cX7_findThings 7 = .ok (.iload_n 3, 1) := by decide +kernel
theorem dX7_findThings_8 : decode cX7_findThings 8 = .ok (.iload_n 2, 1) := by decide +kernel
theorem dX7_findThings_9 : decode cX7_findThings 9 = .ok (.if_icmp .ge 59, 3) := by decide +kernel
theorem dX7_findThings_12 : decode cX7_findThings 12 = .ok (.iload_n 3, 1) := by decide +kernel
theorem dX7_findThings_13 : decode cX7_findThings 13 = .ok (.iconst 1, 1) := by decide +kernel
theorem dX7_findThings_14 : decode cX7_findThings 14 = .ok (.iadd, 1) := by decide +kernel
theorem dX7_findThings_15 : decode cX7_findThings 15 = .ok (.istore 4, 2) := by decide +kernel
theorem dX7_findThings_17 : decode cX7_findThings 17 = .ok (.iload 4, 2) := by decide +kernel
theorem dX7_findThings_19 : decode cX7_findThings 19 = .ok (.iload_n 2, 1) := by decide +kernel
theorem dX7_findThings_20 : decode cX7_findThings 20 = .ok (.if_icmp .ge 22, 3) := by decide +kernel
theorem dX7_findThings_23 : decode cX7_findThings 23 = .ok (.aload_n 1, 1) := by decide +kernel
theorem dX7_findThings_24 : decode cX7_findThings 24 = .ok (.iload_n 3, 1) := by decide +kernel
theorem dX7_findThings_25 : decode cX7_findThings 25 = .ok (.baload, 1) := by decide +kernel
theorem dX7_findThings_26 : decode cX7_findThings 26 = .ok (.aload_n 1, 1) := by decide +kernel
theorem dX7_findThings_27 : decode cX7_findThings 27 = .ok (.iload 4, 2) := by decide +kernel
theorem dX7_findThings_29 : decode cX7_findThings 29 = .ok (.baload, 1) := by decide +kernel
theorem dX7_findThings_30 : decode cX7_findThings 30 = .ok (.invokestatic 78, 3) := by decide +kernel
theorem dX7_findThings_33 : decode cX7_findThings 33 = .ok (.ifCond .eq 9, 3) := by decide +kernel
theorem dX7_findThings_36 : decode cX7_findThings 36 = .ok (.iinc 4 1, 3) := by decide +kernel
theorem dX7_findThings_39 : decode cX7_findThings 39 = .ok (.goto (-22), 3) := by decide +kernel
theorem dX7_findThings_42 : decode cX7_findThings 42 = .ok (.aload_n 1, 1) := by decide +kernel
theorem dX7_findThings_43 : decode cX7_findThings 43 = .ok (.iload_n 3, 1) := by decide +kernel
theorem dX7_findThings_44 : decode cX7_findThings 44 = .ok (.baload, 1) := by decide +kernel
theorem dX7_findThings_45 : decode cX7_findThings 45 = .ok (.bipush 32, 2) := by decide +kernel
theorem dX7_findThings_47 : decode cX7_findThings 47 = .ok (.if_icmp .eq 15, 3) := by decide +kernel
theorem dX7_findThings_50 : decode cX7_findThings 50 = .ok (.aload_n 0, 1) := by decide +kernel
theorem dX7_findThings_51 : decode cX7_findThings 51 = .ok (.aload_n 1, 1) := by decide +kernel
theorem dX7_findThings_52 : decode cX7_findThings 52 = .ok (.iload_n 3, 1) := by decide +kernel
theorem dX7_findThings_53 : decode cX7_findThings 53 = .ok (.iload 4, 2) := by decide +kernel
theorem dX7_findThings_55 : decode cX7_findThings 55 = .ok (.invokestatic 82, 3) := by decide +kernel
theorem dX7_findThings_58 : decode cX7_findThings 58 = .ok (.iload_n 3, 1) := by decide +kernel
theorem dX7_findThings_59 : decode cX7_findThings 59 = .ok (.invokevirtual 86, 3) := by decide +kernel
theorem dX7_findThings_62 : decode cX7_findThings 62 = .ok (.iload 4, 2) := by decide +kernel
theorem dX7_findThings_64 : decode cX7_findThings 64 = .ok (.istore_n 3, 1) := by decide +kernel
theorem dX7_findThings_65 : decode cX7_findThings 65 = .ok (.goto (-58), 3) := by decide +kernel
theorem dX7_findThings_68 : decode cX7_findThings 68 = .ok (.aload_n 0, 1) := by decide +kernel
theorem dX7_findThings_69 : decode cX7_findThings 69 = .ok (.bipush (-2), 2) := by decide +kernel
theorem dX7_findThings_71 : decode cX7_findThings 71 = .ok (.iload_n 2, 1) := by decide +kernel
theorem dX7_findThings_72 : decode cX7_findThings 72 = .ok (.invokevirtual 86, 3) := by decide +kernel
theorem dX7_findThings_75 : decode cX7_findThings 75 = .ok (.return_, 1) := by decide +kernel
noncomputable def o_X7_findThings_17 (F : Nat) (τ : cT) (n : Nat) (o : Nat) (a1 : Nat) (l2 : Int32) (l3 : Int32) (s : cS) : Nat → Int32 → Option (Int32)
  | 0, _ => none
  | f + 1, l4 => if l2 ≤ l4 then (some l4) else (if iL l3 400 then (if iL l4 400 then ((o_X7_goesOn τ n s (cg s a1 l3) (cg s a1 l4)).bind fun x5 => (if x5 = 0 then (some l4) else (o_X7_findThings_17 F τ n o a1 l2 l3 s f (l4 + nI 1)))) else none) else none)
set_option maxHeartbeats 4000000 in
theorem t_X7_findThings_17 {Γ : jg_G} {g : Nat → jg_C} (F : Nat) (τ : cT) (n : Nat) (o : Nat) (a1 : Nat) (l2 : Int32) (l3 : Int32) (s : cS) (hO : Sh τ n o) (h1 : Ar τ n a1 1 400) (Q : jg_Q) {x : Int32} (K1 : jg Γ mX7_findThings 7 0 0 42 [some (.ref (o + 2)), some (.ref a1), some (.int l2), some (.int l3), some (.int x)] [] (ct_h g τ s, n) Q)  : ∀ (f : Nat) (l4 : Int32), o_X7_findThings_17 F τ n o a1 l2 l3 s f l4 = some x → jg Γ mX7_findThings 7 0 0 17 [some (.ref (o + 2)), some (.ref a1), some (.int l2), some (.int l3), some (.int l4)] [] (ct_h g τ s, n) Q := by
  intro f
  induction f with
  | zero => intro l4 h; rw [o_X7_findThings_17] at h; cases h
  | succ f ih =>
   intro l4 h
   rw [o_X7_findThings_17] at h
   refine jg_iload dX7_findThings_17 rfl ?_
   refine jg_iload_n dX7_findThings_19 rfl ?_
   refine jg_icmp_ge (x := l4) (y := l2) (tgt := 42) dX7_findThings_20 (by decide) (fun c2 => ?_) (fun c2 => ?_)
   · replace h := it_t c2 h
     refine jg_fg (L' := [some (.ref (o + 2)), some (.ref a1), some (.int l2), some (.int l3), some (.int l4)]) (by repeat (first | exact trivial | refine ⟨rfl, ?_⟩ | show jg_le _ _)) ?_
     obtain rfl := Option.some.inj h
     exact K1
   · replace h := it_f c2 h
     refine jg_aload_n dX7_findThings_23 rfl ?_
     refine jg_iload_n dX7_findThings_24 rfl ?_
     obtain ⟨q3, h⟩ := gd_some h
     refine cs_ldb (s := s) (q := a1) (i := l3) dX7_findThings_25 h1 q3 ?_
     refine jg_aload_n dX7_findThings_26 rfl ?_
     refine jg_iload dX7_findThings_27 rfl ?_
     obtain ⟨q4, h⟩ := gd_some h
     refine cs_ldb (s := s) (q := a1) (i := l4) dX7_findThings_29 h1 q4 ?_
     obtain ⟨x5, e_x5, h⟩ := bd_some h
     refine cs_callS (As := [.int (cg s a1 l3), .int (cg s a1 l4)]) ks_X7_78 dX7_findThings_30 rfl (by decide) (Nat.le_of_ble_eq_true rfl) rfl (by decide) (Nat.le_of_ble_eq_true rfl) (t_X7_goesOn τ n s (cg s a1 l3) (cg s a1 l4) e_x5) ?_
     refine jg_if_eq (x := x5) (tgt := 42) dX7_findThings_33 (by decide) (fun c6 => ?_) (fun c6 => ?_)
     · replace h := it_t c6 h
       refine jg_fg (L' := [some (.ref (o + 2)), some (.ref a1), some (.int l2), some (.int l3), some (.int l4)]) (by repeat (first | exact trivial | refine ⟨rfl, ?_⟩ | show jg_le _ _)) ?_
       obtain rfl := Option.some.inj h
       exact K1
     · replace h := it_f c6 h
       refine jg_iinc (x := l4) (v := l4 + nI 1) (L' := [some (.ref (o + 2)), some (.ref a1), some (.int l2), some (.int l3), some (.int (l4 + nI 1))]) dX7_findThings_36 rfl (ic_k _ (by decide)) (by decide) rfl ?_
       refine jg_goto (tgt := 17) dX7_findThings_39 (by decide) ?_
       refine jg_fg (L' := [some (.ref (o + 2)), some (.ref a1), some (.int l2), some (.int l3), some (.int (l4 + nI 1))]) (by repeat (first | exact trivial | refine ⟨rfl, ?_⟩ | show jg_le _ _)) ?_
       exact ih (l4 + nI 1) h
noncomputable def o_X7_findThings_7 (F : Nat) (τ : cT) (n : Nat) (o : Nat) (a1 : Nat) (l2 : Int32)  : Nat → Int32 → cS → Option (cS)
  | 0, _, _ => none
  | f + 1, l3, s => if l2 ≤ l3 then (some s) else ((o_X7_findThings_17 F τ n o a1 l2 l3 s F (l3 + (nI 1))).bind fun x7 => (if iL l3 400 then (if (cg s a1 l3) = (nI 32) then (o_X7_findThings_7 F τ n o a1 l2 f x7 s) else ((o_X7_thingOf F τ n a1 s l3 x7).bind fun x10 => ((o_X7_addThing τ n o s x10 l3).bind fun x11 => (o_X7_findThings_7 F τ n o a1 l2 f x7 x11)))) else none))
set_option maxHeartbeats 4000000 in
theorem t_X7_findThings_7 {Γ : jg_G} {g : Nat → jg_C} (F : Nat) (τ : cT) (n : Nat) (o : Nat) (a1 : Nat) (l2 : Int32)  (hO : Sh τ n o) (h1 : Ar τ n a1 1 400) (Q : jg_Q) {x : cS} (K1 : jg Γ mX7_findThings 7 0 0 68 [some (.ref (o + 2)), none, some (.int l2), none, none] [] (ct_h g τ x, n) Q)  : ∀ (f : Nat) (l3 : Int32) (s : cS), o_X7_findThings_7 F τ n o a1 l2 f l3 s = some x → jg Γ mX7_findThings 7 0 0 7 [some (.ref (o + 2)), some (.ref a1), some (.int l2), some (.int l3), none] [] (ct_h g τ s, n) Q := by
  intro f
  induction f with
  | zero => intro l3 s h; rw [o_X7_findThings_7] at h; cases h
  | succ f ih =>
   intro l3 s h
   rw [o_X7_findThings_7] at h
   refine jg_iload_n dX7_findThings_7 rfl ?_
   refine jg_iload_n dX7_findThings_8 rfl ?_
   refine jg_icmp_ge (x := l3) (y := l2) (tgt := 68) dX7_findThings_9 (by decide) (fun c1 => ?_) (fun c1 => ?_)
   · replace h := it_t c1 h
     refine jg_fg (L' := [some (.ref (o + 2)), none, some (.int l2), none, none]) (by repeat (first | exact trivial | refine ⟨rfl, ?_⟩ | show jg_le _ _)) ?_
     obtain rfl := Option.some.inj h
     exact K1
   · replace h := it_f c1 h
     refine jg_iload_n dX7_findThings_12 rfl ?_
     refine jg_iconst (v := nI 1) dX7_findThings_13 (by decide) ?_
     refine jg_iadd (x := l3) (y := (nI 1)) dX7_findThings_14  ?_
     refine jg_istore (L' := [some (.ref (o + 2)), some (.ref a1), some (.int l2), some (.int l3), some (.int (l3 + (nI 1)))]) dX7_findThings_15 (by decide) rfl ?_
     obtain ⟨x7, e_x7, h⟩ := bd_some h
     refine jg_fg (L' := [some (.ref (o + 2)), some (.ref a1), some (.int l2), some (.int l3), some (.int (l3 + (nI 1)))]) (by repeat (first | exact trivial | refine ⟨rfl, ?_⟩ | show jg_le _ _)) ?_
     refine t_X7_findThings_17  F τ n o a1 l2 l3 s hO h1 _ (x := x7) ?_ F (l3 + (nI 1)) e_x7
     refine jg_aload_n dX7_findThings_42 rfl ?_
     refine jg_iload_n dX7_findThings_43 rfl ?_
     obtain ⟨q8, h⟩ := gd_some h
     refine cs_ldb (s := s) (q := a1) (i := l3) dX7_findThings_44 h1 q8 ?_
     refine jg_bipush (v := nI 32) dX7_findThings_45 (by decide) ?_
     refine jg_icmp_eq (x := (cg s a1 l3)) (y := (nI 32)) (tgt := 62) dX7_findThings_47 (by decide) (fun c9 => ?_) (fun c9 => ?_)
     · replace h := it_t c9 h
       refine jg_iload dX7_findThings_62 rfl ?_
       refine jg_istore_n (L' := [some (.ref (o + 2)), some (.ref a1), some (.int l2), some (.int x7), some (.int x7)]) dX7_findThings_64 (by decide) rfl ?_
       refine jg_goto (tgt := 7) dX7_findThings_65 (by decide) ?_
       refine jg_fg (L' := [some (.ref (o + 2)), some (.ref a1), some (.int l2), some (.int x7), none]) (by repeat (first | exact trivial | refine ⟨rfl, ?_⟩ | show jg_le _ _)) ?_
       exact ih x7 s h
     · replace h := it_f c9 h
       refine jg_aload_n dX7_findThings_50 rfl ?_
       refine jg_aload_n dX7_findThings_51 rfl ?_
       refine jg_iload_n dX7_findThings_52 rfl ?_
       refine jg_iload dX7_findThings_53 rfl ?_
       obtain ⟨x10, e_x10, h⟩ := bd_some h
       refine cs_callS (As := [.ref a1, .int l3, .int x7]) ks_X7_82 dX7_findThings_55 rfl (by decide) (Nat.le_of_ble_eq_true rfl) rfl (by decide) (Nat.le_of_ble_eq_true rfl) (t_X7_thingOf F τ n a1 s l3 x7 h1 e_x10) ?_
       refine jg_iload_n dX7_findThings_58 rfl ?_
       obtain ⟨x11, e_x11, h⟩ := bd_some h
       refine cs_call (q := (o + 2)) (As := [.int x10, .int l3]) kv_X7_86 dX7_findThings_59 (hO.ob 2 (by decide) rfl) rfl rfl (by decide) (Nat.le_of_ble_eq_true rfl) rfl (by decide) (Nat.le_of_ble_eq_true rfl) (t_X7_addThing τ n o s x10 l3 hO e_x11) ?_
       refine jg_iload dX7_findThings_62 rfl ?_
       refine jg_istore_n (L' := [some (.ref (o + 2)), some (.ref a1), some (.int l2), some (.int x7), some (.int x7)]) dX7_findThings_64 (by decide) rfl ?_
       refine jg_goto (tgt := 7) dX7_findThings_65 (by decide) ?_
       refine jg_fg (L' := [some (.ref (o + 2)), some (.ref a1), some (.int l2), some (.int x7), none]) (by repeat (first | exact trivial | refine ⟨rfl, ?_⟩ | show jg_le _ _)) ?_
       exact ih x7 x11 h
noncomputable def o_X7_findThings (F : Nat) (τ : cT) (n : Nat) (o : Nat) (a1 : Nat) (s : cS) (a2 : Int32) : Option (cS) := (o_X7_findThings_7 F τ n o a1 a2 F (nI 0) (cp s (o + 2) 3 (nI 0))).bind fun x12 => ((o_X7_addThing τ n o x12 (-2) a2).bind fun x13 => (some x13))
set_option maxHeartbeats 4000000 in
theorem t_X7_findThings {Γ : jg_G} {g : Nat → jg_C} (F : Nat) (τ : cT) (n : Nat) (o : Nat) (a1 : Nat) (s : cS) (a2 : Int32) (hO : Sh τ n o) (h1 : Ar τ n a1 1 400) {x : cS} (h : o_X7_findThings F τ n o a1 s a2 = some x) : jc Γ mX7_findThings 7 0 0 [some (.ref (o + 2)), some (.ref a1), some (.int a2), none, none] (ct_h g τ s, n) (.inl none) (ct_h g τ x, n) := by
  refine jc_of ?_
  rw [o_X7_findThings] at h
  refine jg_aload_n dX7_findThings_0 rfl ?_
  refine jg_iconst (v := nI 0) dX7_findThings_1 (by decide) ?_
  refine cs_put (s := s) (k := 3) (x := (nI 0)) fl_X7_64 dX7_findThings_2 (hO.ob 2 (by decide) rfl) (ltb rfl) (rfl) rfl rfl ?_
  refine jg_iconst (v := nI 0) dX7_findThings_5 (by decide) ?_
  refine jg_istore_n (L' := [some (.ref (o + 2)), some (.ref a1), some (.int a2), some (.int (nI 0)), none]) dX7_findThings_6 (by decide) rfl ?_
  obtain ⟨x12, e_x12, h⟩ := bd_some h
  refine jg_fg (L' := [some (.ref (o + 2)), some (.ref a1), some (.int a2), some (.int (nI 0)), none]) (by repeat (first | exact trivial | refine ⟨rfl, ?_⟩ | show jg_le _ _)) ?_
  refine t_X7_findThings_7  F τ n o a1 a2 hO h1 _ (x := x12) ?_ F (nI 0) (cp s (o + 2) 3 (nI 0)) e_x12
  refine jg_aload_n dX7_findThings_68 rfl ?_
  refine jg_bipush (v := (-2)) dX7_findThings_69 (by decide) ?_
  refine jg_iload_n dX7_findThings_71 rfl ?_
  obtain ⟨x13, e_x13, h⟩ := bd_some h
  refine cs_call (q := (o + 2)) (As := [.int (-2), .int a2]) kv_X7_86 dX7_findThings_72 (hO.ob 2 (by decide) rfl) rfl rfl (by decide) (Nat.le_of_ble_eq_true rfl) rfl (by decide) (Nat.le_of_ble_eq_true rfl) (t_X7_addThing τ n o x12 (-2) a2 hO e_x13) ?_
  obtain rfl := Option.some.inj h
  exact jg_return dX7_findThings_75 rfl ⟨rfl, rfl⟩
theorem dX7_thing_0 : decode cX7_thing 0 = .ok (.aload_n 0, 1) := by decide +kernel
theorem dX7_thing_1 : decode cX7_thing 1 = .ok (.getfield 47, 3) := by decide +kernel
theorem dX7_thing_4 : decode cX7_thing 4 = .ok (.aload_n 0, 1) := by decide +kernel
theorem dX7_thing_5 : decode cX7_thing 5 = .ok (.getfield 64, 3) := by decide +kernel
theorem dX7_thing_8 : decode cX7_thing 8 = .ok (.if_icmp .ge 15, 3) := by decide +kernel
theorem dX7_thing_11 : decode cX7_thing 11 = .ok (.aload_n 0, 1) := by decide +kernel
theorem dX7_thing_12 : decode cX7_thing 12 = .ok (.getfield 15, 3) := by decide +kernel
theorem dX7_thing_15 : decode cX7_thing 15 = .ok (.aload_n 0, 1) := by decide +kernel
theorem dX7_thing_16 : decode cX7_thing 16 = .ok (.getfield 47, 3) := by decide +kernel
theorem dX7_thing_19 : decode cX7_thing 19 = .ok (.iaload, 1) := by decide +kernel
theorem dX7_thing_20 : decode cX7_thing 20 = .ok (.goto 5, 3) := by decide +kernel
theorem dX7_thing_23 : decode cX7_thing 23 = .ok (.bipush (-2), 2) := by decide +kernel
theorem dX7_thing_25 : decode cX7_thing 25 = .ok (.ireturn, 1) := by decide +kernel
noncomputable def o_X7_thing (τ : cT) (n : Nat) (o : Nat) (s : cS) : Option (Int32) := if (s.1 (o + 2) 3) ≤ (s.1 (o + 2) 4) then (some (-2)) else (if iL (s.1 (o + 2) 4) 401 then (some (cg s (o + 3) (s.1 (o + 2) 4))) else none)
set_option maxHeartbeats 4000000 in
theorem t_X7_thing {Γ : jg_G} {g : Nat → jg_C} (τ : cT) (n : Nat) (o : Nat) (s : cS) (hO : Sh τ n o) {x : Int32} (h : o_X7_thing τ n o s = some x) : jc Γ mX7_thing 0 0 0 [some (.ref (o + 2))] (ct_h g τ s, n) (.inl (some (.int x))) (ct_h g τ s, n) := by
  refine jc_of ?_
  rw [o_X7_thing] at h
  refine jg_aload_n dX7_thing_0 rfl ?_
  refine cs_get (s := s) (w := .int (s.1 (o + 2) 4)) fl_X7_47 dX7_thing_1 (hO.ob 2 (by decide) rfl) rfl ?_
  refine jg_aload_n dX7_thing_4 rfl ?_
  refine cs_get (s := s) (w := .int (s.1 (o + 2) 3)) fl_X7_64 dX7_thing_5 (hO.ob 2 (by decide) rfl) rfl ?_
  refine jg_icmp_ge (x := (s.1 (o + 2) 4)) (y := (s.1 (o + 2) 3)) (tgt := 23) dX7_thing_8 (by decide) (fun c1 => ?_) (fun c1 => ?_)
  · replace h := it_t c1 h
    refine jg_bipush (v := (-2)) dX7_thing_23 (by decide) ?_
    obtain rfl := Option.some.inj h
    exact jg_ireturn dX7_thing_25 rfl ⟨rfl, rfl⟩
  · replace h := it_f c1 h
    refine jg_aload_n dX7_thing_11 rfl ?_
    refine cs_get (s := s) (w := .ref (o + 3)) fl_X7_15 dX7_thing_12 (hO.ob 2 (by decide) rfl) rfl ?_
    refine jg_aload_n dX7_thing_15 rfl ?_
    refine cs_get (s := s) (w := .int (s.1 (o + 2) 4)) fl_X7_47 dX7_thing_16 (hO.ob 2 (by decide) rfl) rfl ?_
    obtain ⟨q2, h⟩ := gd_some h
    refine cs_lda (s := s) (q := (o + 3)) (i := (s.1 (o + 2) 4)) dX7_thing_19 (hO.ar 3 (by decide) rfl) q2 ?_
    refine jg_goto (tgt := 25) dX7_thing_20 (by decide) ?_
    obtain rfl := Option.some.inj h
    exact jg_ireturn dX7_thing_25 rfl ⟨rfl, rfl⟩
theorem dX7_keyOf_0 : decode cX7_keyOf 0 = .ok (.iload_n 0, 1) := by decide +kernel
theorem dX7_keyOf_1 : decode cX7_keyOf 1 = .ok (.lookupswitch 51 #[(307, 45), (308, 47), (400, 43), (401, 49)], 43) := by decide +kernel
theorem dX7_keyOf_44 : decode cX7_keyOf 44 = .ok (.iconst 0, 1) := by decide +kernel
theorem dX7_keyOf_45 : decode cX7_keyOf 45 = .ok (.ireturn, 1) := by decide +kernel
theorem dX7_keyOf_46 : decode cX7_keyOf 46 = .ok (.iconst 1, 1) := by decide +kernel
theorem dX7_keyOf_47 : decode cX7_keyOf 47 = .ok (.ireturn, 1) := by decide +kernel
theorem dX7_keyOf_48 : decode cX7_keyOf 48 = .ok (.iconst 2, 1) := by decide +kernel
theorem dX7_keyOf_49 : decode cX7_keyOf 49 = .ok (.ireturn, 1) := by decide +kernel
theorem dX7_keyOf_50 : decode cX7_keyOf 50 = .ok (.iconst 3, 1) := by decide +kernel
theorem dX7_keyOf_51 : decode cX7_keyOf 51 = .ok (.ireturn, 1) := by decide +kernel
theorem dX7_keyOf_52 : decode cX7_keyOf 52 = .ok (.iconst (-1), 1) := by decide +kernel
theorem dX7_keyOf_53 : decode cX7_keyOf 53 = .ok (.ireturn, 1) := by decide +kernel
noncomputable def o_X7_keyOf (τ : cT) (n : Nat) (s : cS) (a1 : Int32) : Option (Int32) := if a1 = nI 307 then (some (nI 1)) else (if a1 = nI 308 then (some (nI 2)) else (if a1 = nI 400 then (some (nI 0)) else (if a1 = nI 401 then (some (nI 3)) else (some (-1)))))
set_option maxHeartbeats 4000000 in
theorem t_X7_keyOf {Γ : jg_G} {g : Nat → jg_C} (τ : cT) (n : Nat) (s : cS) (a1 : Int32)  {x : Int32} (h : o_X7_keyOf τ n s a1 = some x) : jc Γ mX7_keyOf 0 0 0 [some (.int a1)] (ct_h g τ s, n) (.inl (some (.int x))) (ct_h g τ s, n) := by
  refine jc_of ?_
  rw [o_X7_keyOf] at h
  refine jg_iload_n dX7_keyOf_0 rfl ?_
  by_cases c1 : a1 = nI 307
  · replace h := it_t c1 h
    refine jg_lookup (off := 45) (tgt := 46) dX7_keyOf_1 (by decide) (by rw [c1]; rfl) (by decide) ?_
    refine jg_iconst (v := nI 1) dX7_keyOf_46 (by decide) ?_
    obtain rfl := Option.some.inj h
    exact jg_ireturn dX7_keyOf_47 rfl ⟨rfl, rfl⟩
  replace h := it_f c1 h
  by_cases c2 : a1 = nI 308
  · replace h := it_t c2 h
    refine jg_lookup (off := 47) (tgt := 48) dX7_keyOf_1 (by decide) (by rw [c2]; rfl) (by decide) ?_
    refine jg_iconst (v := nI 2) dX7_keyOf_48 (by decide) ?_
    obtain rfl := Option.some.inj h
    exact jg_ireturn dX7_keyOf_49 rfl ⟨rfl, rfl⟩
  replace h := it_f c2 h
  by_cases c3 : a1 = nI 400
  · replace h := it_t c3 h
    refine jg_lookup (off := 43) (tgt := 44) dX7_keyOf_1 (by decide) (by rw [c3]; rfl) (by decide) ?_
    refine jg_iconst (v := nI 0) dX7_keyOf_44 (by decide) ?_
    obtain rfl := Option.some.inj h
    exact jg_ireturn dX7_keyOf_45 rfl ⟨rfl, rfl⟩
  replace h := it_f c3 h
  by_cases c4 : a1 = nI 401
  · replace h := it_t c4 h
    refine jg_lookup (off := 49) (tgt := 50) dX7_keyOf_1 (by decide) (by rw [c4]; rfl) (by decide) ?_
    refine jg_iconst (v := nI 3) dX7_keyOf_50 (by decide) ?_
    obtain rfl := Option.some.inj h
    exact jg_ireturn dX7_keyOf_51 rfl ⟨rfl, rfl⟩
  replace h := it_f c4 h
  refine jg_lookup (off := 51) (tgt := 52) dX7_keyOf_1 (by decide) (by show (if (307 : Int) = (a1).toInt then (45 : Int) else if (308 : Int) = (a1).toInt then (47 : Int) else if (400 : Int) = (a1).toInt then (43 : Int) else if (401 : Int) = (a1).toInt then (49 : Int) else (51 : Int)) = _; rw [if_neg (show ¬ (307 : Int) = (a1).toInt from fun e9 => c1 (lk_eq (by decide) e9)), if_neg (show ¬ (308 : Int) = (a1).toInt from fun e9 => c2 (lk_eq (by decide) e9)), if_neg (show ¬ (400 : Int) = (a1).toInt from fun e9 => c3 (lk_eq (by decide) e9)), if_neg (show ¬ (401 : Int) = (a1).toInt from fun e9 => c4 (lk_eq (by decide) e9))]) (by decide) ?_
  refine jg_iconst (v := (-1)) dX7_keyOf_52 (by decide) ?_
  obtain rfl := Option.some.inj h
  exact jg_ireturn dX7_keyOf_53 rfl ⟨rfl, rfl⟩
theorem dX7_mostOf_0 : decode cX7_mostOf 0 = .ok (.iload_n 0, 1) := by decide +kernel
theorem dX7_mostOf_1 : decode cX7_mostOf 1 = .ok (.iconst 2, 1) := by decide +kernel
theorem dX7_mostOf_2 : decode cX7_mostOf 2 = .ok (.if_icmp .eq 9, 3) := by decide +kernel
theorem dX7_mostOf_5 : decode cX7_mostOf 5 = .ok (.iload_n 0, 1) := by decide +kernel
theorem dX7_mostOf_6 : decode cX7_mostOf 6 = .ok (.bipush 6, 2) := by decide +kernel
theorem dX7_mostOf_8 : decode cX7_mostOf 8 = .ok (.if_icmp .ne 6, 3) := by decide +kernel
theorem dX7_mostOf_11 : decode cX7_mostOf 11 = .ok (.bipush 100, 2) := by decide +kernel
theorem dX7_mostOf_13 : decode cX7_mostOf 13 = .ok (.ireturn, 1) := by decide +kernel
theorem dX7_mostOf_14 : decode cX7_mostOf 14 = .ok (.iload_n 0, 1) := by decide +kernel
theorem dX7_mostOf_15 : decode cX7_mostOf 15 = .ok (.iconst 5, 1) := by decide +kernel
theorem dX7_mostOf_16 : decode cX7_mostOf 16 = .ok (.if_icmp .ne 8, 3) := by decide +kernel
theorem dX7_mostOf_19 : decode cX7_mostOf 19 = .ok (.bipush 50, 2) := by decide +kernel
theorem dX7_mostOf_21 : decode cX7_mostOf 21 = .ok (.goto 5, 3) := by decide +kernel
theorem dX7_mostOf_24 : decode cX7_mostOf 24 = .ok (.ldc 132, 2) := by decide +kernel
theorem dX7_mostOf_26 : decode cX7_mostOf 26 = .ok (.ireturn, 1) := by decide +kernel
noncomputable def o_X7_mostOf (τ : cT) (n : Nat) (s : cS) (a1 : Int32) : Option (Int32) := if a1 = (nI 2) then (some (nI 100)) else (if a1 = (nI 6) then (some (nI 100)) else (if a1 = (nI 5) then (some (nI 50)) else (some (nI 999999))))
set_option maxHeartbeats 4000000 in
theorem t_X7_mostOf {Γ : jg_G} {g : Nat → jg_C} (τ : cT) (n : Nat) (s : cS) (a1 : Int32)  {x : Int32} (h : o_X7_mostOf τ n s a1 = some x) : jc Γ mX7_mostOf 0 0 0 [some (.int a1)] (ct_h g τ s, n) (.inl (some (.int x))) (ct_h g τ s, n) := by
  refine jc_of ?_
  rw [o_X7_mostOf] at h
  refine jg_iload_n dX7_mostOf_0 rfl ?_
  refine jg_iconst (v := nI 2) dX7_mostOf_1 (by decide) ?_
  refine jg_icmp_eq (x := a1) (y := (nI 2)) (tgt := 11) dX7_mostOf_2 (by decide) (fun c1 => ?_) (fun c1 => ?_)
  · replace h := it_t c1 h
    refine jg_bipush (v := nI 100) dX7_mostOf_11 (by decide) ?_
    obtain rfl := Option.some.inj h
    exact jg_ireturn dX7_mostOf_13 rfl ⟨rfl, rfl⟩
  · replace h := it_f c1 h
    refine jg_iload_n dX7_mostOf_5 rfl ?_
    refine jg_bipush (v := nI 6) dX7_mostOf_6 (by decide) ?_
    refine jg_icmp_ne (x := a1) (y := (nI 6)) (tgt := 14) dX7_mostOf_8 (by decide) (fun c2 => ?_) (fun c2 => ?_)
    · replace h := it_f c2 h
      refine jg_iload_n dX7_mostOf_14 rfl ?_
      refine jg_iconst (v := nI 5) dX7_mostOf_15 (by decide) ?_
      refine jg_icmp_ne (x := a1) (y := (nI 5)) (tgt := 24) dX7_mostOf_16 (by decide) (fun c3 => ?_) (fun c3 => ?_)
      · replace h := it_f c3 h
        refine jg_ldc kk_X7_132 dX7_mostOf_24 ?_
        rw [show (999999 : Int32) = nI 999999 from rfl]
        obtain rfl := Option.some.inj h
        exact jg_ireturn dX7_mostOf_26 rfl ⟨rfl, rfl⟩
      · replace h := it_t c3 h
        refine jg_bipush (v := nI 50) dX7_mostOf_19 (by decide) ?_
        refine jg_goto (tgt := 26) dX7_mostOf_21 (by decide) ?_
        obtain rfl := Option.some.inj h
        exact jg_ireturn dX7_mostOf_26 rfl ⟨rfl, rfl⟩
    · replace h := it_t c2 h
      refine jg_bipush (v := nI 100) dX7_mostOf_11 (by decide) ?_
      obtain rfl := Option.some.inj h
      exact jg_ireturn dX7_mostOf_13 rfl ⟨rfl, rfl⟩
theorem dX7_addStep_0 : decode cX7_addStep 0 = .ok (.aload_n 0, 1) := by decide +kernel
theorem dX7_addStep_1 : decode cX7_addStep 1 = .ok (.getfield 53, 3) := by decide +kernel
theorem dX7_addStep_4 : decode cX7_addStep 4 = .ok (.aload_n 0, 1) := by decide +kernel
theorem dX7_addStep_5 : decode cX7_addStep 5 = .ok (.getfield 31, 3) := by decide +kernel
theorem dX7_addStep_8 : decode cX7_addStep 8 = .ok (.arraylength, 1) := by decide +kernel
theorem dX7_addStep_9 : decode cX7_addStep 9 = .ok (.if_icmp .ge 33, 3) := by decide +kernel
theorem dX7_addStep_12 : decode cX7_addStep 12 = .ok (.aload_n 0, 1) := by decide +kernel
theorem dX7_addStep_13 : decode cX7_addStep 13 = .ok (.getfield 31, 3) := by decide +kernel
theorem dX7_addStep_16 : decode cX7_addStep 16 = .ok (.aload_n 0, 1) := by decide +kernel
theorem dX7_addStep_17 : decode cX7_addStep 17 = .ok (.getfield 53, 3) := by decide +kernel
theorem dX7_addStep_20 : decode cX7_addStep 20 = .ok (.iload_n 1, 1) := by decide +kernel
theorem dX7_addStep_21 : decode cX7_addStep 21 = .ok (.iastore, 1) := by decide +kernel
theorem dX7_addStep_22 : decode cX7_addStep 22 = .ok (.aload_n 0, 1) := by decide +kernel
theorem dX7_addStep_23 : decode cX7_addStep 23 = .ok (.getfield 34, 3) := by decide +kernel
theorem dX7_addStep_26 : decode cX7_addStep 26 = .ok (.aload_n 0, 1) := by decide +kernel
theorem dX7_addStep_27 : decode cX7_addStep 27 = .ok (.getfield 53, 3) := by decide +kernel
theorem dX7_addStep_30 : decode cX7_addStep 30 = .ok (.iload_n 2, 1) := by decide +kernel
theorem dX7_addStep_31 : decode cX7_addStep 31 = .ok (.iastore, 1) := by decide +kernel
theorem dX7_addStep_32 : decode cX7_addStep 32 = .ok (.aload_n 0, 1) := by decide +kernel
theorem dX7_addStep_33 : decode cX7_addStep 33 = .ok (.dup, 1) := by decide +kernel
theorem dX7_addStep_34 : decode cX7_addStep 34 = .ok (.getfield 53, 3) := by decide +kernel
theorem dX7_addStep_37 : decode cX7_addStep 37 = .ok (.iconst 1, 1) := by decide +kernel
theorem dX7_addStep_38 : decode cX7_addStep 38 = .ok (.iadd, 1) := by decide +kernel
theorem dX7_addStep_39 : decode cX7_addStep 39 = .ok (.putfield 53, 3) := by decide +kernel
theorem dX7_addStep_42 : decode cX7_addStep 42 = .ok (.return_, 1) := by decide +kernel
noncomputable def o_X7_addStep (τ : cT) (n : Nat) (o : Nat) (s : cS) (a1 : Int32) (a2 : Int32) : Option (cS) := if (nI 400) ≤ (s.1 (o + 2) 11) then (some s) else (if iL (s.1 (o + 2) 11) 400 then (if iL ((ca s (o + 8) (s.1 (o + 2) 11) a1).1 (o + 2) 11) 400 then ((some (ca (ca s (o + 8) (s.1 (o + 2) 11) a1) (o + 9) ((ca s (o + 8) (s.1 (o + 2) 11) a1).1 (o + 2) 11) a2)).bind fun x4 => (some (cp x4 (o + 2) 11 ((x4.1 (o + 2) 11) + (nI 1))))) else none) else none)
set_option maxHeartbeats 4000000 in
theorem t_X7_addStep {Γ : jg_G} {g : Nat → jg_C} (τ : cT) (n : Nat) (o : Nat) (s : cS) (a1 : Int32) (a2 : Int32) (hO : Sh τ n o) {x : cS} (h : o_X7_addStep τ n o s a1 a2 = some x) : jc Γ mX7_addStep 0 0 0 [some (.ref (o + 2)), some (.int a1), some (.int a2)] (ct_h g τ s, n) (.inl none) (ct_h g τ x, n) := by
  refine jc_of ?_
  rw [o_X7_addStep] at h
  refine jg_aload_n dX7_addStep_0 rfl ?_
  refine cs_get (s := s) (w := .int (s.1 (o + 2) 11)) fl_X7_53 dX7_addStep_1 (hO.ob 2 (by decide) rfl) rfl ?_
  refine jg_aload_n dX7_addStep_4 rfl ?_
  refine cs_get (s := s) (w := .ref (o + 8)) fl_X7_31 dX7_addStep_5 (hO.ob 2 (by decide) rfl) rfl ?_
  refine cs_len (s := s) (q := (o + 8)) (by decide) dX7_addStep_8 (hO.ar 8 (by decide) rfl) ?_
  refine jg_icmp_ge (x := (s.1 (o + 2) 11)) (y := (nI 400)) (tgt := 42) dX7_addStep_9 (by decide) (fun c1 => ?_) (fun c1 => ?_)
  · replace h := it_t c1 h
    obtain rfl := Option.some.inj h
    exact jg_return dX7_addStep_42 rfl ⟨rfl, rfl⟩
  · replace h := it_f c1 h
    refine jg_aload_n dX7_addStep_12 rfl ?_
    refine cs_get (s := s) (w := .ref (o + 8)) fl_X7_31 dX7_addStep_13 (hO.ob 2 (by decide) rfl) rfl ?_
    refine jg_aload_n dX7_addStep_16 rfl ?_
    refine cs_get (s := s) (w := .int (s.1 (o + 2) 11)) fl_X7_53 dX7_addStep_17 (hO.ob 2 (by decide) rfl) rfl ?_
    refine jg_iload_n dX7_addStep_20 rfl ?_
    obtain ⟨q2, h⟩ := gd_some h
    refine cs_sta (s := s) (q := (o + 8)) (i := (s.1 (o + 2) 11)) (x := a1) dX7_addStep_21 (hO.ar 8 (by decide) rfl) q2 ?_
    refine jg_aload_n dX7_addStep_22 rfl ?_
    refine cs_get (s := (ca s (o + 8) (s.1 (o + 2) 11) a1)) (w := .ref (o + 9)) fl_X7_34 dX7_addStep_23 (hO.ob 2 (by decide) rfl) rfl ?_
    refine jg_aload_n dX7_addStep_26 rfl ?_
    refine cs_get (s := (ca s (o + 8) (s.1 (o + 2) 11) a1)) (w := .int ((ca s (o + 8) (s.1 (o + 2) 11) a1).1 (o + 2) 11)) fl_X7_53 dX7_addStep_27 (hO.ob 2 (by decide) rfl) rfl ?_
    refine jg_iload_n dX7_addStep_30 rfl ?_
    obtain ⟨q3, h⟩ := gd_some h
    refine cs_sta (s := (ca s (o + 8) (s.1 (o + 2) 11) a1)) (q := (o + 9)) (i := ((ca s (o + 8) (s.1 (o + 2) 11) a1).1 (o + 2) 11)) (x := a2) dX7_addStep_31 (hO.ar 9 (by decide) rfl) q3 ?_
    obtain ⟨x4, e_x4, h⟩ := bd_some h
    refine cs_sub (Option.some.inj e_x4) ?_
    refine jg_aload_n dX7_addStep_32 rfl ?_
    refine jg_dup dX7_addStep_33 rfl ?_
    refine cs_get (s := x4) (w := .int (x4.1 (o + 2) 11)) fl_X7_53 dX7_addStep_34 (hO.ob 2 (by decide) rfl) rfl ?_
    refine jg_iconst (v := nI 1) dX7_addStep_37 (by decide) ?_
    refine jg_iadd (x := (x4.1 (o + 2) 11)) (y := (nI 1)) dX7_addStep_38  ?_
    refine cs_put (s := x4) (k := 11) (x := ((x4.1 (o + 2) 11) + (nI 1))) fl_X7_53 dX7_addStep_39 (hO.ob 2 (by decide) rfl) (ltb rfl) (rfl) rfl rfl ?_
    obtain rfl := Option.some.inj h
    exact jg_return dX7_addStep_42 rfl ⟨rfl, rfl⟩
theorem dX7_readLimit_0 : decode cX7_readLimit 0 = .ok (.aload_n 0, 1) := by decide +kernel
theorem dX7_readLimit_1 : decode cX7_readLimit 1 = .ok (.invokevirtual 56, 3) := by decide +kernel
theorem dX7_readLimit_4 : decode cX7_readLimit 4 = .ok (.bipush 62, 2) := by decide +kernel
theorem dX7_readLimit_6 : decode cX7_readLimit 6 = .ok (.if_icmp .ne 7, 3) := by decide +kernel
theorem dX7_readLimit_9 : decode cX7_readLimit 9 = .ok (.iconst 1, 1) := by decide +kernel
theorem dX7_readLimit_10 : decode cX7_readLimit 10 = .ok (.goto 4, 3) := by decide +kernel
theorem dX7_readLimit_13 : decode cX7_readLimit 13 = .ok (.iconst 0, 1) := by decide +kernel
theorem dX7_readLimit_14 : decode cX7_readLimit 14 = .ok (.istore_n 2, 1) := by decide +kernel
theorem dX7_readLimit_15 : decode cX7_readLimit 15 = .ok (.iload_n 2, 1) := by decide +kernel
theorem dX7_readLimit_16 : decode cX7_readLimit 16 = .ok (.ifCond .ne 14, 3) := by decide +kernel
theorem dX7_readLimit_19 : decode cX7_readLimit 19 = .ok (.aload_n 0, 1) := by decide +kernel
theorem dX7_readLimit_20 : decode cX7_readLimit 20 = .ok (.invokevirtual 56, 3) := by decide +kernel
theorem dX7_readLimit_23 : decode cX7_readLimit 23 = .ok (.bipush 60, 2) := by decide +kernel
theorem dX7_readLimit_25 : decode cX7_readLimit 25 = .ok (.if_icmp .eq 5, 3) := by decide +kernel
theorem dX7_readLimit_28 : decode cX7_readLimit 28 = .ok (.iconst 0, 1) := by decide +kernel
theorem dX7_readLimit_29 : decode cX7_readLimit 29 = .ok (.ireturn, 1) := by decide +kernel
theorem dX7_readLimit_30 : decode cX7_readLimit 30 = .ok (.aload_n 0, 1) := by decide +kernel
theorem dX7_readLimit_31 : decode cX7_readLimit 31 = .ok (.dup, 1) := by decide +kernel
theorem dX7_readLimit_32 : decode cX7_readLimit 32 = .ok (.getfield 47, 3) := by decide +kernel
theorem dX7_readLimit_35 : decode cX7_readLimit 35 = .ok (.iconst 1, 1) := by decide +kernel
theorem dX7_readLimit_36 : decode cX7_readLimit 36 = .ok (.iadd, 1) := by decide +kernel
theorem dX7_readLimit_37 : decode cX7_readLimit 37 = .ok (.putfield 47, 3) := by decide +kernel
theorem dX7_readLimit_40 : decode cX7_readLimit 40 = .ok (.aload_n 0, 1) := by decide +kernel
theorem dX7_readLimit_41 : decode cX7_readLimit 41 = .ok (.invokevirtual 56, 3) := by decide +kernel
theorem dX7_readLimit_44 : decode cX7_readLimit 44 = .ok (.sipush 1000, 3) := by decide +kernel
theorem dX7_readLimit_47 : decode cX7_readLimit 47 = .ok (.isub, 1) := by decide +kernel
theorem dX7_readLimit_48 : decode cX7_readLimit 48 = .ok (.istore_n 3, 1) := by decide +kernel
theorem dX7_readLimit_49 : decode cX7_readLimit 49 = .ok (.iload_n 3, 1) := by decide +kernel
theorem dX7_readLimit_50 : decode cX7_readLimit 50 = .ok (.ifCond .ge 5, 3) := by decide +kernel
theorem dX7_readLimit_53 : decode cX7_readLimit 53 = .ok (.iconst 0, 1) := by decide +kernel
theorem dX7_readLimit_54 : decode cX7_readLimit 54 = .ok (.ireturn, 1) := by decide +kernel
theorem dX7_readLimit_55 : decode cX7_readLimit 55 = .ok (.aload_n 0, 1) := by decide +kernel
theorem dX7_readLimit_56 : decode cX7_readLimit 56 = .ok (.dup, 1) := by decide +kernel
theorem dX7_readLimit_57 : decode cX7_readLimit 57 = .ok (.getfield 47, 3) := by decide +kernel
theorem dX7_readLimit_60 : decode cX7_readLimit 60 = .ok (.iconst 1, 1) := by decide +kernel
theorem dX7_readLimit_61 : decode cX7_readLimit 61 = .ok (.iadd, 1) := by decide +kernel
theorem dX7_readLimit_62 : decode cX7_readLimit 62 = .ok (.putfield 47, 3) := by decide +kernel
theorem dX7_readLimit_65 : decode cX7_readLimit 65 = .ok (.aload_n 0, 1) := by decide +kernel
theorem dX7_readLimit_66 : decode cX7_readLimit 66 = .ok (.iload_n 2, 1) := by decide +kernel
theorem dX7_readLimit_67 : decode cX7_readLimit 67 = .ok (.ifCond .eq 10, 3) := by decide +kernel
theorem dX7_readLimit_70 : decode cX7_readLimit 70 = .ok (.bipush 12, 2) := by decide +kernel
theorem dX7_readLimit_72 : decode cX7_readLimit 72 = .ok (.iload_n 1, 1) := by decide +kernel
theorem dX7_readLimit_73 : decode cX7_readLimit 73 = .ok (.iadd, 1) := by decide +kernel
theorem dX7_readLimit_74 : decode cX7_readLimit 74 = .ok (.goto 4, 3) := by decide +kernel
theorem dX7_readLimit_77 : decode cX7_readLimit 77 = .ok (.iload_n 1, 1) := by decide +kernel
theorem dX7_readLimit_78 : decode cX7_readLimit 78 = .ok (.iload_n 3, 1) := by decide +kernel
theorem dX7_readLimit_79 : decode cX7_readLimit 79 = .ok (.invokevirtual 136, 3) := by decide +kernel
theorem dX7_readLimit_82 : decode cX7_readLimit 82 = .ok (.iconst 1, 1) := by decide +kernel
theorem dX7_readLimit_83 : decode cX7_readLimit 83 = .ok (.ireturn, 1) := by decide +kernel
noncomputable def o_X7_readLimit (τ : cT) (n : Nat) (o : Nat) (s : cS) (a1 : Int32) : Option (Int32 × cS) := (o_X7_thing τ n o s).bind fun x1 => (if x1 = (nI 62) then ((o_X7_thing τ n o (cp s (o + 2) 4 ((s.1 (o + 2) 4) + (nI 1)))).bind fun x9 => (if 0 ≤ (x9 - (nI 1000)) then ((some (cp (cp s (o + 2) 4 ((s.1 (o + 2) 4) + (nI 1))) (o + 2) 4 (((cp s (o + 2) 4 ((s.1 (o + 2) 4) + (nI 1))).1 (o + 2) 4) + (nI 1)))).bind fun x11 => ((o_X7_addStep τ n o x11 ((nI 12) + a1) (x9 - (nI 1000))).bind fun x12 => (some (nI 1, x12)))) else (some (nI 0, cp s (o + 2) 4 ((s.1 (o + 2) 4) + (nI 1)))))) else ((o_X7_thing τ n o s).bind fun x3 => (if x3 = (nI 60) then ((o_X7_thing τ n o (cp s (o + 2) 4 ((s.1 (o + 2) 4) + (nI 1)))).bind fun x5 => (if 0 ≤ (x5 - (nI 1000)) then ((some (cp (cp s (o + 2) 4 ((s.1 (o + 2) 4) + (nI 1))) (o + 2) 4 (((cp s (o + 2) 4 ((s.1 (o + 2) 4) + (nI 1))).1 (o + 2) 4) + (nI 1)))).bind fun x7 => ((o_X7_addStep τ n o x7 a1 (x5 - (nI 1000))).bind fun x8 => (some (nI 1, x8)))) else (some (nI 0, cp s (o + 2) 4 ((s.1 (o + 2) 4) + (nI 1)))))) else (some (nI 0, s)))))
set_option maxHeartbeats 4000000 in
theorem t_X7_readLimit {Γ : jg_G} {g : Nat → jg_C} (τ : cT) (n : Nat) (o : Nat) (s : cS) (a1 : Int32) (hO : Sh τ n o) {x : Int32 × cS} (h : o_X7_readLimit τ n o s a1 = some x) : jc Γ mX7_readLimit 1 0 0 [some (.ref (o + 2)), some (.int a1), none, none] (ct_h g τ s, n) (.inl (some (.int x.1))) (ct_h g τ x.2, n) := by
  refine jc_of ?_
  rw [o_X7_readLimit] at h
  refine jg_aload_n dX7_readLimit_0 rfl ?_
  obtain ⟨x1, e_x1, h⟩ := bd_some h
  refine cs_call (q := (o + 2)) (As := []) kv_X7_56 dX7_readLimit_1 (hO.ob 2 (by decide) rfl) rfl rfl (by decide) (Nat.le_of_ble_eq_true rfl) rfl (by decide) (Nat.le_of_ble_eq_true rfl) (t_X7_thing τ n o s hO e_x1) ?_
  refine jg_bipush (v := nI 62) dX7_readLimit_4 (by decide) ?_
  refine jg_icmp_ne (x := x1) (y := (nI 62)) (tgt := 13) dX7_readLimit_6 (by decide) (fun c2 => ?_) (fun c2 => ?_)
  · replace h := it_f c2 h
    refine jg_iconst (v := nI 0) dX7_readLimit_13 (by decide) ?_
    refine jg_istore_n (L' := [some (.ref (o + 2)), some (.int a1), some (.int (nI 0)), none]) dX7_readLimit_14 (by decide) rfl ?_
    refine jg_iload_n dX7_readLimit_15 rfl ?_
    refine jg_if_ne (x := (nI 0)) (tgt := 30) dX7_readLimit_16 (by decide) (fun q9 => absurd q9 (by decide)) (fun _ => ?_)
    refine jg_aload_n dX7_readLimit_19 rfl ?_
    obtain ⟨x3, e_x3, h⟩ := bd_some h
    refine cs_call (q := (o + 2)) (As := []) kv_X7_56 dX7_readLimit_20 (hO.ob 2 (by decide) rfl) rfl rfl (by decide) (Nat.le_of_ble_eq_true rfl) rfl (by decide) (Nat.le_of_ble_eq_true rfl) (t_X7_thing τ n o s hO e_x3) ?_
    refine jg_bipush (v := nI 60) dX7_readLimit_23 (by decide) ?_
    refine jg_icmp_eq (x := x3) (y := (nI 60)) (tgt := 30) dX7_readLimit_25 (by decide) (fun c4 => ?_) (fun c4 => ?_)
    · replace h := it_t c4 h
      refine jg_aload_n dX7_readLimit_30 rfl ?_
      refine jg_dup dX7_readLimit_31 rfl ?_
      refine cs_get (s := s) (w := .int (s.1 (o + 2) 4)) fl_X7_47 dX7_readLimit_32 (hO.ob 2 (by decide) rfl) rfl ?_
      refine jg_iconst (v := nI 1) dX7_readLimit_35 (by decide) ?_
      refine jg_iadd (x := (s.1 (o + 2) 4)) (y := (nI 1)) dX7_readLimit_36  ?_
      refine cs_put (s := s) (k := 4) (x := ((s.1 (o + 2) 4) + (nI 1))) fl_X7_47 dX7_readLimit_37 (hO.ob 2 (by decide) rfl) (ltb rfl) (rfl) rfl rfl ?_
      refine jg_aload_n dX7_readLimit_40 rfl ?_
      obtain ⟨x5, e_x5, h⟩ := bd_some h
      refine cs_call (q := (o + 2)) (As := []) kv_X7_56 dX7_readLimit_41 (hO.ob 2 (by decide) rfl) rfl rfl (by decide) (Nat.le_of_ble_eq_true rfl) rfl (by decide) (Nat.le_of_ble_eq_true rfl) (t_X7_thing τ n o (cp s (o + 2) 4 ((s.1 (o + 2) 4) + (nI 1))) hO e_x5) ?_
      refine jg_sipush (v := nI 1000) dX7_readLimit_44 (by decide) ?_
      refine jg_isub (x := x5) (y := (nI 1000)) dX7_readLimit_47  ?_
      refine jg_istore_n (L' := [some (.ref (o + 2)), some (.int a1), some (.int (nI 0)), some (.int (x5 - (nI 1000)))]) dX7_readLimit_48 (by decide) rfl ?_
      refine jg_iload_n dX7_readLimit_49 rfl ?_
      refine jg_if_ge (x := (x5 - (nI 1000))) (tgt := 55) dX7_readLimit_50 (by decide) (fun c6 => ?_) (fun c6 => ?_)
      · replace h := it_t c6 h
        refine jg_aload_n dX7_readLimit_55 rfl ?_
        refine jg_dup dX7_readLimit_56 rfl ?_
        refine cs_get (s := (cp s (o + 2) 4 ((s.1 (o + 2) 4) + (nI 1)))) (w := .int ((cp s (o + 2) 4 ((s.1 (o + 2) 4) + (nI 1))).1 (o + 2) 4)) fl_X7_47 dX7_readLimit_57 (hO.ob 2 (by decide) rfl) rfl ?_
        refine jg_iconst (v := nI 1) dX7_readLimit_60 (by decide) ?_
        refine jg_iadd (x := ((cp s (o + 2) 4 ((s.1 (o + 2) 4) + (nI 1))).1 (o + 2) 4)) (y := (nI 1)) dX7_readLimit_61  ?_
        refine cs_put (s := (cp s (o + 2) 4 ((s.1 (o + 2) 4) + (nI 1)))) (k := 4) (x := (((cp s (o + 2) 4 ((s.1 (o + 2) 4) + (nI 1))).1 (o + 2) 4) + (nI 1))) fl_X7_47 dX7_readLimit_62 (hO.ob 2 (by decide) rfl) (ltb rfl) (rfl) rfl rfl ?_
        obtain ⟨x7, e_x7, h⟩ := bd_some h
        refine cs_sub (Option.some.inj e_x7) ?_
        refine jg_aload_n dX7_readLimit_65 rfl ?_
        refine jg_iload_n dX7_readLimit_66 rfl ?_
        refine jg_if_eq (x := (nI 0)) (tgt := 77) dX7_readLimit_67 (by decide) (fun _ => ?_) (fun q9 => absurd q9 (by decide))
        refine jg_iload_n dX7_readLimit_77 rfl ?_
        refine jg_iload_n dX7_readLimit_78 rfl ?_
        obtain ⟨x8, e_x8, h⟩ := bd_some h
        refine cs_call (q := (o + 2)) (As := [.int a1, .int (x5 - (nI 1000))]) kv_X7_136 dX7_readLimit_79 (hO.ob 2 (by decide) rfl) rfl rfl (by decide) (Nat.le_of_ble_eq_true rfl) rfl (by decide) (Nat.le_of_ble_eq_true rfl) (t_X7_addStep τ n o x7 a1 (x5 - (nI 1000)) hO e_x8) ?_
        refine jg_iconst (v := nI 1) dX7_readLimit_82 (by decide) ?_
        obtain rfl := Option.some.inj h
        exact jg_zreturn dX7_readLimit_83 rfl (rfl) ⟨rfl, rfl⟩
      · replace h := it_f c6 h
        refine jg_iconst (v := nI 0) dX7_readLimit_53 (by decide) ?_
        obtain rfl := Option.some.inj h
        exact jg_zreturn dX7_readLimit_54 rfl (rfl) ⟨rfl, rfl⟩
    · replace h := it_f c4 h
      refine jg_iconst (v := nI 0) dX7_readLimit_28 (by decide) ?_
      obtain rfl := Option.some.inj h
      exact jg_zreturn dX7_readLimit_29 rfl (rfl) ⟨rfl, rfl⟩
  · replace h := it_t c2 h
    refine jg_iconst (v := nI 1) dX7_readLimit_9 (by decide) ?_
    refine jg_goto (tgt := 14) dX7_readLimit_10 (by decide) ?_
    refine jg_istore_n (L' := [some (.ref (o + 2)), some (.int a1), some (.int (nI 1)), none]) dX7_readLimit_14 (by decide) rfl ?_
    refine jg_iload_n dX7_readLimit_15 rfl ?_
    refine jg_if_ne (x := (nI 1)) (tgt := 30) dX7_readLimit_16 (by decide) (fun _ => ?_) (fun q9 => absurd q9 (by decide))
    refine jg_aload_n dX7_readLimit_30 rfl ?_
    refine jg_dup dX7_readLimit_31 rfl ?_
    refine cs_get (s := s) (w := .int (s.1 (o + 2) 4)) fl_X7_47 dX7_readLimit_32 (hO.ob 2 (by decide) rfl) rfl ?_
    refine jg_iconst (v := nI 1) dX7_readLimit_35 (by decide) ?_
    refine jg_iadd (x := (s.1 (o + 2) 4)) (y := (nI 1)) dX7_readLimit_36  ?_
    refine cs_put (s := s) (k := 4) (x := ((s.1 (o + 2) 4) + (nI 1))) fl_X7_47 dX7_readLimit_37 (hO.ob 2 (by decide) rfl) (ltb rfl) (rfl) rfl rfl ?_
    refine jg_aload_n dX7_readLimit_40 rfl ?_
    obtain ⟨x9, e_x9, h⟩ := bd_some h
    refine cs_call (q := (o + 2)) (As := []) kv_X7_56 dX7_readLimit_41 (hO.ob 2 (by decide) rfl) rfl rfl (by decide) (Nat.le_of_ble_eq_true rfl) rfl (by decide) (Nat.le_of_ble_eq_true rfl) (t_X7_thing τ n o (cp s (o + 2) 4 ((s.1 (o + 2) 4) + (nI 1))) hO e_x9) ?_
    refine jg_sipush (v := nI 1000) dX7_readLimit_44 (by decide) ?_
    refine jg_isub (x := x9) (y := (nI 1000)) dX7_readLimit_47  ?_
    refine jg_istore_n (L' := [some (.ref (o + 2)), some (.int a1), some (.int (nI 1)), some (.int (x9 - (nI 1000)))]) dX7_readLimit_48 (by decide) rfl ?_
    refine jg_iload_n dX7_readLimit_49 rfl ?_
    refine jg_if_ge (x := (x9 - (nI 1000))) (tgt := 55) dX7_readLimit_50 (by decide) (fun c10 => ?_) (fun c10 => ?_)
    · replace h := it_t c10 h
      refine jg_aload_n dX7_readLimit_55 rfl ?_
      refine jg_dup dX7_readLimit_56 rfl ?_
      refine cs_get (s := (cp s (o + 2) 4 ((s.1 (o + 2) 4) + (nI 1)))) (w := .int ((cp s (o + 2) 4 ((s.1 (o + 2) 4) + (nI 1))).1 (o + 2) 4)) fl_X7_47 dX7_readLimit_57 (hO.ob 2 (by decide) rfl) rfl ?_
      refine jg_iconst (v := nI 1) dX7_readLimit_60 (by decide) ?_
      refine jg_iadd (x := ((cp s (o + 2) 4 ((s.1 (o + 2) 4) + (nI 1))).1 (o + 2) 4)) (y := (nI 1)) dX7_readLimit_61  ?_
      refine cs_put (s := (cp s (o + 2) 4 ((s.1 (o + 2) 4) + (nI 1)))) (k := 4) (x := (((cp s (o + 2) 4 ((s.1 (o + 2) 4) + (nI 1))).1 (o + 2) 4) + (nI 1))) fl_X7_47 dX7_readLimit_62 (hO.ob 2 (by decide) rfl) (ltb rfl) (rfl) rfl rfl ?_
      obtain ⟨x11, e_x11, h⟩ := bd_some h
      refine cs_sub (Option.some.inj e_x11) ?_
      refine jg_aload_n dX7_readLimit_65 rfl ?_
      refine jg_iload_n dX7_readLimit_66 rfl ?_
      refine jg_if_eq (x := (nI 1)) (tgt := 77) dX7_readLimit_67 (by decide) (fun q9 => absurd q9 (by decide)) (fun _ => ?_)
      refine jg_bipush (v := nI 12) dX7_readLimit_70 (by decide) ?_
      refine jg_iload_n dX7_readLimit_72 rfl ?_
      refine jg_iadd (x := (nI 12)) (y := a1) dX7_readLimit_73  ?_
      refine jg_goto (tgt := 78) dX7_readLimit_74 (by decide) ?_
      refine jg_iload_n dX7_readLimit_78 rfl ?_
      obtain ⟨x12, e_x12, h⟩ := bd_some h
      refine cs_call (q := (o + 2)) (As := [.int ((nI 12) + a1), .int (x9 - (nI 1000))]) kv_X7_136 dX7_readLimit_79 (hO.ob 2 (by decide) rfl) rfl rfl (by decide) (Nat.le_of_ble_eq_true rfl) rfl (by decide) (Nat.le_of_ble_eq_true rfl) (t_X7_addStep τ n o x11 ((nI 12) + a1) (x9 - (nI 1000)) hO e_x12) ?_
      refine jg_iconst (v := nI 1) dX7_readLimit_82 (by decide) ?_
      obtain rfl := Option.some.inj h
      exact jg_zreturn dX7_readLimit_83 rfl (rfl) ⟨rfl, rfl⟩
    · replace h := it_f c10 h
      refine jg_iconst (v := nI 0) dX7_readLimit_53 (by decide) ?_
      obtain rfl := Option.some.inj h
      exact jg_zreturn dX7_readLimit_54 rfl (rfl) ⟨rfl, rfl⟩
theorem dX6_everPaid_0 : decode cX6_everPaid 0 = .ok (.iconst 0, 1) := by decide +kernel
theorem dX6_everPaid_1 : decode cX6_everPaid 1 = .ok (.istore_n 1, 1) := by decide +kernel
theorem dX6_everPaid_2 : decode cX6_everPaid 2 = .ok (.iload_n 1, 1) := by decide +kernel
theorem dX6_everPaid_3 : decode cX6_everPaid 3 = .ok (.aload_n 0, 1) := by decide +kernel
theorem dX6_everPaid_4 : decode cX6_everPaid 4 = .ok (.getfield 53, 3) := by decide +kernel
theorem dX6_everPaid_7 : decode cX6_everPaid 7 = .ok (.if_icmp .ge 20, 3) := by decide +kernel
theorem dX6_everPaid_10 : decode cX6_everPaid 10 = .ok (.aload_n 0, 1) := by decide +kernel
theorem dX6_everPaid_11 : decode cX6_everPaid 11 = .ok (.getfield 18, 3) := by decide +kernel
theorem dX6_everPaid_14 : decode cX6_everPaid 14 = .ok (.iload_n 1, 1) := by decide +kernel
theorem dX6_everPaid_15 : decode cX6_everPaid 15 = .ok (.iaload, 1) := by decide +kernel
theorem dX6_everPaid_16 : decode cX6_everPaid 16 = .ok (.ifCond .le 5, 3) := by decide +kernel
theorem dX6_everPaid_19 : decode cX6_everPaid 19 = .ok (.iconst 1, 1) := by decide +kernel
theorem dX6_everPaid_20 : decode cX6_everPaid 20 = .ok (.ireturn, 1) := by decide +kernel
theorem dX6_everPaid_21 : decode cX6_everPaid 21 = .ok (.iinc 1 1, 3) := by decide +kernel
theorem dX6_everPaid_24 : decode cX6_everPaid 24 = .ok (.goto (-22), 3) := by decide +kernel
theorem dX6_everPaid_27 : decode cX6_everPaid 27 = .ok (.iconst 0, 1) := by decide +kernel
theorem dX6_everPaid_28 : decode cX6_everPaid 28 = .ok (.ireturn, 1) := by decide +kernel
noncomputable def o_X6_everPaid_2 (F : Nat) (τ : cT) (n : Nat) (b : Nat) (s : cS) : Nat → Int32 → Option ((Unit) ⊕ (Int32))
  | 0, _ => none
  | f + 1, l1 => if (s.1 (b + 121) 6) ≤ l1 then (some (.inl ())) else (if iL l1 30 then (if (cg s (b + 124) l1) ≤ 0 then (o_X6_everPaid_2 F τ n b s f (l1 + nI 1)) else (some (.inr (nI 1)))) else none)
set_option maxHeartbeats 4000000 in
theorem t_X6_everPaid_2 {Γ : jg_G} {g : Nat → jg_C} (F : Nat) (τ : cT) (n : Nat) (b : Nat) (s : cS) (hB : Bd τ n b) (Q : jg_Q) {x : (Unit) ⊕ (Int32)} (K1 : ∀ y, x = .inl y → jg Γ mX6_everPaid 0 0 0 27 [none, none] [] (ct_h g τ s, n) Q) (K2 : ∀ z, x = .inr z → Q (.inl (some (.int z))) (ct_h g τ s, n)) : ∀ (f : Nat) (l1 : Int32), o_X6_everPaid_2 F τ n b s f l1 = some x → jg Γ mX6_everPaid 0 0 0 2 [some (.ref (b + 121)), some (.int l1)] [] (ct_h g τ s, n) Q := by
  intro f
  induction f with
  | zero => intro l1 h; rw [o_X6_everPaid_2] at h; cases h
  | succ f ih =>
   intro l1 h
   rw [o_X6_everPaid_2] at h
   refine jg_iload_n dX6_everPaid_2 rfl ?_
   refine jg_aload_n dX6_everPaid_3 rfl ?_
   refine cs_get (s := s) (w := .int (s.1 (b + 121) 6)) fl_X6_53 dX6_everPaid_4 (hB.ob 121 (by decide) rfl) rfl ?_
   refine jg_icmp_ge (x := l1) (y := (s.1 (b + 121) 6)) (tgt := 27) dX6_everPaid_7 (by decide) (fun c1 => ?_) (fun c1 => ?_)
   · replace h := it_t c1 h
     refine jg_fg (L' := [none, none]) (by repeat (first | exact trivial | refine ⟨rfl, ?_⟩ | show jg_le _ _)) ?_
     obtain rfl := Option.some.inj h
     exact K1 _ rfl
   · replace h := it_f c1 h
     refine jg_aload_n dX6_everPaid_10 rfl ?_
     refine cs_get (s := s) (w := .ref (b + 124)) fl_X6_18 dX6_everPaid_11 (hB.ob 121 (by decide) rfl) rfl ?_
     refine jg_iload_n dX6_everPaid_14 rfl ?_
     obtain ⟨q2, h⟩ := gd_some h
     refine cs_lda (s := s) (q := (b + 124)) (i := l1) dX6_everPaid_15 (hB.ar 124 (by decide) rfl) q2 ?_
     refine jg_if_le (x := (cg s (b + 124) l1)) (tgt := 21) dX6_everPaid_16 (by decide) (fun c3 => ?_) (fun c3 => ?_)
     · replace h := it_t c3 h
       refine jg_iinc (x := l1) (v := l1 + nI 1) (L' := [some (.ref (b + 121)), some (.int (l1 + nI 1))]) dX6_everPaid_21 rfl (ic_k _ (by decide)) (by decide) rfl ?_
       refine jg_goto (tgt := 2) dX6_everPaid_24 (by decide) ?_
       refine jg_fg (L' := [some (.ref (b + 121)), some (.int (l1 + nI 1))]) (by repeat (first | exact trivial | refine ⟨rfl, ?_⟩ | show jg_le _ _)) ?_
       exact ih (l1 + nI 1) h
     · replace h := it_f c3 h
       refine jg_iconst (v := nI 1) dX6_everPaid_19 (by decide) ?_
       obtain rfl := Option.some.inj h
       exact jg_zreturn dX6_everPaid_20 rfl (rfl) (K2 _ rfl)
noncomputable def o_X6_everPaid (F : Nat) (τ : cT) (n : Nat) (b : Nat) (s : cS) : Option (Int32) := (o_X6_everPaid_2 F τ n b s F (nI 0)).bind fun x4 => (Sum.elim (fun y5 => some (nI 0)) (fun z6 => some z6) x4)
set_option maxHeartbeats 4000000 in
theorem t_X6_everPaid {Γ : jg_G} {g : Nat → jg_C} (F : Nat) (τ : cT) (n : Nat) (b : Nat) (s : cS) (hB : Bd τ n b) {x : Int32} (h : o_X6_everPaid F τ n b s = some x) : jc Γ mX6_everPaid 0 0 0 [some (.ref (b + 121)), none] (ct_h g τ s, n) (.inl (some (.int x))) (ct_h g τ s, n) := by
  refine jc_of ?_
  rw [o_X6_everPaid] at h
  refine jg_iconst (v := nI 0) dX6_everPaid_0 (by decide) ?_
  refine jg_istore_n (L' := [some (.ref (b + 121)), some (.int (nI 0))]) dX6_everPaid_1 (by decide) rfl ?_
  obtain ⟨x4, e_x4, h⟩ := bd_some h
  refine jg_fg (L' := [some (.ref (b + 121)), some (.int (nI 0))]) (by repeat (first | exact trivial | refine ⟨rfl, ?_⟩ | show jg_le _ _)) ?_
  refine t_X6_everPaid_2  F τ n b s hB _ (x := x4) ?_ ?_ F (nI 0) e_x4
  · intro y5 ey; subst ey; replace h := se_l h
    refine jg_iconst (v := nI 0) dX6_everPaid_27 (by decide) ?_
    obtain rfl := Option.some.inj h
    exact jg_zreturn dX6_everPaid_28 rfl (rfl) ⟨rfl, rfl⟩
  · intro z6 ez; subst ez; replace h := se_r h
    obtain rfl := Option.some.inj h
    exact ⟨rfl, rfl⟩
theorem dX3_pass_0 : decode cX3_pass 0 = .ok (.aload_n 0, 1) := by decide +kernel
theorem dX3_pass_1 : decode cX3_pass 1 = .ok (.getfield 20, 3) := by decide +kernel
theorem dX3_pass_4 : decode cX3_pass 4 = .ok (.aload_n 0, 1) := by decide +kernel
theorem dX3_pass_5 : decode cX3_pass 5 = .ok (.getfield 35, 3) := by decide +kernel
theorem dX3_pass_8 : decode cX3_pass 8 = .ok (.aload_n 1, 1) := by decide +kernel
theorem dX3_pass_9 : decode cX3_pass 9 = .ok (.aastore, 1) := by decide +kernel
theorem dX3_pass_10 : decode cX3_pass 10 = .ok (.aload_n 0, 1) := by decide +kernel
theorem dX3_pass_11 : decode cX3_pass 11 = .ok (.getfield 24, 3) := by decide +kernel
theorem dX3_pass_14 : decode cX3_pass 14 = .ok (.aload_n 0, 1) := by decide +kernel
theorem dX3_pass_15 : decode cX3_pass 15 = .ok (.getfield 35, 3) := by decide +kernel
theorem dX3_pass_18 : decode cX3_pass 18 = .ok (.iload_n 2, 1) := by decide +kernel
theorem dX3_pass_19 : decode cX3_pass 19 = .ok (.iastore, 1) := by decide +kernel
theorem dX3_pass_20 : decode cX3_pass 20 = .ok (.aload_n 0, 1) := by decide +kernel
theorem dX3_pass_21 : decode cX3_pass 21 = .ok (.dup, 1) := by decide +kernel
theorem dX3_pass_22 : decode cX3_pass 22 = .ok (.getfield 35, 3) := by decide +kernel
theorem dX3_pass_25 : decode cX3_pass 25 = .ok (.iconst 1, 1) := by decide +kernel
theorem dX3_pass_26 : decode cX3_pass 26 = .ok (.iadd, 1) := by decide +kernel
theorem dX3_pass_27 : decode cX3_pass 27 = .ok (.putfield 35, 3) := by decide +kernel
theorem dX3_pass_30 : decode cX3_pass 30 = .ok (.return_, 1) := by decide +kernel
noncomputable def o_X3_pass (τ : cT) (n : Nat) (b : Nat) (a1 : Nat) (s : cS) (a2 : Int32) : Option (cS) := if iL (s.1 (b + 17) 3) 20 then (if iL ((cq s (b + 24) (s.1 (b + 17) 3).toNatClampNeg (some a1)).1 (b + 17) 3) 20 then ((some (ca (cq s (b + 24) (s.1 (b + 17) 3).toNatClampNeg (some a1)) (b + 25) ((cq s (b + 24) (s.1 (b + 17) 3).toNatClampNeg (some a1)).1 (b + 17) 3) a2)).bind fun x3 => (some (cp x3 (b + 17) 3 ((x3.1 (b + 17) 3) + (nI 1))))) else none) else none
set_option maxHeartbeats 4000000 in
theorem t_X3_pass {Γ : jg_G} {g : Nat → jg_C} (τ : cT) (n : Nat) (b : Nat) (a1 : Nat) (s : cS) (a2 : Int32) (hB : Bd τ n b) (h1 : acb τ n a1 = true) {x : cS} (h : o_X3_pass τ n b a1 s a2 = some x) : jc Γ mX3_pass 0 0 0 [some (.ref (b + 17)), some (.ref a1), some (.int a2)] (ct_h g τ s, n) (.inl none) (ct_h g τ x, n) := by
  refine jc_of ?_
  rw [o_X3_pass] at h
  refine jg_aload_n dX3_pass_0 rfl ?_
  refine cs_get (s := s) (w := .ref (b + 24)) fl_X3_20 dX3_pass_1 (hB.ob 17 (by decide) rfl) rfl ?_
  refine jg_aload_n dX3_pass_4 rfl ?_
  refine cs_get (s := s) (w := .int (s.1 (b + 17) 3)) fl_X3_35 dX3_pass_5 (hB.ob 17 (by decide) rfl) rfl ?_
  refine jg_aload_n dX3_pass_8 rfl ?_
  obtain ⟨q1, h⟩ := gd_some h
  refine cs_stt (s := s) (q := (b + 24)) (i := (s.1 (b + 17) 3)) (y := a1) dX3_pass_9 (hB.ar 24 (by decide) rfl) q1 (acb_ob h1) ?_
  refine jg_aload_n dX3_pass_10 rfl ?_
  refine cs_get (s := (cq s (b + 24) (s.1 (b + 17) 3).toNatClampNeg (some a1))) (w := .ref (b + 25)) fl_X3_24 dX3_pass_11 (hB.ob 17 (by decide) rfl) rfl ?_
  refine jg_aload_n dX3_pass_14 rfl ?_
  refine cs_get (s := (cq s (b + 24) (s.1 (b + 17) 3).toNatClampNeg (some a1))) (w := .int ((cq s (b + 24) (s.1 (b + 17) 3).toNatClampNeg (some a1)).1 (b + 17) 3)) fl_X3_35 dX3_pass_15 (hB.ob 17 (by decide) rfl) rfl ?_
  refine jg_iload_n dX3_pass_18 rfl ?_
  obtain ⟨q2, h⟩ := gd_some h
  refine cs_sta (s := (cq s (b + 24) (s.1 (b + 17) 3).toNatClampNeg (some a1))) (q := (b + 25)) (i := ((cq s (b + 24) (s.1 (b + 17) 3).toNatClampNeg (some a1)).1 (b + 17) 3)) (x := a2) dX3_pass_19 (hB.ar 25 (by decide) rfl) q2 ?_
  obtain ⟨x3, e_x3, h⟩ := bd_some h
  refine cs_sub (Option.some.inj e_x3) ?_
  refine jg_aload_n dX3_pass_20 rfl ?_
  refine jg_dup dX3_pass_21 rfl ?_
  refine cs_get (s := x3) (w := .int (x3.1 (b + 17) 3)) fl_X3_35 dX3_pass_22 (hB.ob 17 (by decide) rfl) rfl ?_
  refine jg_iconst (v := nI 1) dX3_pass_25 (by decide) ?_
  refine jg_iadd (x := (x3.1 (b + 17) 3)) (y := (nI 1)) dX3_pass_26  ?_
  refine cs_put (s := x3) (k := 3) (x := ((x3.1 (b + 17) 3) + (nI 1))) fl_X3_35 dX3_pass_27 (hB.ob 17 (by decide) rfl) (ltb rfl) (rfl) rfl rfl ?_
  obtain rfl := Option.some.inj h
  exact jg_return dX3_pass_30 rfl ⟨rfl, rfl⟩
theorem dX3_beginVote_0 : decode cX3_beginVote 0 = .ok (.aload_n 0, 1) := by decide +kernel
theorem dX3_beginVote_1 : decode cX3_beginVote 1 = .ok (.iconst 1, 1) := by decide +kernel
theorem dX3_beginVote_2 : decode cX3_beginVote 2 = .ok (.putfield 43, 3) := by decide +kernel
theorem dX3_beginVote_5 : decode cX3_beginVote 5 = .ok (.aload_n 0, 1) := by decide +kernel
theorem dX3_beginVote_6 : decode cX3_beginVote 6 = .ok (.aload_n 1, 1) := by decide +kernel
theorem dX3_beginVote_7 : decode cX3_beginVote 7 = .ok (.putfield 28, 3) := by decide +kernel
theorem dX3_beginVote_10 : decode cX3_beginVote 10 = .ok (.aload_n 0, 1) := by decide +kernel
theorem dX3_beginVote_11 : decode cX3_beginVote 11 = .ok (.iload_n 2, 1) := by decide +kernel
theorem dX3_beginVote_12 : decode cX3_beginVote 12 = .ok (.putfield 47, 3) := by decide +kernel
theorem dX3_beginVote_15 : decode cX3_beginVote 15 = .ok (.iconst 0, 1) := by decide +kernel
theorem dX3_beginVote_16 : decode cX3_beginVote 16 = .ok (.istore_n 3, 1) := by decide +kernel
theorem dX3_beginVote_17 : decode cX3_beginVote 17 = .ok (.iload_n 3, 1) := by decide +kernel
theorem dX3_beginVote_18 : decode cX3_beginVote 18 = .ok (.bipush 30, 2) := by decide +kernel
theorem dX3_beginVote_20 : decode cX3_beginVote 20 = .ok (.if_icmp .ge 16, 3) := by decide +kernel
theorem dX3_beginVote_23 : decode cX3_beginVote 23 = .ok (.aload_n 0, 1) := by decide +kernel
theorem dX3_beginVote_24 : decode cX3_beginVote 24 = .ok (.getfield 31, 3) := by decide +kernel
theorem dX3_beginVote_27 : decode cX3_beginVote 27 = .ok (.iload_n 3, 1) := by decide +kernel
theorem dX3_beginVote_28 : decode cX3_beginVote 28 = .ok (.iconst 0, 1) := by decide +kernel
theorem dX3_beginVote_29 : decode cX3_beginVote 29 = .ok (.bastore, 1) := by decide +kernel
theorem dX3_beginVote_30 : decode cX3_beginVote 30 = .ok (.iinc 3 1, 3) := by decide +kernel
theorem dX3_beginVote_33 : decode cX3_beginVote 33 = .ok (.goto (-16), 3) := by decide +kernel
theorem dX3_beginVote_36 : decode cX3_beginVote 36 = .ok (.aload_n 0, 1) := by decide +kernel
theorem dX3_beginVote_37 : decode cX3_beginVote 37 = .ok (.iconst 0, 1) := by decide +kernel
theorem dX3_beginVote_38 : decode cX3_beginVote 38 = .ok (.putfield 50, 3) := by decide +kernel
theorem dX3_beginVote_41 : decode cX3_beginVote 41 = .ok (.aload_n 0, 1) := by decide +kernel
theorem dX3_beginVote_42 : decode cX3_beginVote 42 = .ok (.iconst 0, 1) := by decide +kernel
theorem dX3_beginVote_43 : decode cX3_beginVote 43 = .ok (.putfield 53, 3) := by decide +kernel
theorem dX3_beginVote_46 : decode cX3_beginVote 46 = .ok (.return_, 1) := by decide +kernel
noncomputable def o_X3_beginVote_17 (F : Nat) (τ : cT) (n : Nat) (b : Nat) (a1 : Nat)  : Nat → Int32 → cS → Option (cS)
  | 0, _, _ => none
  | f + 1, l3, s => if (nI 30) ≤ l3 then (some s) else (if iL l3 30 then (o_X3_beginVote_17 F τ n b a1 f (l3 + nI 1) (ca s (b + 26) l3 (vp_nar .boolean (nI 0)))) else none)
set_option maxHeartbeats 4000000 in
theorem t_X3_beginVote_17 {Γ : jg_G} {g : Nat → jg_C} (F : Nat) (τ : cT) (n : Nat) (b : Nat) (a1 : Nat)  (hB : Bd τ n b) (h1 : acb τ n a1 = true) (Q : jg_Q) {x : cS} (K1 : jg Γ mX3_beginVote 0 0 0 36 [some (.ref (b + 17)), none, none, none] [] (ct_h g τ x, n) Q)  : ∀ (f : Nat) (l3 : Int32) (s : cS), o_X3_beginVote_17 F τ n b a1 f l3 s = some x → jg Γ mX3_beginVote 0 0 0 17 [some (.ref (b + 17)), none, none, some (.int l3)] [] (ct_h g τ s, n) Q := by
  intro f
  induction f with
  | zero => intro l3 s h; rw [o_X3_beginVote_17] at h; cases h
  | succ f ih =>
   intro l3 s h
   rw [o_X3_beginVote_17] at h
   refine jg_iload_n dX3_beginVote_17 rfl ?_
   refine jg_bipush (v := nI 30) dX3_beginVote_18 (by decide) ?_
   refine jg_icmp_ge (x := l3) (y := (nI 30)) (tgt := 36) dX3_beginVote_20 (by decide) (fun c2 => ?_) (fun c2 => ?_)
   · replace h := it_t c2 h
     refine jg_fg (L' := [some (.ref (b + 17)), none, none, none]) (by repeat (first | exact trivial | refine ⟨rfl, ?_⟩ | show jg_le _ _)) ?_
     obtain rfl := Option.some.inj h
     exact K1
   · replace h := it_f c2 h
     refine jg_aload_n dX3_beginVote_23 rfl ?_
     refine cs_get (s := s) (w := .ref (b + 26)) fl_X3_31 dX3_beginVote_24 (hB.ob 17 (by decide) rfl) rfl ?_
     refine jg_iload_n dX3_beginVote_27 rfl ?_
     refine jg_iconst (v := nI 0) dX3_beginVote_28 (by decide) ?_
     obtain ⟨q3, h⟩ := gd_some h
     refine cs_stz (s := s) (q := (b + 26)) (i := l3) (x := (nI 0)) dX3_beginVote_29 (hB.ar 26 (by decide) rfl) q3 ?_
     refine jg_iinc (x := l3) (v := l3 + nI 1) (L' := [some (.ref (b + 17)), none, none, some (.int (l3 + nI 1))]) dX3_beginVote_30 rfl (ic_k _ (by decide)) (by decide) rfl ?_
     refine jg_goto (tgt := 17) dX3_beginVote_33 (by decide) ?_
     refine jg_fg (L' := [some (.ref (b + 17)), none, none, some (.int (l3 + nI 1))]) (by repeat (first | exact trivial | refine ⟨rfl, ?_⟩ | show jg_le _ _)) ?_
     exact ih (l3 + nI 1) (ca s (b + 26) l3 (vp_nar .boolean (nI 0))) h
noncomputable def o_X3_beginVote (F : Nat) (τ : cT) (n : Nat) (b : Nat) (a1 : Nat) (s : cS) (a2 : Int32) : Option (cS) := (some (cp (cq (cp s (b + 17) 4 (nI 1)) (b + 17) 5 (some a1)) (b + 17) 6 a2)).bind fun x1 => ((o_X3_beginVote_17 F τ n b a1 F (nI 0) x1).bind fun x4 => (some (cp (cp x4 (b + 17) 8 (nI 0)) (b + 17) 9 (nI 0))))
set_option maxHeartbeats 4000000 in
theorem t_X3_beginVote {Γ : jg_G} {g : Nat → jg_C} (F : Nat) (τ : cT) (n : Nat) (b : Nat) (a1 : Nat) (s : cS) (a2 : Int32) (hB : Bd τ n b) (h1 : acb τ n a1 = true) {x : cS} (h : o_X3_beginVote F τ n b a1 s a2 = some x) : jc Γ mX3_beginVote 0 0 0 [some (.ref (b + 17)), some (.ref a1), some (.int a2), none] (ct_h g τ s, n) (.inl none) (ct_h g τ x, n) := by
  refine jc_of ?_
  rw [o_X3_beginVote] at h
  refine jg_aload_n dX3_beginVote_0 rfl ?_
  refine jg_iconst (v := nI 1) dX3_beginVote_1 (by decide) ?_
  refine cs_put (s := s) (k := 4) (x := (nI 1)) fl_X3_43 dX3_beginVote_2 (hB.ob 17 (by decide) rfl) (ltb rfl) (rfl) rfl rfl ?_
  refine jg_aload_n dX3_beginVote_5 rfl ?_
  refine jg_aload_n dX3_beginVote_6 rfl ?_
  refine cs_putr (s := (cp s (b + 17) 4 (nI 1))) (y := a1) fl_X3_28 dX3_beginVote_7 (hB.ob 17 (by decide) rfl) (ltb rfl) rfl rfl rfl ?_
  refine jg_aload_n dX3_beginVote_10 rfl ?_
  refine jg_iload_n dX3_beginVote_11 rfl ?_
  refine cs_put (s := (cq (cp s (b + 17) 4 (nI 1)) (b + 17) 5 (some a1))) (k := 6) (x := a2) fl_X3_47 dX3_beginVote_12 (hB.ob 17 (by decide) rfl) (ltb rfl) (rfl) rfl rfl ?_
  obtain ⟨x1, e_x1, h⟩ := bd_some h
  refine cs_sub (Option.some.inj e_x1) ?_
  refine jg_iconst (v := nI 0) dX3_beginVote_15 (by decide) ?_
  refine jg_istore_n (L' := [some (.ref (b + 17)), some (.ref a1), some (.int a2), some (.int (nI 0))]) dX3_beginVote_16 (by decide) rfl ?_
  obtain ⟨x4, e_x4, h⟩ := bd_some h
  refine jg_fg (L' := [some (.ref (b + 17)), none, none, some (.int (nI 0))]) (by repeat (first | exact trivial | refine ⟨rfl, ?_⟩ | show jg_le _ _)) ?_
  refine t_X3_beginVote_17  F τ n b a1 hB h1 _ (x := x4) ?_ F (nI 0) x1 e_x4
  refine jg_aload_n dX3_beginVote_36 rfl ?_
  refine jg_iconst (v := nI 0) dX3_beginVote_37 (by decide) ?_
  refine cs_put (s := x4) (k := 8) (x := (nI 0)) fl_X3_50 dX3_beginVote_38 (hB.ob 17 (by decide) rfl) (ltb rfl) (rfl) rfl rfl ?_
  refine jg_aload_n dX3_beginVote_41 rfl ?_
  refine jg_iconst (v := nI 0) dX3_beginVote_42 (by decide) ?_
  refine cs_put (s := (cp x4 (b + 17) 8 (nI 0))) (k := 9) (x := (nI 0)) fl_X3_53 dX3_beginVote_43 (hB.ob 17 (by decide) rfl) (ltb rfl) (rfl) rfl rfl ?_
  obtain rfl := Option.some.inj h
  exact jg_return dX3_beginVote_46 rfl ⟨rfl, rfl⟩
theorem dX2_votesOf_0 : decode cX2_votesOf 0 = .ok (.aload_n 0, 1) := by decide +kernel
theorem dX2_votesOf_1 : decode cX2_votesOf 1 = .ok (.getfield 63, 3) := by decide +kernel
theorem dX2_votesOf_4 : decode cX2_votesOf 4 = .ok (.iconst 0, 1) := by decide +kernel
theorem dX2_votesOf_5 : decode cX2_votesOf 5 = .ok (.invokestatic 323, 3) := by decide +kernel
theorem dX2_votesOf_8 : decode cX2_votesOf 8 = .ok (.aload_n 0, 1) := by decide +kernel
theorem dX2_votesOf_9 : decode cX2_votesOf 9 = .ok (.getfield 63, 3) := by decide +kernel
theorem dX2_votesOf_12 : decode cX2_votesOf 12 = .ok (.bipush 10, 2) := by decide +kernel
theorem dX2_votesOf_14 : decode cX2_votesOf 14 = .ok (.aload_n 0, 1) := by decide +kernel
theorem dX2_votesOf_15 : decode cX2_votesOf 15 = .ok (.getfield 52, 3) := by decide +kernel
theorem dX2_votesOf_18 : decode cX2_votesOf 18 = .ok (.getfield 329, 3) := by decide +kernel
theorem dX2_votesOf_21 : decode cX2_votesOf 21 = .ok (.iload_n 1, 1) := by decide +kernel
theorem dX2_votesOf_22 : decode cX2_votesOf 22 = .ok (.iaload, 1) := by decide +kernel
theorem dX2_votesOf_23 : decode cX2_votesOf 23 = .ok (.iastore, 1) := by decide +kernel
theorem dX2_votesOf_24 : decode cX2_votesOf 24 = .ok (.aload_n 0, 1) := by decide +kernel
theorem dX2_votesOf_25 : decode cX2_votesOf 25 = .ok (.getfield 63, 3) := by decide +kernel
theorem dX2_votesOf_28 : decode cX2_votesOf 28 = .ok (.bipush 11, 2) := by decide +kernel
theorem dX2_votesOf_30 : decode cX2_votesOf 30 = .ok (.aload_n 0, 1) := by decide +kernel
theorem dX2_votesOf_31 : decode cX2_votesOf 31 = .ok (.getfield 52, 3) := by decide +kernel
theorem dX2_votesOf_34 : decode cX2_votesOf 34 = .ok (.getfield 332, 3) := by decide +kernel
theorem dX2_votesOf_37 : decode cX2_votesOf 37 = .ok (.iload_n 1, 1) := by decide +kernel
theorem dX2_votesOf_38 : decode cX2_votesOf 38 = .ok (.iaload, 1) := by decide +kernel
theorem dX2_votesOf_39 : decode cX2_votesOf 39 = .ok (.iastore, 1) := by decide +kernel
theorem dX2_votesOf_40 : decode cX2_votesOf 40 = .ok (.aload_n 0, 1) := by decide +kernel
theorem dX2_votesOf_41 : decode cX2_votesOf 41 = .ok (.invokevirtual 100, 3) := by decide +kernel
theorem dX2_votesOf_44 : decode cX2_votesOf 44 = .ok (.iconst 3, 1) := by decide +kernel
theorem dX2_votesOf_45 : decode cX2_votesOf 45 = .ok (.aload_n 0, 1) := by decide +kernel
theorem dX2_votesOf_46 : decode cX2_votesOf 46 = .ok (.getfield 63, 3) := by decide +kernel
theorem dX2_votesOf_49 : decode cX2_votesOf 49 = .ok (.invokevirtual 301, 3) := by decide +kernel
theorem dX2_votesOf_52 : decode cX2_votesOf 52 = .ok (.ireturn, 1) := by decide +kernel
noncomputable def o_X2_votesOf (F : Nat) (τ : cT) (n : Nat) (b : Nat) (s : cS) (a1 : Int32) : Option (Int32 × cS) := (o_J7_fill_53178 F τ n (b + 167) 12 s (nI 0)).bind fun x1 => (if iL a1 30 then ((some (ca (ca x1 (b + 167) (nI 10) (cg x1 (b + 122) a1)) (b + 167) (nI 11) (cg (ca x1 (b + 167) (nI 10) (cg x1 (b + 122) a1)) (b + 123) a1))).bind fun x3 => ((o_X2_actOfToday F τ n b x3).bind fun x4 => (if acb τ n x4 = true then ((o_X0_sum F τ n x4 (b + 167) x3 (nI 3)).bind fun x6 => (some (x6, x3))) else none))) else none)
set_option maxHeartbeats 4000000 in
theorem t_X2_votesOf {Γ : jg_G} {g : Nat → jg_C} (F : Nat) (τ : cT) (n : Nat) (b : Nat) (s : cS) (a1 : Int32) (hB : Bd τ n b) {x : Int32 × cS} (h : o_X2_votesOf F τ n b s a1 = some x) : jc Γ mX2_votesOf 2 0 0 [some (.ref b), some (.int a1)] (ct_h g τ s, n) (.inl (some (.int x.1))) (ct_h g τ x.2, n) := by
  refine jc_of ?_
  rw [o_X2_votesOf] at h
  refine jg_aload_n dX2_votesOf_0 rfl ?_
  refine cs_get (s := s) (w := .ref (b + 167)) fl_X2_63 dX2_votesOf_1 hB.ob0 rfl ?_
  refine jg_iconst (v := nI 0) dX2_votesOf_4 (by decide) ?_
  obtain ⟨x1, e_x1, h⟩ := bd_some h
  refine cs_callS (As := [.ref (b + 167), .int (nI 0)]) ks_X2_323 dX2_votesOf_5 rfl (by decide) (Nat.le_of_ble_eq_true rfl) rfl (by decide) (Nat.le_of_ble_eq_true rfl) (t_J7_fill_53178 F τ n (b + 167) 12 s (nI 0) (hB.ar 167 (by decide) rfl) e_x1) ?_
  refine jg_aload_n dX2_votesOf_8 rfl ?_
  refine cs_get (s := x1) (w := .ref (b + 167)) fl_X2_63 dX2_votesOf_9 hB.ob0 rfl ?_
  refine jg_bipush (v := nI 10) dX2_votesOf_12 (by decide) ?_
  refine jg_aload_n dX2_votesOf_14 rfl ?_
  refine cs_get (s := x1) (w := .ref (b + 121)) fl_X2_52 dX2_votesOf_15 hB.ob0 rfl ?_
  refine cs_get (s := x1) (w := .ref (b + 122)) fl_X2_329 dX2_votesOf_18 (hB.ob 121 (by decide) rfl) rfl ?_
  refine jg_iload_n dX2_votesOf_21 rfl ?_
  obtain ⟨q2, h⟩ := gd_some h
  refine cs_lda (s := x1) (q := (b + 122)) (i := a1) dX2_votesOf_22 (hB.ar 122 (by decide) rfl) q2 ?_
  refine cs_sta (s := x1) (q := (b + 167)) (i := (nI 10)) (x := (cg x1 (b + 122) a1)) dX2_votesOf_23 (hB.ar 167 (by decide) rfl) (by decide) ?_
  refine jg_aload_n dX2_votesOf_24 rfl ?_
  refine cs_get (s := (ca x1 (b + 167) (nI 10) (cg x1 (b + 122) a1))) (w := .ref (b + 167)) fl_X2_63 dX2_votesOf_25 hB.ob0 rfl ?_
  refine jg_bipush (v := nI 11) dX2_votesOf_28 (by decide) ?_
  refine jg_aload_n dX2_votesOf_30 rfl ?_
  refine cs_get (s := (ca x1 (b + 167) (nI 10) (cg x1 (b + 122) a1))) (w := .ref (b + 121)) fl_X2_52 dX2_votesOf_31 hB.ob0 rfl ?_
  refine cs_get (s := (ca x1 (b + 167) (nI 10) (cg x1 (b + 122) a1))) (w := .ref (b + 123)) fl_X2_332 dX2_votesOf_34 (hB.ob 121 (by decide) rfl) rfl ?_
  refine jg_iload_n dX2_votesOf_37 rfl ?_
  refine cs_lda (s := (ca x1 (b + 167) (nI 10) (cg x1 (b + 122) a1))) (q := (b + 123)) (i := a1) dX2_votesOf_38 (hB.ar 123 (by decide) rfl) q2 ?_
  refine cs_sta (s := (ca x1 (b + 167) (nI 10) (cg x1 (b + 122) a1))) (q := (b + 167)) (i := (nI 11)) (x := (cg (ca x1 (b + 167) (nI 10) (cg x1 (b + 122) a1)) (b + 123) a1)) dX2_votesOf_39 (hB.ar 167 (by decide) rfl) (by decide) ?_
  obtain ⟨x3, e_x3, h⟩ := bd_some h
  refine cs_sub (Option.some.inj e_x3) ?_
  refine jg_aload_n dX2_votesOf_40 rfl ?_
  obtain ⟨x4, e_x4, h⟩ := bd_some h
  refine cs_call (q := b) (As := []) kv_X2_100 dX2_votesOf_41 hB.ob0 rfl rfl (by decide) (Nat.le_of_ble_eq_true rfl) rfl (by decide) (Nat.le_of_ble_eq_true rfl) (t_X2_actOfToday F τ n b x3 hB e_x4) ?_
  obtain ⟨q5, h⟩ := gd_some h
  refine jg_iconst (v := nI 3) dX2_votesOf_44 (by decide) ?_
  refine jg_aload_n dX2_votesOf_45 rfl ?_
  refine cs_get (s := x3) (w := .ref (b + 167)) fl_X2_63 dX2_votesOf_46 hB.ob0 rfl ?_
  obtain ⟨x6, e_x6, h⟩ := bd_some h
  refine cs_call (q := x4) (As := [.int (nI 3), .ref (b + 167)]) kv_X2_301 dX2_votesOf_49 (acb_ob q5) rfl rfl (by decide) (Nat.le_of_ble_eq_true rfl) rfl (by decide) (Nat.le_of_ble_eq_true rfl) (t_X0_sum F τ n x4 (b + 167) x3 (nI 3) q5 (hB.ar 167 (by decide) rfl) e_x6) ?_
  obtain rfl := Option.some.inj h
  exact jg_ireturn dX2_votesOf_52 rfl ⟨rfl, rfl⟩
theorem dX3_say_0 : decode cX3_say 0 = .ok (.aload_n 0, 1) := by decide +kernel
theorem dX3_say_1 : decode cX3_say 1 = .ok (.getfield 31, 3) := by decide +kernel
theorem dX3_say_4 : decode cX3_say 4 = .ok (.iload_n 1, 1) := by decide +kernel
theorem dX3_say_5 : decode cX3_say 5 = .ok (.baload, 1) := by decide +kernel
theorem dX3_say_6 : decode cX3_say 6 = .ok (.ifCond .eq 5, 3) := by decide +kernel
theorem dX3_say_9 : decode cX3_say 9 = .ok (.iconst (-1), 1) := by decide +kernel
theorem dX3_say_10 : decode cX3_say 10 = .ok (.ireturn, 1) := by decide +kernel
theorem dX3_say_11 : decode cX3_say 11 = .ok (.aload_n 0, 1) := by decide +kernel
theorem dX3_say_12 : decode cX3_say 12 = .ok (.getfield 31, 3) := by decide +kernel
theorem dX3_say_15 : decode cX3_say 15 = .ok (.iload_n 1, 1) := by decide +kernel
theorem dX3_say_16 : decode cX3_say 16 = .ok (.iconst 1, 1) := by decide +kernel
theorem dX3_say_17 : decode cX3_say 17 = .ok (.bastore, 1) := by decide +kernel
theorem dX3_say_18 : decode cX3_say 18 = .ok (.aload_n 0, 1) := by decide +kernel
theorem dX3_say_19 : decode cX3_say 19 = .ok (.dup, 1) := by decide +kernel
theorem dX3_say_20 : decode cX3_say 20 = .ok (.getfield 53, 3) := by decide +kernel
theorem dX3_say_23 : decode cX3_say 23 = .ok (.iload_n 3, 1) := by decide +kernel
theorem dX3_say_24 : decode cX3_say 24 = .ok (.iadd, 1) := by decide +kernel
theorem dX3_say_25 : decode cX3_say 25 = .ok (.putfield 53, 3) := by decide +kernel
theorem dX3_say_28 : decode cX3_say 28 = .ok (.iload_n 2, 1) := by decide +kernel
theorem dX3_say_29 : decode cX3_say 29 = .ok (.ifCond .eq 13, 3) := by decide +kernel
theorem dX3_say_32 : decode cX3_say 32 = .ok (.aload_n 0, 1) := by decide +kernel
theorem dX3_say_33 : decode cX3_say 33 = .ok (.dup, 1) := by decide +kernel
theorem dX3_say_34 : decode cX3_say 34 = .ok (.getfield 50, 3) := by decide +kernel
theorem dX3_say_37 : decode cX3_say 37 = .ok (.iload_n 3, 1) := by decide +kernel
theorem dX3_say_38 : decode cX3_say 38 = .ok (.iadd, 1) := by decide +kernel
theorem dX3_say_39 : decode cX3_say 39 = .ok (.putfield 50, 3) := by decide +kernel
theorem dX3_say_42 : decode cX3_say 42 = .ok (.iload_n 3, 1) := by decide +kernel
theorem dX3_say_43 : decode cX3_say 43 = .ok (.ireturn, 1) := by decide +kernel
noncomputable def o_X3_say (τ : cT) (n : Nat) (b : Nat) (s : cS) (a1 : Int32) (a2 : Int32) (a3 : Int32) : Option (Int32 × cS) := if iL a1 30 then (if (cg s (b + 26) a1) = 0 then ((some (cp (ca s (b + 26) a1 (vp_nar .boolean (nI 1))) (b + 17) 9 (((ca s (b + 26) a1 (vp_nar .boolean (nI 1))).1 (b + 17) 9) + a3))).bind fun x3 => (if a2 = 0 then (some (a3, x3)) else (some (a3, cp x3 (b + 17) 8 ((x3.1 (b + 17) 8) + a3))))) else (some ((-1), s))) else none
set_option maxHeartbeats 4000000 in
theorem t_X3_say {Γ : jg_G} {g : Nat → jg_C} (τ : cT) (n : Nat) (b : Nat) (s : cS) (a1 : Int32) (a2 : Int32) (a3 : Int32) (hB : Bd τ n b) {x : Int32 × cS} (h : o_X3_say τ n b s a1 a2 a3 = some x) : jc Γ mX3_say 0 0 0 [some (.ref (b + 17)), some (.int a1), some (.int a2), some (.int a3)] (ct_h g τ s, n) (.inl (some (.int x.1))) (ct_h g τ x.2, n) := by
  refine jc_of ?_
  rw [o_X3_say] at h
  refine jg_aload_n dX3_say_0 rfl ?_
  refine cs_get (s := s) (w := .ref (b + 26)) fl_X3_31 dX3_say_1 (hB.ob 17 (by decide) rfl) rfl ?_
  refine jg_iload_n dX3_say_4 rfl ?_
  obtain ⟨q1, h⟩ := gd_some h
  refine cs_ldz (s := s) (q := (b + 26)) (i := a1) dX3_say_5 (hB.ar 26 (by decide) rfl) q1 ?_
  refine jg_if_eq (x := (cg s (b + 26) a1)) (tgt := 11) dX3_say_6 (by decide) (fun c2 => ?_) (fun c2 => ?_)
  · replace h := it_t c2 h
    refine jg_aload_n dX3_say_11 rfl ?_
    refine cs_get (s := s) (w := .ref (b + 26)) fl_X3_31 dX3_say_12 (hB.ob 17 (by decide) rfl) rfl ?_
    refine jg_iload_n dX3_say_15 rfl ?_
    refine jg_iconst (v := nI 1) dX3_say_16 (by decide) ?_
    refine cs_stz (s := s) (q := (b + 26)) (i := a1) (x := (nI 1)) dX3_say_17 (hB.ar 26 (by decide) rfl) q1 ?_
    refine jg_aload_n dX3_say_18 rfl ?_
    refine jg_dup dX3_say_19 rfl ?_
    refine cs_get (s := (ca s (b + 26) a1 (vp_nar .boolean (nI 1)))) (w := .int ((ca s (b + 26) a1 (vp_nar .boolean (nI 1))).1 (b + 17) 9)) fl_X3_53 dX3_say_20 (hB.ob 17 (by decide) rfl) rfl ?_
    refine jg_iload_n dX3_say_23 rfl ?_
    refine jg_iadd (x := ((ca s (b + 26) a1 (vp_nar .boolean (nI 1))).1 (b + 17) 9)) (y := a3) dX3_say_24  ?_
    refine cs_put (s := (ca s (b + 26) a1 (vp_nar .boolean (nI 1)))) (k := 9) (x := (((ca s (b + 26) a1 (vp_nar .boolean (nI 1))).1 (b + 17) 9) + a3)) fl_X3_53 dX3_say_25 (hB.ob 17 (by decide) rfl) (ltb rfl) (rfl) rfl rfl ?_
    obtain ⟨x3, e_x3, h⟩ := bd_some h
    refine cs_sub (Option.some.inj e_x3) ?_
    refine jg_iload_n dX3_say_28 rfl ?_
    refine jg_if_eq (x := a2) (tgt := 42) dX3_say_29 (by decide) (fun c4 => ?_) (fun c4 => ?_)
    · replace h := it_t c4 h
      refine jg_iload_n dX3_say_42 rfl ?_
      obtain rfl := Option.some.inj h
      exact jg_ireturn dX3_say_43 rfl ⟨rfl, rfl⟩
    · replace h := it_f c4 h
      refine jg_aload_n dX3_say_32 rfl ?_
      refine jg_dup dX3_say_33 rfl ?_
      refine cs_get (s := x3) (w := .int (x3.1 (b + 17) 8)) fl_X3_50 dX3_say_34 (hB.ob 17 (by decide) rfl) rfl ?_
      refine jg_iload_n dX3_say_37 rfl ?_
      refine jg_iadd (x := (x3.1 (b + 17) 8)) (y := a3) dX3_say_38  ?_
      refine cs_put (s := x3) (k := 8) (x := ((x3.1 (b + 17) 8) + a3)) fl_X3_50 dX3_say_39 (hB.ob 17 (by decide) rfl) (ltb rfl) (rfl) rfl rfl ?_
      refine jg_iload_n dX3_say_42 rfl ?_
      obtain rfl := Option.some.inj h
      exact jg_ireturn dX3_say_43 rfl ⟨rfl, rfl⟩
  · replace h := it_f c2 h
    refine jg_iconst (v := (-1)) dX3_say_9 (by decide) ?_
    obtain rfl := Option.some.inj h
    exact jg_ireturn dX3_say_10 rfl ⟨rfl, rfl⟩
theorem dX3_endVote_0 : decode cX3_endVote 0 = .ok (.aload_n 0, 1) := by decide +kernel
theorem dX3_endVote_1 : decode cX3_endVote 1 = .ok (.iconst 0, 1) := by decide +kernel
theorem dX3_endVote_2 : decode cX3_endVote 2 = .ok (.putfield 43, 3) := by decide +kernel
theorem dX3_endVote_5 : decode cX3_endVote 5 = .ok (.aload_n 0, 1) := by decide +kernel
theorem dX3_endVote_6 : decode cX3_endVote 6 = .ok (.iload_n 1, 1) := by decide +kernel
theorem dX3_endVote_7 : decode cX3_endVote 7 = .ok (.invokevirtual 56, 3) := by decide +kernel
theorem dX3_endVote_10 : decode cX3_endVote 10 = .ok (.bipush 6, 2) := by decide +kernel
theorem dX3_endVote_12 : decode cX3_endVote 12 = .ok (.bipush 50, 2) := by decide +kernel
theorem dX3_endVote_14 : decode cX3_endVote 14 = .ok (.invokevirtual 60, 3) := by decide +kernel
theorem dX3_endVote_17 : decode cX3_endVote 17 = .ok (.i2l, 1) := by decide +kernel
theorem dX3_endVote_18 : decode cX3_endVote 18 = .ok (.aload_n 0, 1) := by decide +kernel
theorem dX3_endVote_19 : decode cX3_endVote 19 = .ok (.getfield 53, 3) := by decide +kernel
theorem dX3_endVote_22 : decode cX3_endVote 22 = .ok (.i2l, 1) := by decide +kernel
theorem dX3_endVote_23 : decode cX3_endVote 23 = .ok (.lmul, 1) := by decide +kernel
theorem dX3_endVote_24 : decode cX3_endVote 24 = .ok (.lstore_n 2, 1) := by decide +kernel
theorem dX3_endVote_25 : decode cX3_endVote 25 = .ok (.aload_n 0, 1) := by decide +kernel
theorem dX3_endVote_26 : decode cX3_endVote 26 = .ok (.getfield 50, 3) := by decide +kernel
theorem dX3_endVote_29 : decode cX3_endVote 29 = .ok (.i2l, 1) := by decide +kernel
theorem dX3_endVote_30 : decode cX3_endVote 30 = .ok (.ldc2_w 64, 3) := by decide +kernel
theorem dX3_endVote_33 : decode cX3_endVote 33 = .ok (.lmul, 1) := by decide +kernel
theorem dX3_endVote_34 : decode cX3_endVote 34 = .ok (.lload_n 2, 1) := by decide +kernel
theorem dX3_endVote_35 : decode cX3_endVote 35 = .ok (.lcmp, 1) := by decide +kernel
theorem dX3_endVote_36 : decode cX3_endVote 36 = .ok (.ifCond .le 16, 3) := by decide +kernel
theorem dX3_endVote_39 : decode cX3_endVote 39 = .ok (.aload_n 0, 1) := by decide +kernel
theorem dX3_endVote_40 : decode cX3_endVote 40 = .ok (.getfield 35, 3) := by decide +kernel
theorem dX3_endVote_43 : decode cX3_endVote 43 = .ok (.bipush 20, 2) := by decide +kernel
theorem dX3_endVote_45 : decode cX3_endVote 45 = .ok (.if_icmp .ge 7, 3) := by decide +kernel
theorem dX3_endVote_48 : decode cX3_endVote 48 = .ok (.iconst 1, 1) := by decide +kernel
theorem dX3_endVote_49 : decode cX3_endVote 49 = .ok (.goto 4, 3) := by decide +kernel
theorem dX3_endVote_52 : decode cX3_endVote 52 = .ok (.iconst 0, 1) := by decide +kernel
theorem dX3_endVote_53 : decode cX3_endVote 53 = .ok (.istore 4, 2) := by decide +kernel
theorem dX3_endVote_55 : decode cX3_endVote 55 = .ok (.iload 4, 2) := by decide +kernel
theorem dX3_endVote_57 : decode cX3_endVote 57 = .ok (.ifCond .eq 19, 3) := by decide +kernel
theorem dX3_endVote_60 : decode cX3_endVote 60 = .ok (.aload_n 0, 1) := by decide +kernel
theorem dX3_endVote_61 : decode cX3_endVote 61 = .ok (.aload_n 0, 1) := by decide +kernel
theorem dX3_endVote_62 : decode cX3_endVote 62 = .ok (.getfield 28, 3) := by decide +kernel
theorem dX3_endVote_65 : decode cX3_endVote 65 = .ok (.aload_n 0, 1) := by decide +kernel
theorem dX3_endVote_66 : decode cX3_endVote 66 = .ok (.getfield 47, 3) := by decide +kernel
theorem dX3_endVote_69 : decode cX3_endVote 69 = .ok (.iload_n 1, 1) := by decide +kernel
theorem dX3_endVote_70 : decode cX3_endVote 70 = .ok (.invokestatic 66, 3) := by decide +kernel
theorem dX3_endVote_73 : decode cX3_endVote 73 = .ok (.invokevirtual 71, 3) := by decide +kernel
theorem dX3_endVote_76 : decode cX3_endVote 76 = .ok (.aload_n 0, 1) := by decide +kernel
theorem dX3_endVote_77 : decode cX3_endVote 77 = .ok (.aload_n 0, 1) := by decide +kernel
theorem dX3_endVote_78 : decode cX3_endVote 78 = .ok (.getfield 14, 3) := by decide +kernel
theorem dX3_endVote_81 : decode cX3_endVote 81 = .ok (.putfield 28, 3) := by decide +kernel
theorem dX3_endVote_84 : decode cX3_endVote 84 = .ok (.iload 4, 2) := by decide +kernel
theorem dX3_endVote_86 : decode cX3_endVote 86 = .ok (.ireturn, 1) := by decide +kernel
noncomputable def o_X3_endVote (F : Nat) (τ : cT) (n : Nat) (b : Nat) (s : cS) (a1 : Int32) : Option (Int32 × cS) := (o_X3_onDay F τ n b (cp s (b + 17) 4 (nI 0)) a1).bind fun x1 => (if acb τ n x1 = true then ((o_X0_lastNumber F τ n x1 (cp s (b + 17) 4 (nI 0)) (nI 6) (nI 50)).bind fun x3 => (if (lg_cmp ((((cp s (b + 17) 4 (nI 0)).1 (b + 17) 8).toInt64) * 100) (x3.toInt64 * (((cp s (b + 17) 4 (nI 0)).1 (b + 17) 9).toInt64))) ≤ 0 then (some (nI 0, cq (cp s (b + 17) 4 (nI 0)) (b + 17) 5 (some (b + 18)))) else (if (nI 20) ≤ ((cp s (b + 17) 4 (nI 0)).1 (b + 17) 3) then (some (nI 0, cq (cp s (b + 17) 4 (nI 0)) (b + 17) 5 (some (b + 18)))) else (((cp s (b + 17) 4 (nI 0)).2 (b + 17) 5).bind fun x6 => (if acb τ n x6 = true then ((o_X3_pass τ n b x6 (cp s (b + 17) 4 (nI 0)) (mxi ((cp s (b + 17) 4 (nI 0)).1 (b + 17) 6) a1)).bind fun x8 => (some (nI 1, cq x8 (b + 17) 5 (some (b + 18))))) else none))))) else none)
set_option maxHeartbeats 4000000 in
theorem t_X3_endVote {Γ : jg_G} {g : Nat → jg_C} (F : Nat) (τ : cT) (n : Nat) (b : Nat) (s : cS) (a1 : Int32) (hB : Bd τ n b) {x : Int32 × cS} (h : o_X3_endVote F τ n b s a1 = some x) : jc Γ mX3_endVote 1 0 0 [some (.ref (b + 17)), some (.int a1), none, none, none] (ct_h g τ s, n) (.inl (some (.int x.1))) (ct_h g τ x.2, n) := by
  refine jc_of ?_
  rw [o_X3_endVote] at h
  refine jg_aload_n dX3_endVote_0 rfl ?_
  refine jg_iconst (v := nI 0) dX3_endVote_1 (by decide) ?_
  refine cs_put (s := s) (k := 4) (x := (nI 0)) fl_X3_43 dX3_endVote_2 (hB.ob 17 (by decide) rfl) (ltb rfl) (rfl) rfl rfl ?_
  refine jg_aload_n dX3_endVote_5 rfl ?_
  refine jg_iload_n dX3_endVote_6 rfl ?_
  obtain ⟨x1, e_x1, h⟩ := bd_some h
  refine cs_call (q := (b + 17)) (As := [.int a1]) kv_X3_56 dX3_endVote_7 (hB.ob 17 (by decide) rfl) rfl rfl (by decide) (Nat.le_of_ble_eq_true rfl) rfl (by decide) (Nat.le_of_ble_eq_true rfl) (t_X3_onDay F τ n b (cp s (b + 17) 4 (nI 0)) a1 hB e_x1) ?_
  obtain ⟨q2, h⟩ := gd_some h
  refine jg_bipush (v := nI 6) dX3_endVote_10 (by decide) ?_
  refine jg_bipush (v := nI 50) dX3_endVote_12 (by decide) ?_
  obtain ⟨x3, e_x3, h⟩ := bd_some h
  refine cs_call (q := x1) (As := [.int (nI 6), .int (nI 50)]) kv_X3_60 dX3_endVote_14 (acb_ob q2) rfl rfl (by decide) (Nat.le_of_ble_eq_true rfl) rfl (by decide) (Nat.le_of_ble_eq_true rfl) (t_X0_lastNumber F τ n x1 (cp s (b + 17) 4 (nI 0)) (nI 6) (nI 50) q2 e_x3) ?_
  refine jg_i2l dX3_endVote_17 ?_
  refine jg_aload_n dX3_endVote_18 rfl ?_
  refine cs_get (s := (cp s (b + 17) 4 (nI 0))) (w := .int ((cp s (b + 17) 4 (nI 0)).1 (b + 17) 9)) fl_X3_53 dX3_endVote_19 (hB.ob 17 (by decide) rfl) rfl ?_
  refine jg_i2l dX3_endVote_22 ?_
  refine jg_lmul dX3_endVote_23 ?_
  refine jg_lstore_n (L' := [some (.ref (b + 17)), some (.int a1), some (.long (x3.toInt64 * (((cp s (b + 17) 4 (nI 0)).1 (b + 17) 9).toInt64))), none, none]) dX3_endVote_24 (by decide) rfl ?_
  refine jg_aload_n dX3_endVote_25 rfl ?_
  refine cs_get (s := (cp s (b + 17) 4 (nI 0))) (w := .int ((cp s (b + 17) 4 (nI 0)).1 (b + 17) 8)) fl_X3_50 dX3_endVote_26 (hB.ob 17 (by decide) rfl) rfl ?_
  refine jg_i2l dX3_endVote_29 ?_
  refine jg_ldc2 kk_X3_64 dX3_endVote_30 ?_
  refine jg_lmul dX3_endVote_33 ?_
  refine jg_lload_n dX3_endVote_34 rfl ?_
  refine jg_lcmp dX3_endVote_35 ?_
  refine jg_if_le (x := (lg_cmp ((((cp s (b + 17) 4 (nI 0)).1 (b + 17) 8).toInt64) * 100) (x3.toInt64 * (((cp s (b + 17) 4 (nI 0)).1 (b + 17) 9).toInt64)))) (tgt := 52) dX3_endVote_36 (by decide) (fun c4 => ?_) (fun c4 => ?_)
  · replace h := it_t c4 h
    refine jg_iconst (v := nI 0) dX3_endVote_52 (by decide) ?_
    refine jg_istore (L' := [some (.ref (b + 17)), some (.int a1), some (.long (x3.toInt64 * (((cp s (b + 17) 4 (nI 0)).1 (b + 17) 9).toInt64))), none, some (.int (nI 0))]) dX3_endVote_53 (by decide) rfl ?_
    refine jg_iload dX3_endVote_55 rfl ?_
    refine jg_if_eq (x := (nI 0)) (tgt := 76) dX3_endVote_57 (by decide) (fun _ => ?_) (fun q9 => absurd q9 (by decide))
    refine jg_aload_n dX3_endVote_76 rfl ?_
    refine jg_aload_n dX3_endVote_77 rfl ?_
    refine cs_get (s := (cp s (b + 17) 4 (nI 0))) (w := .ref (b + 18)) fl_X3_14 dX3_endVote_78 (hB.ob 17 (by decide) rfl) rfl ?_
    refine cs_putr (s := (cp s (b + 17) 4 (nI 0))) (y := (b + 18)) fl_X3_28 dX3_endVote_81 (hB.ob 17 (by decide) rfl) (ltb rfl) rfl rfl rfl ?_
    refine jg_iload dX3_endVote_84 rfl ?_
    obtain rfl := Option.some.inj h
    exact jg_zreturn dX3_endVote_86 rfl (rfl) ⟨rfl, rfl⟩
  · replace h := it_f c4 h
    refine jg_aload_n dX3_endVote_39 rfl ?_
    refine cs_get (s := (cp s (b + 17) 4 (nI 0))) (w := .int ((cp s (b + 17) 4 (nI 0)).1 (b + 17) 3)) fl_X3_35 dX3_endVote_40 (hB.ob 17 (by decide) rfl) rfl ?_
    refine jg_bipush (v := nI 20) dX3_endVote_43 (by decide) ?_
    refine jg_icmp_ge (x := ((cp s (b + 17) 4 (nI 0)).1 (b + 17) 3)) (y := (nI 20)) (tgt := 52) dX3_endVote_45 (by decide) (fun c5 => ?_) (fun c5 => ?_)
    · replace h := it_t c5 h
      refine jg_iconst (v := nI 0) dX3_endVote_52 (by decide) ?_
      refine jg_istore (L' := [some (.ref (b + 17)), some (.int a1), some (.long (x3.toInt64 * (((cp s (b + 17) 4 (nI 0)).1 (b + 17) 9).toInt64))), none, some (.int (nI 0))]) dX3_endVote_53 (by decide) rfl ?_
      refine jg_iload dX3_endVote_55 rfl ?_
      refine jg_if_eq (x := (nI 0)) (tgt := 76) dX3_endVote_57 (by decide) (fun _ => ?_) (fun q9 => absurd q9 (by decide))
      refine jg_aload_n dX3_endVote_76 rfl ?_
      refine jg_aload_n dX3_endVote_77 rfl ?_
      refine cs_get (s := (cp s (b + 17) 4 (nI 0))) (w := .ref (b + 18)) fl_X3_14 dX3_endVote_78 (hB.ob 17 (by decide) rfl) rfl ?_
      refine cs_putr (s := (cp s (b + 17) 4 (nI 0))) (y := (b + 18)) fl_X3_28 dX3_endVote_81 (hB.ob 17 (by decide) rfl) (ltb rfl) rfl rfl rfl ?_
      refine jg_iload dX3_endVote_84 rfl ?_
      obtain rfl := Option.some.inj h
      exact jg_zreturn dX3_endVote_86 rfl (rfl) ⟨rfl, rfl⟩
    · replace h := it_f c5 h
      refine jg_iconst (v := nI 1) dX3_endVote_48 (by decide) ?_
      refine jg_goto (tgt := 53) dX3_endVote_49 (by decide) ?_
      refine jg_istore (L' := [some (.ref (b + 17)), some (.int a1), some (.long (x3.toInt64 * (((cp s (b + 17) 4 (nI 0)).1 (b + 17) 9).toInt64))), none, some (.int (nI 1))]) dX3_endVote_53 (by decide) rfl ?_
      refine jg_iload dX3_endVote_55 rfl ?_
      refine jg_if_eq (x := (nI 1)) (tgt := 76) dX3_endVote_57 (by decide) (fun q9 => absurd q9 (by decide)) (fun _ => ?_)
      refine jg_aload_n dX3_endVote_60 rfl ?_
      refine jg_aload_n dX3_endVote_61 rfl ?_
      obtain ⟨x6, e_x6, h⟩ := bd_some h
      obtain ⟨q7, h⟩ := gd_some h
      refine cs_get (s := (cp s (b + 17) 4 (nI 0))) (w := .ref x6) fl_X3_28 dX3_endVote_62 (hB.ob 17 (by decide) rfl) (by show some (vr ((cp s (b + 17) 4 (nI 0)).2 (b + 17) 5)) = _; rw [e_x6]; rfl) ?_
      refine jg_aload_n dX3_endVote_65 rfl ?_
      refine cs_get (s := (cp s (b + 17) 4 (nI 0))) (w := .int ((cp s (b + 17) 4 (nI 0)).1 (b + 17) 6)) fl_X3_47 dX3_endVote_66 (hB.ob 17 (by decide) rfl) rfl ?_
      refine jg_iload_n dX3_endVote_69 rfl ?_
      refine jg_mmax (x := ((cp s (b + 17) 4 (nI 0)).1 (b + 17) 6)) (y := a1) km_X3_66 jw_max.1 jw_max.2 dX3_endVote_70 (by decide) (Nat.le_of_ble_eq_true rfl) ?_
      obtain ⟨x8, e_x8, h⟩ := bd_some h
      refine cs_call (q := (b + 17)) (As := [.ref x6, .int (mxi ((cp s (b + 17) 4 (nI 0)).1 (b + 17) 6) a1)]) kv_X3_71 dX3_endVote_73 (hB.ob 17 (by decide) rfl) rfl rfl (by decide) (Nat.le_of_ble_eq_true rfl) rfl (by decide) (Nat.le_of_ble_eq_true rfl) (t_X3_pass τ n b x6 (cp s (b + 17) 4 (nI 0)) (mxi ((cp s (b + 17) 4 (nI 0)).1 (b + 17) 6) a1) hB q7 e_x8) ?_
      refine jg_aload_n dX3_endVote_76 rfl ?_
      refine jg_aload_n dX3_endVote_77 rfl ?_
      refine cs_get (s := x8) (w := .ref (b + 18)) fl_X3_14 dX3_endVote_78 (hB.ob 17 (by decide) rfl) rfl ?_
      refine cs_putr (s := x8) (y := (b + 18)) fl_X3_28 dX3_endVote_81 (hB.ob 17 (by decide) rfl) (ltb rfl) rfl rfl rfl ?_
      refine jg_iload dX3_endVote_84 rfl ?_
      obtain rfl := Option.some.inj h
      exact jg_zreturn dX3_endVote_86 rfl (rfl) ⟨rfl, rfl⟩
theorem dX0_firstThatHolds_0 : decode cX0_firstThatHolds 0 = .ok (.iconst 0, 1) := by decide +kernel
theorem dX0_firstThatHolds_1 : decode cX0_firstThatHolds 1 = .ok (.istore_n 3, 1) := by decide +kernel
theorem dX0_firstThatHolds_2 : decode cX0_firstThatHolds 2 = .ok (.iload_n 3, 1) := by decide +kernel
theorem dX0_firstThatHolds_3 : decode cX0_firstThatHolds 3 = .ok (.aload_n 0, 1) := by decide +kernel
theorem dX0_firstThatHolds_4 : decode cX0_firstThatHolds 4 = .ok (.getfield 11, 3) := by decide +kernel
theorem dX0_firstThatHolds_7 : decode cX0_firstThatHolds 7 = .ok (.if_icmp .ge 30, 3) := by decide +kernel
theorem dX0_firstThatHolds_10 : decode cX0_firstThatHolds 10 = .ok (.aload_n 0, 1) := by decide +kernel
theorem dX0_firstThatHolds_11 : decode cX0_firstThatHolds 11 = .ok (.getfield 15, 3) := by decide +kernel
theorem dX0_firstThatHolds_14 : decode cX0_firstThatHolds 14 = .ok (.iload_n 3, 1) := by decide +kernel
theorem dX0_firstThatHolds_15 : decode cX0_firstThatHolds 15 = .ok (.iaload, 1) := by decide +kernel
theorem dX0_firstThatHolds_16 : decode cX0_firstThatHolds 16 = .ok (.iload_n 1, 1) := by decide +kernel
theorem dX0_firstThatHolds_17 : decode cX0_firstThatHolds 17 = .ok (.if_icmp .ne 14, 3) := by decide +kernel
theorem dX0_firstThatHolds_20 : decode cX0_firstThatHolds 20 = .ok (.aload_n 0, 1) := by decide +kernel
theorem dX0_firstThatHolds_21 : decode cX0_firstThatHolds 21 = .ok (.iload_n 3, 1) := by decide +kernel
theorem dX0_firstThatHolds_22 : decode cX0_firstThatHolds 22 = .ok (.aload_n 2, 1) := by decide +kernel
theorem dX0_firstThatHolds_23 : decode cX0_firstThatHolds 23 = .ok (.invokevirtual 31, 3) := by decide +kernel
theorem dX0_firstThatHolds_26 : decode cX0_firstThatHolds 26 = .ok (.ifCond .eq 5, 3) := by decide +kernel
theorem dX0_firstThatHolds_29 : decode cX0_firstThatHolds 29 = .ok (.iload_n 3, 1) := by decide +kernel
theorem dX0_firstThatHolds_30 : decode cX0_firstThatHolds 30 = .ok (.ireturn, 1) := by decide +kernel
theorem dX0_firstThatHolds_31 : decode cX0_firstThatHolds 31 = .ok (.iinc 3 1, 3) := by decide +kernel
theorem dX0_firstThatHolds_34 : decode cX0_firstThatHolds 34 = .ok (.goto (-32), 3) := by decide +kernel
theorem dX0_firstThatHolds_37 : decode cX0_firstThatHolds 37 = .ok (.iconst (-1), 1) := by decide +kernel
theorem dX0_firstThatHolds_38 : decode cX0_firstThatHolds 38 = .ok (.ireturn, 1) := by decide +kernel
noncomputable def o_X0_firstThatHolds_2 (F : Nat) (τ : cT) (n : Nat) (p : Nat) (a2 : Nat) (l1 : Int32) (s : cS) : Nat → Int32 → Option ((Unit) ⊕ (Int32))
  | 0, _ => none
  | f + 1, l3 => if (s.1 p 0) ≤ l3 then (some (.inl ())) else (if iL l3 (tl τ (p + 1)) then (if (cg s (p + 1) l3) = l1 then ((o_X0_holds F τ n p a2 s l3).bind fun x4 => (if x4 = 0 then (o_X0_firstThatHolds_2 F τ n p a2 l1 s f (l3 + nI 1)) else (some (.inr l3)))) else (o_X0_firstThatHolds_2 F τ n p a2 l1 s f (l3 + nI 1))) else none)
set_option maxHeartbeats 4000000 in
theorem t_X0_firstThatHolds_2 {Γ : jg_G} {g : Nat → jg_C} (F : Nat) (τ : cT) (n : Nat) (p : Nat) (a2 : Nat) (l1 : Int32) (s : cS) (hp : acb τ n p = true) (h2 : Ar τ n a2 0 12) (Q : jg_Q) {x : (Unit) ⊕ (Int32)} (K1 : ∀ y, x = .inl y → jg Γ mX0_firstThatHolds 1 0 0 37 [none, none, none, none] [] (ct_h g τ s, n) Q) (K2 : ∀ z, x = .inr z → Q (.inl (some (.int z))) (ct_h g τ s, n)) : ∀ (f : Nat) (l3 : Int32), o_X0_firstThatHolds_2 F τ n p a2 l1 s f l3 = some x → jg Γ mX0_firstThatHolds 1 0 0 2 [some (.ref p), some (.int l1), some (.ref a2), some (.int l3)] [] (ct_h g τ s, n) Q := by
  intro f
  induction f with
  | zero => intro l3 h; rw [o_X0_firstThatHolds_2] at h; cases h
  | succ f ih =>
   intro l3 h
   rw [o_X0_firstThatHolds_2] at h
   refine jg_iload_n dX0_firstThatHolds_2 rfl ?_
   refine jg_aload_n dX0_firstThatHolds_3 rfl ?_
   refine cs_get (s := s) (w := .int (s.1 p 0)) fl_X0_11 dX0_firstThatHolds_4 (acb_ob hp) rfl ?_
   refine jg_icmp_ge (x := l3) (y := (s.1 p 0)) (tgt := 37) dX0_firstThatHolds_7 (by decide) (fun c1 => ?_) (fun c1 => ?_)
   · replace h := it_t c1 h
     refine jg_fg (L' := [none, none, none, none]) (by repeat (first | exact trivial | refine ⟨rfl, ?_⟩ | show jg_le _ _)) ?_
     obtain rfl := Option.some.inj h
     exact K1 _ rfl
   · replace h := it_f c1 h
     refine jg_aload_n dX0_firstThatHolds_10 rfl ?_
     refine cs_get (s := s) (w := .ref (p + 1)) fl_X0_15 dX0_firstThatHolds_11 (acb_ob hp) rfl ?_
     refine jg_iload_n dX0_firstThatHolds_14 rfl ?_
     obtain ⟨q2, h⟩ := gd_some h
     refine cs_lda (s := s) (q := (p + 1)) (i := l3) dX0_firstThatHolds_15 (acb_a1 hp) q2 ?_
     refine jg_iload_n dX0_firstThatHolds_16 rfl ?_
     refine jg_icmp_ne (x := (cg s (p + 1) l3)) (y := l1) (tgt := 31) dX0_firstThatHolds_17 (by decide) (fun c3 => ?_) (fun c3 => ?_)
     · replace h := it_f c3 h
       refine jg_iinc (x := l3) (v := l3 + nI 1) (L' := [some (.ref p), some (.int l1), some (.ref a2), some (.int (l3 + nI 1))]) dX0_firstThatHolds_31 rfl (ic_k _ (by decide)) (by decide) rfl ?_
       refine jg_goto (tgt := 2) dX0_firstThatHolds_34 (by decide) ?_
       refine jg_fg (L' := [some (.ref p), some (.int l1), some (.ref a2), some (.int (l3 + nI 1))]) (by repeat (first | exact trivial | refine ⟨rfl, ?_⟩ | show jg_le _ _)) ?_
       exact ih (l3 + nI 1) h
     · replace h := it_t c3 h
       refine jg_aload_n dX0_firstThatHolds_20 rfl ?_
       refine jg_iload_n dX0_firstThatHolds_21 rfl ?_
       refine jg_aload_n dX0_firstThatHolds_22 rfl ?_
       obtain ⟨x4, e_x4, h⟩ := bd_some h
       refine cs_call (q := p) (As := [.int l3, .ref a2]) kv_X0_31 dX0_firstThatHolds_23 (acb_ob hp) rfl rfl (by decide) (Nat.le_of_ble_eq_true rfl) rfl (by decide) (Nat.le_of_ble_eq_true rfl) (t_X0_holds F τ n p a2 s l3 hp h2 e_x4) ?_
       refine jg_if_eq (x := x4) (tgt := 31) dX0_firstThatHolds_26 (by decide) (fun c5 => ?_) (fun c5 => ?_)
       · replace h := it_t c5 h
         refine jg_iinc (x := l3) (v := l3 + nI 1) (L' := [some (.ref p), some (.int l1), some (.ref a2), some (.int (l3 + nI 1))]) dX0_firstThatHolds_31 rfl (ic_k _ (by decide)) (by decide) rfl ?_
         refine jg_goto (tgt := 2) dX0_firstThatHolds_34 (by decide) ?_
         refine jg_fg (L' := [some (.ref p), some (.int l1), some (.ref a2), some (.int (l3 + nI 1))]) (by repeat (first | exact trivial | refine ⟨rfl, ?_⟩ | show jg_le _ _)) ?_
         exact ih (l3 + nI 1) h
       · replace h := it_f c5 h
         refine jg_iload_n dX0_firstThatHolds_29 rfl ?_
         obtain rfl := Option.some.inj h
         exact jg_ireturn dX0_firstThatHolds_30 rfl (K2 _ rfl)
noncomputable def o_X0_firstThatHolds (F : Nat) (τ : cT) (n : Nat) (p : Nat) (a2 : Nat) (s : cS) (a1 : Int32) : Option (Int32) := (o_X0_firstThatHolds_2 F τ n p a2 a1 s F (nI 0)).bind fun x6 => (Sum.elim (fun y7 => some (-1)) (fun z8 => some z8) x6)
set_option maxHeartbeats 4000000 in
theorem t_X0_firstThatHolds {Γ : jg_G} {g : Nat → jg_C} (F : Nat) (τ : cT) (n : Nat) (p : Nat) (a2 : Nat) (s : cS) (a1 : Int32) (hp : acb τ n p = true) (h2 : Ar τ n a2 0 12) {x : Int32} (h : o_X0_firstThatHolds F τ n p a2 s a1 = some x) : jc Γ mX0_firstThatHolds 1 0 0 [some (.ref p), some (.int a1), some (.ref a2), none] (ct_h g τ s, n) (.inl (some (.int x))) (ct_h g τ s, n) := by
  refine jc_of ?_
  rw [o_X0_firstThatHolds] at h
  refine jg_iconst (v := nI 0) dX0_firstThatHolds_0 (by decide) ?_
  refine jg_istore_n (L' := [some (.ref p), some (.int a1), some (.ref a2), some (.int (nI 0))]) dX0_firstThatHolds_1 (by decide) rfl ?_
  obtain ⟨x6, e_x6, h⟩ := bd_some h
  refine jg_fg (L' := [some (.ref p), some (.int a1), some (.ref a2), some (.int (nI 0))]) (by repeat (first | exact trivial | refine ⟨rfl, ?_⟩ | show jg_le _ _)) ?_
  refine t_X0_firstThatHolds_2  F τ n p a2 a1 s hp h2 _ (x := x6) ?_ ?_ F (nI 0) e_x6
  · intro y7 ey; subst ey; replace h := se_l h
    refine jg_iconst (v := (-1)) dX0_firstThatHolds_37 (by decide) ?_
    obtain rfl := Option.some.inj h
    exact jg_ireturn dX0_firstThatHolds_38 rfl ⟨rfl, rfl⟩
  · intro z8 ez; subst ez; replace h := se_r h
    obtain rfl := Option.some.inj h
    exact ⟨rfl, rfl⟩
theorem dX0_greatest_0 : decode cX0_greatest 0 = .ok (.iconst 0, 1) := by decide +kernel
theorem dX0_greatest_1 : decode cX0_greatest 1 = .ok (.istore_n 3, 1) := by decide +kernel
theorem dX0_greatest_2 : decode cX0_greatest 2 = .ok (.iconst 0, 1) := by decide +kernel
theorem dX0_greatest_3 : decode cX0_greatest 3 = .ok (.istore 4, 2) := by decide +kernel
theorem dX0_greatest_5 : decode cX0_greatest 5 = .ok (.iload 4, 2) := by decide +kernel
theorem dX0_greatest_7 : decode cX0_greatest 7 = .ok (.aload_n 0, 1) := by decide +kernel
theorem dX0_greatest_8 : decode cX0_greatest 8 = .ok (.getfield 11, 3) := by decide +kernel
theorem dX0_greatest_11 : decode cX0_greatest 11 = .ok (.if_icmp .ge 49, 3) := by decide +kernel
theorem dX0_greatest_14 : decode cX0_greatest 14 = .ok (.aload_n 0, 1) := by decide +kernel
theorem dX0_greatest_15 : decode cX0_greatest 15 = .ok (.getfield 15, 3) := by decide +kernel
theorem dX0_greatest_18 : decode cX0_greatest 18 = .ok (.iload 4, 2) := by decide +kernel
theorem dX0_greatest_20 : decode cX0_greatest 20 = .ok (.iaload, 1) := by decide +kernel
theorem dX0_greatest_21 : decode cX0_greatest 21 = .ok (.iload_n 1, 1) := by decide +kernel
theorem dX0_greatest_22 : decode cX0_greatest 22 = .ok (.if_icmp .ne 32, 3) := by decide +kernel
theorem dX0_greatest_25 : decode cX0_greatest 25 = .ok (.aload_n 0, 1) := by decide +kernel
theorem dX0_greatest_26 : decode cX0_greatest 26 = .ok (.getfield 19, 3) := by decide +kernel
theorem dX0_greatest_29 : decode cX0_greatest 29 = .ok (.iload 4, 2) := by decide +kernel
theorem dX0_greatest_31 : decode cX0_greatest 31 = .ok (.iaload, 1) := by decide +kernel
theorem dX0_greatest_32 : decode cX0_greatest 32 = .ok (.iload_n 3, 1) := by decide +kernel
theorem dX0_greatest_33 : decode cX0_greatest 33 = .ok (.if_icmp .le 21, 3) := by decide +kernel
theorem dX0_greatest_36 : decode cX0_greatest 36 = .ok (.aload_n 0, 1) := by decide +kernel
theorem dX0_greatest_37 : decode cX0_greatest 37 = .ok (.iload 4, 2) := by decide +kernel
theorem dX0_greatest_39 : decode cX0_greatest 39 = .ok (.aload_n 2, 1) := by decide +kernel
theorem dX0_greatest_40 : decode cX0_greatest 40 = .ok (.invokevirtual 31, 3) := by decide +kernel
theorem dX0_greatest_43 : decode cX0_greatest 43 = .ok (.ifCond .eq 11, 3) := by decide +kernel
theorem dX0_greatest_46 : decode cX0_greatest 46 = .ok (.aload_n 0, 1) := by decide +kernel
theorem dX0_greatest_47 : decode cX0_greatest 47 = .ok (.getfield 19, 3) := by decide +kernel
theorem dX0_greatest_50 : decode cX0_greatest 50 = .ok (.iload 4, 2) := by decide +kernel
theorem dX0_greatest_52 : decode cX0_greatest 52 = .ok (.iaload, 1) := by decide +kernel
theorem dX0_greatest_53 : decode cX0_greatest 53 = .ok (.istore_n 3, 1) := by decide +kernel
theorem dX0_greatest_54 : decode cX0_greatest 54 = .ok (.iinc 4 1, 3) := by decide +kernel
theorem dX0_greatest_57 : decode cX0_greatest 57 = .ok (.goto (-52), 3) := by decide +kernel
theorem dX0_greatest_60 : decode cX0_greatest 60 = .ok (.iload_n 3, 1) := by decide +kernel
theorem dX0_greatest_61 : decode cX0_greatest 61 = .ok (.ireturn, 1) := by decide +kernel
noncomputable def o_X0_greatest_5 (F : Nat) (τ : cT) (n : Nat) (p : Nat) (a2 : Nat) (l1 : Int32) (s : cS) : Nat → Int32 → Int32 → Option (Int32)
  | 0, _, _ => none
  | f + 1, l3, l4 => if (s.1 p 0) ≤ l4 then (some l3) else (if iL l4 (tl τ (p + 1)) then (if (cg s (p + 1) l4) = l1 then (if iL l4 (tl τ (p + 2)) then (if (cg s (p + 2) l4) ≤ l3 then (o_X0_greatest_5 F τ n p a2 l1 s f l3 (l4 + nI 1)) else ((o_X0_holds F τ n p a2 s l4).bind fun x6 => (if x6 = 0 then (o_X0_greatest_5 F τ n p a2 l1 s f l3 (l4 + nI 1)) else (o_X0_greatest_5 F τ n p a2 l1 s f (cg s (p + 2) l4) (l4 + nI 1))))) else none) else (o_X0_greatest_5 F τ n p a2 l1 s f l3 (l4 + nI 1))) else none)
set_option maxHeartbeats 4000000 in
theorem t_X0_greatest_5 {Γ : jg_G} {g : Nat → jg_C} (F : Nat) (τ : cT) (n : Nat) (p : Nat) (a2 : Nat) (l1 : Int32) (s : cS) (hp : acb τ n p = true) (h2 : Ar τ n a2 0 12) (Q : jg_Q) {x : Int32} (K1 : jg Γ mX0_greatest 1 0 0 60 [none, none, none, some (.int x), none] [] (ct_h g τ s, n) Q)  : ∀ (f : Nat) (l3 : Int32) (l4 : Int32), o_X0_greatest_5 F τ n p a2 l1 s f l3 l4 = some x → jg Γ mX0_greatest 1 0 0 5 [some (.ref p), some (.int l1), some (.ref a2), some (.int l3), some (.int l4)] [] (ct_h g τ s, n) Q := by
  intro f
  induction f with
  | zero => intro l3 l4 h; rw [o_X0_greatest_5] at h; cases h
  | succ f ih =>
   intro l3 l4 h
   rw [o_X0_greatest_5] at h
   refine jg_iload dX0_greatest_5 rfl ?_
   refine jg_aload_n dX0_greatest_7 rfl ?_
   refine cs_get (s := s) (w := .int (s.1 p 0)) fl_X0_11 dX0_greatest_8 (acb_ob hp) rfl ?_
   refine jg_icmp_ge (x := l4) (y := (s.1 p 0)) (tgt := 60) dX0_greatest_11 (by decide) (fun c1 => ?_) (fun c1 => ?_)
   · replace h := it_t c1 h
     refine jg_fg (L' := [none, none, none, some (.int l3), none]) (by repeat (first | exact trivial | refine ⟨rfl, ?_⟩ | show jg_le _ _)) ?_
     obtain rfl := Option.some.inj h
     exact K1
   · replace h := it_f c1 h
     refine jg_aload_n dX0_greatest_14 rfl ?_
     refine cs_get (s := s) (w := .ref (p + 1)) fl_X0_15 dX0_greatest_15 (acb_ob hp) rfl ?_
     refine jg_iload dX0_greatest_18 rfl ?_
     obtain ⟨q2, h⟩ := gd_some h
     refine cs_lda (s := s) (q := (p + 1)) (i := l4) dX0_greatest_20 (acb_a1 hp) q2 ?_
     refine jg_iload_n dX0_greatest_21 rfl ?_
     refine jg_icmp_ne (x := (cg s (p + 1) l4)) (y := l1) (tgt := 54) dX0_greatest_22 (by decide) (fun c3 => ?_) (fun c3 => ?_)
     · replace h := it_f c3 h
       refine jg_iinc (x := l4) (v := l4 + nI 1) (L' := [some (.ref p), some (.int l1), some (.ref a2), some (.int l3), some (.int (l4 + nI 1))]) dX0_greatest_54 rfl (ic_k _ (by decide)) (by decide) rfl ?_
       refine jg_goto (tgt := 5) dX0_greatest_57 (by decide) ?_
       refine jg_fg (L' := [some (.ref p), some (.int l1), some (.ref a2), some (.int l3), some (.int (l4 + nI 1))]) (by repeat (first | exact trivial | refine ⟨rfl, ?_⟩ | show jg_le _ _)) ?_
       exact ih l3 (l4 + nI 1) h
     · replace h := it_t c3 h
       refine jg_aload_n dX0_greatest_25 rfl ?_
       refine cs_get (s := s) (w := .ref (p + 2)) fl_X0_19 dX0_greatest_26 (acb_ob hp) rfl ?_
       refine jg_iload dX0_greatest_29 rfl ?_
       obtain ⟨q4, h⟩ := gd_some h
       refine cs_lda (s := s) (q := (p + 2)) (i := l4) dX0_greatest_31 (acb_a2 hp) q4 ?_
       refine jg_iload_n dX0_greatest_32 rfl ?_
       refine jg_icmp_le (x := (cg s (p + 2) l4)) (y := l3) (tgt := 54) dX0_greatest_33 (by decide) (fun c5 => ?_) (fun c5 => ?_)
       · replace h := it_t c5 h
         refine jg_iinc (x := l4) (v := l4 + nI 1) (L' := [some (.ref p), some (.int l1), some (.ref a2), some (.int l3), some (.int (l4 + nI 1))]) dX0_greatest_54 rfl (ic_k _ (by decide)) (by decide) rfl ?_
         refine jg_goto (tgt := 5) dX0_greatest_57 (by decide) ?_
         refine jg_fg (L' := [some (.ref p), some (.int l1), some (.ref a2), some (.int l3), some (.int (l4 + nI 1))]) (by repeat (first | exact trivial | refine ⟨rfl, ?_⟩ | show jg_le _ _)) ?_
         exact ih l3 (l4 + nI 1) h
       · replace h := it_f c5 h
         refine jg_aload_n dX0_greatest_36 rfl ?_
         refine jg_iload dX0_greatest_37 rfl ?_
         refine jg_aload_n dX0_greatest_39 rfl ?_
         obtain ⟨x6, e_x6, h⟩ := bd_some h
         refine cs_call (q := p) (As := [.int l4, .ref a2]) kv_X0_31 dX0_greatest_40 (acb_ob hp) rfl rfl (by decide) (Nat.le_of_ble_eq_true rfl) rfl (by decide) (Nat.le_of_ble_eq_true rfl) (t_X0_holds F τ n p a2 s l4 hp h2 e_x6) ?_
         refine jg_if_eq (x := x6) (tgt := 54) dX0_greatest_43 (by decide) (fun c7 => ?_) (fun c7 => ?_)
         · replace h := it_t c7 h
           refine jg_iinc (x := l4) (v := l4 + nI 1) (L' := [some (.ref p), some (.int l1), some (.ref a2), some (.int l3), some (.int (l4 + nI 1))]) dX0_greatest_54 rfl (ic_k _ (by decide)) (by decide) rfl ?_
           refine jg_goto (tgt := 5) dX0_greatest_57 (by decide) ?_
           refine jg_fg (L' := [some (.ref p), some (.int l1), some (.ref a2), some (.int l3), some (.int (l4 + nI 1))]) (by repeat (first | exact trivial | refine ⟨rfl, ?_⟩ | show jg_le _ _)) ?_
           exact ih l3 (l4 + nI 1) h
         · replace h := it_f c7 h
           refine jg_aload_n dX0_greatest_46 rfl ?_
           refine cs_get (s := s) (w := .ref (p + 2)) fl_X0_19 dX0_greatest_47 (acb_ob hp) rfl ?_
           refine jg_iload dX0_greatest_50 rfl ?_
           refine cs_lda (s := s) (q := (p + 2)) (i := l4) dX0_greatest_52 (acb_a2 hp) q4 ?_
           refine jg_istore_n (L' := [some (.ref p), some (.int l1), some (.ref a2), some (.int (cg s (p + 2) l4)), some (.int l4)]) dX0_greatest_53 (by decide) rfl ?_
           refine jg_iinc (x := l4) (v := l4 + nI 1) (L' := [some (.ref p), some (.int l1), some (.ref a2), some (.int (cg s (p + 2) l4)), some (.int (l4 + nI 1))]) dX0_greatest_54 rfl (ic_k _ (by decide)) (by decide) rfl ?_
           refine jg_goto (tgt := 5) dX0_greatest_57 (by decide) ?_
           refine jg_fg (L' := [some (.ref p), some (.int l1), some (.ref a2), some (.int (cg s (p + 2) l4)), some (.int (l4 + nI 1))]) (by repeat (first | exact trivial | refine ⟨rfl, ?_⟩ | show jg_le _ _)) ?_
           exact ih (cg s (p + 2) l4) (l4 + nI 1) h
noncomputable def o_X0_greatest (F : Nat) (τ : cT) (n : Nat) (p : Nat) (a2 : Nat) (s : cS) (a1 : Int32) : Option (Int32) := (o_X0_greatest_5 F τ n p a2 a1 s F (nI 0) (nI 0)).bind fun x8 => (some x8)
set_option maxHeartbeats 4000000 in
theorem t_X0_greatest {Γ : jg_G} {g : Nat → jg_C} (F : Nat) (τ : cT) (n : Nat) (p : Nat) (a2 : Nat) (s : cS) (a1 : Int32) (hp : acb τ n p = true) (h2 : Ar τ n a2 0 12) {x : Int32} (h : o_X0_greatest F τ n p a2 s a1 = some x) : jc Γ mX0_greatest 1 0 0 [some (.ref p), some (.int a1), some (.ref a2), none, none] (ct_h g τ s, n) (.inl (some (.int x))) (ct_h g τ s, n) := by
  refine jc_of ?_
  rw [o_X0_greatest] at h
  refine jg_iconst (v := nI 0) dX0_greatest_0 (by decide) ?_
  refine jg_istore_n (L' := [some (.ref p), some (.int a1), some (.ref a2), some (.int (nI 0)), none]) dX0_greatest_1 (by decide) rfl ?_
  refine jg_iconst (v := nI 0) dX0_greatest_2 (by decide) ?_
  refine jg_istore (L' := [some (.ref p), some (.int a1), some (.ref a2), some (.int (nI 0)), some (.int (nI 0))]) dX0_greatest_3 (by decide) rfl ?_
  obtain ⟨x8, e_x8, h⟩ := bd_some h
  refine jg_fg (L' := [some (.ref p), some (.int a1), some (.ref a2), some (.int (nI 0)), some (.int (nI 0))]) (by repeat (first | exact trivial | refine ⟨rfl, ?_⟩ | show jg_le _ _)) ?_
  refine t_X0_greatest_5  F τ n p a2 a1 s hp h2 _ (x := x8) ?_ F (nI 0) (nI 0) e_x8
  refine jg_iload_n dX0_greatest_60 rfl ?_
  obtain rfl := Option.some.inj h
  exact jg_ireturn dX0_greatest_61 rfl ⟨rfl, rfl⟩
theorem dX6_giveBack_0 : decode cX6_giveBack 0 = .ok (.iload_n 1, 1) := by decide +kernel
theorem dX6_giveBack_1 : decode cX6_giveBack 1 = .ok (.aload_n 0, 1) := by decide +kernel
theorem dX6_giveBack_2 : decode cX6_giveBack 2 = .ok (.getfield 39, 3) := by decide +kernel
theorem dX6_giveBack_5 : decode cX6_giveBack 5 = .ok (.invokestatic 63, 3) := by decide +kernel
theorem dX6_giveBack_8 : decode cX6_giveBack 8 = .ok (.istore_n 2, 1) := by decide +kernel
theorem dX6_giveBack_9 : decode cX6_giveBack 9 = .ok (.aload_n 0, 1) := by decide +kernel
theorem dX6_giveBack_10 : decode cX6_giveBack 10 = .ok (.dup, 1) := by decide +kernel
theorem dX6_giveBack_11 : decode cX6_giveBack 11 = .ok (.getfield 39, 3) := by decide +kernel
theorem dX6_giveBack_14 : decode cX6_giveBack 14 = .ok (.iload_n 2, 1) := by decide +kernel
theorem dX6_giveBack_15 : decode cX6_giveBack 15 = .ok (.isub, 1) := by decide +kernel
