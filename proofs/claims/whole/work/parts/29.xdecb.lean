theorem dX11_hours_0 : decode cX11_hours 0 = .ok (.iload_n 1, 1) := by decide +kernel
theorem dX11_hours_1 : decode cX11_hours 1 = .ok (.iconst 0, 1) := by decide +kernel
theorem dX11_hours_2 : decode cX11_hours 2 = .ok (.bipush 120, 2) := by decide +kernel
theorem dX11_hours_4 : decode cX11_hours 4 = .ok (.invokestatic 41, 3) := by decide +kernel
theorem dX11_hours_7 : decode cX11_hours 7 = .ok (.invokestatic 45, 3) := by decide +kernel
theorem dX11_hours_10 : decode cX11_hours 10 = .ok (.iconst 0, 1) := by decide +kernel
theorem dX11_hours_11 : decode cX11_hours 11 = .ok (.istore_n 2, 1) := by decide +kernel
theorem dX11_hours_12 : decode cX11_hours 12 = .ok (.iload_n 2, 1) := by decide +kernel
theorem dX11_hours_13 : decode cX11_hours 13 = .ok (.iload_n 1, 1) := by decide +kernel
theorem dX11_hours_14 : decode cX11_hours 14 = .ok (.if_icmp .ge 29, 3) := by decide +kernel
theorem dX11_hours_17 : decode cX11_hours 17 = .ok (.aload_n 0, 1) := by decide +kernel
theorem dX11_hours_18 : decode cX11_hours 18 = .ok (.getfield 27, 3) := by decide +kernel
theorem dX11_hours_21 : decode cX11_hours 21 = .ok (.getfield 49, 3) := by decide +kernel
theorem dX11_hours_24 : decode cX11_hours 24 = .ok (.sipush 30000, 3) := by decide +kernel
theorem dX11_hours_27 : decode cX11_hours 27 = .ok (.if_icmp .ge 16, 3) := by decide +kernel
theorem dX11_hours_30 : decode cX11_hours 30 = .ok (.aload_n 0, 1) := by decide +kernel
theorem dX11_hours_31 : decode cX11_hours 31 = .ok (.getfield 27, 3) := by decide +kernel
theorem dX11_hours_34 : decode cX11_hours 34 = .ok (.invokevirtual 187, 3) := by decide +kernel
theorem dX11_hours_37 : decode cX11_hours 37 = .ok (.iinc 2 1, 3) := by decide +kernel
theorem dX11_hours_40 : decode cX11_hours 40 = .ok (.goto (-28), 3) := by decide +kernel
theorem dX11_hours_43 : decode cX11_hours 43 = .ok (.aload_n 0, 1) := by decide +kernel
theorem dX11_hours_44 : decode cX11_hours 44 = .ok (.getfield 27, 3) := by decide +kernel
theorem dX11_hours_47 : decode cX11_hours 47 = .ok (.getfield 49, 3) := by decide +kernel
theorem dX11_hours_50 : decode cX11_hours 50 = .ok (.ireturn, 1) := by decide +kernel
noncomputable def o_X11_hours_12 (F : Nat) (τ : cT) (n : Nat) (o : Nat) (l1 : Int32)  : Nat → Int32 → cS → Option (cS)
  | 0, _, _ => none
  | f + 1, l2, s => if l1 ≤ l2 then (some s) else (if (nI 30000) ≤ (s.1 (o + 10) 0) then (some s) else ((o_X2_passHour F τ n (o + 10) s).bind fun x7 => (o_X11_hours_12 F τ n o l1 f (l2 + nI 1) x7)))
set_option maxHeartbeats 4000000 in
theorem t_X11_hours_12 {Γ : jg_G} {g : Nat → jg_C} {a9 b9 : Nat} (F : Nat) (τ : cT) (n : Nat) (o : Nat) (l1 : Int32)  (hO : Sh τ n o) (Q : jg_Q) {x : cS} (K1 : jg Γ mX11_hours 7 a9 b9 43 [some (.ref o), none, none] [] (ct_h g τ x, n) Q)  : ∀ (f : Nat) (l2 : Int32) (s : cS), o_X11_hours_12 F τ n o l1 f l2 s = some x → jg Γ mX11_hours 7 a9 b9 12 [some (.ref o), some (.int l1), some (.int l2)] [] (ct_h g τ s, n) Q := by
  intro f
  induction f with
  | zero => intro l2 s h; rw [o_X11_hours_12] at h; cases h
  | succ f ih =>
   intro l2 s h
   rw [o_X11_hours_12] at h
   refine jg_iload_n dX11_hours_12 rfl ?_
   refine jg_iload_n dX11_hours_13 rfl ?_
   refine jg_icmp_ge (x := l2) (y := l1) (tgt := 43) dX11_hours_14 (by decide) (fun c5 => ?_) (fun c5 => ?_)
   · replace h := it_t c5 h
     refine jg_fg (L' := [some (.ref o), none, none]) (by repeat (first | exact trivial | refine ⟨rfl, ?_⟩ | show jg_le _ _)) ?_
     obtain rfl := Option.some.inj h
     exact K1
   · replace h := it_f c5 h
     refine jg_aload_n dX11_hours_17 rfl ?_
     refine cs_get (s := s) (w := .ref (o + 10)) fl_X11_27 dX11_hours_18 hO.ob0 rfl ?_
     refine cs_get (s := s) (w := .int (s.1 (o + 10) 0)) fl_X11_49 dX11_hours_21 hO.1.ob0 rfl ?_
     refine jg_sipush (v := nI 30000) dX11_hours_24 (by decide) ?_
     refine jg_icmp_ge (x := (s.1 (o + 10) 0)) (y := (nI 30000)) (tgt := 43) dX11_hours_27 (by decide) (fun c6 => ?_) (fun c6 => ?_)
     · replace h := it_t c6 h
       refine jg_fg (L' := [some (.ref o), none, none]) (by repeat (first | exact trivial | refine ⟨rfl, ?_⟩ | show jg_le _ _)) ?_
       obtain rfl := Option.some.inj h
       exact K1
     · replace h := it_f c6 h
       refine jg_aload_n dX11_hours_30 rfl ?_
       refine cs_get (s := s) (w := .ref (o + 10)) fl_X11_27 dX11_hours_31 hO.ob0 rfl ?_
       obtain ⟨x7, e_x7, h⟩ := bd_some h
       refine cs_call (q := (o + 10)) (As := []) kv_X11_187 dX11_hours_34 hO.1.ob0 rfl rfl (by decide) (Nat.le_of_ble_eq_true rfl) rfl (by decide) (Nat.le_of_ble_eq_true rfl) (t_X2_passHour F τ n (o + 10) s hO.1 e_x7) ?_
       refine jg_iinc (x := l2) (v := l2 + nI 1) (L' := [some (.ref o), some (.int l1), some (.int (l2 + nI 1))]) dX11_hours_37 rfl (ic_k _ (by decide)) (by decide) rfl ?_
       refine jg_goto (tgt := 12) dX11_hours_40 (by decide) ?_
       refine jg_fg (L' := [some (.ref o), some (.int l1), some (.int (l2 + nI 1))]) (by repeat (first | exact trivial | refine ⟨rfl, ?_⟩ | show jg_le _ _)) ?_
       exact ih (l2 + nI 1) x7 h
noncomputable def o_X11_hours (F : Nat) (τ : cT) (n : Nat) (o : Nat) (s : cS) (a1 : Int32) : Option ((Int32 × cS) ⊕ (Nat × cS)) := (o_X11_within τ n s a1 (nI 0) (nI 120)).bind fun x1 => ((o_X11_needArgument τ n s x1).bind fun x2 => (Sum.elim (fun y3 => (o_X11_hours_12 F τ n o a1 F (nI 0) s).bind fun x8 => (some (.inl (x8.1 (o + 10) 0, x8)))) (fun z4 => some (.inr (z4, s))) x2))
set_option maxHeartbeats 4000000 in
theorem t_X11_hours {Γ : jg_G} {g : Nat → jg_C} (F : Nat) (τ : cT) (n : Nat) (o : Nat) (s : cS) (a1 : Int32) (hO : Sh τ n o) {x : Int32 × cS} (h : o_X11_hours F τ n o s a1 = some (.inl x)) : jc Γ mX11_hours 7 0 0 [some (.ref o), some (.int a1), none] (ct_h g τ s, n) (.inl (some (.int x.1))) (ct_h g τ x.2, n) := by
  refine jc_of ?_
  rw [o_X11_hours] at h
  refine jg_iload_n dX11_hours_0 rfl ?_
  refine jg_iconst (v := nI 0) dX11_hours_1 (by decide) ?_
  refine jg_bipush (v := nI 120) dX11_hours_2 (by decide) ?_
  obtain ⟨x1, e_x1, h⟩ := bd_some h
  refine cs_callS (As := [.int a1, .int (nI 0), .int (nI 120)]) ks_X11_41 dX11_hours_4 rfl (by decide) (Nat.le_of_ble_eq_true rfl) rfl (by decide) (Nat.le_of_ble_eq_true rfl) (t_X11_within τ n s a1 (nI 0) (nI 120) e_x1) ?_
  obtain ⟨x2, e_x2, h⟩ := bd_some h
  rcases x2 with y3 | z4
  · replace h := se_l h
    refine cs_callS (As := [.int x1]) ks_X11_45 dX11_hours_7 rfl (by decide) (Nat.le_of_ble_eq_true rfl) rfl (by decide) (Nat.le_of_ble_eq_true rfl) (t_X11_needArgument τ n s x1 e_x2) ?_
    refine jg_iconst (v := nI 0) dX11_hours_10 (by decide) ?_
    refine jg_istore_n (L' := [some (.ref o), some (.int a1), some (.int (nI 0))]) dX11_hours_11 (by decide) rfl ?_
    obtain ⟨x8, e_x8, h⟩ := bd_some h
    refine jg_fg (L' := [some (.ref o), some (.int a1), some (.int (nI 0))]) (by repeat (first | exact trivial | refine ⟨rfl, ?_⟩ | show jg_le _ _)) ?_
    refine t_X11_hours_12  F τ n o a1 hO _ (x := x8) ?_ F (nI 0) s e_x8
    refine jg_aload_n dX11_hours_43 rfl ?_
    refine cs_get (s := x8) (w := .ref (o + 10)) fl_X11_27 dX11_hours_44 hO.ob0 rfl ?_
    refine cs_get (s := x8) (w := .int (x8.1 (o + 10) 0)) fl_X11_49 dX11_hours_47 hO.1.ob0 rfl ?_
    obtain rfl := Sum.inl.inj (Option.some.inj h)
    exact jg_ireturn dX11_hours_50 rfl ⟨rfl, rfl⟩
  · replace h := se_r h
    cases h
set_option maxHeartbeats 4000000 in
theorem x_X11_hours {Γ : jg_G} {g : Nat → jg_C} (F : Nat) (τ : cT) (n : Nat) (o : Nat) (s : cS) (a1 : Int32) (hO : Sh τ n o) (hn : n < 1000000) (hT : τ n = .inr (8, 0)) {z : Nat × cS} (h : o_X11_hours F τ n o s a1 = some (.inr z)) : jc Γ mX11_hours 7 1 6 [some (.ref o), some (.int a1), none] (ct_h g τ s, n) (.inr (exn z.1)) (ct_h (gx g n) τ z.2, n + 1) := by
  refine jc_of ?_
  rw [o_X11_hours] at h
  refine jg_iload_n dX11_hours_0 rfl ?_
  refine jg_iconst (v := nI 0) dX11_hours_1 (by decide) ?_
  refine jg_bipush (v := nI 120) dX11_hours_2 (by decide) ?_
  obtain ⟨x1, e_x1, h⟩ := bd_some h
  refine cs_callS (As := [.int a1, .int (nI 0), .int (nI 120)]) ks_X11_41 dX11_hours_4 rfl (by decide) (Nat.le_of_ble_eq_true rfl) rfl (by decide) (Nat.le_of_ble_eq_true rfl) (t_X11_within τ n s a1 (nI 0) (nI 120) e_x1) ?_
  obtain ⟨x2, e_x2, h⟩ := bd_some h
  rcases x2 with y3 | z4
  · replace h := se_l h
    refine cs_callS (As := [.int x1]) ks_X11_45 dX11_hours_7 rfl (by decide) (Nat.le_of_ble_eq_true rfl) rfl (by decide) (Nat.le_of_ble_eq_true rfl) (t_X11_needArgument τ n s x1 e_x2) ?_
    refine jg_iconst (v := nI 0) dX11_hours_10 (by decide) ?_
    refine jg_istore_n (L' := [some (.ref o), some (.int a1), some (.int (nI 0))]) dX11_hours_11 (by decide) rfl ?_
    obtain ⟨x5, e_x5, h⟩ := bd_some h
    refine jg_fg (L' := [some (.ref o), some (.int a1), some (.int (nI 0))]) (by repeat (first | exact trivial | refine ⟨rfl, ?_⟩ | show jg_le _ _)) ?_
    refine t_X11_hours_12  F τ n o a1 hO _ (x := x5) ?_ F (nI 0) s e_x5
    refine jg_aload_n dX11_hours_43 rfl ?_
    refine cs_get (s := x5) (w := .ref (o + 10)) fl_X11_27 dX11_hours_44 hO.ob0 rfl ?_
    refine cs_get (s := x5) (w := .int (x5.1 (o + 10) 0)) fl_X11_49 dX11_hours_47 hO.1.ob0 rfl ?_
    cases h
  · replace h := se_r h
    obtain rfl := Sum.inr.inj (Option.some.inj h)
    exact jc_SX (As := [.int x1]) ks_X11_45 dX11_hours_7 rfl (by decide) (Nat.le_of_ble_eq_true rfl) rfl (by decide) (Nat.le_refl _) (Nat.le_refl _) (Nat.le_of_ble_eq_true rfl) (x_X11_needArgument τ n s x1 hn hT e_x2) ⟨rfl, rfl⟩
theorem dX11_led_0 : decode cX11_led 0 = .ok (.iload_n 1, 1) := by decide +kernel
theorem dX11_led_1 : decode cX11_led 1 = .ok (.aload_n 0, 1) := by decide +kernel
theorem dX11_led_2 : decode cX11_led 2 = .ok (.getfield 27, 3) := by decide +kernel
theorem dX11_led_5 : decode cX11_led 5 = .ok (.getfield 123, 3) := by decide +kernel
theorem dX11_led_8 : decode cX11_led 8 = .ok (.getfield 154, 3) := by decide +kernel
theorem dX11_led_11 : decode cX11_led 11 = .ok (.invokestatic 90, 3) := by decide +kernel
theorem dX11_led_14 : decode cX11_led 14 = .ok (.aload_n 0, 1) := by decide +kernel
theorem dX11_led_15 : decode cX11_led 15 = .ok (.getfield 27, 3) := by decide +kernel
theorem dX11_led_18 : decode cX11_led 18 = .ok (.getfield 123, 3) := by decide +kernel
theorem dX11_led_21 : decode cX11_led 21 = .ok (.getfield 157, 3) := by decide +kernel
theorem dX11_led_24 : decode cX11_led 24 = .ok (.iload_n 1, 1) := by decide +kernel
theorem dX11_led_25 : decode cX11_led 25 = .ok (.aaload, 1) := by decide +kernel
theorem dX11_led_26 : decode cX11_led 26 = .ok (.astore_n 3, 1) := by decide +kernel
theorem dX11_led_27 : decode cX11_led 27 = .ok (.iload_n 2, 1) := by decide +kernel
theorem dX11_led_28 : decode cX11_led 28 = .ok (.tableswitch 141 0 9 #[56, 61, 66, 71, 76, 81, 86, 122, 127, 132], 56) := by decide +kernel
theorem dX11_led_84 : decode cX11_led 84 = .ok (.aload_n 3, 1) := by decide +kernel
theorem dX11_led_85 : decode cX11_led 85 = .ok (.getfield 190, 3) := by decide +kernel
theorem dX11_led_88 : decode cX11_led 88 = .ok (.ireturn, 1) := by decide +kernel
theorem dX11_led_89 : decode cX11_led 89 = .ok (.aload_n 3, 1) := by decide +kernel
theorem dX11_led_90 : decode cX11_led 90 = .ok (.getfield 193, 3) := by decide +kernel
theorem dX11_led_93 : decode cX11_led 93 = .ok (.ireturn, 1) := by decide +kernel
theorem dX11_led_94 : decode cX11_led 94 = .ok (.aload_n 3, 1) := by decide +kernel
theorem dX11_led_95 : decode cX11_led 95 = .ok (.getfield 196, 3) := by decide +kernel
theorem dX11_led_98 : decode cX11_led 98 = .ok (.ireturn, 1) := by decide +kernel
theorem dX11_led_99 : decode cX11_led 99 = .ok (.aload_n 3, 1) := by decide +kernel
theorem dX11_led_100 : decode cX11_led 100 = .ok (.getfield 199, 3) := by decide +kernel
theorem dX11_led_103 : decode cX11_led 103 = .ok (.ireturn, 1) := by decide +kernel
theorem dX11_led_104 : decode cX11_led 104 = .ok (.aload_n 3, 1) := by decide +kernel
theorem dX11_led_105 : decode cX11_led 105 = .ok (.getfield 202, 3) := by decide +kernel
theorem dX11_led_108 : decode cX11_led 108 = .ok (.ireturn, 1) := by decide +kernel
theorem dX11_led_109 : decode cX11_led 109 = .ok (.aload_n 3, 1) := by decide +kernel
theorem dX11_led_110 : decode cX11_led 110 = .ok (.getfield 205, 3) := by decide +kernel
theorem dX11_led_113 : decode cX11_led 113 = .ok (.ireturn, 1) := by decide +kernel
theorem dX11_led_114 : decode cX11_led 114 = .ok (.aload_n 3, 1) := by decide +kernel
theorem dX11_led_115 : decode cX11_led 115 = .ok (.getfield 190, 3) := by decide +kernel
theorem dX11_led_118 : decode cX11_led 118 = .ok (.iconst 4, 1) := by decide +kernel
theorem dX11_led_119 : decode cX11_led 119 = .ok (.if_icmp .ne 10, 3) := by decide +kernel
theorem dX11_led_122 : decode cX11_led 122 = .ok (.aload_n 3, 1) := by decide +kernel
theorem dX11_led_123 : decode cX11_led 123 = .ok (.getfield 208, 3) := by decide +kernel
theorem dX11_led_126 : decode cX11_led 126 = .ok (.goto 23, 3) := by decide +kernel
theorem dX11_led_129 : decode cX11_led 129 = .ok (.aload_n 0, 1) := by decide +kernel
theorem dX11_led_130 : decode cX11_led 130 = .ok (.getfield 27, 3) := by decide +kernel
theorem dX11_led_133 : decode cX11_led 133 = .ok (.aload_n 3, 1) := by decide +kernel
theorem dX11_led_134 : decode cX11_led 134 = .ok (.getfield 211, 3) := by decide +kernel
theorem dX11_led_137 : decode cX11_led 137 = .ok (.aload_n 3, 1) := by decide +kernel
theorem dX11_led_138 : decode cX11_led 138 = .ok (.aload_n 0, 1) := by decide +kernel
theorem dX11_led_139 : decode cX11_led 139 = .ok (.getfield 27, 3) := by decide +kernel
theorem dX11_led_142 : decode cX11_led 142 = .ok (.aload_n 3, 1) := by decide +kernel
theorem dX11_led_143 : decode cX11_led 143 = .ok (.invokevirtual 215, 3) := by decide +kernel
theorem dX11_led_146 : decode cX11_led 146 = .ok (.invokevirtual 219, 3) := by decide +kernel
theorem dX11_led_149 : decode cX11_led 149 = .ok (.ireturn, 1) := by decide +kernel
theorem dX11_led_150 : decode cX11_led 150 = .ok (.aload_n 3, 1) := by decide +kernel
theorem dX11_led_151 : decode cX11_led 151 = .ok (.getfield 223, 3) := by decide +kernel
theorem dX11_led_154 : decode cX11_led 154 = .ok (.ireturn, 1) := by decide +kernel
theorem dX11_led_155 : decode cX11_led 155 = .ok (.aload_n 3, 1) := by decide +kernel
theorem dX11_led_156 : decode cX11_led 156 = .ok (.getfield 226, 3) := by decide +kernel
theorem dX11_led_159 : decode cX11_led 159 = .ok (.ireturn, 1) := by decide +kernel
theorem dX11_led_160 : decode cX11_led 160 = .ok (.aload_n 0, 1) := by decide +kernel
theorem dX11_led_161 : decode cX11_led 161 = .ok (.getfield 27, 3) := by decide +kernel
theorem dX11_led_164 : decode cX11_led 164 = .ok (.iload_n 1, 1) := by decide +kernel
theorem dX11_led_165 : decode cX11_led 165 = .ok (.invokevirtual 229, 3) := by decide +kernel
theorem dX11_led_168 : decode cX11_led 168 = .ok (.ireturn, 1) := by decide +kernel
theorem dX11_led_169 : decode cX11_led 169 = .ok (.new 105, 3) := by decide +kernel
theorem dX11_led_172 : decode cX11_led 172 = .ok (.dup, 1) := by decide +kernel
theorem dX11_led_173 : decode cX11_led 173 = .ok (.ldc 232, 2) := by decide +kernel
theorem dX11_led_175 : decode cX11_led 175 = .ok (.invokespecial 109, 3) := by decide +kernel
theorem dX11_led_178 : decode cX11_led 178 = .ok (.athrow, 1) := by decide +kernel
noncomputable def o_X11_led (F : Nat) (τ : cT) (n : Nat) (o : Nat) (s : cS) (a1 : Int32) (a2 : Int32) : Option ((Int32 × cS) ⊕ (Nat × cS)) := (o_X11_needIndex τ n s a1 (s.1 (o + 37) 3)).bind fun x1 => (Sum.elim (fun y2 => if iL a1 80 then (if a2 = nI 0 then (some (.inl (s.1 (o + 49 + 1 + a1.toNatClampNeg) 10, s))) else (if a2 = nI 1 then (some (.inl (s.1 (o + 49 + 1 + a1.toNatClampNeg) 11, s))) else (if a2 = nI 2 then (some (.inl (s.1 (o + 49 + 1 + a1.toNatClampNeg) 12, s))) else (if a2 = nI 3 then (some (.inl (s.1 (o + 49 + 1 + a1.toNatClampNeg) 9, s))) else (if a2 = nI 4 then (some (.inl (s.1 (o + 49 + 1 + a1.toNatClampNeg) 13, s))) else (if a2 = nI 5 then (some (.inl (s.1 (o + 49 + 1 + a1.toNatClampNeg) 14, s))) else (if a2 = nI 6 then (if (s.1 (o + 49 + 1 + a1.toNatClampNeg) 10) = (nI 4) then (some (.inl (s.1 (o + 49 + 1 + a1.toNatClampNeg) 15, s))) else ((s.2 (o + 49 + 1 + a1.toNatClampNeg) 8).bind fun x13 => (if acb τ n x13 = true then ((o_X2_stayOf τ n (o + 10) (o + 49 + 1 + a1.toNatClampNeg) s).bind fun x15 => ((o_X2_dueBy F τ n (o + 10) x13 (o + 49 + 1 + a1.toNatClampNeg) s x15).bind fun x16 => (some (.inl (x16.1, x16.2))))) else none))) else (if a2 = nI 7 then (some (.inl (s.1 (o + 49 + 1 + a1.toNatClampNeg) 16, s))) else (if a2 = nI 8 then (some (.inl (s.1 (o + 49 + 1 + a1.toNatClampNeg) 18, s))) else (if a2 = nI 9 then ((o_X2_countAheadOf F τ n (o + 10) s a1).bind fun x20 => (some (.inl (x20, s)))) else (some (.inr (4, s))))))))))))) else none) (fun z3 => some (.inr (z3, s))) x1)
set_option maxHeartbeats 4000000 in
theorem t_X11_led {Γ : jg_G} {g : Nat → jg_C} (F : Nat) (τ : cT) (n : Nat) (o : Nat) (s : cS) (a1 : Int32) (a2 : Int32) (hO : Sh τ n o) {x : Int32 × cS} (h : o_X11_led F τ n o s a1 a2 = some (.inl x)) : jc Γ mX11_led 7 0 0 [some (.ref o), some (.int a1), some (.int a2), none] (ct_h g τ s, n) (.inl (some (.int x.1))) (ct_h g τ x.2, n) := by
  refine jc_of ?_
  rw [o_X11_led] at h
  refine jg_iload_n dX11_led_0 rfl ?_
  refine jg_aload_n dX11_led_1 rfl ?_
  refine cs_get (s := s) (w := .ref (o + 10)) fl_X11_27 dX11_led_2 hO.ob0 rfl ?_
  refine cs_get (s := s) (w := .ref (o + 37)) fl_X11_123 dX11_led_5 hO.1.ob0 rfl ?_
  refine cs_get (s := s) (w := .int (s.1 (o + 37) 3)) fl_X11_154 dX11_led_8 (hO.1.ob 27 (by decide) rfl) rfl ?_
  obtain ⟨x1, e_x1, h⟩ := bd_some h
  rcases x1 with y2 | z3
  · replace h := se_l h
    refine cs_callS (As := [.int a1, .int (s.1 (o + 37) 3)]) ks_X11_90 dX11_led_11 rfl (by decide) (Nat.le_of_ble_eq_true rfl) rfl (by decide) (Nat.le_of_ble_eq_true rfl) (t_X11_needIndex τ n s a1 (s.1 (o + 37) 3) e_x1) ?_
    refine jg_aload_n dX11_led_14 rfl ?_
    refine cs_get (s := s) (w := .ref (o + 10)) fl_X11_27 dX11_led_15 hO.ob0 rfl ?_
    refine cs_get (s := s) (w := .ref (o + 37)) fl_X11_123 dX11_led_18 hO.1.ob0 rfl ?_
    refine cs_get (s := s) (w := .ref (o + 49)) fl_X11_157 dX11_led_21 (hO.1.ob 27 (by decide) rfl) rfl ?_
    refine jg_iload_n dX11_led_24 rfl ?_
    obtain ⟨q4, h⟩ := gd_some h
    refine cs_ldr (s := s) (q := (o + 49)) (i := a1) (kd := 6) (by decide) dX11_led_25 (hO.1.ar 39 (by decide) rfl) q4 ?_
    refine jg_astore_n (L' := [some (.ref o), some (.int a1), some (.int a2), some (.ref (o + 49 + 1 + a1.toNatClampNeg))]) dX11_led_26 (by decide) rfl ?_
    refine jg_iload_n dX11_led_27 rfl ?_
    by_cases c5 : a2 = nI 0
    · replace h := it_t c5 h
      refine jg_tableIn (off := 56) (tgt := 84) dX11_led_28 (by rw [c5]; decide) (by rw [c5]; decide) (by rw [c5]; rfl) (by decide) ?_
      refine jg_aload_n dX11_led_84 rfl ?_
      refine cs_get (s := s) (w := .int (s.1 (o + 49 + 1 + a1.toNatClampNeg) 10)) fl_X11_190 dX11_led_85 (hO.1.ship q4.2) rfl ?_
      obtain rfl := Sum.inl.inj (Option.some.inj h)
      exact jg_ireturn dX11_led_88 rfl ⟨rfl, rfl⟩
    replace h := it_f c5 h
    by_cases c6 : a2 = nI 1
    · replace h := it_t c6 h
      refine jg_tableIn (off := 61) (tgt := 89) dX11_led_28 (by rw [c6]; decide) (by rw [c6]; decide) (by rw [c6]; rfl) (by decide) ?_
      refine jg_aload_n dX11_led_89 rfl ?_
      refine cs_get (s := s) (w := .int (s.1 (o + 49 + 1 + a1.toNatClampNeg) 11)) fl_X11_193 dX11_led_90 (hO.1.ship q4.2) rfl ?_
      obtain rfl := Sum.inl.inj (Option.some.inj h)
      exact jg_ireturn dX11_led_93 rfl ⟨rfl, rfl⟩
    replace h := it_f c6 h
    by_cases c7 : a2 = nI 2
    · replace h := it_t c7 h
      refine jg_tableIn (off := 66) (tgt := 94) dX11_led_28 (by rw [c7]; decide) (by rw [c7]; decide) (by rw [c7]; rfl) (by decide) ?_
      refine jg_aload_n dX11_led_94 rfl ?_
      refine cs_get (s := s) (w := .int (s.1 (o + 49 + 1 + a1.toNatClampNeg) 12)) fl_X11_196 dX11_led_95 (hO.1.ship q4.2) rfl ?_
      obtain rfl := Sum.inl.inj (Option.some.inj h)
      exact jg_ireturn dX11_led_98 rfl ⟨rfl, rfl⟩
    replace h := it_f c7 h
    by_cases c8 : a2 = nI 3
    · replace h := it_t c8 h
      refine jg_tableIn (off := 71) (tgt := 99) dX11_led_28 (by rw [c8]; decide) (by rw [c8]; decide) (by rw [c8]; rfl) (by decide) ?_
      refine jg_aload_n dX11_led_99 rfl ?_
      refine cs_get (s := s) (w := .int (s.1 (o + 49 + 1 + a1.toNatClampNeg) 9)) fl_X11_199 dX11_led_100 (hO.1.ship q4.2) rfl ?_
      obtain rfl := Sum.inl.inj (Option.some.inj h)
      exact jg_ireturn dX11_led_103 rfl ⟨rfl, rfl⟩
    replace h := it_f c8 h
    by_cases c9 : a2 = nI 4
    · replace h := it_t c9 h
      refine jg_tableIn (off := 76) (tgt := 104) dX11_led_28 (by rw [c9]; decide) (by rw [c9]; decide) (by rw [c9]; rfl) (by decide) ?_
      refine jg_aload_n dX11_led_104 rfl ?_
      refine cs_get (s := s) (w := .int (s.1 (o + 49 + 1 + a1.toNatClampNeg) 13)) fl_X11_202 dX11_led_105 (hO.1.ship q4.2) rfl ?_
      obtain rfl := Sum.inl.inj (Option.some.inj h)
      exact jg_ireturn dX11_led_108 rfl ⟨rfl, rfl⟩
    replace h := it_f c9 h
    by_cases c10 : a2 = nI 5
    · replace h := it_t c10 h
      refine jg_tableIn (off := 81) (tgt := 109) dX11_led_28 (by rw [c10]; decide) (by rw [c10]; decide) (by rw [c10]; rfl) (by decide) ?_
      refine jg_aload_n dX11_led_109 rfl ?_
      refine cs_get (s := s) (w := .int (s.1 (o + 49 + 1 + a1.toNatClampNeg) 14)) fl_X11_205 dX11_led_110 (hO.1.ship q4.2) rfl ?_
      obtain rfl := Sum.inl.inj (Option.some.inj h)
      exact jg_ireturn dX11_led_113 rfl ⟨rfl, rfl⟩
    replace h := it_f c10 h
    by_cases c11 : a2 = nI 6
    · replace h := it_t c11 h
      refine jg_tableIn (off := 86) (tgt := 114) dX11_led_28 (by rw [c11]; decide) (by rw [c11]; decide) (by rw [c11]; rfl) (by decide) ?_
      refine jg_aload_n dX11_led_114 rfl ?_
      refine cs_get (s := s) (w := .int (s.1 (o + 49 + 1 + a1.toNatClampNeg) 10)) fl_X11_190 dX11_led_115 (hO.1.ship q4.2) rfl ?_
      refine jg_iconst (v := nI 4) dX11_led_118 (by decide) ?_
      refine jg_icmp_ne (x := (s.1 (o + 49 + 1 + a1.toNatClampNeg) 10)) (y := (nI 4)) (tgt := 129) dX11_led_119 (by decide) (fun c12 => ?_) (fun c12 => ?_)
      · replace h := it_f c12 h
        refine jg_aload_n dX11_led_129 rfl ?_
        refine cs_get (s := s) (w := .ref (o + 10)) fl_X11_27 dX11_led_130 hO.ob0 rfl ?_
        refine jg_aload_n dX11_led_133 rfl ?_
        obtain ⟨x13, e_x13, h⟩ := bd_some h
        obtain ⟨q14, h⟩ := gd_some h
        refine cs_get (s := s) (w := .ref x13) fl_X11_211 dX11_led_134 (hO.1.ship q4.2) (by show some (vr (s.2 (o + 49 + 1 + a1.toNatClampNeg) 8)) = _; rw [e_x13]; rfl) ?_
        refine jg_aload_n dX11_led_137 rfl ?_
        refine jg_aload_n dX11_led_138 rfl ?_
        refine cs_get (s := s) (w := .ref (o + 10)) fl_X11_27 dX11_led_139 hO.ob0 rfl ?_
        refine jg_aload_n dX11_led_142 rfl ?_
        obtain ⟨x15, e_x15, h⟩ := bd_some h
        refine cs_call (q := (o + 10)) (As := [.ref (o + 49 + 1 + a1.toNatClampNeg)]) kv_X11_215 dX11_led_143 hO.1.ob0 rfl rfl (by decide) (Nat.le_of_ble_eq_true rfl) rfl (by decide) (Nat.le_of_ble_eq_true rfl) (t_X2_stayOf τ n (o + 10) (o + 49 + 1 + a1.toNatClampNeg) s hO.1 (hO.1.ship q4.2) e_x15) ?_
        obtain ⟨x16, e_x16, h⟩ := bd_some h
        refine cs_call (q := (o + 10)) (As := [.ref x13, .ref (o + 49 + 1 + a1.toNatClampNeg), .int x15]) kv_X11_219 dX11_led_146 hO.1.ob0 rfl rfl (by decide) (Nat.le_of_ble_eq_true rfl) rfl (by decide) (Nat.le_of_ble_eq_true rfl) (t_X2_dueBy F τ n (o + 10) x13 (o + 49 + 1 + a1.toNatClampNeg) s x15 hO.1 q14 (hO.1.ship q4.2) e_x16) ?_
        obtain rfl := Sum.inl.inj (Option.some.inj h)
        exact jg_ireturn dX11_led_149 rfl ⟨rfl, rfl⟩
      · replace h := it_t c12 h
        refine jg_aload_n dX11_led_122 rfl ?_
        refine cs_get (s := s) (w := .int (s.1 (o + 49 + 1 + a1.toNatClampNeg) 15)) fl_X11_208 dX11_led_123 (hO.1.ship q4.2) rfl ?_
        refine jg_goto (tgt := 149) dX11_led_126 (by decide) ?_
        obtain rfl := Sum.inl.inj (Option.some.inj h)
        exact jg_ireturn dX11_led_149 rfl ⟨rfl, rfl⟩
    replace h := it_f c11 h
    by_cases c17 : a2 = nI 7
    · replace h := it_t c17 h
      refine jg_tableIn (off := 122) (tgt := 150) dX11_led_28 (by rw [c17]; decide) (by rw [c17]; decide) (by rw [c17]; rfl) (by decide) ?_
      refine jg_aload_n dX11_led_150 rfl ?_
      refine cs_get (s := s) (w := .int (s.1 (o + 49 + 1 + a1.toNatClampNeg) 16)) fl_X11_223 dX11_led_151 (hO.1.ship q4.2) rfl ?_
      obtain rfl := Sum.inl.inj (Option.some.inj h)
      exact jg_ireturn dX11_led_154 rfl ⟨rfl, rfl⟩
    replace h := it_f c17 h
    by_cases c18 : a2 = nI 8
    · replace h := it_t c18 h
      refine jg_tableIn (off := 127) (tgt := 155) dX11_led_28 (by rw [c18]; decide) (by rw [c18]; decide) (by rw [c18]; rfl) (by decide) ?_
      refine jg_aload_n dX11_led_155 rfl ?_
      refine cs_get (s := s) (w := .int (s.1 (o + 49 + 1 + a1.toNatClampNeg) 18)) fl_X11_226 dX11_led_156 (hO.1.ship q4.2) rfl ?_
      obtain rfl := Sum.inl.inj (Option.some.inj h)
      exact jg_ireturn dX11_led_159 rfl ⟨rfl, rfl⟩
    replace h := it_f c18 h
    by_cases c19 : a2 = nI 9
    · replace h := it_t c19 h
      refine jg_tableIn (off := 132) (tgt := 160) dX11_led_28 (by rw [c19]; decide) (by rw [c19]; decide) (by rw [c19]; rfl) (by decide) ?_
      refine jg_aload_n dX11_led_160 rfl ?_
      refine cs_get (s := s) (w := .ref (o + 10)) fl_X11_27 dX11_led_161 hO.ob0 rfl ?_
      refine jg_iload_n dX11_led_164 rfl ?_
      obtain ⟨x20, e_x20, h⟩ := bd_some h
      refine cs_call (q := (o + 10)) (As := [.int a1]) kv_X11_229 dX11_led_165 hO.1.ob0 rfl rfl (by decide) (Nat.le_of_ble_eq_true rfl) rfl (by decide) (Nat.le_of_ble_eq_true rfl) (t_X2_countAheadOf F τ n (o + 10) s a1 hO.1 e_x20) ?_
      obtain rfl := Sum.inl.inj (Option.some.inj h)
      exact jg_ireturn dX11_led_168 rfl ⟨rfl, rfl⟩
    replace h := it_f c19 h
    refine jg_tableOut (tgt := 169) dX11_led_28 (jt_outN 0 9 (a2) (fun k h1 h2 => by rcases (show k = 0 ∨ k = 1 ∨ k = 2 ∨ k = 3 ∨ k = 4 ∨ k = 5 ∨ k = 6 ∨ k = 7 ∨ k = 8 ∨ k = 9 by omega) with rfl | rfl | rfl | rfl | rfl | rfl | rfl | rfl | rfl | rfl <;> assumption)) (by decide) ?_
    cases h
  · replace h := se_r h
    cases h
set_option maxHeartbeats 4000000 in
theorem x_X11_led {Γ : jg_G} {g : Nat → jg_C} (F : Nat) (τ : cT) (n : Nat) (o : Nat) (s : cS) (a1 : Int32) (a2 : Int32) (hO : Sh τ n o) (hn : n < 1000000) (hT : τ n = .inr (8, 0)) {z : Nat × cS} (h : o_X11_led F τ n o s a1 a2 = some (.inr z)) : jc Γ mX11_led 7 1 6 [some (.ref o), some (.int a1), some (.int a2), none] (ct_h g τ s, n) (.inr (exn z.1)) (ct_h (gx g n) τ z.2, n + 1) := by
  refine jc_of ?_
  rw [o_X11_led] at h
  refine jg_iload_n dX11_led_0 rfl ?_
  refine jg_aload_n dX11_led_1 rfl ?_
  refine cs_get (s := s) (w := .ref (o + 10)) fl_X11_27 dX11_led_2 hO.ob0 rfl ?_
  refine cs_get (s := s) (w := .ref (o + 37)) fl_X11_123 dX11_led_5 hO.1.ob0 rfl ?_
  refine cs_get (s := s) (w := .int (s.1 (o + 37) 3)) fl_X11_154 dX11_led_8 (hO.1.ob 27 (by decide) rfl) rfl ?_
  obtain ⟨x1, e_x1, h⟩ := bd_some h
  rcases x1 with y2 | z3
  · replace h := se_l h
    refine cs_callS (As := [.int a1, .int (s.1 (o + 37) 3)]) ks_X11_90 dX11_led_11 rfl (by decide) (Nat.le_of_ble_eq_true rfl) rfl (by decide) (Nat.le_of_ble_eq_true rfl) (t_X11_needIndex τ n s a1 (s.1 (o + 37) 3) e_x1) ?_
    refine jg_aload_n dX11_led_14 rfl ?_
    refine cs_get (s := s) (w := .ref (o + 10)) fl_X11_27 dX11_led_15 hO.ob0 rfl ?_
    refine cs_get (s := s) (w := .ref (o + 37)) fl_X11_123 dX11_led_18 hO.1.ob0 rfl ?_
    refine cs_get (s := s) (w := .ref (o + 49)) fl_X11_157 dX11_led_21 (hO.1.ob 27 (by decide) rfl) rfl ?_
    refine jg_iload_n dX11_led_24 rfl ?_
    obtain ⟨q4, h⟩ := gd_some h
    refine cs_ldr (s := s) (q := (o + 49)) (i := a1) (kd := 6) (by decide) dX11_led_25 (hO.1.ar 39 (by decide) rfl) q4 ?_
    refine jg_astore_n (L' := [some (.ref o), some (.int a1), some (.int a2), some (.ref (o + 49 + 1 + a1.toNatClampNeg))]) dX11_led_26 (by decide) rfl ?_
    refine jg_iload_n dX11_led_27 rfl ?_
    by_cases c5 : a2 = nI 0
    · replace h := it_t c5 h
      refine jg_tableIn (off := 56) (tgt := 84) dX11_led_28 (by rw [c5]; decide) (by rw [c5]; decide) (by rw [c5]; rfl) (by decide) ?_
      refine jg_aload_n dX11_led_84 rfl ?_
      refine cs_get (s := s) (w := .int (s.1 (o + 49 + 1 + a1.toNatClampNeg) 10)) fl_X11_190 dX11_led_85 (hO.1.ship q4.2) rfl ?_
      cases h
    replace h := it_f c5 h
    by_cases c6 : a2 = nI 1
    · replace h := it_t c6 h
      refine jg_tableIn (off := 61) (tgt := 89) dX11_led_28 (by rw [c6]; decide) (by rw [c6]; decide) (by rw [c6]; rfl) (by decide) ?_
      refine jg_aload_n dX11_led_89 rfl ?_
      refine cs_get (s := s) (w := .int (s.1 (o + 49 + 1 + a1.toNatClampNeg) 11)) fl_X11_193 dX11_led_90 (hO.1.ship q4.2) rfl ?_
      cases h
    replace h := it_f c6 h
    by_cases c7 : a2 = nI 2
    · replace h := it_t c7 h
      refine jg_tableIn (off := 66) (tgt := 94) dX11_led_28 (by rw [c7]; decide) (by rw [c7]; decide) (by rw [c7]; rfl) (by decide) ?_
      refine jg_aload_n dX11_led_94 rfl ?_
      refine cs_get (s := s) (w := .int (s.1 (o + 49 + 1 + a1.toNatClampNeg) 12)) fl_X11_196 dX11_led_95 (hO.1.ship q4.2) rfl ?_
      cases h
    replace h := it_f c7 h
    by_cases c8 : a2 = nI 3
    · replace h := it_t c8 h
      refine jg_tableIn (off := 71) (tgt := 99) dX11_led_28 (by rw [c8]; decide) (by rw [c8]; decide) (by rw [c8]; rfl) (by decide) ?_
      refine jg_aload_n dX11_led_99 rfl ?_
      refine cs_get (s := s) (w := .int (s.1 (o + 49 + 1 + a1.toNatClampNeg) 9)) fl_X11_199 dX11_led_100 (hO.1.ship q4.2) rfl ?_
      cases h
    replace h := it_f c8 h
    by_cases c9 : a2 = nI 4
    · replace h := it_t c9 h
      refine jg_tableIn (off := 76) (tgt := 104) dX11_led_28 (by rw [c9]; decide) (by rw [c9]; decide) (by rw [c9]; rfl) (by decide) ?_
      refine jg_aload_n dX11_led_104 rfl ?_
      refine cs_get (s := s) (w := .int (s.1 (o + 49 + 1 + a1.toNatClampNeg) 13)) fl_X11_202 dX11_led_105 (hO.1.ship q4.2) rfl ?_
      cases h
    replace h := it_f c9 h
    by_cases c10 : a2 = nI 5
    · replace h := it_t c10 h
      refine jg_tableIn (off := 81) (tgt := 109) dX11_led_28 (by rw [c10]; decide) (by rw [c10]; decide) (by rw [c10]; rfl) (by decide) ?_
      refine jg_aload_n dX11_led_109 rfl ?_
      refine cs_get (s := s) (w := .int (s.1 (o + 49 + 1 + a1.toNatClampNeg) 14)) fl_X11_205 dX11_led_110 (hO.1.ship q4.2) rfl ?_
      cases h
    replace h := it_f c10 h
    by_cases c11 : a2 = nI 6
    · replace h := it_t c11 h
      refine jg_tableIn (off := 86) (tgt := 114) dX11_led_28 (by rw [c11]; decide) (by rw [c11]; decide) (by rw [c11]; rfl) (by decide) ?_
      refine jg_aload_n dX11_led_114 rfl ?_
      refine cs_get (s := s) (w := .int (s.1 (o + 49 + 1 + a1.toNatClampNeg) 10)) fl_X11_190 dX11_led_115 (hO.1.ship q4.2) rfl ?_
      refine jg_iconst (v := nI 4) dX11_led_118 (by decide) ?_
      refine jg_icmp_ne (x := (s.1 (o + 49 + 1 + a1.toNatClampNeg) 10)) (y := (nI 4)) (tgt := 129) dX11_led_119 (by decide) (fun c12 => ?_) (fun c12 => ?_)
      · replace h := it_f c12 h
        refine jg_aload_n dX11_led_129 rfl ?_
        refine cs_get (s := s) (w := .ref (o + 10)) fl_X11_27 dX11_led_130 hO.ob0 rfl ?_
        refine jg_aload_n dX11_led_133 rfl ?_
        obtain ⟨x13, e_x13, h⟩ := bd_some h
        obtain ⟨q14, h⟩ := gd_some h
        refine cs_get (s := s) (w := .ref x13) fl_X11_211 dX11_led_134 (hO.1.ship q4.2) (by show some (vr (s.2 (o + 49 + 1 + a1.toNatClampNeg) 8)) = _; rw [e_x13]; rfl) ?_
        refine jg_aload_n dX11_led_137 rfl ?_
        refine jg_aload_n dX11_led_138 rfl ?_
        refine cs_get (s := s) (w := .ref (o + 10)) fl_X11_27 dX11_led_139 hO.ob0 rfl ?_
        refine jg_aload_n dX11_led_142 rfl ?_
        obtain ⟨x15, e_x15, h⟩ := bd_some h
        refine cs_call (q := (o + 10)) (As := [.ref (o + 49 + 1 + a1.toNatClampNeg)]) kv_X11_215 dX11_led_143 hO.1.ob0 rfl rfl (by decide) (Nat.le_of_ble_eq_true rfl) rfl (by decide) (Nat.le_of_ble_eq_true rfl) (t_X2_stayOf τ n (o + 10) (o + 49 + 1 + a1.toNatClampNeg) s hO.1 (hO.1.ship q4.2) e_x15) ?_
        obtain ⟨x16, e_x16, h⟩ := bd_some h
        refine cs_call (q := (o + 10)) (As := [.ref x13, .ref (o + 49 + 1 + a1.toNatClampNeg), .int x15]) kv_X11_219 dX11_led_146 hO.1.ob0 rfl rfl (by decide) (Nat.le_of_ble_eq_true rfl) rfl (by decide) (Nat.le_of_ble_eq_true rfl) (t_X2_dueBy F τ n (o + 10) x13 (o + 49 + 1 + a1.toNatClampNeg) s x15 hO.1 q14 (hO.1.ship q4.2) e_x16) ?_
        cases h
      · replace h := it_t c12 h
        refine jg_aload_n dX11_led_122 rfl ?_
        refine cs_get (s := s) (w := .int (s.1 (o + 49 + 1 + a1.toNatClampNeg) 15)) fl_X11_208 dX11_led_123 (hO.1.ship q4.2) rfl ?_
        refine jg_goto (tgt := 149) dX11_led_126 (by decide) ?_
        cases h
    replace h := it_f c11 h
    by_cases c17 : a2 = nI 7
    · replace h := it_t c17 h
      refine jg_tableIn (off := 122) (tgt := 150) dX11_led_28 (by rw [c17]; decide) (by rw [c17]; decide) (by rw [c17]; rfl) (by decide) ?_
      refine jg_aload_n dX11_led_150 rfl ?_
      refine cs_get (s := s) (w := .int (s.1 (o + 49 + 1 + a1.toNatClampNeg) 16)) fl_X11_223 dX11_led_151 (hO.1.ship q4.2) rfl ?_
      cases h
    replace h := it_f c17 h
    by_cases c18 : a2 = nI 8
    · replace h := it_t c18 h
      refine jg_tableIn (off := 127) (tgt := 155) dX11_led_28 (by rw [c18]; decide) (by rw [c18]; decide) (by rw [c18]; rfl) (by decide) ?_
      refine jg_aload_n dX11_led_155 rfl ?_
      refine cs_get (s := s) (w := .int (s.1 (o + 49 + 1 + a1.toNatClampNeg) 18)) fl_X11_226 dX11_led_156 (hO.1.ship q4.2) rfl ?_
      cases h
    replace h := it_f c18 h
    by_cases c19 : a2 = nI 9
    · replace h := it_t c19 h
      refine jg_tableIn (off := 132) (tgt := 160) dX11_led_28 (by rw [c19]; decide) (by rw [c19]; decide) (by rw [c19]; rfl) (by decide) ?_
      refine jg_aload_n dX11_led_160 rfl ?_
      refine cs_get (s := s) (w := .ref (o + 10)) fl_X11_27 dX11_led_161 hO.ob0 rfl ?_
      refine jg_iload_n dX11_led_164 rfl ?_
      obtain ⟨x20, e_x20, h⟩ := bd_some h
      refine cs_call (q := (o + 10)) (As := [.int a1]) kv_X11_229 dX11_led_165 hO.1.ob0 rfl rfl (by decide) (Nat.le_of_ble_eq_true rfl) rfl (by decide) (Nat.le_of_ble_eq_true rfl) (t_X2_countAheadOf F τ n (o + 10) s a1 hO.1 e_x20) ?_
      cases h
    replace h := it_f c19 h
    refine jg_tableOut (tgt := 169) dX11_led_28 (jt_outN 0 9 (a2) (fun k h1 h2 => by rcases (show k = 0 ∨ k = 1 ∨ k = 2 ∨ k = 3 ∨ k = 4 ∨ k = 5 ∨ k = 6 ∨ k = 7 ∨ k = 8 ∨ k = 9 by omega) with rfl | rfl | rfl | rfl | rfl | rfl | rfl | rfl | rfl | rfl <;> assumption)) (by decide) ?_
    obtain rfl := Sum.inr.inj (Option.some.inj h)
    exact jg_nsS (i := 5) rfl ex_NSEE rfl dX11_led_169 dX11_led_172 dX11_led_173 dX11_led_175 dX11_led_178 (Nat.le_refl _) (Nat.le_refl _) (by decide) (Nat.le_of_ble_eq_true rfl) hn ⟨rfl, gx_e hT⟩
  · replace h := se_r h
    obtain rfl := Sum.inr.inj (Option.some.inj h)
    exact jc_SX (As := [.int a1, .int (s.1 (o + 37) 3)]) ks_X11_90 dX11_led_11 rfl (by decide) (Nat.le_of_ble_eq_true rfl) rfl (by decide) (Nat.le_refl _) (Nat.le_refl _) (Nat.le_of_ble_eq_true rfl) (x_X11_needIndex τ n s a1 (s.1 (o + 37) 3) hn hT e_x1) ⟨rfl, rfl⟩
theorem dX11_quay_0 : decode cX11_quay 0 = .ok (.iload_n 1, 1) := by decide +kernel
theorem dX11_quay_1 : decode cX11_quay 1 = .ok (.aload_n 0, 1) := by decide +kernel
theorem dX11_quay_2 : decode cX11_quay 2 = .ok (.getfield 27, 3) := by decide +kernel
theorem dX11_quay_5 : decode cX11_quay 5 = .ok (.getfield 123, 3) := by decide +kernel
theorem dX11_quay_8 : decode cX11_quay 8 = .ok (.getfield 127, 3) := by decide +kernel
theorem dX11_quay_11 : decode cX11_quay 11 = .ok (.invokestatic 90, 3) := by decide +kernel
theorem dX11_quay_14 : decode cX11_quay 14 = .ok (.aload_n 0, 1) := by decide +kernel
theorem dX11_quay_15 : decode cX11_quay 15 = .ok (.getfield 27, 3) := by decide +kernel
theorem dX11_quay_18 : decode cX11_quay 18 = .ok (.getfield 123, 3) := by decide +kernel
theorem dX11_quay_21 : decode cX11_quay 21 = .ok (.getfield 234, 3) := by decide +kernel
theorem dX11_quay_24 : decode cX11_quay 24 = .ok (.iload_n 1, 1) := by decide +kernel
theorem dX11_quay_25 : decode cX11_quay 25 = .ok (.aaload, 1) := by decide +kernel
theorem dX11_quay_26 : decode cX11_quay 26 = .ok (.astore_n 3, 1) := by decide +kernel
theorem dX11_quay_27 : decode cX11_quay 27 = .ok (.iload_n 2, 1) := by decide +kernel
theorem dX11_quay_28 : decode cX11_quay 28 = .ok (.tableswitch 70 0 5 #[40, 45, 50, 55, 60, 65], 40) := by decide +kernel
theorem dX11_quay_68 : decode cX11_quay 68 = .ok (.aload_n 3, 1) := by decide +kernel
theorem dX11_quay_69 : decode cX11_quay 69 = .ok (.getfield 238, 3) := by decide +kernel
theorem dX11_quay_72 : decode cX11_quay 72 = .ok (.ireturn, 1) := by decide +kernel
theorem dX11_quay_73 : decode cX11_quay 73 = .ok (.aload_n 3, 1) := by decide +kernel
theorem dX11_quay_74 : decode cX11_quay 74 = .ok (.getfield 243, 3) := by decide +kernel
theorem dX11_quay_77 : decode cX11_quay 77 = .ok (.ireturn, 1) := by decide +kernel
theorem dX11_quay_78 : decode cX11_quay 78 = .ok (.aload_n 3, 1) := by decide +kernel
theorem dX11_quay_79 : decode cX11_quay 79 = .ok (.invokevirtual 246, 3) := by decide +kernel
theorem dX11_quay_82 : decode cX11_quay 82 = .ok (.ireturn, 1) := by decide +kernel
theorem dX11_quay_83 : decode cX11_quay 83 = .ok (.aload_n 3, 1) := by decide +kernel
theorem dX11_quay_84 : decode cX11_quay 84 = .ok (.getfield 249, 3) := by decide +kernel
theorem dX11_quay_87 : decode cX11_quay 87 = .ok (.ireturn, 1) := by decide +kernel
theorem dX11_quay_88 : decode cX11_quay 88 = .ok (.aload_n 3, 1) := by decide +kernel
theorem dX11_quay_89 : decode cX11_quay 89 = .ok (.getfield 252, 3) := by decide +kernel
theorem dX11_quay_92 : decode cX11_quay 92 = .ok (.ireturn, 1) := by decide +kernel
theorem dX11_quay_93 : decode cX11_quay 93 = .ok (.aload_n 3, 1) := by decide +kernel
theorem dX11_quay_94 : decode cX11_quay 94 = .ok (.getfield 255, 3) := by decide +kernel
theorem dX11_quay_97 : decode cX11_quay 97 = .ok (.ireturn, 1) := by decide +kernel
theorem dX11_quay_98 : decode cX11_quay 98 = .ok (.new 105, 3) := by decide +kernel
theorem dX11_quay_101 : decode cX11_quay 101 = .ok (.dup, 1) := by decide +kernel
theorem dX11_quay_102 : decode cX11_quay 102 = .ok (.ldc_w 258, 3) := by decide +kernel
theorem dX11_quay_105 : decode cX11_quay 105 = .ok (.invokespecial 109, 3) := by decide +kernel
theorem dX11_quay_108 : decode cX11_quay 108 = .ok (.athrow, 1) := by decide +kernel
noncomputable def o_X11_quay (τ : cT) (n : Nat) (o : Nat) (s : cS) (a1 : Int32) (a2 : Int32) : Option ((Int32) ⊕ (Nat)) := (o_X11_needIndex τ n s a1 (s.1 (o + 37) 1)).bind fun x1 => (Sum.elim (fun y2 => if iL a1 10 then (if a2 = nI 0 then (some (.inl (s.1 (o + 38 + 1 + a1.toNatClampNeg) 0))) else (if a2 = nI 1 then (some (.inl (s.1 (o + 38 + 1 + a1.toNatClampNeg) 4))) else (if a2 = nI 2 then ((o_X1_sunk τ n (o + 38 + 1 + a1.toNatClampNeg) s).bind fun x8 => (some (.inl x8))) else (if a2 = nI 3 then (some (.inl (s.1 (o + 38 + 1 + a1.toNatClampNeg) 7))) else (if a2 = nI 4 then (some (.inl (s.1 (o + 38 + 1 + a1.toNatClampNeg) 5))) else (if a2 = nI 5 then (some (.inl (s.1 (o + 38 + 1 + a1.toNatClampNeg) 6))) else (some (.inr 4)))))))) else none) (fun z3 => some (.inr z3)) x1)
set_option maxHeartbeats 4000000 in
theorem t_X11_quay {Γ : jg_G} {g : Nat → jg_C} (τ : cT) (n : Nat) (o : Nat) (s : cS) (a1 : Int32) (a2 : Int32) (hO : Sh τ n o) {x : Int32} (h : o_X11_quay τ n o s a1 a2 = some (.inl x)) : jc Γ mX11_quay 7 0 0 [some (.ref o), some (.int a1), some (.int a2), none] (ct_h g τ s, n) (.inl (some (.int x))) (ct_h g τ s, n) := by
  refine jc_of ?_
  rw [o_X11_quay] at h
  refine jg_iload_n dX11_quay_0 rfl ?_
  refine jg_aload_n dX11_quay_1 rfl ?_
  refine cs_get (s := s) (w := .ref (o + 10)) fl_X11_27 dX11_quay_2 hO.ob0 rfl ?_
  refine cs_get (s := s) (w := .ref (o + 37)) fl_X11_123 dX11_quay_5 hO.1.ob0 rfl ?_
  refine cs_get (s := s) (w := .int (s.1 (o + 37) 1)) fl_X11_127 dX11_quay_8 (hO.1.ob 27 (by decide) rfl) rfl ?_
  obtain ⟨x1, e_x1, h⟩ := bd_some h
  rcases x1 with y2 | z3
  · replace h := se_l h
    refine cs_callS (As := [.int a1, .int (s.1 (o + 37) 1)]) ks_X11_90 dX11_quay_11 rfl (by decide) (Nat.le_of_ble_eq_true rfl) rfl (by decide) (Nat.le_of_ble_eq_true rfl) (t_X11_needIndex τ n s a1 (s.1 (o + 37) 1) e_x1) ?_
    refine jg_aload_n dX11_quay_14 rfl ?_
    refine cs_get (s := s) (w := .ref (o + 10)) fl_X11_27 dX11_quay_15 hO.ob0 rfl ?_
    refine cs_get (s := s) (w := .ref (o + 37)) fl_X11_123 dX11_quay_18 hO.1.ob0 rfl ?_
    refine cs_get (s := s) (w := .ref (o + 38)) fl_X11_234 dX11_quay_21 (hO.1.ob 27 (by decide) rfl) rfl ?_
    refine jg_iload_n dX11_quay_24 rfl ?_
    obtain ⟨q4, h⟩ := gd_some h
    refine cs_ldr (s := s) (q := (o + 38)) (i := a1) (kd := 5) (by decide) dX11_quay_25 (hO.1.ar 28 (by decide) rfl) q4 ?_
    refine jg_astore_n (L' := [some (.ref o), some (.int a1), some (.int a2), some (.ref (o + 38 + 1 + a1.toNatClampNeg))]) dX11_quay_26 (by decide) rfl ?_
    refine jg_iload_n dX11_quay_27 rfl ?_
    by_cases c5 : a2 = nI 0
    · replace h := it_t c5 h
      refine jg_tableIn (off := 40) (tgt := 68) dX11_quay_28 (by rw [c5]; decide) (by rw [c5]; decide) (by rw [c5]; rfl) (by decide) ?_
      refine jg_aload_n dX11_quay_68 rfl ?_
      refine cs_get (s := s) (w := .int (s.1 (o + 38 + 1 + a1.toNatClampNeg) 0)) fl_X11_238 dX11_quay_69 (hO.1.berth q4.2) rfl ?_
      obtain rfl := Sum.inl.inj (Option.some.inj h)
      exact jg_ireturn dX11_quay_72 rfl ⟨rfl, rfl⟩
    replace h := it_f c5 h
    by_cases c6 : a2 = nI 1
    · replace h := it_t c6 h
      refine jg_tableIn (off := 45) (tgt := 73) dX11_quay_28 (by rw [c6]; decide) (by rw [c6]; decide) (by rw [c6]; rfl) (by decide) ?_
      refine jg_aload_n dX11_quay_73 rfl ?_
      refine cs_get (s := s) (w := .int (s.1 (o + 38 + 1 + a1.toNatClampNeg) 4)) fl_X11_243 dX11_quay_74 (hO.1.berth q4.2) rfl ?_
      obtain rfl := Sum.inl.inj (Option.some.inj h)
      exact jg_ireturn dX11_quay_77 rfl ⟨rfl, rfl⟩
    replace h := it_f c6 h
    by_cases c7 : a2 = nI 2
    · replace h := it_t c7 h
      refine jg_tableIn (off := 50) (tgt := 78) dX11_quay_28 (by rw [c7]; decide) (by rw [c7]; decide) (by rw [c7]; rfl) (by decide) ?_
      refine jg_aload_n dX11_quay_78 rfl ?_
      obtain ⟨x8, e_x8, h⟩ := bd_some h
      refine cs_call (q := (o + 38 + 1 + a1.toNatClampNeg)) (As := []) kv_X11_246 dX11_quay_79 (hO.1.berth q4.2) rfl rfl (by decide) (Nat.le_of_ble_eq_true rfl) rfl (by decide) (Nat.le_of_ble_eq_true rfl) (t_X1_sunk τ n (o + 38 + 1 + a1.toNatClampNeg) s (hO.1.berth q4.2) e_x8) ?_
      obtain rfl := Sum.inl.inj (Option.some.inj h)
      exact jg_ireturn dX11_quay_82 rfl ⟨rfl, rfl⟩
    replace h := it_f c7 h
    by_cases c9 : a2 = nI 3
    · replace h := it_t c9 h
      refine jg_tableIn (off := 55) (tgt := 83) dX11_quay_28 (by rw [c9]; decide) (by rw [c9]; decide) (by rw [c9]; rfl) (by decide) ?_
      refine jg_aload_n dX11_quay_83 rfl ?_
      refine cs_get (s := s) (w := .int (s.1 (o + 38 + 1 + a1.toNatClampNeg) 7)) fl_X11_249 dX11_quay_84 (hO.1.berth q4.2) rfl ?_
      obtain rfl := Sum.inl.inj (Option.some.inj h)
      exact jg_ireturn dX11_quay_87 rfl ⟨rfl, rfl⟩
    replace h := it_f c9 h
    by_cases c10 : a2 = nI 4
    · replace h := it_t c10 h
      refine jg_tableIn (off := 60) (tgt := 88) dX11_quay_28 (by rw [c10]; decide) (by rw [c10]; decide) (by rw [c10]; rfl) (by decide) ?_
      refine jg_aload_n dX11_quay_88 rfl ?_
      refine cs_get (s := s) (w := .int (s.1 (o + 38 + 1 + a1.toNatClampNeg) 5)) fl_X11_252 dX11_quay_89 (hO.1.berth q4.2) rfl ?_
      obtain rfl := Sum.inl.inj (Option.some.inj h)
      exact jg_ireturn dX11_quay_92 rfl ⟨rfl, rfl⟩
    replace h := it_f c10 h
    by_cases c11 : a2 = nI 5
    · replace h := it_t c11 h
      refine jg_tableIn (off := 65) (tgt := 93) dX11_quay_28 (by rw [c11]; decide) (by rw [c11]; decide) (by rw [c11]; rfl) (by decide) ?_
      refine jg_aload_n dX11_quay_93 rfl ?_
      refine cs_get (s := s) (w := .int (s.1 (o + 38 + 1 + a1.toNatClampNeg) 6)) fl_X11_255 dX11_quay_94 (hO.1.berth q4.2) rfl ?_
      obtain rfl := Sum.inl.inj (Option.some.inj h)
      exact jg_ireturn dX11_quay_97 rfl ⟨rfl, rfl⟩
    replace h := it_f c11 h
    refine jg_tableOut (tgt := 98) dX11_quay_28 (jt_outN 0 5 (a2) (fun k h1 h2 => by rcases (show k = 0 ∨ k = 1 ∨ k = 2 ∨ k = 3 ∨ k = 4 ∨ k = 5 by omega) with rfl | rfl | rfl | rfl | rfl | rfl <;> assumption)) (by decide) ?_
    cases h
  · replace h := se_r h
    cases h
set_option maxHeartbeats 4000000 in
theorem x_X11_quay {Γ : jg_G} {g : Nat → jg_C} (τ : cT) (n : Nat) (o : Nat) (s : cS) (a1 : Int32) (a2 : Int32) (hO : Sh τ n o) (hn : n < 1000000) (hT : τ n = .inr (8, 0)) {z : Nat} (h : o_X11_quay τ n o s a1 a2 = some (.inr z)) : jc Γ mX11_quay 7 1 6 [some (.ref o), some (.int a1), some (.int a2), none] (ct_h g τ s, n) (.inr (exn z)) (ct_h (gx g n) τ s, n + 1) := by
  refine jc_of ?_
  rw [o_X11_quay] at h
  refine jg_iload_n dX11_quay_0 rfl ?_
  refine jg_aload_n dX11_quay_1 rfl ?_
  refine cs_get (s := s) (w := .ref (o + 10)) fl_X11_27 dX11_quay_2 hO.ob0 rfl ?_
  refine cs_get (s := s) (w := .ref (o + 37)) fl_X11_123 dX11_quay_5 hO.1.ob0 rfl ?_
  refine cs_get (s := s) (w := .int (s.1 (o + 37) 1)) fl_X11_127 dX11_quay_8 (hO.1.ob 27 (by decide) rfl) rfl ?_
  obtain ⟨x1, e_x1, h⟩ := bd_some h
  rcases x1 with y2 | z3
  · replace h := se_l h
    refine cs_callS (As := [.int a1, .int (s.1 (o + 37) 1)]) ks_X11_90 dX11_quay_11 rfl (by decide) (Nat.le_of_ble_eq_true rfl) rfl (by decide) (Nat.le_of_ble_eq_true rfl) (t_X11_needIndex τ n s a1 (s.1 (o + 37) 1) e_x1) ?_
    refine jg_aload_n dX11_quay_14 rfl ?_
    refine cs_get (s := s) (w := .ref (o + 10)) fl_X11_27 dX11_quay_15 hO.ob0 rfl ?_
    refine cs_get (s := s) (w := .ref (o + 37)) fl_X11_123 dX11_quay_18 hO.1.ob0 rfl ?_
    refine cs_get (s := s) (w := .ref (o + 38)) fl_X11_234 dX11_quay_21 (hO.1.ob 27 (by decide) rfl) rfl ?_
    refine jg_iload_n dX11_quay_24 rfl ?_
    obtain ⟨q4, h⟩ := gd_some h
    refine cs_ldr (s := s) (q := (o + 38)) (i := a1) (kd := 5) (by decide) dX11_quay_25 (hO.1.ar 28 (by decide) rfl) q4 ?_
    refine jg_astore_n (L' := [some (.ref o), some (.int a1), some (.int a2), some (.ref (o + 38 + 1 + a1.toNatClampNeg))]) dX11_quay_26 (by decide) rfl ?_
    refine jg_iload_n dX11_quay_27 rfl ?_
    by_cases c5 : a2 = nI 0
    · replace h := it_t c5 h
      refine jg_tableIn (off := 40) (tgt := 68) dX11_quay_28 (by rw [c5]; decide) (by rw [c5]; decide) (by rw [c5]; rfl) (by decide) ?_
      refine jg_aload_n dX11_quay_68 rfl ?_
      refine cs_get (s := s) (w := .int (s.1 (o + 38 + 1 + a1.toNatClampNeg) 0)) fl_X11_238 dX11_quay_69 (hO.1.berth q4.2) rfl ?_
      cases h
    replace h := it_f c5 h
    by_cases c6 : a2 = nI 1
    · replace h := it_t c6 h
      refine jg_tableIn (off := 45) (tgt := 73) dX11_quay_28 (by rw [c6]; decide) (by rw [c6]; decide) (by rw [c6]; rfl) (by decide) ?_
      refine jg_aload_n dX11_quay_73 rfl ?_
      refine cs_get (s := s) (w := .int (s.1 (o + 38 + 1 + a1.toNatClampNeg) 4)) fl_X11_243 dX11_quay_74 (hO.1.berth q4.2) rfl ?_
      cases h
    replace h := it_f c6 h
    by_cases c7 : a2 = nI 2
    · replace h := it_t c7 h
      refine jg_tableIn (off := 50) (tgt := 78) dX11_quay_28 (by rw [c7]; decide) (by rw [c7]; decide) (by rw [c7]; rfl) (by decide) ?_
      refine jg_aload_n dX11_quay_78 rfl ?_
      obtain ⟨x8, e_x8, h⟩ := bd_some h
      refine cs_call (q := (o + 38 + 1 + a1.toNatClampNeg)) (As := []) kv_X11_246 dX11_quay_79 (hO.1.berth q4.2) rfl rfl (by decide) (Nat.le_of_ble_eq_true rfl) rfl (by decide) (Nat.le_of_ble_eq_true rfl) (t_X1_sunk τ n (o + 38 + 1 + a1.toNatClampNeg) s (hO.1.berth q4.2) e_x8) ?_
      cases h
    replace h := it_f c7 h
    by_cases c9 : a2 = nI 3
    · replace h := it_t c9 h
      refine jg_tableIn (off := 55) (tgt := 83) dX11_quay_28 (by rw [c9]; decide) (by rw [c9]; decide) (by rw [c9]; rfl) (by decide) ?_
      refine jg_aload_n dX11_quay_83 rfl ?_
      refine cs_get (s := s) (w := .int (s.1 (o + 38 + 1 + a1.toNatClampNeg) 7)) fl_X11_249 dX11_quay_84 (hO.1.berth q4.2) rfl ?_
      cases h
    replace h := it_f c9 h
    by_cases c10 : a2 = nI 4
    · replace h := it_t c10 h
      refine jg_tableIn (off := 60) (tgt := 88) dX11_quay_28 (by rw [c10]; decide) (by rw [c10]; decide) (by rw [c10]; rfl) (by decide) ?_
      refine jg_aload_n dX11_quay_88 rfl ?_
      refine cs_get (s := s) (w := .int (s.1 (o + 38 + 1 + a1.toNatClampNeg) 5)) fl_X11_252 dX11_quay_89 (hO.1.berth q4.2) rfl ?_
      cases h
    replace h := it_f c10 h
    by_cases c11 : a2 = nI 5
    · replace h := it_t c11 h
      refine jg_tableIn (off := 65) (tgt := 93) dX11_quay_28 (by rw [c11]; decide) (by rw [c11]; decide) (by rw [c11]; rfl) (by decide) ?_
      refine jg_aload_n dX11_quay_93 rfl ?_
      refine cs_get (s := s) (w := .int (s.1 (o + 38 + 1 + a1.toNatClampNeg) 6)) fl_X11_255 dX11_quay_94 (hO.1.berth q4.2) rfl ?_
      cases h
    replace h := it_f c11 h
    refine jg_tableOut (tgt := 98) dX11_quay_28 (jt_outN 0 5 (a2) (fun k h1 h2 => by rcases (show k = 0 ∨ k = 1 ∨ k = 2 ∨ k = 3 ∨ k = 4 ∨ k = 5 by omega) with rfl | rfl | rfl | rfl | rfl | rfl <;> assumption)) (by decide) ?_
    obtain rfl := Sum.inr.inj (Option.some.inj h)
    exact jg_nsW (i := 6) rfl ex_NSEE rfl dX11_quay_98 dX11_quay_101 dX11_quay_102 dX11_quay_105 dX11_quay_108 (Nat.le_refl _) (Nat.le_refl _) (by decide) (Nat.le_of_ble_eq_true rfl) hn ⟨rfl, gx_e hT⟩
  · replace h := se_r h
    obtain rfl := Sum.inr.inj (Option.some.inj h)
    exact jc_SX (As := [.int a1, .int (s.1 (o + 37) 1)]) ks_X11_90 dX11_quay_11 rfl (by decide) (Nat.le_of_ble_eq_true rfl) rfl (by decide) (Nat.le_refl _) (Nat.le_refl _) (Nat.le_of_ble_eq_true rfl) (x_X11_needIndex τ n s a1 (s.1 (o + 37) 1) hn hT e_x1) ⟨rfl, rfl⟩
theorem dX11_window_0 : decode cX11_window 0 = .ok (.iload_n 1, 1) := by decide +kernel
theorem dX11_window_1 : decode cX11_window 1 = .ok (.aload_n 0, 1) := by decide +kernel
theorem dX11_window_2 : decode cX11_window 2 = .ok (.getfield 27, 3) := by decide +kernel
theorem dX11_window_5 : decode cX11_window 5 = .ok (.getfield 123, 3) := by decide +kernel
theorem dX11_window_8 : decode cX11_window 8 = .ok (.getfield 154, 3) := by decide +kernel
theorem dX11_window_11 : decode cX11_window 11 = .ok (.invokestatic 90, 3) := by decide +kernel
theorem dX11_window_14 : decode cX11_window 14 = .ok (.iload_n 2, 1) := by decide +kernel
theorem dX11_window_15 : decode cX11_window 15 = .ok (.aload_n 0, 1) := by decide +kernel
theorem dX11_window_16 : decode cX11_window 16 = .ok (.getfield 27, 3) := by decide +kernel
theorem dX11_window_19 : decode cX11_window 19 = .ok (.getfield 123, 3) := by decide +kernel
theorem dX11_window_22 : decode cX11_window 22 = .ok (.getfield 127, 3) := by decide +kernel
theorem dX11_window_25 : decode cX11_window 25 = .ok (.invokestatic 90, 3) := by decide +kernel
theorem dX11_window_28 : decode cX11_window 28 = .ok (.aload_n 0, 1) := by decide +kernel
theorem dX11_window_29 : decode cX11_window 29 = .ok (.getfield 27, 3) := by decide +kernel
theorem dX11_window_32 : decode cX11_window 32 = .ok (.aload_n 0, 1) := by decide +kernel
theorem dX11_window_33 : decode cX11_window 33 = .ok (.getfield 27, 3) := by decide +kernel
theorem dX11_window_36 : decode cX11_window 36 = .ok (.getfield 123, 3) := by decide +kernel
theorem dX11_window_39 : decode cX11_window 39 = .ok (.getfield 157, 3) := by decide +kernel
theorem dX11_window_42 : decode cX11_window 42 = .ok (.iload_n 1, 1) := by decide +kernel
theorem dX11_window_43 : decode cX11_window 43 = .ok (.aaload, 1) := by decide +kernel
theorem dX11_window_44 : decode cX11_window 44 = .ok (.aload_n 0, 1) := by decide +kernel
theorem dX11_window_45 : decode cX11_window 45 = .ok (.getfield 27, 3) := by decide +kernel
theorem dX11_window_48 : decode cX11_window 48 = .ok (.getfield 123, 3) := by decide +kernel
theorem dX11_window_51 : decode cX11_window 51 = .ok (.getfield 234, 3) := by decide +kernel
theorem dX11_window_54 : decode cX11_window 54 = .ok (.iload_n 2, 1) := by decide +kernel
theorem dX11_window_55 : decode cX11_window 55 = .ok (.aaload, 1) := by decide +kernel
theorem dX11_window_56 : decode cX11_window 56 = .ok (.getfield 238, 3) := by decide +kernel
theorem dX11_window_59 : decode cX11_window 59 = .ok (.iload_n 3, 1) := by decide +kernel
theorem dX11_window_60 : decode cX11_window 60 = .ok (.invokevirtual 260, 3) := by decide +kernel
theorem dX11_window_63 : decode cX11_window 63 = .ok (.ireturn, 1) := by decide +kernel
noncomputable def o_X11_window (F : Nat) (τ : cT) (n : Nat) (o : Nat) (s : cS) (a1 : Int32) (a2 : Int32) (a3 : Int32) : Option ((Int32 × cS) ⊕ (Nat × cS)) := (o_X11_needIndex τ n s a1 (s.1 (o + 37) 3)).bind fun x1 => (Sum.elim (fun y2 => (o_X11_needIndex τ n s a2 (s.1 (o + 37) 1)).bind fun x4 => (Sum.elim (fun y5 => if iL a1 80 then (if iL a2 10 then ((o_X2_firstSafeHour F τ n (o + 10) (o + 49 + 1 + a1.toNatClampNeg) s (s.1 (o + 38 + 1 + a2.toNatClampNeg) 0) a3).bind fun x9 => (some (.inl (x9.1, x9.2)))) else none) else none) (fun z6 => some (.inr (z6, s))) x4)) (fun z3 => some (.inr (z3, s))) x1)
set_option maxHeartbeats 4000000 in
theorem t_X11_window {Γ : jg_G} {g : Nat → jg_C} (F : Nat) (τ : cT) (n : Nat) (o : Nat) (s : cS) (a1 : Int32) (a2 : Int32) (a3 : Int32) (hO : Sh τ n o) {x : Int32 × cS} (h : o_X11_window F τ n o s a1 a2 a3 = some (.inl x)) : jc Γ mX11_window 7 0 0 [some (.ref o), some (.int a1), some (.int a2), some (.int a3)] (ct_h g τ s, n) (.inl (some (.int x.1))) (ct_h g τ x.2, n) := by
  refine jc_of ?_
  rw [o_X11_window] at h
  refine jg_iload_n dX11_window_0 rfl ?_
  refine jg_aload_n dX11_window_1 rfl ?_
  refine cs_get (s := s) (w := .ref (o + 10)) fl_X11_27 dX11_window_2 hO.ob0 rfl ?_
  refine cs_get (s := s) (w := .ref (o + 37)) fl_X11_123 dX11_window_5 hO.1.ob0 rfl ?_
  refine cs_get (s := s) (w := .int (s.1 (o + 37) 3)) fl_X11_154 dX11_window_8 (hO.1.ob 27 (by decide) rfl) rfl ?_
  obtain ⟨x1, e_x1, h⟩ := bd_some h
  rcases x1 with y2 | z3
  · replace h := se_l h
    refine cs_callS (As := [.int a1, .int (s.1 (o + 37) 3)]) ks_X11_90 dX11_window_11 rfl (by decide) (Nat.le_of_ble_eq_true rfl) rfl (by decide) (Nat.le_of_ble_eq_true rfl) (t_X11_needIndex τ n s a1 (s.1 (o + 37) 3) e_x1) ?_
    refine jg_iload_n dX11_window_14 rfl ?_
    refine jg_aload_n dX11_window_15 rfl ?_
    refine cs_get (s := s) (w := .ref (o + 10)) fl_X11_27 dX11_window_16 hO.ob0 rfl ?_
    refine cs_get (s := s) (w := .ref (o + 37)) fl_X11_123 dX11_window_19 hO.1.ob0 rfl ?_
    refine cs_get (s := s) (w := .int (s.1 (o + 37) 1)) fl_X11_127 dX11_window_22 (hO.1.ob 27 (by decide) rfl) rfl ?_
    obtain ⟨x4, e_x4, h⟩ := bd_some h
    rcases x4 with y5 | z6
    · replace h := se_l h
      refine cs_callS (As := [.int a2, .int (s.1 (o + 37) 1)]) ks_X11_90 dX11_window_25 rfl (by decide) (Nat.le_of_ble_eq_true rfl) rfl (by decide) (Nat.le_of_ble_eq_true rfl) (t_X11_needIndex τ n s a2 (s.1 (o + 37) 1) e_x4) ?_
      refine jg_aload_n dX11_window_28 rfl ?_
      refine cs_get (s := s) (w := .ref (o + 10)) fl_X11_27 dX11_window_29 hO.ob0 rfl ?_
      refine jg_aload_n dX11_window_32 rfl ?_
      refine cs_get (s := s) (w := .ref (o + 10)) fl_X11_27 dX11_window_33 hO.ob0 rfl ?_
      refine cs_get (s := s) (w := .ref (o + 37)) fl_X11_123 dX11_window_36 hO.1.ob0 rfl ?_
      refine cs_get (s := s) (w := .ref (o + 49)) fl_X11_157 dX11_window_39 (hO.1.ob 27 (by decide) rfl) rfl ?_
      refine jg_iload_n dX11_window_42 rfl ?_
      obtain ⟨q7, h⟩ := gd_some h
      refine cs_ldr (s := s) (q := (o + 49)) (i := a1) (kd := 6) (by decide) dX11_window_43 (hO.1.ar 39 (by decide) rfl) q7 ?_
      refine jg_aload_n dX11_window_44 rfl ?_
      refine cs_get (s := s) (w := .ref (o + 10)) fl_X11_27 dX11_window_45 hO.ob0 rfl ?_
      refine cs_get (s := s) (w := .ref (o + 37)) fl_X11_123 dX11_window_48 hO.1.ob0 rfl ?_
      refine cs_get (s := s) (w := .ref (o + 38)) fl_X11_234 dX11_window_51 (hO.1.ob 27 (by decide) rfl) rfl ?_
      refine jg_iload_n dX11_window_54 rfl ?_
      obtain ⟨q8, h⟩ := gd_some h
      refine cs_ldr (s := s) (q := (o + 38)) (i := a2) (kd := 5) (by decide) dX11_window_55 (hO.1.ar 28 (by decide) rfl) q8 ?_
      refine cs_get (s := s) (w := .int (s.1 (o + 38 + 1 + a2.toNatClampNeg) 0)) fl_X11_238 dX11_window_56 (hO.1.berth q8.2) rfl ?_
      refine jg_iload_n dX11_window_59 rfl ?_
      obtain ⟨x9, e_x9, h⟩ := bd_some h
      refine cs_call (q := (o + 10)) (As := [.ref (o + 49 + 1 + a1.toNatClampNeg), .int (s.1 (o + 38 + 1 + a2.toNatClampNeg) 0), .int a3]) kv_X11_260 dX11_window_60 hO.1.ob0 rfl rfl (by decide) (Nat.le_of_ble_eq_true rfl) rfl (by decide) (Nat.le_of_ble_eq_true rfl) (t_X2_firstSafeHour F τ n (o + 10) (o + 49 + 1 + a1.toNatClampNeg) s (s.1 (o + 38 + 1 + a2.toNatClampNeg) 0) a3 hO.1 (hO.1.ship q7.2) e_x9) ?_
      obtain rfl := Sum.inl.inj (Option.some.inj h)
      exact jg_ireturn dX11_window_63 rfl ⟨rfl, rfl⟩
    · replace h := se_r h
      cases h
  · replace h := se_r h
    cases h
set_option maxHeartbeats 4000000 in
theorem x_X11_window {Γ : jg_G} {g : Nat → jg_C} (F : Nat) (τ : cT) (n : Nat) (o : Nat) (s : cS) (a1 : Int32) (a2 : Int32) (a3 : Int32) (hO : Sh τ n o) (hn : n < 1000000) (hT : τ n = .inr (8, 0)) {z : Nat × cS} (h : o_X11_window F τ n o s a1 a2 a3 = some (.inr z)) : jc Γ mX11_window 7 1 6 [some (.ref o), some (.int a1), some (.int a2), some (.int a3)] (ct_h g τ s, n) (.inr (exn z.1)) (ct_h (gx g n) τ z.2, n + 1) := by
  refine jc_of ?_
  rw [o_X11_window] at h
  refine jg_iload_n dX11_window_0 rfl ?_
  refine jg_aload_n dX11_window_1 rfl ?_
  refine cs_get (s := s) (w := .ref (o + 10)) fl_X11_27 dX11_window_2 hO.ob0 rfl ?_
  refine cs_get (s := s) (w := .ref (o + 37)) fl_X11_123 dX11_window_5 hO.1.ob0 rfl ?_
  refine cs_get (s := s) (w := .int (s.1 (o + 37) 3)) fl_X11_154 dX11_window_8 (hO.1.ob 27 (by decide) rfl) rfl ?_
  obtain ⟨x1, e_x1, h⟩ := bd_some h
  rcases x1 with y2 | z3
  · replace h := se_l h
    refine cs_callS (As := [.int a1, .int (s.1 (o + 37) 3)]) ks_X11_90 dX11_window_11 rfl (by decide) (Nat.le_of_ble_eq_true rfl) rfl (by decide) (Nat.le_of_ble_eq_true rfl) (t_X11_needIndex τ n s a1 (s.1 (o + 37) 3) e_x1) ?_
    refine jg_iload_n dX11_window_14 rfl ?_
    refine jg_aload_n dX11_window_15 rfl ?_
    refine cs_get (s := s) (w := .ref (o + 10)) fl_X11_27 dX11_window_16 hO.ob0 rfl ?_
    refine cs_get (s := s) (w := .ref (o + 37)) fl_X11_123 dX11_window_19 hO.1.ob0 rfl ?_
    refine cs_get (s := s) (w := .int (s.1 (o + 37) 1)) fl_X11_127 dX11_window_22 (hO.1.ob 27 (by decide) rfl) rfl ?_
    obtain ⟨x4, e_x4, h⟩ := bd_some h
    rcases x4 with y5 | z6
    · replace h := se_l h
      refine cs_callS (As := [.int a2, .int (s.1 (o + 37) 1)]) ks_X11_90 dX11_window_25 rfl (by decide) (Nat.le_of_ble_eq_true rfl) rfl (by decide) (Nat.le_of_ble_eq_true rfl) (t_X11_needIndex τ n s a2 (s.1 (o + 37) 1) e_x4) ?_
      refine jg_aload_n dX11_window_28 rfl ?_
      refine cs_get (s := s) (w := .ref (o + 10)) fl_X11_27 dX11_window_29 hO.ob0 rfl ?_
      refine jg_aload_n dX11_window_32 rfl ?_
      refine cs_get (s := s) (w := .ref (o + 10)) fl_X11_27 dX11_window_33 hO.ob0 rfl ?_
      refine cs_get (s := s) (w := .ref (o + 37)) fl_X11_123 dX11_window_36 hO.1.ob0 rfl ?_
      refine cs_get (s := s) (w := .ref (o + 49)) fl_X11_157 dX11_window_39 (hO.1.ob 27 (by decide) rfl) rfl ?_
      refine jg_iload_n dX11_window_42 rfl ?_
      obtain ⟨q7, h⟩ := gd_some h
      refine cs_ldr (s := s) (q := (o + 49)) (i := a1) (kd := 6) (by decide) dX11_window_43 (hO.1.ar 39 (by decide) rfl) q7 ?_
      refine jg_aload_n dX11_window_44 rfl ?_
      refine cs_get (s := s) (w := .ref (o + 10)) fl_X11_27 dX11_window_45 hO.ob0 rfl ?_
      refine cs_get (s := s) (w := .ref (o + 37)) fl_X11_123 dX11_window_48 hO.1.ob0 rfl ?_
      refine cs_get (s := s) (w := .ref (o + 38)) fl_X11_234 dX11_window_51 (hO.1.ob 27 (by decide) rfl) rfl ?_
      refine jg_iload_n dX11_window_54 rfl ?_
      obtain ⟨q8, h⟩ := gd_some h
      refine cs_ldr (s := s) (q := (o + 38)) (i := a2) (kd := 5) (by decide) dX11_window_55 (hO.1.ar 28 (by decide) rfl) q8 ?_
      refine cs_get (s := s) (w := .int (s.1 (o + 38 + 1 + a2.toNatClampNeg) 0)) fl_X11_238 dX11_window_56 (hO.1.berth q8.2) rfl ?_
      refine jg_iload_n dX11_window_59 rfl ?_
      obtain ⟨x9, e_x9, h⟩ := bd_some h
      refine cs_call (q := (o + 10)) (As := [.ref (o + 49 + 1 + a1.toNatClampNeg), .int (s.1 (o + 38 + 1 + a2.toNatClampNeg) 0), .int a3]) kv_X11_260 dX11_window_60 hO.1.ob0 rfl rfl (by decide) (Nat.le_of_ble_eq_true rfl) rfl (by decide) (Nat.le_of_ble_eq_true rfl) (t_X2_firstSafeHour F τ n (o + 10) (o + 49 + 1 + a1.toNatClampNeg) s (s.1 (o + 38 + 1 + a2.toNatClampNeg) 0) a3 hO.1 (hO.1.ship q7.2) e_x9) ?_
      cases h
    · replace h := se_r h
      obtain rfl := Sum.inr.inj (Option.some.inj h)
      exact jc_SX (As := [.int a2, .int (s.1 (o + 37) 1)]) ks_X11_90 dX11_window_25 rfl (by decide) (Nat.le_of_ble_eq_true rfl) rfl (by decide) (Nat.le_refl _) (Nat.le_refl _) (Nat.le_of_ble_eq_true rfl) (x_X11_needIndex τ n s a2 (s.1 (o + 37) 1) hn hT e_x4) ⟨rfl, rfl⟩
  · replace h := se_r h
    obtain rfl := Sum.inr.inj (Option.some.inj h)
    exact jc_SX (As := [.int a1, .int (s.1 (o + 37) 3)]) ks_X11_90 dX11_window_11 rfl (by decide) (Nat.le_of_ble_eq_true rfl) rfl (by decide) (Nat.le_refl _) (Nat.le_refl _) (Nat.le_of_ble_eq_true rfl) (x_X11_needIndex τ n s a1 (s.1 (o + 37) 3) hn hT e_x1) ⟨rfl, rfl⟩
theorem dX11_useTape_0 : decode cX11_useTape 0 = .ok (.aload_n 0, 1) := by decide +kernel
theorem dX11_useTape_1 : decode cX11_useTape 1 = .ok (.getfield 13, 3) := by decide +kernel
theorem dX11_useTape_4 : decode cX11_useTape 4 = .ok (.istore_n 1, 1) := by decide +kernel
theorem dX11_useTape_5 : decode cX11_useTape 5 = .ok (.aload_n 0, 1) := by decide +kernel
theorem dX11_useTape_6 : decode cX11_useTape 6 = .ok (.iconst 0, 1) := by decide +kernel
theorem dX11_useTape_7 : decode cX11_useTape 7 = .ok (.putfield 13, 3) := by decide +kernel
theorem dX11_useTape_10 : decode cX11_useTape 10 = .ok (.iload_n 1, 1) := by decide +kernel
theorem dX11_useTape_11 : decode cX11_useTape 11 = .ok (.ireturn, 1) := by decide +kernel
noncomputable def o_X11_useTape (τ : cT) (n : Nat) (o : Nat) (s : cS) : Option (Int32 × cS) := some (s.1 o 1, cp s o 1 (nI 0))
set_option maxHeartbeats 4000000 in
theorem t_X11_useTape {Γ : jg_G} {g : Nat → jg_C} (τ : cT) (n : Nat) (o : Nat) (s : cS) (hO : Sh τ n o) {x : Int32 × cS} (h : o_X11_useTape τ n o s = some x) : jc Γ mX11_useTape 0 0 0 [some (.ref o), none] (ct_h g τ s, n) (.inl (some (.int x.1))) (ct_h g τ x.2, n) := by
  refine jc_of ?_
  rw [o_X11_useTape] at h
  refine jg_aload_n dX11_useTape_0 rfl ?_
  refine cs_get (s := s) (w := .int (s.1 o 1)) fl_X11_13 dX11_useTape_1 hO.ob0 rfl ?_
  refine jg_istore_n (L' := [some (.ref o), some (.int (s.1 o 1))]) dX11_useTape_4 (by decide) rfl ?_
  refine jg_aload_n dX11_useTape_5 rfl ?_
  refine jg_iconst (v := nI 0) dX11_useTape_6 (by decide) ?_
  refine cs_put (s := s) (k := 1) (x := (nI 0)) fl_X11_13 dX11_useTape_7 hO.ob0 (ltb rfl) (rfl) rfl rfl ?_
  refine jg_iload_n dX11_useTape_10 rfl ?_
  obtain rfl := Option.some.inj h
  exact jg_ireturn dX11_useTape_11 rfl ⟨rfl, rfl⟩
theorem dX11_vote_0 : decode cX11_vote 0 = .ok (.iload_n 1, 1) := by decide +kernel
theorem dX11_vote_1 : decode cX11_vote 1 = .ok (.aload_n 0, 1) := by decide +kernel
theorem dX11_vote_2 : decode cX11_vote 2 = .ok (.getfield 27, 3) := by decide +kernel
theorem dX11_vote_5 : decode cX11_vote 5 = .ok (.getfield 141, 3) := by decide +kernel
theorem dX11_vote_8 : decode cX11_vote 8 = .ok (.getfield 145, 3) := by decide +kernel
theorem dX11_vote_11 : decode cX11_vote 11 = .ok (.invokestatic 90, 3) := by decide +kernel
theorem dX11_vote_14 : decode cX11_vote 14 = .ok (.aload_n 0, 1) := by decide +kernel
theorem dX11_vote_15 : decode cX11_vote 15 = .ok (.getfield 27, 3) := by decide +kernel
theorem dX11_vote_18 : decode cX11_vote 18 = .ok (.getfield 280, 3) := by decide +kernel
theorem dX11_vote_21 : decode cX11_vote 21 = .ok (.getfield 298, 3) := by decide +kernel
theorem dX11_vote_24 : decode cX11_vote 24 = .ok (.invokestatic 52, 3) := by decide +kernel
theorem dX11_vote_27 : decode cX11_vote 27 = .ok (.aload_n 0, 1) := by decide +kernel
theorem dX11_vote_28 : decode cX11_vote 28 = .ok (.getfield 27, 3) := by decide +kernel
theorem dX11_vote_31 : decode cX11_vote 31 = .ok (.getfield 280, 3) := by decide +kernel
theorem dX11_vote_34 : decode cX11_vote 34 = .ok (.iload_n 1, 1) := by decide +kernel
theorem dX11_vote_35 : decode cX11_vote 35 = .ok (.iload_n 2, 1) := by decide +kernel
theorem dX11_vote_36 : decode cX11_vote 36 = .ok (.aload_n 0, 1) := by decide +kernel
theorem dX11_vote_37 : decode cX11_vote 37 = .ok (.getfield 27, 3) := by decide +kernel
theorem dX11_vote_40 : decode cX11_vote 40 = .ok (.iload_n 1, 1) := by decide +kernel
theorem dX11_vote_41 : decode cX11_vote 41 = .ok (.invokevirtual 308, 3) := by decide +kernel
theorem dX11_vote_44 : decode cX11_vote 44 = .ok (.invokevirtual 311, 3) := by decide +kernel
theorem dX11_vote_47 : decode cX11_vote 47 = .ok (.ireturn, 1) := by decide +kernel
noncomputable def o_X11_vote (F : Nat) (τ : cT) (n : Nat) (o : Nat) (s : cS) (a1 : Int32) (a2 : Int32) : Option ((Int32 × cS) ⊕ (Nat × cS)) := (o_X11_needIndex τ n s a1 (s.1 (o + 131) 6)).bind fun x1 => (Sum.elim (fun y2 => (o_X11_needState τ n s (s.1 (o + 27) 4)).bind fun x4 => (Sum.elim (fun y5 => (o_X2_votesOf F τ n (o + 10) s a1).bind fun x7 => ((o_X3_say τ n (o + 10) x7.2 a1 a2 x7.1).bind fun x8 => (some (.inl (x8.1, x8.2))))) (fun z6 => some (.inr (z6, s))) x4)) (fun z3 => some (.inr (z3, s))) x1)
set_option maxHeartbeats 4000000 in
theorem t_X11_vote {Γ : jg_G} {g : Nat → jg_C} (F : Nat) (τ : cT) (n : Nat) (o : Nat) (s : cS) (a1 : Int32) (a2 : Int32) (hO : Sh τ n o) {x : Int32 × cS} (h : o_X11_vote F τ n o s a1 a2 = some (.inl x)) : jc Γ mX11_vote 7 0 0 [some (.ref o), some (.int a1), some (.int a2)] (ct_h g τ s, n) (.inl (some (.int x.1))) (ct_h g τ x.2, n) := by
  refine jc_of ?_
  rw [o_X11_vote] at h
  refine jg_iload_n dX11_vote_0 rfl ?_
  refine jg_aload_n dX11_vote_1 rfl ?_
  refine cs_get (s := s) (w := .ref (o + 10)) fl_X11_27 dX11_vote_2 hO.ob0 rfl ?_
  refine cs_get (s := s) (w := .ref (o + 131)) fl_X11_141 dX11_vote_5 hO.1.ob0 rfl ?_
  refine cs_get (s := s) (w := .int (s.1 (o + 131) 6)) fl_X11_145 dX11_vote_8 (hO.1.ob 121 (by decide) rfl) rfl ?_
  obtain ⟨x1, e_x1, h⟩ := bd_some h
  rcases x1 with y2 | z3
  · replace h := se_l h
    refine cs_callS (As := [.int a1, .int (s.1 (o + 131) 6)]) ks_X11_90 dX11_vote_11 rfl (by decide) (Nat.le_of_ble_eq_true rfl) rfl (by decide) (Nat.le_of_ble_eq_true rfl) (t_X11_needIndex τ n s a1 (s.1 (o + 131) 6) e_x1) ?_
    refine jg_aload_n dX11_vote_14 rfl ?_
    refine cs_get (s := s) (w := .ref (o + 10)) fl_X11_27 dX11_vote_15 hO.ob0 rfl ?_
    refine cs_get (s := s) (w := .ref (o + 27)) fl_X11_280 dX11_vote_18 hO.1.ob0 rfl ?_
    refine cs_get (s := s) (w := .int (s.1 (o + 27) 4)) fl_X11_298 dX11_vote_21 (hO.1.ob 17 (by decide) rfl) rfl ?_
    obtain ⟨x4, e_x4, h⟩ := bd_some h
    rcases x4 with y5 | z6
    · replace h := se_l h
      refine cs_callS (As := [.int (s.1 (o + 27) 4)]) ks_X11_52 dX11_vote_24 rfl (by decide) (Nat.le_of_ble_eq_true rfl) rfl (by decide) (Nat.le_of_ble_eq_true rfl) (t_X11_needState τ n s (s.1 (o + 27) 4) e_x4) ?_
      refine jg_aload_n dX11_vote_27 rfl ?_
      refine cs_get (s := s) (w := .ref (o + 10)) fl_X11_27 dX11_vote_28 hO.ob0 rfl ?_
      refine cs_get (s := s) (w := .ref (o + 27)) fl_X11_280 dX11_vote_31 hO.1.ob0 rfl ?_
      refine jg_iload_n dX11_vote_34 rfl ?_
      refine jg_iload_n dX11_vote_35 rfl ?_
      refine jg_aload_n dX11_vote_36 rfl ?_
      refine cs_get (s := s) (w := .ref (o + 10)) fl_X11_27 dX11_vote_37 hO.ob0 rfl ?_
      refine jg_iload_n dX11_vote_40 rfl ?_
      obtain ⟨x7, e_x7, h⟩ := bd_some h
      refine cs_call (q := (o + 10)) (As := [.int a1]) kv_X11_308 dX11_vote_41 hO.1.ob0 rfl rfl (by decide) (Nat.le_of_ble_eq_true rfl) rfl (by decide) (Nat.le_of_ble_eq_true rfl) (t_X2_votesOf F τ n (o + 10) s a1 hO.1 e_x7) ?_
      obtain ⟨x8, e_x8, h⟩ := bd_some h
      refine cs_call (q := (o + 27)) (As := [.int a1, .int a2, .int x7.1]) kv_X11_311 dX11_vote_44 (hO.1.ob 17 (by decide) rfl) rfl rfl (by decide) (Nat.le_of_ble_eq_true rfl) rfl (by decide) (Nat.le_of_ble_eq_true rfl) (t_X3_say τ n (o + 10) x7.2 a1 a2 x7.1 hO.1 e_x8) ?_
      obtain rfl := Sum.inl.inj (Option.some.inj h)
      exact jg_ireturn dX11_vote_47 rfl ⟨rfl, rfl⟩
    · replace h := se_r h
      cases h
  · replace h := se_r h
    cases h
set_option maxHeartbeats 4000000 in
theorem x_X11_vote {Γ : jg_G} {g : Nat → jg_C} (F : Nat) (τ : cT) (n : Nat) (o : Nat) (s : cS) (a1 : Int32) (a2 : Int32) (hO : Sh τ n o) (hn : n < 1000000) (hT : τ n = .inr (8, 0)) {z : Nat × cS} (h : o_X11_vote F τ n o s a1 a2 = some (.inr z)) : jc Γ mX11_vote 7 1 6 [some (.ref o), some (.int a1), some (.int a2)] (ct_h g τ s, n) (.inr (exn z.1)) (ct_h (gx g n) τ z.2, n + 1) := by
  refine jc_of ?_
  rw [o_X11_vote] at h
  refine jg_iload_n dX11_vote_0 rfl ?_
  refine jg_aload_n dX11_vote_1 rfl ?_
  refine cs_get (s := s) (w := .ref (o + 10)) fl_X11_27 dX11_vote_2 hO.ob0 rfl ?_
  refine cs_get (s := s) (w := .ref (o + 131)) fl_X11_141 dX11_vote_5 hO.1.ob0 rfl ?_
  refine cs_get (s := s) (w := .int (s.1 (o + 131) 6)) fl_X11_145 dX11_vote_8 (hO.1.ob 121 (by decide) rfl) rfl ?_
  obtain ⟨x1, e_x1, h⟩ := bd_some h
  rcases x1 with y2 | z3
  · replace h := se_l h
    refine cs_callS (As := [.int a1, .int (s.1 (o + 131) 6)]) ks_X11_90 dX11_vote_11 rfl (by decide) (Nat.le_of_ble_eq_true rfl) rfl (by decide) (Nat.le_of_ble_eq_true rfl) (t_X11_needIndex τ n s a1 (s.1 (o + 131) 6) e_x1) ?_
    refine jg_aload_n dX11_vote_14 rfl ?_
    refine cs_get (s := s) (w := .ref (o + 10)) fl_X11_27 dX11_vote_15 hO.ob0 rfl ?_
    refine cs_get (s := s) (w := .ref (o + 27)) fl_X11_280 dX11_vote_18 hO.1.ob0 rfl ?_
    refine cs_get (s := s) (w := .int (s.1 (o + 27) 4)) fl_X11_298 dX11_vote_21 (hO.1.ob 17 (by decide) rfl) rfl ?_
    obtain ⟨x4, e_x4, h⟩ := bd_some h
    rcases x4 with y5 | z6
    · replace h := se_l h
      refine cs_callS (As := [.int (s.1 (o + 27) 4)]) ks_X11_52 dX11_vote_24 rfl (by decide) (Nat.le_of_ble_eq_true rfl) rfl (by decide) (Nat.le_of_ble_eq_true rfl) (t_X11_needState τ n s (s.1 (o + 27) 4) e_x4) ?_
      refine jg_aload_n dX11_vote_27 rfl ?_
      refine cs_get (s := s) (w := .ref (o + 10)) fl_X11_27 dX11_vote_28 hO.ob0 rfl ?_
      refine cs_get (s := s) (w := .ref (o + 27)) fl_X11_280 dX11_vote_31 hO.1.ob0 rfl ?_
      refine jg_iload_n dX11_vote_34 rfl ?_
      refine jg_iload_n dX11_vote_35 rfl ?_
      refine jg_aload_n dX11_vote_36 rfl ?_
      refine cs_get (s := s) (w := .ref (o + 10)) fl_X11_27 dX11_vote_37 hO.ob0 rfl ?_
      refine jg_iload_n dX11_vote_40 rfl ?_
      obtain ⟨x7, e_x7, h⟩ := bd_some h
      refine cs_call (q := (o + 10)) (As := [.int a1]) kv_X11_308 dX11_vote_41 hO.1.ob0 rfl rfl (by decide) (Nat.le_of_ble_eq_true rfl) rfl (by decide) (Nat.le_of_ble_eq_true rfl) (t_X2_votesOf F τ n (o + 10) s a1 hO.1 e_x7) ?_
      obtain ⟨x8, e_x8, h⟩ := bd_some h
      refine cs_call (q := (o + 27)) (As := [.int a1, .int a2, .int x7.1]) kv_X11_311 dX11_vote_44 (hO.1.ob 17 (by decide) rfl) rfl rfl (by decide) (Nat.le_of_ble_eq_true rfl) rfl (by decide) (Nat.le_of_ble_eq_true rfl) (t_X3_say τ n (o + 10) x7.2 a1 a2 x7.1 hO.1 e_x8) ?_
      cases h
    · replace h := se_r h
      obtain rfl := Sum.inr.inj (Option.some.inj h)
      exact jc_SX (As := [.int (s.1 (o + 27) 4)]) ks_X11_52 dX11_vote_24 rfl (by decide) (Nat.le_of_ble_eq_true rfl) rfl (by decide) (Nat.le_refl _) (Nat.le_refl _) (Nat.le_of_ble_eq_true rfl) (x_X11_needState τ n s (s.1 (o + 27) 4) hn hT e_x4) ⟨rfl, rfl⟩
  · replace h := se_r h
    obtain rfl := Sum.inr.inj (Option.some.inj h)
    exact jc_SX (As := [.int a1, .int (s.1 (o + 131) 6)]) ks_X11_90 dX11_vote_11 rfl (by decide) (Nat.le_of_ble_eq_true rfl) rfl (by decide) (Nat.le_refl _) (Nat.le_refl _) (Nat.le_of_ble_eq_true rfl) (x_X11_needIndex τ n s a1 (s.1 (o + 131) 6) hn hT e_x1) ⟨rfl, rfl⟩
theorem dX11_close_0 : decode cX11_close 0 = .ok (.aload_n 0, 1) := by decide +kernel
theorem dX11_close_1 : decode cX11_close 1 = .ok (.getfield 27, 3) := by decide +kernel
theorem dX11_close_4 : decode cX11_close 4 = .ok (.getfield 280, 3) := by decide +kernel
theorem dX11_close_7 : decode cX11_close 7 = .ok (.getfield 298, 3) := by decide +kernel
theorem dX11_close_10 : decode cX11_close 10 = .ok (.invokestatic 52, 3) := by decide +kernel
theorem dX11_close_13 : decode cX11_close 13 = .ok (.aload_n 0, 1) := by decide +kernel
theorem dX11_close_14 : decode cX11_close 14 = .ok (.getfield 27, 3) := by decide +kernel
theorem dX11_close_17 : decode cX11_close 17 = .ok (.getfield 280, 3) := by decide +kernel
theorem dX11_close_20 : decode cX11_close 20 = .ok (.aload_n 0, 1) := by decide +kernel
theorem dX11_close_21 : decode cX11_close 21 = .ok (.getfield 27, 3) := by decide +kernel
theorem dX11_close_24 : decode cX11_close 24 = .ok (.invokevirtual 71, 3) := by decide +kernel
theorem dX11_close_27 : decode cX11_close 27 = .ok (.invokevirtual 315, 3) := by decide +kernel
theorem dX11_close_30 : decode cX11_close 30 = .ok (.ireturn, 1) := by decide +kernel
noncomputable def o_X11_close (F : Nat) (τ : cT) (n : Nat) (o : Nat) (s : cS) : Option ((Int32 × cS) ⊕ (Nat × cS)) := (o_X11_needState τ n s (s.1 (o + 27) 4)).bind fun x1 => (Sum.elim (fun y2 => (o_X2_today τ n (o + 10) s).bind fun x4 => ((o_X3_endVote F τ n (o + 10) s x4).bind fun x5 => (if zb x5.1 then some (.inl (x5.1, x5.2)) else none))) (fun z3 => some (.inr (z3, s))) x1)
set_option maxHeartbeats 4000000 in
theorem t_X11_close {Γ : jg_G} {g : Nat → jg_C} (F : Nat) (τ : cT) (n : Nat) (o : Nat) (s : cS) (hO : Sh τ n o) {x : Int32 × cS} (h : o_X11_close F τ n o s = some (.inl x)) : jc Γ mX11_close 7 0 0 [some (.ref o)] (ct_h g τ s, n) (.inl (some (.int x.1))) (ct_h g τ x.2, n) := by
  refine jc_of ?_
  rw [o_X11_close] at h
  refine jg_aload_n dX11_close_0 rfl ?_
  refine cs_get (s := s) (w := .ref (o + 10)) fl_X11_27 dX11_close_1 hO.ob0 rfl ?_
  refine cs_get (s := s) (w := .ref (o + 27)) fl_X11_280 dX11_close_4 hO.1.ob0 rfl ?_
  refine cs_get (s := s) (w := .int (s.1 (o + 27) 4)) fl_X11_298 dX11_close_7 (hO.1.ob 17 (by decide) rfl) rfl ?_
  obtain ⟨x1, e_x1, h⟩ := bd_some h
  rcases x1 with y2 | z3
  · replace h := se_l h
    refine cs_callS (As := [.int (s.1 (o + 27) 4)]) ks_X11_52 dX11_close_10 rfl (by decide) (Nat.le_of_ble_eq_true rfl) rfl (by decide) (Nat.le_of_ble_eq_true rfl) (t_X11_needState τ n s (s.1 (o + 27) 4) e_x1) ?_
    refine jg_aload_n dX11_close_13 rfl ?_
    refine cs_get (s := s) (w := .ref (o + 10)) fl_X11_27 dX11_close_14 hO.ob0 rfl ?_
    refine cs_get (s := s) (w := .ref (o + 27)) fl_X11_280 dX11_close_17 hO.1.ob0 rfl ?_
    refine jg_aload_n dX11_close_20 rfl ?_
    refine cs_get (s := s) (w := .ref (o + 10)) fl_X11_27 dX11_close_21 hO.ob0 rfl ?_
    obtain ⟨x4, e_x4, h⟩ := bd_some h
    refine cs_call (q := (o + 10)) (As := []) kv_X11_71 dX11_close_24 hO.1.ob0 rfl rfl (by decide) (Nat.le_of_ble_eq_true rfl) rfl (by decide) (Nat.le_of_ble_eq_true rfl) (t_X2_today τ n (o + 10) s hO.1 e_x4) ?_
    obtain ⟨x5, e_x5, h⟩ := bd_some h
    refine cs_call (q := (o + 27)) (As := [.int x4]) kv_X11_315 dX11_close_27 (hO.1.ob 17 (by decide) rfl) rfl rfl (by decide) (Nat.le_of_ble_eq_true rfl) rfl (by decide) (Nat.le_of_ble_eq_true rfl) (t_X3_endVote F τ n (o + 10) s x4 hO.1 e_x5) ?_
    obtain ⟨q9, h⟩ := gd_some h
    obtain rfl := Sum.inl.inj (Option.some.inj h)
    exact jg_zreturn dX11_close_30 rfl (zb_nar q9) ⟨rfl, rfl⟩
  · replace h := se_r h
    cases h
set_option maxHeartbeats 4000000 in
theorem x_X11_close {Γ : jg_G} {g : Nat → jg_C} (F : Nat) (τ : cT) (n : Nat) (o : Nat) (s : cS) (hO : Sh τ n o) (hn : n < 1000000) (hT : τ n = .inr (8, 0)) {z : Nat × cS} (h : o_X11_close F τ n o s = some (.inr z)) : jc Γ mX11_close 7 1 6 [some (.ref o)] (ct_h g τ s, n) (.inr (exn z.1)) (ct_h (gx g n) τ z.2, n + 1) := by
  refine jc_of ?_
  rw [o_X11_close] at h
  refine jg_aload_n dX11_close_0 rfl ?_
  refine cs_get (s := s) (w := .ref (o + 10)) fl_X11_27 dX11_close_1 hO.ob0 rfl ?_
  refine cs_get (s := s) (w := .ref (o + 27)) fl_X11_280 dX11_close_4 hO.1.ob0 rfl ?_
  refine cs_get (s := s) (w := .int (s.1 (o + 27) 4)) fl_X11_298 dX11_close_7 (hO.1.ob 17 (by decide) rfl) rfl ?_
  obtain ⟨x1, e_x1, h⟩ := bd_some h
  rcases x1 with y2 | z3
  · replace h := se_l h
    refine cs_callS (As := [.int (s.1 (o + 27) 4)]) ks_X11_52 dX11_close_10 rfl (by decide) (Nat.le_of_ble_eq_true rfl) rfl (by decide) (Nat.le_of_ble_eq_true rfl) (t_X11_needState τ n s (s.1 (o + 27) 4) e_x1) ?_
    refine jg_aload_n dX11_close_13 rfl ?_
    refine cs_get (s := s) (w := .ref (o + 10)) fl_X11_27 dX11_close_14 hO.ob0 rfl ?_
    refine cs_get (s := s) (w := .ref (o + 27)) fl_X11_280 dX11_close_17 hO.1.ob0 rfl ?_
    refine jg_aload_n dX11_close_20 rfl ?_
    refine cs_get (s := s) (w := .ref (o + 10)) fl_X11_27 dX11_close_21 hO.ob0 rfl ?_
    obtain ⟨x4, e_x4, h⟩ := bd_some h
    refine cs_call (q := (o + 10)) (As := []) kv_X11_71 dX11_close_24 hO.1.ob0 rfl rfl (by decide) (Nat.le_of_ble_eq_true rfl) rfl (by decide) (Nat.le_of_ble_eq_true rfl) (t_X2_today τ n (o + 10) s hO.1 e_x4) ?_
    obtain ⟨x5, e_x5, h⟩ := bd_some h
    refine cs_call (q := (o + 27)) (As := [.int x4]) kv_X11_315 dX11_close_27 (hO.1.ob 17 (by decide) rfl) rfl rfl (by decide) (Nat.le_of_ble_eq_true rfl) rfl (by decide) (Nat.le_of_ble_eq_true rfl) (t_X3_endVote F τ n (o + 10) s x4 hO.1 e_x5) ?_
    obtain ⟨q9, h⟩ := gd_some h
    cases h
  · replace h := se_r h
    obtain rfl := Sum.inr.inj (Option.some.inj h)
    exact jc_SX (As := [.int (s.1 (o + 27) 4)]) ks_X11_52 dX11_close_10 rfl (by decide) (Nat.le_of_ble_eq_true rfl) rfl (by decide) (Nat.le_refl _) (Nat.le_refl _) (Nat.le_of_ble_eq_true rfl) (x_X11_needState τ n s (s.1 (o + 27) 4) hn hT e_x1) ⟨rfl, rfl⟩
theorem dX11_judge_0 : decode cX11_judge 0 = .ok (.iload_n 1, 1) := by decide +kernel
theorem dX11_judge_1 : decode cX11_judge 1 = .ok (.aload_n 0, 1) := by decide +kernel
theorem dX11_judge_2 : decode cX11_judge 2 = .ok (.getfield 27, 3) := by decide +kernel
theorem dX11_judge_5 : decode cX11_judge 5 = .ok (.getfield 123, 3) := by decide +kernel
theorem dX11_judge_8 : decode cX11_judge 8 = .ok (.getfield 154, 3) := by decide +kernel
theorem dX11_judge_11 : decode cX11_judge 11 = .ok (.invokestatic 90, 3) := by decide +kernel
theorem dX11_judge_14 : decode cX11_judge 14 = .ok (.aload_n 0, 1) := by decide +kernel
theorem dX11_judge_15 : decode cX11_judge 15 = .ok (.getfield 27, 3) := by decide +kernel
theorem dX11_judge_18 : decode cX11_judge 18 = .ok (.getfield 123, 3) := by decide +kernel
theorem dX11_judge_21 : decode cX11_judge 21 = .ok (.getfield 157, 3) := by decide +kernel
theorem dX11_judge_24 : decode cX11_judge 24 = .ok (.iload_n 1, 1) := by decide +kernel
theorem dX11_judge_25 : decode cX11_judge 25 = .ok (.aaload, 1) := by decide +kernel
theorem dX11_judge_26 : decode cX11_judge 26 = .ok (.astore_n 3, 1) := by decide +kernel
theorem dX11_judge_27 : decode cX11_judge 27 = .ok (.aload_n 0, 1) := by decide +kernel
theorem dX11_judge_28 : decode cX11_judge 28 = .ok (.getfield 27, 3) := by decide +kernel
theorem dX11_judge_31 : decode cX11_judge 31 = .ok (.invokevirtual 179, 3) := by decide +kernel
theorem dX11_judge_34 : decode cX11_judge 34 = .ok (.astore 4, 2) := by decide +kernel
theorem dX11_judge_36 : decode cX11_judge 36 = .ok (.aload_n 0, 1) := by decide +kernel
theorem dX11_judge_37 : decode cX11_judge 37 = .ok (.getfield 27, 3) := by decide +kernel
theorem dX11_judge_40 : decode cX11_judge 40 = .ok (.aload_n 3, 1) := by decide +kernel
theorem dX11_judge_41 : decode cX11_judge 41 = .ok (.iconst 0, 1) := by decide +kernel
theorem dX11_judge_42 : decode cX11_judge 42 = .ok (.invokevirtual 319, 3) := by decide +kernel
theorem dX11_judge_45 : decode cX11_judge 45 = .ok (.iload_n 2, 1) := by decide +kernel
theorem dX11_judge_46 : decode cX11_judge 46 = .ok (.tableswitch 84 0 3 #[30, 42, 56, 70], 30) := by decide +kernel
theorem dX11_judge_76 : decode cX11_judge 76 = .ok (.aload_n 0, 1) := by decide +kernel
theorem dX11_judge_77 : decode cX11_judge 77 = .ok (.getfield 27, 3) := by decide +kernel
theorem dX11_judge_80 : decode cX11_judge 80 = .ok (.aload 4, 2) := by decide +kernel
theorem dX11_judge_82 : decode cX11_judge 82 = .ok (.aload_n 3, 1) := by decide +kernel
theorem dX11_judge_83 : decode cX11_judge 83 = .ok (.iconst 0, 1) := by decide +kernel
theorem dX11_judge_84 : decode cX11_judge 84 = .ok (.invokevirtual 219, 3) := by decide +kernel
theorem dX11_judge_87 : decode cX11_judge 87 = .ok (.ireturn, 1) := by decide +kernel
theorem dX11_judge_88 : decode cX11_judge 88 = .ok (.aload 4, 2) := by decide +kernel
theorem dX11_judge_90 : decode cX11_judge 90 = .ok (.iconst 0, 1) := by decide +kernel
theorem dX11_judge_91 : decode cX11_judge 91 = .ok (.aload_n 0, 1) := by decide +kernel
theorem dX11_judge_92 : decode cX11_judge 92 = .ok (.getfield 27, 3) := by decide +kernel
theorem dX11_judge_95 : decode cX11_judge 95 = .ok (.getfield 323, 3) := by decide +kernel
theorem dX11_judge_98 : decode cX11_judge 98 = .ok (.invokevirtual 326, 3) := by decide +kernel
theorem dX11_judge_101 : decode cX11_judge 101 = .ok (.ireturn, 1) := by decide +kernel
theorem dX11_judge_102 : decode cX11_judge 102 = .ok (.aload 4, 2) := by decide +kernel
theorem dX11_judge_104 : decode cX11_judge 104 = .ok (.iconst 1, 1) := by decide +kernel
theorem dX11_judge_105 : decode cX11_judge 105 = .ok (.aload_n 0, 1) := by decide +kernel
theorem dX11_judge_106 : decode cX11_judge 106 = .ok (.getfield 27, 3) := by decide +kernel
theorem dX11_judge_109 : decode cX11_judge 109 = .ok (.getfield 323, 3) := by decide +kernel
theorem dX11_judge_112 : decode cX11_judge 112 = .ok (.invokevirtual 326, 3) := by decide +kernel
theorem dX11_judge_115 : decode cX11_judge 115 = .ok (.ireturn, 1) := by decide +kernel
theorem dX11_judge_116 : decode cX11_judge 116 = .ok (.aload 4, 2) := by decide +kernel
theorem dX11_judge_118 : decode cX11_judge 118 = .ok (.iconst 2, 1) := by decide +kernel
theorem dX11_judge_119 : decode cX11_judge 119 = .ok (.aload_n 0, 1) := by decide +kernel
theorem dX11_judge_120 : decode cX11_judge 120 = .ok (.getfield 27, 3) := by decide +kernel
theorem dX11_judge_123 : decode cX11_judge 123 = .ok (.getfield 323, 3) := by decide +kernel
theorem dX11_judge_126 : decode cX11_judge 126 = .ok (.invokevirtual 330, 3) := by decide +kernel
theorem dX11_judge_129 : decode cX11_judge 129 = .ok (.ireturn, 1) := by decide +kernel
theorem dX11_judge_130 : decode cX11_judge 130 = .ok (.new 105, 3) := by decide +kernel
theorem dX11_judge_133 : decode cX11_judge 133 = .ok (.dup, 1) := by decide +kernel
theorem dX11_judge_134 : decode cX11_judge 134 = .ok (.ldc_w 333, 3) := by decide +kernel
theorem dX11_judge_137 : decode cX11_judge 137 = .ok (.invokespecial 109, 3) := by decide +kernel
theorem dX11_judge_140 : decode cX11_judge 140 = .ok (.athrow, 1) := by decide +kernel
noncomputable def o_X11_judge (F : Nat) (τ : cT) (n : Nat) (o : Nat) (s : cS) (a1 : Int32) (a2 : Int32) : Option ((Int32 × cS) ⊕ (Nat × cS)) := (o_X11_needIndex τ n s a1 (s.1 (o + 37) 3)).bind fun x1 => (Sum.elim (fun y2 => if iL a1 80 then ((o_X2_actOfToday F τ n (o + 10) s).bind fun x5 => (if acb τ n x5 = true then ((o_X2_askOfShip F τ n (o + 10) (o + 49 + 1 + a1.toNatClampNeg) s (nI 0)).bind fun x7 => (if a2 = nI 0 then ((o_X2_dueBy F τ n (o + 10) x5 (o + 49 + 1 + a1.toNatClampNeg) x7 (nI 0)).bind fun x9 => (some (.inl (x9.1, x9.2)))) else (if a2 = nI 1 then ((o_X0_firstThatHolds F τ n x5 (o + 177) x7 (nI 0)).bind fun x11 => (some (.inl (x11, x7)))) else (if a2 = nI 2 then ((o_X0_firstThatHolds F τ n x5 (o + 177) x7 (nI 1)).bind fun x13 => (some (.inl (x13, x7)))) else (if a2 = nI 3 then ((o_X0_greatest F τ n x5 (o + 177) x7 (nI 2)).bind fun x15 => (some (.inl (x15, x7)))) else (some (.inr (4, x7)))))))) else none)) else none) (fun z3 => some (.inr (z3, s))) x1)
set_option maxHeartbeats 4000000 in
theorem t_X11_judge {Γ : jg_G} {g : Nat → jg_C} (F : Nat) (τ : cT) (n : Nat) (o : Nat) (s : cS) (a1 : Int32) (a2 : Int32) (hO : Sh τ n o) {x : Int32 × cS} (h : o_X11_judge F τ n o s a1 a2 = some (.inl x)) : jc Γ mX11_judge 7 0 0 [some (.ref o), some (.int a1), some (.int a2), none, none] (ct_h g τ s, n) (.inl (some (.int x.1))) (ct_h g τ x.2, n) := by
  refine jc_of ?_
  rw [o_X11_judge] at h
  refine jg_iload_n dX11_judge_0 rfl ?_
  refine jg_aload_n dX11_judge_1 rfl ?_
  refine cs_get (s := s) (w := .ref (o + 10)) fl_X11_27 dX11_judge_2 hO.ob0 rfl ?_
  refine cs_get (s := s) (w := .ref (o + 37)) fl_X11_123 dX11_judge_5 hO.1.ob0 rfl ?_
  refine cs_get (s := s) (w := .int (s.1 (o + 37) 3)) fl_X11_154 dX11_judge_8 (hO.1.ob 27 (by decide) rfl) rfl ?_
  obtain ⟨x1, e_x1, h⟩ := bd_some h
  rcases x1 with y2 | z3
  · replace h := se_l h
    refine cs_callS (As := [.int a1, .int (s.1 (o + 37) 3)]) ks_X11_90 dX11_judge_11 rfl (by decide) (Nat.le_of_ble_eq_true rfl) rfl (by decide) (Nat.le_of_ble_eq_true rfl) (t_X11_needIndex τ n s a1 (s.1 (o + 37) 3) e_x1) ?_
    refine jg_aload_n dX11_judge_14 rfl ?_
    refine cs_get (s := s) (w := .ref (o + 10)) fl_X11_27 dX11_judge_15 hO.ob0 rfl ?_
    refine cs_get (s := s) (w := .ref (o + 37)) fl_X11_123 dX11_judge_18 hO.1.ob0 rfl ?_
    refine cs_get (s := s) (w := .ref (o + 49)) fl_X11_157 dX11_judge_21 (hO.1.ob 27 (by decide) rfl) rfl ?_
    refine jg_iload_n dX11_judge_24 rfl ?_
    obtain ⟨q4, h⟩ := gd_some h
    refine cs_ldr (s := s) (q := (o + 49)) (i := a1) (kd := 6) (by decide) dX11_judge_25 (hO.1.ar 39 (by decide) rfl) q4 ?_
    refine jg_astore_n (L' := [some (.ref o), some (.int a1), some (.int a2), some (.ref (o + 49 + 1 + a1.toNatClampNeg)), none]) dX11_judge_26 (by decide) rfl ?_
    refine jg_aload_n dX11_judge_27 rfl ?_
    refine cs_get (s := s) (w := .ref (o + 10)) fl_X11_27 dX11_judge_28 hO.ob0 rfl ?_
    obtain ⟨x5, e_x5, h⟩ := bd_some h
    refine cs_call (q := (o + 10)) (As := []) kv_X11_179 dX11_judge_31 hO.1.ob0 rfl rfl (by decide) (Nat.le_of_ble_eq_true rfl) rfl (by decide) (Nat.le_of_ble_eq_true rfl) (t_X2_actOfToday F τ n (o + 10) s hO.1 e_x5) ?_
    obtain ⟨q6, h⟩ := gd_some h
    refine jg_astore (L' := [some (.ref o), some (.int a1), some (.int a2), some (.ref (o + 49 + 1 + a1.toNatClampNeg)), some (.ref x5)]) dX11_judge_34 (by decide) rfl ?_
    refine jg_aload_n dX11_judge_36 rfl ?_
    refine cs_get (s := s) (w := .ref (o + 10)) fl_X11_27 dX11_judge_37 hO.ob0 rfl ?_
    refine jg_aload_n dX11_judge_40 rfl ?_
    refine jg_iconst (v := nI 0) dX11_judge_41 (by decide) ?_
    obtain ⟨x7, e_x7, h⟩ := bd_some h
    refine cs_call (q := (o + 10)) (As := [.ref (o + 49 + 1 + a1.toNatClampNeg), .int (nI 0)]) kv_X11_319 dX11_judge_42 hO.1.ob0 rfl rfl (by decide) (Nat.le_of_ble_eq_true rfl) rfl (by decide) (Nat.le_of_ble_eq_true rfl) (t_X2_askOfShip F τ n (o + 10) (o + 49 + 1 + a1.toNatClampNeg) s (nI 0) hO.1 (hO.1.ship q4.2) e_x7) ?_
    refine jg_iload_n dX11_judge_45 rfl ?_
    by_cases c8 : a2 = nI 0
    · replace h := it_t c8 h
      refine jg_tableIn (off := 30) (tgt := 76) dX11_judge_46 (by rw [c8]; decide) (by rw [c8]; decide) (by rw [c8]; rfl) (by decide) ?_
      refine jg_aload_n dX11_judge_76 rfl ?_
      refine cs_get (s := x7) (w := .ref (o + 10)) fl_X11_27 dX11_judge_77 hO.ob0 rfl ?_
      refine jg_aload dX11_judge_80 rfl ?_
      refine jg_aload_n dX11_judge_82 rfl ?_
      refine jg_iconst (v := nI 0) dX11_judge_83 (by decide) ?_
      obtain ⟨x9, e_x9, h⟩ := bd_some h
      refine cs_call (q := (o + 10)) (As := [.ref x5, .ref (o + 49 + 1 + a1.toNatClampNeg), .int (nI 0)]) kv_X11_219 dX11_judge_84 hO.1.ob0 rfl rfl (by decide) (Nat.le_of_ble_eq_true rfl) rfl (by decide) (Nat.le_of_ble_eq_true rfl) (t_X2_dueBy F τ n (o + 10) x5 (o + 49 + 1 + a1.toNatClampNeg) x7 (nI 0) hO.1 q6 (hO.1.ship q4.2) e_x9) ?_
      obtain rfl := Sum.inl.inj (Option.some.inj h)
      exact jg_ireturn dX11_judge_87 rfl ⟨rfl, rfl⟩
    replace h := it_f c8 h
    by_cases c10 : a2 = nI 1
    · replace h := it_t c10 h
      refine jg_tableIn (off := 42) (tgt := 88) dX11_judge_46 (by rw [c10]; decide) (by rw [c10]; decide) (by rw [c10]; rfl) (by decide) ?_
      refine jg_aload dX11_judge_88 rfl ?_
      refine jg_iconst (v := nI 0) dX11_judge_90 (by decide) ?_
      refine jg_aload_n dX11_judge_91 rfl ?_
      refine cs_get (s := x7) (w := .ref (o + 10)) fl_X11_27 dX11_judge_92 hO.ob0 rfl ?_
      refine cs_get (s := x7) (w := .ref (o + 177)) fl_X11_323 dX11_judge_95 hO.1.ob0 rfl ?_
      obtain ⟨x11, e_x11, h⟩ := bd_some h
      refine cs_call (q := x5) (As := [.int (nI 0), .ref (o + 177)]) kv_X11_326 dX11_judge_98 (acb_ob q6) rfl rfl (by decide) (Nat.le_of_ble_eq_true rfl) rfl (by decide) (Nat.le_of_ble_eq_true rfl) (t_X0_firstThatHolds F τ n x5 (o + 177) x7 (nI 0) q6 (hO.1.ar 167 (by decide) rfl) e_x11) ?_
      obtain rfl := Sum.inl.inj (Option.some.inj h)
      exact jg_ireturn dX11_judge_101 rfl ⟨rfl, rfl⟩
    replace h := it_f c10 h
    by_cases c12 : a2 = nI 2
    · replace h := it_t c12 h
      refine jg_tableIn (off := 56) (tgt := 102) dX11_judge_46 (by rw [c12]; decide) (by rw [c12]; decide) (by rw [c12]; rfl) (by decide) ?_
      refine jg_aload dX11_judge_102 rfl ?_
      refine jg_iconst (v := nI 1) dX11_judge_104 (by decide) ?_
      refine jg_aload_n dX11_judge_105 rfl ?_
      refine cs_get (s := x7) (w := .ref (o + 10)) fl_X11_27 dX11_judge_106 hO.ob0 rfl ?_
      refine cs_get (s := x7) (w := .ref (o + 177)) fl_X11_323 dX11_judge_109 hO.1.ob0 rfl ?_
      obtain ⟨x13, e_x13, h⟩ := bd_some h
      refine cs_call (q := x5) (As := [.int (nI 1), .ref (o + 177)]) kv_X11_326 dX11_judge_112 (acb_ob q6) rfl rfl (by decide) (Nat.le_of_ble_eq_true rfl) rfl (by decide) (Nat.le_of_ble_eq_true rfl) (t_X0_firstThatHolds F τ n x5 (o + 177) x7 (nI 1) q6 (hO.1.ar 167 (by decide) rfl) e_x13) ?_
      obtain rfl := Sum.inl.inj (Option.some.inj h)
      exact jg_ireturn dX11_judge_115 rfl ⟨rfl, rfl⟩
    replace h := it_f c12 h
    by_cases c14 : a2 = nI 3
    · replace h := it_t c14 h
      refine jg_tableIn (off := 70) (tgt := 116) dX11_judge_46 (by rw [c14]; decide) (by rw [c14]; decide) (by rw [c14]; rfl) (by decide) ?_
      refine jg_aload dX11_judge_116 rfl ?_
      refine jg_iconst (v := nI 2) dX11_judge_118 (by decide) ?_
      refine jg_aload_n dX11_judge_119 rfl ?_
      refine cs_get (s := x7) (w := .ref (o + 10)) fl_X11_27 dX11_judge_120 hO.ob0 rfl ?_
      refine cs_get (s := x7) (w := .ref (o + 177)) fl_X11_323 dX11_judge_123 hO.1.ob0 rfl ?_
      obtain ⟨x15, e_x15, h⟩ := bd_some h
      refine cs_call (q := x5) (As := [.int (nI 2), .ref (o + 177)]) kv_X11_330 dX11_judge_126 (acb_ob q6) rfl rfl (by decide) (Nat.le_of_ble_eq_true rfl) rfl (by decide) (Nat.le_of_ble_eq_true rfl) (t_X0_greatest F τ n x5 (o + 177) x7 (nI 2) q6 (hO.1.ar 167 (by decide) rfl) e_x15) ?_
      obtain rfl := Sum.inl.inj (Option.some.inj h)
      exact jg_ireturn dX11_judge_129 rfl ⟨rfl, rfl⟩
    replace h := it_f c14 h
    refine jg_tableOut (tgt := 130) dX11_judge_46 (jt_outN 0 3 (a2) (fun k h1 h2 => by rcases (show k = 0 ∨ k = 1 ∨ k = 2 ∨ k = 3 by omega) with rfl | rfl | rfl | rfl <;> assumption)) (by decide) ?_
    cases h
  · replace h := se_r h
    cases h
set_option maxHeartbeats 4000000 in
theorem x_X11_judge {Γ : jg_G} {g : Nat → jg_C} (F : Nat) (τ : cT) (n : Nat) (o : Nat) (s : cS) (a1 : Int32) (a2 : Int32) (hO : Sh τ n o) (hn : n < 1000000) (hT : τ n = .inr (8, 0)) {z : Nat × cS} (h : o_X11_judge F τ n o s a1 a2 = some (.inr z)) : jc Γ mX11_judge 7 1 6 [some (.ref o), some (.int a1), some (.int a2), none, none] (ct_h g τ s, n) (.inr (exn z.1)) (ct_h (gx g n) τ z.2, n + 1) := by
  refine jc_of ?_
  rw [o_X11_judge] at h
  refine jg_iload_n dX11_judge_0 rfl ?_
  refine jg_aload_n dX11_judge_1 rfl ?_
  refine cs_get (s := s) (w := .ref (o + 10)) fl_X11_27 dX11_judge_2 hO.ob0 rfl ?_
  refine cs_get (s := s) (w := .ref (o + 37)) fl_X11_123 dX11_judge_5 hO.1.ob0 rfl ?_
  refine cs_get (s := s) (w := .int (s.1 (o + 37) 3)) fl_X11_154 dX11_judge_8 (hO.1.ob 27 (by decide) rfl) rfl ?_
  obtain ⟨x1, e_x1, h⟩ := bd_some h
  rcases x1 with y2 | z3
  · replace h := se_l h
    refine cs_callS (As := [.int a1, .int (s.1 (o + 37) 3)]) ks_X11_90 dX11_judge_11 rfl (by decide) (Nat.le_of_ble_eq_true rfl) rfl (by decide) (Nat.le_of_ble_eq_true rfl) (t_X11_needIndex τ n s a1 (s.1 (o + 37) 3) e_x1) ?_
    refine jg_aload_n dX11_judge_14 rfl ?_
    refine cs_get (s := s) (w := .ref (o + 10)) fl_X11_27 dX11_judge_15 hO.ob0 rfl ?_
    refine cs_get (s := s) (w := .ref (o + 37)) fl_X11_123 dX11_judge_18 hO.1.ob0 rfl ?_
    refine cs_get (s := s) (w := .ref (o + 49)) fl_X11_157 dX11_judge_21 (hO.1.ob 27 (by decide) rfl) rfl ?_
    refine jg_iload_n dX11_judge_24 rfl ?_
    obtain ⟨q4, h⟩ := gd_some h
    refine cs_ldr (s := s) (q := (o + 49)) (i := a1) (kd := 6) (by decide) dX11_judge_25 (hO.1.ar 39 (by decide) rfl) q4 ?_
    refine jg_astore_n (L' := [some (.ref o), some (.int a1), some (.int a2), some (.ref (o + 49 + 1 + a1.toNatClampNeg)), none]) dX11_judge_26 (by decide) rfl ?_
    refine jg_aload_n dX11_judge_27 rfl ?_
    refine cs_get (s := s) (w := .ref (o + 10)) fl_X11_27 dX11_judge_28 hO.ob0 rfl ?_
    obtain ⟨x5, e_x5, h⟩ := bd_some h
    refine cs_call (q := (o + 10)) (As := []) kv_X11_179 dX11_judge_31 hO.1.ob0 rfl rfl (by decide) (Nat.le_of_ble_eq_true rfl) rfl (by decide) (Nat.le_of_ble_eq_true rfl) (t_X2_actOfToday F τ n (o + 10) s hO.1 e_x5) ?_
    obtain ⟨q6, h⟩ := gd_some h
    refine jg_astore (L' := [some (.ref o), some (.int a1), some (.int a2), some (.ref (o + 49 + 1 + a1.toNatClampNeg)), some (.ref x5)]) dX11_judge_34 (by decide) rfl ?_
    refine jg_aload_n dX11_judge_36 rfl ?_
    refine cs_get (s := s) (w := .ref (o + 10)) fl_X11_27 dX11_judge_37 hO.ob0 rfl ?_
    refine jg_aload_n dX11_judge_40 rfl ?_
    refine jg_iconst (v := nI 0) dX11_judge_41 (by decide) ?_
    obtain ⟨x7, e_x7, h⟩ := bd_some h
    refine cs_call (q := (o + 10)) (As := [.ref (o + 49 + 1 + a1.toNatClampNeg), .int (nI 0)]) kv_X11_319 dX11_judge_42 hO.1.ob0 rfl rfl (by decide) (Nat.le_of_ble_eq_true rfl) rfl (by decide) (Nat.le_of_ble_eq_true rfl) (t_X2_askOfShip F τ n (o + 10) (o + 49 + 1 + a1.toNatClampNeg) s (nI 0) hO.1 (hO.1.ship q4.2) e_x7) ?_
    refine jg_iload_n dX11_judge_45 rfl ?_
    by_cases c8 : a2 = nI 0
    · replace h := it_t c8 h
      refine jg_tableIn (off := 30) (tgt := 76) dX11_judge_46 (by rw [c8]; decide) (by rw [c8]; decide) (by rw [c8]; rfl) (by decide) ?_
      refine jg_aload_n dX11_judge_76 rfl ?_
      refine cs_get (s := x7) (w := .ref (o + 10)) fl_X11_27 dX11_judge_77 hO.ob0 rfl ?_
      refine jg_aload dX11_judge_80 rfl ?_
      refine jg_aload_n dX11_judge_82 rfl ?_
      refine jg_iconst (v := nI 0) dX11_judge_83 (by decide) ?_
      obtain ⟨x9, e_x9, h⟩ := bd_some h
      refine cs_call (q := (o + 10)) (As := [.ref x5, .ref (o + 49 + 1 + a1.toNatClampNeg), .int (nI 0)]) kv_X11_219 dX11_judge_84 hO.1.ob0 rfl rfl (by decide) (Nat.le_of_ble_eq_true rfl) rfl (by decide) (Nat.le_of_ble_eq_true rfl) (t_X2_dueBy F τ n (o + 10) x5 (o + 49 + 1 + a1.toNatClampNeg) x7 (nI 0) hO.1 q6 (hO.1.ship q4.2) e_x9) ?_
      cases h
    replace h := it_f c8 h
    by_cases c10 : a2 = nI 1
    · replace h := it_t c10 h
      refine jg_tableIn (off := 42) (tgt := 88) dX11_judge_46 (by rw [c10]; decide) (by rw [c10]; decide) (by rw [c10]; rfl) (by decide) ?_
      refine jg_aload dX11_judge_88 rfl ?_
      refine jg_iconst (v := nI 0) dX11_judge_90 (by decide) ?_
      refine jg_aload_n dX11_judge_91 rfl ?_
      refine cs_get (s := x7) (w := .ref (o + 10)) fl_X11_27 dX11_judge_92 hO.ob0 rfl ?_
      refine cs_get (s := x7) (w := .ref (o + 177)) fl_X11_323 dX11_judge_95 hO.1.ob0 rfl ?_
      obtain ⟨x11, e_x11, h⟩ := bd_some h
      refine cs_call (q := x5) (As := [.int (nI 0), .ref (o + 177)]) kv_X11_326 dX11_judge_98 (acb_ob q6) rfl rfl (by decide) (Nat.le_of_ble_eq_true rfl) rfl (by decide) (Nat.le_of_ble_eq_true rfl) (t_X0_firstThatHolds F τ n x5 (o + 177) x7 (nI 0) q6 (hO.1.ar 167 (by decide) rfl) e_x11) ?_
      cases h
    replace h := it_f c10 h
    by_cases c12 : a2 = nI 2
    · replace h := it_t c12 h
      refine jg_tableIn (off := 56) (tgt := 102) dX11_judge_46 (by rw [c12]; decide) (by rw [c12]; decide) (by rw [c12]; rfl) (by decide) ?_
      refine jg_aload dX11_judge_102 rfl ?_
      refine jg_iconst (v := nI 1) dX11_judge_104 (by decide) ?_
      refine jg_aload_n dX11_judge_105 rfl ?_
      refine cs_get (s := x7) (w := .ref (o + 10)) fl_X11_27 dX11_judge_106 hO.ob0 rfl ?_
      refine cs_get (s := x7) (w := .ref (o + 177)) fl_X11_323 dX11_judge_109 hO.1.ob0 rfl ?_
      obtain ⟨x13, e_x13, h⟩ := bd_some h
      refine cs_call (q := x5) (As := [.int (nI 1), .ref (o + 177)]) kv_X11_326 dX11_judge_112 (acb_ob q6) rfl rfl (by decide) (Nat.le_of_ble_eq_true rfl) rfl (by decide) (Nat.le_of_ble_eq_true rfl) (t_X0_firstThatHolds F τ n x5 (o + 177) x7 (nI 1) q6 (hO.1.ar 167 (by decide) rfl) e_x13) ?_
      cases h
    replace h := it_f c12 h
    by_cases c14 : a2 = nI 3
    · replace h := it_t c14 h
      refine jg_tableIn (off := 70) (tgt := 116) dX11_judge_46 (by rw [c14]; decide) (by rw [c14]; decide) (by rw [c14]; rfl) (by decide) ?_
      refine jg_aload dX11_judge_116 rfl ?_
      refine jg_iconst (v := nI 2) dX11_judge_118 (by decide) ?_
      refine jg_aload_n dX11_judge_119 rfl ?_
      refine cs_get (s := x7) (w := .ref (o + 10)) fl_X11_27 dX11_judge_120 hO.ob0 rfl ?_
      refine cs_get (s := x7) (w := .ref (o + 177)) fl_X11_323 dX11_judge_123 hO.1.ob0 rfl ?_
      obtain ⟨x15, e_x15, h⟩ := bd_some h
      refine cs_call (q := x5) (As := [.int (nI 2), .ref (o + 177)]) kv_X11_330 dX11_judge_126 (acb_ob q6) rfl rfl (by decide) (Nat.le_of_ble_eq_true rfl) rfl (by decide) (Nat.le_of_ble_eq_true rfl) (t_X0_greatest F τ n x5 (o + 177) x7 (nI 2) q6 (hO.1.ar 167 (by decide) rfl) e_x15) ?_
      cases h
    replace h := it_f c14 h
    refine jg_tableOut (tgt := 130) dX11_judge_46 (jt_outN 0 3 (a2) (fun k h1 h2 => by rcases (show k = 0 ∨ k = 1 ∨ k = 2 ∨ k = 3 by omega) with rfl | rfl | rfl | rfl <;> assumption)) (by decide) ?_
    obtain rfl := Sum.inr.inj (Option.some.inj h)
    exact jg_nsW (i := 11) rfl ex_NSEE rfl dX11_judge_130 dX11_judge_133 dX11_judge_134 dX11_judge_137 dX11_judge_140 (Nat.le_refl _) (Nat.le_refl _) (by decide) (Nat.le_of_ble_eq_true rfl) hn ⟨rfl, gx_e hT⟩
  · replace h := se_r h
    obtain rfl := Sum.inr.inj (Option.some.inj h)
    exact jc_SX (As := [.int a1, .int (s.1 (o + 37) 3)]) ks_X11_90 dX11_judge_11 rfl (by decide) (Nat.le_of_ble_eq_true rfl) rfl (by decide) (Nat.le_refl _) (Nat.le_refl _) (Nat.le_of_ble_eq_true rfl) (x_X11_needIndex τ n s a1 (s.1 (o + 37) 3) hn hT e_x1) ⟨rfl, rfl⟩
theorem dX11_back_0 : decode cX11_back 0 = .ok (.iload_n 1, 1) := by decide +kernel
theorem dX11_back_1 : decode cX11_back 1 = .ok (.aload_n 0, 1) := by decide +kernel
theorem dX11_back_2 : decode cX11_back 2 = .ok (.getfield 27, 3) := by decide +kernel
theorem dX11_back_5 : decode cX11_back 5 = .ok (.getfield 123, 3) := by decide +kernel
theorem dX11_back_8 : decode cX11_back 8 = .ok (.getfield 154, 3) := by decide +kernel
theorem dX11_back_11 : decode cX11_back 11 = .ok (.invokestatic 90, 3) := by decide +kernel
theorem dX11_back_14 : decode cX11_back 14 = .ok (.aload_n 0, 1) := by decide +kernel
theorem dX11_back_15 : decode cX11_back 15 = .ok (.getfield 27, 3) := by decide +kernel
theorem dX11_back_18 : decode cX11_back 18 = .ok (.aload_n 0, 1) := by decide +kernel
theorem dX11_back_19 : decode cX11_back 19 = .ok (.getfield 27, 3) := by decide +kernel
theorem dX11_back_22 : decode cX11_back 22 = .ok (.getfield 123, 3) := by decide +kernel
theorem dX11_back_25 : decode cX11_back 25 = .ok (.getfield 157, 3) := by decide +kernel
theorem dX11_back_28 : decode cX11_back 28 = .ok (.iload_n 1, 1) := by decide +kernel
theorem dX11_back_29 : decode cX11_back 29 = .ok (.aaload, 1) := by decide +kernel
theorem dX11_back_30 : decode cX11_back 30 = .ok (.invokevirtual 335, 3) := by decide +kernel
theorem dX11_back_33 : decode cX11_back 33 = .ok (.ireturn, 1) := by decide +kernel
noncomputable def o_X11_back (F : Nat) (τ : cT) (n : Nat) (o : Nat) (s : cS) (a1 : Int32) : Option ((Int32 × cS) ⊕ (Nat × cS)) := (o_X11_needIndex τ n s a1 (s.1 (o + 37) 3)).bind fun x1 => (Sum.elim (fun y2 => if iL a1 80 then ((o_X2_payBack F τ n (o + 10) (o + 49 + 1 + a1.toNatClampNeg) s).bind fun x5 => (some (.inl (x5.1, x5.2)))) else none) (fun z3 => some (.inr (z3, s))) x1)
set_option maxHeartbeats 4000000 in
theorem t_X11_back {Γ : jg_G} {g : Nat → jg_C} (F : Nat) (τ : cT) (n : Nat) (o : Nat) (s : cS) (a1 : Int32) (hO : Sh τ n o) {x : Int32 × cS} (h : o_X11_back F τ n o s a1 = some (.inl x)) : jc Γ mX11_back 7 0 0 [some (.ref o), some (.int a1)] (ct_h g τ s, n) (.inl (some (.int x.1))) (ct_h g τ x.2, n) := by
  refine jc_of ?_
  rw [o_X11_back] at h
  refine jg_iload_n dX11_back_0 rfl ?_
  refine jg_aload_n dX11_back_1 rfl ?_
  refine cs_get (s := s) (w := .ref (o + 10)) fl_X11_27 dX11_back_2 hO.ob0 rfl ?_
  refine cs_get (s := s) (w := .ref (o + 37)) fl_X11_123 dX11_back_5 hO.1.ob0 rfl ?_
  refine cs_get (s := s) (w := .int (s.1 (o + 37) 3)) fl_X11_154 dX11_back_8 (hO.1.ob 27 (by decide) rfl) rfl ?_
  obtain ⟨x1, e_x1, h⟩ := bd_some h
  rcases x1 with y2 | z3
  · replace h := se_l h
    refine cs_callS (As := [.int a1, .int (s.1 (o + 37) 3)]) ks_X11_90 dX11_back_11 rfl (by decide) (Nat.le_of_ble_eq_true rfl) rfl (by decide) (Nat.le_of_ble_eq_true rfl) (t_X11_needIndex τ n s a1 (s.1 (o + 37) 3) e_x1) ?_
    refine jg_aload_n dX11_back_14 rfl ?_
    refine cs_get (s := s) (w := .ref (o + 10)) fl_X11_27 dX11_back_15 hO.ob0 rfl ?_
    refine jg_aload_n dX11_back_18 rfl ?_
    refine cs_get (s := s) (w := .ref (o + 10)) fl_X11_27 dX11_back_19 hO.ob0 rfl ?_
    refine cs_get (s := s) (w := .ref (o + 37)) fl_X11_123 dX11_back_22 hO.1.ob0 rfl ?_
    refine cs_get (s := s) (w := .ref (o + 49)) fl_X11_157 dX11_back_25 (hO.1.ob 27 (by decide) rfl) rfl ?_
    refine jg_iload_n dX11_back_28 rfl ?_
    obtain ⟨q4, h⟩ := gd_some h
    refine cs_ldr (s := s) (q := (o + 49)) (i := a1) (kd := 6) (by decide) dX11_back_29 (hO.1.ar 39 (by decide) rfl) q4 ?_
    obtain ⟨x5, e_x5, h⟩ := bd_some h
    refine cs_call (q := (o + 10)) (As := [.ref (o + 49 + 1 + a1.toNatClampNeg)]) kv_X11_335 dX11_back_30 hO.1.ob0 rfl rfl (by decide) (Nat.le_of_ble_eq_true rfl) rfl (by decide) (Nat.le_of_ble_eq_true rfl) (t_X2_payBack F τ n (o + 10) (o + 49 + 1 + a1.toNatClampNeg) s hO.1 (hO.1.ship q4.2) e_x5) ?_
    obtain rfl := Sum.inl.inj (Option.some.inj h)
    exact jg_ireturn dX11_back_33 rfl ⟨rfl, rfl⟩
  · replace h := se_r h
    cases h
set_option maxHeartbeats 4000000 in
theorem x_X11_back {Γ : jg_G} {g : Nat → jg_C} (F : Nat) (τ : cT) (n : Nat) (o : Nat) (s : cS) (a1 : Int32) (hO : Sh τ n o) (hn : n < 1000000) (hT : τ n = .inr (8, 0)) {z : Nat × cS} (h : o_X11_back F τ n o s a1 = some (.inr z)) : jc Γ mX11_back 7 1 6 [some (.ref o), some (.int a1)] (ct_h g τ s, n) (.inr (exn z.1)) (ct_h (gx g n) τ z.2, n + 1) := by
  refine jc_of ?_
  rw [o_X11_back] at h
  refine jg_iload_n dX11_back_0 rfl ?_
  refine jg_aload_n dX11_back_1 rfl ?_
  refine cs_get (s := s) (w := .ref (o + 10)) fl_X11_27 dX11_back_2 hO.ob0 rfl ?_
  refine cs_get (s := s) (w := .ref (o + 37)) fl_X11_123 dX11_back_5 hO.1.ob0 rfl ?_
  refine cs_get (s := s) (w := .int (s.1 (o + 37) 3)) fl_X11_154 dX11_back_8 (hO.1.ob 27 (by decide) rfl) rfl ?_
  obtain ⟨x1, e_x1, h⟩ := bd_some h
  rcases x1 with y2 | z3
  · replace h := se_l h
    refine cs_callS (As := [.int a1, .int (s.1 (o + 37) 3)]) ks_X11_90 dX11_back_11 rfl (by decide) (Nat.le_of_ble_eq_true rfl) rfl (by decide) (Nat.le_of_ble_eq_true rfl) (t_X11_needIndex τ n s a1 (s.1 (o + 37) 3) e_x1) ?_
    refine jg_aload_n dX11_back_14 rfl ?_
    refine cs_get (s := s) (w := .ref (o + 10)) fl_X11_27 dX11_back_15 hO.ob0 rfl ?_
    refine jg_aload_n dX11_back_18 rfl ?_
    refine cs_get (s := s) (w := .ref (o + 10)) fl_X11_27 dX11_back_19 hO.ob0 rfl ?_
    refine cs_get (s := s) (w := .ref (o + 37)) fl_X11_123 dX11_back_22 hO.1.ob0 rfl ?_
    refine cs_get (s := s) (w := .ref (o + 49)) fl_X11_157 dX11_back_25 (hO.1.ob 27 (by decide) rfl) rfl ?_
    refine jg_iload_n dX11_back_28 rfl ?_
    obtain ⟨q4, h⟩ := gd_some h
    refine cs_ldr (s := s) (q := (o + 49)) (i := a1) (kd := 6) (by decide) dX11_back_29 (hO.1.ar 39 (by decide) rfl) q4 ?_
    obtain ⟨x5, e_x5, h⟩ := bd_some h
    refine cs_call (q := (o + 10)) (As := [.ref (o + 49 + 1 + a1.toNatClampNeg)]) kv_X11_335 dX11_back_30 hO.1.ob0 rfl rfl (by decide) (Nat.le_of_ble_eq_true rfl) rfl (by decide) (Nat.le_of_ble_eq_true rfl) (t_X2_payBack F τ n (o + 10) (o + 49 + 1 + a1.toNatClampNeg) s hO.1 (hO.1.ship q4.2) e_x5) ?_
    cases h
  · replace h := se_r h
    obtain rfl := Sum.inr.inj (Option.some.inj h)
    exact jc_SX (As := [.int a1, .int (s.1 (o + 37) 3)]) ks_X11_90 dX11_back_11 rfl (by decide) (Nat.le_of_ble_eq_true rfl) rfl (by decide) (Nat.le_refl _) (Nat.le_refl _) (Nat.le_of_ble_eq_true rfl) (x_X11_needIndex τ n s a1 (s.1 (o + 37) 3) hn hT e_x1) ⟨rfl, rfl⟩
theorem dX11_pays_0 : decode cX11_pays 0 = .ok (.iload_n 1, 1) := by decide +kernel
theorem dX11_pays_1 : decode cX11_pays 1 = .ok (.aload_n 0, 1) := by decide +kernel
theorem dX11_pays_2 : decode cX11_pays 2 = .ok (.getfield 27, 3) := by decide +kernel
theorem dX11_pays_5 : decode cX11_pays 5 = .ok (.getfield 141, 3) := by decide +kernel
theorem dX11_pays_8 : decode cX11_pays 8 = .ok (.getfield 145, 3) := by decide +kernel
theorem dX11_pays_11 : decode cX11_pays 11 = .ok (.invokestatic 90, 3) := by decide +kernel
theorem dX11_pays_14 : decode cX11_pays 14 = .ok (.iload_n 2, 1) := by decide +kernel
theorem dX11_pays_15 : decode cX11_pays 15 = .ok (.tableswitch 93 0 4 #[33, 46, 59, 68, 80], 33) := by decide +kernel
theorem dX11_pays_48 : decode cX11_pays 48 = .ok (.aload_n 0, 1) := by decide +kernel
theorem dX11_pays_49 : decode cX11_pays 49 = .ok (.getfield 27, 3) := by decide +kernel
theorem dX11_pays_52 : decode cX11_pays 52 = .ok (.getfield 141, 3) := by decide +kernel
theorem dX11_pays_55 : decode cX11_pays 55 = .ok (.getfield 338, 3) := by decide +kernel
theorem dX11_pays_58 : decode cX11_pays 58 = .ok (.iload_n 1, 1) := by decide +kernel
theorem dX11_pays_59 : decode cX11_pays 59 = .ok (.iaload, 1) := by decide +kernel
theorem dX11_pays_60 : decode cX11_pays 60 = .ok (.ireturn, 1) := by decide +kernel
theorem dX11_pays_61 : decode cX11_pays 61 = .ok (.aload_n 0, 1) := by decide +kernel
theorem dX11_pays_62 : decode cX11_pays 62 = .ok (.getfield 27, 3) := by decide +kernel
theorem dX11_pays_65 : decode cX11_pays 65 = .ok (.getfield 141, 3) := by decide +kernel
theorem dX11_pays_68 : decode cX11_pays 68 = .ok (.getfield 341, 3) := by decide +kernel
theorem dX11_pays_71 : decode cX11_pays 71 = .ok (.iload_n 1, 1) := by decide +kernel
theorem dX11_pays_72 : decode cX11_pays 72 = .ok (.iaload, 1) := by decide +kernel
theorem dX11_pays_73 : decode cX11_pays 73 = .ok (.ireturn, 1) := by decide +kernel
theorem dX11_pays_74 : decode cX11_pays 74 = .ok (.aload_n 0, 1) := by decide +kernel
theorem dX11_pays_75 : decode cX11_pays 75 = .ok (.getfield 27, 3) := by decide +kernel
theorem dX11_pays_78 : decode cX11_pays 78 = .ok (.iload_n 1, 1) := by decide +kernel
theorem dX11_pays_79 : decode cX11_pays 79 = .ok (.invokevirtual 308, 3) := by decide +kernel
theorem dX11_pays_82 : decode cX11_pays 82 = .ok (.ireturn, 1) := by decide +kernel
theorem dX11_pays_83 : decode cX11_pays 83 = .ok (.aload_n 0, 1) := by decide +kernel
theorem dX11_pays_84 : decode cX11_pays 84 = .ok (.getfield 27, 3) := by decide +kernel
theorem dX11_pays_87 : decode cX11_pays 87 = .ok (.getfield 123, 3) := by decide +kernel
theorem dX11_pays_90 : decode cX11_pays 90 = .ok (.iload_n 1, 1) := by decide +kernel
theorem dX11_pays_91 : decode cX11_pays 91 = .ok (.invokevirtual 344, 3) := by decide +kernel
theorem dX11_pays_94 : decode cX11_pays 94 = .ok (.ireturn, 1) := by decide +kernel
theorem dX11_pays_95 : decode cX11_pays 95 = .ok (.aload_n 0, 1) := by decide +kernel
theorem dX11_pays_96 : decode cX11_pays 96 = .ok (.getfield 27, 3) := by decide +kernel
theorem dX11_pays_99 : decode cX11_pays 99 = .ok (.getfield 141, 3) := by decide +kernel
theorem dX11_pays_102 : decode cX11_pays 102 = .ok (.getfield 347, 3) := by decide +kernel
theorem dX11_pays_105 : decode cX11_pays 105 = .ok (.iload_n 1, 1) := by decide +kernel
theorem dX11_pays_106 : decode cX11_pays 106 = .ok (.iaload, 1) := by decide +kernel
theorem dX11_pays_107 : decode cX11_pays 107 = .ok (.ireturn, 1) := by decide +kernel
theorem dX11_pays_108 : decode cX11_pays 108 = .ok (.new 105, 3) := by decide +kernel
theorem dX11_pays_111 : decode cX11_pays 111 = .ok (.dup, 1) := by decide +kernel
theorem dX11_pays_112 : decode cX11_pays 112 = .ok (.ldc_w 350, 3) := by decide +kernel
theorem dX11_pays_115 : decode cX11_pays 115 = .ok (.invokespecial 109, 3) := by decide +kernel
theorem dX11_pays_118 : decode cX11_pays 118 = .ok (.athrow, 1) := by decide +kernel
noncomputable def o_X11_pays (F : Nat) (τ : cT) (n : Nat) (o : Nat) (s : cS) (a1 : Int32) (a2 : Int32) : Option ((Int32 × cS) ⊕ (Nat × cS)) := (o_X11_needIndex τ n s a1 (s.1 (o + 131) 6)).bind fun x1 => (Sum.elim (fun y2 => if a2 = nI 0 then (if iL a1 30 then (some (.inl (cg s (o + 132) a1, s))) else none) else (if a2 = nI 1 then (if iL a1 30 then (some (.inl (cg s (o + 133) a1, s))) else none) else (if a2 = nI 2 then ((o_X2_votesOf F τ n (o + 10) s a1).bind fun x9 => (some (.inl (x9.1, x9.2)))) else (if a2 = nI 3 then ((o_X5_countShipsOf F τ n (o + 10) s a1).bind fun x11 => (some (.inl (x11, s)))) else (if a2 = nI 4 then (if iL a1 30 then (some (.inl (cg s (o + 134) a1, s))) else none) else (some (.inr (4, s)))))))) (fun z3 => some (.inr (z3, s))) x1)
set_option maxHeartbeats 4000000 in
theorem t_X11_pays {Γ : jg_G} {g : Nat → jg_C} (F : Nat) (τ : cT) (n : Nat) (o : Nat) (s : cS) (a1 : Int32) (a2 : Int32) (hO : Sh τ n o) {x : Int32 × cS} (h : o_X11_pays F τ n o s a1 a2 = some (.inl x)) : jc Γ mX11_pays 7 0 0 [some (.ref o), some (.int a1), some (.int a2)] (ct_h g τ s, n) (.inl (some (.int x.1))) (ct_h g τ x.2, n) := by
  refine jc_of ?_
  rw [o_X11_pays] at h
  refine jg_iload_n dX11_pays_0 rfl ?_
  refine jg_aload_n dX11_pays_1 rfl ?_
  refine cs_get (s := s) (w := .ref (o + 10)) fl_X11_27 dX11_pays_2 hO.ob0 rfl ?_
  refine cs_get (s := s) (w := .ref (o + 131)) fl_X11_141 dX11_pays_5 hO.1.ob0 rfl ?_
  refine cs_get (s := s) (w := .int (s.1 (o + 131) 6)) fl_X11_145 dX11_pays_8 (hO.1.ob 121 (by decide) rfl) rfl ?_
  obtain ⟨x1, e_x1, h⟩ := bd_some h
  rcases x1 with y2 | z3
  · replace h := se_l h
    refine cs_callS (As := [.int a1, .int (s.1 (o + 131) 6)]) ks_X11_90 dX11_pays_11 rfl (by decide) (Nat.le_of_ble_eq_true rfl) rfl (by decide) (Nat.le_of_ble_eq_true rfl) (t_X11_needIndex τ n s a1 (s.1 (o + 131) 6) e_x1) ?_
    refine jg_iload_n dX11_pays_14 rfl ?_
    by_cases c4 : a2 = nI 0
    · replace h := it_t c4 h
      refine jg_tableIn (off := 33) (tgt := 48) dX11_pays_15 (by rw [c4]; decide) (by rw [c4]; decide) (by rw [c4]; rfl) (by decide) ?_
      refine jg_aload_n dX11_pays_48 rfl ?_
      refine cs_get (s := s) (w := .ref (o + 10)) fl_X11_27 dX11_pays_49 hO.ob0 rfl ?_
      refine cs_get (s := s) (w := .ref (o + 131)) fl_X11_141 dX11_pays_52 hO.1.ob0 rfl ?_
      refine cs_get (s := s) (w := .ref (o + 132)) fl_X11_338 dX11_pays_55 (hO.1.ob 121 (by decide) rfl) rfl ?_
      refine jg_iload_n dX11_pays_58 rfl ?_
      obtain ⟨q5, h⟩ := gd_some h
      refine cs_lda (s := s) (q := (o + 132)) (i := a1) dX11_pays_59 (hO.1.ar 122 (by decide) rfl) q5 ?_
      obtain rfl := Sum.inl.inj (Option.some.inj h)
      exact jg_ireturn dX11_pays_60 rfl ⟨rfl, rfl⟩
    replace h := it_f c4 h
    by_cases c6 : a2 = nI 1
    · replace h := it_t c6 h
      refine jg_tableIn (off := 46) (tgt := 61) dX11_pays_15 (by rw [c6]; decide) (by rw [c6]; decide) (by rw [c6]; rfl) (by decide) ?_
      refine jg_aload_n dX11_pays_61 rfl ?_
      refine cs_get (s := s) (w := .ref (o + 10)) fl_X11_27 dX11_pays_62 hO.ob0 rfl ?_
      refine cs_get (s := s) (w := .ref (o + 131)) fl_X11_141 dX11_pays_65 hO.1.ob0 rfl ?_
      refine cs_get (s := s) (w := .ref (o + 133)) fl_X11_341 dX11_pays_68 (hO.1.ob 121 (by decide) rfl) rfl ?_
      refine jg_iload_n dX11_pays_71 rfl ?_
      obtain ⟨q7, h⟩ := gd_some h
      refine cs_lda (s := s) (q := (o + 133)) (i := a1) dX11_pays_72 (hO.1.ar 123 (by decide) rfl) q7 ?_
      obtain rfl := Sum.inl.inj (Option.some.inj h)
      exact jg_ireturn dX11_pays_73 rfl ⟨rfl, rfl⟩
    replace h := it_f c6 h
    by_cases c8 : a2 = nI 2
    · replace h := it_t c8 h
      refine jg_tableIn (off := 59) (tgt := 74) dX11_pays_15 (by rw [c8]; decide) (by rw [c8]; decide) (by rw [c8]; rfl) (by decide) ?_
      refine jg_aload_n dX11_pays_74 rfl ?_
      refine cs_get (s := s) (w := .ref (o + 10)) fl_X11_27 dX11_pays_75 hO.ob0 rfl ?_
      refine jg_iload_n dX11_pays_78 rfl ?_
      obtain ⟨x9, e_x9, h⟩ := bd_some h
      refine cs_call (q := (o + 10)) (As := [.int a1]) kv_X11_308 dX11_pays_79 hO.1.ob0 rfl rfl (by decide) (Nat.le_of_ble_eq_true rfl) rfl (by decide) (Nat.le_of_ble_eq_true rfl) (t_X2_votesOf F τ n (o + 10) s a1 hO.1 e_x9) ?_
      obtain rfl := Sum.inl.inj (Option.some.inj h)
      exact jg_ireturn dX11_pays_82 rfl ⟨rfl, rfl⟩
    replace h := it_f c8 h
    by_cases c10 : a2 = nI 3
    · replace h := it_t c10 h
      refine jg_tableIn (off := 68) (tgt := 83) dX11_pays_15 (by rw [c10]; decide) (by rw [c10]; decide) (by rw [c10]; rfl) (by decide) ?_
      refine jg_aload_n dX11_pays_83 rfl ?_
      refine cs_get (s := s) (w := .ref (o + 10)) fl_X11_27 dX11_pays_84 hO.ob0 rfl ?_
      refine cs_get (s := s) (w := .ref (o + 37)) fl_X11_123 dX11_pays_87 hO.1.ob0 rfl ?_
      refine jg_iload_n dX11_pays_90 rfl ?_
      obtain ⟨x11, e_x11, h⟩ := bd_some h
      refine cs_call (q := (o + 37)) (As := [.int a1]) kv_X11_344 dX11_pays_91 (hO.1.ob 27 (by decide) rfl) rfl rfl (by decide) (Nat.le_of_ble_eq_true rfl) rfl (by decide) (Nat.le_of_ble_eq_true rfl) (t_X5_countShipsOf F τ n (o + 10) s a1 hO.1 e_x11) ?_
      obtain rfl := Sum.inl.inj (Option.some.inj h)
      exact jg_ireturn dX11_pays_94 rfl ⟨rfl, rfl⟩
    replace h := it_f c10 h
    by_cases c12 : a2 = nI 4
    · replace h := it_t c12 h
      refine jg_tableIn (off := 80) (tgt := 95) dX11_pays_15 (by rw [c12]; decide) (by rw [c12]; decide) (by rw [c12]; rfl) (by decide) ?_
      refine jg_aload_n dX11_pays_95 rfl ?_
      refine cs_get (s := s) (w := .ref (o + 10)) fl_X11_27 dX11_pays_96 hO.ob0 rfl ?_
      refine cs_get (s := s) (w := .ref (o + 131)) fl_X11_141 dX11_pays_99 hO.1.ob0 rfl ?_
      refine cs_get (s := s) (w := .ref (o + 134)) fl_X11_347 dX11_pays_102 (hO.1.ob 121 (by decide) rfl) rfl ?_
      refine jg_iload_n dX11_pays_105 rfl ?_
      obtain ⟨q13, h⟩ := gd_some h
      refine cs_lda (s := s) (q := (o + 134)) (i := a1) dX11_pays_106 (hO.1.ar 124 (by decide) rfl) q13 ?_
      obtain rfl := Sum.inl.inj (Option.some.inj h)
      exact jg_ireturn dX11_pays_107 rfl ⟨rfl, rfl⟩
    replace h := it_f c12 h
    refine jg_tableOut (tgt := 108) dX11_pays_15 (jt_outN 0 4 (a2) (fun k h1 h2 => by rcases (show k = 0 ∨ k = 1 ∨ k = 2 ∨ k = 3 ∨ k = 4 by omega) with rfl | rfl | rfl | rfl | rfl <;> assumption)) (by decide) ?_
    cases h
  · replace h := se_r h
    cases h
set_option maxHeartbeats 4000000 in
theorem x_X11_pays {Γ : jg_G} {g : Nat → jg_C} (F : Nat) (τ : cT) (n : Nat) (o : Nat) (s : cS) (a1 : Int32) (a2 : Int32) (hO : Sh τ n o) (hn : n < 1000000) (hT : τ n = .inr (8, 0)) {z : Nat × cS} (h : o_X11_pays F τ n o s a1 a2 = some (.inr z)) : jc Γ mX11_pays 7 1 6 [some (.ref o), some (.int a1), some (.int a2)] (ct_h g τ s, n) (.inr (exn z.1)) (ct_h (gx g n) τ z.2, n + 1) := by
  refine jc_of ?_
  rw [o_X11_pays] at h
  refine jg_iload_n dX11_pays_0 rfl ?_
  refine jg_aload_n dX11_pays_1 rfl ?_
  refine cs_get (s := s) (w := .ref (o + 10)) fl_X11_27 dX11_pays_2 hO.ob0 rfl ?_
  refine cs_get (s := s) (w := .ref (o + 131)) fl_X11_141 dX11_pays_5 hO.1.ob0 rfl ?_
  refine cs_get (s := s) (w := .int (s.1 (o + 131) 6)) fl_X11_145 dX11_pays_8 (hO.1.ob 121 (by decide) rfl) rfl ?_
  obtain ⟨x1, e_x1, h⟩ := bd_some h
  rcases x1 with y2 | z3
  · replace h := se_l h
    refine cs_callS (As := [.int a1, .int (s.1 (o + 131) 6)]) ks_X11_90 dX11_pays_11 rfl (by decide) (Nat.le_of_ble_eq_true rfl) rfl (by decide) (Nat.le_of_ble_eq_true rfl) (t_X11_needIndex τ n s a1 (s.1 (o + 131) 6) e_x1) ?_
    refine jg_iload_n dX11_pays_14 rfl ?_
    by_cases c4 : a2 = nI 0
    · replace h := it_t c4 h
      refine jg_tableIn (off := 33) (tgt := 48) dX11_pays_15 (by rw [c4]; decide) (by rw [c4]; decide) (by rw [c4]; rfl) (by decide) ?_
      refine jg_aload_n dX11_pays_48 rfl ?_
      refine cs_get (s := s) (w := .ref (o + 10)) fl_X11_27 dX11_pays_49 hO.ob0 rfl ?_
      refine cs_get (s := s) (w := .ref (o + 131)) fl_X11_141 dX11_pays_52 hO.1.ob0 rfl ?_
      refine cs_get (s := s) (w := .ref (o + 132)) fl_X11_338 dX11_pays_55 (hO.1.ob 121 (by decide) rfl) rfl ?_
      refine jg_iload_n dX11_pays_58 rfl ?_
      obtain ⟨q5, h⟩ := gd_some h
      refine cs_lda (s := s) (q := (o + 132)) (i := a1) dX11_pays_59 (hO.1.ar 122 (by decide) rfl) q5 ?_
      cases h
    replace h := it_f c4 h
    by_cases c6 : a2 = nI 1
    · replace h := it_t c6 h
      refine jg_tableIn (off := 46) (tgt := 61) dX11_pays_15 (by rw [c6]; decide) (by rw [c6]; decide) (by rw [c6]; rfl) (by decide) ?_
      refine jg_aload_n dX11_pays_61 rfl ?_
      refine cs_get (s := s) (w := .ref (o + 10)) fl_X11_27 dX11_pays_62 hO.ob0 rfl ?_
      refine cs_get (s := s) (w := .ref (o + 131)) fl_X11_141 dX11_pays_65 hO.1.ob0 rfl ?_
      refine cs_get (s := s) (w := .ref (o + 133)) fl_X11_341 dX11_pays_68 (hO.1.ob 121 (by decide) rfl) rfl ?_
      refine jg_iload_n dX11_pays_71 rfl ?_
      obtain ⟨q7, h⟩ := gd_some h
      refine cs_lda (s := s) (q := (o + 133)) (i := a1) dX11_pays_72 (hO.1.ar 123 (by decide) rfl) q7 ?_
      cases h
    replace h := it_f c6 h
    by_cases c8 : a2 = nI 2
    · replace h := it_t c8 h
      refine jg_tableIn (off := 59) (tgt := 74) dX11_pays_15 (by rw [c8]; decide) (by rw [c8]; decide) (by rw [c8]; rfl) (by decide) ?_
      refine jg_aload_n dX11_pays_74 rfl ?_
      refine cs_get (s := s) (w := .ref (o + 10)) fl_X11_27 dX11_pays_75 hO.ob0 rfl ?_
      refine jg_iload_n dX11_pays_78 rfl ?_
      obtain ⟨x9, e_x9, h⟩ := bd_some h
      refine cs_call (q := (o + 10)) (As := [.int a1]) kv_X11_308 dX11_pays_79 hO.1.ob0 rfl rfl (by decide) (Nat.le_of_ble_eq_true rfl) rfl (by decide) (Nat.le_of_ble_eq_true rfl) (t_X2_votesOf F τ n (o + 10) s a1 hO.1 e_x9) ?_
      cases h
    replace h := it_f c8 h
    by_cases c10 : a2 = nI 3
    · replace h := it_t c10 h
      refine jg_tableIn (off := 68) (tgt := 83) dX11_pays_15 (by rw [c10]; decide) (by rw [c10]; decide) (by rw [c10]; rfl) (by decide) ?_
      refine jg_aload_n dX11_pays_83 rfl ?_
      refine cs_get (s := s) (w := .ref (o + 10)) fl_X11_27 dX11_pays_84 hO.ob0 rfl ?_
      refine cs_get (s := s) (w := .ref (o + 37)) fl_X11_123 dX11_pays_87 hO.1.ob0 rfl ?_
      refine jg_iload_n dX11_pays_90 rfl ?_
      obtain ⟨x11, e_x11, h⟩ := bd_some h
      refine cs_call (q := (o + 37)) (As := [.int a1]) kv_X11_344 dX11_pays_91 (hO.1.ob 27 (by decide) rfl) rfl rfl (by decide) (Nat.le_of_ble_eq_true rfl) rfl (by decide) (Nat.le_of_ble_eq_true rfl) (t_X5_countShipsOf F τ n (o + 10) s a1 hO.1 e_x11) ?_
      cases h
    replace h := it_f c10 h
    by_cases c12 : a2 = nI 4
    · replace h := it_t c12 h
      refine jg_tableIn (off := 80) (tgt := 95) dX11_pays_15 (by rw [c12]; decide) (by rw [c12]; decide) (by rw [c12]; rfl) (by decide) ?_
      refine jg_aload_n dX11_pays_95 rfl ?_
      refine cs_get (s := s) (w := .ref (o + 10)) fl_X11_27 dX11_pays_96 hO.ob0 rfl ?_
      refine cs_get (s := s) (w := .ref (o + 131)) fl_X11_141 dX11_pays_99 hO.1.ob0 rfl ?_
      refine cs_get (s := s) (w := .ref (o + 134)) fl_X11_347 dX11_pays_102 (hO.1.ob 121 (by decide) rfl) rfl ?_
      refine jg_iload_n dX11_pays_105 rfl ?_
      obtain ⟨q13, h⟩ := gd_some h
      refine cs_lda (s := s) (q := (o + 134)) (i := a1) dX11_pays_106 (hO.1.ar 124 (by decide) rfl) q13 ?_
      cases h
    replace h := it_f c12 h
    refine jg_tableOut (tgt := 108) dX11_pays_15 (jt_outN 0 4 (a2) (fun k h1 h2 => by rcases (show k = 0 ∨ k = 1 ∨ k = 2 ∨ k = 3 ∨ k = 4 by omega) with rfl | rfl | rfl | rfl | rfl <;> assumption)) (by decide) ?_
    obtain rfl := Sum.inr.inj (Option.some.inj h)
    exact jg_nsW (i := 12) rfl ex_NSEE rfl dX11_pays_108 dX11_pays_111 dX11_pays_112 dX11_pays_115 dX11_pays_118 (Nat.le_refl _) (Nat.le_refl _) (by decide) (Nat.le_of_ble_eq_true rfl) hn ⟨rfl, gx_e hT⟩
  · replace h := se_r h
    obtain rfl := Sum.inr.inj (Option.some.inj h)
    exact jc_SX (As := [.int a1, .int (s.1 (o + 131) 6)]) ks_X11_90 dX11_pays_11 rfl (by decide) (Nat.le_of_ble_eq_true rfl) rfl (by decide) (Nat.le_refl _) (Nat.le_refl _) (Nat.le_of_ble_eq_true rfl) (x_X11_needIndex τ n s a1 (s.1 (o + 131) 6) hn hT e_x1) ⟨rfl, rfl⟩
theorem dX11_cash_0 : decode cX11_cash 0 = .ok (.iload_n 1, 1) := by decide +kernel
theorem dX11_cash_1 : decode cX11_cash 1 = .ok (.iconst 0, 1) := by decide +kernel
theorem dX11_cash_2 : decode cX11_cash 2 = .ok (.ldc 153, 2) := by decide +kernel
theorem dX11_cash_4 : decode cX11_cash 4 = .ok (.invokestatic 41, 3) := by decide +kernel
theorem dX11_cash_7 : decode cX11_cash 7 = .ok (.invokestatic 45, 3) := by decide +kernel
theorem dX11_cash_10 : decode cX11_cash 10 = .ok (.aload_n 0, 1) := by decide +kernel
theorem dX11_cash_11 : decode cX11_cash 11 = .ok (.getfield 27, 3) := by decide +kernel
theorem dX11_cash_14 : decode cX11_cash 14 = .ok (.getfield 141, 3) := by decide +kernel
theorem dX11_cash_17 : decode cX11_cash 17 = .ok (.aload_n 0, 1) := by decide +kernel
theorem dX11_cash_18 : decode cX11_cash 18 = .ok (.getfield 27, 3) := by decide +kernel
theorem dX11_cash_21 : decode cX11_cash 21 = .ok (.getfield 141, 3) := by decide +kernel
theorem dX11_cash_24 : decode cX11_cash 24 = .ok (.getfield 352, 3) := by decide +kernel
theorem dX11_cash_27 : decode cX11_cash 27 = .ok (.i2l, 1) := by decide +kernel
theorem dX11_cash_28 : decode cX11_cash 28 = .ok (.iload_n 1, 1) := by decide +kernel
theorem dX11_cash_29 : decode cX11_cash 29 = .ok (.i2l, 1) := by decide +kernel
theorem dX11_cash_30 : decode cX11_cash 30 = .ok (.ladd, 1) := by decide +kernel
theorem dX11_cash_31 : decode cX11_cash 31 = .ok (.invokestatic 355, 3) := by decide +kernel
theorem dX11_cash_34 : decode cX11_cash 34 = .ok (.putfield 352, 3) := by decide +kernel
theorem dX11_cash_37 : decode cX11_cash 37 = .ok (.aload_n 0, 1) := by decide +kernel
theorem dX11_cash_38 : decode cX11_cash 38 = .ok (.getfield 27, 3) := by decide +kernel
theorem dX11_cash_41 : decode cX11_cash 41 = .ok (.getfield 141, 3) := by decide +kernel
theorem dX11_cash_44 : decode cX11_cash 44 = .ok (.getfield 352, 3) := by decide +kernel
theorem dX11_cash_47 : decode cX11_cash 47 = .ok (.ireturn, 1) := by decide +kernel
noncomputable def o_X11_cash (τ : cT) (n : Nat) (o : Nat) (s : cS) (a1 : Int32) : Option ((Int32 × cS) ⊕ (Nat × cS)) := (o_X11_within τ n s a1 (nI 0) (nI 1000000)).bind fun x1 => ((o_X11_needArgument τ n s x1).bind fun x2 => (Sum.elim (fun y3 => (o_X11_capped τ n s (((s.1 (o + 131) 0).toInt64) + a1.toInt64)).bind fun x5 => (some (.inl ((cp s (o + 131) 0 x5).1 (o + 131) 0, cp s (o + 131) 0 x5)))) (fun z4 => some (.inr (z4, s))) x2))
set_option maxHeartbeats 4000000 in
theorem t_X11_cash {Γ : jg_G} {g : Nat → jg_C} (τ : cT) (n : Nat) (o : Nat) (s : cS) (a1 : Int32) (hO : Sh τ n o) {x : Int32 × cS} (h : o_X11_cash τ n o s a1 = some (.inl x)) : jc Γ mX11_cash 7 0 0 [some (.ref o), some (.int a1)] (ct_h g τ s, n) (.inl (some (.int x.1))) (ct_h g τ x.2, n) := by
  refine jc_of ?_
  rw [o_X11_cash] at h
  refine jg_iload_n dX11_cash_0 rfl ?_
  refine jg_iconst (v := nI 0) dX11_cash_1 (by decide) ?_
  refine jg_ldc kk_X11_153 dX11_cash_2 ?_
  rw [show (1000000 : Int32) = nI 1000000 from rfl]
  obtain ⟨x1, e_x1, h⟩ := bd_some h
  refine cs_callS (As := [.int a1, .int (nI 0), .int (nI 1000000)]) ks_X11_41 dX11_cash_4 rfl (by decide) (Nat.le_of_ble_eq_true rfl) rfl (by decide) (Nat.le_of_ble_eq_true rfl) (t_X11_within τ n s a1 (nI 0) (nI 1000000) e_x1) ?_
  obtain ⟨x2, e_x2, h⟩ := bd_some h
  rcases x2 with y3 | z4
  · replace h := se_l h
    refine cs_callS (As := [.int x1]) ks_X11_45 dX11_cash_7 rfl (by decide) (Nat.le_of_ble_eq_true rfl) rfl (by decide) (Nat.le_of_ble_eq_true rfl) (t_X11_needArgument τ n s x1 e_x2) ?_
    refine jg_aload_n dX11_cash_10 rfl ?_
    refine cs_get (s := s) (w := .ref (o + 10)) fl_X11_27 dX11_cash_11 hO.ob0 rfl ?_
    refine cs_get (s := s) (w := .ref (o + 131)) fl_X11_141 dX11_cash_14 hO.1.ob0 rfl ?_
    refine jg_aload_n dX11_cash_17 rfl ?_
    refine cs_get (s := s) (w := .ref (o + 10)) fl_X11_27 dX11_cash_18 hO.ob0 rfl ?_
    refine cs_get (s := s) (w := .ref (o + 131)) fl_X11_141 dX11_cash_21 hO.1.ob0 rfl ?_
    refine cs_get (s := s) (w := .int (s.1 (o + 131) 0)) fl_X11_352 dX11_cash_24 (hO.1.ob 121 (by decide) rfl) rfl ?_
    refine jg_i2l dX11_cash_27 ?_
    refine jg_iload_n dX11_cash_28 rfl ?_
    refine jg_i2l dX11_cash_29 ?_
    refine jg_ladd dX11_cash_30 ?_
    obtain ⟨x5, e_x5, h⟩ := bd_some h
    refine cs_callS (As := [.long (((s.1 (o + 131) 0).toInt64) + a1.toInt64)]) ks_X11_355 dX11_cash_31 rfl (by decide) (Nat.le_of_ble_eq_true rfl) rfl (by decide) (Nat.le_of_ble_eq_true rfl) (t_X11_capped τ n s (((s.1 (o + 131) 0).toInt64) + a1.toInt64) e_x5) ?_
    refine cs_put (s := s) (k := 0) (x := x5) fl_X11_352 dX11_cash_34 (hO.1.ob 121 (by decide) rfl) (ltb rfl) (rfl) rfl rfl ?_
    refine jg_aload_n dX11_cash_37 rfl ?_
    refine cs_get (s := (cp s (o + 131) 0 x5)) (w := .ref (o + 10)) fl_X11_27 dX11_cash_38 hO.ob0 rfl ?_
    refine cs_get (s := (cp s (o + 131) 0 x5)) (w := .ref (o + 131)) fl_X11_141 dX11_cash_41 hO.1.ob0 rfl ?_
    refine cs_get (s := (cp s (o + 131) 0 x5)) (w := .int ((cp s (o + 131) 0 x5).1 (o + 131) 0)) fl_X11_352 dX11_cash_44 (hO.1.ob 121 (by decide) rfl) rfl ?_
    obtain rfl := Sum.inl.inj (Option.some.inj h)
    exact jg_ireturn dX11_cash_47 rfl ⟨rfl, rfl⟩
  · replace h := se_r h
    cases h
set_option maxHeartbeats 4000000 in
theorem x_X11_cash {Γ : jg_G} {g : Nat → jg_C} (τ : cT) (n : Nat) (o : Nat) (s : cS) (a1 : Int32) (hO : Sh τ n o) (hn : n < 1000000) (hT : τ n = .inr (8, 0)) {z : Nat × cS} (h : o_X11_cash τ n o s a1 = some (.inr z)) : jc Γ mX11_cash 7 1 6 [some (.ref o), some (.int a1)] (ct_h g τ s, n) (.inr (exn z.1)) (ct_h (gx g n) τ z.2, n + 1) := by
  refine jc_of ?_
  rw [o_X11_cash] at h
  refine jg_iload_n dX11_cash_0 rfl ?_
  refine jg_iconst (v := nI 0) dX11_cash_1 (by decide) ?_
  refine jg_ldc kk_X11_153 dX11_cash_2 ?_
  rw [show (1000000 : Int32) = nI 1000000 from rfl]
  obtain ⟨x1, e_x1, h⟩ := bd_some h
  refine cs_callS (As := [.int a1, .int (nI 0), .int (nI 1000000)]) ks_X11_41 dX11_cash_4 rfl (by decide) (Nat.le_of_ble_eq_true rfl) rfl (by decide) (Nat.le_of_ble_eq_true rfl) (t_X11_within τ n s a1 (nI 0) (nI 1000000) e_x1) ?_
  obtain ⟨x2, e_x2, h⟩ := bd_some h
  rcases x2 with y3 | z4
  · replace h := se_l h
    refine cs_callS (As := [.int x1]) ks_X11_45 dX11_cash_7 rfl (by decide) (Nat.le_of_ble_eq_true rfl) rfl (by decide) (Nat.le_of_ble_eq_true rfl) (t_X11_needArgument τ n s x1 e_x2) ?_
    refine jg_aload_n dX11_cash_10 rfl ?_
    refine cs_get (s := s) (w := .ref (o + 10)) fl_X11_27 dX11_cash_11 hO.ob0 rfl ?_
    refine cs_get (s := s) (w := .ref (o + 131)) fl_X11_141 dX11_cash_14 hO.1.ob0 rfl ?_
    refine jg_aload_n dX11_cash_17 rfl ?_
    refine cs_get (s := s) (w := .ref (o + 10)) fl_X11_27 dX11_cash_18 hO.ob0 rfl ?_
    refine cs_get (s := s) (w := .ref (o + 131)) fl_X11_141 dX11_cash_21 hO.1.ob0 rfl ?_
    refine cs_get (s := s) (w := .int (s.1 (o + 131) 0)) fl_X11_352 dX11_cash_24 (hO.1.ob 121 (by decide) rfl) rfl ?_
    refine jg_i2l dX11_cash_27 ?_
    refine jg_iload_n dX11_cash_28 rfl ?_
    refine jg_i2l dX11_cash_29 ?_
    refine jg_ladd dX11_cash_30 ?_
    obtain ⟨x5, e_x5, h⟩ := bd_some h
    refine cs_callS (As := [.long (((s.1 (o + 131) 0).toInt64) + a1.toInt64)]) ks_X11_355 dX11_cash_31 rfl (by decide) (Nat.le_of_ble_eq_true rfl) rfl (by decide) (Nat.le_of_ble_eq_true rfl) (t_X11_capped τ n s (((s.1 (o + 131) 0).toInt64) + a1.toInt64) e_x5) ?_
    refine cs_put (s := s) (k := 0) (x := x5) fl_X11_352 dX11_cash_34 (hO.1.ob 121 (by decide) rfl) (ltb rfl) (rfl) rfl rfl ?_
    refine jg_aload_n dX11_cash_37 rfl ?_
    refine cs_get (s := (cp s (o + 131) 0 x5)) (w := .ref (o + 10)) fl_X11_27 dX11_cash_38 hO.ob0 rfl ?_
    refine cs_get (s := (cp s (o + 131) 0 x5)) (w := .ref (o + 131)) fl_X11_141 dX11_cash_41 hO.1.ob0 rfl ?_
    refine cs_get (s := (cp s (o + 131) 0 x5)) (w := .int ((cp s (o + 131) 0 x5).1 (o + 131) 0)) fl_X11_352 dX11_cash_44 (hO.1.ob 121 (by decide) rfl) rfl ?_
    cases h
  · replace h := se_r h
    obtain rfl := Sum.inr.inj (Option.some.inj h)
    exact jc_SX (As := [.int x1]) ks_X11_45 dX11_cash_7 rfl (by decide) (Nat.le_of_ble_eq_true rfl) rfl (by decide) (Nat.le_refl _) (Nat.le_refl _) (Nat.le_of_ble_eq_true rfl) (x_X11_needArgument τ n s x1 hn hT e_x2) ⟨rfl, rfl⟩
theorem dX11_bond_0 : decode cX11_bond 0 = .ok (.iload_n 1, 1) := by decide +kernel
theorem dX11_bond_1 : decode cX11_bond 1 = .ok (.iconst 1, 1) := by decide +kernel
theorem dX11_bond_2 : decode cX11_bond 2 = .ok (.ldc 153, 2) := by decide +kernel
theorem dX11_bond_4 : decode cX11_bond 4 = .ok (.invokestatic 41, 3) := by decide +kernel
theorem dX11_bond_7 : decode cX11_bond 7 = .ok (.ifCond .eq 18, 3) := by decide +kernel
theorem dX11_bond_10 : decode cX11_bond 10 = .ok (.iload_n 2, 1) := by decide +kernel
theorem dX11_bond_11 : decode cX11_bond 11 = .ok (.iconst 0, 1) := by decide +kernel
theorem dX11_bond_12 : decode cX11_bond 12 = .ok (.sipush 2000, 3) := by decide +kernel
theorem dX11_bond_15 : decode cX11_bond 15 = .ok (.invokestatic 41, 3) := by decide +kernel
theorem dX11_bond_18 : decode cX11_bond 18 = .ok (.ifCond .eq 7, 3) := by decide +kernel
theorem dX11_bond_21 : decode cX11_bond 21 = .ok (.iconst 1, 1) := by decide +kernel
theorem dX11_bond_22 : decode cX11_bond 22 = .ok (.goto 4, 3) := by decide +kernel
theorem dX11_bond_25 : decode cX11_bond 25 = .ok (.iconst 0, 1) := by decide +kernel
theorem dX11_bond_26 : decode cX11_bond 26 = .ok (.invokestatic 45, 3) := by decide +kernel
theorem dX11_bond_29 : decode cX11_bond 29 = .ok (.iload_n 3, 1) := by decide +kernel
theorem dX11_bond_30 : decode cX11_bond 30 = .ok (.iconst 0, 1) := by decide +kernel
theorem dX11_bond_31 : decode cX11_bond 31 = .ok (.bipush 9, 2) := by decide +kernel
theorem dX11_bond_33 : decode cX11_bond 33 = .ok (.invokestatic 41, 3) := by decide +kernel
theorem dX11_bond_36 : decode cX11_bond 36 = .ok (.ifCond .eq 18, 3) := by decide +kernel
theorem dX11_bond_39 : decode cX11_bond 39 = .ok (.iload 4, 2) := by decide +kernel
theorem dX11_bond_41 : decode cX11_bond 41 = .ok (.iconst 1, 1) := by decide +kernel
theorem dX11_bond_42 : decode cX11_bond 42 = .ok (.bipush 30, 2) := by decide +kernel
theorem dX11_bond_44 : decode cX11_bond 44 = .ok (.invokestatic 41, 3) := by decide +kernel
theorem dX11_bond_47 : decode cX11_bond 47 = .ok (.ifCond .eq 7, 3) := by decide +kernel
theorem dX11_bond_50 : decode cX11_bond 50 = .ok (.iconst 1, 1) := by decide +kernel
theorem dX11_bond_51 : decode cX11_bond 51 = .ok (.goto 4, 3) := by decide +kernel
theorem dX11_bond_54 : decode cX11_bond 54 = .ok (.iconst 0, 1) := by decide +kernel
theorem dX11_bond_55 : decode cX11_bond 55 = .ok (.invokestatic 45, 3) := by decide +kernel
theorem dX11_bond_58 : decode cX11_bond 58 = .ok (.aload_n 0, 1) := by decide +kernel
theorem dX11_bond_59 : decode cX11_bond 59 = .ok (.getfield 27, 3) := by decide +kernel
theorem dX11_bond_62 : decode cX11_bond 62 = .ok (.getfield 141, 3) := by decide +kernel
theorem dX11_bond_65 : decode cX11_bond 65 = .ok (.getfield 359, 3) := by decide +kernel
theorem dX11_bond_68 : decode cX11_bond 68 = .ok (.bipush 20, 2) := by decide +kernel
theorem dX11_bond_70 : decode cX11_bond 70 = .ok (.invokestatic 82, 3) := by decide +kernel
theorem dX11_bond_73 : decode cX11_bond 73 = .ok (.aload_n 0, 1) := by decide +kernel
theorem dX11_bond_74 : decode cX11_bond 74 = .ok (.getfield 27, 3) := by decide +kernel
theorem dX11_bond_77 : decode cX11_bond 77 = .ok (.getfield 141, 3) := by decide +kernel
theorem dX11_bond_80 : decode cX11_bond 80 = .ok (.aload_n 0, 1) := by decide +kernel
theorem dX11_bond_81 : decode cX11_bond 81 = .ok (.getfield 27, 3) := by decide +kernel
theorem dX11_bond_84 : decode cX11_bond 84 = .ok (.invokevirtual 362, 3) := by decide +kernel
theorem dX11_bond_87 : decode cX11_bond 87 = .ok (.invokevirtual 365, 3) := by decide +kernel
theorem dX11_bond_90 : decode cX11_bond 90 = .ok (.istore 5, 2) := by decide +kernel
theorem dX11_bond_92 : decode cX11_bond 92 = .ok (.iload_n 1, 1) := by decide +kernel
theorem dX11_bond_93 : decode cX11_bond 93 = .ok (.iload 5, 2) := by decide +kernel
theorem dX11_bond_95 : decode cX11_bond 95 = .ok (.iadd, 1) := by decide +kernel
theorem dX11_bond_96 : decode cX11_bond 96 = .ok (.aload_n 0, 1) := by decide +kernel
theorem dX11_bond_97 : decode cX11_bond 97 = .ok (.getfield 27, 3) := by decide +kernel
theorem dX11_bond_100 : decode cX11_bond 100 = .ok (.invokevirtual 179, 3) := by decide +kernel
theorem dX11_bond_103 : decode cX11_bond 103 = .ok (.bipush 7, 2) := by decide +kernel
theorem dX11_bond_105 : decode cX11_bond 105 = .ok (.iconst 0, 1) := by decide +kernel
theorem dX11_bond_106 : decode cX11_bond 106 = .ok (.invokevirtual 368, 3) := by decide +kernel
theorem dX11_bond_109 : decode cX11_bond 109 = .ok (.if_icmp .le 5, 3) := by decide +kernel
theorem dX11_bond_112 : decode cX11_bond 112 = .ok (.iconst (-1), 1) := by decide +kernel
theorem dX11_bond_113 : decode cX11_bond 113 = .ok (.ireturn, 1) := by decide +kernel
theorem dX11_bond_114 : decode cX11_bond 114 = .ok (.aload_n 0, 1) := by decide +kernel
theorem dX11_bond_115 : decode cX11_bond 115 = .ok (.getfield 27, 3) := by decide +kernel
theorem dX11_bond_118 : decode cX11_bond 118 = .ok (.getfield 141, 3) := by decide +kernel
theorem dX11_bond_121 : decode cX11_bond 121 = .ok (.iload_n 1, 1) := by decide +kernel
theorem dX11_bond_122 : decode cX11_bond 122 = .ok (.iload_n 2, 1) := by decide +kernel
theorem dX11_bond_123 : decode cX11_bond 123 = .ok (.iload_n 3, 1) := by decide +kernel
theorem dX11_bond_124 : decode cX11_bond 124 = .ok (.aload_n 0, 1) := by decide +kernel
theorem dX11_bond_125 : decode cX11_bond 125 = .ok (.getfield 27, 3) := by decide +kernel
theorem dX11_bond_128 : decode cX11_bond 128 = .ok (.invokevirtual 362, 3) := by decide +kernel
theorem dX11_bond_131 : decode cX11_bond 131 = .ok (.iload 4, 2) := by decide +kernel
theorem dX11_bond_133 : decode cX11_bond 133 = .ok (.iadd, 1) := by decide +kernel
theorem dX11_bond_134 : decode cX11_bond 134 = .ok (.iconst 1, 1) := by decide +kernel
theorem dX11_bond_135 : decode cX11_bond 135 = .ok (.isub, 1) := by decide +kernel
theorem dX11_bond_136 : decode cX11_bond 136 = .ok (.invokevirtual 371, 3) := by decide +kernel
theorem dX11_bond_139 : decode cX11_bond 139 = .ok (.ireturn, 1) := by decide +kernel
noncomputable def o_X11_bond (F : Nat) (τ : cT) (n : Nat) (o : Nat) (s : cS) (a1 : Int32) (a2 : Int32) (a3 : Int32) (a4 : Int32) : Option ((Int32 × cS) ⊕ (Nat × cS)) := (o_X11_within τ n s a1 (nI 1) (nI 1000000)).bind fun x1 => (if x1 = 0 then ((o_X11_needArgument τ n s (nI 0)).bind fun x3 => (Sum.elim (fun y4 => (o_X11_within τ n s a3 (nI 0) (nI 9)).bind fun x6 => (if x6 = 0 then ((o_X11_needArgument τ n s (nI 0)).bind fun x8 => (Sum.elim (fun y9 => (o_X11_needRoom τ n s (s.1 (o + 131) 13) (nI 20)).bind fun x11 => (Sum.elim (fun y12 => (o_X2_year τ n (o + 10) s).bind fun x14 => ((o_X6_borrowed F τ n (o + 10) s x14).bind fun x15 => ((o_X2_actOfToday F τ n (o + 10) s).bind fun x16 => (if acb τ n x16 = true then ((o_X0_lastNumber F τ n x16 s (nI 7) (nI 0)).bind fun x18 => (if (a1 + x15) ≤ x18 then ((o_X2_year τ n (o + 10) s).bind fun x20 => ((o_X6_sell τ n (o + 10) s a1 a2 a3 ((x20 + a4) - (nI 1))).bind fun x21 => (some (.inl (x21.1, x21.2))))) else (some (.inl ((-1), s))))) else none)))) (fun z13 => some (.inr (z13, s))) x11)) (fun z10 => some (.inr (z10, s))) x8)) else ((o_X11_within τ n s a4 (nI 1) (nI 30)).bind fun x22 => (if x22 = 0 then ((o_X11_needArgument τ n s (nI 0)).bind fun x24 => (Sum.elim (fun y25 => (o_X11_needRoom τ n s (s.1 (o + 131) 13) (nI 20)).bind fun x27 => (Sum.elim (fun y28 => (o_X2_year τ n (o + 10) s).bind fun x30 => ((o_X6_borrowed F τ n (o + 10) s x30).bind fun x31 => ((o_X2_actOfToday F τ n (o + 10) s).bind fun x32 => (if acb τ n x32 = true then ((o_X0_lastNumber F τ n x32 s (nI 7) (nI 0)).bind fun x34 => (if (a1 + x31) ≤ x34 then ((o_X2_year τ n (o + 10) s).bind fun x36 => ((o_X6_sell τ n (o + 10) s a1 a2 a3 ((x36 + a4) - (nI 1))).bind fun x37 => (some (.inl (x37.1, x37.2))))) else (some (.inl ((-1), s))))) else none)))) (fun z29 => some (.inr (z29, s))) x27)) (fun z26 => some (.inr (z26, s))) x24)) else ((o_X11_needArgument τ n s (nI 1)).bind fun x38 => (Sum.elim (fun y39 => (o_X11_needRoom τ n s (s.1 (o + 131) 13) (nI 20)).bind fun x41 => (Sum.elim (fun y42 => (o_X2_year τ n (o + 10) s).bind fun x44 => ((o_X6_borrowed F τ n (o + 10) s x44).bind fun x45 => ((o_X2_actOfToday F τ n (o + 10) s).bind fun x46 => (if acb τ n x46 = true then ((o_X0_lastNumber F τ n x46 s (nI 7) (nI 0)).bind fun x48 => (if (a1 + x45) ≤ x48 then ((o_X2_year τ n (o + 10) s).bind fun x50 => ((o_X6_sell τ n (o + 10) s a1 a2 a3 ((x50 + a4) - (nI 1))).bind fun x51 => (some (.inl (x51.1, x51.2))))) else (some (.inl ((-1), s))))) else none)))) (fun z43 => some (.inr (z43, s))) x41)) (fun z40 => some (.inr (z40, s))) x38)))))) (fun z5 => some (.inr (z5, s))) x3)) else ((o_X11_within τ n s a2 (nI 0) (nI 2000)).bind fun x52 => (if x52 = 0 then ((o_X11_needArgument τ n s (nI 0)).bind fun x54 => (Sum.elim (fun y55 => (o_X11_within τ n s a3 (nI 0) (nI 9)).bind fun x57 => (if x57 = 0 then ((o_X11_needArgument τ n s (nI 0)).bind fun x59 => (Sum.elim (fun y60 => (o_X11_needRoom τ n s (s.1 (o + 131) 13) (nI 20)).bind fun x62 => (Sum.elim (fun y63 => (o_X2_year τ n (o + 10) s).bind fun x65 => ((o_X6_borrowed F τ n (o + 10) s x65).bind fun x66 => ((o_X2_actOfToday F τ n (o + 10) s).bind fun x67 => (if acb τ n x67 = true then ((o_X0_lastNumber F τ n x67 s (nI 7) (nI 0)).bind fun x69 => (if (a1 + x66) ≤ x69 then ((o_X2_year τ n (o + 10) s).bind fun x71 => ((o_X6_sell τ n (o + 10) s a1 a2 a3 ((x71 + a4) - (nI 1))).bind fun x72 => (some (.inl (x72.1, x72.2))))) else (some (.inl ((-1), s))))) else none)))) (fun z64 => some (.inr (z64, s))) x62)) (fun z61 => some (.inr (z61, s))) x59)) else ((o_X11_within τ n s a4 (nI 1) (nI 30)).bind fun x73 => (if x73 = 0 then ((o_X11_needArgument τ n s (nI 0)).bind fun x75 => (Sum.elim (fun y76 => (o_X11_needRoom τ n s (s.1 (o + 131) 13) (nI 20)).bind fun x78 => (Sum.elim (fun y79 => (o_X2_year τ n (o + 10) s).bind fun x81 => ((o_X6_borrowed F τ n (o + 10) s x81).bind fun x82 => ((o_X2_actOfToday F τ n (o + 10) s).bind fun x83 => (if acb τ n x83 = true then ((o_X0_lastNumber F τ n x83 s (nI 7) (nI 0)).bind fun x85 => (if (a1 + x82) ≤ x85 then ((o_X2_year τ n (o + 10) s).bind fun x87 => ((o_X6_sell τ n (o + 10) s a1 a2 a3 ((x87 + a4) - (nI 1))).bind fun x88 => (some (.inl (x88.1, x88.2))))) else (some (.inl ((-1), s))))) else none)))) (fun z80 => some (.inr (z80, s))) x78)) (fun z77 => some (.inr (z77, s))) x75)) else ((o_X11_needArgument τ n s (nI 1)).bind fun x89 => (Sum.elim (fun y90 => (o_X11_needRoom τ n s (s.1 (o + 131) 13) (nI 20)).bind fun x92 => (Sum.elim (fun y93 => (o_X2_year τ n (o + 10) s).bind fun x95 => ((o_X6_borrowed F τ n (o + 10) s x95).bind fun x96 => ((o_X2_actOfToday F τ n (o + 10) s).bind fun x97 => (if acb τ n x97 = true then ((o_X0_lastNumber F τ n x97 s (nI 7) (nI 0)).bind fun x99 => (if (a1 + x96) ≤ x99 then ((o_X2_year τ n (o + 10) s).bind fun x101 => ((o_X6_sell τ n (o + 10) s a1 a2 a3 ((x101 + a4) - (nI 1))).bind fun x102 => (some (.inl (x102.1, x102.2))))) else (some (.inl ((-1), s))))) else none)))) (fun z94 => some (.inr (z94, s))) x92)) (fun z91 => some (.inr (z91, s))) x89)))))) (fun z56 => some (.inr (z56, s))) x54)) else ((o_X11_needArgument τ n s (nI 1)).bind fun x103 => (Sum.elim (fun y104 => (o_X11_within τ n s a3 (nI 0) (nI 9)).bind fun x106 => (if x106 = 0 then ((o_X11_needArgument τ n s (nI 0)).bind fun x108 => (Sum.elim (fun y109 => (o_X11_needRoom τ n s (s.1 (o + 131) 13) (nI 20)).bind fun x111 => (Sum.elim (fun y112 => (o_X2_year τ n (o + 10) s).bind fun x114 => ((o_X6_borrowed F τ n (o + 10) s x114).bind fun x115 => ((o_X2_actOfToday F τ n (o + 10) s).bind fun x116 => (if acb τ n x116 = true then ((o_X0_lastNumber F τ n x116 s (nI 7) (nI 0)).bind fun x118 => (if (a1 + x115) ≤ x118 then ((o_X2_year τ n (o + 10) s).bind fun x120 => ((o_X6_sell τ n (o + 10) s a1 a2 a3 ((x120 + a4) - (nI 1))).bind fun x121 => (some (.inl (x121.1, x121.2))))) else (some (.inl ((-1), s))))) else none)))) (fun z113 => some (.inr (z113, s))) x111)) (fun z110 => some (.inr (z110, s))) x108)) else ((o_X11_within τ n s a4 (nI 1) (nI 30)).bind fun x122 => (if x122 = 0 then ((o_X11_needArgument τ n s (nI 0)).bind fun x124 => (Sum.elim (fun y125 => (o_X11_needRoom τ n s (s.1 (o + 131) 13) (nI 20)).bind fun x127 => (Sum.elim (fun y128 => (o_X2_year τ n (o + 10) s).bind fun x130 => ((o_X6_borrowed F τ n (o + 10) s x130).bind fun x131 => ((o_X2_actOfToday F τ n (o + 10) s).bind fun x132 => (if acb τ n x132 = true then ((o_X0_lastNumber F τ n x132 s (nI 7) (nI 0)).bind fun x134 => (if (a1 + x131) ≤ x134 then ((o_X2_year τ n (o + 10) s).bind fun x136 => ((o_X6_sell τ n (o + 10) s a1 a2 a3 ((x136 + a4) - (nI 1))).bind fun x137 => (some (.inl (x137.1, x137.2))))) else (some (.inl ((-1), s))))) else none)))) (fun z129 => some (.inr (z129, s))) x127)) (fun z126 => some (.inr (z126, s))) x124)) else ((o_X11_needArgument τ n s (nI 1)).bind fun x138 => (Sum.elim (fun y139 => (o_X11_needRoom τ n s (s.1 (o + 131) 13) (nI 20)).bind fun x141 => (Sum.elim (fun y142 => (o_X2_year τ n (o + 10) s).bind fun x144 => ((o_X6_borrowed F τ n (o + 10) s x144).bind fun x145 => ((o_X2_actOfToday F τ n (o + 10) s).bind fun x146 => (if acb τ n x146 = true then ((o_X0_lastNumber F τ n x146 s (nI 7) (nI 0)).bind fun x148 => (if (a1 + x145) ≤ x148 then ((o_X2_year τ n (o + 10) s).bind fun x150 => ((o_X6_sell τ n (o + 10) s a1 a2 a3 ((x150 + a4) - (nI 1))).bind fun x151 => (some (.inl (x151.1, x151.2))))) else (some (.inl ((-1), s))))) else none)))) (fun z143 => some (.inr (z143, s))) x141)) (fun z140 => some (.inr (z140, s))) x138)))))) (fun z105 => some (.inr (z105, s))) x103)))))
set_option maxHeartbeats 4000000 in
theorem t_X11_bond {Γ : jg_G} {g : Nat → jg_C} (F : Nat) (τ : cT) (n : Nat) (o : Nat) (s : cS) (a1 : Int32) (a2 : Int32) (a3 : Int32) (a4 : Int32) (hO : Sh τ n o) {x : Int32 × cS} (h : o_X11_bond F τ n o s a1 a2 a3 a4 = some (.inl x)) : jc Γ mX11_bond 7 0 0 [some (.ref o), some (.int a1), some (.int a2), some (.int a3), some (.int a4), none] (ct_h g τ s, n) (.inl (some (.int x.1))) (ct_h g τ x.2, n) := by
  refine jc_of ?_
  rw [o_X11_bond] at h
  refine jg_iload_n dX11_bond_0 rfl ?_
  refine jg_iconst (v := nI 1) dX11_bond_1 (by decide) ?_
  refine jg_ldc kk_X11_153 dX11_bond_2 ?_
  rw [show (1000000 : Int32) = nI 1000000 from rfl]
  obtain ⟨x1, e_x1, h⟩ := bd_some h
  refine cs_callS (As := [.int a1, .int (nI 1), .int (nI 1000000)]) ks_X11_41 dX11_bond_4 rfl (by decide) (Nat.le_of_ble_eq_true rfl) rfl (by decide) (Nat.le_of_ble_eq_true rfl) (t_X11_within τ n s a1 (nI 1) (nI 1000000) e_x1) ?_
  refine jg_if_eq (x := x1) (tgt := 25) dX11_bond_7 (by decide) (fun c2 => ?_) (fun c2 => ?_)
  · replace h := it_t c2 h
    refine jg_iconst (v := nI 0) dX11_bond_25 (by decide) ?_
    obtain ⟨x3, e_x3, h⟩ := bd_some h
    rcases x3 with y4 | z5
    · replace h := se_l h
      refine cs_callS (As := [.int (nI 0)]) ks_X11_45 dX11_bond_26 rfl (by decide) (Nat.le_of_ble_eq_true rfl) rfl (by decide) (Nat.le_of_ble_eq_true rfl) (t_X11_needArgument τ n s (nI 0) e_x3) ?_
      refine jg_iload_n dX11_bond_29 rfl ?_
      refine jg_iconst (v := nI 0) dX11_bond_30 (by decide) ?_
      refine jg_bipush (v := nI 9) dX11_bond_31 (by decide) ?_
      obtain ⟨x6, e_x6, h⟩ := bd_some h
      refine cs_callS (As := [.int a3, .int (nI 0), .int (nI 9)]) ks_X11_41 dX11_bond_33 rfl (by decide) (Nat.le_of_ble_eq_true rfl) rfl (by decide) (Nat.le_of_ble_eq_true rfl) (t_X11_within τ n s a3 (nI 0) (nI 9) e_x6) ?_
      refine jg_if_eq (x := x6) (tgt := 54) dX11_bond_36 (by decide) (fun c7 => ?_) (fun c7 => ?_)
      · replace h := it_t c7 h
        refine jg_iconst (v := nI 0) dX11_bond_54 (by decide) ?_
        obtain ⟨x8, e_x8, h⟩ := bd_some h
        rcases x8 with y9 | z10
        · replace h := se_l h
          refine cs_callS (As := [.int (nI 0)]) ks_X11_45 dX11_bond_55 rfl (by decide) (Nat.le_of_ble_eq_true rfl) rfl (by decide) (Nat.le_of_ble_eq_true rfl) (t_X11_needArgument τ n s (nI 0) e_x8) ?_
          refine jg_aload_n dX11_bond_58 rfl ?_
          refine cs_get (s := s) (w := .ref (o + 10)) fl_X11_27 dX11_bond_59 hO.ob0 rfl ?_
          refine cs_get (s := s) (w := .ref (o + 131)) fl_X11_141 dX11_bond_62 hO.1.ob0 rfl ?_
          refine cs_get (s := s) (w := .int (s.1 (o + 131) 13)) fl_X11_359 dX11_bond_65 (hO.1.ob 121 (by decide) rfl) rfl ?_
          refine jg_bipush (v := nI 20) dX11_bond_68 (by decide) ?_
          obtain ⟨x11, e_x11, h⟩ := bd_some h
          rcases x11 with y12 | z13
          · replace h := se_l h
            refine cs_callS (As := [.int (s.1 (o + 131) 13), .int (nI 20)]) ks_X11_82 dX11_bond_70 rfl (by decide) (Nat.le_of_ble_eq_true rfl) rfl (by decide) (Nat.le_of_ble_eq_true rfl) (t_X11_needRoom τ n s (s.1 (o + 131) 13) (nI 20) e_x11) ?_
            refine jg_aload_n dX11_bond_73 rfl ?_
            refine cs_get (s := s) (w := .ref (o + 10)) fl_X11_27 dX11_bond_74 hO.ob0 rfl ?_
            refine cs_get (s := s) (w := .ref (o + 131)) fl_X11_141 dX11_bond_77 hO.1.ob0 rfl ?_
            refine jg_aload_n dX11_bond_80 rfl ?_
            refine cs_get (s := s) (w := .ref (o + 10)) fl_X11_27 dX11_bond_81 hO.ob0 rfl ?_
            obtain ⟨x14, e_x14, h⟩ := bd_some h
            refine cs_call (q := (o + 10)) (As := []) kv_X11_362 dX11_bond_84 hO.1.ob0 rfl rfl (by decide) (Nat.le_of_ble_eq_true rfl) rfl (by decide) (Nat.le_of_ble_eq_true rfl) (t_X2_year τ n (o + 10) s hO.1 e_x14) ?_
            obtain ⟨x15, e_x15, h⟩ := bd_some h
            refine cs_call (q := (o + 131)) (As := [.int x14]) kv_X11_365 dX11_bond_87 (hO.1.ob 121 (by decide) rfl) rfl rfl (by decide) (Nat.le_of_ble_eq_true rfl) rfl (by decide) (Nat.le_of_ble_eq_true rfl) (t_X6_borrowed F τ n (o + 10) s x14 hO.1 e_x15) ?_
            refine jg_istore (L' := [some (.ref o), some (.int a1), some (.int a2), some (.int a3), some (.int a4), some (.int x15)]) dX11_bond_90 (by decide) rfl ?_
            refine jg_iload_n dX11_bond_92 rfl ?_
            refine jg_iload dX11_bond_93 rfl ?_
            refine jg_iadd (x := a1) (y := x15) dX11_bond_95  ?_
            refine jg_aload_n dX11_bond_96 rfl ?_
            refine cs_get (s := s) (w := .ref (o + 10)) fl_X11_27 dX11_bond_97 hO.ob0 rfl ?_
            obtain ⟨x16, e_x16, h⟩ := bd_some h
            refine cs_call (q := (o + 10)) (As := []) kv_X11_179 dX11_bond_100 hO.1.ob0 rfl rfl (by decide) (Nat.le_of_ble_eq_true rfl) rfl (by decide) (Nat.le_of_ble_eq_true rfl) (t_X2_actOfToday F τ n (o + 10) s hO.1 e_x16) ?_
            obtain ⟨q17, h⟩ := gd_some h
            refine jg_bipush (v := nI 7) dX11_bond_103 (by decide) ?_
            refine jg_iconst (v := nI 0) dX11_bond_105 (by decide) ?_
            obtain ⟨x18, e_x18, h⟩ := bd_some h
            refine cs_call (q := x16) (As := [.int (nI 7), .int (nI 0)]) kv_X11_368 dX11_bond_106 (acb_ob q17) rfl rfl (by decide) (Nat.le_of_ble_eq_true rfl) rfl (by decide) (Nat.le_of_ble_eq_true rfl) (t_X0_lastNumber F τ n x16 s (nI 7) (nI 0) q17 e_x18) ?_
            refine jg_icmp_le (x := (a1 + x15)) (y := x18) (tgt := 114) dX11_bond_109 (by decide) (fun c19 => ?_) (fun c19 => ?_)
            · replace h := it_t c19 h
              refine jg_aload_n dX11_bond_114 rfl ?_
              refine cs_get (s := s) (w := .ref (o + 10)) fl_X11_27 dX11_bond_115 hO.ob0 rfl ?_
              refine cs_get (s := s) (w := .ref (o + 131)) fl_X11_141 dX11_bond_118 hO.1.ob0 rfl ?_
              refine jg_iload_n dX11_bond_121 rfl ?_
              refine jg_iload_n dX11_bond_122 rfl ?_
              refine jg_iload_n dX11_bond_123 rfl ?_
              refine jg_aload_n dX11_bond_124 rfl ?_
              refine cs_get (s := s) (w := .ref (o + 10)) fl_X11_27 dX11_bond_125 hO.ob0 rfl ?_
              obtain ⟨x20, e_x20, h⟩ := bd_some h
              refine cs_call (q := (o + 10)) (As := []) kv_X11_362 dX11_bond_128 hO.1.ob0 rfl rfl (by decide) (Nat.le_of_ble_eq_true rfl) rfl (by decide) (Nat.le_of_ble_eq_true rfl) (t_X2_year τ n (o + 10) s hO.1 e_x20) ?_
              refine jg_iload dX11_bond_131 rfl ?_
              refine jg_iadd (x := x20) (y := a4) dX11_bond_133  ?_
              refine jg_iconst (v := nI 1) dX11_bond_134 (by decide) ?_
              refine jg_isub (x := (x20 + a4)) (y := (nI 1)) dX11_bond_135  ?_
              obtain ⟨x21, e_x21, h⟩ := bd_some h
              refine cs_call (q := (o + 131)) (As := [.int a1, .int a2, .int a3, .int ((x20 + a4) - (nI 1))]) kv_X11_371 dX11_bond_136 (hO.1.ob 121 (by decide) rfl) rfl rfl (by decide) (Nat.le_of_ble_eq_true rfl) rfl (by decide) (Nat.le_of_ble_eq_true rfl) (t_X6_sell τ n (o + 10) s a1 a2 a3 ((x20 + a4) - (nI 1)) hO.1 e_x21) ?_
              obtain rfl := Sum.inl.inj (Option.some.inj h)
              exact jg_ireturn dX11_bond_139 rfl ⟨rfl, rfl⟩
            · replace h := it_f c19 h
              refine jg_iconst (v := (-1)) dX11_bond_112 (by decide) ?_
              obtain rfl := Sum.inl.inj (Option.some.inj h)
              exact jg_ireturn dX11_bond_113 rfl ⟨rfl, rfl⟩
          · replace h := se_r h
            cases h
        · replace h := se_r h
          cases h
      · replace h := it_f c7 h
        refine jg_iload dX11_bond_39 rfl ?_
        refine jg_iconst (v := nI 1) dX11_bond_41 (by decide) ?_
        refine jg_bipush (v := nI 30) dX11_bond_42 (by decide) ?_
        obtain ⟨x22, e_x22, h⟩ := bd_some h
        refine cs_callS (As := [.int a4, .int (nI 1), .int (nI 30)]) ks_X11_41 dX11_bond_44 rfl (by decide) (Nat.le_of_ble_eq_true rfl) rfl (by decide) (Nat.le_of_ble_eq_true rfl) (t_X11_within τ n s a4 (nI 1) (nI 30) e_x22) ?_
        refine jg_if_eq (x := x22) (tgt := 54) dX11_bond_47 (by decide) (fun c23 => ?_) (fun c23 => ?_)
        · replace h := it_t c23 h
          refine jg_iconst (v := nI 0) dX11_bond_54 (by decide) ?_
          obtain ⟨x24, e_x24, h⟩ := bd_some h
          rcases x24 with y25 | z26
          · replace h := se_l h
            refine cs_callS (As := [.int (nI 0)]) ks_X11_45 dX11_bond_55 rfl (by decide) (Nat.le_of_ble_eq_true rfl) rfl (by decide) (Nat.le_of_ble_eq_true rfl) (t_X11_needArgument τ n s (nI 0) e_x24) ?_
            refine jg_aload_n dX11_bond_58 rfl ?_
            refine cs_get (s := s) (w := .ref (o + 10)) fl_X11_27 dX11_bond_59 hO.ob0 rfl ?_
            refine cs_get (s := s) (w := .ref (o + 131)) fl_X11_141 dX11_bond_62 hO.1.ob0 rfl ?_
            refine cs_get (s := s) (w := .int (s.1 (o + 131) 13)) fl_X11_359 dX11_bond_65 (hO.1.ob 121 (by decide) rfl) rfl ?_
            refine jg_bipush (v := nI 20) dX11_bond_68 (by decide) ?_
            obtain ⟨x27, e_x27, h⟩ := bd_some h
            rcases x27 with y28 | z29
            · replace h := se_l h
              refine cs_callS (As := [.int (s.1 (o + 131) 13), .int (nI 20)]) ks_X11_82 dX11_bond_70 rfl (by decide) (Nat.le_of_ble_eq_true rfl) rfl (by decide) (Nat.le_of_ble_eq_true rfl) (t_X11_needRoom τ n s (s.1 (o + 131) 13) (nI 20) e_x27) ?_
              refine jg_aload_n dX11_bond_73 rfl ?_
              refine cs_get (s := s) (w := .ref (o + 10)) fl_X11_27 dX11_bond_74 hO.ob0 rfl ?_
              refine cs_get (s := s) (w := .ref (o + 131)) fl_X11_141 dX11_bond_77 hO.1.ob0 rfl ?_
              refine jg_aload_n dX11_bond_80 rfl ?_
              refine cs_get (s := s) (w := .ref (o + 10)) fl_X11_27 dX11_bond_81 hO.ob0 rfl ?_
              obtain ⟨x30, e_x30, h⟩ := bd_some h
              refine cs_call (q := (o + 10)) (As := []) kv_X11_362 dX11_bond_84 hO.1.ob0 rfl rfl (by decide) (Nat.le_of_ble_eq_true rfl) rfl (by decide) (Nat.le_of_ble_eq_true rfl) (t_X2_year τ n (o + 10) s hO.1 e_x30) ?_
              obtain ⟨x31, e_x31, h⟩ := bd_some h
              refine cs_call (q := (o + 131)) (As := [.int x30]) kv_X11_365 dX11_bond_87 (hO.1.ob 121 (by decide) rfl) rfl rfl (by decide) (Nat.le_of_ble_eq_true rfl) rfl (by decide) (Nat.le_of_ble_eq_true rfl) (t_X6_borrowed F τ n (o + 10) s x30 hO.1 e_x31) ?_
              refine jg_istore (L' := [some (.ref o), some (.int a1), some (.int a2), some (.int a3), some (.int a4), some (.int x31)]) dX11_bond_90 (by decide) rfl ?_
              refine jg_iload_n dX11_bond_92 rfl ?_
              refine jg_iload dX11_bond_93 rfl ?_
              refine jg_iadd (x := a1) (y := x31) dX11_bond_95  ?_
              refine jg_aload_n dX11_bond_96 rfl ?_
              refine cs_get (s := s) (w := .ref (o + 10)) fl_X11_27 dX11_bond_97 hO.ob0 rfl ?_
              obtain ⟨x32, e_x32, h⟩ := bd_some h
              refine cs_call (q := (o + 10)) (As := []) kv_X11_179 dX11_bond_100 hO.1.ob0 rfl rfl (by decide) (Nat.le_of_ble_eq_true rfl) rfl (by decide) (Nat.le_of_ble_eq_true rfl) (t_X2_actOfToday F τ n (o + 10) s hO.1 e_x32) ?_
              obtain ⟨q33, h⟩ := gd_some h
              refine jg_bipush (v := nI 7) dX11_bond_103 (by decide) ?_
              refine jg_iconst (v := nI 0) dX11_bond_105 (by decide) ?_
              obtain ⟨x34, e_x34, h⟩ := bd_some h
              refine cs_call (q := x32) (As := [.int (nI 7), .int (nI 0)]) kv_X11_368 dX11_bond_106 (acb_ob q33) rfl rfl (by decide) (Nat.le_of_ble_eq_true rfl) rfl (by decide) (Nat.le_of_ble_eq_true rfl) (t_X0_lastNumber F τ n x32 s (nI 7) (nI 0) q33 e_x34) ?_
              refine jg_icmp_le (x := (a1 + x31)) (y := x34) (tgt := 114) dX11_bond_109 (by decide) (fun c35 => ?_) (fun c35 => ?_)
              · replace h := it_t c35 h
                refine jg_aload_n dX11_bond_114 rfl ?_
                refine cs_get (s := s) (w := .ref (o + 10)) fl_X11_27 dX11_bond_115 hO.ob0 rfl ?_
                refine cs_get (s := s) (w := .ref (o + 131)) fl_X11_141 dX11_bond_118 hO.1.ob0 rfl ?_
                refine jg_iload_n dX11_bond_121 rfl ?_
                refine jg_iload_n dX11_bond_122 rfl ?_
                refine jg_iload_n dX11_bond_123 rfl ?_
                refine jg_aload_n dX11_bond_124 rfl ?_
                refine cs_get (s := s) (w := .ref (o + 10)) fl_X11_27 dX11_bond_125 hO.ob0 rfl ?_
                obtain ⟨x36, e_x36, h⟩ := bd_some h
                refine cs_call (q := (o + 10)) (As := []) kv_X11_362 dX11_bond_128 hO.1.ob0 rfl rfl (by decide) (Nat.le_of_ble_eq_true rfl) rfl (by decide) (Nat.le_of_ble_eq_true rfl) (t_X2_year τ n (o + 10) s hO.1 e_x36) ?_
                refine jg_iload dX11_bond_131 rfl ?_
                refine jg_iadd (x := x36) (y := a4) dX11_bond_133  ?_
                refine jg_iconst (v := nI 1) dX11_bond_134 (by decide) ?_
                refine jg_isub (x := (x36 + a4)) (y := (nI 1)) dX11_bond_135  ?_
                obtain ⟨x37, e_x37, h⟩ := bd_some h
                refine cs_call (q := (o + 131)) (As := [.int a1, .int a2, .int a3, .int ((x36 + a4) - (nI 1))]) kv_X11_371 dX11_bond_136 (hO.1.ob 121 (by decide) rfl) rfl rfl (by decide) (Nat.le_of_ble_eq_true rfl) rfl (by decide) (Nat.le_of_ble_eq_true rfl) (t_X6_sell τ n (o + 10) s a1 a2 a3 ((x36 + a4) - (nI 1)) hO.1 e_x37) ?_
                obtain rfl := Sum.inl.inj (Option.some.inj h)
                exact jg_ireturn dX11_bond_139 rfl ⟨rfl, rfl⟩
              · replace h := it_f c35 h
                refine jg_iconst (v := (-1)) dX11_bond_112 (by decide) ?_
                obtain rfl := Sum.inl.inj (Option.some.inj h)
                exact jg_ireturn dX11_bond_113 rfl ⟨rfl, rfl⟩
            · replace h := se_r h
              cases h
          · replace h := se_r h
            cases h
        · replace h := it_f c23 h
          refine jg_iconst (v := nI 1) dX11_bond_50 (by decide) ?_
          refine jg_goto (tgt := 55) dX11_bond_51 (by decide) ?_
          obtain ⟨x38, e_x38, h⟩ := bd_some h
          rcases x38 with y39 | z40
          · replace h := se_l h
            refine cs_callS (As := [.int (nI 1)]) ks_X11_45 dX11_bond_55 rfl (by decide) (Nat.le_of_ble_eq_true rfl) rfl (by decide) (Nat.le_of_ble_eq_true rfl) (t_X11_needArgument τ n s (nI 1) e_x38) ?_
            refine jg_aload_n dX11_bond_58 rfl ?_
            refine cs_get (s := s) (w := .ref (o + 10)) fl_X11_27 dX11_bond_59 hO.ob0 rfl ?_
            refine cs_get (s := s) (w := .ref (o + 131)) fl_X11_141 dX11_bond_62 hO.1.ob0 rfl ?_
            refine cs_get (s := s) (w := .int (s.1 (o + 131) 13)) fl_X11_359 dX11_bond_65 (hO.1.ob 121 (by decide) rfl) rfl ?_
            refine jg_bipush (v := nI 20) dX11_bond_68 (by decide) ?_
            obtain ⟨x41, e_x41, h⟩ := bd_some h
            rcases x41 with y42 | z43
            · replace h := se_l h
              refine cs_callS (As := [.int (s.1 (o + 131) 13), .int (nI 20)]) ks_X11_82 dX11_bond_70 rfl (by decide) (Nat.le_of_ble_eq_true rfl) rfl (by decide) (Nat.le_of_ble_eq_true rfl) (t_X11_needRoom τ n s (s.1 (o + 131) 13) (nI 20) e_x41) ?_
              refine jg_aload_n dX11_bond_73 rfl ?_
              refine cs_get (s := s) (w := .ref (o + 10)) fl_X11_27 dX11_bond_74 hO.ob0 rfl ?_
              refine cs_get (s := s) (w := .ref (o + 131)) fl_X11_141 dX11_bond_77 hO.1.ob0 rfl ?_
              refine jg_aload_n dX11_bond_80 rfl ?_
              refine cs_get (s := s) (w := .ref (o + 10)) fl_X11_27 dX11_bond_81 hO.ob0 rfl ?_
              obtain ⟨x44, e_x44, h⟩ := bd_some h
              refine cs_call (q := (o + 10)) (As := []) kv_X11_362 dX11_bond_84 hO.1.ob0 rfl rfl (by decide) (Nat.le_of_ble_eq_true rfl) rfl (by decide) (Nat.le_of_ble_eq_true rfl) (t_X2_year τ n (o + 10) s hO.1 e_x44) ?_
              obtain ⟨x45, e_x45, h⟩ := bd_some h
              refine cs_call (q := (o + 131)) (As := [.int x44]) kv_X11_365 dX11_bond_87 (hO.1.ob 121 (by decide) rfl) rfl rfl (by decide) (Nat.le_of_ble_eq_true rfl) rfl (by decide) (Nat.le_of_ble_eq_true rfl) (t_X6_borrowed F τ n (o + 10) s x44 hO.1 e_x45) ?_
              refine jg_istore (L' := [some (.ref o), some (.int a1), some (.int a2), some (.int a3), some (.int a4), some (.int x45)]) dX11_bond_90 (by decide) rfl ?_
              refine jg_iload_n dX11_bond_92 rfl ?_
              refine jg_iload dX11_bond_93 rfl ?_
              refine jg_iadd (x := a1) (y := x45) dX11_bond_95  ?_
              refine jg_aload_n dX11_bond_96 rfl ?_
              refine cs_get (s := s) (w := .ref (o + 10)) fl_X11_27 dX11_bond_97 hO.ob0 rfl ?_
              obtain ⟨x46, e_x46, h⟩ := bd_some h
              refine cs_call (q := (o + 10)) (As := []) kv_X11_179 dX11_bond_100 hO.1.ob0 rfl rfl (by decide) (Nat.le_of_ble_eq_true rfl) rfl (by decide) (Nat.le_of_ble_eq_true rfl) (t_X2_actOfToday F τ n (o + 10) s hO.1 e_x46) ?_
              obtain ⟨q47, h⟩ := gd_some h
              refine jg_bipush (v := nI 7) dX11_bond_103 (by decide) ?_
              refine jg_iconst (v := nI 0) dX11_bond_105 (by decide) ?_
              obtain ⟨x48, e_x48, h⟩ := bd_some h
              refine cs_call (q := x46) (As := [.int (nI 7), .int (nI 0)]) kv_X11_368 dX11_bond_106 (acb_ob q47) rfl rfl (by decide) (Nat.le_of_ble_eq_true rfl) rfl (by decide) (Nat.le_of_ble_eq_true rfl) (t_X0_lastNumber F τ n x46 s (nI 7) (nI 0) q47 e_x48) ?_
              refine jg_icmp_le (x := (a1 + x45)) (y := x48) (tgt := 114) dX11_bond_109 (by decide) (fun c49 => ?_) (fun c49 => ?_)
              · replace h := it_t c49 h
                refine jg_aload_n dX11_bond_114 rfl ?_
                refine cs_get (s := s) (w := .ref (o + 10)) fl_X11_27 dX11_bond_115 hO.ob0 rfl ?_
                refine cs_get (s := s) (w := .ref (o + 131)) fl_X11_141 dX11_bond_118 hO.1.ob0 rfl ?_
                refine jg_iload_n dX11_bond_121 rfl ?_
                refine jg_iload_n dX11_bond_122 rfl ?_
                refine jg_iload_n dX11_bond_123 rfl ?_
                refine jg_aload_n dX11_bond_124 rfl ?_
                refine cs_get (s := s) (w := .ref (o + 10)) fl_X11_27 dX11_bond_125 hO.ob0 rfl ?_
                obtain ⟨x50, e_x50, h⟩ := bd_some h
                refine cs_call (q := (o + 10)) (As := []) kv_X11_362 dX11_bond_128 hO.1.ob0 rfl rfl (by decide) (Nat.le_of_ble_eq_true rfl) rfl (by decide) (Nat.le_of_ble_eq_true rfl) (t_X2_year τ n (o + 10) s hO.1 e_x50) ?_
                refine jg_iload dX11_bond_131 rfl ?_
                refine jg_iadd (x := x50) (y := a4) dX11_bond_133  ?_
                refine jg_iconst (v := nI 1) dX11_bond_134 (by decide) ?_
                refine jg_isub (x := (x50 + a4)) (y := (nI 1)) dX11_bond_135  ?_
                obtain ⟨x51, e_x51, h⟩ := bd_some h
                refine cs_call (q := (o + 131)) (As := [.int a1, .int a2, .int a3, .int ((x50 + a4) - (nI 1))]) kv_X11_371 dX11_bond_136 (hO.1.ob 121 (by decide) rfl) rfl rfl (by decide) (Nat.le_of_ble_eq_true rfl) rfl (by decide) (Nat.le_of_ble_eq_true rfl) (t_X6_sell τ n (o + 10) s a1 a2 a3 ((x50 + a4) - (nI 1)) hO.1 e_x51) ?_
                obtain rfl := Sum.inl.inj (Option.some.inj h)
                exact jg_ireturn dX11_bond_139 rfl ⟨rfl, rfl⟩
              · replace h := it_f c49 h
                refine jg_iconst (v := (-1)) dX11_bond_112 (by decide) ?_
                obtain rfl := Sum.inl.inj (Option.some.inj h)
                exact jg_ireturn dX11_bond_113 rfl ⟨rfl, rfl⟩
            · replace h := se_r h
              cases h
          · replace h := se_r h
            cases h
    · replace h := se_r h
      cases h
  · replace h := it_f c2 h
    refine jg_iload_n dX11_bond_10 rfl ?_
    refine jg_iconst (v := nI 0) dX11_bond_11 (by decide) ?_
    refine jg_sipush (v := nI 2000) dX11_bond_12 (by decide) ?_
    obtain ⟨x52, e_x52, h⟩ := bd_some h
    refine cs_callS (As := [.int a2, .int (nI 0), .int (nI 2000)]) ks_X11_41 dX11_bond_15 rfl (by decide) (Nat.le_of_ble_eq_true rfl) rfl (by decide) (Nat.le_of_ble_eq_true rfl) (t_X11_within τ n s a2 (nI 0) (nI 2000) e_x52) ?_
    refine jg_if_eq (x := x52) (tgt := 25) dX11_bond_18 (by decide) (fun c53 => ?_) (fun c53 => ?_)
    · replace h := it_t c53 h
      refine jg_iconst (v := nI 0) dX11_bond_25 (by decide) ?_
      obtain ⟨x54, e_x54, h⟩ := bd_some h
      rcases x54 with y55 | z56
      · replace h := se_l h
        refine cs_callS (As := [.int (nI 0)]) ks_X11_45 dX11_bond_26 rfl (by decide) (Nat.le_of_ble_eq_true rfl) rfl (by decide) (Nat.le_of_ble_eq_true rfl) (t_X11_needArgument τ n s (nI 0) e_x54) ?_
        refine jg_iload_n dX11_bond_29 rfl ?_
        refine jg_iconst (v := nI 0) dX11_bond_30 (by decide) ?_
        refine jg_bipush (v := nI 9) dX11_bond_31 (by decide) ?_
        obtain ⟨x57, e_x57, h⟩ := bd_some h
        refine cs_callS (As := [.int a3, .int (nI 0), .int (nI 9)]) ks_X11_41 dX11_bond_33 rfl (by decide) (Nat.le_of_ble_eq_true rfl) rfl (by decide) (Nat.le_of_ble_eq_true rfl) (t_X11_within τ n s a3 (nI 0) (nI 9) e_x57) ?_
        refine jg_if_eq (x := x57) (tgt := 54) dX11_bond_36 (by decide) (fun c58 => ?_) (fun c58 => ?_)
        · replace h := it_t c58 h
          refine jg_iconst (v := nI 0) dX11_bond_54 (by decide) ?_
          obtain ⟨x59, e_x59, h⟩ := bd_some h
          rcases x59 with y60 | z61
          · replace h := se_l h
            refine cs_callS (As := [.int (nI 0)]) ks_X11_45 dX11_bond_55 rfl (by decide) (Nat.le_of_ble_eq_true rfl) rfl (by decide) (Nat.le_of_ble_eq_true rfl) (t_X11_needArgument τ n s (nI 0) e_x59) ?_
            refine jg_aload_n dX11_bond_58 rfl ?_
            refine cs_get (s := s) (w := .ref (o + 10)) fl_X11_27 dX11_bond_59 hO.ob0 rfl ?_
            refine cs_get (s := s) (w := .ref (o + 131)) fl_X11_141 dX11_bond_62 hO.1.ob0 rfl ?_
            refine cs_get (s := s) (w := .int (s.1 (o + 131) 13)) fl_X11_359 dX11_bond_65 (hO.1.ob 121 (by decide) rfl) rfl ?_
            refine jg_bipush (v := nI 20) dX11_bond_68 (by decide) ?_
            obtain ⟨x62, e_x62, h⟩ := bd_some h
            rcases x62 with y63 | z64
            · replace h := se_l h
              refine cs_callS (As := [.int (s.1 (o + 131) 13), .int (nI 20)]) ks_X11_82 dX11_bond_70 rfl (by decide) (Nat.le_of_ble_eq_true rfl) rfl (by decide) (Nat.le_of_ble_eq_true rfl) (t_X11_needRoom τ n s (s.1 (o + 131) 13) (nI 20) e_x62) ?_
              refine jg_aload_n dX11_bond_73 rfl ?_
              refine cs_get (s := s) (w := .ref (o + 10)) fl_X11_27 dX11_bond_74 hO.ob0 rfl ?_
              refine cs_get (s := s) (w := .ref (o + 131)) fl_X11_141 dX11_bond_77 hO.1.ob0 rfl ?_
              refine jg_aload_n dX11_bond_80 rfl ?_
              refine cs_get (s := s) (w := .ref (o + 10)) fl_X11_27 dX11_bond_81 hO.ob0 rfl ?_
              obtain ⟨x65, e_x65, h⟩ := bd_some h
              refine cs_call (q := (o + 10)) (As := []) kv_X11_362 dX11_bond_84 hO.1.ob0 rfl rfl (by decide) (Nat.le_of_ble_eq_true rfl) rfl (by decide) (Nat.le_of_ble_eq_true rfl) (t_X2_year τ n (o + 10) s hO.1 e_x65) ?_
              obtain ⟨x66, e_x66, h⟩ := bd_some h
              refine cs_call (q := (o + 131)) (As := [.int x65]) kv_X11_365 dX11_bond_87 (hO.1.ob 121 (by decide) rfl) rfl rfl (by decide) (Nat.le_of_ble_eq_true rfl) rfl (by decide) (Nat.le_of_ble_eq_true rfl) (t_X6_borrowed F τ n (o + 10) s x65 hO.1 e_x66) ?_
              refine jg_istore (L' := [some (.ref o), some (.int a1), some (.int a2), some (.int a3), some (.int a4), some (.int x66)]) dX11_bond_90 (by decide) rfl ?_
              refine jg_iload_n dX11_bond_92 rfl ?_
              refine jg_iload dX11_bond_93 rfl ?_
              refine jg_iadd (x := a1) (y := x66) dX11_bond_95  ?_
              refine jg_aload_n dX11_bond_96 rfl ?_
              refine cs_get (s := s) (w := .ref (o + 10)) fl_X11_27 dX11_bond_97 hO.ob0 rfl ?_
              obtain ⟨x67, e_x67, h⟩ := bd_some h
              refine cs_call (q := (o + 10)) (As := []) kv_X11_179 dX11_bond_100 hO.1.ob0 rfl rfl (by decide) (Nat.le_of_ble_eq_true rfl) rfl (by decide) (Nat.le_of_ble_eq_true rfl) (t_X2_actOfToday F τ n (o + 10) s hO.1 e_x67) ?_
              obtain ⟨q68, h⟩ := gd_some h
              refine jg_bipush (v := nI 7) dX11_bond_103 (by decide) ?_
              refine jg_iconst (v := nI 0) dX11_bond_105 (by decide) ?_
              obtain ⟨x69, e_x69, h⟩ := bd_some h
              refine cs_call (q := x67) (As := [.int (nI 7), .int (nI 0)]) kv_X11_368 dX11_bond_106 (acb_ob q68) rfl rfl (by decide) (Nat.le_of_ble_eq_true rfl) rfl (by decide) (Nat.le_of_ble_eq_true rfl) (t_X0_lastNumber F τ n x67 s (nI 7) (nI 0) q68 e_x69) ?_
              refine jg_icmp_le (x := (a1 + x66)) (y := x69) (tgt := 114) dX11_bond_109 (by decide) (fun c70 => ?_) (fun c70 => ?_)
              · replace h := it_t c70 h
                refine jg_aload_n dX11_bond_114 rfl ?_
                refine cs_get (s := s) (w := .ref (o + 10)) fl_X11_27 dX11_bond_115 hO.ob0 rfl ?_
                refine cs_get (s := s) (w := .ref (o + 131)) fl_X11_141 dX11_bond_118 hO.1.ob0 rfl ?_
                refine jg_iload_n dX11_bond_121 rfl ?_
                refine jg_iload_n dX11_bond_122 rfl ?_
                refine jg_iload_n dX11_bond_123 rfl ?_
                refine jg_aload_n dX11_bond_124 rfl ?_
                refine cs_get (s := s) (w := .ref (o + 10)) fl_X11_27 dX11_bond_125 hO.ob0 rfl ?_
                obtain ⟨x71, e_x71, h⟩ := bd_some h
                refine cs_call (q := (o + 10)) (As := []) kv_X11_362 dX11_bond_128 hO.1.ob0 rfl rfl (by decide) (Nat.le_of_ble_eq_true rfl) rfl (by decide) (Nat.le_of_ble_eq_true rfl) (t_X2_year τ n (o + 10) s hO.1 e_x71) ?_
                refine jg_iload dX11_bond_131 rfl ?_
                refine jg_iadd (x := x71) (y := a4) dX11_bond_133  ?_
                refine jg_iconst (v := nI 1) dX11_bond_134 (by decide) ?_
                refine jg_isub (x := (x71 + a4)) (y := (nI 1)) dX11_bond_135  ?_
                obtain ⟨x72, e_x72, h⟩ := bd_some h
                refine cs_call (q := (o + 131)) (As := [.int a1, .int a2, .int a3, .int ((x71 + a4) - (nI 1))]) kv_X11_371 dX11_bond_136 (hO.1.ob 121 (by decide) rfl) rfl rfl (by decide) (Nat.le_of_ble_eq_true rfl) rfl (by decide) (Nat.le_of_ble_eq_true rfl) (t_X6_sell τ n (o + 10) s a1 a2 a3 ((x71 + a4) - (nI 1)) hO.1 e_x72) ?_
                obtain rfl := Sum.inl.inj (Option.some.inj h)
                exact jg_ireturn dX11_bond_139 rfl ⟨rfl, rfl⟩
              · replace h := it_f c70 h
                refine jg_iconst (v := (-1)) dX11_bond_112 (by decide) ?_
                obtain rfl := Sum.inl.inj (Option.some.inj h)
                exact jg_ireturn dX11_bond_113 rfl ⟨rfl, rfl⟩
            · replace h := se_r h
              cases h
          · replace h := se_r h
            cases h
        · replace h := it_f c58 h
          refine jg_iload dX11_bond_39 rfl ?_
          refine jg_iconst (v := nI 1) dX11_bond_41 (by decide) ?_
          refine jg_bipush (v := nI 30) dX11_bond_42 (by decide) ?_
          obtain ⟨x73, e_x73, h⟩ := bd_some h
          refine cs_callS (As := [.int a4, .int (nI 1), .int (nI 30)]) ks_X11_41 dX11_bond_44 rfl (by decide) (Nat.le_of_ble_eq_true rfl) rfl (by decide) (Nat.le_of_ble_eq_true rfl) (t_X11_within τ n s a4 (nI 1) (nI 30) e_x73) ?_
          refine jg_if_eq (x := x73) (tgt := 54) dX11_bond_47 (by decide) (fun c74 => ?_) (fun c74 => ?_)
          · replace h := it_t c74 h
            refine jg_iconst (v := nI 0) dX11_bond_54 (by decide) ?_
            obtain ⟨x75, e_x75, h⟩ := bd_some h
            rcases x75 with y76 | z77
            · replace h := se_l h
              refine cs_callS (As := [.int (nI 0)]) ks_X11_45 dX11_bond_55 rfl (by decide) (Nat.le_of_ble_eq_true rfl) rfl (by decide) (Nat.le_of_ble_eq_true rfl) (t_X11_needArgument τ n s (nI 0) e_x75) ?_
              refine jg_aload_n dX11_bond_58 rfl ?_
              refine cs_get (s := s) (w := .ref (o + 10)) fl_X11_27 dX11_bond_59 hO.ob0 rfl ?_
              refine cs_get (s := s) (w := .ref (o + 131)) fl_X11_141 dX11_bond_62 hO.1.ob0 rfl ?_
              refine cs_get (s := s) (w := .int (s.1 (o + 131) 13)) fl_X11_359 dX11_bond_65 (hO.1.ob 121 (by decide) rfl) rfl ?_
              refine jg_bipush (v := nI 20) dX11_bond_68 (by decide) ?_
              obtain ⟨x78, e_x78, h⟩ := bd_some h
              rcases x78 with y79 | z80
              · replace h := se_l h
                refine cs_callS (As := [.int (s.1 (o + 131) 13), .int (nI 20)]) ks_X11_82 dX11_bond_70 rfl (by decide) (Nat.le_of_ble_eq_true rfl) rfl (by decide) (Nat.le_of_ble_eq_true rfl) (t_X11_needRoom τ n s (s.1 (o + 131) 13) (nI 20) e_x78) ?_
                refine jg_aload_n dX11_bond_73 rfl ?_
                refine cs_get (s := s) (w := .ref (o + 10)) fl_X11_27 dX11_bond_74 hO.ob0 rfl ?_
                refine cs_get (s := s) (w := .ref (o + 131)) fl_X11_141 dX11_bond_77 hO.1.ob0 rfl ?_
                refine jg_aload_n dX11_bond_80 rfl ?_
                refine cs_get (s := s) (w := .ref (o + 10)) fl_X11_27 dX11_bond_81 hO.ob0 rfl ?_
                obtain ⟨x81, e_x81, h⟩ := bd_some h
                refine cs_call (q := (o + 10)) (As := []) kv_X11_362 dX11_bond_84 hO.1.ob0 rfl rfl (by decide) (Nat.le_of_ble_eq_true rfl) rfl (by decide) (Nat.le_of_ble_eq_true rfl) (t_X2_year τ n (o + 10) s hO.1 e_x81) ?_
                obtain ⟨x82, e_x82, h⟩ := bd_some h
                refine cs_call (q := (o + 131)) (As := [.int x81]) kv_X11_365 dX11_bond_87 (hO.1.ob 121 (by decide) rfl) rfl rfl (by decide) (Nat.le_of_ble_eq_true rfl) rfl (by decide) (Nat.le_of_ble_eq_true rfl) (t_X6_borrowed F τ n (o + 10) s x81 hO.1 e_x82) ?_
                refine jg_istore (L' := [some (.ref o), some (.int a1), some (.int a2), some (.int a3), some (.int a4), some (.int x82)]) dX11_bond_90 (by decide) rfl ?_
                refine jg_iload_n dX11_bond_92 rfl ?_
                refine jg_iload dX11_bond_93 rfl ?_
                refine jg_iadd (x := a1) (y := x82) dX11_bond_95  ?_
                refine jg_aload_n dX11_bond_96 rfl ?_
                refine cs_get (s := s) (w := .ref (o + 10)) fl_X11_27 dX11_bond_97 hO.ob0 rfl ?_
                obtain ⟨x83, e_x83, h⟩ := bd_some h
                refine cs_call (q := (o + 10)) (As := []) kv_X11_179 dX11_bond_100 hO.1.ob0 rfl rfl (by decide) (Nat.le_of_ble_eq_true rfl) rfl (by decide) (Nat.le_of_ble_eq_true rfl) (t_X2_actOfToday F τ n (o + 10) s hO.1 e_x83) ?_
                obtain ⟨q84, h⟩ := gd_some h
                refine jg_bipush (v := nI 7) dX11_bond_103 (by decide) ?_
                refine jg_iconst (v := nI 0) dX11_bond_105 (by decide) ?_
                obtain ⟨x85, e_x85, h⟩ := bd_some h
                refine cs_call (q := x83) (As := [.int (nI 7), .int (nI 0)]) kv_X11_368 dX11_bond_106 (acb_ob q84) rfl rfl (by decide) (Nat.le_of_ble_eq_true rfl) rfl (by decide) (Nat.le_of_ble_eq_true rfl) (t_X0_lastNumber F τ n x83 s (nI 7) (nI 0) q84 e_x85) ?_
                refine jg_icmp_le (x := (a1 + x82)) (y := x85) (tgt := 114) dX11_bond_109 (by decide) (fun c86 => ?_) (fun c86 => ?_)
                · replace h := it_t c86 h
                  refine jg_aload_n dX11_bond_114 rfl ?_
                  refine cs_get (s := s) (w := .ref (o + 10)) fl_X11_27 dX11_bond_115 hO.ob0 rfl ?_
                  refine cs_get (s := s) (w := .ref (o + 131)) fl_X11_141 dX11_bond_118 hO.1.ob0 rfl ?_
                  refine jg_iload_n dX11_bond_121 rfl ?_
                  refine jg_iload_n dX11_bond_122 rfl ?_
                  refine jg_iload_n dX11_bond_123 rfl ?_
                  refine jg_aload_n dX11_bond_124 rfl ?_
                  refine cs_get (s := s) (w := .ref (o + 10)) fl_X11_27 dX11_bond_125 hO.ob0 rfl ?_
                  obtain ⟨x87, e_x87, h⟩ := bd_some h
                  refine cs_call (q := (o + 10)) (As := []) kv_X11_362 dX11_bond_128 hO.1.ob0 rfl rfl (by decide) (Nat.le_of_ble_eq_true rfl) rfl (by decide) (Nat.le_of_ble_eq_true rfl) (t_X2_year τ n (o + 10) s hO.1 e_x87) ?_
                  refine jg_iload dX11_bond_131 rfl ?_
                  refine jg_iadd (x := x87) (y := a4) dX11_bond_133  ?_
                  refine jg_iconst (v := nI 1) dX11_bond_134 (by decide) ?_
                  refine jg_isub (x := (x87 + a4)) (y := (nI 1)) dX11_bond_135  ?_
                  obtain ⟨x88, e_x88, h⟩ := bd_some h
                  refine cs_call (q := (o + 131)) (As := [.int a1, .int a2, .int a3, .int ((x87 + a4) - (nI 1))]) kv_X11_371 dX11_bond_136 (hO.1.ob 121 (by decide) rfl) rfl rfl (by decide) (Nat.le_of_ble_eq_true rfl) rfl (by decide) (Nat.le_of_ble_eq_true rfl) (t_X6_sell τ n (o + 10) s a1 a2 a3 ((x87 + a4) - (nI 1)) hO.1 e_x88) ?_
                  obtain rfl := Sum.inl.inj (Option.some.inj h)
                  exact jg_ireturn dX11_bond_139 rfl ⟨rfl, rfl⟩
                · replace h := it_f c86 h
                  refine jg_iconst (v := (-1)) dX11_bond_112 (by decide) ?_
                  obtain rfl := Sum.inl.inj (Option.some.inj h)
                  exact jg_ireturn dX11_bond_113 rfl ⟨rfl, rfl⟩
              · replace h := se_r h
                cases h
            · replace h := se_r h
              cases h
          · replace h := it_f c74 h
            refine jg_iconst (v := nI 1) dX11_bond_50 (by decide) ?_
            refine jg_goto (tgt := 55) dX11_bond_51 (by decide) ?_
            obtain ⟨x89, e_x89, h⟩ := bd_some h
            rcases x89 with y90 | z91
            · replace h := se_l h
              refine cs_callS (As := [.int (nI 1)]) ks_X11_45 dX11_bond_55 rfl (by decide) (Nat.le_of_ble_eq_true rfl) rfl (by decide) (Nat.le_of_ble_eq_true rfl) (t_X11_needArgument τ n s (nI 1) e_x89) ?_
              refine jg_aload_n dX11_bond_58 rfl ?_
              refine cs_get (s := s) (w := .ref (o + 10)) fl_X11_27 dX11_bond_59 hO.ob0 rfl ?_
              refine cs_get (s := s) (w := .ref (o + 131)) fl_X11_141 dX11_bond_62 hO.1.ob0 rfl ?_
              refine cs_get (s := s) (w := .int (s.1 (o + 131) 13)) fl_X11_359 dX11_bond_65 (hO.1.ob 121 (by decide) rfl) rfl ?_
              refine jg_bipush (v := nI 20) dX11_bond_68 (by decide) ?_
              obtain ⟨x92, e_x92, h⟩ := bd_some h
              rcases x92 with y93 | z94
              · replace h := se_l h
                refine cs_callS (As := [.int (s.1 (o + 131) 13), .int (nI 20)]) ks_X11_82 dX11_bond_70 rfl (by decide) (Nat.le_of_ble_eq_true rfl) rfl (by decide) (Nat.le_of_ble_eq_true rfl) (t_X11_needRoom τ n s (s.1 (o + 131) 13) (nI 20) e_x92) ?_
                refine jg_aload_n dX11_bond_73 rfl ?_
                refine cs_get (s := s) (w := .ref (o + 10)) fl_X11_27 dX11_bond_74 hO.ob0 rfl ?_
                refine cs_get (s := s) (w := .ref (o + 131)) fl_X11_141 dX11_bond_77 hO.1.ob0 rfl ?_
                refine jg_aload_n dX11_bond_80 rfl ?_
                refine cs_get (s := s) (w := .ref (o + 10)) fl_X11_27 dX11_bond_81 hO.ob0 rfl ?_
                obtain ⟨x95, e_x95, h⟩ := bd_some h
                refine cs_call (q := (o + 10)) (As := []) kv_X11_362 dX11_bond_84 hO.1.ob0 rfl rfl (by decide) (Nat.le_of_ble_eq_true rfl) rfl (by decide) (Nat.le_of_ble_eq_true rfl) (t_X2_year τ n (o + 10) s hO.1 e_x95) ?_
                obtain ⟨x96, e_x96, h⟩ := bd_some h
                refine cs_call (q := (o + 131)) (As := [.int x95]) kv_X11_365 dX11_bond_87 (hO.1.ob 121 (by decide) rfl) rfl rfl (by decide) (Nat.le_of_ble_eq_true rfl) rfl (by decide) (Nat.le_of_ble_eq_true rfl) (t_X6_borrowed F τ n (o + 10) s x95 hO.1 e_x96) ?_
                refine jg_istore (L' := [some (.ref o), some (.int a1), some (.int a2), some (.int a3), some (.int a4), some (.int x96)]) dX11_bond_90 (by decide) rfl ?_
                refine jg_iload_n dX11_bond_92 rfl ?_
                refine jg_iload dX11_bond_93 rfl ?_
                refine jg_iadd (x := a1) (y := x96) dX11_bond_95  ?_
                refine jg_aload_n dX11_bond_96 rfl ?_
                refine cs_get (s := s) (w := .ref (o + 10)) fl_X11_27 dX11_bond_97 hO.ob0 rfl ?_
                obtain ⟨x97, e_x97, h⟩ := bd_some h
                refine cs_call (q := (o + 10)) (As := []) kv_X11_179 dX11_bond_100 hO.1.ob0 rfl rfl (by decide) (Nat.le_of_ble_eq_true rfl) rfl (by decide) (Nat.le_of_ble_eq_true rfl) (t_X2_actOfToday F τ n (o + 10) s hO.1 e_x97) ?_
                obtain ⟨q98, h⟩ := gd_some h
                refine jg_bipush (v := nI 7) dX11_bond_103 (by decide) ?_
                refine jg_iconst (v := nI 0) dX11_bond_105 (by decide) ?_
                obtain ⟨x99, e_x99, h⟩ := bd_some h
                refine cs_call (q := x97) (As := [.int (nI 7), .int (nI 0)]) kv_X11_368 dX11_bond_106 (acb_ob q98) rfl rfl (by decide) (Nat.le_of_ble_eq_true rfl) rfl (by decide) (Nat.le_of_ble_eq_true rfl) (t_X0_lastNumber F τ n x97 s (nI 7) (nI 0) q98 e_x99) ?_
                refine jg_icmp_le (x := (a1 + x96)) (y := x99) (tgt := 114) dX11_bond_109 (by decide) (fun c100 => ?_) (fun c100 => ?_)
                · replace h := it_t c100 h
                  refine jg_aload_n dX11_bond_114 rfl ?_
                  refine cs_get (s := s) (w := .ref (o + 10)) fl_X11_27 dX11_bond_115 hO.ob0 rfl ?_
                  refine cs_get (s := s) (w := .ref (o + 131)) fl_X11_141 dX11_bond_118 hO.1.ob0 rfl ?_
                  refine jg_iload_n dX11_bond_121 rfl ?_
                  refine jg_iload_n dX11_bond_122 rfl ?_
                  refine jg_iload_n dX11_bond_123 rfl ?_
                  refine jg_aload_n dX11_bond_124 rfl ?_
                  refine cs_get (s := s) (w := .ref (o + 10)) fl_X11_27 dX11_bond_125 hO.ob0 rfl ?_
                  obtain ⟨x101, e_x101, h⟩ := bd_some h
                  refine cs_call (q := (o + 10)) (As := []) kv_X11_362 dX11_bond_128 hO.1.ob0 rfl rfl (by decide) (Nat.le_of_ble_eq_true rfl) rfl (by decide) (Nat.le_of_ble_eq_true rfl) (t_X2_year τ n (o + 10) s hO.1 e_x101) ?_
                  refine jg_iload dX11_bond_131 rfl ?_
                  refine jg_iadd (x := x101) (y := a4) dX11_bond_133  ?_
                  refine jg_iconst (v := nI 1) dX11_bond_134 (by decide) ?_
                  refine jg_isub (x := (x101 + a4)) (y := (nI 1)) dX11_bond_135  ?_
                  obtain ⟨x102, e_x102, h⟩ := bd_some h
                  refine cs_call (q := (o + 131)) (As := [.int a1, .int a2, .int a3, .int ((x101 + a4) - (nI 1))]) kv_X11_371 dX11_bond_136 (hO.1.ob 121 (by decide) rfl) rfl rfl (by decide) (Nat.le_of_ble_eq_true rfl) rfl (by decide) (Nat.le_of_ble_eq_true rfl) (t_X6_sell τ n (o + 10) s a1 a2 a3 ((x101 + a4) - (nI 1)) hO.1 e_x102) ?_
                  obtain rfl := Sum.inl.inj (Option.some.inj h)
                  exact jg_ireturn dX11_bond_139 rfl ⟨rfl, rfl⟩
                · replace h := it_f c100 h
                  refine jg_iconst (v := (-1)) dX11_bond_112 (by decide) ?_
                  obtain rfl := Sum.inl.inj (Option.some.inj h)
                  exact jg_ireturn dX11_bond_113 rfl ⟨rfl, rfl⟩
              · replace h := se_r h
                cases h
            · replace h := se_r h
              cases h
      · replace h := se_r h
        cases h
    · replace h := it_f c53 h
      refine jg_iconst (v := nI 1) dX11_bond_21 (by decide) ?_
      refine jg_goto (tgt := 26) dX11_bond_22 (by decide) ?_
      obtain ⟨x103, e_x103, h⟩ := bd_some h
      rcases x103 with y104 | z105
      · replace h := se_l h
        refine cs_callS (As := [.int (nI 1)]) ks_X11_45 dX11_bond_26 rfl (by decide) (Nat.le_of_ble_eq_true rfl) rfl (by decide) (Nat.le_of_ble_eq_true rfl) (t_X11_needArgument τ n s (nI 1) e_x103) ?_
        refine jg_iload_n dX11_bond_29 rfl ?_
        refine jg_iconst (v := nI 0) dX11_bond_30 (by decide) ?_
        refine jg_bipush (v := nI 9) dX11_bond_31 (by decide) ?_
        obtain ⟨x106, e_x106, h⟩ := bd_some h
        refine cs_callS (As := [.int a3, .int (nI 0), .int (nI 9)]) ks_X11_41 dX11_bond_33 rfl (by decide) (Nat.le_of_ble_eq_true rfl) rfl (by decide) (Nat.le_of_ble_eq_true rfl) (t_X11_within τ n s a3 (nI 0) (nI 9) e_x106) ?_
        refine jg_if_eq (x := x106) (tgt := 54) dX11_bond_36 (by decide) (fun c107 => ?_) (fun c107 => ?_)
        · replace h := it_t c107 h
          refine jg_iconst (v := nI 0) dX11_bond_54 (by decide) ?_
          obtain ⟨x108, e_x108, h⟩ := bd_some h
          rcases x108 with y109 | z110
          · replace h := se_l h
            refine cs_callS (As := [.int (nI 0)]) ks_X11_45 dX11_bond_55 rfl (by decide) (Nat.le_of_ble_eq_true rfl) rfl (by decide) (Nat.le_of_ble_eq_true rfl) (t_X11_needArgument τ n s (nI 0) e_x108) ?_
            refine jg_aload_n dX11_bond_58 rfl ?_
            refine cs_get (s := s) (w := .ref (o + 10)) fl_X11_27 dX11_bond_59 hO.ob0 rfl ?_
            refine cs_get (s := s) (w := .ref (o + 131)) fl_X11_141 dX11_bond_62 hO.1.ob0 rfl ?_
            refine cs_get (s := s) (w := .int (s.1 (o + 131) 13)) fl_X11_359 dX11_bond_65 (hO.1.ob 121 (by decide) rfl) rfl ?_
            refine jg_bipush (v := nI 20) dX11_bond_68 (by decide) ?_
            obtain ⟨x111, e_x111, h⟩ := bd_some h
            rcases x111 with y112 | z113
            · replace h := se_l h
              refine cs_callS (As := [.int (s.1 (o + 131) 13), .int (nI 20)]) ks_X11_82 dX11_bond_70 rfl (by decide) (Nat.le_of_ble_eq_true rfl) rfl (by decide) (Nat.le_of_ble_eq_true rfl) (t_X11_needRoom τ n s (s.1 (o + 131) 13) (nI 20) e_x111) ?_
              refine jg_aload_n dX11_bond_73 rfl ?_
              refine cs_get (s := s) (w := .ref (o + 10)) fl_X11_27 dX11_bond_74 hO.ob0 rfl ?_
              refine cs_get (s := s) (w := .ref (o + 131)) fl_X11_141 dX11_bond_77 hO.1.ob0 rfl ?_
              refine jg_aload_n dX11_bond_80 rfl ?_
              refine cs_get (s := s) (w := .ref (o + 10)) fl_X11_27 dX11_bond_81 hO.ob0 rfl ?_
              obtain ⟨x114, e_x114, h⟩ := bd_some h
              refine cs_call (q := (o + 10)) (As := []) kv_X11_362 dX11_bond_84 hO.1.ob0 rfl rfl (by decide) (Nat.le_of_ble_eq_true rfl) rfl (by decide) (Nat.le_of_ble_eq_true rfl) (t_X2_year τ n (o + 10) s hO.1 e_x114) ?_
              obtain ⟨x115, e_x115, h⟩ := bd_some h
              refine cs_call (q := (o + 131)) (As := [.int x114]) kv_X11_365 dX11_bond_87 (hO.1.ob 121 (by decide) rfl) rfl rfl (by decide) (Nat.le_of_ble_eq_true rfl) rfl (by decide) (Nat.le_of_ble_eq_true rfl) (t_X6_borrowed F τ n (o + 10) s x114 hO.1 e_x115) ?_
              refine jg_istore (L' := [some (.ref o), some (.int a1), some (.int a2), some (.int a3), some (.int a4), some (.int x115)]) dX11_bond_90 (by decide) rfl ?_
              refine jg_iload_n dX11_bond_92 rfl ?_
              refine jg_iload dX11_bond_93 rfl ?_
              refine jg_iadd (x := a1) (y := x115) dX11_bond_95  ?_
              refine jg_aload_n dX11_bond_96 rfl ?_
              refine cs_get (s := s) (w := .ref (o + 10)) fl_X11_27 dX11_bond_97 hO.ob0 rfl ?_
              obtain ⟨x116, e_x116, h⟩ := bd_some h
              refine cs_call (q := (o + 10)) (As := []) kv_X11_179 dX11_bond_100 hO.1.ob0 rfl rfl (by decide) (Nat.le_of_ble_eq_true rfl) rfl (by decide) (Nat.le_of_ble_eq_true rfl) (t_X2_actOfToday F τ n (o + 10) s hO.1 e_x116) ?_
              obtain ⟨q117, h⟩ := gd_some h
              refine jg_bipush (v := nI 7) dX11_bond_103 (by decide) ?_
              refine jg_iconst (v := nI 0) dX11_bond_105 (by decide) ?_
              obtain ⟨x118, e_x118, h⟩ := bd_some h
              refine cs_call (q := x116) (As := [.int (nI 7), .int (nI 0)]) kv_X11_368 dX11_bond_106 (acb_ob q117) rfl rfl (by decide) (Nat.le_of_ble_eq_true rfl) rfl (by decide) (Nat.le_of_ble_eq_true rfl) (t_X0_lastNumber F τ n x116 s (nI 7) (nI 0) q117 e_x118) ?_
              refine jg_icmp_le (x := (a1 + x115)) (y := x118) (tgt := 114) dX11_bond_109 (by decide) (fun c119 => ?_) (fun c119 => ?_)
              · replace h := it_t c119 h
                refine jg_aload_n dX11_bond_114 rfl ?_
                refine cs_get (s := s) (w := .ref (o + 10)) fl_X11_27 dX11_bond_115 hO.ob0 rfl ?_
                refine cs_get (s := s) (w := .ref (o + 131)) fl_X11_141 dX11_bond_118 hO.1.ob0 rfl ?_
                refine jg_iload_n dX11_bond_121 rfl ?_
                refine jg_iload_n dX11_bond_122 rfl ?_
                refine jg_iload_n dX11_bond_123 rfl ?_
                refine jg_aload_n dX11_bond_124 rfl ?_
                refine cs_get (s := s) (w := .ref (o + 10)) fl_X11_27 dX11_bond_125 hO.ob0 rfl ?_
                obtain ⟨x120, e_x120, h⟩ := bd_some h
                refine cs_call (q := (o + 10)) (As := []) kv_X11_362 dX11_bond_128 hO.1.ob0 rfl rfl (by decide) (Nat.le_of_ble_eq_true rfl) rfl (by decide) (Nat.le_of_ble_eq_true rfl) (t_X2_year τ n (o + 10) s hO.1 e_x120) ?_
                refine jg_iload dX11_bond_131 rfl ?_
                refine jg_iadd (x := x120) (y := a4) dX11_bond_133  ?_
                refine jg_iconst (v := nI 1) dX11_bond_134 (by decide) ?_
                refine jg_isub (x := (x120 + a4)) (y := (nI 1)) dX11_bond_135  ?_
                obtain ⟨x121, e_x121, h⟩ := bd_some h
                refine cs_call (q := (o + 131)) (As := [.int a1, .int a2, .int a3, .int ((x120 + a4) - (nI 1))]) kv_X11_371 dX11_bond_136 (hO.1.ob 121 (by decide) rfl) rfl rfl (by decide) (Nat.le_of_ble_eq_true rfl) rfl (by decide) (Nat.le_of_ble_eq_true rfl) (t_X6_sell τ n (o + 10) s a1 a2 a3 ((x120 + a4) - (nI 1)) hO.1 e_x121) ?_
                obtain rfl := Sum.inl.inj (Option.some.inj h)
                exact jg_ireturn dX11_bond_139 rfl ⟨rfl, rfl⟩
              · replace h := it_f c119 h
                refine jg_iconst (v := (-1)) dX11_bond_112 (by decide) ?_
                obtain rfl := Sum.inl.inj (Option.some.inj h)
                exact jg_ireturn dX11_bond_113 rfl ⟨rfl, rfl⟩
            · replace h := se_r h
              cases h
          · replace h := se_r h
            cases h
        · replace h := it_f c107 h
          refine jg_iload dX11_bond_39 rfl ?_
          refine jg_iconst (v := nI 1) dX11_bond_41 (by decide) ?_
          refine jg_bipush (v := nI 30) dX11_bond_42 (by decide) ?_
          obtain ⟨x122, e_x122, h⟩ := bd_some h
          refine cs_callS (As := [.int a4, .int (nI 1), .int (nI 30)]) ks_X11_41 dX11_bond_44 rfl (by decide) (Nat.le_of_ble_eq_true rfl) rfl (by decide) (Nat.le_of_ble_eq_true rfl) (t_X11_within τ n s a4 (nI 1) (nI 30) e_x122) ?_
          refine jg_if_eq (x := x122) (tgt := 54) dX11_bond_47 (by decide) (fun c123 => ?_) (fun c123 => ?_)
          · replace h := it_t c123 h
            refine jg_iconst (v := nI 0) dX11_bond_54 (by decide) ?_
            obtain ⟨x124, e_x124, h⟩ := bd_some h
            rcases x124 with y125 | z126
            · replace h := se_l h
              refine cs_callS (As := [.int (nI 0)]) ks_X11_45 dX11_bond_55 rfl (by decide) (Nat.le_of_ble_eq_true rfl) rfl (by decide) (Nat.le_of_ble_eq_true rfl) (t_X11_needArgument τ n s (nI 0) e_x124) ?_
              refine jg_aload_n dX11_bond_58 rfl ?_
              refine cs_get (s := s) (w := .ref (o + 10)) fl_X11_27 dX11_bond_59 hO.ob0 rfl ?_
              refine cs_get (s := s) (w := .ref (o + 131)) fl_X11_141 dX11_bond_62 hO.1.ob0 rfl ?_
              refine cs_get (s := s) (w := .int (s.1 (o + 131) 13)) fl_X11_359 dX11_bond_65 (hO.1.ob 121 (by decide) rfl) rfl ?_
              refine jg_bipush (v := nI 20) dX11_bond_68 (by decide) ?_
              obtain ⟨x127, e_x127, h⟩ := bd_some h
              rcases x127 with y128 | z129
              · replace h := se_l h
                refine cs_callS (As := [.int (s.1 (o + 131) 13), .int (nI 20)]) ks_X11_82 dX11_bond_70 rfl (by decide) (Nat.le_of_ble_eq_true rfl) rfl (by decide) (Nat.le_of_ble_eq_true rfl) (t_X11_needRoom τ n s (s.1 (o + 131) 13) (nI 20) e_x127) ?_
                refine jg_aload_n dX11_bond_73 rfl ?_
                refine cs_get (s := s) (w := .ref (o + 10)) fl_X11_27 dX11_bond_74 hO.ob0 rfl ?_
                refine cs_get (s := s) (w := .ref (o + 131)) fl_X11_141 dX11_bond_77 hO.1.ob0 rfl ?_
                refine jg_aload_n dX11_bond_80 rfl ?_
                refine cs_get (s := s) (w := .ref (o + 10)) fl_X11_27 dX11_bond_81 hO.ob0 rfl ?_
                obtain ⟨x130, e_x130, h⟩ := bd_some h
                refine cs_call (q := (o + 10)) (As := []) kv_X11_362 dX11_bond_84 hO.1.ob0 rfl rfl (by decide) (Nat.le_of_ble_eq_true rfl) rfl (by decide) (Nat.le_of_ble_eq_true rfl) (t_X2_year τ n (o + 10) s hO.1 e_x130) ?_
                obtain ⟨x131, e_x131, h⟩ := bd_some h
                refine cs_call (q := (o + 131)) (As := [.int x130]) kv_X11_365 dX11_bond_87 (hO.1.ob 121 (by decide) rfl) rfl rfl (by decide) (Nat.le_of_ble_eq_true rfl) rfl (by decide) (Nat.le_of_ble_eq_true rfl) (t_X6_borrowed F τ n (o + 10) s x130 hO.1 e_x131) ?_
                refine jg_istore (L' := [some (.ref o), some (.int a1), some (.int a2), some (.int a3), some (.int a4), some (.int x131)]) dX11_bond_90 (by decide) rfl ?_
                refine jg_iload_n dX11_bond_92 rfl ?_
                refine jg_iload dX11_bond_93 rfl ?_
                refine jg_iadd (x := a1) (y := x131) dX11_bond_95  ?_
                refine jg_aload_n dX11_bond_96 rfl ?_
                refine cs_get (s := s) (w := .ref (o + 10)) fl_X11_27 dX11_bond_97 hO.ob0 rfl ?_
                obtain ⟨x132, e_x132, h⟩ := bd_some h
                refine cs_call (q := (o + 10)) (As := []) kv_X11_179 dX11_bond_100 hO.1.ob0 rfl rfl (by decide) (Nat.le_of_ble_eq_true rfl) rfl (by decide) (Nat.le_of_ble_eq_true rfl) (t_X2_actOfToday F τ n (o + 10) s hO.1 e_x132) ?_
                obtain ⟨q133, h⟩ := gd_some h
                refine jg_bipush (v := nI 7) dX11_bond_103 (by decide) ?_
                refine jg_iconst (v := nI 0) dX11_bond_105 (by decide) ?_
                obtain ⟨x134, e_x134, h⟩ := bd_some h
                refine cs_call (q := x132) (As := [.int (nI 7), .int (nI 0)]) kv_X11_368 dX11_bond_106 (acb_ob q133) rfl rfl (by decide) (Nat.le_of_ble_eq_true rfl) rfl (by decide) (Nat.le_of_ble_eq_true rfl) (t_X0_lastNumber F τ n x132 s (nI 7) (nI 0) q133 e_x134) ?_
                refine jg_icmp_le (x := (a1 + x131)) (y := x134) (tgt := 114) dX11_bond_109 (by decide) (fun c135 => ?_) (fun c135 => ?_)
                · replace h := it_t c135 h
                  refine jg_aload_n dX11_bond_114 rfl ?_
                  refine cs_get (s := s) (w := .ref (o + 10)) fl_X11_27 dX11_bond_115 hO.ob0 rfl ?_
                  refine cs_get (s := s) (w := .ref (o + 131)) fl_X11_141 dX11_bond_118 hO.1.ob0 rfl ?_
                  refine jg_iload_n dX11_bond_121 rfl ?_
                  refine jg_iload_n dX11_bond_122 rfl ?_
                  refine jg_iload_n dX11_bond_123 rfl ?_
                  refine jg_aload_n dX11_bond_124 rfl ?_
                  refine cs_get (s := s) (w := .ref (o + 10)) fl_X11_27 dX11_bond_125 hO.ob0 rfl ?_
                  obtain ⟨x136, e_x136, h⟩ := bd_some h
                  refine cs_call (q := (o + 10)) (As := []) kv_X11_362 dX11_bond_128 hO.1.ob0 rfl rfl (by decide) (Nat.le_of_ble_eq_true rfl) rfl (by decide) (Nat.le_of_ble_eq_true rfl) (t_X2_year τ n (o + 10) s hO.1 e_x136) ?_
                  refine jg_iload dX11_bond_131 rfl ?_
                  refine jg_iadd (x := x136) (y := a4) dX11_bond_133  ?_
                  refine jg_iconst (v := nI 1) dX11_bond_134 (by decide) ?_
                  refine jg_isub (x := (x136 + a4)) (y := (nI 1)) dX11_bond_135  ?_
                  obtain ⟨x137, e_x137, h⟩ := bd_some h
                  refine cs_call (q := (o + 131)) (As := [.int a1, .int a2, .int a3, .int ((x136 + a4) - (nI 1))]) kv_X11_371 dX11_bond_136 (hO.1.ob 121 (by decide) rfl) rfl rfl (by decide) (Nat.le_of_ble_eq_true rfl) rfl (by decide) (Nat.le_of_ble_eq_true rfl) (t_X6_sell τ n (o + 10) s a1 a2 a3 ((x136 + a4) - (nI 1)) hO.1 e_x137) ?_
                  obtain rfl := Sum.inl.inj (Option.some.inj h)
                  exact jg_ireturn dX11_bond_139 rfl ⟨rfl, rfl⟩
                · replace h := it_f c135 h
                  refine jg_iconst (v := (-1)) dX11_bond_112 (by decide) ?_
                  obtain rfl := Sum.inl.inj (Option.some.inj h)
                  exact jg_ireturn dX11_bond_113 rfl ⟨rfl, rfl⟩
              · replace h := se_r h
                cases h
            · replace h := se_r h
              cases h
          · replace h := it_f c123 h
            refine jg_iconst (v := nI 1) dX11_bond_50 (by decide) ?_
            refine jg_goto (tgt := 55) dX11_bond_51 (by decide) ?_
            obtain ⟨x138, e_x138, h⟩ := bd_some h
            rcases x138 with y139 | z140
            · replace h := se_l h
              refine cs_callS (As := [.int (nI 1)]) ks_X11_45 dX11_bond_55 rfl (by decide) (Nat.le_of_ble_eq_true rfl) rfl (by decide) (Nat.le_of_ble_eq_true rfl) (t_X11_needArgument τ n s (nI 1) e_x138) ?_
              refine jg_aload_n dX11_bond_58 rfl ?_
              refine cs_get (s := s) (w := .ref (o + 10)) fl_X11_27 dX11_bond_59 hO.ob0 rfl ?_
              refine cs_get (s := s) (w := .ref (o + 131)) fl_X11_141 dX11_bond_62 hO.1.ob0 rfl ?_
              refine cs_get (s := s) (w := .int (s.1 (o + 131) 13)) fl_X11_359 dX11_bond_65 (hO.1.ob 121 (by decide) rfl) rfl ?_
              refine jg_bipush (v := nI 20) dX11_bond_68 (by decide) ?_
              obtain ⟨x141, e_x141, h⟩ := bd_some h
              rcases x141 with y142 | z143
              · replace h := se_l h
                refine cs_callS (As := [.int (s.1 (o + 131) 13), .int (nI 20)]) ks_X11_82 dX11_bond_70 rfl (by decide) (Nat.le_of_ble_eq_true rfl) rfl (by decide) (Nat.le_of_ble_eq_true rfl) (t_X11_needRoom τ n s (s.1 (o + 131) 13) (nI 20) e_x141) ?_
                refine jg_aload_n dX11_bond_73 rfl ?_
                refine cs_get (s := s) (w := .ref (o + 10)) fl_X11_27 dX11_bond_74 hO.ob0 rfl ?_
                refine cs_get (s := s) (w := .ref (o + 131)) fl_X11_141 dX11_bond_77 hO.1.ob0 rfl ?_
                refine jg_aload_n dX11_bond_80 rfl ?_
                refine cs_get (s := s) (w := .ref (o + 10)) fl_X11_27 dX11_bond_81 hO.ob0 rfl ?_
                obtain ⟨x144, e_x144, h⟩ := bd_some h
                refine cs_call (q := (o + 10)) (As := []) kv_X11_362 dX11_bond_84 hO.1.ob0 rfl rfl (by decide) (Nat.le_of_ble_eq_true rfl) rfl (by decide) (Nat.le_of_ble_eq_true rfl) (t_X2_year τ n (o + 10) s hO.1 e_x144) ?_
                obtain ⟨x145, e_x145, h⟩ := bd_some h
                refine cs_call (q := (o + 131)) (As := [.int x144]) kv_X11_365 dX11_bond_87 (hO.1.ob 121 (by decide) rfl) rfl rfl (by decide) (Nat.le_of_ble_eq_true rfl) rfl (by decide) (Nat.le_of_ble_eq_true rfl) (t_X6_borrowed F τ n (o + 10) s x144 hO.1 e_x145) ?_
                refine jg_istore (L' := [some (.ref o), some (.int a1), some (.int a2), some (.int a3), some (.int a4), some (.int x145)]) dX11_bond_90 (by decide) rfl ?_
                refine jg_iload_n dX11_bond_92 rfl ?_
                refine jg_iload dX11_bond_93 rfl ?_
                refine jg_iadd (x := a1) (y := x145) dX11_bond_95  ?_
                refine jg_aload_n dX11_bond_96 rfl ?_
                refine cs_get (s := s) (w := .ref (o + 10)) fl_X11_27 dX11_bond_97 hO.ob0 rfl ?_
                obtain ⟨x146, e_x146, h⟩ := bd_some h
                refine cs_call (q := (o + 10)) (As := []) kv_X11_179 dX11_bond_100 hO.1.ob0 rfl rfl (by decide) (Nat.le_of_ble_eq_true rfl) rfl (by decide) (Nat.le_of_ble_eq_true rfl) (t_X2_actOfToday F τ n (o + 10) s hO.1 e_x146) ?_
                obtain ⟨q147, h⟩ := gd_some h
                refine jg_bipush (v := nI 7) dX11_bond_103 (by decide) ?_
                refine jg_iconst (v := nI 0) dX11_bond_105 (by decide) ?_
                obtain ⟨x148, e_x148, h⟩ := bd_some h
                refine cs_call (q := x146) (As := [.int (nI 7), .int (nI 0)]) kv_X11_368 dX11_bond_106 (acb_ob q147) rfl rfl (by decide) (Nat.le_of_ble_eq_true rfl) rfl (by decide) (Nat.le_of_ble_eq_true rfl) (t_X0_lastNumber F τ n x146 s (nI 7) (nI 0) q147 e_x148) ?_
                refine jg_icmp_le (x := (a1 + x145)) (y := x148) (tgt := 114) dX11_bond_109 (by decide) (fun c149 => ?_) (fun c149 => ?_)
                · replace h := it_t c149 h
                  refine jg_aload_n dX11_bond_114 rfl ?_
                  refine cs_get (s := s) (w := .ref (o + 10)) fl_X11_27 dX11_bond_115 hO.ob0 rfl ?_
                  refine cs_get (s := s) (w := .ref (o + 131)) fl_X11_141 dX11_bond_118 hO.1.ob0 rfl ?_
                  refine jg_iload_n dX11_bond_121 rfl ?_
                  refine jg_iload_n dX11_bond_122 rfl ?_
                  refine jg_iload_n dX11_bond_123 rfl ?_
                  refine jg_aload_n dX11_bond_124 rfl ?_
                  refine cs_get (s := s) (w := .ref (o + 10)) fl_X11_27 dX11_bond_125 hO.ob0 rfl ?_
                  obtain ⟨x150, e_x150, h⟩ := bd_some h
                  refine cs_call (q := (o + 10)) (As := []) kv_X11_362 dX11_bond_128 hO.1.ob0 rfl rfl (by decide) (Nat.le_of_ble_eq_true rfl) rfl (by decide) (Nat.le_of_ble_eq_true rfl) (t_X2_year τ n (o + 10) s hO.1 e_x150) ?_
                  refine jg_iload dX11_bond_131 rfl ?_
                  refine jg_iadd (x := x150) (y := a4) dX11_bond_133  ?_
                  refine jg_iconst (v := nI 1) dX11_bond_134 (by decide) ?_
                  refine jg_isub (x := (x150 + a4)) (y := (nI 1)) dX11_bond_135  ?_
                  obtain ⟨x151, e_x151, h⟩ := bd_some h
                  refine cs_call (q := (o + 131)) (As := [.int a1, .int a2, .int a3, .int ((x150 + a4) - (nI 1))]) kv_X11_371 dX11_bond_136 (hO.1.ob 121 (by decide) rfl) rfl rfl (by decide) (Nat.le_of_ble_eq_true rfl) rfl (by decide) (Nat.le_of_ble_eq_true rfl) (t_X6_sell τ n (o + 10) s a1 a2 a3 ((x150 + a4) - (nI 1)) hO.1 e_x151) ?_
                  obtain rfl := Sum.inl.inj (Option.some.inj h)
                  exact jg_ireturn dX11_bond_139 rfl ⟨rfl, rfl⟩
                · replace h := it_f c149 h
                  refine jg_iconst (v := (-1)) dX11_bond_112 (by decide) ?_
                  obtain rfl := Sum.inl.inj (Option.some.inj h)
                  exact jg_ireturn dX11_bond_113 rfl ⟨rfl, rfl⟩
              · replace h := se_r h
                cases h
            · replace h := se_r h
              cases h
      · replace h := se_r h
        cases h
set_option maxHeartbeats 4000000 in
theorem x_X11_bond {Γ : jg_G} {g : Nat → jg_C} (F : Nat) (τ : cT) (n : Nat) (o : Nat) (s : cS) (a1 : Int32) (a2 : Int32) (a3 : Int32) (a4 : Int32) (hO : Sh τ n o) (hn : n < 1000000) (hT : τ n = .inr (8, 0)) {z : Nat × cS} (h : o_X11_bond F τ n o s a1 a2 a3 a4 = some (.inr z)) : jc Γ mX11_bond 7 1 6 [some (.ref o), some (.int a1), some (.int a2), some (.int a3), some (.int a4), none] (ct_h g τ s, n) (.inr (exn z.1)) (ct_h (gx g n) τ z.2, n + 1) := by
  refine jc_of ?_
  rw [o_X11_bond] at h
  refine jg_iload_n dX11_bond_0 rfl ?_
  refine jg_iconst (v := nI 1) dX11_bond_1 (by decide) ?_
  refine jg_ldc kk_X11_153 dX11_bond_2 ?_
  rw [show (1000000 : Int32) = nI 1000000 from rfl]
  obtain ⟨x1, e_x1, h⟩ := bd_some h
  refine cs_callS (As := [.int a1, .int (nI 1), .int (nI 1000000)]) ks_X11_41 dX11_bond_4 rfl (by decide) (Nat.le_of_ble_eq_true rfl) rfl (by decide) (Nat.le_of_ble_eq_true rfl) (t_X11_within τ n s a1 (nI 1) (nI 1000000) e_x1) ?_
  refine jg_if_eq (x := x1) (tgt := 25) dX11_bond_7 (by decide) (fun c2 => ?_) (fun c2 => ?_)
  · replace h := it_t c2 h
    refine jg_iconst (v := nI 0) dX11_bond_25 (by decide) ?_
    obtain ⟨x3, e_x3, h⟩ := bd_some h
    rcases x3 with y4 | z5
    · replace h := se_l h
      refine cs_callS (As := [.int (nI 0)]) ks_X11_45 dX11_bond_26 rfl (by decide) (Nat.le_of_ble_eq_true rfl) rfl (by decide) (Nat.le_of_ble_eq_true rfl) (t_X11_needArgument τ n s (nI 0) e_x3) ?_
      refine jg_iload_n dX11_bond_29 rfl ?_
      refine jg_iconst (v := nI 0) dX11_bond_30 (by decide) ?_
      refine jg_bipush (v := nI 9) dX11_bond_31 (by decide) ?_
      obtain ⟨x6, e_x6, h⟩ := bd_some h
      refine cs_callS (As := [.int a3, .int (nI 0), .int (nI 9)]) ks_X11_41 dX11_bond_33 rfl (by decide) (Nat.le_of_ble_eq_true rfl) rfl (by decide) (Nat.le_of_ble_eq_true rfl) (t_X11_within τ n s a3 (nI 0) (nI 9) e_x6) ?_
      refine jg_if_eq (x := x6) (tgt := 54) dX11_bond_36 (by decide) (fun c7 => ?_) (fun c7 => ?_)
      · replace h := it_t c7 h
        refine jg_iconst (v := nI 0) dX11_bond_54 (by decide) ?_
        obtain ⟨x8, e_x8, h⟩ := bd_some h
        rcases x8 with y9 | z10
        · replace h := se_l h
          refine cs_callS (As := [.int (nI 0)]) ks_X11_45 dX11_bond_55 rfl (by decide) (Nat.le_of_ble_eq_true rfl) rfl (by decide) (Nat.le_of_ble_eq_true rfl) (t_X11_needArgument τ n s (nI 0) e_x8) ?_
          refine jg_aload_n dX11_bond_58 rfl ?_
          refine cs_get (s := s) (w := .ref (o + 10)) fl_X11_27 dX11_bond_59 hO.ob0 rfl ?_
          refine cs_get (s := s) (w := .ref (o + 131)) fl_X11_141 dX11_bond_62 hO.1.ob0 rfl ?_
          refine cs_get (s := s) (w := .int (s.1 (o + 131) 13)) fl_X11_359 dX11_bond_65 (hO.1.ob 121 (by decide) rfl) rfl ?_
          refine jg_bipush (v := nI 20) dX11_bond_68 (by decide) ?_
          obtain ⟨x11, e_x11, h⟩ := bd_some h
          rcases x11 with y12 | z13
          · replace h := se_l h
            refine cs_callS (As := [.int (s.1 (o + 131) 13), .int (nI 20)]) ks_X11_82 dX11_bond_70 rfl (by decide) (Nat.le_of_ble_eq_true rfl) rfl (by decide) (Nat.le_of_ble_eq_true rfl) (t_X11_needRoom τ n s (s.1 (o + 131) 13) (nI 20) e_x11) ?_
            refine jg_aload_n dX11_bond_73 rfl ?_
            refine cs_get (s := s) (w := .ref (o + 10)) fl_X11_27 dX11_bond_74 hO.ob0 rfl ?_
            refine cs_get (s := s) (w := .ref (o + 131)) fl_X11_141 dX11_bond_77 hO.1.ob0 rfl ?_
            refine jg_aload_n dX11_bond_80 rfl ?_
            refine cs_get (s := s) (w := .ref (o + 10)) fl_X11_27 dX11_bond_81 hO.ob0 rfl ?_
            obtain ⟨x14, e_x14, h⟩ := bd_some h
            refine cs_call (q := (o + 10)) (As := []) kv_X11_362 dX11_bond_84 hO.1.ob0 rfl rfl (by decide) (Nat.le_of_ble_eq_true rfl) rfl (by decide) (Nat.le_of_ble_eq_true rfl) (t_X2_year τ n (o + 10) s hO.1 e_x14) ?_
            obtain ⟨x15, e_x15, h⟩ := bd_some h
            refine cs_call (q := (o + 131)) (As := [.int x14]) kv_X11_365 dX11_bond_87 (hO.1.ob 121 (by decide) rfl) rfl rfl (by decide) (Nat.le_of_ble_eq_true rfl) rfl (by decide) (Nat.le_of_ble_eq_true rfl) (t_X6_borrowed F τ n (o + 10) s x14 hO.1 e_x15) ?_
            refine jg_istore (L' := [some (.ref o), some (.int a1), some (.int a2), some (.int a3), some (.int a4), some (.int x15)]) dX11_bond_90 (by decide) rfl ?_
            refine jg_iload_n dX11_bond_92 rfl ?_
            refine jg_iload dX11_bond_93 rfl ?_
            refine jg_iadd (x := a1) (y := x15) dX11_bond_95  ?_
            refine jg_aload_n dX11_bond_96 rfl ?_
            refine cs_get (s := s) (w := .ref (o + 10)) fl_X11_27 dX11_bond_97 hO.ob0 rfl ?_
            obtain ⟨x16, e_x16, h⟩ := bd_some h
            refine cs_call (q := (o + 10)) (As := []) kv_X11_179 dX11_bond_100 hO.1.ob0 rfl rfl (by decide) (Nat.le_of_ble_eq_true rfl) rfl (by decide) (Nat.le_of_ble_eq_true rfl) (t_X2_actOfToday F τ n (o + 10) s hO.1 e_x16) ?_
            obtain ⟨q17, h⟩ := gd_some h
            refine jg_bipush (v := nI 7) dX11_bond_103 (by decide) ?_
            refine jg_iconst (v := nI 0) dX11_bond_105 (by decide) ?_
            obtain ⟨x18, e_x18, h⟩ := bd_some h
            refine cs_call (q := x16) (As := [.int (nI 7), .int (nI 0)]) kv_X11_368 dX11_bond_106 (acb_ob q17) rfl rfl (by decide) (Nat.le_of_ble_eq_true rfl) rfl (by decide) (Nat.le_of_ble_eq_true rfl) (t_X0_lastNumber F τ n x16 s (nI 7) (nI 0) q17 e_x18) ?_
            refine jg_icmp_le (x := (a1 + x15)) (y := x18) (tgt := 114) dX11_bond_109 (by decide) (fun c19 => ?_) (fun c19 => ?_)
            · replace h := it_t c19 h
              refine jg_aload_n dX11_bond_114 rfl ?_
              refine cs_get (s := s) (w := .ref (o + 10)) fl_X11_27 dX11_bond_115 hO.ob0 rfl ?_
              refine cs_get (s := s) (w := .ref (o + 131)) fl_X11_141 dX11_bond_118 hO.1.ob0 rfl ?_
              refine jg_iload_n dX11_bond_121 rfl ?_
              refine jg_iload_n dX11_bond_122 rfl ?_
              refine jg_iload_n dX11_bond_123 rfl ?_
              refine jg_aload_n dX11_bond_124 rfl ?_
              refine cs_get (s := s) (w := .ref (o + 10)) fl_X11_27 dX11_bond_125 hO.ob0 rfl ?_
              obtain ⟨x20, e_x20, h⟩ := bd_some h
              refine cs_call (q := (o + 10)) (As := []) kv_X11_362 dX11_bond_128 hO.1.ob0 rfl rfl (by decide) (Nat.le_of_ble_eq_true rfl) rfl (by decide) (Nat.le_of_ble_eq_true rfl) (t_X2_year τ n (o + 10) s hO.1 e_x20) ?_
              refine jg_iload dX11_bond_131 rfl ?_
              refine jg_iadd (x := x20) (y := a4) dX11_bond_133  ?_
              refine jg_iconst (v := nI 1) dX11_bond_134 (by decide) ?_
              refine jg_isub (x := (x20 + a4)) (y := (nI 1)) dX11_bond_135  ?_
              obtain ⟨x21, e_x21, h⟩ := bd_some h
              refine cs_call (q := (o + 131)) (As := [.int a1, .int a2, .int a3, .int ((x20 + a4) - (nI 1))]) kv_X11_371 dX11_bond_136 (hO.1.ob 121 (by decide) rfl) rfl rfl (by decide) (Nat.le_of_ble_eq_true rfl) rfl (by decide) (Nat.le_of_ble_eq_true rfl) (t_X6_sell τ n (o + 10) s a1 a2 a3 ((x20 + a4) - (nI 1)) hO.1 e_x21) ?_
              cases h
            · replace h := it_f c19 h
              refine jg_iconst (v := (-1)) dX11_bond_112 (by decide) ?_
              cases h
          · replace h := se_r h
            obtain rfl := Sum.inr.inj (Option.some.inj h)
            exact jc_SX (As := [.int (s.1 (o + 131) 13), .int (nI 20)]) ks_X11_82 dX11_bond_70 rfl (by decide) (Nat.le_of_ble_eq_true rfl) rfl (by decide) (Nat.le_refl _) (Nat.le_refl _) (Nat.le_of_ble_eq_true rfl) (x_X11_needRoom τ n s (s.1 (o + 131) 13) (nI 20) hn hT e_x11) ⟨rfl, rfl⟩
        · replace h := se_r h
          obtain rfl := Sum.inr.inj (Option.some.inj h)
          exact jc_SX (As := [.int (nI 0)]) ks_X11_45 dX11_bond_55 rfl (by decide) (Nat.le_of_ble_eq_true rfl) rfl (by decide) (Nat.le_refl _) (Nat.le_refl _) (Nat.le_of_ble_eq_true rfl) (x_X11_needArgument τ n s (nI 0) hn hT e_x8) ⟨rfl, rfl⟩
      · replace h := it_f c7 h
        refine jg_iload dX11_bond_39 rfl ?_
        refine jg_iconst (v := nI 1) dX11_bond_41 (by decide) ?_
        refine jg_bipush (v := nI 30) dX11_bond_42 (by decide) ?_
        obtain ⟨x22, e_x22, h⟩ := bd_some h
        refine cs_callS (As := [.int a4, .int (nI 1), .int (nI 30)]) ks_X11_41 dX11_bond_44 rfl (by decide) (Nat.le_of_ble_eq_true rfl) rfl (by decide) (Nat.le_of_ble_eq_true rfl) (t_X11_within τ n s a4 (nI 1) (nI 30) e_x22) ?_
        refine jg_if_eq (x := x22) (tgt := 54) dX11_bond_47 (by decide) (fun c23 => ?_) (fun c23 => ?_)
        · replace h := it_t c23 h
          refine jg_iconst (v := nI 0) dX11_bond_54 (by decide) ?_
          obtain ⟨x24, e_x24, h⟩ := bd_some h
          rcases x24 with y25 | z26
          · replace h := se_l h
            refine cs_callS (As := [.int (nI 0)]) ks_X11_45 dX11_bond_55 rfl (by decide) (Nat.le_of_ble_eq_true rfl) rfl (by decide) (Nat.le_of_ble_eq_true rfl) (t_X11_needArgument τ n s (nI 0) e_x24) ?_
            refine jg_aload_n dX11_bond_58 rfl ?_
            refine cs_get (s := s) (w := .ref (o + 10)) fl_X11_27 dX11_bond_59 hO.ob0 rfl ?_
            refine cs_get (s := s) (w := .ref (o + 131)) fl_X11_141 dX11_bond_62 hO.1.ob0 rfl ?_
            refine cs_get (s := s) (w := .int (s.1 (o + 131) 13)) fl_X11_359 dX11_bond_65 (hO.1.ob 121 (by decide) rfl) rfl ?_
            refine jg_bipush (v := nI 20) dX11_bond_68 (by decide) ?_
            obtain ⟨x27, e_x27, h⟩ := bd_some h
            rcases x27 with y28 | z29
            · replace h := se_l h
              refine cs_callS (As := [.int (s.1 (o + 131) 13), .int (nI 20)]) ks_X11_82 dX11_bond_70 rfl (by decide) (Nat.le_of_ble_eq_true rfl) rfl (by decide) (Nat.le_of_ble_eq_true rfl) (t_X11_needRoom τ n s (s.1 (o + 131) 13) (nI 20) e_x27) ?_
              refine jg_aload_n dX11_bond_73 rfl ?_
              refine cs_get (s := s) (w := .ref (o + 10)) fl_X11_27 dX11_bond_74 hO.ob0 rfl ?_
              refine cs_get (s := s) (w := .ref (o + 131)) fl_X11_141 dX11_bond_77 hO.1.ob0 rfl ?_
              refine jg_aload_n dX11_bond_80 rfl ?_
              refine cs_get (s := s) (w := .ref (o + 10)) fl_X11_27 dX11_bond_81 hO.ob0 rfl ?_
              obtain ⟨x30, e_x30, h⟩ := bd_some h
              refine cs_call (q := (o + 10)) (As := []) kv_X11_362 dX11_bond_84 hO.1.ob0 rfl rfl (by decide) (Nat.le_of_ble_eq_true rfl) rfl (by decide) (Nat.le_of_ble_eq_true rfl) (t_X2_year τ n (o + 10) s hO.1 e_x30) ?_
              obtain ⟨x31, e_x31, h⟩ := bd_some h
              refine cs_call (q := (o + 131)) (As := [.int x30]) kv_X11_365 dX11_bond_87 (hO.1.ob 121 (by decide) rfl) rfl rfl (by decide) (Nat.le_of_ble_eq_true rfl) rfl (by decide) (Nat.le_of_ble_eq_true rfl) (t_X6_borrowed F τ n (o + 10) s x30 hO.1 e_x31) ?_
              refine jg_istore (L' := [some (.ref o), some (.int a1), some (.int a2), some (.int a3), some (.int a4), some (.int x31)]) dX11_bond_90 (by decide) rfl ?_
              refine jg_iload_n dX11_bond_92 rfl ?_
              refine jg_iload dX11_bond_93 rfl ?_
              refine jg_iadd (x := a1) (y := x31) dX11_bond_95  ?_
              refine jg_aload_n dX11_bond_96 rfl ?_
              refine cs_get (s := s) (w := .ref (o + 10)) fl_X11_27 dX11_bond_97 hO.ob0 rfl ?_
              obtain ⟨x32, e_x32, h⟩ := bd_some h
              refine cs_call (q := (o + 10)) (As := []) kv_X11_179 dX11_bond_100 hO.1.ob0 rfl rfl (by decide) (Nat.le_of_ble_eq_true rfl) rfl (by decide) (Nat.le_of_ble_eq_true rfl) (t_X2_actOfToday F τ n (o + 10) s hO.1 e_x32) ?_
              obtain ⟨q33, h⟩ := gd_some h
              refine jg_bipush (v := nI 7) dX11_bond_103 (by decide) ?_
              refine jg_iconst (v := nI 0) dX11_bond_105 (by decide) ?_
              obtain ⟨x34, e_x34, h⟩ := bd_some h
              refine cs_call (q := x32) (As := [.int (nI 7), .int (nI 0)]) kv_X11_368 dX11_bond_106 (acb_ob q33) rfl rfl (by decide) (Nat.le_of_ble_eq_true rfl) rfl (by decide) (Nat.le_of_ble_eq_true rfl) (t_X0_lastNumber F τ n x32 s (nI 7) (nI 0) q33 e_x34) ?_
              refine jg_icmp_le (x := (a1 + x31)) (y := x34) (tgt := 114) dX11_bond_109 (by decide) (fun c35 => ?_) (fun c35 => ?_)
              · replace h := it_t c35 h
                refine jg_aload_n dX11_bond_114 rfl ?_
                refine cs_get (s := s) (w := .ref (o + 10)) fl_X11_27 dX11_bond_115 hO.ob0 rfl ?_
                refine cs_get (s := s) (w := .ref (o + 131)) fl_X11_141 dX11_bond_118 hO.1.ob0 rfl ?_
                refine jg_iload_n dX11_bond_121 rfl ?_
                refine jg_iload_n dX11_bond_122 rfl ?_
                refine jg_iload_n dX11_bond_123 rfl ?_
                refine jg_aload_n dX11_bond_124 rfl ?_
                refine cs_get (s := s) (w := .ref (o + 10)) fl_X11_27 dX11_bond_125 hO.ob0 rfl ?_
                obtain ⟨x36, e_x36, h⟩ := bd_some h
                refine cs_call (q := (o + 10)) (As := []) kv_X11_362 dX11_bond_128 hO.1.ob0 rfl rfl (by decide) (Nat.le_of_ble_eq_true rfl) rfl (by decide) (Nat.le_of_ble_eq_true rfl) (t_X2_year τ n (o + 10) s hO.1 e_x36) ?_
                refine jg_iload dX11_bond_131 rfl ?_
                refine jg_iadd (x := x36) (y := a4) dX11_bond_133  ?_
                refine jg_iconst (v := nI 1) dX11_bond_134 (by decide) ?_
                refine jg_isub (x := (x36 + a4)) (y := (nI 1)) dX11_bond_135  ?_
                obtain ⟨x37, e_x37, h⟩ := bd_some h
                refine cs_call (q := (o + 131)) (As := [.int a1, .int a2, .int a3, .int ((x36 + a4) - (nI 1))]) kv_X11_371 dX11_bond_136 (hO.1.ob 121 (by decide) rfl) rfl rfl (by decide) (Nat.le_of_ble_eq_true rfl) rfl (by decide) (Nat.le_of_ble_eq_true rfl) (t_X6_sell τ n (o + 10) s a1 a2 a3 ((x36 + a4) - (nI 1)) hO.1 e_x37) ?_
                cases h
              · replace h := it_f c35 h
                refine jg_iconst (v := (-1)) dX11_bond_112 (by decide) ?_
                cases h
            · replace h := se_r h
              obtain rfl := Sum.inr.inj (Option.some.inj h)
              exact jc_SX (As := [.int (s.1 (o + 131) 13), .int (nI 20)]) ks_X11_82 dX11_bond_70 rfl (by decide) (Nat.le_of_ble_eq_true rfl) rfl (by decide) (Nat.le_refl _) (Nat.le_refl _) (Nat.le_of_ble_eq_true rfl) (x_X11_needRoom τ n s (s.1 (o + 131) 13) (nI 20) hn hT e_x27) ⟨rfl, rfl⟩
          · replace h := se_r h
            obtain rfl := Sum.inr.inj (Option.some.inj h)
            exact jc_SX (As := [.int (nI 0)]) ks_X11_45 dX11_bond_55 rfl (by decide) (Nat.le_of_ble_eq_true rfl) rfl (by decide) (Nat.le_refl _) (Nat.le_refl _) (Nat.le_of_ble_eq_true rfl) (x_X11_needArgument τ n s (nI 0) hn hT e_x24) ⟨rfl, rfl⟩
        · replace h := it_f c23 h
          refine jg_iconst (v := nI 1) dX11_bond_50 (by decide) ?_
          refine jg_goto (tgt := 55) dX11_bond_51 (by decide) ?_
          obtain ⟨x38, e_x38, h⟩ := bd_some h
          rcases x38 with y39 | z40
          · replace h := se_l h
            refine cs_callS (As := [.int (nI 1)]) ks_X11_45 dX11_bond_55 rfl (by decide) (Nat.le_of_ble_eq_true rfl) rfl (by decide) (Nat.le_of_ble_eq_true rfl) (t_X11_needArgument τ n s (nI 1) e_x38) ?_
            refine jg_aload_n dX11_bond_58 rfl ?_
            refine cs_get (s := s) (w := .ref (o + 10)) fl_X11_27 dX11_bond_59 hO.ob0 rfl ?_
            refine cs_get (s := s) (w := .ref (o + 131)) fl_X11_141 dX11_bond_62 hO.1.ob0 rfl ?_
            refine cs_get (s := s) (w := .int (s.1 (o + 131) 13)) fl_X11_359 dX11_bond_65 (hO.1.ob 121 (by decide) rfl) rfl ?_
            refine jg_bipush (v := nI 20) dX11_bond_68 (by decide) ?_
            obtain ⟨x41, e_x41, h⟩ := bd_some h
            rcases x41 with y42 | z43
            · replace h := se_l h
              refine cs_callS (As := [.int (s.1 (o + 131) 13), .int (nI 20)]) ks_X11_82 dX11_bond_70 rfl (by decide) (Nat.le_of_ble_eq_true rfl) rfl (by decide) (Nat.le_of_ble_eq_true rfl) (t_X11_needRoom τ n s (s.1 (o + 131) 13) (nI 20) e_x41) ?_
              refine jg_aload_n dX11_bond_73 rfl ?_
              refine cs_get (s := s) (w := .ref (o + 10)) fl_X11_27 dX11_bond_74 hO.ob0 rfl ?_
              refine cs_get (s := s) (w := .ref (o + 131)) fl_X11_141 dX11_bond_77 hO.1.ob0 rfl ?_
              refine jg_aload_n dX11_bond_80 rfl ?_
              refine cs_get (s := s) (w := .ref (o + 10)) fl_X11_27 dX11_bond_81 hO.ob0 rfl ?_
              obtain ⟨x44, e_x44, h⟩ := bd_some h
              refine cs_call (q := (o + 10)) (As := []) kv_X11_362 dX11_bond_84 hO.1.ob0 rfl rfl (by decide) (Nat.le_of_ble_eq_true rfl) rfl (by decide) (Nat.le_of_ble_eq_true rfl) (t_X2_year τ n (o + 10) s hO.1 e_x44) ?_
              obtain ⟨x45, e_x45, h⟩ := bd_some h
              refine cs_call (q := (o + 131)) (As := [.int x44]) kv_X11_365 dX11_bond_87 (hO.1.ob 121 (by decide) rfl) rfl rfl (by decide) (Nat.le_of_ble_eq_true rfl) rfl (by decide) (Nat.le_of_ble_eq_true rfl) (t_X6_borrowed F τ n (o + 10) s x44 hO.1 e_x45) ?_
              refine jg_istore (L' := [some (.ref o), some (.int a1), some (.int a2), some (.int a3), some (.int a4), some (.int x45)]) dX11_bond_90 (by decide) rfl ?_
              refine jg_iload_n dX11_bond_92 rfl ?_
              refine jg_iload dX11_bond_93 rfl ?_
              refine jg_iadd (x := a1) (y := x45) dX11_bond_95  ?_
              refine jg_aload_n dX11_bond_96 rfl ?_
              refine cs_get (s := s) (w := .ref (o + 10)) fl_X11_27 dX11_bond_97 hO.ob0 rfl ?_
              obtain ⟨x46, e_x46, h⟩ := bd_some h
              refine cs_call (q := (o + 10)) (As := []) kv_X11_179 dX11_bond_100 hO.1.ob0 rfl rfl (by decide) (Nat.le_of_ble_eq_true rfl) rfl (by decide) (Nat.le_of_ble_eq_true rfl) (t_X2_actOfToday F τ n (o + 10) s hO.1 e_x46) ?_
              obtain ⟨q47, h⟩ := gd_some h
              refine jg_bipush (v := nI 7) dX11_bond_103 (by decide) ?_
              refine jg_iconst (v := nI 0) dX11_bond_105 (by decide) ?_
              obtain ⟨x48, e_x48, h⟩ := bd_some h
              refine cs_call (q := x46) (As := [.int (nI 7), .int (nI 0)]) kv_X11_368 dX11_bond_106 (acb_ob q47) rfl rfl (by decide) (Nat.le_of_ble_eq_true rfl) rfl (by decide) (Nat.le_of_ble_eq_true rfl) (t_X0_lastNumber F τ n x46 s (nI 7) (nI 0) q47 e_x48) ?_
              refine jg_icmp_le (x := (a1 + x45)) (y := x48) (tgt := 114) dX11_bond_109 (by decide) (fun c49 => ?_) (fun c49 => ?_)
              · replace h := it_t c49 h
                refine jg_aload_n dX11_bond_114 rfl ?_
                refine cs_get (s := s) (w := .ref (o + 10)) fl_X11_27 dX11_bond_115 hO.ob0 rfl ?_
                refine cs_get (s := s) (w := .ref (o + 131)) fl_X11_141 dX11_bond_118 hO.1.ob0 rfl ?_
                refine jg_iload_n dX11_bond_121 rfl ?_
                refine jg_iload_n dX11_bond_122 rfl ?_
                refine jg_iload_n dX11_bond_123 rfl ?_
                refine jg_aload_n dX11_bond_124 rfl ?_
                refine cs_get (s := s) (w := .ref (o + 10)) fl_X11_27 dX11_bond_125 hO.ob0 rfl ?_
                obtain ⟨x50, e_x50, h⟩ := bd_some h
                refine cs_call (q := (o + 10)) (As := []) kv_X11_362 dX11_bond_128 hO.1.ob0 rfl rfl (by decide) (Nat.le_of_ble_eq_true rfl) rfl (by decide) (Nat.le_of_ble_eq_true rfl) (t_X2_year τ n (o + 10) s hO.1 e_x50) ?_
                refine jg_iload dX11_bond_131 rfl ?_
                refine jg_iadd (x := x50) (y := a4) dX11_bond_133  ?_
                refine jg_iconst (v := nI 1) dX11_bond_134 (by decide) ?_
                refine jg_isub (x := (x50 + a4)) (y := (nI 1)) dX11_bond_135  ?_
                obtain ⟨x51, e_x51, h⟩ := bd_some h
                refine cs_call (q := (o + 131)) (As := [.int a1, .int a2, .int a3, .int ((x50 + a4) - (nI 1))]) kv_X11_371 dX11_bond_136 (hO.1.ob 121 (by decide) rfl) rfl rfl (by decide) (Nat.le_of_ble_eq_true rfl) rfl (by decide) (Nat.le_of_ble_eq_true rfl) (t_X6_sell τ n (o + 10) s a1 a2 a3 ((x50 + a4) - (nI 1)) hO.1 e_x51) ?_
                cases h
              · replace h := it_f c49 h
                refine jg_iconst (v := (-1)) dX11_bond_112 (by decide) ?_
                cases h
            · replace h := se_r h
              obtain rfl := Sum.inr.inj (Option.some.inj h)
              exact jc_SX (As := [.int (s.1 (o + 131) 13), .int (nI 20)]) ks_X11_82 dX11_bond_70 rfl (by decide) (Nat.le_of_ble_eq_true rfl) rfl (by decide) (Nat.le_refl _) (Nat.le_refl _) (Nat.le_of_ble_eq_true rfl) (x_X11_needRoom τ n s (s.1 (o + 131) 13) (nI 20) hn hT e_x41) ⟨rfl, rfl⟩
          · replace h := se_r h
            obtain rfl := Sum.inr.inj (Option.some.inj h)
            exact jc_SX (As := [.int (nI 1)]) ks_X11_45 dX11_bond_55 rfl (by decide) (Nat.le_of_ble_eq_true rfl) rfl (by decide) (Nat.le_refl _) (Nat.le_refl _) (Nat.le_of_ble_eq_true rfl) (x_X11_needArgument τ n s (nI 1) hn hT e_x38) ⟨rfl, rfl⟩
    · replace h := se_r h
      obtain rfl := Sum.inr.inj (Option.some.inj h)
      exact jc_SX (As := [.int (nI 0)]) ks_X11_45 dX11_bond_26 rfl (by decide) (Nat.le_of_ble_eq_true rfl) rfl (by decide) (Nat.le_refl _) (Nat.le_refl _) (Nat.le_of_ble_eq_true rfl) (x_X11_needArgument τ n s (nI 0) hn hT e_x3) ⟨rfl, rfl⟩
  · replace h := it_f c2 h
    refine jg_iload_n dX11_bond_10 rfl ?_
    refine jg_iconst (v := nI 0) dX11_bond_11 (by decide) ?_
    refine jg_sipush (v := nI 2000) dX11_bond_12 (by decide) ?_
    obtain ⟨x52, e_x52, h⟩ := bd_some h
    refine cs_callS (As := [.int a2, .int (nI 0), .int (nI 2000)]) ks_X11_41 dX11_bond_15 rfl (by decide) (Nat.le_of_ble_eq_true rfl) rfl (by decide) (Nat.le_of_ble_eq_true rfl) (t_X11_within τ n s a2 (nI 0) (nI 2000) e_x52) ?_
    refine jg_if_eq (x := x52) (tgt := 25) dX11_bond_18 (by decide) (fun c53 => ?_) (fun c53 => ?_)
    · replace h := it_t c53 h
      refine jg_iconst (v := nI 0) dX11_bond_25 (by decide) ?_
      obtain ⟨x54, e_x54, h⟩ := bd_some h
      rcases x54 with y55 | z56
      · replace h := se_l h
        refine cs_callS (As := [.int (nI 0)]) ks_X11_45 dX11_bond_26 rfl (by decide) (Nat.le_of_ble_eq_true rfl) rfl (by decide) (Nat.le_of_ble_eq_true rfl) (t_X11_needArgument τ n s (nI 0) e_x54) ?_
        refine jg_iload_n dX11_bond_29 rfl ?_
        refine jg_iconst (v := nI 0) dX11_bond_30 (by decide) ?_
        refine jg_bipush (v := nI 9) dX11_bond_31 (by decide) ?_
        obtain ⟨x57, e_x57, h⟩ := bd_some h
        refine cs_callS (As := [.int a3, .int (nI 0), .int (nI 9)]) ks_X11_41 dX11_bond_33 rfl (by decide) (Nat.le_of_ble_eq_true rfl) rfl (by decide) (Nat.le_of_ble_eq_true rfl) (t_X11_within τ n s a3 (nI 0) (nI 9) e_x57) ?_
        refine jg_if_eq (x := x57) (tgt := 54) dX11_bond_36 (by decide) (fun c58 => ?_) (fun c58 => ?_)
        · replace h := it_t c58 h
          refine jg_iconst (v := nI 0) dX11_bond_54 (by decide) ?_
          obtain ⟨x59, e_x59, h⟩ := bd_some h
          rcases x59 with y60 | z61
          · replace h := se_l h
            refine cs_callS (As := [.int (nI 0)]) ks_X11_45 dX11_bond_55 rfl (by decide) (Nat.le_of_ble_eq_true rfl) rfl (by decide) (Nat.le_of_ble_eq_true rfl) (t_X11_needArgument τ n s (nI 0) e_x59) ?_
            refine jg_aload_n dX11_bond_58 rfl ?_
            refine cs_get (s := s) (w := .ref (o + 10)) fl_X11_27 dX11_bond_59 hO.ob0 rfl ?_
            refine cs_get (s := s) (w := .ref (o + 131)) fl_X11_141 dX11_bond_62 hO.1.ob0 rfl ?_
            refine cs_get (s := s) (w := .int (s.1 (o + 131) 13)) fl_X11_359 dX11_bond_65 (hO.1.ob 121 (by decide) rfl) rfl ?_
            refine jg_bipush (v := nI 20) dX11_bond_68 (by decide) ?_
            obtain ⟨x62, e_x62, h⟩ := bd_some h
            rcases x62 with y63 | z64
            · replace h := se_l h
              refine cs_callS (As := [.int (s.1 (o + 131) 13), .int (nI 20)]) ks_X11_82 dX11_bond_70 rfl (by decide) (Nat.le_of_ble_eq_true rfl) rfl (by decide) (Nat.le_of_ble_eq_true rfl) (t_X11_needRoom τ n s (s.1 (o + 131) 13) (nI 20) e_x62) ?_
              refine jg_aload_n dX11_bond_73 rfl ?_
              refine cs_get (s := s) (w := .ref (o + 10)) fl_X11_27 dX11_bond_74 hO.ob0 rfl ?_
              refine cs_get (s := s) (w := .ref (o + 131)) fl_X11_141 dX11_bond_77 hO.1.ob0 rfl ?_
              refine jg_aload_n dX11_bond_80 rfl ?_
              refine cs_get (s := s) (w := .ref (o + 10)) fl_X11_27 dX11_bond_81 hO.ob0 rfl ?_
              obtain ⟨x65, e_x65, h⟩ := bd_some h
              refine cs_call (q := (o + 10)) (As := []) kv_X11_362 dX11_bond_84 hO.1.ob0 rfl rfl (by decide) (Nat.le_of_ble_eq_true rfl) rfl (by decide) (Nat.le_of_ble_eq_true rfl) (t_X2_year τ n (o + 10) s hO.1 e_x65) ?_
              obtain ⟨x66, e_x66, h⟩ := bd_some h
              refine cs_call (q := (o + 131)) (As := [.int x65]) kv_X11_365 dX11_bond_87 (hO.1.ob 121 (by decide) rfl) rfl rfl (by decide) (Nat.le_of_ble_eq_true rfl) rfl (by decide) (Nat.le_of_ble_eq_true rfl) (t_X6_borrowed F τ n (o + 10) s x65 hO.1 e_x66) ?_
              refine jg_istore (L' := [some (.ref o), some (.int a1), some (.int a2), some (.int a3), some (.int a4), some (.int x66)]) dX11_bond_90 (by decide) rfl ?_
              refine jg_iload_n dX11_bond_92 rfl ?_
              refine jg_iload dX11_bond_93 rfl ?_
              refine jg_iadd (x := a1) (y := x66) dX11_bond_95  ?_
              refine jg_aload_n dX11_bond_96 rfl ?_
              refine cs_get (s := s) (w := .ref (o + 10)) fl_X11_27 dX11_bond_97 hO.ob0 rfl ?_
              obtain ⟨x67, e_x67, h⟩ := bd_some h
              refine cs_call (q := (o + 10)) (As := []) kv_X11_179 dX11_bond_100 hO.1.ob0 rfl rfl (by decide) (Nat.le_of_ble_eq_true rfl) rfl (by decide) (Nat.le_of_ble_eq_true rfl) (t_X2_actOfToday F τ n (o + 10) s hO.1 e_x67) ?_
              obtain ⟨q68, h⟩ := gd_some h
              refine jg_bipush (v := nI 7) dX11_bond_103 (by decide) ?_
              refine jg_iconst (v := nI 0) dX11_bond_105 (by decide) ?_
              obtain ⟨x69, e_x69, h⟩ := bd_some h
              refine cs_call (q := x67) (As := [.int (nI 7), .int (nI 0)]) kv_X11_368 dX11_bond_106 (acb_ob q68) rfl rfl (by decide) (Nat.le_of_ble_eq_true rfl) rfl (by decide) (Nat.le_of_ble_eq_true rfl) (t_X0_lastNumber F τ n x67 s (nI 7) (nI 0) q68 e_x69) ?_
              refine jg_icmp_le (x := (a1 + x66)) (y := x69) (tgt := 114) dX11_bond_109 (by decide) (fun c70 => ?_) (fun c70 => ?_)
              · replace h := it_t c70 h
                refine jg_aload_n dX11_bond_114 rfl ?_
                refine cs_get (s := s) (w := .ref (o + 10)) fl_X11_27 dX11_bond_115 hO.ob0 rfl ?_
                refine cs_get (s := s) (w := .ref (o + 131)) fl_X11_141 dX11_bond_118 hO.1.ob0 rfl ?_
                refine jg_iload_n dX11_bond_121 rfl ?_
                refine jg_iload_n dX11_bond_122 rfl ?_
                refine jg_iload_n dX11_bond_123 rfl ?_
                refine jg_aload_n dX11_bond_124 rfl ?_
                refine cs_get (s := s) (w := .ref (o + 10)) fl_X11_27 dX11_bond_125 hO.ob0 rfl ?_
                obtain ⟨x71, e_x71, h⟩ := bd_some h
                refine cs_call (q := (o + 10)) (As := []) kv_X11_362 dX11_bond_128 hO.1.ob0 rfl rfl (by decide) (Nat.le_of_ble_eq_true rfl) rfl (by decide) (Nat.le_of_ble_eq_true rfl) (t_X2_year τ n (o + 10) s hO.1 e_x71) ?_
                refine jg_iload dX11_bond_131 rfl ?_
                refine jg_iadd (x := x71) (y := a4) dX11_bond_133  ?_
                refine jg_iconst (v := nI 1) dX11_bond_134 (by decide) ?_
                refine jg_isub (x := (x71 + a4)) (y := (nI 1)) dX11_bond_135  ?_
                obtain ⟨x72, e_x72, h⟩ := bd_some h
                refine cs_call (q := (o + 131)) (As := [.int a1, .int a2, .int a3, .int ((x71 + a4) - (nI 1))]) kv_X11_371 dX11_bond_136 (hO.1.ob 121 (by decide) rfl) rfl rfl (by decide) (Nat.le_of_ble_eq_true rfl) rfl (by decide) (Nat.le_of_ble_eq_true rfl) (t_X6_sell τ n (o + 10) s a1 a2 a3 ((x71 + a4) - (nI 1)) hO.1 e_x72) ?_
                cases h
              · replace h := it_f c70 h
                refine jg_iconst (v := (-1)) dX11_bond_112 (by decide) ?_
                cases h
            · replace h := se_r h
              obtain rfl := Sum.inr.inj (Option.some.inj h)
              exact jc_SX (As := [.int (s.1 (o + 131) 13), .int (nI 20)]) ks_X11_82 dX11_bond_70 rfl (by decide) (Nat.le_of_ble_eq_true rfl) rfl (by decide) (Nat.le_refl _) (Nat.le_refl _) (Nat.le_of_ble_eq_true rfl) (x_X11_needRoom τ n s (s.1 (o + 131) 13) (nI 20) hn hT e_x62) ⟨rfl, rfl⟩
          · replace h := se_r h
            obtain rfl := Sum.inr.inj (Option.some.inj h)
            exact jc_SX (As := [.int (nI 0)]) ks_X11_45 dX11_bond_55 rfl (by decide) (Nat.le_of_ble_eq_true rfl) rfl (by decide) (Nat.le_refl _) (Nat.le_refl _) (Nat.le_of_ble_eq_true rfl) (x_X11_needArgument τ n s (nI 0) hn hT e_x59) ⟨rfl, rfl⟩
        · replace h := it_f c58 h
          refine jg_iload dX11_bond_39 rfl ?_
          refine jg_iconst (v := nI 1) dX11_bond_41 (by decide) ?_
          refine jg_bipush (v := nI 30) dX11_bond_42 (by decide) ?_
          obtain ⟨x73, e_x73, h⟩ := bd_some h
          refine cs_callS (As := [.int a4, .int (nI 1), .int (nI 30)]) ks_X11_41 dX11_bond_44 rfl (by decide) (Nat.le_of_ble_eq_true rfl) rfl (by decide) (Nat.le_of_ble_eq_true rfl) (t_X11_within τ n s a4 (nI 1) (nI 30) e_x73) ?_
          refine jg_if_eq (x := x73) (tgt := 54) dX11_bond_47 (by decide) (fun c74 => ?_) (fun c74 => ?_)
          · replace h := it_t c74 h
            refine jg_iconst (v := nI 0) dX11_bond_54 (by decide) ?_
            obtain ⟨x75, e_x75, h⟩ := bd_some h
            rcases x75 with y76 | z77
            · replace h := se_l h
              refine cs_callS (As := [.int (nI 0)]) ks_X11_45 dX11_bond_55 rfl (by decide) (Nat.le_of_ble_eq_true rfl) rfl (by decide) (Nat.le_of_ble_eq_true rfl) (t_X11_needArgument τ n s (nI 0) e_x75) ?_
              refine jg_aload_n dX11_bond_58 rfl ?_
              refine cs_get (s := s) (w := .ref (o + 10)) fl_X11_27 dX11_bond_59 hO.ob0 rfl ?_
              refine cs_get (s := s) (w := .ref (o + 131)) fl_X11_141 dX11_bond_62 hO.1.ob0 rfl ?_
              refine cs_get (s := s) (w := .int (s.1 (o + 131) 13)) fl_X11_359 dX11_bond_65 (hO.1.ob 121 (by decide) rfl) rfl ?_
              refine jg_bipush (v := nI 20) dX11_bond_68 (by decide) ?_
              obtain ⟨x78, e_x78, h⟩ := bd_some h
              rcases x78 with y79 | z80
              · replace h := se_l h
                refine cs_callS (As := [.int (s.1 (o + 131) 13), .int (nI 20)]) ks_X11_82 dX11_bond_70 rfl (by decide) (Nat.le_of_ble_eq_true rfl) rfl (by decide) (Nat.le_of_ble_eq_true rfl) (t_X11_needRoom τ n s (s.1 (o + 131) 13) (nI 20) e_x78) ?_
                refine jg_aload_n dX11_bond_73 rfl ?_
                refine cs_get (s := s) (w := .ref (o + 10)) fl_X11_27 dX11_bond_74 hO.ob0 rfl ?_
                refine cs_get (s := s) (w := .ref (o + 131)) fl_X11_141 dX11_bond_77 hO.1.ob0 rfl ?_
                refine jg_aload_n dX11_bond_80 rfl ?_
                refine cs_get (s := s) (w := .ref (o + 10)) fl_X11_27 dX11_bond_81 hO.ob0 rfl ?_
                obtain ⟨x81, e_x81, h⟩ := bd_some h
                refine cs_call (q := (o + 10)) (As := []) kv_X11_362 dX11_bond_84 hO.1.ob0 rfl rfl (by decide) (Nat.le_of_ble_eq_true rfl) rfl (by decide) (Nat.le_of_ble_eq_true rfl) (t_X2_year τ n (o + 10) s hO.1 e_x81) ?_
                obtain ⟨x82, e_x82, h⟩ := bd_some h
                refine cs_call (q := (o + 131)) (As := [.int x81]) kv_X11_365 dX11_bond_87 (hO.1.ob 121 (by decide) rfl) rfl rfl (by decide) (Nat.le_of_ble_eq_true rfl) rfl (by decide) (Nat.le_of_ble_eq_true rfl) (t_X6_borrowed F τ n (o + 10) s x81 hO.1 e_x82) ?_
                refine jg_istore (L' := [some (.ref o), some (.int a1), some (.int a2), some (.int a3), some (.int a4), some (.int x82)]) dX11_bond_90 (by decide) rfl ?_
                refine jg_iload_n dX11_bond_92 rfl ?_
                refine jg_iload dX11_bond_93 rfl ?_
                refine jg_iadd (x := a1) (y := x82) dX11_bond_95  ?_
                refine jg_aload_n dX11_bond_96 rfl ?_
                refine cs_get (s := s) (w := .ref (o + 10)) fl_X11_27 dX11_bond_97 hO.ob0 rfl ?_
                obtain ⟨x83, e_x83, h⟩ := bd_some h
                refine cs_call (q := (o + 10)) (As := []) kv_X11_179 dX11_bond_100 hO.1.ob0 rfl rfl (by decide) (Nat.le_of_ble_eq_true rfl) rfl (by decide) (Nat.le_of_ble_eq_true rfl) (t_X2_actOfToday F τ n (o + 10) s hO.1 e_x83) ?_
                obtain ⟨q84, h⟩ := gd_some h
                refine jg_bipush (v := nI 7) dX11_bond_103 (by decide) ?_
                refine jg_iconst (v := nI 0) dX11_bond_105 (by decide) ?_
                obtain ⟨x85, e_x85, h⟩ := bd_some h
                refine cs_call (q := x83) (As := [.int (nI 7), .int (nI 0)]) kv_X11_368 dX11_bond_106 (acb_ob q84) rfl rfl (by decide) (Nat.le_of_ble_eq_true rfl) rfl (by decide) (Nat.le_of_ble_eq_true rfl) (t_X0_lastNumber F τ n x83 s (nI 7) (nI 0) q84 e_x85) ?_
                refine jg_icmp_le (x := (a1 + x82)) (y := x85) (tgt := 114) dX11_bond_109 (by decide) (fun c86 => ?_) (fun c86 => ?_)
                · replace h := it_t c86 h
                  refine jg_aload_n dX11_bond_114 rfl ?_
                  refine cs_get (s := s) (w := .ref (o + 10)) fl_X11_27 dX11_bond_115 hO.ob0 rfl ?_
                  refine cs_get (s := s) (w := .ref (o + 131)) fl_X11_141 dX11_bond_118 hO.1.ob0 rfl ?_
                  refine jg_iload_n dX11_bond_121 rfl ?_
                  refine jg_iload_n dX11_bond_122 rfl ?_
                  refine jg_iload_n dX11_bond_123 rfl ?_
                  refine jg_aload_n dX11_bond_124 rfl ?_
                  refine cs_get (s := s) (w := .ref (o + 10)) fl_X11_27 dX11_bond_125 hO.ob0 rfl ?_
                  obtain ⟨x87, e_x87, h⟩ := bd_some h
                  refine cs_call (q := (o + 10)) (As := []) kv_X11_362 dX11_bond_128 hO.1.ob0 rfl rfl (by decide) (Nat.le_of_ble_eq_true rfl) rfl (by decide) (Nat.le_of_ble_eq_true rfl) (t_X2_year τ n (o + 10) s hO.1 e_x87) ?_
                  refine jg_iload dX11_bond_131 rfl ?_
                  refine jg_iadd (x := x87) (y := a4) dX11_bond_133  ?_
                  refine jg_iconst (v := nI 1) dX11_bond_134 (by decide) ?_
                  refine jg_isub (x := (x87 + a4)) (y := (nI 1)) dX11_bond_135  ?_
                  obtain ⟨x88, e_x88, h⟩ := bd_some h
                  refine cs_call (q := (o + 131)) (As := [.int a1, .int a2, .int a3, .int ((x87 + a4) - (nI 1))]) kv_X11_371 dX11_bond_136 (hO.1.ob 121 (by decide) rfl) rfl rfl (by decide) (Nat.le_of_ble_eq_true rfl) rfl (by decide) (Nat.le_of_ble_eq_true rfl) (t_X6_sell τ n (o + 10) s a1 a2 a3 ((x87 + a4) - (nI 1)) hO.1 e_x88) ?_
                  cases h
                · replace h := it_f c86 h
                  refine jg_iconst (v := (-1)) dX11_bond_112 (by decide) ?_
                  cases h
              · replace h := se_r h
                obtain rfl := Sum.inr.inj (Option.some.inj h)
                exact jc_SX (As := [.int (s.1 (o + 131) 13), .int (nI 20)]) ks_X11_82 dX11_bond_70 rfl (by decide) (Nat.le_of_ble_eq_true rfl) rfl (by decide) (Nat.le_refl _) (Nat.le_refl _) (Nat.le_of_ble_eq_true rfl) (x_X11_needRoom τ n s (s.1 (o + 131) 13) (nI 20) hn hT e_x78) ⟨rfl, rfl⟩
            · replace h := se_r h
              obtain rfl := Sum.inr.inj (Option.some.inj h)
              exact jc_SX (As := [.int (nI 0)]) ks_X11_45 dX11_bond_55 rfl (by decide) (Nat.le_of_ble_eq_true rfl) rfl (by decide) (Nat.le_refl _) (Nat.le_refl _) (Nat.le_of_ble_eq_true rfl) (x_X11_needArgument τ n s (nI 0) hn hT e_x75) ⟨rfl, rfl⟩
          · replace h := it_f c74 h
            refine jg_iconst (v := nI 1) dX11_bond_50 (by decide) ?_
            refine jg_goto (tgt := 55) dX11_bond_51 (by decide) ?_
            obtain ⟨x89, e_x89, h⟩ := bd_some h
            rcases x89 with y90 | z91
            · replace h := se_l h
              refine cs_callS (As := [.int (nI 1)]) ks_X11_45 dX11_bond_55 rfl (by decide) (Nat.le_of_ble_eq_true rfl) rfl (by decide) (Nat.le_of_ble_eq_true rfl) (t_X11_needArgument τ n s (nI 1) e_x89) ?_
              refine jg_aload_n dX11_bond_58 rfl ?_
              refine cs_get (s := s) (w := .ref (o + 10)) fl_X11_27 dX11_bond_59 hO.ob0 rfl ?_
              refine cs_get (s := s) (w := .ref (o + 131)) fl_X11_141 dX11_bond_62 hO.1.ob0 rfl ?_
              refine cs_get (s := s) (w := .int (s.1 (o + 131) 13)) fl_X11_359 dX11_bond_65 (hO.1.ob 121 (by decide) rfl) rfl ?_
              refine jg_bipush (v := nI 20) dX11_bond_68 (by decide) ?_
              obtain ⟨x92, e_x92, h⟩ := bd_some h
              rcases x92 with y93 | z94
              · replace h := se_l h
                refine cs_callS (As := [.int (s.1 (o + 131) 13), .int (nI 20)]) ks_X11_82 dX11_bond_70 rfl (by decide) (Nat.le_of_ble_eq_true rfl) rfl (by decide) (Nat.le_of_ble_eq_true rfl) (t_X11_needRoom τ n s (s.1 (o + 131) 13) (nI 20) e_x92) ?_
                refine jg_aload_n dX11_bond_73 rfl ?_
                refine cs_get (s := s) (w := .ref (o + 10)) fl_X11_27 dX11_bond_74 hO.ob0 rfl ?_
                refine cs_get (s := s) (w := .ref (o + 131)) fl_X11_141 dX11_bond_77 hO.1.ob0 rfl ?_
                refine jg_aload_n dX11_bond_80 rfl ?_
                refine cs_get (s := s) (w := .ref (o + 10)) fl_X11_27 dX11_bond_81 hO.ob0 rfl ?_
                obtain ⟨x95, e_x95, h⟩ := bd_some h
                refine cs_call (q := (o + 10)) (As := []) kv_X11_362 dX11_bond_84 hO.1.ob0 rfl rfl (by decide) (Nat.le_of_ble_eq_true rfl) rfl (by decide) (Nat.le_of_ble_eq_true rfl) (t_X2_year τ n (o + 10) s hO.1 e_x95) ?_
                obtain ⟨x96, e_x96, h⟩ := bd_some h
                refine cs_call (q := (o + 131)) (As := [.int x95]) kv_X11_365 dX11_bond_87 (hO.1.ob 121 (by decide) rfl) rfl rfl (by decide) (Nat.le_of_ble_eq_true rfl) rfl (by decide) (Nat.le_of_ble_eq_true rfl) (t_X6_borrowed F τ n (o + 10) s x95 hO.1 e_x96) ?_
                refine jg_istore (L' := [some (.ref o), some (.int a1), some (.int a2), some (.int a3), some (.int a4), some (.int x96)]) dX11_bond_90 (by decide) rfl ?_
                refine jg_iload_n dX11_bond_92 rfl ?_
                refine jg_iload dX11_bond_93 rfl ?_
                refine jg_iadd (x := a1) (y := x96) dX11_bond_95  ?_
                refine jg_aload_n dX11_bond_96 rfl ?_
                refine cs_get (s := s) (w := .ref (o + 10)) fl_X11_27 dX11_bond_97 hO.ob0 rfl ?_
                obtain ⟨x97, e_x97, h⟩ := bd_some h
                refine cs_call (q := (o + 10)) (As := []) kv_X11_179 dX11_bond_100 hO.1.ob0 rfl rfl (by decide) (Nat.le_of_ble_eq_true rfl) rfl (by decide) (Nat.le_of_ble_eq_true rfl) (t_X2_actOfToday F τ n (o + 10) s hO.1 e_x97) ?_
                obtain ⟨q98, h⟩ := gd_some h
                refine jg_bipush (v := nI 7) dX11_bond_103 (by decide) ?_
                refine jg_iconst (v := nI 0) dX11_bond_105 (by decide) ?_
                obtain ⟨x99, e_x99, h⟩ := bd_some h
                refine cs_call (q := x97) (As := [.int (nI 7), .int (nI 0)]) kv_X11_368 dX11_bond_106 (acb_ob q98) rfl rfl (by decide) (Nat.le_of_ble_eq_true rfl) rfl (by decide) (Nat.le_of_ble_eq_true rfl) (t_X0_lastNumber F τ n x97 s (nI 7) (nI 0) q98 e_x99) ?_
                refine jg_icmp_le (x := (a1 + x96)) (y := x99) (tgt := 114) dX11_bond_109 (by decide) (fun c100 => ?_) (fun c100 => ?_)
                · replace h := it_t c100 h
                  refine jg_aload_n dX11_bond_114 rfl ?_
                  refine cs_get (s := s) (w := .ref (o + 10)) fl_X11_27 dX11_bond_115 hO.ob0 rfl ?_
                  refine cs_get (s := s) (w := .ref (o + 131)) fl_X11_141 dX11_bond_118 hO.1.ob0 rfl ?_
                  refine jg_iload_n dX11_bond_121 rfl ?_
                  refine jg_iload_n dX11_bond_122 rfl ?_
                  refine jg_iload_n dX11_bond_123 rfl ?_
                  refine jg_aload_n dX11_bond_124 rfl ?_
                  refine cs_get (s := s) (w := .ref (o + 10)) fl_X11_27 dX11_bond_125 hO.ob0 rfl ?_
                  obtain ⟨x101, e_x101, h⟩ := bd_some h
                  refine cs_call (q := (o + 10)) (As := []) kv_X11_362 dX11_bond_128 hO.1.ob0 rfl rfl (by decide) (Nat.le_of_ble_eq_true rfl) rfl (by decide) (Nat.le_of_ble_eq_true rfl) (t_X2_year τ n (o + 10) s hO.1 e_x101) ?_
                  refine jg_iload dX11_bond_131 rfl ?_
                  refine jg_iadd (x := x101) (y := a4) dX11_bond_133  ?_
                  refine jg_iconst (v := nI 1) dX11_bond_134 (by decide) ?_
                  refine jg_isub (x := (x101 + a4)) (y := (nI 1)) dX11_bond_135  ?_
                  obtain ⟨x102, e_x102, h⟩ := bd_some h
                  refine cs_call (q := (o + 131)) (As := [.int a1, .int a2, .int a3, .int ((x101 + a4) - (nI 1))]) kv_X11_371 dX11_bond_136 (hO.1.ob 121 (by decide) rfl) rfl rfl (by decide) (Nat.le_of_ble_eq_true rfl) rfl (by decide) (Nat.le_of_ble_eq_true rfl) (t_X6_sell τ n (o + 10) s a1 a2 a3 ((x101 + a4) - (nI 1)) hO.1 e_x102) ?_
                  cases h
                · replace h := it_f c100 h
                  refine jg_iconst (v := (-1)) dX11_bond_112 (by decide) ?_
                  cases h
              · replace h := se_r h
                obtain rfl := Sum.inr.inj (Option.some.inj h)
                exact jc_SX (As := [.int (s.1 (o + 131) 13), .int (nI 20)]) ks_X11_82 dX11_bond_70 rfl (by decide) (Nat.le_of_ble_eq_true rfl) rfl (by decide) (Nat.le_refl _) (Nat.le_refl _) (Nat.le_of_ble_eq_true rfl) (x_X11_needRoom τ n s (s.1 (o + 131) 13) (nI 20) hn hT e_x92) ⟨rfl, rfl⟩
            · replace h := se_r h
              obtain rfl := Sum.inr.inj (Option.some.inj h)
              exact jc_SX (As := [.int (nI 1)]) ks_X11_45 dX11_bond_55 rfl (by decide) (Nat.le_of_ble_eq_true rfl) rfl (by decide) (Nat.le_refl _) (Nat.le_refl _) (Nat.le_of_ble_eq_true rfl) (x_X11_needArgument τ n s (nI 1) hn hT e_x89) ⟨rfl, rfl⟩
      · replace h := se_r h
        obtain rfl := Sum.inr.inj (Option.some.inj h)
        exact jc_SX (As := [.int (nI 0)]) ks_X11_45 dX11_bond_26 rfl (by decide) (Nat.le_of_ble_eq_true rfl) rfl (by decide) (Nat.le_refl _) (Nat.le_refl _) (Nat.le_of_ble_eq_true rfl) (x_X11_needArgument τ n s (nI 0) hn hT e_x54) ⟨rfl, rfl⟩
    · replace h := it_f c53 h
      refine jg_iconst (v := nI 1) dX11_bond_21 (by decide) ?_
      refine jg_goto (tgt := 26) dX11_bond_22 (by decide) ?_
      obtain ⟨x103, e_x103, h⟩ := bd_some h
      rcases x103 with y104 | z105
      · replace h := se_l h
        refine cs_callS (As := [.int (nI 1)]) ks_X11_45 dX11_bond_26 rfl (by decide) (Nat.le_of_ble_eq_true rfl) rfl (by decide) (Nat.le_of_ble_eq_true rfl) (t_X11_needArgument τ n s (nI 1) e_x103) ?_
        refine jg_iload_n dX11_bond_29 rfl ?_
        refine jg_iconst (v := nI 0) dX11_bond_30 (by decide) ?_
        refine jg_bipush (v := nI 9) dX11_bond_31 (by decide) ?_
        obtain ⟨x106, e_x106, h⟩ := bd_some h
        refine cs_callS (As := [.int a3, .int (nI 0), .int (nI 9)]) ks_X11_41 dX11_bond_33 rfl (by decide) (Nat.le_of_ble_eq_true rfl) rfl (by decide) (Nat.le_of_ble_eq_true rfl) (t_X11_within τ n s a3 (nI 0) (nI 9) e_x106) ?_
        refine jg_if_eq (x := x106) (tgt := 54) dX11_bond_36 (by decide) (fun c107 => ?_) (fun c107 => ?_)
        · replace h := it_t c107 h
          refine jg_iconst (v := nI 0) dX11_bond_54 (by decide) ?_
          obtain ⟨x108, e_x108, h⟩ := bd_some h
          rcases x108 with y109 | z110
          · replace h := se_l h
            refine cs_callS (As := [.int (nI 0)]) ks_X11_45 dX11_bond_55 rfl (by decide) (Nat.le_of_ble_eq_true rfl) rfl (by decide) (Nat.le_of_ble_eq_true rfl) (t_X11_needArgument τ n s (nI 0) e_x108) ?_
            refine jg_aload_n dX11_bond_58 rfl ?_
            refine cs_get (s := s) (w := .ref (o + 10)) fl_X11_27 dX11_bond_59 hO.ob0 rfl ?_
            refine cs_get (s := s) (w := .ref (o + 131)) fl_X11_141 dX11_bond_62 hO.1.ob0 rfl ?_
            refine cs_get (s := s) (w := .int (s.1 (o + 131) 13)) fl_X11_359 dX11_bond_65 (hO.1.ob 121 (by decide) rfl) rfl ?_
            refine jg_bipush (v := nI 20) dX11_bond_68 (by decide) ?_
            obtain ⟨x111, e_x111, h⟩ := bd_some h
            rcases x111 with y112 | z113
            · replace h := se_l h
              refine cs_callS (As := [.int (s.1 (o + 131) 13), .int (nI 20)]) ks_X11_82 dX11_bond_70 rfl (by decide) (Nat.le_of_ble_eq_true rfl) rfl (by decide) (Nat.le_of_ble_eq_true rfl) (t_X11_needRoom τ n s (s.1 (o + 131) 13) (nI 20) e_x111) ?_
              refine jg_aload_n dX11_bond_73 rfl ?_
              refine cs_get (s := s) (w := .ref (o + 10)) fl_X11_27 dX11_bond_74 hO.ob0 rfl ?_
              refine cs_get (s := s) (w := .ref (o + 131)) fl_X11_141 dX11_bond_77 hO.1.ob0 rfl ?_
              refine jg_aload_n dX11_bond_80 rfl ?_
              refine cs_get (s := s) (w := .ref (o + 10)) fl_X11_27 dX11_bond_81 hO.ob0 rfl ?_
              obtain ⟨x114, e_x114, h⟩ := bd_some h
              refine cs_call (q := (o + 10)) (As := []) kv_X11_362 dX11_bond_84 hO.1.ob0 rfl rfl (by decide) (Nat.le_of_ble_eq_true rfl) rfl (by decide) (Nat.le_of_ble_eq_true rfl) (t_X2_year τ n (o + 10) s hO.1 e_x114) ?_
              obtain ⟨x115, e_x115, h⟩ := bd_some h
              refine cs_call (q := (o + 131)) (As := [.int x114]) kv_X11_365 dX11_bond_87 (hO.1.ob 121 (by decide) rfl) rfl rfl (by decide) (Nat.le_of_ble_eq_true rfl) rfl (by decide) (Nat.le_of_ble_eq_true rfl) (t_X6_borrowed F τ n (o + 10) s x114 hO.1 e_x115) ?_
              refine jg_istore (L' := [some (.ref o), some (.int a1), some (.int a2), some (.int a3), some (.int a4), some (.int x115)]) dX11_bond_90 (by decide) rfl ?_
              refine jg_iload_n dX11_bond_92 rfl ?_
              refine jg_iload dX11_bond_93 rfl ?_
              refine jg_iadd (x := a1) (y := x115) dX11_bond_95  ?_
              refine jg_aload_n dX11_bond_96 rfl ?_
              refine cs_get (s := s) (w := .ref (o + 10)) fl_X11_27 dX11_bond_97 hO.ob0 rfl ?_
              obtain ⟨x116, e_x116, h⟩ := bd_some h
              refine cs_call (q := (o + 10)) (As := []) kv_X11_179 dX11_bond_100 hO.1.ob0 rfl rfl (by decide) (Nat.le_of_ble_eq_true rfl) rfl (by decide) (Nat.le_of_ble_eq_true rfl) (t_X2_actOfToday F τ n (o + 10) s hO.1 e_x116) ?_
              obtain ⟨q117, h⟩ := gd_some h
              refine jg_bipush (v := nI 7) dX11_bond_103 (by decide) ?_
              refine jg_iconst (v := nI 0) dX11_bond_105 (by decide) ?_
              obtain ⟨x118, e_x118, h⟩ := bd_some h
              refine cs_call (q := x116) (As := [.int (nI 7), .int (nI 0)]) kv_X11_368 dX11_bond_106 (acb_ob q117) rfl rfl (by decide) (Nat.le_of_ble_eq_true rfl) rfl (by decide) (Nat.le_of_ble_eq_true rfl) (t_X0_lastNumber F τ n x116 s (nI 7) (nI 0) q117 e_x118) ?_
              refine jg_icmp_le (x := (a1 + x115)) (y := x118) (tgt := 114) dX11_bond_109 (by decide) (fun c119 => ?_) (fun c119 => ?_)
              · replace h := it_t c119 h
                refine jg_aload_n dX11_bond_114 rfl ?_
                refine cs_get (s := s) (w := .ref (o + 10)) fl_X11_27 dX11_bond_115 hO.ob0 rfl ?_
                refine cs_get (s := s) (w := .ref (o + 131)) fl_X11_141 dX11_bond_118 hO.1.ob0 rfl ?_
                refine jg_iload_n dX11_bond_121 rfl ?_
                refine jg_iload_n dX11_bond_122 rfl ?_
                refine jg_iload_n dX11_bond_123 rfl ?_
                refine jg_aload_n dX11_bond_124 rfl ?_
                refine cs_get (s := s) (w := .ref (o + 10)) fl_X11_27 dX11_bond_125 hO.ob0 rfl ?_
                obtain ⟨x120, e_x120, h⟩ := bd_some h
                refine cs_call (q := (o + 10)) (As := []) kv_X11_362 dX11_bond_128 hO.1.ob0 rfl rfl (by decide) (Nat.le_of_ble_eq_true rfl) rfl (by decide) (Nat.le_of_ble_eq_true rfl) (t_X2_year τ n (o + 10) s hO.1 e_x120) ?_
                refine jg_iload dX11_bond_131 rfl ?_
                refine jg_iadd (x := x120) (y := a4) dX11_bond_133  ?_
                refine jg_iconst (v := nI 1) dX11_bond_134 (by decide) ?_
                refine jg_isub (x := (x120 + a4)) (y := (nI 1)) dX11_bond_135  ?_
                obtain ⟨x121, e_x121, h⟩ := bd_some h
                refine cs_call (q := (o + 131)) (As := [.int a1, .int a2, .int a3, .int ((x120 + a4) - (nI 1))]) kv_X11_371 dX11_bond_136 (hO.1.ob 121 (by decide) rfl) rfl rfl (by decide) (Nat.le_of_ble_eq_true rfl) rfl (by decide) (Nat.le_of_ble_eq_true rfl) (t_X6_sell τ n (o + 10) s a1 a2 a3 ((x120 + a4) - (nI 1)) hO.1 e_x121) ?_
                cases h
              · replace h := it_f c119 h
                refine jg_iconst (v := (-1)) dX11_bond_112 (by decide) ?_
                cases h
            · replace h := se_r h
              obtain rfl := Sum.inr.inj (Option.some.inj h)
              exact jc_SX (As := [.int (s.1 (o + 131) 13), .int (nI 20)]) ks_X11_82 dX11_bond_70 rfl (by decide) (Nat.le_of_ble_eq_true rfl) rfl (by decide) (Nat.le_refl _) (Nat.le_refl _) (Nat.le_of_ble_eq_true rfl) (x_X11_needRoom τ n s (s.1 (o + 131) 13) (nI 20) hn hT e_x111) ⟨rfl, rfl⟩
          · replace h := se_r h
            obtain rfl := Sum.inr.inj (Option.some.inj h)
            exact jc_SX (As := [.int (nI 0)]) ks_X11_45 dX11_bond_55 rfl (by decide) (Nat.le_of_ble_eq_true rfl) rfl (by decide) (Nat.le_refl _) (Nat.le_refl _) (Nat.le_of_ble_eq_true rfl) (x_X11_needArgument τ n s (nI 0) hn hT e_x108) ⟨rfl, rfl⟩
        · replace h := it_f c107 h
          refine jg_iload dX11_bond_39 rfl ?_
          refine jg_iconst (v := nI 1) dX11_bond_41 (by decide) ?_
          refine jg_bipush (v := nI 30) dX11_bond_42 (by decide) ?_
          obtain ⟨x122, e_x122, h⟩ := bd_some h
          refine cs_callS (As := [.int a4, .int (nI 1), .int (nI 30)]) ks_X11_41 dX11_bond_44 rfl (by decide) (Nat.le_of_ble_eq_true rfl) rfl (by decide) (Nat.le_of_ble_eq_true rfl) (t_X11_within τ n s a4 (nI 1) (nI 30) e_x122) ?_
          refine jg_if_eq (x := x122) (tgt := 54) dX11_bond_47 (by decide) (fun c123 => ?_) (fun c123 => ?_)
          · replace h := it_t c123 h
            refine jg_iconst (v := nI 0) dX11_bond_54 (by decide) ?_
            obtain ⟨x124, e_x124, h⟩ := bd_some h
            rcases x124 with y125 | z126
            · replace h := se_l h
              refine cs_callS (As := [.int (nI 0)]) ks_X11_45 dX11_bond_55 rfl (by decide) (Nat.le_of_ble_eq_true rfl) rfl (by decide) (Nat.le_of_ble_eq_true rfl) (t_X11_needArgument τ n s (nI 0) e_x124) ?_
              refine jg_aload_n dX11_bond_58 rfl ?_
              refine cs_get (s := s) (w := .ref (o + 10)) fl_X11_27 dX11_bond_59 hO.ob0 rfl ?_
              refine cs_get (s := s) (w := .ref (o + 131)) fl_X11_141 dX11_bond_62 hO.1.ob0 rfl ?_
              refine cs_get (s := s) (w := .int (s.1 (o + 131) 13)) fl_X11_359 dX11_bond_65 (hO.1.ob 121 (by decide) rfl) rfl ?_
              refine jg_bipush (v := nI 20) dX11_bond_68 (by decide) ?_
              obtain ⟨x127, e_x127, h⟩ := bd_some h
              rcases x127 with y128 | z129
              · replace h := se_l h
                refine cs_callS (As := [.int (s.1 (o + 131) 13), .int (nI 20)]) ks_X11_82 dX11_bond_70 rfl (by decide) (Nat.le_of_ble_eq_true rfl) rfl (by decide) (Nat.le_of_ble_eq_true rfl) (t_X11_needRoom τ n s (s.1 (o + 131) 13) (nI 20) e_x127) ?_
                refine jg_aload_n dX11_bond_73 rfl ?_
                refine cs_get (s := s) (w := .ref (o + 10)) fl_X11_27 dX11_bond_74 hO.ob0 rfl ?_
                refine cs_get (s := s) (w := .ref (o + 131)) fl_X11_141 dX11_bond_77 hO.1.ob0 rfl ?_
                refine jg_aload_n dX11_bond_80 rfl ?_
                refine cs_get (s := s) (w := .ref (o + 10)) fl_X11_27 dX11_bond_81 hO.ob0 rfl ?_
                obtain ⟨x130, e_x130, h⟩ := bd_some h
                refine cs_call (q := (o + 10)) (As := []) kv_X11_362 dX11_bond_84 hO.1.ob0 rfl rfl (by decide) (Nat.le_of_ble_eq_true rfl) rfl (by decide) (Nat.le_of_ble_eq_true rfl) (t_X2_year τ n (o + 10) s hO.1 e_x130) ?_
                obtain ⟨x131, e_x131, h⟩ := bd_some h
                refine cs_call (q := (o + 131)) (As := [.int x130]) kv_X11_365 dX11_bond_87 (hO.1.ob 121 (by decide) rfl) rfl rfl (by decide) (Nat.le_of_ble_eq_true rfl) rfl (by decide) (Nat.le_of_ble_eq_true rfl) (t_X6_borrowed F τ n (o + 10) s x130 hO.1 e_x131) ?_
                refine jg_istore (L' := [some (.ref o), some (.int a1), some (.int a2), some (.int a3), some (.int a4), some (.int x131)]) dX11_bond_90 (by decide) rfl ?_
                refine jg_iload_n dX11_bond_92 rfl ?_
                refine jg_iload dX11_bond_93 rfl ?_
                refine jg_iadd (x := a1) (y := x131) dX11_bond_95  ?_
                refine jg_aload_n dX11_bond_96 rfl ?_
                refine cs_get (s := s) (w := .ref (o + 10)) fl_X11_27 dX11_bond_97 hO.ob0 rfl ?_
                obtain ⟨x132, e_x132, h⟩ := bd_some h
                refine cs_call (q := (o + 10)) (As := []) kv_X11_179 dX11_bond_100 hO.1.ob0 rfl rfl (by decide) (Nat.le_of_ble_eq_true rfl) rfl (by decide) (Nat.le_of_ble_eq_true rfl) (t_X2_actOfToday F τ n (o + 10) s hO.1 e_x132) ?_
                obtain ⟨q133, h⟩ := gd_some h
                refine jg_bipush (v := nI 7) dX11_bond_103 (by decide) ?_
                refine jg_iconst (v := nI 0) dX11_bond_105 (by decide) ?_
                obtain ⟨x134, e_x134, h⟩ := bd_some h
                refine cs_call (q := x132) (As := [.int (nI 7), .int (nI 0)]) kv_X11_368 dX11_bond_106 (acb_ob q133) rfl rfl (by decide) (Nat.le_of_ble_eq_true rfl) rfl (by decide) (Nat.le_of_ble_eq_true rfl) (t_X0_lastNumber F τ n x132 s (nI 7) (nI 0) q133 e_x134) ?_
                refine jg_icmp_le (x := (a1 + x131)) (y := x134) (tgt := 114) dX11_bond_109 (by decide) (fun c135 => ?_) (fun c135 => ?_)
                · replace h := it_t c135 h
                  refine jg_aload_n dX11_bond_114 rfl ?_
                  refine cs_get (s := s) (w := .ref (o + 10)) fl_X11_27 dX11_bond_115 hO.ob0 rfl ?_
                  refine cs_get (s := s) (w := .ref (o + 131)) fl_X11_141 dX11_bond_118 hO.1.ob0 rfl ?_
                  refine jg_iload_n dX11_bond_121 rfl ?_
                  refine jg_iload_n dX11_bond_122 rfl ?_
                  refine jg_iload_n dX11_bond_123 rfl ?_
                  refine jg_aload_n dX11_bond_124 rfl ?_
                  refine cs_get (s := s) (w := .ref (o + 10)) fl_X11_27 dX11_bond_125 hO.ob0 rfl ?_
                  obtain ⟨x136, e_x136, h⟩ := bd_some h
                  refine cs_call (q := (o + 10)) (As := []) kv_X11_362 dX11_bond_128 hO.1.ob0 rfl rfl (by decide) (Nat.le_of_ble_eq_true rfl) rfl (by decide) (Nat.le_of_ble_eq_true rfl) (t_X2_year τ n (o + 10) s hO.1 e_x136) ?_
                  refine jg_iload dX11_bond_131 rfl ?_
                  refine jg_iadd (x := x136) (y := a4) dX11_bond_133  ?_
                  refine jg_iconst (v := nI 1) dX11_bond_134 (by decide) ?_
                  refine jg_isub (x := (x136 + a4)) (y := (nI 1)) dX11_bond_135  ?_
                  obtain ⟨x137, e_x137, h⟩ := bd_some h
                  refine cs_call (q := (o + 131)) (As := [.int a1, .int a2, .int a3, .int ((x136 + a4) - (nI 1))]) kv_X11_371 dX11_bond_136 (hO.1.ob 121 (by decide) rfl) rfl rfl (by decide) (Nat.le_of_ble_eq_true rfl) rfl (by decide) (Nat.le_of_ble_eq_true rfl) (t_X6_sell τ n (o + 10) s a1 a2 a3 ((x136 + a4) - (nI 1)) hO.1 e_x137) ?_
                  cases h
                · replace h := it_f c135 h
                  refine jg_iconst (v := (-1)) dX11_bond_112 (by decide) ?_
                  cases h
              · replace h := se_r h
                obtain rfl := Sum.inr.inj (Option.some.inj h)
                exact jc_SX (As := [.int (s.1 (o + 131) 13), .int (nI 20)]) ks_X11_82 dX11_bond_70 rfl (by decide) (Nat.le_of_ble_eq_true rfl) rfl (by decide) (Nat.le_refl _) (Nat.le_refl _) (Nat.le_of_ble_eq_true rfl) (x_X11_needRoom τ n s (s.1 (o + 131) 13) (nI 20) hn hT e_x127) ⟨rfl, rfl⟩
            · replace h := se_r h
              obtain rfl := Sum.inr.inj (Option.some.inj h)
              exact jc_SX (As := [.int (nI 0)]) ks_X11_45 dX11_bond_55 rfl (by decide) (Nat.le_of_ble_eq_true rfl) rfl (by decide) (Nat.le_refl _) (Nat.le_refl _) (Nat.le_of_ble_eq_true rfl) (x_X11_needArgument τ n s (nI 0) hn hT e_x124) ⟨rfl, rfl⟩
          · replace h := it_f c123 h
            refine jg_iconst (v := nI 1) dX11_bond_50 (by decide) ?_
            refine jg_goto (tgt := 55) dX11_bond_51 (by decide) ?_
            obtain ⟨x138, e_x138, h⟩ := bd_some h
            rcases x138 with y139 | z140
            · replace h := se_l h
              refine cs_callS (As := [.int (nI 1)]) ks_X11_45 dX11_bond_55 rfl (by decide) (Nat.le_of_ble_eq_true rfl) rfl (by decide) (Nat.le_of_ble_eq_true rfl) (t_X11_needArgument τ n s (nI 1) e_x138) ?_
              refine jg_aload_n dX11_bond_58 rfl ?_
              refine cs_get (s := s) (w := .ref (o + 10)) fl_X11_27 dX11_bond_59 hO.ob0 rfl ?_
              refine cs_get (s := s) (w := .ref (o + 131)) fl_X11_141 dX11_bond_62 hO.1.ob0 rfl ?_
              refine cs_get (s := s) (w := .int (s.1 (o + 131) 13)) fl_X11_359 dX11_bond_65 (hO.1.ob 121 (by decide) rfl) rfl ?_
              refine jg_bipush (v := nI 20) dX11_bond_68 (by decide) ?_
              obtain ⟨x141, e_x141, h⟩ := bd_some h
              rcases x141 with y142 | z143
              · replace h := se_l h
                refine cs_callS (As := [.int (s.1 (o + 131) 13), .int (nI 20)]) ks_X11_82 dX11_bond_70 rfl (by decide) (Nat.le_of_ble_eq_true rfl) rfl (by decide) (Nat.le_of_ble_eq_true rfl) (t_X11_needRoom τ n s (s.1 (o + 131) 13) (nI 20) e_x141) ?_
                refine jg_aload_n dX11_bond_73 rfl ?_
                refine cs_get (s := s) (w := .ref (o + 10)) fl_X11_27 dX11_bond_74 hO.ob0 rfl ?_
                refine cs_get (s := s) (w := .ref (o + 131)) fl_X11_141 dX11_bond_77 hO.1.ob0 rfl ?_
                refine jg_aload_n dX11_bond_80 rfl ?_
                refine cs_get (s := s) (w := .ref (o + 10)) fl_X11_27 dX11_bond_81 hO.ob0 rfl ?_
                obtain ⟨x144, e_x144, h⟩ := bd_some h
                refine cs_call (q := (o + 10)) (As := []) kv_X11_362 dX11_bond_84 hO.1.ob0 rfl rfl (by decide) (Nat.le_of_ble_eq_true rfl) rfl (by decide) (Nat.le_of_ble_eq_true rfl) (t_X2_year τ n (o + 10) s hO.1 e_x144) ?_
                obtain ⟨x145, e_x145, h⟩ := bd_some h
                refine cs_call (q := (o + 131)) (As := [.int x144]) kv_X11_365 dX11_bond_87 (hO.1.ob 121 (by decide) rfl) rfl rfl (by decide) (Nat.le_of_ble_eq_true rfl) rfl (by decide) (Nat.le_of_ble_eq_true rfl) (t_X6_borrowed F τ n (o + 10) s x144 hO.1 e_x145) ?_
                refine jg_istore (L' := [some (.ref o), some (.int a1), some (.int a2), some (.int a3), some (.int a4), some (.int x145)]) dX11_bond_90 (by decide) rfl ?_
                refine jg_iload_n dX11_bond_92 rfl ?_
                refine jg_iload dX11_bond_93 rfl ?_
                refine jg_iadd (x := a1) (y := x145) dX11_bond_95  ?_
                refine jg_aload_n dX11_bond_96 rfl ?_
                refine cs_get (s := s) (w := .ref (o + 10)) fl_X11_27 dX11_bond_97 hO.ob0 rfl ?_
                obtain ⟨x146, e_x146, h⟩ := bd_some h
                refine cs_call (q := (o + 10)) (As := []) kv_X11_179 dX11_bond_100 hO.1.ob0 rfl rfl (by decide) (Nat.le_of_ble_eq_true rfl) rfl (by decide) (Nat.le_of_ble_eq_true rfl) (t_X2_actOfToday F τ n (o + 10) s hO.1 e_x146) ?_
                obtain ⟨q147, h⟩ := gd_some h
                refine jg_bipush (v := nI 7) dX11_bond_103 (by decide) ?_
                refine jg_iconst (v := nI 0) dX11_bond_105 (by decide) ?_
                obtain ⟨x148, e_x148, h⟩ := bd_some h
                refine cs_call (q := x146) (As := [.int (nI 7), .int (nI 0)]) kv_X11_368 dX11_bond_106 (acb_ob q147) rfl rfl (by decide) (Nat.le_of_ble_eq_true rfl) rfl (by decide) (Nat.le_of_ble_eq_true rfl) (t_X0_lastNumber F τ n x146 s (nI 7) (nI 0) q147 e_x148) ?_
                refine jg_icmp_le (x := (a1 + x145)) (y := x148) (tgt := 114) dX11_bond_109 (by decide) (fun c149 => ?_) (fun c149 => ?_)
                · replace h := it_t c149 h
                  refine jg_aload_n dX11_bond_114 rfl ?_
                  refine cs_get (s := s) (w := .ref (o + 10)) fl_X11_27 dX11_bond_115 hO.ob0 rfl ?_
                  refine cs_get (s := s) (w := .ref (o + 131)) fl_X11_141 dX11_bond_118 hO.1.ob0 rfl ?_
                  refine jg_iload_n dX11_bond_121 rfl ?_
                  refine jg_iload_n dX11_bond_122 rfl ?_
                  refine jg_iload_n dX11_bond_123 rfl ?_
                  refine jg_aload_n dX11_bond_124 rfl ?_
                  refine cs_get (s := s) (w := .ref (o + 10)) fl_X11_27 dX11_bond_125 hO.ob0 rfl ?_
                  obtain ⟨x150, e_x150, h⟩ := bd_some h
                  refine cs_call (q := (o + 10)) (As := []) kv_X11_362 dX11_bond_128 hO.1.ob0 rfl rfl (by decide) (Nat.le_of_ble_eq_true rfl) rfl (by decide) (Nat.le_of_ble_eq_true rfl) (t_X2_year τ n (o + 10) s hO.1 e_x150) ?_
                  refine jg_iload dX11_bond_131 rfl ?_
                  refine jg_iadd (x := x150) (y := a4) dX11_bond_133  ?_
                  refine jg_iconst (v := nI 1) dX11_bond_134 (by decide) ?_
                  refine jg_isub (x := (x150 + a4)) (y := (nI 1)) dX11_bond_135  ?_
                  obtain ⟨x151, e_x151, h⟩ := bd_some h
                  refine cs_call (q := (o + 131)) (As := [.int a1, .int a2, .int a3, .int ((x150 + a4) - (nI 1))]) kv_X11_371 dX11_bond_136 (hO.1.ob 121 (by decide) rfl) rfl rfl (by decide) (Nat.le_of_ble_eq_true rfl) rfl (by decide) (Nat.le_of_ble_eq_true rfl) (t_X6_sell τ n (o + 10) s a1 a2 a3 ((x150 + a4) - (nI 1)) hO.1 e_x151) ?_
                  cases h
                · replace h := it_f c149 h
                  refine jg_iconst (v := (-1)) dX11_bond_112 (by decide) ?_
                  cases h
              · replace h := se_r h
                obtain rfl := Sum.inr.inj (Option.some.inj h)
                exact jc_SX (As := [.int (s.1 (o + 131) 13), .int (nI 20)]) ks_X11_82 dX11_bond_70 rfl (by decide) (Nat.le_of_ble_eq_true rfl) rfl (by decide) (Nat.le_refl _) (Nat.le_refl _) (Nat.le_of_ble_eq_true rfl) (x_X11_needRoom τ n s (s.1 (o + 131) 13) (nI 20) hn hT e_x141) ⟨rfl, rfl⟩
            · replace h := se_r h
              obtain rfl := Sum.inr.inj (Option.some.inj h)
              exact jc_SX (As := [.int (nI 1)]) ks_X11_45 dX11_bond_55 rfl (by decide) (Nat.le_of_ble_eq_true rfl) rfl (by decide) (Nat.le_refl _) (Nat.le_refl _) (Nat.le_of_ble_eq_true rfl) (x_X11_needArgument τ n s (nI 1) hn hT e_x138) ⟨rfl, rfl⟩
      · replace h := se_r h
        obtain rfl := Sum.inr.inj (Option.some.inj h)
        exact jc_SX (As := [.int (nI 1)]) ks_X11_45 dX11_bond_26 rfl (by decide) (Nat.le_of_ble_eq_true rfl) rfl (by decide) (Nat.le_refl _) (Nat.le_refl _) (Nat.le_of_ble_eq_true rfl) (x_X11_needArgument τ n s (nI 1) hn hT e_x103) ⟨rfl, rfl⟩
theorem dX11_owes_0 : decode cX11_owes 0 = .ok (.iload_n 1, 1) := by decide +kernel
theorem dX11_owes_1 : decode cX11_owes 1 = .ok (.aload_n 0, 1) := by decide +kernel
theorem dX11_owes_2 : decode cX11_owes 2 = .ok (.getfield 27, 3) := by decide +kernel
theorem dX11_owes_5 : decode cX11_owes 5 = .ok (.getfield 141, 3) := by decide +kernel
theorem dX11_owes_8 : decode cX11_owes 8 = .ok (.getfield 359, 3) := by decide +kernel
theorem dX11_owes_11 : decode cX11_owes 11 = .ok (.invokestatic 90, 3) := by decide +kernel
theorem dX11_owes_14 : decode cX11_owes 14 = .ok (.iload_n 2, 1) := by decide +kernel
theorem dX11_owes_15 : decode cX11_owes 15 = .ok (.tableswitch 107 0 3 #[29, 42, 81, 94], 29) := by decide +kernel
theorem dX11_owes_44 : decode cX11_owes 44 = .ok (.aload_n 0, 1) := by decide +kernel
theorem dX11_owes_45 : decode cX11_owes 45 = .ok (.getfield 27, 3) := by decide +kernel
theorem dX11_owes_48 : decode cX11_owes 48 = .ok (.getfield 141, 3) := by decide +kernel
theorem dX11_owes_51 : decode cX11_owes 51 = .ok (.getfield 374, 3) := by decide +kernel
theorem dX11_owes_54 : decode cX11_owes 54 = .ok (.iload_n 1, 1) := by decide +kernel
theorem dX11_owes_55 : decode cX11_owes 55 = .ok (.iaload, 1) := by decide +kernel
theorem dX11_owes_56 : decode cX11_owes 56 = .ok (.ireturn, 1) := by decide +kernel
theorem dX11_owes_57 : decode cX11_owes 57 = .ok (.aload_n 0, 1) := by decide +kernel
theorem dX11_owes_58 : decode cX11_owes 58 = .ok (.getfield 27, 3) := by decide +kernel
theorem dX11_owes_61 : decode cX11_owes 61 = .ok (.getfield 141, 3) := by decide +kernel
theorem dX11_owes_64 : decode cX11_owes 64 = .ok (.getfield 377, 3) := by decide +kernel
theorem dX11_owes_67 : decode cX11_owes 67 = .ok (.iload_n 1, 1) := by decide +kernel
theorem dX11_owes_68 : decode cX11_owes 68 = .ok (.iaload, 1) := by decide +kernel
theorem dX11_owes_69 : decode cX11_owes 69 = .ok (.aload_n 0, 1) := by decide +kernel
theorem dX11_owes_70 : decode cX11_owes 70 = .ok (.getfield 27, 3) := by decide +kernel
theorem dX11_owes_73 : decode cX11_owes 73 = .ok (.invokevirtual 362, 3) := by decide +kernel
theorem dX11_owes_76 : decode cX11_owes 76 = .ok (.if_icmp .lt 18, 3) := by decide +kernel
theorem dX11_owes_79 : decode cX11_owes 79 = .ok (.aload_n 0, 1) := by decide +kernel
theorem dX11_owes_80 : decode cX11_owes 80 = .ok (.getfield 27, 3) := by decide +kernel
theorem dX11_owes_83 : decode cX11_owes 83 = .ok (.getfield 141, 3) := by decide +kernel
theorem dX11_owes_86 : decode cX11_owes 86 = .ok (.getfield 380, 3) := by decide +kernel
theorem dX11_owes_89 : decode cX11_owes 89 = .ok (.iload_n 1, 1) := by decide +kernel
theorem dX11_owes_90 : decode cX11_owes 90 = .ok (.iaload, 1) := by decide +kernel
theorem dX11_owes_91 : decode cX11_owes 91 = .ok (.goto 4, 3) := by decide +kernel
theorem dX11_owes_94 : decode cX11_owes 94 = .ok (.iconst 0, 1) := by decide +kernel
theorem dX11_owes_95 : decode cX11_owes 95 = .ok (.ireturn, 1) := by decide +kernel
theorem dX11_owes_96 : decode cX11_owes 96 = .ok (.aload_n 0, 1) := by decide +kernel
theorem dX11_owes_97 : decode cX11_owes 97 = .ok (.getfield 27, 3) := by decide +kernel
theorem dX11_owes_100 : decode cX11_owes 100 = .ok (.getfield 141, 3) := by decide +kernel
theorem dX11_owes_103 : decode cX11_owes 103 = .ok (.getfield 383, 3) := by decide +kernel
theorem dX11_owes_106 : decode cX11_owes 106 = .ok (.iload_n 1, 1) := by decide +kernel
theorem dX11_owes_107 : decode cX11_owes 107 = .ok (.iaload, 1) := by decide +kernel
theorem dX11_owes_108 : decode cX11_owes 108 = .ok (.ireturn, 1) := by decide +kernel
theorem dX11_owes_109 : decode cX11_owes 109 = .ok (.aload_n 0, 1) := by decide +kernel
theorem dX11_owes_110 : decode cX11_owes 110 = .ok (.getfield 27, 3) := by decide +kernel
theorem dX11_owes_113 : decode cX11_owes 113 = .ok (.getfield 141, 3) := by decide +kernel
theorem dX11_owes_116 : decode cX11_owes 116 = .ok (.getfield 377, 3) := by decide +kernel
theorem dX11_owes_119 : decode cX11_owes 119 = .ok (.iload_n 1, 1) := by decide +kernel
theorem dX11_owes_120 : decode cX11_owes 120 = .ok (.iaload, 1) := by decide +kernel
theorem dX11_owes_121 : decode cX11_owes 121 = .ok (.ireturn, 1) := by decide +kernel
theorem dX11_owes_122 : decode cX11_owes 122 = .ok (.new 105, 3) := by decide +kernel
theorem dX11_owes_125 : decode cX11_owes 125 = .ok (.dup, 1) := by decide +kernel
theorem dX11_owes_126 : decode cX11_owes 126 = .ok (.ldc_w 386, 3) := by decide +kernel
theorem dX11_owes_129 : decode cX11_owes 129 = .ok (.invokespecial 109, 3) := by decide +kernel
theorem dX11_owes_132 : decode cX11_owes 132 = .ok (.athrow, 1) := by decide +kernel
noncomputable def o_X11_owes (τ : cT) (n : Nat) (o : Nat) (s : cS) (a1 : Int32) (a2 : Int32) : Option ((Int32) ⊕ (Nat)) := (o_X11_needIndex τ n s a1 (s.1 (o + 131) 13)).bind fun x1 => (Sum.elim (fun y2 => if a2 = nI 0 then (if iL a1 20 then (some (.inl (cg s (o + 139) a1))) else none) else (if a2 = nI 1 then (if iL a1 20 then ((o_X2_year τ n (o + 10) s).bind fun x8 => (if (cg s (o + 138) a1) < x8 then (some (.inl (nI 0))) else (some (.inl (cg s (o + 135) a1))))) else none) else (if a2 = nI 2 then (if iL a1 20 then (some (.inl (cg s (o + 140) a1))) else none) else (if a2 = nI 3 then (if iL a1 20 then (some (.inl (cg s (o + 138) a1))) else none) else (some (.inr 4)))))) (fun z3 => some (.inr z3)) x1)
set_option maxHeartbeats 4000000 in
theorem t_X11_owes {Γ : jg_G} {g : Nat → jg_C} (τ : cT) (n : Nat) (o : Nat) (s : cS) (a1 : Int32) (a2 : Int32) (hO : Sh τ n o) {x : Int32} (h : o_X11_owes τ n o s a1 a2 = some (.inl x)) : jc Γ mX11_owes 7 0 0 [some (.ref o), some (.int a1), some (.int a2)] (ct_h g τ s, n) (.inl (some (.int x))) (ct_h g τ s, n) := by
  refine jc_of ?_
  rw [o_X11_owes] at h
  refine jg_iload_n dX11_owes_0 rfl ?_
  refine jg_aload_n dX11_owes_1 rfl ?_
  refine cs_get (s := s) (w := .ref (o + 10)) fl_X11_27 dX11_owes_2 hO.ob0 rfl ?_
  refine cs_get (s := s) (w := .ref (o + 131)) fl_X11_141 dX11_owes_5 hO.1.ob0 rfl ?_
  refine cs_get (s := s) (w := .int (s.1 (o + 131) 13)) fl_X11_359 dX11_owes_8 (hO.1.ob 121 (by decide) rfl) rfl ?_
  obtain ⟨x1, e_x1, h⟩ := bd_some h
  rcases x1 with y2 | z3
  · replace h := se_l h
    refine cs_callS (As := [.int a1, .int (s.1 (o + 131) 13)]) ks_X11_90 dX11_owes_11 rfl (by decide) (Nat.le_of_ble_eq_true rfl) rfl (by decide) (Nat.le_of_ble_eq_true rfl) (t_X11_needIndex τ n s a1 (s.1 (o + 131) 13) e_x1) ?_
    refine jg_iload_n dX11_owes_14 rfl ?_
    by_cases c4 : a2 = nI 0
    · replace h := it_t c4 h
      refine jg_tableIn (off := 29) (tgt := 44) dX11_owes_15 (by rw [c4]; decide) (by rw [c4]; decide) (by rw [c4]; rfl) (by decide) ?_
      refine jg_aload_n dX11_owes_44 rfl ?_
      refine cs_get (s := s) (w := .ref (o + 10)) fl_X11_27 dX11_owes_45 hO.ob0 rfl ?_
      refine cs_get (s := s) (w := .ref (o + 131)) fl_X11_141 dX11_owes_48 hO.1.ob0 rfl ?_
      refine cs_get (s := s) (w := .ref (o + 139)) fl_X11_374 dX11_owes_51 (hO.1.ob 121 (by decide) rfl) rfl ?_
      refine jg_iload_n dX11_owes_54 rfl ?_
      obtain ⟨q5, h⟩ := gd_some h
      refine cs_lda (s := s) (q := (o + 139)) (i := a1) dX11_owes_55 (hO.1.ar 129 (by decide) rfl) q5 ?_
      obtain rfl := Sum.inl.inj (Option.some.inj h)
      exact jg_ireturn dX11_owes_56 rfl ⟨rfl, rfl⟩
    replace h := it_f c4 h
    by_cases c6 : a2 = nI 1
    · replace h := it_t c6 h
      refine jg_tableIn (off := 42) (tgt := 57) dX11_owes_15 (by rw [c6]; decide) (by rw [c6]; decide) (by rw [c6]; rfl) (by decide) ?_
      refine jg_aload_n dX11_owes_57 rfl ?_
      refine cs_get (s := s) (w := .ref (o + 10)) fl_X11_27 dX11_owes_58 hO.ob0 rfl ?_
      refine cs_get (s := s) (w := .ref (o + 131)) fl_X11_141 dX11_owes_61 hO.1.ob0 rfl ?_
      refine cs_get (s := s) (w := .ref (o + 138)) fl_X11_377 dX11_owes_64 (hO.1.ob 121 (by decide) rfl) rfl ?_
      refine jg_iload_n dX11_owes_67 rfl ?_
      obtain ⟨q7, h⟩ := gd_some h
      refine cs_lda (s := s) (q := (o + 138)) (i := a1) dX11_owes_68 (hO.1.ar 128 (by decide) rfl) q7 ?_
      refine jg_aload_n dX11_owes_69 rfl ?_
      refine cs_get (s := s) (w := .ref (o + 10)) fl_X11_27 dX11_owes_70 hO.ob0 rfl ?_
      obtain ⟨x8, e_x8, h⟩ := bd_some h
      refine cs_call (q := (o + 10)) (As := []) kv_X11_362 dX11_owes_73 hO.1.ob0 rfl rfl (by decide) (Nat.le_of_ble_eq_true rfl) rfl (by decide) (Nat.le_of_ble_eq_true rfl) (t_X2_year τ n (o + 10) s hO.1 e_x8) ?_
      refine jg_icmp_lt (x := (cg s (o + 138) a1)) (y := x8) (tgt := 94) dX11_owes_76 (by decide) (fun c9 => ?_) (fun c9 => ?_)
      · replace h := it_t c9 h
        refine jg_iconst (v := nI 0) dX11_owes_94 (by decide) ?_
        obtain rfl := Sum.inl.inj (Option.some.inj h)
        exact jg_ireturn dX11_owes_95 rfl ⟨rfl, rfl⟩
      · replace h := it_f c9 h
        refine jg_aload_n dX11_owes_79 rfl ?_
        refine cs_get (s := s) (w := .ref (o + 10)) fl_X11_27 dX11_owes_80 hO.ob0 rfl ?_
        refine cs_get (s := s) (w := .ref (o + 131)) fl_X11_141 dX11_owes_83 hO.1.ob0 rfl ?_
        refine cs_get (s := s) (w := .ref (o + 135)) fl_X11_380 dX11_owes_86 (hO.1.ob 121 (by decide) rfl) rfl ?_
        refine jg_iload_n dX11_owes_89 rfl ?_
        refine cs_lda (s := s) (q := (o + 135)) (i := a1) dX11_owes_90 (hO.1.ar 125 (by decide) rfl) q7 ?_
        refine jg_goto (tgt := 95) dX11_owes_91 (by decide) ?_
        obtain rfl := Sum.inl.inj (Option.some.inj h)
        exact jg_ireturn dX11_owes_95 rfl ⟨rfl, rfl⟩
    replace h := it_f c6 h
    by_cases c10 : a2 = nI 2
    · replace h := it_t c10 h
      refine jg_tableIn (off := 81) (tgt := 96) dX11_owes_15 (by rw [c10]; decide) (by rw [c10]; decide) (by rw [c10]; rfl) (by decide) ?_
      refine jg_aload_n dX11_owes_96 rfl ?_
      refine cs_get (s := s) (w := .ref (o + 10)) fl_X11_27 dX11_owes_97 hO.ob0 rfl ?_
      refine cs_get (s := s) (w := .ref (o + 131)) fl_X11_141 dX11_owes_100 hO.1.ob0 rfl ?_
      refine cs_get (s := s) (w := .ref (o + 140)) fl_X11_383 dX11_owes_103 (hO.1.ob 121 (by decide) rfl) rfl ?_
      refine jg_iload_n dX11_owes_106 rfl ?_
      obtain ⟨q11, h⟩ := gd_some h
      refine cs_lda (s := s) (q := (o + 140)) (i := a1) dX11_owes_107 (hO.1.ar 130 (by decide) rfl) q11 ?_
      obtain rfl := Sum.inl.inj (Option.some.inj h)
      exact jg_ireturn dX11_owes_108 rfl ⟨rfl, rfl⟩
    replace h := it_f c10 h
    by_cases c12 : a2 = nI 3
    · replace h := it_t c12 h
      refine jg_tableIn (off := 94) (tgt := 109) dX11_owes_15 (by rw [c12]; decide) (by rw [c12]; decide) (by rw [c12]; rfl) (by decide) ?_
      refine jg_aload_n dX11_owes_109 rfl ?_
      refine cs_get (s := s) (w := .ref (o + 10)) fl_X11_27 dX11_owes_110 hO.ob0 rfl ?_
      refine cs_get (s := s) (w := .ref (o + 131)) fl_X11_141 dX11_owes_113 hO.1.ob0 rfl ?_
      refine cs_get (s := s) (w := .ref (o + 138)) fl_X11_377 dX11_owes_116 (hO.1.ob 121 (by decide) rfl) rfl ?_
      refine jg_iload_n dX11_owes_119 rfl ?_
      obtain ⟨q13, h⟩ := gd_some h
      refine cs_lda (s := s) (q := (o + 138)) (i := a1) dX11_owes_120 (hO.1.ar 128 (by decide) rfl) q13 ?_
      obtain rfl := Sum.inl.inj (Option.some.inj h)
      exact jg_ireturn dX11_owes_121 rfl ⟨rfl, rfl⟩
    replace h := it_f c12 h
    refine jg_tableOut (tgt := 122) dX11_owes_15 (jt_outN 0 3 (a2) (fun k h1 h2 => by rcases (show k = 0 ∨ k = 1 ∨ k = 2 ∨ k = 3 by omega) with rfl | rfl | rfl | rfl <;> assumption)) (by decide) ?_
    cases h
  · replace h := se_r h
    cases h
set_option maxHeartbeats 4000000 in
theorem x_X11_owes {Γ : jg_G} {g : Nat → jg_C} (τ : cT) (n : Nat) (o : Nat) (s : cS) (a1 : Int32) (a2 : Int32) (hO : Sh τ n o) (hn : n < 1000000) (hT : τ n = .inr (8, 0)) {z : Nat} (h : o_X11_owes τ n o s a1 a2 = some (.inr z)) : jc Γ mX11_owes 7 1 6 [some (.ref o), some (.int a1), some (.int a2)] (ct_h g τ s, n) (.inr (exn z)) (ct_h (gx g n) τ s, n + 1) := by
  refine jc_of ?_
  rw [o_X11_owes] at h
  refine jg_iload_n dX11_owes_0 rfl ?_
  refine jg_aload_n dX11_owes_1 rfl ?_
  refine cs_get (s := s) (w := .ref (o + 10)) fl_X11_27 dX11_owes_2 hO.ob0 rfl ?_
  refine cs_get (s := s) (w := .ref (o + 131)) fl_X11_141 dX11_owes_5 hO.1.ob0 rfl ?_
  refine cs_get (s := s) (w := .int (s.1 (o + 131) 13)) fl_X11_359 dX11_owes_8 (hO.1.ob 121 (by decide) rfl) rfl ?_
  obtain ⟨x1, e_x1, h⟩ := bd_some h
  rcases x1 with y2 | z3
  · replace h := se_l h
    refine cs_callS (As := [.int a1, .int (s.1 (o + 131) 13)]) ks_X11_90 dX11_owes_11 rfl (by decide) (Nat.le_of_ble_eq_true rfl) rfl (by decide) (Nat.le_of_ble_eq_true rfl) (t_X11_needIndex τ n s a1 (s.1 (o + 131) 13) e_x1) ?_
    refine jg_iload_n dX11_owes_14 rfl ?_
    by_cases c4 : a2 = nI 0
    · replace h := it_t c4 h
      refine jg_tableIn (off := 29) (tgt := 44) dX11_owes_15 (by rw [c4]; decide) (by rw [c4]; decide) (by rw [c4]; rfl) (by decide) ?_
      refine jg_aload_n dX11_owes_44 rfl ?_
      refine cs_get (s := s) (w := .ref (o + 10)) fl_X11_27 dX11_owes_45 hO.ob0 rfl ?_
      refine cs_get (s := s) (w := .ref (o + 131)) fl_X11_141 dX11_owes_48 hO.1.ob0 rfl ?_
      refine cs_get (s := s) (w := .ref (o + 139)) fl_X11_374 dX11_owes_51 (hO.1.ob 121 (by decide) rfl) rfl ?_
      refine jg_iload_n dX11_owes_54 rfl ?_
      obtain ⟨q5, h⟩ := gd_some h
      refine cs_lda (s := s) (q := (o + 139)) (i := a1) dX11_owes_55 (hO.1.ar 129 (by decide) rfl) q5 ?_
      cases h
    replace h := it_f c4 h
    by_cases c6 : a2 = nI 1
    · replace h := it_t c6 h
      refine jg_tableIn (off := 42) (tgt := 57) dX11_owes_15 (by rw [c6]; decide) (by rw [c6]; decide) (by rw [c6]; rfl) (by decide) ?_
      refine jg_aload_n dX11_owes_57 rfl ?_
      refine cs_get (s := s) (w := .ref (o + 10)) fl_X11_27 dX11_owes_58 hO.ob0 rfl ?_
      refine cs_get (s := s) (w := .ref (o + 131)) fl_X11_141 dX11_owes_61 hO.1.ob0 rfl ?_
      refine cs_get (s := s) (w := .ref (o + 138)) fl_X11_377 dX11_owes_64 (hO.1.ob 121 (by decide) rfl) rfl ?_
      refine jg_iload_n dX11_owes_67 rfl ?_
      obtain ⟨q7, h⟩ := gd_some h
      refine cs_lda (s := s) (q := (o + 138)) (i := a1) dX11_owes_68 (hO.1.ar 128 (by decide) rfl) q7 ?_
      refine jg_aload_n dX11_owes_69 rfl ?_
      refine cs_get (s := s) (w := .ref (o + 10)) fl_X11_27 dX11_owes_70 hO.ob0 rfl ?_
      obtain ⟨x8, e_x8, h⟩ := bd_some h
      refine cs_call (q := (o + 10)) (As := []) kv_X11_362 dX11_owes_73 hO.1.ob0 rfl rfl (by decide) (Nat.le_of_ble_eq_true rfl) rfl (by decide) (Nat.le_of_ble_eq_true rfl) (t_X2_year τ n (o + 10) s hO.1 e_x8) ?_
      refine jg_icmp_lt (x := (cg s (o + 138) a1)) (y := x8) (tgt := 94) dX11_owes_76 (by decide) (fun c9 => ?_) (fun c9 => ?_)
      · replace h := it_t c9 h
        refine jg_iconst (v := nI 0) dX11_owes_94 (by decide) ?_
        cases h
      · replace h := it_f c9 h
        refine jg_aload_n dX11_owes_79 rfl ?_
        refine cs_get (s := s) (w := .ref (o + 10)) fl_X11_27 dX11_owes_80 hO.ob0 rfl ?_
        refine cs_get (s := s) (w := .ref (o + 131)) fl_X11_141 dX11_owes_83 hO.1.ob0 rfl ?_
        refine cs_get (s := s) (w := .ref (o + 135)) fl_X11_380 dX11_owes_86 (hO.1.ob 121 (by decide) rfl) rfl ?_
        refine jg_iload_n dX11_owes_89 rfl ?_
        refine cs_lda (s := s) (q := (o + 135)) (i := a1) dX11_owes_90 (hO.1.ar 125 (by decide) rfl) q7 ?_
        refine jg_goto (tgt := 95) dX11_owes_91 (by decide) ?_
        cases h
    replace h := it_f c6 h
    by_cases c10 : a2 = nI 2
    · replace h := it_t c10 h
      refine jg_tableIn (off := 81) (tgt := 96) dX11_owes_15 (by rw [c10]; decide) (by rw [c10]; decide) (by rw [c10]; rfl) (by decide) ?_
      refine jg_aload_n dX11_owes_96 rfl ?_
      refine cs_get (s := s) (w := .ref (o + 10)) fl_X11_27 dX11_owes_97 hO.ob0 rfl ?_
      refine cs_get (s := s) (w := .ref (o + 131)) fl_X11_141 dX11_owes_100 hO.1.ob0 rfl ?_
      refine cs_get (s := s) (w := .ref (o + 140)) fl_X11_383 dX11_owes_103 (hO.1.ob 121 (by decide) rfl) rfl ?_
      refine jg_iload_n dX11_owes_106 rfl ?_
      obtain ⟨q11, h⟩ := gd_some h
      refine cs_lda (s := s) (q := (o + 140)) (i := a1) dX11_owes_107 (hO.1.ar 130 (by decide) rfl) q11 ?_
      cases h
    replace h := it_f c10 h
    by_cases c12 : a2 = nI 3
    · replace h := it_t c12 h
      refine jg_tableIn (off := 94) (tgt := 109) dX11_owes_15 (by rw [c12]; decide) (by rw [c12]; decide) (by rw [c12]; rfl) (by decide) ?_
      refine jg_aload_n dX11_owes_109 rfl ?_
      refine cs_get (s := s) (w := .ref (o + 10)) fl_X11_27 dX11_owes_110 hO.ob0 rfl ?_
      refine cs_get (s := s) (w := .ref (o + 131)) fl_X11_141 dX11_owes_113 hO.1.ob0 rfl ?_
      refine cs_get (s := s) (w := .ref (o + 138)) fl_X11_377 dX11_owes_116 (hO.1.ob 121 (by decide) rfl) rfl ?_
      refine jg_iload_n dX11_owes_119 rfl ?_
      obtain ⟨q13, h⟩ := gd_some h
      refine cs_lda (s := s) (q := (o + 138)) (i := a1) dX11_owes_120 (hO.1.ar 128 (by decide) rfl) q13 ?_
      cases h
    replace h := it_f c12 h
    refine jg_tableOut (tgt := 122) dX11_owes_15 (jt_outN 0 3 (a2) (fun k h1 h2 => by rcases (show k = 0 ∨ k = 1 ∨ k = 2 ∨ k = 3 by omega) with rfl | rfl | rfl | rfl <;> assumption)) (by decide) ?_
    obtain rfl := Sum.inr.inj (Option.some.inj h)
    exact jg_nsW (i := 13) rfl ex_NSEE rfl dX11_owes_122 dX11_owes_125 dX11_owes_126 dX11_owes_129 dX11_owes_132 (Nat.le_refl _) (Nat.le_refl _) (by decide) (Nat.le_of_ble_eq_true rfl) hn ⟨rfl, gx_e hT⟩
  · replace h := se_r h
    obtain rfl := Sum.inr.inj (Option.some.inj h)
    exact jc_SX (As := [.int a1, .int (s.1 (o + 131) 13)]) ks_X11_90 dX11_owes_11 rfl (by decide) (Nat.le_of_ble_eq_true rfl) rfl (by decide) (Nat.le_refl _) (Nat.le_refl _) (Nat.le_of_ble_eq_true rfl) (x_X11_needIndex τ n s a1 (s.1 (o + 131) 13) hn hT e_x1) ⟨rfl, rfl⟩
theorem dX11_work_0 : decode cX11_work 0 = .ok (.iload_n 1, 1) := by decide +kernel
theorem dX11_work_1 : decode cX11_work 1 = .ok (.iconst 0, 1) := by decide +kernel
theorem dX11_work_2 : decode cX11_work 2 = .ok (.ldc 153, 2) := by decide +kernel
theorem dX11_work_4 : decode cX11_work 4 = .ok (.invokestatic 41, 3) := by decide +kernel
theorem dX11_work_7 : decode cX11_work 7 = .ok (.ifCond .eq 18, 3) := by decide +kernel
theorem dX11_work_10 : decode cX11_work 10 = .ok (.iload_n 2, 1) := by decide +kernel
theorem dX11_work_11 : decode cX11_work 11 = .ok (.iconst 0, 1) := by decide +kernel
theorem dX11_work_12 : decode cX11_work 12 = .ok (.ldc_w 391, 3) := by decide +kernel
theorem dX11_work_15 : decode cX11_work 15 = .ok (.invokestatic 41, 3) := by decide +kernel
theorem dX11_work_18 : decode cX11_work 18 = .ok (.ifCond .eq 7, 3) := by decide +kernel
theorem dX11_work_21 : decode cX11_work 21 = .ok (.iconst 1, 1) := by decide +kernel
theorem dX11_work_22 : decode cX11_work 22 = .ok (.goto 4, 3) := by decide +kernel
theorem dX11_work_25 : decode cX11_work 25 = .ok (.iconst 0, 1) := by decide +kernel
theorem dX11_work_26 : decode cX11_work 26 = .ok (.invokestatic 45, 3) := by decide +kernel
theorem dX11_work_29 : decode cX11_work 29 = .ok (.iload_n 3, 1) := by decide +kernel
theorem dX11_work_30 : decode cX11_work 30 = .ok (.iconst 0, 1) := by decide +kernel
theorem dX11_work_31 : decode cX11_work 31 = .ok (.bipush 29, 2) := by decide +kernel
theorem dX11_work_33 : decode cX11_work 33 = .ok (.invokestatic 41, 3) := by decide +kernel
theorem dX11_work_36 : decode cX11_work 36 = .ok (.ifCond .eq 18, 3) := by decide +kernel
theorem dX11_work_39 : decode cX11_work 39 = .ok (.iload 4, 2) := by decide +kernel
theorem dX11_work_41 : decode cX11_work 41 = .ok (.iconst 0, 1) := by decide +kernel
theorem dX11_work_42 : decode cX11_work 42 = .ok (.bipush 100, 2) := by decide +kernel
theorem dX11_work_44 : decode cX11_work 44 = .ok (.invokestatic 41, 3) := by decide +kernel
theorem dX11_work_47 : decode cX11_work 47 = .ok (.ifCond .eq 7, 3) := by decide +kernel
theorem dX11_work_50 : decode cX11_work 50 = .ok (.iconst 1, 1) := by decide +kernel
theorem dX11_work_51 : decode cX11_work 51 = .ok (.goto 4, 3) := by decide +kernel
theorem dX11_work_54 : decode cX11_work 54 = .ok (.iconst 0, 1) := by decide +kernel
theorem dX11_work_55 : decode cX11_work 55 = .ok (.invokestatic 45, 3) := by decide +kernel
theorem dX11_work_58 : decode cX11_work 58 = .ok (.aload_n 0, 1) := by decide +kernel
theorem dX11_work_59 : decode cX11_work 59 = .ok (.getfield 27, 3) := by decide +kernel
theorem dX11_work_62 : decode cX11_work 62 = .ok (.getfield 392, 3) := by decide +kernel
theorem dX11_work_65 : decode cX11_work 65 = .ok (.iload_n 1, 1) := by decide +kernel
theorem dX11_work_66 : decode cX11_work 66 = .ok (.iload_n 2, 1) := by decide +kernel
theorem dX11_work_67 : decode cX11_work 67 = .ok (.bipush 100, 2) := by decide +kernel
theorem dX11_work_69 : decode cX11_work 69 = .ok (.iload 4, 2) := by decide +kernel
theorem dX11_work_71 : decode cX11_work 71 = .ok (.isub, 1) := by decide +kernel
theorem dX11_work_72 : decode cX11_work 72 = .ok (.imul, 1) := by decide +kernel
theorem dX11_work_73 : decode cX11_work 73 = .ok (.bipush 100, 2) := by decide +kernel
theorem dX11_work_75 : decode cX11_work 75 = .ok (.idiv, 1) := by decide +kernel
theorem dX11_work_76 : decode cX11_work 76 = .ok (.iload_n 3, 1) := by decide +kernel
theorem dX11_work_77 : decode cX11_work 77 = .ok (.invokevirtual 396, 3) := by decide +kernel
theorem dX11_work_80 : decode cX11_work 80 = .ok (.ireturn, 1) := by decide +kernel
noncomputable def o_X11_work (τ : cT) (n : Nat) (o : Nat) (s : cS) (a1 : Int32) (a2 : Int32) (a3 : Int32) (a4 : Int32) : Option ((Int32 × cS) ⊕ (Nat × cS)) := (o_X11_within τ n s a1 (nI 0) (nI 1000000)).bind fun x1 => (if x1 = 0 then ((o_X11_needArgument τ n s (nI 0)).bind fun x3 => (Sum.elim (fun y4 => (o_X11_within τ n s a3 (nI 0) (nI 29)).bind fun x6 => (if x6 = 0 then ((o_X11_needArgument τ n s (nI 0)).bind fun x8 => (Sum.elim (fun y9 => (o_X4_addWork τ n (o + 10) s a1 ((a2 * ((nI 100) - a4)) / (nI 100)) a3).bind fun x11 => (some (.inl (x11.1, x11.2)))) (fun z10 => some (.inr (z10, s))) x8)) else ((o_X11_within τ n s a4 (nI 0) (nI 100)).bind fun x12 => (if x12 = 0 then ((o_X11_needArgument τ n s (nI 0)).bind fun x14 => (Sum.elim (fun y15 => (o_X4_addWork τ n (o + 10) s a1 ((a2 * ((nI 100) - a4)) / (nI 100)) a3).bind fun x17 => (some (.inl (x17.1, x17.2)))) (fun z16 => some (.inr (z16, s))) x14)) else ((o_X11_needArgument τ n s (nI 1)).bind fun x18 => (Sum.elim (fun y19 => (o_X4_addWork τ n (o + 10) s a1 ((a2 * ((nI 100) - a4)) / (nI 100)) a3).bind fun x21 => (some (.inl (x21.1, x21.2)))) (fun z20 => some (.inr (z20, s))) x18)))))) (fun z5 => some (.inr (z5, s))) x3)) else ((o_X11_within τ n s a2 (nI 0) (nI 100000)).bind fun x22 => (if x22 = 0 then ((o_X11_needArgument τ n s (nI 0)).bind fun x24 => (Sum.elim (fun y25 => (o_X11_within τ n s a3 (nI 0) (nI 29)).bind fun x27 => (if x27 = 0 then ((o_X11_needArgument τ n s (nI 0)).bind fun x29 => (Sum.elim (fun y30 => (o_X4_addWork τ n (o + 10) s a1 ((a2 * ((nI 100) - a4)) / (nI 100)) a3).bind fun x32 => (some (.inl (x32.1, x32.2)))) (fun z31 => some (.inr (z31, s))) x29)) else ((o_X11_within τ n s a4 (nI 0) (nI 100)).bind fun x33 => (if x33 = 0 then ((o_X11_needArgument τ n s (nI 0)).bind fun x35 => (Sum.elim (fun y36 => (o_X4_addWork τ n (o + 10) s a1 ((a2 * ((nI 100) - a4)) / (nI 100)) a3).bind fun x38 => (some (.inl (x38.1, x38.2)))) (fun z37 => some (.inr (z37, s))) x35)) else ((o_X11_needArgument τ n s (nI 1)).bind fun x39 => (Sum.elim (fun y40 => (o_X4_addWork τ n (o + 10) s a1 ((a2 * ((nI 100) - a4)) / (nI 100)) a3).bind fun x42 => (some (.inl (x42.1, x42.2)))) (fun z41 => some (.inr (z41, s))) x39)))))) (fun z26 => some (.inr (z26, s))) x24)) else ((o_X11_needArgument τ n s (nI 1)).bind fun x43 => (Sum.elim (fun y44 => (o_X11_within τ n s a3 (nI 0) (nI 29)).bind fun x46 => (if x46 = 0 then ((o_X11_needArgument τ n s (nI 0)).bind fun x48 => (Sum.elim (fun y49 => (o_X4_addWork τ n (o + 10) s a1 ((a2 * ((nI 100) - a4)) / (nI 100)) a3).bind fun x51 => (some (.inl (x51.1, x51.2)))) (fun z50 => some (.inr (z50, s))) x48)) else ((o_X11_within τ n s a4 (nI 0) (nI 100)).bind fun x52 => (if x52 = 0 then ((o_X11_needArgument τ n s (nI 0)).bind fun x54 => (Sum.elim (fun y55 => (o_X4_addWork τ n (o + 10) s a1 ((a2 * ((nI 100) - a4)) / (nI 100)) a3).bind fun x57 => (some (.inl (x57.1, x57.2)))) (fun z56 => some (.inr (z56, s))) x54)) else ((o_X11_needArgument τ n s (nI 1)).bind fun x58 => (Sum.elim (fun y59 => (o_X4_addWork τ n (o + 10) s a1 ((a2 * ((nI 100) - a4)) / (nI 100)) a3).bind fun x61 => (some (.inl (x61.1, x61.2)))) (fun z60 => some (.inr (z60, s))) x58)))))) (fun z45 => some (.inr (z45, s))) x43)))))
set_option maxHeartbeats 4000000 in
theorem t_X11_work {Γ : jg_G} {g : Nat → jg_C} (τ : cT) (n : Nat) (o : Nat) (s : cS) (a1 : Int32) (a2 : Int32) (a3 : Int32) (a4 : Int32) (hO : Sh τ n o) {x : Int32 × cS} (h : o_X11_work τ n o s a1 a2 a3 a4 = some (.inl x)) : jc Γ mX11_work 7 0 0 [some (.ref o), some (.int a1), some (.int a2), some (.int a3), some (.int a4)] (ct_h g τ s, n) (.inl (some (.int x.1))) (ct_h g τ x.2, n) := by
  refine jc_of ?_
  rw [o_X11_work] at h
  refine jg_iload_n dX11_work_0 rfl ?_
  refine jg_iconst (v := nI 0) dX11_work_1 (by decide) ?_
  refine jg_ldc kk_X11_153 dX11_work_2 ?_
  rw [show (1000000 : Int32) = nI 1000000 from rfl]
  obtain ⟨x1, e_x1, h⟩ := bd_some h
  refine cs_callS (As := [.int a1, .int (nI 0), .int (nI 1000000)]) ks_X11_41 dX11_work_4 rfl (by decide) (Nat.le_of_ble_eq_true rfl) rfl (by decide) (Nat.le_of_ble_eq_true rfl) (t_X11_within τ n s a1 (nI 0) (nI 1000000) e_x1) ?_
  refine jg_if_eq (x := x1) (tgt := 25) dX11_work_7 (by decide) (fun c2 => ?_) (fun c2 => ?_)
  · replace h := it_t c2 h
    refine jg_iconst (v := nI 0) dX11_work_25 (by decide) ?_
    obtain ⟨x3, e_x3, h⟩ := bd_some h
    rcases x3 with y4 | z5
    · replace h := se_l h
      refine cs_callS (As := [.int (nI 0)]) ks_X11_45 dX11_work_26 rfl (by decide) (Nat.le_of_ble_eq_true rfl) rfl (by decide) (Nat.le_of_ble_eq_true rfl) (t_X11_needArgument τ n s (nI 0) e_x3) ?_
      refine jg_iload_n dX11_work_29 rfl ?_
      refine jg_iconst (v := nI 0) dX11_work_30 (by decide) ?_
      refine jg_bipush (v := nI 29) dX11_work_31 (by decide) ?_
      obtain ⟨x6, e_x6, h⟩ := bd_some h
      refine cs_callS (As := [.int a3, .int (nI 0), .int (nI 29)]) ks_X11_41 dX11_work_33 rfl (by decide) (Nat.le_of_ble_eq_true rfl) rfl (by decide) (Nat.le_of_ble_eq_true rfl) (t_X11_within τ n s a3 (nI 0) (nI 29) e_x6) ?_
      refine jg_if_eq (x := x6) (tgt := 54) dX11_work_36 (by decide) (fun c7 => ?_) (fun c7 => ?_)
      · replace h := it_t c7 h
        refine jg_iconst (v := nI 0) dX11_work_54 (by decide) ?_
        obtain ⟨x8, e_x8, h⟩ := bd_some h
        rcases x8 with y9 | z10
        · replace h := se_l h
          refine cs_callS (As := [.int (nI 0)]) ks_X11_45 dX11_work_55 rfl (by decide) (Nat.le_of_ble_eq_true rfl) rfl (by decide) (Nat.le_of_ble_eq_true rfl) (t_X11_needArgument τ n s (nI 0) e_x8) ?_
          refine jg_aload_n dX11_work_58 rfl ?_
          refine cs_get (s := s) (w := .ref (o + 10)) fl_X11_27 dX11_work_59 hO.ob0 rfl ?_
          refine cs_get (s := s) (w := .ref (o + 141)) fl_X11_392 dX11_work_62 hO.1.ob0 rfl ?_
          refine jg_iload_n dX11_work_65 rfl ?_
          refine jg_iload_n dX11_work_66 rfl ?_
          refine jg_bipush (v := nI 100) dX11_work_67 (by decide) ?_
          refine jg_iload dX11_work_69 rfl ?_
          refine jg_isub (x := (nI 100)) (y := a4) dX11_work_71  ?_
          refine jg_imul (x := a2) (y := ((nI 100) - a4)) dX11_work_72  ?_
          refine jg_bipush (v := nI 100) dX11_work_73 (by decide) ?_
          refine jg_idiv (x := (a2 * ((nI 100) - a4))) (y := (nI 100)) dX11_work_75 (by decide) ?_
          refine jg_iload_n dX11_work_76 rfl ?_
          obtain ⟨x11, e_x11, h⟩ := bd_some h
          refine cs_call (q := (o + 141)) (As := [.int a1, .int ((a2 * ((nI 100) - a4)) / (nI 100)), .int a3]) kv_X11_396 dX11_work_77 (hO.1.ob 131 (by decide) rfl) rfl rfl (by decide) (Nat.le_of_ble_eq_true rfl) rfl (by decide) (Nat.le_of_ble_eq_true rfl) (t_X4_addWork τ n (o + 10) s a1 ((a2 * ((nI 100) - a4)) / (nI 100)) a3 hO.1 e_x11) ?_
          obtain rfl := Sum.inl.inj (Option.some.inj h)
          exact jg_ireturn dX11_work_80 rfl ⟨rfl, rfl⟩
        · replace h := se_r h
          cases h
      · replace h := it_f c7 h
        refine jg_iload dX11_work_39 rfl ?_
        refine jg_iconst (v := nI 0) dX11_work_41 (by decide) ?_
        refine jg_bipush (v := nI 100) dX11_work_42 (by decide) ?_
        obtain ⟨x12, e_x12, h⟩ := bd_some h
        refine cs_callS (As := [.int a4, .int (nI 0), .int (nI 100)]) ks_X11_41 dX11_work_44 rfl (by decide) (Nat.le_of_ble_eq_true rfl) rfl (by decide) (Nat.le_of_ble_eq_true rfl) (t_X11_within τ n s a4 (nI 0) (nI 100) e_x12) ?_
        refine jg_if_eq (x := x12) (tgt := 54) dX11_work_47 (by decide) (fun c13 => ?_) (fun c13 => ?_)
        · replace h := it_t c13 h
          refine jg_iconst (v := nI 0) dX11_work_54 (by decide) ?_
          obtain ⟨x14, e_x14, h⟩ := bd_some h
          rcases x14 with y15 | z16
          · replace h := se_l h
            refine cs_callS (As := [.int (nI 0)]) ks_X11_45 dX11_work_55 rfl (by decide) (Nat.le_of_ble_eq_true rfl) rfl (by decide) (Nat.le_of_ble_eq_true rfl) (t_X11_needArgument τ n s (nI 0) e_x14) ?_
            refine jg_aload_n dX11_work_58 rfl ?_
            refine cs_get (s := s) (w := .ref (o + 10)) fl_X11_27 dX11_work_59 hO.ob0 rfl ?_
            refine cs_get (s := s) (w := .ref (o + 141)) fl_X11_392 dX11_work_62 hO.1.ob0 rfl ?_
            refine jg_iload_n dX11_work_65 rfl ?_
            refine jg_iload_n dX11_work_66 rfl ?_
            refine jg_bipush (v := nI 100) dX11_work_67 (by decide) ?_
            refine jg_iload dX11_work_69 rfl ?_
            refine jg_isub (x := (nI 100)) (y := a4) dX11_work_71  ?_
            refine jg_imul (x := a2) (y := ((nI 100) - a4)) dX11_work_72  ?_
            refine jg_bipush (v := nI 100) dX11_work_73 (by decide) ?_
            refine jg_idiv (x := (a2 * ((nI 100) - a4))) (y := (nI 100)) dX11_work_75 (by decide) ?_
            refine jg_iload_n dX11_work_76 rfl ?_
            obtain ⟨x17, e_x17, h⟩ := bd_some h
            refine cs_call (q := (o + 141)) (As := [.int a1, .int ((a2 * ((nI 100) - a4)) / (nI 100)), .int a3]) kv_X11_396 dX11_work_77 (hO.1.ob 131 (by decide) rfl) rfl rfl (by decide) (Nat.le_of_ble_eq_true rfl) rfl (by decide) (Nat.le_of_ble_eq_true rfl) (t_X4_addWork τ n (o + 10) s a1 ((a2 * ((nI 100) - a4)) / (nI 100)) a3 hO.1 e_x17) ?_
            obtain rfl := Sum.inl.inj (Option.some.inj h)
            exact jg_ireturn dX11_work_80 rfl ⟨rfl, rfl⟩
          · replace h := se_r h
            cases h
        · replace h := it_f c13 h
          refine jg_iconst (v := nI 1) dX11_work_50 (by decide) ?_
          refine jg_goto (tgt := 55) dX11_work_51 (by decide) ?_
          obtain ⟨x18, e_x18, h⟩ := bd_some h
          rcases x18 with y19 | z20
          · replace h := se_l h
            refine cs_callS (As := [.int (nI 1)]) ks_X11_45 dX11_work_55 rfl (by decide) (Nat.le_of_ble_eq_true rfl) rfl (by decide) (Nat.le_of_ble_eq_true rfl) (t_X11_needArgument τ n s (nI 1) e_x18) ?_
            refine jg_aload_n dX11_work_58 rfl ?_
            refine cs_get (s := s) (w := .ref (o + 10)) fl_X11_27 dX11_work_59 hO.ob0 rfl ?_
            refine cs_get (s := s) (w := .ref (o + 141)) fl_X11_392 dX11_work_62 hO.1.ob0 rfl ?_
            refine jg_iload_n dX11_work_65 rfl ?_
            refine jg_iload_n dX11_work_66 rfl ?_
            refine jg_bipush (v := nI 100) dX11_work_67 (by decide) ?_
            refine jg_iload dX11_work_69 rfl ?_
            refine jg_isub (x := (nI 100)) (y := a4) dX11_work_71  ?_
            refine jg_imul (x := a2) (y := ((nI 100) - a4)) dX11_work_72  ?_
            refine jg_bipush (v := nI 100) dX11_work_73 (by decide) ?_
            refine jg_idiv (x := (a2 * ((nI 100) - a4))) (y := (nI 100)) dX11_work_75 (by decide) ?_
            refine jg_iload_n dX11_work_76 rfl ?_
            obtain ⟨x21, e_x21, h⟩ := bd_some h
            refine cs_call (q := (o + 141)) (As := [.int a1, .int ((a2 * ((nI 100) - a4)) / (nI 100)), .int a3]) kv_X11_396 dX11_work_77 (hO.1.ob 131 (by decide) rfl) rfl rfl (by decide) (Nat.le_of_ble_eq_true rfl) rfl (by decide) (Nat.le_of_ble_eq_true rfl) (t_X4_addWork τ n (o + 10) s a1 ((a2 * ((nI 100) - a4)) / (nI 100)) a3 hO.1 e_x21) ?_
            obtain rfl := Sum.inl.inj (Option.some.inj h)
            exact jg_ireturn dX11_work_80 rfl ⟨rfl, rfl⟩
          · replace h := se_r h
            cases h
    · replace h := se_r h
      cases h
  · replace h := it_f c2 h
    refine jg_iload_n dX11_work_10 rfl ?_
    refine jg_iconst (v := nI 0) dX11_work_11 (by decide) ?_
    refine jg_ldcw kk_X11_391 dX11_work_12 ?_
    rw [show (100000 : Int32) = nI 100000 from rfl]
    obtain ⟨x22, e_x22, h⟩ := bd_some h
    refine cs_callS (As := [.int a2, .int (nI 0), .int (nI 100000)]) ks_X11_41 dX11_work_15 rfl (by decide) (Nat.le_of_ble_eq_true rfl) rfl (by decide) (Nat.le_of_ble_eq_true rfl) (t_X11_within τ n s a2 (nI 0) (nI 100000) e_x22) ?_
    refine jg_if_eq (x := x22) (tgt := 25) dX11_work_18 (by decide) (fun c23 => ?_) (fun c23 => ?_)
    · replace h := it_t c23 h
      refine jg_iconst (v := nI 0) dX11_work_25 (by decide) ?_
      obtain ⟨x24, e_x24, h⟩ := bd_some h
      rcases x24 with y25 | z26
      · replace h := se_l h
        refine cs_callS (As := [.int (nI 0)]) ks_X11_45 dX11_work_26 rfl (by decide) (Nat.le_of_ble_eq_true rfl) rfl (by decide) (Nat.le_of_ble_eq_true rfl) (t_X11_needArgument τ n s (nI 0) e_x24) ?_
        refine jg_iload_n dX11_work_29 rfl ?_
        refine jg_iconst (v := nI 0) dX11_work_30 (by decide) ?_
        refine jg_bipush (v := nI 29) dX11_work_31 (by decide) ?_
        obtain ⟨x27, e_x27, h⟩ := bd_some h
        refine cs_callS (As := [.int a3, .int (nI 0), .int (nI 29)]) ks_X11_41 dX11_work_33 rfl (by decide) (Nat.le_of_ble_eq_true rfl) rfl (by decide) (Nat.le_of_ble_eq_true rfl) (t_X11_within τ n s a3 (nI 0) (nI 29) e_x27) ?_
        refine jg_if_eq (x := x27) (tgt := 54) dX11_work_36 (by decide) (fun c28 => ?_) (fun c28 => ?_)
        · replace h := it_t c28 h
          refine jg_iconst (v := nI 0) dX11_work_54 (by decide) ?_
          obtain ⟨x29, e_x29, h⟩ := bd_some h
          rcases x29 with y30 | z31
          · replace h := se_l h
            refine cs_callS (As := [.int (nI 0)]) ks_X11_45 dX11_work_55 rfl (by decide) (Nat.le_of_ble_eq_true rfl) rfl (by decide) (Nat.le_of_ble_eq_true rfl) (t_X11_needArgument τ n s (nI 0) e_x29) ?_
            refine jg_aload_n dX11_work_58 rfl ?_
            refine cs_get (s := s) (w := .ref (o + 10)) fl_X11_27 dX11_work_59 hO.ob0 rfl ?_
            refine cs_get (s := s) (w := .ref (o + 141)) fl_X11_392 dX11_work_62 hO.1.ob0 rfl ?_
            refine jg_iload_n dX11_work_65 rfl ?_
            refine jg_iload_n dX11_work_66 rfl ?_
            refine jg_bipush (v := nI 100) dX11_work_67 (by decide) ?_
            refine jg_iload dX11_work_69 rfl ?_
            refine jg_isub (x := (nI 100)) (y := a4) dX11_work_71  ?_
            refine jg_imul (x := a2) (y := ((nI 100) - a4)) dX11_work_72  ?_
            refine jg_bipush (v := nI 100) dX11_work_73 (by decide) ?_
            refine jg_idiv (x := (a2 * ((nI 100) - a4))) (y := (nI 100)) dX11_work_75 (by decide) ?_
            refine jg_iload_n dX11_work_76 rfl ?_
            obtain ⟨x32, e_x32, h⟩ := bd_some h
            refine cs_call (q := (o + 141)) (As := [.int a1, .int ((a2 * ((nI 100) - a4)) / (nI 100)), .int a3]) kv_X11_396 dX11_work_77 (hO.1.ob 131 (by decide) rfl) rfl rfl (by decide) (Nat.le_of_ble_eq_true rfl) rfl (by decide) (Nat.le_of_ble_eq_true rfl) (t_X4_addWork τ n (o + 10) s a1 ((a2 * ((nI 100) - a4)) / (nI 100)) a3 hO.1 e_x32) ?_
            obtain rfl := Sum.inl.inj (Option.some.inj h)
            exact jg_ireturn dX11_work_80 rfl ⟨rfl, rfl⟩
          · replace h := se_r h
            cases h
        · replace h := it_f c28 h
          refine jg_iload dX11_work_39 rfl ?_
          refine jg_iconst (v := nI 0) dX11_work_41 (by decide) ?_
          refine jg_bipush (v := nI 100) dX11_work_42 (by decide) ?_
          obtain ⟨x33, e_x33, h⟩ := bd_some h
          refine cs_callS (As := [.int a4, .int (nI 0), .int (nI 100)]) ks_X11_41 dX11_work_44 rfl (by decide) (Nat.le_of_ble_eq_true rfl) rfl (by decide) (Nat.le_of_ble_eq_true rfl) (t_X11_within τ n s a4 (nI 0) (nI 100) e_x33) ?_
          refine jg_if_eq (x := x33) (tgt := 54) dX11_work_47 (by decide) (fun c34 => ?_) (fun c34 => ?_)
          · replace h := it_t c34 h
            refine jg_iconst (v := nI 0) dX11_work_54 (by decide) ?_
            obtain ⟨x35, e_x35, h⟩ := bd_some h
            rcases x35 with y36 | z37
            · replace h := se_l h
              refine cs_callS (As := [.int (nI 0)]) ks_X11_45 dX11_work_55 rfl (by decide) (Nat.le_of_ble_eq_true rfl) rfl (by decide) (Nat.le_of_ble_eq_true rfl) (t_X11_needArgument τ n s (nI 0) e_x35) ?_
              refine jg_aload_n dX11_work_58 rfl ?_
              refine cs_get (s := s) (w := .ref (o + 10)) fl_X11_27 dX11_work_59 hO.ob0 rfl ?_
              refine cs_get (s := s) (w := .ref (o + 141)) fl_X11_392 dX11_work_62 hO.1.ob0 rfl ?_
              refine jg_iload_n dX11_work_65 rfl ?_
              refine jg_iload_n dX11_work_66 rfl ?_
              refine jg_bipush (v := nI 100) dX11_work_67 (by decide) ?_
              refine jg_iload dX11_work_69 rfl ?_
              refine jg_isub (x := (nI 100)) (y := a4) dX11_work_71  ?_
              refine jg_imul (x := a2) (y := ((nI 100) - a4)) dX11_work_72  ?_
              refine jg_bipush (v := nI 100) dX11_work_73 (by decide) ?_
              refine jg_idiv (x := (a2 * ((nI 100) - a4))) (y := (nI 100)) dX11_work_75 (by decide) ?_
              refine jg_iload_n dX11_work_76 rfl ?_
              obtain ⟨x38, e_x38, h⟩ := bd_some h
              refine cs_call (q := (o + 141)) (As := [.int a1, .int ((a2 * ((nI 100) - a4)) / (nI 100)), .int a3]) kv_X11_396 dX11_work_77 (hO.1.ob 131 (by decide) rfl) rfl rfl (by decide) (Nat.le_of_ble_eq_true rfl) rfl (by decide) (Nat.le_of_ble_eq_true rfl) (t_X4_addWork τ n (o + 10) s a1 ((a2 * ((nI 100) - a4)) / (nI 100)) a3 hO.1 e_x38) ?_
              obtain rfl := Sum.inl.inj (Option.some.inj h)
              exact jg_ireturn dX11_work_80 rfl ⟨rfl, rfl⟩
            · replace h := se_r h
              cases h
          · replace h := it_f c34 h
            refine jg_iconst (v := nI 1) dX11_work_50 (by decide) ?_
            refine jg_goto (tgt := 55) dX11_work_51 (by decide) ?_
            obtain ⟨x39, e_x39, h⟩ := bd_some h
            rcases x39 with y40 | z41
            · replace h := se_l h
              refine cs_callS (As := [.int (nI 1)]) ks_X11_45 dX11_work_55 rfl (by decide) (Nat.le_of_ble_eq_true rfl) rfl (by decide) (Nat.le_of_ble_eq_true rfl) (t_X11_needArgument τ n s (nI 1) e_x39) ?_
              refine jg_aload_n dX11_work_58 rfl ?_
              refine cs_get (s := s) (w := .ref (o + 10)) fl_X11_27 dX11_work_59 hO.ob0 rfl ?_
              refine cs_get (s := s) (w := .ref (o + 141)) fl_X11_392 dX11_work_62 hO.1.ob0 rfl ?_
              refine jg_iload_n dX11_work_65 rfl ?_
              refine jg_iload_n dX11_work_66 rfl ?_
              refine jg_bipush (v := nI 100) dX11_work_67 (by decide) ?_
              refine jg_iload dX11_work_69 rfl ?_
              refine jg_isub (x := (nI 100)) (y := a4) dX11_work_71  ?_
              refine jg_imul (x := a2) (y := ((nI 100) - a4)) dX11_work_72  ?_
              refine jg_bipush (v := nI 100) dX11_work_73 (by decide) ?_
              refine jg_idiv (x := (a2 * ((nI 100) - a4))) (y := (nI 100)) dX11_work_75 (by decide) ?_
              refine jg_iload_n dX11_work_76 rfl ?_
              obtain ⟨x42, e_x42, h⟩ := bd_some h
              refine cs_call (q := (o + 141)) (As := [.int a1, .int ((a2 * ((nI 100) - a4)) / (nI 100)), .int a3]) kv_X11_396 dX11_work_77 (hO.1.ob 131 (by decide) rfl) rfl rfl (by decide) (Nat.le_of_ble_eq_true rfl) rfl (by decide) (Nat.le_of_ble_eq_true rfl) (t_X4_addWork τ n (o + 10) s a1 ((a2 * ((nI 100) - a4)) / (nI 100)) a3 hO.1 e_x42) ?_
              obtain rfl := Sum.inl.inj (Option.some.inj h)
              exact jg_ireturn dX11_work_80 rfl ⟨rfl, rfl⟩
            · replace h := se_r h
              cases h
      · replace h := se_r h
        cases h
    · replace h := it_f c23 h
      refine jg_iconst (v := nI 1) dX11_work_21 (by decide) ?_
      refine jg_goto (tgt := 26) dX11_work_22 (by decide) ?_
      obtain ⟨x43, e_x43, h⟩ := bd_some h
      rcases x43 with y44 | z45
      · replace h := se_l h
        refine cs_callS (As := [.int (nI 1)]) ks_X11_45 dX11_work_26 rfl (by decide) (Nat.le_of_ble_eq_true rfl) rfl (by decide) (Nat.le_of_ble_eq_true rfl) (t_X11_needArgument τ n s (nI 1) e_x43) ?_
        refine jg_iload_n dX11_work_29 rfl ?_
        refine jg_iconst (v := nI 0) dX11_work_30 (by decide) ?_
        refine jg_bipush (v := nI 29) dX11_work_31 (by decide) ?_
        obtain ⟨x46, e_x46, h⟩ := bd_some h
        refine cs_callS (As := [.int a3, .int (nI 0), .int (nI 29)]) ks_X11_41 dX11_work_33 rfl (by decide) (Nat.le_of_ble_eq_true rfl) rfl (by decide) (Nat.le_of_ble_eq_true rfl) (t_X11_within τ n s a3 (nI 0) (nI 29) e_x46) ?_
        refine jg_if_eq (x := x46) (tgt := 54) dX11_work_36 (by decide) (fun c47 => ?_) (fun c47 => ?_)
        · replace h := it_t c47 h
          refine jg_iconst (v := nI 0) dX11_work_54 (by decide) ?_
          obtain ⟨x48, e_x48, h⟩ := bd_some h
          rcases x48 with y49 | z50
          · replace h := se_l h
            refine cs_callS (As := [.int (nI 0)]) ks_X11_45 dX11_work_55 rfl (by decide) (Nat.le_of_ble_eq_true rfl) rfl (by decide) (Nat.le_of_ble_eq_true rfl) (t_X11_needArgument τ n s (nI 0) e_x48) ?_
            refine jg_aload_n dX11_work_58 rfl ?_
            refine cs_get (s := s) (w := .ref (o + 10)) fl_X11_27 dX11_work_59 hO.ob0 rfl ?_
            refine cs_get (s := s) (w := .ref (o + 141)) fl_X11_392 dX11_work_62 hO.1.ob0 rfl ?_
            refine jg_iload_n dX11_work_65 rfl ?_
            refine jg_iload_n dX11_work_66 rfl ?_
            refine jg_bipush (v := nI 100) dX11_work_67 (by decide) ?_
            refine jg_iload dX11_work_69 rfl ?_
            refine jg_isub (x := (nI 100)) (y := a4) dX11_work_71  ?_
            refine jg_imul (x := a2) (y := ((nI 100) - a4)) dX11_work_72  ?_
            refine jg_bipush (v := nI 100) dX11_work_73 (by decide) ?_
            refine jg_idiv (x := (a2 * ((nI 100) - a4))) (y := (nI 100)) dX11_work_75 (by decide) ?_
            refine jg_iload_n dX11_work_76 rfl ?_
            obtain ⟨x51, e_x51, h⟩ := bd_some h
            refine cs_call (q := (o + 141)) (As := [.int a1, .int ((a2 * ((nI 100) - a4)) / (nI 100)), .int a3]) kv_X11_396 dX11_work_77 (hO.1.ob 131 (by decide) rfl) rfl rfl (by decide) (Nat.le_of_ble_eq_true rfl) rfl (by decide) (Nat.le_of_ble_eq_true rfl) (t_X4_addWork τ n (o + 10) s a1 ((a2 * ((nI 100) - a4)) / (nI 100)) a3 hO.1 e_x51) ?_
            obtain rfl := Sum.inl.inj (Option.some.inj h)
            exact jg_ireturn dX11_work_80 rfl ⟨rfl, rfl⟩
          · replace h := se_r h
            cases h
        · replace h := it_f c47 h
          refine jg_iload dX11_work_39 rfl ?_
          refine jg_iconst (v := nI 0) dX11_work_41 (by decide) ?_
          refine jg_bipush (v := nI 100) dX11_work_42 (by decide) ?_
          obtain ⟨x52, e_x52, h⟩ := bd_some h
          refine cs_callS (As := [.int a4, .int (nI 0), .int (nI 100)]) ks_X11_41 dX11_work_44 rfl (by decide) (Nat.le_of_ble_eq_true rfl) rfl (by decide) (Nat.le_of_ble_eq_true rfl) (t_X11_within τ n s a4 (nI 0) (nI 100) e_x52) ?_
          refine jg_if_eq (x := x52) (tgt := 54) dX11_work_47 (by decide) (fun c53 => ?_) (fun c53 => ?_)
          · replace h := it_t c53 h
            refine jg_iconst (v := nI 0) dX11_work_54 (by decide) ?_
            obtain ⟨x54, e_x54, h⟩ := bd_some h
            rcases x54 with y55 | z56
            · replace h := se_l h
              refine cs_callS (As := [.int (nI 0)]) ks_X11_45 dX11_work_55 rfl (by decide) (Nat.le_of_ble_eq_true rfl) rfl (by decide) (Nat.le_of_ble_eq_true rfl) (t_X11_needArgument τ n s (nI 0) e_x54) ?_
              refine jg_aload_n dX11_work_58 rfl ?_
              refine cs_get (s := s) (w := .ref (o + 10)) fl_X11_27 dX11_work_59 hO.ob0 rfl ?_
              refine cs_get (s := s) (w := .ref (o + 141)) fl_X11_392 dX11_work_62 hO.1.ob0 rfl ?_
              refine jg_iload_n dX11_work_65 rfl ?_
              refine jg_iload_n dX11_work_66 rfl ?_
              refine jg_bipush (v := nI 100) dX11_work_67 (by decide) ?_
              refine jg_iload dX11_work_69 rfl ?_
              refine jg_isub (x := (nI 100)) (y := a4) dX11_work_71  ?_
              refine jg_imul (x := a2) (y := ((nI 100) - a4)) dX11_work_72  ?_
              refine jg_bipush (v := nI 100) dX11_work_73 (by decide) ?_
              refine jg_idiv (x := (a2 * ((nI 100) - a4))) (y := (nI 100)) dX11_work_75 (by decide) ?_
              refine jg_iload_n dX11_work_76 rfl ?_
              obtain ⟨x57, e_x57, h⟩ := bd_some h
              refine cs_call (q := (o + 141)) (As := [.int a1, .int ((a2 * ((nI 100) - a4)) / (nI 100)), .int a3]) kv_X11_396 dX11_work_77 (hO.1.ob 131 (by decide) rfl) rfl rfl (by decide) (Nat.le_of_ble_eq_true rfl) rfl (by decide) (Nat.le_of_ble_eq_true rfl) (t_X4_addWork τ n (o + 10) s a1 ((a2 * ((nI 100) - a4)) / (nI 100)) a3 hO.1 e_x57) ?_
              obtain rfl := Sum.inl.inj (Option.some.inj h)
              exact jg_ireturn dX11_work_80 rfl ⟨rfl, rfl⟩
            · replace h := se_r h
              cases h
          · replace h := it_f c53 h
            refine jg_iconst (v := nI 1) dX11_work_50 (by decide) ?_
            refine jg_goto (tgt := 55) dX11_work_51 (by decide) ?_
            obtain ⟨x58, e_x58, h⟩ := bd_some h
            rcases x58 with y59 | z60
            · replace h := se_l h
              refine cs_callS (As := [.int (nI 1)]) ks_X11_45 dX11_work_55 rfl (by decide) (Nat.le_of_ble_eq_true rfl) rfl (by decide) (Nat.le_of_ble_eq_true rfl) (t_X11_needArgument τ n s (nI 1) e_x58) ?_
              refine jg_aload_n dX11_work_58 rfl ?_
              refine cs_get (s := s) (w := .ref (o + 10)) fl_X11_27 dX11_work_59 hO.ob0 rfl ?_
              refine cs_get (s := s) (w := .ref (o + 141)) fl_X11_392 dX11_work_62 hO.1.ob0 rfl ?_
              refine jg_iload_n dX11_work_65 rfl ?_
              refine jg_iload_n dX11_work_66 rfl ?_
              refine jg_bipush (v := nI 100) dX11_work_67 (by decide) ?_
              refine jg_iload dX11_work_69 rfl ?_
              refine jg_isub (x := (nI 100)) (y := a4) dX11_work_71  ?_
              refine jg_imul (x := a2) (y := ((nI 100) - a4)) dX11_work_72  ?_
              refine jg_bipush (v := nI 100) dX11_work_73 (by decide) ?_
              refine jg_idiv (x := (a2 * ((nI 100) - a4))) (y := (nI 100)) dX11_work_75 (by decide) ?_
              refine jg_iload_n dX11_work_76 rfl ?_
              obtain ⟨x61, e_x61, h⟩ := bd_some h
              refine cs_call (q := (o + 141)) (As := [.int a1, .int ((a2 * ((nI 100) - a4)) / (nI 100)), .int a3]) kv_X11_396 dX11_work_77 (hO.1.ob 131 (by decide) rfl) rfl rfl (by decide) (Nat.le_of_ble_eq_true rfl) rfl (by decide) (Nat.le_of_ble_eq_true rfl) (t_X4_addWork τ n (o + 10) s a1 ((a2 * ((nI 100) - a4)) / (nI 100)) a3 hO.1 e_x61) ?_
              obtain rfl := Sum.inl.inj (Option.some.inj h)
              exact jg_ireturn dX11_work_80 rfl ⟨rfl, rfl⟩
            · replace h := se_r h
              cases h
      · replace h := se_r h
        cases h
set_option maxHeartbeats 4000000 in
theorem x_X11_work {Γ : jg_G} {g : Nat → jg_C} (τ : cT) (n : Nat) (o : Nat) (s : cS) (a1 : Int32) (a2 : Int32) (a3 : Int32) (a4 : Int32) (hO : Sh τ n o) (hn : n < 1000000) (hT : τ n = .inr (8, 0)) {z : Nat × cS} (h : o_X11_work τ n o s a1 a2 a3 a4 = some (.inr z)) : jc Γ mX11_work 7 1 6 [some (.ref o), some (.int a1), some (.int a2), some (.int a3), some (.int a4)] (ct_h g τ s, n) (.inr (exn z.1)) (ct_h (gx g n) τ z.2, n + 1) := by
  refine jc_of ?_
  rw [o_X11_work] at h
  refine jg_iload_n dX11_work_0 rfl ?_
  refine jg_iconst (v := nI 0) dX11_work_1 (by decide) ?_
  refine jg_ldc kk_X11_153 dX11_work_2 ?_
  rw [show (1000000 : Int32) = nI 1000000 from rfl]
  obtain ⟨x1, e_x1, h⟩ := bd_some h
  refine cs_callS (As := [.int a1, .int (nI 0), .int (nI 1000000)]) ks_X11_41 dX11_work_4 rfl (by decide) (Nat.le_of_ble_eq_true rfl) rfl (by decide) (Nat.le_of_ble_eq_true rfl) (t_X11_within τ n s a1 (nI 0) (nI 1000000) e_x1) ?_
  refine jg_if_eq (x := x1) (tgt := 25) dX11_work_7 (by decide) (fun c2 => ?_) (fun c2 => ?_)
  · replace h := it_t c2 h
    refine jg_iconst (v := nI 0) dX11_work_25 (by decide) ?_
    obtain ⟨x3, e_x3, h⟩ := bd_some h
    rcases x3 with y4 | z5
    · replace h := se_l h
      refine cs_callS (As := [.int (nI 0)]) ks_X11_45 dX11_work_26 rfl (by decide) (Nat.le_of_ble_eq_true rfl) rfl (by decide) (Nat.le_of_ble_eq_true rfl) (t_X11_needArgument τ n s (nI 0) e_x3) ?_
      refine jg_iload_n dX11_work_29 rfl ?_
      refine jg_iconst (v := nI 0) dX11_work_30 (by decide) ?_
      refine jg_bipush (v := nI 29) dX11_work_31 (by decide) ?_
      obtain ⟨x6, e_x6, h⟩ := bd_some h
      refine cs_callS (As := [.int a3, .int (nI 0), .int (nI 29)]) ks_X11_41 dX11_work_33 rfl (by decide) (Nat.le_of_ble_eq_true rfl) rfl (by decide) (Nat.le_of_ble_eq_true rfl) (t_X11_within τ n s a3 (nI 0) (nI 29) e_x6) ?_
      refine jg_if_eq (x := x6) (tgt := 54) dX11_work_36 (by decide) (fun c7 => ?_) (fun c7 => ?_)
      · replace h := it_t c7 h
        refine jg_iconst (v := nI 0) dX11_work_54 (by decide) ?_
        obtain ⟨x8, e_x8, h⟩ := bd_some h
        rcases x8 with y9 | z10
        · replace h := se_l h
          refine cs_callS (As := [.int (nI 0)]) ks_X11_45 dX11_work_55 rfl (by decide) (Nat.le_of_ble_eq_true rfl) rfl (by decide) (Nat.le_of_ble_eq_true rfl) (t_X11_needArgument τ n s (nI 0) e_x8) ?_
          refine jg_aload_n dX11_work_58 rfl ?_
          refine cs_get (s := s) (w := .ref (o + 10)) fl_X11_27 dX11_work_59 hO.ob0 rfl ?_
          refine cs_get (s := s) (w := .ref (o + 141)) fl_X11_392 dX11_work_62 hO.1.ob0 rfl ?_
          refine jg_iload_n dX11_work_65 rfl ?_
          refine jg_iload_n dX11_work_66 rfl ?_
          refine jg_bipush (v := nI 100) dX11_work_67 (by decide) ?_
          refine jg_iload dX11_work_69 rfl ?_
          refine jg_isub (x := (nI 100)) (y := a4) dX11_work_71  ?_
          refine jg_imul (x := a2) (y := ((nI 100) - a4)) dX11_work_72  ?_
          refine jg_bipush (v := nI 100) dX11_work_73 (by decide) ?_
          refine jg_idiv (x := (a2 * ((nI 100) - a4))) (y := (nI 100)) dX11_work_75 (by decide) ?_
          refine jg_iload_n dX11_work_76 rfl ?_
          obtain ⟨x11, e_x11, h⟩ := bd_some h
          refine cs_call (q := (o + 141)) (As := [.int a1, .int ((a2 * ((nI 100) - a4)) / (nI 100)), .int a3]) kv_X11_396 dX11_work_77 (hO.1.ob 131 (by decide) rfl) rfl rfl (by decide) (Nat.le_of_ble_eq_true rfl) rfl (by decide) (Nat.le_of_ble_eq_true rfl) (t_X4_addWork τ n (o + 10) s a1 ((a2 * ((nI 100) - a4)) / (nI 100)) a3 hO.1 e_x11) ?_
          cases h
        · replace h := se_r h
          obtain rfl := Sum.inr.inj (Option.some.inj h)
          exact jc_SX (As := [.int (nI 0)]) ks_X11_45 dX11_work_55 rfl (by decide) (Nat.le_of_ble_eq_true rfl) rfl (by decide) (Nat.le_refl _) (Nat.le_refl _) (Nat.le_of_ble_eq_true rfl) (x_X11_needArgument τ n s (nI 0) hn hT e_x8) ⟨rfl, rfl⟩
      · replace h := it_f c7 h
        refine jg_iload dX11_work_39 rfl ?_
        refine jg_iconst (v := nI 0) dX11_work_41 (by decide) ?_
        refine jg_bipush (v := nI 100) dX11_work_42 (by decide) ?_
        obtain ⟨x12, e_x12, h⟩ := bd_some h
        refine cs_callS (As := [.int a4, .int (nI 0), .int (nI 100)]) ks_X11_41 dX11_work_44 rfl (by decide) (Nat.le_of_ble_eq_true rfl) rfl (by decide) (Nat.le_of_ble_eq_true rfl) (t_X11_within τ n s a4 (nI 0) (nI 100) e_x12) ?_
        refine jg_if_eq (x := x12) (tgt := 54) dX11_work_47 (by decide) (fun c13 => ?_) (fun c13 => ?_)
        · replace h := it_t c13 h
          refine jg_iconst (v := nI 0) dX11_work_54 (by decide) ?_
          obtain ⟨x14, e_x14, h⟩ := bd_some h
          rcases x14 with y15 | z16
          · replace h := se_l h
            refine cs_callS (As := [.int (nI 0)]) ks_X11_45 dX11_work_55 rfl (by decide) (Nat.le_of_ble_eq_true rfl) rfl (by decide) (Nat.le_of_ble_eq_true rfl) (t_X11_needArgument τ n s (nI 0) e_x14) ?_
            refine jg_aload_n dX11_work_58 rfl ?_
            refine cs_get (s := s) (w := .ref (o + 10)) fl_X11_27 dX11_work_59 hO.ob0 rfl ?_
            refine cs_get (s := s) (w := .ref (o + 141)) fl_X11_392 dX11_work_62 hO.1.ob0 rfl ?_
            refine jg_iload_n dX11_work_65 rfl ?_
            refine jg_iload_n dX11_work_66 rfl ?_
            refine jg_bipush (v := nI 100) dX11_work_67 (by decide) ?_
            refine jg_iload dX11_work_69 rfl ?_
            refine jg_isub (x := (nI 100)) (y := a4) dX11_work_71  ?_
            refine jg_imul (x := a2) (y := ((nI 100) - a4)) dX11_work_72  ?_
            refine jg_bipush (v := nI 100) dX11_work_73 (by decide) ?_
            refine jg_idiv (x := (a2 * ((nI 100) - a4))) (y := (nI 100)) dX11_work_75 (by decide) ?_
            refine jg_iload_n dX11_work_76 rfl ?_
            obtain ⟨x17, e_x17, h⟩ := bd_some h
            refine cs_call (q := (o + 141)) (As := [.int a1, .int ((a2 * ((nI 100) - a4)) / (nI 100)), .int a3]) kv_X11_396 dX11_work_77 (hO.1.ob 131 (by decide) rfl) rfl rfl (by decide) (Nat.le_of_ble_eq_true rfl) rfl (by decide) (Nat.le_of_ble_eq_true rfl) (t_X4_addWork τ n (o + 10) s a1 ((a2 * ((nI 100) - a4)) / (nI 100)) a3 hO.1 e_x17) ?_
            cases h
          · replace h := se_r h
            obtain rfl := Sum.inr.inj (Option.some.inj h)
            exact jc_SX (As := [.int (nI 0)]) ks_X11_45 dX11_work_55 rfl (by decide) (Nat.le_of_ble_eq_true rfl) rfl (by decide) (Nat.le_refl _) (Nat.le_refl _) (Nat.le_of_ble_eq_true rfl) (x_X11_needArgument τ n s (nI 0) hn hT e_x14) ⟨rfl, rfl⟩
        · replace h := it_f c13 h
          refine jg_iconst (v := nI 1) dX11_work_50 (by decide) ?_
          refine jg_goto (tgt := 55) dX11_work_51 (by decide) ?_
          obtain ⟨x18, e_x18, h⟩ := bd_some h
          rcases x18 with y19 | z20
          · replace h := se_l h
            refine cs_callS (As := [.int (nI 1)]) ks_X11_45 dX11_work_55 rfl (by decide) (Nat.le_of_ble_eq_true rfl) rfl (by decide) (Nat.le_of_ble_eq_true rfl) (t_X11_needArgument τ n s (nI 1) e_x18) ?_
            refine jg_aload_n dX11_work_58 rfl ?_
            refine cs_get (s := s) (w := .ref (o + 10)) fl_X11_27 dX11_work_59 hO.ob0 rfl ?_
            refine cs_get (s := s) (w := .ref (o + 141)) fl_X11_392 dX11_work_62 hO.1.ob0 rfl ?_
            refine jg_iload_n dX11_work_65 rfl ?_
            refine jg_iload_n dX11_work_66 rfl ?_
            refine jg_bipush (v := nI 100) dX11_work_67 (by decide) ?_
            refine jg_iload dX11_work_69 rfl ?_
            refine jg_isub (x := (nI 100)) (y := a4) dX11_work_71  ?_
            refine jg_imul (x := a2) (y := ((nI 100) - a4)) dX11_work_72  ?_
            refine jg_bipush (v := nI 100) dX11_work_73 (by decide) ?_
            refine jg_idiv (x := (a2 * ((nI 100) - a4))) (y := (nI 100)) dX11_work_75 (by decide) ?_
            refine jg_iload_n dX11_work_76 rfl ?_
            obtain ⟨x21, e_x21, h⟩ := bd_some h
            refine cs_call (q := (o + 141)) (As := [.int a1, .int ((a2 * ((nI 100) - a4)) / (nI 100)), .int a3]) kv_X11_396 dX11_work_77 (hO.1.ob 131 (by decide) rfl) rfl rfl (by decide) (Nat.le_of_ble_eq_true rfl) rfl (by decide) (Nat.le_of_ble_eq_true rfl) (t_X4_addWork τ n (o + 10) s a1 ((a2 * ((nI 100) - a4)) / (nI 100)) a3 hO.1 e_x21) ?_
            cases h
          · replace h := se_r h
            obtain rfl := Sum.inr.inj (Option.some.inj h)
            exact jc_SX (As := [.int (nI 1)]) ks_X11_45 dX11_work_55 rfl (by decide) (Nat.le_of_ble_eq_true rfl) rfl (by decide) (Nat.le_refl _) (Nat.le_refl _) (Nat.le_of_ble_eq_true rfl) (x_X11_needArgument τ n s (nI 1) hn hT e_x18) ⟨rfl, rfl⟩
    · replace h := se_r h
      obtain rfl := Sum.inr.inj (Option.some.inj h)
      exact jc_SX (As := [.int (nI 0)]) ks_X11_45 dX11_work_26 rfl (by decide) (Nat.le_of_ble_eq_true rfl) rfl (by decide) (Nat.le_refl _) (Nat.le_refl _) (Nat.le_of_ble_eq_true rfl) (x_X11_needArgument τ n s (nI 0) hn hT e_x3) ⟨rfl, rfl⟩
  · replace h := it_f c2 h
    refine jg_iload_n dX11_work_10 rfl ?_
    refine jg_iconst (v := nI 0) dX11_work_11 (by decide) ?_
    refine jg_ldcw kk_X11_391 dX11_work_12 ?_
    rw [show (100000 : Int32) = nI 100000 from rfl]
    obtain ⟨x22, e_x22, h⟩ := bd_some h
    refine cs_callS (As := [.int a2, .int (nI 0), .int (nI 100000)]) ks_X11_41 dX11_work_15 rfl (by decide) (Nat.le_of_ble_eq_true rfl) rfl (by decide) (Nat.le_of_ble_eq_true rfl) (t_X11_within τ n s a2 (nI 0) (nI 100000) e_x22) ?_
    refine jg_if_eq (x := x22) (tgt := 25) dX11_work_18 (by decide) (fun c23 => ?_) (fun c23 => ?_)
    · replace h := it_t c23 h
      refine jg_iconst (v := nI 0) dX11_work_25 (by decide) ?_
      obtain ⟨x24, e_x24, h⟩ := bd_some h
      rcases x24 with y25 | z26
      · replace h := se_l h
        refine cs_callS (As := [.int (nI 0)]) ks_X11_45 dX11_work_26 rfl (by decide) (Nat.le_of_ble_eq_true rfl) rfl (by decide) (Nat.le_of_ble_eq_true rfl) (t_X11_needArgument τ n s (nI 0) e_x24) ?_
        refine jg_iload_n dX11_work_29 rfl ?_
        refine jg_iconst (v := nI 0) dX11_work_30 (by decide) ?_
        refine jg_bipush (v := nI 29) dX11_work_31 (by decide) ?_
        obtain ⟨x27, e_x27, h⟩ := bd_some h
        refine cs_callS (As := [.int a3, .int (nI 0), .int (nI 29)]) ks_X11_41 dX11_work_33 rfl (by decide) (Nat.le_of_ble_eq_true rfl) rfl (by decide) (Nat.le_of_ble_eq_true rfl) (t_X11_within τ n s a3 (nI 0) (nI 29) e_x27) ?_
        refine jg_if_eq (x := x27) (tgt := 54) dX11_work_36 (by decide) (fun c28 => ?_) (fun c28 => ?_)
        · replace h := it_t c28 h
          refine jg_iconst (v := nI 0) dX11_work_54 (by decide) ?_
          obtain ⟨x29, e_x29, h⟩ := bd_some h
          rcases x29 with y30 | z31
          · replace h := se_l h
            refine cs_callS (As := [.int (nI 0)]) ks_X11_45 dX11_work_55 rfl (by decide) (Nat.le_of_ble_eq_true rfl) rfl (by decide) (Nat.le_of_ble_eq_true rfl) (t_X11_needArgument τ n s (nI 0) e_x29) ?_
            refine jg_aload_n dX11_work_58 rfl ?_
            refine cs_get (s := s) (w := .ref (o + 10)) fl_X11_27 dX11_work_59 hO.ob0 rfl ?_
            refine cs_get (s := s) (w := .ref (o + 141)) fl_X11_392 dX11_work_62 hO.1.ob0 rfl ?_
            refine jg_iload_n dX11_work_65 rfl ?_
            refine jg_iload_n dX11_work_66 rfl ?_
            refine jg_bipush (v := nI 100) dX11_work_67 (by decide) ?_
            refine jg_iload dX11_work_69 rfl ?_
            refine jg_isub (x := (nI 100)) (y := a4) dX11_work_71  ?_
            refine jg_imul (x := a2) (y := ((nI 100) - a4)) dX11_work_72  ?_
            refine jg_bipush (v := nI 100) dX11_work_73 (by decide) ?_
            refine jg_idiv (x := (a2 * ((nI 100) - a4))) (y := (nI 100)) dX11_work_75 (by decide) ?_
            refine jg_iload_n dX11_work_76 rfl ?_
            obtain ⟨x32, e_x32, h⟩ := bd_some h
            refine cs_call (q := (o + 141)) (As := [.int a1, .int ((a2 * ((nI 100) - a4)) / (nI 100)), .int a3]) kv_X11_396 dX11_work_77 (hO.1.ob 131 (by decide) rfl) rfl rfl (by decide) (Nat.le_of_ble_eq_true rfl) rfl (by decide) (Nat.le_of_ble_eq_true rfl) (t_X4_addWork τ n (o + 10) s a1 ((a2 * ((nI 100) - a4)) / (nI 100)) a3 hO.1 e_x32) ?_
            cases h
          · replace h := se_r h
            obtain rfl := Sum.inr.inj (Option.some.inj h)
            exact jc_SX (As := [.int (nI 0)]) ks_X11_45 dX11_work_55 rfl (by decide) (Nat.le_of_ble_eq_true rfl) rfl (by decide) (Nat.le_refl _) (Nat.le_refl _) (Nat.le_of_ble_eq_true rfl) (x_X11_needArgument τ n s (nI 0) hn hT e_x29) ⟨rfl, rfl⟩
        · replace h := it_f c28 h
          refine jg_iload dX11_work_39 rfl ?_
          refine jg_iconst (v := nI 0) dX11_work_41 (by decide) ?_
          refine jg_bipush (v := nI 100) dX11_work_42 (by decide) ?_
          obtain ⟨x33, e_x33, h⟩ := bd_some h
          refine cs_callS (As := [.int a4, .int (nI 0), .int (nI 100)]) ks_X11_41 dX11_work_44 rfl (by decide) (Nat.le_of_ble_eq_true rfl) rfl (by decide) (Nat.le_of_ble_eq_true rfl) (t_X11_within τ n s a4 (nI 0) (nI 100) e_x33) ?_
          refine jg_if_eq (x := x33) (tgt := 54) dX11_work_47 (by decide) (fun c34 => ?_) (fun c34 => ?_)
          · replace h := it_t c34 h
            refine jg_iconst (v := nI 0) dX11_work_54 (by decide) ?_
            obtain ⟨x35, e_x35, h⟩ := bd_some h
            rcases x35 with y36 | z37
            · replace h := se_l h
              refine cs_callS (As := [.int (nI 0)]) ks_X11_45 dX11_work_55 rfl (by decide) (Nat.le_of_ble_eq_true rfl) rfl (by decide) (Nat.le_of_ble_eq_true rfl) (t_X11_needArgument τ n s (nI 0) e_x35) ?_
              refine jg_aload_n dX11_work_58 rfl ?_
              refine cs_get (s := s) (w := .ref (o + 10)) fl_X11_27 dX11_work_59 hO.ob0 rfl ?_
              refine cs_get (s := s) (w := .ref (o + 141)) fl_X11_392 dX11_work_62 hO.1.ob0 rfl ?_
              refine jg_iload_n dX11_work_65 rfl ?_
              refine jg_iload_n dX11_work_66 rfl ?_
              refine jg_bipush (v := nI 100) dX11_work_67 (by decide) ?_
              refine jg_iload dX11_work_69 rfl ?_
              refine jg_isub (x := (nI 100)) (y := a4) dX11_work_71  ?_
              refine jg_imul (x := a2) (y := ((nI 100) - a4)) dX11_work_72  ?_
              refine jg_bipush (v := nI 100) dX11_work_73 (by decide) ?_
              refine jg_idiv (x := (a2 * ((nI 100) - a4))) (y := (nI 100)) dX11_work_75 (by decide) ?_
              refine jg_iload_n dX11_work_76 rfl ?_
              obtain ⟨x38, e_x38, h⟩ := bd_some h
              refine cs_call (q := (o + 141)) (As := [.int a1, .int ((a2 * ((nI 100) - a4)) / (nI 100)), .int a3]) kv_X11_396 dX11_work_77 (hO.1.ob 131 (by decide) rfl) rfl rfl (by decide) (Nat.le_of_ble_eq_true rfl) rfl (by decide) (Nat.le_of_ble_eq_true rfl) (t_X4_addWork τ n (o + 10) s a1 ((a2 * ((nI 100) - a4)) / (nI 100)) a3 hO.1 e_x38) ?_
              cases h
            · replace h := se_r h
              obtain rfl := Sum.inr.inj (Option.some.inj h)
              exact jc_SX (As := [.int (nI 0)]) ks_X11_45 dX11_work_55 rfl (by decide) (Nat.le_of_ble_eq_true rfl) rfl (by decide) (Nat.le_refl _) (Nat.le_refl _) (Nat.le_of_ble_eq_true rfl) (x_X11_needArgument τ n s (nI 0) hn hT e_x35) ⟨rfl, rfl⟩
          · replace h := it_f c34 h
            refine jg_iconst (v := nI 1) dX11_work_50 (by decide) ?_
            refine jg_goto (tgt := 55) dX11_work_51 (by decide) ?_
            obtain ⟨x39, e_x39, h⟩ := bd_some h
            rcases x39 with y40 | z41
            · replace h := se_l h
              refine cs_callS (As := [.int (nI 1)]) ks_X11_45 dX11_work_55 rfl (by decide) (Nat.le_of_ble_eq_true rfl) rfl (by decide) (Nat.le_of_ble_eq_true rfl) (t_X11_needArgument τ n s (nI 1) e_x39) ?_
              refine jg_aload_n dX11_work_58 rfl ?_
              refine cs_get (s := s) (w := .ref (o + 10)) fl_X11_27 dX11_work_59 hO.ob0 rfl ?_
              refine cs_get (s := s) (w := .ref (o + 141)) fl_X11_392 dX11_work_62 hO.1.ob0 rfl ?_
              refine jg_iload_n dX11_work_65 rfl ?_
              refine jg_iload_n dX11_work_66 rfl ?_
              refine jg_bipush (v := nI 100) dX11_work_67 (by decide) ?_
              refine jg_iload dX11_work_69 rfl ?_
              refine jg_isub (x := (nI 100)) (y := a4) dX11_work_71  ?_
              refine jg_imul (x := a2) (y := ((nI 100) - a4)) dX11_work_72  ?_
              refine jg_bipush (v := nI 100) dX11_work_73 (by decide) ?_
              refine jg_idiv (x := (a2 * ((nI 100) - a4))) (y := (nI 100)) dX11_work_75 (by decide) ?_
              refine jg_iload_n dX11_work_76 rfl ?_
              obtain ⟨x42, e_x42, h⟩ := bd_some h
              refine cs_call (q := (o + 141)) (As := [.int a1, .int ((a2 * ((nI 100) - a4)) / (nI 100)), .int a3]) kv_X11_396 dX11_work_77 (hO.1.ob 131 (by decide) rfl) rfl rfl (by decide) (Nat.le_of_ble_eq_true rfl) rfl (by decide) (Nat.le_of_ble_eq_true rfl) (t_X4_addWork τ n (o + 10) s a1 ((a2 * ((nI 100) - a4)) / (nI 100)) a3 hO.1 e_x42) ?_
              cases h
            · replace h := se_r h
              obtain rfl := Sum.inr.inj (Option.some.inj h)
              exact jc_SX (As := [.int (nI 1)]) ks_X11_45 dX11_work_55 rfl (by decide) (Nat.le_of_ble_eq_true rfl) rfl (by decide) (Nat.le_refl _) (Nat.le_refl _) (Nat.le_of_ble_eq_true rfl) (x_X11_needArgument τ n s (nI 1) hn hT e_x39) ⟨rfl, rfl⟩
      · replace h := se_r h
        obtain rfl := Sum.inr.inj (Option.some.inj h)
        exact jc_SX (As := [.int (nI 0)]) ks_X11_45 dX11_work_26 rfl (by decide) (Nat.le_of_ble_eq_true rfl) rfl (by decide) (Nat.le_refl _) (Nat.le_refl _) (Nat.le_of_ble_eq_true rfl) (x_X11_needArgument τ n s (nI 0) hn hT e_x24) ⟨rfl, rfl⟩
    · replace h := it_f c23 h
      refine jg_iconst (v := nI 1) dX11_work_21 (by decide) ?_
      refine jg_goto (tgt := 26) dX11_work_22 (by decide) ?_
      obtain ⟨x43, e_x43, h⟩ := bd_some h
      rcases x43 with y44 | z45
      · replace h := se_l h
        refine cs_callS (As := [.int (nI 1)]) ks_X11_45 dX11_work_26 rfl (by decide) (Nat.le_of_ble_eq_true rfl) rfl (by decide) (Nat.le_of_ble_eq_true rfl) (t_X11_needArgument τ n s (nI 1) e_x43) ?_
        refine jg_iload_n dX11_work_29 rfl ?_
        refine jg_iconst (v := nI 0) dX11_work_30 (by decide) ?_
        refine jg_bipush (v := nI 29) dX11_work_31 (by decide) ?_
        obtain ⟨x46, e_x46, h⟩ := bd_some h
        refine cs_callS (As := [.int a3, .int (nI 0), .int (nI 29)]) ks_X11_41 dX11_work_33 rfl (by decide) (Nat.le_of_ble_eq_true rfl) rfl (by decide) (Nat.le_of_ble_eq_true rfl) (t_X11_within τ n s a3 (nI 0) (nI 29) e_x46) ?_
        refine jg_if_eq (x := x46) (tgt := 54) dX11_work_36 (by decide) (fun c47 => ?_) (fun c47 => ?_)
        · replace h := it_t c47 h
          refine jg_iconst (v := nI 0) dX11_work_54 (by decide) ?_
          obtain ⟨x48, e_x48, h⟩ := bd_some h
          rcases x48 with y49 | z50
          · replace h := se_l h
            refine cs_callS (As := [.int (nI 0)]) ks_X11_45 dX11_work_55 rfl (by decide) (Nat.le_of_ble_eq_true rfl) rfl (by decide) (Nat.le_of_ble_eq_true rfl) (t_X11_needArgument τ n s (nI 0) e_x48) ?_
            refine jg_aload_n dX11_work_58 rfl ?_
            refine cs_get (s := s) (w := .ref (o + 10)) fl_X11_27 dX11_work_59 hO.ob0 rfl ?_
            refine cs_get (s := s) (w := .ref (o + 141)) fl_X11_392 dX11_work_62 hO.1.ob0 rfl ?_
            refine jg_iload_n dX11_work_65 rfl ?_
            refine jg_iload_n dX11_work_66 rfl ?_
            refine jg_bipush (v := nI 100) dX11_work_67 (by decide) ?_
            refine jg_iload dX11_work_69 rfl ?_
            refine jg_isub (x := (nI 100)) (y := a4) dX11_work_71  ?_
            refine jg_imul (x := a2) (y := ((nI 100) - a4)) dX11_work_72  ?_
            refine jg_bipush (v := nI 100) dX11_work_73 (by decide) ?_
            refine jg_idiv (x := (a2 * ((nI 100) - a4))) (y := (nI 100)) dX11_work_75 (by decide) ?_
            refine jg_iload_n dX11_work_76 rfl ?_
            obtain ⟨x51, e_x51, h⟩ := bd_some h
            refine cs_call (q := (o + 141)) (As := [.int a1, .int ((a2 * ((nI 100) - a4)) / (nI 100)), .int a3]) kv_X11_396 dX11_work_77 (hO.1.ob 131 (by decide) rfl) rfl rfl (by decide) (Nat.le_of_ble_eq_true rfl) rfl (by decide) (Nat.le_of_ble_eq_true rfl) (t_X4_addWork τ n (o + 10) s a1 ((a2 * ((nI 100) - a4)) / (nI 100)) a3 hO.1 e_x51) ?_
            cases h
          · replace h := se_r h
            obtain rfl := Sum.inr.inj (Option.some.inj h)
            exact jc_SX (As := [.int (nI 0)]) ks_X11_45 dX11_work_55 rfl (by decide) (Nat.le_of_ble_eq_true rfl) rfl (by decide) (Nat.le_refl _) (Nat.le_refl _) (Nat.le_of_ble_eq_true rfl) (x_X11_needArgument τ n s (nI 0) hn hT e_x48) ⟨rfl, rfl⟩
        · replace h := it_f c47 h
          refine jg_iload dX11_work_39 rfl ?_
          refine jg_iconst (v := nI 0) dX11_work_41 (by decide) ?_
          refine jg_bipush (v := nI 100) dX11_work_42 (by decide) ?_
          obtain ⟨x52, e_x52, h⟩ := bd_some h
          refine cs_callS (As := [.int a4, .int (nI 0), .int (nI 100)]) ks_X11_41 dX11_work_44 rfl (by decide) (Nat.le_of_ble_eq_true rfl) rfl (by decide) (Nat.le_of_ble_eq_true rfl) (t_X11_within τ n s a4 (nI 0) (nI 100) e_x52) ?_
          refine jg_if_eq (x := x52) (tgt := 54) dX11_work_47 (by decide) (fun c53 => ?_) (fun c53 => ?_)
          · replace h := it_t c53 h
            refine jg_iconst (v := nI 0) dX11_work_54 (by decide) ?_
            obtain ⟨x54, e_x54, h⟩ := bd_some h
            rcases x54 with y55 | z56
            · replace h := se_l h
              refine cs_callS (As := [.int (nI 0)]) ks_X11_45 dX11_work_55 rfl (by decide) (Nat.le_of_ble_eq_true rfl) rfl (by decide) (Nat.le_of_ble_eq_true rfl) (t_X11_needArgument τ n s (nI 0) e_x54) ?_
              refine jg_aload_n dX11_work_58 rfl ?_
              refine cs_get (s := s) (w := .ref (o + 10)) fl_X11_27 dX11_work_59 hO.ob0 rfl ?_
              refine cs_get (s := s) (w := .ref (o + 141)) fl_X11_392 dX11_work_62 hO.1.ob0 rfl ?_
              refine jg_iload_n dX11_work_65 rfl ?_
              refine jg_iload_n dX11_work_66 rfl ?_
              refine jg_bipush (v := nI 100) dX11_work_67 (by decide) ?_
              refine jg_iload dX11_work_69 rfl ?_
              refine jg_isub (x := (nI 100)) (y := a4) dX11_work_71  ?_
              refine jg_imul (x := a2) (y := ((nI 100) - a4)) dX11_work_72  ?_
              refine jg_bipush (v := nI 100) dX11_work_73 (by decide) ?_
              refine jg_idiv (x := (a2 * ((nI 100) - a4))) (y := (nI 100)) dX11_work_75 (by decide) ?_
              refine jg_iload_n dX11_work_76 rfl ?_
              obtain ⟨x57, e_x57, h⟩ := bd_some h
              refine cs_call (q := (o + 141)) (As := [.int a1, .int ((a2 * ((nI 100) - a4)) / (nI 100)), .int a3]) kv_X11_396 dX11_work_77 (hO.1.ob 131 (by decide) rfl) rfl rfl (by decide) (Nat.le_of_ble_eq_true rfl) rfl (by decide) (Nat.le_of_ble_eq_true rfl) (t_X4_addWork τ n (o + 10) s a1 ((a2 * ((nI 100) - a4)) / (nI 100)) a3 hO.1 e_x57) ?_
              cases h
            · replace h := se_r h
              obtain rfl := Sum.inr.inj (Option.some.inj h)
              exact jc_SX (As := [.int (nI 0)]) ks_X11_45 dX11_work_55 rfl (by decide) (Nat.le_of_ble_eq_true rfl) rfl (by decide) (Nat.le_refl _) (Nat.le_refl _) (Nat.le_of_ble_eq_true rfl) (x_X11_needArgument τ n s (nI 0) hn hT e_x54) ⟨rfl, rfl⟩
          · replace h := it_f c53 h
            refine jg_iconst (v := nI 1) dX11_work_50 (by decide) ?_
            refine jg_goto (tgt := 55) dX11_work_51 (by decide) ?_
            obtain ⟨x58, e_x58, h⟩ := bd_some h
            rcases x58 with y59 | z60
            · replace h := se_l h
              refine cs_callS (As := [.int (nI 1)]) ks_X11_45 dX11_work_55 rfl (by decide) (Nat.le_of_ble_eq_true rfl) rfl (by decide) (Nat.le_of_ble_eq_true rfl) (t_X11_needArgument τ n s (nI 1) e_x58) ?_
              refine jg_aload_n dX11_work_58 rfl ?_
              refine cs_get (s := s) (w := .ref (o + 10)) fl_X11_27 dX11_work_59 hO.ob0 rfl ?_
              refine cs_get (s := s) (w := .ref (o + 141)) fl_X11_392 dX11_work_62 hO.1.ob0 rfl ?_
              refine jg_iload_n dX11_work_65 rfl ?_
              refine jg_iload_n dX11_work_66 rfl ?_
              refine jg_bipush (v := nI 100) dX11_work_67 (by decide) ?_
              refine jg_iload dX11_work_69 rfl ?_
              refine jg_isub (x := (nI 100)) (y := a4) dX11_work_71  ?_
              refine jg_imul (x := a2) (y := ((nI 100) - a4)) dX11_work_72  ?_
              refine jg_bipush (v := nI 100) dX11_work_73 (by decide) ?_
              refine jg_idiv (x := (a2 * ((nI 100) - a4))) (y := (nI 100)) dX11_work_75 (by decide) ?_
              refine jg_iload_n dX11_work_76 rfl ?_
              obtain ⟨x61, e_x61, h⟩ := bd_some h
              refine cs_call (q := (o + 141)) (As := [.int a1, .int ((a2 * ((nI 100) - a4)) / (nI 100)), .int a3]) kv_X11_396 dX11_work_77 (hO.1.ob 131 (by decide) rfl) rfl rfl (by decide) (Nat.le_of_ble_eq_true rfl) rfl (by decide) (Nat.le_of_ble_eq_true rfl) (t_X4_addWork τ n (o + 10) s a1 ((a2 * ((nI 100) - a4)) / (nI 100)) a3 hO.1 e_x61) ?_
              cases h
            · replace h := se_r h
              obtain rfl := Sum.inr.inj (Option.some.inj h)
              exact jc_SX (As := [.int (nI 1)]) ks_X11_45 dX11_work_55 rfl (by decide) (Nat.le_of_ble_eq_true rfl) rfl (by decide) (Nat.le_refl _) (Nat.le_refl _) (Nat.le_of_ble_eq_true rfl) (x_X11_needArgument τ n s (nI 1) hn hT e_x58) ⟨rfl, rfl⟩
      · replace h := se_r h
        obtain rfl := Sum.inr.inj (Option.some.inj h)
        exact jc_SX (As := [.int (nI 1)]) ks_X11_45 dX11_work_26 rfl (by decide) (Nat.le_of_ble_eq_true rfl) rfl (by decide) (Nat.le_refl _) (Nat.le_refl _) (Nat.le_of_ble_eq_true rfl) (x_X11_needArgument τ n s (nI 1) hn hT e_x43) ⟨rfl, rfl⟩
