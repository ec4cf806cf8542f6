theorem dX6_giveBack_16 : decode cX6_giveBack 16 = .ok (.putfield 39, 3) := by decide +kernel
theorem dX6_giveBack_19 : decode cX6_giveBack 19 = .ok (.aload_n 0, 1) := by decide +kernel
theorem dX6_giveBack_20 : decode cX6_giveBack 20 = .ok (.aload_n 0, 1) := by decide +kernel
theorem dX6_giveBack_21 : decode cX6_giveBack 21 = .ok (.getfield 46, 3) := by decide +kernel
theorem dX6_giveBack_24 : decode cX6_giveBack 24 = .ok (.i2l, 1) := by decide +kernel
theorem dX6_giveBack_25 : decode cX6_giveBack 25 = .ok (.iload_n 2, 1) := by decide +kernel
theorem dX6_giveBack_26 : decode cX6_giveBack 26 = .ok (.i2l, 1) := by decide +kernel
theorem dX6_giveBack_27 : decode cX6_giveBack 27 = .ok (.ladd, 1) := by decide +kernel
theorem dX6_giveBack_28 : decode cX6_giveBack 28 = .ok (.invokestatic 59, 3) := by decide +kernel
theorem dX6_giveBack_31 : decode cX6_giveBack 31 = .ok (.putfield 46, 3) := by decide +kernel
theorem dX6_giveBack_34 : decode cX6_giveBack 34 = .ok (.iload_n 2, 1) := by decide +kernel
theorem dX6_giveBack_35 : decode cX6_giveBack 35 = .ok (.ireturn, 1) := by decide +kernel
noncomputable def o_X6_giveBack (τ : cT) (n : Nat) (b : Nat) (s : cS) (a1 : Int32) : Option (Int32 × cS) := (some (cp s (b + 121) 0 ((s.1 (b + 121) 0) - (mni a1 (s.1 (b + 121) 0))))).bind fun x1 => ((o_X11_capped τ n x1 (((x1.1 (b + 121) 2).toInt64) + ((mni a1 (s.1 (b + 121) 0)).toInt64))).bind fun x2 => (some (mni a1 (s.1 (b + 121) 0), cp x1 (b + 121) 2 x2)))
set_option maxHeartbeats 4000000 in
theorem t_X6_giveBack {Γ : jg_G} {g : Nat → jg_C} (τ : cT) (n : Nat) (b : Nat) (s : cS) (a1 : Int32) (hB : Bd τ n b) {x : Int32 × cS} (h : o_X6_giveBack τ n b s a1 = some x) : jc Γ mX6_giveBack 2 0 0 [some (.ref (b + 121)), some (.int a1), none] (ct_h g τ s, n) (.inl (some (.int x.1))) (ct_h g τ x.2, n) := by
  refine jc_of ?_
  rw [o_X6_giveBack] at h
  refine jg_iload_n dX6_giveBack_0 rfl ?_
  refine jg_aload_n dX6_giveBack_1 rfl ?_
  refine cs_get (s := s) (w := .int (s.1 (b + 121) 0)) fl_X6_39 dX6_giveBack_2 (hB.ob 121 (by decide) rfl) rfl ?_
  refine jg_mmin (x := a1) (y := (s.1 (b + 121) 0)) km_X6_63 jw_min.1 jw_min.2 dX6_giveBack_5 (by decide) (Nat.le_of_ble_eq_true rfl) ?_
  refine jg_istore_n (L' := [some (.ref (b + 121)), some (.int a1), some (.int (mni a1 (s.1 (b + 121) 0)))]) dX6_giveBack_8 (by decide) rfl ?_
  refine jg_aload_n dX6_giveBack_9 rfl ?_
  refine jg_dup dX6_giveBack_10 rfl ?_
  refine cs_get (s := s) (w := .int (s.1 (b + 121) 0)) fl_X6_39 dX6_giveBack_11 (hB.ob 121 (by decide) rfl) rfl ?_
  refine jg_iload_n dX6_giveBack_14 rfl ?_
  refine jg_isub (x := (s.1 (b + 121) 0)) (y := (mni a1 (s.1 (b + 121) 0))) dX6_giveBack_15  ?_
  refine cs_put (s := s) (k := 0) (x := ((s.1 (b + 121) 0) - (mni a1 (s.1 (b + 121) 0)))) fl_X6_39 dX6_giveBack_16 (hB.ob 121 (by decide) rfl) (ltb rfl) (rfl) rfl rfl ?_
  obtain ⟨x1, e_x1, h⟩ := bd_some h
  refine cs_sub (Option.some.inj e_x1) ?_
  refine jg_aload_n dX6_giveBack_19 rfl ?_
  refine jg_aload_n dX6_giveBack_20 rfl ?_
  refine cs_get (s := x1) (w := .int (x1.1 (b + 121) 2)) fl_X6_46 dX6_giveBack_21 (hB.ob 121 (by decide) rfl) rfl ?_
  refine jg_i2l dX6_giveBack_24 ?_
  refine jg_iload_n dX6_giveBack_25 rfl ?_
  refine jg_i2l dX6_giveBack_26 ?_
  refine jg_ladd dX6_giveBack_27 ?_
  obtain ⟨x2, e_x2, h⟩ := bd_some h
  refine cs_callN (As := [.long (((x1.1 (b + 121) 2).toInt64) + ((mni a1 (s.1 (b + 121) 0)).toInt64))]) kw_X6_59 dX6_giveBack_28 rfl (by decide) (Nat.le_of_ble_eq_true rfl) rfl (by decide) (Nat.le_of_ble_eq_true rfl) (t_X11_capped τ n x1 (((x1.1 (b + 121) 2).toInt64) + ((mni a1 (s.1 (b + 121) 0)).toInt64)) e_x2) ?_
  refine cs_put (s := x1) (k := 2) (x := x2) fl_X6_46 dX6_giveBack_31 (hB.ob 121 (by decide) rfl) (ltb rfl) (rfl) rfl rfl ?_
  refine jg_iload_n dX6_giveBack_34 rfl ?_
  obtain rfl := Option.some.inj h
  exact jg_ireturn dX6_giveBack_35 rfl ⟨rfl, rfl⟩
theorem dX2_payBack_0 : decode cX2_payBack 0 = .ok (.aload_n 1, 1) := by decide +kernel
theorem dX2_payBack_1 : decode cX2_payBack 1 = .ok (.getfield 163, 3) := by decide +kernel
theorem dX2_payBack_4 : decode cX2_payBack 4 = .ok (.iconst 4, 1) := by decide +kernel
theorem dX2_payBack_5 : decode cX2_payBack 5 = .ok (.if_icmp .ne 10, 3) := by decide +kernel
theorem dX2_payBack_8 : decode cX2_payBack 8 = .ok (.aload_n 1, 1) := by decide +kernel
theorem dX2_payBack_9 : decode cX2_payBack 9 = .ok (.getfield 309, 3) := by decide +kernel
theorem dX2_payBack_12 : decode cX2_payBack 12 = .ok (.ifCond .eq 5, 3) := by decide +kernel
theorem dX2_payBack_15 : decode cX2_payBack 15 = .ok (.iconst (-1), 1) := by decide +kernel
theorem dX2_payBack_16 : decode cX2_payBack 16 = .ok (.ireturn, 1) := by decide +kernel
theorem dX2_payBack_17 : decode cX2_payBack 17 = .ok (.aload_n 0, 1) := by decide +kernel
theorem dX2_payBack_18 : decode cX2_payBack 18 = .ok (.aload_n 1, 1) := by decide +kernel
theorem dX2_payBack_19 : decode cX2_payBack 19 = .ok (.aload_n 0, 1) := by decide +kernel
theorem dX2_payBack_20 : decode cX2_payBack 20 = .ok (.aload_n 1, 1) := by decide +kernel
theorem dX2_payBack_21 : decode cX2_payBack 21 = .ok (.invokevirtual 198, 3) := by decide +kernel
theorem dX2_payBack_24 : decode cX2_payBack 24 = .ok (.invokevirtual 298, 3) := by decide +kernel
theorem dX2_payBack_27 : decode cX2_payBack 27 = .ok (.aload_n 1, 1) := by decide +kernel
theorem dX2_payBack_28 : decode cX2_payBack 28 = .ok (.getfield 195, 3) := by decide +kernel
theorem dX2_payBack_31 : decode cX2_payBack 31 = .ok (.iconst 2, 1) := by decide +kernel
theorem dX2_payBack_32 : decode cX2_payBack 32 = .ok (.aload_n 0, 1) := by decide +kernel
theorem dX2_payBack_33 : decode cX2_payBack 33 = .ok (.getfield 63, 3) := by decide +kernel
theorem dX2_payBack_36 : decode cX2_payBack 36 = .ok (.invokevirtual 312, 3) := by decide +kernel
theorem dX2_payBack_39 : decode cX2_payBack 39 = .ok (.i2l, 1) := by decide +kernel
theorem dX2_payBack_40 : decode cX2_payBack 40 = .ok (.lstore_n 2, 1) := by decide +kernel
theorem dX2_payBack_41 : decode cX2_payBack 41 = .ok (.aload_n 1, 1) := by decide +kernel
theorem dX2_payBack_42 : decode cX2_payBack 42 = .ok (.aload_n 0, 1) := by decide +kernel
theorem dX2_payBack_43 : decode cX2_payBack 43 = .ok (.getfield 52, 3) := by decide +kernel
theorem dX2_payBack_46 : decode cX2_payBack 46 = .ok (.lload_n 2, 1) := by decide +kernel
theorem dX2_payBack_47 : decode cX2_payBack 47 = .ok (.aload_n 1, 1) := by decide +kernel
theorem dX2_payBack_48 : decode cX2_payBack 48 = .ok (.getfield 206, 3) := by decide +kernel
theorem dX2_payBack_51 : decode cX2_payBack 51 = .ok (.i2l, 1) := by decide +kernel
theorem dX2_payBack_52 : decode cX2_payBack 52 = .ok (.lmul, 1) := by decide +kernel
theorem dX2_payBack_53 : decode cX2_payBack 53 = .ok (.ldc2_w 315, 3) := by decide +kernel
theorem dX2_payBack_56 : decode cX2_payBack 56 = .ok (.ldiv, 1) := by decide +kernel
theorem dX2_payBack_57 : decode cX2_payBack 57 = .ok (.l2i, 1) := by decide +kernel
theorem dX2_payBack_58 : decode cX2_payBack 58 = .ok (.invokevirtual 317, 3) := by decide +kernel
theorem dX2_payBack_61 : decode cX2_payBack 61 = .ok (.putfield 320, 3) := by decide +kernel
theorem dX2_payBack_64 : decode cX2_payBack 64 = .ok (.aload_n 1, 1) := by decide +kernel
theorem dX2_payBack_65 : decode cX2_payBack 65 = .ok (.iconst 1, 1) := by decide +kernel
theorem dX2_payBack_66 : decode cX2_payBack 66 = .ok (.putfield 309, 3) := by decide +kernel
theorem dX2_payBack_69 : decode cX2_payBack 69 = .ok (.aload_n 1, 1) := by decide +kernel
theorem dX2_payBack_70 : decode cX2_payBack 70 = .ok (.getfield 320, 3) := by decide +kernel
theorem dX2_payBack_73 : decode cX2_payBack 73 = .ok (.ireturn, 1) := by decide +kernel
noncomputable def o_X2_payBack (F : Nat) (τ : cT) (n : Nat) (b : Nat) (a1 : Nat) (s : cS) : Option (Int32 × cS) := if (s.1 a1 10) = (nI 4) then (if (s.1 a1 17) = 0 then ((o_X2_stayOf τ n b a1 s).bind fun x3 => ((o_X2_askOfShip F τ n b a1 s x3).bind fun x4 => ((x4.2 a1 8).bind fun x5 => (if acb τ n x5 = true then ((o_X0_greatest F τ n x5 (b + 167) x4 (nI 2)).bind fun x7 => ((o_X6_giveBack τ n b x4 (((x7.toInt64 * ((x4.1 a1 15).toInt64)) / 100).toInt32)).bind fun x8 => (some ((cp (cp x8.2 a1 16 x8.1) a1 17 (nI 1)).1 a1 16, cp (cp x8.2 a1 16 x8.1) a1 17 (nI 1))))) else none)))) else (some ((-1), s))) else (some ((-1), s))
set_option maxHeartbeats 4000000 in
theorem t_X2_payBack {Γ : jg_G} {g : Nat → jg_C} (F : Nat) (τ : cT) (n : Nat) (b : Nat) (a1 : Nat) (s : cS) (hB : Bd τ n b) (h1 : Ob τ n a1 9) {x : Int32 × cS} (h : o_X2_payBack F τ n b a1 s = some x) : jc Γ mX2_payBack 3 0 0 [some (.ref b), some (.ref a1), none, none] (ct_h g τ s, n) (.inl (some (.int x.1))) (ct_h g τ x.2, n) := by
  refine jc_of ?_
  rw [o_X2_payBack] at h
  refine jg_aload_n dX2_payBack_0 rfl ?_
  refine cs_get (s := s) (w := .int (s.1 a1 10)) fl_X2_163 dX2_payBack_1 h1 rfl ?_
  refine jg_iconst (v := nI 4) dX2_payBack_4 (by decide) ?_
  refine jg_icmp_ne (x := (s.1 a1 10)) (y := (nI 4)) (tgt := 15) dX2_payBack_5 (by decide) (fun c1 => ?_) (fun c1 => ?_)
  · replace h := it_f c1 h
    refine jg_iconst (v := (-1)) dX2_payBack_15 (by decide) ?_
    obtain rfl := Option.some.inj h
    exact jg_ireturn dX2_payBack_16 rfl ⟨rfl, rfl⟩
  · replace h := it_t c1 h
    refine jg_aload_n dX2_payBack_8 rfl ?_
    refine cs_get (s := s) (w := .int (s.1 a1 17)) fl_X2_309 dX2_payBack_9 h1 rfl ?_
    refine jg_if_eq (x := (s.1 a1 17)) (tgt := 17) dX2_payBack_12 (by decide) (fun c2 => ?_) (fun c2 => ?_)
    · replace h := it_t c2 h
      refine jg_aload_n dX2_payBack_17 rfl ?_
      refine jg_aload_n dX2_payBack_18 rfl ?_
      refine jg_aload_n dX2_payBack_19 rfl ?_
      refine jg_aload_n dX2_payBack_20 rfl ?_
      obtain ⟨x3, e_x3, h⟩ := bd_some h
      refine cs_call (q := b) (As := [.ref a1]) kv_X2_198 dX2_payBack_21 hB.ob0 rfl rfl (by decide) (Nat.le_of_ble_eq_true rfl) rfl (by decide) (Nat.le_of_ble_eq_true rfl) (t_X2_stayOf τ n b a1 s hB h1 e_x3) ?_
      obtain ⟨x4, e_x4, h⟩ := bd_some h
      refine cs_call (q := b) (As := [.ref a1, .int x3]) kv_X2_298 dX2_payBack_24 hB.ob0 rfl rfl (by decide) (Nat.le_of_ble_eq_true rfl) rfl (by decide) (Nat.le_of_ble_eq_true rfl) (t_X2_askOfShip F τ n b a1 s x3 hB h1 e_x4) ?_
      refine jg_aload_n dX2_payBack_27 rfl ?_
      obtain ⟨x5, e_x5, h⟩ := bd_some h
      obtain ⟨q6, h⟩ := gd_some h
      refine cs_get (s := x4) (w := .ref x5) fl_X2_195 dX2_payBack_28 h1 (by show some (vr (x4.2 a1 8)) = _; rw [e_x5]; rfl) ?_
      refine jg_iconst (v := nI 2) dX2_payBack_31 (by decide) ?_
      refine jg_aload_n dX2_payBack_32 rfl ?_
      refine cs_get (s := x4) (w := .ref (b + 167)) fl_X2_63 dX2_payBack_33 hB.ob0 rfl ?_
      obtain ⟨x7, e_x7, h⟩ := bd_some h
      refine cs_call (q := x5) (As := [.int (nI 2), .ref (b + 167)]) kv_X2_312 dX2_payBack_36 (acb_ob q6) rfl rfl (by decide) (Nat.le_of_ble_eq_true rfl) rfl (by decide) (Nat.le_of_ble_eq_true rfl) (t_X0_greatest F τ n x5 (b + 167) x4 (nI 2) q6 (hB.ar 167 (by decide) rfl) e_x7) ?_
      refine jg_i2l dX2_payBack_39 ?_
      refine jg_lstore_n (L' := [some (.ref b), some (.ref a1), some (.long x7.toInt64), none]) dX2_payBack_40 (by decide) rfl ?_
      refine jg_aload_n dX2_payBack_41 rfl ?_
      refine jg_aload_n dX2_payBack_42 rfl ?_
      refine cs_get (s := x4) (w := .ref (b + 121)) fl_X2_52 dX2_payBack_43 hB.ob0 rfl ?_
      refine jg_lload_n dX2_payBack_46 rfl ?_
      refine jg_aload_n dX2_payBack_47 rfl ?_
      refine cs_get (s := x4) (w := .int (x4.1 a1 15)) fl_X2_206 dX2_payBack_48 h1 rfl ?_
      refine jg_i2l dX2_payBack_51 ?_
      refine jg_lmul dX2_payBack_52 ?_
      refine jg_ldc2 kk_X2_315 dX2_payBack_53 ?_
      refine jg_ldiv dX2_payBack_56 (by decide) ?_
      refine jg_l2i dX2_payBack_57 ?_
      obtain ⟨x8, e_x8, h⟩ := bd_some h
      refine cs_call (q := (b + 121)) (As := [.int (((x7.toInt64 * ((x4.1 a1 15).toInt64)) / 100).toInt32)]) kv_X2_317 dX2_payBack_58 (hB.ob 121 (by decide) rfl) rfl rfl (by decide) (Nat.le_of_ble_eq_true rfl) rfl (by decide) (Nat.le_of_ble_eq_true rfl) (t_X6_giveBack τ n b x4 (((x7.toInt64 * ((x4.1 a1 15).toInt64)) / 100).toInt32) hB e_x8) ?_
      refine cs_put (s := x8.2) (k := 16) (x := x8.1) fl_X2_320 dX2_payBack_61 h1 (ltb rfl) (rfl) rfl rfl ?_
      refine jg_aload_n dX2_payBack_64 rfl ?_
      refine jg_iconst (v := nI 1) dX2_payBack_65 (by decide) ?_
      refine cs_put (s := (cp x8.2 a1 16 x8.1)) (k := 17) (x := (nI 1)) fl_X2_309 dX2_payBack_66 h1 (ltb rfl) (rfl) rfl rfl ?_
      refine jg_aload_n dX2_payBack_69 rfl ?_
      refine cs_get (s := (cp (cp x8.2 a1 16 x8.1) a1 17 (nI 1))) (w := .int ((cp (cp x8.2 a1 16 x8.1) a1 17 (nI 1)).1 a1 16)) fl_X2_320 dX2_payBack_70 h1 rfl ?_
      obtain rfl := Option.some.inj h
      exact jg_ireturn dX2_payBack_73 rfl ⟨rfl, rfl⟩
    · replace h := it_f c2 h
      refine jg_iconst (v := (-1)) dX2_payBack_15 (by decide) ?_
      obtain rfl := Option.some.inj h
      exact jg_ireturn dX2_payBack_16 rfl ⟨rfl, rfl⟩
theorem dX5_countShipsOf_0 : decode cX5_countShipsOf 0 = .ok (.iconst 0, 1) := by decide +kernel
theorem dX5_countShipsOf_1 : decode cX5_countShipsOf 1 = .ok (.istore_n 2, 1) := by decide +kernel
theorem dX5_countShipsOf_2 : decode cX5_countShipsOf 2 = .ok (.iconst 0, 1) := by decide +kernel
theorem dX5_countShipsOf_3 : decode cX5_countShipsOf 3 = .ok (.istore_n 3, 1) := by decide +kernel
theorem dX5_countShipsOf_4 : decode cX5_countShipsOf 4 = .ok (.iload_n 3, 1) := by decide +kernel
theorem dX5_countShipsOf_5 : decode cX5_countShipsOf 5 = .ok (.aload_n 0, 1) := by decide +kernel
theorem dX5_countShipsOf_6 : decode cX5_countShipsOf 6 = .ok (.getfield 45, 3) := by decide +kernel
theorem dX5_countShipsOf_9 : decode cX5_countShipsOf 9 = .ok (.if_icmp .ge 25, 3) := by decide +kernel
theorem dX5_countShipsOf_12 : decode cX5_countShipsOf 12 = .ok (.aload_n 0, 1) := by decide +kernel
theorem dX5_countShipsOf_13 : decode cX5_countShipsOf 13 = .ok (.getfield 20, 3) := by decide +kernel
theorem dX5_countShipsOf_16 : decode cX5_countShipsOf 16 = .ok (.iload_n 3, 1) := by decide +kernel
theorem dX5_countShipsOf_17 : decode cX5_countShipsOf 17 = .ok (.aaload, 1) := by decide +kernel
theorem dX5_countShipsOf_18 : decode cX5_countShipsOf 18 = .ok (.getfield 127, 3) := by decide +kernel
theorem dX5_countShipsOf_21 : decode cX5_countShipsOf 21 = .ok (.iload_n 1, 1) := by decide +kernel
theorem dX5_countShipsOf_22 : decode cX5_countShipsOf 22 = .ok (.if_icmp .ne 6, 3) := by decide +kernel
theorem dX5_countShipsOf_25 : decode cX5_countShipsOf 25 = .ok (.iinc 2 1, 3) := by decide +kernel
theorem dX5_countShipsOf_28 : decode cX5_countShipsOf 28 = .ok (.iinc 3 1, 3) := by decide +kernel
theorem dX5_countShipsOf_31 : decode cX5_countShipsOf 31 = .ok (.goto (-27), 3) := by decide +kernel
theorem dX5_countShipsOf_34 : decode cX5_countShipsOf 34 = .ok (.iload_n 2, 1) := by decide +kernel
theorem dX5_countShipsOf_35 : decode cX5_countShipsOf 35 = .ok (.ireturn, 1) := by decide +kernel
noncomputable def o_X5_countShipsOf_4 (F : Nat) (τ : cT) (n : Nat) (b : Nat) (l1 : Int32) (s : cS) : Nat → Int32 → Int32 → Option (Int32)
  | 0, _, _ => none
  | f + 1, l2, l3 => if (s.1 (b + 27) 3) ≤ l3 then (some l2) else (if iL l3 80 then (if (s.1 (b + 39 + 1 + l3.toNatClampNeg) 6) = l1 then (o_X5_countShipsOf_4 F τ n b l1 s f (l2 + nI 1) (l3 + nI 1)) else (o_X5_countShipsOf_4 F τ n b l1 s f l2 (l3 + nI 1))) else none)
set_option maxHeartbeats 4000000 in
theorem t_X5_countShipsOf_4 {Γ : jg_G} {g : Nat → jg_C} (F : Nat) (τ : cT) (n : Nat) (b : Nat) (l1 : Int32) (s : cS) (hB : Bd τ n b) (Q : jg_Q) {x : Int32} (K1 : jg Γ mX5_countShipsOf 0 0 0 34 [none, none, some (.int x), none] [] (ct_h g τ s, n) Q)  : ∀ (f : Nat) (l2 : Int32) (l3 : Int32), o_X5_countShipsOf_4 F τ n b l1 s f l2 l3 = some x → jg Γ mX5_countShipsOf 0 0 0 4 [some (.ref (b + 27)), some (.int l1), some (.int l2), some (.int l3)] [] (ct_h g τ s, n) Q := by
  intro f
  induction f with
  | zero => intro l2 l3 h; rw [o_X5_countShipsOf_4] at h; cases h
  | succ f ih =>
   intro l2 l3 h
   rw [o_X5_countShipsOf_4] at h
   refine jg_iload_n dX5_countShipsOf_4 rfl ?_
   refine jg_aload_n dX5_countShipsOf_5 rfl ?_
   refine cs_get (s := s) (w := .int (s.1 (b + 27) 3)) fl_X5_45 dX5_countShipsOf_6 (hB.ob 27 (by decide) rfl) rfl ?_
   refine jg_icmp_ge (x := l3) (y := (s.1 (b + 27) 3)) (tgt := 34) dX5_countShipsOf_9 (by decide) (fun c1 => ?_) (fun c1 => ?_)
   · replace h := it_t c1 h
     refine jg_fg (L' := [none, none, some (.int l2), none]) (by repeat (first | exact trivial | refine ⟨rfl, ?_⟩ | show jg_le _ _)) ?_
     obtain rfl := Option.some.inj h
     exact K1
   · replace h := it_f c1 h
     refine jg_aload_n dX5_countShipsOf_12 rfl ?_
     refine cs_get (s := s) (w := .ref (b + 39)) fl_X5_20 dX5_countShipsOf_13 (hB.ob 27 (by decide) rfl) rfl ?_
     refine jg_iload_n dX5_countShipsOf_16 rfl ?_
     obtain ⟨q2, h⟩ := gd_some h
     refine cs_ldr (s := s) (q := (b + 39)) (i := l3) (kd := 6) (by decide) dX5_countShipsOf_17 (hB.ar 39 (by decide) rfl) q2 ?_
     refine cs_get (s := s) (w := .int (s.1 (b + 39 + 1 + l3.toNatClampNeg) 6)) fl_X5_127 dX5_countShipsOf_18 (hB.ship q2.2) rfl ?_
     refine jg_iload_n dX5_countShipsOf_21 rfl ?_
     refine jg_icmp_ne (x := (s.1 (b + 39 + 1 + l3.toNatClampNeg) 6)) (y := l1) (tgt := 28) dX5_countShipsOf_22 (by decide) (fun c3 => ?_) (fun c3 => ?_)
     · replace h := it_f c3 h
       refine jg_iinc (x := l3) (v := l3 + nI 1) (L' := [some (.ref (b + 27)), some (.int l1), some (.int l2), some (.int (l3 + nI 1))]) dX5_countShipsOf_28 rfl (ic_k _ (by decide)) (by decide) rfl ?_
       refine jg_goto (tgt := 4) dX5_countShipsOf_31 (by decide) ?_
       refine jg_fg (L' := [some (.ref (b + 27)), some (.int l1), some (.int l2), some (.int (l3 + nI 1))]) (by repeat (first | exact trivial | refine ⟨rfl, ?_⟩ | show jg_le _ _)) ?_
       exact ih l2 (l3 + nI 1) h
     · replace h := it_t c3 h
       refine jg_iinc (x := l2) (v := l2 + nI 1) (L' := [some (.ref (b + 27)), some (.int l1), some (.int (l2 + nI 1)), some (.int l3)]) dX5_countShipsOf_25 rfl (ic_k _ (by decide)) (by decide) rfl ?_
       refine jg_iinc (x := l3) (v := l3 + nI 1) (L' := [some (.ref (b + 27)), some (.int l1), some (.int (l2 + nI 1)), some (.int (l3 + nI 1))]) dX5_countShipsOf_28 rfl (ic_k _ (by decide)) (by decide) rfl ?_
       refine jg_goto (tgt := 4) dX5_countShipsOf_31 (by decide) ?_
       refine jg_fg (L' := [some (.ref (b + 27)), some (.int l1), some (.int (l2 + nI 1)), some (.int (l3 + nI 1))]) (by repeat (first | exact trivial | refine ⟨rfl, ?_⟩ | show jg_le _ _)) ?_
       exact ih (l2 + nI 1) (l3 + nI 1) h
noncomputable def o_X5_countShipsOf (F : Nat) (τ : cT) (n : Nat) (b : Nat) (s : cS) (a1 : Int32) : Option (Int32) := (o_X5_countShipsOf_4 F τ n b a1 s F (nI 0) (nI 0)).bind fun x4 => (some x4)
set_option maxHeartbeats 4000000 in
theorem t_X5_countShipsOf {Γ : jg_G} {g : Nat → jg_C} (F : Nat) (τ : cT) (n : Nat) (b : Nat) (s : cS) (a1 : Int32) (hB : Bd τ n b) {x : Int32} (h : o_X5_countShipsOf F τ n b s a1 = some x) : jc Γ mX5_countShipsOf 0 0 0 [some (.ref (b + 27)), some (.int a1), none, none] (ct_h g τ s, n) (.inl (some (.int x))) (ct_h g τ s, n) := by
  refine jc_of ?_
  rw [o_X5_countShipsOf] at h
  refine jg_iconst (v := nI 0) dX5_countShipsOf_0 (by decide) ?_
  refine jg_istore_n (L' := [some (.ref (b + 27)), some (.int a1), some (.int (nI 0)), none]) dX5_countShipsOf_1 (by decide) rfl ?_
  refine jg_iconst (v := nI 0) dX5_countShipsOf_2 (by decide) ?_
  refine jg_istore_n (L' := [some (.ref (b + 27)), some (.int a1), some (.int (nI 0)), some (.int (nI 0))]) dX5_countShipsOf_3 (by decide) rfl ?_
  obtain ⟨x4, e_x4, h⟩ := bd_some h
  refine jg_fg (L' := [some (.ref (b + 27)), some (.int a1), some (.int (nI 0)), some (.int (nI 0))]) (by repeat (first | exact trivial | refine ⟨rfl, ?_⟩ | show jg_le _ _)) ?_
  refine t_X5_countShipsOf_4  F τ n b a1 s hB _ (x := x4) ?_ F (nI 0) (nI 0) e_x4
  refine jg_iload_n dX5_countShipsOf_34 rfl ?_
  obtain rfl := Option.some.inj h
  exact jg_ireturn dX5_countShipsOf_35 rfl ⟨rfl, rfl⟩
theorem dX6_borrowed_0 : decode cX6_borrowed 0 = .ok (.iconst 0, 1) := by decide +kernel
theorem dX6_borrowed_1 : decode cX6_borrowed 1 = .ok (.istore_n 2, 1) := by decide +kernel
theorem dX6_borrowed_2 : decode cX6_borrowed 2 = .ok (.iconst 0, 1) := by decide +kernel
theorem dX6_borrowed_3 : decode cX6_borrowed 3 = .ok (.istore_n 3, 1) := by decide +kernel
theorem dX6_borrowed_4 : decode cX6_borrowed 4 = .ok (.iload_n 3, 1) := by decide +kernel
theorem dX6_borrowed_5 : decode cX6_borrowed 5 = .ok (.aload_n 0, 1) := by decide +kernel
theorem dX6_borrowed_6 : decode cX6_borrowed 6 = .ok (.getfield 56, 3) := by decide +kernel
theorem dX6_borrowed_9 : decode cX6_borrowed 9 = .ok (.if_icmp .ge 37, 3) := by decide +kernel
theorem dX6_borrowed_12 : decode cX6_borrowed 12 = .ok (.aload_n 0, 1) := by decide +kernel
theorem dX6_borrowed_13 : decode cX6_borrowed 13 = .ok (.getfield 30, 3) := by decide +kernel
theorem dX6_borrowed_16 : decode cX6_borrowed 16 = .ok (.iload_n 3, 1) := by decide +kernel
theorem dX6_borrowed_17 : decode cX6_borrowed 17 = .ok (.iaload, 1) := by decide +kernel
theorem dX6_borrowed_18 : decode cX6_borrowed 18 = .ok (.iload_n 1, 1) := by decide +kernel
theorem dX6_borrowed_19 : decode cX6_borrowed 19 = .ok (.if_icmp .ge 12, 3) := by decide +kernel
theorem dX6_borrowed_22 : decode cX6_borrowed 22 = .ok (.aload_n 0, 1) := by decide +kernel
theorem dX6_borrowed_23 : decode cX6_borrowed 23 = .ok (.getfield 33, 3) := by decide +kernel
theorem dX6_borrowed_26 : decode cX6_borrowed 26 = .ok (.iload_n 3, 1) := by decide +kernel
theorem dX6_borrowed_27 : decode cX6_borrowed 27 = .ok (.iaload, 1) := by decide +kernel
theorem dX6_borrowed_28 : decode cX6_borrowed 28 = .ok (.ifCond .le 12, 3) := by decide +kernel
theorem dX6_borrowed_31 : decode cX6_borrowed 31 = .ok (.iload_n 2, 1) := by decide +kernel
theorem dX6_borrowed_32 : decode cX6_borrowed 32 = .ok (.aload_n 0, 1) := by decide +kernel
theorem dX6_borrowed_33 : decode cX6_borrowed 33 = .ok (.getfield 21, 3) := by decide +kernel
theorem dX6_borrowed_36 : decode cX6_borrowed 36 = .ok (.iload_n 3, 1) := by decide +kernel
theorem dX6_borrowed_37 : decode cX6_borrowed 37 = .ok (.iaload, 1) := by decide +kernel
theorem dX6_borrowed_38 : decode cX6_borrowed 38 = .ok (.iadd, 1) := by decide +kernel
theorem dX6_borrowed_39 : decode cX6_borrowed 39 = .ok (.istore_n 2, 1) := by decide +kernel
theorem dX6_borrowed_40 : decode cX6_borrowed 40 = .ok (.iinc 3 1, 3) := by decide +kernel
theorem dX6_borrowed_43 : decode cX6_borrowed 43 = .ok (.goto (-39), 3) := by decide +kernel
theorem dX6_borrowed_46 : decode cX6_borrowed 46 = .ok (.iload_n 2, 1) := by decide +kernel
theorem dX6_borrowed_47 : decode cX6_borrowed 47 = .ok (.ireturn, 1) := by decide +kernel
noncomputable def o_X6_borrowed_4 (F : Nat) (τ : cT) (n : Nat) (b : Nat) (l1 : Int32) (s : cS) : Nat → Int32 → Int32 → Option (Int32)
  | 0, _, _ => none
  | f + 1, l2, l3 => if (s.1 (b + 121) 13) ≤ l3 then (some l2) else (if iL l3 20 then (if l1 ≤ (cg s (b + 128) l3) then (o_X6_borrowed_4 F τ n b l1 s f (l2 + (cg s (b + 125) l3)) (l3 + nI 1)) else (if (cg s (b + 129) l3) ≤ 0 then (o_X6_borrowed_4 F τ n b l1 s f l2 (l3 + nI 1)) else (o_X6_borrowed_4 F τ n b l1 s f (l2 + (cg s (b + 125) l3)) (l3 + nI 1)))) else none)
set_option maxHeartbeats 4000000 in
theorem t_X6_borrowed_4 {Γ : jg_G} {g : Nat → jg_C} (F : Nat) (τ : cT) (n : Nat) (b : Nat) (l1 : Int32) (s : cS) (hB : Bd τ n b) (Q : jg_Q) {x : Int32} (K1 : jg Γ mX6_borrowed 0 0 0 46 [none, none, some (.int x), none] [] (ct_h g τ s, n) Q)  : ∀ (f : Nat) (l2 : Int32) (l3 : Int32), o_X6_borrowed_4 F τ n b l1 s f l2 l3 = some x → jg Γ mX6_borrowed 0 0 0 4 [some (.ref (b + 121)), some (.int l1), some (.int l2), some (.int l3)] [] (ct_h g τ s, n) Q := by
  intro f
  induction f with
  | zero => intro l2 l3 h; rw [o_X6_borrowed_4] at h; cases h
  | succ f ih =>
   intro l2 l3 h
   rw [o_X6_borrowed_4] at h
   refine jg_iload_n dX6_borrowed_4 rfl ?_
   refine jg_aload_n dX6_borrowed_5 rfl ?_
   refine cs_get (s := s) (w := .int (s.1 (b + 121) 13)) fl_X6_56 dX6_borrowed_6 (hB.ob 121 (by decide) rfl) rfl ?_
   refine jg_icmp_ge (x := l3) (y := (s.1 (b + 121) 13)) (tgt := 46) dX6_borrowed_9 (by decide) (fun c1 => ?_) (fun c1 => ?_)
   · replace h := it_t c1 h
     refine jg_fg (L' := [none, none, some (.int l2), none]) (by repeat (first | exact trivial | refine ⟨rfl, ?_⟩ | show jg_le _ _)) ?_
     obtain rfl := Option.some.inj h
     exact K1
   · replace h := it_f c1 h
     refine jg_aload_n dX6_borrowed_12 rfl ?_
     refine cs_get (s := s) (w := .ref (b + 128)) fl_X6_30 dX6_borrowed_13 (hB.ob 121 (by decide) rfl) rfl ?_
     refine jg_iload_n dX6_borrowed_16 rfl ?_
     obtain ⟨q2, h⟩ := gd_some h
     refine cs_lda (s := s) (q := (b + 128)) (i := l3) dX6_borrowed_17 (hB.ar 128 (by decide) rfl) q2 ?_
     refine jg_iload_n dX6_borrowed_18 rfl ?_
     refine jg_icmp_ge (x := (cg s (b + 128) l3)) (y := l1) (tgt := 31) dX6_borrowed_19 (by decide) (fun c3 => ?_) (fun c3 => ?_)
     · replace h := it_t c3 h
       refine jg_iload_n dX6_borrowed_31 rfl ?_
       refine jg_aload_n dX6_borrowed_32 rfl ?_
       refine cs_get (s := s) (w := .ref (b + 125)) fl_X6_21 dX6_borrowed_33 (hB.ob 121 (by decide) rfl) rfl ?_
       refine jg_iload_n dX6_borrowed_36 rfl ?_
       refine cs_lda (s := s) (q := (b + 125)) (i := l3) dX6_borrowed_37 (hB.ar 125 (by decide) rfl) q2 ?_
       refine jg_iadd (x := l2) (y := (cg s (b + 125) l3)) dX6_borrowed_38  ?_
       refine jg_istore_n (L' := [some (.ref (b + 121)), some (.int l1), some (.int (l2 + (cg s (b + 125) l3))), some (.int l3)]) dX6_borrowed_39 (by decide) rfl ?_
       refine jg_iinc (x := l3) (v := l3 + nI 1) (L' := [some (.ref (b + 121)), some (.int l1), some (.int (l2 + (cg s (b + 125) l3))), some (.int (l3 + nI 1))]) dX6_borrowed_40 rfl (ic_k _ (by decide)) (by decide) rfl ?_
       refine jg_goto (tgt := 4) dX6_borrowed_43 (by decide) ?_
       refine jg_fg (L' := [some (.ref (b + 121)), some (.int l1), some (.int (l2 + (cg s (b + 125) l3))), some (.int (l3 + nI 1))]) (by repeat (first | exact trivial | refine ⟨rfl, ?_⟩ | show jg_le _ _)) ?_
       exact ih (l2 + (cg s (b + 125) l3)) (l3 + nI 1) h
     · replace h := it_f c3 h
       refine jg_aload_n dX6_borrowed_22 rfl ?_
       refine cs_get (s := s) (w := .ref (b + 129)) fl_X6_33 dX6_borrowed_23 (hB.ob 121 (by decide) rfl) rfl ?_
       refine jg_iload_n dX6_borrowed_26 rfl ?_
       refine cs_lda (s := s) (q := (b + 129)) (i := l3) dX6_borrowed_27 (hB.ar 129 (by decide) rfl) q2 ?_
       refine jg_if_le (x := (cg s (b + 129) l3)) (tgt := 40) dX6_borrowed_28 (by decide) (fun c4 => ?_) (fun c4 => ?_)
       · replace h := it_t c4 h
         refine jg_iinc (x := l3) (v := l3 + nI 1) (L' := [some (.ref (b + 121)), some (.int l1), some (.int l2), some (.int (l3 + nI 1))]) dX6_borrowed_40 rfl (ic_k _ (by decide)) (by decide) rfl ?_
         refine jg_goto (tgt := 4) dX6_borrowed_43 (by decide) ?_
         refine jg_fg (L' := [some (.ref (b + 121)), some (.int l1), some (.int l2), some (.int (l3 + nI 1))]) (by repeat (first | exact trivial | refine ⟨rfl, ?_⟩ | show jg_le _ _)) ?_
         exact ih l2 (l3 + nI 1) h
       · replace h := it_f c4 h
         refine jg_iload_n dX6_borrowed_31 rfl ?_
         refine jg_aload_n dX6_borrowed_32 rfl ?_
         refine cs_get (s := s) (w := .ref (b + 125)) fl_X6_21 dX6_borrowed_33 (hB.ob 121 (by decide) rfl) rfl ?_
         refine jg_iload_n dX6_borrowed_36 rfl ?_
         refine cs_lda (s := s) (q := (b + 125)) (i := l3) dX6_borrowed_37 (hB.ar 125 (by decide) rfl) q2 ?_
         refine jg_iadd (x := l2) (y := (cg s (b + 125) l3)) dX6_borrowed_38  ?_
         refine jg_istore_n (L' := [some (.ref (b + 121)), some (.int l1), some (.int (l2 + (cg s (b + 125) l3))), some (.int l3)]) dX6_borrowed_39 (by decide) rfl ?_
         refine jg_iinc (x := l3) (v := l3 + nI 1) (L' := [some (.ref (b + 121)), some (.int l1), some (.int (l2 + (cg s (b + 125) l3))), some (.int (l3 + nI 1))]) dX6_borrowed_40 rfl (ic_k _ (by decide)) (by decide) rfl ?_
         refine jg_goto (tgt := 4) dX6_borrowed_43 (by decide) ?_
         refine jg_fg (L' := [some (.ref (b + 121)), some (.int l1), some (.int (l2 + (cg s (b + 125) l3))), some (.int (l3 + nI 1))]) (by repeat (first | exact trivial | refine ⟨rfl, ?_⟩ | show jg_le _ _)) ?_
         exact ih (l2 + (cg s (b + 125) l3)) (l3 + nI 1) h
noncomputable def o_X6_borrowed (F : Nat) (τ : cT) (n : Nat) (b : Nat) (s : cS) (a1 : Int32) : Option (Int32) := (o_X6_borrowed_4 F τ n b a1 s F (nI 0) (nI 0)).bind fun x5 => (some x5)
set_option maxHeartbeats 4000000 in
theorem t_X6_borrowed {Γ : jg_G} {g : Nat → jg_C} (F : Nat) (τ : cT) (n : Nat) (b : Nat) (s : cS) (a1 : Int32) (hB : Bd τ n b) {x : Int32} (h : o_X6_borrowed F τ n b s a1 = some x) : jc Γ mX6_borrowed 0 0 0 [some (.ref (b + 121)), some (.int a1), none, none] (ct_h g τ s, n) (.inl (some (.int x))) (ct_h g τ s, n) := by
  refine jc_of ?_
  rw [o_X6_borrowed] at h
  refine jg_iconst (v := nI 0) dX6_borrowed_0 (by decide) ?_
  refine jg_istore_n (L' := [some (.ref (b + 121)), some (.int a1), some (.int (nI 0)), none]) dX6_borrowed_1 (by decide) rfl ?_
  refine jg_iconst (v := nI 0) dX6_borrowed_2 (by decide) ?_
  refine jg_istore_n (L' := [some (.ref (b + 121)), some (.int a1), some (.int (nI 0)), some (.int (nI 0))]) dX6_borrowed_3 (by decide) rfl ?_
  obtain ⟨x5, e_x5, h⟩ := bd_some h
  refine jg_fg (L' := [some (.ref (b + 121)), some (.int a1), some (.int (nI 0)), some (.int (nI 0))]) (by repeat (first | exact trivial | refine ⟨rfl, ?_⟩ | show jg_le _ _)) ?_
  refine t_X6_borrowed_4  F τ n b a1 s hB _ (x := x5) ?_ F (nI 0) (nI 0) e_x5
  refine jg_iload_n dX6_borrowed_46 rfl ?_
  obtain rfl := Option.some.inj h
  exact jg_ireturn dX6_borrowed_47 rfl ⟨rfl, rfl⟩
theorem dX6_sell_0 : decode cX6_sell 0 = .ok (.aload_n 0, 1) := by decide +kernel
theorem dX6_sell_1 : decode cX6_sell 1 = .ok (.getfield 21, 3) := by decide +kernel
theorem dX6_sell_4 : decode cX6_sell 4 = .ok (.aload_n 0, 1) := by decide +kernel
theorem dX6_sell_5 : decode cX6_sell 5 = .ok (.getfield 56, 3) := by decide +kernel
theorem dX6_sell_8 : decode cX6_sell 8 = .ok (.iload_n 1, 1) := by decide +kernel
theorem dX6_sell_9 : decode cX6_sell 9 = .ok (.iastore, 1) := by decide +kernel
theorem dX6_sell_10 : decode cX6_sell 10 = .ok (.aload_n 0, 1) := by decide +kernel
theorem dX6_sell_11 : decode cX6_sell 11 = .ok (.getfield 24, 3) := by decide +kernel
theorem dX6_sell_14 : decode cX6_sell 14 = .ok (.aload_n 0, 1) := by decide +kernel
theorem dX6_sell_15 : decode cX6_sell 15 = .ok (.getfield 56, 3) := by decide +kernel
theorem dX6_sell_18 : decode cX6_sell 18 = .ok (.iload_n 2, 1) := by decide +kernel
theorem dX6_sell_19 : decode cX6_sell 19 = .ok (.iastore, 1) := by decide +kernel
theorem dX6_sell_20 : decode cX6_sell 20 = .ok (.aload_n 0, 1) := by decide +kernel
theorem dX6_sell_21 : decode cX6_sell 21 = .ok (.getfield 27, 3) := by decide +kernel
theorem dX6_sell_24 : decode cX6_sell 24 = .ok (.aload_n 0, 1) := by decide +kernel
theorem dX6_sell_25 : decode cX6_sell 25 = .ok (.getfield 56, 3) := by decide +kernel
theorem dX6_sell_28 : decode cX6_sell 28 = .ok (.iload_n 3, 1) := by decide +kernel
theorem dX6_sell_29 : decode cX6_sell 29 = .ok (.iastore, 1) := by decide +kernel
theorem dX6_sell_30 : decode cX6_sell 30 = .ok (.aload_n 0, 1) := by decide +kernel
theorem dX6_sell_31 : decode cX6_sell 31 = .ok (.getfield 30, 3) := by decide +kernel
theorem dX6_sell_34 : decode cX6_sell 34 = .ok (.aload_n 0, 1) := by decide +kernel
theorem dX6_sell_35 : decode cX6_sell 35 = .ok (.getfield 56, 3) := by decide +kernel
theorem dX6_sell_38 : decode cX6_sell 38 = .ok (.iload 4, 2) := by decide +kernel
theorem dX6_sell_40 : decode cX6_sell 40 = .ok (.iastore, 1) := by decide +kernel
theorem dX6_sell_41 : decode cX6_sell 41 = .ok (.aload_n 0, 1) := by decide +kernel
theorem dX6_sell_42 : decode cX6_sell 42 = .ok (.getfield 33, 3) := by decide +kernel
theorem dX6_sell_45 : decode cX6_sell 45 = .ok (.aload_n 0, 1) := by decide +kernel
theorem dX6_sell_46 : decode cX6_sell 46 = .ok (.getfield 56, 3) := by decide +kernel
theorem dX6_sell_49 : decode cX6_sell 49 = .ok (.iconst 0, 1) := by decide +kernel
theorem dX6_sell_50 : decode cX6_sell 50 = .ok (.iastore, 1) := by decide +kernel
theorem dX6_sell_51 : decode cX6_sell 51 = .ok (.aload_n 0, 1) := by decide +kernel
theorem dX6_sell_52 : decode cX6_sell 52 = .ok (.getfield 36, 3) := by decide +kernel
theorem dX6_sell_55 : decode cX6_sell 55 = .ok (.aload_n 0, 1) := by decide +kernel
theorem dX6_sell_56 : decode cX6_sell 56 = .ok (.getfield 56, 3) := by decide +kernel
theorem dX6_sell_59 : decode cX6_sell 59 = .ok (.iconst 0, 1) := by decide +kernel
theorem dX6_sell_60 : decode cX6_sell 60 = .ok (.iastore, 1) := by decide +kernel
theorem dX6_sell_61 : decode cX6_sell 61 = .ok (.aload_n 0, 1) := by decide +kernel
theorem dX6_sell_62 : decode cX6_sell 62 = .ok (.aload_n 0, 1) := by decide +kernel
theorem dX6_sell_63 : decode cX6_sell 63 = .ok (.getfield 39, 3) := by decide +kernel
theorem dX6_sell_66 : decode cX6_sell 66 = .ok (.i2l, 1) := by decide +kernel
theorem dX6_sell_67 : decode cX6_sell 67 = .ok (.iload_n 1, 1) := by decide +kernel
theorem dX6_sell_68 : decode cX6_sell 68 = .ok (.i2l, 1) := by decide +kernel
theorem dX6_sell_69 : decode cX6_sell 69 = .ok (.ladd, 1) := by decide +kernel
theorem dX6_sell_70 : decode cX6_sell 70 = .ok (.invokestatic 59, 3) := by decide +kernel
theorem dX6_sell_73 : decode cX6_sell 73 = .ok (.putfield 39, 3) := by decide +kernel
theorem dX6_sell_76 : decode cX6_sell 76 = .ok (.aload_n 0, 1) := by decide +kernel
theorem dX6_sell_77 : decode cX6_sell 77 = .ok (.dup, 1) := by decide +kernel
theorem dX6_sell_78 : decode cX6_sell 78 = .ok (.getfield 56, 3) := by decide +kernel
theorem dX6_sell_81 : decode cX6_sell 81 = .ok (.iconst 1, 1) := by decide +kernel
theorem dX6_sell_82 : decode cX6_sell 82 = .ok (.iadd, 1) := by decide +kernel
theorem dX6_sell_83 : decode cX6_sell 83 = .ok (.putfield 56, 3) := by decide +kernel
theorem dX6_sell_86 : decode cX6_sell 86 = .ok (.aload_n 0, 1) := by decide +kernel
theorem dX6_sell_87 : decode cX6_sell 87 = .ok (.getfield 56, 3) := by decide +kernel
theorem dX6_sell_90 : decode cX6_sell 90 = .ok (.iconst 1, 1) := by decide +kernel
theorem dX6_sell_91 : decode cX6_sell 91 = .ok (.isub, 1) := by decide +kernel
theorem dX6_sell_92 : decode cX6_sell 92 = .ok (.ireturn, 1) := by decide +kernel
noncomputable def o_X6_sell (τ : cT) (n : Nat) (b : Nat) (s : cS) (a1 : Int32) (a2 : Int32) (a3 : Int32) (a4 : Int32) : Option (Int32 × cS) := if iL (s.1 (b + 121) 13) 20 then (if iL ((ca s (b + 125) (s.1 (b + 121) 13) a1).1 (b + 121) 13) 20 then ((some (ca (ca s (b + 125) (s.1 (b + 121) 13) a1) (b + 126) ((ca s (b + 125) (s.1 (b + 121) 13) a1).1 (b + 121) 13) a2)).bind fun x3 => (if iL (x3.1 (b + 121) 13) 20 then (if iL ((ca x3 (b + 127) (x3.1 (b + 121) 13) a3).1 (b + 121) 13) 20 then ((some (ca (ca x3 (b + 127) (x3.1 (b + 121) 13) a3) (b + 128) ((ca x3 (b + 127) (x3.1 (b + 121) 13) a3).1 (b + 121) 13) a4)).bind fun x6 => (if iL (x6.1 (b + 121) 13) 20 then (if iL ((ca x6 (b + 129) (x6.1 (b + 121) 13) (nI 0)).1 (b + 121) 13) 20 then ((some (ca (ca x6 (b + 129) (x6.1 (b + 121) 13) (nI 0)) (b + 130) ((ca x6 (b + 129) (x6.1 (b + 121) 13) (nI 0)).1 (b + 121) 13) (nI 0))).bind fun x9 => ((o_X11_capped τ n x9 (((x9.1 (b + 121) 0).toInt64) + a1.toInt64)).bind fun x10 => ((some (cp (cp x9 (b + 121) 0 x10) (b + 121) 13 (((cp x9 (b + 121) 0 x10).1 (b + 121) 13) + (nI 1)))).bind fun x11 => (some ((x11.1 (b + 121) 13) - (nI 1), x11))))) else none) else none)) else none) else none)) else none) else none
set_option maxHeartbeats 4000000 in
theorem t_X6_sell {Γ : jg_G} {g : Nat → jg_C} (τ : cT) (n : Nat) (b : Nat) (s : cS) (a1 : Int32) (a2 : Int32) (a3 : Int32) (a4 : Int32) (hB : Bd τ n b) {x : Int32 × cS} (h : o_X6_sell τ n b s a1 a2 a3 a4 = some x) : jc Γ mX6_sell 2 0 0 [some (.ref (b + 121)), some (.int a1), some (.int a2), some (.int a3), some (.int a4)] (ct_h g τ s, n) (.inl (some (.int x.1))) (ct_h g τ x.2, n) := by
  refine jc_of ?_
  rw [o_X6_sell] at h
  refine jg_aload_n dX6_sell_0 rfl ?_
  refine cs_get (s := s) (w := .ref (b + 125)) fl_X6_21 dX6_sell_1 (hB.ob 121 (by decide) rfl) rfl ?_
  refine jg_aload_n dX6_sell_4 rfl ?_
  refine cs_get (s := s) (w := .int (s.1 (b + 121) 13)) fl_X6_56 dX6_sell_5 (hB.ob 121 (by decide) rfl) rfl ?_
  refine jg_iload_n dX6_sell_8 rfl ?_
  obtain ⟨q1, h⟩ := gd_some h
  refine cs_sta (s := s) (q := (b + 125)) (i := (s.1 (b + 121) 13)) (x := a1) dX6_sell_9 (hB.ar 125 (by decide) rfl) q1 ?_
  refine jg_aload_n dX6_sell_10 rfl ?_
  refine cs_get (s := (ca s (b + 125) (s.1 (b + 121) 13) a1)) (w := .ref (b + 126)) fl_X6_24 dX6_sell_11 (hB.ob 121 (by decide) rfl) rfl ?_
  refine jg_aload_n dX6_sell_14 rfl ?_
  refine cs_get (s := (ca s (b + 125) (s.1 (b + 121) 13) a1)) (w := .int ((ca s (b + 125) (s.1 (b + 121) 13) a1).1 (b + 121) 13)) fl_X6_56 dX6_sell_15 (hB.ob 121 (by decide) rfl) rfl ?_
  refine jg_iload_n dX6_sell_18 rfl ?_
  obtain ⟨q2, h⟩ := gd_some h
  refine cs_sta (s := (ca s (b + 125) (s.1 (b + 121) 13) a1)) (q := (b + 126)) (i := ((ca s (b + 125) (s.1 (b + 121) 13) a1).1 (b + 121) 13)) (x := a2) dX6_sell_19 (hB.ar 126 (by decide) rfl) q2 ?_
  obtain ⟨x3, e_x3, h⟩ := bd_some h
  refine cs_sub (Option.some.inj e_x3) ?_
  refine jg_aload_n dX6_sell_20 rfl ?_
  refine cs_get (s := x3) (w := .ref (b + 127)) fl_X6_27 dX6_sell_21 (hB.ob 121 (by decide) rfl) rfl ?_
  refine jg_aload_n dX6_sell_24 rfl ?_
  refine cs_get (s := x3) (w := .int (x3.1 (b + 121) 13)) fl_X6_56 dX6_sell_25 (hB.ob 121 (by decide) rfl) rfl ?_
  refine jg_iload_n dX6_sell_28 rfl ?_
  obtain ⟨q4, h⟩ := gd_some h
  refine cs_sta (s := x3) (q := (b + 127)) (i := (x3.1 (b + 121) 13)) (x := a3) dX6_sell_29 (hB.ar 127 (by decide) rfl) q4 ?_
  refine jg_aload_n dX6_sell_30 rfl ?_
  refine cs_get (s := (ca x3 (b + 127) (x3.1 (b + 121) 13) a3)) (w := .ref (b + 128)) fl_X6_30 dX6_sell_31 (hB.ob 121 (by decide) rfl) rfl ?_
  refine jg_aload_n dX6_sell_34 rfl ?_
  refine cs_get (s := (ca x3 (b + 127) (x3.1 (b + 121) 13) a3)) (w := .int ((ca x3 (b + 127) (x3.1 (b + 121) 13) a3).1 (b + 121) 13)) fl_X6_56 dX6_sell_35 (hB.ob 121 (by decide) rfl) rfl ?_
  refine jg_iload dX6_sell_38 rfl ?_
  obtain ⟨q5, h⟩ := gd_some h
  refine cs_sta (s := (ca x3 (b + 127) (x3.1 (b + 121) 13) a3)) (q := (b + 128)) (i := ((ca x3 (b + 127) (x3.1 (b + 121) 13) a3).1 (b + 121) 13)) (x := a4) dX6_sell_40 (hB.ar 128 (by decide) rfl) q5 ?_
  obtain ⟨x6, e_x6, h⟩ := bd_some h
  refine cs_sub (Option.some.inj e_x6) ?_
  refine jg_aload_n dX6_sell_41 rfl ?_
  refine cs_get (s := x6) (w := .ref (b + 129)) fl_X6_33 dX6_sell_42 (hB.ob 121 (by decide) rfl) rfl ?_
  refine jg_aload_n dX6_sell_45 rfl ?_
  refine cs_get (s := x6) (w := .int (x6.1 (b + 121) 13)) fl_X6_56 dX6_sell_46 (hB.ob 121 (by decide) rfl) rfl ?_
  refine jg_iconst (v := nI 0) dX6_sell_49 (by decide) ?_
  obtain ⟨q7, h⟩ := gd_some h
  refine cs_sta (s := x6) (q := (b + 129)) (i := (x6.1 (b + 121) 13)) (x := (nI 0)) dX6_sell_50 (hB.ar 129 (by decide) rfl) q7 ?_
  refine jg_aload_n dX6_sell_51 rfl ?_
  refine cs_get (s := (ca x6 (b + 129) (x6.1 (b + 121) 13) (nI 0))) (w := .ref (b + 130)) fl_X6_36 dX6_sell_52 (hB.ob 121 (by decide) rfl) rfl ?_
  refine jg_aload_n dX6_sell_55 rfl ?_
  refine cs_get (s := (ca x6 (b + 129) (x6.1 (b + 121) 13) (nI 0))) (w := .int ((ca x6 (b + 129) (x6.1 (b + 121) 13) (nI 0)).1 (b + 121) 13)) fl_X6_56 dX6_sell_56 (hB.ob 121 (by decide) rfl) rfl ?_
  refine jg_iconst (v := nI 0) dX6_sell_59 (by decide) ?_
  obtain ⟨q8, h⟩ := gd_some h
  refine cs_sta (s := (ca x6 (b + 129) (x6.1 (b + 121) 13) (nI 0))) (q := (b + 130)) (i := ((ca x6 (b + 129) (x6.1 (b + 121) 13) (nI 0)).1 (b + 121) 13)) (x := (nI 0)) dX6_sell_60 (hB.ar 130 (by decide) rfl) q8 ?_
  obtain ⟨x9, e_x9, h⟩ := bd_some h
  refine cs_sub (Option.some.inj e_x9) ?_
  refine jg_aload_n dX6_sell_61 rfl ?_
  refine jg_aload_n dX6_sell_62 rfl ?_
  refine cs_get (s := x9) (w := .int (x9.1 (b + 121) 0)) fl_X6_39 dX6_sell_63 (hB.ob 121 (by decide) rfl) rfl ?_
  refine jg_i2l dX6_sell_66 ?_
  refine jg_iload_n dX6_sell_67 rfl ?_
  refine jg_i2l dX6_sell_68 ?_
  refine jg_ladd dX6_sell_69 ?_
  obtain ⟨x10, e_x10, h⟩ := bd_some h
  refine cs_callN (As := [.long (((x9.1 (b + 121) 0).toInt64) + a1.toInt64)]) kw_X6_59 dX6_sell_70 rfl (by decide) (Nat.le_of_ble_eq_true rfl) rfl (by decide) (Nat.le_of_ble_eq_true rfl) (t_X11_capped τ n x9 (((x9.1 (b + 121) 0).toInt64) + a1.toInt64) e_x10) ?_
  refine cs_put (s := x9) (k := 0) (x := x10) fl_X6_39 dX6_sell_73 (hB.ob 121 (by decide) rfl) (ltb rfl) (rfl) rfl rfl ?_
  refine jg_aload_n dX6_sell_76 rfl ?_
  refine jg_dup dX6_sell_77 rfl ?_
  refine cs_get (s := (cp x9 (b + 121) 0 x10)) (w := .int ((cp x9 (b + 121) 0 x10).1 (b + 121) 13)) fl_X6_56 dX6_sell_78 (hB.ob 121 (by decide) rfl) rfl ?_
  refine jg_iconst (v := nI 1) dX6_sell_81 (by decide) ?_
  refine jg_iadd (x := ((cp x9 (b + 121) 0 x10).1 (b + 121) 13)) (y := (nI 1)) dX6_sell_82  ?_
  refine cs_put (s := (cp x9 (b + 121) 0 x10)) (k := 13) (x := (((cp x9 (b + 121) 0 x10).1 (b + 121) 13) + (nI 1))) fl_X6_56 dX6_sell_83 (hB.ob 121 (by decide) rfl) (ltb rfl) (rfl) rfl rfl ?_
  obtain ⟨x11, e_x11, h⟩ := bd_some h
  refine cs_sub (Option.some.inj e_x11) ?_
  refine jg_aload_n dX6_sell_86 rfl ?_
  refine cs_get (s := x11) (w := .int (x11.1 (b + 121) 13)) fl_X6_56 dX6_sell_87 (hB.ob 121 (by decide) rfl) rfl ?_
  refine jg_iconst (v := nI 1) dX6_sell_90 (by decide) ?_
  refine jg_isub (x := (x11.1 (b + 121) 13)) (y := (nI 1)) dX6_sell_91  ?_
  obtain rfl := Option.some.inj h
  exact jg_ireturn dX6_sell_92 rfl ⟨rfl, rfl⟩
theorem dX4_addWork_0 : decode cX4_addWork 0 = .ok (.aload_n 0, 1) := by decide +kernel
theorem dX4_addWork_1 : decode cX4_addWork 1 = .ok (.getfield 48, 3) := by decide +kernel
theorem dX4_addWork_4 : decode cX4_addWork 4 = .ok (.bipush 6, 2) := by decide +kernel
theorem dX4_addWork_6 : decode cX4_addWork 6 = .ok (.if_icmp .lt 5, 3) := by decide +kernel
theorem dX4_addWork_9 : decode cX4_addWork 9 = .ok (.iconst (-1), 1) := by decide +kernel
theorem dX4_addWork_10 : decode cX4_addWork 10 = .ok (.ireturn, 1) := by decide +kernel
theorem dX4_addWork_11 : decode cX4_addWork 11 = .ok (.aload_n 0, 1) := by decide +kernel
theorem dX4_addWork_12 : decode cX4_addWork 12 = .ok (.getfield 9, 3) := by decide +kernel
theorem dX4_addWork_15 : decode cX4_addWork 15 = .ok (.aload_n 0, 1) := by decide +kernel
theorem dX4_addWork_16 : decode cX4_addWork 16 = .ok (.getfield 48, 3) := by decide +kernel
theorem dX4_addWork_19 : decode cX4_addWork 19 = .ok (.iload_n 1, 1) := by decide +kernel
theorem dX4_addWork_20 : decode cX4_addWork 20 = .ok (.iastore, 1) := by decide +kernel
theorem dX4_addWork_21 : decode cX4_addWork 21 = .ok (.aload_n 0, 1) := by decide +kernel
theorem dX4_addWork_22 : decode cX4_addWork 22 = .ok (.getfield 15, 3) := by decide +kernel
theorem dX4_addWork_25 : decode cX4_addWork 25 = .ok (.aload_n 0, 1) := by decide +kernel
theorem dX4_addWork_26 : decode cX4_addWork 26 = .ok (.getfield 48, 3) := by decide +kernel
theorem dX4_addWork_29 : decode cX4_addWork 29 = .ok (.iload_n 2, 1) := by decide +kernel
theorem dX4_addWork_30 : decode cX4_addWork 30 = .ok (.iastore, 1) := by decide +kernel
theorem dX4_addWork_31 : decode cX4_addWork 31 = .ok (.aload_n 0, 1) := by decide +kernel
theorem dX4_addWork_32 : decode cX4_addWork 32 = .ok (.getfield 18, 3) := by decide +kernel
theorem dX4_addWork_35 : decode cX4_addWork 35 = .ok (.aload_n 0, 1) := by decide +kernel
theorem dX4_addWork_36 : decode cX4_addWork 36 = .ok (.getfield 48, 3) := by decide +kernel
theorem dX4_addWork_39 : decode cX4_addWork 39 = .ok (.iload_n 3, 1) := by decide +kernel
theorem dX4_addWork_40 : decode cX4_addWork 40 = .ok (.iastore, 1) := by decide +kernel
theorem dX4_addWork_41 : decode cX4_addWork 41 = .ok (.aload_n 0, 1) := by decide +kernel
theorem dX4_addWork_42 : decode cX4_addWork 42 = .ok (.dup, 1) := by decide +kernel
theorem dX4_addWork_43 : decode cX4_addWork 43 = .ok (.getfield 48, 3) := by decide +kernel
theorem dX4_addWork_46 : decode cX4_addWork 46 = .ok (.iconst 1, 1) := by decide +kernel
theorem dX4_addWork_47 : decode cX4_addWork 47 = .ok (.iadd, 1) := by decide +kernel
theorem dX4_addWork_48 : decode cX4_addWork 48 = .ok (.putfield 48, 3) := by decide +kernel
theorem dX4_addWork_51 : decode cX4_addWork 51 = .ok (.aload_n 0, 1) := by decide +kernel
theorem dX4_addWork_52 : decode cX4_addWork 52 = .ok (.getfield 48, 3) := by decide +kernel
theorem dX4_addWork_55 : decode cX4_addWork 55 = .ok (.ireturn, 1) := by decide +kernel
noncomputable def o_X4_addWork (τ : cT) (n : Nat) (b : Nat) (s : cS) (a1 : Int32) (a2 : Int32) (a3 : Int32) : Option (Int32 × cS) := if (s.1 (b + 131) 3) < (nI 6) then (if iL (s.1 (b + 131) 3) 6 then (if iL ((ca s (b + 132) (s.1 (b + 131) 3) a1).1 (b + 131) 3) 6 then ((some (ca (ca s (b + 132) (s.1 (b + 131) 3) a1) (b + 133) ((ca s (b + 132) (s.1 (b + 131) 3) a1).1 (b + 131) 3) a2)).bind fun x4 => (if iL (x4.1 (b + 131) 3) 6 then ((some (cp (ca x4 (b + 134) (x4.1 (b + 131) 3) a3) (b + 131) 3 (((ca x4 (b + 134) (x4.1 (b + 131) 3) a3).1 (b + 131) 3) + (nI 1)))).bind fun x6 => (some (x6.1 (b + 131) 3, x6))) else none)) else none) else none) else (some ((-1), s))
set_option maxHeartbeats 4000000 in
theorem t_X4_addWork {Γ : jg_G} {g : Nat → jg_C} (τ : cT) (n : Nat) (b : Nat) (s : cS) (a1 : Int32) (a2 : Int32) (a3 : Int32) (hB : Bd τ n b) {x : Int32 × cS} (h : o_X4_addWork τ n b s a1 a2 a3 = some x) : jc Γ mX4_addWork 0 0 0 [some (.ref (b + 131)), some (.int a1), some (.int a2), some (.int a3)] (ct_h g τ s, n) (.inl (some (.int x.1))) (ct_h g τ x.2, n) := by
  refine jc_of ?_
  rw [o_X4_addWork] at h
  refine jg_aload_n dX4_addWork_0 rfl ?_
  refine cs_get (s := s) (w := .int (s.1 (b + 131) 3)) fl_X4_48 dX4_addWork_1 (hB.ob 131 (by decide) rfl) rfl ?_
  refine jg_bipush (v := nI 6) dX4_addWork_4 (by decide) ?_
  refine jg_icmp_lt (x := (s.1 (b + 131) 3)) (y := (nI 6)) (tgt := 11) dX4_addWork_6 (by decide) (fun c1 => ?_) (fun c1 => ?_)
  · replace h := it_t c1 h
    refine jg_aload_n dX4_addWork_11 rfl ?_
    refine cs_get (s := s) (w := .ref (b + 132)) fl_X4_9 dX4_addWork_12 (hB.ob 131 (by decide) rfl) rfl ?_
    refine jg_aload_n dX4_addWork_15 rfl ?_
    refine cs_get (s := s) (w := .int (s.1 (b + 131) 3)) fl_X4_48 dX4_addWork_16 (hB.ob 131 (by decide) rfl) rfl ?_
    refine jg_iload_n dX4_addWork_19 rfl ?_
    obtain ⟨q2, h⟩ := gd_some h
    refine cs_sta (s := s) (q := (b + 132)) (i := (s.1 (b + 131) 3)) (x := a1) dX4_addWork_20 (hB.ar 132 (by decide) rfl) q2 ?_
    refine jg_aload_n dX4_addWork_21 rfl ?_
    refine cs_get (s := (ca s (b + 132) (s.1 (b + 131) 3) a1)) (w := .ref (b + 133)) fl_X4_15 dX4_addWork_22 (hB.ob 131 (by decide) rfl) rfl ?_
    refine jg_aload_n dX4_addWork_25 rfl ?_
    refine cs_get (s := (ca s (b + 132) (s.1 (b + 131) 3) a1)) (w := .int ((ca s (b + 132) (s.1 (b + 131) 3) a1).1 (b + 131) 3)) fl_X4_48 dX4_addWork_26 (hB.ob 131 (by decide) rfl) rfl ?_
    refine jg_iload_n dX4_addWork_29 rfl ?_
    obtain ⟨q3, h⟩ := gd_some h
    refine cs_sta (s := (ca s (b + 132) (s.1 (b + 131) 3) a1)) (q := (b + 133)) (i := ((ca s (b + 132) (s.1 (b + 131) 3) a1).1 (b + 131) 3)) (x := a2) dX4_addWork_30 (hB.ar 133 (by decide) rfl) q3 ?_
    obtain ⟨x4, e_x4, h⟩ := bd_some h
    refine cs_sub (Option.some.inj e_x4) ?_
    refine jg_aload_n dX4_addWork_31 rfl ?_
    refine cs_get (s := x4) (w := .ref (b + 134)) fl_X4_18 dX4_addWork_32 (hB.ob 131 (by decide) rfl) rfl ?_
    refine jg_aload_n dX4_addWork_35 rfl ?_
    refine cs_get (s := x4) (w := .int (x4.1 (b + 131) 3)) fl_X4_48 dX4_addWork_36 (hB.ob 131 (by decide) rfl) rfl ?_
    refine jg_iload_n dX4_addWork_39 rfl ?_
    obtain ⟨q5, h⟩ := gd_some h
    refine cs_sta (s := x4) (q := (b + 134)) (i := (x4.1 (b + 131) 3)) (x := a3) dX4_addWork_40 (hB.ar 134 (by decide) rfl) q5 ?_
    refine jg_aload_n dX4_addWork_41 rfl ?_
    refine jg_dup dX4_addWork_42 rfl ?_
    refine cs_get (s := (ca x4 (b + 134) (x4.1 (b + 131) 3) a3)) (w := .int ((ca x4 (b + 134) (x4.1 (b + 131) 3) a3).1 (b + 131) 3)) fl_X4_48 dX4_addWork_43 (hB.ob 131 (by decide) rfl) rfl ?_
    refine jg_iconst (v := nI 1) dX4_addWork_46 (by decide) ?_
    refine jg_iadd (x := ((ca x4 (b + 134) (x4.1 (b + 131) 3) a3).1 (b + 131) 3)) (y := (nI 1)) dX4_addWork_47  ?_
    refine cs_put (s := (ca x4 (b + 134) (x4.1 (b + 131) 3) a3)) (k := 3) (x := (((ca x4 (b + 134) (x4.1 (b + 131) 3) a3).1 (b + 131) 3) + (nI 1))) fl_X4_48 dX4_addWork_48 (hB.ob 131 (by decide) rfl) (ltb rfl) (rfl) rfl rfl ?_
    obtain ⟨x6, e_x6, h⟩ := bd_some h
    refine cs_sub (Option.some.inj e_x6) ?_
    refine jg_aload_n dX4_addWork_51 rfl ?_
    refine cs_get (s := x6) (w := .int (x6.1 (b + 131) 3)) fl_X4_48 dX4_addWork_52 (hB.ob 131 (by decide) rfl) rfl ?_
    obtain rfl := Option.some.inj h
    exact jg_ireturn dX4_addWork_55 rfl ⟨rfl, rfl⟩
  · replace h := it_f c1 h
    refine jg_iconst (v := (-1)) dX4_addWork_9 (by decide) ?_
    obtain rfl := Option.some.inj h
    exact jg_ireturn dX4_addWork_10 rfl ⟨rfl, rfl⟩
theorem dX4_worthOf_0 : decode cX4_worthOf 0 = .ok (.iload_n 1, 1) := by decide +kernel
theorem dX4_worthOf_1 : decode cX4_worthOf 1 = .ok (.istore_n 3, 1) := by decide +kernel
theorem dX4_worthOf_2 : decode cX4_worthOf 2 = .ok (.iconst 0, 1) := by decide +kernel
theorem dX4_worthOf_3 : decode cX4_worthOf 3 = .ok (.istore 4, 2) := by decide +kernel
theorem dX4_worthOf_5 : decode cX4_worthOf 5 = .ok (.iconst 0, 1) := by decide +kernel
theorem dX4_worthOf_6 : decode cX4_worthOf 6 = .ok (.istore 5, 2) := by decide +kernel
theorem dX4_worthOf_8 : decode cX4_worthOf 8 = .ok (.iload 5, 2) := by decide +kernel
theorem dX4_worthOf_10 : decode cX4_worthOf 10 = .ok (.bipush 30, 2) := by decide +kernel
theorem dX4_worthOf_12 : decode cX4_worthOf 12 = .ok (.if_icmp .ge 118, 3) := by decide +kernel
theorem dX4_worthOf_15 : decode cX4_worthOf 15 = .ok (.iconst 0, 1) := by decide +kernel
theorem dX4_worthOf_16 : decode cX4_worthOf 16 = .ok (.istore 6, 2) := by decide +kernel
theorem dX4_worthOf_18 : decode cX4_worthOf 18 = .ok (.iload 6, 2) := by decide +kernel
theorem dX4_worthOf_20 : decode cX4_worthOf 20 = .ok (.aload_n 0, 1) := by decide +kernel
theorem dX4_worthOf_21 : decode cX4_worthOf 21 = .ok (.getfield 48, 3) := by decide +kernel
theorem dX4_worthOf_24 : decode cX4_worthOf 24 = .ok (.if_icmp .ge 30, 3) := by decide +kernel
theorem dX4_worthOf_27 : decode cX4_worthOf 27 = .ok (.iload 4, 2) := by decide +kernel
theorem dX4_worthOf_29 : decode cX4_worthOf 29 = .ok (.iload 6, 2) := by decide +kernel
theorem dX4_worthOf_31 : decode cX4_worthOf 31 = .ok (.ishr, 1) := by decide +kernel
theorem dX4_worthOf_32 : decode cX4_worthOf 32 = .ok (.iconst 1, 1) := by decide +kernel
theorem dX4_worthOf_33 : decode cX4_worthOf 33 = .ok (.iand, 1) := by decide +kernel
theorem dX4_worthOf_34 : decode cX4_worthOf 34 = .ok (.iconst 1, 1) := by decide +kernel
theorem dX4_worthOf_35 : decode cX4_worthOf 35 = .ok (.if_icmp .ne 13, 3) := by decide +kernel
theorem dX4_worthOf_38 : decode cX4_worthOf 38 = .ok (.iload_n 3, 1) := by decide +kernel
theorem dX4_worthOf_39 : decode cX4_worthOf 39 = .ok (.aload_n 0, 1) := by decide +kernel
theorem dX4_worthOf_40 : decode cX4_worthOf 40 = .ok (.getfield 15, 3) := by decide +kernel
theorem dX4_worthOf_43 : decode cX4_worthOf 43 = .ok (.iload 6, 2) := by decide +kernel
theorem dX4_worthOf_45 : decode cX4_worthOf 45 = .ok (.iaload, 1) := by decide +kernel
theorem dX4_worthOf_46 : decode cX4_worthOf 46 = .ok (.iadd, 1) := by decide +kernel
theorem dX4_worthOf_47 : decode cX4_worthOf 47 = .ok (.istore_n 3, 1) := by decide +kernel
theorem dX4_worthOf_48 : decode cX4_worthOf 48 = .ok (.iinc 6 1, 3) := by decide +kernel
theorem dX4_worthOf_51 : decode cX4_worthOf 51 = .ok (.goto (-33), 3) := by decide +kernel
theorem dX4_worthOf_54 : decode cX4_worthOf 54 = .ok (.iconst 0, 1) := by decide +kernel
theorem dX4_worthOf_55 : decode cX4_worthOf 55 = .ok (.istore 6, 2) := by decide +kernel
theorem dX4_worthOf_57 : decode cX4_worthOf 57 = .ok (.iload 6, 2) := by decide +kernel
theorem dX4_worthOf_59 : decode cX4_worthOf 59 = .ok (.aload_n 0, 1) := by decide +kernel
theorem dX4_worthOf_60 : decode cX4_worthOf 60 = .ok (.getfield 48, 3) := by decide +kernel
theorem dX4_worthOf_63 : decode cX4_worthOf 63 = .ok (.if_icmp .ge 61, 3) := by decide +kernel
theorem dX4_worthOf_66 : decode cX4_worthOf 66 = .ok (.iload_n 2, 1) := by decide +kernel
theorem dX4_worthOf_67 : decode cX4_worthOf 67 = .ok (.iload 6, 2) := by decide +kernel
theorem dX4_worthOf_69 : decode cX4_worthOf 69 = .ok (.ishr, 1) := by decide +kernel
theorem dX4_worthOf_70 : decode cX4_worthOf 70 = .ok (.iconst 1, 1) := by decide +kernel
theorem dX4_worthOf_71 : decode cX4_worthOf 71 = .ok (.iand, 1) := by decide +kernel
theorem dX4_worthOf_72 : decode cX4_worthOf 72 = .ok (.iconst 1, 1) := by decide +kernel
theorem dX4_worthOf_73 : decode cX4_worthOf 73 = .ok (.if_icmp .ne 45, 3) := by decide +kernel
theorem dX4_worthOf_76 : decode cX4_worthOf 76 = .ok (.aload_n 0, 1) := by decide +kernel
theorem dX4_worthOf_77 : decode cX4_worthOf 77 = .ok (.getfield 18, 3) := by decide +kernel
theorem dX4_worthOf_80 : decode cX4_worthOf 80 = .ok (.iload 6, 2) := by decide +kernel
theorem dX4_worthOf_82 : decode cX4_worthOf 82 = .ok (.iaload, 1) := by decide +kernel
theorem dX4_worthOf_83 : decode cX4_worthOf 83 = .ok (.iload 5, 2) := by decide +kernel
theorem dX4_worthOf_85 : decode cX4_worthOf 85 = .ok (.if_icmp .ne 33, 3) := by decide +kernel
theorem dX4_worthOf_88 : decode cX4_worthOf 88 = .ok (.aload_n 0, 1) := by decide +kernel
theorem dX4_worthOf_89 : decode cX4_worthOf 89 = .ok (.getfield 9, 3) := by decide +kernel
theorem dX4_worthOf_92 : decode cX4_worthOf 92 = .ok (.iload 6, 2) := by decide +kernel
theorem dX4_worthOf_94 : decode cX4_worthOf 94 = .ok (.iaload, 1) := by decide +kernel
theorem dX4_worthOf_95 : decode cX4_worthOf 95 = .ok (.iload_n 3, 1) := by decide +kernel
theorem dX4_worthOf_96 : decode cX4_worthOf 96 = .ok (.if_icmp .gt 22, 3) := by decide +kernel
theorem dX4_worthOf_99 : decode cX4_worthOf 99 = .ok (.iload_n 3, 1) := by decide +kernel
theorem dX4_worthOf_100 : decode cX4_worthOf 100 = .ok (.aload_n 0, 1) := by decide +kernel
theorem dX4_worthOf_101 : decode cX4_worthOf 101 = .ok (.getfield 9, 3) := by decide +kernel
theorem dX4_worthOf_104 : decode cX4_worthOf 104 = .ok (.iload 6, 2) := by decide +kernel
theorem dX4_worthOf_106 : decode cX4_worthOf 106 = .ok (.iaload, 1) := by decide +kernel
theorem dX4_worthOf_107 : decode cX4_worthOf 107 = .ok (.isub, 1) := by decide +kernel
theorem dX4_worthOf_108 : decode cX4_worthOf 108 = .ok (.istore_n 3, 1) := by decide +kernel
theorem dX4_worthOf_109 : decode cX4_worthOf 109 = .ok (.iload 4, 2) := by decide +kernel
theorem dX4_worthOf_111 : decode cX4_worthOf 111 = .ok (.iconst 1, 1) := by decide +kernel
theorem dX4_worthOf_112 : decode cX4_worthOf 112 = .ok (.iload 6, 2) := by decide +kernel
theorem dX4_worthOf_114 : decode cX4_worthOf 114 = .ok (.ishl, 1) := by decide +kernel
theorem dX4_worthOf_115 : decode cX4_worthOf 115 = .ok (.ior, 1) := by decide +kernel
theorem dX4_worthOf_116 : decode cX4_worthOf 116 = .ok (.istore 4, 2) := by decide +kernel
theorem dX4_worthOf_118 : decode cX4_worthOf 118 = .ok (.iinc 6 1, 3) := by decide +kernel
theorem dX4_worthOf_121 : decode cX4_worthOf 121 = .ok (.goto (-64), 3) := by decide +kernel
theorem dX4_worthOf_124 : decode cX4_worthOf 124 = .ok (.iinc 5 1, 3) := by decide +kernel
theorem dX4_worthOf_127 : decode cX4_worthOf 127 = .ok (.goto (-119), 3) := by decide +kernel
theorem dX4_worthOf_130 : decode cX4_worthOf 130 = .ok (.iload_n 3, 1) := by decide +kernel
theorem dX4_worthOf_131 : decode cX4_worthOf 131 = .ok (.ireturn, 1) := by decide +kernel
noncomputable def o_X4_worthOf_18 (F : Nat) (τ : cT) (n : Nat) (b : Nat) (l2 : Int32) (l4 : Int32) (l5 : Int32) (s : cS) : Nat → Int32 → Int32 → Option (Int32)
  | 0, _, _ => none
  | f + 1, l3, l6 => if (s.1 (b + 131) 3) ≤ l6 then (some l3) else (if ((l4 >>> (l6 &&& 31)) &&& (nI 1)) = (nI 1) then (if iL l6 6 then (o_X4_worthOf_18 F τ n b l2 l4 l5 s f (l3 + (cg s (b + 133) l6)) (l6 + nI 1)) else none) else (o_X4_worthOf_18 F τ n b l2 l4 l5 s f l3 (l6 + nI 1)))
set_option maxHeartbeats 4000000 in
theorem t_X4_worthOf_18 {Γ : jg_G} {g : Nat → jg_C} (F : Nat) (τ : cT) (n : Nat) (b : Nat) (l2 : Int32) (l4 : Int32) (l5 : Int32) (s : cS) (hB : Bd τ n b) (Q : jg_Q) {x : Int32} (K1 : jg Γ mX4_worthOf 0 0 0 54 [some (.ref (b + 131)), none, some (.int l2), some (.int x), some (.int l4), some (.int l5), none] [] (ct_h g τ s, n) Q)  : ∀ (f : Nat) (l3 : Int32) (l6 : Int32), o_X4_worthOf_18 F τ n b l2 l4 l5 s f l3 l6 = some x → jg Γ mX4_worthOf 0 0 0 18 [some (.ref (b + 131)), none, some (.int l2), some (.int l3), some (.int l4), some (.int l5), some (.int l6)] [] (ct_h g τ s, n) Q := by
  intro f
  induction f with
  | zero => intro l3 l6 h; rw [o_X4_worthOf_18] at h; cases h
  | succ f ih =>
   intro l3 l6 h
   rw [o_X4_worthOf_18] at h
   refine jg_iload dX4_worthOf_18 rfl ?_
   refine jg_aload_n dX4_worthOf_20 rfl ?_
   refine cs_get (s := s) (w := .int (s.1 (b + 131) 3)) fl_X4_48 dX4_worthOf_21 (hB.ob 131 (by decide) rfl) rfl ?_
   refine jg_icmp_ge (x := l6) (y := (s.1 (b + 131) 3)) (tgt := 54) dX4_worthOf_24 (by decide) (fun c2 => ?_) (fun c2 => ?_)
   · replace h := it_t c2 h
     refine jg_fg (L' := [some (.ref (b + 131)), none, some (.int l2), some (.int l3), some (.int l4), some (.int l5), none]) (by repeat (first | exact trivial | refine ⟨rfl, ?_⟩ | show jg_le _ _)) ?_
     obtain rfl := Option.some.inj h
     exact K1
   · replace h := it_f c2 h
     refine jg_iload dX4_worthOf_27 rfl ?_
     refine jg_iload dX4_worthOf_29 rfl ?_
     refine jg_ishr (x := l4) (y := l6) dX4_worthOf_31  ?_
     refine jg_iconst (v := nI 1) dX4_worthOf_32 (by decide) ?_
     refine jg_iand (x := (l4 >>> (l6 &&& 31))) (y := (nI 1)) dX4_worthOf_33  ?_
     refine jg_iconst (v := nI 1) dX4_worthOf_34 (by decide) ?_
     refine jg_icmp_ne (x := ((l4 >>> (l6 &&& 31)) &&& (nI 1))) (y := (nI 1)) (tgt := 48) dX4_worthOf_35 (by decide) (fun c3 => ?_) (fun c3 => ?_)
     · replace h := it_f c3 h
       refine jg_iinc (x := l6) (v := l6 + nI 1) (L' := [some (.ref (b + 131)), none, some (.int l2), some (.int l3), some (.int l4), some (.int l5), some (.int (l6 + nI 1))]) dX4_worthOf_48 rfl (ic_k _ (by decide)) (by decide) rfl ?_
       refine jg_goto (tgt := 18) dX4_worthOf_51 (by decide) ?_
       refine jg_fg (L' := [some (.ref (b + 131)), none, some (.int l2), some (.int l3), some (.int l4), some (.int l5), some (.int (l6 + nI 1))]) (by repeat (first | exact trivial | refine ⟨rfl, ?_⟩ | show jg_le _ _)) ?_
       exact ih l3 (l6 + nI 1) h
     · replace h := it_t c3 h
       refine jg_iload_n dX4_worthOf_38 rfl ?_
       refine jg_aload_n dX4_worthOf_39 rfl ?_
       refine cs_get (s := s) (w := .ref (b + 133)) fl_X4_15 dX4_worthOf_40 (hB.ob 131 (by decide) rfl) rfl ?_
       refine jg_iload dX4_worthOf_43 rfl ?_
       obtain ⟨q4, h⟩ := gd_some h
       refine cs_lda (s := s) (q := (b + 133)) (i := l6) dX4_worthOf_45 (hB.ar 133 (by decide) rfl) q4 ?_
       refine jg_iadd (x := l3) (y := (cg s (b + 133) l6)) dX4_worthOf_46  ?_
       refine jg_istore_n (L' := [some (.ref (b + 131)), none, some (.int l2), some (.int (l3 + (cg s (b + 133) l6))), some (.int l4), some (.int l5), some (.int l6)]) dX4_worthOf_47 (by decide) rfl ?_
       refine jg_iinc (x := l6) (v := l6 + nI 1) (L' := [some (.ref (b + 131)), none, some (.int l2), some (.int (l3 + (cg s (b + 133) l6))), some (.int l4), some (.int l5), some (.int (l6 + nI 1))]) dX4_worthOf_48 rfl (ic_k _ (by decide)) (by decide) rfl ?_
       refine jg_goto (tgt := 18) dX4_worthOf_51 (by decide) ?_
       refine jg_fg (L' := [some (.ref (b + 131)), none, some (.int l2), some (.int (l3 + (cg s (b + 133) l6))), some (.int l4), some (.int l5), some (.int (l6 + nI 1))]) (by repeat (first | exact trivial | refine ⟨rfl, ?_⟩ | show jg_le _ _)) ?_
       exact ih (l3 + (cg s (b + 133) l6)) (l6 + nI 1) h
noncomputable def o_X4_worthOf_57 (F : Nat) (τ : cT) (n : Nat) (b : Nat) (l2 : Int32) (l5 : Int32) (s : cS) : Nat → Int32 → Int32 → Int32 → Option (Int32 × Int32)
  | 0, _, _, _ => none
  | f + 1, l3, l4, l6 => if (s.1 (b + 131) 3) ≤ l6 then (some (l3, l4)) else (if ((l2 >>> (l6 &&& 31)) &&& (nI 1)) = (nI 1) then (if iL l6 6 then (if (cg s (b + 134) l6) = l5 then (if l3 < (cg s (b + 132) l6) then (o_X4_worthOf_57 F τ n b l2 l5 s f l3 l4 (l6 + nI 1)) else (o_X4_worthOf_57 F τ n b l2 l5 s f (l3 - (cg s (b + 132) l6)) (l4 ||| ((nI 1) <<< (l6 &&& 31))) (l6 + nI 1))) else (o_X4_worthOf_57 F τ n b l2 l5 s f l3 l4 (l6 + nI 1))) else none) else (o_X4_worthOf_57 F τ n b l2 l5 s f l3 l4 (l6 + nI 1)))
set_option maxHeartbeats 4000000 in
theorem t_X4_worthOf_57 {Γ : jg_G} {g : Nat → jg_C} (F : Nat) (τ : cT) (n : Nat) (b : Nat) (l2 : Int32) (l5 : Int32) (s : cS) (hB : Bd τ n b) (Q : jg_Q) {x : Int32 × Int32} (K1 : jg Γ mX4_worthOf 0 0 0 124 [some (.ref (b + 131)), none, some (.int l2), some (.int x.1), some (.int x.2), some (.int l5), none] [] (ct_h g τ s, n) Q)  : ∀ (f : Nat) (l3 : Int32) (l4 : Int32) (l6 : Int32), o_X4_worthOf_57 F τ n b l2 l5 s f l3 l4 l6 = some x → jg Γ mX4_worthOf 0 0 0 57 [some (.ref (b + 131)), none, some (.int l2), some (.int l3), some (.int l4), some (.int l5), some (.int l6)] [] (ct_h g τ s, n) Q := by
  intro f
  induction f with
  | zero => intro l3 l4 l6 h; rw [o_X4_worthOf_57] at h; cases h
  | succ f ih =>
   intro l3 l4 l6 h
   rw [o_X4_worthOf_57] at h
   refine jg_iload dX4_worthOf_57 rfl ?_
   refine jg_aload_n dX4_worthOf_59 rfl ?_
   refine cs_get (s := s) (w := .int (s.1 (b + 131) 3)) fl_X4_48 dX4_worthOf_60 (hB.ob 131 (by decide) rfl) rfl ?_
   refine jg_icmp_ge (x := l6) (y := (s.1 (b + 131) 3)) (tgt := 124) dX4_worthOf_63 (by decide) (fun c6 => ?_) (fun c6 => ?_)
   · replace h := it_t c6 h
     refine jg_fg (L' := [some (.ref (b + 131)), none, some (.int l2), some (.int l3), some (.int l4), some (.int l5), none]) (by repeat (first | exact trivial | refine ⟨rfl, ?_⟩ | show jg_le _ _)) ?_
     obtain rfl := Option.some.inj h
     exact K1
   · replace h := it_f c6 h
     refine jg_iload_n dX4_worthOf_66 rfl ?_
     refine jg_iload dX4_worthOf_67 rfl ?_
     refine jg_ishr (x := l2) (y := l6) dX4_worthOf_69  ?_
     refine jg_iconst (v := nI 1) dX4_worthOf_70 (by decide) ?_
     refine jg_iand (x := (l2 >>> (l6 &&& 31))) (y := (nI 1)) dX4_worthOf_71  ?_
     refine jg_iconst (v := nI 1) dX4_worthOf_72 (by decide) ?_
     refine jg_icmp_ne (x := ((l2 >>> (l6 &&& 31)) &&& (nI 1))) (y := (nI 1)) (tgt := 118) dX4_worthOf_73 (by decide) (fun c7 => ?_) (fun c7 => ?_)
     · replace h := it_f c7 h
       refine jg_iinc (x := l6) (v := l6 + nI 1) (L' := [some (.ref (b + 131)), none, some (.int l2), some (.int l3), some (.int l4), some (.int l5), some (.int (l6 + nI 1))]) dX4_worthOf_118 rfl (ic_k _ (by decide)) (by decide) rfl ?_
       refine jg_goto (tgt := 57) dX4_worthOf_121 (by decide) ?_
       refine jg_fg (L' := [some (.ref (b + 131)), none, some (.int l2), some (.int l3), some (.int l4), some (.int l5), some (.int (l6 + nI 1))]) (by repeat (first | exact trivial | refine ⟨rfl, ?_⟩ | show jg_le _ _)) ?_
       exact ih l3 l4 (l6 + nI 1) h
     · replace h := it_t c7 h
       refine jg_aload_n dX4_worthOf_76 rfl ?_
       refine cs_get (s := s) (w := .ref (b + 134)) fl_X4_18 dX4_worthOf_77 (hB.ob 131 (by decide) rfl) rfl ?_
       refine jg_iload dX4_worthOf_80 rfl ?_
       obtain ⟨q8, h⟩ := gd_some h
       refine cs_lda (s := s) (q := (b + 134)) (i := l6) dX4_worthOf_82 (hB.ar 134 (by decide) rfl) q8 ?_
       refine jg_iload dX4_worthOf_83 rfl ?_
       refine jg_icmp_ne (x := (cg s (b + 134) l6)) (y := l5) (tgt := 118) dX4_worthOf_85 (by decide) (fun c9 => ?_) (fun c9 => ?_)
       · replace h := it_f c9 h
         refine jg_iinc (x := l6) (v := l6 + nI 1) (L' := [some (.ref (b + 131)), none, some (.int l2), some (.int l3), some (.int l4), some (.int l5), some (.int (l6 + nI 1))]) dX4_worthOf_118 rfl (ic_k _ (by decide)) (by decide) rfl ?_
         refine jg_goto (tgt := 57) dX4_worthOf_121 (by decide) ?_
         refine jg_fg (L' := [some (.ref (b + 131)), none, some (.int l2), some (.int l3), some (.int l4), some (.int l5), some (.int (l6 + nI 1))]) (by repeat (first | exact trivial | refine ⟨rfl, ?_⟩ | show jg_le _ _)) ?_
         exact ih l3 l4 (l6 + nI 1) h
       · replace h := it_t c9 h
         refine jg_aload_n dX4_worthOf_88 rfl ?_
         refine cs_get (s := s) (w := .ref (b + 132)) fl_X4_9 dX4_worthOf_89 (hB.ob 131 (by decide) rfl) rfl ?_
         refine jg_iload dX4_worthOf_92 rfl ?_
         refine cs_lda (s := s) (q := (b + 132)) (i := l6) dX4_worthOf_94 (hB.ar 132 (by decide) rfl) q8 ?_
         refine jg_iload_n dX4_worthOf_95 rfl ?_
         refine jg_icmp_gt (x := (cg s (b + 132) l6)) (y := l3) (tgt := 118) dX4_worthOf_96 (by decide) (fun c10 => ?_) (fun c10 => ?_)
         · replace h := it_t c10 h
           refine jg_iinc (x := l6) (v := l6 + nI 1) (L' := [some (.ref (b + 131)), none, some (.int l2), some (.int l3), some (.int l4), some (.int l5), some (.int (l6 + nI 1))]) dX4_worthOf_118 rfl (ic_k _ (by decide)) (by decide) rfl ?_
           refine jg_goto (tgt := 57) dX4_worthOf_121 (by decide) ?_
           refine jg_fg (L' := [some (.ref (b + 131)), none, some (.int l2), some (.int l3), some (.int l4), some (.int l5), some (.int (l6 + nI 1))]) (by repeat (first | exact trivial | refine ⟨rfl, ?_⟩ | show jg_le _ _)) ?_
           exact ih l3 l4 (l6 + nI 1) h
         · replace h := it_f c10 h
           refine jg_iload_n dX4_worthOf_99 rfl ?_
           refine jg_aload_n dX4_worthOf_100 rfl ?_
           refine cs_get (s := s) (w := .ref (b + 132)) fl_X4_9 dX4_worthOf_101 (hB.ob 131 (by decide) rfl) rfl ?_
           refine jg_iload dX4_worthOf_104 rfl ?_
           refine cs_lda (s := s) (q := (b + 132)) (i := l6) dX4_worthOf_106 (hB.ar 132 (by decide) rfl) q8 ?_
           refine jg_isub (x := l3) (y := (cg s (b + 132) l6)) dX4_worthOf_107  ?_
           refine jg_istore_n (L' := [some (.ref (b + 131)), none, some (.int l2), some (.int (l3 - (cg s (b + 132) l6))), some (.int l4), some (.int l5), some (.int l6)]) dX4_worthOf_108 (by decide) rfl ?_
           refine jg_iload dX4_worthOf_109 rfl ?_
           refine jg_iconst (v := nI 1) dX4_worthOf_111 (by decide) ?_
           refine jg_iload dX4_worthOf_112 rfl ?_
           refine jg_ishl (x := (nI 1)) (y := l6) dX4_worthOf_114  ?_
           refine jg_ior (x := l4) (y := ((nI 1) <<< (l6 &&& 31))) dX4_worthOf_115  ?_
           refine jg_istore (L' := [some (.ref (b + 131)), none, some (.int l2), some (.int (l3 - (cg s (b + 132) l6))), some (.int (l4 ||| ((nI 1) <<< (l6 &&& 31)))), some (.int l5), some (.int l6)]) dX4_worthOf_116 (by decide) rfl ?_
           refine jg_iinc (x := l6) (v := l6 + nI 1) (L' := [some (.ref (b + 131)), none, some (.int l2), some (.int (l3 - (cg s (b + 132) l6))), some (.int (l4 ||| ((nI 1) <<< (l6 &&& 31)))), some (.int l5), some (.int (l6 + nI 1))]) dX4_worthOf_118 rfl (ic_k _ (by decide)) (by decide) rfl ?_
           refine jg_goto (tgt := 57) dX4_worthOf_121 (by decide) ?_
           refine jg_fg (L' := [some (.ref (b + 131)), none, some (.int l2), some (.int (l3 - (cg s (b + 132) l6))), some (.int (l4 ||| ((nI 1) <<< (l6 &&& 31)))), some (.int l5), some (.int (l6 + nI 1))]) (by repeat (first | exact trivial | refine ⟨rfl, ?_⟩ | show jg_le _ _)) ?_
           exact ih (l3 - (cg s (b + 132) l6)) (l4 ||| ((nI 1) <<< (l6 &&& 31))) (l6 + nI 1) h
noncomputable def o_X4_worthOf_8 (F : Nat) (τ : cT) (n : Nat) (b : Nat) (l2 : Int32) (s : cS) : Nat → Int32 → Int32 → Int32 → Option (Int32)
  | 0, _, _, _ => none
  | f + 1, l3, l4, l5 => if (nI 30) ≤ l5 then (some l3) else ((o_X4_worthOf_18 F τ n b l2 l4 l5 s F l3 (nI 0)).bind fun x5 => ((o_X4_worthOf_57 F τ n b l2 l5 s F x5 l4 (nI 0)).bind fun x11 => (o_X4_worthOf_8 F τ n b l2 s f x11.1 x11.2 (l5 + nI 1))))
set_option maxHeartbeats 4000000 in
theorem t_X4_worthOf_8 {Γ : jg_G} {g : Nat → jg_C} (F : Nat) (τ : cT) (n : Nat) (b : Nat) (l2 : Int32) (s : cS) (hB : Bd τ n b) (Q : jg_Q) {x : Int32} (K1 : jg Γ mX4_worthOf 0 0 0 130 [none, none, none, some (.int x), none, none, none] [] (ct_h g τ s, n) Q)  : ∀ (f : Nat) (l3 : Int32) (l4 : Int32) (l5 : Int32), o_X4_worthOf_8 F τ n b l2 s f l3 l4 l5 = some x → jg Γ mX4_worthOf 0 0 0 8 [some (.ref (b + 131)), none, some (.int l2), some (.int l3), some (.int l4), some (.int l5), none] [] (ct_h g τ s, n) Q := by
  intro f
  induction f with
  | zero => intro l3 l4 l5 h; rw [o_X4_worthOf_8] at h; cases h
  | succ f ih =>
   intro l3 l4 l5 h
   rw [o_X4_worthOf_8] at h
   refine jg_iload dX4_worthOf_8 rfl ?_
   refine jg_bipush (v := nI 30) dX4_worthOf_10 (by decide) ?_
   refine jg_icmp_ge (x := l5) (y := (nI 30)) (tgt := 130) dX4_worthOf_12 (by decide) (fun c1 => ?_) (fun c1 => ?_)
   · replace h := it_t c1 h
     refine jg_fg (L' := [none, none, none, some (.int l3), none, none, none]) (by repeat (first | exact trivial | refine ⟨rfl, ?_⟩ | show jg_le _ _)) ?_
     obtain rfl := Option.some.inj h
     exact K1
   · replace h := it_f c1 h
     refine jg_iconst (v := nI 0) dX4_worthOf_15 (by decide) ?_
     refine jg_istore (L' := [some (.ref (b + 131)), none, some (.int l2), some (.int l3), some (.int l4), some (.int l5), some (.int (nI 0))]) dX4_worthOf_16 (by decide) rfl ?_
     obtain ⟨x5, e_x5, h⟩ := bd_some h
     refine jg_fg (L' := [some (.ref (b + 131)), none, some (.int l2), some (.int l3), some (.int l4), some (.int l5), some (.int (nI 0))]) (by repeat (first | exact trivial | refine ⟨rfl, ?_⟩ | show jg_le _ _)) ?_
     refine t_X4_worthOf_18  F τ n b l2 l4 l5 s hB _ (x := x5) ?_ F l3 (nI 0) e_x5
     refine jg_iconst (v := nI 0) dX4_worthOf_54 (by decide) ?_
     refine jg_istore (L' := [some (.ref (b + 131)), none, some (.int l2), some (.int x5), some (.int l4), some (.int l5), some (.int (nI 0))]) dX4_worthOf_55 (by decide) rfl ?_
     obtain ⟨x11, e_x11, h⟩ := bd_some h
     refine jg_fg (L' := [some (.ref (b + 131)), none, some (.int l2), some (.int x5), some (.int l4), some (.int l5), some (.int (nI 0))]) (by repeat (first | exact trivial | refine ⟨rfl, ?_⟩ | show jg_le _ _)) ?_
     refine t_X4_worthOf_57  F τ n b l2 l5 s hB _ (x := x11) ?_ F x5 l4 (nI 0) e_x11
     refine jg_iinc (x := l5) (v := l5 + nI 1) (L' := [some (.ref (b + 131)), none, some (.int l2), some (.int x11.1), some (.int x11.2), some (.int (l5 + nI 1)), none]) dX4_worthOf_124 rfl (ic_k _ (by decide)) (by decide) rfl ?_
     refine jg_goto (tgt := 8) dX4_worthOf_127 (by decide) ?_
     refine jg_fg (L' := [some (.ref (b + 131)), none, some (.int l2), some (.int x11.1), some (.int x11.2), some (.int (l5 + nI 1)), none]) (by repeat (first | exact trivial | refine ⟨rfl, ?_⟩ | show jg_le _ _)) ?_
     exact ih x11.1 x11.2 (l5 + nI 1) h
noncomputable def o_X4_worthOf (F : Nat) (τ : cT) (n : Nat) (b : Nat) (s : cS) (a1 : Int32) (a2 : Int32) : Option (Int32) := (o_X4_worthOf_8 F τ n b a2 s F a1 (nI 0) (nI 0)).bind fun x12 => (some x12)
set_option maxHeartbeats 4000000 in
theorem t_X4_worthOf {Γ : jg_G} {g : Nat → jg_C} (F : Nat) (τ : cT) (n : Nat) (b : Nat) (s : cS) (a1 : Int32) (a2 : Int32) (hB : Bd τ n b) {x : Int32} (h : o_X4_worthOf F τ n b s a1 a2 = some x) : jc Γ mX4_worthOf 0 0 0 [some (.ref (b + 131)), some (.int a1), some (.int a2), none, none, none, none] (ct_h g τ s, n) (.inl (some (.int x))) (ct_h g τ s, n) := by
  refine jc_of ?_
  rw [o_X4_worthOf] at h
  refine jg_iload_n dX4_worthOf_0 rfl ?_
  refine jg_istore_n (L' := [some (.ref (b + 131)), some (.int a1), some (.int a2), some (.int a1), none, none, none]) dX4_worthOf_1 (by decide) rfl ?_
  refine jg_iconst (v := nI 0) dX4_worthOf_2 (by decide) ?_
  refine jg_istore (L' := [some (.ref (b + 131)), some (.int a1), some (.int a2), some (.int a1), some (.int (nI 0)), none, none]) dX4_worthOf_3 (by decide) rfl ?_
  refine jg_iconst (v := nI 0) dX4_worthOf_5 (by decide) ?_
  refine jg_istore (L' := [some (.ref (b + 131)), some (.int a1), some (.int a2), some (.int a1), some (.int (nI 0)), some (.int (nI 0)), none]) dX4_worthOf_6 (by decide) rfl ?_
  obtain ⟨x12, e_x12, h⟩ := bd_some h
  refine jg_fg (L' := [some (.ref (b + 131)), none, some (.int a2), some (.int a1), some (.int (nI 0)), some (.int (nI 0)), none]) (by repeat (first | exact trivial | refine ⟨rfl, ?_⟩ | show jg_le _ _)) ?_
  refine t_X4_worthOf_8  F τ n b a2 s hB _ (x := x12) ?_ F a1 (nI 0) (nI 0) e_x12
  refine jg_iload_n dX4_worthOf_130 rfl ?_
  obtain rfl := Option.some.inj h
  exact jg_ireturn dX4_worthOf_131 rfl ⟨rfl, rfl⟩
theorem dX4_bestSet_0 : decode cX4_bestSet 0 = .ok (.iconst 0, 1) := by decide +kernel
theorem dX4_bestSet_1 : decode cX4_bestSet 1 = .ok (.istore_n 2, 1) := by decide +kernel
theorem dX4_bestSet_2 : decode cX4_bestSet 2 = .ok (.aload_n 0, 1) := by decide +kernel
theorem dX4_bestSet_3 : decode cX4_bestSet 3 = .ok (.iload_n 1, 1) := by decide +kernel
theorem dX4_bestSet_4 : decode cX4_bestSet 4 = .ok (.iconst 0, 1) := by decide +kernel
theorem dX4_bestSet_5 : decode cX4_bestSet 5 = .ok (.invokevirtual 52, 3) := by decide +kernel
theorem dX4_bestSet_8 : decode cX4_bestSet 8 = .ok (.istore_n 3, 1) := by decide +kernel
theorem dX4_bestSet_9 : decode cX4_bestSet 9 = .ok (.iconst 1, 1) := by decide +kernel
theorem dX4_bestSet_10 : decode cX4_bestSet 10 = .ok (.istore 4, 2) := by decide +kernel
theorem dX4_bestSet_12 : decode cX4_bestSet 12 = .ok (.iload 4, 2) := by decide +kernel
theorem dX4_bestSet_14 : decode cX4_bestSet 14 = .ok (.iconst 1, 1) := by decide +kernel
theorem dX4_bestSet_15 : decode cX4_bestSet 15 = .ok (.aload_n 0, 1) := by decide +kernel
theorem dX4_bestSet_16 : decode cX4_bestSet 16 = .ok (.getfield 48, 3) := by decide +kernel
theorem dX4_bestSet_19 : decode cX4_bestSet 19 = .ok (.ishl, 1) := by decide +kernel
theorem dX4_bestSet_20 : decode cX4_bestSet 20 = .ok (.if_icmp .ge 48, 3) := by decide +kernel
theorem dX4_bestSet_23 : decode cX4_bestSet 23 = .ok (.aload_n 0, 1) := by decide +kernel
theorem dX4_bestSet_24 : decode cX4_bestSet 24 = .ok (.iload_n 1, 1) := by decide +kernel
theorem dX4_bestSet_25 : decode cX4_bestSet 25 = .ok (.iload 4, 2) := by decide +kernel
theorem dX4_bestSet_27 : decode cX4_bestSet 27 = .ok (.invokevirtual 52, 3) := by decide +kernel
theorem dX4_bestSet_30 : decode cX4_bestSet 30 = .ok (.istore 5, 2) := by decide +kernel
theorem dX4_bestSet_32 : decode cX4_bestSet 32 = .ok (.iload 5, 2) := by decide +kernel
theorem dX4_bestSet_34 : decode cX4_bestSet 34 = .ok (.iload_n 3, 1) := by decide +kernel
theorem dX4_bestSet_35 : decode cX4_bestSet 35 = .ok (.if_icmp .gt 21, 3) := by decide +kernel
theorem dX4_bestSet_38 : decode cX4_bestSet 38 = .ok (.iload 5, 2) := by decide +kernel
theorem dX4_bestSet_40 : decode cX4_bestSet 40 = .ok (.iload_n 3, 1) := by decide +kernel
theorem dX4_bestSet_41 : decode cX4_bestSet 41 = .ok (.if_icmp .ne 21, 3) := by decide +kernel
theorem dX4_bestSet_44 : decode cX4_bestSet 44 = .ok (.iload 4, 2) := by decide +kernel
theorem dX4_bestSet_46 : decode cX4_bestSet 46 = .ok (.invokestatic 56, 3) := by decide +kernel
theorem dX4_bestSet_49 : decode cX4_bestSet 49 = .ok (.iload_n 2, 1) := by decide +kernel
theorem dX4_bestSet_50 : decode cX4_bestSet 50 = .ok (.invokestatic 56, 3) := by decide +kernel
theorem dX4_bestSet_53 : decode cX4_bestSet 53 = .ok (.if_icmp .ge 9, 3) := by decide +kernel
theorem dX4_bestSet_56 : decode cX4_bestSet 56 = .ok (.iload 4, 2) := by decide +kernel
theorem dX4_bestSet_58 : decode cX4_bestSet 58 = .ok (.istore_n 2, 1) := by decide +kernel
theorem dX4_bestSet_59 : decode cX4_bestSet 59 = .ok (.iload 5, 2) := by decide +kernel
theorem dX4_bestSet_61 : decode cX4_bestSet 61 = .ok (.istore_n 3, 1) := by decide +kernel
theorem dX4_bestSet_62 : decode cX4_bestSet 62 = .ok (.iinc 4 1, 3) := by decide +kernel
theorem dX4_bestSet_65 : decode cX4_bestSet 65 = .ok (.goto (-53), 3) := by decide +kernel
theorem dX4_bestSet_68 : decode cX4_bestSet 68 = .ok (.iload_n 2, 1) := by decide +kernel
theorem dX4_bestSet_69 : decode cX4_bestSet 69 = .ok (.ireturn, 1) := by decide +kernel
noncomputable def o_X4_bestSet_12 (F : Nat) (τ : cT) (n : Nat) (b : Nat) (l1 : Int32) (s : cS) : Nat → Int32 → Int32 → Int32 → Option (Int32)
  | 0, _, _, _ => none
  | f + 1, l2, l3, l4 => if ((nI 1) <<< ((s.1 (b + 131) 3) &&& 31)) ≤ l4 then (some l2) else ((o_X4_worthOf F τ n b s l1 l4).bind fun x3 => (if l3 < x3 then (o_X4_bestSet_12 F τ n b l1 s f l4 x3 (l4 + nI 1)) else (if x3 = l3 then ((o_bitCount () l4).bind fun x6 => ((o_bitCount () l2).bind fun x7 => (if x7 ≤ x6 then (o_X4_bestSet_12 F τ n b l1 s f l2 l3 (l4 + nI 1)) else (o_X4_bestSet_12 F τ n b l1 s f l4 x3 (l4 + nI 1))))) else (o_X4_bestSet_12 F τ n b l1 s f l2 l3 (l4 + nI 1)))))
set_option maxHeartbeats 4000000 in
theorem t_X4_bestSet_12 {Γ : jg_G} {g : Nat → jg_C} (F : Nat) (τ : cT) (n : Nat) (b : Nat) (l1 : Int32) (s : cS) (hB : Bd τ n b) (Q : jg_Q) {x : Int32} (K1 : jg Γ mX4_bestSet 1 0 0 68 [none, none, some (.int x), none, none, none] [] (ct_h g τ s, n) Q)  : ∀ (f : Nat) (l2 : Int32) (l3 : Int32) (l4 : Int32), o_X4_bestSet_12 F τ n b l1 s f l2 l3 l4 = some x → jg Γ mX4_bestSet 1 0 0 12 [some (.ref (b + 131)), some (.int l1), some (.int l2), some (.int l3), some (.int l4), none] [] (ct_h g τ s, n) Q := by
  intro f
  induction f with
  | zero => intro l2 l3 l4 h; rw [o_X4_bestSet_12] at h; cases h
  | succ f ih =>
   intro l2 l3 l4 h
   rw [o_X4_bestSet_12] at h
   refine jg_iload dX4_bestSet_12 rfl ?_
   refine jg_iconst (v := nI 1) dX4_bestSet_14 (by decide) ?_
   refine jg_aload_n dX4_bestSet_15 rfl ?_
   refine cs_get (s := s) (w := .int (s.1 (b + 131) 3)) fl_X4_48 dX4_bestSet_16 (hB.ob 131 (by decide) rfl) rfl ?_
   refine jg_ishl (x := (nI 1)) (y := (s.1 (b + 131) 3)) dX4_bestSet_19  ?_
   refine jg_icmp_ge (x := l4) (y := ((nI 1) <<< ((s.1 (b + 131) 3) &&& 31))) (tgt := 68) dX4_bestSet_20 (by decide) (fun c2 => ?_) (fun c2 => ?_)
   · replace h := it_t c2 h
     refine jg_fg (L' := [none, none, some (.int l2), none, none, none]) (by repeat (first | exact trivial | refine ⟨rfl, ?_⟩ | show jg_le _ _)) ?_
     obtain rfl := Option.some.inj h
     exact K1
   · replace h := it_f c2 h
     refine jg_aload_n dX4_bestSet_23 rfl ?_
     refine jg_iload_n dX4_bestSet_24 rfl ?_
     refine jg_iload dX4_bestSet_25 rfl ?_
     obtain ⟨x3, e_x3, h⟩ := bd_some h
     refine cs_call (q := (b + 131)) (As := [.int l1, .int l4]) kv_X4_52 dX4_bestSet_27 (hB.ob 131 (by decide) rfl) rfl rfl (by decide) (Nat.le_of_ble_eq_true rfl) rfl (by decide) (Nat.le_of_ble_eq_true rfl) (t_X4_worthOf F τ n b s l1 l4 hB e_x3) ?_
     refine jg_istore (L' := [some (.ref (b + 131)), some (.int l1), some (.int l2), some (.int l3), some (.int l4), some (.int x3)]) dX4_bestSet_30 (by decide) rfl ?_
     refine jg_iload dX4_bestSet_32 rfl ?_
     refine jg_iload_n dX4_bestSet_34 rfl ?_
     refine jg_icmp_gt (x := x3) (y := l3) (tgt := 56) dX4_bestSet_35 (by decide) (fun c4 => ?_) (fun c4 => ?_)
     · replace h := it_t c4 h
       refine jg_iload dX4_bestSet_56 rfl ?_
       refine jg_istore_n (L' := [some (.ref (b + 131)), some (.int l1), some (.int l4), some (.int l3), some (.int l4), some (.int x3)]) dX4_bestSet_58 (by decide) rfl ?_
       refine jg_iload dX4_bestSet_59 rfl ?_
       refine jg_istore_n (L' := [some (.ref (b + 131)), some (.int l1), some (.int l4), some (.int x3), some (.int l4), some (.int x3)]) dX4_bestSet_61 (by decide) rfl ?_
       refine jg_iinc (x := l4) (v := l4 + nI 1) (L' := [some (.ref (b + 131)), some (.int l1), some (.int l4), some (.int x3), some (.int (l4 + nI 1)), some (.int x3)]) dX4_bestSet_62 rfl (ic_k _ (by decide)) (by decide) rfl ?_
       refine jg_goto (tgt := 12) dX4_bestSet_65 (by decide) ?_
       refine jg_fg (L' := [some (.ref (b + 131)), some (.int l1), some (.int l4), some (.int x3), some (.int (l4 + nI 1)), none]) (by repeat (first | exact trivial | refine ⟨rfl, ?_⟩ | show jg_le _ _)) ?_
       exact ih l4 x3 (l4 + nI 1) h
     · replace h := it_f c4 h
       refine jg_iload dX4_bestSet_38 rfl ?_
       refine jg_iload_n dX4_bestSet_40 rfl ?_
       refine jg_icmp_ne (x := x3) (y := l3) (tgt := 62) dX4_bestSet_41 (by decide) (fun c5 => ?_) (fun c5 => ?_)
       · replace h := it_f c5 h
         refine jg_iinc (x := l4) (v := l4 + nI 1) (L' := [some (.ref (b + 131)), some (.int l1), some (.int l2), some (.int l3), some (.int (l4 + nI 1)), some (.int x3)]) dX4_bestSet_62 rfl (ic_k _ (by decide)) (by decide) rfl ?_
         refine jg_goto (tgt := 12) dX4_bestSet_65 (by decide) ?_
         refine jg_fg (L' := [some (.ref (b + 131)), some (.int l1), some (.int l2), some (.int l3), some (.int (l4 + nI 1)), none]) (by repeat (first | exact trivial | refine ⟨rfl, ?_⟩ | show jg_le _ _)) ?_
         exact ih l2 l3 (l4 + nI 1) h
       · replace h := it_t c5 h
         refine jg_iload dX4_bestSet_44 rfl ?_
         obtain ⟨x6, e_x6, h⟩ := bd_some h
         refine jcs0 (As := [.int l4]) ks_X4_56 dX4_bestSet_46 rfl (by decide) (Nat.le_of_ble_eq_true rfl) rfl (by decide) (Nat.le_of_ble_eq_true rfl) (t_bitCount () l4 e_x6) ?_
         refine jg_iload_n dX4_bestSet_49 rfl ?_
         obtain ⟨x7, e_x7, h⟩ := bd_some h
         refine jcs0 (As := [.int l2]) ks_X4_56 dX4_bestSet_50 rfl (by decide) (Nat.le_of_ble_eq_true rfl) rfl (by decide) (Nat.le_of_ble_eq_true rfl) (t_bitCount () l2 e_x7) ?_
         refine jg_icmp_ge (x := x6) (y := x7) (tgt := 62) dX4_bestSet_53 (by decide) (fun c8 => ?_) (fun c8 => ?_)
         · replace h := it_t c8 h
           refine jg_iinc (x := l4) (v := l4 + nI 1) (L' := [some (.ref (b + 131)), some (.int l1), some (.int l2), some (.int l3), some (.int (l4 + nI 1)), some (.int x3)]) dX4_bestSet_62 rfl (ic_k _ (by decide)) (by decide) rfl ?_
           refine jg_goto (tgt := 12) dX4_bestSet_65 (by decide) ?_
           refine jg_fg (L' := [some (.ref (b + 131)), some (.int l1), some (.int l2), some (.int l3), some (.int (l4 + nI 1)), none]) (by repeat (first | exact trivial | refine ⟨rfl, ?_⟩ | show jg_le _ _)) ?_
           exact ih l2 l3 (l4 + nI 1) h
         · replace h := it_f c8 h
           refine jg_iload dX4_bestSet_56 rfl ?_
           refine jg_istore_n (L' := [some (.ref (b + 131)), some (.int l1), some (.int l4), some (.int l3), some (.int l4), some (.int x3)]) dX4_bestSet_58 (by decide) rfl ?_
           refine jg_iload dX4_bestSet_59 rfl ?_
           refine jg_istore_n (L' := [some (.ref (b + 131)), some (.int l1), some (.int l4), some (.int x3), some (.int l4), some (.int x3)]) dX4_bestSet_61 (by decide) rfl ?_
           refine jg_iinc (x := l4) (v := l4 + nI 1) (L' := [some (.ref (b + 131)), some (.int l1), some (.int l4), some (.int x3), some (.int (l4 + nI 1)), some (.int x3)]) dX4_bestSet_62 rfl (ic_k _ (by decide)) (by decide) rfl ?_
           refine jg_goto (tgt := 12) dX4_bestSet_65 (by decide) ?_
           refine jg_fg (L' := [some (.ref (b + 131)), some (.int l1), some (.int l4), some (.int x3), some (.int (l4 + nI 1)), none]) (by repeat (first | exact trivial | refine ⟨rfl, ?_⟩ | show jg_le _ _)) ?_
           exact ih l4 x3 (l4 + nI 1) h
noncomputable def o_X4_bestSet (F : Nat) (τ : cT) (n : Nat) (b : Nat) (s : cS) (a1 : Int32) : Option (Int32) := (o_X4_worthOf F τ n b s a1 (nI 0)).bind fun x1 => ((o_X4_bestSet_12 F τ n b a1 s F (nI 0) x1 (nI 1)).bind fun x9 => (some x9))
set_option maxHeartbeats 4000000 in
theorem t_X4_bestSet {Γ : jg_G} {g : Nat → jg_C} (F : Nat) (τ : cT) (n : Nat) (b : Nat) (s : cS) (a1 : Int32) (hB : Bd τ n b) {x : Int32} (h : o_X4_bestSet F τ n b s a1 = some x) : jc Γ mX4_bestSet 1 0 0 [some (.ref (b + 131)), some (.int a1), none, none, none, none] (ct_h g τ s, n) (.inl (some (.int x))) (ct_h g τ s, n) := by
  refine jc_of ?_
  rw [o_X4_bestSet] at h
  refine jg_iconst (v := nI 0) dX4_bestSet_0 (by decide) ?_
  refine jg_istore_n (L' := [some (.ref (b + 131)), some (.int a1), some (.int (nI 0)), none, none, none]) dX4_bestSet_1 (by decide) rfl ?_
  refine jg_aload_n dX4_bestSet_2 rfl ?_
  refine jg_iload_n dX4_bestSet_3 rfl ?_
  refine jg_iconst (v := nI 0) dX4_bestSet_4 (by decide) ?_
  obtain ⟨x1, e_x1, h⟩ := bd_some h
  refine cs_call (q := (b + 131)) (As := [.int a1, .int (nI 0)]) kv_X4_52 dX4_bestSet_5 (hB.ob 131 (by decide) rfl) rfl rfl (by decide) (Nat.le_of_ble_eq_true rfl) rfl (by decide) (Nat.le_of_ble_eq_true rfl) (t_X4_worthOf F τ n b s a1 (nI 0) hB e_x1) ?_
  refine jg_istore_n (L' := [some (.ref (b + 131)), some (.int a1), some (.int (nI 0)), some (.int x1), none, none]) dX4_bestSet_8 (by decide) rfl ?_
  refine jg_iconst (v := nI 1) dX4_bestSet_9 (by decide) ?_
  refine jg_istore (L' := [some (.ref (b + 131)), some (.int a1), some (.int (nI 0)), some (.int x1), some (.int (nI 1)), none]) dX4_bestSet_10 (by decide) rfl ?_
  obtain ⟨x9, e_x9, h⟩ := bd_some h
  refine jg_fg (L' := [some (.ref (b + 131)), some (.int a1), some (.int (nI 0)), some (.int x1), some (.int (nI 1)), none]) (by repeat (first | exact trivial | refine ⟨rfl, ?_⟩ | show jg_le _ _)) ?_
  refine t_X4_bestSet_12  F τ n b a1 s hB _ (x := x9) ?_ F (nI 0) x1 (nI 1) e_x9
  refine jg_iload_n dX4_bestSet_68 rfl ?_
  obtain rfl := Option.some.inj h
  exact jg_ireturn dX4_bestSet_69 rfl ⟨rfl, rfl⟩
theorem dX2_underAnother_0 : decode cX2_underAnother 0 = .ok (.lconst 0, 1) := by decide +kernel
theorem dX2_underAnother_1 : decode cX2_underAnother 1 = .ok (.lstore 4, 2) := by decide +kernel
theorem dX2_underAnother_3 : decode cX2_underAnother 3 = .ok (.iconst 0, 1) := by decide +kernel
theorem dX2_underAnother_4 : decode cX2_underAnother 4 = .ok (.istore 6, 2) := by decide +kernel
theorem dX2_underAnother_6 : decode cX2_underAnother 6 = .ok (.iconst 0, 1) := by decide +kernel
theorem dX2_underAnother_7 : decode cX2_underAnother 7 = .ok (.istore 7, 2) := by decide +kernel
theorem dX2_underAnother_9 : decode cX2_underAnother 9 = .ok (.iload 7, 2) := by decide +kernel
theorem dX2_underAnother_11 : decode cX2_underAnother 11 = .ok (.aload_n 0, 1) := by decide +kernel
theorem dX2_underAnother_12 : decode cX2_underAnother 12 = .ok (.getfield 45, 3) := by decide +kernel
theorem dX2_underAnother_15 : decode cX2_underAnother 15 = .ok (.getfield 156, 3) := by decide +kernel
theorem dX2_underAnother_18 : decode cX2_underAnother 18 = .ok (.if_icmp .ge 82, 3) := by decide +kernel
theorem dX2_underAnother_21 : decode cX2_underAnother 21 = .ok (.aload_n 0, 1) := by decide +kernel
theorem dX2_underAnother_22 : decode cX2_underAnother 22 = .ok (.getfield 45, 3) := by decide +kernel
theorem dX2_underAnother_25 : decode cX2_underAnother 25 = .ok (.getfield 159, 3) := by decide +kernel
theorem dX2_underAnother_28 : decode cX2_underAnother 28 = .ok (.iload 7, 2) := by decide +kernel
theorem dX2_underAnother_30 : decode cX2_underAnother 30 = .ok (.aaload, 1) := by decide +kernel
theorem dX2_underAnother_31 : decode cX2_underAnother 31 = .ok (.astore 8, 2) := by decide +kernel
theorem dX2_underAnother_33 : decode cX2_underAnother 33 = .ok (.aload 8, 2) := by decide +kernel
theorem dX2_underAnother_35 : decode cX2_underAnother 35 = .ok (.getfield 163, 3) := by decide +kernel
theorem dX2_underAnother_38 : decode cX2_underAnother 38 = .ok (.iconst 4, 1) := by decide +kernel
theorem dX2_underAnother_39 : decode cX2_underAnother 39 = .ok (.if_icmp .ne 55, 3) := by decide +kernel
theorem dX2_underAnother_42 : decode cX2_underAnother 42 = .ok (.aload 8, 2) := by decide +kernel
theorem dX2_underAnother_44 : decode cX2_underAnother 44 = .ok (.getfield 209, 3) := by decide +kernel
theorem dX2_underAnother_47 : decode cX2_underAnother 47 = .ok (.sipush 2400, 3) := by decide +kernel
theorem dX2_underAnother_50 : decode cX2_underAnother 50 = .ok (.idiv, 1) := by decide +kernel
theorem dX2_underAnother_51 : decode cX2_underAnother 51 = .ok (.iload_n 2, 1) := by decide +kernel
theorem dX2_underAnother_52 : decode cX2_underAnother 52 = .ok (.if_icmp .ne 42, 3) := by decide +kernel
theorem dX2_underAnother_55 : decode cX2_underAnother 55 = .ok (.aload_n 0, 1) := by decide +kernel
theorem dX2_underAnother_56 : decode cX2_underAnother 56 = .ok (.aload_n 1, 1) := by decide +kernel
theorem dX2_underAnother_57 : decode cX2_underAnother 57 = .ok (.aload 8, 2) := by decide +kernel
theorem dX2_underAnother_59 : decode cX2_underAnother 59 = .ok (.aload_n 0, 1) := by decide +kernel
theorem dX2_underAnother_60 : decode cX2_underAnother 60 = .ok (.aload 8, 2) := by decide +kernel
theorem dX2_underAnother_62 : decode cX2_underAnother 62 = .ok (.invokevirtual 198, 3) := by decide +kernel
theorem dX2_underAnother_65 : decode cX2_underAnother 65 = .ok (.invokevirtual 202, 3) := by decide +kernel
theorem dX2_underAnother_68 : decode cX2_underAnother 68 = .ok (.istore 9, 2) := by decide +kernel
theorem dX2_underAnother_70 : decode cX2_underAnother 70 = .ok (.iload 9, 2) := by decide +kernel
theorem dX2_underAnother_72 : decode cX2_underAnother 72 = .ok (.aload 8, 2) := by decide +kernel
theorem dX2_underAnother_74 : decode cX2_underAnother 74 = .ok (.getfield 335, 3) := by decide +kernel
theorem dX2_underAnother_77 : decode cX2_underAnother 77 = .ok (.if_icmp .le 9, 3) := by decide +kernel
theorem dX2_underAnother_80 : decode cX2_underAnother 80 = .ok (.iinc 6 1, 3) := by decide +kernel
theorem dX2_underAnother_83 : decode cX2_underAnother 83 = .ok (.goto 11, 3) := by decide +kernel
theorem dX2_underAnother_86 : decode cX2_underAnother 86 = .ok (.lload 4, 2) := by decide +kernel
theorem dX2_underAnother_88 : decode cX2_underAnother 88 = .ok (.iload 9, 2) := by decide +kernel
theorem dX2_underAnother_90 : decode cX2_underAnother 90 = .ok (.i2l, 1) := by decide +kernel
theorem dX2_underAnother_91 : decode cX2_underAnother 91 = .ok (.ladd, 1) := by decide +kernel
theorem dX2_underAnother_92 : decode cX2_underAnother 92 = .ok (.lstore 4, 2) := by decide +kernel
theorem dX2_underAnother_94 : decode cX2_underAnother 94 = .ok (.iinc 7 1, 3) := by decide +kernel
theorem dX2_underAnother_97 : decode cX2_underAnother 97 = .ok (.goto (-88), 3) := by decide +kernel
theorem dX2_underAnother_100 : decode cX2_underAnother 100 = .ok (.iload_n 3, 1) := by decide +kernel
theorem dX2_underAnother_101 : decode cX2_underAnother 101 = .ok (.ifCond .eq 8, 3) := by decide +kernel
theorem dX2_underAnother_104 : decode cX2_underAnother 104 = .ok (.iload 6, 2) := by decide +kernel
theorem dX2_underAnother_106 : decode cX2_underAnother 106 = .ok (.goto 8, 3) := by decide +kernel
theorem dX2_underAnother_109 : decode cX2_underAnother 109 = .ok (.lload 4, 2) := by decide +kernel
theorem dX2_underAnother_111 : decode cX2_underAnother 111 = .ok (.invokestatic 305, 3) := by decide +kernel
theorem dX2_underAnother_114 : decode cX2_underAnother 114 = .ok (.ireturn, 1) := by decide +kernel
noncomputable def o_X2_underAnother_9 (F : Nat) (τ : cT) (n : Nat) (b : Nat) (a1 : Nat) (l2 : Int32) (l3 : Int32)  : Nat → Int64 → Int32 → Int32 → cS → Option (Int64 × Int32 × cS)
  | 0, _, _, _, _ => none
  | f + 1, l4, l6, l7, s => if (s.1 (b + 27) 3) ≤ l7 then (some (l4, l6, s)) else (if iL l7 80 then (if (s.1 (b + 39 + 1 + l7.toNatClampNeg) 10) = (nI 4) then (if ((s.1 (b + 39 + 1 + l7.toNatClampNeg) 14) / (nI 2400)) = l2 then ((o_X2_stayOf τ n b (b + 39 + 1 + l7.toNatClampNeg) s).bind fun x5 => ((o_X2_dueBy F τ n b a1 (b + 39 + 1 + l7.toNatClampNeg) s x5).bind fun x6 => (if x6.1 ≤ (x6.2.1 (b + 39 + 1 + l7.toNatClampNeg) 7) then (o_X2_underAnother_9 F τ n b a1 l2 l3 f (l4 + x6.1.toInt64) l6 (l7 + nI 1) x6.2) else (o_X2_underAnother_9 F τ n b a1 l2 l3 f l4 (l6 + nI 1) (l7 + nI 1) x6.2)))) else (o_X2_underAnother_9 F τ n b a1 l2 l3 f l4 l6 (l7 + nI 1) s)) else (o_X2_underAnother_9 F τ n b a1 l2 l3 f l4 l6 (l7 + nI 1) s)) else none)
set_option maxHeartbeats 4000000 in
theorem t_X2_underAnother_9 {Γ : jg_G} {g : Nat → jg_C} (F : Nat) (τ : cT) (n : Nat) (b : Nat) (a1 : Nat) (l2 : Int32) (l3 : Int32)  (hB : Bd τ n b) (h1 : acb τ n a1 = true) (Q : jg_Q) {x : Int64 × Int32 × cS} (K1 : jg Γ mX2_underAnother 3 0 0 100 [none, none, none, some (.int l3), some (.long x.1), none, some (.int x.2.1), none, none, none] [] (ct_h g τ x.2.2, n) Q)  : ∀ (f : Nat) (l4 : Int64) (l6 : Int32) (l7 : Int32) (s : cS), o_X2_underAnother_9 F τ n b a1 l2 l3 f l4 l6 l7 s = some x → jg Γ mX2_underAnother 3 0 0 9 [some (.ref b), some (.ref a1), some (.int l2), some (.int l3), some (.long l4), none, some (.int l6), some (.int l7), none, none] [] (ct_h g τ s, n) Q := by
  intro f
  induction f with
  | zero => intro l4 l6 l7 s h; rw [o_X2_underAnother_9] at h; cases h
  | succ f ih =>
   intro l4 l6 l7 s h
   rw [o_X2_underAnother_9] at h
   refine jg_iload dX2_underAnother_9 rfl ?_
   refine jg_aload_n dX2_underAnother_11 rfl ?_
   refine cs_get (s := s) (w := .ref (b + 27)) fl_X2_45 dX2_underAnother_12 hB.ob0 rfl ?_
   refine cs_get (s := s) (w := .int (s.1 (b + 27) 3)) fl_X2_156 dX2_underAnother_15 (hB.ob 27 (by decide) rfl) rfl ?_
   refine jg_icmp_ge (x := l7) (y := (s.1 (b + 27) 3)) (tgt := 100) dX2_underAnother_18 (by decide) (fun c1 => ?_) (fun c1 => ?_)
   · replace h := it_t c1 h
     refine jg_fg (L' := [none, none, none, some (.int l3), some (.long l4), none, some (.int l6), none, none, none]) (by repeat (first | exact trivial | refine ⟨rfl, ?_⟩ | show jg_le _ _)) ?_
     obtain rfl := Option.some.inj h
     exact K1
   · replace h := it_f c1 h
     refine jg_aload_n dX2_underAnother_21 rfl ?_
     refine cs_get (s := s) (w := .ref (b + 27)) fl_X2_45 dX2_underAnother_22 hB.ob0 rfl ?_
     refine cs_get (s := s) (w := .ref (b + 39)) fl_X2_159 dX2_underAnother_25 (hB.ob 27 (by decide) rfl) rfl ?_
     refine jg_iload dX2_underAnother_28 rfl ?_
     obtain ⟨q2, h⟩ := gd_some h
     refine cs_ldr (s := s) (q := (b + 39)) (i := l7) (kd := 6) (by decide) dX2_underAnother_30 (hB.ar 39 (by decide) rfl) q2 ?_
     refine jg_astore (L' := [some (.ref b), some (.ref a1), some (.int l2), some (.int l3), some (.long l4), none, some (.int l6), some (.int l7), some (.ref (b + 39 + 1 + l7.toNatClampNeg)), none]) dX2_underAnother_31 (by decide) rfl ?_
     refine jg_aload dX2_underAnother_33 rfl ?_
     refine cs_get (s := s) (w := .int (s.1 (b + 39 + 1 + l7.toNatClampNeg) 10)) fl_X2_163 dX2_underAnother_35 (hB.ship q2.2) rfl ?_
     refine jg_iconst (v := nI 4) dX2_underAnother_38 (by decide) ?_
     refine jg_icmp_ne (x := (s.1 (b + 39 + 1 + l7.toNatClampNeg) 10)) (y := (nI 4)) (tgt := 94) dX2_underAnother_39 (by decide) (fun c3 => ?_) (fun c3 => ?_)
     · replace h := it_f c3 h
       refine jg_iinc (x := l7) (v := l7 + nI 1) (L' := [some (.ref b), some (.ref a1), some (.int l2), some (.int l3), some (.long l4), none, some (.int l6), some (.int (l7 + nI 1)), some (.ref (b + 39 + 1 + l7.toNatClampNeg)), none]) dX2_underAnother_94 rfl (ic_k _ (by decide)) (by decide) rfl ?_
       refine jg_goto (tgt := 9) dX2_underAnother_97 (by decide) ?_
       refine jg_fg (L' := [some (.ref b), some (.ref a1), some (.int l2), some (.int l3), some (.long l4), none, some (.int l6), some (.int (l7 + nI 1)), none, none]) (by repeat (first | exact trivial | refine ⟨rfl, ?_⟩ | show jg_le _ _)) ?_
       exact ih l4 l6 (l7 + nI 1) s h
     · replace h := it_t c3 h
       refine jg_aload dX2_underAnother_42 rfl ?_
       refine cs_get (s := s) (w := .int (s.1 (b + 39 + 1 + l7.toNatClampNeg) 14)) fl_X2_209 dX2_underAnother_44 (hB.ship q2.2) rfl ?_
       refine jg_sipush (v := nI 2400) dX2_underAnother_47 (by decide) ?_
       refine jg_idiv (x := (s.1 (b + 39 + 1 + l7.toNatClampNeg) 14)) (y := (nI 2400)) dX2_underAnother_50 (by decide) ?_
       refine jg_iload_n dX2_underAnother_51 rfl ?_
       refine jg_icmp_ne (x := ((s.1 (b + 39 + 1 + l7.toNatClampNeg) 14) / (nI 2400))) (y := l2) (tgt := 94) dX2_underAnother_52 (by decide) (fun c4 => ?_) (fun c4 => ?_)
       · replace h := it_f c4 h
         refine jg_iinc (x := l7) (v := l7 + nI 1) (L' := [some (.ref b), some (.ref a1), some (.int l2), some (.int l3), some (.long l4), none, some (.int l6), some (.int (l7 + nI 1)), some (.ref (b + 39 + 1 + l7.toNatClampNeg)), none]) dX2_underAnother_94 rfl (ic_k _ (by decide)) (by decide) rfl ?_
         refine jg_goto (tgt := 9) dX2_underAnother_97 (by decide) ?_
         refine jg_fg (L' := [some (.ref b), some (.ref a1), some (.int l2), some (.int l3), some (.long l4), none, some (.int l6), some (.int (l7 + nI 1)), none, none]) (by repeat (first | exact trivial | refine ⟨rfl, ?_⟩ | show jg_le _ _)) ?_
         exact ih l4 l6 (l7 + nI 1) s h
       · replace h := it_t c4 h
         refine jg_aload_n dX2_underAnother_55 rfl ?_
         refine jg_aload_n dX2_underAnother_56 rfl ?_
         refine jg_aload dX2_underAnother_57 rfl ?_
         refine jg_aload_n dX2_underAnother_59 rfl ?_
         refine jg_aload dX2_underAnother_60 rfl ?_
         obtain ⟨x5, e_x5, h⟩ := bd_some h
         refine cs_call (q := b) (As := [.ref (b + 39 + 1 + l7.toNatClampNeg)]) kv_X2_198 dX2_underAnother_62 hB.ob0 rfl rfl (by decide) (Nat.le_of_ble_eq_true rfl) rfl (by decide) (Nat.le_of_ble_eq_true rfl) (t_X2_stayOf τ n b (b + 39 + 1 + l7.toNatClampNeg) s hB (hB.ship q2.2) e_x5) ?_
         obtain ⟨x6, e_x6, h⟩ := bd_some h
         refine cs_call (q := b) (As := [.ref a1, .ref (b + 39 + 1 + l7.toNatClampNeg), .int x5]) kv_X2_202 dX2_underAnother_65 hB.ob0 rfl rfl (by decide) (Nat.le_of_ble_eq_true rfl) rfl (by decide) (Nat.le_of_ble_eq_true rfl) (t_X2_dueBy F τ n b a1 (b + 39 + 1 + l7.toNatClampNeg) s x5 hB h1 (hB.ship q2.2) e_x6) ?_
         refine jg_istore (L' := [some (.ref b), some (.ref a1), some (.int l2), some (.int l3), some (.long l4), none, some (.int l6), some (.int l7), some (.ref (b + 39 + 1 + l7.toNatClampNeg)), some (.int x6.1)]) dX2_underAnother_68 (by decide) rfl ?_
         refine jg_iload dX2_underAnother_70 rfl ?_
         refine jg_aload dX2_underAnother_72 rfl ?_
         refine cs_get (s := x6.2) (w := .int (x6.2.1 (b + 39 + 1 + l7.toNatClampNeg) 7)) fl_X2_335 dX2_underAnother_74 (hB.ship q2.2) rfl ?_
         refine jg_icmp_le (x := x6.1) (y := (x6.2.1 (b + 39 + 1 + l7.toNatClampNeg) 7)) (tgt := 86) dX2_underAnother_77 (by decide) (fun c7 => ?_) (fun c7 => ?_)
         · replace h := it_t c7 h
           refine jg_lload dX2_underAnother_86 rfl ?_
           refine jg_iload dX2_underAnother_88 rfl ?_
           refine jg_i2l dX2_underAnother_90 ?_
           refine jg_ladd dX2_underAnother_91 ?_
           refine jg_lstore (L' := [some (.ref b), some (.ref a1), some (.int l2), some (.int l3), some (.long (l4 + x6.1.toInt64)), none, some (.int l6), some (.int l7), some (.ref (b + 39 + 1 + l7.toNatClampNeg)), some (.int x6.1)]) dX2_underAnother_92 (by decide) rfl ?_
           refine jg_iinc (x := l7) (v := l7 + nI 1) (L' := [some (.ref b), some (.ref a1), some (.int l2), some (.int l3), some (.long (l4 + x6.1.toInt64)), none, some (.int l6), some (.int (l7 + nI 1)), some (.ref (b + 39 + 1 + l7.toNatClampNeg)), some (.int x6.1)]) dX2_underAnother_94 rfl (ic_k _ (by decide)) (by decide) rfl ?_
           refine jg_goto (tgt := 9) dX2_underAnother_97 (by decide) ?_
           refine jg_fg (L' := [some (.ref b), some (.ref a1), some (.int l2), some (.int l3), some (.long (l4 + x6.1.toInt64)), none, some (.int l6), some (.int (l7 + nI 1)), none, none]) (by repeat (first | exact trivial | refine ⟨rfl, ?_⟩ | show jg_le _ _)) ?_
           exact ih (l4 + x6.1.toInt64) l6 (l7 + nI 1) x6.2 h
         · replace h := it_f c7 h
           refine jg_iinc (x := l6) (v := l6 + nI 1) (L' := [some (.ref b), some (.ref a1), some (.int l2), some (.int l3), some (.long l4), none, some (.int (l6 + nI 1)), some (.int l7), some (.ref (b + 39 + 1 + l7.toNatClampNeg)), some (.int x6.1)]) dX2_underAnother_80 rfl (ic_k _ (by decide)) (by decide) rfl ?_
           refine jg_goto (tgt := 94) dX2_underAnother_83 (by decide) ?_
           refine jg_iinc (x := l7) (v := l7 + nI 1) (L' := [some (.ref b), some (.ref a1), some (.int l2), some (.int l3), some (.long l4), none, some (.int (l6 + nI 1)), some (.int (l7 + nI 1)), some (.ref (b + 39 + 1 + l7.toNatClampNeg)), some (.int x6.1)]) dX2_underAnother_94 rfl (ic_k _ (by decide)) (by decide) rfl ?_
           refine jg_goto (tgt := 9) dX2_underAnother_97 (by decide) ?_
           refine jg_fg (L' := [some (.ref b), some (.ref a1), some (.int l2), some (.int l3), some (.long l4), none, some (.int (l6 + nI 1)), some (.int (l7 + nI 1)), none, none]) (by repeat (first | exact trivial | refine ⟨rfl, ?_⟩ | show jg_le _ _)) ?_
           exact ih l4 (l6 + nI 1) (l7 + nI 1) x6.2 h
noncomputable def o_X2_underAnother (F : Nat) (τ : cT) (n : Nat) (b : Nat) (a1 : Nat) (s : cS) (a2 : Int32) (a3 : Int32) : Option (Int32 × cS) := (o_X2_underAnother_9 F τ n b a1 a2 a3 F 0 (nI 0) (nI 0) s).bind fun x8 => (if a3 = 0 then ((o_X11_capped τ n x8.2.2 x8.1).bind fun x10 => (some (x10, x8.2.2))) else (some (x8.2.1, x8.2.2)))
set_option maxHeartbeats 4000000 in
theorem t_X2_underAnother {Γ : jg_G} {g : Nat → jg_C} (F : Nat) (τ : cT) (n : Nat) (b : Nat) (a1 : Nat) (s : cS) (a2 : Int32) (a3 : Int32) (hB : Bd τ n b) (h1 : acb τ n a1 = true) {x : Int32 × cS} (h : o_X2_underAnother F τ n b a1 s a2 a3 = some x) : jc Γ mX2_underAnother 3 0 0 [some (.ref b), some (.ref a1), some (.int a2), some (.int a3), none, none, none, none, none, none] (ct_h g τ s, n) (.inl (some (.int x.1))) (ct_h g τ x.2, n) := by
  refine jc_of ?_
  rw [o_X2_underAnother] at h
  refine jg_lconst (v := 0) dX2_underAnother_0 (by decide) ?_
  refine jg_lstore (L' := [some (.ref b), some (.ref a1), some (.int a2), some (.int a3), some (.long 0), none, none, none, none, none]) dX2_underAnother_1 (by decide) rfl ?_
  refine jg_iconst (v := nI 0) dX2_underAnother_3 (by decide) ?_
  refine jg_istore (L' := [some (.ref b), some (.ref a1), some (.int a2), some (.int a3), some (.long 0), none, some (.int (nI 0)), none, none, none]) dX2_underAnother_4 (by decide) rfl ?_
  refine jg_iconst (v := nI 0) dX2_underAnother_6 (by decide) ?_
  refine jg_istore (L' := [some (.ref b), some (.ref a1), some (.int a2), some (.int a3), some (.long 0), none, some (.int (nI 0)), some (.int (nI 0)), none, none]) dX2_underAnother_7 (by decide) rfl ?_
  obtain ⟨x8, e_x8, h⟩ := bd_some h
  refine jg_fg (L' := [some (.ref b), some (.ref a1), some (.int a2), some (.int a3), some (.long 0), none, some (.int (nI 0)), some (.int (nI 0)), none, none]) (by repeat (first | exact trivial | refine ⟨rfl, ?_⟩ | show jg_le _ _)) ?_
  refine t_X2_underAnother_9  F τ n b a1 a2 a3 hB h1 _ (x := x8) ?_ F 0 (nI 0) (nI 0) s e_x8
  refine jg_iload_n dX2_underAnother_100 rfl ?_
  refine jg_if_eq (x := a3) (tgt := 109) dX2_underAnother_101 (by decide) (fun c9 => ?_) (fun c9 => ?_)
  · replace h := it_t c9 h
    refine jg_lload dX2_underAnother_109 rfl ?_
    obtain ⟨x10, e_x10, h⟩ := bd_some h
    refine cs_callN (As := [.long x8.1]) kw_X2_305 dX2_underAnother_111 rfl (by decide) (Nat.le_of_ble_eq_true rfl) rfl (by decide) (Nat.le_of_ble_eq_true rfl) (t_X11_capped τ n x8.2.2 x8.1 e_x10) ?_
    obtain rfl := Option.some.inj h
    exact jg_ireturn dX2_underAnother_114 rfl ⟨rfl, rfl⟩
  · replace h := it_f c9 h
    refine jg_iload dX2_underAnother_104 rfl ?_
    refine jg_goto (tgt := 114) dX2_underAnother_106 (by decide) ?_
    obtain rfl := Option.some.inj h
    exact jg_ireturn dX2_underAnother_114 rfl ⟨rfl, rfl⟩
theorem dX11_sumOf_0 : decode cX11_sumOf 0 = .ok (.iconst 0, 1) := by decide +kernel
theorem dX11_sumOf_1 : decode cX11_sumOf 1 = .ok (.istore_n 1, 1) := by decide +kernel
theorem dX11_sumOf_2 : decode cX11_sumOf 2 = .ok (.iconst 0, 1) := by decide +kernel
theorem dX11_sumOf_3 : decode cX11_sumOf 3 = .ok (.istore_n 2, 1) := by decide +kernel
theorem dX11_sumOf_4 : decode cX11_sumOf 4 = .ok (.iload_n 2, 1) := by decide +kernel
theorem dX11_sumOf_5 : decode cX11_sumOf 5 = .ok (.aload_n 0, 1) := by decide +kernel
theorem dX11_sumOf_6 : decode cX11_sumOf 6 = .ok (.arraylength, 1) := by decide +kernel
theorem dX11_sumOf_7 : decode cX11_sumOf 7 = .ok (.if_icmp .ge 15, 3) := by decide +kernel
theorem dX11_sumOf_10 : decode cX11_sumOf 10 = .ok (.iload_n 1, 1) := by decide +kernel
theorem dX11_sumOf_11 : decode cX11_sumOf 11 = .ok (.aload_n 0, 1) := by decide +kernel
theorem dX11_sumOf_12 : decode cX11_sumOf 12 = .ok (.iload_n 2, 1) := by decide +kernel
theorem dX11_sumOf_13 : decode cX11_sumOf 13 = .ok (.iaload, 1) := by decide +kernel
theorem dX11_sumOf_14 : decode cX11_sumOf 14 = .ok (.iadd, 1) := by decide +kernel
theorem dX11_sumOf_15 : decode cX11_sumOf 15 = .ok (.istore_n 1, 1) := by decide +kernel
theorem dX11_sumOf_16 : decode cX11_sumOf 16 = .ok (.iinc 2 1, 3) := by decide +kernel
theorem dX11_sumOf_19 : decode cX11_sumOf 19 = .ok (.goto (-15), 3) := by decide +kernel
theorem dX11_sumOf_22 : decode cX11_sumOf 22 = .ok (.iload_n 1, 1) := by decide +kernel
theorem dX11_sumOf_23 : decode cX11_sumOf 23 = .ok (.ireturn, 1) := by decide +kernel
noncomputable def o_X11_sumOf_4 (F : Nat) (τ : cT) (n : Nat) (a1 : Nat) (s : cS) : Nat → Int32 → Int32 → Option (Int32)
  | 0, _, _ => none
  | f + 1, l1, l2 => if (nI 24) ≤ l2 then (some l1) else (if iL l2 24 then (o_X11_sumOf_4 F τ n a1 s f (l1 + (cg s a1 l2)) (l2 + nI 1)) else none)
set_option maxHeartbeats 4000000 in
theorem t_X11_sumOf_4 {Γ : jg_G} {g : Nat → jg_C} (F : Nat) (τ : cT) (n : Nat) (a1 : Nat) (s : cS) (h1 : Ar τ n a1 0 24) (Q : jg_Q) {x : Int32} (K1 : jg Γ mX11_sumOf 0 0 0 22 [none, some (.int x), none] [] (ct_h g τ s, n) Q)  : ∀ (f : Nat) (l1 : Int32) (l2 : Int32), o_X11_sumOf_4 F τ n a1 s f l1 l2 = some x → jg Γ mX11_sumOf 0 0 0 4 [some (.ref a1), some (.int l1), some (.int l2)] [] (ct_h g τ s, n) Q := by
  intro f
  induction f with
  | zero => intro l1 l2 h; rw [o_X11_sumOf_4] at h; cases h
  | succ f ih =>
   intro l1 l2 h
   rw [o_X11_sumOf_4] at h
   refine jg_iload_n dX11_sumOf_4 rfl ?_
   refine jg_aload_n dX11_sumOf_5 rfl ?_
   refine cs_len (s := s) (q := a1) (by decide) dX11_sumOf_6 h1 ?_
   refine jg_icmp_ge (x := l2) (y := (nI 24)) (tgt := 22) dX11_sumOf_7 (by decide) (fun c1 => ?_) (fun c1 => ?_)
   · replace h := it_t c1 h
     refine jg_fg (L' := [none, some (.int l1), none]) (by repeat (first | exact trivial | refine ⟨rfl, ?_⟩ | show jg_le _ _)) ?_
     obtain rfl := Option.some.inj h
     exact K1
   · replace h := it_f c1 h
     refine jg_iload_n dX11_sumOf_10 rfl ?_
     refine jg_aload_n dX11_sumOf_11 rfl ?_
     refine jg_iload_n dX11_sumOf_12 rfl ?_
     obtain ⟨q2, h⟩ := gd_some h
     refine cs_lda (s := s) (q := a1) (i := l2) dX11_sumOf_13 h1 q2 ?_
     refine jg_iadd (x := l1) (y := (cg s a1 l2)) dX11_sumOf_14  ?_
     refine jg_istore_n (L' := [some (.ref a1), some (.int (l1 + (cg s a1 l2))), some (.int l2)]) dX11_sumOf_15 (by decide) rfl ?_
     refine jg_iinc (x := l2) (v := l2 + nI 1) (L' := [some (.ref a1), some (.int (l1 + (cg s a1 l2))), some (.int (l2 + nI 1))]) dX11_sumOf_16 rfl (ic_k _ (by decide)) (by decide) rfl ?_
     refine jg_goto (tgt := 4) dX11_sumOf_19 (by decide) ?_
     refine jg_fg (L' := [some (.ref a1), some (.int (l1 + (cg s a1 l2))), some (.int (l2 + nI 1))]) (by repeat (first | exact trivial | refine ⟨rfl, ?_⟩ | show jg_le _ _)) ?_
     exact ih (l1 + (cg s a1 l2)) (l2 + nI 1) h
noncomputable def o_X11_sumOf (F : Nat) (τ : cT) (n : Nat) (a1 : Nat) (s : cS) : Option (Int32) := (o_X11_sumOf_4 F τ n a1 s F (nI 0) (nI 0)).bind fun x3 => (some x3)
set_option maxHeartbeats 4000000 in
theorem t_X11_sumOf {Γ : jg_G} {g : Nat → jg_C} (F : Nat) (τ : cT) (n : Nat) (a1 : Nat) (s : cS) (h1 : Ar τ n a1 0 24) {x : Int32} (h : o_X11_sumOf F τ n a1 s = some x) : jc Γ mX11_sumOf 0 0 0 [some (.ref a1), none, none] (ct_h g τ s, n) (.inl (some (.int x))) (ct_h g τ s, n) := by
  refine jc_of ?_
  rw [o_X11_sumOf] at h
  refine jg_iconst (v := nI 0) dX11_sumOf_0 (by decide) ?_
  refine jg_istore_n (L' := [some (.ref a1), some (.int (nI 0)), none]) dX11_sumOf_1 (by decide) rfl ?_
  refine jg_iconst (v := nI 0) dX11_sumOf_2 (by decide) ?_
  refine jg_istore_n (L' := [some (.ref a1), some (.int (nI 0)), some (.int (nI 0))]) dX11_sumOf_3 (by decide) rfl ?_
  obtain ⟨x3, e_x3, h⟩ := bd_some h
  refine jg_fg (L' := [some (.ref a1), some (.int (nI 0)), some (.int (nI 0))]) (by repeat (first | exact trivial | refine ⟨rfl, ?_⟩ | show jg_le _ _)) ?_
  refine t_X11_sumOf_4  F τ n a1 s h1 _ (x := x3) ?_ F (nI 0) (nI 0) e_x3
  refine jg_iload_n dX11_sumOf_22 rfl ?_
  obtain rfl := Option.some.inj h
  exact jg_ireturn dX11_sumOf_23 rfl ⟨rfl, rfl⟩
theorem dX11_within_0 : decode cX11_within 0 = .ok (.iload_n 0, 1) := by decide +kernel
theorem dX11_within_1 : decode cX11_within 1 = .ok (.iload_n 1, 1) := by decide +kernel
theorem dX11_within_2 : decode cX11_within 2 = .ok (.if_icmp .lt 12, 3) := by decide +kernel
theorem dX11_within_5 : decode cX11_within 5 = .ok (.iload_n 0, 1) := by decide +kernel
theorem dX11_within_6 : decode cX11_within 6 = .ok (.iload_n 2, 1) := by decide +kernel
theorem dX11_within_7 : decode cX11_within 7 = .ok (.if_icmp .gt 7, 3) := by decide +kernel
theorem dX11_within_10 : decode cX11_within 10 = .ok (.iconst 1, 1) := by decide +kernel
theorem dX11_within_11 : decode cX11_within 11 = .ok (.goto 4, 3) := by decide +kernel
theorem dX11_within_14 : decode cX11_within 14 = .ok (.iconst 0, 1) := by decide +kernel
theorem dX11_within_15 : decode cX11_within 15 = .ok (.ireturn, 1) := by decide +kernel
noncomputable def o_X11_within (τ : cT) (n : Nat) (s : cS) (a1 : Int32) (a2 : Int32) (a3 : Int32) : Option (Int32) := if a1 < a2 then (some (nI 0)) else (if a3 < a1 then (some (nI 0)) else (some (nI 1)))
set_option maxHeartbeats 4000000 in
theorem t_X11_within {Γ : jg_G} {g : Nat → jg_C} (τ : cT) (n : Nat) (s : cS) (a1 : Int32) (a2 : Int32) (a3 : Int32)  {x : Int32} (h : o_X11_within τ n s a1 a2 a3 = some x) : jc Γ mX11_within 0 0 0 [some (.int a1), some (.int a2), some (.int a3)] (ct_h g τ s, n) (.inl (some (.int x))) (ct_h g τ s, n) := by
  refine jc_of ?_
  rw [o_X11_within] at h
  refine jg_iload_n dX11_within_0 rfl ?_
  refine jg_iload_n dX11_within_1 rfl ?_
  refine jg_icmp_lt (x := a1) (y := a2) (tgt := 14) dX11_within_2 (by decide) (fun c1 => ?_) (fun c1 => ?_)
  · replace h := it_t c1 h
    refine jg_iconst (v := nI 0) dX11_within_14 (by decide) ?_
    obtain rfl := Option.some.inj h
    exact jg_zreturn dX11_within_15 rfl (rfl) ⟨rfl, rfl⟩
  · replace h := it_f c1 h
    refine jg_iload_n dX11_within_5 rfl ?_
    refine jg_iload_n dX11_within_6 rfl ?_
    refine jg_icmp_gt (x := a1) (y := a3) (tgt := 14) dX11_within_7 (by decide) (fun c2 => ?_) (fun c2 => ?_)
    · replace h := it_t c2 h
      refine jg_iconst (v := nI 0) dX11_within_14 (by decide) ?_
      obtain rfl := Option.some.inj h
      exact jg_zreturn dX11_within_15 rfl (rfl) ⟨rfl, rfl⟩
    · replace h := it_f c2 h
      refine jg_iconst (v := nI 1) dX11_within_10 (by decide) ?_
      refine jg_goto (tgt := 15) dX11_within_11 (by decide) ?_
      obtain rfl := Option.some.inj h
      exact jg_zreturn dX11_within_15 rfl (rfl) ⟨rfl, rfl⟩
