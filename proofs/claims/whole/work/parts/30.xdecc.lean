theorem dX11_worth_0 : decode cX11_worth 0 = .ok (.iload_n 1, 1) := by decide +kernel
theorem dX11_worth_1 : decode cX11_worth 1 = .ok (.iconst 0, 1) := by decide +kernel
theorem dX11_worth_2 : decode cX11_worth 2 = .ok (.ldc 153, 2) := by decide +kernel
theorem dX11_worth_4 : decode cX11_worth 4 = .ok (.invokestatic 41, 3) := by decide +kernel
theorem dX11_worth_7 : decode cX11_worth 7 = .ok (.invokestatic 45, 3) := by decide +kernel
theorem dX11_worth_10 : decode cX11_worth 10 = .ok (.aload_n 0, 1) := by decide +kernel
theorem dX11_worth_11 : decode cX11_worth 11 = .ok (.getfield 27, 3) := by decide +kernel
theorem dX11_worth_14 : decode cX11_worth 14 = .ok (.getfield 392, 3) := by decide +kernel
theorem dX11_worth_17 : decode cX11_worth 17 = .ok (.iload_n 1, 1) := by decide +kernel
theorem dX11_worth_18 : decode cX11_worth 18 = .ok (.iload_n 2, 1) := by decide +kernel
theorem dX11_worth_19 : decode cX11_worth 19 = .ok (.invokevirtual 402, 3) := by decide +kernel
theorem dX11_worth_22 : decode cX11_worth 22 = .ok (.ireturn, 1) := by decide +kernel
noncomputable def o_X11_worth (F : Nat) (τ : cT) (n : Nat) (o : Nat) (s : cS) (a1 : Int32) (a2 : Int32) : Option ((Int32) ⊕ (Nat)) := (o_X11_within τ n s a1 (nI 0) (nI 1000000)).bind fun x1 => ((o_X11_needArgument τ n s x1).bind fun x2 => (Sum.elim (fun y3 => (o_X4_worthOf F τ n (o + 10) s a1 a2).bind fun x5 => (some (.inl x5))) (fun z4 => some (.inr z4)) x2))
set_option maxHeartbeats 4000000 in
theorem t_X11_worth {Γ : jg_G} {g : Nat → jg_C} (F : Nat) (τ : cT) (n : Nat) (o : Nat) (s : cS) (a1 : Int32) (a2 : Int32) (hO : Sh τ n o) {x : Int32} (h : o_X11_worth F τ n o s a1 a2 = some (.inl x)) : jc Γ mX11_worth 7 0 0 [some (.ref o), some (.int a1), some (.int a2)] (ct_h g τ s, n) (.inl (some (.int x))) (ct_h g τ s, n) := by
  refine jc_of ?_
  rw [o_X11_worth] at h
  refine jg_iload_n dX11_worth_0 rfl ?_
  refine jg_iconst (v := nI 0) dX11_worth_1 (by decide) ?_
  refine jg_ldc kk_X11_153 dX11_worth_2 ?_
  rw [show (1000000 : Int32) = nI 1000000 from rfl]
  obtain ⟨x1, e_x1, h⟩ := bd_some h
  refine cs_callS (As := [.int a1, .int (nI 0), .int (nI 1000000)]) ks_X11_41 dX11_worth_4 rfl (by decide) (Nat.le_of_ble_eq_true rfl) rfl (by decide) (Nat.le_of_ble_eq_true rfl) (t_X11_within τ n s a1 (nI 0) (nI 1000000) e_x1) ?_
  obtain ⟨x2, e_x2, h⟩ := bd_some h
  rcases x2 with y3 | z4
  · replace h := se_l h
    refine cs_callS (As := [.int x1]) ks_X11_45 dX11_worth_7 rfl (by decide) (Nat.le_of_ble_eq_true rfl) rfl (by decide) (Nat.le_of_ble_eq_true rfl) (t_X11_needArgument τ n s x1 e_x2) ?_
    refine jg_aload_n dX11_worth_10 rfl ?_
    refine cs_get (s := s) (w := .ref (o + 10)) fl_X11_27 dX11_worth_11 hO.ob0 rfl ?_
    refine cs_get (s := s) (w := .ref (o + 141)) fl_X11_392 dX11_worth_14 hO.1.ob0 rfl ?_
    refine jg_iload_n dX11_worth_17 rfl ?_
    refine jg_iload_n dX11_worth_18 rfl ?_
    obtain ⟨x5, e_x5, h⟩ := bd_some h
    refine cs_call (q := (o + 141)) (As := [.int a1, .int a2]) kv_X11_402 dX11_worth_19 (hO.1.ob 131 (by decide) rfl) rfl rfl (by decide) (Nat.le_of_ble_eq_true rfl) rfl (by decide) (Nat.le_of_ble_eq_true rfl) (t_X4_worthOf F τ n (o + 10) s a1 a2 hO.1 e_x5) ?_
    obtain rfl := Sum.inl.inj (Option.some.inj h)
    exact jg_ireturn dX11_worth_22 rfl ⟨rfl, rfl⟩
  · replace h := se_r h
    cases h
set_option maxHeartbeats 4000000 in
theorem x_X11_worth {Γ : jg_G} {g : Nat → jg_C} (F : Nat) (τ : cT) (n : Nat) (o : Nat) (s : cS) (a1 : Int32) (a2 : Int32) (hO : Sh τ n o) (hn : n < 1000000) (hT : τ n = .inr (8, 0)) {z : Nat} (h : o_X11_worth F τ n o s a1 a2 = some (.inr z)) : jc Γ mX11_worth 7 1 6 [some (.ref o), some (.int a1), some (.int a2)] (ct_h g τ s, n) (.inr (exn z)) (ct_h (gx g n) τ s, n + 1) := by
  refine jc_of ?_
  rw [o_X11_worth] at h
  refine jg_iload_n dX11_worth_0 rfl ?_
  refine jg_iconst (v := nI 0) dX11_worth_1 (by decide) ?_
  refine jg_ldc kk_X11_153 dX11_worth_2 ?_
  rw [show (1000000 : Int32) = nI 1000000 from rfl]
  obtain ⟨x1, e_x1, h⟩ := bd_some h
  refine cs_callS (As := [.int a1, .int (nI 0), .int (nI 1000000)]) ks_X11_41 dX11_worth_4 rfl (by decide) (Nat.le_of_ble_eq_true rfl) rfl (by decide) (Nat.le_of_ble_eq_true rfl) (t_X11_within τ n s a1 (nI 0) (nI 1000000) e_x1) ?_
  obtain ⟨x2, e_x2, h⟩ := bd_some h
  rcases x2 with y3 | z4
  · replace h := se_l h
    refine cs_callS (As := [.int x1]) ks_X11_45 dX11_worth_7 rfl (by decide) (Nat.le_of_ble_eq_true rfl) rfl (by decide) (Nat.le_of_ble_eq_true rfl) (t_X11_needArgument τ n s x1 e_x2) ?_
    refine jg_aload_n dX11_worth_10 rfl ?_
    refine cs_get (s := s) (w := .ref (o + 10)) fl_X11_27 dX11_worth_11 hO.ob0 rfl ?_
    refine cs_get (s := s) (w := .ref (o + 141)) fl_X11_392 dX11_worth_14 hO.1.ob0 rfl ?_
    refine jg_iload_n dX11_worth_17 rfl ?_
    refine jg_iload_n dX11_worth_18 rfl ?_
    obtain ⟨x5, e_x5, h⟩ := bd_some h
    refine cs_call (q := (o + 141)) (As := [.int a1, .int a2]) kv_X11_402 dX11_worth_19 (hO.1.ob 131 (by decide) rfl) rfl rfl (by decide) (Nat.le_of_ble_eq_true rfl) rfl (by decide) (Nat.le_of_ble_eq_true rfl) (t_X4_worthOf F τ n (o + 10) s a1 a2 hO.1 e_x5) ?_
    cases h
  · replace h := se_r h
    obtain rfl := Sum.inr.inj (Option.some.inj h)
    exact jc_SX (As := [.int x1]) ks_X11_45 dX11_worth_7 rfl (by decide) (Nat.le_of_ble_eq_true rfl) rfl (by decide) (Nat.le_refl _) (Nat.le_refl _) (Nat.le_of_ble_eq_true rfl) (x_X11_needArgument τ n s x1 hn hT e_x2) ⟨rfl, rfl⟩
theorem dX11_best_0 : decode cX11_best 0 = .ok (.iload_n 1, 1) := by decide +kernel
theorem dX11_best_1 : decode cX11_best 1 = .ok (.iconst 0, 1) := by decide +kernel
theorem dX11_best_2 : decode cX11_best 2 = .ok (.ldc 153, 2) := by decide +kernel
theorem dX11_best_4 : decode cX11_best 4 = .ok (.invokestatic 41, 3) := by decide +kernel
theorem dX11_best_7 : decode cX11_best 7 = .ok (.invokestatic 45, 3) := by decide +kernel
theorem dX11_best_10 : decode cX11_best 10 = .ok (.aload_n 0, 1) := by decide +kernel
theorem dX11_best_11 : decode cX11_best 11 = .ok (.getfield 27, 3) := by decide +kernel
theorem dX11_best_14 : decode cX11_best 14 = .ok (.getfield 392, 3) := by decide +kernel
theorem dX11_best_17 : decode cX11_best 17 = .ok (.iload_n 1, 1) := by decide +kernel
theorem dX11_best_18 : decode cX11_best 18 = .ok (.invokevirtual 405, 3) := by decide +kernel
theorem dX11_best_21 : decode cX11_best 21 = .ok (.ireturn, 1) := by decide +kernel
noncomputable def o_X11_best (F : Nat) (τ : cT) (n : Nat) (o : Nat) (s : cS) (a1 : Int32) : Option ((Int32) ⊕ (Nat)) := (o_X11_within τ n s a1 (nI 0) (nI 1000000)).bind fun x1 => ((o_X11_needArgument τ n s x1).bind fun x2 => (Sum.elim (fun y3 => (o_X4_bestSet F τ n (o + 10) s a1).bind fun x5 => (some (.inl x5))) (fun z4 => some (.inr z4)) x2))
set_option maxHeartbeats 4000000 in
theorem t_X11_best {Γ : jg_G} {g : Nat → jg_C} (F : Nat) (τ : cT) (n : Nat) (o : Nat) (s : cS) (a1 : Int32) (hO : Sh τ n o) {x : Int32} (h : o_X11_best F τ n o s a1 = some (.inl x)) : jc Γ mX11_best 7 0 0 [some (.ref o), some (.int a1)] (ct_h g τ s, n) (.inl (some (.int x))) (ct_h g τ s, n) := by
  refine jc_of ?_
  rw [o_X11_best] at h
  refine jg_iload_n dX11_best_0 rfl ?_
  refine jg_iconst (v := nI 0) dX11_best_1 (by decide) ?_
  refine jg_ldc kk_X11_153 dX11_best_2 ?_
  rw [show (1000000 : Int32) = nI 1000000 from rfl]
  obtain ⟨x1, e_x1, h⟩ := bd_some h
  refine cs_callS (As := [.int a1, .int (nI 0), .int (nI 1000000)]) ks_X11_41 dX11_best_4 rfl (by decide) (Nat.le_of_ble_eq_true rfl) rfl (by decide) (Nat.le_of_ble_eq_true rfl) (t_X11_within τ n s a1 (nI 0) (nI 1000000) e_x1) ?_
  obtain ⟨x2, e_x2, h⟩ := bd_some h
  rcases x2 with y3 | z4
  · replace h := se_l h
    refine cs_callS (As := [.int x1]) ks_X11_45 dX11_best_7 rfl (by decide) (Nat.le_of_ble_eq_true rfl) rfl (by decide) (Nat.le_of_ble_eq_true rfl) (t_X11_needArgument τ n s x1 e_x2) ?_
    refine jg_aload_n dX11_best_10 rfl ?_
    refine cs_get (s := s) (w := .ref (o + 10)) fl_X11_27 dX11_best_11 hO.ob0 rfl ?_
    refine cs_get (s := s) (w := .ref (o + 141)) fl_X11_392 dX11_best_14 hO.1.ob0 rfl ?_
    refine jg_iload_n dX11_best_17 rfl ?_
    obtain ⟨x5, e_x5, h⟩ := bd_some h
    refine cs_call (q := (o + 141)) (As := [.int a1]) kv_X11_405 dX11_best_18 (hO.1.ob 131 (by decide) rfl) rfl rfl (by decide) (Nat.le_of_ble_eq_true rfl) rfl (by decide) (Nat.le_of_ble_eq_true rfl) (t_X4_bestSet F τ n (o + 10) s a1 hO.1 e_x5) ?_
    obtain rfl := Sum.inl.inj (Option.some.inj h)
    exact jg_ireturn dX11_best_21 rfl ⟨rfl, rfl⟩
  · replace h := se_r h
    cases h
set_option maxHeartbeats 4000000 in
theorem x_X11_best {Γ : jg_G} {g : Nat → jg_C} (F : Nat) (τ : cT) (n : Nat) (o : Nat) (s : cS) (a1 : Int32) (hO : Sh τ n o) (hn : n < 1000000) (hT : τ n = .inr (8, 0)) {z : Nat} (h : o_X11_best F τ n o s a1 = some (.inr z)) : jc Γ mX11_best 7 1 6 [some (.ref o), some (.int a1)] (ct_h g τ s, n) (.inr (exn z)) (ct_h (gx g n) τ s, n + 1) := by
  refine jc_of ?_
  rw [o_X11_best] at h
  refine jg_iload_n dX11_best_0 rfl ?_
  refine jg_iconst (v := nI 0) dX11_best_1 (by decide) ?_
  refine jg_ldc kk_X11_153 dX11_best_2 ?_
  rw [show (1000000 : Int32) = nI 1000000 from rfl]
  obtain ⟨x1, e_x1, h⟩ := bd_some h
  refine cs_callS (As := [.int a1, .int (nI 0), .int (nI 1000000)]) ks_X11_41 dX11_best_4 rfl (by decide) (Nat.le_of_ble_eq_true rfl) rfl (by decide) (Nat.le_of_ble_eq_true rfl) (t_X11_within τ n s a1 (nI 0) (nI 1000000) e_x1) ?_
  obtain ⟨x2, e_x2, h⟩ := bd_some h
  rcases x2 with y3 | z4
  · replace h := se_l h
    refine cs_callS (As := [.int x1]) ks_X11_45 dX11_best_7 rfl (by decide) (Nat.le_of_ble_eq_true rfl) rfl (by decide) (Nat.le_of_ble_eq_true rfl) (t_X11_needArgument τ n s x1 e_x2) ?_
    refine jg_aload_n dX11_best_10 rfl ?_
    refine cs_get (s := s) (w := .ref (o + 10)) fl_X11_27 dX11_best_11 hO.ob0 rfl ?_
    refine cs_get (s := s) (w := .ref (o + 141)) fl_X11_392 dX11_best_14 hO.1.ob0 rfl ?_
    refine jg_iload_n dX11_best_17 rfl ?_
    obtain ⟨x5, e_x5, h⟩ := bd_some h
    refine cs_call (q := (o + 141)) (As := [.int a1]) kv_X11_405 dX11_best_18 (hO.1.ob 131 (by decide) rfl) rfl rfl (by decide) (Nat.le_of_ble_eq_true rfl) rfl (by decide) (Nat.le_of_ble_eq_true rfl) (t_X4_bestSet F τ n (o + 10) s a1 hO.1 e_x5) ?_
    cases h
  · replace h := se_r h
    obtain rfl := Sum.inr.inj (Option.some.inj h)
    exact jc_SX (As := [.int x1]) ks_X11_45 dX11_best_7 rfl (by decide) (Nat.le_of_ble_eq_true rfl) rfl (by decide) (Nat.le_refl _) (Nat.le_refl _) (Nat.le_of_ble_eq_true rfl) (x_X11_needArgument τ n s x1 hn hT e_x2) ⟨rfl, rfl⟩
