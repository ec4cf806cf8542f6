/-! THE LAW'S WRAPPERS (by program wip/whole/wdec.py) -/

theorem tQ_lt {τ : cT} {n j : Nat} {q : Option (Nat × Nat)} (h : j < n) : tQ τ n q j = τ j := by
  cases q with
  | none => rfl
  | some q => exact tA_o (by omega)
theorem nQ_le {n : Nat} {q : Option (Nat × Nat)} : n ≤ nQ n q := by
  cases q with
  | none => exact Nat.le_refl _
  | some q => exact Nat.le_add_right _ _
def jhc (Γ : jg_G) (M : jg_Md) (hh : jh_T) (d a b : Nat) (L : List (Option Value)) (h : jg_H) (o : Option Value ⊕ String) (h' : jg_H) : Prop := ∀ Q : jg_Q, Q o h' → jh Γ M hh d a b 0 L [] h Q
def mL_river : jg_Md := (yL_river, cL_river, 6, some .int)
def hL_river : List (Nat × Nat × Nat × Nat) := [(0, 9, 12, 13), (0, 9, 16, 15), (0, 9, 20, 17)]
theorem kL_river : jh_Sc RL 135 mL_river hL_river 5 := ⟨(jg_m4 104 rfl rfl), (jg_m4 105 rfl rfl), wi_L, (jg_m4 106 rfl rfl), by decide, by decide, by decide +kernel, by decide +kernel⟩
theorem dL_river_0 : decode cL_river 0 = .ok (.aload_n 0, 1) := by decide +kernel
theorem dL_river_1 : decode cL_river 1 = .ok (.iload_n 1, 1) := by decide +kernel
theorem dL_river_2 : decode cL_river 2 = .ok (.iload_n 2, 1) := by decide +kernel
theorem dL_river_3 : decode cL_river 3 = .ok (.iload_n 3, 1) := by decide +kernel
theorem dL_river_4 : decode cL_river 4 = .ok (.iload 4, 2) := by decide +kernel
theorem dL_river_6 : decode cL_river 6 = .ok (.invokevirtual 7, 3) := by decide +kernel
theorem dL_river_9 : decode cL_river 9 = .ok (.goto 15, 3) := by decide +kernel
theorem dL_river_12 : decode cL_river 12 = .ok (.astore 5, 2) := by decide +kernel
theorem dL_river_14 : decode cL_river 14 = .ok (.iconst 1, 1) := by decide +kernel
theorem dL_river_15 : decode cL_river 15 = .ok (.ireturn, 1) := by decide +kernel
theorem dL_river_16 : decode cL_river 16 = .ok (.astore 5, 2) := by decide +kernel
theorem dL_river_18 : decode cL_river 18 = .ok (.iconst 2, 1) := by decide +kernel
theorem dL_river_19 : decode cL_river 19 = .ok (.ireturn, 1) := by decide +kernel
theorem dL_river_20 : decode cL_river 20 = .ok (.astore 5, 2) := by decide +kernel
theorem dL_river_22 : decode cL_river 22 = .ok (.iconst 3, 1) := by decide +kernel
theorem dL_river_23 : decode cL_river 23 = .ok (.ireturn, 1) := by decide +kernel
theorem dL_river_24 : decode cL_river 24 = .ok (.iconst 0, 1) := by decide +kernel
theorem dL_river_25 : decode cL_river 25 = .ok (.ireturn, 1) := by decide +kernel
set_option maxHeartbeats 1000000 in
theorem w_river {Γ : jg_G} {X : Nat × (Nat → Int32)} {G : Nat → jg_C} (F : Nat) (τ : cT) (n : Nat) (c : cS) (a1 a2 a3 a4 : Int32) (hO : Sh τ n 0) {x : cS} (h : o_X11_river F τ n 0 c a1 a2 a3 a4 = some (.inl x)) : jhc Γ mL_river (hL_river, X) 9 0 0 [some (.ref 0), some (.int a1), some (.int a2), some (.int a3), some (.int a4), none] (ct_h G τ c, n) (.inl (some (.int (nI 0)))) (ct_h G τ x, n) := by
  intro Q hQ
  refine jh_aload_n dL_river_0 rfl ?_
  refine jh_iload_n dL_river_1 rfl ?_
  refine jh_iload_n dL_river_2 rfl ?_
  refine jh_iload_n dL_river_3 rfl ?_
  refine jh_iload dL_river_4 rfl ?_
  refine jh_callV (q := 0) (As := [.int a1, .int a2, .int a3, .int a4]) (a' := 0) (b' := 0) kv_L_7 dL_river_6 rfl hO.ob0.1 (ct_o hO.ob0) rfl (by decide) (Nat.le_of_ble_eq_true rfl) rfl (by decide) (Nat.le_refl _) (Nat.le_refl _) (Nat.le_of_ble_eq_true rfl) (t_X11_river F τ n 0 c a1 a2 a3 a4 hO h (jq (.inl none) _) ⟨rfl, rfl⟩) (fun v9 h9 e9 => ?_) (fun E9 h9 e9 => nomatch e9.1)
  obtain ⟨e1, e2⟩ := e9
  cases e1
  subst e2
  refine jh_hs (S' := []) (h' := (ct_h G τ x, n)) rfl rfl ?_
  refine jh_goto (tgt := 24) dL_river_9 (by decide) ?_
  refine jh_iconst (v := nI 0) dL_river_24 (by decide) ?_
  exact jh_ireturn dL_river_25 rfl hQ
set_option maxHeartbeats 1000000 in
theorem w_river_x0 {Γ : jg_G} {X : Nat × (Nat → Int32)} {G : Nat → jg_C} (F : Nat) (τ : cT) (n : Nat) (c : cS) (a1 a2 a3 a4 : Int32) (hO : Sh τ n 0) (hn : n < 1000000) (hT : τ n = .inr (8, 0)) {y : cS} (h : o_X11_river F τ n 0 c a1 a2 a3 a4 = some (.inr (0, y))) : jhc Γ mL_river (hL_river, X) 9 1 6 [some (.ref 0), some (.int a1), some (.int a2), some (.int a3), some (.int a4), none] (ct_h G τ c, n) (.inl (some (.int (nI 1)))) (ct_h (gx G n) τ y, n + 1) := by
  intro Q hQ
  refine jh_aload_n dL_river_0 rfl ?_
  refine jh_iload_n dL_river_1 rfl ?_
  refine jh_iload_n dL_river_2 rfl ?_
  refine jh_iload_n dL_river_3 rfl ?_
  refine jh_iload dL_river_4 rfl ?_
  refine jh_callV (q := 0) (As := [.int a1, .int a2, .int a3, .int a4]) (a' := 1) (b' := 6) kv_L_7 dL_river_6 rfl hO.ob0.1 (ct_o hO.ob0) rfl (by decide) (Nat.le_of_ble_eq_true rfl) rfl (by decide) (Nat.le_refl _) (Nat.le_refl _) (Nat.le_of_ble_eq_true rfl) (x_X11_river F τ n 0 c a1 a2 a3 a4 hO hn hT h (jq (.inr (exn 0)) _) ⟨rfl, rfl⟩) (fun v9 h9 e9 => nomatch e9.1) (fun E9 h9 e9 => ?_)
  obtain ⟨e1, e2⟩ := e9
  cases e1
  subst e2
  exact ⟨nI 1, ⟨0, [], [(0, 9, 16, 15), (0, 9, 20, 17)], 0, 9, 12, 13, by decide, rfl, rfl, (fun z hz => nomatch hz), ⟨by decide, by decide⟩, by decide, kc_L_13, by decide, rfl, 2, 1, Or.inl ⟨5, dL_river_12, rfl, by decide⟩, dL_river_14, by decide, dL_river_15⟩, hQ⟩
set_option maxHeartbeats 1000000 in
theorem w_river_x1 {Γ : jg_G} {X : Nat × (Nat → Int32)} {G : Nat → jg_C} (F : Nat) (τ : cT) (n : Nat) (c : cS) (a1 a2 a3 a4 : Int32) (hO : Sh τ n 0) (hn : n < 1000000) (hT : τ n = .inr (8, 0)) {y : cS} (h : o_X11_river F τ n 0 c a1 a2 a3 a4 = some (.inr (1, y))) : jhc Γ mL_river (hL_river, X) 9 1 6 [some (.ref 0), some (.int a1), some (.int a2), some (.int a3), some (.int a4), none] (ct_h G τ c, n) (.inl (some (.int (nI 2)))) (ct_h (gx G n) τ y, n + 1) := by
  intro Q hQ
  refine jh_aload_n dL_river_0 rfl ?_
  refine jh_iload_n dL_river_1 rfl ?_
  refine jh_iload_n dL_river_2 rfl ?_
  refine jh_iload_n dL_river_3 rfl ?_
  refine jh_iload dL_river_4 rfl ?_
  refine jh_callV (q := 0) (As := [.int a1, .int a2, .int a3, .int a4]) (a' := 1) (b' := 6) kv_L_7 dL_river_6 rfl hO.ob0.1 (ct_o hO.ob0) rfl (by decide) (Nat.le_of_ble_eq_true rfl) rfl (by decide) (Nat.le_refl _) (Nat.le_refl _) (Nat.le_of_ble_eq_true rfl) (x_X11_river F τ n 0 c a1 a2 a3 a4 hO hn hT h (jq (.inr (exn 1)) _) ⟨rfl, rfl⟩) (fun v9 h9 e9 => nomatch e9.1) (fun E9 h9 e9 => ?_)
  obtain ⟨e1, e2⟩ := e9
  cases e1
  subst e2
  exact ⟨nI 2, ⟨1, [(0, 9, 12, 13)], [(0, 9, 20, 17)], 0, 9, 16, 15, by decide, rfl, rfl, (by intro z hz; simp only [List.mem_cons, List.not_mem_nil, or_false] at hz; rcases hz with rfl <;> first | exact ⟨by decide, 0, by decide, by decide, kc_L_13⟩), ⟨by decide, by decide⟩, by decide, kc_L_15, by decide, rfl, 2, 2, Or.inl ⟨5, dL_river_16, rfl, by decide⟩, dL_river_18, by decide, dL_river_19⟩, hQ⟩
set_option maxHeartbeats 1000000 in
theorem w_river_x2 {Γ : jg_G} {X : Nat × (Nat → Int32)} {G : Nat → jg_C} (F : Nat) (τ : cT) (n : Nat) (c : cS) (a1 a2 a3 a4 : Int32) (hO : Sh τ n 0) (hn : n < 1000000) (hT : τ n = .inr (8, 0)) {y : cS} (h : o_X11_river F τ n 0 c a1 a2 a3 a4 = some (.inr (2, y))) : jhc Γ mL_river (hL_river, X) 9 1 6 [some (.ref 0), some (.int a1), some (.int a2), some (.int a3), some (.int a4), none] (ct_h G τ c, n) (.inl (some (.int (nI 3)))) (ct_h (gx G n) τ y, n + 1) := by
  intro Q hQ
  refine jh_aload_n dL_river_0 rfl ?_
  refine jh_iload_n dL_river_1 rfl ?_
  refine jh_iload_n dL_river_2 rfl ?_
  refine jh_iload_n dL_river_3 rfl ?_
  refine jh_iload dL_river_4 rfl ?_
  refine jh_callV (q := 0) (As := [.int a1, .int a2, .int a3, .int a4]) (a' := 1) (b' := 6) kv_L_7 dL_river_6 rfl hO.ob0.1 (ct_o hO.ob0) rfl (by decide) (Nat.le_of_ble_eq_true rfl) rfl (by decide) (Nat.le_refl _) (Nat.le_refl _) (Nat.le_of_ble_eq_true rfl) (x_X11_river F τ n 0 c a1 a2 a3 a4 hO hn hT h (jq (.inr (exn 2)) _) ⟨rfl, rfl⟩) (fun v9 h9 e9 => nomatch e9.1) (fun E9 h9 e9 => ?_)
  obtain ⟨e1, e2⟩ := e9
  cases e1
  subst e2
  exact ⟨nI 3, ⟨2, [(0, 9, 12, 13), (0, 9, 16, 15)], [], 0, 9, 20, 17, by decide, rfl, rfl, (by intro z hz; simp only [List.mem_cons, List.not_mem_nil, or_false] at hz; rcases hz with rfl | rfl <;> first | exact ⟨by decide, 0, by decide, by decide, kc_L_13⟩ | exact ⟨by decide, 1, by decide, by decide, kc_L_15⟩), ⟨by decide, by decide⟩, by decide, kc_L_17, by decide, rfl, 2, 3, Or.inl ⟨5, dL_river_20, rfl, by decide⟩, dL_river_22, by decide, dL_river_23⟩, hQ⟩
def mL_tide : jg_Md := (yL_tide, cL_tide, 4, some .int)
def hL_tide : List (Nat × Nat × Nat × Nat) := [(0, 6, 9, 15)]
theorem kL_tide : jh_Sc RL 144 mL_tide hL_tide 3 := ⟨(jg_m4 230 rfl rfl), (jg_m4 231 rfl rfl), wi_L, (jg_m4 232 rfl rfl), by decide, by decide, by decide +kernel, by decide +kernel⟩
theorem dL_tide_0 : decode cL_tide 0 = .ok (.aload_n 0, 1) := by decide +kernel
theorem dL_tide_1 : decode cL_tide 1 = .ok (.iload_n 1, 1) := by decide +kernel
theorem dL_tide_2 : decode cL_tide 2 = .ok (.iload_n 2, 1) := by decide +kernel
theorem dL_tide_3 : decode cL_tide 3 = .ok (.invokevirtual 19, 3) := by decide +kernel
theorem dL_tide_6 : decode cL_tide 6 = .ok (.goto 6, 3) := by decide +kernel
theorem dL_tide_9 : decode cL_tide 9 = .ok (.astore_n 3, 1) := by decide +kernel
theorem dL_tide_10 : decode cL_tide 10 = .ok (.iconst 1, 1) := by decide +kernel
theorem dL_tide_11 : decode cL_tide 11 = .ok (.ireturn, 1) := by decide +kernel
theorem dL_tide_12 : decode cL_tide 12 = .ok (.iconst 0, 1) := by decide +kernel
theorem dL_tide_13 : decode cL_tide 13 = .ok (.ireturn, 1) := by decide +kernel
set_option maxHeartbeats 1000000 in
theorem w_tide {Γ : jg_G} {X : Nat × (Nat → Int32)} {G : Nat → jg_C} (τ : cT) (n : Nat) (c : cS) (a1 a2 : Int32) (hO : Sh τ n 0) {x : cS} (h : o_X11_tide τ n 0 c a1 a2 = some (.inl x)) : jhc Γ mL_tide (hL_tide, X) 8 0 0 [some (.ref 0), some (.int a1), some (.int a2), none] (ct_h G τ c, n) (.inl (some (.int (nI 0)))) (ct_h G τ x, n) := by
  intro Q hQ
  refine jh_aload_n dL_tide_0 rfl ?_
  refine jh_iload_n dL_tide_1 rfl ?_
  refine jh_iload_n dL_tide_2 rfl ?_
  refine jh_callV (q := 0) (As := [.int a1, .int a2]) (a' := 0) (b' := 0) kv_L_19 dL_tide_3 rfl hO.ob0.1 (ct_o hO.ob0) rfl (by decide) (Nat.le_of_ble_eq_true rfl) rfl (by decide) (Nat.le_refl _) (Nat.le_refl _) (Nat.le_of_ble_eq_true rfl) (t_X11_tide τ n 0 c a1 a2 hO h (jq (.inl none) _) ⟨rfl, rfl⟩) (fun v9 h9 e9 => ?_) (fun E9 h9 e9 => nomatch e9.1)
  obtain ⟨e1, e2⟩ := e9
  cases e1
  subst e2
  refine jh_hs (S' := []) (h' := (ct_h G τ x, n)) rfl rfl ?_
  refine jh_goto (tgt := 12) dL_tide_6 (by decide) ?_
  refine jh_iconst (v := nI 0) dL_tide_12 (by decide) ?_
  exact jh_ireturn dL_tide_13 rfl hQ
set_option maxHeartbeats 1000000 in
theorem w_tide_x1 {Γ : jg_G} {X : Nat × (Nat → Int32)} {G : Nat → jg_C} (τ : cT) (n : Nat) (c : cS) (a1 a2 : Int32) (hO : Sh τ n 0) (hn : n < 1000000) (hT : τ n = .inr (8, 0)) {y : cS} (h : o_X11_tide τ n 0 c a1 a2 = some (.inr (1, y))) : jhc Γ mL_tide (hL_tide, X) 8 1 6 [some (.ref 0), some (.int a1), some (.int a2), none] (ct_h G τ c, n) (.inl (some (.int (nI 1)))) (ct_h (gx G n) τ y, n + 1) := by
  intro Q hQ
  refine jh_aload_n dL_tide_0 rfl ?_
  refine jh_iload_n dL_tide_1 rfl ?_
  refine jh_iload_n dL_tide_2 rfl ?_
  refine jh_callV (q := 0) (As := [.int a1, .int a2]) (a' := 1) (b' := 6) kv_L_19 dL_tide_3 rfl hO.ob0.1 (ct_o hO.ob0) rfl (by decide) (Nat.le_of_ble_eq_true rfl) rfl (by decide) (Nat.le_refl _) (Nat.le_refl _) (Nat.le_of_ble_eq_true rfl) (x_X11_tide τ n 0 c a1 a2 hO hn hT h (jq (.inr (exn 1)) _) ⟨rfl, rfl⟩) (fun v9 h9 e9 => nomatch e9.1) (fun E9 h9 e9 => ?_)
  obtain ⟨e1, e2⟩ := e9
  cases e1
  subst e2
  exact ⟨nI 1, ⟨1, [], [], 0, 6, 9, 15, by decide, rfl, rfl, (fun z hz => nomatch hz), ⟨by decide, by decide⟩, by decide, kc_L_15, by decide, rfl, 1, 1, Or.inr ⟨3, dL_tide_9, rfl, by decide⟩, dL_tide_10, by decide, dL_tide_11⟩, hQ⟩
def mL_run : jg_Md := (yL_run, cL_run, 5, some .int)
def hL_run : List (Nat × Nat × Nat × Nat) := [(0, 10, 13, 15)]
theorem kL_run : jh_Sc RL 148 mL_run hL_run 4 := ⟨(jg_m4 237 rfl rfl), (jg_m4 238 rfl rfl), wi_L, (jg_m4 239 rfl rfl), by decide, by decide, by decide +kernel, by decide +kernel⟩
theorem dL_run_0 : decode cL_run 0 = .ok (.aload_n 3, 1) := by decide +kernel
theorem dL_run_1 : decode cL_run 1 = .ok (.iconst 0, 1) := by decide +kernel
theorem dL_run_2 : decode cL_run 2 = .ok (.aload_n 0, 1) := by decide +kernel
theorem dL_run_3 : decode cL_run 3 = .ok (.iload_n 1, 1) := by decide +kernel
theorem dL_run_4 : decode cL_run 4 = .ok (.iload_n 2, 1) := by decide +kernel
theorem dL_run_5 : decode cL_run 5 = .ok (.invokevirtual 23, 3) := by decide +kernel
theorem dL_run_8 : decode cL_run 8 = .ok (.i2l, 1) := by decide +kernel
theorem dL_run_9 : decode cL_run 9 = .ok (.lastore, 1) := by decide +kernel
theorem dL_run_10 : decode cL_run 10 = .ok (.goto 7, 3) := by decide +kernel
theorem dL_run_13 : decode cL_run 13 = .ok (.astore 4, 2) := by decide +kernel
theorem dL_run_15 : decode cL_run 15 = .ok (.iconst 1, 1) := by decide +kernel
theorem dL_run_16 : decode cL_run 16 = .ok (.ireturn, 1) := by decide +kernel
theorem dL_run_17 : decode cL_run 17 = .ok (.iconst 0, 1) := by decide +kernel
theorem dL_run_18 : decode cL_run 18 = .ok (.ireturn, 1) := by decide +kernel
set_option maxHeartbeats 1000000 in
theorem w_run {Γ : jg_G} {X : Nat × (Nat → Int32)} {G : Nat → jg_C} (τ : cT) (n : Nat) (c : cS) (a1 a2 : Int32) (hO : Sh τ n 0) {f : Nat → Int64} (hG : G 191 = .inr (3, 1, .inr (.inl f))) (hτ : τ 191 = .inr (8, 0)) (h191 : 191 < n) {x : Int32 × cS} (h : o_X11_run τ n 0 c a1 a2 = some (.inl x)) : jhc Γ mL_run (hL_run, X) 8 0 0 [some (.ref 0), some (.int a1), some (.int a2), some (.ref 191), none] (ct_h G τ c, n) (.inl (some (.int (nI 0)))) (ct_h (va_up G 191 (.inr (3, 1, .inr (.inl (vp_updL f 0 x.1.toInt64))))) τ x.2, n) := by
  intro Q hQ
  refine jh_aload_n dL_run_0 rfl ?_
  refine jh_iconst (v := nI 0) dL_run_1 (by decide) ?_
  refine jh_aload_n dL_run_2 rfl ?_
  refine jh_iload_n dL_run_3 rfl ?_
  refine jh_iload_n dL_run_4 rfl ?_
  refine jh_callV (q := 0) (As := [.int a1, .int a2]) (a' := 0) (b' := 0) kv_L_23 dL_run_5 rfl hO.ob0.1 (ct_o hO.ob0) rfl (by decide) (Nat.le_of_ble_eq_true rfl) rfl (by decide) (Nat.le_refl _) (Nat.le_refl _) (Nat.le_of_ble_eq_true rfl) (t_X11_run τ n 0 c a1 a2 hO h (jq (.inl (some (.int x.1))) _) ⟨rfl, rfl⟩) (fun v9 h9 e9 => ?_) (fun E9 h9 e9 => nomatch e9.1)
  obtain ⟨e1, e2⟩ := e9
  cases e1
  subst e2
  refine jh_hs (S' := [.int x.1, .int (nI 0), .ref 191]) (h' := (ct_h G τ x.2, n)) rfl rfl ?_
  refine jh_i2l dL_run_8 ?_
  refine jh_last (q := 191) (n := 1) (f := f) (i := nI 0) dL_run_9 h191 ((ct_base hτ).trans hG) (vp_iL (iL_t (by decide) (by decide))) ?_
  refine jh_hs (S' := []) (h' := (ct_h (va_up G 191 (.inr (3, 1, .inr (.inl (vp_updL f 0 x.1.toInt64))))) τ x.2, n)) rfl (congrArg (fun z => (z, n)) (ct_g hτ)) ?_
  refine jh_goto (tgt := 17) dL_run_10 (by decide) ?_
  refine jh_iconst (v := nI 0) dL_run_17 (by decide) ?_
  exact jh_ireturn dL_run_18 rfl hQ
set_option maxHeartbeats 1000000 in
theorem w_run_x1 {Γ : jg_G} {X : Nat × (Nat → Int32)} {G : Nat → jg_C} (τ : cT) (n : Nat) (c : cS) (a1 a2 : Int32) (hO : Sh τ n 0) (hn : n < 1000000) (hT : τ n = .inr (8, 0)) {y : cS} (h : o_X11_run τ n 0 c a1 a2 = some (.inr (1, y))) : jhc Γ mL_run (hL_run, X) 8 1 6 [some (.ref 0), some (.int a1), some (.int a2), some (.ref 191), none] (ct_h G τ c, n) (.inl (some (.int (nI 1)))) (ct_h (gx G n) τ y, n + 1) := by
  intro Q hQ
  refine jh_aload_n dL_run_0 rfl ?_
  refine jh_iconst (v := nI 0) dL_run_1 (by decide) ?_
  refine jh_aload_n dL_run_2 rfl ?_
  refine jh_iload_n dL_run_3 rfl ?_
  refine jh_iload_n dL_run_4 rfl ?_
  refine jh_callV (q := 0) (As := [.int a1, .int a2]) (a' := 1) (b' := 6) kv_L_23 dL_run_5 rfl hO.ob0.1 (ct_o hO.ob0) rfl (by decide) (Nat.le_of_ble_eq_true rfl) rfl (by decide) (Nat.le_refl _) (Nat.le_refl _) (Nat.le_of_ble_eq_true rfl) (x_X11_run τ n 0 c a1 a2 hO hn hT h (jq (.inr (exn 1)) _) ⟨rfl, rfl⟩) (fun v9 h9 e9 => nomatch e9.1) (fun E9 h9 e9 => ?_)
  obtain ⟨e1, e2⟩ := e9
  cases e1
  subst e2
  exact ⟨nI 1, ⟨1, [], [], 0, 10, 13, 15, by decide, rfl, rfl, (fun z hz => nomatch hz), ⟨by decide, by decide⟩, by decide, kc_L_15, by decide, rfl, 2, 1, Or.inl ⟨4, dL_run_13, rfl, by decide⟩, dL_run_15, by decide, dL_run_16⟩, hQ⟩
def mL_dredger : jg_Md := (yL_dredger, cL_dredger, 4, some .int)
def hL_dredger : List (Nat × Nat × Nat × Nat) := [(0, 9, 12, 15), (0, 9, 15, 31)]
theorem kL_dredger : jh_Sc RL 152 mL_dredger hL_dredger 3 := ⟨(jg_m5 8 rfl rfl), (jg_m5 9 rfl rfl), wi_L, (jg_m5 10 rfl rfl), by decide, by decide, by decide +kernel, by decide +kernel⟩
theorem dL_dredger_0 : decode cL_dredger 0 = .ok (.aload_n 2, 1) := by decide +kernel
theorem dL_dredger_1 : decode cL_dredger 1 = .ok (.iconst 0, 1) := by decide +kernel
theorem dL_dredger_2 : decode cL_dredger 2 = .ok (.aload_n 0, 1) := by decide +kernel
theorem dL_dredger_3 : decode cL_dredger 3 = .ok (.iload_n 1, 1) := by decide +kernel
theorem dL_dredger_4 : decode cL_dredger 4 = .ok (.invokevirtual 27, 3) := by decide +kernel
theorem dL_dredger_7 : decode cL_dredger 7 = .ok (.i2l, 1) := by decide +kernel
theorem dL_dredger_8 : decode cL_dredger 8 = .ok (.lastore, 1) := by decide +kernel
theorem dL_dredger_9 : decode cL_dredger 9 = .ok (.goto 9, 3) := by decide +kernel
theorem dL_dredger_12 : decode cL_dredger 12 = .ok (.astore_n 3, 1) := by decide +kernel
theorem dL_dredger_13 : decode cL_dredger 13 = .ok (.iconst 1, 1) := by decide +kernel
theorem dL_dredger_14 : decode cL_dredger 14 = .ok (.ireturn, 1) := by decide +kernel
theorem dL_dredger_15 : decode cL_dredger 15 = .ok (.astore_n 3, 1) := by decide +kernel
theorem dL_dredger_16 : decode cL_dredger 16 = .ok (.iconst 2, 1) := by decide +kernel
theorem dL_dredger_17 : decode cL_dredger 17 = .ok (.ireturn, 1) := by decide +kernel
theorem dL_dredger_18 : decode cL_dredger 18 = .ok (.iconst 0, 1) := by decide +kernel
theorem dL_dredger_19 : decode cL_dredger 19 = .ok (.ireturn, 1) := by decide +kernel
set_option maxHeartbeats 1000000 in
theorem w_dredger {Γ : jg_G} {X : Nat × (Nat → Int32)} {G : Nat → jg_C} (τ : cT) (n : Nat) (c : cS) (a1 : Int32) (hO : Sh τ n 0) {f : Nat → Int64} (hG : G 191 = .inr (3, 1, .inr (.inl f))) (hτ : τ 191 = .inr (8, 0)) (h191 : 191 < n) {x : Int32 × cS} (h : o_X11_dredger τ n 0 c a1 = some (.inl x)) : jhc Γ mL_dredger (hL_dredger, X) 8 0 0 [some (.ref 0), some (.int a1), some (.ref 191), none] (ct_h G τ c, n) (.inl (some (.int (nI 0)))) (ct_h (va_up G 191 (.inr (3, 1, .inr (.inl (vp_updL f 0 x.1.toInt64))))) τ x.2, n) := by
  intro Q hQ
  refine jh_aload_n dL_dredger_0 rfl ?_
  refine jh_iconst (v := nI 0) dL_dredger_1 (by decide) ?_
  refine jh_aload_n dL_dredger_2 rfl ?_
  refine jh_iload_n dL_dredger_3 rfl ?_
  refine jh_callV (q := 0) (As := [.int a1]) (a' := 0) (b' := 0) kv_L_27 dL_dredger_4 rfl hO.ob0.1 (ct_o hO.ob0) rfl (by decide) (Nat.le_of_ble_eq_true rfl) rfl (by decide) (Nat.le_refl _) (Nat.le_refl _) (Nat.le_of_ble_eq_true rfl) (t_X11_dredger τ n 0 c a1 hO h (jq (.inl (some (.int x.1))) _) ⟨rfl, rfl⟩) (fun v9 h9 e9 => ?_) (fun E9 h9 e9 => nomatch e9.1)
  obtain ⟨e1, e2⟩ := e9
  cases e1
  subst e2
  refine jh_hs (S' := [.int x.1, .int (nI 0), .ref 191]) (h' := (ct_h G τ x.2, n)) rfl rfl ?_
  refine jh_i2l dL_dredger_7 ?_
  refine jh_last (q := 191) (n := 1) (f := f) (i := nI 0) dL_dredger_8 h191 ((ct_base hτ).trans hG) (vp_iL (iL_t (by decide) (by decide))) ?_
  refine jh_hs (S' := []) (h' := (ct_h (va_up G 191 (.inr (3, 1, .inr (.inl (vp_updL f 0 x.1.toInt64))))) τ x.2, n)) rfl (congrArg (fun z => (z, n)) (ct_g hτ)) ?_
  refine jh_goto (tgt := 18) dL_dredger_9 (by decide) ?_
  refine jh_iconst (v := nI 0) dL_dredger_18 (by decide) ?_
  exact jh_ireturn dL_dredger_19 rfl hQ
set_option maxHeartbeats 1000000 in
theorem w_dredger_x1 {Γ : jg_G} {X : Nat × (Nat → Int32)} {G : Nat → jg_C} (τ : cT) (n : Nat) (c : cS) (a1 : Int32) (hO : Sh τ n 0) (hn : n < 1000000) (hT : τ n = .inr (8, 0)) {y : cS} (h : o_X11_dredger τ n 0 c a1 = some (.inr (1, y))) : jhc Γ mL_dredger (hL_dredger, X) 8 1 6 [some (.ref 0), some (.int a1), some (.ref 191), none] (ct_h G τ c, n) (.inl (some (.int (nI 1)))) (ct_h (gx G n) τ y, n + 1) := by
  intro Q hQ
  refine jh_aload_n dL_dredger_0 rfl ?_
  refine jh_iconst (v := nI 0) dL_dredger_1 (by decide) ?_
  refine jh_aload_n dL_dredger_2 rfl ?_
  refine jh_iload_n dL_dredger_3 rfl ?_
  refine jh_callV (q := 0) (As := [.int a1]) (a' := 1) (b' := 6) kv_L_27 dL_dredger_4 rfl hO.ob0.1 (ct_o hO.ob0) rfl (by decide) (Nat.le_of_ble_eq_true rfl) rfl (by decide) (Nat.le_refl _) (Nat.le_refl _) (Nat.le_of_ble_eq_true rfl) (x_X11_dredger τ n 0 c a1 hO hn hT h (jq (.inr (exn 1)) _) ⟨rfl, rfl⟩) (fun v9 h9 e9 => nomatch e9.1) (fun E9 h9 e9 => ?_)
  obtain ⟨e1, e2⟩ := e9
  cases e1
  subst e2
  exact ⟨nI 1, ⟨1, [], [(0, 9, 15, 31)], 0, 9, 12, 15, by decide, rfl, rfl, (fun z hz => nomatch hz), ⟨by decide, by decide⟩, by decide, kc_L_15, by decide, rfl, 1, 1, Or.inr ⟨3, dL_dredger_12, rfl, by decide⟩, dL_dredger_13, by decide, dL_dredger_14⟩, hQ⟩
set_option maxHeartbeats 1000000 in
theorem w_dredger_x3 {Γ : jg_G} {X : Nat × (Nat → Int32)} {G : Nat → jg_C} (τ : cT) (n : Nat) (c : cS) (a1 : Int32) (hO : Sh τ n 0) (hn : n < 1000000) (hT : τ n = .inr (8, 0)) {y : cS} (h : o_X11_dredger τ n 0 c a1 = some (.inr (3, y))) : jhc Γ mL_dredger (hL_dredger, X) 8 1 6 [some (.ref 0), some (.int a1), some (.ref 191), none] (ct_h G τ c, n) (.inl (some (.int (nI 2)))) (ct_h (gx G n) τ y, n + 1) := by
  intro Q hQ
  refine jh_aload_n dL_dredger_0 rfl ?_
  refine jh_iconst (v := nI 0) dL_dredger_1 (by decide) ?_
  refine jh_aload_n dL_dredger_2 rfl ?_
  refine jh_iload_n dL_dredger_3 rfl ?_
  refine jh_callV (q := 0) (As := [.int a1]) (a' := 1) (b' := 6) kv_L_27 dL_dredger_4 rfl hO.ob0.1 (ct_o hO.ob0) rfl (by decide) (Nat.le_of_ble_eq_true rfl) rfl (by decide) (Nat.le_refl _) (Nat.le_refl _) (Nat.le_of_ble_eq_true rfl) (x_X11_dredger τ n 0 c a1 hO hn hT h (jq (.inr (exn 3)) _) ⟨rfl, rfl⟩) (fun v9 h9 e9 => nomatch e9.1) (fun E9 h9 e9 => ?_)
  obtain ⟨e1, e2⟩ := e9
  cases e1
  subst e2
  exact ⟨nI 2, ⟨3, [(0, 9, 12, 15)], [], 0, 9, 15, 31, by decide, rfl, rfl, (by intro z hz; simp only [List.mem_cons, List.not_mem_nil, or_false] at hz; rcases hz with rfl <;> first | exact ⟨by decide, 1, by decide, by decide, kc_L_15⟩), ⟨by decide, by decide⟩, by decide, kc_L_31, by decide, rfl, 1, 2, Or.inr ⟨3, dL_dredger_15, rfl, by decide⟩, dL_dredger_16, by decide, dL_dredger_17⟩, hQ⟩
def mL_station : jg_Md := (yL_station, cL_station, 6, some .int)
def hL_station : List (Nat × Nat × Nat × Nat) := [(0, 19, 22, 13)]
theorem kL_station : jh_Sc RL 156 mL_station hL_station 5 := ⟨(jg_m5 39 rfl rfl), (jg_m5 40 rfl rfl), wi_L, (jg_m5 41 rfl rfl), by decide, by decide, by decide +kernel, by decide +kernel⟩
theorem dL_station_0 : decode cL_station 0 = .ok (.aload 4, 2) := by decide +kernel
theorem dL_station_2 : decode cL_station 2 = .ok (.iconst 0, 1) := by decide +kernel
theorem dL_station_3 : decode cL_station 3 = .ok (.aload_n 0, 1) := by decide +kernel
theorem dL_station_4 : decode cL_station 4 = .ok (.iload_n 1, 1) := by decide +kernel
theorem dL_station_5 : decode cL_station 5 = .ok (.iload_n 2, 1) := by decide +kernel
theorem dL_station_6 : decode cL_station 6 = .ok (.iload_n 3, 1) := by decide +kernel
theorem dL_station_7 : decode cL_station 7 = .ok (.invokevirtual 33, 3) := by decide +kernel
theorem dL_station_10 : decode cL_station 10 = .ok (.ifCond .eq 7, 3) := by decide +kernel
theorem dL_station_13 : decode cL_station 13 = .ok (.lconst 1, 1) := by decide +kernel
theorem dL_station_14 : decode cL_station 14 = .ok (.goto 4, 3) := by decide +kernel
theorem dL_station_17 : decode cL_station 17 = .ok (.lconst 0, 1) := by decide +kernel
theorem dL_station_18 : decode cL_station 18 = .ok (.lastore, 1) := by decide +kernel
theorem dL_station_19 : decode cL_station 19 = .ok (.goto 7, 3) := by decide +kernel
theorem dL_station_22 : decode cL_station 22 = .ok (.astore 5, 2) := by decide +kernel
theorem dL_station_24 : decode cL_station 24 = .ok (.iconst 1, 1) := by decide +kernel
theorem dL_station_25 : decode cL_station 25 = .ok (.ireturn, 1) := by decide +kernel
theorem dL_station_26 : decode cL_station 26 = .ok (.iconst 0, 1) := by decide +kernel
theorem dL_station_27 : decode cL_station 27 = .ok (.ireturn, 1) := by decide +kernel
set_option maxHeartbeats 1000000 in
theorem w_station {Γ : jg_G} {X : Nat × (Nat → Int32)} {G : Nat → jg_C} (τ : cT) (n : Nat) (c : cS) (a1 a2 a3 : Int32) (hO : Sh τ n 0) {f : Nat → Int64} (hG : G 191 = .inr (3, 1, .inr (.inl f))) (hτ : τ 191 = .inr (8, 0)) (h191 : 191 < n) {x : Int32 × cS} (h : o_X11_station τ n 0 c a1 a2 a3 = some (.inl x)) : jhc Γ mL_station (hL_station, X) 9 0 0 [some (.ref 0), some (.int a1), some (.int a2), some (.int a3), some (.ref 191), none] (ct_h G τ c, n) (.inl (some (.int (nI 0)))) (ct_h (va_up G 191 (.inr (3, 1, .inr (.inl (vp_updL f 0 (if x.1 = 0 then 0 else 1)))))) τ x.2, n) := by
  intro Q hQ
  refine jh_aload dL_station_0 rfl ?_
  refine jh_iconst (v := nI 0) dL_station_2 (by decide) ?_
  refine jh_aload_n dL_station_3 rfl ?_
  refine jh_iload_n dL_station_4 rfl ?_
  refine jh_iload_n dL_station_5 rfl ?_
  refine jh_iload_n dL_station_6 rfl ?_
  refine jh_callV (q := 0) (As := [.int a1, .int a2, .int a3]) (a' := 0) (b' := 0) kv_L_33 dL_station_7 rfl hO.ob0.1 (ct_o hO.ob0) rfl (by decide) (Nat.le_of_ble_eq_true rfl) rfl (by decide) (Nat.le_refl _) (Nat.le_refl _) (Nat.le_of_ble_eq_true rfl) (t_X11_station τ n 0 c a1 a2 a3 hO h (jq (.inl (some (.int x.1))) _) ⟨rfl, rfl⟩) (fun v9 h9 e9 => ?_) (fun E9 h9 e9 => nomatch e9.1)
  obtain ⟨e1, e2⟩ := e9
  cases e1
  subst e2
  refine jh_hs (S' := [.int x.1, .int (nI 0), .ref 191]) (h' := (ct_h G τ x.2, n)) rfl rfl ?_
  refine jh_if_eq (x := x.1) (tgt := 17) dL_station_10 (by decide) (fun c9 => ?_) (fun c9 => ?_)
  · rw [if_pos c9] at hQ
    refine jh_lconst (v := 0) dL_station_17 (by decide) ?_
    refine jh_last (q := 191) (n := 1) (f := f) (i := nI 0) dL_station_18 h191 ((ct_base hτ).trans hG) (vp_iL (iL_t (by decide) (by decide))) ?_
    refine jh_hs (S' := []) (h' := (ct_h (va_up G 191 (.inr (3, 1, .inr (.inl (vp_updL f 0 0))))) τ x.2, n)) rfl (congrArg (fun z => (z, n)) (ct_g hτ)) ?_
    refine jh_goto (tgt := 26) dL_station_19 (by decide) ?_
    refine jh_iconst (v := nI 0) dL_station_26 (by decide) ?_
    exact jh_ireturn dL_station_27 rfl hQ
  · rw [if_neg c9] at hQ
    refine jh_lconst (v := 1) dL_station_13 (by decide) ?_
    refine jh_goto (tgt := 18) dL_station_14 (by decide) ?_
    refine jh_last (q := 191) (n := 1) (f := f) (i := nI 0) dL_station_18 h191 ((ct_base hτ).trans hG) (vp_iL (iL_t (by decide) (by decide))) ?_
    refine jh_hs (S' := []) (h' := (ct_h (va_up G 191 (.inr (3, 1, .inr (.inl (vp_updL f 0 1))))) τ x.2, n)) rfl (congrArg (fun z => (z, n)) (ct_g hτ)) ?_
    refine jh_goto (tgt := 26) dL_station_19 (by decide) ?_
    refine jh_iconst (v := nI 0) dL_station_26 (by decide) ?_
    exact jh_ireturn dL_station_27 rfl hQ
set_option maxHeartbeats 1000000 in
theorem w_station_x0 {Γ : jg_G} {X : Nat × (Nat → Int32)} {G : Nat → jg_C} (τ : cT) (n : Nat) (c : cS) (a1 a2 a3 : Int32) (hO : Sh τ n 0) (hn : n < 1000000) (hT : τ n = .inr (8, 0)) {y : cS} (h : o_X11_station τ n 0 c a1 a2 a3 = some (.inr (0, y))) : jhc Γ mL_station (hL_station, X) 9 1 6 [some (.ref 0), some (.int a1), some (.int a2), some (.int a3), some (.ref 191), none] (ct_h G τ c, n) (.inl (some (.int (nI 1)))) (ct_h (gx G n) τ y, n + 1) := by
  intro Q hQ
  refine jh_aload dL_station_0 rfl ?_
  refine jh_iconst (v := nI 0) dL_station_2 (by decide) ?_
  refine jh_aload_n dL_station_3 rfl ?_
  refine jh_iload_n dL_station_4 rfl ?_
  refine jh_iload_n dL_station_5 rfl ?_
  refine jh_iload_n dL_station_6 rfl ?_
  refine jh_callV (q := 0) (As := [.int a1, .int a2, .int a3]) (a' := 1) (b' := 6) kv_L_33 dL_station_7 rfl hO.ob0.1 (ct_o hO.ob0) rfl (by decide) (Nat.le_of_ble_eq_true rfl) rfl (by decide) (Nat.le_refl _) (Nat.le_refl _) (Nat.le_of_ble_eq_true rfl) (x_X11_station τ n 0 c a1 a2 a3 hO hn hT h (jq (.inr (exn 0)) _) ⟨rfl, rfl⟩) (fun v9 h9 e9 => nomatch e9.1) (fun E9 h9 e9 => ?_)
  obtain ⟨e1, e2⟩ := e9
  cases e1
  subst e2
  exact ⟨nI 1, ⟨0, [], [], 0, 19, 22, 13, by decide, rfl, rfl, (fun z hz => nomatch hz), ⟨by decide, by decide⟩, by decide, kc_L_13, by decide, rfl, 2, 1, Or.inl ⟨5, dL_station_22, rfl, by decide⟩, dL_station_24, by decide, dL_station_25⟩, hQ⟩
def mL_cell : jg_Md := (yL_cell, cL_cell, 5, some .int)
def hL_cell : List (Nat × Nat × Nat × Nat) := [(0, 10, 13, 13), (0, 10, 17, 40)]
theorem kL_cell : jh_Sc RL 160 mL_cell hL_cell 4 := ⟨(jg_m5 53 rfl rfl), (jg_m5 54 rfl rfl), wi_L, (jg_m5 55 rfl rfl), by decide, by decide, by decide +kernel, by decide +kernel⟩
theorem dL_cell_0 : decode cL_cell 0 = .ok (.aload_n 3, 1) := by decide +kernel
theorem dL_cell_1 : decode cL_cell 1 = .ok (.iconst 0, 1) := by decide +kernel
theorem dL_cell_2 : decode cL_cell 2 = .ok (.aload_n 0, 1) := by decide +kernel
theorem dL_cell_3 : decode cL_cell 3 = .ok (.iload_n 1, 1) := by decide +kernel
theorem dL_cell_4 : decode cL_cell 4 = .ok (.iload_n 2, 1) := by decide +kernel
theorem dL_cell_5 : decode cL_cell 5 = .ok (.invokevirtual 37, 3) := by decide +kernel
theorem dL_cell_8 : decode cL_cell 8 = .ok (.i2l, 1) := by decide +kernel
theorem dL_cell_9 : decode cL_cell 9 = .ok (.lastore, 1) := by decide +kernel
theorem dL_cell_10 : decode cL_cell 10 = .ok (.goto 11, 3) := by decide +kernel
theorem dL_cell_13 : decode cL_cell 13 = .ok (.astore 4, 2) := by decide +kernel
theorem dL_cell_15 : decode cL_cell 15 = .ok (.iconst 1, 1) := by decide +kernel
theorem dL_cell_16 : decode cL_cell 16 = .ok (.ireturn, 1) := by decide +kernel
theorem dL_cell_17 : decode cL_cell 17 = .ok (.astore 4, 2) := by decide +kernel
theorem dL_cell_19 : decode cL_cell 19 = .ok (.iconst 2, 1) := by decide +kernel
theorem dL_cell_20 : decode cL_cell 20 = .ok (.ireturn, 1) := by decide +kernel
theorem dL_cell_21 : decode cL_cell 21 = .ok (.iconst 0, 1) := by decide +kernel
theorem dL_cell_22 : decode cL_cell 22 = .ok (.ireturn, 1) := by decide +kernel
set_option maxHeartbeats 1000000 in
theorem w_cell {Γ : jg_G} {X : Nat × (Nat → Int32)} {G : Nat → jg_C} (F : Nat) (τ : cT) (n : Nat) (c : cS) (a1 a2 : Int32) (hO : Sh τ n 0) {f : Nat → Int64} (hG : G 191 = .inr (3, 1, .inr (.inl f))) (hτ : τ 191 = .inr (8, 0)) (h191 : 191 < n) {x : Int32} (h : o_X11_cell F τ n 0 c a1 a2 = some (.inl x)) : jhc Γ mL_cell (hL_cell, X) 9 0 0 [some (.ref 0), some (.int a1), some (.int a2), some (.ref 191), none] (ct_h G τ c, n) (.inl (some (.int (nI 0)))) (ct_h (va_up G 191 (.inr (3, 1, .inr (.inl (vp_updL f 0 x.toInt64))))) τ c, n) := by
  intro Q hQ
  refine jh_aload_n dL_cell_0 rfl ?_
  refine jh_iconst (v := nI 0) dL_cell_1 (by decide) ?_
  refine jh_aload_n dL_cell_2 rfl ?_
  refine jh_iload_n dL_cell_3 rfl ?_
  refine jh_iload_n dL_cell_4 rfl ?_
  refine jh_callV (q := 0) (As := [.int a1, .int a2]) (a' := 0) (b' := 0) kv_L_37 dL_cell_5 rfl hO.ob0.1 (ct_o hO.ob0) rfl (by decide) (Nat.le_of_ble_eq_true rfl) rfl (by decide) (Nat.le_refl _) (Nat.le_refl _) (Nat.le_of_ble_eq_true rfl) (t_X11_cell F τ n 0 c a1 a2 hO h (jq (.inl (some (.int x))) _) ⟨rfl, rfl⟩) (fun v9 h9 e9 => ?_) (fun E9 h9 e9 => nomatch e9.1)
  obtain ⟨e1, e2⟩ := e9
  cases e1
  subst e2
  refine jh_hs (S' := [.int x, .int (nI 0), .ref 191]) (h' := (ct_h G τ c, n)) rfl rfl ?_
  refine jh_i2l dL_cell_8 ?_
  refine jh_last (q := 191) (n := 1) (f := f) (i := nI 0) dL_cell_9 h191 ((ct_base hτ).trans hG) (vp_iL (iL_t (by decide) (by decide))) ?_
  refine jh_hs (S' := []) (h' := (ct_h (va_up G 191 (.inr (3, 1, .inr (.inl (vp_updL f 0 x.toInt64))))) τ c, n)) rfl (congrArg (fun z => (z, n)) (ct_g hτ)) ?_
  refine jh_goto (tgt := 21) dL_cell_10 (by decide) ?_
  refine jh_iconst (v := nI 0) dL_cell_21 (by decide) ?_
  exact jh_ireturn dL_cell_22 rfl hQ
set_option maxHeartbeats 1000000 in
theorem w_cell_x0 {Γ : jg_G} {X : Nat × (Nat → Int32)} {G : Nat → jg_C} (F : Nat) (τ : cT) (n : Nat) (c : cS) (a1 a2 : Int32) (hO : Sh τ n 0) (hn : n < 1000000) (hT : τ n = .inr (8, 0)) (h : o_X11_cell F τ n 0 c a1 a2 = some (.inr 0)) : jhc Γ mL_cell (hL_cell, X) 9 1 6 [some (.ref 0), some (.int a1), some (.int a2), some (.ref 191), none] (ct_h G τ c, n) (.inl (some (.int (nI 1)))) (ct_h (gx G n) τ c, n + 1) := by
  intro Q hQ
  refine jh_aload_n dL_cell_0 rfl ?_
  refine jh_iconst (v := nI 0) dL_cell_1 (by decide) ?_
  refine jh_aload_n dL_cell_2 rfl ?_
  refine jh_iload_n dL_cell_3 rfl ?_
  refine jh_iload_n dL_cell_4 rfl ?_
  refine jh_callV (q := 0) (As := [.int a1, .int a2]) (a' := 1) (b' := 6) kv_L_37 dL_cell_5 rfl hO.ob0.1 (ct_o hO.ob0) rfl (by decide) (Nat.le_of_ble_eq_true rfl) rfl (by decide) (Nat.le_refl _) (Nat.le_refl _) (Nat.le_of_ble_eq_true rfl) (x_X11_cell F τ n 0 c a1 a2 hO hn hT h (jq (.inr (exn 0)) _) ⟨rfl, rfl⟩) (fun v9 h9 e9 => nomatch e9.1) (fun E9 h9 e9 => ?_)
  obtain ⟨e1, e2⟩ := e9
  cases e1
  subst e2
  exact ⟨nI 1, ⟨0, [], [(0, 10, 17, 40)], 0, 10, 13, 13, by decide, rfl, rfl, (fun z hz => nomatch hz), ⟨by decide, by decide⟩, by decide, kc_L_13, by decide, rfl, 2, 1, Or.inl ⟨4, dL_cell_13, rfl, by decide⟩, dL_cell_15, by decide, dL_cell_16⟩, hQ⟩
set_option maxHeartbeats 1000000 in
theorem w_cell_x4 {Γ : jg_G} {X : Nat × (Nat → Int32)} {G : Nat → jg_C} (F : Nat) (τ : cT) (n : Nat) (c : cS) (a1 a2 : Int32) (hO : Sh τ n 0) (hn : n < 1000000) (hT : τ n = .inr (8, 0)) (h : o_X11_cell F τ n 0 c a1 a2 = some (.inr 4)) : jhc Γ mL_cell (hL_cell, X) 9 1 6 [some (.ref 0), some (.int a1), some (.int a2), some (.ref 191), none] (ct_h G τ c, n) (.inl (some (.int (nI 2)))) (ct_h (gx G n) τ c, n + 1) := by
  intro Q hQ
  refine jh_aload_n dL_cell_0 rfl ?_
  refine jh_iconst (v := nI 0) dL_cell_1 (by decide) ?_
  refine jh_aload_n dL_cell_2 rfl ?_
  refine jh_iload_n dL_cell_3 rfl ?_
  refine jh_iload_n dL_cell_4 rfl ?_
  refine jh_callV (q := 0) (As := [.int a1, .int a2]) (a' := 1) (b' := 6) kv_L_37 dL_cell_5 rfl hO.ob0.1 (ct_o hO.ob0) rfl (by decide) (Nat.le_of_ble_eq_true rfl) rfl (by decide) (Nat.le_refl _) (Nat.le_refl _) (Nat.le_of_ble_eq_true rfl) (x_X11_cell F τ n 0 c a1 a2 hO hn hT h (jq (.inr (exn 4)) _) ⟨rfl, rfl⟩) (fun v9 h9 e9 => nomatch e9.1) (fun E9 h9 e9 => ?_)
  obtain ⟨e1, e2⟩ := e9
  cases e1
  subst e2
  exact ⟨nI 2, ⟨4, [(0, 10, 13, 13)], [], 0, 10, 17, 40, by decide, rfl, rfl, (by intro z hz; simp only [List.mem_cons, List.not_mem_nil, or_false] at hz; rcases hz with rfl <;> first | exact ⟨by decide, 0, by decide, by decide, kc_L_13⟩), ⟨by decide, by decide⟩, by decide, kc_L_40, by decide, rfl, 2, 2, Or.inl ⟨4, dL_cell_17, rfl, by decide⟩, dL_cell_19, by decide, dL_cell_20⟩, hQ⟩
def mL_sound : jg_Md := (yL_sound, cL_sound, 6, some .int)
def hL_sound : List (Nat × Nat × Nat × Nat) := [(0, 12, 15, 13), (0, 12, 19, 15)]
theorem kL_sound : jh_Sc RL 163 mL_sound hL_sound 5 := ⟨(jg_m5 85 rfl rfl), (jg_m5 86 rfl rfl), wi_L, (jg_m5 87 rfl rfl), by decide, by decide, by decide +kernel, by decide +kernel⟩
theorem dL_sound_0 : decode cL_sound 0 = .ok (.aload 4, 2) := by decide +kernel
theorem dL_sound_2 : decode cL_sound 2 = .ok (.iconst 0, 1) := by decide +kernel
theorem dL_sound_3 : decode cL_sound 3 = .ok (.aload_n 0, 1) := by decide +kernel
theorem dL_sound_4 : decode cL_sound 4 = .ok (.iload_n 1, 1) := by decide +kernel
theorem dL_sound_5 : decode cL_sound 5 = .ok (.iload_n 2, 1) := by decide +kernel
theorem dL_sound_6 : decode cL_sound 6 = .ok (.iload_n 3, 1) := by decide +kernel
theorem dL_sound_7 : decode cL_sound 7 = .ok (.invokevirtual 42, 3) := by decide +kernel
theorem dL_sound_10 : decode cL_sound 10 = .ok (.i2l, 1) := by decide +kernel
theorem dL_sound_11 : decode cL_sound 11 = .ok (.lastore, 1) := by decide +kernel
theorem dL_sound_12 : decode cL_sound 12 = .ok (.goto 11, 3) := by decide +kernel
theorem dL_sound_15 : decode cL_sound 15 = .ok (.astore 5, 2) := by decide +kernel
theorem dL_sound_17 : decode cL_sound 17 = .ok (.iconst 1, 1) := by decide +kernel
theorem dL_sound_18 : decode cL_sound 18 = .ok (.ireturn, 1) := by decide +kernel
theorem dL_sound_19 : decode cL_sound 19 = .ok (.astore 5, 2) := by decide +kernel
theorem dL_sound_21 : decode cL_sound 21 = .ok (.iconst 2, 1) := by decide +kernel
theorem dL_sound_22 : decode cL_sound 22 = .ok (.ireturn, 1) := by decide +kernel
theorem dL_sound_23 : decode cL_sound 23 = .ok (.iconst 0, 1) := by decide +kernel
theorem dL_sound_24 : decode cL_sound 24 = .ok (.ireturn, 1) := by decide +kernel
set_option maxHeartbeats 1000000 in
theorem w_sound {Γ : jg_G} {X : Nat × (Nat → Int32)} {G : Nat → jg_C} (F : Nat) (τ : cT) (n : Nat) (c : cS) (a1 a2 a3 : Int32) (hO : Sh τ n 0) {f : Nat → Int64} (hG : G 191 = .inr (3, 1, .inr (.inl f))) (hτ : τ 191 = .inr (8, 0)) (h191 : 191 < n) {x : Int32 × cS} (h : o_X11_sound F τ n 0 c a1 a2 a3 = some (.inl x)) : jhc Γ mL_sound (hL_sound, X) 9 0 0 [some (.ref 0), some (.int a1), some (.int a2), some (.int a3), some (.ref 191), none] (ct_h G τ c, n) (.inl (some (.int (nI 0)))) (ct_h (va_up G 191 (.inr (3, 1, .inr (.inl (vp_updL f 0 x.1.toInt64))))) τ x.2, n) := by
  intro Q hQ
  refine jh_aload dL_sound_0 rfl ?_
  refine jh_iconst (v := nI 0) dL_sound_2 (by decide) ?_
  refine jh_aload_n dL_sound_3 rfl ?_
  refine jh_iload_n dL_sound_4 rfl ?_
  refine jh_iload_n dL_sound_5 rfl ?_
  refine jh_iload_n dL_sound_6 rfl ?_
  refine jh_callV (q := 0) (As := [.int a1, .int a2, .int a3]) (a' := 0) (b' := 0) kv_L_42 dL_sound_7 rfl hO.ob0.1 (ct_o hO.ob0) rfl (by decide) (Nat.le_of_ble_eq_true rfl) rfl (by decide) (Nat.le_refl _) (Nat.le_refl _) (Nat.le_of_ble_eq_true rfl) (t_X11_sound F τ n 0 c a1 a2 a3 hO h (jq (.inl (some (.int x.1))) _) ⟨rfl, rfl⟩) (fun v9 h9 e9 => ?_) (fun E9 h9 e9 => nomatch e9.1)
  obtain ⟨e1, e2⟩ := e9
  cases e1
  subst e2
  refine jh_hs (S' := [.int x.1, .int (nI 0), .ref 191]) (h' := (ct_h G τ x.2, n)) rfl rfl ?_
  refine jh_i2l dL_sound_10 ?_
  refine jh_last (q := 191) (n := 1) (f := f) (i := nI 0) dL_sound_11 h191 ((ct_base hτ).trans hG) (vp_iL (iL_t (by decide) (by decide))) ?_
  refine jh_hs (S' := []) (h' := (ct_h (va_up G 191 (.inr (3, 1, .inr (.inl (vp_updL f 0 x.1.toInt64))))) τ x.2, n)) rfl (congrArg (fun z => (z, n)) (ct_g hτ)) ?_
  refine jh_goto (tgt := 23) dL_sound_12 (by decide) ?_
  refine jh_iconst (v := nI 0) dL_sound_23 (by decide) ?_
  exact jh_ireturn dL_sound_24 rfl hQ
set_option maxHeartbeats 1000000 in
theorem w_sound_x0 {Γ : jg_G} {X : Nat × (Nat → Int32)} {G : Nat → jg_C} (F : Nat) (τ : cT) (n : Nat) (c : cS) (a1 a2 a3 : Int32) (hO : Sh τ n 0) (hn : n < 1000000) (hT : τ n = .inr (8, 0)) {y : cS} (h : o_X11_sound F τ n 0 c a1 a2 a3 = some (.inr (0, y))) : jhc Γ mL_sound (hL_sound, X) 9 1 6 [some (.ref 0), some (.int a1), some (.int a2), some (.int a3), some (.ref 191), none] (ct_h G τ c, n) (.inl (some (.int (nI 1)))) (ct_h (gx G n) τ y, n + 1) := by
  intro Q hQ
  refine jh_aload dL_sound_0 rfl ?_
  refine jh_iconst (v := nI 0) dL_sound_2 (by decide) ?_
  refine jh_aload_n dL_sound_3 rfl ?_
  refine jh_iload_n dL_sound_4 rfl ?_
  refine jh_iload_n dL_sound_5 rfl ?_
  refine jh_iload_n dL_sound_6 rfl ?_
  refine jh_callV (q := 0) (As := [.int a1, .int a2, .int a3]) (a' := 1) (b' := 6) kv_L_42 dL_sound_7 rfl hO.ob0.1 (ct_o hO.ob0) rfl (by decide) (Nat.le_of_ble_eq_true rfl) rfl (by decide) (Nat.le_refl _) (Nat.le_refl _) (Nat.le_of_ble_eq_true rfl) (x_X11_sound F τ n 0 c a1 a2 a3 hO hn hT h (jq (.inr (exn 0)) _) ⟨rfl, rfl⟩) (fun v9 h9 e9 => nomatch e9.1) (fun E9 h9 e9 => ?_)
  obtain ⟨e1, e2⟩ := e9
  cases e1
  subst e2
  exact ⟨nI 1, ⟨0, [], [(0, 12, 19, 15)], 0, 12, 15, 13, by decide, rfl, rfl, (fun z hz => nomatch hz), ⟨by decide, by decide⟩, by decide, kc_L_13, by decide, rfl, 2, 1, Or.inl ⟨5, dL_sound_15, rfl, by decide⟩, dL_sound_17, by decide, dL_sound_18⟩, hQ⟩
set_option maxHeartbeats 1000000 in
theorem w_sound_x1 {Γ : jg_G} {X : Nat × (Nat → Int32)} {G : Nat → jg_C} (F : Nat) (τ : cT) (n : Nat) (c : cS) (a1 a2 a3 : Int32) (hO : Sh τ n 0) (hn : n < 1000000) (hT : τ n = .inr (8, 0)) {y : cS} (h : o_X11_sound F τ n 0 c a1 a2 a3 = some (.inr (1, y))) : jhc Γ mL_sound (hL_sound, X) 9 1 6 [some (.ref 0), some (.int a1), some (.int a2), some (.int a3), some (.ref 191), none] (ct_h G τ c, n) (.inl (some (.int (nI 2)))) (ct_h (gx G n) τ y, n + 1) := by
  intro Q hQ
  refine jh_aload dL_sound_0 rfl ?_
  refine jh_iconst (v := nI 0) dL_sound_2 (by decide) ?_
  refine jh_aload_n dL_sound_3 rfl ?_
  refine jh_iload_n dL_sound_4 rfl ?_
  refine jh_iload_n dL_sound_5 rfl ?_
  refine jh_iload_n dL_sound_6 rfl ?_
  refine jh_callV (q := 0) (As := [.int a1, .int a2, .int a3]) (a' := 1) (b' := 6) kv_L_42 dL_sound_7 rfl hO.ob0.1 (ct_o hO.ob0) rfl (by decide) (Nat.le_of_ble_eq_true rfl) rfl (by decide) (Nat.le_refl _) (Nat.le_refl _) (Nat.le_of_ble_eq_true rfl) (x_X11_sound F τ n 0 c a1 a2 a3 hO hn hT h (jq (.inr (exn 1)) _) ⟨rfl, rfl⟩) (fun v9 h9 e9 => nomatch e9.1) (fun E9 h9 e9 => ?_)
  obtain ⟨e1, e2⟩ := e9
  cases e1
  subst e2
  exact ⟨nI 2, ⟨1, [(0, 12, 15, 13)], [], 0, 12, 19, 15, by decide, rfl, rfl, (by intro z hz; simp only [List.mem_cons, List.not_mem_nil, or_false] at hz; rcases hz with rfl <;> first | exact ⟨by decide, 0, by decide, by decide, kc_L_13⟩), ⟨by decide, by decide⟩, by decide, kc_L_15, by decide, rfl, 2, 2, Or.inl ⟨5, dL_sound_19, rfl, by decide⟩, dL_sound_21, by decide, dL_sound_22⟩, hQ⟩
def mL_known : jg_Md := (yL_known, cL_known, 5, some .int)
def hL_known : List (Nat × Nat × Nat × Nat) := [(0, 10, 13, 13)]
theorem kL_known : jh_Sc RL 166 mL_known hL_known 4 := ⟨(jg_m5 97 rfl rfl), (jg_m5 98 rfl rfl), wi_L, (jg_m5 99 rfl rfl), by decide, by decide, by decide +kernel, by decide +kernel⟩
theorem dL_known_0 : decode cL_known 0 = .ok (.aload_n 3, 1) := by decide +kernel
theorem dL_known_1 : decode cL_known 1 = .ok (.iconst 0, 1) := by decide +kernel
theorem dL_known_2 : decode cL_known 2 = .ok (.aload_n 0, 1) := by decide +kernel
theorem dL_known_3 : decode cL_known 3 = .ok (.iload_n 1, 1) := by decide +kernel
theorem dL_known_4 : decode cL_known 4 = .ok (.iload_n 2, 1) := by decide +kernel
theorem dL_known_5 : decode cL_known 5 = .ok (.invokevirtual 46, 3) := by decide +kernel
theorem dL_known_8 : decode cL_known 8 = .ok (.i2l, 1) := by decide +kernel
theorem dL_known_9 : decode cL_known 9 = .ok (.lastore, 1) := by decide +kernel
theorem dL_known_10 : decode cL_known 10 = .ok (.goto 7, 3) := by decide +kernel
theorem dL_known_13 : decode cL_known 13 = .ok (.astore 4, 2) := by decide +kernel
theorem dL_known_15 : decode cL_known 15 = .ok (.iconst 1, 1) := by decide +kernel
theorem dL_known_16 : decode cL_known 16 = .ok (.ireturn, 1) := by decide +kernel
theorem dL_known_17 : decode cL_known 17 = .ok (.iconst 0, 1) := by decide +kernel
theorem dL_known_18 : decode cL_known 18 = .ok (.ireturn, 1) := by decide +kernel
set_option maxHeartbeats 1000000 in
theorem w_known {Γ : jg_G} {X : Nat × (Nat → Int32)} {G : Nat → jg_C} (F : Nat) (τ : cT) (n : Nat) (c : cS) (a1 a2 : Int32) (hO : Sh τ n 0) {f : Nat → Int64} (hG : G 191 = .inr (3, 1, .inr (.inl f))) (hτ : τ 191 = .inr (8, 0)) (h191 : 191 < n) {x : Int32} (h : o_X11_known F τ n 0 c a1 a2 = some (.inl x)) : jhc Γ mL_known (hL_known, X) 9 0 0 [some (.ref 0), some (.int a1), some (.int a2), some (.ref 191), none] (ct_h G τ c, n) (.inl (some (.int (nI 0)))) (ct_h (va_up G 191 (.inr (3, 1, .inr (.inl (vp_updL f 0 x.toInt64))))) τ c, n) := by
  intro Q hQ
  refine jh_aload_n dL_known_0 rfl ?_
  refine jh_iconst (v := nI 0) dL_known_1 (by decide) ?_
  refine jh_aload_n dL_known_2 rfl ?_
  refine jh_iload_n dL_known_3 rfl ?_
  refine jh_iload_n dL_known_4 rfl ?_
  refine jh_callV (q := 0) (As := [.int a1, .int a2]) (a' := 0) (b' := 0) kv_L_46 dL_known_5 rfl hO.ob0.1 (ct_o hO.ob0) rfl (by decide) (Nat.le_of_ble_eq_true rfl) rfl (by decide) (Nat.le_refl _) (Nat.le_refl _) (Nat.le_of_ble_eq_true rfl) (t_X11_known F τ n 0 c a1 a2 hO h (jq (.inl (some (.int x))) _) ⟨rfl, rfl⟩) (fun v9 h9 e9 => ?_) (fun E9 h9 e9 => nomatch e9.1)
  obtain ⟨e1, e2⟩ := e9
  cases e1
  subst e2
  refine jh_hs (S' := [.int x, .int (nI 0), .ref 191]) (h' := (ct_h G τ c, n)) rfl rfl ?_
  refine jh_i2l dL_known_8 ?_
  refine jh_last (q := 191) (n := 1) (f := f) (i := nI 0) dL_known_9 h191 ((ct_base hτ).trans hG) (vp_iL (iL_t (by decide) (by decide))) ?_
  refine jh_hs (S' := []) (h' := (ct_h (va_up G 191 (.inr (3, 1, .inr (.inl (vp_updL f 0 x.toInt64))))) τ c, n)) rfl (congrArg (fun z => (z, n)) (ct_g hτ)) ?_
  refine jh_goto (tgt := 17) dL_known_10 (by decide) ?_
  refine jh_iconst (v := nI 0) dL_known_17 (by decide) ?_
  exact jh_ireturn dL_known_18 rfl hQ
set_option maxHeartbeats 1000000 in
theorem w_known_x0 {Γ : jg_G} {X : Nat × (Nat → Int32)} {G : Nat → jg_C} (F : Nat) (τ : cT) (n : Nat) (c : cS) (a1 a2 : Int32) (hO : Sh τ n 0) (hn : n < 1000000) (hT : τ n = .inr (8, 0)) (h : o_X11_known F τ n 0 c a1 a2 = some (.inr 0)) : jhc Γ mL_known (hL_known, X) 9 1 6 [some (.ref 0), some (.int a1), some (.int a2), some (.ref 191), none] (ct_h G τ c, n) (.inl (some (.int (nI 1)))) (ct_h (gx G n) τ c, n + 1) := by
  intro Q hQ
  refine jh_aload_n dL_known_0 rfl ?_
  refine jh_iconst (v := nI 0) dL_known_1 (by decide) ?_
  refine jh_aload_n dL_known_2 rfl ?_
  refine jh_iload_n dL_known_3 rfl ?_
  refine jh_iload_n dL_known_4 rfl ?_
  refine jh_callV (q := 0) (As := [.int a1, .int a2]) (a' := 1) (b' := 6) kv_L_46 dL_known_5 rfl hO.ob0.1 (ct_o hO.ob0) rfl (by decide) (Nat.le_of_ble_eq_true rfl) rfl (by decide) (Nat.le_refl _) (Nat.le_refl _) (Nat.le_of_ble_eq_true rfl) (x_X11_known F τ n 0 c a1 a2 hO hn hT h (jq (.inr (exn 0)) _) ⟨rfl, rfl⟩) (fun v9 h9 e9 => nomatch e9.1) (fun E9 h9 e9 => ?_)
  obtain ⟨e1, e2⟩ := e9
  cases e1
  subst e2
  exact ⟨nI 1, ⟨0, [], [], 0, 10, 13, 13, by decide, rfl, rfl, (fun z hz => nomatch hz), ⟨by decide, by decide⟩, by decide, kc_L_13, by decide, rfl, 2, 1, Or.inl ⟨4, dL_known_13, rfl, by decide⟩, dL_known_15, by decide, dL_known_16⟩, hQ⟩
def mL_berth : jg_Md := (yL_berth, cL_berth, 7, some .int)
def hL_berth : List (Nat × Nat × Nat × Nat) := [(0, 14, 17, 13), (0, 14, 21, 15), (0, 14, 25, 31)]
theorem kL_berth : jh_Sc RL 169 mL_berth hL_berth 6 := ⟨(jg_m5 104 rfl rfl), (jg_m5 105 rfl rfl), wi_L, (jg_m5 106 rfl rfl), by decide, by decide, by decide +kernel, by decide +kernel⟩
theorem dL_berth_0 : decode cL_berth 0 = .ok (.aload 5, 2) := by decide +kernel
theorem dL_berth_2 : decode cL_berth 2 = .ok (.iconst 0, 1) := by decide +kernel
theorem dL_berth_3 : decode cL_berth 3 = .ok (.aload_n 0, 1) := by decide +kernel
theorem dL_berth_4 : decode cL_berth 4 = .ok (.iload_n 1, 1) := by decide +kernel
theorem dL_berth_5 : decode cL_berth 5 = .ok (.iload_n 2, 1) := by decide +kernel
theorem dL_berth_6 : decode cL_berth 6 = .ok (.iload_n 3, 1) := by decide +kernel
theorem dL_berth_7 : decode cL_berth 7 = .ok (.iload 4, 2) := by decide +kernel
theorem dL_berth_9 : decode cL_berth 9 = .ok (.invokevirtual 49, 3) := by decide +kernel
theorem dL_berth_12 : decode cL_berth 12 = .ok (.i2l, 1) := by decide +kernel
theorem dL_berth_13 : decode cL_berth 13 = .ok (.lastore, 1) := by decide +kernel
theorem dL_berth_14 : decode cL_berth 14 = .ok (.goto 15, 3) := by decide +kernel
theorem dL_berth_17 : decode cL_berth 17 = .ok (.astore 6, 2) := by decide +kernel
theorem dL_berth_19 : decode cL_berth 19 = .ok (.iconst 1, 1) := by decide +kernel
theorem dL_berth_20 : decode cL_berth 20 = .ok (.ireturn, 1) := by decide +kernel
theorem dL_berth_21 : decode cL_berth 21 = .ok (.astore 6, 2) := by decide +kernel
theorem dL_berth_23 : decode cL_berth 23 = .ok (.iconst 2, 1) := by decide +kernel
theorem dL_berth_24 : decode cL_berth 24 = .ok (.ireturn, 1) := by decide +kernel
theorem dL_berth_25 : decode cL_berth 25 = .ok (.astore 6, 2) := by decide +kernel
theorem dL_berth_27 : decode cL_berth 27 = .ok (.iconst 3, 1) := by decide +kernel
theorem dL_berth_28 : decode cL_berth 28 = .ok (.ireturn, 1) := by decide +kernel
theorem dL_berth_29 : decode cL_berth 29 = .ok (.iconst 0, 1) := by decide +kernel
theorem dL_berth_30 : decode cL_berth 30 = .ok (.ireturn, 1) := by decide +kernel
set_option maxHeartbeats 1000000 in
theorem w_berth {Γ : jg_G} {X : Nat × (Nat → Int32)} {G : Nat → jg_C} (τ : cT) (n : Nat) (c : cS) (a1 a2 a3 a4 : Int32) (hO : Sh τ n 0) {f : Nat → Int64} (hG : G 191 = .inr (3, 1, .inr (.inl f))) (hτ : τ 191 = .inr (8, 0)) (h191 : 191 < n) {x : Int32 × cS} (h : o_X11_berth τ n 0 c a1 a2 a3 a4 = some (.inl x)) : jhc Γ mL_berth (hL_berth, X) 9 0 0 [some (.ref 0), some (.int a1), some (.int a2), some (.int a3), some (.int a4), some (.ref 191), none] (ct_h G τ c, n) (.inl (some (.int (nI 0)))) (ct_h (va_up G 191 (.inr (3, 1, .inr (.inl (vp_updL f 0 x.1.toInt64))))) τ x.2, n) := by
  intro Q hQ
  refine jh_aload dL_berth_0 rfl ?_
  refine jh_iconst (v := nI 0) dL_berth_2 (by decide) ?_
  refine jh_aload_n dL_berth_3 rfl ?_
  refine jh_iload_n dL_berth_4 rfl ?_
  refine jh_iload_n dL_berth_5 rfl ?_
  refine jh_iload_n dL_berth_6 rfl ?_
  refine jh_iload dL_berth_7 rfl ?_
  refine jh_callV (q := 0) (As := [.int a1, .int a2, .int a3, .int a4]) (a' := 0) (b' := 0) kv_L_49 dL_berth_9 rfl hO.ob0.1 (ct_o hO.ob0) rfl (by decide) (Nat.le_of_ble_eq_true rfl) rfl (by decide) (Nat.le_refl _) (Nat.le_refl _) (Nat.le_of_ble_eq_true rfl) (t_X11_berth τ n 0 c a1 a2 a3 a4 hO h (jq (.inl (some (.int x.1))) _) ⟨rfl, rfl⟩) (fun v9 h9 e9 => ?_) (fun E9 h9 e9 => nomatch e9.1)
  obtain ⟨e1, e2⟩ := e9
  cases e1
  subst e2
  refine jh_hs (S' := [.int x.1, .int (nI 0), .ref 191]) (h' := (ct_h G τ x.2, n)) rfl rfl ?_
  refine jh_i2l dL_berth_12 ?_
  refine jh_last (q := 191) (n := 1) (f := f) (i := nI 0) dL_berth_13 h191 ((ct_base hτ).trans hG) (vp_iL (iL_t (by decide) (by decide))) ?_
  refine jh_hs (S' := []) (h' := (ct_h (va_up G 191 (.inr (3, 1, .inr (.inl (vp_updL f 0 x.1.toInt64))))) τ x.2, n)) rfl (congrArg (fun z => (z, n)) (ct_g hτ)) ?_
  refine jh_goto (tgt := 29) dL_berth_14 (by decide) ?_
  refine jh_iconst (v := nI 0) dL_berth_29 (by decide) ?_
  exact jh_ireturn dL_berth_30 rfl hQ
set_option maxHeartbeats 1000000 in
theorem w_berth_x0 {Γ : jg_G} {X : Nat × (Nat → Int32)} {G : Nat → jg_C} (τ : cT) (n : Nat) (c : cS) (a1 a2 a3 a4 : Int32) (hO : Sh τ n 0) (hn : n < 1000000) (hT : τ n = .inr (8, 0)) {y : cS} (h : o_X11_berth τ n 0 c a1 a2 a3 a4 = some (.inr (0, y))) : jhc Γ mL_berth (hL_berth, X) 9 1 6 [some (.ref 0), some (.int a1), some (.int a2), some (.int a3), some (.int a4), some (.ref 191), none] (ct_h G τ c, n) (.inl (some (.int (nI 1)))) (ct_h (gx G n) τ y, n + 1) := by
  intro Q hQ
  refine jh_aload dL_berth_0 rfl ?_
  refine jh_iconst (v := nI 0) dL_berth_2 (by decide) ?_
  refine jh_aload_n dL_berth_3 rfl ?_
  refine jh_iload_n dL_berth_4 rfl ?_
  refine jh_iload_n dL_berth_5 rfl ?_
  refine jh_iload_n dL_berth_6 rfl ?_
  refine jh_iload dL_berth_7 rfl ?_
  refine jh_callV (q := 0) (As := [.int a1, .int a2, .int a3, .int a4]) (a' := 1) (b' := 6) kv_L_49 dL_berth_9 rfl hO.ob0.1 (ct_o hO.ob0) rfl (by decide) (Nat.le_of_ble_eq_true rfl) rfl (by decide) (Nat.le_refl _) (Nat.le_refl _) (Nat.le_of_ble_eq_true rfl) (x_X11_berth τ n 0 c a1 a2 a3 a4 hO hn hT h (jq (.inr (exn 0)) _) ⟨rfl, rfl⟩) (fun v9 h9 e9 => nomatch e9.1) (fun E9 h9 e9 => ?_)
  obtain ⟨e1, e2⟩ := e9
  cases e1
  subst e2
  exact ⟨nI 1, ⟨0, [], [(0, 14, 21, 15), (0, 14, 25, 31)], 0, 14, 17, 13, by decide, rfl, rfl, (fun z hz => nomatch hz), ⟨by decide, by decide⟩, by decide, kc_L_13, by decide, rfl, 2, 1, Or.inl ⟨6, dL_berth_17, rfl, by decide⟩, dL_berth_19, by decide, dL_berth_20⟩, hQ⟩
set_option maxHeartbeats 1000000 in
theorem w_berth_x1 {Γ : jg_G} {X : Nat × (Nat → Int32)} {G : Nat → jg_C} (τ : cT) (n : Nat) (c : cS) (a1 a2 a3 a4 : Int32) (hO : Sh τ n 0) (hn : n < 1000000) (hT : τ n = .inr (8, 0)) {y : cS} (h : o_X11_berth τ n 0 c a1 a2 a3 a4 = some (.inr (1, y))) : jhc Γ mL_berth (hL_berth, X) 9 1 6 [some (.ref 0), some (.int a1), some (.int a2), some (.int a3), some (.int a4), some (.ref 191), none] (ct_h G τ c, n) (.inl (some (.int (nI 2)))) (ct_h (gx G n) τ y, n + 1) := by
  intro Q hQ
  refine jh_aload dL_berth_0 rfl ?_
  refine jh_iconst (v := nI 0) dL_berth_2 (by decide) ?_
  refine jh_aload_n dL_berth_3 rfl ?_
  refine jh_iload_n dL_berth_4 rfl ?_
  refine jh_iload_n dL_berth_5 rfl ?_
  refine jh_iload_n dL_berth_6 rfl ?_
  refine jh_iload dL_berth_7 rfl ?_
  refine jh_callV (q := 0) (As := [.int a1, .int a2, .int a3, .int a4]) (a' := 1) (b' := 6) kv_L_49 dL_berth_9 rfl hO.ob0.1 (ct_o hO.ob0) rfl (by decide) (Nat.le_of_ble_eq_true rfl) rfl (by decide) (Nat.le_refl _) (Nat.le_refl _) (Nat.le_of_ble_eq_true rfl) (x_X11_berth τ n 0 c a1 a2 a3 a4 hO hn hT h (jq (.inr (exn 1)) _) ⟨rfl, rfl⟩) (fun v9 h9 e9 => nomatch e9.1) (fun E9 h9 e9 => ?_)
  obtain ⟨e1, e2⟩ := e9
  cases e1
  subst e2
  exact ⟨nI 2, ⟨1, [(0, 14, 17, 13)], [(0, 14, 25, 31)], 0, 14, 21, 15, by decide, rfl, rfl, (by intro z hz; simp only [List.mem_cons, List.not_mem_nil, or_false] at hz; rcases hz with rfl <;> first | exact ⟨by decide, 0, by decide, by decide, kc_L_13⟩), ⟨by decide, by decide⟩, by decide, kc_L_15, by decide, rfl, 2, 2, Or.inl ⟨6, dL_berth_21, rfl, by decide⟩, dL_berth_23, by decide, dL_berth_24⟩, hQ⟩
set_option maxHeartbeats 1000000 in
theorem w_berth_x3 {Γ : jg_G} {X : Nat × (Nat → Int32)} {G : Nat → jg_C} (τ : cT) (n : Nat) (c : cS) (a1 a2 a3 a4 : Int32) (hO : Sh τ n 0) (hn : n < 1000000) (hT : τ n = .inr (8, 0)) {y : cS} (h : o_X11_berth τ n 0 c a1 a2 a3 a4 = some (.inr (3, y))) : jhc Γ mL_berth (hL_berth, X) 9 1 6 [some (.ref 0), some (.int a1), some (.int a2), some (.int a3), some (.int a4), some (.ref 191), none] (ct_h G τ c, n) (.inl (some (.int (nI 3)))) (ct_h (gx G n) τ y, n + 1) := by
  intro Q hQ
  refine jh_aload dL_berth_0 rfl ?_
  refine jh_iconst (v := nI 0) dL_berth_2 (by decide) ?_
  refine jh_aload_n dL_berth_3 rfl ?_
  refine jh_iload_n dL_berth_4 rfl ?_
  refine jh_iload_n dL_berth_5 rfl ?_
  refine jh_iload_n dL_berth_6 rfl ?_
  refine jh_iload dL_berth_7 rfl ?_
  refine jh_callV (q := 0) (As := [.int a1, .int a2, .int a3, .int a4]) (a' := 1) (b' := 6) kv_L_49 dL_berth_9 rfl hO.ob0.1 (ct_o hO.ob0) rfl (by decide) (Nat.le_of_ble_eq_true rfl) rfl (by decide) (Nat.le_refl _) (Nat.le_refl _) (Nat.le_of_ble_eq_true rfl) (x_X11_berth τ n 0 c a1 a2 a3 a4 hO hn hT h (jq (.inr (exn 3)) _) ⟨rfl, rfl⟩) (fun v9 h9 e9 => nomatch e9.1) (fun E9 h9 e9 => ?_)
  obtain ⟨e1, e2⟩ := e9
  cases e1
  subst e2
  exact ⟨nI 3, ⟨3, [(0, 14, 17, 13), (0, 14, 21, 15)], [], 0, 14, 25, 31, by decide, rfl, rfl, (by intro z hz; simp only [List.mem_cons, List.not_mem_nil, or_false] at hz; rcases hz with rfl | rfl <;> first | exact ⟨by decide, 0, by decide, by decide, kc_L_13⟩ | exact ⟨by decide, 1, by decide, by decide, kc_L_15⟩), ⟨by decide, by decide⟩, by decide, kc_L_31, by decide, rfl, 2, 3, Or.inl ⟨6, dL_berth_25, rfl, by decide⟩, dL_berth_27, by decide, dL_berth_28⟩, hQ⟩
def mL_hands : jg_Md := (yL_hands, cL_hands, 4, some .int)
def hL_hands : List (Nat × Nat × Nat × Nat) := [(0, 6, 9, 15)]
theorem kL_hands : jh_Sc RL 173 mL_hands hL_hands 3 := ⟨(jg_m5 120 rfl rfl), (jg_m5 121 rfl rfl), wi_L, (jg_m5 122 rfl rfl), by decide, by decide, by decide +kernel, by decide +kernel⟩
theorem dL_hands_0 : decode cL_hands 0 = .ok (.aload_n 0, 1) := by decide +kernel
theorem dL_hands_1 : decode cL_hands 1 = .ok (.iload_n 1, 1) := by decide +kernel
theorem dL_hands_2 : decode cL_hands 2 = .ok (.iload_n 2, 1) := by decide +kernel
theorem dL_hands_3 : decode cL_hands 3 = .ok (.invokevirtual 53, 3) := by decide +kernel
theorem dL_hands_6 : decode cL_hands 6 = .ok (.goto 6, 3) := by decide +kernel
theorem dL_hands_9 : decode cL_hands 9 = .ok (.astore_n 3, 1) := by decide +kernel
theorem dL_hands_10 : decode cL_hands 10 = .ok (.iconst 1, 1) := by decide +kernel
theorem dL_hands_11 : decode cL_hands 11 = .ok (.ireturn, 1) := by decide +kernel
theorem dL_hands_12 : decode cL_hands 12 = .ok (.iconst 0, 1) := by decide +kernel
theorem dL_hands_13 : decode cL_hands 13 = .ok (.ireturn, 1) := by decide +kernel
set_option maxHeartbeats 1000000 in
theorem w_hands {Γ : jg_G} {X : Nat × (Nat → Int32)} {G : Nat → jg_C} (τ : cT) (n : Nat) (c : cS) (a1 a2 : Int32) (hO : Sh τ n 0) {x : cS} (h : o_X11_hands τ n 0 c a1 a2 = some (.inl x)) : jhc Γ mL_hands (hL_hands, X) 8 0 0 [some (.ref 0), some (.int a1), some (.int a2), none] (ct_h G τ c, n) (.inl (some (.int (nI 0)))) (ct_h G τ x, n) := by
  intro Q hQ
  refine jh_aload_n dL_hands_0 rfl ?_
  refine jh_iload_n dL_hands_1 rfl ?_
  refine jh_iload_n dL_hands_2 rfl ?_
  refine jh_callV (q := 0) (As := [.int a1, .int a2]) (a' := 0) (b' := 0) kv_L_53 dL_hands_3 rfl hO.ob0.1 (ct_o hO.ob0) rfl (by decide) (Nat.le_of_ble_eq_true rfl) rfl (by decide) (Nat.le_refl _) (Nat.le_refl _) (Nat.le_of_ble_eq_true rfl) (t_X11_hands τ n 0 c a1 a2 hO h (jq (.inl none) _) ⟨rfl, rfl⟩) (fun v9 h9 e9 => ?_) (fun E9 h9 e9 => nomatch e9.1)
  obtain ⟨e1, e2⟩ := e9
  cases e1
  subst e2
  refine jh_hs (S' := []) (h' := (ct_h G τ x, n)) rfl rfl ?_
  refine jh_goto (tgt := 12) dL_hands_6 (by decide) ?_
  refine jh_iconst (v := nI 0) dL_hands_12 (by decide) ?_
  exact jh_ireturn dL_hands_13 rfl hQ
set_option maxHeartbeats 1000000 in
theorem w_hands_x1 {Γ : jg_G} {X : Nat × (Nat → Int32)} {G : Nat → jg_C} (τ : cT) (n : Nat) (c : cS) (a1 a2 : Int32) (hO : Sh τ n 0) (hn : n < 1000000) (hT : τ n = .inr (8, 0)) {y : cS} (h : o_X11_hands τ n 0 c a1 a2 = some (.inr (1, y))) : jhc Γ mL_hands (hL_hands, X) 8 1 6 [some (.ref 0), some (.int a1), some (.int a2), none] (ct_h G τ c, n) (.inl (some (.int (nI 1)))) (ct_h (gx G n) τ y, n + 1) := by
  intro Q hQ
  refine jh_aload_n dL_hands_0 rfl ?_
  refine jh_iload_n dL_hands_1 rfl ?_
  refine jh_iload_n dL_hands_2 rfl ?_
  refine jh_callV (q := 0) (As := [.int a1, .int a2]) (a' := 1) (b' := 6) kv_L_53 dL_hands_3 rfl hO.ob0.1 (ct_o hO.ob0) rfl (by decide) (Nat.le_of_ble_eq_true rfl) rfl (by decide) (Nat.le_refl _) (Nat.le_refl _) (Nat.le_of_ble_eq_true rfl) (x_X11_hands τ n 0 c a1 a2 hO hn hT h (jq (.inr (exn 1)) _) ⟨rfl, rfl⟩) (fun v9 h9 e9 => nomatch e9.1) (fun E9 h9 e9 => ?_)
  obtain ⟨e1, e2⟩ := e9
  cases e1
  subst e2
  exact ⟨nI 1, ⟨1, [], [], 0, 6, 9, 15, by decide, rfl, rfl, (fun z hz => nomatch hz), ⟨by decide, by decide⟩, by decide, kc_L_15, by decide, rfl, 1, 1, Or.inr ⟨3, dL_hands_9, rfl, by decide⟩, dL_hands_10, by decide, dL_hands_11⟩, hQ⟩
def mL_payer : jg_Md := (yL_payer, cL_payer, 3, some .int)
def hL_payer : List (Nat × Nat × Nat × Nat) := [(0, 8, 11, 31)]
theorem kL_payer : jh_Sc RL 176 mL_payer hL_payer 2 := ⟨(jg_m5 127 rfl rfl), (jg_m5 128 rfl rfl), wi_L, (jg_m5 129 rfl rfl), by decide, by decide, by decide +kernel, by decide +kernel⟩
theorem dL_payer_0 : decode cL_payer 0 = .ok (.aload_n 1, 1) := by decide +kernel
theorem dL_payer_1 : decode cL_payer 1 = .ok (.iconst 0, 1) := by decide +kernel
theorem dL_payer_2 : decode cL_payer 2 = .ok (.aload_n 0, 1) := by decide +kernel
theorem dL_payer_3 : decode cL_payer 3 = .ok (.invokevirtual 56, 3) := by decide +kernel
theorem dL_payer_6 : decode cL_payer 6 = .ok (.i2l, 1) := by decide +kernel
theorem dL_payer_7 : decode cL_payer 7 = .ok (.lastore, 1) := by decide +kernel
theorem dL_payer_8 : decode cL_payer 8 = .ok (.goto 6, 3) := by decide +kernel
theorem dL_payer_11 : decode cL_payer 11 = .ok (.astore_n 2, 1) := by decide +kernel
theorem dL_payer_12 : decode cL_payer 12 = .ok (.iconst 1, 1) := by decide +kernel
theorem dL_payer_13 : decode cL_payer 13 = .ok (.ireturn, 1) := by decide +kernel
theorem dL_payer_14 : decode cL_payer 14 = .ok (.iconst 0, 1) := by decide +kernel
theorem dL_payer_15 : decode cL_payer 15 = .ok (.ireturn, 1) := by decide +kernel
set_option maxHeartbeats 1000000 in
theorem w_payer {Γ : jg_G} {X : Nat × (Nat → Int32)} {G : Nat → jg_C} (τ : cT) (n : Nat) (c : cS) (hO : Sh τ n 0) {f : Nat → Int64} (hG : G 191 = .inr (3, 1, .inr (.inl f))) (hτ : τ 191 = .inr (8, 0)) (h191 : 191 < n) {x : Int32 × cS} (h : o_X11_payer τ n 0 c = some (.inl x)) : jhc Γ mL_payer (hL_payer, X) 8 0 0 [some (.ref 0), some (.ref 191), none] (ct_h G τ c, n) (.inl (some (.int (nI 0)))) (ct_h (va_up G 191 (.inr (3, 1, .inr (.inl (vp_updL f 0 x.1.toInt64))))) τ x.2, n) := by
  intro Q hQ
  refine jh_aload_n dL_payer_0 rfl ?_
  refine jh_iconst (v := nI 0) dL_payer_1 (by decide) ?_
  refine jh_aload_n dL_payer_2 rfl ?_
  refine jh_callV (q := 0) (As := []) (a' := 0) (b' := 0) kv_L_56 dL_payer_3 rfl hO.ob0.1 (ct_o hO.ob0) rfl (by decide) (Nat.le_of_ble_eq_true rfl) rfl (by decide) (Nat.le_refl _) (Nat.le_refl _) (Nat.le_of_ble_eq_true rfl) (t_X11_payer τ n 0 c  hO h (jq (.inl (some (.int x.1))) _) ⟨rfl, rfl⟩) (fun v9 h9 e9 => ?_) (fun E9 h9 e9 => nomatch e9.1)
  obtain ⟨e1, e2⟩ := e9
  cases e1
  subst e2
  refine jh_hs (S' := [.int x.1, .int (nI 0), .ref 191]) (h' := (ct_h G τ x.2, n)) rfl rfl ?_
  refine jh_i2l dL_payer_6 ?_
  refine jh_last (q := 191) (n := 1) (f := f) (i := nI 0) dL_payer_7 h191 ((ct_base hτ).trans hG) (vp_iL (iL_t (by decide) (by decide))) ?_
  refine jh_hs (S' := []) (h' := (ct_h (va_up G 191 (.inr (3, 1, .inr (.inl (vp_updL f 0 x.1.toInt64))))) τ x.2, n)) rfl (congrArg (fun z => (z, n)) (ct_g hτ)) ?_
  refine jh_goto (tgt := 14) dL_payer_8 (by decide) ?_
  refine jh_iconst (v := nI 0) dL_payer_14 (by decide) ?_
  exact jh_ireturn dL_payer_15 rfl hQ
set_option maxHeartbeats 1000000 in
theorem w_payer_x3 {Γ : jg_G} {X : Nat × (Nat → Int32)} {G : Nat → jg_C} (τ : cT) (n : Nat) (c : cS) (hO : Sh τ n 0) (hn : n < 1000000) (hT : τ n = .inr (8, 0)) {y : cS} (h : o_X11_payer τ n 0 c = some (.inr (3, y))) : jhc Γ mL_payer (hL_payer, X) 8 1 6 [some (.ref 0), some (.ref 191), none] (ct_h G τ c, n) (.inl (some (.int (nI 1)))) (ct_h (gx G n) τ y, n + 1) := by
  intro Q hQ
  refine jh_aload_n dL_payer_0 rfl ?_
  refine jh_iconst (v := nI 0) dL_payer_1 (by decide) ?_
  refine jh_aload_n dL_payer_2 rfl ?_
  refine jh_callV (q := 0) (As := []) (a' := 1) (b' := 6) kv_L_56 dL_payer_3 rfl hO.ob0.1 (ct_o hO.ob0) rfl (by decide) (Nat.le_of_ble_eq_true rfl) rfl (by decide) (Nat.le_refl _) (Nat.le_refl _) (Nat.le_of_ble_eq_true rfl) (x_X11_payer τ n 0 c  hO hn hT h (jq (.inr (exn 3)) _) ⟨rfl, rfl⟩) (fun v9 h9 e9 => nomatch e9.1) (fun E9 h9 e9 => ?_)
  obtain ⟨e1, e2⟩ := e9
  cases e1
  subst e2
  exact ⟨nI 1, ⟨3, [], [], 0, 8, 11, 31, by decide, rfl, rfl, (fun z hz => nomatch hz), ⟨by decide, by decide⟩, by decide, kc_L_31, by decide, rfl, 1, 1, Or.inr ⟨2, dL_payer_11, rfl, by decide⟩, dL_payer_12, by decide, dL_payer_13⟩, hQ⟩
def mL_ship : jg_Md := (yL_ship, cL_ship, 11, some .int)
def hL_ship : List (Nat × Nat × Nat × Nat) := [(0, 22, 25, 13), (0, 22, 29, 15), (0, 22, 33, 31)]
theorem kL_ship : jh_Sc RL 180 mL_ship hL_ship 10 := ⟨(jg_m5 138 rfl rfl), (jg_m5 139 rfl rfl), wi_L, (jg_m5 140 rfl rfl), by decide, by decide, by decide +kernel, by decide +kernel⟩
theorem dL_ship_0 : decode cL_ship 0 = .ok (.aload 9, 2) := by decide +kernel
theorem dL_ship_2 : decode cL_ship 2 = .ok (.iconst 0, 1) := by decide +kernel
theorem dL_ship_3 : decode cL_ship 3 = .ok (.aload_n 0, 1) := by decide +kernel
theorem dL_ship_4 : decode cL_ship 4 = .ok (.iload_n 1, 1) := by decide +kernel
theorem dL_ship_5 : decode cL_ship 5 = .ok (.iload_n 2, 1) := by decide +kernel
theorem dL_ship_6 : decode cL_ship 6 = .ok (.iload_n 3, 1) := by decide +kernel
theorem dL_ship_7 : decode cL_ship 7 = .ok (.iload 4, 2) := by decide +kernel
theorem dL_ship_9 : decode cL_ship 9 = .ok (.iload 5, 2) := by decide +kernel
theorem dL_ship_11 : decode cL_ship 11 = .ok (.iload 6, 2) := by decide +kernel
theorem dL_ship_13 : decode cL_ship 13 = .ok (.iload 7, 2) := by decide +kernel
theorem dL_ship_15 : decode cL_ship 15 = .ok (.iload 8, 2) := by decide +kernel
theorem dL_ship_17 : decode cL_ship 17 = .ok (.invokevirtual 60, 3) := by decide +kernel
theorem dL_ship_20 : decode cL_ship 20 = .ok (.i2l, 1) := by decide +kernel
theorem dL_ship_21 : decode cL_ship 21 = .ok (.lastore, 1) := by decide +kernel
theorem dL_ship_22 : decode cL_ship 22 = .ok (.goto 15, 3) := by decide +kernel
theorem dL_ship_25 : decode cL_ship 25 = .ok (.astore 10, 2) := by decide +kernel
theorem dL_ship_27 : decode cL_ship 27 = .ok (.iconst 1, 1) := by decide +kernel
theorem dL_ship_28 : decode cL_ship 28 = .ok (.ireturn, 1) := by decide +kernel
theorem dL_ship_29 : decode cL_ship 29 = .ok (.astore 10, 2) := by decide +kernel
theorem dL_ship_31 : decode cL_ship 31 = .ok (.iconst 2, 1) := by decide +kernel
theorem dL_ship_32 : decode cL_ship 32 = .ok (.ireturn, 1) := by decide +kernel
theorem dL_ship_33 : decode cL_ship 33 = .ok (.astore 10, 2) := by decide +kernel
theorem dL_ship_35 : decode cL_ship 35 = .ok (.iconst 3, 1) := by decide +kernel
theorem dL_ship_36 : decode cL_ship 36 = .ok (.ireturn, 1) := by decide +kernel
theorem dL_ship_37 : decode cL_ship 37 = .ok (.iconst 0, 1) := by decide +kernel
theorem dL_ship_38 : decode cL_ship 38 = .ok (.ireturn, 1) := by decide +kernel
set_option maxHeartbeats 1000000 in
theorem w_ship {Γ : jg_G} {X : Nat × (Nat → Int32)} {G : Nat → jg_C} (F : Nat) (τ : cT) (n : Nat) (c : cS) (a1 a2 a3 a4 a5 a6 a7 a8 : Int32) (hO : Sh τ n 0) {f : Nat → Int64} (hG : G 191 = .inr (3, 1, .inr (.inl f))) (hτ : τ 191 = .inr (8, 0)) (h191 : 191 < n) {x : Int32 × cS} (h : o_X11_ship F τ n 0 c a1 a2 a3 a4 a5 a6 a7 a8 = some (.inl x)) : jhc Γ mL_ship (hL_ship, X) 8 0 0 [some (.ref 0), some (.int a1), some (.int a2), some (.int a3), some (.int a4), some (.int a5), some (.int a6), some (.int a7), some (.int a8), some (.ref 191), none] (ct_h G τ c, n) (.inl (some (.int (nI 0)))) (ct_h (va_up G 191 (.inr (3, 1, .inr (.inl (vp_updL f 0 x.1.toInt64))))) τ x.2, n) := by
  intro Q hQ
  refine jh_aload dL_ship_0 rfl ?_
  refine jh_iconst (v := nI 0) dL_ship_2 (by decide) ?_
  refine jh_aload_n dL_ship_3 rfl ?_
  refine jh_iload_n dL_ship_4 rfl ?_
  refine jh_iload_n dL_ship_5 rfl ?_
  refine jh_iload_n dL_ship_6 rfl ?_
  refine jh_iload dL_ship_7 rfl ?_
  refine jh_iload dL_ship_9 rfl ?_
  refine jh_iload dL_ship_11 rfl ?_
  refine jh_iload dL_ship_13 rfl ?_
  refine jh_iload dL_ship_15 rfl ?_
  refine jh_callV (q := 0) (As := [.int a1, .int a2, .int a3, .int a4, .int a5, .int a6, .int a7, .int a8]) (a' := 0) (b' := 0) kv_L_60 dL_ship_17 rfl hO.ob0.1 (ct_o hO.ob0) rfl (by decide) (Nat.le_of_ble_eq_true rfl) rfl (by decide) (Nat.le_refl _) (Nat.le_refl _) (Nat.le_of_ble_eq_true rfl) (t_X11_ship F τ n 0 c a1 a2 a3 a4 a5 a6 a7 a8 hO h (jq (.inl (some (.int x.1))) _) ⟨rfl, rfl⟩) (fun v9 h9 e9 => ?_) (fun E9 h9 e9 => nomatch e9.1)
  obtain ⟨e1, e2⟩ := e9
  cases e1
  subst e2
  refine jh_hs (S' := [.int x.1, .int (nI 0), .ref 191]) (h' := (ct_h G τ x.2, n)) rfl rfl ?_
  refine jh_i2l dL_ship_20 ?_
  refine jh_last (q := 191) (n := 1) (f := f) (i := nI 0) dL_ship_21 h191 ((ct_base hτ).trans hG) (vp_iL (iL_t (by decide) (by decide))) ?_
  refine jh_hs (S' := []) (h' := (ct_h (va_up G 191 (.inr (3, 1, .inr (.inl (vp_updL f 0 x.1.toInt64))))) τ x.2, n)) rfl (congrArg (fun z => (z, n)) (ct_g hτ)) ?_
  refine jh_goto (tgt := 37) dL_ship_22 (by decide) ?_
  refine jh_iconst (v := nI 0) dL_ship_37 (by decide) ?_
  exact jh_ireturn dL_ship_38 rfl hQ
set_option maxHeartbeats 1000000 in
theorem w_ship_x0 {Γ : jg_G} {X : Nat × (Nat → Int32)} {G : Nat → jg_C} (F : Nat) (τ : cT) (n : Nat) (c : cS) (a1 a2 a3 a4 a5 a6 a7 a8 : Int32) (hO : Sh τ n 0) (hn : n < 1000000) (hT : τ n = .inr (8, 0)) {y : cS} (h : o_X11_ship F τ n 0 c a1 a2 a3 a4 a5 a6 a7 a8 = some (.inr (0, y))) : jhc Γ mL_ship (hL_ship, X) 8 1 6 [some (.ref 0), some (.int a1), some (.int a2), some (.int a3), some (.int a4), some (.int a5), some (.int a6), some (.int a7), some (.int a8), some (.ref 191), none] (ct_h G τ c, n) (.inl (some (.int (nI 1)))) (ct_h (gx G n) τ y, n + 1) := by
  intro Q hQ
  refine jh_aload dL_ship_0 rfl ?_
  refine jh_iconst (v := nI 0) dL_ship_2 (by decide) ?_
  refine jh_aload_n dL_ship_3 rfl ?_
  refine jh_iload_n dL_ship_4 rfl ?_
  refine jh_iload_n dL_ship_5 rfl ?_
  refine jh_iload_n dL_ship_6 rfl ?_
  refine jh_iload dL_ship_7 rfl ?_
  refine jh_iload dL_ship_9 rfl ?_
  refine jh_iload dL_ship_11 rfl ?_
  refine jh_iload dL_ship_13 rfl ?_
  refine jh_iload dL_ship_15 rfl ?_
  refine jh_callV (q := 0) (As := [.int a1, .int a2, .int a3, .int a4, .int a5, .int a6, .int a7, .int a8]) (a' := 1) (b' := 6) kv_L_60 dL_ship_17 rfl hO.ob0.1 (ct_o hO.ob0) rfl (by decide) (Nat.le_of_ble_eq_true rfl) rfl (by decide) (Nat.le_refl _) (Nat.le_refl _) (Nat.le_of_ble_eq_true rfl) (x_X11_ship F τ n 0 c a1 a2 a3 a4 a5 a6 a7 a8 hO hn hT h (jq (.inr (exn 0)) _) ⟨rfl, rfl⟩) (fun v9 h9 e9 => nomatch e9.1) (fun E9 h9 e9 => ?_)
  obtain ⟨e1, e2⟩ := e9
  cases e1
  subst e2
  exact ⟨nI 1, ⟨0, [], [(0, 22, 29, 15), (0, 22, 33, 31)], 0, 22, 25, 13, by decide, rfl, rfl, (fun z hz => nomatch hz), ⟨by decide, by decide⟩, by decide, kc_L_13, by decide, rfl, 2, 1, Or.inl ⟨10, dL_ship_25, rfl, by decide⟩, dL_ship_27, by decide, dL_ship_28⟩, hQ⟩
set_option maxHeartbeats 1000000 in
theorem w_ship_x1 {Γ : jg_G} {X : Nat × (Nat → Int32)} {G : Nat → jg_C} (F : Nat) (τ : cT) (n : Nat) (c : cS) (a1 a2 a3 a4 a5 a6 a7 a8 : Int32) (hO : Sh τ n 0) (hn : n < 1000000) (hT : τ n = .inr (8, 0)) {y : cS} (h : o_X11_ship F τ n 0 c a1 a2 a3 a4 a5 a6 a7 a8 = some (.inr (1, y))) : jhc Γ mL_ship (hL_ship, X) 8 1 6 [some (.ref 0), some (.int a1), some (.int a2), some (.int a3), some (.int a4), some (.int a5), some (.int a6), some (.int a7), some (.int a8), some (.ref 191), none] (ct_h G τ c, n) (.inl (some (.int (nI 2)))) (ct_h (gx G n) τ y, n + 1) := by
  intro Q hQ
  refine jh_aload dL_ship_0 rfl ?_
  refine jh_iconst (v := nI 0) dL_ship_2 (by decide) ?_
  refine jh_aload_n dL_ship_3 rfl ?_
  refine jh_iload_n dL_ship_4 rfl ?_
  refine jh_iload_n dL_ship_5 rfl ?_
  refine jh_iload_n dL_ship_6 rfl ?_
  refine jh_iload dL_ship_7 rfl ?_
  refine jh_iload dL_ship_9 rfl ?_
  refine jh_iload dL_ship_11 rfl ?_
  refine jh_iload dL_ship_13 rfl ?_
  refine jh_iload dL_ship_15 rfl ?_
  refine jh_callV (q := 0) (As := [.int a1, .int a2, .int a3, .int a4, .int a5, .int a6, .int a7, .int a8]) (a' := 1) (b' := 6) kv_L_60 dL_ship_17 rfl hO.ob0.1 (ct_o hO.ob0) rfl (by decide) (Nat.le_of_ble_eq_true rfl) rfl (by decide) (Nat.le_refl _) (Nat.le_refl _) (Nat.le_of_ble_eq_true rfl) (x_X11_ship F τ n 0 c a1 a2 a3 a4 a5 a6 a7 a8 hO hn hT h (jq (.inr (exn 1)) _) ⟨rfl, rfl⟩) (fun v9 h9 e9 => nomatch e9.1) (fun E9 h9 e9 => ?_)
  obtain ⟨e1, e2⟩ := e9
  cases e1
  subst e2
  exact ⟨nI 2, ⟨1, [(0, 22, 25, 13)], [(0, 22, 33, 31)], 0, 22, 29, 15, by decide, rfl, rfl, (by intro z hz; simp only [List.mem_cons, List.not_mem_nil, or_false] at hz; rcases hz with rfl <;> first | exact ⟨by decide, 0, by decide, by decide, kc_L_13⟩), ⟨by decide, by decide⟩, by decide, kc_L_15, by decide, rfl, 2, 2, Or.inl ⟨10, dL_ship_29, rfl, by decide⟩, dL_ship_31, by decide, dL_ship_32⟩, hQ⟩
set_option maxHeartbeats 1000000 in
theorem w_ship_x3 {Γ : jg_G} {X : Nat × (Nat → Int32)} {G : Nat → jg_C} (F : Nat) (τ : cT) (n : Nat) (c : cS) (a1 a2 a3 a4 a5 a6 a7 a8 : Int32) (hO : Sh τ n 0) (hn : n < 1000000) (hT : τ n = .inr (8, 0)) {y : cS} (h : o_X11_ship F τ n 0 c a1 a2 a3 a4 a5 a6 a7 a8 = some (.inr (3, y))) : jhc Γ mL_ship (hL_ship, X) 8 1 6 [some (.ref 0), some (.int a1), some (.int a2), some (.int a3), some (.int a4), some (.int a5), some (.int a6), some (.int a7), some (.int a8), some (.ref 191), none] (ct_h G τ c, n) (.inl (some (.int (nI 3)))) (ct_h (gx G n) τ y, n + 1) := by
  intro Q hQ
  refine jh_aload dL_ship_0 rfl ?_
  refine jh_iconst (v := nI 0) dL_ship_2 (by decide) ?_
  refine jh_aload_n dL_ship_3 rfl ?_
  refine jh_iload_n dL_ship_4 rfl ?_
  refine jh_iload_n dL_ship_5 rfl ?_
  refine jh_iload_n dL_ship_6 rfl ?_
  refine jh_iload dL_ship_7 rfl ?_
  refine jh_iload dL_ship_9 rfl ?_
  refine jh_iload dL_ship_11 rfl ?_
  refine jh_iload dL_ship_13 rfl ?_
  refine jh_iload dL_ship_15 rfl ?_
  refine jh_callV (q := 0) (As := [.int a1, .int a2, .int a3, .int a4, .int a5, .int a6, .int a7, .int a8]) (a' := 1) (b' := 6) kv_L_60 dL_ship_17 rfl hO.ob0.1 (ct_o hO.ob0) rfl (by decide) (Nat.le_of_ble_eq_true rfl) rfl (by decide) (Nat.le_refl _) (Nat.le_refl _) (Nat.le_of_ble_eq_true rfl) (x_X11_ship F τ n 0 c a1 a2 a3 a4 a5 a6 a7 a8 hO hn hT h (jq (.inr (exn 3)) _) ⟨rfl, rfl⟩) (fun v9 h9 e9 => nomatch e9.1) (fun E9 h9 e9 => ?_)
  obtain ⟨e1, e2⟩ := e9
  cases e1
  subst e2
  exact ⟨nI 3, ⟨3, [(0, 22, 25, 13), (0, 22, 29, 15)], [], 0, 22, 33, 31, by decide, rfl, rfl, (by intro z hz; simp only [List.mem_cons, List.not_mem_nil, or_false] at hz; rcases hz with rfl | rfl <;> first | exact ⟨by decide, 0, by decide, by decide, kc_L_13⟩ | exact ⟨by decide, 1, by decide, by decide, kc_L_15⟩), ⟨by decide, by decide⟩, by decide, kc_L_31, by decide, rfl, 2, 3, Or.inl ⟨10, dL_ship_33, rfl, by decide⟩, dL_ship_35, by decide, dL_ship_36⟩, hQ⟩
def mL_hours : jg_Md := (yL_hours, cL_hours, 4, some .int)
def hL_hours : List (Nat × Nat × Nat × Nat) := [(0, 9, 12, 15)]
theorem kL_hours : jh_Sc RL 184 mL_hours hL_hours 3 := ⟨(jg_m5 151 rfl rfl), (jg_m5 152 rfl rfl), wi_L, (jg_m5 153 rfl rfl), by decide, by decide, by decide +kernel, by decide +kernel⟩
theorem dL_hours_0 : decode cL_hours 0 = .ok (.aload_n 2, 1) := by decide +kernel
theorem dL_hours_1 : decode cL_hours 1 = .ok (.iconst 0, 1) := by decide +kernel
theorem dL_hours_2 : decode cL_hours 2 = .ok (.aload_n 0, 1) := by decide +kernel
theorem dL_hours_3 : decode cL_hours 3 = .ok (.iload_n 1, 1) := by decide +kernel
theorem dL_hours_4 : decode cL_hours 4 = .ok (.invokevirtual 64, 3) := by decide +kernel
theorem dL_hours_7 : decode cL_hours 7 = .ok (.i2l, 1) := by decide +kernel
theorem dL_hours_8 : decode cL_hours 8 = .ok (.lastore, 1) := by decide +kernel
theorem dL_hours_9 : decode cL_hours 9 = .ok (.goto 6, 3) := by decide +kernel
theorem dL_hours_12 : decode cL_hours 12 = .ok (.astore_n 3, 1) := by decide +kernel
theorem dL_hours_13 : decode cL_hours 13 = .ok (.iconst 1, 1) := by decide +kernel
theorem dL_hours_14 : decode cL_hours 14 = .ok (.ireturn, 1) := by decide +kernel
theorem dL_hours_15 : decode cL_hours 15 = .ok (.iconst 0, 1) := by decide +kernel
theorem dL_hours_16 : decode cL_hours 16 = .ok (.ireturn, 1) := by decide +kernel
set_option maxHeartbeats 1000000 in
theorem w_hours {Γ : jg_G} {X : Nat × (Nat → Int32)} {G : Nat → jg_C} (F : Nat) (τ : cT) (n : Nat) (c : cS) (a1 : Int32) (hO : Sh τ n 0) {f : Nat → Int64} (hG : G 191 = .inr (3, 1, .inr (.inl f))) (hτ : τ 191 = .inr (8, 0)) (h191 : 191 < n) {x : Int32 × cS} (h : o_X11_hours F τ n 0 c a1 = some (.inl x)) : jhc Γ mL_hours (hL_hours, X) 8 0 0 [some (.ref 0), some (.int a1), some (.ref 191), none] (ct_h G τ c, n) (.inl (some (.int (nI 0)))) (ct_h (va_up G 191 (.inr (3, 1, .inr (.inl (vp_updL f 0 x.1.toInt64))))) τ x.2, n) := by
  intro Q hQ
  refine jh_aload_n dL_hours_0 rfl ?_
  refine jh_iconst (v := nI 0) dL_hours_1 (by decide) ?_
  refine jh_aload_n dL_hours_2 rfl ?_
  refine jh_iload_n dL_hours_3 rfl ?_
  refine jh_callV (q := 0) (As := [.int a1]) (a' := 0) (b' := 0) kv_L_64 dL_hours_4 rfl hO.ob0.1 (ct_o hO.ob0) rfl (by decide) (Nat.le_of_ble_eq_true rfl) rfl (by decide) (Nat.le_refl _) (Nat.le_refl _) (Nat.le_of_ble_eq_true rfl) (t_X11_hours F τ n 0 c a1 hO h (jq (.inl (some (.int x.1))) _) ⟨rfl, rfl⟩) (fun v9 h9 e9 => ?_) (fun E9 h9 e9 => nomatch e9.1)
  obtain ⟨e1, e2⟩ := e9
  cases e1
  subst e2
  refine jh_hs (S' := [.int x.1, .int (nI 0), .ref 191]) (h' := (ct_h G τ x.2, n)) rfl rfl ?_
  refine jh_i2l dL_hours_7 ?_
  refine jh_last (q := 191) (n := 1) (f := f) (i := nI 0) dL_hours_8 h191 ((ct_base hτ).trans hG) (vp_iL (iL_t (by decide) (by decide))) ?_
  refine jh_hs (S' := []) (h' := (ct_h (va_up G 191 (.inr (3, 1, .inr (.inl (vp_updL f 0 x.1.toInt64))))) τ x.2, n)) rfl (congrArg (fun z => (z, n)) (ct_g hτ)) ?_
  refine jh_goto (tgt := 15) dL_hours_9 (by decide) ?_
  refine jh_iconst (v := nI 0) dL_hours_15 (by decide) ?_
  exact jh_ireturn dL_hours_16 rfl hQ
set_option maxHeartbeats 1000000 in
theorem w_hours_x1 {Γ : jg_G} {X : Nat × (Nat → Int32)} {G : Nat → jg_C} (F : Nat) (τ : cT) (n : Nat) (c : cS) (a1 : Int32) (hO : Sh τ n 0) (hn : n < 1000000) (hT : τ n = .inr (8, 0)) {y : cS} (h : o_X11_hours F τ n 0 c a1 = some (.inr (1, y))) : jhc Γ mL_hours (hL_hours, X) 8 1 6 [some (.ref 0), some (.int a1), some (.ref 191), none] (ct_h G τ c, n) (.inl (some (.int (nI 1)))) (ct_h (gx G n) τ y, n + 1) := by
  intro Q hQ
  refine jh_aload_n dL_hours_0 rfl ?_
  refine jh_iconst (v := nI 0) dL_hours_1 (by decide) ?_
  refine jh_aload_n dL_hours_2 rfl ?_
  refine jh_iload_n dL_hours_3 rfl ?_
  refine jh_callV (q := 0) (As := [.int a1]) (a' := 1) (b' := 6) kv_L_64 dL_hours_4 rfl hO.ob0.1 (ct_o hO.ob0) rfl (by decide) (Nat.le_of_ble_eq_true rfl) rfl (by decide) (Nat.le_refl _) (Nat.le_refl _) (Nat.le_of_ble_eq_true rfl) (x_X11_hours F τ n 0 c a1 hO hn hT h (jq (.inr (exn 1)) _) ⟨rfl, rfl⟩) (fun v9 h9 e9 => nomatch e9.1) (fun E9 h9 e9 => ?_)
  obtain ⟨e1, e2⟩ := e9
  cases e1
  subst e2
  exact ⟨nI 1, ⟨1, [], [], 0, 9, 12, 15, by decide, rfl, rfl, (fun z hz => nomatch hz), ⟨by decide, by decide⟩, by decide, kc_L_15, by decide, rfl, 1, 1, Or.inr ⟨3, dL_hours_12, rfl, by decide⟩, dL_hours_13, by decide, dL_hours_14⟩, hQ⟩
def mL_led : jg_Md := (yL_led, cL_led, 5, some .int)
def hL_led : List (Nat × Nat × Nat × Nat) := [(0, 10, 13, 13), (0, 10, 17, 40)]
theorem kL_led : jh_Sc RL 187 mL_led hL_led 4 := ⟨(jg_m6 64 rfl rfl), (jg_m6 65 rfl rfl), wi_L, (jg_m6 66 rfl rfl), by decide, by decide, by decide +kernel, by decide +kernel⟩
theorem dL_led_0 : decode cL_led 0 = .ok (.aload_n 3, 1) := by decide +kernel
theorem dL_led_1 : decode cL_led 1 = .ok (.iconst 0, 1) := by decide +kernel
theorem dL_led_2 : decode cL_led 2 = .ok (.aload_n 0, 1) := by decide +kernel
theorem dL_led_3 : decode cL_led 3 = .ok (.iload_n 1, 1) := by decide +kernel
theorem dL_led_4 : decode cL_led 4 = .ok (.iload_n 2, 1) := by decide +kernel
theorem dL_led_5 : decode cL_led 5 = .ok (.invokevirtual 67, 3) := by decide +kernel
theorem dL_led_8 : decode cL_led 8 = .ok (.i2l, 1) := by decide +kernel
theorem dL_led_9 : decode cL_led 9 = .ok (.lastore, 1) := by decide +kernel
theorem dL_led_10 : decode cL_led 10 = .ok (.goto 11, 3) := by decide +kernel
theorem dL_led_13 : decode cL_led 13 = .ok (.astore 4, 2) := by decide +kernel
theorem dL_led_15 : decode cL_led 15 = .ok (.iconst 1, 1) := by decide +kernel
theorem dL_led_16 : decode cL_led 16 = .ok (.ireturn, 1) := by decide +kernel
theorem dL_led_17 : decode cL_led 17 = .ok (.astore 4, 2) := by decide +kernel
theorem dL_led_19 : decode cL_led 19 = .ok (.iconst 2, 1) := by decide +kernel
theorem dL_led_20 : decode cL_led 20 = .ok (.ireturn, 1) := by decide +kernel
theorem dL_led_21 : decode cL_led 21 = .ok (.iconst 0, 1) := by decide +kernel
theorem dL_led_22 : decode cL_led 22 = .ok (.ireturn, 1) := by decide +kernel
set_option maxHeartbeats 1000000 in
theorem w_led {Γ : jg_G} {X : Nat × (Nat → Int32)} {G : Nat → jg_C} (F : Nat) (τ : cT) (n : Nat) (c : cS) (a1 a2 : Int32) (hO : Sh τ n 0) {f : Nat → Int64} (hG : G 191 = .inr (3, 1, .inr (.inl f))) (hτ : τ 191 = .inr (8, 0)) (h191 : 191 < n) {x : Int32 × cS} (h : o_X11_led F τ n 0 c a1 a2 = some (.inl x)) : jhc Γ mL_led (hL_led, X) 8 0 0 [some (.ref 0), some (.int a1), some (.int a2), some (.ref 191), none] (ct_h G τ c, n) (.inl (some (.int (nI 0)))) (ct_h (va_up G 191 (.inr (3, 1, .inr (.inl (vp_updL f 0 x.1.toInt64))))) τ x.2, n) := by
  intro Q hQ
  refine jh_aload_n dL_led_0 rfl ?_
  refine jh_iconst (v := nI 0) dL_led_1 (by decide) ?_
  refine jh_aload_n dL_led_2 rfl ?_
  refine jh_iload_n dL_led_3 rfl ?_
  refine jh_iload_n dL_led_4 rfl ?_
  refine jh_callV (q := 0) (As := [.int a1, .int a2]) (a' := 0) (b' := 0) kv_L_67 dL_led_5 rfl hO.ob0.1 (ct_o hO.ob0) rfl (by decide) (Nat.le_of_ble_eq_true rfl) rfl (by decide) (Nat.le_refl _) (Nat.le_refl _) (Nat.le_of_ble_eq_true rfl) (t_X11_led F τ n 0 c a1 a2 hO h (jq (.inl (some (.int x.1))) _) ⟨rfl, rfl⟩) (fun v9 h9 e9 => ?_) (fun E9 h9 e9 => nomatch e9.1)
  obtain ⟨e1, e2⟩ := e9
  cases e1
  subst e2
  refine jh_hs (S' := [.int x.1, .int (nI 0), .ref 191]) (h' := (ct_h G τ x.2, n)) rfl rfl ?_
  refine jh_i2l dL_led_8 ?_
  refine jh_last (q := 191) (n := 1) (f := f) (i := nI 0) dL_led_9 h191 ((ct_base hτ).trans hG) (vp_iL (iL_t (by decide) (by decide))) ?_
  refine jh_hs (S' := []) (h' := (ct_h (va_up G 191 (.inr (3, 1, .inr (.inl (vp_updL f 0 x.1.toInt64))))) τ x.2, n)) rfl (congrArg (fun z => (z, n)) (ct_g hτ)) ?_
  refine jh_goto (tgt := 21) dL_led_10 (by decide) ?_
  refine jh_iconst (v := nI 0) dL_led_21 (by decide) ?_
  exact jh_ireturn dL_led_22 rfl hQ
set_option maxHeartbeats 1000000 in
theorem w_led_x0 {Γ : jg_G} {X : Nat × (Nat → Int32)} {G : Nat → jg_C} (F : Nat) (τ : cT) (n : Nat) (c : cS) (a1 a2 : Int32) (hO : Sh τ n 0) (hn : n < 1000000) (hT : τ n = .inr (8, 0)) {y : cS} (h : o_X11_led F τ n 0 c a1 a2 = some (.inr (0, y))) : jhc Γ mL_led (hL_led, X) 8 1 6 [some (.ref 0), some (.int a1), some (.int a2), some (.ref 191), none] (ct_h G τ c, n) (.inl (some (.int (nI 1)))) (ct_h (gx G n) τ y, n + 1) := by
  intro Q hQ
  refine jh_aload_n dL_led_0 rfl ?_
  refine jh_iconst (v := nI 0) dL_led_1 (by decide) ?_
  refine jh_aload_n dL_led_2 rfl ?_
  refine jh_iload_n dL_led_3 rfl ?_
  refine jh_iload_n dL_led_4 rfl ?_
  refine jh_callV (q := 0) (As := [.int a1, .int a2]) (a' := 1) (b' := 6) kv_L_67 dL_led_5 rfl hO.ob0.1 (ct_o hO.ob0) rfl (by decide) (Nat.le_of_ble_eq_true rfl) rfl (by decide) (Nat.le_refl _) (Nat.le_refl _) (Nat.le_of_ble_eq_true rfl) (x_X11_led F τ n 0 c a1 a2 hO hn hT h (jq (.inr (exn 0)) _) ⟨rfl, rfl⟩) (fun v9 h9 e9 => nomatch e9.1) (fun E9 h9 e9 => ?_)
  obtain ⟨e1, e2⟩ := e9
  cases e1
  subst e2
  exact ⟨nI 1, ⟨0, [], [(0, 10, 17, 40)], 0, 10, 13, 13, by decide, rfl, rfl, (fun z hz => nomatch hz), ⟨by decide, by decide⟩, by decide, kc_L_13, by decide, rfl, 2, 1, Or.inl ⟨4, dL_led_13, rfl, by decide⟩, dL_led_15, by decide, dL_led_16⟩, hQ⟩
set_option maxHeartbeats 1000000 in
theorem w_led_x4 {Γ : jg_G} {X : Nat × (Nat → Int32)} {G : Nat → jg_C} (F : Nat) (τ : cT) (n : Nat) (c : cS) (a1 a2 : Int32) (hO : Sh τ n 0) (hn : n < 1000000) (hT : τ n = .inr (8, 0)) {y : cS} (h : o_X11_led F τ n 0 c a1 a2 = some (.inr (4, y))) : jhc Γ mL_led (hL_led, X) 8 1 6 [some (.ref 0), some (.int a1), some (.int a2), some (.ref 191), none] (ct_h G τ c, n) (.inl (some (.int (nI 2)))) (ct_h (gx G n) τ y, n + 1) := by
  intro Q hQ
  refine jh_aload_n dL_led_0 rfl ?_
  refine jh_iconst (v := nI 0) dL_led_1 (by decide) ?_
  refine jh_aload_n dL_led_2 rfl ?_
  refine jh_iload_n dL_led_3 rfl ?_
  refine jh_iload_n dL_led_4 rfl ?_
  refine jh_callV (q := 0) (As := [.int a1, .int a2]) (a' := 1) (b' := 6) kv_L_67 dL_led_5 rfl hO.ob0.1 (ct_o hO.ob0) rfl (by decide) (Nat.le_of_ble_eq_true rfl) rfl (by decide) (Nat.le_refl _) (Nat.le_refl _) (Nat.le_of_ble_eq_true rfl) (x_X11_led F τ n 0 c a1 a2 hO hn hT h (jq (.inr (exn 4)) _) ⟨rfl, rfl⟩) (fun v9 h9 e9 => nomatch e9.1) (fun E9 h9 e9 => ?_)
  obtain ⟨e1, e2⟩ := e9
  cases e1
  subst e2
  exact ⟨nI 2, ⟨4, [(0, 10, 13, 13)], [], 0, 10, 17, 40, by decide, rfl, rfl, (by intro z hz; simp only [List.mem_cons, List.not_mem_nil, or_false] at hz; rcases hz with rfl <;> first | exact ⟨by decide, 0, by decide, by decide, kc_L_13⟩), ⟨by decide, by decide⟩, by decide, kc_L_40, by decide, rfl, 2, 2, Or.inl ⟨4, dL_led_17, rfl, by decide⟩, dL_led_19, by decide, dL_led_20⟩, hQ⟩
def mL_quay : jg_Md := (yL_quay, cL_quay, 5, some .int)
def hL_quay : List (Nat × Nat × Nat × Nat) := [(0, 10, 13, 13), (0, 10, 17, 40)]
theorem kL_quay : jh_Sc RL 190 mL_quay hL_quay 4 := ⟨(jg_m6 78 rfl rfl), (jg_m6 79 rfl rfl), wi_L, (jg_m6 80 rfl rfl), by decide, by decide, by decide +kernel, by decide +kernel⟩
theorem dL_quay_0 : decode cL_quay 0 = .ok (.aload_n 3, 1) := by decide +kernel
theorem dL_quay_1 : decode cL_quay 1 = .ok (.iconst 0, 1) := by decide +kernel
theorem dL_quay_2 : decode cL_quay 2 = .ok (.aload_n 0, 1) := by decide +kernel
theorem dL_quay_3 : decode cL_quay 3 = .ok (.iload_n 1, 1) := by decide +kernel
theorem dL_quay_4 : decode cL_quay 4 = .ok (.iload_n 2, 1) := by decide +kernel
theorem dL_quay_5 : decode cL_quay 5 = .ok (.invokevirtual 70, 3) := by decide +kernel
theorem dL_quay_8 : decode cL_quay 8 = .ok (.i2l, 1) := by decide +kernel
theorem dL_quay_9 : decode cL_quay 9 = .ok (.lastore, 1) := by decide +kernel
theorem dL_quay_10 : decode cL_quay 10 = .ok (.goto 11, 3) := by decide +kernel
theorem dL_quay_13 : decode cL_quay 13 = .ok (.astore 4, 2) := by decide +kernel
theorem dL_quay_15 : decode cL_quay 15 = .ok (.iconst 1, 1) := by decide +kernel
theorem dL_quay_16 : decode cL_quay 16 = .ok (.ireturn, 1) := by decide +kernel
theorem dL_quay_17 : decode cL_quay 17 = .ok (.astore 4, 2) := by decide +kernel
theorem dL_quay_19 : decode cL_quay 19 = .ok (.iconst 2, 1) := by decide +kernel
theorem dL_quay_20 : decode cL_quay 20 = .ok (.ireturn, 1) := by decide +kernel
theorem dL_quay_21 : decode cL_quay 21 = .ok (.iconst 0, 1) := by decide +kernel
theorem dL_quay_22 : decode cL_quay 22 = .ok (.ireturn, 1) := by decide +kernel
set_option maxHeartbeats 1000000 in
theorem w_quay {Γ : jg_G} {X : Nat × (Nat → Int32)} {G : Nat → jg_C} (τ : cT) (n : Nat) (c : cS) (a1 a2 : Int32) (hO : Sh τ n 0) {f : Nat → Int64} (hG : G 191 = .inr (3, 1, .inr (.inl f))) (hτ : τ 191 = .inr (8, 0)) (h191 : 191 < n) {x : Int32} (h : o_X11_quay τ n 0 c a1 a2 = some (.inl x)) : jhc Γ mL_quay (hL_quay, X) 8 0 0 [some (.ref 0), some (.int a1), some (.int a2), some (.ref 191), none] (ct_h G τ c, n) (.inl (some (.int (nI 0)))) (ct_h (va_up G 191 (.inr (3, 1, .inr (.inl (vp_updL f 0 x.toInt64))))) τ c, n) := by
  intro Q hQ
  refine jh_aload_n dL_quay_0 rfl ?_
  refine jh_iconst (v := nI 0) dL_quay_1 (by decide) ?_
  refine jh_aload_n dL_quay_2 rfl ?_
  refine jh_iload_n dL_quay_3 rfl ?_
  refine jh_iload_n dL_quay_4 rfl ?_
  refine jh_callV (q := 0) (As := [.int a1, .int a2]) (a' := 0) (b' := 0) kv_L_70 dL_quay_5 rfl hO.ob0.1 (ct_o hO.ob0) rfl (by decide) (Nat.le_of_ble_eq_true rfl) rfl (by decide) (Nat.le_refl _) (Nat.le_refl _) (Nat.le_of_ble_eq_true rfl) (t_X11_quay τ n 0 c a1 a2 hO h (jq (.inl (some (.int x))) _) ⟨rfl, rfl⟩) (fun v9 h9 e9 => ?_) (fun E9 h9 e9 => nomatch e9.1)
  obtain ⟨e1, e2⟩ := e9
  cases e1
  subst e2
  refine jh_hs (S' := [.int x, .int (nI 0), .ref 191]) (h' := (ct_h G τ c, n)) rfl rfl ?_
  refine jh_i2l dL_quay_8 ?_
  refine jh_last (q := 191) (n := 1) (f := f) (i := nI 0) dL_quay_9 h191 ((ct_base hτ).trans hG) (vp_iL (iL_t (by decide) (by decide))) ?_
  refine jh_hs (S' := []) (h' := (ct_h (va_up G 191 (.inr (3, 1, .inr (.inl (vp_updL f 0 x.toInt64))))) τ c, n)) rfl (congrArg (fun z => (z, n)) (ct_g hτ)) ?_
  refine jh_goto (tgt := 21) dL_quay_10 (by decide) ?_
  refine jh_iconst (v := nI 0) dL_quay_21 (by decide) ?_
  exact jh_ireturn dL_quay_22 rfl hQ
set_option maxHeartbeats 1000000 in
theorem w_quay_x0 {Γ : jg_G} {X : Nat × (Nat → Int32)} {G : Nat → jg_C} (τ : cT) (n : Nat) (c : cS) (a1 a2 : Int32) (hO : Sh τ n 0) (hn : n < 1000000) (hT : τ n = .inr (8, 0)) (h : o_X11_quay τ n 0 c a1 a2 = some (.inr 0)) : jhc Γ mL_quay (hL_quay, X) 8 1 6 [some (.ref 0), some (.int a1), some (.int a2), some (.ref 191), none] (ct_h G τ c, n) (.inl (some (.int (nI 1)))) (ct_h (gx G n) τ c, n + 1) := by
  intro Q hQ
  refine jh_aload_n dL_quay_0 rfl ?_
  refine jh_iconst (v := nI 0) dL_quay_1 (by decide) ?_
  refine jh_aload_n dL_quay_2 rfl ?_
  refine jh_iload_n dL_quay_3 rfl ?_
  refine jh_iload_n dL_quay_4 rfl ?_
  refine jh_callV (q := 0) (As := [.int a1, .int a2]) (a' := 1) (b' := 6) kv_L_70 dL_quay_5 rfl hO.ob0.1 (ct_o hO.ob0) rfl (by decide) (Nat.le_of_ble_eq_true rfl) rfl (by decide) (Nat.le_refl _) (Nat.le_refl _) (Nat.le_of_ble_eq_true rfl) (x_X11_quay τ n 0 c a1 a2 hO hn hT h (jq (.inr (exn 0)) _) ⟨rfl, rfl⟩) (fun v9 h9 e9 => nomatch e9.1) (fun E9 h9 e9 => ?_)
  obtain ⟨e1, e2⟩ := e9
  cases e1
  subst e2
  exact ⟨nI 1, ⟨0, [], [(0, 10, 17, 40)], 0, 10, 13, 13, by decide, rfl, rfl, (fun z hz => nomatch hz), ⟨by decide, by decide⟩, by decide, kc_L_13, by decide, rfl, 2, 1, Or.inl ⟨4, dL_quay_13, rfl, by decide⟩, dL_quay_15, by decide, dL_quay_16⟩, hQ⟩
set_option maxHeartbeats 1000000 in
theorem w_quay_x4 {Γ : jg_G} {X : Nat × (Nat → Int32)} {G : Nat → jg_C} (τ : cT) (n : Nat) (c : cS) (a1 a2 : Int32) (hO : Sh τ n 0) (hn : n < 1000000) (hT : τ n = .inr (8, 0)) (h : o_X11_quay τ n 0 c a1 a2 = some (.inr 4)) : jhc Γ mL_quay (hL_quay, X) 8 1 6 [some (.ref 0), some (.int a1), some (.int a2), some (.ref 191), none] (ct_h G τ c, n) (.inl (some (.int (nI 2)))) (ct_h (gx G n) τ c, n + 1) := by
  intro Q hQ
  refine jh_aload_n dL_quay_0 rfl ?_
  refine jh_iconst (v := nI 0) dL_quay_1 (by decide) ?_
  refine jh_aload_n dL_quay_2 rfl ?_
  refine jh_iload_n dL_quay_3 rfl ?_
  refine jh_iload_n dL_quay_4 rfl ?_
  refine jh_callV (q := 0) (As := [.int a1, .int a2]) (a' := 1) (b' := 6) kv_L_70 dL_quay_5 rfl hO.ob0.1 (ct_o hO.ob0) rfl (by decide) (Nat.le_of_ble_eq_true rfl) rfl (by decide) (Nat.le_refl _) (Nat.le_refl _) (Nat.le_of_ble_eq_true rfl) (x_X11_quay τ n 0 c a1 a2 hO hn hT h (jq (.inr (exn 4)) _) ⟨rfl, rfl⟩) (fun v9 h9 e9 => nomatch e9.1) (fun E9 h9 e9 => ?_)
  obtain ⟨e1, e2⟩ := e9
  cases e1
  subst e2
  exact ⟨nI 2, ⟨4, [(0, 10, 13, 13)], [], 0, 10, 17, 40, by decide, rfl, rfl, (by intro z hz; simp only [List.mem_cons, List.not_mem_nil, or_false] at hz; rcases hz with rfl <;> first | exact ⟨by decide, 0, by decide, by decide, kc_L_13⟩), ⟨by decide, by decide⟩, by decide, kc_L_40, by decide, rfl, 2, 2, Or.inl ⟨4, dL_quay_17, rfl, by decide⟩, dL_quay_19, by decide, dL_quay_20⟩, hQ⟩
def mL_window : jg_Md := (yL_window, cL_window, 6, some .int)
def hL_window : List (Nat × Nat × Nat × Nat) := [(0, 12, 15, 13)]
theorem kL_window : jh_Sc RL 193 mL_window hL_window 5 := ⟨(jg_m6 87 rfl rfl), (jg_m6 88 rfl rfl), wi_L, (jg_m6 89 rfl rfl), by decide, by decide, by decide +kernel, by decide +kernel⟩
theorem dL_window_0 : decode cL_window 0 = .ok (.aload 4, 2) := by decide +kernel
theorem dL_window_2 : decode cL_window 2 = .ok (.iconst 0, 1) := by decide +kernel
theorem dL_window_3 : decode cL_window 3 = .ok (.aload_n 0, 1) := by decide +kernel
theorem dL_window_4 : decode cL_window 4 = .ok (.iload_n 1, 1) := by decide +kernel
theorem dL_window_5 : decode cL_window 5 = .ok (.iload_n 2, 1) := by decide +kernel
theorem dL_window_6 : decode cL_window 6 = .ok (.iload_n 3, 1) := by decide +kernel
theorem dL_window_7 : decode cL_window 7 = .ok (.invokevirtual 73, 3) := by decide +kernel
theorem dL_window_10 : decode cL_window 10 = .ok (.i2l, 1) := by decide +kernel
theorem dL_window_11 : decode cL_window 11 = .ok (.lastore, 1) := by decide +kernel
theorem dL_window_12 : decode cL_window 12 = .ok (.goto 7, 3) := by decide +kernel
theorem dL_window_15 : decode cL_window 15 = .ok (.astore 5, 2) := by decide +kernel
theorem dL_window_17 : decode cL_window 17 = .ok (.iconst 1, 1) := by decide +kernel
theorem dL_window_18 : decode cL_window 18 = .ok (.ireturn, 1) := by decide +kernel
theorem dL_window_19 : decode cL_window 19 = .ok (.iconst 0, 1) := by decide +kernel
theorem dL_window_20 : decode cL_window 20 = .ok (.ireturn, 1) := by decide +kernel
set_option maxHeartbeats 1000000 in
theorem w_window {Γ : jg_G} {X : Nat × (Nat → Int32)} {G : Nat → jg_C} (F : Nat) (τ : cT) (n : Nat) (c : cS) (a1 a2 a3 : Int32) (hO : Sh τ n 0) {f : Nat → Int64} (hG : G 191 = .inr (3, 1, .inr (.inl f))) (hτ : τ 191 = .inr (8, 0)) (h191 : 191 < n) {x : Int32 × cS} (h : o_X11_window F τ n 0 c a1 a2 a3 = some (.inl x)) : jhc Γ mL_window (hL_window, X) 8 0 0 [some (.ref 0), some (.int a1), some (.int a2), some (.int a3), some (.ref 191), none] (ct_h G τ c, n) (.inl (some (.int (nI 0)))) (ct_h (va_up G 191 (.inr (3, 1, .inr (.inl (vp_updL f 0 x.1.toInt64))))) τ x.2, n) := by
  intro Q hQ
  refine jh_aload dL_window_0 rfl ?_
  refine jh_iconst (v := nI 0) dL_window_2 (by decide) ?_
  refine jh_aload_n dL_window_3 rfl ?_
  refine jh_iload_n dL_window_4 rfl ?_
  refine jh_iload_n dL_window_5 rfl ?_
  refine jh_iload_n dL_window_6 rfl ?_
  refine jh_callV (q := 0) (As := [.int a1, .int a2, .int a3]) (a' := 0) (b' := 0) kv_L_73 dL_window_7 rfl hO.ob0.1 (ct_o hO.ob0) rfl (by decide) (Nat.le_of_ble_eq_true rfl) rfl (by decide) (Nat.le_refl _) (Nat.le_refl _) (Nat.le_of_ble_eq_true rfl) (t_X11_window F τ n 0 c a1 a2 a3 hO h (jq (.inl (some (.int x.1))) _) ⟨rfl, rfl⟩) (fun v9 h9 e9 => ?_) (fun E9 h9 e9 => nomatch e9.1)
  obtain ⟨e1, e2⟩ := e9
  cases e1
  subst e2
  refine jh_hs (S' := [.int x.1, .int (nI 0), .ref 191]) (h' := (ct_h G τ x.2, n)) rfl rfl ?_
  refine jh_i2l dL_window_10 ?_
  refine jh_last (q := 191) (n := 1) (f := f) (i := nI 0) dL_window_11 h191 ((ct_base hτ).trans hG) (vp_iL (iL_t (by decide) (by decide))) ?_
  refine jh_hs (S' := []) (h' := (ct_h (va_up G 191 (.inr (3, 1, .inr (.inl (vp_updL f 0 x.1.toInt64))))) τ x.2, n)) rfl (congrArg (fun z => (z, n)) (ct_g hτ)) ?_
  refine jh_goto (tgt := 19) dL_window_12 (by decide) ?_
  refine jh_iconst (v := nI 0) dL_window_19 (by decide) ?_
  exact jh_ireturn dL_window_20 rfl hQ
set_option maxHeartbeats 1000000 in
theorem w_window_x0 {Γ : jg_G} {X : Nat × (Nat → Int32)} {G : Nat → jg_C} (F : Nat) (τ : cT) (n : Nat) (c : cS) (a1 a2 a3 : Int32) (hO : Sh τ n 0) (hn : n < 1000000) (hT : τ n = .inr (8, 0)) {y : cS} (h : o_X11_window F τ n 0 c a1 a2 a3 = some (.inr (0, y))) : jhc Γ mL_window (hL_window, X) 8 1 6 [some (.ref 0), some (.int a1), some (.int a2), some (.int a3), some (.ref 191), none] (ct_h G τ c, n) (.inl (some (.int (nI 1)))) (ct_h (gx G n) τ y, n + 1) := by
  intro Q hQ
  refine jh_aload dL_window_0 rfl ?_
  refine jh_iconst (v := nI 0) dL_window_2 (by decide) ?_
  refine jh_aload_n dL_window_3 rfl ?_
  refine jh_iload_n dL_window_4 rfl ?_
  refine jh_iload_n dL_window_5 rfl ?_
  refine jh_iload_n dL_window_6 rfl ?_
  refine jh_callV (q := 0) (As := [.int a1, .int a2, .int a3]) (a' := 1) (b' := 6) kv_L_73 dL_window_7 rfl hO.ob0.1 (ct_o hO.ob0) rfl (by decide) (Nat.le_of_ble_eq_true rfl) rfl (by decide) (Nat.le_refl _) (Nat.le_refl _) (Nat.le_of_ble_eq_true rfl) (x_X11_window F τ n 0 c a1 a2 a3 hO hn hT h (jq (.inr (exn 0)) _) ⟨rfl, rfl⟩) (fun v9 h9 e9 => nomatch e9.1) (fun E9 h9 e9 => ?_)
  obtain ⟨e1, e2⟩ := e9
  cases e1
  subst e2
  exact ⟨nI 1, ⟨0, [], [], 0, 12, 15, 13, by decide, rfl, rfl, (fun z hz => nomatch hz), ⟨by decide, by decide⟩, by decide, kc_L_13, by decide, rfl, 2, 1, Or.inl ⟨5, dL_window_15, rfl, by decide⟩, dL_window_17, by decide, dL_window_18⟩, hQ⟩
def mL_act : jg_Md := (yL_act, cL_act, 4, some .int)
def hL_act : List (Nat × Nat × Nat × Nat) := [(0, 9, 12, 15), (0, 9, 15, 17), (0, 9, 18, 31)]
theorem kL_act : jh_Sc RL 197 mL_act hL_act 3 := ⟨(jg_m6 98 rfl rfl), (jg_m6 99 rfl rfl), wi_L, (jg_m6 100 rfl rfl), by decide, by decide, by decide +kernel, by decide +kernel⟩
theorem dL_act_0 : decode cL_act 0 = .ok (.aload_n 2, 1) := by decide +kernel
theorem dL_act_1 : decode cL_act 1 = .ok (.iconst 0, 1) := by decide +kernel
theorem dL_act_2 : decode cL_act 2 = .ok (.aload_n 0, 1) := by decide +kernel
theorem dL_act_3 : decode cL_act 3 = .ok (.iload_n 1, 1) := by decide +kernel
theorem dL_act_4 : decode cL_act 4 = .ok (.invokevirtual 77, 3) := by decide +kernel
theorem dL_act_7 : decode cL_act 7 = .ok (.i2l, 1) := by decide +kernel
theorem dL_act_8 : decode cL_act 8 = .ok (.lastore, 1) := by decide +kernel
theorem dL_act_9 : decode cL_act 9 = .ok (.goto 12, 3) := by decide +kernel
theorem dL_act_12 : decode cL_act 12 = .ok (.astore_n 3, 1) := by decide +kernel
theorem dL_act_13 : decode cL_act 13 = .ok (.iconst 1, 1) := by decide +kernel
theorem dL_act_14 : decode cL_act 14 = .ok (.ireturn, 1) := by decide +kernel
theorem dL_act_15 : decode cL_act 15 = .ok (.astore_n 3, 1) := by decide +kernel
theorem dL_act_16 : decode cL_act 16 = .ok (.iconst 2, 1) := by decide +kernel
theorem dL_act_17 : decode cL_act 17 = .ok (.ireturn, 1) := by decide +kernel
theorem dL_act_18 : decode cL_act 18 = .ok (.astore_n 3, 1) := by decide +kernel
theorem dL_act_19 : decode cL_act 19 = .ok (.iconst 3, 1) := by decide +kernel
theorem dL_act_20 : decode cL_act 20 = .ok (.ireturn, 1) := by decide +kernel
theorem dL_act_21 : decode cL_act 21 = .ok (.iconst 0, 1) := by decide +kernel
theorem dL_act_22 : decode cL_act 22 = .ok (.ireturn, 1) := by decide +kernel
set_option maxHeartbeats 1000000 in
theorem w_act {Γ : jg_G} {X : Nat × (Nat → Int32)} {G : Nat → jg_C} (F : Nat) (τ : cT) (n : Nat) (c : cS) (a1 : Int32) (hO : Sh τ n 0) {f : Nat → Int64} (hG : G 191 = .inr (3, 1, .inr (.inl f))) (hτ : τ 191 = .inr (8, 0)) (h191 : 191 < n) (hn9 : n + 7 ≤ 1000000) {q : Option (Nat × Nat)} {x : Int32 × cS} (h : o_X11_act F τ n 0 c a1 = some ((q, .inl x))) : jhc Γ mL_act (hL_act, X) 51 6 866 [some (.ref 0), some (.int a1), some (.ref 191), none] (ct_h G τ c, n) (.inl (some (.int (nI 0)))) (ct_h (va_up G 191 (.inr (3, 1, .inr (.inl (vp_updL f 0 x.1.toInt64))))) (tQ τ n q) x.2, (nQ n q)) := by
  intro Q hQ
  refine jh_aload_n dL_act_0 rfl ?_
  refine jh_iconst (v := nI 0) dL_act_1 (by decide) ?_
  refine jh_aload_n dL_act_2 rfl ?_
  refine jh_iload_n dL_act_3 rfl ?_
  refine jh_callV (q := 0) (As := [.int a1]) (a' := 6) (b' := 866) kv_L_77 dL_act_4 rfl hO.ob0.1 (ct_o hO.ob0) rfl (by decide) (Nat.le_of_ble_eq_true rfl) rfl (by decide) (Nat.le_refl _) (Nat.le_refl _) (Nat.le_of_ble_eq_true rfl) (t_X11_act F τ n 0 c a1 hO hn9 h (jq (.inl (some (.int x.1))) _) ⟨rfl, rfl⟩) (fun v9 h9 e9 => ?_) (fun E9 h9 e9 => nomatch e9.1)
  obtain ⟨e1, e2⟩ := e9
  cases e1
  subst e2
  refine jh_hs (S' := [.int x.1, .int (nI 0), .ref 191]) (h' := (ct_h G (tQ τ n q) x.2, (nQ n q))) rfl rfl ?_
  refine jh_i2l dL_act_7 ?_
  have hτ2 : tQ τ n q 191 = .inr (8, 0) := by rw [tQ_lt h191]; exact hτ
  refine jh_last (q := 191) (n := 1) (f := f) (i := nI 0) dL_act_8 (Nat.lt_of_lt_of_le h191 nQ_le) ((ct_base hτ2).trans hG) (vp_iL (iL_t (by decide) (by decide))) ?_
  refine jh_hs (S' := []) (h' := (ct_h (va_up G 191 (.inr (3, 1, .inr (.inl (vp_updL f 0 x.1.toInt64))))) (tQ τ n q) x.2, (nQ n q))) rfl (congrArg (fun z => (z, (nQ n q))) (ct_g hτ2)) ?_
  refine jh_goto (tgt := 21) dL_act_9 (by decide) ?_
  refine jh_iconst (v := nI 0) dL_act_21 (by decide) ?_
  exact jh_ireturn dL_act_22 rfl hQ
set_option maxHeartbeats 1000000 in
theorem w_act_x1 {Γ : jg_G} {X : Nat × (Nat → Int32)} {G : Nat → jg_C} (F : Nat) (τ : cT) (n : Nat) (c : cS) (a1 : Int32) (hO : Sh τ n 0) (hn9 : n + 7 ≤ 1000000) (hT : ∀ j, n ≤ j → τ j = .inr (8, 0)) {q : Option (Nat × Nat)} {y : cS} (h : o_X11_act F τ n 0 c a1 = some ((q, .inr (1, y)))) : jhc Γ mL_act (hL_act, X) 51 7 872 [some (.ref 0), some (.int a1), some (.ref 191), none] (ct_h G τ c, n) (.inl (some (.int (nI 1)))) (ct_h (gx G (nQ n q)) (tQ τ n q) y, (nQ n q) + 1) := by
  intro Q hQ
  refine jh_aload_n dL_act_0 rfl ?_
  refine jh_iconst (v := nI 0) dL_act_1 (by decide) ?_
  refine jh_aload_n dL_act_2 rfl ?_
  refine jh_iload_n dL_act_3 rfl ?_
  refine jh_callV (q := 0) (As := [.int a1]) (a' := 7) (b' := 872) kv_L_77 dL_act_4 rfl hO.ob0.1 (ct_o hO.ob0) rfl (by decide) (Nat.le_of_ble_eq_true rfl) rfl (by decide) (Nat.le_refl _) (Nat.le_refl _) (Nat.le_of_ble_eq_true rfl) (x_X11_act F τ n 0 c a1 hO hn9 hT h (jq (.inr (exn 1)) _) ⟨rfl, rfl⟩) (fun v9 h9 e9 => nomatch e9.1) (fun E9 h9 e9 => ?_)
  obtain ⟨e1, e2⟩ := e9
  cases e1
  subst e2
  exact ⟨nI 1, ⟨1, [], [(0, 9, 15, 17), (0, 9, 18, 31)], 0, 9, 12, 15, by decide, rfl, rfl, (fun z hz => nomatch hz), ⟨by decide, by decide⟩, by decide, kc_L_15, by decide, rfl, 1, 1, Or.inr ⟨3, dL_act_12, rfl, by decide⟩, dL_act_13, by decide, dL_act_14⟩, hQ⟩
set_option maxHeartbeats 1000000 in
theorem w_act_x2 {Γ : jg_G} {X : Nat × (Nat → Int32)} {G : Nat → jg_C} (F : Nat) (τ : cT) (n : Nat) (c : cS) (a1 : Int32) (hO : Sh τ n 0) (hn9 : n + 7 ≤ 1000000) (hT : ∀ j, n ≤ j → τ j = .inr (8, 0)) {q : Option (Nat × Nat)} {y : cS} (h : o_X11_act F τ n 0 c a1 = some ((q, .inr (2, y)))) : jhc Γ mL_act (hL_act, X) 51 7 872 [some (.ref 0), some (.int a1), some (.ref 191), none] (ct_h G τ c, n) (.inl (some (.int (nI 2)))) (ct_h (gx G (nQ n q)) (tQ τ n q) y, (nQ n q) + 1) := by
  intro Q hQ
  refine jh_aload_n dL_act_0 rfl ?_
  refine jh_iconst (v := nI 0) dL_act_1 (by decide) ?_
  refine jh_aload_n dL_act_2 rfl ?_
  refine jh_iload_n dL_act_3 rfl ?_
  refine jh_callV (q := 0) (As := [.int a1]) (a' := 7) (b' := 872) kv_L_77 dL_act_4 rfl hO.ob0.1 (ct_o hO.ob0) rfl (by decide) (Nat.le_of_ble_eq_true rfl) rfl (by decide) (Nat.le_refl _) (Nat.le_refl _) (Nat.le_of_ble_eq_true rfl) (x_X11_act F τ n 0 c a1 hO hn9 hT h (jq (.inr (exn 2)) _) ⟨rfl, rfl⟩) (fun v9 h9 e9 => nomatch e9.1) (fun E9 h9 e9 => ?_)
  obtain ⟨e1, e2⟩ := e9
  cases e1
  subst e2
  exact ⟨nI 2, ⟨2, [(0, 9, 12, 15)], [(0, 9, 18, 31)], 0, 9, 15, 17, by decide, rfl, rfl, (by intro z hz; simp only [List.mem_cons, List.not_mem_nil, or_false] at hz; rcases hz with rfl <;> first | exact ⟨by decide, 1, by decide, by decide, kc_L_15⟩), ⟨by decide, by decide⟩, by decide, kc_L_17, by decide, rfl, 1, 2, Or.inr ⟨3, dL_act_15, rfl, by decide⟩, dL_act_16, by decide, dL_act_17⟩, hQ⟩
set_option maxHeartbeats 1000000 in
theorem w_act_x3 {Γ : jg_G} {X : Nat × (Nat → Int32)} {G : Nat → jg_C} (F : Nat) (τ : cT) (n : Nat) (c : cS) (a1 : Int32) (hO : Sh τ n 0) (hn9 : n + 7 ≤ 1000000) (hT : ∀ j, n ≤ j → τ j = .inr (8, 0)) {q : Option (Nat × Nat)} {y : cS} (h : o_X11_act F τ n 0 c a1 = some ((q, .inr (3, y)))) : jhc Γ mL_act (hL_act, X) 51 7 872 [some (.ref 0), some (.int a1), some (.ref 191), none] (ct_h G τ c, n) (.inl (some (.int (nI 3)))) (ct_h (gx G (nQ n q)) (tQ τ n q) y, (nQ n q) + 1) := by
  intro Q hQ
  refine jh_aload_n dL_act_0 rfl ?_
  refine jh_iconst (v := nI 0) dL_act_1 (by decide) ?_
  refine jh_aload_n dL_act_2 rfl ?_
  refine jh_iload_n dL_act_3 rfl ?_
  refine jh_callV (q := 0) (As := [.int a1]) (a' := 7) (b' := 872) kv_L_77 dL_act_4 rfl hO.ob0.1 (ct_o hO.ob0) rfl (by decide) (Nat.le_of_ble_eq_true rfl) rfl (by decide) (Nat.le_refl _) (Nat.le_refl _) (Nat.le_of_ble_eq_true rfl) (x_X11_act F τ n 0 c a1 hO hn9 hT h (jq (.inr (exn 3)) _) ⟨rfl, rfl⟩) (fun v9 h9 e9 => nomatch e9.1) (fun E9 h9 e9 => ?_)
  obtain ⟨e1, e2⟩ := e9
  cases e1
  subst e2
  exact ⟨nI 3, ⟨3, [(0, 9, 12, 15), (0, 9, 15, 17)], [], 0, 9, 18, 31, by decide, rfl, rfl, (by intro z hz; simp only [List.mem_cons, List.not_mem_nil, or_false] at hz; rcases hz with rfl | rfl <;> first | exact ⟨by decide, 1, by decide, by decide, kc_L_15⟩ | exact ⟨by decide, 2, by decide, by decide, kc_L_17⟩), ⟨by decide, by decide⟩, by decide, kc_L_31, by decide, rfl, 1, 3, Or.inr ⟨3, dL_act_18, rfl, by decide⟩, dL_act_19, by decide, dL_act_20⟩, hQ⟩
def mL_propose : jg_Md := (yL_propose, cL_propose, 4, some .int)
def hL_propose : List (Nat × Nat × Nat × Nat) := [(0, 9, 12, 15), (0, 9, 15, 17), (0, 9, 18, 31)]
theorem kL_propose : jh_Sc RL 200 mL_propose hL_propose 3 := ⟨(jg_m7 20 rfl rfl), (jg_m7 21 rfl rfl), wi_L, (jg_m7 22 rfl rfl), by decide, by decide, by decide +kernel, by decide +kernel⟩
theorem dL_propose_0 : decode cL_propose 0 = .ok (.aload_n 2, 1) := by decide +kernel
theorem dL_propose_1 : decode cL_propose 1 = .ok (.iconst 0, 1) := by decide +kernel
theorem dL_propose_2 : decode cL_propose 2 = .ok (.aload_n 0, 1) := by decide +kernel
theorem dL_propose_3 : decode cL_propose 3 = .ok (.iload_n 1, 1) := by decide +kernel
theorem dL_propose_4 : decode cL_propose 4 = .ok (.invokevirtual 80, 3) := by decide +kernel
theorem dL_propose_7 : decode cL_propose 7 = .ok (.i2l, 1) := by decide +kernel
theorem dL_propose_8 : decode cL_propose 8 = .ok (.lastore, 1) := by decide +kernel
theorem dL_propose_9 : decode cL_propose 9 = .ok (.goto 12, 3) := by decide +kernel
theorem dL_propose_12 : decode cL_propose 12 = .ok (.astore_n 3, 1) := by decide +kernel
theorem dL_propose_13 : decode cL_propose 13 = .ok (.iconst 1, 1) := by decide +kernel
theorem dL_propose_14 : decode cL_propose 14 = .ok (.ireturn, 1) := by decide +kernel
theorem dL_propose_15 : decode cL_propose 15 = .ok (.astore_n 3, 1) := by decide +kernel
theorem dL_propose_16 : decode cL_propose 16 = .ok (.iconst 2, 1) := by decide +kernel
theorem dL_propose_17 : decode cL_propose 17 = .ok (.ireturn, 1) := by decide +kernel
theorem dL_propose_18 : decode cL_propose 18 = .ok (.astore_n 3, 1) := by decide +kernel
theorem dL_propose_19 : decode cL_propose 19 = .ok (.iconst 3, 1) := by decide +kernel
theorem dL_propose_20 : decode cL_propose 20 = .ok (.ireturn, 1) := by decide +kernel
theorem dL_propose_21 : decode cL_propose 21 = .ok (.iconst 0, 1) := by decide +kernel
theorem dL_propose_22 : decode cL_propose 22 = .ok (.ireturn, 1) := by decide +kernel
set_option maxHeartbeats 1000000 in
theorem w_propose {Γ : jg_G} {X : Nat × (Nat → Int32)} {G : Nat → jg_C} (F : Nat) (τ : cT) (n : Nat) (c : cS) (a1 : Int32) (hO : Sh τ n 0) {f : Nat → Int64} (hG : G 191 = .inr (3, 1, .inr (.inl f))) (hτ : τ 191 = .inr (8, 0)) (h191 : 191 < n) (hn9 : n + 7 ≤ 1000000) {q : Option (Nat × Nat)} {x : Int32 × cS} (h : o_X11_propose F τ n 0 c a1 = some ((q, .inl x))) : jhc Γ mL_propose (hL_propose, X) 51 6 866 [some (.ref 0), some (.int a1), some (.ref 191), none] (ct_h G τ c, n) (.inl (some (.int (nI 0)))) (ct_h (va_up G 191 (.inr (3, 1, .inr (.inl (vp_updL f 0 x.1.toInt64))))) (tQ τ n q) x.2, (nQ n q)) := by
  intro Q hQ
  refine jh_aload_n dL_propose_0 rfl ?_
  refine jh_iconst (v := nI 0) dL_propose_1 (by decide) ?_
  refine jh_aload_n dL_propose_2 rfl ?_
  refine jh_iload_n dL_propose_3 rfl ?_
  refine jh_callV (q := 0) (As := [.int a1]) (a' := 6) (b' := 866) kv_L_80 dL_propose_4 rfl hO.ob0.1 (ct_o hO.ob0) rfl (by decide) (Nat.le_of_ble_eq_true rfl) rfl (by decide) (Nat.le_refl _) (Nat.le_refl _) (Nat.le_of_ble_eq_true rfl) (t_X11_propose F τ n 0 c a1 hO hn9 h (jq (.inl (some (.int x.1))) _) ⟨rfl, rfl⟩) (fun v9 h9 e9 => ?_) (fun E9 h9 e9 => nomatch e9.1)
  obtain ⟨e1, e2⟩ := e9
  cases e1
  subst e2
  refine jh_hs (S' := [.int x.1, .int (nI 0), .ref 191]) (h' := (ct_h G (tQ τ n q) x.2, (nQ n q))) rfl rfl ?_
  refine jh_i2l dL_propose_7 ?_
  have hτ2 : tQ τ n q 191 = .inr (8, 0) := by rw [tQ_lt h191]; exact hτ
  refine jh_last (q := 191) (n := 1) (f := f) (i := nI 0) dL_propose_8 (Nat.lt_of_lt_of_le h191 nQ_le) ((ct_base hτ2).trans hG) (vp_iL (iL_t (by decide) (by decide))) ?_
  refine jh_hs (S' := []) (h' := (ct_h (va_up G 191 (.inr (3, 1, .inr (.inl (vp_updL f 0 x.1.toInt64))))) (tQ τ n q) x.2, (nQ n q))) rfl (congrArg (fun z => (z, (nQ n q))) (ct_g hτ2)) ?_
  refine jh_goto (tgt := 21) dL_propose_9 (by decide) ?_
  refine jh_iconst (v := nI 0) dL_propose_21 (by decide) ?_
  exact jh_ireturn dL_propose_22 rfl hQ
set_option maxHeartbeats 1000000 in
theorem w_propose_x1 {Γ : jg_G} {X : Nat × (Nat → Int32)} {G : Nat → jg_C} (F : Nat) (τ : cT) (n : Nat) (c : cS) (a1 : Int32) (hO : Sh τ n 0) (hn9 : n + 7 ≤ 1000000) (hT : ∀ j, n ≤ j → τ j = .inr (8, 0)) {q : Option (Nat × Nat)} {y : cS} (h : o_X11_propose F τ n 0 c a1 = some ((q, .inr (1, y)))) : jhc Γ mL_propose (hL_propose, X) 51 7 872 [some (.ref 0), some (.int a1), some (.ref 191), none] (ct_h G τ c, n) (.inl (some (.int (nI 1)))) (ct_h (gx G (nQ n q)) (tQ τ n q) y, (nQ n q) + 1) := by
  intro Q hQ
  refine jh_aload_n dL_propose_0 rfl ?_
  refine jh_iconst (v := nI 0) dL_propose_1 (by decide) ?_
  refine jh_aload_n dL_propose_2 rfl ?_
  refine jh_iload_n dL_propose_3 rfl ?_
  refine jh_callV (q := 0) (As := [.int a1]) (a' := 7) (b' := 872) kv_L_80 dL_propose_4 rfl hO.ob0.1 (ct_o hO.ob0) rfl (by decide) (Nat.le_of_ble_eq_true rfl) rfl (by decide) (Nat.le_refl _) (Nat.le_refl _) (Nat.le_of_ble_eq_true rfl) (x_X11_propose F τ n 0 c a1 hO hn9 hT h (jq (.inr (exn 1)) _) ⟨rfl, rfl⟩) (fun v9 h9 e9 => nomatch e9.1) (fun E9 h9 e9 => ?_)
  obtain ⟨e1, e2⟩ := e9
  cases e1
  subst e2
  exact ⟨nI 1, ⟨1, [], [(0, 9, 15, 17), (0, 9, 18, 31)], 0, 9, 12, 15, by decide, rfl, rfl, (fun z hz => nomatch hz), ⟨by decide, by decide⟩, by decide, kc_L_15, by decide, rfl, 1, 1, Or.inr ⟨3, dL_propose_12, rfl, by decide⟩, dL_propose_13, by decide, dL_propose_14⟩, hQ⟩
set_option maxHeartbeats 1000000 in
theorem w_propose_x2 {Γ : jg_G} {X : Nat × (Nat → Int32)} {G : Nat → jg_C} (F : Nat) (τ : cT) (n : Nat) (c : cS) (a1 : Int32) (hO : Sh τ n 0) (hn9 : n + 7 ≤ 1000000) (hT : ∀ j, n ≤ j → τ j = .inr (8, 0)) {q : Option (Nat × Nat)} {y : cS} (h : o_X11_propose F τ n 0 c a1 = some ((q, .inr (2, y)))) : jhc Γ mL_propose (hL_propose, X) 51 7 872 [some (.ref 0), some (.int a1), some (.ref 191), none] (ct_h G τ c, n) (.inl (some (.int (nI 2)))) (ct_h (gx G (nQ n q)) (tQ τ n q) y, (nQ n q) + 1) := by
  intro Q hQ
  refine jh_aload_n dL_propose_0 rfl ?_
  refine jh_iconst (v := nI 0) dL_propose_1 (by decide) ?_
  refine jh_aload_n dL_propose_2 rfl ?_
  refine jh_iload_n dL_propose_3 rfl ?_
  refine jh_callV (q := 0) (As := [.int a1]) (a' := 7) (b' := 872) kv_L_80 dL_propose_4 rfl hO.ob0.1 (ct_o hO.ob0) rfl (by decide) (Nat.le_of_ble_eq_true rfl) rfl (by decide) (Nat.le_refl _) (Nat.le_refl _) (Nat.le_of_ble_eq_true rfl) (x_X11_propose F τ n 0 c a1 hO hn9 hT h (jq (.inr (exn 2)) _) ⟨rfl, rfl⟩) (fun v9 h9 e9 => nomatch e9.1) (fun E9 h9 e9 => ?_)
  obtain ⟨e1, e2⟩ := e9
  cases e1
  subst e2
  exact ⟨nI 2, ⟨2, [(0, 9, 12, 15)], [(0, 9, 18, 31)], 0, 9, 15, 17, by decide, rfl, rfl, (by intro z hz; simp only [List.mem_cons, List.not_mem_nil, or_false] at hz; rcases hz with rfl <;> first | exact ⟨by decide, 1, by decide, by decide, kc_L_15⟩), ⟨by decide, by decide⟩, by decide, kc_L_17, by decide, rfl, 1, 2, Or.inr ⟨3, dL_propose_15, rfl, by decide⟩, dL_propose_16, by decide, dL_propose_17⟩, hQ⟩
set_option maxHeartbeats 1000000 in
theorem w_propose_x3 {Γ : jg_G} {X : Nat × (Nat → Int32)} {G : Nat → jg_C} (F : Nat) (τ : cT) (n : Nat) (c : cS) (a1 : Int32) (hO : Sh τ n 0) (hn9 : n + 7 ≤ 1000000) (hT : ∀ j, n ≤ j → τ j = .inr (8, 0)) {q : Option (Nat × Nat)} {y : cS} (h : o_X11_propose F τ n 0 c a1 = some ((q, .inr (3, y)))) : jhc Γ mL_propose (hL_propose, X) 51 7 872 [some (.ref 0), some (.int a1), some (.ref 191), none] (ct_h G τ c, n) (.inl (some (.int (nI 3)))) (ct_h (gx G (nQ n q)) (tQ τ n q) y, (nQ n q) + 1) := by
  intro Q hQ
  refine jh_aload_n dL_propose_0 rfl ?_
  refine jh_iconst (v := nI 0) dL_propose_1 (by decide) ?_
  refine jh_aload_n dL_propose_2 rfl ?_
  refine jh_iload_n dL_propose_3 rfl ?_
  refine jh_callV (q := 0) (As := [.int a1]) (a' := 7) (b' := 872) kv_L_80 dL_propose_4 rfl hO.ob0.1 (ct_o hO.ob0) rfl (by decide) (Nat.le_of_ble_eq_true rfl) rfl (by decide) (Nat.le_refl _) (Nat.le_refl _) (Nat.le_of_ble_eq_true rfl) (x_X11_propose F τ n 0 c a1 hO hn9 hT h (jq (.inr (exn 3)) _) ⟨rfl, rfl⟩) (fun v9 h9 e9 => nomatch e9.1) (fun E9 h9 e9 => ?_)
  obtain ⟨e1, e2⟩ := e9
  cases e1
  subst e2
  exact ⟨nI 3, ⟨3, [(0, 9, 12, 15), (0, 9, 15, 17)], [], 0, 9, 18, 31, by decide, rfl, rfl, (by intro z hz; simp only [List.mem_cons, List.not_mem_nil, or_false] at hz; rcases hz with rfl | rfl <;> first | exact ⟨by decide, 1, by decide, by decide, kc_L_15⟩ | exact ⟨by decide, 2, by decide, by decide, kc_L_17⟩), ⟨by decide, by decide⟩, by decide, kc_L_31, by decide, rfl, 1, 3, Or.inr ⟨3, dL_propose_18, rfl, by decide⟩, dL_propose_19, by decide, dL_propose_20⟩, hQ⟩
def mL_vote : jg_Md := (yL_vote, cL_vote, 5, some .int)
def hL_vote : List (Nat × Nat × Nat × Nat) := [(0, 10, 13, 13), (0, 10, 17, 17)]
theorem kL_vote : jh_Sc RL 207 mL_vote hL_vote 4 := ⟨(jg_m7 31 rfl rfl), (jg_m7 32 rfl rfl), wi_L, (jg_m7 33 rfl rfl), by decide, by decide, by decide +kernel, by decide +kernel⟩
theorem dL_vote_0 : decode cL_vote 0 = .ok (.aload_n 3, 1) := by decide +kernel
theorem dL_vote_1 : decode cL_vote 1 = .ok (.iconst 0, 1) := by decide +kernel
theorem dL_vote_2 : decode cL_vote 2 = .ok (.aload_n 0, 1) := by decide +kernel
theorem dL_vote_3 : decode cL_vote 3 = .ok (.iload_n 1, 1) := by decide +kernel
theorem dL_vote_4 : decode cL_vote 4 = .ok (.iload_n 2, 1) := by decide +kernel
theorem dL_vote_5 : decode cL_vote 5 = .ok (.invokevirtual 83, 3) := by decide +kernel
theorem dL_vote_8 : decode cL_vote 8 = .ok (.i2l, 1) := by decide +kernel
theorem dL_vote_9 : decode cL_vote 9 = .ok (.lastore, 1) := by decide +kernel
theorem dL_vote_10 : decode cL_vote 10 = .ok (.goto 11, 3) := by decide +kernel
theorem dL_vote_13 : decode cL_vote 13 = .ok (.astore 4, 2) := by decide +kernel
theorem dL_vote_15 : decode cL_vote 15 = .ok (.iconst 1, 1) := by decide +kernel
theorem dL_vote_16 : decode cL_vote 16 = .ok (.ireturn, 1) := by decide +kernel
theorem dL_vote_17 : decode cL_vote 17 = .ok (.astore 4, 2) := by decide +kernel
theorem dL_vote_19 : decode cL_vote 19 = .ok (.iconst 2, 1) := by decide +kernel
theorem dL_vote_20 : decode cL_vote 20 = .ok (.ireturn, 1) := by decide +kernel
theorem dL_vote_21 : decode cL_vote 21 = .ok (.iconst 0, 1) := by decide +kernel
theorem dL_vote_22 : decode cL_vote 22 = .ok (.ireturn, 1) := by decide +kernel
set_option maxHeartbeats 1000000 in
theorem w_vote {Γ : jg_G} {X : Nat × (Nat → Int32)} {G : Nat → jg_C} (F : Nat) (τ : cT) (n : Nat) (c : cS) (a1 a2 : Int32) (hO : Sh τ n 0) {f : Nat → Int64} (hG : G 191 = .inr (3, 1, .inr (.inl f))) (hτ : τ 191 = .inr (8, 0)) (h191 : 191 < n) {x : Int32 × cS} (h : o_X11_vote F τ n 0 c a1 a2 = some (.inl x)) : jhc Γ mL_vote (hL_vote, X) 8 0 0 [some (.ref 0), some (.int a1), some (.int a2), some (.ref 191), none] (ct_h G τ c, n) (.inl (some (.int (nI 0)))) (ct_h (va_up G 191 (.inr (3, 1, .inr (.inl (vp_updL f 0 x.1.toInt64))))) τ x.2, n) := by
  intro Q hQ
  refine jh_aload_n dL_vote_0 rfl ?_
  refine jh_iconst (v := nI 0) dL_vote_1 (by decide) ?_
  refine jh_aload_n dL_vote_2 rfl ?_
  refine jh_iload_n dL_vote_3 rfl ?_
  refine jh_iload_n dL_vote_4 rfl ?_
  refine jh_callV (q := 0) (As := [.int a1, .int a2]) (a' := 0) (b' := 0) kv_L_83 dL_vote_5 rfl hO.ob0.1 (ct_o hO.ob0) rfl (by decide) (Nat.le_of_ble_eq_true rfl) rfl (by decide) (Nat.le_refl _) (Nat.le_refl _) (Nat.le_of_ble_eq_true rfl) (t_X11_vote F τ n 0 c a1 a2 hO h (jq (.inl (some (.int x.1))) _) ⟨rfl, rfl⟩) (fun v9 h9 e9 => ?_) (fun E9 h9 e9 => nomatch e9.1)
  obtain ⟨e1, e2⟩ := e9
  cases e1
  subst e2
  refine jh_hs (S' := [.int x.1, .int (nI 0), .ref 191]) (h' := (ct_h G τ x.2, n)) rfl rfl ?_
  refine jh_i2l dL_vote_8 ?_
  refine jh_last (q := 191) (n := 1) (f := f) (i := nI 0) dL_vote_9 h191 ((ct_base hτ).trans hG) (vp_iL (iL_t (by decide) (by decide))) ?_
  refine jh_hs (S' := []) (h' := (ct_h (va_up G 191 (.inr (3, 1, .inr (.inl (vp_updL f 0 x.1.toInt64))))) τ x.2, n)) rfl (congrArg (fun z => (z, n)) (ct_g hτ)) ?_
  refine jh_goto (tgt := 21) dL_vote_10 (by decide) ?_
  refine jh_iconst (v := nI 0) dL_vote_21 (by decide) ?_
  exact jh_ireturn dL_vote_22 rfl hQ
set_option maxHeartbeats 1000000 in
theorem w_vote_x0 {Γ : jg_G} {X : Nat × (Nat → Int32)} {G : Nat → jg_C} (F : Nat) (τ : cT) (n : Nat) (c : cS) (a1 a2 : Int32) (hO : Sh τ n 0) (hn : n < 1000000) (hT : τ n = .inr (8, 0)) {y : cS} (h : o_X11_vote F τ n 0 c a1 a2 = some (.inr (0, y))) : jhc Γ mL_vote (hL_vote, X) 8 1 6 [some (.ref 0), some (.int a1), some (.int a2), some (.ref 191), none] (ct_h G τ c, n) (.inl (some (.int (nI 1)))) (ct_h (gx G n) τ y, n + 1) := by
  intro Q hQ
  refine jh_aload_n dL_vote_0 rfl ?_
  refine jh_iconst (v := nI 0) dL_vote_1 (by decide) ?_
  refine jh_aload_n dL_vote_2 rfl ?_
  refine jh_iload_n dL_vote_3 rfl ?_
  refine jh_iload_n dL_vote_4 rfl ?_
  refine jh_callV (q := 0) (As := [.int a1, .int a2]) (a' := 1) (b' := 6) kv_L_83 dL_vote_5 rfl hO.ob0.1 (ct_o hO.ob0) rfl (by decide) (Nat.le_of_ble_eq_true rfl) rfl (by decide) (Nat.le_refl _) (Nat.le_refl _) (Nat.le_of_ble_eq_true rfl) (x_X11_vote F τ n 0 c a1 a2 hO hn hT h (jq (.inr (exn 0)) _) ⟨rfl, rfl⟩) (fun v9 h9 e9 => nomatch e9.1) (fun E9 h9 e9 => ?_)
  obtain ⟨e1, e2⟩ := e9
  cases e1
  subst e2
  exact ⟨nI 1, ⟨0, [], [(0, 10, 17, 17)], 0, 10, 13, 13, by decide, rfl, rfl, (fun z hz => nomatch hz), ⟨by decide, by decide⟩, by decide, kc_L_13, by decide, rfl, 2, 1, Or.inl ⟨4, dL_vote_13, rfl, by decide⟩, dL_vote_15, by decide, dL_vote_16⟩, hQ⟩
set_option maxHeartbeats 1000000 in
theorem w_vote_x2 {Γ : jg_G} {X : Nat × (Nat → Int32)} {G : Nat → jg_C} (F : Nat) (τ : cT) (n : Nat) (c : cS) (a1 a2 : Int32) (hO : Sh τ n 0) (hn : n < 1000000) (hT : τ n = .inr (8, 0)) {y : cS} (h : o_X11_vote F τ n 0 c a1 a2 = some (.inr (2, y))) : jhc Γ mL_vote (hL_vote, X) 8 1 6 [some (.ref 0), some (.int a1), some (.int a2), some (.ref 191), none] (ct_h G τ c, n) (.inl (some (.int (nI 2)))) (ct_h (gx G n) τ y, n + 1) := by
  intro Q hQ
  refine jh_aload_n dL_vote_0 rfl ?_
  refine jh_iconst (v := nI 0) dL_vote_1 (by decide) ?_
  refine jh_aload_n dL_vote_2 rfl ?_
  refine jh_iload_n dL_vote_3 rfl ?_
  refine jh_iload_n dL_vote_4 rfl ?_
  refine jh_callV (q := 0) (As := [.int a1, .int a2]) (a' := 1) (b' := 6) kv_L_83 dL_vote_5 rfl hO.ob0.1 (ct_o hO.ob0) rfl (by decide) (Nat.le_of_ble_eq_true rfl) rfl (by decide) (Nat.le_refl _) (Nat.le_refl _) (Nat.le_of_ble_eq_true rfl) (x_X11_vote F τ n 0 c a1 a2 hO hn hT h (jq (.inr (exn 2)) _) ⟨rfl, rfl⟩) (fun v9 h9 e9 => nomatch e9.1) (fun E9 h9 e9 => ?_)
  obtain ⟨e1, e2⟩ := e9
  cases e1
  subst e2
  exact ⟨nI 2, ⟨2, [(0, 10, 13, 13)], [], 0, 10, 17, 17, by decide, rfl, rfl, (by intro z hz; simp only [List.mem_cons, List.not_mem_nil, or_false] at hz; rcases hz with rfl <;> first | exact ⟨by decide, 0, by decide, by decide, kc_L_13⟩), ⟨by decide, by decide⟩, by decide, kc_L_17, by decide, rfl, 2, 2, Or.inl ⟨4, dL_vote_17, rfl, by decide⟩, dL_vote_19, by decide, dL_vote_20⟩, hQ⟩
def mL_close : jg_Md := (yL_close, cL_close, 3, some .int)
def hL_close : List (Nat × Nat × Nat × Nat) := [(0, 15, 18, 17)]
theorem kL_close : jh_Sc RL 211 mL_close hL_close 2 := ⟨(jg_m7 47 rfl rfl), (jg_m7 48 rfl rfl), wi_L, (jg_m7 49 rfl rfl), by decide, by decide, by decide +kernel, by decide +kernel⟩
theorem dL_close_0 : decode cL_close 0 = .ok (.aload_n 1, 1) := by decide +kernel
theorem dL_close_1 : decode cL_close 1 = .ok (.iconst 0, 1) := by decide +kernel
theorem dL_close_2 : decode cL_close 2 = .ok (.aload_n 0, 1) := by decide +kernel
theorem dL_close_3 : decode cL_close 3 = .ok (.invokevirtual 87, 3) := by decide +kernel
theorem dL_close_6 : decode cL_close 6 = .ok (.ifCond .eq 7, 3) := by decide +kernel
theorem dL_close_9 : decode cL_close 9 = .ok (.lconst 1, 1) := by decide +kernel
theorem dL_close_10 : decode cL_close 10 = .ok (.goto 4, 3) := by decide +kernel
theorem dL_close_13 : decode cL_close 13 = .ok (.lconst 0, 1) := by decide +kernel
theorem dL_close_14 : decode cL_close 14 = .ok (.lastore, 1) := by decide +kernel
theorem dL_close_15 : decode cL_close 15 = .ok (.goto 6, 3) := by decide +kernel
theorem dL_close_18 : decode cL_close 18 = .ok (.astore_n 2, 1) := by decide +kernel
theorem dL_close_19 : decode cL_close 19 = .ok (.iconst 1, 1) := by decide +kernel
theorem dL_close_20 : decode cL_close 20 = .ok (.ireturn, 1) := by decide +kernel
theorem dL_close_21 : decode cL_close 21 = .ok (.iconst 0, 1) := by decide +kernel
theorem dL_close_22 : decode cL_close 22 = .ok (.ireturn, 1) := by decide +kernel
set_option maxHeartbeats 1000000 in
theorem w_close {Γ : jg_G} {X : Nat × (Nat → Int32)} {G : Nat → jg_C} (F : Nat) (τ : cT) (n : Nat) (c : cS) (hO : Sh τ n 0) {f : Nat → Int64} (hG : G 191 = .inr (3, 1, .inr (.inl f))) (hτ : τ 191 = .inr (8, 0)) (h191 : 191 < n) {x : Int32 × cS} (h : o_X11_close F τ n 0 c = some (.inl x)) : jhc Γ mL_close (hL_close, X) 8 0 0 [some (.ref 0), some (.ref 191), none] (ct_h G τ c, n) (.inl (some (.int (nI 0)))) (ct_h (va_up G 191 (.inr (3, 1, .inr (.inl (vp_updL f 0 (if x.1 = 0 then 0 else 1)))))) τ x.2, n) := by
  intro Q hQ
  refine jh_aload_n dL_close_0 rfl ?_
  refine jh_iconst (v := nI 0) dL_close_1 (by decide) ?_
  refine jh_aload_n dL_close_2 rfl ?_
  refine jh_callV (q := 0) (As := []) (a' := 0) (b' := 0) kv_L_87 dL_close_3 rfl hO.ob0.1 (ct_o hO.ob0) rfl (by decide) (Nat.le_of_ble_eq_true rfl) rfl (by decide) (Nat.le_refl _) (Nat.le_refl _) (Nat.le_of_ble_eq_true rfl) (t_X11_close F τ n 0 c  hO h (jq (.inl (some (.int x.1))) _) ⟨rfl, rfl⟩) (fun v9 h9 e9 => ?_) (fun E9 h9 e9 => nomatch e9.1)
  obtain ⟨e1, e2⟩ := e9
  cases e1
  subst e2
  refine jh_hs (S' := [.int x.1, .int (nI 0), .ref 191]) (h' := (ct_h G τ x.2, n)) rfl rfl ?_
  refine jh_if_eq (x := x.1) (tgt := 13) dL_close_6 (by decide) (fun c9 => ?_) (fun c9 => ?_)
  · rw [if_pos c9] at hQ
    refine jh_lconst (v := 0) dL_close_13 (by decide) ?_
    refine jh_last (q := 191) (n := 1) (f := f) (i := nI 0) dL_close_14 h191 ((ct_base hτ).trans hG) (vp_iL (iL_t (by decide) (by decide))) ?_
    refine jh_hs (S' := []) (h' := (ct_h (va_up G 191 (.inr (3, 1, .inr (.inl (vp_updL f 0 0))))) τ x.2, n)) rfl (congrArg (fun z => (z, n)) (ct_g hτ)) ?_
    refine jh_goto (tgt := 21) dL_close_15 (by decide) ?_
    refine jh_iconst (v := nI 0) dL_close_21 (by decide) ?_
    exact jh_ireturn dL_close_22 rfl hQ
  · rw [if_neg c9] at hQ
    refine jh_lconst (v := 1) dL_close_9 (by decide) ?_
    refine jh_goto (tgt := 14) dL_close_10 (by decide) ?_
    refine jh_last (q := 191) (n := 1) (f := f) (i := nI 0) dL_close_14 h191 ((ct_base hτ).trans hG) (vp_iL (iL_t (by decide) (by decide))) ?_
    refine jh_hs (S' := []) (h' := (ct_h (va_up G 191 (.inr (3, 1, .inr (.inl (vp_updL f 0 1))))) τ x.2, n)) rfl (congrArg (fun z => (z, n)) (ct_g hτ)) ?_
    refine jh_goto (tgt := 21) dL_close_15 (by decide) ?_
    refine jh_iconst (v := nI 0) dL_close_21 (by decide) ?_
    exact jh_ireturn dL_close_22 rfl hQ
set_option maxHeartbeats 1000000 in
theorem w_close_x2 {Γ : jg_G} {X : Nat × (Nat → Int32)} {G : Nat → jg_C} (F : Nat) (τ : cT) (n : Nat) (c : cS) (hO : Sh τ n 0) (hn : n < 1000000) (hT : τ n = .inr (8, 0)) {y : cS} (h : o_X11_close F τ n 0 c = some (.inr (2, y))) : jhc Γ mL_close (hL_close, X) 8 1 6 [some (.ref 0), some (.ref 191), none] (ct_h G τ c, n) (.inl (some (.int (nI 1)))) (ct_h (gx G n) τ y, n + 1) := by
  intro Q hQ
  refine jh_aload_n dL_close_0 rfl ?_
  refine jh_iconst (v := nI 0) dL_close_1 (by decide) ?_
  refine jh_aload_n dL_close_2 rfl ?_
  refine jh_callV (q := 0) (As := []) (a' := 1) (b' := 6) kv_L_87 dL_close_3 rfl hO.ob0.1 (ct_o hO.ob0) rfl (by decide) (Nat.le_of_ble_eq_true rfl) rfl (by decide) (Nat.le_refl _) (Nat.le_refl _) (Nat.le_of_ble_eq_true rfl) (x_X11_close F τ n 0 c  hO hn hT h (jq (.inr (exn 2)) _) ⟨rfl, rfl⟩) (fun v9 h9 e9 => nomatch e9.1) (fun E9 h9 e9 => ?_)
  obtain ⟨e1, e2⟩ := e9
  cases e1
  subst e2
  exact ⟨nI 1, ⟨2, [], [], 0, 15, 18, 17, by decide, rfl, rfl, (fun z hz => nomatch hz), ⟨by decide, by decide⟩, by decide, kc_L_17, by decide, rfl, 1, 1, Or.inr ⟨2, dL_close_18, rfl, by decide⟩, dL_close_19, by decide, dL_close_20⟩, hQ⟩
def mL_judge : jg_Md := (yL_judge, cL_judge, 5, some .int)
def hL_judge : List (Nat × Nat × Nat × Nat) := [(0, 10, 13, 13), (0, 10, 17, 40)]
theorem kL_judge : jh_Sc RL 214 mL_judge hL_judge 4 := ⟨(jg_m7 63 rfl rfl), (jg_m7 64 rfl rfl), wi_L, (jg_m7 65 rfl rfl), by decide, by decide, by decide +kernel, by decide +kernel⟩
theorem dL_judge_0 : decode cL_judge 0 = .ok (.aload_n 3, 1) := by decide +kernel
theorem dL_judge_1 : decode cL_judge 1 = .ok (.iconst 0, 1) := by decide +kernel
theorem dL_judge_2 : decode cL_judge 2 = .ok (.aload_n 0, 1) := by decide +kernel
theorem dL_judge_3 : decode cL_judge 3 = .ok (.iload_n 1, 1) := by decide +kernel
theorem dL_judge_4 : decode cL_judge 4 = .ok (.iload_n 2, 1) := by decide +kernel
theorem dL_judge_5 : decode cL_judge 5 = .ok (.invokevirtual 91, 3) := by decide +kernel
theorem dL_judge_8 : decode cL_judge 8 = .ok (.i2l, 1) := by decide +kernel
theorem dL_judge_9 : decode cL_judge 9 = .ok (.lastore, 1) := by decide +kernel
theorem dL_judge_10 : decode cL_judge 10 = .ok (.goto 11, 3) := by decide +kernel
theorem dL_judge_13 : decode cL_judge 13 = .ok (.astore 4, 2) := by decide +kernel
theorem dL_judge_15 : decode cL_judge 15 = .ok (.iconst 1, 1) := by decide +kernel
theorem dL_judge_16 : decode cL_judge 16 = .ok (.ireturn, 1) := by decide +kernel
theorem dL_judge_17 : decode cL_judge 17 = .ok (.astore 4, 2) := by decide +kernel
theorem dL_judge_19 : decode cL_judge 19 = .ok (.iconst 2, 1) := by decide +kernel
theorem dL_judge_20 : decode cL_judge 20 = .ok (.ireturn, 1) := by decide +kernel
theorem dL_judge_21 : decode cL_judge 21 = .ok (.iconst 0, 1) := by decide +kernel
theorem dL_judge_22 : decode cL_judge 22 = .ok (.ireturn, 1) := by decide +kernel
set_option maxHeartbeats 1000000 in
theorem w_judge {Γ : jg_G} {X : Nat × (Nat → Int32)} {G : Nat → jg_C} (F : Nat) (τ : cT) (n : Nat) (c : cS) (a1 a2 : Int32) (hO : Sh τ n 0) {f : Nat → Int64} (hG : G 191 = .inr (3, 1, .inr (.inl f))) (hτ : τ 191 = .inr (8, 0)) (h191 : 191 < n) {x : Int32 × cS} (h : o_X11_judge F τ n 0 c a1 a2 = some (.inl x)) : jhc Γ mL_judge (hL_judge, X) 8 0 0 [some (.ref 0), some (.int a1), some (.int a2), some (.ref 191), none] (ct_h G τ c, n) (.inl (some (.int (nI 0)))) (ct_h (va_up G 191 (.inr (3, 1, .inr (.inl (vp_updL f 0 x.1.toInt64))))) τ x.2, n) := by
  intro Q hQ
  refine jh_aload_n dL_judge_0 rfl ?_
  refine jh_iconst (v := nI 0) dL_judge_1 (by decide) ?_
  refine jh_aload_n dL_judge_2 rfl ?_
  refine jh_iload_n dL_judge_3 rfl ?_
  refine jh_iload_n dL_judge_4 rfl ?_
  refine jh_callV (q := 0) (As := [.int a1, .int a2]) (a' := 0) (b' := 0) kv_L_91 dL_judge_5 rfl hO.ob0.1 (ct_o hO.ob0) rfl (by decide) (Nat.le_of_ble_eq_true rfl) rfl (by decide) (Nat.le_refl _) (Nat.le_refl _) (Nat.le_of_ble_eq_true rfl) (t_X11_judge F τ n 0 c a1 a2 hO h (jq (.inl (some (.int x.1))) _) ⟨rfl, rfl⟩) (fun v9 h9 e9 => ?_) (fun E9 h9 e9 => nomatch e9.1)
  obtain ⟨e1, e2⟩ := e9
  cases e1
  subst e2
  refine jh_hs (S' := [.int x.1, .int (nI 0), .ref 191]) (h' := (ct_h G τ x.2, n)) rfl rfl ?_
  refine jh_i2l dL_judge_8 ?_
  refine jh_last (q := 191) (n := 1) (f := f) (i := nI 0) dL_judge_9 h191 ((ct_base hτ).trans hG) (vp_iL (iL_t (by decide) (by decide))) ?_
  refine jh_hs (S' := []) (h' := (ct_h (va_up G 191 (.inr (3, 1, .inr (.inl (vp_updL f 0 x.1.toInt64))))) τ x.2, n)) rfl (congrArg (fun z => (z, n)) (ct_g hτ)) ?_
  refine jh_goto (tgt := 21) dL_judge_10 (by decide) ?_
  refine jh_iconst (v := nI 0) dL_judge_21 (by decide) ?_
  exact jh_ireturn dL_judge_22 rfl hQ
set_option maxHeartbeats 1000000 in
theorem w_judge_x0 {Γ : jg_G} {X : Nat × (Nat → Int32)} {G : Nat → jg_C} (F : Nat) (τ : cT) (n : Nat) (c : cS) (a1 a2 : Int32) (hO : Sh τ n 0) (hn : n < 1000000) (hT : τ n = .inr (8, 0)) {y : cS} (h : o_X11_judge F τ n 0 c a1 a2 = some (.inr (0, y))) : jhc Γ mL_judge (hL_judge, X) 8 1 6 [some (.ref 0), some (.int a1), some (.int a2), some (.ref 191), none] (ct_h G τ c, n) (.inl (some (.int (nI 1)))) (ct_h (gx G n) τ y, n + 1) := by
  intro Q hQ
  refine jh_aload_n dL_judge_0 rfl ?_
  refine jh_iconst (v := nI 0) dL_judge_1 (by decide) ?_
  refine jh_aload_n dL_judge_2 rfl ?_
  refine jh_iload_n dL_judge_3 rfl ?_
  refine jh_iload_n dL_judge_4 rfl ?_
  refine jh_callV (q := 0) (As := [.int a1, .int a2]) (a' := 1) (b' := 6) kv_L_91 dL_judge_5 rfl hO.ob0.1 (ct_o hO.ob0) rfl (by decide) (Nat.le_of_ble_eq_true rfl) rfl (by decide) (Nat.le_refl _) (Nat.le_refl _) (Nat.le_of_ble_eq_true rfl) (x_X11_judge F τ n 0 c a1 a2 hO hn hT h (jq (.inr (exn 0)) _) ⟨rfl, rfl⟩) (fun v9 h9 e9 => nomatch e9.1) (fun E9 h9 e9 => ?_)
  obtain ⟨e1, e2⟩ := e9
  cases e1
  subst e2
  exact ⟨nI 1, ⟨0, [], [(0, 10, 17, 40)], 0, 10, 13, 13, by decide, rfl, rfl, (fun z hz => nomatch hz), ⟨by decide, by decide⟩, by decide, kc_L_13, by decide, rfl, 2, 1, Or.inl ⟨4, dL_judge_13, rfl, by decide⟩, dL_judge_15, by decide, dL_judge_16⟩, hQ⟩
set_option maxHeartbeats 1000000 in
theorem w_judge_x4 {Γ : jg_G} {X : Nat × (Nat → Int32)} {G : Nat → jg_C} (F : Nat) (τ : cT) (n : Nat) (c : cS) (a1 a2 : Int32) (hO : Sh τ n 0) (hn : n < 1000000) (hT : τ n = .inr (8, 0)) {y : cS} (h : o_X11_judge F τ n 0 c a1 a2 = some (.inr (4, y))) : jhc Γ mL_judge (hL_judge, X) 8 1 6 [some (.ref 0), some (.int a1), some (.int a2), some (.ref 191), none] (ct_h G τ c, n) (.inl (some (.int (nI 2)))) (ct_h (gx G n) τ y, n + 1) := by
  intro Q hQ
  refine jh_aload_n dL_judge_0 rfl ?_
  refine jh_iconst (v := nI 0) dL_judge_1 (by decide) ?_
  refine jh_aload_n dL_judge_2 rfl ?_
  refine jh_iload_n dL_judge_3 rfl ?_
  refine jh_iload_n dL_judge_4 rfl ?_
  refine jh_callV (q := 0) (As := [.int a1, .int a2]) (a' := 1) (b' := 6) kv_L_91 dL_judge_5 rfl hO.ob0.1 (ct_o hO.ob0) rfl (by decide) (Nat.le_of_ble_eq_true rfl) rfl (by decide) (Nat.le_refl _) (Nat.le_refl _) (Nat.le_of_ble_eq_true rfl) (x_X11_judge F τ n 0 c a1 a2 hO hn hT h (jq (.inr (exn 4)) _) ⟨rfl, rfl⟩) (fun v9 h9 e9 => nomatch e9.1) (fun E9 h9 e9 => ?_)
  obtain ⟨e1, e2⟩ := e9
  cases e1
  subst e2
  exact ⟨nI 2, ⟨4, [(0, 10, 13, 13)], [], 0, 10, 17, 40, by decide, rfl, rfl, (by intro z hz; simp only [List.mem_cons, List.not_mem_nil, or_false] at hz; rcases hz with rfl <;> first | exact ⟨by decide, 0, by decide, by decide, kc_L_13⟩), ⟨by decide, by decide⟩, by decide, kc_L_40, by decide, rfl, 2, 2, Or.inl ⟨4, dL_judge_17, rfl, by decide⟩, dL_judge_19, by decide, dL_judge_20⟩, hQ⟩
def mL_back : jg_Md := (yL_back, cL_back, 4, some .int)
def hL_back : List (Nat × Nat × Nat × Nat) := [(0, 9, 12, 13)]
theorem kL_back : jh_Sc RL 217 mL_back hL_back 3 := ⟨(jg_m7 80 rfl rfl), (jg_m7 81 rfl rfl), wi_L, (jg_m7 82 rfl rfl), by decide, by decide, by decide +kernel, by decide +kernel⟩
theorem dL_back_0 : decode cL_back 0 = .ok (.aload_n 2, 1) := by decide +kernel
theorem dL_back_1 : decode cL_back 1 = .ok (.iconst 0, 1) := by decide +kernel
theorem dL_back_2 : decode cL_back 2 = .ok (.aload_n 0, 1) := by decide +kernel
theorem dL_back_3 : decode cL_back 3 = .ok (.iload_n 1, 1) := by decide +kernel
theorem dL_back_4 : decode cL_back 4 = .ok (.invokevirtual 94, 3) := by decide +kernel
theorem dL_back_7 : decode cL_back 7 = .ok (.i2l, 1) := by decide +kernel
theorem dL_back_8 : decode cL_back 8 = .ok (.lastore, 1) := by decide +kernel
theorem dL_back_9 : decode cL_back 9 = .ok (.goto 6, 3) := by decide +kernel
theorem dL_back_12 : decode cL_back 12 = .ok (.astore_n 3, 1) := by decide +kernel
theorem dL_back_13 : decode cL_back 13 = .ok (.iconst 1, 1) := by decide +kernel
theorem dL_back_14 : decode cL_back 14 = .ok (.ireturn, 1) := by decide +kernel
theorem dL_back_15 : decode cL_back 15 = .ok (.iconst 0, 1) := by decide +kernel
theorem dL_back_16 : decode cL_back 16 = .ok (.ireturn, 1) := by decide +kernel
set_option maxHeartbeats 1000000 in
theorem w_back {Γ : jg_G} {X : Nat × (Nat → Int32)} {G : Nat → jg_C} (F : Nat) (τ : cT) (n : Nat) (c : cS) (a1 : Int32) (hO : Sh τ n 0) {f : Nat → Int64} (hG : G 191 = .inr (3, 1, .inr (.inl f))) (hτ : τ 191 = .inr (8, 0)) (h191 : 191 < n) {x : Int32 × cS} (h : o_X11_back F τ n 0 c a1 = some (.inl x)) : jhc Γ mL_back (hL_back, X) 8 0 0 [some (.ref 0), some (.int a1), some (.ref 191), none] (ct_h G τ c, n) (.inl (some (.int (nI 0)))) (ct_h (va_up G 191 (.inr (3, 1, .inr (.inl (vp_updL f 0 x.1.toInt64))))) τ x.2, n) := by
  intro Q hQ
  refine jh_aload_n dL_back_0 rfl ?_
  refine jh_iconst (v := nI 0) dL_back_1 (by decide) ?_
  refine jh_aload_n dL_back_2 rfl ?_
  refine jh_iload_n dL_back_3 rfl ?_
  refine jh_callV (q := 0) (As := [.int a1]) (a' := 0) (b' := 0) kv_L_94 dL_back_4 rfl hO.ob0.1 (ct_o hO.ob0) rfl (by decide) (Nat.le_of_ble_eq_true rfl) rfl (by decide) (Nat.le_refl _) (Nat.le_refl _) (Nat.le_of_ble_eq_true rfl) (t_X11_back F τ n 0 c a1 hO h (jq (.inl (some (.int x.1))) _) ⟨rfl, rfl⟩) (fun v9 h9 e9 => ?_) (fun E9 h9 e9 => nomatch e9.1)
  obtain ⟨e1, e2⟩ := e9
  cases e1
  subst e2
  refine jh_hs (S' := [.int x.1, .int (nI 0), .ref 191]) (h' := (ct_h G τ x.2, n)) rfl rfl ?_
  refine jh_i2l dL_back_7 ?_
  refine jh_last (q := 191) (n := 1) (f := f) (i := nI 0) dL_back_8 h191 ((ct_base hτ).trans hG) (vp_iL (iL_t (by decide) (by decide))) ?_
  refine jh_hs (S' := []) (h' := (ct_h (va_up G 191 (.inr (3, 1, .inr (.inl (vp_updL f 0 x.1.toInt64))))) τ x.2, n)) rfl (congrArg (fun z => (z, n)) (ct_g hτ)) ?_
  refine jh_goto (tgt := 15) dL_back_9 (by decide) ?_
  refine jh_iconst (v := nI 0) dL_back_15 (by decide) ?_
  exact jh_ireturn dL_back_16 rfl hQ
set_option maxHeartbeats 1000000 in
theorem w_back_x0 {Γ : jg_G} {X : Nat × (Nat → Int32)} {G : Nat → jg_C} (F : Nat) (τ : cT) (n : Nat) (c : cS) (a1 : Int32) (hO : Sh τ n 0) (hn : n < 1000000) (hT : τ n = .inr (8, 0)) {y : cS} (h : o_X11_back F τ n 0 c a1 = some (.inr (0, y))) : jhc Γ mL_back (hL_back, X) 8 1 6 [some (.ref 0), some (.int a1), some (.ref 191), none] (ct_h G τ c, n) (.inl (some (.int (nI 1)))) (ct_h (gx G n) τ y, n + 1) := by
  intro Q hQ
  refine jh_aload_n dL_back_0 rfl ?_
  refine jh_iconst (v := nI 0) dL_back_1 (by decide) ?_
  refine jh_aload_n dL_back_2 rfl ?_
  refine jh_iload_n dL_back_3 rfl ?_
  refine jh_callV (q := 0) (As := [.int a1]) (a' := 1) (b' := 6) kv_L_94 dL_back_4 rfl hO.ob0.1 (ct_o hO.ob0) rfl (by decide) (Nat.le_of_ble_eq_true rfl) rfl (by decide) (Nat.le_refl _) (Nat.le_refl _) (Nat.le_of_ble_eq_true rfl) (x_X11_back F τ n 0 c a1 hO hn hT h (jq (.inr (exn 0)) _) ⟨rfl, rfl⟩) (fun v9 h9 e9 => nomatch e9.1) (fun E9 h9 e9 => ?_)
  obtain ⟨e1, e2⟩ := e9
  cases e1
  subst e2
  exact ⟨nI 1, ⟨0, [], [], 0, 9, 12, 13, by decide, rfl, rfl, (fun z hz => nomatch hz), ⟨by decide, by decide⟩, by decide, kc_L_13, by decide, rfl, 1, 1, Or.inr ⟨3, dL_back_12, rfl, by decide⟩, dL_back_13, by decide, dL_back_14⟩, hQ⟩
def mL_pays : jg_Md := (yL_pays, cL_pays, 5, some .int)
def hL_pays : List (Nat × Nat × Nat × Nat) := [(0, 10, 13, 13), (0, 10, 17, 40)]
theorem kL_pays : jh_Sc RL 220 mL_pays hL_pays 4 := ⟨(jg_m7 97 rfl rfl), (jg_m7 98 rfl rfl), wi_L, (jg_m7 99 rfl rfl), by decide, by decide, by decide +kernel, by decide +kernel⟩
theorem dL_pays_0 : decode cL_pays 0 = .ok (.aload_n 3, 1) := by decide +kernel
theorem dL_pays_1 : decode cL_pays 1 = .ok (.iconst 0, 1) := by decide +kernel
theorem dL_pays_2 : decode cL_pays 2 = .ok (.aload_n 0, 1) := by decide +kernel
theorem dL_pays_3 : decode cL_pays 3 = .ok (.iload_n 1, 1) := by decide +kernel
theorem dL_pays_4 : decode cL_pays 4 = .ok (.iload_n 2, 1) := by decide +kernel
theorem dL_pays_5 : decode cL_pays 5 = .ok (.invokevirtual 97, 3) := by decide +kernel
theorem dL_pays_8 : decode cL_pays 8 = .ok (.i2l, 1) := by decide +kernel
theorem dL_pays_9 : decode cL_pays 9 = .ok (.lastore, 1) := by decide +kernel
theorem dL_pays_10 : decode cL_pays 10 = .ok (.goto 11, 3) := by decide +kernel
theorem dL_pays_13 : decode cL_pays 13 = .ok (.astore 4, 2) := by decide +kernel
theorem dL_pays_15 : decode cL_pays 15 = .ok (.iconst 1, 1) := by decide +kernel
theorem dL_pays_16 : decode cL_pays 16 = .ok (.ireturn, 1) := by decide +kernel
theorem dL_pays_17 : decode cL_pays 17 = .ok (.astore 4, 2) := by decide +kernel
theorem dL_pays_19 : decode cL_pays 19 = .ok (.iconst 2, 1) := by decide +kernel
theorem dL_pays_20 : decode cL_pays 20 = .ok (.ireturn, 1) := by decide +kernel
theorem dL_pays_21 : decode cL_pays 21 = .ok (.iconst 0, 1) := by decide +kernel
theorem dL_pays_22 : decode cL_pays 22 = .ok (.ireturn, 1) := by decide +kernel
set_option maxHeartbeats 1000000 in
theorem w_pays {Γ : jg_G} {X : Nat × (Nat → Int32)} {G : Nat → jg_C} (F : Nat) (τ : cT) (n : Nat) (c : cS) (a1 a2 : Int32) (hO : Sh τ n 0) {f : Nat → Int64} (hG : G 191 = .inr (3, 1, .inr (.inl f))) (hτ : τ 191 = .inr (8, 0)) (h191 : 191 < n) {x : Int32 × cS} (h : o_X11_pays F τ n 0 c a1 a2 = some (.inl x)) : jhc Γ mL_pays (hL_pays, X) 8 0 0 [some (.ref 0), some (.int a1), some (.int a2), some (.ref 191), none] (ct_h G τ c, n) (.inl (some (.int (nI 0)))) (ct_h (va_up G 191 (.inr (3, 1, .inr (.inl (vp_updL f 0 x.1.toInt64))))) τ x.2, n) := by
  intro Q hQ
  refine jh_aload_n dL_pays_0 rfl ?_
  refine jh_iconst (v := nI 0) dL_pays_1 (by decide) ?_
  refine jh_aload_n dL_pays_2 rfl ?_
  refine jh_iload_n dL_pays_3 rfl ?_
  refine jh_iload_n dL_pays_4 rfl ?_
  refine jh_callV (q := 0) (As := [.int a1, .int a2]) (a' := 0) (b' := 0) kv_L_97 dL_pays_5 rfl hO.ob0.1 (ct_o hO.ob0) rfl (by decide) (Nat.le_of_ble_eq_true rfl) rfl (by decide) (Nat.le_refl _) (Nat.le_refl _) (Nat.le_of_ble_eq_true rfl) (t_X11_pays F τ n 0 c a1 a2 hO h (jq (.inl (some (.int x.1))) _) ⟨rfl, rfl⟩) (fun v9 h9 e9 => ?_) (fun E9 h9 e9 => nomatch e9.1)
  obtain ⟨e1, e2⟩ := e9
  cases e1
  subst e2
  refine jh_hs (S' := [.int x.1, .int (nI 0), .ref 191]) (h' := (ct_h G τ x.2, n)) rfl rfl ?_
  refine jh_i2l dL_pays_8 ?_
  refine jh_last (q := 191) (n := 1) (f := f) (i := nI 0) dL_pays_9 h191 ((ct_base hτ).trans hG) (vp_iL (iL_t (by decide) (by decide))) ?_
  refine jh_hs (S' := []) (h' := (ct_h (va_up G 191 (.inr (3, 1, .inr (.inl (vp_updL f 0 x.1.toInt64))))) τ x.2, n)) rfl (congrArg (fun z => (z, n)) (ct_g hτ)) ?_
  refine jh_goto (tgt := 21) dL_pays_10 (by decide) ?_
  refine jh_iconst (v := nI 0) dL_pays_21 (by decide) ?_
  exact jh_ireturn dL_pays_22 rfl hQ
set_option maxHeartbeats 1000000 in
theorem w_pays_x0 {Γ : jg_G} {X : Nat × (Nat → Int32)} {G : Nat → jg_C} (F : Nat) (τ : cT) (n : Nat) (c : cS) (a1 a2 : Int32) (hO : Sh τ n 0) (hn : n < 1000000) (hT : τ n = .inr (8, 0)) {y : cS} (h : o_X11_pays F τ n 0 c a1 a2 = some (.inr (0, y))) : jhc Γ mL_pays (hL_pays, X) 8 1 6 [some (.ref 0), some (.int a1), some (.int a2), some (.ref 191), none] (ct_h G τ c, n) (.inl (some (.int (nI 1)))) (ct_h (gx G n) τ y, n + 1) := by
  intro Q hQ
  refine jh_aload_n dL_pays_0 rfl ?_
  refine jh_iconst (v := nI 0) dL_pays_1 (by decide) ?_
  refine jh_aload_n dL_pays_2 rfl ?_
  refine jh_iload_n dL_pays_3 rfl ?_
  refine jh_iload_n dL_pays_4 rfl ?_
  refine jh_callV (q := 0) (As := [.int a1, .int a2]) (a' := 1) (b' := 6) kv_L_97 dL_pays_5 rfl hO.ob0.1 (ct_o hO.ob0) rfl (by decide) (Nat.le_of_ble_eq_true rfl) rfl (by decide) (Nat.le_refl _) (Nat.le_refl _) (Nat.le_of_ble_eq_true rfl) (x_X11_pays F τ n 0 c a1 a2 hO hn hT h (jq (.inr (exn 0)) _) ⟨rfl, rfl⟩) (fun v9 h9 e9 => nomatch e9.1) (fun E9 h9 e9 => ?_)
  obtain ⟨e1, e2⟩ := e9
  cases e1
  subst e2
  exact ⟨nI 1, ⟨0, [], [(0, 10, 17, 40)], 0, 10, 13, 13, by decide, rfl, rfl, (fun z hz => nomatch hz), ⟨by decide, by decide⟩, by decide, kc_L_13, by decide, rfl, 2, 1, Or.inl ⟨4, dL_pays_13, rfl, by decide⟩, dL_pays_15, by decide, dL_pays_16⟩, hQ⟩
set_option maxHeartbeats 1000000 in
theorem w_pays_x4 {Γ : jg_G} {X : Nat × (Nat → Int32)} {G : Nat → jg_C} (F : Nat) (τ : cT) (n : Nat) (c : cS) (a1 a2 : Int32) (hO : Sh τ n 0) (hn : n < 1000000) (hT : τ n = .inr (8, 0)) {y : cS} (h : o_X11_pays F τ n 0 c a1 a2 = some (.inr (4, y))) : jhc Γ mL_pays (hL_pays, X) 8 1 6 [some (.ref 0), some (.int a1), some (.int a2), some (.ref 191), none] (ct_h G τ c, n) (.inl (some (.int (nI 2)))) (ct_h (gx G n) τ y, n + 1) := by
  intro Q hQ
  refine jh_aload_n dL_pays_0 rfl ?_
  refine jh_iconst (v := nI 0) dL_pays_1 (by decide) ?_
  refine jh_aload_n dL_pays_2 rfl ?_
  refine jh_iload_n dL_pays_3 rfl ?_
  refine jh_iload_n dL_pays_4 rfl ?_
  refine jh_callV (q := 0) (As := [.int a1, .int a2]) (a' := 1) (b' := 6) kv_L_97 dL_pays_5 rfl hO.ob0.1 (ct_o hO.ob0) rfl (by decide) (Nat.le_of_ble_eq_true rfl) rfl (by decide) (Nat.le_refl _) (Nat.le_refl _) (Nat.le_of_ble_eq_true rfl) (x_X11_pays F τ n 0 c a1 a2 hO hn hT h (jq (.inr (exn 4)) _) ⟨rfl, rfl⟩) (fun v9 h9 e9 => nomatch e9.1) (fun E9 h9 e9 => ?_)
  obtain ⟨e1, e2⟩ := e9
  cases e1
  subst e2
  exact ⟨nI 2, ⟨4, [(0, 10, 13, 13)], [], 0, 10, 17, 40, by decide, rfl, rfl, (by intro z hz; simp only [List.mem_cons, List.not_mem_nil, or_false] at hz; rcases hz with rfl <;> first | exact ⟨by decide, 0, by decide, by decide, kc_L_13⟩), ⟨by decide, by decide⟩, by decide, kc_L_40, by decide, rfl, 2, 2, Or.inl ⟨4, dL_pays_17, rfl, by decide⟩, dL_pays_19, by decide, dL_pays_20⟩, hQ⟩
def mL_cash : jg_Md := (yL_cash, cL_cash, 4, some .int)
def hL_cash : List (Nat × Nat × Nat × Nat) := [(0, 9, 12, 15)]
theorem kL_cash : jh_Sc RL 223 mL_cash hL_cash 3 := ⟨(jg_m7 109 rfl rfl), (jg_m7 110 rfl rfl), wi_L, (jg_m7 111 rfl rfl), by decide, by decide, by decide +kernel, by decide +kernel⟩
theorem dL_cash_0 : decode cL_cash 0 = .ok (.aload_n 2, 1) := by decide +kernel
theorem dL_cash_1 : decode cL_cash 1 = .ok (.iconst 0, 1) := by decide +kernel
theorem dL_cash_2 : decode cL_cash 2 = .ok (.aload_n 0, 1) := by decide +kernel
theorem dL_cash_3 : decode cL_cash 3 = .ok (.iload_n 1, 1) := by decide +kernel
theorem dL_cash_4 : decode cL_cash 4 = .ok (.invokevirtual 100, 3) := by decide +kernel
theorem dL_cash_7 : decode cL_cash 7 = .ok (.i2l, 1) := by decide +kernel
theorem dL_cash_8 : decode cL_cash 8 = .ok (.lastore, 1) := by decide +kernel
theorem dL_cash_9 : decode cL_cash 9 = .ok (.goto 6, 3) := by decide +kernel
theorem dL_cash_12 : decode cL_cash 12 = .ok (.astore_n 3, 1) := by decide +kernel
theorem dL_cash_13 : decode cL_cash 13 = .ok (.iconst 1, 1) := by decide +kernel
theorem dL_cash_14 : decode cL_cash 14 = .ok (.ireturn, 1) := by decide +kernel
theorem dL_cash_15 : decode cL_cash 15 = .ok (.iconst 0, 1) := by decide +kernel
theorem dL_cash_16 : decode cL_cash 16 = .ok (.ireturn, 1) := by decide +kernel
set_option maxHeartbeats 1000000 in
theorem w_cash {Γ : jg_G} {X : Nat × (Nat → Int32)} {G : Nat → jg_C} (τ : cT) (n : Nat) (c : cS) (a1 : Int32) (hO : Sh τ n 0) {f : Nat → Int64} (hG : G 191 = .inr (3, 1, .inr (.inl f))) (hτ : τ 191 = .inr (8, 0)) (h191 : 191 < n) {x : Int32 × cS} (h : o_X11_cash τ n 0 c a1 = some (.inl x)) : jhc Γ mL_cash (hL_cash, X) 8 0 0 [some (.ref 0), some (.int a1), some (.ref 191), none] (ct_h G τ c, n) (.inl (some (.int (nI 0)))) (ct_h (va_up G 191 (.inr (3, 1, .inr (.inl (vp_updL f 0 x.1.toInt64))))) τ x.2, n) := by
  intro Q hQ
  refine jh_aload_n dL_cash_0 rfl ?_
  refine jh_iconst (v := nI 0) dL_cash_1 (by decide) ?_
  refine jh_aload_n dL_cash_2 rfl ?_
  refine jh_iload_n dL_cash_3 rfl ?_
  refine jh_callV (q := 0) (As := [.int a1]) (a' := 0) (b' := 0) kv_L_100 dL_cash_4 rfl hO.ob0.1 (ct_o hO.ob0) rfl (by decide) (Nat.le_of_ble_eq_true rfl) rfl (by decide) (Nat.le_refl _) (Nat.le_refl _) (Nat.le_of_ble_eq_true rfl) (t_X11_cash τ n 0 c a1 hO h (jq (.inl (some (.int x.1))) _) ⟨rfl, rfl⟩) (fun v9 h9 e9 => ?_) (fun E9 h9 e9 => nomatch e9.1)
  obtain ⟨e1, e2⟩ := e9
  cases e1
  subst e2
  refine jh_hs (S' := [.int x.1, .int (nI 0), .ref 191]) (h' := (ct_h G τ x.2, n)) rfl rfl ?_
  refine jh_i2l dL_cash_7 ?_
  refine jh_last (q := 191) (n := 1) (f := f) (i := nI 0) dL_cash_8 h191 ((ct_base hτ).trans hG) (vp_iL (iL_t (by decide) (by decide))) ?_
  refine jh_hs (S' := []) (h' := (ct_h (va_up G 191 (.inr (3, 1, .inr (.inl (vp_updL f 0 x.1.toInt64))))) τ x.2, n)) rfl (congrArg (fun z => (z, n)) (ct_g hτ)) ?_
  refine jh_goto (tgt := 15) dL_cash_9 (by decide) ?_
  refine jh_iconst (v := nI 0) dL_cash_15 (by decide) ?_
  exact jh_ireturn dL_cash_16 rfl hQ
set_option maxHeartbeats 1000000 in
theorem w_cash_x1 {Γ : jg_G} {X : Nat × (Nat → Int32)} {G : Nat → jg_C} (τ : cT) (n : Nat) (c : cS) (a1 : Int32) (hO : Sh τ n 0) (hn : n < 1000000) (hT : τ n = .inr (8, 0)) {y : cS} (h : o_X11_cash τ n 0 c a1 = some (.inr (1, y))) : jhc Γ mL_cash (hL_cash, X) 8 1 6 [some (.ref 0), some (.int a1), some (.ref 191), none] (ct_h G τ c, n) (.inl (some (.int (nI 1)))) (ct_h (gx G n) τ y, n + 1) := by
  intro Q hQ
  refine jh_aload_n dL_cash_0 rfl ?_
  refine jh_iconst (v := nI 0) dL_cash_1 (by decide) ?_
  refine jh_aload_n dL_cash_2 rfl ?_
  refine jh_iload_n dL_cash_3 rfl ?_
  refine jh_callV (q := 0) (As := [.int a1]) (a' := 1) (b' := 6) kv_L_100 dL_cash_4 rfl hO.ob0.1 (ct_o hO.ob0) rfl (by decide) (Nat.le_of_ble_eq_true rfl) rfl (by decide) (Nat.le_refl _) (Nat.le_refl _) (Nat.le_of_ble_eq_true rfl) (x_X11_cash τ n 0 c a1 hO hn hT h (jq (.inr (exn 1)) _) ⟨rfl, rfl⟩) (fun v9 h9 e9 => nomatch e9.1) (fun E9 h9 e9 => ?_)
  obtain ⟨e1, e2⟩ := e9
  cases e1
  subst e2
  exact ⟨nI 1, ⟨1, [], [], 0, 9, 12, 15, by decide, rfl, rfl, (fun z hz => nomatch hz), ⟨by decide, by decide⟩, by decide, kc_L_15, by decide, rfl, 1, 1, Or.inr ⟨3, dL_cash_12, rfl, by decide⟩, dL_cash_13, by decide, dL_cash_14⟩, hQ⟩
def mL_bond : jg_Md := (yL_bond, cL_bond, 7, some .int)
def hL_bond : List (Nat × Nat × Nat × Nat) := [(0, 14, 17, 15), (0, 14, 21, 31)]
theorem kL_bond : jh_Sc RL 226 mL_bond hL_bond 6 := ⟨(jg_m7 117 rfl rfl), (jg_m7 118 rfl rfl), wi_L, (jg_m7 119 rfl rfl), by decide, by decide, by decide +kernel, by decide +kernel⟩
theorem dL_bond_0 : decode cL_bond 0 = .ok (.aload 5, 2) := by decide +kernel
theorem dL_bond_2 : decode cL_bond 2 = .ok (.iconst 0, 1) := by decide +kernel
theorem dL_bond_3 : decode cL_bond 3 = .ok (.aload_n 0, 1) := by decide +kernel
theorem dL_bond_4 : decode cL_bond 4 = .ok (.iload_n 1, 1) := by decide +kernel
theorem dL_bond_5 : decode cL_bond 5 = .ok (.iload_n 2, 1) := by decide +kernel
theorem dL_bond_6 : decode cL_bond 6 = .ok (.iload_n 3, 1) := by decide +kernel
theorem dL_bond_7 : decode cL_bond 7 = .ok (.iload 4, 2) := by decide +kernel
theorem dL_bond_9 : decode cL_bond 9 = .ok (.invokevirtual 103, 3) := by decide +kernel
theorem dL_bond_12 : decode cL_bond 12 = .ok (.i2l, 1) := by decide +kernel
theorem dL_bond_13 : decode cL_bond 13 = .ok (.lastore, 1) := by decide +kernel
theorem dL_bond_14 : decode cL_bond 14 = .ok (.goto 11, 3) := by decide +kernel
theorem dL_bond_17 : decode cL_bond 17 = .ok (.astore 6, 2) := by decide +kernel
theorem dL_bond_19 : decode cL_bond 19 = .ok (.iconst 1, 1) := by decide +kernel
theorem dL_bond_20 : decode cL_bond 20 = .ok (.ireturn, 1) := by decide +kernel
theorem dL_bond_21 : decode cL_bond 21 = .ok (.astore 6, 2) := by decide +kernel
theorem dL_bond_23 : decode cL_bond 23 = .ok (.iconst 2, 1) := by decide +kernel
theorem dL_bond_24 : decode cL_bond 24 = .ok (.ireturn, 1) := by decide +kernel
theorem dL_bond_25 : decode cL_bond 25 = .ok (.iconst 0, 1) := by decide +kernel
theorem dL_bond_26 : decode cL_bond 26 = .ok (.ireturn, 1) := by decide +kernel
set_option maxHeartbeats 1000000 in
theorem w_bond {Γ : jg_G} {X : Nat × (Nat → Int32)} {G : Nat → jg_C} (F : Nat) (τ : cT) (n : Nat) (c : cS) (a1 a2 a3 a4 : Int32) (hO : Sh τ n 0) {f : Nat → Int64} (hG : G 191 = .inr (3, 1, .inr (.inl f))) (hτ : τ 191 = .inr (8, 0)) (h191 : 191 < n) {x : Int32 × cS} (h : o_X11_bond F τ n 0 c a1 a2 a3 a4 = some (.inl x)) : jhc Γ mL_bond (hL_bond, X) 8 0 0 [some (.ref 0), some (.int a1), some (.int a2), some (.int a3), some (.int a4), some (.ref 191), none] (ct_h G τ c, n) (.inl (some (.int (nI 0)))) (ct_h (va_up G 191 (.inr (3, 1, .inr (.inl (vp_updL f 0 x.1.toInt64))))) τ x.2, n) := by
  intro Q hQ
  refine jh_aload dL_bond_0 rfl ?_
  refine jh_iconst (v := nI 0) dL_bond_2 (by decide) ?_
  refine jh_aload_n dL_bond_3 rfl ?_
  refine jh_iload_n dL_bond_4 rfl ?_
  refine jh_iload_n dL_bond_5 rfl ?_
  refine jh_iload_n dL_bond_6 rfl ?_
  refine jh_iload dL_bond_7 rfl ?_
  refine jh_callV (q := 0) (As := [.int a1, .int a2, .int a3, .int a4]) (a' := 0) (b' := 0) kv_L_103 dL_bond_9 rfl hO.ob0.1 (ct_o hO.ob0) rfl (by decide) (Nat.le_of_ble_eq_true rfl) rfl (by decide) (Nat.le_refl _) (Nat.le_refl _) (Nat.le_of_ble_eq_true rfl) (t_X11_bond F τ n 0 c a1 a2 a3 a4 hO h (jq (.inl (some (.int x.1))) _) ⟨rfl, rfl⟩) (fun v9 h9 e9 => ?_) (fun E9 h9 e9 => nomatch e9.1)
  obtain ⟨e1, e2⟩ := e9
  cases e1
  subst e2
  refine jh_hs (S' := [.int x.1, .int (nI 0), .ref 191]) (h' := (ct_h G τ x.2, n)) rfl rfl ?_
  refine jh_i2l dL_bond_12 ?_
  refine jh_last (q := 191) (n := 1) (f := f) (i := nI 0) dL_bond_13 h191 ((ct_base hτ).trans hG) (vp_iL (iL_t (by decide) (by decide))) ?_
  refine jh_hs (S' := []) (h' := (ct_h (va_up G 191 (.inr (3, 1, .inr (.inl (vp_updL f 0 x.1.toInt64))))) τ x.2, n)) rfl (congrArg (fun z => (z, n)) (ct_g hτ)) ?_
  refine jh_goto (tgt := 25) dL_bond_14 (by decide) ?_
  refine jh_iconst (v := nI 0) dL_bond_25 (by decide) ?_
  exact jh_ireturn dL_bond_26 rfl hQ
set_option maxHeartbeats 1000000 in
theorem w_bond_x1 {Γ : jg_G} {X : Nat × (Nat → Int32)} {G : Nat → jg_C} (F : Nat) (τ : cT) (n : Nat) (c : cS) (a1 a2 a3 a4 : Int32) (hO : Sh τ n 0) (hn : n < 1000000) (hT : τ n = .inr (8, 0)) {y : cS} (h : o_X11_bond F τ n 0 c a1 a2 a3 a4 = some (.inr (1, y))) : jhc Γ mL_bond (hL_bond, X) 8 1 6 [some (.ref 0), some (.int a1), some (.int a2), some (.int a3), some (.int a4), some (.ref 191), none] (ct_h G τ c, n) (.inl (some (.int (nI 1)))) (ct_h (gx G n) τ y, n + 1) := by
  intro Q hQ
  refine jh_aload dL_bond_0 rfl ?_
  refine jh_iconst (v := nI 0) dL_bond_2 (by decide) ?_
  refine jh_aload_n dL_bond_3 rfl ?_
  refine jh_iload_n dL_bond_4 rfl ?_
  refine jh_iload_n dL_bond_5 rfl ?_
  refine jh_iload_n dL_bond_6 rfl ?_
  refine jh_iload dL_bond_7 rfl ?_
  refine jh_callV (q := 0) (As := [.int a1, .int a2, .int a3, .int a4]) (a' := 1) (b' := 6) kv_L_103 dL_bond_9 rfl hO.ob0.1 (ct_o hO.ob0) rfl (by decide) (Nat.le_of_ble_eq_true rfl) rfl (by decide) (Nat.le_refl _) (Nat.le_refl _) (Nat.le_of_ble_eq_true rfl) (x_X11_bond F τ n 0 c a1 a2 a3 a4 hO hn hT h (jq (.inr (exn 1)) _) ⟨rfl, rfl⟩) (fun v9 h9 e9 => nomatch e9.1) (fun E9 h9 e9 => ?_)
  obtain ⟨e1, e2⟩ := e9
  cases e1
  subst e2
  exact ⟨nI 1, ⟨1, [], [(0, 14, 21, 31)], 0, 14, 17, 15, by decide, rfl, rfl, (fun z hz => nomatch hz), ⟨by decide, by decide⟩, by decide, kc_L_15, by decide, rfl, 2, 1, Or.inl ⟨6, dL_bond_17, rfl, by decide⟩, dL_bond_19, by decide, dL_bond_20⟩, hQ⟩
set_option maxHeartbeats 1000000 in
theorem w_bond_x3 {Γ : jg_G} {X : Nat × (Nat → Int32)} {G : Nat → jg_C} (F : Nat) (τ : cT) (n : Nat) (c : cS) (a1 a2 a3 a4 : Int32) (hO : Sh τ n 0) (hn : n < 1000000) (hT : τ n = .inr (8, 0)) {y : cS} (h : o_X11_bond F τ n 0 c a1 a2 a3 a4 = some (.inr (3, y))) : jhc Γ mL_bond (hL_bond, X) 8 1 6 [some (.ref 0), some (.int a1), some (.int a2), some (.int a3), some (.int a4), some (.ref 191), none] (ct_h G τ c, n) (.inl (some (.int (nI 2)))) (ct_h (gx G n) τ y, n + 1) := by
  intro Q hQ
  refine jh_aload dL_bond_0 rfl ?_
  refine jh_iconst (v := nI 0) dL_bond_2 (by decide) ?_
  refine jh_aload_n dL_bond_3 rfl ?_
  refine jh_iload_n dL_bond_4 rfl ?_
  refine jh_iload_n dL_bond_5 rfl ?_
  refine jh_iload_n dL_bond_6 rfl ?_
  refine jh_iload dL_bond_7 rfl ?_
  refine jh_callV (q := 0) (As := [.int a1, .int a2, .int a3, .int a4]) (a' := 1) (b' := 6) kv_L_103 dL_bond_9 rfl hO.ob0.1 (ct_o hO.ob0) rfl (by decide) (Nat.le_of_ble_eq_true rfl) rfl (by decide) (Nat.le_refl _) (Nat.le_refl _) (Nat.le_of_ble_eq_true rfl) (x_X11_bond F τ n 0 c a1 a2 a3 a4 hO hn hT h (jq (.inr (exn 3)) _) ⟨rfl, rfl⟩) (fun v9 h9 e9 => nomatch e9.1) (fun E9 h9 e9 => ?_)
  obtain ⟨e1, e2⟩ := e9
  cases e1
  subst e2
  exact ⟨nI 2, ⟨3, [(0, 14, 17, 15)], [], 0, 14, 21, 31, by decide, rfl, rfl, (by intro z hz; simp only [List.mem_cons, List.not_mem_nil, or_false] at hz; rcases hz with rfl <;> first | exact ⟨by decide, 1, by decide, by decide, kc_L_15⟩), ⟨by decide, by decide⟩, by decide, kc_L_31, by decide, rfl, 2, 2, Or.inl ⟨6, dL_bond_21, rfl, by decide⟩, dL_bond_23, by decide, dL_bond_24⟩, hQ⟩
def mL_owes : jg_Md := (yL_owes, cL_owes, 5, some .int)
def hL_owes : List (Nat × Nat × Nat × Nat) := [(0, 10, 13, 13), (0, 10, 17, 40)]
theorem kL_owes : jh_Sc RL 229 mL_owes hL_owes 4 := ⟨(jg_m7 133 rfl rfl), (jg_m7 134 rfl rfl), wi_L, (jg_m7 135 rfl rfl), by decide, by decide, by decide +kernel, by decide +kernel⟩
theorem dL_owes_0 : decode cL_owes 0 = .ok (.aload_n 3, 1) := by decide +kernel
theorem dL_owes_1 : decode cL_owes 1 = .ok (.iconst 0, 1) := by decide +kernel
theorem dL_owes_2 : decode cL_owes 2 = .ok (.aload_n 0, 1) := by decide +kernel
theorem dL_owes_3 : decode cL_owes 3 = .ok (.iload_n 1, 1) := by decide +kernel
theorem dL_owes_4 : decode cL_owes 4 = .ok (.iload_n 2, 1) := by decide +kernel
theorem dL_owes_5 : decode cL_owes 5 = .ok (.invokevirtual 106, 3) := by decide +kernel
theorem dL_owes_8 : decode cL_owes 8 = .ok (.i2l, 1) := by decide +kernel
theorem dL_owes_9 : decode cL_owes 9 = .ok (.lastore, 1) := by decide +kernel
theorem dL_owes_10 : decode cL_owes 10 = .ok (.goto 11, 3) := by decide +kernel
theorem dL_owes_13 : decode cL_owes 13 = .ok (.astore 4, 2) := by decide +kernel
theorem dL_owes_15 : decode cL_owes 15 = .ok (.iconst 1, 1) := by decide +kernel
theorem dL_owes_16 : decode cL_owes 16 = .ok (.ireturn, 1) := by decide +kernel
theorem dL_owes_17 : decode cL_owes 17 = .ok (.astore 4, 2) := by decide +kernel
theorem dL_owes_19 : decode cL_owes 19 = .ok (.iconst 2, 1) := by decide +kernel
theorem dL_owes_20 : decode cL_owes 20 = .ok (.ireturn, 1) := by decide +kernel
theorem dL_owes_21 : decode cL_owes 21 = .ok (.iconst 0, 1) := by decide +kernel
theorem dL_owes_22 : decode cL_owes 22 = .ok (.ireturn, 1) := by decide +kernel
set_option maxHeartbeats 1000000 in
theorem w_owes {Γ : jg_G} {X : Nat × (Nat → Int32)} {G : Nat → jg_C} (τ : cT) (n : Nat) (c : cS) (a1 a2 : Int32) (hO : Sh τ n 0) {f : Nat → Int64} (hG : G 191 = .inr (3, 1, .inr (.inl f))) (hτ : τ 191 = .inr (8, 0)) (h191 : 191 < n) {x : Int32} (h : o_X11_owes τ n 0 c a1 a2 = some (.inl x)) : jhc Γ mL_owes (hL_owes, X) 8 0 0 [some (.ref 0), some (.int a1), some (.int a2), some (.ref 191), none] (ct_h G τ c, n) (.inl (some (.int (nI 0)))) (ct_h (va_up G 191 (.inr (3, 1, .inr (.inl (vp_updL f 0 x.toInt64))))) τ c, n) := by
  intro Q hQ
  refine jh_aload_n dL_owes_0 rfl ?_
  refine jh_iconst (v := nI 0) dL_owes_1 (by decide) ?_
  refine jh_aload_n dL_owes_2 rfl ?_
  refine jh_iload_n dL_owes_3 rfl ?_
  refine jh_iload_n dL_owes_4 rfl ?_
  refine jh_callV (q := 0) (As := [.int a1, .int a2]) (a' := 0) (b' := 0) kv_L_106 dL_owes_5 rfl hO.ob0.1 (ct_o hO.ob0) rfl (by decide) (Nat.le_of_ble_eq_true rfl) rfl (by decide) (Nat.le_refl _) (Nat.le_refl _) (Nat.le_of_ble_eq_true rfl) (t_X11_owes τ n 0 c a1 a2 hO h (jq (.inl (some (.int x))) _) ⟨rfl, rfl⟩) (fun v9 h9 e9 => ?_) (fun E9 h9 e9 => nomatch e9.1)
  obtain ⟨e1, e2⟩ := e9
  cases e1
  subst e2
  refine jh_hs (S' := [.int x, .int (nI 0), .ref 191]) (h' := (ct_h G τ c, n)) rfl rfl ?_
  refine jh_i2l dL_owes_8 ?_
  refine jh_last (q := 191) (n := 1) (f := f) (i := nI 0) dL_owes_9 h191 ((ct_base hτ).trans hG) (vp_iL (iL_t (by decide) (by decide))) ?_
  refine jh_hs (S' := []) (h' := (ct_h (va_up G 191 (.inr (3, 1, .inr (.inl (vp_updL f 0 x.toInt64))))) τ c, n)) rfl (congrArg (fun z => (z, n)) (ct_g hτ)) ?_
  refine jh_goto (tgt := 21) dL_owes_10 (by decide) ?_
  refine jh_iconst (v := nI 0) dL_owes_21 (by decide) ?_
  exact jh_ireturn dL_owes_22 rfl hQ
set_option maxHeartbeats 1000000 in
theorem w_owes_x0 {Γ : jg_G} {X : Nat × (Nat → Int32)} {G : Nat → jg_C} (τ : cT) (n : Nat) (c : cS) (a1 a2 : Int32) (hO : Sh τ n 0) (hn : n < 1000000) (hT : τ n = .inr (8, 0)) (h : o_X11_owes τ n 0 c a1 a2 = some (.inr 0)) : jhc Γ mL_owes (hL_owes, X) 8 1 6 [some (.ref 0), some (.int a1), some (.int a2), some (.ref 191), none] (ct_h G τ c, n) (.inl (some (.int (nI 1)))) (ct_h (gx G n) τ c, n + 1) := by
  intro Q hQ
  refine jh_aload_n dL_owes_0 rfl ?_
  refine jh_iconst (v := nI 0) dL_owes_1 (by decide) ?_
  refine jh_aload_n dL_owes_2 rfl ?_
  refine jh_iload_n dL_owes_3 rfl ?_
  refine jh_iload_n dL_owes_4 rfl ?_
  refine jh_callV (q := 0) (As := [.int a1, .int a2]) (a' := 1) (b' := 6) kv_L_106 dL_owes_5 rfl hO.ob0.1 (ct_o hO.ob0) rfl (by decide) (Nat.le_of_ble_eq_true rfl) rfl (by decide) (Nat.le_refl _) (Nat.le_refl _) (Nat.le_of_ble_eq_true rfl) (x_X11_owes τ n 0 c a1 a2 hO hn hT h (jq (.inr (exn 0)) _) ⟨rfl, rfl⟩) (fun v9 h9 e9 => nomatch e9.1) (fun E9 h9 e9 => ?_)
  obtain ⟨e1, e2⟩ := e9
  cases e1
  subst e2
  exact ⟨nI 1, ⟨0, [], [(0, 10, 17, 40)], 0, 10, 13, 13, by decide, rfl, rfl, (fun z hz => nomatch hz), ⟨by decide, by decide⟩, by decide, kc_L_13, by decide, rfl, 2, 1, Or.inl ⟨4, dL_owes_13, rfl, by decide⟩, dL_owes_15, by decide, dL_owes_16⟩, hQ⟩
set_option maxHeartbeats 1000000 in
theorem w_owes_x4 {Γ : jg_G} {X : Nat × (Nat → Int32)} {G : Nat → jg_C} (τ : cT) (n : Nat) (c : cS) (a1 a2 : Int32) (hO : Sh τ n 0) (hn : n < 1000000) (hT : τ n = .inr (8, 0)) (h : o_X11_owes τ n 0 c a1 a2 = some (.inr 4)) : jhc Γ mL_owes (hL_owes, X) 8 1 6 [some (.ref 0), some (.int a1), some (.int a2), some (.ref 191), none] (ct_h G τ c, n) (.inl (some (.int (nI 2)))) (ct_h (gx G n) τ c, n + 1) := by
  intro Q hQ
  refine jh_aload_n dL_owes_0 rfl ?_
  refine jh_iconst (v := nI 0) dL_owes_1 (by decide) ?_
  refine jh_aload_n dL_owes_2 rfl ?_
  refine jh_iload_n dL_owes_3 rfl ?_
  refine jh_iload_n dL_owes_4 rfl ?_
  refine jh_callV (q := 0) (As := [.int a1, .int a2]) (a' := 1) (b' := 6) kv_L_106 dL_owes_5 rfl hO.ob0.1 (ct_o hO.ob0) rfl (by decide) (Nat.le_of_ble_eq_true rfl) rfl (by decide) (Nat.le_refl _) (Nat.le_refl _) (Nat.le_of_ble_eq_true rfl) (x_X11_owes τ n 0 c a1 a2 hO hn hT h (jq (.inr (exn 4)) _) ⟨rfl, rfl⟩) (fun v9 h9 e9 => nomatch e9.1) (fun E9 h9 e9 => ?_)
  obtain ⟨e1, e2⟩ := e9
  cases e1
  subst e2
  exact ⟨nI 2, ⟨4, [(0, 10, 13, 13)], [], 0, 10, 17, 40, by decide, rfl, rfl, (by intro z hz; simp only [List.mem_cons, List.not_mem_nil, or_false] at hz; rcases hz with rfl <;> first | exact ⟨by decide, 0, by decide, by decide, kc_L_13⟩), ⟨by decide, by decide⟩, by decide, kc_L_40, by decide, rfl, 2, 2, Or.inl ⟨4, dL_owes_17, rfl, by decide⟩, dL_owes_19, by decide, dL_owes_20⟩, hQ⟩
def mL_work : jg_Md := (yL_work, cL_work, 7, some .int)
def hL_work : List (Nat × Nat × Nat × Nat) := [(0, 14, 17, 15)]
theorem kL_work : jh_Sc RL 236 mL_work hL_work 6 := ⟨(jg_m7 141 rfl rfl), (jg_m7 142 rfl rfl), wi_L, (jg_m7 143 rfl rfl), by decide, by decide, by decide +kernel, by decide +kernel⟩
theorem dL_work_0 : decode cL_work 0 = .ok (.aload 5, 2) := by decide +kernel
theorem dL_work_2 : decode cL_work 2 = .ok (.iconst 0, 1) := by decide +kernel
theorem dL_work_3 : decode cL_work 3 = .ok (.aload_n 0, 1) := by decide +kernel
theorem dL_work_4 : decode cL_work 4 = .ok (.iload_n 1, 1) := by decide +kernel
theorem dL_work_5 : decode cL_work 5 = .ok (.iload_n 2, 1) := by decide +kernel
theorem dL_work_6 : decode cL_work 6 = .ok (.iload_n 3, 1) := by decide +kernel
theorem dL_work_7 : decode cL_work 7 = .ok (.iload 4, 2) := by decide +kernel
theorem dL_work_9 : decode cL_work 9 = .ok (.invokevirtual 109, 3) := by decide +kernel
theorem dL_work_12 : decode cL_work 12 = .ok (.i2l, 1) := by decide +kernel
theorem dL_work_13 : decode cL_work 13 = .ok (.lastore, 1) := by decide +kernel
theorem dL_work_14 : decode cL_work 14 = .ok (.goto 7, 3) := by decide +kernel
theorem dL_work_17 : decode cL_work 17 = .ok (.astore 6, 2) := by decide +kernel
theorem dL_work_19 : decode cL_work 19 = .ok (.iconst 1, 1) := by decide +kernel
theorem dL_work_20 : decode cL_work 20 = .ok (.ireturn, 1) := by decide +kernel
theorem dL_work_21 : decode cL_work 21 = .ok (.iconst 0, 1) := by decide +kernel
theorem dL_work_22 : decode cL_work 22 = .ok (.ireturn, 1) := by decide +kernel
set_option maxHeartbeats 1000000 in
theorem w_work {Γ : jg_G} {X : Nat × (Nat → Int32)} {G : Nat → jg_C} (τ : cT) (n : Nat) (c : cS) (a1 a2 a3 a4 : Int32) (hO : Sh τ n 0) {f : Nat → Int64} (hG : G 191 = .inr (3, 1, .inr (.inl f))) (hτ : τ 191 = .inr (8, 0)) (h191 : 191 < n) {x : Int32 × cS} (h : o_X11_work τ n 0 c a1 a2 a3 a4 = some (.inl x)) : jhc Γ mL_work (hL_work, X) 8 0 0 [some (.ref 0), some (.int a1), some (.int a2), some (.int a3), some (.int a4), some (.ref 191), none] (ct_h G τ c, n) (.inl (some (.int (nI 0)))) (ct_h (va_up G 191 (.inr (3, 1, .inr (.inl (vp_updL f 0 x.1.toInt64))))) τ x.2, n) := by
  intro Q hQ
  refine jh_aload dL_work_0 rfl ?_
  refine jh_iconst (v := nI 0) dL_work_2 (by decide) ?_
  refine jh_aload_n dL_work_3 rfl ?_
  refine jh_iload_n dL_work_4 rfl ?_
  refine jh_iload_n dL_work_5 rfl ?_
  refine jh_iload_n dL_work_6 rfl ?_
  refine jh_iload dL_work_7 rfl ?_
  refine jh_callV (q := 0) (As := [.int a1, .int a2, .int a3, .int a4]) (a' := 0) (b' := 0) kv_L_109 dL_work_9 rfl hO.ob0.1 (ct_o hO.ob0) rfl (by decide) (Nat.le_of_ble_eq_true rfl) rfl (by decide) (Nat.le_refl _) (Nat.le_refl _) (Nat.le_of_ble_eq_true rfl) (t_X11_work τ n 0 c a1 a2 a3 a4 hO h (jq (.inl (some (.int x.1))) _) ⟨rfl, rfl⟩) (fun v9 h9 e9 => ?_) (fun E9 h9 e9 => nomatch e9.1)
  obtain ⟨e1, e2⟩ := e9
  cases e1
  subst e2
  refine jh_hs (S' := [.int x.1, .int (nI 0), .ref 191]) (h' := (ct_h G τ x.2, n)) rfl rfl ?_
  refine jh_i2l dL_work_12 ?_
  refine jh_last (q := 191) (n := 1) (f := f) (i := nI 0) dL_work_13 h191 ((ct_base hτ).trans hG) (vp_iL (iL_t (by decide) (by decide))) ?_
  refine jh_hs (S' := []) (h' := (ct_h (va_up G 191 (.inr (3, 1, .inr (.inl (vp_updL f 0 x.1.toInt64))))) τ x.2, n)) rfl (congrArg (fun z => (z, n)) (ct_g hτ)) ?_
  refine jh_goto (tgt := 21) dL_work_14 (by decide) ?_
  refine jh_iconst (v := nI 0) dL_work_21 (by decide) ?_
  exact jh_ireturn dL_work_22 rfl hQ
set_option maxHeartbeats 1000000 in
theorem w_work_x1 {Γ : jg_G} {X : Nat × (Nat → Int32)} {G : Nat → jg_C} (τ : cT) (n : Nat) (c : cS) (a1 a2 a3 a4 : Int32) (hO : Sh τ n 0) (hn : n < 1000000) (hT : τ n = .inr (8, 0)) {y : cS} (h : o_X11_work τ n 0 c a1 a2 a3 a4 = some (.inr (1, y))) : jhc Γ mL_work (hL_work, X) 8 1 6 [some (.ref 0), some (.int a1), some (.int a2), some (.int a3), some (.int a4), some (.ref 191), none] (ct_h G τ c, n) (.inl (some (.int (nI 1)))) (ct_h (gx G n) τ y, n + 1) := by
  intro Q hQ
  refine jh_aload dL_work_0 rfl ?_
  refine jh_iconst (v := nI 0) dL_work_2 (by decide) ?_
  refine jh_aload_n dL_work_3 rfl ?_
  refine jh_iload_n dL_work_4 rfl ?_
  refine jh_iload_n dL_work_5 rfl ?_
  refine jh_iload_n dL_work_6 rfl ?_
  refine jh_iload dL_work_7 rfl ?_
  refine jh_callV (q := 0) (As := [.int a1, .int a2, .int a3, .int a4]) (a' := 1) (b' := 6) kv_L_109 dL_work_9 rfl hO.ob0.1 (ct_o hO.ob0) rfl (by decide) (Nat.le_of_ble_eq_true rfl) rfl (by decide) (Nat.le_refl _) (Nat.le_refl _) (Nat.le_of_ble_eq_true rfl) (x_X11_work τ n 0 c a1 a2 a3 a4 hO hn hT h (jq (.inr (exn 1)) _) ⟨rfl, rfl⟩) (fun v9 h9 e9 => nomatch e9.1) (fun E9 h9 e9 => ?_)
  obtain ⟨e1, e2⟩ := e9
  cases e1
  subst e2
  exact ⟨nI 1, ⟨1, [], [], 0, 14, 17, 15, by decide, rfl, rfl, (fun z hz => nomatch hz), ⟨by decide, by decide⟩, by decide, kc_L_15, by decide, rfl, 2, 1, Or.inl ⟨6, dL_work_17, rfl, by decide⟩, dL_work_19, by decide, dL_work_20⟩, hQ⟩
def mL_worth : jg_Md := (yL_worth, cL_worth, 5, some .int)
def hL_worth : List (Nat × Nat × Nat × Nat) := [(0, 10, 13, 15)]
theorem kL_worth : jh_Sc RL 239 mL_worth hL_worth 4 := ⟨(jg_m7 153 rfl rfl), (jg_m7 154 rfl rfl), wi_L, (jg_m7 155 rfl rfl), by decide, by decide, by decide +kernel, by decide +kernel⟩
theorem dL_worth_0 : decode cL_worth 0 = .ok (.aload_n 3, 1) := by decide +kernel
theorem dL_worth_1 : decode cL_worth 1 = .ok (.iconst 0, 1) := by decide +kernel
theorem dL_worth_2 : decode cL_worth 2 = .ok (.aload_n 0, 1) := by decide +kernel
theorem dL_worth_3 : decode cL_worth 3 = .ok (.iload_n 1, 1) := by decide +kernel
theorem dL_worth_4 : decode cL_worth 4 = .ok (.iload_n 2, 1) := by decide +kernel
theorem dL_worth_5 : decode cL_worth 5 = .ok (.invokevirtual 112, 3) := by decide +kernel
theorem dL_worth_8 : decode cL_worth 8 = .ok (.i2l, 1) := by decide +kernel
theorem dL_worth_9 : decode cL_worth 9 = .ok (.lastore, 1) := by decide +kernel
theorem dL_worth_10 : decode cL_worth 10 = .ok (.goto 7, 3) := by decide +kernel
theorem dL_worth_13 : decode cL_worth 13 = .ok (.astore 4, 2) := by decide +kernel
theorem dL_worth_15 : decode cL_worth 15 = .ok (.iconst 1, 1) := by decide +kernel
theorem dL_worth_16 : decode cL_worth 16 = .ok (.ireturn, 1) := by decide +kernel
theorem dL_worth_17 : decode cL_worth 17 = .ok (.iconst 0, 1) := by decide +kernel
theorem dL_worth_18 : decode cL_worth 18 = .ok (.ireturn, 1) := by decide +kernel
set_option maxHeartbeats 1000000 in
theorem w_worth {Γ : jg_G} {X : Nat × (Nat → Int32)} {G : Nat → jg_C} (F : Nat) (τ : cT) (n : Nat) (c : cS) (a1 a2 : Int32) (hO : Sh τ n 0) {f : Nat → Int64} (hG : G 191 = .inr (3, 1, .inr (.inl f))) (hτ : τ 191 = .inr (8, 0)) (h191 : 191 < n) {x : Int32} (h : o_X11_worth F τ n 0 c a1 a2 = some (.inl x)) : jhc Γ mL_worth (hL_worth, X) 8 0 0 [some (.ref 0), some (.int a1), some (.int a2), some (.ref 191), none] (ct_h G τ c, n) (.inl (some (.int (nI 0)))) (ct_h (va_up G 191 (.inr (3, 1, .inr (.inl (vp_updL f 0 x.toInt64))))) τ c, n) := by
  intro Q hQ
  refine jh_aload_n dL_worth_0 rfl ?_
  refine jh_iconst (v := nI 0) dL_worth_1 (by decide) ?_
  refine jh_aload_n dL_worth_2 rfl ?_
  refine jh_iload_n dL_worth_3 rfl ?_
  refine jh_iload_n dL_worth_4 rfl ?_
  refine jh_callV (q := 0) (As := [.int a1, .int a2]) (a' := 0) (b' := 0) kv_L_112 dL_worth_5 rfl hO.ob0.1 (ct_o hO.ob0) rfl (by decide) (Nat.le_of_ble_eq_true rfl) rfl (by decide) (Nat.le_refl _) (Nat.le_refl _) (Nat.le_of_ble_eq_true rfl) (t_X11_worth F τ n 0 c a1 a2 hO h (jq (.inl (some (.int x))) _) ⟨rfl, rfl⟩) (fun v9 h9 e9 => ?_) (fun E9 h9 e9 => nomatch e9.1)
  obtain ⟨e1, e2⟩ := e9
  cases e1
  subst e2
  refine jh_hs (S' := [.int x, .int (nI 0), .ref 191]) (h' := (ct_h G τ c, n)) rfl rfl ?_
  refine jh_i2l dL_worth_8 ?_
  refine jh_last (q := 191) (n := 1) (f := f) (i := nI 0) dL_worth_9 h191 ((ct_base hτ).trans hG) (vp_iL (iL_t (by decide) (by decide))) ?_
  refine jh_hs (S' := []) (h' := (ct_h (va_up G 191 (.inr (3, 1, .inr (.inl (vp_updL f 0 x.toInt64))))) τ c, n)) rfl (congrArg (fun z => (z, n)) (ct_g hτ)) ?_
  refine jh_goto (tgt := 17) dL_worth_10 (by decide) ?_
  refine jh_iconst (v := nI 0) dL_worth_17 (by decide) ?_
  exact jh_ireturn dL_worth_18 rfl hQ
set_option maxHeartbeats 1000000 in
theorem w_worth_x1 {Γ : jg_G} {X : Nat × (Nat → Int32)} {G : Nat → jg_C} (F : Nat) (τ : cT) (n : Nat) (c : cS) (a1 a2 : Int32) (hO : Sh τ n 0) (hn : n < 1000000) (hT : τ n = .inr (8, 0)) (h : o_X11_worth F τ n 0 c a1 a2 = some (.inr 1)) : jhc Γ mL_worth (hL_worth, X) 8 1 6 [some (.ref 0), some (.int a1), some (.int a2), some (.ref 191), none] (ct_h G τ c, n) (.inl (some (.int (nI 1)))) (ct_h (gx G n) τ c, n + 1) := by
  intro Q hQ
  refine jh_aload_n dL_worth_0 rfl ?_
  refine jh_iconst (v := nI 0) dL_worth_1 (by decide) ?_
  refine jh_aload_n dL_worth_2 rfl ?_
  refine jh_iload_n dL_worth_3 rfl ?_
  refine jh_iload_n dL_worth_4 rfl ?_
  refine jh_callV (q := 0) (As := [.int a1, .int a2]) (a' := 1) (b' := 6) kv_L_112 dL_worth_5 rfl hO.ob0.1 (ct_o hO.ob0) rfl (by decide) (Nat.le_of_ble_eq_true rfl) rfl (by decide) (Nat.le_refl _) (Nat.le_refl _) (Nat.le_of_ble_eq_true rfl) (x_X11_worth F τ n 0 c a1 a2 hO hn hT h (jq (.inr (exn 1)) _) ⟨rfl, rfl⟩) (fun v9 h9 e9 => nomatch e9.1) (fun E9 h9 e9 => ?_)
  obtain ⟨e1, e2⟩ := e9
  cases e1
  subst e2
  exact ⟨nI 1, ⟨1, [], [], 0, 10, 13, 15, by decide, rfl, rfl, (fun z hz => nomatch hz), ⟨by decide, by decide⟩, by decide, kc_L_15, by decide, rfl, 2, 1, Or.inl ⟨4, dL_worth_13, rfl, by decide⟩, dL_worth_15, by decide, dL_worth_16⟩, hQ⟩
def mL_best : jg_Md := (yL_best, cL_best, 4, some .int)
def hL_best : List (Nat × Nat × Nat × Nat) := [(0, 9, 12, 15)]
theorem kL_best : jh_Sc RL 242 mL_best hL_best 3 := ⟨(jg_m7 164 rfl rfl), (jg_m7 165 rfl rfl), wi_L, (jg_m7 166 rfl rfl), by decide, by decide, by decide +kernel, by decide +kernel⟩
theorem dL_best_0 : decode cL_best 0 = .ok (.aload_n 2, 1) := by decide +kernel
theorem dL_best_1 : decode cL_best 1 = .ok (.iconst 0, 1) := by decide +kernel
theorem dL_best_2 : decode cL_best 2 = .ok (.aload_n 0, 1) := by decide +kernel
theorem dL_best_3 : decode cL_best 3 = .ok (.iload_n 1, 1) := by decide +kernel
theorem dL_best_4 : decode cL_best 4 = .ok (.invokevirtual 115, 3) := by decide +kernel
theorem dL_best_7 : decode cL_best 7 = .ok (.i2l, 1) := by decide +kernel
theorem dL_best_8 : decode cL_best 8 = .ok (.lastore, 1) := by decide +kernel
theorem dL_best_9 : decode cL_best 9 = .ok (.goto 6, 3) := by decide +kernel
theorem dL_best_12 : decode cL_best 12 = .ok (.astore_n 3, 1) := by decide +kernel
theorem dL_best_13 : decode cL_best 13 = .ok (.iconst 1, 1) := by decide +kernel
theorem dL_best_14 : decode cL_best 14 = .ok (.ireturn, 1) := by decide +kernel
theorem dL_best_15 : decode cL_best 15 = .ok (.iconst 0, 1) := by decide +kernel
theorem dL_best_16 : decode cL_best 16 = .ok (.ireturn, 1) := by decide +kernel
set_option maxHeartbeats 1000000 in
theorem w_best {Γ : jg_G} {X : Nat × (Nat → Int32)} {G : Nat → jg_C} (F : Nat) (τ : cT) (n : Nat) (c : cS) (a1 : Int32) (hO : Sh τ n 0) {f : Nat → Int64} (hG : G 191 = .inr (3, 1, .inr (.inl f))) (hτ : τ 191 = .inr (8, 0)) (h191 : 191 < n) {x : Int32} (h : o_X11_best F τ n 0 c a1 = some (.inl x)) : jhc Γ mL_best (hL_best, X) 8 0 0 [some (.ref 0), some (.int a1), some (.ref 191), none] (ct_h G τ c, n) (.inl (some (.int (nI 0)))) (ct_h (va_up G 191 (.inr (3, 1, .inr (.inl (vp_updL f 0 x.toInt64))))) τ c, n) := by
  intro Q hQ
  refine jh_aload_n dL_best_0 rfl ?_
  refine jh_iconst (v := nI 0) dL_best_1 (by decide) ?_
  refine jh_aload_n dL_best_2 rfl ?_
  refine jh_iload_n dL_best_3 rfl ?_
  refine jh_callV (q := 0) (As := [.int a1]) (a' := 0) (b' := 0) kv_L_115 dL_best_4 rfl hO.ob0.1 (ct_o hO.ob0) rfl (by decide) (Nat.le_of_ble_eq_true rfl) rfl (by decide) (Nat.le_refl _) (Nat.le_refl _) (Nat.le_of_ble_eq_true rfl) (t_X11_best F τ n 0 c a1 hO h (jq (.inl (some (.int x))) _) ⟨rfl, rfl⟩) (fun v9 h9 e9 => ?_) (fun E9 h9 e9 => nomatch e9.1)
  obtain ⟨e1, e2⟩ := e9
  cases e1
  subst e2
  refine jh_hs (S' := [.int x, .int (nI 0), .ref 191]) (h' := (ct_h G τ c, n)) rfl rfl ?_
  refine jh_i2l dL_best_7 ?_
  refine jh_last (q := 191) (n := 1) (f := f) (i := nI 0) dL_best_8 h191 ((ct_base hτ).trans hG) (vp_iL (iL_t (by decide) (by decide))) ?_
  refine jh_hs (S' := []) (h' := (ct_h (va_up G 191 (.inr (3, 1, .inr (.inl (vp_updL f 0 x.toInt64))))) τ c, n)) rfl (congrArg (fun z => (z, n)) (ct_g hτ)) ?_
  refine jh_goto (tgt := 15) dL_best_9 (by decide) ?_
  refine jh_iconst (v := nI 0) dL_best_15 (by decide) ?_
  exact jh_ireturn dL_best_16 rfl hQ
set_option maxHeartbeats 1000000 in
theorem w_best_x1 {Γ : jg_G} {X : Nat × (Nat → Int32)} {G : Nat → jg_C} (F : Nat) (τ : cT) (n : Nat) (c : cS) (a1 : Int32) (hO : Sh τ n 0) (hn : n < 1000000) (hT : τ n = .inr (8, 0)) (h : o_X11_best F τ n 0 c a1 = some (.inr 1)) : jhc Γ mL_best (hL_best, X) 8 1 6 [some (.ref 0), some (.int a1), some (.ref 191), none] (ct_h G τ c, n) (.inl (some (.int (nI 1)))) (ct_h (gx G n) τ c, n + 1) := by
  intro Q hQ
  refine jh_aload_n dL_best_0 rfl ?_
  refine jh_iconst (v := nI 0) dL_best_1 (by decide) ?_
  refine jh_aload_n dL_best_2 rfl ?_
  refine jh_iload_n dL_best_3 rfl ?_
  refine jh_callV (q := 0) (As := [.int a1]) (a' := 1) (b' := 6) kv_L_115 dL_best_4 rfl hO.ob0.1 (ct_o hO.ob0) rfl (by decide) (Nat.le_of_ble_eq_true rfl) rfl (by decide) (Nat.le_refl _) (Nat.le_refl _) (Nat.le_of_ble_eq_true rfl) (x_X11_best F τ n 0 c a1 hO hn hT h (jq (.inr (exn 1)) _) ⟨rfl, rfl⟩) (fun v9 h9 e9 => nomatch e9.1) (fun E9 h9 e9 => ?_)
  obtain ⟨e1, e2⟩ := e9
  cases e1
  subst e2
  exact ⟨nI 1, ⟨1, [], [], 0, 9, 12, 15, by decide, rfl, rfl, (fun z hz => nomatch hz), ⟨by decide, by decide⟩, by decide, kc_L_15, by decide, rfl, 1, 1, Or.inr ⟨3, dL_best_12, rfl, by decide⟩, dL_best_13, by decide, dL_best_14⟩, hQ⟩
def mL_another : jg_Md := (yL_another, cL_another, 5, some .int)
def hL_another : List (Nat × Nat × Nat × Nat) := [(0, 10, 13, 15)]
theorem kL_another : jh_Sc RL 245 mL_another hL_another 4 := ⟨(jg_m7 182 rfl rfl), (jg_m7 183 rfl rfl), wi_L, (jg_m7 184 rfl rfl), by decide, by decide, by decide +kernel, by decide +kernel⟩
theorem dL_another_0 : decode cL_another 0 = .ok (.aload_n 3, 1) := by decide +kernel
theorem dL_another_1 : decode cL_another 1 = .ok (.iconst 0, 1) := by decide +kernel
theorem dL_another_2 : decode cL_another 2 = .ok (.aload_n 0, 1) := by decide +kernel
theorem dL_another_3 : decode cL_another 3 = .ok (.iload_n 1, 1) := by decide +kernel
theorem dL_another_4 : decode cL_another 4 = .ok (.iload_n 2, 1) := by decide +kernel
theorem dL_another_5 : decode cL_another 5 = .ok (.invokevirtual 118, 3) := by decide +kernel
theorem dL_another_8 : decode cL_another 8 = .ok (.i2l, 1) := by decide +kernel
theorem dL_another_9 : decode cL_another 9 = .ok (.lastore, 1) := by decide +kernel
theorem dL_another_10 : decode cL_another 10 = .ok (.goto 7, 3) := by decide +kernel
theorem dL_another_13 : decode cL_another 13 = .ok (.astore 4, 2) := by decide +kernel
theorem dL_another_15 : decode cL_another 15 = .ok (.iconst 1, 1) := by decide +kernel
theorem dL_another_16 : decode cL_another 16 = .ok (.ireturn, 1) := by decide +kernel
theorem dL_another_17 : decode cL_another 17 = .ok (.iconst 0, 1) := by decide +kernel
theorem dL_another_18 : decode cL_another 18 = .ok (.ireturn, 1) := by decide +kernel
set_option maxHeartbeats 1000000 in
theorem w_another {Γ : jg_G} {X : Nat × (Nat → Int32)} {G : Nat → jg_C} (F : Nat) (τ : cT) (n : Nat) (c : cS) (a1 a2 : Int32) (hO : Sh τ n 0) {f : Nat → Int64} (hG : G 191 = .inr (3, 1, .inr (.inl f))) (hτ : τ 191 = .inr (8, 0)) (h191 : 191 < n) (hn9 : n + 7 ≤ 1000000) {q : Option (Nat × Nat)} {x : Int32 × cS} (h : o_X11_another F τ n 0 c a1 a2 = some ((q, .inl x))) : jhc Γ mL_another (hL_another, X) 51 6 866 [some (.ref 0), some (.int a1), some (.int a2), some (.ref 191), none] (ct_h G τ c, n) (.inl (some (.int (nI 0)))) (ct_h (va_up G 191 (.inr (3, 1, .inr (.inl (vp_updL f 0 x.1.toInt64))))) (tQ τ n q) x.2, (nQ n q)) := by
  intro Q hQ
  refine jh_aload_n dL_another_0 rfl ?_
  refine jh_iconst (v := nI 0) dL_another_1 (by decide) ?_
  refine jh_aload_n dL_another_2 rfl ?_
  refine jh_iload_n dL_another_3 rfl ?_
  refine jh_iload_n dL_another_4 rfl ?_
  refine jh_callV (q := 0) (As := [.int a1, .int a2]) (a' := 6) (b' := 866) kv_L_118 dL_another_5 rfl hO.ob0.1 (ct_o hO.ob0) rfl (by decide) (Nat.le_of_ble_eq_true rfl) rfl (by decide) (Nat.le_refl _) (Nat.le_refl _) (Nat.le_of_ble_eq_true rfl) (t_X11_another F τ n 0 c a1 a2 hO hn9 h (jq (.inl (some (.int x.1))) _) ⟨rfl, rfl⟩) (fun v9 h9 e9 => ?_) (fun E9 h9 e9 => nomatch e9.1)
  obtain ⟨e1, e2⟩ := e9
  cases e1
  subst e2
  refine jh_hs (S' := [.int x.1, .int (nI 0), .ref 191]) (h' := (ct_h G (tQ τ n q) x.2, (nQ n q))) rfl rfl ?_
  refine jh_i2l dL_another_8 ?_
  have hτ2 : tQ τ n q 191 = .inr (8, 0) := by rw [tQ_lt h191]; exact hτ
  refine jh_last (q := 191) (n := 1) (f := f) (i := nI 0) dL_another_9 (Nat.lt_of_lt_of_le h191 nQ_le) ((ct_base hτ2).trans hG) (vp_iL (iL_t (by decide) (by decide))) ?_
  refine jh_hs (S' := []) (h' := (ct_h (va_up G 191 (.inr (3, 1, .inr (.inl (vp_updL f 0 x.1.toInt64))))) (tQ τ n q) x.2, (nQ n q))) rfl (congrArg (fun z => (z, (nQ n q))) (ct_g hτ2)) ?_
  refine jh_goto (tgt := 17) dL_another_10 (by decide) ?_
  refine jh_iconst (v := nI 0) dL_another_17 (by decide) ?_
  exact jh_ireturn dL_another_18 rfl hQ
set_option maxHeartbeats 1000000 in
theorem w_another_x1 {Γ : jg_G} {X : Nat × (Nat → Int32)} {G : Nat → jg_C} (F : Nat) (τ : cT) (n : Nat) (c : cS) (a1 a2 : Int32) (hO : Sh τ n 0) (hn9 : n + 7 ≤ 1000000) (hT : ∀ j, n ≤ j → τ j = .inr (8, 0)) {q : Option (Nat × Nat)} {y : cS} (h : o_X11_another F τ n 0 c a1 a2 = some ((q, .inr (1, y)))) : jhc Γ mL_another (hL_another, X) 51 7 872 [some (.ref 0), some (.int a1), some (.int a2), some (.ref 191), none] (ct_h G τ c, n) (.inl (some (.int (nI 1)))) (ct_h (gx G (nQ n q)) (tQ τ n q) y, (nQ n q) + 1) := by
  intro Q hQ
  refine jh_aload_n dL_another_0 rfl ?_
  refine jh_iconst (v := nI 0) dL_another_1 (by decide) ?_
  refine jh_aload_n dL_another_2 rfl ?_
  refine jh_iload_n dL_another_3 rfl ?_
  refine jh_iload_n dL_another_4 rfl ?_
  refine jh_callV (q := 0) (As := [.int a1, .int a2]) (a' := 7) (b' := 872) kv_L_118 dL_another_5 rfl hO.ob0.1 (ct_o hO.ob0) rfl (by decide) (Nat.le_of_ble_eq_true rfl) rfl (by decide) (Nat.le_refl _) (Nat.le_refl _) (Nat.le_of_ble_eq_true rfl) (x_X11_another F τ n 0 c a1 a2 hO hn9 hT h (jq (.inr (exn 1)) _) ⟨rfl, rfl⟩) (fun v9 h9 e9 => nomatch e9.1) (fun E9 h9 e9 => ?_)
  obtain ⟨e1, e2⟩ := e9
  cases e1
  subst e2
  exact ⟨nI 1, ⟨1, [], [], 0, 10, 13, 15, by decide, rfl, rfl, (fun z hz => nomatch hz), ⟨by decide, by decide⟩, by decide, kc_L_15, by decide, rfl, 2, 1, Or.inl ⟨4, dL_another_13, rfl, by decide⟩, dL_another_15, by decide, dL_another_16⟩, hQ⟩
