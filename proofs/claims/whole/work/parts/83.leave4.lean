/-! THE PURE LAYER: all that can leave do -/
section LV4
variable {F : Nat} {τ : cT} {n k i m B H o p d C x : Nat} {c c' c0 : cS} {s s' s0 : rs_S} {v v' D : Nat → Int32} {y : Int32}
theorem PH.lo (h : PH τ n c0 s0 c s H D) (e : s0.2.1 0 = nI H) {x w : Int32} : lo s.2.1 (N (s.2.1 2811)) x w = lo s0.2.1 (N (s0.2.1 2811)) x w := by
  rw [h.wv 2811 (by omega)]
  exact lo_same (by rw [h.h0, e]) (fun q hq => h.wv q (by omega))
theorem has_loop (h : RX τ n c 10 v) : ∀ (r i f : Nat), i + r = N (v 1211) → r < f → o_X5_hasInState_2 F τ n 10 (nI x) c f (nI i) = some (ifc (∃ k, i ≤ k ∧ k < N (v 1211) ∧ v (1212 + 18 * k + 9) = nI x) (.inr (nI 1)) (.inl ())) := by
  have n12 := h.n1211
  have e1 : c.1 (10 + 27) 3 = nI (N (v 1211)) := (h.pl 1211 27 3 rfl).trans n12.1
  intro r
  induction r with
  | zero =>
    intro i f hi hf
    obtain ⟨f, rfl⟩ : ∃ x, f = x + 1 := ⟨f - 1, by omega⟩
    rw [o_X5_hasInState_2, e1, if_pos (nI_yes (by omega) (by omega) (by omega)), ifc_neg (fun ⟨k, a, b, _⟩ => by omega)]
  | succ r ih =>
    intro i f hi hf
    obtain ⟨f, rfl⟩ : ∃ x, f = x + 1 := ⟨f - 1, by omega⟩
    rw [o_X5_hasInState_2, e1, if_neg (nI_no (by omega) (by omega) (by omega)), if_pos (iL_t (show i < 80 by omega) (by decide)), nI_clamp (by omega), nI_add, show c.1 (10 + 39 + 1 + i) 10 = v (1212 + 18 * i + 9) from h.shp i (by omega) 10 9 rfl]
    by_cases q : v (1212 + 18 * i + 9) = nI x
    · rw [if_pos q, ifc_pos ⟨i, Nat.le_refl _, by omega, q⟩]
    · rw [if_neg q, ih (i + 1) f (by omega) (by omega)]
      by_cases q2 : ∃ k, i + 1 ≤ k ∧ k < N (v 1211) ∧ v (1212 + 18 * k + 9) = nI x
      · rw [ifc_pos q2, ifc_pos (q2.imp fun k g => ⟨by omega, g.2⟩)]
      · rw [ifc_neg q2, ifc_neg (fun ⟨k, a, b, e⟩ => q2 ⟨k, by
          by_cases e2 : k = i
          · subst e2; exact absurd e q
          · omega, b, e⟩)]
theorem o_has (hF : 81 < F) (h : RX τ n c 10 v) : o_X5_hasInState F τ n 10 c (nI x) = some (ifc (∃ k, k < N (v 1211) ∧ v (1212 + 18 * k + 9) = nI x) (nI 1) (nI 0)) := by
  unfold o_X5_hasInState
  rw [has_loop (F := F) (x := x) h _ 0 F (Nat.zero_add _) (by have := h.n1211.2; omega), Option.bind_some]
  by_cases q : ∃ k, k < N (v 1211) ∧ v (1212 + 18 * k + 9) = nI x
  · rw [ifc_pos q, ifc_pos (q.imp fun k g => ⟨Nat.zero_le _, g.1, g.2⟩)]; rfl
  · rw [ifc_neg q, ifc_neg (fun ⟨k, _, b, e⟩ => q ⟨k, b, e⟩)]; rfl
theorem lv_loop (hF : 30000 ≤ F) (hI : LI τ n) (e0 : s0.2.1 0 = nI H) (hc : C ≤ 50) (hC : lo s0.2.1 (N (s0.2.1 2811)) (nI 5) (nI 5) = nI C) : ∀ (r t f f' : Nat) (c : cS) (s : rs_S), PH τ n c0 s0 c s H D → N (s.2.1 1211) = m → t + r = m → r < f → r < f' → (∀ q, q < 24 → c.1 178 q = D q) → ∃ c' s', o_X2_shipsLeave_6 F τ n 10 (nI C) f (nI t) c = some c' ∧ o_X12_anHour_91 F (nI m) f' (nI t) s = some s' ∧ PH τ n c0 s0 c' s' H D ∧ N (s'.2.1 1211) = m := by
  intro r
  induction r with
  | zero =>
    intro t f f' c s h hm ht hf hf' hD
    obtain ⟨f, rfl⟩ : ∃ x, f = x + 1 := ⟨f - 1, by omega⟩
    obtain ⟨f', rfl⟩ : ∃ x, f' = x + 1 := ⟨f' - 1, by omega⟩
    have n12 := h.rb.n1211
    rw [hm] at n12
    rw [o_X2_shipsLeave_6, o_X12_anHour_91, show c.1 (10 + 27) 3 = nI m from (h.rb.pl 1211 27 3 rfl).trans n12.1, if_pos (nI_yes (by omega) (by omega) (by omega)), if_pos (nI_yes (by omega) (by omega) (by omega))]
    exact ⟨c, s, rfl, rfl, h, hm⟩
  | succ r ih =>
    intro t f f' c s h hm ht hf hf' hD
    obtain ⟨f, rfl⟩ : ∃ x, f = x + 1 := ⟨f - 1, by omega⟩
    obtain ⟨f', rfl⟩ : ∃ x, f' = x + 1 := ⟨f' - 1, by omega⟩
    have n12 := h.rb.n1211
    rw [hm] at n12
    have skip := ih (t + 1) f f' c s h hm (by omega) (by omega) (by omega) hD
    have hC' : lo s.2.1 (N (s.2.1 2811)) (nI 5) (nI 5) = nI C := by rw [h.lo e0]; exact hC
    rw [o_X2_shipsLeave_6, o_X12_anHour_91, show c.1 (10 + 27) 3 = nI m from (h.rb.pl 1211 27 3 rfl).trans n12.1, if_neg (nI_no (by omega) (by omega) (by omega)), if_neg (nI_no (by omega) (by omega) (by omega)), if_pos (iL_t (show t < 80 by omega) (by decide)), nI_clamp (by omega), nI_add, show c.1 (10 + 39 + 1 + t) 10 = s.2.1 (1212 + 18 * t + 9) from h.rb.shp t (by omega) 10 9 rfl, o_of (show t < 80 by omega) (show 9 < 18 by decide), Option.bind_some]
    by_cases q : s.2.1 (1212 + 18 * t + 9) = nI 3
    · rw [if_pos q, if_pos q]
      rcases leave1 hF hI h hc hC' (show t < N (s.2.1 1211) by omega) q hD with ⟨z, z1, z2, z3⟩ | ⟨z, B, z1, z2, z3, ⟨z4, z5⟩ | ⟨z4, c1, s1, z5, z6, z7, z8, z9, _⟩⟩
      · rw [z1, Option.bind_some, if_pos z2, z3, Option.bind_some]
        exact skip
      · rw [z1, Option.bind_some, if_neg z2, show 10 + 39 + 1 + t = 50 + t by omega, z3, Option.bind_some, show (10 + 168 : Nat) = 178 from rfl, z4, Option.bind_some, if_pos (show (nI 0 : Int32) = 0 from nI_0), z5, Option.bind_some]
        exact skip
      · rw [z1, Option.bind_some, if_neg z2, show 10 + 39 + 1 + t = 50 + t by omega, z3, Option.bind_some, show (10 + 168 : Nat) = 178 from rfl, z4, Option.bind_some, if_neg (show ¬ (nI 1 : Int32) = 0 by decide), z5, Option.bind_some, z6, Option.bind_some]
        exact ih (t + 1) f f' c1 s1 z7 (by rw [z9 1211 (Or.inr rfl)]; exact hm) (by omega) (by omega) (by omega) (fun q hq => by rw [z8]; exact hD q hq)
    · rw [if_neg q, if_neg q]
      exact skip
theorem lv_none {m : Nat} (h80 : m ≤ 80) (hn : ∀ k, k < m → ¬ s.2.1 (1212 + 18 * k + 9) = nI 3) : ∀ (r t f : Nat), t + r = m → r < f → o_X12_anHour_91 F (nI m) f (nI t) s = some s := by
  intro r
  induction r with
  | zero =>
    intro t f ht hf
    obtain ⟨f, rfl⟩ : ∃ x, f = x + 1 := ⟨f - 1, by omega⟩
    rw [o_X12_anHour_91, if_pos (nI_yes (by omega) (by omega) (by omega))]
  | succ r ih =>
    intro t f ht hf
    obtain ⟨f, rfl⟩ : ∃ x, f = x + 1 := ⟨f - 1, by omega⟩
    rw [o_X12_anHour_91, if_neg (nI_no (by omega) (by omega) (by omega)), o_of (show t < 80 by omega) (show 9 < 18 by decide), Option.bind_some, if_neg (hn t (by omega)), nI_add]
    exact ih (t + 1) f (by omega) (by omega)
/-- the whole of leaving -/
theorem o_leaves (hF : 30000 ≤ F) (hI : LI τ n) (e0 : s0.2.1 0 = nI H) (hc : C ≤ 50) (hC : lo s0.2.1 (N (s0.2.1 2811)) (nI 5) (nI 5) = nI C) (h : PH τ n c0 s0 c s H D) : ∃ c' s', (((∃ k, k < N (s.2.1 1211) ∧ s.2.1 (1212 + 18 * k + 9) = nI 3) ∧ o_X2_shipsLeave F τ n 10 c (nI C) = some c') ∨ ((¬ ∃ k, k < N (s.2.1 1211) ∧ s.2.1 (1212 + 18 * k + 9) = nI 3) ∧ c' = c)) ∧ o_X12_anHour_91 F (nI (N (s.2.1 1211))) F (nI 0) s = some s' ∧ PH τ n c0 s0 c' s' H D ∧ N (s'.2.1 1211) = N (s.2.1 1211) := by
  have n12 := h.rb.n1211.2
  by_cases q : ∃ k, k < N (s.2.1 1211) ∧ s.2.1 (1212 + 18 * k + 9) = nI 3
  · obtain ⟨c1, a1, a2, a3, a4⟩ := o_fillD (F := F) (τ := τ) (n := n) (by omega) h.rb.x
    have cz : Cz c c1 := ⟨fun a j h1 _ => by rw [a2 a (by omega)], a3⟩
    have h1 : PH τ n c0 s0 c1 s H D := h.step (h.rb.cz hI cz) cz.nw (fun _ _ => rfl) (fun _ _ => rfl) rfl (fun _ _ => rfl) (fun _ _ => rfl) rfl cz.2
    obtain ⟨c2, s2, b1, b2, b3, b4⟩ := lv_loop hF hI e0 hc hC _ 0 F F c1 s h1 rfl (Nat.zero_add _) (by omega) (by omega) (fun q hq => by rw [a4 q hq]; exact h.dd q hq)
    refine ⟨c2, s2, Or.inl ⟨q, ?_⟩, b2, b3, b4⟩
    unfold o_X2_shipsLeave
    rw [a1, Option.bind_some, b1, Option.bind_some]
  · exact ⟨c, s, Or.inr ⟨q, rfl⟩, lv_none n12 (fun k hk e => q ⟨k, hk, e⟩) _ 0 F (Nat.zero_add _) (by omega), h, rfl⟩
end LV4
