/-! THE PURE LAYER: bringing in, when a ship can begin -/
section BEGIN
variable {F : Nat} {m nb k b i H : Nat} {s s' sB : rs_S} {C : Int32} {R : Nat → Nat}
/-- a ship of the line can begin at a berth in an hour -/
def QV (s : rs_S) (C : Int32) (H : Nat) (R : Nat → Nat) (k b h : Nat) : Prop := s.2.1 (1000 + 8 * b + 5) < nI 240 ∧ ¬ s.2.1 (1000 + 8 * b + 1) < s.2.1 (1212 + 18 * R k + 3) ∧ sfe (s.2.2 2) s.2.1 (s.2.1 (1212 + 18 * R k + 4) + C) (N (s.2.1 (1000 + 8 * b + 0))) (H + h) 0
def E9 (s s' : rs_S) : Prop := s'.2.1 = s.2.1 ∧ s'.1 = s.1 ∧ ∀ j, j ≠ 8 → j ≠ 9 → s'.2.2 j = s.2.2 j
theorem pR_s (s : rs_S) (a j : Nat) (x : Int32) (hj : j < 2 ^ 31) : (pR s a (nI j) x).2.2 a = upd (s.2.2 a) j x := by
  show va_up s.2.2 a (upd (s.2.2 a) (nI j).toNatClampNeg x) a = _
  rw [va_up_self, nI_clamp hj]
theorem pR_n (s : rs_S) (a j q : Nat) (x : Int32) (hq : q ≠ a) : (pR s a (nI j) x).2.2 q = s.2.2 q := by
  unfold pR
  exact va_up_ne _ _ hq
theorem E9.pr {a j : Nat} {x : Int32} (h : E9 sB s) (ha : a = 8 ∨ a = 9) : E9 sB (pR s a (nI j) x) := ⟨h.1, h.2.1, fun q q1 q2 => by rw [pR_n _ _ _ _ _ (by omega)]; exact h.2.2 q q1 q2⟩
theorem o_may {S : Nat} (hS : S < 80) (hb : b < 10) : o_X12_mayHave s (nI S) (nI b) = some (ifc (s.2.1 (1000 + 8 * b + 5) < nI 240 ∧ ¬ s.2.1 (1000 + 8 * b + 1) < s.2.1 (1212 + 18 * S + 3)) (nI 1) (nI 0)) := by
  unfold o_X12_mayHave o_X12_isClosed
  rw [o_berthOf hb (show 5 < 8 by decide), Option.bind_some]
  by_cases q : s.2.1 (1000 + 8 * b + 5) < nI 240
  · rw [if_pos q, Option.bind_some, if_pos (show (nI 0 : Int32) = 0 from nI_0), o_berthOf hb (show 1 < 8 by decide), Option.bind_some, o_of hS (show 3 < 18 by decide), Option.bind_some]
    by_cases q2 : s.2.1 (1000 + 8 * b + 1) < s.2.1 (1212 + 18 * S + 3)
    · rw [if_pos q2, ifc_neg (fun e => e.2 q2)]
    · rw [if_neg q2, ifc_pos ⟨q, q2⟩]
  · rw [if_neg q, Option.bind_some, if_neg (show ¬ (nI 1 : Int32) = 0 by decide), ifc_neg (fun e => q e.1)]
theorem bi_loop {l1 : Int32} (hF : 25 ≤ F) (hk : k < 4) (hb : b < 10) (hR : R k < 80) (e3 : sB.2.2 3 k = nI (R k)) (eb : ∃ B, B < 24 ∧ sB.2.1 (1000 + 8 * b + 0) = nI B) (e0 : sB.2.1 0 = nI H) (hH : H ≤ 30000) (hcl : ∀ s : rs_S, s.2.1 = sB.2.1 → o_X12_clearance F s = some C) : ∀ (r h f : Nat) (s : rs_S), h + r = 73 → 1 ≤ h → r < f → E9 sB s → ∃ s', o_X12_bring_68 F l1 (nI b) (nI k) f (nI h) s = some s' ∧ E9 sB s' ∧ s'.2.2 8 = s.2.2 8 ∧ (∀ h', h ≤ h' → h' ≤ 72 → s'.2.2 9 ((10 * k + b) * 73 + h') = ifc (QV sB C H R k b h') (nI 1) (nI 0)) ∧ (∀ j, j < (10 * k + b) * 73 + h ∨ (10 * k + b) * 73 + 73 ≤ j → s'.2.2 9 j = s.2.2 9 j) := by
  obtain ⟨B, hB, eB⟩ := eb
  have v0 : vp_nar .boolean (nI 0) = nI 0 := by decide
  have v1 : vp_nar .boolean (nI 1) = nI 1 := by decide
  intro r
  induction r with
  | zero =>
    intro h f s hr h1 hf hE
    obtain ⟨f, rfl⟩ : ∃ x, f = x + 1 := ⟨f - 1, by omega⟩
    rw [o_X12_bring_68, if_pos ((nI_ltI (by decide) (by omega)).mpr (by omega))]
    exact ⟨s, rfl, hE, rfl, fun h' q1 q2 => by omega, fun _ _ => rfl⟩
  | succ r ih =>
    intro h f s hr h1 hf hE
    obtain ⟨f, rfl⟩ : ∃ x, f = x + 1 := ⟨f - 1, by omega⟩
    have nxt : ∀ x : Int32, x = ifc (QV sB C H R k b h) (nI 1) (nI 0) → ∃ s', o_X12_bring_68 F l1 (nI b) (nI k) f (nI (h + 1)) (pR s 9 (nI ((10 * k + b) * 73 + h)) x) = some s' ∧ E9 sB s' ∧ s'.2.2 8 = s.2.2 8 ∧ (∀ h', h ≤ h' → h' ≤ 72 → s'.2.2 9 ((10 * k + b) * 73 + h') = ifc (QV sB C H R k b h') (nI 1) (nI 0)) ∧ (∀ j, j < (10 * k + b) * 73 + h ∨ (10 * k + b) * 73 + 73 ≤ j → s'.2.2 9 j = s.2.2 9 j) := fun x hx => by
      obtain ⟨s1, a1, a2, a3, a4, a5⟩ := ih (h + 1) f (pR s 9 (nI ((10 * k + b) * 73 + h)) x) (by omega) (by omega) (by omega) (hE.pr (Or.inr rfl))
      refine ⟨s1, a1, a2, by rw [a3, pR_n _ _ _ _ _ (by decide)], fun h' q1 q2 => ?_, fun j hj => ?_⟩
      · by_cases e : h' = h
        · subst e
          rw [a5 _ (by omega), pR_s _ _ _ _ (by omega), upd_s]
          exact hx
        · exact a4 h' (by omega) q2
      · rw [a5 j (by omega), pR_s _ _ _ _ (by omega), upd_n (by omega)]
    have hr0 : o_X12_hour s = some (nI H) := by unfold o_X12_hour; rw [gW_n _ (by decide), hE.1, e0]
    rw [o_X12_bring_68, if_neg (nI_ngt (by decide) (by omega) (by omega)), if_pos (iL_t (show k < 80 by omega) (by decide)), gR_n s 3 (show k < 2 ^ 31 by omega), hE.2.2 3 (by decide) (by decide), e3, o_may hR hb, Option.bind_some, nI_mul, nI_add (10 * k) b, nI_mul, nI_add ((10 * k + b) * 73) h, nI_add h 1, v0, v1, if_pos (iL_t (show (10 * k + b) * 73 + h < 2920 by omega) (by decide))]
    by_cases q : s.2.1 (1000 + 8 * b + 5) < nI 240 ∧ ¬ s.2.1 (1000 + 8 * b + 1) < s.2.1 (1212 + 18 * R k + 3)
    · rw [ifc_pos q, if_neg (show ¬ (nI 1 : Int32) = 0 by decide), o_of hR (show 4 < 18 by decide), Option.bind_some, o_berthOf hb (show 0 < 8 by decide), Option.bind_some, hr0, Option.bind_some, nI_add H h, hE.1, eB, o_isSafe hF (hcl s hE.1) hB (by omega) (show 0 < 2 by decide), Option.bind_some, hE.1, hE.2.2 2 (by decide) (by decide), if_pos (iL_t (show (10 * k + b) * 73 + h < 2920 by omega) (by decide))]
      rw [hE.1] at q
      by_cases q2 : sfe (sB.2.2 2) sB.2.1 (sB.2.1 (1212 + 18 * R k + 4) + C) B (H + h) 0
      · rw [ifc_pos q2, if_neg (show ¬ (nI 1 : Int32) = 0 by decide)]
        exact nxt _ (by rw [ifc_pos]; exact ⟨q.1, q.2, by rw [eB, N_nI (by omega)]; exact q2⟩)
      · rw [ifc_neg q2, if_pos (show (nI 0 : Int32) = 0 from nI_0)]
        exact nxt _ (by rw [ifc_neg]; intro e; exact q2 (by have := e.2.2; rw [eB, N_nI (by omega)] at this; exact this))
    · rw [ifc_neg q, if_pos (show (nI 0 : Int32) = 0 from nI_0)]
      rw [hE.1] at q
      exact nxt _ (by rw [ifc_neg]; intro e; exact q ⟨e.1, e.2.1⟩)
end BEGIN
