/-! THE PURE LAYER: bringing in, the reference's rows -/
section ROWS3
variable {F : Nat} {m nb k b i H : Nat} {s s' sB : rs_S} {C : Int32} {R : Nat → Nat}
theorem bk_loop (hF : 74 < F) (hm : m ≤ 4) (hb : b < 10) (hR : ∀ k, k < m → R k < 80 ∧ sB.2.2 3 k = nI (R k)) (eb : ∃ B, B < 24 ∧ sB.2.1 (1000 + 8 * b + 0) = nI B) (e0 : sB.2.1 0 = nI H) (hH : H ≤ 30000) (hcl : ∀ s : rs_S, s.2.1 = sB.2.1 → o_X12_clearance F s = some C) : ∀ (r k f : Nat) (s : rs_S), k + r = m → r < f → E9 sB s → ∃ s', o_X12_bring_60 F (nI m) (nI b) f (nI k) s = some s' ∧ E9 sB s' ∧ s'.2.2 8 = s.2.2 8 ∧ (∀ k' h', k ≤ k' → k' < m → 1 ≤ h' → h' ≤ 72 → s'.2.2 9 ((10 * k' + b) * 73 + h') = ifc (QV sB C H R k' b h') (nI 1) (nI 0)) ∧ (∀ k' b' h', b' < 10 → 1 ≤ h' → h' ≤ 72 → (b' ≠ b ∨ k' < k) → s'.2.2 9 ((10 * k' + b') * 73 + h') = s.2.2 9 ((10 * k' + b') * 73 + h')) := by
  intro r
  induction r with
  | zero =>
    intro k f s hk hf hE
    obtain ⟨f, rfl⟩ : ∃ x, f = x + 1 := ⟨f - 1, by omega⟩
    rw [o_X12_bring_60, if_pos (nI_yes (by omega) (by omega) (by omega))]
    exact ⟨s, rfl, hE, rfl, fun k' h' q1 q2 => by omega, fun _ _ _ _ _ _ _ => rfl⟩
  | succ r ih =>
    intro k f s hk hf hE
    obtain ⟨f, rfl⟩ : ∃ x, f = x + 1 := ⟨f - 1, by omega⟩
    obtain ⟨r1, r2⟩ := hR k (by omega)
    obtain ⟨s1, a1, a2, a3, a4, a5⟩ := bi_loop (F := F) (l1 := nI m) (R := R) (by omega) (show k < 4 by omega) hb r1 r2 eb e0 hH hcl 72 1 F s (by omega) (by omega) (by omega) hE
    obtain ⟨s2, b1, b2, b3, b4, b5⟩ := ih (k + 1) f s1 (by omega) (by omega) a2
    rw [o_X12_bring_60, if_neg (nI_no (by omega) (by omega) (by omega)), a1, Option.bind_some, nI_add k 1]
    refine ⟨s2, b1, b2, b3.trans a3, fun k' h' q1 q2 q3 q4 => ?_, fun k' b' h' q1 q2 q3 q4 => ?_⟩
    · by_cases e : k' = k
      · subst e
        rw [b5 k' b h' hb q3 q4 (by omega)]
        exact a4 h' q3 q4
      · exact b4 k' h' (by omega) q2 q3 q4
    · rw [b5 k' b' h' q1 q2 q3 (by omega)]
      exact a5 _ (by omega)
theorem bb_loop (hF : 74 < F) (hm : m ≤ 4) (hn : nb ≤ 10) (en : sB.2.1 999 = nI nb) (hR : ∀ k, k < m → R k < 80 ∧ sB.2.2 3 k = nI (R k)) (eb : ∀ b, b < nb → ∃ B, B < 24 ∧ sB.2.1 (1000 + 8 * b + 0) = nI B) (e0 : sB.2.1 0 = nI H) (hH : H ≤ 30000) (hcl : ∀ s : rs_S, s.2.1 = sB.2.1 → o_X12_clearance F s = some C) : ∀ (r b f : Nat) (s : rs_S), b + r = nb → r < f → E9 sB s → ∃ s', o_X12_bring_24 F (nI m) f (nI b) s = some s' ∧ E9 sB s' ∧ (∀ b', b ≤ b' → b' < nb → s'.2.2 8 b' = if sB.2.1 (1000 + 8 * b' + 6) < 0 then nI 0 else nI 24) ∧ (∀ b', b' < b → s'.2.2 8 b' = s.2.2 8 b') ∧ (∀ b' k' h', b ≤ b' → b' < nb → k' < m → 1 ≤ h' → h' ≤ 72 → s'.2.2 9 ((10 * k' + b') * 73 + h') = ifc (QV sB C H R k' b' h') (nI 1) (nI 0)) ∧ (∀ b' k' h', b' < b → 1 ≤ h' → h' ≤ 72 → s'.2.2 9 ((10 * k' + b') * 73 + h') = s.2.2 9 ((10 * k' + b') * 73 + h')) := by
  intro r
  induction r with
  | zero =>
    intro b f s hb hf hE
    obtain ⟨f, rfl⟩ : ∃ x, f = x + 1 := ⟨f - 1, by omega⟩
    rw [o_X12_bring_24, gW_n s (show 999 < 2 ^ 31 by decide), hE.1, en, if_pos (nI_yes (by omega) (by omega) (by omega))]
    exact ⟨s, rfl, hE, fun b' q1 q2 => by omega, fun _ _ => rfl, fun b' k' h' q1 q2 => by omega, fun _ _ _ _ _ _ => rfl⟩
  | succ r ih =>
    intro b f s hb hf hE
    obtain ⟨f, rfl⟩ : ∃ x, f = x + 1 := ⟨f - 1, by omega⟩
    have b10 : b < 10 := by omega
    have go : ∀ y : Int32, (y = if sB.2.1 (1000 + 8 * b + 6) < 0 then nI 0 else nI 24) → ∃ s', ((o_X12_bring_60 F (nI m) (nI b) F (nI 0) (pR s 8 (nI b) y)).bind fun x21 => o_X12_bring_24 F (nI m) f (nI (b + 1)) x21) = some s' ∧ E9 sB s' ∧ (∀ b', b ≤ b' → b' < nb → s'.2.2 8 b' = if sB.2.1 (1000 + 8 * b' + 6) < 0 then nI 0 else nI 24) ∧ (∀ b', b' < b → s'.2.2 8 b' = s.2.2 8 b') ∧ (∀ b' k' h', b ≤ b' → b' < nb → k' < m → 1 ≤ h' → h' ≤ 72 → s'.2.2 9 ((10 * k' + b') * 73 + h') = ifc (QV sB C H R k' b' h') (nI 1) (nI 0)) ∧ (∀ b' k' h', b' < b → 1 ≤ h' → h' ≤ 72 → s'.2.2 9 ((10 * k' + b') * 73 + h') = s.2.2 9 ((10 * k' + b') * 73 + h')) := fun y hy => by
      obtain ⟨s1, a1, a2, a3, a4, a5⟩ := bk_loop (F := F) (R := R) hF hm b10 hR (eb b (by omega)) e0 hH hcl m 0 F (pR s 8 (nI b) y) (by omega) (by omega) (hE.pr (Or.inl rfl))
      obtain ⟨s2, b1, b2, b3, b4, b5, b6⟩ := ih (b + 1) f s1 (by omega) (by omega) a2
      have f8 : s1.2.2 8 = upd (s.2.2 8) b y := by rw [a3, pR_s _ _ _ _ (by omega)]
      have f9 : (pR s 8 (nI b) y).2.2 9 = s.2.2 9 := pR_n _ _ _ _ _ (by decide)
      rw [a1, Option.bind_some]
      refine ⟨s2, b1, b2, fun b' q1 q2 => ?_, fun b' q1 => ?_, fun b' k' h' q1 q2 q3 q4 q5 => ?_, fun b' k' h' q1 q2 q3 => ?_⟩
      · by_cases e : b' = b
        · subst e
          rw [b4 b' (by omega), f8, upd_s]
          exact hy
        · exact b3 b' (by omega) q2
      · rw [b4 b' (by omega), f8, upd_n (by omega)]
      · by_cases e : b' = b
        · subst e
          rw [b6 b' k' h' (by omega) q4 q5]
          exact a4 k' h' (by omega) q3 q4 q5
        · exact b5 b' k' h' (by omega) q2 q3 q4 q5
      · rw [b6 b' k' h' (by omega) q2 q3, a5 k' b' h' (by omega) q2 q3 (by omega), f9]
    rw [o_X12_bring_24, gW_n s (show 999 < 2 ^ 31 by decide), hE.1, en, if_neg (nI_no (by omega) (by omega) (by omega)), o_berthOf b10 (show 6 < 8 by decide), Option.bind_some, hE.1, if_pos (iL_t b10 (by decide)), if_pos (iL_t b10 (by decide)), nI_add b 1]
    by_cases q : sB.2.1 (1000 + 8 * b + 6) < 0
    · rw [if_pos q]
      exact go _ (by rw [if_pos q])
    · rw [if_neg q]
      exact go _ (by rw [if_neg q])
end ROWS3
