/-! THE PURE LAYER: river, berth -/
theorem e_river {F : Nat} (hF : 26 ≤ F) {τ : cT} {n h : Nat} {c : cS} {s : rs_S} {a1 a2 a3 a4 : Int32} (hP : Pl c 10 s.2.1) (hh : s.2.1 0 = nI h) (hh2 : h ≤ 30000) :
    (∃ k m x y c' s', k ≤ m ∧ m < 24 ∧ a1 = nI k ∧ a2 = nI m ∧ x ≤ 200 ∧ y ≤ 200 ∧ a3 = nI x ∧ a4 = nI y ∧ h = 0 ∧ o_X11_river F τ n 0 c a1 a2 a3 a4 = some (.inl c') ∧ o_X12_river F s a1 a2 a3 a4 = some s' ∧ Pl c' 10 s'.2.1 ∧ (∀ q, q ≠ 12 → q ≠ 13 → c'.1 q = c.1 q) ∧ c'.2 = c.2 ∧ s'.1 = (pN s 0 (nI 0)).1 ∧ s'.2.2 = s.2.2 ∧ (∀ k, k < 1 ∨ 49 ≤ k → s'.2.1 k = s.2.1 k)) ∨
    (∃ e, e < 3 ∧ o_X11_river F τ n 0 c a1 a2 a3 a4 = some (.inr (e, c)) ∧ o_X12_river F s a1 a2 a3 a4 = some (pN (pN s 0 (nI 0)) 0 (nI (e + 1)))) := by
  have e0 : c.1 (0 + 10) 0 = nI h := (hP 0 0 0 rfl).trans hh
  have eh : o_X12_hour (pN s 0 (nI 0)) = some (nI h) := by unfold o_X12_hour; rw [gW_pN, gW_n _ (by decide), hh]
  unfold o_X11_river o_X12_river
  rcases cx a1 with ⟨k, hk, rfl, w1, r1⟩ | ⟨w1, r1⟩
  · rcases cx a2 with ⟨m, hm, rfl, w2, r2⟩ | ⟨w2, r2⟩
    · by_cases hkm : m < k
      · right
        refine ⟨1, by decide, ?_, ?_⟩
        · simp only [w1, w2, Option.bind_some, Sum.elim_inl, if_pos (nI_lt hkm (by omega)), nA0, Sum.elim_inr]
        · simp only [r1, r2, Option.bind_some, z0, if_true, if_pos (nI_lt hkm (by omega))]
      · have hkm' : ¬ nI m < nI k := nI_nlt (by omega) (by omega)
        rcases rng a3 (nI 0) (nI 200) with ⟨w3, r3, p5, p6⟩ | ⟨w3, r3⟩
        · rcases rng a4 (nI 0) (nI 200) with ⟨w4, r4, p7, p8⟩ | ⟨w4, r4⟩
          · obtain ⟨x, hx, rfl⟩ := i_in p5 p6 (by decide)
            obtain ⟨y, hy, rfl⟩ := i_in p7 p8 (by decide)
            by_cases hz : h = 0
            · left
              obtain ⟨c', s', l1, l2, l3, l4, l5, l6, l7, l8⟩ := river_loop (F := F) (τ := τ) (n := n) (x := nI x) (y := nI y) hm (m + 1 - k) F F k c (pN s 0 (nI 0)) (by omega) (by omega) (by omega) hP
              refine ⟨k, m, x, y, c', s', by omega, hm, rfl, rfl, hx, hy, rfl, rfl, hz, ?_, ?_, l3, l4, l5, l6, l7, l8⟩
              · simp only [w1, w2, w3, w4, Option.bind_some, Sum.elim_inl, if_neg hkm', z1, if_false, nA1, e0, hz, z0, if_true, nS1, l1]
              · simp only [r1, r2, r3, r4, Option.bind_some, z0, z1, if_true, if_false, if_neg hkm', eh, hz, if_pos (show nI 0 ≤ 0 by decide), l2]
            · right
              have hz1 : ¬ nI h = 0 := nI_ne0 (by omega) (by omega)
              have hz2 : ¬ nI h ≤ 0 := nI_nle (by omega) (by omega)
              refine ⟨2, by decide, ?_, ?_⟩
              · simp only [w1, w2, w3, w4, Option.bind_some, Sum.elim_inl, if_neg hkm', z1, if_false, nA1, e0, if_neg hz1, nS0, Sum.elim_inr]
              · simp only [r1, r2, r3, r4, Option.bind_some, z0, z1, if_true, if_false, if_neg hkm', eh, if_neg hz2]
          · right
            refine ⟨1, by decide, ?_, ?_⟩
            · simp only [w1, w2, w3, w4, Option.bind_some, Sum.elim_inl, if_neg hkm', z0, z1, if_true, if_false, nA0, Sum.elim_inr]
            · simp only [r1, r2, r3, r4, Option.bind_some, z0, z1, if_true, if_false, if_neg hkm']
        · right
          refine ⟨1, by decide, ?_, ?_⟩
          · simp only [w1, w2, w3, Option.bind_some, Sum.elim_inl, if_neg hkm', z0, if_true, nA0, Sum.elim_inr]
          · simp only [r1, r2, r3, Option.bind_some, z0, if_true, if_neg hkm']
    · right
      refine ⟨0, by decide, ?_, ?_⟩
      · simp only [w1, w2, Option.bind_some, Sum.elim_inl, Sum.elim_inr]
      · simp only [r1, r2, Option.bind_some, z0, z1, if_true, if_false]
  · right
    refine ⟨0, by decide, ?_, ?_⟩
    · simp only [w1, Option.bind_some, Sum.elim_inr]
    · simp only [r1, Option.bind_some, z1, if_false]
