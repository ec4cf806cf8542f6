/-! THE PURE LAYER: berths and ships, number by number -/
/-- a berth's field f lies in the reference's berth at bf f -/
def bf (f : Nat) : Nat := if f = 6 then 7 else if f = 7 then 6 else f
def RBe (c : cS) (b : Nat) (v : Nat → Int32) (m : Nat) : Prop := ∀ i, i < m → ∀ f, f < 8 → c.1 (b + 29 + i) f = v (1000 + 8 * i + bf f)
/-- a ship's field f lies in the reference's ship at sf f -/
def sf (f : Nat) : Option Nat := if f < 3 then some (f + 1) else if f = 3 then some 6 else if f < 6 then some f else if f = 6 then some 0 else if f = 7 then some 7 else if f = 8 then none else if f < 16 then some (f - 1) else if f = 18 then some 16 else none
def RSh (c : cS) (b : Nat) (v : Nat → Int32) (m : Nat) : Prop := ∀ i, i < m → ∀ f g, sf f = some g → c.1 (b + 40 + i) f = v (1212 + 18 * i + g)
theorem e_quay {τ : cT} {n m : Nat} {c : cS} {s : rs_S} {a1 a2 : Int32} (h1 : c.1 37 1 = s.2.1 999) (hm : s.2.1 999 = nI m) (hm2 : m ≤ 10) (hB : RBe c 10 s.2.1 m) :
    (∃ v, o_X11_quay τ n 0 c a1 a2 = some (.inl v) ∧ o_X12_quay s a1 a2 = some (v, pN s 0 (nI 0))) ∨
    (o_X11_quay τ n 0 c a1 a2 = some (.inr 0) ∧ o_X12_quay s a1 a2 = some (nI 0, pN (pN s 0 (nI 0)) 0 (nI 1))) ∨
    (o_X11_quay τ n 0 c a1 a2 = some (.inr 4) ∧ o_X12_quay s a1 a2 = some (nI 0, pN (pN s 0 (nI 0)) 0 (nI 2))) := by
  have eg : gW (pN s 0 (nI 0)) (nI 999) = nI m := by rw [gW_pN, gW_n _ (by decide), hm]
  have e0 : c.1 (0 + 37) 1 = nI m := h1.trans hm
  unfold o_X11_quay o_X12_quay o_X12_noBerth
  rw [eg, e0]
  rcases ix a1 m (by omega) with ⟨k, hk, rfl, w1, r1⟩ | ⟨w1, r1⟩
  · have hk2 : k < 10 := by omega
    have i1 : iL (nI k) 10 := iL_t hk2 (by decide)
    have w (f : Nat) (hf : f < 8) : c.1 (0 + 38 + 1 + (nI k).toNatClampNeg) f = s.2.1 (1000 + 8 * k + bf f) := by
      rw [nI_clamp (by omega)]
      have := hB k hk f hf
      rw [show 10 + 29 + k = 0 + 38 + 1 + k by omega] at this
      exact this
    simp only [w1, r1, Option.bind_some, z0, z1, if_false, if_true, Sum.elim_inl, tI0, if_pos i1]
    by_cases c0 : a2 = nI 0
    · left; refine ⟨s.2.1 (1000 + 8 * k + 0), by rw [if_pos c0, w 0 (by decide)]; rfl, by rw [if_pos c0, be hk2 (by decide)]; rfl⟩
    · rw [if_neg c0, if_neg c0]
      by_cases c1 : a2 = nI 1
      · left; refine ⟨s.2.1 (1000 + 8 * k + 4), by rw [if_pos c1, w 4 (by decide)]; rfl, by rw [if_pos c1, be hk2 (by decide)]; rfl⟩
      · rw [if_neg c1, if_neg c1]
        by_cases c2 : a2 = nI 2
        · left; refine ⟨s.2.1 (1000 + 8 * k + 5) / nI 24, by rw [if_pos c2]; unfold o_X1_sunk; rw [w 5 (by decide)]; rfl, by rw [if_pos c2, be hk2 (by decide)]; rfl⟩
        · rw [if_neg c2, if_neg c2]
          by_cases c3 : a2 = nI 3
          · left; refine ⟨s.2.1 (1000 + 8 * k + 6), by rw [if_pos c3, w 7 (by decide)]; rfl, by rw [if_pos c3, be hk2 (by decide)]; rfl⟩
          · rw [if_neg c3, if_neg c3]
            by_cases c4 : a2 = nI 4
            · left; refine ⟨s.2.1 (1000 + 8 * k + 5), by rw [if_pos c4, w 5 (by decide)]; rfl, by rw [if_pos c4, be hk2 (by decide)]; rfl⟩
            · rw [if_neg c4, if_neg c4]
              by_cases c5 : a2 = nI 5
              · left; refine ⟨s.2.1 (1000 + 8 * k + 7), by rw [if_pos c5, w 6 (by decide)]; rfl, by rw [if_pos c5, be hk2 (by decide)]; rfl⟩
              · rw [if_neg c5, if_neg c5]
                right; right; exact ⟨rfl, rfl⟩
  · right; left; simp only [w1, r1, Option.bind_some, z0, z1, if_true, if_false, Sum.elim_inr, tI1, and_self]
theorem e_work {τ : cT} {n m : Nat} {c : cS} {s : rs_S} {a1 a2 a3 a4 : Int32} (h1 : c.1 141 3 = s.2.1 2786) (hm : s.2.1 2786 = nI m) (hm2 : m ≤ 6) :
    (m < 6 ∧ ¬ a1 < nI 0 ∧ ¬ nI 1000000 < a1 ∧ ¬ a2 < nI 0 ∧ ¬ nI 100000 < a2 ∧ ¬ a3 < nI 0 ∧ ¬ nI 29 < a3 ∧ ¬ a4 < nI 0 ∧ ¬ nI 100 < a4 ∧ o_X11_work τ n 0 c a1 a2 a3 a4 = some (.inl (nI (m + 1), cp (cp (cp (cp c 142 m a1) 143 m (a2 * (nI 100 - a4) / nI 100)) 144 m a3) 141 3 (nI (m + 1)))) ∧ o_X12_work s a1 a2 a3 a4 = some (nI (m + 1), pW (pW (pW (pW (pN s 0 (nI 0)) (nI (2787 + 4 * m)) a1) (nI (2787 + 4 * m + 1)) (a2 * (nI 100 - a4) / nI 100)) (nI (2787 + 4 * m + 2)) a3) (nI 2786) (nI (m + 1)))) ∨
    (o_X11_work τ n 0 c a1 a2 a3 a4 = some (.inl (-1, c)) ∧ o_X12_work s a1 a2 a3 a4 = some (-1, pN s 0 (nI 0))) ∨
    (o_X11_work τ n 0 c a1 a2 a3 a4 = some (.inr (1, c)) ∧ o_X12_work s a1 a2 a3 a4 = some (nI 0, pN (pN s 0 (nI 0)) 0 (nI 1))) := by
  have eg : gW (pN s 0 (nI 0)) (nI 2786) = nI m := by rw [gW_pN, gW_n _ (by decide), hm]
  unfold o_X11_work o_X12_work
  rcases rng a1 (nI 0) (nI 1000000) with ⟨w1, r1, p1, p2⟩ | ⟨w1, r1⟩
  · rcases rng a2 (nI 0) (nI 100000) with ⟨w2, r2, p3, p4⟩ | ⟨w2, r2⟩
    · rcases rng a3 (nI 0) (nI 29) with ⟨w3, r3, p5, p6⟩ | ⟨w3, r3⟩
      · rcases rng a4 (nI 0) (nI 100) with ⟨w4, r4, p7, p8⟩ | ⟨w4, r4⟩
        · simp only [w1, w2, w3, w4, r1, r2, r3, r4, Option.bind_some, z1, if_false, nA1, Sum.elim_inl, eg]
          by_cases hq : m = 6
          · right; left
            subst hq
            refine ⟨?_, by rw [if_pos rfl]⟩
            unfold o_X4_addWork
            rw [show c.1 (0 + 10 + 131) 3 = nI 6 from h1.trans hm, if_neg (by decide)]
            rfl
          · left
            have hm3 : m < 6 := by omega
            refine ⟨hm3, p1, p2, p3, p4, p5, p6, p7, p8, ?_, ?_⟩
            · unfold o_X4_addWork
              have e1 : c.1 (0 + 10 + 131) 3 = nI m := h1.trans hm
              have e2 : (ca c (0 + 10 + 132) (nI m) a1).1 (0 + 10 + 131) 3 = nI m := by rw [ca_n _ _ (by omega), cp_1 _ (by decide)]; exact e1
              have e3 : (ca (ca c (0 + 10 + 132) (nI m) a1) (0 + 10 + 133) (nI m) (a2 * (nI 100 - a4) / nI 100)).1 (0 + 10 + 131) 3 = nI m := by rw [ca_n _ _ (by omega), cp_1 _ (by decide)]; exact e2
              have e4 : (ca (ca (ca c (0 + 10 + 132) (nI m) a1) (0 + 10 + 133) (nI m) (a2 * (nI 100 - a4) / nI 100)) (0 + 10 + 134) (nI m) a3).1 (0 + 10 + 131) 3 = nI m := by rw [ca_n _ _ (by omega), cp_1 _ (by decide)]; exact e3
              rw [e1, if_pos (nI_lt hm3 (by decide)), if_pos (iL_t hm3 (by decide)), e2, if_pos (iL_t hm3 (by decide))]
              simp only [Option.bind_some]
              rw [e3, if_pos (iL_t hm3 (by decide))]
              simp only [Option.bind_some]
              rw [e4, nI_add, cp_q, upd_s, ca_n _ _ (by omega), ca_n _ _ (by omega), ca_n _ _ (by omega)]
            · rw [if_neg (nI_inj (by omega) (by decide) hq), nI_mul, nI_add, nI_add, nI_add, if_pos (iL_t (show 2787 + 4 * m < 22216 by omega) (by decide)), if_pos (iL_t (show 2787 + 4 * m + 1 < 22216 by omega) (by decide)), if_pos (iL_t (show 2787 + 4 * m + 2 < 22216 by omega) (by decide)), nI_add]
              rw [gW_pWn _ (by omega) (by decide) (by omega), gW_pWn _ (by omega) (by decide) (by omega), gW_pWn _ (by omega) (by decide) (by omega), eg, nI_add]
        · right; right; simp only [w1, w2, w3, w4, r1, r2, r3, r4, Option.bind_some, z0, z1, if_true, if_false, nA0, nA1, Sum.elim_inr, Sum.elim_inl, and_self]
      · right; right; simp only [w1, w2, w3, r1, r2, r3, Option.bind_some, z0, z1, if_true, if_false, nA0, nA1, Sum.elim_inr, Sum.elim_inl, and_self]
    · right; right; simp only [w1, w2, r1, r2, Option.bind_some, z0, z1, if_true, if_false, nA0, Sum.elim_inr, and_self]
  · right; right; simp only [w1, r1, Option.bind_some, z0, if_true, nA0, Sum.elim_inr, and_self]
/-- a cell or none -/
theorem cox (x : Int32) : ((∀ τ n c, o_X11_needCellOrNone τ n c x = some (.inl ())) ∧ (x = -1 ∨ (¬ x = -1 ∧ ∃ k, k < 24 ∧ x = nI k ∧ ∀ s, o_X12_noCell s x = some (nI 0)))) ∨ ((∀ τ n c, o_X11_needCellOrNone τ n c x = some (.inr 0)) ∧ ¬ x = -1 ∧ ∀ s, o_X12_noCell s x = some (nI 1)) := by
  by_cases h : x = -1
  · exact Or.inl ⟨fun τ n c => by unfold o_X11_needCellOrNone; rw [if_pos h], Or.inl h⟩
  · rcases ix x 24 (by decide) with ⟨k, hk, e, h1, h2⟩ | ⟨h1, h2⟩
    · refine Or.inl ⟨fun τ n c => by unfold o_X11_needCellOrNone; rw [if_neg h, h1]; rfl, Or.inr ⟨h, k, hk, e, fun s => ?_⟩⟩
      unfold o_X12_noCell
      rw [show nI 23 = nI 24 - nI 1 by decide, h2]
      simp only [Option.bind_some, z1, if_false]
    · refine Or.inr ⟨fun τ n c => by unfold o_X11_needCellOrNone; rw [if_neg h, h1]; rfl, h, fun s => ?_⟩
      unfold o_X12_noCell
      rw [show nI 23 = nI 24 - nI 1 by decide, h2]
      simp only [Option.bind_some, z0, if_true]
theorem e_station {τ : cT} {n m : Nat} {c : cS} {s : rs_S} {a1 a2 a3 : Int32} (hP : Pl c 10 s.2.1) (hm : s.2.1 179 = nI m) (hm2 : m ≤ 6) :
    (∃ k v, k < m ∧ a1 = nI k ∧ (a2 = -1 ∨ ∃ j, j < 24 ∧ a2 = nI j) ∧ (a3 = -1 ∨ ∃ j, j < 24 ∧ a3 = nI j) ∧ o_X11_station τ n 0 c a1 a2 a3 = some (.inl (v, cp (cp c 19 k a2) 20 k a3)) ∧ o_X12_station s a1 a2 a3 = some (v, pW (pW (pN s 0 (nI 0)) (nI (180 + 3 * k + 1)) a2) (nI (180 + 3 * k + 2)) a3)) ∨
    (o_X11_station τ n 0 c a1 a2 a3 = some (.inr (0, c)) ∧ o_X12_station s a1 a2 a3 = some (nI 0, pN (pN s 0 (nI 0)) 0 (nI 1))) := by
  have eg : gW (pN s 0 (nI 0)) (nI 179) = nI m := by rw [gW_pN, gW_n _ (by decide), hm]
  have e0 : c.1 (0 + 11) 10 = nI m := (hP 179 1 10 rfl).trans hm
  unfold o_X11_station o_X12_station
  rw [eg, e0]
  rcases ix a1 m (by omega) with ⟨k, hk, rfl, w1, r1⟩ | ⟨w1, r1⟩
  · have hk2 : k < 6 := by omega
    have i1 : iL (nI k) 6 := iL_t hk2 (by decide)
    have j1 : iL (nI (180 + 3 * k + 1)) 22216 := iL_t (by omega) (by decide)
    have j2 : iL (nI (180 + 3 * k + 2)) 22216 := iL_t (by omega) (by decide)
    have w (j : Nat) (hj : j < 3) : c.1 (10 + (8 + j)) k = s.2.1 (180 + 3 * k + j) := hP _ (8 + j) k (by
      unfold wk
      rw [if_neg (by omega), if_neg (by omega), if_neg (by omega), if_neg (by omega), if_neg (by omega), if_neg (by omega), if_neg (by omega), if_neg (by omega), if_pos (by omega), show (180 + 3 * k + j - 180) % 3 = j by omega, show (180 + 3 * k + j - 180) / 3 = k by omega])
    have g1 : gW (pN s 0 (nI 0)) (nI (180 + 3 * k + 1)) = c.1 19 k := by rw [gW_pN, gW_n _ (by omega)]; exact (w 1 (by decide)).symm
    have g2 : gW (pN s 0 (nI 0)) (nI (180 + 3 * k + 2)) = c.1 20 k := by rw [gW_pN, gW_n _ (by omega)]; exact (w 2 (by decide)).symm
    rcases cox a2 with ⟨w2, q2⟩ | ⟨w2, q2, r2⟩
    · rcases cox a3 with ⟨w3, q3⟩ | ⟨w3, q3, r3⟩
      · left
        have hc : o_X8_send τ n (0 + 10) c (nI k) a2 a3 = some ((if c.1 19 k = a2 then (if c.1 20 k = a3 then nI 0 else nI 1) else nI 1), cp (cp c 19 k a2) 20 k a3) := by
          unfold o_X8_send
          rw [if_pos i1, cg_n _ _ (by omega), cg_n _ _ (by omega), ca_n _ _ (by omega), ca_n _ _ (by omega)]
          by_cases p1 : c.1 (0 + 10 + 9) k = a2
          · rw [if_pos p1, if_pos (show c.1 19 k = a2 from p1)]
            by_cases p2 : c.1 (0 + 10 + 10) k = a3
            · rw [if_pos p2, if_pos (show c.1 20 k = a3 from p2)]
            · rw [if_neg p2, if_neg (show ¬ c.1 20 k = a3 from p2)]
          · rw [if_neg p1, if_neg (show ¬ c.1 19 k = a2 from p1)]
        have hz : zb (if c.1 19 k = a2 then (if c.1 20 k = a3 then nI 0 else nI 1) else nI 1) := by
          split
          · split
            · exact Or.inl rfl
            · exact Or.inr rfl
          · exact Or.inr rfl
        refine ⟨k, (if c.1 19 k = a2 then (if c.1 20 k = a3 then nI 0 else nI 1) else nI 1), hk, rfl, ?_, ?_, ?_, ?_⟩
        · rcases q2 with q2 | ⟨-, j, hj, e, -⟩
          · exact Or.inl q2
          · exact Or.inr ⟨j, hj, e⟩
        · rcases q3 with q3 | ⟨-, j, hj, e, -⟩
          · exact Or.inl q3
          · exact Or.inr ⟨j, hj, e⟩
        · simp only [w1, w2, w3, Option.bind_some, Sum.elim_inl]
          rw [hc]
          simp only [Option.bind_some, if_pos hz]
        · simp only [r1, Option.bind_some, z1, if_false, nI_mul, nI_add, g1, g2, if_pos j1, if_pos j2]
          rcases q2 with q2 | ⟨n2, -, -, -, r2⟩ <;> rcases q3 with q3 | ⟨n3, -, -, -, r3⟩ <;> simp only [*, if_true, if_false, Option.bind_some, z0] <;> (repeat' split) <;> first | rfl | contradiction | (simp_all; done)
      · right
        simp only [w1, w2, w3, r1, r3, Option.bind_some, z1, if_false, Sum.elim_inl, Sum.elim_inr, if_neg q3, true_and]
        rcases q2 with q2 | ⟨n2, -, -, -, r2⟩
        · rw [if_pos q2]
        · rw [if_neg n2, r2]; simp only [Option.bind_some, z0, if_true]
    · right
      simp only [w1, w2, r1, r2, Option.bind_some, z1, if_false, Sum.elim_inl, Sum.elim_inr, if_neg q2, and_self]
  · right; simp only [w1, r1, Option.bind_some, z0, if_true, Sum.elim_inr, and_self]
