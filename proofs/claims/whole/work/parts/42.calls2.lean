/-! THE PURE LAYER: calls with an index -/
theorem nI_m1 (m : Nat) (hm : m ≤ 100000) (x : Int32) (hx : ¬ x < 0) : (nI m - nI 1 < x) ↔ ¬ x < nI m := by
  obtain ⟨k, hk, rfl⟩ := nI_of hx
  rw [Int32.lt_iff_toInt_lt, Int32.toInt_sub, nI_toInt (by omega), nI_toInt (by omega), nI_toInt hk, Int.bmod_eq_of_le (by omega) (by omega), nI_ltI hk (by omega)]
  omega
/-- an index: both sides see alike whether there is such a one -/
theorem ix (x : Int32) (m : Nat) (hm : m ≤ 100000) : (∃ k, k < m ∧ x = nI k ∧ (∀ τ n c, o_X11_needIndex τ n c x (nI m) = some (.inl ())) ∧ ∀ s, o_X12_in s x (nI 0) (nI m - nI 1) = some (nI 1)) ∨ ((∀ τ n c, o_X11_needIndex τ n c x (nI m) = some (.inr 0)) ∧ ∀ s, o_X12_in s x (nI 0) (nI m - nI 1) = some (nI 0)) := by
  by_cases h1 : x < 0
  · right
    refine ⟨fun τ n c => by unfold o_X11_needIndex; rw [if_pos h1], fun s => r_lo (by rw [nI_0]; exact h1)⟩
  · have h1' : ¬ x < nI 0 := by rw [nI_0]; exact h1
    by_cases h2 : x < nI m
    · left
      obtain ⟨k, hk, rfl⟩ := nI_of h1
      refine ⟨k, (nI_ltI hk (by omega)).mp h2, rfl, fun τ n c => by unfold o_X11_needIndex; rw [if_neg h1, if_pos h2], fun s => r_in h1' (fun e => (nI_m1 m hm _ h1).mp e h2)⟩
    · right
      exact ⟨fun τ n c => by unfold o_X11_needIndex; rw [if_neg h1, if_neg h2], fun s => r_hi h1' ((nI_m1 m hm _ h1).mpr h2)⟩
theorem cx (x : Int32) : (∃ k, k < 24 ∧ x = nI k ∧ (∀ τ n c, o_X11_needCell τ n c x = some (.inl ())) ∧ ∀ s, o_X12_noCell s x = some (nI 0)) ∨ ((∀ τ n c, o_X11_needCell τ n c x = some (.inr 0)) ∧ ∀ s, o_X12_noCell s x = some (nI 1)) := by
  rcases ix x 24 (by decide) with ⟨k, hk, e, h1, h2⟩ | ⟨h1, h2⟩
  · left
    refine ⟨k, hk, e, fun τ n c => by unfold o_X11_needCell; rw [h1]; rfl, fun s => ?_⟩
    unfold o_X12_noCell
    rw [show nI 23 = nI 24 - nI 1 by decide, h2]
    simp only [Option.bind_some, z1, if_false]
  · right
    refine ⟨fun τ n c => by unfold o_X11_needCell; rw [h1]; rfl, fun s => ?_⟩
    unfold o_X12_noCell
    rw [show nI 23 = nI 24 - nI 1 by decide, h2]
    simp only [Option.bind_some, z0, if_true]
theorem tI0 (s : rs_S) (x : Int32) : o_X12_throwsIf s (nI 0) x = some (nI 0, s) := by unfold o_X12_throwsIf; rw [if_pos nI_0, if_pos (Or.inl rfl)]
theorem tI1 (s : rs_S) (x : Int32) : o_X12_throwsIf s (nI 1) x = some (nI 1, pN s 0 x) := by unfold o_X12_throwsIf; rw [if_neg (by decide), if_pos (Or.inr rfl)]
theorem pN_n {s : rs_S} {k j : Nat} {x : Int32} (h : j ≠ k) : (pN s k x).1 j = s.1 j := by show va_up s.1 k x j = s.1 j; exact va_up_ne _ _ h
theorem e_fault {τ : cT} {n : Nat} {c : cS} {s : rs_S} (h : c.1 2 0 = s.1 13) : o_X11_fault τ n 0 c = some (s.1 13) ∧ o_X12_fault s = some (s.1 13, pN s 0 (nI 0)) := by
  unfold o_X11_fault o_X12_fault
  rw [pN_n (by decide)]
  exact ⟨by rw [← h], rfl⟩
theorem e_dredger {τ : cT} {n m : Nat} {c : cS} {s : rs_S} {a1 : Int32} (h1 : c.1 11 10 = s.2.1 179) (hm : s.2.1 179 = nI m) (hm2 : m ≤ 6) :
    (m < 6 ∧ ¬ a1 < nI 1 ∧ ¬ nI 500 < a1 ∧ o_X11_dredger τ n 0 c a1 = some (.inl (nI m, cp (cp (cp (cp c 18 m a1) 19 m (-1)) 20 m (-1)) 11 10 (nI (m + 1)))) ∧ o_X12_dredger s a1 = some (nI m, pW (pW (pW (pW (pN s 0 (nI 0)) (nI (180 + 3 * m)) a1) (nI (180 + 3 * m + 1)) (-1)) (nI (180 + 3 * m + 2)) (-1)) (nI 179) (nI (m + 1)))) ∨
    (o_X11_dredger τ n 0 c a1 = some (.inr (3, c)) ∧ o_X12_dredger s a1 = some (nI 0, pN (pN s 0 (nI 0)) 0 (nI 2))) ∨
    (o_X11_dredger τ n 0 c a1 = some (.inr (1, c)) ∧ o_X12_dredger s a1 = some (nI 0, pN (pN s 0 (nI 0)) 0 (nI 1))) := by
  have eg : gW (pN s 0 (nI 0)) (nI 179) = nI m := by rw [gW_pN, gW_n _ (by decide), hm]
  have e0 : c.1 (0 + 11) 10 = nI m := h1.trans hm
  unfold o_X11_dredger o_X12_dredger
  rw [eg, e0]
  rcases rng a1 (nI 1) (nI 500) with ⟨w1, r1, q1, q2⟩ | ⟨w1, r1⟩
  · simp only [w1, r1, Option.bind_some, z1, if_false, nA1, Sum.elim_inl]
    by_cases hq : m = 6
    · right; left
      subst hq
      rw [nR_out (by decide), if_pos rfl]
      exact ⟨rfl, rfl⟩
    · left
      have hm3 : m < 6 := by omega
      refine ⟨hm3, q1, q2, ?_, ?_⟩
      · rw [nR_in (nI_lt hm3 (by decide))]
        simp only [Option.bind_some, Sum.elim_inl]
        unfold o_X8_addDredger
        have e1 : c.1 (0 + 10 + 1) 10 = nI m := e0
        have e2 : (ca c (0 + 10 + 8) (nI m) a1).1 (0 + 10 + 1) 10 = nI m := by rw [ca_n _ _ (by omega), cp_1 _ (by decide)]; exact e1
        have e3 : (ca (ca c (0 + 10 + 8) (nI m) a1) (0 + 10 + 9) (nI m) (-1)).1 (0 + 10 + 1) 10 = nI m := by rw [ca_n _ _ (by omega), cp_1 _ (by decide)]; exact e2
        have e4 : (ca (ca (ca c (0 + 10 + 8) (nI m) a1) (0 + 10 + 9) (nI m) (-1)) (0 + 10 + 10) (nI m) (-1)).1 (0 + 10 + 1) 10 = nI m := by rw [ca_n _ _ (by omega), cp_1 _ (by decide)]; exact e3
        rw [e1, if_pos (iL_t hm3 (by decide)), e2, if_pos (iL_t hm3 (by decide))]
        simp only [Option.bind_some]
        rw [e3, if_pos (iL_t hm3 (by decide))]
        simp only [Option.bind_some]
        rw [e4, nI_add, cp_q, upd_s, show nI (m + 1) - nI 1 = nI m from nI_pred m, ca_n _ _ (by omega), ca_n _ _ (by omega), ca_n _ _ (by omega)]
      · rw [if_neg (nI_inj (by omega) (by decide) hq), nI_mul, nI_add, nI_add, nI_add, if_pos (iL_t (show 180 + 3 * m < 22216 by omega) (by decide)), if_pos (iL_t (show 180 + 3 * m + 1 < 22216 by omega) (by decide)), if_pos (iL_t (show 180 + 3 * m + 2 < 22216 by omega) (by decide))]
        rw [gW_pWn _ (by omega) (by decide) (by omega), gW_pWn _ (by omega) (by decide) (by omega), gW_pWn _ (by omega) (by decide) (by omega), eg, nI_add]
  · right; right; simp only [w1, r1, Option.bind_some, z0, if_true, nA0, Sum.elim_inr, and_self]
/-- a number of a bond -/
theorem bo {s : rs_S} {k j : Nat} (hk : k < 20) (hj : j < 6) : o_X12_bondOf s (nI k) (nI j) = some (s.2.1 (2666 + 6 * k + j)) := by
  unfold o_X12_bondOf o_X12_bondAt
  simp only [Option.bind_some, nI_mul, nI_add]
  rw [if_pos (iL_t (show 2666 + 6 * k + j < 22216 by omega) (by decide)), gW_n _ (by omega)]
/-- a number of a berth -/
theorem be {s : rs_S} {k j : Nat} (hk : k < 10) (hj : j < 8) : o_X12_berthOf s (nI k) (nI j) = some (s.2.1 (1000 + 8 * k + j)) := by
  unfold o_X12_berthOf o_X12_berthAt
  simp only [Option.bind_some, nI_mul, nI_add]
  rw [if_pos (iL_t (show 1000 + 8 * k + j < 22216 by omega) (by decide)), gW_n _ (by omega)]
theorem e_owes {τ : cT} {n m : Nat} {c : cS} {s : rs_S} {a1 a2 : Int32} (hP : Pl c 10 s.2.1) (hm : s.2.1 2665 = nI m) (hm2 : m ≤ 20) :
    (∃ v, o_X11_owes τ n 0 c a1 a2 = some (.inl v) ∧ o_X12_owes s a1 a2 = some (v, pN s 0 (nI 0))) ∨
    (o_X11_owes τ n 0 c a1 a2 = some (.inr 0) ∧ o_X12_owes s a1 a2 = some (nI 0, pN (pN s 0 (nI 0)) 0 (nI 1))) ∨
    (o_X11_owes τ n 0 c a1 a2 = some (.inr 4) ∧ o_X12_owes s a1 a2 = some (nI 0, pN (pN s 0 (nI 0)) 0 (nI 2))) := by
  have eg : gW (pN s 0 (nI 0)) (nI 2665) = nI m := by rw [gW_pN, gW_n _ (by decide), hm]
  have e0 : c.1 (0 + 131) 13 = nI m := (hP 2665 121 13 rfl).trans hm
  have eh : c.1 (0 + 10) 0 = s.2.1 0 := hP 0 0 0 rfl
  unfold o_X11_owes o_X12_owes
  rw [eg, e0]
  rcases ix a1 m (by omega) with ⟨k, hk, rfl, w1, r1⟩ | ⟨w1, r1⟩
  · have hk2 : k < 20 := by omega
    have i1 : iL (nI k) 20 := iL_t hk2 (by decide)
    have w (j : Nat) (hj : j < 6) : c.1 (10 + (125 + j)) k = s.2.1 (2666 + 6 * k + j) := hP _ (125 + j) k (by
      unfold wk
      rw [if_neg (by omega), if_neg (by omega), if_neg (by omega), if_neg (by omega), if_neg (by omega), if_neg (by omega), if_neg (by omega), if_neg (by omega), if_neg (by omega), if_neg (by omega), if_neg (by omega), if_neg (by omega), if_neg (by omega), if_neg (by omega), if_neg (by omega), if_neg (by omega), if_neg (by omega), if_neg (by omega), if_neg (by omega), if_neg (by omega), if_neg (by omega), if_neg (by omega), if_neg (by omega), if_neg (by omega), if_neg (by omega), if_neg (by omega), if_neg (by omega), if_neg (by omega), if_neg (by omega), if_neg (by omega), if_pos (by omega), show (2666 + 6 * k + j - 2666) % 6 = j by omega, show (2666 + 6 * k + j - 2666) / 6 = k by omega])
    simp only [w1, r1, Option.bind_some, z1, if_false, Sum.elim_inl]
    by_cases c0 : a2 = nI 0
    · left
      refine ⟨s.2.1 (2666 + 6 * k + 4), ?_, ?_⟩
      · rw [if_pos c0, if_pos i1, cg_n _ _ (by omega)]; rw [← w 4 (by decide)]
      · rw [if_pos c0, bo hk2 (by decide)]; rfl
    · rw [if_neg c0, if_neg c0]
      by_cases c1 : a2 = nI 1
      · left
        rw [if_pos c1, if_pos c1, if_pos i1]
        unfold o_X2_year o_X12_isOver o_X12_year
        rw [bo hk2 (by decide), bo hk2 (by decide), gW_pN, gW_n _ (by decide), eh, cg_n _ _ (by omega), cg_n _ _ (by omega)]
        rw [show c.1 (0 + 138) k = s.2.1 (2666 + 6 * k + 3) from w 3 (by decide), show c.1 (0 + 135) k = s.2.1 (2666 + 6 * k + 0) from w 0 (by decide)]
        simp only [Option.bind_some, pN_2]
        by_cases q : s.2.1 (2666 + 6 * k + 3) < s.2.1 0 / nI 2400
        · refine ⟨nI 0, by rw [if_pos q], ?_⟩
          rw [if_neg (Int32.not_le.mpr q)]
          simp only [Option.bind_some, z1, if_false]
        · refine ⟨s.2.1 (2666 + 6 * k + 0), by rw [if_neg q], ?_⟩
          rw [if_pos (Int32.not_lt.mp q)]
          simp only [Option.bind_some, z0, if_true]
      · rw [if_neg c1, if_neg c1]
        by_cases c2 : a2 = nI 2
        · left
          refine ⟨s.2.1 (2666 + 6 * k + 5), ?_, ?_⟩
          · rw [if_pos c2, if_pos i1, cg_n _ _ (by omega)]; rw [← w 5 (by decide)]
          · rw [if_pos c2, bo hk2 (by decide)]; rfl
        · rw [if_neg c2, if_neg c2]
          by_cases c3 : a2 = nI 3
          · left
            refine ⟨s.2.1 (2666 + 6 * k + 3), ?_, ?_⟩
            · rw [if_pos c3, if_pos i1, cg_n _ _ (by omega)]; rw [← w 3 (by decide)]
            · rw [if_pos c3, bo hk2 (by decide)]; rfl
          · rw [if_neg c3, if_neg c3]
            right; right; exact ⟨rfl, rfl⟩
  · right; left; simp only [w1, r1, Option.bind_some, z0, if_true, Sum.elim_inr, and_self]
