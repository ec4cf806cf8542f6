/-! THE PURE LAYER: berth, feed -/
def c_ber (c : cS) (m : Nat) (a1 a2 a3 a4 : Int32) : cS := cp (cp (cp (cp (cp (cp (cp (cp (cp (cp c (39 + m) 0 a1) (39 + m) 1 a2) (39 + m) 2 a3) (39 + m) 3 a4) (39 + m) 4 (nI 0)) (39 + m) 5 (nI 0)) (39 + m) 6 (nI 0)) (39 + m) 7 (-1)) (39 + m) 8 (-1000)) 37 1 (nI (m + 1))
def s_ber (s : rs_S) (m : Nat) (a1 a2 a3 a4 : Int32) : rs_S := pW (pW (pW (pW (pW (pW (pN s 0 (nI 0)) (nI 999) (nI (m + 1))) (nI (1000 + 8 * m + 0)) a1) (nI (1000 + 8 * m + 1)) a2) (nI (1000 + 8 * m + 2)) a3) (nI (1000 + 8 * m + 3)) a4) (nI (1000 + 8 * m + 6)) (-1)
theorem o_berthAt {s : rs_S} {k j : Nat} : o_X12_berthAt s (nI k) (nI j) = some (nI (1000 + 8 * k + j)) := by unfold o_X12_berthAt; rw [nI_mul, nI_add, nI_add]
theorem o_addBerth {τ : cT} {n m : Nat} {c : cS} {a1 a2 a3 a4 : Int32} (e0 : c.1 37 1 = nI m) (hm : m < 10) : o_X5_addBerth τ n 10 c a1 a2 a3 a4 = some (nI m, c_ber c m a1 a2 a3 a4) := by
  unfold o_X5_addBerth
  rw [show c.1 (10 + 27) 1 = nI m from e0, if_pos (iL_t hm (by decide)), nI_clamp (by omega), show 10 + 28 + 1 + m = 39 + m by omega]
  unfold o_X1_build
  simp only [Option.bind_some]
  have e1 : (cp (cp (cp (cp (cp (cp (cp (cp (cp c (39 + m) 0 a1) (39 + m) 1 a2) (39 + m) 2 a3) (39 + m) 3 a4) (39 + m) 4 (nI 0)) (39 + m) 5 (nI 0)) (39 + m) 6 (nI 0)) (39 + m) 7 (-1)) (39 + m) 8 (-1000)).1 (10 + 27) 1 = nI m := by
    rw [cp_1 _ (by omega), cp_1 _ (by omega), cp_1 _ (by omega), cp_1 _ (by omega), cp_1 _ (by omega), cp_1 _ (by omega), cp_1 _ (by omega), cp_1 _ (by omega), cp_1 _ (by omega)]
    exact e0
  rw [e1, nI_add, cp_q, upd_s, show nI (m + 1) - nI 1 = nI m from nI_pred m]
  rfl
theorem e_berth {τ : cT} {n m : Nat} {c : cS} {s : rs_S} {a1 a2 a3 a4 : Int32} (h1 : c.1 37 1 = s.2.1 999) (hm : s.2.1 999 = nI m) (hm2 : m ≤ 10) :
    (∃ k x y z, k < 24 ∧ a1 = nI k ∧ 1 ≤ x ∧ x ≤ 900 ∧ a2 = nI x ∧ 1 ≤ y ∧ y ≤ 500 ∧ a3 = nI y ∧ 1 ≤ z ∧ z ≤ 50000 ∧ a4 = nI z ∧ m < 10 ∧ o_X11_berth τ n 0 c a1 a2 a3 a4 = some (.inl (nI m, c_ber c m a1 a2 a3 a4)) ∧ o_X12_berth s a1 a2 a3 a4 = some (nI m, s_ber s m a1 a2 a3 a4)) ∨
    (o_X11_berth τ n 0 c a1 a2 a3 a4 = some (.inr (0, c)) ∧ o_X12_berth s a1 a2 a3 a4 = some (nI 0, pN (pN s 0 (nI 0)) 0 (nI 1))) ∨
    (o_X11_berth τ n 0 c a1 a2 a3 a4 = some (.inr (1, c)) ∧ o_X12_berth s a1 a2 a3 a4 = some (nI 0, pN (pN s 0 (nI 0)) 0 (nI 2))) ∨
    (o_X11_berth τ n 0 c a1 a2 a3 a4 = some (.inr (3, c)) ∧ o_X12_berth s a1 a2 a3 a4 = some (nI 0, pN (pN s 0 (nI 0)) 0 (nI 3))) := by
  have e0 : c.1 (0 + 37) 1 = nI m := h1.trans hm
  have eg : gW (pN s 0 (nI 0)) (nI 999) = nI m := by rw [gW_pN, gW_n _ (by decide), hm]
  have i1 : ∀ {x : Int32} {a : Nat}, ¬ x < nI 1 → ¬ nI a < x → a < 2 ^ 31 → ∃ k, 1 ≤ k ∧ k ≤ a ∧ x = nI k := fun {x a} q1 q2 ha => by
    have q3 : ¬ x < nI 0 := fun q => q1 (Int32.lt_trans q (by decide))
    obtain ⟨k, hk, rfl⟩ := i_in q3 q2 ha
    exact ⟨k, by
      by_cases q : 1 ≤ k
      · exact q
      · exact absurd (nI_lt (show k < 1 by omega) (by decide)) q1, hk, rfl⟩
  unfold o_X11_berth o_X12_berth
  rcases cx a1 with ⟨k, hk, rfl, w1, r1⟩ | ⟨w1, r1⟩
  · simp only [w1, r1, Option.bind_some, Sum.elim_inl, tI0, z0, if_true]
    rcases rng a2 (nI 1) (nI 900) with ⟨w2, r2, p1, p2⟩ | ⟨w2, r2⟩
    · rcases rng a3 (nI 1) (nI 500) with ⟨w3, r3, p3, p4⟩ | ⟨w3, r3⟩
      · rcases rng a4 (nI 1) (nI 50000) with ⟨w4, r4, p5, p6⟩ | ⟨w4, r4⟩
        · simp only [w2, w3, w4, r2, r3, r4, Option.bind_some, z1, if_false, nA1, Sum.elim_inl, eg, e0]
          by_cases hq : m = 10
          · right; right; right
            subst hq
            rw [nR_out (by decide), if_pos rfl]
            exact ⟨rfl, rfl⟩
          · left
            have hm3 : m < 10 := by omega
            obtain ⟨x, x1, x2, rfl⟩ := i1 p1 p2 (by decide)
            obtain ⟨y, y1, y2, rfl⟩ := i1 p3 p4 (by decide)
            obtain ⟨z, z1, z2, rfl⟩ := i1 p5 p6 (by decide)
            refine ⟨k, x, y, z, hk, rfl, x1, x2, rfl, y1, y2, rfl, z1, z2, rfl, hm3, ?_, ?_⟩
            · rw [nR_in (nI_lt hm3 (by decide))]
              simp only [Option.bind_some, Sum.elim_inl]
              rw [show 0 + 10 = 10 from rfl, o_addBerth (show c.1 37 1 = nI m from e0) hm3]
              rfl
            · rw [if_neg (nI_inj (by omega) (by decide) hq)]
              simp only [o_berthAt, Option.bind_some, nI_add, if_pos (iL_t (show 1000 + 8 * m + 0 < 22216 by omega) (by decide)), if_pos (iL_t (show 1000 + 8 * m + 1 < 22216 by omega) (by decide)), if_pos (iL_t (show 1000 + 8 * m + 2 < 22216 by omega) (by decide)), if_pos (iL_t (show 1000 + 8 * m + 3 < 22216 by omega) (by decide)), if_pos (iL_t (show 1000 + 8 * m + 6 < 22216 by omega) (by decide))]
              rfl
        · right; right; left
          simp only [w2, w3, w4, r2, r3, r4, Option.bind_some, z0, z1, if_true, if_false, nA0, Sum.elim_inr, and_self]
      · right; right; left
        simp only [w2, w3, r2, r3, Option.bind_some, z0, z1, if_true, if_false, nA0, Sum.elim_inr, and_self]
    · right; right; left
      simp only [w2, r2, Option.bind_some, z0, if_true, nA0, Sum.elim_inr, and_self]
  · right; left
    simp only [w1, r1, Option.bind_some, Sum.elim_inr, tI1, z1, if_false, and_self]
