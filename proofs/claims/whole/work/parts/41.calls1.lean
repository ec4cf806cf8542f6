/-! THE PURE LAYER: simple calls, one after another -/
theorem upd_s (f : Nat → Int32) (k : Nat) (x : Int32) : upd f k x k = x := if_pos rfl
theorem upd_n {f : Nat → Int32} {k j : Nat} {x : Int32} (h : j ≠ k) : upd f k x j = f j := if_neg h
theorem nI_mul (a b : Nat) : nI a * nI b = nI (a * b) := (Int32.ofNat_mul a b).symm
theorem nI_inj {a b : Nat} (ha : a < 2 ^ 31) (hb : b < 2 ^ 31) (h : a ≠ b) : ¬ nI a = nI b := fun e => h ((nI_eq ha hb).mp e)
theorem gW_pW (s : rs_S) (i j x : Int32) : gW (pW s i x) j = if j.toNatClampNeg = i.toNatClampNeg then x else gW s j := rfl
theorem gW_pWn (s : rs_S) {k j : Nat} (hk : k < 2 ^ 31) (hj : j < 2 ^ 31) (h : j ≠ k) (x : Int32) : gW (pW s (nI k) x) (nI j) = gW s (nI j) := by
  rw [gW_pW, nI_clamp hj, nI_clamp hk, if_neg h]
theorem gW_pWs (s : rs_S) (i x : Int32) : gW (pW s i x) i = x := by rw [gW_pW, if_pos rfl]
theorem nR_in {τ : cT} {n : Nat} {c : cS} {a b : Int32} (h : a < b) : o_X11_needRoom τ n c a b = some (.inl ()) := by unfold o_X11_needRoom; rw [if_pos h]
theorem nR_out {τ : cT} {n : Nat} {c : cS} {a b : Int32} (h : ¬ a < b) : o_X11_needRoom τ n c a b = some (.inr 3) := by unfold o_X11_needRoom; rw [if_neg h]
theorem e_run {τ : cT} {n m : Nat} {c : cS} {s : rs_S} {a1 a2 : Int32} (h0 : c.1 10 0 = s.2.1 0) (h1 : c.1 11 6 = s.2.1 98) (hm : s.2.1 98 = nI m) (hm2 : m ≤ 40) :
    (m < 40 ∧ o_X11_run τ n 0 c a1 a2 = some (.inl (nI (m + 1), cp (cp (cp c 16 m a1) 17 m a2) 11 6 (nI (m + 1)))) ∧ o_X12_run s a1 a2 = some (nI (m + 1), pW (pW (pW (pN s 0 (nI 0)) (nI (99 + 2 * m)) a1) (nI (99 + 2 * m + 1)) a2) (nI 98) (nI (m + 1)))) ∨
    (o_X11_run τ n 0 c a1 a2 = some (.inl (-1, c)) ∧ o_X12_run s a1 a2 = some (-1, pN s 0 (nI 0))) ∨
    (o_X11_run τ n 0 c a1 a2 = some (.inr (1, c)) ∧ o_X12_run s a1 a2 = some (nI 0, pN (pN s 0 (nI 0)) 0 (nI 1))) := by
  have ht : o_X12_today (pN s 0 (nI 0)) = some (c.1 10 0 / nI 24) := by
    unfold o_X12_today; rw [gW_pN, gW_n _ (by decide), h0]
  have ht2 : o_X2_today τ n (0 + 10) c = some (c.1 10 0 / nI 24) := rfl
  unfold o_X11_run o_X12_run
  rw [ht, ht2]
  simp only [Option.bind_some]
  rcases rng a1 (c.1 10 0 / nI 24) (nI 1250) with ⟨w1, r1, -, -⟩ | ⟨w1, r1⟩
  · rcases rng a2 (nI 0) (nI 2000) with ⟨w2, r2, -, -⟩ | ⟨w2, r2⟩
    · have eg : gW (pN s 0 (nI 0)) (nI 98) = nI m := by rw [gW_pN, gW_n _ (by decide), hm]
      simp only [w1, w2, r1, r2, Option.bind_some, z1, if_false, nA1, Sum.elim_inl, eg]
      by_cases hq : m = 40
      · right; left
        subst hq
        refine ⟨?_, by rw [if_pos rfl]⟩
        unfold o_X8_tellRun
        rw [show c.1 (0 + 10 + 1) 6 = nI 40 from h1.trans hm, if_neg (by decide)]
        rfl
      · left
        have hm3 : m < 40 := by omega
        refine ⟨hm3, ?_, ?_⟩
        · unfold o_X8_tellRun
          have e1 : c.1 (0 + 10 + 1) 6 = nI m := h1.trans hm
          have e2 : (ca c (0 + 10 + 6) (nI m) a1).1 (0 + 10 + 1) 6 = nI m := by rw [ca_n _ _ (by omega), cp_1 _ (by decide)]; exact e1
          have e3 : (ca (ca c (0 + 10 + 6) (nI m) a1) (0 + 10 + 7) (nI m) a2).1 (0 + 10 + 1) 6 = nI m := by rw [ca_n _ _ (by omega), cp_1 _ (by decide)]; exact e2
          rw [e1, if_pos (nI_lt hm3 (by decide)), if_pos (iL_t hm3 (by decide)), e2, if_pos (iL_t hm3 (by decide))]
          simp only [Option.bind_some]
          rw [e3, nI_add, cp_q, upd_s, ca_n _ _ (by omega), ca_n _ _ (by omega)]
        · rw [if_neg (nI_inj (by omega) (by decide) hq), nI_mul, nI_add, if_pos (iL_t (show 99 + 2 * m < 22216 by omega) (by decide)), nI_add, if_pos (iL_t (show 99 + 2 * m + 1 < 22216 by omega) (by decide)), nI_add]
          rw [gW_pWn _ (by omega) (by decide) (by omega), gW_pWn _ (by omega) (by decide) (by omega), eg, nI_add]
    · right; right; simp only [w1, w2, r1, r2, Option.bind_some, z0, z1, if_true, if_false, nA0, Sum.elim_inr, and_self]
  · right; right; simp only [w1, r1, Option.bind_some, z0, if_true, nA0, Sum.elim_inr, and_self]
theorem e_end {τ : cT} {n : Nat} {c : cS} {s : rs_S} {a1 : Int32} (h1 : c.1 0 1 = s.1 8) : (o_X11_end τ n 0 c a1 = some (nI 1, cp c 0 1 a1) ∧ o_X12_end s a1 = some (nI 1, pN (pN s 0 (nI 0)) 8 a1) ∧ ¬ a1 < 0 ∧ a1 ≤ s.1 8) ∨ (o_X11_end τ n 0 c a1 = some (nI 0, c) ∧ o_X12_end s a1 = some (nI 0, pN s 0 (nI 0))) := by
  have e1 : (pN s 0 (nI 0)).1 8 = s.1 8 := by show va_up s.1 0 (nI 0) 8 = s.1 8; exact va_up_ne _ _ (by decide)
  unfold o_X11_end o_X12_end
  rw [e1, h1]
  by_cases q1 : a1 < 0
  · right; rw [if_pos q1, if_pos q1]; exact ⟨rfl, rfl⟩
  · rw [if_neg q1, if_neg q1]
    by_cases q2 : a1 ≤ s.1 8
    · left; rw [if_pos q2, if_pos q2]; exact ⟨rfl, rfl, q1, q2⟩
    · right; rw [if_neg q2, if_neg q2]; exact ⟨rfl, rfl⟩
theorem e_payer {τ : cT} {n m : Nat} {c : cS} {s : rs_S} (h1 : c.1 131 6 = s.2.1 1090) (hm : s.2.1 1090 = nI m) (hm2 : m ≤ 30) :
    (m < 30 ∧ o_X11_payer τ n 0 c = some (.inl (nI m, cp (cp (cp (cp c 132 m (nI 0)) 133 m (nI 0)) 134 m (nI 0)) 131 6 (nI (m + 1)))) ∧ o_X12_payer s = some (nI m, pW (pN s 0 (nI 0)) (nI 1090) (nI (m + 1)))) ∨
    (o_X11_payer τ n 0 c = some (.inr (3, c)) ∧ o_X12_payer s = some (nI 0, pN (pN s 0 (nI 0)) 0 (nI 1))) := by
  unfold o_X11_payer o_X12_payer
  have e0 : c.1 (0 + 131) 6 = nI m := h1.trans hm
  rw [gW_pN, gW_n _ (by decide), hm, e0]
  by_cases hq : m = 30
  · right
    subst hq
    rw [nR_out (by decide), if_pos rfl]
    exact ⟨rfl, rfl⟩
  · left
    have hm3 : m < 30 := by omega
    refine ⟨hm3, ?_, ?_⟩
    · rw [nR_in (nI_lt hm3 (by decide))]
      simp only [Option.bind_some, Sum.elim_inl]
      unfold o_X6_addPayer
      have e1 : c.1 (0 + 10 + 121) 6 = nI m := e0
      have e2 : (ca c (0 + 10 + 122) (nI m) (nI 0)).1 (0 + 10 + 121) 6 = nI m := by rw [ca_n _ _ (by omega), cp_1 _ (by decide)]; exact e1
      have e3 : (ca (ca c (0 + 10 + 122) (nI m) (nI 0)) (0 + 10 + 123) (nI m) (nI 0)).1 (0 + 10 + 121) 6 = nI m := by rw [ca_n _ _ (by omega), cp_1 _ (by decide)]; exact e2
      have e4 : (ca (ca (ca c (0 + 10 + 122) (nI m) (nI 0)) (0 + 10 + 123) (nI m) (nI 0)) (0 + 10 + 124) (nI m) (nI 0)).1 (0 + 10 + 121) 6 = nI m := by rw [ca_n _ _ (by omega), cp_1 _ (by decide)]; exact e3
      rw [e1, if_pos (iL_t hm3 (by decide)), e2, if_pos (iL_t hm3 (by decide))]
      simp only [Option.bind_some]
      rw [e3, if_pos (iL_t hm3 (by decide))]
      simp only [Option.bind_some]
      rw [e4, nI_add, cp_q, upd_s, show nI (m + 1) - nI 1 = nI m from nI_pred m, ca_n _ _ (by omega), ca_n _ _ (by omega), ca_n _ _ (by omega)]
    · rw [if_neg (nI_inj (by omega) (by decide) hq), nI_add, gW_pWs, show nI (m + 1) - nI 1 = nI m from nI_pred m]
