/-! THE PURE LAYER: sound, berth -/
def nz_ok (k : Nat) : Bool := match wk k with
  | some (o, _) => decide (o ≠ 16) && decide (o ≠ 18) && decide (o ≠ 24) && decide (o ≠ 25) && decide (o ≠ 120) && (decide (o < 28) || decide (120 < o)) && decide (o < 135)
  | none => true
theorem nz_2 : ∀ a, a < 54 → ∀ b, b < 54 → nz_ok (54 * a + b) = true := by decide +kernel
/-- parts of a Board that hold no plain numbers -/
theorem wk_no {k o j : Nat} (h : wk k = some (o, j)) : o ≠ 16 ∧ o ≠ 18 ∧ o ≠ 24 ∧ o ≠ 25 ∧ o ≠ 120 ∧ (o < 28 ∨ 120 < o) ∧ o < 135 := by
  have hk : k < 2812 := by
    by_cases q : k < 2812
    · exact q
    · rw [wk_le (by omega)] at h; cases h
  have h1 := nz_2 (k / 54) (by omega) (k % 54) (by omega)
  rw [show 54 * (k / 54) + k % 54 = k by omega] at h1
  unfold nz_ok at h1
  rw [h] at h1
  simp only [Bool.and_eq_true, Bool.or_eq_true, decide_eq_true_eq] at h1
  obtain ⟨⟨⟨⟨⟨⟨a1, a2⟩, a3⟩, a4⟩, a5⟩, a6⟩, a7⟩ := h1
  exact ⟨a1, a2, a3, a4, a5, a6, a7⟩
/-- the row behind a sounding -/
def v_snd (v : Nat → Int32) (m : Nat) (a1 a2 a3 h : Int32) : Nat → Int32 := upd (upd (upd (upd (upd v (199 + 4 * m) a1) (199 + 4 * m + 1) a2) (199 + 4 * m + 2) a3) (199 + 4 * m + 3) h) 198 (nI (m + 1))
theorem e_sound {F : Nat} {τ : cT} {n m : Nat} {c : cS} {s : rs_S} {a1 a2 a3 : Int32} (hF : 202 ≤ F) (hP : Pl c 10 s.2.1) (hm : s.2.1 198 = nI m) (hm2 : m ≤ 200) :
    (∃ k, k < 24 ∧ a1 = nI k ∧ m < 200 ∧ ¬ a2 < nI 0 ∧ ¬ s.2.1 0 / nI 24 < a2 ∧ ¬ a3 < nI 0 ∧ ¬ nI 250 < a3 ∧
      o_X11_sound F τ n 0 c a1 a2 a3 = some (.inl (nI m, cp (cp (cp (cp (cp (cp c 22 m a1) 23 m a2) 24 m a3) 25 m (s.2.1 0)) 21 4 (nI (m + 1))) 26 k (eC (ls (v_snd s.2.1 m a1 a2 a3 (s.2.1 0)) a1 (s.2.1 0) (m + 1))))) ∧
      (∃ s', o_X12_sound s a1 a2 a3 = some (nI m, s') ∧ s'.1 = (pN s 0 (nI 0)).1 ∧ s'.2.2 = s.2.2 ∧ s'.2.1 = v_snd s.2.1 m a1 a2 a3 (s.2.1 0)) ∧
      Pl (cp (cp (cp (cp (cp (cp c 22 m a1) 23 m a2) 24 m a3) 25 m (s.2.1 0)) 21 4 (nI (m + 1))) 26 k (eC (ls (v_snd s.2.1 m a1 a2 a3 (s.2.1 0)) a1 (s.2.1 0) (m + 1)))) 10 (v_snd s.2.1 m a1 a2 a3 (s.2.1 0))) ∨
    (o_X11_sound F τ n 0 c a1 a2 a3 = some (.inl (-1, c)) ∧ o_X12_sound s a1 a2 a3 = some (-1, pN s 0 (nI 0))) ∨
    (∃ e, e < 2 ∧ o_X11_sound F τ n 0 c a1 a2 a3 = some (.inr (e, c)) ∧ o_X12_sound s a1 a2 a3 = some (nI 0, pN (pN s 0 (nI 0)) 0 (nI (e + 1)))) := by
  have eh : c.1 (0 + 10) 0 = s.2.1 0 := hP 0 0 0 rfl
  have e0 : c.1 (0 + 10 + 11) 4 = nI m := (hP 198 11 4 rfl).trans hm
  have eg : gW (pN s 0 (nI 0)) (nI 198) = nI m := by rw [gW_pN, gW_n _ (by decide), hm]
  have ht : o_X12_today (pN s 0 (nI 0)) = some (s.2.1 0 / nI 24) := by unfold o_X12_today; rw [gW_pN, gW_n _ (by decide)]
  have ht2 : o_X2_today τ n (0 + 10) c = some (s.2.1 0 / nI 24) := by unfold o_X2_today; rw [eh]
  unfold o_X11_sound o_X12_sound
  rcases cx a1 with ⟨k, hk, rfl, w1, r1⟩ | ⟨w1, r1⟩
  · simp only [w1, r1, Option.bind_some, Sum.elim_inl, ht, ht2, tI0, z0, if_true]
    rcases rng a2 (nI 0) (s.2.1 0 / nI 24) with ⟨w2, r2, p1, p2⟩ | ⟨w2, r2⟩
    · rcases rng a3 (nI 0) (nI 250) with ⟨w3, r3, p3, p4⟩ | ⟨w3, r3⟩
      · simp only [w2, w3, r2, r3, Option.bind_some, z1, if_false, nA1, Sum.elim_inl, eg]
        by_cases hq : m = 200
        · right; left
          subst hq
          refine ⟨?_, by rw [if_pos rfl]⟩
          unfold o_X10_tell
          rw [e0, if_neg (by decide)]
          rfl
        · left
          have hm3 : m < 200 := by omega
          have q0 : wk (199 + 4 * m) = some (12, m) := wk_s (j := 0) hm3 (by decide)
          have q1 : wk (199 + 4 * m + 1) = some (13, m) := wk_s hm3 (by decide)
          have q2 : wk (199 + 4 * m + 2) = some (14, m) := wk_s hm3 (by decide)
          have q3 : wk (199 + 4 * m + 3) = some (15, m) := wk_s hm3 (by decide)
          have hP1 : Pl (cp (cp (cp (cp (cp c 22 m (nI k)) 23 m a2) 24 m a3) 25 m (s.2.1 0)) 21 4 (nI (m + 1))) 10 (v_snd s.2.1 m (nI k) a2 a3 (s.2.1 0)) := ((((hP.put (x := nI k) q0).put (x := a2) q1).put (x := a3) q2).put (x := s.2.1 0) q3).put (x := nI (m + 1)) (show wk 198 = some (11, 4) from rfl)
          refine ⟨k, hk, rfl, hm3, p1, p2, p3, p4, ?_, ?_, hP1.cls (fun k' o' j' h' e => (wk_no h').1 (by omega))⟩
          · unfold o_X10_tell
            have e1 : (ca c (0 + 10 + 12) (nI m) (nI k)).1 (0 + 10 + 11) 4 = nI m := by rw [ca_n _ _ (by omega), cp_1 _ (by decide)]; exact e0
            have e2 : (ca (ca c (0 + 10 + 12) (nI m) (nI k)) (0 + 10 + 13) (nI m) a2).1 (0 + 10 + 11) 4 = nI m := by rw [ca_n _ _ (by omega), cp_1 _ (by decide)]; exact e1
            have e3 : (ca (ca (ca c (0 + 10 + 12) (nI m) (nI k)) (0 + 10 + 13) (nI m) a2) (0 + 10 + 14) (nI m) a3).1 (0 + 10 + 11) 4 = nI m := by rw [ca_n _ _ (by omega), cp_1 _ (by decide)]; exact e2
            have e4 : (ca (ca (ca (ca c (0 + 10 + 12) (nI m) (nI k)) (0 + 10 + 13) (nI m) a2) (0 + 10 + 14) (nI m) a3) (0 + 10 + 15) (nI m) (s.2.1 0)).1 (0 + 10 + 11) 4 = nI m := by rw [ca_n _ _ (by omega), cp_1 _ (by decide)]; exact e3
            rw [e0, if_pos (nI_lt hm3 (by decide)), if_pos (iL_t hm3 (by decide)), e1, if_pos (iL_t hm3 (by decide))]
            try simp only [Option.bind_some]
            rw [e2, if_pos (iL_t hm3 (by decide)), e3, if_pos (iL_t hm3 (by decide)), eh]
            try simp only [Option.bind_some]
            rw [e4, nI_add, ca_n _ _ (by omega), ca_n _ _ (by omega), ca_n _ _ (by omega), ca_n _ _ (by omega), o_latest (b := 0 + 10) (v := v_snd s.2.1 m (nI k) a2 a3 (s.2.1 0)) (m := m + 1) (by omega) hP1 (upd_s _ _ _) (by omega)]
            try simp only [Option.bind_some]
            rw [if_pos (iL_t hk (by decide)), ca_n _ _ (by omega)]
            try simp only [Option.bind_some]
            rw [cp_1 _ (by decide), cp_q, upd_s, show nI (m + 1) - nI 1 = nI m from nI_pred m]
          · rw [if_neg (nI_inj (by omega) (by decide) hq), nI_mul, nI_add, nI_add, nI_add, nI_add, if_pos (iL_t (show 199 + 4 * m < 22216 by omega) (by decide)), if_pos (iL_t (show 199 + 4 * m + 1 < 22216 by omega) (by decide)), if_pos (iL_t (show 199 + 4 * m + 2 < 22216 by omega) (by decide))]
            have eh2 : o_X12_hour (pW (pW (pW (pN s 0 (nI 0)) (nI (199 + 4 * m)) (nI k)) (nI (199 + 4 * m + 1)) a2) (nI (199 + 4 * m + 2)) a3) = some (s.2.1 0) := by
              unfold o_X12_hour
              rw [gW_pWn _ (by omega) (by decide) (by omega), gW_pWn _ (by omega) (by decide) (by omega), gW_pWn _ (by omega) (by decide) (by omega), gW_pN, gW_n _ (by decide)]
            rw [eh2]
            simp only [Option.bind_some]
            rw [if_pos (iL_t (show 199 + 4 * m + 3 < 22216 by omega) (by decide)), gW_pWn _ (by omega) (by decide) (by omega), gW_pWn _ (by omega) (by decide) (by omega), gW_pWn _ (by omega) (by decide) (by omega), gW_pWn _ (by omega) (by decide) (by omega), eg, nI_add]
            refine ⟨_, rfl, rfl, rfl, ?_⟩
            simp only [pW_21]
            rw [nI_clamp (show 199 + 4 * m < 2 ^ 31 by omega), nI_clamp (show 199 + 4 * m + 1 < 2 ^ 31 by omega), nI_clamp (show 199 + 4 * m + 2 < 2 ^ 31 by omega), nI_clamp (show 199 + 4 * m + 3 < 2 ^ 31 by omega), nI_clamp (show 198 < 2 ^ 31 by decide)]
            rfl
      · right; right
        refine ⟨1, by decide, ?_, ?_⟩
        · simp only [w2, w3, Option.bind_some, z0, z1, if_true, if_false, nA0, Sum.elim_inr]
        · simp only [r2, r3, Option.bind_some, z0, z1, if_true, if_false]
    · right; right
      refine ⟨1, by decide, ?_, ?_⟩
      · simp only [w2, Option.bind_some, z0, if_true, nA0, Sum.elim_inr]
      · simp only [r2, Option.bind_some, z0, if_true]
  · right; right
    refine ⟨0, by decide, ?_, ?_⟩
    · simp only [w1, Option.bind_some, Sum.elim_inr]
    · simp only [r1, Option.bind_some, tI1, z1, if_false]
