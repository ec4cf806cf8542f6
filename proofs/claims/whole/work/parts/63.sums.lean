/-! THE PURE LAYER: sums over the lines of an act; what is asked of a ship -/
def b9 (i : Nat) : Nat := i * 999999
theorem b9_0 : b9 0 = 0 := rfl
theorem b9_20 {i : Nat} (h : i ≤ 20) : b9 i ≤ 19999980 := Nat.le_trans (Nat.mul_le_mul_right 999999 h) (by decide)
theorem b9_s {i k m : Nat} (h : k ≤ b9 i) (hm : m < 1000000) : k + m ≤ b9 (i + 1) := by
  show k + m ≤ (i + 1) * 999999
  rw [Nat.succ_mul]; exact Nat.add_le_add h (Nat.le_of_lt_succ hm)
theorem b9_m {i k : Nat} (h : k ≤ b9 i) : k ≤ b9 (i + 1) := b9_s (m := 0) h (by decide)
section SUMS
variable {F : Nat} {τ : cT} {n p q a i : Nat} {c : cS} {s : rs_S}
theorem RAct.hold (hF : 401 < F) (h : RAct τ c p s.2.1 a) (ha : a ≤ 21) (hi : i < N (s.2.1 (2812 + 882 * a + 1))) (hr : RF c q s) : ∃ t s', t < 2 ∧ o_X0_holds F τ n p q c (nI i) = some (nI t) ∧ o_X12_holds F s (nI a) (nI i) = some (nI t, s') ∧ S6 s s' := by
  have hl := h.ln
  have t3 := h.t3
  have t4 := h.t4
  obtain ⟨e1, e2, e3, e4, e5⟩ := h.en i hi
  have w := h.wf i hi
  generalize eb : bgn (c.1 (p + 3)) i = bg at *
  generalize ee : N (c.1 (p + 3) i) = e at *
  have k1 : o_X0_holds F τ n p q c (nI i) = (o_X0_holds_20 F τ n p q (nI i) c F (nI 1) (nI bg)).bind fun x => if x &&& nI 1 = nI 1 then some (nI 1) else some (nI 0) := by
    unfold o_X0_holds
    cases i with
    | zero =>
      rw [if_pos nI_0, ← eb]
      rfl
    | succ i =>
      obtain ⟨_, f2, _⟩ := h.en i (by omega)
      rw [if_neg (nI_ne0 (by omega) (by omega)), nI_sub (by omega), show i + 1 - 1 = i by omega, if_pos (iL_t (show i < tl τ (p + 3) by omega) (by omega)), cg_n _ _ (by omega), f2, ← eb]
      rfl
  have k2 : o_X12_holds F s (nI a) (nI i) = (o_X12_holds_24 F (nI a) (nI (2812 + 882 * a + 2 + 4 * i)) F (nI 0) (nI bg) s).bind fun x47 => (if x47.1 = 0 then (some (nI 1, x47.2)) else (if (gR x47.2 6 (nI 0)) = 0 then (some (nI 0, x47.2)) else (some (nI 1, x47.2)))) := by
    unfold o_X12_holds
    rw [o_actAt]
    simp only [Option.bind_some, nI_add, nI_mul]
    rw [if_pos (iL_t (show 2812 + 882 * a + 2 + 4 * i + 2 < 22216 by omega) (by decide)), gW_n _ (by omega), e5]
  obtain ⟨G, hG⟩ : ∃ G, F = G + 1 := ⟨F - 1, by omega⟩
  rw [k1, k2]
  by_cases q1 : bg < e
  · obtain ⟨s', a1, a2, a3⟩ := hold_run (F := F) (n := n) (q := q) (v := s.2.1) (by rw [t3]; exact hi) (by omega) e2 e4 t4 h.t5 ha (by rw [← e1]; exact e2) h.st (e - bg) bg 0 F F s 1 rfl hr (by omega) (w q1) (by omega) (by omega) (by omega)
    have a1' : o_X0_holds_20 F τ n p q (nI i) c F (nI 1) (nI bg) = some (nI (ebt (s'.2.2 6) 1)) := a1
    rw [a1', a2]
    simp only [Option.bind_some]
    rw [if_neg (show ¬ nI 1 = 0 by decide), ebt, nI_and, show ebt (s'.2.2 6) 0 = 1 from rfl, gR_n _ _ (by decide), bt_and _ _ (by split <;> omega)]
    by_cases g0 : s'.2.2 6 0 = 0
    · rw [if_pos g0, if_pos g0, if_neg (by decide)]; exact ⟨0, s', by decide, rfl, rfl, a3⟩
    · rw [if_neg g0, if_neg g0, if_pos rfl]; exact ⟨1, s', by decide, rfl, rfl, a3⟩
  · rw [hG, cl_end (by rw [t3]; exact hi) (by omega) e2 (by omega) (by omega), re_end ha (by omega) (by rw [← e1]; exact e2) (by omega) (by omega)]
    simp only [Option.bind_some]
    rw [if_pos (by decide), if_pos nI_0]
    exact ⟨1, s, by decide, rfl, rfl, S6.refl s⟩
/-- a text, or none: the class's and the reference's name of it -/
def RLaw (τ : cT) (c : cS) (p : Nat) (v : Nat → Int32) (x : Int32) : Prop := (x = -1 ∧ c.1 p 0 = nI 0) ∨ ∃ a, a ≤ 21 ∧ x = nI a ∧ RAct τ c p v a
theorem sum_run (hF : 401 < F) (ha : a ≤ 21) {kd : Nat} (hk : kd < 8) (hk4 : kd ≠ 4) : ∀ (r i f f' k : Nat) (s : rs_S), RAct τ c p s.2.1 a → RF c q s → i + r = N (s.2.1 (2812 + 882 * a + 1)) → r < f → r < f' → k ≤ b9 i → ∃ k' s', k' ≤ 19999980 ∧ o_X0_sum_5 F τ n p q (nI kd) c f (nI k) (nI i) = some (nI k') ∧ o_X12_sumOf_5 F (nI a) (nI kd) f' (lN k) (nI i) s = some (lN k', s') ∧ S6 s s' := by
  intro r
  induction r with
  | zero =>
    intro i f f' k s h hr hi hf hf' hk9
    obtain ⟨f, rfl⟩ : ∃ x, f = x + 1 := ⟨f - 1, by omega⟩
    obtain ⟨f', rfl⟩ : ∃ x, f' = x + 1 := ⟨f' - 1, by omega⟩
    have hl := h.ln
    refine ⟨k, s, Nat.le_trans hk9 (b9_20 (by omega)), ?_, ?_, S6.refl s⟩
    · rw [o_X0_sum_5, h.lc, h.l0, if_pos (nI_yes (by omega) (by omega) (by omega))]
    · rw [o_X12_sumOf_5, o_linesOf ha h.l0]
      simp only [Option.bind_some]
      rw [if_pos (nI_yes (by omega) (by omega) (by omega))]
  | succ r ih =>
    intro i f f' k s h hr hi hf hf' hk9
    obtain ⟨f, rfl⟩ : ∃ x, f = x + 1 := ⟨f - 1, by omega⟩
    obtain ⟨f', rfl⟩ : ∃ x, f' = x + 1 := ⟨f' - 1, by omega⟩
    have hl := h.ln
    have hi2 : i < N (s.2.1 (2812 + 882 * a + 1)) := by omega
    obtain ⟨kd1, kk, kd2, kd3⟩ := h.kd i hi2
    rw [o_X0_sum_5, h.lc, h.l0, if_neg (nI_no (by omega) (by omega) (by omega)), if_pos (iL_t (by rw [h.t1]; exact hi2) (by rw [h.t1]; omega)), cg_n _ _ (by omega), nI_add]
    rw [o_X12_sumOf_5, o_linesOf ha h.l0, o_actAt]
    simp only [Option.bind_some, nI_add, nI_mul]
    rw [if_neg (nI_no (by omega) (by omega) (by omega)), if_pos (iL_t (show 2812 + 882 * a + 2 + 4 * i < 22216 by omega) (by decide)), gW_n _ (by omega), ← kd1]
    by_cases q1 : c.1 (p + 1) i = nI kd
    · rw [if_pos q1, if_pos q1]
      obtain ⟨t, s1, ht, b1, b2, b3⟩ := h.hold (n := n) (q := q) hF ha hi2 hr
      rw [b1, b2]
      simp only [Option.bind_some]
      obtain ⟨m1, m, m2, m3⟩ := h.nm i hi2 (by rw [q1]; exact nI_inj (by omega) (by decide) hk4)
      have h' : RAct τ c p s1.2.1 a := by rw [b3.2.1]; exact h
      match t, ht with
      | 0, _ =>
        rw [if_pos (show nI 0 = 0 from nI_0), if_pos (show nI 0 = 0 from nI_0)]
        obtain ⟨k', s', c1, c2, c3, c4⟩ := ih (i + 1) f f' k s1 h' (b3.rf hr) (by rw [b3.2.1]; omega) (by omega) (by omega) (b9_m hk9)
        exact ⟨k', s', c1, c2, c3, b3.trans c4⟩
      | 1, _ =>
        rw [if_neg (show ¬ nI 1 = 0 by decide), if_neg (show ¬ nI 1 = 0 by decide), if_pos (iL_t (by rw [h.t2]; exact hi2) (by rw [h.t2]; omega)), cg_n _ _ (by omega), o_actAt]
        simp only [Option.bind_some, nI_add, nI_mul]
        rw [if_pos (iL_t (show 2812 + 882 * a + 2 + 4 * i + 1 < 22216 by omega) (by decide)), gW_n _ (by omega), b3.2.1, ← m1, m3, nI_add, nI_l (by omega), lN_add]
        obtain ⟨k', s', c1, c2, c3, c4⟩ := ih (i + 1) f f' (k + m) s1 h' (b3.rf hr) (by rw [b3.2.1]; omega) (by omega) (by omega) (b9_s hk9 m2)
        exact ⟨k', s', c1, c2, c3, b3.trans c4⟩
      | t + 2, h => exact absurd h (by omega)
    · rw [if_neg q1, if_neg q1]
      exact ih (i + 1) f f' k s h hr (by omega) (by omega) (by omega) (b9_m hk9)
theorem RLaw.sum {x : Int32} (hF : 401 < F) (h : RLaw τ c p s.2.1 x) (hr : RF c q s) {kd : Nat} (hk : kd < 8) (hk4 : kd ≠ 4) : ∃ k s', k ≤ 19999980 ∧ o_X0_sum F τ n p q c (nI kd) = some (nI k) ∧ o_X12_sumOf F s x (nI kd) = some (lN k, s') ∧ S6 s s' := by
  obtain ⟨G, hG⟩ : ∃ G, F = G + 1 := ⟨F - 1, by omega⟩
  unfold o_X0_sum o_X12_sumOf
  rcases h with ⟨e1, e2⟩ | ⟨a, ha, e1, h⟩
  · refine ⟨0, s, by decide, ?_, ?_, S6.refl s⟩
    · rw [hG, o_X0_sum_5, e2, if_pos (Int32.le_refl _)]; rfl
    · subst e1
      rw [hG, o_X12_sumOf_5]
      unfold o_X12_linesOf
      rw [if_neg (by decide)]
      simp only [Option.bind_some]
      rw [if_pos (Int32.le_refl _)]
      rfl
  · subst e1
    have hl := h.ln
    obtain ⟨k, s', c1, c2, c3, c4⟩ := sum_run (n := n) (q := q) hF ha hk hk4 (N (s.2.1 (2812 + 882 * a + 1))) 0 F F 0 s h hr (by omega) (by omega) (by omega) (Nat.zero_le _)
    rw [c2, show (0 : Int64) = lN 0 from rfl, c3]
    exact ⟨k, s', c1, rfl, rfl, c4⟩
theorem first_run (hF : 401 < F) (ha : a ≤ 21) {kd : Nat} : ∀ (r i f f' : Nat) (s : rs_S), RAct τ c p s.2.1 a → RF c q s → i + r = N (s.2.1 (2812 + 882 * a + 1)) → r < f → r < f' → ∃ s', S6 s s' ∧ ((o_X0_firstThatHolds_2 F τ n p q (nI kd) c f (nI i) = some (.inl ()) ∧ o_X12_firstOf_2 F (nI a) (nI kd) f' (nI i) s = some (.inl s')) ∨ ∃ y, o_X0_firstThatHolds_2 F τ n p q (nI kd) c f (nI i) = some (.inr y) ∧ o_X12_firstOf_2 F (nI a) (nI kd) f' (nI i) s = some (.inr (y, s'))) := by
  intro r
  induction r with
  | zero =>
    intro i f f' s h hr hi hf hf'
    obtain ⟨f, rfl⟩ : ∃ x, f = x + 1 := ⟨f - 1, by omega⟩
    obtain ⟨f', rfl⟩ : ∃ x, f' = x + 1 := ⟨f' - 1, by omega⟩
    have hl := h.ln
    refine ⟨s, S6.refl s, Or.inl ⟨?_, ?_⟩⟩
    · rw [o_X0_firstThatHolds_2, h.lc, h.l0, if_pos (nI_yes (by omega) (by omega) (by omega))]
    · rw [o_X12_firstOf_2, o_linesOf ha h.l0]
      simp only [Option.bind_some]
      rw [if_pos (nI_yes (by omega) (by omega) (by omega))]
  | succ r ih =>
    intro i f f' s h hr hi hf hf'
    obtain ⟨f, rfl⟩ : ∃ x, f = x + 1 := ⟨f - 1, by omega⟩
    obtain ⟨f', rfl⟩ : ∃ x, f' = x + 1 := ⟨f' - 1, by omega⟩
    have hl := h.ln
    have hi2 : i < N (s.2.1 (2812 + 882 * a + 1)) := by omega
    obtain ⟨kd1, kk, kd2, kd3⟩ := h.kd i hi2
    rw [o_X0_firstThatHolds_2, h.lc, h.l0, if_neg (nI_no (by omega) (by omega) (by omega)), if_pos (iL_t (by rw [h.t1]; exact hi2) (by rw [h.t1]; omega)), cg_n _ _ (by omega), nI_add]
    rw [o_X12_firstOf_2, o_linesOf ha h.l0, o_actAt]
    simp only [Option.bind_some, nI_add, nI_mul]
    rw [if_neg (nI_no (by omega) (by omega) (by omega)), if_pos (iL_t (show 2812 + 882 * a + 2 + 4 * i < 22216 by omega) (by decide)), gW_n _ (by omega), ← kd1]
    by_cases q1 : c.1 (p + 1) i = nI kd
    · rw [if_pos q1, if_pos q1]
      obtain ⟨t, s1, ht, b1, b2, b3⟩ := h.hold (n := n) (q := q) hF ha hi2 hr
      rw [b1, b2]
      simp only [Option.bind_some]
      have h' : RAct τ c p s1.2.1 a := by rw [b3.2.1]; exact h
      match t, ht with
      | 0, _ =>
        rw [if_pos (show nI 0 = 0 from nI_0), if_pos (show nI 0 = 0 from nI_0)]
        obtain ⟨s', c4, c1⟩ := ih (i + 1) f f' s1 h' (b3.rf hr) (by rw [b3.2.1]; omega) (by omega) (by omega)
        exact ⟨s', b3.trans c4, c1⟩
      | 1, _ =>
        rw [if_neg (show ¬ nI 1 = 0 by decide), if_neg (show ¬ nI 1 = 0 by decide)]
        exact ⟨s1, b3, Or.inr ⟨_, rfl, rfl⟩⟩
      | t + 2, h => exact absurd h (by omega)
    · rw [if_neg q1, if_neg q1]
      exact ih (i + 1) f f' s h hr (by omega) (by omega) (by omega)
theorem RLaw.first {x : Int32} (hF : 401 < F) (h : RLaw τ c p s.2.1 x) (hr : RF c q s) {kd : Nat} : ∃ y s', o_X0_firstThatHolds F τ n p q c (nI kd) = some y ∧ o_X12_firstOf F s x (nI kd) = some (y, s') ∧ S6 s s' := by
  obtain ⟨G, hG⟩ : ∃ G, F = G + 1 := ⟨F - 1, by omega⟩
  unfold o_X0_firstThatHolds o_X12_firstOf
  rcases h with ⟨e1, e2⟩ | ⟨a, ha, e1, h⟩
  · refine ⟨-1, s, ?_, ?_, S6.refl s⟩
    · rw [hG, o_X0_firstThatHolds_2, e2, if_pos (Int32.le_refl _)]; rfl
    · subst e1
      rw [hG, o_X12_firstOf_2]
      unfold o_X12_linesOf
      rw [if_neg (by decide)]
      simp only [Option.bind_some]
      rw [if_pos (Int32.le_refl _)]
      rfl
  · subst e1
    have hl := h.ln
    obtain ⟨s', c4, ⟨c1, c2⟩ | ⟨y, c1, c2⟩⟩ := first_run (n := n) (q := q) (kd := kd) hF ha (N (s.2.1 (2812 + 882 * a + 1))) 0 F F s h hr (by omega) (by omega) (by omega)
    · rw [c1, c2]; exact ⟨_, s', rfl, rfl, c4⟩
    · rw [c1, c2]; exact ⟨_, s', rfl, rfl, c4⟩
theorem back_run (hF : 401 < F) (ha : a ≤ 21) : ∀ (r i f f' k : Nat) (s : rs_S), RAct τ c p s.2.1 a → RF c q s → i + r = N (s.2.1 (2812 + 882 * a + 1)) → r < f → r < f' → k ≤ 100 → ∃ k' s', k' ≤ 100 ∧ o_X0_greatest_5 F τ n p q (nI 2) c f (nI k) (nI i) = some (nI k') ∧ o_X12_mostBack_4 F (nI a) f' (nI k) (nI i) s = some (nI k', s') ∧ S6 s s' := by
  intro r
  induction r with
  | zero =>
    intro i f f' k s h hr hi hf hf' hk9
    obtain ⟨f, rfl⟩ : ∃ x, f = x + 1 := ⟨f - 1, by omega⟩
    obtain ⟨f', rfl⟩ : ∃ x, f' = x + 1 := ⟨f' - 1, by omega⟩
    have hl := h.ln
    refine ⟨k, s, by omega, ?_, ?_, S6.refl s⟩
    · rw [o_X0_greatest_5, h.lc, h.l0, if_pos (nI_yes (by omega) (by omega) (by omega))]
    · rw [o_X12_mostBack_4, o_linesOf ha h.l0]
      simp only [Option.bind_some]
      rw [if_pos (nI_yes (by omega) (by omega) (by omega))]
  | succ r ih =>
    intro i f f' k s h hr hi hf hf' hk9
    obtain ⟨f, rfl⟩ : ∃ x, f = x + 1 := ⟨f - 1, by omega⟩
    obtain ⟨f', rfl⟩ : ∃ x, f' = x + 1 := ⟨f' - 1, by omega⟩
    have hl := h.ln
    have hi2 : i < N (s.2.1 (2812 + 882 * a + 1)) := by omega
    obtain ⟨kd1, kk, kd2, kd3⟩ := h.kd i hi2
    rw [o_X0_greatest_5, h.lc, h.l0, if_neg (nI_no (by omega) (by omega) (by omega)), if_pos (iL_t (by rw [h.t1]; exact hi2) (by rw [h.t1]; omega)), cg_n _ _ (by omega), nI_add]
    rw [o_X12_mostBack_4, o_linesOf ha h.l0, o_actAt]
    simp only [Option.bind_some, nI_add, nI_mul]
    rw [if_neg (nI_no (by omega) (by omega) (by omega)), if_pos (iL_t (show 2812 + 882 * a + 2 + 4 * i < 22216 by omega) (by decide)), gW_n _ (by omega), ← kd1]
    by_cases q1 : c.1 (p + 1) i = nI 2
    · rw [if_pos q1, if_pos q1]
      obtain ⟨t, s1, ht, b1, b2, b3⟩ := h.hold (n := n) (q := q) hF ha hi2 hr
      rw [b1, b2]
      simp only [Option.bind_some]
      obtain ⟨m1, m, m2, m3⟩ := h.nm i hi2 (by rw [q1]; decide)
      have m4 := h.n2 i hi2 (Or.inl q1)
      rw [m3, N_nI (by omega)] at m4
      have h' : RAct τ c p s1.2.1 a := by rw [b3.2.1]; exact h
      rw [if_pos (iL_t (by rw [h.t2]; exact hi2) (by rw [h.t2]; omega)), cg_n _ _ (by omega), m3]
      have go : ∀ k1, k1 ≤ 100 → ∃ k' s', k' ≤ 100 ∧ o_X0_greatest_5 F τ n p q (nI 2) c f (nI k1) (nI (i + 1)) = some (nI k') ∧ o_X12_mostBack_4 F (nI a) f' (nI k1) (nI (i + 1)) s1 = some (nI k', s') ∧ S6 s s' := fun k1 hk1 => by
        obtain ⟨k', s', c1, c2, c3, c4⟩ := ih (i + 1) f f' k1 s1 h' (b3.rf hr) (by rw [b3.2.1]; omega) (by omega) (by omega) hk1
        exact ⟨k', s', c1, c2, c3, b3.trans c4⟩
      match t, ht with
      | 0, _ =>
        rw [if_pos (show nI 0 = 0 from nI_0), if_pos (show nI 0 = 0 from nI_0), ite_self]
        exact go k hk9
      | 1, _ =>
        rw [if_neg (show ¬ nI 1 = 0 by decide), if_neg (show ¬ nI 1 = 0 by decide), o_actAt]
        simp only [Option.bind_some, nI_add, nI_mul]
        rw [if_pos (iL_t (show 2812 + 882 * a + 2 + 4 * i + 1 < 22216 by omega) (by decide)), gW_n _ (by omega), b3.2.1, ← m1, m3]
        unfold mxi
        by_cases q2 : k < m
        · rw [if_neg (nI_no (by omega) (by omega) q2), if_pos ((nI_ltI (by omega) (by omega)).mpr q2)]; exact go m m4
        · rw [if_pos (nI_yes (by omega) (by omega) (by omega)), if_neg (nI_ngt (by omega) (by omega) (by omega))]; exact go k hk9
      | t + 2, h => exact absurd h (by omega)
    · rw [if_neg q1, if_neg q1]
      exact ih (i + 1) f f' k s h hr (by omega) (by omega) (by omega) hk9
theorem RLaw.back {x : Int32} (hF : 401 < F) (h : RLaw τ c p s.2.1 x) (hr : RF c q s) : ∃ k s', k ≤ 100 ∧ o_X0_greatest F τ n p q c (nI 2) = some (nI k) ∧ o_X12_mostBack F s x = some (nI k, s') ∧ S6 s s' := by
  obtain ⟨G, hG⟩ : ∃ G, F = G + 1 := ⟨F - 1, by omega⟩
  unfold o_X0_greatest o_X12_mostBack
  rcases h with ⟨e1, e2⟩ | ⟨a, ha, e1, h⟩
  · refine ⟨0, s, by decide, ?_, ?_, S6.refl s⟩
    · rw [hG, o_X0_greatest_5, e2, if_pos (Int32.le_refl _)]; rfl
    · subst e1
      rw [hG, o_X12_mostBack_4]
      unfold o_X12_linesOf
      rw [if_neg (by decide)]
      simp only [Option.bind_some]
      rw [if_pos (Int32.le_refl _)]
      rfl
  · subst e1
    have hl := h.ln
    obtain ⟨k, s', c1, c2, c3, c4⟩ := back_run (n := n) (q := q) hF ha (N (s.2.1 (2812 + 882 * a + 1))) 0 F F 0 s h hr (by omega) (by omega) (by omega) (by omega)
    rw [c2, c3]
    exact ⟨k, s', c1, rfl, rfl, c4⟩
end SUMS
