/-! THE PURE LAYER: river, feed, end, payer, sound, berth keep the relation -/
theorem river_rel {F : Nat} {τ : cT} {n : Nat} {x y : Int32} {m : Nat} (hm : m < 24) (hI : LI τ n) (hx : 0 ≤ x.toInt ∧ x.toInt ≤ 200) (hy : 0 ≤ y.toInt ∧ y.toInt ≤ 200) : ∀ (r f f' i : Nat) (c : cS) (s : rs_S), i + r = m + 1 → r < f → r < f' → Rel τ n c s →
    ∃ c' s', o_X11_river_65 F τ n 0 (nI m) x y f (nI i) c = some c' ∧ o_X12_river_97 F (nI m) x y f' (nI i) s = some s' ∧ Rel τ n c' s' ∧ s'.1 0 = s.1 0 := by
  intro r
  induction r with
  | zero =>
    intro f f' i c s hi hf hf' hR
    obtain ⟨f, rfl⟩ : ∃ g, f = g + 1 := ⟨f - 1, by omega⟩
    obtain ⟨f', rfl⟩ : ∃ g, f' = g + 1 := ⟨f' - 1, by omega⟩
    refine ⟨c, s, ?_, ?_, hR, rfl⟩
    · rw [o_X11_river_65, if_pos (nI_lt (show m < i by omega) (by omega))]
    · rw [o_X12_river_97, if_pos (nI_lt (show m < i by omega) (by omega))]
  | succ r ih =>
    intro f f' i c s hi hf hf' hR
    obtain ⟨f, rfl⟩ : ∃ g, f = g + 1 := ⟨f - 1, by omega⟩
    obtain ⟨f', rfl⟩ : ∃ g, f' = g + 1 := ⟨f' - 1, by omega⟩
    have e1 : wk (1 + i) = some (2, i) := by unfold wk; rw [if_neg (by omega), if_pos (by omega), show 1 + i - 1 = i by omega]
    have e2 : wk (25 + i) = some (3, i) := by unfold wk; rw [if_neg (by omega), if_neg (by omega), if_pos (by omega), show 25 + i - 25 = i by omega]
    have g1 : rg (1 + i) = (0, 200) := by unfold rg; rw [if_neg (by omega), if_pos (by omega)]
    have g2 : rg (25 + i) = (0, 200) := by unfold rg; rw [if_neg (by omega), if_pos (by omega)]
    have r1 := hR.fre (y := x) hI e1 (by unfold crp; omega) (by omega) (by omega) (by omega) (ok_lo g1 hx.1 hx.2)
    have r2 := r1.fre (y := y) hI e2 (by unfold crp; omega) (by omega) (by omega) (by omega) (ok_lo g2 hy.1 hy.2)
    obtain ⟨c', s', h1, h2, h3, h4⟩ := ih f f' (i + 1) _ _ (by omega) (by omega) (by omega) r2
    refine ⟨c', s', ?_, ?_, h3, h4⟩
    · rw [o_X11_river_65, if_neg (nI_nlt (show i ≤ m by omega) (by omega)), if_pos (iL_t (show i < 24 by omega) (by decide)), nI_add, ca_n _ _ (by omega), ca_n _ _ (by omega)]
      exact h1
    · rw [o_X12_river_97, if_neg (nI_nlt (show i ≤ m by omega) (by omega)), nI_add, nI_add, nI_add, if_pos (iL_t (show 1 + i < 22216 by omega) (by decide)), if_pos (iL_t (show 25 + i < 22216 by omega) (by decide))]
      exact h2
theorem e_river2 {F : Nat} (hF : 26 ≤ F) {τ : cT} {n h : Nat} {c : cS} {s : rs_S} {a1 a2 a3 a4 : Int32} (hI : LI τ n) (hR : Rel τ n c s) (hP : Pl c 10 s.2.1) (hh : s.2.1 0 = nI h) (hh2 : h ≤ 30000) :
    (∃ c' s', o_X11_river F τ n 0 c a1 a2 a3 a4 = some (.inl c') ∧ o_X12_river F s a1 a2 a3 a4 = some s' ∧ Rel τ n c' s' ∧ s'.1 0 = nI 0) ∨
    (∃ e, e < 3 ∧ o_X11_river F τ n 0 c a1 a2 a3 a4 = some (.inr (e, c)) ∧ o_X12_river F s a1 a2 a3 a4 = some (pN (pN s 0 (nI 0)) 0 (nI (e + 1)))) := by
  have e0 : c.1 (0 + 10) 0 = nI h := (hP 0 0 0 rfl).trans hh
  have eh : o_X12_hour (pN s 0 (nI 0)) = some (nI h) := by unfold o_X12_hour; rw [gW_pN, gW_n _ (by decide), hh]
  unfold o_X11_river o_X12_river
  rcases cx a1 with ⟨k, hk, rfl, w1, r1⟩ | ⟨w1, r1⟩
  · rcases cx a2 with ⟨m, hm, rfl, w2, r2⟩ | ⟨w2, r2⟩
    · by_cases hkm : m < k
      · right
        refine ⟨1, by decide, ?_, ?_⟩
        · simp only [w1, w2, Option.bind_some, Sum.elim_inl, if_pos (nI_lt hkm (by omega)), nA0, Sum.elim_inr]
        · simp only [r1, r2, Option.bind_some, z0, if_true, if_pos (nI_lt hkm (by omega))]
      · have hkm' : ¬ nI m < nI k := nI_nlt (by omega) (by omega)
        rcases rng a3 (nI 0) (nI 200) with ⟨w3, r3, p5, p6⟩ | ⟨w3, r3⟩
        · rcases rng a4 (nI 0) (nI 200) with ⟨w4, r4, p7, p8⟩ | ⟨w4, r4⟩
          · obtain ⟨x, hx, rfl⟩ := i_in p5 p6 (by decide)
            obtain ⟨y, hy, rfl⟩ := i_in p7 p8 (by decide)
            by_cases hz : h = 0
            · left
              obtain ⟨c', s', l1, l2, l3, l4⟩ := river_rel (F := F) (τ := τ) (n := n) (x := nI x) (y := nI y) hm hI (by rw [nI_toInt (by omega)]; omega) (by rw [nI_toInt (by omega)]; omega) (m + 1 - k) F F k c (pN s 0 (nI 0)) (by omega) (by omega) (by omega) (hR.pn _)
              refine ⟨c', s', ?_, ?_, l3, l4.trans (pN0 _ _)⟩
              · simp only [w1, w2, w3, w4, Option.bind_some, Sum.elim_inl, if_neg hkm', z1, if_false, nA1, e0, hz, z0, if_true, nS1, l1]
              · simp only [r1, r2, r3, r4, Option.bind_some, z0, z1, if_true, if_false, if_neg hkm', eh, hz, if_pos (show nI 0 ≤ 0 by decide), l2]
            · right
              have hz1 : ¬ nI h = 0 := nI_ne0 (by omega) (by omega)
              have hz2 : ¬ nI h ≤ 0 := nI_nle (by omega) (by omega)
              refine ⟨2, by decide, ?_, ?_⟩
              · simp only [w1, w2, w3, w4, Option.bind_some, Sum.elim_inl, if_neg hkm', z1, if_false, nA1, e0, if_neg hz1, nS0, Sum.elim_inr]
              · simp only [r1, r2, r3, r4, Option.bind_some, z0, z1, if_true, if_false, if_neg hkm', eh, if_neg hz2]
          · right
            refine ⟨1, by decide, ?_, ?_⟩
            · simp only [w1, w2, w3, w4, Option.bind_some, Sum.elim_inl, if_neg hkm', z0, z1, if_true, if_false, nA0, Sum.elim_inr]
            · simp only [r1, r2, r3, r4, Option.bind_some, z0, z1, if_true, if_false, if_neg hkm']
        · right
          refine ⟨1, by decide, ?_, ?_⟩
          · simp only [w1, w2, w3, Option.bind_some, Sum.elim_inl, if_neg hkm', z0, if_true, nA0, Sum.elim_inr]
          · simp only [r1, r2, r3, Option.bind_some, z0, if_true, if_neg hkm']
    · right
      refine ⟨0, by decide, ?_, ?_⟩
      · simp only [w1, w2, Option.bind_some, Sum.elim_inl, Sum.elim_inr]
      · simp only [r1, r2, Option.bind_some, z0, z1, if_true, if_false]
  · right
    refine ⟨0, by decide, ?_, ?_⟩
    · simp only [w1, Option.bind_some, Sum.elim_inr]
    · simp only [r1, Option.bind_some, z1, if_false]

section ST
variable {F : Nat} {x : Nat → Int32} {τ : cT} {n : Nat} {c : cS} {s : rs_S}
theorem st2 (hF : 30000 ≤ F) (hI : LI τ n) (h : Rel τ n c s) : stp Rel F 2 x τ n c s := by
  rcases e_river2 (F := F) (by omega) (a1 := x 1) (a2 := x 2) (a3 := x 3) (a4 := x 4) hI h h.b.pl h.b.n0.1 h.b.n0.2 with ⟨c', s', a, b, q1, q2⟩ | ⟨e, he, a, b⟩
  · exact Or.inl ⟨c', s', a, b, q2, q1⟩
  · match e, he, a, b with
    | 0, _, a, b => exact Or.inr (Or.inl ⟨_, _, a, b, pN0 _ _, h.pn2 _ _⟩)
    | 1, _, a, b => exact Or.inr (Or.inr (Or.inl ⟨_, _, a, b, pN0 _ _, h.pn2 _ _⟩))
    | 2, _, a, b => exact Or.inr (Or.inr (Or.inr ⟨_, _, a, b, pN0 _ _, h.pn2 _ _⟩))
    | e + 3, he, _, _ => exact absurd he (by omega)
/-- a step on the tape and the Reader -/
theorem Rel.tape {c' : cS} {s' : rs_S} (h : Rel τ n c s) (hI : LI τ n) (hc : ∀ q, 10 ≤ q → c'.1 q = c.1 q) (hc2 : c'.2 = c.2) (hs : ∀ k, k < 21334 → s'.2.1 k = s.2.1 k) (hs1 : s'.2.2 1 = s.2.2 1) (hs3 : s'.1 3 = s.1 3) (ht : RT c' s') : Rel τ n c' s' := by
  have ha : As τ n c c' := fun p hp j hj => by
    rcases act_pl hI hp with e | e
    · subst e; exact hc _ (by omega)
    · exact hc _ (by omega)
  have hg : Rg s'.2.1 := fun k => by
    by_cases q : k < 2812
    · rw [hs k (by omega)]; exact h.b.rg k
    · exact rg_any (rg_hi (by omega))
  refine Rel.mk (h.b.frame ext_id ⟨fun o ho j hj _ _ => by rw [hc _ (by omega)], fun i hi => by rw [hc2], fun a ha => by rw [hc2], by rw [hc2]⟩ ha (fun k hk => Or.inr (hs k hk)) hg) (by rw [hc 28 (by decide)]; exact h.z) ht ?_
  rcases h.i with ⟨q1, q2⟩ | ⟨y, q0, q1, q2, q3, q4⟩
  · exact Or.inl ⟨by rw [hc2]; exact q1, by rw [hs3]; exact q2⟩
  · refine Or.inr ⟨y, q0, by rw [hc2]; exact q1, q2, by rw [hs3]; exact q3, ?_⟩
    rw [hs1]
    exact q4.frame ext_id ⟨fun o ho j hj _ _ => by rw [hc _ (by omega)], fun i hi => by rw [hc2], fun a ha => by rw [hc2], by rw [hc2]⟩ ha (fun k hk => Or.inr rfl) q4.rg
theorem st0 (hF : 30000 ≤ F) (hI : LI τ n) (h : Rel τ n c s) : stp Rel F 0 x τ n c s := by
  obtain ⟨⟨t, t1, t2, t3⟩, t4, t5⟩ := h.t
  rcases e_feed (F := F) (τ := τ) (n := n) (a1 := x 1) (a2 := x 2) (a3 := x 3) (a4 := x 4) (a5 := x 5) (by omega) t2 t3 t1 with ⟨hq, a, s', b, k1, k2, k3, k4⟩ | ⟨a, b⟩
  · refine ⟨_, _, _, a, b, ?_⟩
    refine h.tape hI (fun q hq => cset_o _ _ _ (by omega) (by omega)) rfl (fun k _ => by rw [k2]) (k4 1 (by decide) (by decide)) ?_ ⟨⟨t + 20, hq, cset_01 _ _ _, ?_⟩, fun i hi => ?_, ?_⟩
    · rw [k1, va_up_ne _ _ (by decide), pN_n (by decide)]
    · rw [k1, va_up_self]
    · rw [cset_1, k3]
      unfold tp
      by_cases e : t ≤ i ∧ i < t + 20
      · rw [if_pos e, if_pos e]
      · rw [if_neg e, if_neg e]; exact t4 i hi
    · rw [cset_o _ _ _ (by decide) (by decide), k1, va_up_ne _ _ (by decide), pN_n (by decide)]; exact t5
  · exact ⟨_, _, _, a, b, h.pn _⟩
theorem st1 (hI : LI τ n) (h : Rel τ n c s) : stp Rel F 1 x τ n c s := by
  obtain ⟨⟨t, t1, t2, t3⟩, t4, t5⟩ := h.t
  rcases e_end (τ := τ) (n := n) (c := c) (s := s) (a1 := x 1) (t2.trans t3.symm) with ⟨a, b, p1, p2⟩ | ⟨a, b⟩
  · refine ⟨_, _, _, a, b, ?_⟩
    obtain ⟨k, hk, e⟩ := nI_of p1
    rw [e, t3] at p2
    have hk2 : k ≤ t := (nI_leI hk (by omega)).mp p2
    refine h.tape hI (fun q hq => cp_1 _ (by omega)) rfl (fun k _ => rfl) rfl ?_ ⟨⟨k, by omega, ?_, ?_⟩, fun i hi => ?_, ?_⟩
    · rw [pN_n (by decide), pN_n (by decide)]
    · rw [cp_q, upd_s, e]
    · show va_up (pN s 0 (nI 0)).1 8 (x 1) 8 = nI k; rw [va_up_self, e]
    · rw [cp_1 _ (by decide)]; exact t4 i hi
    · rw [cp_1 _ (by decide), pN_n (by decide), pN_n (by decide)]; exact t5
  · exact ⟨_, _, _, a, b, h.pn _⟩
end ST
