/-! THE PURE LAYER: the last number of a kind; votes; judge, back, pays, vote -/
section ST
variable {F : Nat} {x : Nat → Int32} {τ : cT} {n p q a i : Nat} {c c' : cS} {s s' : rs_S} {v : Nat → Int32}
theorem noL_tl (hI : LI τ n) : tl τ (28 + 1) = 0 ∧ tl τ (28 + 2) = 0 := by
  have h1 := hI.1.1.2 19 (by decide)
  have h2 := hI.1.1.2 20 (by decide)
  unfold tl
  rw [show (28 + 1 : Nat) = 0 + 10 + 19 from rfl, show (28 + 2 : Nat) = 0 + 10 + 20 from rfl, h1, h2]
  exact ⟨rfl, rfl⟩
/-- the last number of a kind in today's act, R says how the two write it -/
theorem RB.lastR {R : Int32 → Int32 → Prop} {kd : Nat} {w : Int32} (h : RB τ n c 10 v) (hI : LI τ n) (hz : c.1 28 0 = nI 0) (hF : 21 ≤ F) (hw : R w w) (hR : ∀ a p i, a < N (v 2811) → RAct τ c p v a → i < N (v (2812 + 882 * a + 1)) → c.1 (p + 1) i = nI kd → R (c.1 (p + 2) i) (v (2812 + 882 * a + 2 + 4 * i + 1))) : ∃ y, o_X0_lastNumber F τ n (ap c 10 (ao v (v 0 / nI 24) (N (v 2811)))) c (nI kd) w = some y ∧ R y (lo v (N (v 2811)) (nI kd) w) := by
  unfold lo
  cases e : ao v (v 0 / nI 24) (N (v 2811)) with
  | none =>
    have t := noL_tl hI
    refine ⟨w, ?_, hw⟩
    have := o_lastNumber (F := F) (τ := τ) (n := n) (p := 28) (L := 0) (c := c) (x := nI kd) (w := w) hF (by decide) hz t.1 t.2
    exact this
  | some a =>
    have ha := ao_lt e
    obtain ⟨_, p, q1, q2, q3⟩ := h.txt a ha
    have ep : ap c 10 (some a) = p := by show (c.2 (10 + 24) a).getD 0 = p; rw [q1]; rfl
    rw [ep]
    refine ⟨_, o_lastNumber hF q3.ln (q3.lc.trans q3.l0) q3.t1 q3.t2, ?_⟩
    refine lnb_rel hw _ (fun i hi => ⟨(q3.kd i hi).1, fun hk => hR a p i ha q3 hi hk⟩)
theorem RB.lastS {x w : Int32} (h : RB τ n c 10 s.2.1) (hF : 21 ≤ F) : o_X12_lastOf F s x w = some (lo s.2.1 (N (s.2.1 2811)) x w) := o_lastOf hF h.n2811.1 h.n2811.2 (fun a ha => by
  obtain ⟨_, p, q1, q2, q3⟩ := h.txt a ha
  exact ⟨_, q3.ln, q3.l0⟩)
theorem RB.lastC {kd : Nat} {w : Int32} (h : RB τ n c 10 v) (hI : LI τ n) (hz : c.1 28 0 = nI 0) (hF : 21 ≤ F) (hk : kd < 8) (hk4 : kd ≠ 4) : o_X0_lastNumber F τ n (ap c 10 (ao v (v 0 / nI 24) (N (v 2811)))) c (nI kd) w = some (lo v (N (v 2811)) (nI kd) w) := by
  obtain ⟨y, e1, e2⟩ := h.lastR (R := fun a b => a = b) (kd := kd) (w := w) hI hz hF rfl (fun a p i ha q hi e => (q.nm i hi (by rw [e]; exact nI_inj (by omega) (by decide) hk4)).1)
  rw [e1, e2]
/-- the clearance -/
theorem RB.clr (h : RB τ n c 10 v) (hI : LI τ n) (hz : c.1 28 0 = nI 0) : ∃ C, C ≤ 50 ∧ lo v (N (v 2811)) (nI 5) (nI 5) = nI C := by
  obtain ⟨y, _, e1, e2⟩ := h.lastR (F := 21) (R := fun a b => a = b ∧ ∃ C, C ≤ 50 ∧ a = nI C) (kd := 5) (w := nI 5) hI hz (by decide) ⟨rfl, 5, by decide, rfl⟩ (fun a p i ha q hi e => by
    obtain ⟨m1, m, m2, m3⟩ := q.nm i hi (by rw [e]; decide)
    have := q.n5 i hi e
    rw [m3, N_nI (by omega)] at this
    exact ⟨m1, m, this, m3⟩)
  obtain ⟨C, hC, eC⟩ := e2
  exact ⟨C, hC, by rw [← e1]; exact eC⟩
/-- who is first in turn -/
theorem RB.trn (h : RB τ n c 10 v) (hI : LI τ n) (hz : c.1 28 0 = nI 0) (hF : 21 ≤ F) : ∃ k d, k < 4 ∧ d < 2 ∧ o_X0_lastNumber F τ n (ap c 10 (ao v (v 0 / nI 24) (N (v 2811)))) c (nI 4) (nI 0) = some (nI (k + 4 * d)) ∧ lo v (N (v 2811)) (nI 4) (nI 0) = nI (2 * k + d) := by
  obtain ⟨y, e0, k, d, hk, hd, e1, e2⟩ := h.lastR (F := F) (R := fun a b => ∃ k d, k < 4 ∧ d < 2 ∧ a = nI (k + 4 * d) ∧ b = nI (2 * k + d)) (kd := 4) (w := nI 0) hI hz hF ⟨0, 0, by decide, by decide, rfl, rfl⟩ (fun a p i ha q hi e => q.n4 i hi e)
  exact ⟨k, d, hk, hd, by rw [e0, e1], e2⟩
/-- a row is filled -/
theorem fill_loop {y : Int32} {m : Nat} (hm : m < 2 ^ 31) : ∀ (r i f : Nat) (c' : cS), i + r = m → r < f → (∀ a, a ≠ q → c'.1 a = c.1 a) → c'.2 = c.2 → (∀ j, j < i → c'.1 q j = y) → ∃ c'', o_J7_fill_53178_5 F τ n q m y (nI m) f (nI i) c' = some c'' ∧ (∀ a, a ≠ q → c''.1 a = c.1 a) ∧ c''.2 = c.2 ∧ ∀ j, j < m → c''.1 q j = y := by
  intro r
  induction r with
  | zero =>
    intro i f c' hi hf h1 h2 h3
    obtain ⟨f, rfl⟩ : ∃ x, f = x + 1 := ⟨f - 1, by omega⟩
    rw [o_J7_fill_53178_5, if_pos (nI_yes (by omega) (by omega) (by omega))]
    exact ⟨c', rfl, h1, h2, fun j h => h3 j (by omega)⟩
  | succ r ih =>
    intro i f c' hi hf h1 h2 h3
    obtain ⟨f, rfl⟩ : ∃ x, f = x + 1 := ⟨f - 1, by omega⟩
    rw [o_J7_fill_53178_5, if_neg (nI_no (by omega) (by omega) (by omega)), if_pos (iL_t (show i < m by omega) hm), nI_add, ca_n _ _ (by omega)]
    refine ih (i + 1) f _ (by omega) (by omega) (fun a ha => by rw [cp_1 _ ha]; exact h1 a ha) h2 (fun j hj => ?_)
    rw [cp_q]
    by_cases e : j = i
    · subst e; rw [upd_s]
    · rw [upd_n e]; exact h3 j (by omega)
theorem o_filR {y : Int32} {m : Nat} (hm : m < F) (hm2 : m < 2 ^ 31) : ∃ c', o_J7_fill_53178 F τ n q m c y = some c' ∧ (∀ a, a ≠ q → c'.1 a = c.1 a) ∧ c'.2 = c.2 ∧ ∀ j, j < m → c'.1 q j = y := by
  obtain ⟨c', a1, a2⟩ := fill_loop (F := F) (τ := τ) (n := n) (q := q) (c := c) (y := y) hm2 m 0 F c (by omega) hm (fun _ _ => rfl) rfl (fun j hj => absurd hj (by omega))
  refine ⟨c', ?_, a2⟩
  unfold o_J7_fill_53178
  rw [show nI 0 = nI 0 from rfl, a1]
  rfl
/-- the votes of a payer -/
theorem o_votes {k : Nat} (hF : 401 < F) (h : RB τ n c 10 s.2.1) (hI : LI τ n) (hz : c.1 28 0 = nI 0) (hk : k < N (s.2.1 1090)) : ∃ m c' s', m ≤ 19999980 ∧ o_X2_votesOf F τ n 10 c (nI k) = some (nI m, c') ∧ o_X12_votesOf F s (nI k) = some (nI m, s') ∧ Cf c c' ∧ Sc s s' := by
  have hm := h.n1090.2
  obtain ⟨c1, a1, a2, a3, a4⟩ := o_filR (F := F) (τ := τ) (n := n) (q := 177) (m := 12) (c := c) (y := nI 0) (by omega) (by decide)
  have e0 : c.1 132 k = s.2.1 (1091 + 4 * k + 0) := h.pl _ _ _ (wk_p (j := 0) (show k < 30 by omega) (by decide))
  have e1 : c.1 133 k = s.2.1 (1091 + 4 * k + 1) := h.pl _ _ _ (wk_p (j := 1) (show k < 30 by omega) (by decide))
  generalize hc2 : cp (cp c1 177 10 (s.2.1 (1091 + 4 * k + 0))) 177 11 (s.2.1 (1091 + 4 * k + 1)) = c2
  have f2 : Cf c c2 := by rw [← hc2]; exact (Cf.trans ⟨a2, a3⟩ (Cf.one _ _ _)).trans (Cf.one _ _ _)
  generalize hs2 : pR (pR (pR (pR (pR (pN (pN s 18 (-1)) 19 (nI 0)) 7 (nI 0) (nI 0)) 7 (nI 1) (nI 0)) 7 (nI 2) (nI 0)) 7 (nI 3) (s.2.1 (1091 + 4 * k + 0))) 7 (nI 4) (s.2.1 (1091 + 4 * k + 1)) = s2
  have g2 : Sc s s2 := by rw [← hs2]; exact ((((((Sc.n18 _ _).trans (Sc.n19 _ _)).trans (Sc.r7 _ _ _)).trans (Sc.r7 _ _ _)).trans (Sc.r7 _ _ _)).trans (Sc.r7 _ _ _)).trans (Sc.r7 _ _ _)
  have rf : RF c2 177 s2 := by
    refine ⟨fun j hj => ?_, ⟨0, by decide, ?_, ?_⟩, fun j hj => ?_⟩
    · have : s2.1 18 = -1 := by rw [← hs2]; rfl
      rw [this, if_neg (fun e => nI_nm1 (show j < 2 ^ 31 by omega) e.symm), ← hc2, cp_q, cp_q, upd_n (by omega), upd_n (by omega)]
      exact a4 j (by omega)
    · rw [← hc2, cp_q, cp_q, upd_n (by omega), upd_n (by omega)]; exact a4 6 (by omega)
    · rw [← hs2]; rfl
    · rw [← hc2, ← hs2, cp_q, cp_q]
      match j, hj with
      | 0, _ => rw [upd_n (by omega), upd_n (by omega), a4 _ (by omega)]; rfl
      | 1, _ => rw [upd_n (by omega), upd_n (by omega), a4 _ (by omega)]; rfl
      | 2, _ => rw [upd_n (by omega), upd_n (by omega), a4 _ (by omega)]; rfl
      | 3, _ => rfl
      | 4, _ => rfl
      | j + 5, h => exact absurd h (by omega)
  have h2 : RB τ n c2 10 s2.2.1 := by rw [g2.1]; exact h.cf hI f2
  obtain ⟨p, b1, b2, b3, b4⟩ := h2.lawNow (F := F) hI (by rw [f2.1 _ (by decide)]; exact hz) (by omega)
  obtain ⟨m, s3, d1, d2, d3, d4⟩ := b4.sum (n := n) (kd := 3) hF rf (by decide) (by decide)
  have t := R_today (F := F) (by omega) h2
  refine ⟨m, c2, s3, d1, ?_, ?_, f2, g2.trans d4.sc⟩
  · unfold o_X2_votesOf
    rw [show (10 + 167 : Nat) = 177 from rfl, a1]
    simp only [Option.bind_some]
    rw [if_pos (iL_t (show k < 30 by omega) (by decide)), ca_n _ _ (by decide), ca_n _ _ (by decide), cg_n _ _ (by omega), cg_n _ _ (by omega), cp_1 _ (by decide), a2 _ (by decide), a2 _ (by decide), show (10 + 122 : Nat) = 132 from rfl, show (10 + 123 : Nat) = 133 from rfl, e0, e1, hc2, b1]
    simp only [Option.bind_some]
    rw [if_pos b3, d2]
    rfl
  · unfold o_X12_votesOf o_X12_looksAtPayer
    rw [o_pat]
    simp only [Option.bind_some]
    rw [if_pos (iL_t (show 1091 + 4 * k + 0 < 22216 by omega) (by decide)), o_pat]
    simp only [Option.bind_some]
    rw [if_pos (iL_t (show 1091 + 4 * k + 1 < 22216 by omega) (by decide))]
    simp only [Option.bind_some]
    rw [gW_n _ (by omega), gW_n _ (by omega)]
    have e : pR (pR (pR (pR (pR (pN (pN s 18 (-1)) 19 (nI 0)) 7 (nI 0) (nI 0)) 7 (nI 1) (nI 0)) 7 (nI 2) (nI 0)) 7 (nI 3) ((pR (pR (pR (pN (pN s 18 (-1)) 19 (nI 0)) 7 (nI 0) (nI 0)) 7 (nI 1) (nI 0)) 7 (nI 2) (nI 0)).2.1 (1091 + 4 * k + 0))) 7 (nI 4) ((pR (pR (pR (pR (pN (pN s 18 (-1)) 19 (nI 0)) 7 (nI 0) (nI 0)) 7 (nI 1) (nI 0)) 7 (nI 2) (nI 0)) 7 (nI 3) ((pR (pR (pR (pN (pN s 18 (-1)) 19 (nI 0)) 7 (nI 0) (nI 0)) 7 (nI 1) (nI 0)) 7 (nI 2) (nI 0)).2.1 (1091 + 4 * k + 0))).2.1 (1091 + 4 * k + 1)) = s2 := hs2
    rw [e, t.1]
    simp only [Option.bind_some]
    rw [t.2]
    simp only [Option.bind_some]
    rw [d3]
    simp only [Option.bind_some]
    rw [lN_i]
theorem pN_sc {s1 : rs_S} (h : Sc (pN s 0 (nI 0)) s1) : s1.1 0 = nI 0 := by rw [h.2.1 0 (by decide) (by decide)]; exact pN0 _ _
theorem st23 (hF : 30000 ≤ F) (hI : LI τ n) (h : Rel τ n c s) : stp Rel F 23 x τ n c s := by
  show (∃ v c' s', o_X11_judge F τ n 0 c (x 1) (x 2) = some (.inl (v, c')) ∧ o_X12_judge F s (x 1) (x 2) = some (v, s') ∧ s'.1 0 = nI 0 ∧ Rel τ n c' s') ∨ _
  have n1 := h.b.n1211
  have e1 : c.1 (0 + 37) 3 = nI (N (s.2.1 1211)) := (h.b.pl 1211 27 3 rfl).trans n1.1
  have hb0 : RB τ n c 10 (pN s 0 (nI 0)).2.1 := h.b
  have h0 := h.pn (nI 0)
  unfold o_X11_judge o_X12_judge o_X12_noShip
  rw [e1, show gW (pN s 0 (nI 0)) (nI 1211) = nI (N (s.2.1 1211)) by rw [gW_pN, gW_n _ (by decide)]; exact n1.1]
  rcases ix (x 1) (N (s.2.1 1211)) (by omega) with ⟨k, hk, ek, w1, r1⟩ | ⟨w1, r1⟩
  · rw [ek] at w1 r1 ⊢
    simp only [w1, r1, Option.bind_some, Sum.elim_inl, z0, z1, if_true, if_false, tI0]
    rw [if_pos (iL_t (show k < 80 by omega) (by decide)), nI_clamp (by omega), show 0 + 49 + 1 + k = 50 + k by omega, show (0 + 10 : Nat) = 10 from rfl]
    obtain ⟨p, b1, b2, b3, b4⟩ := hb0.lawNow (F := F) hI h.z (by omega)
    have t := R_today (F := F) (by omega) hb0
    obtain ⟨c1, s1, a1, a2, a3, a4, a5⟩ := o_ask (F := F) (y := nI 0) (by omega) hb0 hk
    have hp := act_pl hI b3
    have hb1 : RB τ n c1 10 (pN s 0 (nI 0)).2.1 := hb0.cf hI a3
    obtain ⟨d, c2, s2, d1, d2, d3, d4, d5, d6⟩ := o_due (F := F) (y := nI 0) (by omega) hb1 hk (b4.cf hp a3) hp
    have hl2 : RLaw τ c1 p s2.2.1 (eC (ao (pN s 0 (nI 0)).2.1 ((pN s 0 (nI 0)).2.1 0 / nI 24) (N ((pN s 0 (nI 0)).2.1 2811)))) := by rw [d5.1]; exact b4.cf hp a3
    rw [b1, t.1]
    simp only [Option.bind_some]
    rw [if_pos b3, a1, t.2]
    simp only [Option.bind_some]
    rw [d2, d3]
    simp only [Option.bind_some]
    have rf1 : RF c1 177 s2 := by
      have f1 : RF c1 177 s1 := a5
      have k1 := d6
      obtain ⟨c3, s3, g1, g2, g3, g4, g5⟩ := o_ask (F := F) (y := nI 0) (by omega) hb1 hk
      have : c3 = c2 := by
        unfold o_X2_dueBy at d2
        rw [g1] at d2
        simp only [Option.bind_some] at d2
        obtain ⟨u1, _, d2⟩ := Option.bind_eq_some_iff.mp d2
        obtain ⟨u2, _, d2⟩ := Option.bind_eq_some_iff.mp d2
        obtain ⟨u3, _, d2⟩ := Option.bind_eq_some_iff.mp d2
        injection d2 with d2
        exact congrArg Prod.snd d2
      obtain ⟨t0, ht0, h6⟩ := hb0.rg.fo (show k < 80 by omega)
      have e := fun f g hfg => hb0.shp k hk f g hfg
      obtain ⟨c5, j1, _, j3, j4, j5, j6, j7, j8, j9⟩ := o_askC (F := F) (τ := τ) (n := n) (c := c) (y := nI 0) (by omega) (show k < 80 by omega) ht0 (show c.1 (50 + k) 3 = nI t0 by rw [show 50 + k = 10 + 40 + k by omega, e 3 6 rfl]; exact h6)
      obtain ⟨c6, l1, _, l3, l4, l5, l6, l7, l8, l9⟩ := o_askC (F := F) (τ := τ) (n := n) (c := c1) (y := nI 0) (by omega) (show k < 80 by omega) ht0 (show c1.1 (50 + k) 3 = nI t0 by rw [a3.1 _ (by omega), show 50 + k = 10 + 40 + k by omega, e 3 6 rfl]; exact h6)
      have i5 : c5 = c1 := Option.some.inj (j1.symm.trans a1)
      have i6 : c6 = c2 := (Option.some.inj (l1.symm.trans g1)).trans this
      subst i5
      subst i6
      have ce : ∀ j, j < 12 → c5.1 177 j = c6.1 177 j := fun j hj => by
        match j, hj with
        | 0, _ => rw [j3 _ (by omega), l3 _ (by omega), a3.1 _ (by omega)]
        | 1, _ => rw [j3 _ (by omega), l3 _ (by omega), a3.1 _ (by omega)]
        | 2, _ => rw [j3 _ (by omega), l3 _ (by omega), a3.1 _ (by omega)]
        | 3, _ => rw [j3 _ (by omega), l3 _ (by omega), a3.1 _ (by omega)]
        | 4, _ => rw [j3 _ (by omega), l3 _ (by omega), a3.1 _ (by omega)]
        | 5, _ => rw [j3 _ (by omega), l3 _ (by omega), a3.1 _ (by omega)]
        | 6, _ => rw [j4, l4]
        | 7, _ => rw [j5, l5, a3.1 _ (by omega)]
        | 8, _ => rw [j6, l6, a3.1 _ (by omega)]
        | 9, _ => rw [j7, l7]
        | 10, _ => rw [j8, l8]
        | 11, _ => rw [j9, l9]
        | j + 12, h => exact absurd h (by omega)
      refine ⟨fun j hj => by rw [ce j (by omega)]; exact k1.1 j hj, ?_, fun j hj => by rw [ce _ (by omega)]; exact k1.2.2 j hj⟩
      rw [ce 6 (by omega)]
      exact k1.2.1
    by_cases q0 : x 2 = nI 0
    · rw [if_pos q0, if_pos q0]
      exact Or.inl ⟨_, _, _, rfl, rfl, pN_sc d5, h0.sc hI (a3.trans d4) d5⟩
    · rw [if_neg q0, if_neg q0]
      by_cases q1 : x 2 = nI 1
      · rw [if_pos q1, if_pos q1]
        obtain ⟨y, s3, f1, f2, f3⟩ := hl2.first (F := F) (n := n) (kd := 0) (by omega) rf1
        rw [show (0 + 177 : Nat) = 177 from rfl, f1, f2]
        exact Or.inl ⟨_, _, _, rfl, rfl, pN_sc (d5.trans f3.sc), h0.sc hI a3 (d5.trans f3.sc)⟩
      · rw [if_neg q1, if_neg q1]
        by_cases q2 : x 2 = nI 2
        · rw [if_pos q2, if_pos q2]
          obtain ⟨y, s3, f1, f2, f3⟩ := hl2.first (F := F) (n := n) (kd := 1) (by omega) rf1
          rw [show (0 + 177 : Nat) = 177 from rfl, f1, f2]
          exact Or.inl ⟨_, _, _, rfl, rfl, pN_sc (d5.trans f3.sc), h0.sc hI a3 (d5.trans f3.sc)⟩
        · rw [if_neg q2, if_neg q2]
          by_cases q3 : x 2 = nI 3
          · rw [if_pos q3, if_pos q3]
            obtain ⟨y, s3, _, f1, f2, f3⟩ := hl2.back (F := F) (n := n) (by omega) rf1
            rw [show (0 + 177 : Nat) = 177 from rfl, f1, f2]
            exact Or.inl ⟨_, _, _, rfl, rfl, pN_sc (d5.trans f3.sc), h0.sc hI a3 (d5.trans f3.sc)⟩
          · rw [if_neg q3, if_neg q3]
            exact Or.inr (Or.inr ⟨_, _, _, rfl, rfl, pN0 _ _, ((h0.sc hI a3 d5).pn _).up⟩)
  · simp only [w1, r1, Option.bind_some, z0, z1, if_true, if_false, tI1, Sum.elim_inr]
    exact Or.inr (Or.inl ⟨_, _, _, rfl, rfl, pN0 _ _, h.pn2 _ _⟩)
end ST
