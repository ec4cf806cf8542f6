/-! THE PURE LAYER: pays, vote, close -/
section ST
variable {F : Nat} {x : Nat → Int32} {τ τ' : cT} {n n' p q a i : Nat} {c c' : cS} {s s' : rs_S} {v v' : Nat → Int32}
theorem wk_p3 {i : Nat} (hi : i < 30) : wk (1091 + 4 * i + 3) = some (26, i) := by
  have h : ∀ i, i < 30 → wk (1091 + 4 * i + 3) = some (26, i) := by decide +kernel
  exact h i hi
theorem st25 (hF : 30000 ≤ F) (hI : LI τ n) (h : Rel τ n c s) : stp Rel F 25 x τ n c s := by
  show (∃ v c' s', o_X11_pays F τ n 0 c (x 1) (x 2) = some (.inl (v, c')) ∧ o_X12_pays F s (x 1) (x 2) = some (v, s') ∧ s'.1 0 = nI 0 ∧ Rel τ n c' s') ∨ _
  have n1 := h.b.n1090
  have e1 : c.1 (0 + 131) 6 = nI (N (s.2.1 1090)) := (h.b.pl 1090 121 6 rfl).trans n1.1
  have hb0 : RB τ n c 10 (pN s 0 (nI 0)).2.1 := h.b
  have h0 := h.pn (nI 0)
  unfold o_X11_pays o_X12_pays o_X12_noPayer
  rw [e1, show gW (pN s 0 (nI 0)) (nI 1090) = nI (N (s.2.1 1090)) by rw [gW_pN, gW_n _ (by decide)]; exact n1.1]
  rcases ix (x 1) (N (s.2.1 1090)) (by omega) with ⟨k, hk, ek, w1, r1⟩ | ⟨w1, r1⟩
  · rw [ek] at w1 r1 ⊢
    have k30 : k < 30 := by omega
    simp only [w1, r1, Option.bind_some, Sum.elim_inl, z0, z1, if_true, if_false, tI0, o_pat]
    simp only [if_pos (iL_t k30 (by decide)), if_pos (iL_t (show 1091 + 4 * k + 0 < 22216 by omega) (by decide)), if_pos (iL_t (show 1091 + 4 * k + 1 < 22216 by omega) (by decide)), if_pos (iL_t (show 1091 + 4 * k + 2 < 22216 by omega) (by decide)), gW_pN, gW_n _ (show 1091 + 4 * k + 0 < 2 ^ 31 by omega), gW_n _ (show 1091 + 4 * k + 1 < 2 ^ 31 by omega), gW_n _ (show 1091 + 4 * k + 2 < 2 ^ 31 by omega), cg_n _ _ (show k < 2 ^ 31 by omega)]
    have p0 : c.1 (0 + 132) k = s.2.1 (1091 + 4 * k + 0) := h.b.pl _ _ _ (wk_p (j := 0) k30 (by decide))
    have p1 : c.1 (0 + 133) k = s.2.1 (1091 + 4 * k + 1) := h.b.pl _ _ _ (wk_p (j := 1) k30 (by decide))
    have p2 : c.1 (0 + 134) k = s.2.1 (1091 + 4 * k + 2) := h.b.pl _ _ _ (wk_p (j := 2) k30 (by decide))
    rw [p0, p1, p2]
    by_cases q0 : x 2 = nI 0
    · rw [if_pos q0, if_pos q0]
      exact Or.inl ⟨_, _, _, rfl, rfl, pN0 _ _, h0⟩
    · rw [if_neg q0, if_neg q0]
      by_cases q1 : x 2 = nI 1
      · rw [if_pos q1, if_pos q1]
        exact Or.inl ⟨_, _, _, rfl, rfl, pN0 _ _, h0⟩
      · rw [if_neg q1, if_neg q1]
        by_cases q2 : x 2 = nI 2
        · rw [if_pos q2, if_pos q2]
          obtain ⟨m, c1, s1, a1, a2, a3, a4, a5⟩ := o_votes (F := F) (by omega) hb0 hI h.z hk
          rw [show (0 + 10 : Nat) = 10 from rfl, a2, a3]
          exact Or.inl ⟨_, _, _, rfl, rfl, pN_sc a5, h0.sc hI a4 a5⟩
        · rw [if_neg q2, if_neg q2]
          by_cases q3 : x 2 = nI 3
          · rw [if_pos q3, if_pos q3]
            obtain ⟨z, a1, a2⟩ := cnt_loop (F := F) (k := k) hb0 rfl hb0.n1211.2 _ 0 F F (nI 0) (Nat.zero_add _) (by have := hb0.n1211.2; omega) (by have := hb0.n1211.2; omega)
            unfold o_X5_countShipsOf
            rw [show (0 + 10 : Nat) = 10 from rfl, a1, a2]
            exact Or.inl ⟨_, _, _, rfl, rfl, pN0 _ _, h0⟩
          · rw [if_neg q3, if_neg q3]
            by_cases q4 : x 2 = nI 4
            · rw [if_pos q4, if_pos q4]
              exact Or.inl ⟨_, _, _, rfl, rfl, pN0 _ _, h0⟩
            · rw [if_neg q4, if_neg q4]
              exact Or.inr (Or.inr ⟨_, _, _, rfl, rfl, pN0 _ _, (h0.pn _).up⟩)
  · simp only [w1, r1, Option.bind_some, z0, z1, if_true, if_false, tI1, Sum.elim_inr]
    exact Or.inr (Or.inl ⟨_, _, _, rfl, rfl, pN0 _ _, h.pn2 _ _⟩)
theorem upd_id {f : Nat → Int32} {k : Nat} {y : Int32} (h : f k = y) : upd f k y = f := by
  funext j
  by_cases e : j = k
  · subst e; rw [upd_s, h]
  · rw [upd_n e]
theorem bz_b (y : Int32) : zb (bz y) := by
  obtain ⟨k, hk, e⟩ := bz_z y
  rw [e]
  match k, hk with
  | 0, _ => exact Or.inl rfl
  | 1, _ => exact Or.inr rfl
  | k + 2, h => exact absurd h (by omega)
theorem st21 (hF : 30000 ≤ F) (hI : LI τ n) (h : Rel τ n c s) : stp Rel F 21 x τ n c s := by
  show (∃ v c' s', o_X11_vote F τ n 0 c (x 1) (bz (x 2)) = some (.inl (v, c')) ∧ o_X12_vote F s (x 1) (bz (x 2)) = some (v, s') ∧ s'.1 0 = nI 0 ∧ Rel τ n c' s') ∨ _
  have n1 := h.b.n1090
  have e1 : c.1 (0 + 131) 6 = nI (N (s.2.1 1090)) := (h.b.pl 1090 121 6 rfl).trans n1.1
  have e2 : c.1 (0 + 27) 4 = s.2.1 2661 := h.b.pl 2661 17 4 rfl
  have r61 := h.b.rg.nat (k := 2661) (hi := 1) rfl
  have hb0 : RB τ n c 10 (pN s 0 (nI 0)).2.1 := h.b
  have h0 := h.pn (nI 0)
  have t0 : (pN s 0 (nI 0)).1 0 = 0 := pN0 _ _
  unfold o_X11_vote o_X12_vote o_X12_noPayer
  rw [e1, e2, show gW (pN s 0 (nI 0)) (nI 1090) = nI (N (s.2.1 1090)) by rw [gW_pN, gW_n _ (by decide)]; exact n1.1]
  rcases ix (x 1) (N (s.2.1 1090)) (by omega) with ⟨k, hk, ek, w1, r1⟩ | ⟨w1, r1⟩
  · rw [ek] at w1 r1 ⊢
    have k30 : k < 30 := by omega
    simp only [w1, r1, Option.bind_some, Sum.elim_inl, z0, z1, if_true, if_false, tI0, o_pat]
    rw [gW_pN, gW_n _ (show 2661 < 2 ^ 31 by decide)]
    by_cases v0 : N (s.2.1 2661) = 0
    · rw [r61.1, v0, nS0, if_pos nI_0, if_neg (show ¬ (pN (pN s 0 (nI 0)) 0 (nI 2)).1 0 = 0 by rw [pN0]; decide)]
      simp only [Option.bind_some, Sum.elim_inr]
      exact Or.inr (Or.inr ⟨_, _, _, rfl, rfl, pN0 _ _, h.pn2 _ _⟩)
    · have v1 : N (s.2.1 2661) = 1 := by omega
      rw [r61.1, v1, nS1, if_neg (show ¬ nI 1 = 0 by decide), if_pos (iL_t (show 1091 + 4 * k + 3 < 22216 by omega) (by decide)), gW_pN, gW_n _ (by omega)]
      simp only [Option.bind_some, Sum.elim_inl]
      obtain ⟨m, c1, s1, a1, a2, a3, a4, a5⟩ := o_votes (F := F) (by omega) hb0 hI h.z hk
      have s1e : s1.2.1 = s.2.1 := a5.1
      rw [show (0 + 10 : Nat) = 10 from rfl, a2, a3]
      simp only [Option.bind_some]
      unfold o_X3_say
      rw [if_pos (iL_t k30 (by decide)), cg_n _ _ (by omega), a4.1 _ (by decide)]
      have e3 : c.1 (10 + 26) k = s.2.1 (1091 + 4 * k + 3) := h.b.pl _ _ _ (wk_p3 k30)
      have r3 := h.b.rg.nat (k := 1091 + 4 * k + 3) (hi := 1) (by rw [rg_p k30 (by decide)]; rfl)
      rw [e3]
      by_cases s0 : N (s.2.1 (1091 + 4 * k + 3)) = 0
      · rw [r3.1, s0, if_pos nI_0, if_neg (show ¬ nI 0 = nI 1 by decide)]
        rw [ca_n _ _ (by omega), show vp_nar .boolean (nI 1) = nI 1 by decide, cp_1 _ (by decide), if_pos (iL_t (show 1091 + 4 * k + 3 < 22216 by omega) (by decide))]
        simp only [Option.bind_some]
        have c9 : c1.1 (10 + 17) 9 = s.2.1 2664 := by rw [a4.1 _ (by decide)]; exact h.b.pl 2664 17 9 rfl
        have c8 : (cp (cp c1 (10 + 26) k (nI 1)) (10 + 17) 9 (s.2.1 2664 + nI m)).1 (10 + 17) 8 = s.2.1 2663 := by rw [cp_q, upd_n (by decide), cp_1 _ (by decide), a4.1 _ (by decide)]; exact h.b.pl 2663 17 8 rfl
        rw [c9, c8]
        have g1 : gW (pW s1 (nI (1091 + 4 * k + 3)) (nI 1)) (nI 2664) = s.2.1 2664 := by rw [gW_pWn _ (by omega) (by decide) (by omega), gW_n _ (by decide), s1e]
        have g2 : ∀ y, gW (pW (pW s1 (nI (1091 + 4 * k + 3)) (nI 1)) (nI 2664) y) (nI 2663) = s.2.1 2663 := fun y => by rw [gW_pWn _ (by decide) (by decide) (by decide), gW_pWn _ (by omega) (by decide) (by omega), gW_n _ (by decide), s1e]
        rw [g1, g2]
        have x0 : RX τ n c1 10 s.2.1 := h.b.x.cf hI a4
        have x1 := x0.pput (k := 1091 + 4 * k + 3) (y := nI 1) hI (wk_p3 k30) (by omega) (by omega) (by omega) (by omega) (by omega) (ok_n (lo := 0) (hi := 1) (by rw [rg_p k30 (by decide)]; rfl) (by decide) (by decide) (by decide))
        have x2 := x1.pput (k := 2664) (o := 17) (j := 9) (y := s.2.1 2664 + nI m) hI rfl (by decide) (by decide) (by decide) (by decide) (by decide) (rg_any rfl)
        have nw : Nw c (cp (cp c1 (10 + 26) k (nI 1)) (10 + 17) 9 (s.2.1 2664 + nI m)) := (a4.nw.cp (by omega) (by omega) (by omega)).cp (by omega) (by omega) (by omega)
        have fin : ∀ (c2 : cS) (s2 : rs_S), Nw c c2 → s2.1 = s1.1 → s2.2.2 = s1.2.2 → RX τ n c2 10 s2.2.1 → (∀ j, crp s.2.1 j → s2.2.1 j = s.2.1 j) → Rel τ n c2 s2 := fun c2 s2 u1 u2 u3 u4 u5 =>
          h.now hI u1 (u4.rb (h.b.cr.same h.b.rg u5)) (fun j hj => by rw [u2, a5.2.1 j (by omega) (by omega), pN_n (by omega)]) (fun j hj => by rw [u3, a5.2.2 j (by omega) (by omega)]; rfl)
        have ew : (pW (pW s1 (nI (1091 + 4 * k + 3)) (nI 1)) (nI 2664) (s.2.1 2664 + nI m)).2.1 = upd (upd s.2.1 (1091 + 4 * k + 3) (nI 1)) 2664 (s.2.1 2664 + nI m) := by rw [pW_21, pW_21, nI_clamp (by omega), nI_clamp (by decide), s1e]
        by_cases qb : bz (x 2) = 0
        · rw [if_pos qb, if_pos qb]
          refine Or.inl ⟨_, _, _, rfl, rfl, by show s1.1 0 = nI 0; exact pN_sc a5, fin _ _ nw rfl rfl ?_ ?_⟩
          · rw [pW_21, nI_clamp (by decide), ew, show s.2.1 2663 + nI 0 = s.2.1 2663 from Int32.add_zero _, upd_id (by rw [upd_n (by decide), upd_n (by omega)])]
            exact x2
          · intro j hj
            rw [pW_21, nI_clamp (by decide), ew, upd_n (by unfold crp at hj; omega), upd_n (by unfold crp at hj; omega), upd_n (by unfold crp at hj; omega)]
        · rw [if_neg qb, if_neg qb]
          have x3 := x2.pput (k := 2663) (o := 17) (j := 8) (y := s.2.1 2663 + nI m) hI rfl (by decide) (by decide) (by decide) (by decide) (by decide) (rg_any rfl)
          refine Or.inl ⟨_, _, _, rfl, rfl, by show s1.1 0 = nI 0; exact pN_sc a5, fin _ _ (nw.cp (by omega) (by omega) (by omega)) rfl rfl ?_ ?_⟩
          · rw [pW_21, nI_clamp (by decide), ew]
            exact x3
          · intro j hj
            rw [pW_21, nI_clamp (by decide), ew, upd_n (by unfold crp at hj; omega), upd_n (by unfold crp at hj; omega), upd_n (by unfold crp at hj; omega)]
      · have s1' : N (s.2.1 (1091 + 4 * k + 3)) = 1 := by omega
        rw [r3.1, s1', if_neg (show ¬ nI 1 = 0 by decide), if_pos rfl, if_pos t0]
        simp only [Option.bind_some]
        exact Or.inl ⟨_, _, _, rfl, rfl, pN0 _ _, h0.sc hI a4 (Sc.refl _)⟩
  · simp only [w1, r1, Option.bind_some, z0, z1, if_true, if_false, tI1, Sum.elim_inr]
    rw [if_neg (show ¬ (pN (pN s 0 (nI 0)) 0 (nI 1)).1 0 = 0 by rw [pN0]; decide)]
    exact Or.inr (Or.inl ⟨_, _, _, rfl, rfl, pN0 _ _, h.pn2 _ _⟩)
/-- acts and the vote change -/
theorem RB.laws (h : RB τ n c 10 v) (he : ext τ n τ' n') (hg : Rg v') (hp : Pl c' 10 v') (hv : ∀ k, k < 2652 ∨ k = 2655 ∨ k = 2660 ∨ (2666 ≤ k ∧ k < 2786) → v' k = v k) (hc : ∀ o, o < 17 ∨ (27 ≤ o ∧ o < 121) → c'.1 (10 + o) = c.1 (10 + o)) (hc2 : ∀ o, 40 ≤ o → o < 120 → c'.2 (10 + o) = c.2 (10 + o)) (hn : N (v 2811) ≤ N (v' 2811)) (hl : ∀ a, a < N (v 2811) → c'.2 34 a = c.2 34 a) (ht : ∀ a, a < N (v' 2811) → c'.1 35 a = v' (2812 + 882 * a) ∧ ∃ p, c'.2 34 a = some p ∧ acb τ' n' p = true ∧ RAct τ' c' p v' a) (hpr : ∃ p, c'.2 27 5 = some p ∧ acb τ' n' p = true ∧ (v' 2661 = nI 1 → RAct τ' c' p v' 20)) : RB τ' n' c' 10 v' := by
  have hm := h.n1211.2
  refine RB.mk hg (h.cr.same h.rg (fun k hk => hv k (by unfold crp at hk; omega))) hp (h.ber_s (fun k _ _ => hv k (by omega)) (fun o _ _ j _ => by rw [hc o (by omega)])) (h.shp_s (fun k _ _ => hv k (by omega)) (fun o _ _ => hc o (by omega))) (h.bak_s (fun k _ _ => hv k (by omega)) (fun o _ _ => hc o (by omega))) ?_ ht hpr (h.snd_s (hv _ (by omega)) (fun k _ _ => hv k (by omega)) (hc 16 (by omega))) (h.bus_s (hv _ (by omega)) (fun k _ _ => hv k (by omega)) (hc 120 (by omega)))
  intro i hi
  rw [hv 1211 (by omega)] at hi
  rw [hv _ (by omega), show 10 + 40 + i = 10 + (40 + i) by omega, hc2 (40 + i) (by omega) (by omega), ← Nat.add_assoc]
  rcases h.law i hi with q | ⟨a, q1, q2, q3⟩
  · exact Or.inl q
  · exact Or.inr ⟨a, by omega, q2, by rw [q3]; exact (hl a q1).symm⟩
/-- the text of a slot is copied to another -/
def cpy (v : Nat → Int32) (a b : Nat) (y : Int32) : Nat → Int32 := fun k => if k = 2812 + 882 * b then y else if 2812 + 882 * b < k ∧ k < 2812 + 882 * b + 882 then v (2812 + 882 * a + (k - (2812 + 882 * b))) else v k
theorem cp_loop {a b : Nat} {l : Int32} (ha : a ≤ 21) (hb : b ≤ 21) (hab : a ≠ b) (v : Nat → Int32) : ∀ (r i f : Nat) (s : rs_S), i + r = 882 → r < f → (∀ k, s.2.1 k = if 2812 + 882 * b ≤ k ∧ k < 2812 + 882 * b + i then v (2812 + 882 * a + (k - (2812 + 882 * b))) else v k) → ∃ s', o_X12_copies_3 F (nI a) (nI b) l f (nI i) s = some s' ∧ s'.1 = s.1 ∧ s'.2.2 = s.2.2 ∧ ∀ k, s'.2.1 k = if 2812 + 882 * b ≤ k ∧ k < 2812 + 882 * b + 882 then v (2812 + 882 * a + (k - (2812 + 882 * b))) else v k := by
  intro r
  induction r with
  | zero =>
    intro i f s hi hf hs
    obtain ⟨f, rfl⟩ : ∃ x, f = x + 1 := ⟨f - 1, by omega⟩
    rw [o_X12_copies_3, if_pos (nI_yes (by decide) (by omega) (by omega))]
    refine ⟨s, rfl, rfl, rfl, fun k => ?_⟩
    rw [hs k, show i = 882 by omega]
  | succ r ih =>
    intro i f s hi hf hs
    obtain ⟨f, rfl⟩ : ∃ x, f = x + 1 := ⟨f - 1, by omega⟩
    rw [o_X12_copies_3, if_neg (nI_no (by decide) (by omega) (by omega)), o_actAt, o_actAt]
    simp only [Option.bind_some, nI_add]
    rw [if_pos (iL_t (show 2812 + 882 * a + i < 22216 by omega) (by decide)), if_pos (iL_t (show 2812 + 882 * b + i < 22216 by omega) (by decide)), gW_n _ (by omega)]
    obtain ⟨s', a1, a2, a3, a4⟩ := ih (i + 1) f (pW s (nI (2812 + 882 * b + i)) (s.2.1 (2812 + 882 * a + i))) (by omega) (by omega) (fun k => by
      rw [pW_21, nI_clamp (by omega)]
      by_cases e : k = 2812 + 882 * b + i
      · subst e
        rw [upd_s, if_pos (by omega), hs, if_neg (by omega), show 2812 + 882 * b + i - (2812 + 882 * b) = i by omega]
      · rw [upd_n e, hs k]
        by_cases e2 : 2812 + 882 * b ≤ k ∧ k < 2812 + 882 * b + i
        · rw [if_pos e2, if_pos (by omega)]
        · rw [if_neg e2, if_neg (by omega)])
    exact ⟨s', a1, a2, a3, a4⟩
theorem o_copies {a b : Nat} {y : Int32} (hF : 883 < F) (ha : a ≤ 21) (hb : b ≤ 21) (hab : a ≠ b) : ∃ s', o_X12_copies F s (nI a) (nI b) y = some s' ∧ s'.1 = s.1 ∧ s'.2.2 = s.2.2 ∧ s'.2.1 = cpy s.2.1 a b y := by
  obtain ⟨s1, a1, a2, a3, a4⟩ := cp_loop (F := F) (l := y) ha hb hab s.2.1 882 0 F s rfl (by omega) (fun k => by rw [if_neg (by omega)])
  unfold o_X12_copies
  rw [a1]
  simp only [Option.bind_some]
  rw [o_actAt]
  simp only [Option.bind_some]
  rw [if_pos (iL_t (show 2812 + 882 * b < 22216 by omega) (by decide))]
  refine ⟨_, rfl, a2, a3, ?_⟩
  rw [pW_21, nI_clamp (by omega)]
  funext k
  unfold cpy
  by_cases e : k = 2812 + 882 * b
  · subst e; rw [upd_s, if_pos rfl]
  · rw [upd_n e, a4 k, if_neg e]
    by_cases e2 : 2812 + 882 * b ≤ k ∧ k < 2812 + 882 * b + 882
    · rw [if_pos e2, if_pos (by omega)]
    · rw [if_neg e2, if_neg (by omega)]
theorem cpy_o {a b k : Nat} {y : Int32} (h : k < 2812 + 882 * b ∨ 2812 + 882 * b + 882 ≤ k) : cpy v a b y k = v k := by
  unfold cpy; rw [if_neg (by omega), if_neg (by omega)]
theorem cpy_d {a b : Nat} {y : Int32} : cpy v a b y (2812 + 882 * b) = y := by unfold cpy; rw [if_pos rfl]
theorem cpy_i {a b k : Nat} {y : Int32} (h0 : 0 < k) (h1 : k < 882) : cpy v a b y (2812 + 882 * b + k) = v (2812 + 882 * a + k) := by
  unfold cpy; rw [if_neg (by omega), if_pos (by omega), show 2812 + 882 * b + k - (2812 + 882 * b) = k by omega]
end ST
