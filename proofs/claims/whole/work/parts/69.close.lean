/-! THE PURE LAYER: an act is passed; close -/
section ST
variable {F : Nat} {x : Nat → Int32} {τ τ' : cT} {n n' p q a i m : Nat} {c c' : cS} {s s' : rs_S} {v v' : Nat → Int32}
theorem RB.unv (h : RB τ n c 10 v) (hI : LI τ n) : RB τ n (cp c 27 4 (nI 0)) 10 (upd v 2661 (nI 0)) := by
  have hw : Nw c (cp c 27 4 (nI 0)) := Nw.refl.cp (by omega) (by omega) (by omega)
  have hn : N (upd v 2661 (nI 0) 2811) = N (v 2811) := by rw [upd_n (by decide)]
  have h20 := h.n2811.2
  refine h.laws ext_id (h.rg.put (ok_n (lo := 0) (hi := 1) rfl (by decide) (by decide) (by decide))) (h.pl.put (k := 2661) (o := 17) (j := 4) rfl) (fun k hk => upd_n (by omega)) (fun o ho => cp_1 _ (by omega)) (fun _ _ _ => rfl) (by rw [hn]; exact Nat.le_refl _) (fun _ _ => rfl) ?_ ?_
  · intro a ha
    rw [hn] at ha
    obtain ⟨q1, p, q2, q3, q4⟩ := h.txt a ha
    rw [cp_1 _ (by decide), upd_n (by omega)]
    exact ⟨q1, p, q2, q3, q4.same (fun _ _ => rfl) (hw.as hI p q3) (fun k k0 k1 => upd_n (by omega))⟩
  · obtain ⟨p, q2, q3, q4⟩ := h.prp
    exact ⟨p, q2, q3, fun e => by rw [upd_s] at e; exact absurd e (by decide)⟩
theorem RB.unp (h : RB τ n c 10 v) (hI : LI τ n) (h61 : ¬ v 2661 = nI 1) : RB τ n (cq c 27 5 (some 28)) 10 v := by
  have h20 := h.n2811.2
  refine h.laws ext_id h.rg h.pl (fun k hk => rfl) (fun o ho => rfl) (fun o _ _ => cq_1 _ (by omega)) (Nat.le_refl _) (fun _ _ => by rw [cq_1 _ (by decide)]) ?_ ?_
  · intro a ha
    obtain ⟨q1, p, q2, q3, q4⟩ := h.txt a ha
    exact ⟨q1, p, by rw [cq_1 _ (by decide)]; exact q2, q3, q4.same (fun _ _ => rfl) (fun _ _ => rfl) (fun k k0 k1 => rfl)⟩
  · refine ⟨28, by rw [cq_q, va_up_self], ?_, fun e => absurd e h61⟩
    exact (ap_acb (b := 10) (m := 0) (c := c) (v := v) (t := 0) hI.1.1 (fun i hi => absurd hi (by omega)))
theorem Rg.cpy {b : Nat} {y : Int32} (h : Rg v) : Rg (cpy v a b y) := by
  intro k
  by_cases q : k < 2812
  · rw [cpy_o (by omega)]; exact h k
  · exact rg_any (rg_hi (by omega))
theorem Pl.cpy {b : Nat} {y : Int32} (h : Pl c 10 v) : Pl c 10 (cpy v a b y) := by
  intro k o j hk
  have hk2 : k < 2812 := by
    by_cases q : k < 2812
    · exact q
    · rw [wk_le (by omega)] at hk; cases hk
  rw [cpy_o (by omega)]
  exact h k o j hk
theorem RB.passed {y : Int32} (h : RB τ n c 10 v) (hI : LI τ n) (hm : N (v 2811) = m) (hm2 : m < 20) (hp : acb τ n p = true) (ha : 20 ≤ a) (ha2 : a ≤ 21) (hR : RAct τ c p v a) : RB τ n (cp (cp (cq c 34 m (some p)) 35 m y) 27 3 (nI (m + 1))) 10 (upd (cpy v a m y) 2811 (nI (m + 1))) := by
  have hw : Nw c (cp (cp (cq c 34 m (some p)) 35 m y) 27 3 (nI (m + 1))) := ((Nw.refl.cq (by omega) (by omega)).cp (by omega) (by omega) (by omega)).cp (by omega) (by omega) (by omega)
  have hn : N (upd (cpy v a m y) 2811 (nI (m + 1)) 2811) = m + 1 := by rw [upd_s, N_nI (by omega)]
  have h34 : ∀ j, (cp (cp (cq c 34 m (some p)) 35 m y) 27 3 (nI (m + 1))).2 34 j = if j = m then some p else c.2 34 j := fun j => by
    show (cq c 34 m (some p)).2 34 j = _
    rw [cq_q]
    by_cases e : j = m
    · subst e; rw [va_up_self, if_pos rfl]
    · rw [va_up_ne _ _ e, if_neg e]
  have h35 : ∀ j, (cp (cp (cq c 34 m (some p)) 35 m y) 27 3 (nI (m + 1))).1 35 j = if j = m then y else c.1 35 j := fun j => by
    rw [cp_1 _ (by decide), cp_q]
    by_cases e : j = m
    · subst e; rw [upd_s, if_pos rfl]
    · rw [upd_n e, if_neg e]; rfl
  refine h.laws ext_id (h.rg.cpy.put (ok_n (lo := 0) (hi := 20) rfl (by omega) (by omega) (by omega))) ?_ (fun k hk => by rw [upd_n (by omega), cpy_o (by omega)]) (fun o ho => by rw [cp_1 _ (by omega), cp_1 _ (by omega)]; rfl) (fun o _ _ => by show (cq c 34 m (some p)).2 (10 + o) = _; exact cq_1 _ (by omega)) (by rw [hn]; omega) (fun a2 h2 => by rw [h34, if_neg (by omega)]) ?_ ?_
  · refine Pl.put (k := 2811) (o := 17) (j := 3) ?_ rfl
    refine Pl.cls ?_ (fun k o j hk e => ?_)
    · exact h.pl.cpy
    · have : ∀ q, q < 54 → ∀ r, r < 54 → (match wk (54 * q + r) with | some (o, _) => decide (o ≠ 25) | none => true) = true := by decide +kernel
      have hk2 : k < 2812 := by
        by_cases q : k < 2812
        · exact q
        · rw [wk_le (by omega)] at hk; cases hk
      have h2 := this (k / 54) (by omega) (k % 54) (by omega)
      rw [show 54 * (k / 54) + k % 54 = k by omega, hk] at h2
      have h3 : o ≠ 25 := of_decide_eq_true h2
      omega
  · intro b hb
    rw [hn] at hb
    rw [h34, h35, upd_n (by omega)]
    by_cases e : b = m
    · subst e
      rw [if_pos rfl, if_pos rfl, cpy_d]
      exact ⟨rfl, p, rfl, hp, hR.same (fun _ _ => rfl) (hw.as hI p hp) (fun k k0 k1 => by rw [upd_n (by omega), cpy_i k0 k1])⟩
    · rw [if_neg e, if_neg e, cpy_o (by omega)]
      obtain ⟨q1, p2, q2, q3, q4⟩ := h.txt b (by omega)
      exact ⟨q1, p2, q2, q3, q4.same (fun _ _ => rfl) (hw.as hI p2 q3) (fun k k0 k1 => by rw [upd_n (by omega), cpy_o (by omega)])⟩
  · obtain ⟨p2, q2, q3, q4⟩ := h.prp
    refine ⟨p2, ?_, q3, fun e => ?_⟩
    · show (cq c 34 m (some p)).2 27 5 = _
      rw [cq_1 _ (by decide)]; exact q2
    · rw [upd_n (by decide), cpy_o (by omega)] at e
      exact (q4 e).same (fun _ _ => rfl) (hw.as hI p2 q3) (fun k k0 k1 => by rw [upd_n (by omega), cpy_o (by omega)])
theorem st22 (hF : 30000 ≤ F) (hI : LI τ n) (h : Rel τ n c s) : stp Rel F 22 x τ n c s := by
  show (∃ v c' s', o_X11_close F τ n 0 c = some (.inl (v, c')) ∧ o_X12_close F s = some (v, s') ∧ s'.1 0 = nI 0 ∧ Rel τ n c' s') ∨ _
  have e2 : c.1 (0 + 27) 4 = s.2.1 2661 := h.b.pl 2661 17 4 rfl
  have r61 := h.b.rg.nat (k := 2661) (hi := 1) rfl
  unfold o_X11_close o_X12_close
  rw [e2, gW_pN, gW_n _ (by decide)]
  by_cases v0 : N (s.2.1 2661) = 0
  · rw [r61.1, v0, nS0, if_pos nI_0]
    simp only [Option.bind_some, Sum.elim_inr]
    exact Or.inr ⟨_, _, _, rfl, rfl, pN0 _ _, h.pn2 _ _⟩
  · have v1 : N (s.2.1 2661) = 1 := by omega
    have e61 : s.2.1 2661 = nI 1 := by rw [r61.1, v1]
    rw [e61, nS1, if_neg (show ¬ nI 1 = 0 by decide)]
    simp only [Option.bind_some, Sum.elim_inl]
    generalize hs0 : pW (pN s 0 (nI 0)) (nI 2661) (nI 0) = s0
    have s0v : s0.2.1 = upd s.2.1 2661 (nI 0) := by rw [← hs0, pW_21, nI_clamp (by decide)]; rfl
    have s01 : s0.1 = (pN s 0 (nI 0)).1 := by rw [← hs0]; rfl
    have s02 : s0.2.2 = s.2.2 := by rw [← hs0]; rfl
    generalize hc0 : cp c 27 4 (nI 0) = c0
    have hb : RB τ n c0 10 s0.2.1 := by rw [s0v, ← hc0]; exact h.b.unv hI
    have z0' : c0.1 28 0 = nI 0 := by rw [← hc0, cp_1 _ (by decide)]; exact h.z
    have nw0 : Nw c c0 := by rw [← hc0]; exact Nw.refl.cp (by omega) (by omega) (by omega)
    have n0 : ¬ s0.2.1 2661 = nI 1 := by rw [s0v, upd_s]; decide
    have m20 := hb.n2811
    obtain ⟨p, b1, b2, b3, b4⟩ := hb.lawNow (F := F) hI z0' (by omega)
    have td : o_X2_today τ n (0 + 10) c = some (s0.2.1 0 / nI 24) := by
      unfold o_X2_today
      rw [show c.1 (0 + 10) 0 = s.2.1 0 from h.b.pl 0 0 0 rfl, s0v, upd_n (by decide)]
    rw [td]
    simp only [Option.bind_some]
    unfold o_X3_endVote
    have od : o_X3_onDay F τ n 10 c0 (s0.2.1 0 / nI 24) = some p := by
      rw [b2]
      exact o_onDay (by omega) ((hb.pl 2811 17 3 rfl).trans m20.1) (fun i hi => (hb.txt i hi).1) (fun i hi => by
        obtain ⟨_, p, e2, e3, _⟩ := hb.txt i hi
        exact ⟨p, e2, e3⟩) m20.2
    rw [show (0 + 10 + 17 : Nat) = 27 from rfl, hc0, show (0 + 10 : Nat) = 10 from rfl, od]
    simp only [Option.bind_some]
    have lc := hb.lastC (F := F) (kd := 6) (w := nI 50) hI z0' (by omega) (by decide) (by decide)
    have lr := hb.lastS (F := F) (x := nI 6) (w := nI 50) (by omega)
    rw [← b2] at lc
    rw [if_pos b3, lc, lr]
    simp only [Option.bind_some]
    have c8 : c0.1 27 8 = s0.2.1 2663 := hb.pl 2663 17 8 rfl
    have c9 : c0.1 27 9 = s0.2.1 2664 := hb.pl 2664 17 9 rfl
    have c6 : c0.1 27 6 = s0.2.1 2662 := hb.pl 2662 17 6 rfl
    have c3 : c0.1 27 3 = nI (N (s0.2.1 2811)) := (hb.pl 2811 17 3 rfl).trans m20.1
    rw [c8, c9, c6, c3, gW_n _ (show 2663 < 2 ^ 31 by decide), gW_n _ (show 2664 < 2 ^ 31 by decide), show gW s0 (nI 2811) = nI (N (s0.2.1 2811)) by rw [gW_n _ (by decide)]; exact m20.1, gW_n _ (show 2662 < 2 ^ 31 by decide)]
    have nx : Rel τ n (cq c0 27 5 (some 28)) s0 := h.now hI (nw0.cq (by omega) (by omega)) (hb.unp hI n0) (fun j hj => by rw [s01, pN_n (by omega)]) (fun j hj => by rw [s02])
    have t0 : s0.1 0 = nI 0 := by rw [s01]; exact pN0 _ _
    by_cases q1 : lg_cmp ((s0.2.1 2663).toInt64 * 100) ((lo s0.2.1 (N (s0.2.1 2811)) (nI 6) (nI 50)).toInt64 * (s0.2.1 2664).toInt64) ≤ 0
    · rw [if_pos q1, if_pos q1]
      simp only [Option.bind_some]
      rw [if_pos (Or.inl rfl)]
      exact Or.inl ⟨_, _, _, rfl, rfl, t0, nx⟩
    · rw [if_neg q1, if_neg q1]
      by_cases q2 : N (s0.2.1 2811) = 20
      · rw [q2, if_pos (Int32.le_refl _), if_pos rfl]
        simp only [Option.bind_some]
        rw [if_pos (Or.inl rfl)]
        exact Or.inl ⟨_, _, _, rfl, rfl, t0, nx⟩
      · rw [if_neg (nI_no (by decide) (by omega) (by omega)), if_neg (nI_inj (by omega) (by decide) q2)]
        obtain ⟨pp, p1, p2, p3⟩ := h.b.prp
        have pR : RAct τ c0 pp s0.2.1 20 := (p3 e61).same (fun _ _ => rfl) (nw0.as hI pp p2) (fun k k0 k1 => by rw [s0v, upd_n (by omega)])
        have p1' : c0.2 27 5 = some pp := by rw [← hc0]; exact p1
        rw [p1']
        simp only [Option.bind_some]
        rw [if_pos p2]
        have td2 : o_X12_today s0 = some (s0.2.1 0 / nI 24) := by unfold o_X12_today; rw [gW_n _ (by decide)]
        rw [td2]
        simp only [Option.bind_some]
        generalize mxi (s0.2.1 2662) (s0.2.1 0 / nI 24) = y
        obtain ⟨s1, f1, f2, f3, f4⟩ := o_copies (F := F) (s := s0) (a := 20) (b := N (s0.2.1 2811)) (y := y) (by omega) (by decide) (by omega) (by omega)
        rw [f1]
        simp only [Option.bind_some]
        unfold o_X3_pass
        rw [show (10 + 17 : Nat) = 27 from rfl, c3, if_pos (iL_t (show N (s0.2.1 2811) < 20 by omega) (by decide)), nI_clamp (by omega), show (cq c0 (10 + 24) (N (s0.2.1 2811)) (some pp)).1 27 3 = nI (N (s0.2.1 2811)) from c3, if_pos (iL_t (show N (s0.2.1 2811) < 20 by omega) (by decide)), ca_n _ _ (by omega)]
        simp only [Option.bind_some]
        rw [cp_1 _ (by decide), show (cq c0 (10 + 24) (N (s0.2.1 2811)) (some pp)).1 27 3 = nI (N (s0.2.1 2811)) from c3, nI_add, if_pos (Or.inr rfl)]
        have g11 : gW s1 (nI 2811) = nI (N (s0.2.1 2811)) := by rw [gW_n _ (by decide), f4, cpy_o (by omega)]; exact m20.1
        rw [g11, nI_add]
        refine Or.inl ⟨_, _, _, rfl, rfl, by show s1.1 0 = nI 0; rw [f2]; exact t0, ?_⟩
        have rb := hb.passed (y := y) hI rfl (show N (s0.2.1 2811) < 20 by omega) p2 (by decide) (by decide) pR
        have rb2 := rb.unp hI (by rw [upd_n (by decide), cpy_o (by omega)]; exact n0)
        refine h.now hI ((((nw0.cq (by omega) (by omega)).cp (by omega) (by omega) (by omega)).cp (by omega) (by omega) (by omega)).cq (by omega) (by omega)) ?_ (fun j hj => ?_) (fun j hj => ?_)
        · rw [pW_21, nI_clamp (by decide), f4]
          exact rb2
        · show s1.1 j = s.1 j
          rw [f2, s01, pN_n (by omega)]
        · show s1.2.2 j = s.2.2 j
          rw [f3, s02]
end ST
