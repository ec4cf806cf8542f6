/-! THE PURE LAYER: an hour begins -/
section HR0
variable {F : Nat} {τ : cT} {n k i m : Nat} {c c' : cS} {s : rs_S} {v v' : Nat → Int32}
/-- what today's act wants -/
def RQ (τ : cT) (n : Nat) (c : cS) (v : Nat → Int32) : Prop :=
  (c.1 10 0 = v 0) ∧
  (c.1 27 3 = v 2811) ∧
  (v 2811 = nI (N (v 2811)) ∧ N (v 2811) ≤ 20) ∧
  (∀ a, a < N (v 2811) → c.1 35 a = v (2812 + 882 * a) ∧ ∃ p, c.2 34 a = some p ∧ acb τ n p = true ∧ RAct τ c p v a)
theorem RQ.mk {τ : cT} {n : Nat} {c : cS} {v : Nat → Int32} (h0 : c.1 10 0 = v 0) (h1 : c.1 27 3 = v 2811) (h2 : v 2811 = nI (N (v 2811)) ∧ N (v 2811) ≤ 20) (h3 : ∀ a, a < N (v 2811) → c.1 35 a = v (2812 + 882 * a) ∧ ∃ p, c.2 34 a = some p ∧ acb τ n p = true ∧ RAct τ c p v a) : RQ τ n c v := by
  unfold RQ
  exact ⟨h0, h1, h2, h3⟩
theorem RQ.p0 {τ : cT} {n : Nat} {c : cS} {v : Nat → Int32} (h : RQ τ n c v) : c.1 10 0 = v 0 := (show _ from by unfold RQ at h; exact h.1)
theorem RQ.p11 {τ : cT} {n : Nat} {c : cS} {v : Nat → Int32} (h : RQ τ n c v) : c.1 27 3 = v 2811 := (show _ from by unfold RQ at h; exact h.2.1)
theorem RQ.n2811 {τ : cT} {n : Nat} {c : cS} {v : Nat → Int32} (h : RQ τ n c v) : v 2811 = nI (N (v 2811)) ∧ N (v 2811) ≤ 20 := (show _ from by unfold RQ at h; exact h.2.2.1)
theorem RQ.txt {τ : cT} {n : Nat} {c : cS} {v : Nat → Int32} (h : RQ τ n c v) : ∀ a, a < N (v 2811) → c.1 35 a = v (2812 + 882 * a) ∧ ∃ p, c.2 34 a = some p ∧ acb τ n p = true ∧ RAct τ c p v a := (show _ from by unfold RQ at h; exact h.2.2.2)
theorem RX.q (h : RX τ n c 10 v) : RQ τ n c v := RQ.mk (h.pl 0 0 0 rfl) (h.pl 2811 17 3 rfl) h.n2811 h.txt
/-- today's act -/
theorem RQ.lawNow {v : Nat → Int32} (h : RQ τ n c v) (hI : LI τ n) (hz : c.1 28 0 = nI 0) (hF : 21 ≤ F) : ∃ p, o_X2_actOfToday F τ n 10 c = some p ∧ p = ap c 10 (ao v (v 0 / nI 24) (N (v 2811))) ∧ acb τ n p = true ∧ RLaw τ c p v (eC (ao v (v 0 / nI 24) (N (v 2811)))) := by
  have hn := h.n2811
  have hp : ∀ i, i < N (v 2811) → ∃ p, c.2 (10 + 24) i = some p ∧ acb τ n p = true := fun i hi => by
    obtain ⟨_, p, e2, e3, _⟩ := h.txt i hi
    exact ⟨p, e2, e3⟩
  refine ⟨_, o_actOfToday hF hI.1.1 h.p0 (h.p11.trans hn.1) (fun i hi => (h.txt i hi).1) hp hn.2, rfl, ap_acb hI.1.1 hp, ?_⟩
  cases e : ao v (v 0 / nI 24) (N (v 2811)) with
  | none => exact Or.inl ⟨rfl, hz⟩
  | some j =>
    have hj := ao_lt e
    obtain ⟨_, p, q1, q2, q3⟩ := h.txt j hj
    refine Or.inr ⟨j, by omega, rfl, ?_⟩
    show RAct τ c ((c.2 (10 + 24) j).getD 0) v j
    rw [q1]
    exact q3
/-- the last number of a kind in today's act, R says how the two write it -/
theorem RQ.lastR {R : Int32 → Int32 → Prop} {kd : Nat} {w : Int32} (h : RQ τ n c v) (hI : LI τ n) (hz : c.1 28 0 = nI 0) (hF : 21 ≤ F) (hw : R w w) (hR : ∀ a p i, a < N (v 2811) → RAct τ c p v a → i < N (v (2812 + 882 * a + 1)) → c.1 (p + 1) i = nI kd → R (c.1 (p + 2) i) (v (2812 + 882 * a + 2 + 4 * i + 1))) : ∃ y, o_X0_lastNumber F τ n (ap c 10 (ao v (v 0 / nI 24) (N (v 2811)))) c (nI kd) w = some y ∧ R y (lo v (N (v 2811)) (nI kd) w) := by
  unfold lo
  cases e : ao v (v 0 / nI 24) (N (v 2811)) with
  | none =>
    have t := noL_tl hI
    refine ⟨w, ?_, hw⟩
    have := o_lastNumber (F := F) (τ := τ) (n := n) (p := 28) (L := 0) (c := c) (x := nI kd) (w := w) hF (by decide) hz t.1 t.2
    exact this
  | some a =>
    have ha := ao_lt e
    obtain ⟨_, p, q1, q2, q3⟩ := h.txt a ha
    have ep : ap c 10 (some a) = p := by show (c.2 (10 + 24) a).getD 0 = p; rw [q1]; rfl
    rw [ep]
    refine ⟨_, o_lastNumber hF q3.ln (q3.lc.trans q3.l0) q3.t1 q3.t2, ?_⟩
    refine lnb_rel hw _ (fun i hi => ⟨(q3.kd i hi).1, fun hk => hR a p i ha q3 hi hk⟩)
theorem RQ.lastC {kd : Nat} {w : Int32} (h : RQ τ n c v) (hI : LI τ n) (hz : c.1 28 0 = nI 0) (hF : 21 ≤ F) (hk : kd < 8) (hk4 : kd ≠ 4) : o_X0_lastNumber F τ n (ap c 10 (ao v (v 0 / nI 24) (N (v 2811)))) c (nI kd) w = some (lo v (N (v 2811)) (nI kd) w) := by
  obtain ⟨y, e1, e2⟩ := h.lastR (R := fun a b => a = b) (kd := kd) (w := w) hI hz hF rfl (fun a p i ha q hi e => (q.nm i hi (by rw [e]; exact nI_inj (by omega) (by decide) hk4)).1)
  rw [e1, e2]
/-- the clearance -/
theorem RQ.clr (h : RQ τ n c v) (hI : LI τ n) (hz : c.1 28 0 = nI 0) : ∃ C, C ≤ 50 ∧ lo v (N (v 2811)) (nI 5) (nI 5) = nI C := by
  obtain ⟨y, _, e1, e2⟩ := h.lastR (F := 21) (R := fun a b => a = b ∧ ∃ C, C ≤ 50 ∧ a = nI C) (kd := 5) (w := nI 5) hI hz (by decide) ⟨rfl, 5, by decide, rfl⟩ (fun a p i ha q hi e => by
    obtain ⟨m1, m, m2, m3⟩ := q.nm i hi (by rw [e]; decide)
    have := q.n5 i hi e
    rw [m3, N_nI (by omega)] at this
    exact ⟨m1, m, this, m3⟩)
  obtain ⟨C, hC, eC⟩ := e2
  exact ⟨C, hC, by rw [← e1]; exact eC⟩
/-- who is first in turn -/
theorem RQ.trn (h : RQ τ n c v) (hI : LI τ n) (hz : c.1 28 0 = nI 0) (hF : 21 ≤ F) : ∃ k d, k < 4 ∧ d < 2 ∧ o_X0_lastNumber F τ n (ap c 10 (ao v (v 0 / nI 24) (N (v 2811)))) c (nI 4) (nI 0) = some (nI (k + 4 * d)) ∧ lo v (N (v 2811)) (nI 4) (nI 0) = nI (2 * k + d) := by
  obtain ⟨y, e0, k, d, hk, hd, e1, e2⟩ := h.lastR (F := F) (R := fun a b => ∃ k d, k < 4 ∧ d < 2 ∧ a = nI (k + 4 * d) ∧ b = nI (2 * k + d)) (kd := 4) (w := nI 0) hI hz hF ⟨0, 0, by decide, by decide, rfl, rfl⟩ (fun a p i ha q hi e => q.n4 i hi e)
  exact ⟨k, d, hk, hd, by rw [e0, e1], e2⟩
/-- today's act in another row -/
theorem lo_same {m : Nat} {x w : Int32} (h0 : v' 0 = v 0) (hv : ∀ k, 2812 ≤ k → v' k = v k) : lo v' m x w = lo v m x w := by
  unfold lo
  rw [h0, ao_same (v := v) (v' := v') m (fun i => hv _ (by omega))]
  cases ao v (v 0 / nI 24) m with
  | none => rfl
  | some a =>
    have e1 : (fun k => v' (2812 + 882 * a + 2 + 4 * k)) = fun k => v (2812 + 882 * a + 2 + 4 * k) := funext fun k => hv _ (by omega)
    have e2 : (fun k => v' (2812 + 882 * a + 2 + 4 * k + 1)) = fun k => v (2812 + 882 * a + 2 + 4 * k + 1) := funext fun k => hv _ (by omega)
    show lnb (fun k => v' (2812 + 882 * a + 2 + 4 * k)) (fun k => v' (2812 + 882 * a + 2 + 4 * k + 1)) x w (v' (2812 + 882 * a + 1)).toNatClampNeg = lnb (fun k => v (2812 + 882 * a + 2 + 4 * k)) (fun k => v (2812 + 882 * a + 2 + 4 * k + 1)) x w (v (2812 + 882 * a + 1)).toNatClampNeg
    rw [e1, e2, hv _ (by omega)]
/-- the pilots of the class an hour later -/
def csh4 (c : cS) : cS := cp (cp (cp (cp c 130 0 (c.1 130 1)) 130 1 (c.1 130 2)) 130 2 (c.1 130 3)) 130 3 (nI 0)
theorem o_nextP (hF : 5 ≤ F) : o_X5_nextHourOfPilots F τ n 10 c = some (csh4 c) := by
  obtain ⟨f, rfl⟩ : ∃ f, F = f + 4 := ⟨F - 4, by omega⟩
  have go : ∀ (f k : Nat) (c' : cS), 1 ≤ k → k < 4 → o_X5_nextHourOfPilots_2 (f + 4) τ n 10 (f + 1) (nI k) c' = o_X5_nextHourOfPilots_2 (f + 4) τ n 10 f (nI (k + 1)) (cp c' 130 (k - 1) (c'.1 130 k)) := fun f k c' h1 h4 => by
    rw [o_X5_nextHourOfPilots_2, if_neg (nI_no (by decide) (by omega) (by omega)), if_pos (iL_t h4 (by decide)), nI_sub h1, if_pos (iL_t (show k - 1 < 4 by omega) (by decide)), nI_add, ca_n _ _ (by omega), cg_n _ _ (by omega)]
  have go2 : ∀ (G f k : Nat) (c' : cS), 1 ≤ k → k < 4 → o_X5_nextHourOfPilots_2 G τ n 10 (f + 1) (nI k) c' = o_X5_nextHourOfPilots_2 G τ n 10 f (nI (k + 1)) (cp c' 130 (k - 1) (c'.1 130 k)) := fun G f k c' h1 h4 => by
    rw [o_X5_nextHourOfPilots_2, if_neg (nI_no (by decide) (by omega) (by omega)), if_pos (iL_t h4 (by decide)), nI_sub h1, if_pos (iL_t (show k - 1 < 4 by omega) (by decide)), nI_add, ca_n _ _ (by omega), cg_n _ _ (by omega)]
  unfold o_X5_nextHourOfPilots
  rw [go2 _ (f + 3) 1 c (by decide) (by decide), go2 _ (f + 2) 2 _ (by decide) (by decide), go2 _ (f + 1) 3 _ (by decide) (by decide), o_X5_nextHourOfPilots_2, if_pos (nI_yes (by decide) (by decide) (by decide)), Option.bind_some, nI_sub (by decide), if_pos (iL_t (show 4 - 1 < 4 by decide) (by decide)), ca_n _ _ (by decide)]
  have e2 : (cp c 130 (1 - 1) (c.1 130 1)).1 130 2 = c.1 130 2 := by rw [cp_q, upd_n (by decide)]
  have e3 : (cp (cp c 130 (1 - 1) (c.1 130 1)) 130 (2 - 1) (c.1 130 2)).1 130 3 = c.1 130 3 := by rw [cp_q, upd_n (by decide), cp_q, upd_n (by decide)]
  rw [e2, e3]
  rfl
theorem csh4_o {q : Nat} (h : q ≠ 130) : (csh4 c).1 q = c.1 q := by
  unfold csh4
  rw [cp_1 _ h, cp_1 _ h, cp_1 _ h, cp_1 _ h]
theorem csh4_0 : (csh4 c).1 130 0 = c.1 130 1 ∧ (csh4 c).1 130 1 = c.1 130 2 ∧ (csh4 c).1 130 2 = c.1 130 3 ∧ (csh4 c).1 130 3 = nI 0 := by
  unfold csh4
  simp only [cp_q]
  exact ⟨rfl, rfl, rfl, rfl⟩
/-- the row an hour later -/
def vtk (v : Nat → Int32) (h : Nat) : Nat → Int32 := upd (upd v 0 (nI (h + 1))) (1082 + h % 8) (nI 0)
theorem vtk_o {q h : Nat} (h0 : q ≠ 0) (h1 : q < 1082 ∨ 1090 ≤ q) : vtk v h q = v q := by
  unfold vtk
  rw [upd_n (by omega), upd_n h0]
theorem vtk_0 {h : Nat} : vtk v h 0 = nI (h + 1) := by
  unfold vtk
  rw [upd_n (by omega), upd_s]
theorem ls_tick {x : Int32} {h : Nat} (h0 : v 0 = nI h) (hh : h < 30000) : ∀ m, m ≤ 200 → (∀ i, i < m → ¬ v 0 < v (199 + 4 * i + 3)) → ls (vtk v h) x (nI (h + 1)) m = ls v x (v 0) m := by
  intro m
  induction m with
  | zero => intro _ _; rfl
  | succ m ih =>
    intro hm hs
    have hs' := hs m (by omega)
    have g1 : ¬ nI (h + 1) < v (199 + 4 * m + 3) := fun q => hs' (by
      rw [h0]
      exact Int32.lt_trans (nI_lt (by omega) (by omega)) q)
    have u : ∀ j f, f < 4 → j < 200 → vtk v h (199 + 4 * j + f) = v (199 + 4 * j + f) := fun j f hf hj => vtk_o (by omega) (by omega)
    rw [ls, ls, ih (by omega) (fun i hi => hs i (by omega)), show vtk v h (199 + 4 * m) = v (199 + 4 * m) from u m 0 (by decide) (by omega), u m 3 (by decide) (by omega), u m 1 (by decide) (by omega), if_neg g1, if_neg hs']
    cases e : ls v x (v 0) m with
    | none => rfl
    | some j =>
      have hj := ls_lt e
      simp only [u j 1 (by decide) (by omega)]
theorem rg_82 : ∀ e, e < 8 → rg (1082 + e) = (-2147483648, 2147483647) := by decide
/-- the hour is told on both sides -/
theorem RB.tick {h : Nat} (H : RB τ n c 10 v) (hI : LI τ n) (eh : N (v 0) = h) (hh : h < 30000) : RB τ n (csh4 (cp c 10 0 (nI (h + 1)))) 10 (vtk v h) := by
  have C := H.cr
  have r := H.rg
  have n0 := H.n0
  rw [eh] at n0
  have n198 := H.n198.2
  have hu : ∀ k, k ≠ 0 → k < 1082 ∨ 1090 ≤ k → vtk v h k = v k := fun k h0 h1 => vtk_o h0 h1
  generalize ev : vtk v h = v' at *
  have e0 : v' 0 = nI (h + 1) := by rw [← ev]; exact vtk_0
  generalize ec : csh4 (cp c 10 0 (nI (h + 1))) = c' at *
  have hc : ∀ q, q ≠ 10 → q ≠ 130 → c'.1 q = c.1 q := fun q h1 h2 => by rw [← ec, csh4_o h2, cp_1 _ h1]
  have hc2 : c'.2 = c.2 := by rw [← ec]; rfl
  have hw : Nw c c' := ⟨fun q hq => hc q (by omega) (by omega), fun q _ => by rw [hc2]⟩
  have i0 : (v 0).toInt = h := by rw [n0.1, nI_toInt (by omega)]
  have i1 : (v' 0).toInt = h + 1 := by rw [e0, nI_toInt (by omega)]; omega
  refine RB.mk ?_ ?_ ?_ (H.ber_s (fun k _ _ => hu k (by omega) (by omega)) (fun o _ _ j _ => by rw [hc _ (by omega) (by omega)])) (H.shp_s (fun k _ _ => hu k (by omega) (by omega)) (fun o _ _ => hc _ (by omega) (by omega))) (H.bak_s (fun k _ _ => hu k (by omega) (by omega)) (fun o _ _ => hc _ (by omega) (by omega))) (H.law_s (fun k _ _ => hu k (by omega) (by omega)) (hu _ (by omega) (by omega)) (fun o _ _ => by rw [hc2]) (by rw [hc2])) (H.txt_s (fun k _ _ => hu k (by omega) (by omega)) (hc _ (by omega) (by omega)) (by rw [hc2]) (hw.as hI)) (H.prp_s (fun k _ _ => hu k (by omega) (by omega)) (hu _ (by omega) (by omega)) (by rw [hc2]) (hw.as hI)) ?_ ?_
  · rw [← ev]
    have m8 : h % 8 < 8 := Nat.mod_lt _ (by decide)
    exact (r.put (ok_n (k := 0) (lo := 0) (hi := 30000) rfl (by omega) (by omega) (by omega))).put (rg_any (rg_82 _ m8))
  · refine Cr.mk ?_ (C.cr_s r (fun k _ _ => hu k (by omega) (by omega))) (C.hs_s r (fun k _ _ => hu k (by omega) (by omega)) (fun k _ _ => hu k (by omega) (by omega))) (C.sh_s r (fun k _ _ => hu k (by omega) (by omega)) (fun k _ _ => hu k (by omega) (by omega))) ?_ ?_ ?_ (C.tc_s r (hu _ (by omega) (by omega)) (fun k _ _ => hu k (by omega) (by omega))) (C.zp_s (fun k _ _ => hu k (by omega) (by omega))) (C.zs_s (fun k _ _ => hu k (by omega) (by omega))) (C.zb_s (fun k _ _ => hu k (by omega) (by omega))) ?_
    · intro i hi
      rw [hu _ (by omega) (by omega), i1]
      have := C.ld i hi
      rw [i0] at this
      omega
    · have b := r.b
      intro q hq
      rw [hu 1211 (by omega) (by omega)] at hq
      rw [hu _ (by omega) (by omega), hu 1090 (by omega) (by omega)]
      exact C.ow q hq
    · intro i hi
      rw [hu 198 (by omega) (by omega)] at hi
      rw [e0, hu (199 + 4 * i + 3) (by omega) (by omega)]
      intro q
      refine C.sd i hi ?_
      rw [n0.1]
      exact Int32.lt_trans (nI_lt (by omega) (by omega)) q
    · have b := r.b
      rw [hu 2660 (by omega) (by omega), hu 1090 (by omega) (by omega)]
      refine C.ev.trans ⟨fun ⟨p, q1, q2⟩ => ⟨p, q1, ?_⟩, fun ⟨p, q1, q2⟩ => ⟨p, q1, ?_⟩⟩
      · rw [hu _ (by omega) (by omega)]; exact q2
      · rw [hu _ (by omega) (by omega)] at q2; exact q2
    · intro b hb
      rw [hu _ (by omega) (by omega), i1]
      have := C.oe b hb
      rw [i0] at this
      omega
  · intro k o j hk
    have w := wk_no hk
    have wb := wk_bsu hk
    by_cases e : k = 0
    · subst e
      cases (show wk 0 = some (0, 0) from rfl).symm.trans hk
      rw [e0, ← ec, csh4_o (by decide), cp_q, upd_s]
    · rw [hu k e (by omega), ← H.pl k o j hk]
      by_cases e2 : o = 0
      · subst e2
        exfalso
        have := (wk_back hk).1
        have e3 : wr 0 j = 0 := rfl
        omega
      · rw [hc _ (by omega) (by omega)]
  · intro k hk
    rw [hc _ (by omega) (by omega), hu 198 (by omega) (by omega), e0, ← ev, ls_tick n0.1 hh _ n198 C.sd]
    exact H.snd k hk
  · have b8 : ∀ e, e < 7 → bz8 v' e = bz8 v (e + 1) := fun e he => by
      unfold bz8
      rw [e0, N_nI (by omega), eh, ← ev]
      unfold vtk
      rw [upd_n (by omega), upd_n (by omega), show h + 1 + e = h + (e + 1) by omega]
    have b7 : bz8 v' 7 = 0 := by
      unfold bz8
      rw [e0, N_nI (by omega), ← ev]
      unfold vtk
      rw [show (h + 1 + 7) % 8 = h % 8 by omega, upd_s]
      rfl
    obtain ⟨u0, u1, u2, u3, u4⟩ := H.bus
    have cs := csh4_0 (c := cp c 10 0 (nI (h + 1)))
    rw [ec] at cs
    rw [cp_1 _ (by decide)] at cs
    have z3 : bz8 v' 3 = 0 := by rw [b8 3 (by decide)]; exact u4 4 (by decide) (by decide)
    rw [show (10 + 120 : Nat) = 130 from rfl] at u0 u1 u2 u3 ⊢
    rw [cs.1, cs.2.1, cs.2.2.1, cs.2.2.2, u1, u2, u3, b8 0 (by decide), b8 1 (by decide), b8 2 (by decide), z3]
    refine ⟨(Int32.add_zero _).symm, (Int32.add_zero _).symm, (Int32.add_zero _).symm, rfl, fun e h4 h8 => ?_⟩
    by_cases e7 : e = 7
    · subst e7; exact b7
    · rw [b8 e (by omega)]; exact u4 (e + 1) (by omega) (by omega)
end HR0
