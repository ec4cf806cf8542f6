/-! THE PURE LAYER: an atom, read by both -/
section ATM
variable {F : Nat} {τ : cT} {n : Nat} {T : Nat → Int32} {L k a m d hb : Nat} {B : Nat → Nat} {c c' c'' : cS} {s s' s'' : rs_S} {rA : cS → Int32 → Option (Int32 × cS)} {rA' : rs_S → Option (Int32 × rs_S)}
theorem rr_f {x : Option (Int32 × cS)} {y : Option (Int32 × rs_S)} {c1 : cS} {s1 : rs_S} {a1 : Nat} (hfr : RFm c c1 s s1 m) (ha : a1 ≤ k) (h1 : c1.1 2 4 = nI a1) (h2 : s1.1 11 = nI (B a1)) (hx : x = some (nI 0, c1)) (hy : y = some (nI 0, s1)) : RR T L k B hb c s a m x y := ⟨c1, s1, hfr, Or.inr ⟨hx, hy, a1, ha, h1, h2⟩⟩
theorem atm_o (hF : 401 < F) (hd6 : d ≤ 6) (hI : d < 6 → ∀ c s a m, RJ T L k B c s a m → s.1 12 = nI (d + 1) → RR T L k B (11 - 2 * d) c s a m (rA c (nI (d + 1))) (rA' s)) (h : RJ T L k B c s a m) (hd : s.1 12 = nI d) (g : c.1 3 a = nI 40) : RR T L k B (13 - 2 * d) c s a m (o_X7_readAtom F τ n 0 rA c (nI d)) (o_X12_readAtom F rA' (o_X12_readCond F rA') s) := by
  obtain ⟨ak, sg⟩ := (h.sgn (F := F) (ch := 40) hF (by omega)).1 g
  have d12 : (ps s (te T L (B a)) (B a)).1 12 = nI d := by rw [ps_n (by decide) (by decide)]; exact hd
  by_cases d6 : d < 6
  · have C : o_X7_readAtom F τ n 0 rA c (nI d) = (o_X7_readClosed F τ n 0 rA (cp c 2 4 (nI (a + 1))) (nI (d + 1))).bind fun x => (if zb x.1 then some (x.1, x.2) else none) := by
      unfold o_X7_readAtom
      simp only [Nat.zero_add]
      rw [h.thing, Option.bind_some, g, if_neg (by decide), if_pos rfl, if_pos ((nI_ltI (by omega) (by decide)).mpr d6), if_pos rfl, h.ta, nI_add, nI_add]
    have R : o_X12_readAtom F rA' (o_X12_readCond F rA') s = (o_X12_readCond F rA' (pN (ps s (te T L (B a)) (B a)) 12 (nI (d + 1)))).bind fun x31 => (if x31.1 = 0 then (some (nI 0, x31.2)) else ((o_X12_sign F (pN x31.2 12 ((x31.2.1 12) - (nI 1))) (nI 41)).bind fun x33 => (if zb x33.1 then some (x33.1, x33.2) else none))) := by
      unfold o_X12_readAtom
      rw [sg, Option.bind_some, if_neg n10]
      dsimp only
      rw [d12, if_neg (nI_inj (by omega) (by decide) (by omega)), nI_add]
    have j1 := (h.next (b := B a) ak).d12 (y := nI (d + 1))
    obtain ⟨c2, s2, e1, e2⟩ := RR.any (F := F) (τ := τ) (n := n) (d := d + 1) (hb := 11 - 2 * d) hF (hI d6) j1 (pN_s _ _ _)
    have fr1 : RFm c (cp c 2 4 (nI (a + 1))) s (pN (ps s (te T L (B a)) (B a)) 12 (nI (d + 1))) m := (RFm.cat.ps).d12
    have fr2 := fr1.trans e1 (Nat.le_refl _)
    rcases e2 with ⟨q1, q2, q3, a2, m2, j2, q4, q5, q6⟩ | ⟨q1, q2, a2, q3, q4, q5⟩
    · have e12 : (s2.1 12 - nI 1 : Int32) = nI d := by rw [q3, pN_s, nI_sub (by omega)]; rfl
      have j3 := j2.d12 (y := nI d)
      have sg2 := j3.sgn (F := F) (ch := 41) hF (by omega)
      have C2 : o_X7_readClosed F τ n 0 rA (cp c 2 4 (nI (a + 1))) (nI (d + 1)) = if c2.1 3 a2 = nI 41 then some (nI 1, cp c2 2 4 (nI (a2 + 1))) else some (nI 0, c2) := by
        unfold o_X7_readClosed
        simp only [Nat.zero_add]
        rw [q1, Option.bind_some, if_neg n10]
        dsimp only
        rw [j2.thing, Option.bind_some, j2.ta, nI_add]
      have R2 : o_X12_readAtom F rA' (o_X12_readCond F rA') s = (o_X12_sign F (pN s2 12 (nI d)) (nI 41)).bind fun x33 => (if zb x33.1 then some (x33.1, x33.2) else none) := by
        rw [R, q2, Option.bind_some, if_neg n10]
        dsimp only
        rw [e12]
      by_cases g2 : c2.1 3 a2 = nI 41
      · obtain ⟨ak2, sg3⟩ := sg2.1 g2
        refine ⟨cp c2 2 4 (nI (a2 + 1)), ps (pN s2 12 (nI d)) (te T L (B a2)) (B a2), fr2.trans (m' := m) ((RFm.cat.d12).ps) (Nat.le_refl _), Or.inl ⟨?_, ?_, ?_, a2 + 1, m2, j3.next ak2, by omega, q5, fun h hh => ?_⟩⟩
        · rw [C, C2, if_pos g2, Option.bind_some, if_pos (Or.inr rfl)]
        · rw [R2, sg3, Option.bind_some, if_pos (Or.inr rfl)]
        · rw [ps_n (by decide) (by decide), pN_s]; exact hd.symm
        · rw [cp_1 8 (by decide)]; exact q6 h (by omega)
      · refine rr_f (c1 := c2) (s1 := ps (pN s2 12 (nI d)) (B a2) (B a2)) (a1 := a2) ((fr2.d12).ps) j2.ak j2.ta ps_11 ?_ ?_
        · rw [C, C2, if_neg g2, Option.bind_some, if_pos (Or.inl rfl)]
        · rw [R2, sg2.2 g2, Option.bind_some, if_pos (Or.inl rfl)]
    · refine rr_f fr2 q3 q4 q5 ?_ ?_
      · rw [C]
        unfold o_X7_readClosed
        rw [q1, Option.bind_some, if_pos nI_0, Option.bind_some, if_pos (Or.inl rfl)]
      · rw [R, q2, Option.bind_some, if_pos nI_0]
  · have d6' : d = 6 := by omega
    subst d6'
    refine rr_f (c1 := c) (s1 := ps s (te T L (B a)) (B a)) (a1 := a) (RFm.refl.ps) h.ak h.ta ps_11 ?_ ?_
    · unfold o_X7_readAtom
      rw [h.thing, Option.bind_some, g, if_neg (by decide), if_pos rfl, if_neg (by decide)]
    · unfold o_X12_readAtom
      rw [sg, Option.bind_some, if_neg n10]
      dsimp only
      rw [d12, if_pos rfl]
theorem atm_n (hF : 401 < F) (hd6 : d ≤ 6) (hI : d < 6 → ∀ c s a m, RJ T L k B c s a m → s.1 12 = nI (d + 1) → RR T L k B (11 - 2 * d) c s a m (rA c (nI (d + 1))) (rA' s)) (h : RJ T L k B c s a m) (hd : s.1 12 = nI d) (g : c.1 3 a = nI 405) : RR T L k B (13 - 2 * d) c s a m (o_X7_readAtom F τ n 0 rA c (nI d)) (o_X12_readAtom F rA' (o_X12_readCond F rA') s) := by
  have sg := (h.sgn (F := F) (ch := 40) hF (by omega)).2 (by rw [g]; decide)
  have h0 := h.stay (b := B a)
  obtain ⟨ak, pa⟩ := (h0.pas (F := F) (i := 28) hF (by decide) (by decide)).1 g
  rw [ps_ps] at pa
  have d12 : (ps s (te T L (B a)) (B a)).1 12 = nI d := by rw [ps_n (by decide) (by decide)]; exact hd
  by_cases d6 : d < 6
  · have C : o_X7_readAtom F τ n 0 rA c (nI d) = (o_X7_readDenied F τ n 0 rA (cp c 2 4 (nI (a + 1))) (nI (d + 1))).bind fun x => (if zb x.1 then some (x.1, x.2) else none) := by
      unfold o_X7_readAtom
      simp only [Nat.zero_add]
      rw [h.thing, Option.bind_some, g, if_pos rfl, if_pos ((nI_ltI (by omega) (by decide)).mpr d6), if_neg (by decide), h.ta, nI_add, nI_add]
    have R : o_X12_readAtom F rA' (o_X12_readCond F rA') s = (rA' (pN (ps s (te T L (B a)) (B a)) 12 (nI (d + 1)))).bind fun x27 => (if x27.1 = 0 then (some (nI 0, x27.2)) else ((o_X12_adds (pN x27.2 12 ((x27.2.1 12) - (nI 1))) (nI 300) (nI 0)).bind fun x29 => (some (nI 1, x29)))) := by
      unfold o_X12_readAtom
      rw [sg, Option.bind_some, if_pos nI_0]
      dsimp only
      rw [pa, Option.bind_some, if_neg n10]
      dsimp only
      rw [d12, if_neg (nI_inj (by omega) (by decide) (by omega)), nI_add]
    have j1 := (h.next (b := B a) ak).d12 (y := nI (d + 1))
    obtain ⟨c2, s2, e1, e2⟩ := hI d6 _ _ _ _ j1 (pN_s _ _ _)
    have fr1 : RFm c (cp c 2 4 (nI (a + 1))) s (pN (ps s (te T L (B a)) (B a)) 12 (nI (d + 1))) m := (RFm.cat.ps).d12
    have fr2 := fr1.trans e1 (Nat.le_refl _)
    have ma := h.ma
    rcases e2 with ⟨q1, q2, q3, a2, m2, j2, q4, q5, q6⟩ | ⟨q1, q2, a2, q3, q4, q5⟩
    · have e12 : (s2.1 12 - nI 1 : Int32) = nI d := by rw [q3, pN_s, nI_sub (by omega)]; rfl
      have hk := j2.tk.k4
      have h4 := j2.tk.L4
      have ak2 := j2.ak
      have j3 := (j2.d12 (y := nI d)).step (x := nI 24) (x' := nI 300) (y := nI 0) (by omega) (Or.inr (Or.inr (Or.inr ⟨0, by decide, rfl, rfl⟩))) (fun _ => rfl)
      refine ⟨cs8 c2 m2 (nI 24) (nI 0), adS (pN s2 12 (nI d)) m2 (nI 300) (nI 0), (fr2.d12).trans (RFm.step (by omega)) (by omega), Or.inl ⟨?_, ?_, ?_, a2, m2 + 1, j3, by omega, by omega, fun h hh => ?_⟩⟩
      · rw [C]
        unfold o_X7_readDenied
        rw [q1, Option.bind_some, if_neg n10]
        dsimp only
        rw [o_addS (by omega) j2.st, Option.bind_some, Option.bind_some, if_pos (Or.inr rfl)]
      · rw [R, q2, Option.bind_some, if_neg n10]
        dsimp only
        rw [e12, o_addR (m := m2) (by omega) (by rw [pN_n (by decide)]; exact j2.s5), Option.bind_some]
      · rw [adS_n (by decide), pN_s]; exact hd.symm
      · rw [show m2 + 1 - m = (m2 - m) + 1 by omega, hgt_a, hgt_cg (f := c2.1 8) (m2 - m) (fun j q1 q2 => by rw [cs8_8, upd_n (by omega)]), q6 h (by omega), Option.bind_some, hgt_1, show m + (m2 - m) = m2 by omega, cs8_8, upd_s]
        exact hs_n (by omega)
    · refine rr_f fr2 q3 q4 q5 ?_ ?_
      · rw [C]
        unfold o_X7_readDenied
        rw [q1, Option.bind_some, if_pos nI_0, Option.bind_some, if_pos (Or.inl rfl)]
      · rw [R, q2, Option.bind_some, if_pos nI_0]
  · have d6' : d = 6 := by omega
    subst d6'
    refine rr_f (c1 := c) (s1 := ps s (te T L (B a)) (B a)) (a1 := a) (RFm.refl.ps) h.ak h.ta ps_11 ?_ ?_
    · unfold o_X7_readAtom
      rw [h.thing, Option.bind_some, g, if_pos rfl, if_neg (by decide)]
    · unfold o_X12_readAtom
      rw [sg, Option.bind_some, if_pos nI_0]
      dsimp only
      rw [pa, Option.bind_some, if_neg n10]
      dsimp only
      rw [d12, if_pos rfl]
/-- a limit, on both sides -/
noncomputable def limR (F : Nat) (x8 : Int32) (x5 : rs_S) : Option (Int32 × rs_S) := (o_X12_sign F x5 (nI 60)).bind fun x10 => (if x10.1 = 0 then ((o_X12_sign F x10.2 (nI 62)).bind fun x17 => (if x17.1 = 0 then (some (nI 0, x17.2)) else ((o_X12_number F x17.2 (nI 999999)).bind fun x19 => (if 0 ≤ x19.1 then (if x10.1 = 0 then ((o_X12_adds x19.2 ((nI 200) + x8) x19.1).bind fun x22 => (some (nI 1, x22))) else ((o_X12_adds x19.2 ((nI 100) + x8) x19.1).bind fun x23 => (some (nI 1, x23)))) else (some (nI 0, x19.2)))))) else ((o_X12_number F x10.2 (nI 999999)).bind fun x12 => (if 0 ≤ x12.1 then (if x10.1 = 0 then ((o_X12_adds x12.2 ((nI 200) + x8) x12.1).bind fun x15 => (some (nI 1, x15))) else ((o_X12_adds x12.2 ((nI 100) + x8) x12.1).bind fun x16 => (some (nI 1, x16)))) else (some (nI 0, x12.2)))))
theorem m1_0 : ¬ (0 : Int32) ≤ -1 := by decide
theorem n0le {v : Nat} (hv : v < 2 ^ 31) : (0 : Int32) ≤ nI v := by
  rw [← nI_0]; exact nI_yes (by decide) hv (Nat.zero_le _)
theorem lim {f : Nat} (hF : 401 < F) (hf : f < 5) (hb1 : 1 ≤ hb) (h : RJ T L k B c s a m) : RR T L k B hb c s a m (o_X7_readLimit τ n 0 c (nI (7 + f))) (limR F (nI f) s) := by
  have ma := h.ma
  have hk := h.tk.k4
  have h4 := h.tk.L4
  have sl := h.sgn (F := F) (ch := 60) hF (by omega)
  have C0 : o_X7_readLimit τ n 0 c (nI (7 + f)) = if c.1 3 a = nI 62 then ((o_X7_thing τ n 0 (cp c 2 4 (nI (a + 1)))).bind fun x9 => (if 0 ≤ (x9 - (nI 1000)) then ((some (cp (cp c 2 4 (nI (a + 1))) 2 4 (((cp c 2 4 (nI (a + 1))).1 2 4) + (nI 1)))).bind fun x11 => ((o_X7_addStep τ n 0 x11 ((nI 12) + nI (7 + f)) (x9 - (nI 1000))).bind fun x12 => (some (nI 1, x12)))) else (some (nI 0, cp c 2 4 (nI (a + 1)))))) else (if c.1 3 a = nI 60 then ((o_X7_thing τ n 0 (cp c 2 4 (nI (a + 1)))).bind fun x5 => (if 0 ≤ (x5 - (nI 1000)) then ((some (cp (cp c 2 4 (nI (a + 1))) 2 4 (((cp c 2 4 (nI (a + 1))).1 2 4) + (nI 1)))).bind fun x7 => ((o_X7_addStep τ n 0 x7 (nI (7 + f)) (x5 - (nI 1000))).bind fun x8 => (some (nI 1, x8)))) else (some (nI 0, cp c 2 4 (nI (a + 1)))))) else (some (nI 0, c))) := by
    unfold o_X7_readLimit
    simp only [Nat.zero_add]
    rw [h.thing, Option.bind_some, Option.bind_some, h.ta, nI_add]
  -- a number behind the sign
  have go : ∀ (x x' : Int32), (∃ v, v < 24 ∧ x = nI v) → stc x x' → (¬ ∃ f, f < 7 ∧ x = nI (12 + f)) → a < k → ∀ (X : Option (Int32 × cS)) (Y : Option (Int32 × rs_S)), X = ((o_X7_thing τ n 0 (cp c 2 4 (nI (a + 1)))).bind fun x9 => (if 0 ≤ (x9 - (nI 1000)) then ((some (cp (cp c 2 4 (nI (a + 1))) 2 4 (((cp c 2 4 (nI (a + 1))).1 2 4) + (nI 1)))).bind fun x11 => ((o_X7_addStep τ n 0 x11 x (x9 - (nI 1000))).bind fun x12 => (some (nI 1, x12)))) else (some (nI 0, cp c 2 4 (nI (a + 1)))))) → Y = ((o_X12_number F (ps s (te T L (B a)) (B a)) (nI 999999)).bind fun x19 => (if 0 ≤ x19.1 then ((o_X12_adds x19.2 x' x19.1).bind fun x22 => (some (nI 1, x22))) else (some (nI 0, x19.2)))) → RR T L k B hb c s a m X Y := fun x x' hx hs hn ak X Y hX hY => by
    have j1 := h.next (b := B a) ak
    have fr1 : RFm c (cp c 2 4 (nI (a + 1))) s (ps s (te T L (B a)) (B a)) m := RFm.cat.ps
    rcases j1.num (F := F) (hi := 999999) hF (by decide) with ⟨v, v1, v2, v3, v4⟩ | ⟨v1, e, v2, v3⟩
    · have j2 := j1.next (b := B (a + 1)) v3
      have j3 := j2.step (x := x) (x' := x') (y := nI v) (by omega) hs (fun g => absurd g hn)
      have e2 : (cp c 2 4 (nI (a + 1))).1 2 4 = nI (a + 1) := j1.ta
      obtain ⟨w, w1, w2⟩ := hx
      refine ⟨_, _, (fr1.trans (m' := m) (RFm.cat (y := nI (a + 1 + 1))).ps (Nat.le_refl _)).trans (m' := m) (RFm.step (by omega)) (Nat.le_refl _), Or.inl ⟨?_, ?_, ?_, a + 1 + 1, m + 1, j3, by omega, by omega, fun h hh => ?_⟩⟩
      · rw [hX, j1.thing, Option.bind_some, v2, nI_sub (by omega), show 1000 + v - 1000 = v by omega, if_pos (n0le (by omega)), Option.bind_some, e2, nI_add, o_addS (by omega) j2.st, Option.bind_some]
      · rw [hY, v4, if_pos (by omega), Option.bind_some, if_pos (n0le (by omega))]
        dsimp only
        rw [o_addR (by omega) j2.s5, Option.bind_some]
      · rw [adS_n (by decide), ps_n (by decide) (by decide), ps_n (by decide) (by decide)]
      · rw [show m + 1 - m = 1 by omega, hgt_1, cs8_8, upd_s, w2]
        exact hs_f w1 (by omega)
    · refine rr_f (c1 := cp c 2 4 (nI (a + 1))) (s1 := ps (ps s (te T L (B a)) (B a)) e (B (a + 1))) (a1 := a + 1) fr1.ps j1.ak j1.ta ps_11 ?_ ?_
      · rw [hX, j1.thing, Option.bind_some, if_neg (fun g => absurd v1 (i_nlt.mpr g))]
      · rw [hY, v3, Option.bind_some, if_neg m1_0]
  by_cases g62 : c.1 3 a = nI 62
  · have n60 : ¬ c.1 3 a = nI 60 := by rw [g62]; decide
    have j0 := h.stay (b := B a)
    obtain ⟨ak, sg⟩ := (j0.sgn (F := F) (ch := 62) hF (by omega)).1 g62
    rw [ps_ps] at sg
    refine go (nI (19 + f)) (nI (200 + f)) ⟨19 + f, by omega, rfl⟩ (Or.inr (Or.inr (Or.inl ⟨f, hf, rfl, rfl⟩))) (fun ⟨f', q1, q2⟩ => nI_inj (by omega) (by omega) (by omega) q2) ak _ _ ?_ ?_
    · rw [C0, if_pos g62, nI_add, show 12 + (7 + f) = 19 + f by omega]
    · unfold limR
      rw [sl.2 n60, Option.bind_some, if_pos nI_0]
      dsimp only
      rw [sg, Option.bind_some, if_neg n10]
      dsimp only
      rw [nI_add]
      congr 1
  · by_cases g60 : c.1 3 a = nI 60
    · obtain ⟨ak, sg⟩ := sl.1 g60
      refine go (nI (7 + f)) (nI (100 + f)) ⟨7 + f, by omega, rfl⟩ (Or.inr (Or.inl ⟨f, hf, rfl, rfl⟩)) (fun ⟨f', q1, q2⟩ => nI_inj (by omega) (by omega) (by omega) q2) ak _ _ ?_ ?_
      · rw [C0, if_neg g62, if_pos g60]
      · unfold limR
        rw [sg, Option.bind_some, if_neg n10]
        dsimp only
        rw [nI_add]
        congr 1
        funext x12
        rw [if_neg n10, nI_add]
    · have j0 := h.stay (b := B a)
      have sg := (j0.sgn (F := F) (ch := 62) hF (by omega)).2 g62
      rw [ps_ps] at sg
      refine rr_f (c1 := c) (s1 := ps s (B a) (B a)) (a1 := a) (RFm.refl.ps) h.ak h.ta ps_11 ?_ ?_
      · rw [C0, if_neg g62, if_neg g60]
      · unfold limR
        rw [sl.2 g60, Option.bind_some, if_pos nI_0]
        dsimp only
        rw [sg, Option.bind_some, if_pos nI_0]
theorem fc_i {f : Nat} (hf : f < 12) : ∃ i, 14 ≤ i ∧ i < 41 ∧ cd i = 300 + f := by
  obtain ⟨k1, k2, k3, k4⟩ := kf2 8 (by decide) (by decide) f hf
  exact ⟨kc 8 f, k1, k2, k4⟩
theorem atm_w (hF : 401 < F) (hd6 : d ≤ 6) (h : RJ T L k B c s a m) (hd : s.1 12 = nI d) (g4 : ¬ c.1 3 a = nI 40) (gn : ¬ c.1 3 a = nI 405) : RR T L k B (13 - 2 * d) c s a m (o_X7_readAtom F τ n 0 rA c (nI d)) (o_X12_readAtom F rA' (o_X12_readCond F rA') s) := by
  have ma := h.ma
  have hk := h.tk.k4
  have h4 := h.tk.L4
  have ak0 := h.ak
  have sg := (h.sgn (F := F) (ch := 40) hF (by omega)).2 g4
  have h0 := h.stay (b := B a)
  have pa := (h0.pas (F := F) (i := 28) hF (by decide) (by decide)).2 gn
  rw [ps_ps] at pa
  have wo := h0.wrd (F := F) hF
  rw [ps_ps] at wo
  have hW : ∀ i, 14 ≤ i → i < 41 → o_X12_isWord F (ps s (wd T L (B a)) (B a)) i = some (ifc (c.1 3 a = nI (cd i)) (nI 1) (nI 0)) := fun i h1 h2 => h.tk.isW hF h.tx h.ak h1 h2
  have R : o_X12_readAtom F rA' (o_X12_readCond F rA') s = (o_X12_wordOf F (ps s (wd T L (B a)) (B a))).bind fun x6 => (if x6 < 0 then ((o_X12_factOf F (ps s (wd T L (B a)) (B a))).bind fun x8 => (if 0 ≤ x8 then limR F x8 (ps s (wd T L (B a)) (B a)) else (some (nI 0, ps s (wd T L (B a)) (B a))))) else ((o_X12_wordOf F (ps s (wd T L (B a)) (B a))).bind fun x24 => ((o_X12_adds (ps s (wd T L (B a)) (B a)) x24 (nI 0)).bind fun x25 => (some (nI 1, x25))))) := by
    unfold o_X12_readAtom limR
    rw [sg, Option.bind_some, if_pos nI_0]
    dsimp only
    rw [pa, Option.bind_some, if_pos nI_0]
    dsimp only
    rw [wo, Option.bind_some]
  have C : o_X7_readAtom F τ n 0 rA c (nI d) = if (c.1 3 a - (nI 300)) < 0 then (some (nI 0, c)) else (if (c.1 3 a - (nI 300)) < (nI 12) then (if (nI 7) ≤ (c.1 3 a - (nI 300)) then ((o_X7_readLimit τ n 0 (cp c 2 4 (nI (a + 1))) (c.1 3 a - (nI 300))).bind fun x11 => (if zb x11.1 then some (x11.1, x11.2) else none)) else ((o_X7_addStep τ n 0 (cp c 2 4 (nI (a + 1))) ((nI 12) + (c.1 3 a - (nI 300))) (nI 0)).bind fun x12 => (some (nI 1, x12)))) else (some (nI 0, c))) := by
    unfold o_X7_readAtom
    simp only [Nat.zero_add]
    rw [h.thing, Option.bind_some, if_neg gn, if_neg g4, h.ta, nI_add]
  have wt : ∀ f, f < 12 → c.1 3 a = nI (300 + f) → a < k ∧ wd T L (B a) = te T L (B a) := fun f hf e => by
    obtain ⟨i, i1, i2, i3⟩ := fc_i hf
    have := (h.tk.eqw h.ak i1 i2).2 (by rw [i3]; exact e)
    exact ⟨this.1, this.2.symm⟩
  rcases w_wrd hW with ⟨f, f1, f2, f3⟩ | ⟨f1, f3⟩
  · obtain ⟨ak, we⟩ := wt f (by omega) f2
    have e3 : (c.1 3 a - nI 300 : Int32) = nI f := by rw [f2, nI_sub (by omega), show 300 + f - 300 = f by omega]
    have j1 := h.next (b := B a) ak
    have j2 := j1.step (x := nI (12 + f)) (x' := nI f) (y := nI 0) (by omega) (Or.inl ⟨f, f1, rfl, rfl⟩) (fun _ => rfl)
    refine ⟨_, _, (RFm.cat (y := nI (a + 1))).ps.trans (m' := m) (RFm.step (by omega)) (Nat.le_refl _), Or.inl ⟨?_, ?_, ?_, a + 1, m + 1, j2, by omega, by omega, fun h hh => ?_⟩⟩
    · rw [C, e3, if_neg (nI_pos (by omega)), if_pos ((nI_ltI (by omega) (by decide)).mpr (by omega)), if_neg (nI_no (by decide) (by omega) (by omega)), nI_add, o_addS (by omega) j1.st, Option.bind_some]
    · rw [R, f3, Option.bind_some, if_neg (nI_pos (by omega)), Option.bind_some, we, o_addR (by omega) j1.s5, Option.bind_some]
    · rw [adS_n (by decide), ps_n (by decide) (by decide)]
    · rw [show m + 1 - m = 1 by omega, hgt_1, cs8_8, upd_s]
      exact hs_f (by omega) (by omega)
  · rcases w_fct hW with ⟨f, q1, q2, q3⟩ | ⟨q1, q3⟩
    · obtain ⟨ak, we⟩ := wt (7 + f) (by omega) (by rw [q2, show 300 + (7 + f) = 307 + f by omega])
      have e3 : (c.1 3 a - nI 300 : Int32) = nI (7 + f) := by rw [q2, nI_sub (by omega), show 307 + f - 300 = 7 + f by omega]
      have j1 := h.next (b := B a) ak
      obtain ⟨c2, s2, e1, e2⟩ := lim (τ := τ) (n := n) (hb := 13 - 2 * d) hF q1 (by omega) j1
      have fr1 : RFm c (cp c 2 4 (nI (a + 1))) s (ps s (te T L (B a)) (B a)) m := RFm.cat.ps
      have C2 : o_X7_readAtom F τ n 0 rA c (nI d) = (o_X7_readLimit τ n 0 (cp c 2 4 (nI (a + 1))) (nI (7 + f))).bind fun x11 => (if zb x11.1 then some (x11.1, x11.2) else none) := by
        rw [C, e3, if_neg (nI_pos (by omega)), if_pos ((nI_ltI (by omega) (by decide)).mpr (by omega)), if_pos (nI_yes (by decide) (by omega) (by omega))]
      have R2 : o_X12_readAtom F rA' (o_X12_readCond F rA') s = limR F (nI f) (ps s (te T L (B a)) (B a)) := by
        rw [R, f3, Option.bind_some, if_pos (by decide), q3, Option.bind_some, if_pos (n0le (by omega)), we]
      refine ⟨c2, s2, fr1.trans e1 (Nat.le_refl _), ?_⟩
      rcases e2 with ⟨u1, u2, u3, a2, m2, u4, u5, u6, u7⟩ | ⟨u1, u2, u3⟩
      · refine Or.inl ⟨by rw [C2, u1, Option.bind_some, if_pos (Or.inr rfl)], R2.trans u2, by rw [u3, ps_n (by decide) (by decide)], a2, m2, u4, by omega, u6, u7⟩
      · exact Or.inr ⟨by rw [C2, u1, Option.bind_some, if_pos (Or.inl rfl)], R2.trans u2, u3⟩
    · refine rr_f (c1 := c) (s1 := ps s (wd T L (B a)) (B a)) (a1 := a) (RFm.refl.ps) h.ak h.ta ps_11 ?_ ?_
      · rw [C]
        by_cases g1 : (c.1 3 a - nI 300 : Int32) < 0
        · rw [if_pos g1]
        · rw [if_neg g1]
          by_cases g2 : (c.1 3 a - nI 300 : Int32) < nI 12
          · exfalso
            obtain ⟨f, k1, k2⟩ := i_in (x := c.1 3 a - nI 300) (a := 11) (by rw [nI_0]; exact g1) (fun e => by
              rw [Int32.lt_iff_toInt_lt] at e g2
              rw [nI_toInt (by decide)] at e g2
              omega) (by decide)
            have e : c.1 3 a = nI (300 + f) := by
              rw [Nat.add_comm, ← nI_add, ← k2, Int32.sub_add_cancel]
            by_cases f7 : f < 7
            · exact f1 f f7 e
            · exact q1 (f - 7) (by omega) (by rw [e, show 307 + (f - 7) = 300 + f by omega])
          · rw [if_neg g2]
      · rw [R, f3, Option.bind_some, if_pos (by decide), q3, Option.bind_some, if_neg m1_0]
theorem RR.atom (hF : 401 < F) (hd6 : d ≤ 6) (hI : d < 6 → ∀ c s a m, RJ T L k B c s a m → s.1 12 = nI (d + 1) → RR T L k B (11 - 2 * d) c s a m (rA c (nI (d + 1))) (rA' s)) (h : RJ T L k B c s a m) (hd : s.1 12 = nI d) : RR T L k B (13 - 2 * d) c s a m (o_X7_readAtom F τ n 0 rA c (nI d)) (o_X12_readAtom F rA' (o_X12_readCond F rA') s) := by
  by_cases g : c.1 3 a = nI 40
  · exact atm_o hF hd6 hI h hd g
  · by_cases g2 : c.1 3 a = nI 405
    · exact atm_n hF hd6 hI h hd g2
    · exact atm_w hF hd6 h hd g g2
theorem RR.atF (hF : 401 < F) : ∀ (f f' d : Nat) (c : cS) (s : rs_S) (a m : Nat), 7 ≤ f + d → 7 ≤ f' + d → d ≤ 6 → RJ T L k B c s a m → s.1 12 = nI d → RR T L k B (13 - 2 * d) c s a m (o_crA F τ n 0 f c (nI d)) (o_rdA F f' s) := by
  intro f
  induction f with
  | zero => intro f' d c s a m h1 h2 h3; omega
  | succ f ih =>
    intro f' d c s a m h1 h2 h3 h hd
    obtain ⟨f', rfl⟩ : ∃ x, f' = x + 1 := ⟨f' - 1, by omega⟩
    rw [o_crA, o_rdA]
    refine RR.atom hF h3 (fun d6 c s a m h hd => ?_) h hd
    have := ih f' (d + 1) c s a m (by omega) (by omega) (by omega) h hd
    rw [show 13 - 2 * (d + 1) = 11 - 2 * d by omega] at this
    exact this
/-- a condition -/
theorem RR.cond (hF : 401 < F) (h : RJ T L k B c s a m) (hd : s.1 12 = nI 0) : RR T L k B 15 c s a m (o_crY F τ n 0 c (nI 0)) (o_rdC F s) := by
  unfold o_crY o_rdC
  exact RR.any (hb := 13) (d := 0) hF (fun c s a m h hd => RR.atF hF 8 10 0 c s a m (by decide) (by decide) (by decide) h hd) h hd
end ATM
