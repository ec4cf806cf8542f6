/-! THE PURE LAYER: ships leave: what it is made of -/
section LV1
variable {F : Nat} {τ : cT} {n k i m B H o p : Nat} {c c' : cS} {s s' : rs_S} {v v' : Nat → Int32} {y : Int32}
theorem o_ask2 {k : Nat} {y : Int32} (hF : 7 ≤ F) (e0 : c.1 (50 + k) 0 = s.2.1 (1212 + 18 * k + 1)) (e1 : c.1 (50 + k) 1 = s.2.1 (1212 + 18 * k + 2)) (e2 : c.1 (50 + k) 2 = s.2.1 (1212 + 18 * k + 3)) (e3 : c.1 (50 + k) 3 = s.2.1 (1212 + 18 * k + 6)) (r : Rg s.2.1) (k80 : k < 80) : ∃ c' s', o_X2_askOfShip F τ n 10 (50 + k) c y = some c' ∧ o_X12_looksAtShip s (nI k) y = some s' ∧ Cf c c' ∧ Sc s s' ∧ RF c' 177 s' := by
  obtain ⟨t, ht, h6⟩ := r.fo k80
  obtain ⟨c', a1, a2, a3, a4, a5, a6, a7, a8, a9⟩ := o_askC (F := F) (τ := τ) (n := n) (c := c) (y := y) hF k80 ht (show c.1 (50 + k) 3 = nI t by rw [e3]; exact h6)
  obtain ⟨s', b1, b2, b3, b4, b5, b6, b7, b8, b9⟩ := o_looksR (s := s) (y := y) k80 ht h6
  refine ⟨c', s', a1, b1, a2, b2, ?_, ⟨t, ht, a4, b4⟩, ?_⟩
  · intro j hj
    rw [a3 j hj, b3, e0]
  · intro j hj
    match j, hj with
    | 0, _ => rw [b5, show 7 + 0 = 7 from rfl, a5]; exact e1
    | 1, _ => rw [b6, show 7 + 1 = 8 from rfl, a6]; exact e2
    | 2, _ => rw [b7, show 7 + 2 = 9 from rfl, a7]
    | 3, _ => rw [b8, show 7 + 3 = 10 from rfl, a8]
    | 4, _ => rw [b9, show 7 + 4 = 11 from rfl, a9]
    | j + 5, h => exact absurd h (by omega)
theorem o_due2 {k : Nat} {y z : Int32} (hF : 401 < F) (e0 : c.1 (50 + k) 0 = s.2.1 (1212 + 18 * k + 1)) (e1 : c.1 (50 + k) 1 = s.2.1 (1212 + 18 * k + 2)) (e2 : c.1 (50 + k) 2 = s.2.1 (1212 + 18 * k + 3)) (e3 : c.1 (50 + k) 3 = s.2.1 (1212 + 18 * k + 6)) (r : Rg s.2.1) (k80 : k < 80) (hl : RLaw τ c p s.2.1 z) (hp : p = 28 ∨ 180 ≤ p) : ∃ d c' s', d ≤ 2000000000 ∧ o_X2_dueBy F τ n 10 p (50 + k) c y = some (nI d, c') ∧ o_X12_dueOf F s (nI k) z y = some (nI d, s') ∧ Cf c c' ∧ Sc s s' ∧ RF c' 177 s' := by
  obtain ⟨c1, s1, a1, a2, a3, a4, a5⟩ := o_ask2 (y := y) (F := F) (τ := τ) (n := n) (by omega) e0 e1 e2 e3 r k80
  have hl1 : RLaw τ c1 p s1.2.1 z := by rw [a4.1]; exact hl.cf hp a3
  obtain ⟨k1, s2, b1, b2, b3, b4⟩ := hl1.sum (n := n) (kd := 0) hF a5 (by decide) (by decide)
  have hl2 : RLaw τ c1 p s2.2.1 z := by rw [b4.2.1]; exact hl1
  obtain ⟨k2, s3, d1, d2, d3, d4⟩ := hl2.sum (n := n) (kd := 1) hF (b4.rf a5) (by decide) (by decide)
  have ht := r.nat (k := 1212 + 18 * k + 2) (hi := 20000) (rg_s k80 (by decide))
  have et : s2.2.1 (1212 + 18 * k + 2) = nI (N (s.2.1 (1212 + 18 * k + 2))) := by rw [b4.2.1, a4.1]; exact ht.1
  have ec : c1.1 (50 + k) 1 = nI (N (s.2.1 (1212 + 18 * k + 2))) := by
    rw [a3.1 _ (by omega), e1]; exact ht.1
  generalize N (s.2.1 (1212 + 18 * k + 2)) = T at *
  have hb : k1 * T + k2 < 2 ^ 63 := by
    have : k1 * T ≤ 19999980 * 20000 := Nat.mul_le_mul b1 (by omega)
    omega
  have em : ∀ m, m < 2 ^ 63 → ∃ d, d ≤ 2000000000 ∧ (mnl (lN m) 2000000000).toInt32 = nI d := fun m hm => by
    unfold mnl
    by_cases q : 2000000000 < m
    · rw [if_pos (show (2000000000 : Int64) < lN m from (pk_lLT (show 2000000000 < 2 ^ 63 by decide) hm).mpr q)]
      exact ⟨2000000000, by decide, by decide⟩
    · rw [if_neg (show ¬ (2000000000 : Int64) < lN m from fun q2 => q ((pk_lLT (show 2000000000 < 2 ^ 63 by decide) hm).mp q2))]
      exact ⟨m, by omega, lN_i m⟩
  obtain ⟨d, hd, ed⟩ := em _ hb
  refine ⟨d, c1, s3, hd, ?_, ?_, a3, (a4.trans b4.sc).trans d4.sc, d4.rf (b4.rf a5)⟩
  · unfold o_X2_dueBy
    rw [a1]
    simp only [Option.bind_some]
    rw [show (10 + 167 : Nat) = 177 from rfl, b2, d2]
    simp only [Option.bind_some]
    unfold o_X11_capped
    rw [ec, nI_l (by omega), nI_l (by omega), nI_l (by omega), lN_mul, lN_add, ed]
    rfl
  · unfold o_X12_dueOf
    rw [a2]
    simp only [Option.bind_some]
    rw [b3]
    simp only [Option.bind_some]
    rw [o_of k80 (by decide), et]
    simp only [Option.bind_some]
    rw [d3]
    simp only [Option.bind_some]
    unfold o_X12_added
    rw [nI_l (by omega), nI_l (by omega), lN_mul, lN_add, lN_add, Nat.zero_add, ← mnl_comm, ed]
    rfl
theorem tch_loop (hB : B < 24) (hH : H < 40000) (ho : o < 2) (h0 : s.2.1 0 = nI H) : ∀ (r i f : Nat), i + r = B + 1 → r < f → o_X12_touches_6 F (nI k) y (nI B) (nI o) s f (nI 1) (nI i) = some (nI 1) ∧ o_X12_touches_6 F (nI k) y (nI B) (nI o) s f (nI 0) (nI i) = some (ifc (∀ j, i ≤ j → j ≤ B → okc (fun q => s.2.1 (1 + q)) s.2.1 y B H o j) (nI 0) (nI 1)) := by
  intro r
  induction r with
  | zero =>
    intro i f hi hf
    obtain ⟨f, rfl⟩ : ∃ x, f = x + 1 := ⟨f - 1, by omega⟩
    rw [o_X12_touches_6, o_X12_touches_6, if_pos ((nI_ltI (by omega) (by omega)).mpr (by omega)), if_pos ((nI_ltI (by omega) (by omega)).mpr (by omega)), ifc_pos (fun j j1 j2 => by omega)]
    exact ⟨rfl, rfl⟩
  | succ r ih =>
    intro i f hi hf
    obtain ⟨f, rfl⟩ : ∃ x, f = x + 1 := ⟨f - 1, by omega⟩
    obtain ⟨ih1, ih0⟩ := ih (i + 1) f (by omega) (by omega)
    refine ⟨?_, ?_⟩
    · rw [o_X12_touches_6, if_neg (nI_ngt (by omega) (by omega) (by omega)), if_neg (show ¬ (nI 1 : Int32) = 0 by decide), nI_add]
      exact ih1
    · have hat4 := hat_lt (o := o) hB (show i ≤ B by omega)
      have m25 : (H + hat o B i) % 25 < 25 := Nat.mod_lt _ (by decide)
      have eh : o_X12_hourAt s (nI H) (nI i) (nI B) (nI o) = some (nI (H + hat o B i)) := by
        unfold o_X12_hourAt hat
        rw [nI_sub (show i ≤ B by omega), pk_div (show i < 2 ^ 31 by omega) (by decide) (by decide), pk_div (show B - i < 2 ^ 31 by omega) (by decide) (by decide), nI_add, nI_add]
        match o, ho with
        | 0, _ => rw [if_pos nI_0, if_pos rfl]
        | 1, _ => rw [if_neg (by decide), if_neg (by decide)]
        | o + 2, h => exact absurd h (by omega)
      have et : o_X12_tideOf s (nI (H + hat o B i)) = some (s.2.1 (73 + (H + hat o B i) % 25)) := by
        unfold o_X12_tideOf
        rw [irm_n (by omega) (by decide) (by decide), nI_add, if_pos (iL_t (by omega) (by decide)), gW_n _ (by omega)]
      unfold o_X12_hour at *
      rw [o_X12_touches_6, if_neg (nI_ngt (by omega) (by omega) (by omega)), if_pos (show (nI 0 : Int32) = 0 from nI_0), nI_add 1 i, if_pos (iL_t (show 1 + i < 22216 by omega) (by decide))]
      unfold o_X12_hour
      rw [Option.bind_some, gW_n _ (show 0 < 2 ^ 31 by decide), h0, eh, Option.bind_some, et, Option.bind_some, gW_n _ (by omega), nI_add, ih0, ih1]
      by_cases p : y ≤ s.2.1 (1 + i) + s.2.1 (73 + (H + hat o B i) % 25)
      · rw [if_pos p]
        by_cases p2 : ∀ j, i + 1 ≤ j → j ≤ B → okc (fun q => s.2.1 (1 + q)) s.2.1 y B H o j
        · rw [ifc_pos p2, ifc_pos (fun j j1 j2 => by
            by_cases e : j = i
            · subst e; exact p
            · exact p2 j (by omega) j2)]
        · rw [ifc_neg p2, ifc_neg (fun g => p2 (fun j j1 j2 => g j (by omega) j2))]
      · rw [if_neg p, ifc_neg (fun g => p (g i (Nat.le_refl _) (by omega)))]
/-- a ship touches, or not -/
noncomputable def vT (v : Nat → Int32) (k : Nat) (P : Prop) : Nat → Int32 := ifc P v (upd (upd v (1212 + 18 * k + 16) (v (1212 + 18 * k + 16) + nI 1)) 2655 (v 2655 + nI 1))
noncomputable def cT_ (c : cS) (k : Nat) (P : Prop) : cS := ifc P c (cp c (50 + k) 18 (c.1 (50 + k) 18 + nI 1))
theorem o_touches (hF : 25 ≤ F) (hk : k < 80) (hB : B < 24) (hH : H < 40000) (ho : o < 2) (h0 : s.2.1 0 = nI H) : ∃ s', o_X12_touches F s (nI k) y (nI B) (nI o) = some s' ∧ s'.1 = s.1 ∧ s'.2.2 = s.2.2 ∧ s'.2.1 = vT s.2.1 k (sfe (fun q => s.2.1 (1 + q)) s.2.1 y B H o) := by
  unfold o_X12_touches vT
  rw [(tch_loop (F := F) (k := k) (y := y) hB hH ho h0 (B + 1) 0 F (by omega) (by omega)).2, Option.bind_some]
  by_cases p : sfe (fun q => s.2.1 (1 + q)) s.2.1 y B H o
  · rw [ifc_pos (fun j _ j2 => p j j2), if_pos (show (nI 0 : Int32) = 0 from nI_0), ifc_pos p]
    exact ⟨s, rfl, rfl, rfl, rfl⟩
  · rw [ifc_neg (fun g => p (fun j j2 => g j (by omega) j2)), if_neg (show ¬ (nI 1 : Int32) = 0 by decide), ifc_neg p]
    unfold o_X12_shipAt
    simp only [Option.bind_some, nI_mul, nI_add]
    rw [if_pos (iL_t (show 1212 + 18 * k + 16 < 22216 by omega) (by decide)), gW_n _ (by omega), gW_pWn _ (by omega) (by decide) (by omega), gW_n _ (by decide)]
    exact ⟨_, rfl, rfl, rfl, by rw [pW_21, pW_21, nI_clamp (by omega), nI_clamp (by decide)]⟩
theorem tcs_up {z : Int32} : ∀ m, k < m → tcs (upd v (1212 + 18 * k + 16) (v (1212 + 18 * k + 16) + z)) m = tcs v m + z := by
  intro m
  induction m with
  | zero => intro h; omega
  | succ m ih =>
    intro h
    rw [tcs, tcs]
    by_cases e : k = m
    · subst e
      rw [upd_s, tcs_same (v := v) k (fun i hi => upd_n (by omega)), Int32.add_assoc]
    · rw [upd_n (by omega), ih (by omega), Int32.add_assoc, Int32.add_comm z, ← Int32.add_assoc]
theorem RB.touched {P : Prop} (h : RB τ n c 10 v) (hI : LI τ n) (hk : k < N (v 1211)) : RB τ n (cT_ c k P) 10 (vT v k P) := by
  unfold cT_ vT
  by_cases p : P
  · rw [ifc_pos p, ifc_pos p]; exact h
  · rw [ifc_neg p, ifc_neg p]
    have n12 := h.n1211.2
    have e18 : c.1 (50 + k) 18 = v (1212 + 18 * k + 16) := by rw [show 50 + k = 10 + 40 + k by omega]; exact h.shp k hk 18 16 rfl
    rw [e18]
    have x1 := h.x.ship (f := 18) (g := 16) (y := v (1212 + 18 * k + 16) + nI 1) hI hk rfl (rg_any (rg_s (f := 16) (show k < 80 by omega) (by decide)))
    have x2 := x1.ref (k := 2655) (y := v 2655 + nI 1) (Or.inl rfl) (rg_any rfl)
    refine x2.rb ?_
    have C := h.cr
    have r := h.rg
    have b := r.b
    have C1 : Cr (upd (upd v (1212 + 18 * k + 16) (v (1212 + 18 * k + 16) + nI 1)) 2655 (v 2655 + nI 1)) := by
      generalize ev : upd (upd v (1212 + 18 * k + 16) (v (1212 + 18 * k + 16) + nI 1)) 2655 (v 2655 + nI 1) = v'
      have hu : ∀ q, q ≠ 2655 → q ≠ 1212 + 18 * k + 16 → v' q = v q := fun q h1 h2 => by rw [← ev, upd_n h1, upd_n h2]
      refine Cr.mk (C.ld_s (hu _ (by omega) (by omega)) (fun q _ _ => hu q (by omega) (by omega))) (C.cr_s r (fun q _ _ => hu q (by omega) (by omega))) ?_ ?_ ?_ (C.sd_s r (hu _ (by omega) (by omega)) (fun q _ _ => hu q (by omega) (by omega))) (C.ev_s r (hu _ (by omega) (by omega)) (fun q _ _ => hu q (by omega) (by omega))) ?_ (C.zp_s (fun q _ _ => hu q (by omega) (by omega))) ?_ (C.zb_s (fun q _ _ => hu q (by omega) (by omega))) (C.oe_s (hu _ (by omega) (by omega)) (fun q _ _ => hu q (by omega) (by omega)))
      · intro i hi
        rw [hu 999 (by omega) (by omega)] at hi
        rw [hu _ (by omega) (by omega), hu 1211 (by omega) (by omega)]
        rcases C.hs i hi with q | ⟨k', q1, q2, q3, q4, q5⟩
        · exact Or.inl q
        · exact Or.inr ⟨k', q1, q2, by rw [hu _ (by omega) (by omega)]; exact q3, by rw [hu _ (by omega) (by omega)]; exact q4, by rw [hu _ (by omega) (by omega)]; exact q5⟩
      · intro k' hk'
        rw [hu 1211 (by omega) (by omega)] at hk'
        rw [hu (1212 + 18 * k' + 9) (by omega) (by omega), hu (1212 + 18 * k' + 10) (by omega) (by omega), hu 999 (by omega) (by omega)]
        intro q1 q2
        obtain ⟨i, p1, p2, p3⟩ := C.sh k' hk' q1 q2
        exact ⟨i, p1, p2, by rw [hu _ (by omega) (by omega)]; exact p3⟩
      · intro k' hk'
        rw [hu 1211 (by omega) (by omega)] at hk'
        rw [hu _ (by omega) (by omega), hu 1090 (by omega) (by omega)]
        exact C.ow k' hk'
      · rw [hu 1211 (by omega) (by omega), ← ev, upd_s, tcs_same (v := upd v (1212 + 18 * k + 16) (v (1212 + 18 * k + 16) + nI 1)) _ (fun i hi => upd_n (by omega)), tcs_up _ hk, C.tc]
      · intro k' q1 q2
        rw [hu 1211 (by omega) (by omega)] at q1
        rw [hu _ (by omega) (by omega), hu _ (by omega) (by omega), hu _ (by omega) (by omega)]
        exact C.zs k' q1 q2
    exact C1
/-- a pilot is busy for so many hours -/
def cPil (c : cS) : Nat → cS
  | 0 => c
  | j + 1 => cp (cPil c j) 130 j (c.1 130 j + nI 1)
theorem cPil_o {q : Nat} (h : q ≠ 130) : ∀ m, (cPil c m).1 q = c.1 q := by
  intro m
  induction m with
  | zero => rfl
  | succ m ih => rw [cPil, cp_1 _ h, ih]
theorem cPil_2 : ∀ m, (cPil c m).2 = c.2 := by
  intro m
  induction m with
  | zero => rfl
  | succ m ih => rw [cPil, cp_2, ih]
theorem cPil_q (j : Nat) : ∀ m, (cPil c m).1 130 j = if j < m then c.1 130 j + nI 1 else c.1 130 j := by
  intro m
  induction m with
  | zero => rw [if_neg (by omega)]; rfl
  | succ m ih =>
    rw [cPil, cp_q]
    by_cases e : j = m
    · subst e; rw [upd_s, if_pos (by omega)]
    · rw [upd_n e, ih]
      by_cases e2 : j < m
      · rw [if_pos e2, if_pos (by omega)]
      · rw [if_neg e2, if_neg (by omega)]
theorem tp_loop {L : Nat} (hL : L ≤ 4) : ∀ (r j f : Nat), j + r = L → r < f → o_X5_takePilot_2 F τ n 10 (nI L) f (nI j) (cPil c j) = some (cPil c L) := by
  intro r
  induction r with
  | zero =>
    intro j f hj hf
    obtain ⟨f, rfl⟩ : ∃ x, f = x + 1 := ⟨f - 1, by omega⟩
    rw [o_X5_takePilot_2, if_pos (nI_yes (by omega) (by omega) (by omega)), show j = L by omega]
  | succ r ih =>
    intro j f hj hf
    obtain ⟨f, rfl⟩ : ∃ x, f = x + 1 := ⟨f - 1, by omega⟩
    rw [o_X5_takePilot_2, if_neg (nI_no (by omega) (by omega) (by omega)), if_neg (nI_no (by decide) (by omega) (by omega)), if_pos (iL_t (show j < 4 by omega) (by decide)), nI_add j 1, ca_n _ _ (by omega), cg_n _ _ (by omega), show (10 + 120 : Nat) = 130 from rfl, cPil_q, if_neg (by omega)]
    exact ih (j + 1) f (by omega) (by omega)
theorem o_takeP {e : Nat} (hF : 6 ≤ F) (he : e < 4) : o_X5_takePilot F τ n 10 c (nI (e + 1)) = some (cPil c (e + 1)) := by
  have := tp_loop (F := F) (τ := τ) (n := n) (c := c) (show e + 1 ≤ 4 by omega) (e + 1) 0 F (Nat.zero_add _) (by omega)
  unfold o_X5_takePilot
  rw [show cPil c 0 = c from rfl] at this
  rw [this, Option.bind_some]
theorem o_pilots {q : Nat} (hq : q < 24) (hH : H ≤ 30000) (h0 : s.2.1 0 = nI H) : o_X12_pilots s (nI q) = some (pW s (nI (1082 + (H + q / 6) % 8)) (s.2.1 (1082 + (H + q / 6) % 8) + nI 1)) := by
  have m8 : (H + q / 6) % 8 < 8 := Nat.mod_lt _ (by decide)
  unfold o_X12_pilots o_X12_hour
  rw [Option.bind_some, gW_n _ (by decide), h0, pk_div (by omega) (by decide) (by decide), nI_add, irm_n (by omega) (by decide) (by decide), nI_add, if_pos (iL_t (by omega) (by decide)), gW_n _ (by omega)]
theorem RX.piloted {e : Nat} (h : RX τ n c 10 v) (hI : LI τ n) (h0 : v 0 = nI H) (hH : H ≤ 30000) (he : e < 4) : RX τ n (cPil c (e + 1)) 10 (upd v (1082 + (H + e) % 8) (v (1082 + (H + e) % 8) + nI 1)) := by
  have m8 : (H + e) % 8 < 8 := Nat.mod_lt _ (by decide)
  have hu : ∀ q, q < 1082 ∨ 1090 ≤ q → upd v (1082 + (H + e) % 8) (v (1082 + (H + e) % 8) + nI 1) q = v q := fun q hq => upd_n (by omega)
  have hc : ∀ o, o ≠ 120 → (cPil c (e + 1)).1 (10 + o) = c.1 (10 + o) := fun o ho => cPil_o (by omega) _
  have h2 : (cPil c (e + 1)).2 = c.2 := cPil_2 _
  have hw : Nw c (cPil c (e + 1)) := ⟨fun q hq => cPil_o (by omega) _, fun q _ => by rw [h2]⟩
  have ho8 : ∀ o j', ∀ q, wk q = some (o, j') → o ≠ 120 := fun o j' q hq => by
    have := wk_no hq
    omega
  refine RX.mk (h.rg.put (rg_any (rg_82 _ m8))) ?_ (h.ber_s (fun q _ _ => hu q (by omega)) (fun o _ _ j _ => by rw [hc o (by omega)])) (h.shp_s (fun q _ _ => hu q (by omega)) (fun o _ _ => hc o (by omega))) (h.bak_s (fun q _ _ => hu q (by omega)) (fun o _ _ => hc o (by omega))) (h.law_s (fun q _ _ => hu q (by omega)) (hu _ (by omega)) (fun o _ _ => by rw [h2]) (by rw [h2])) (h.txt_s (fun q _ _ => hu q (by omega)) (hc 25 (by omega)) (by rw [h2]) (hw.as hI)) (h.prp_s (fun q _ _ => hu q (by omega)) (hu _ (by omega)) (by rw [h2]) (hw.as hI)) (h.snd_s (hu _ (by omega)) (fun q _ _ => hu q (by omega)) (hc 16 (by omega))) ?_
  · intro q o j hq
    have wb := wk_bsu hq
    rw [hu q (by omega), ← h.pl q o j hq, hc o (ho8 o j q hq)]
  · have N0 : N (v 0) = H := by rw [h0, N_nI (by omega)]
    have b8 : ∀ d, d < 8 → bz8 (upd v (1082 + (H + e) % 8) (v (1082 + (H + e) % 8) + nI 1)) d = if d = e then bz8 v e + nI 1 else bz8 v d := fun d hd => by
      unfold bz8
      rw [hu 0 (by omega), N0]
      by_cases q : d = e
      · subst q; rw [upd_s, if_pos rfl]
      · rw [if_neg q, upd_n (by omega)]
    obtain ⟨u0, u1, u2, u3, u4⟩ := h.bus
    rw [show (10 + 120 : Nat) = 130 from rfl] at u0 u1 u2 u3 ⊢
    rw [cPil_q, cPil_q, cPil_q, cPil_q, u0, u1, u2, u3, b8 0 (by decide), b8 1 (by decide), b8 2 (by decide), b8 3 (by decide)]
    refine ⟨?_, ?_, ?_, ?_, fun d h4 h8 => by rw [b8 d h8, if_neg (by omega)]; exact u4 d h4 h8⟩
    all_goals (match e, he with
      | 0, _ => simp <;> ac_rfl
      | 1, _ => simp <;> ac_rfl
      | 2, _ => simp <;> ac_rfl
      | 3, _ => simp <;> ac_rfl
      | e + 4, h => exact absurd h (by omega))
end LV1
