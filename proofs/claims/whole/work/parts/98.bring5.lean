/-! THE PURE LAYER: bringing in, kind 29 -/
section ST29
variable {F : Nat} {x : Nat → Int32} {τ : cT} {n : Nat} {c : cS} {s : rs_S} {v : Nat → Int32}
theorem o_begB (hF : 17 ≤ F) : ∃ c', o_X4_beginBringing F τ n 10 c = some c' ∧ (∀ a, a ≠ 141 → a ≠ 176 → c'.1 a = c.1 a) ∧ (∀ j, j ≠ 7 → c'.1 141 j = c.1 141 j) ∧ c'.1 141 7 = nI 0 ∧ c'.2 = c.2 ∧ c'.1 176 0 = nI 0 ∧ (∀ T, 1 ≤ T → T < 16 → c'.1 176 T = nI 1000000) := by
  obtain ⟨c1, a1, a2, a3, a4⟩ := o_filR (F := F) (τ := τ) (n := n) (q := 176) (m := 16) (c := cp c 141 7 (nI 0)) (y := nI 1000000) (by omega) (by decide)
  refine ⟨cp c1 176 0 (nI 0), ?_, fun a h1 h2 => ?_, fun j hj => ?_, ?_, a3, ?_, fun T h1 h2 => ?_⟩
  · unfold o_X4_beginBringing
    rw [show (10 + 166 : Nat) = 176 from rfl, show (10 + 131 : Nat) = 141 from rfl, a1, Option.bind_some, ca_n _ _ (by decide)]
  · rw [cp_1 _ h2, a2 _ h2, cp_1 _ h1]
  · rw [cp_1 141 (by decide), a2 141 (by decide), cp_q, upd_n hj]
  · rw [cp_1 141 (by decide), a2 141 (by decide), cp_q, upd_s]
  · rw [cp_q, upd_s]
  · rw [cp_q, upd_n (by omega)]; exact a4 T h2
/-- a cell of the class's own reckoning, and how many wait -/
theorem RX.w141 {c' : cS} (h : RX τ n c 10 v) (hI : LI τ n) (h1 : ∀ a, a < 145 → a ≠ 141 → c'.1 a = c.1 a) (h2 : ∀ j, j ≠ 7 → c'.1 141 j = c.1 141 j) (h3 : ∀ a, 180 ≤ a → c'.1 a = c.1 a) (h4 : c'.2 = c.2) : RX τ n c' 10 v := by
  have e := (h.w7 (y := c'.1 141 7) hI).cz hI (c' := c') ⟨fun a j k1 k2 => ?_, h4⟩
  · exact e
  · by_cases g : a = 141
    · subst g
      rw [cp_q]
      by_cases g2 : j = 7
      · subst g2; rw [upd_s]
      · rw [upd_n g2]; exact h2 j g2
    · rw [cp_1 _ g]
      rcases k1 with k1 | k1
      · rw [h1 a k1 g]
      · rw [h3 a k1]
/-- all that the class does before it joins berths -/
theorem o_brC {kk d w : Nat} {C : Int32} {R : Nat → Nat} (hF : 30000 ≤ F) (hI : LI τ n) (h : RX τ n c 10 v) (hk : kk < 4) (hd : d < 2) (sr : SR v kk d (N (v 1211)) w R) : ∃ c1 c2 c3 c4, o_X2_fillDepths F τ n 10 c = some c1 ∧ o_X4_beginBringing F τ n 10 c1 = some c2 ∧ o_X5_nextInTurn F τ n 10 c2 (-1) (nI (kk + 4 * d)) = some (if 0 < w then nI (R 0) else -1) ∧ o_X2_leastToBringIn_44 F τ n 10 (nI (kk + 4 * d)) C F (if 0 < w then nI (R 0) else -1) (nI 0) c2 = some c3 ∧ o_X2_leastToBringIn_95 F τ n 10 F (nI 0) c3 = some c4 ∧ RX τ n c4 10 v ∧ Nw c c4 ∧ Wt c4 v C R (min 4 w) ∧ (∀ h', h' < 25 → ∀ j, j < 24 → c4.1 (149 + h') j = wim (fun q => dp v q) v (N (v 0) + h') (j + 1)) ∧ c4.1 176 0 = nI 0 ∧ (∀ T, 1 ≤ T → T < 16 → c4.1 176 T = nI 1000000) := by
  have n0 := h.n0
  obtain ⟨c1, a1, a2, a3, a4⟩ := o_fillD (F := F) (τ := τ) (n := n) (by omega) h
  obtain ⟨c2, b1, b2, b3, b4, b5, b6, b7⟩ := o_begB (F := F) (τ := τ) (n := n) (c := c1) (by omega)
  have x2 : RX τ n c2 10 v := h.w141 hI (fun a k1 k2 => by rw [b2 a k2 (by omega), a2 a (by omega)]) (fun j hj => by rw [b3 j hj, a2 141 (by decide)]) (fun a ha => by rw [b2 a (by omega) (by omega), a2 a (by omega)]) (b5.trans a3)
  have nt := o_nit (F := F) (j := 0) (by omega) x2 hk hd sr (Nat.zero_le _)
  rw [if_pos rfl] at nt
  obtain ⟨c3, d1, d2, d3, d4, d5, d6⟩ := wt_loop (F := F) (τ := τ) (n := n) (cB := c2) (C := C) (by omega) hI hk hd sr (min 4 w) 0 F c2 (Nat.zero_add _) (by have := Nat.min_le_left 4 w; omega) x2 ⟨b4, fun k hk => by omega⟩ (fun _ _ _ _ _ => rfl) (fun _ _ => rfl) rfl
  obtain ⟨c4, f1, f2, f3, f4⟩ := wi_loop (F := F) (τ := τ) (n := n) (v := v) (cB := c3) (D := fun q => dp v q) (H := N (v 0)) (by omega) n0.2 (fun t ht => d2.tid t ht) (fun q hq => by rw [d4 178 (by decide) (by decide) (by decide) (by decide), b2 178 (by decide) (by decide)]; exact a4 q hq) ((d2.pl 0 0 0 rfl).trans n0.1) 25 0 F c3 rfl (by omega) (fun _ _ => rfl) rfl (fun h' hh => by omega)
  refine ⟨c1, c2, c3, c4, a1, b1, nt, d1, f1, d2.cz hI ⟨fun a j k1 k2 => by rw [f2 a (by omega)], f3⟩, ?_, ⟨?_, fun k hk => ?_⟩, f4, ?_, fun T t1 t2 => ?_⟩
  · refine ⟨fun q hq => ?_, fun q hq => ?_⟩
    · rw [f2 q (by omega), d4 q (by omega) (by omega) (by omega) (by omega), b2 q (by omega) (by omega), a2 q (by omega)]
    · rw [f3, d6, b5, a3]
  · rw [f2 141 (by decide)]; exact d3.1
  · rw [f2 145 (by decide), f2 146 (by decide), f2 147 (by decide)]; exact d3.2 k hk
  · rw [f2 176 (by decide), d4 176 (by decide) (by decide) (by decide) (by decide)]; exact b6
  · rw [f2 176 (by decide), d4 176 (by decide) (by decide) (by decide) (by decide)]; exact b7 T t1 t2
theorem Rg.b1 {i : Nat} (r : Rg v) (hi : i < 10) : v (1000 + 8 * i + 1) = nI (N (v (1000 + 8 * i + 1))) ∧ N (v (1000 + 8 * i + 1)) ≤ 900 := by
  have := r.nat (k := 1000 + 8 * i + 1) (hi := 900) (rg_b (f := 1) hi (by decide))
  exact ⟨this.1, by omega⟩
theorem Rg.b2 {i : Nat} (r : Rg v) (hi : i < 10) : v (1000 + 8 * i + 2) = nI (N (v (1000 + 8 * i + 2))) ∧ N (v (1000 + 8 * i + 2)) ≤ 500 := by
  have := r.nat (k := 1000 + 8 * i + 2) (hi := 500) (rg_b (f := 2) hi (by decide))
  exact ⟨this.1, by omega⟩
theorem Rg.s2 {i : Nat} (r : Rg v) (hi : i < 80) : v (1212 + 18 * i + 2) = nI (N (v (1212 + 18 * i + 2))) ∧ N (v (1212 + 18 * i + 2)) ≤ 20000 := by
  have := r.nat (k := 1212 + 18 * i + 2) (hi := 20000) (rg_s (f := 2) hi (by decide))
  exact ⟨this.1, by omega⟩
theorem Rg.s3 {i : Nat} (r : Rg v) (hi : i < 80) : v (1212 + 18 * i + 3) = nI (N (v (1212 + 18 * i + 3))) ∧ N (v (1212 + 18 * i + 3)) ≤ 900 := by
  have := r.nat (k := 1212 + 18 * i + 3) (hi := 900) (rg_s (f := 3) hi (by decide))
  exact ⟨this.1, by omega⟩
theorem Rg.s4 {i : Nat} (r : Rg v) (hi : i < 80) : v (1212 + 18 * i + 4) = nI (N (v (1212 + 18 * i + 4))) ∧ N (v (1212 + 18 * i + 4)) ≤ 80 := by
  have := r.nat (k := 1212 + 18 * i + 4) (hi := 80) (rg_s (f := 4) hi (by decide))
  exact ⟨this.1, by omega⟩
theorem Rg.b6 {i : Nat} (r : Rg v) (hi : i < 10) : v (1000 + 8 * i + 6) = -1 ∨ (¬ v (1000 + 8 * i + 6) = -1 ∧ ¬ v (1000 + 8 * i + 6) < 0) := by
  rcases r.opt (k := 1000 + 8 * i + 6) (hi := 79) (rg_b (f := 6) hi (by decide)) with e | ⟨e1, e2⟩
  · exact Or.inl e
  · refine Or.inr ⟨?_, ?_⟩
    · rw [e1]; exact nI_nm1 (by omega)
    · rw [e1]; exact nI_pos (by omega)
theorem st29 (hF : 30000 ≤ F) (hI : LI τ n) (h : Rel τ n c s) : stp Rel F 29 x τ n c s := by
  show ∃ v c' s', o_X11_bring F τ n 0 c = some (v, c') ∧ o_X12_bring F s = some (v, s') ∧ Rel τ n c' s'
  have hb := h.b
  have rg := hb.rg
  have n0 := hb.n0
  have n9 := hb.n999
  have n12 := hb.n1211
  have h0 := h.pn (nI 0)
  obtain ⟨p, p1, p2, p3, p4⟩ := hb.lawNow (F := F) hI h.z (by omega)
  obtain ⟨kk, d, hk, hd, t1, t2⟩ := hb.trn (F := F) hI h.z (by omega)
  have lc := hb.lastC (F := F) (kd := 5) (w := nI 5) hI h.z (by omega) (by decide) (by decide)
  obtain ⟨C, hC, eC5⟩ := hb.clr hI h.z
  rw [← p2] at t1 lc
  rw [eC5] at lc
  have lr := hb.lastS (F := F) (x := nI 4) (w := nI 0) (by omega)
  rw [t2] at lr
  have lr' : o_X12_lastOf F (pN s 0 (nI 0)) (nI 4) (nI 0) = some (nI (2 * kk + d)) := by
    have := RB.lastS (F := F) (τ := τ) (n := n) (c := c) (s := pN s 0 (nI 0)) (x := nI 4) (w := nI 0) hb (by omega)
    rw [this]
    exact congrArg some t2
  obtain ⟨s1, w, R, a1, a2, a3, a4, a5⟩ := o_lines (F := F) (s := pN s 0 (nI 0)) (by omega) hk hd rg lr'
  have a5' : SR s.2.1 kk d (N (s.2.1 1211)) w R := a5
  have s1v : s1.2.1 = s.2.1 := a2.1
  obtain ⟨s2, g1, g2, g3, g4, g5⟩ := o_looks (F := F) (s := s1) (by omega) (by rw [s1v]; exact rg)
  have s2v : s2.2.1 = s.2.1 := g2.trans s1v
  generalize hm : min 4 w = m
  have m4 : m ≤ 4 := by omega
  have w80 : w ≤ 80 := by have := a5'.1; omega
  have hR : ∀ k, k < m → R k < 80 ∧ s2.2.2 3 k = nI (R k) := fun k hk => ⟨by have := (a5'.2.1 k (by omega)).1; omega, by rw [g4 3 (by decide)]; exact a4 k (by omega)⟩
  have e26 : s2.1 6 = nI w := by rw [g3]; exact a3
  -- the class
  obtain ⟨c1, c2, c3, c4, f1, f2, f3, f4, f5, f6, f7, f8, f9, f10, f11⟩ := o_brC (F := F) (C := nI C) hF hI hb.x hk hd a5'
  rw [hm] at f8
  obtain ⟨nb, hnb⟩ : ∃ nb, N (s.2.1 999) = nb := ⟨_, rfl⟩
  rw [hnb] at n9
  have nb10 : nb ≤ 10 := n9.2
  -- the reference's rows
  have hcl : ∀ s' : rs_S, s'.2.1 = s2.2.1 → o_X12_clearance F s' = some (nI C) := fun s' e => by
    rw [R_clr (c := c) (τ := τ) (n := n) (s := s') (by rw [e, s2v]; exact hb) (by omega), e, s2v, eC5]
  obtain ⟨s3, i1, i2, i3, i4, i5, i6⟩ := bb_loop (F := F) (m := m) (nb := nb) (H := N (s.2.1 0)) (sB := s2) (C := nI C) (R := R) (by omega) m4 nb10 (by rw [s2v]; exact n9.1) hR (fun b hb' => ⟨_, (rg.nw9 (B := 0) (show b < 10 by omega)).2, by rw [s2v]; exact (rg.nw9 (B := 0) (show b < 10 by omega)).1⟩) (by rw [s2v]; exact n0.1) n0.2 hcl nb 0 F s2 (Nat.zero_add _) (by omega) ⟨rfl, rfl, fun _ _ _ => rfl⟩
  have s3v : s3.2.1 = s.2.1 := i2.1.trans s2v
  generalize htn : (fun k => N (s.2.1 (1212 + 18 * R k + 2))) = tn
  generalize hln : (fun k => N (s.2.1 (1212 + 18 * R k + 3))) = ln
  generalize hbc : (fun b => N (s.2.1 (1000 + 8 * b + 0))) = bc
  generalize hbl : (fun b => N (s.2.1 (1000 + 8 * b + 1))) = bl
  generalize hbr : (fun b => N (s.2.1 (1000 + 8 * b + 2))) = br
  generalize hsh : (fun b => decide (¬ s.2.1 (1000 + 8 * b + 5) < nI 240)) = sh
  generalize hfr : (fun b => if s.2.1 (1000 + 8 * b + 6) = -1 then 1 else 24) = fr
  have etn : ∀ k, k < m → s.2.1 (1212 + 18 * R k + 2) = nI (tn k) ∧ tn k ≤ 20000 := fun k hk => by rw [← htn]; exact rg.s2 (hR k hk).1
  have eln : ∀ k, k < m → s.2.1 (1212 + 18 * R k + 3) = nI (ln k) ∧ ln k < 2 ^ 31 := fun k hk => by
    rw [← hln]
    have := rg.s3 (hR k hk).1
    exact ⟨this.1, by show N _ < _; omega⟩
  have ebc : ∀ b, b < nb → s.2.1 (1000 + 8 * b + 0) = nI (bc b) ∧ bc b < 24 := fun b hb' => by rw [← hbc]; exact rg.nw9 (B := 0) (by omega)
  have ebl : ∀ b, b < nb → s.2.1 (1000 + 8 * b + 1) = nI (bl b) ∧ bl b < 2 ^ 31 := fun b hb' => by
    rw [← hbl]
    have := rg.b1 (show b < 10 by omega)
    exact ⟨this.1, by show N _ < _; omega⟩
  have ebr : ∀ b, b < nb → s.2.1 (1000 + 8 * b + 2) = nI (br b) ∧ 1 ≤ br b ∧ br b ≤ 500 := fun b hb' => by
    rw [← hbr]
    have := rg.b2 (show b < 10 by omega)
    exact ⟨this.1, hb.cr.cr b (by rw [hnb]; exact hb'), this.2⟩
  have esh : ∀ b, sh b = true ↔ ¬ s.2.1 (1000 + 8 * b + 5) < nI 240 := fun b => by rw [← hsh]; exact decide_eq_true_iff
  have cb : ∀ b f, b < nb → f < 8 → c4.1 (39 + b) f = s.2.1 (1000 + 8 * b + bf f) := fun b f hb' hf => f6.ber b (by rw [hnb]; exact hb') f hf
  have bq : BQ c4 m nb tn ln bc bl br fr sh := by
    refine BQ.mk m4 nb10 f8.1 ((f6.pl 999 27 1 rfl).trans n9.1) (fun k hk => ?_) (fun k hk => ?_) (fun b hb' => ?_) (fun b hb' => ?_) (fun b hb' => ?_) (fun b hb' => ?_) (fun b hb' => ?_)
    · rw [(f8.2 k hk).2.1]; exact etn k hk
    · rw [(f8.2 k hk).2.2]; exact eln k hk
    · rw [cb b 0 hb' (by decide)]; exact ebc b hb'
    · rw [cb b 1 hb' (by decide)]; exact ebl b hb'
    · rw [cb b 2 hb' (by decide)]; exact ebr b hb'
    · rw [cb b 5 hb' (by decide)]; exact esh b
    · rw [cb b 7 hb' (by decide), ← hfr]
      rcases rg.b6 (show b < 10 by omega) with e | e
      · exact Or.inl ⟨e, if_pos e⟩
      · exact Or.inr ⟨e.1, if_neg e.1⟩
  obtain ⟨c5, sv5, j1, j2, j3, j4, j5⟩ := bt_loop (F := F) (τ := τ) (n := n) (by omega) bq nb 0 F c4 (fun T => if T = 0 then 0 else 1000000) (Nat.zero_add _) (by omega) (fun _ _ => rfl) rfl (fun T hT => by
    by_cases e : T = 0
    · subst e; rw [if_pos rfl]; exact ⟨f10, by decide⟩
    · rw [if_neg e]; exact ⟨f11 T (by omega) hT, Nat.le_refl _⟩) (SV_0 (if_pos rfl) (fun T h1 _ => if_neg (by omega)) m4)
  obtain ⟨z, z1, z2⟩ := o_least (τ := τ) (n := n) (c := c5) m4 nb10 (by rw [j2 141 (by decide)]; exact f8.1) j4 fbB_le j5
  -- the reference's search
  have sq : SQ (pN s3 22 (-1)) m nb tn bc br := by
    refine SQ.mk m4 nb10 (by rw [← n9.1]; exact congrFun s3v 999) (fun k hk => ⟨R k, (hR k hk).1, ?_, ?_, (etn k hk).2⟩) (fun b hb' => ?_) (fun b hb' => ?_)
    · show s3.2.2 3 k = _
      rw [i2.2.2 3 (by decide) (by decide)]; exact (hR k hk).2
    · show s3.2.1 _ = _
      rw [s3v]; exact (etn k hk).1
    · show s3.2.1 _ = _ ∧ _
      rw [s3v]; exact ebc b hb'
    · show s3.2.1 _ = _ ∧ _
      rw [s3v]; exact ebr b hb'
  have fre : Fre (pN s3 22 (-1)) nb fr := fun b hb' => by
    show ∃ g, s3.2.2 8 b = nI g ∧ _
    rw [i3 b (Nat.zero_le _) hb', s2v, ← hfr]
    rcases rg.b6 (show b < 10 by omega) with e | e
    · rw [e, if_pos (show (-1 : Int32) < 0 by decide)]
      exact ⟨0, rfl, by decide, by show max 1 0 = if s.2.1 (1000 + 8 * b + 6) = -1 then 1 else 24; rw [if_pos e]; rfl⟩
    · rw [if_neg e.2]
      exact ⟨24, rfl, by decide, by show max 1 24 = if s.2.1 (1000 + 8 * b + 6) = -1 then 1 else 24; rw [if_neg e.1]; rfl⟩
  have pm : 2 ^ m - 1 < 2 ^ m := Nat.sub_lt (Nat.pow_pos (by decide)) (by decide)
  have p16 := (x_m (S := 2 ^ m - 1) m4 pm)
  obtain ⟨s4, lo', l1, l2, l3, l4, l5, l6⟩ := o_search (F := F) (by omega) sq 8 (2 ^ m - 1) 0 fr (pN s3 22 (-1)) none pm (by have := p16.2.1; omega) (by have := p16.2.1; omega) E8.refl fre (pN_s _ _ _) (fun l e => by cases e)
  have fr1 : ∀ b, b < nb → 1 ≤ fr b := fun b _ => by
    rw [← hfr]
    show 1 ≤ if _ then _ else _
    split <;> decide
  have hfb : ∀ b k a, b < nb → 1 ≤ a → k < m → fbR (pN s3 22 (-1)) b k a = fbB c4 tn ln bc bl br sh b k a := fun b k a hb' ha hk => by
    have s4' := rg.s4 (hR k hk).1
    refine fb_eq (s := pN s3 22 (-1)) (sB := s2) (C := nI C) (H := N (s.2.1 0)) (R := R) ha (fun h' hh j hj => ?_) ?_ ?_ ?_ ?_ ?_ ?_ (fun h' q1 q2 => ?_)
    · rw [f9 h' hh j hj]
      have wc : ∀ (mm : Nat), mm ≤ 24 → wim (fun q => dp s.2.1 q) s.2.1 (N (s.2.1 0) + h') mm = wim (s2.2.2 2) s2.2.1 (N (s.2.1 0) + h') mm := by
        intro mm
        induction mm with
        | zero => intro _; rfl
        | succ mm ih => intro hmm; rw [wim, wim, ih (by omega), g5 mm (by omega), s2v, s1v]
      exact wc _ (by omega)
    · rw [(f8.2 k hk).1, s2v]
    · rw [s2v, s4'.1, nI_add]; exact nI_yes (by omega) (by decide) (by omega)
    · rw [s2v]; exact eln k hk
    · rw [s2v]; exact ebc b hb'
    · rw [s2v]; exact ebl b hb'
    · rw [s2v]; exact esh b
    · exact i5 b k h' (Nat.zero_le _) hb' hk q1 q2
  have hdu1 : ∀ b k a, b < nb → k < m → fbB c4 tn ln bc bl br sh b k a ≠ none → duB tn ln bc bl br b k = duR tn bc br b k ∧ 1 ≤ duR tn bc br b k := fun b k a hb' hk hne => by
    unfold fbB fbC at hne
    by_cases q : sh b = true
    · rw [if_pos q] at hne; exact absurd rfl hne
    · rw [if_neg q] at hne
      by_cases q2 : bl b < ln k
      · rw [if_pos (show hdu (bl b) (br b) (bc b) tn ln k = 0 by unfold hdu; rw [if_pos q2])] at hne; exact absurd rfl hne
      · unfold duB duR hdu
        rw [if_neg q2]
        exact ⟨rfl, Nat.le_trans (by decide : 1 ≤ 6) (Nat.le_add_left _ _)⟩
  have ab : ∀ t, Ab m (fbR (pN s3 22 (-1))) (duR tn bc br) fr nb (2 ^ m - 1) t ↔ Ab m (fbB c4 tn ln bc bl br sh) (duB tn ln bc bl br) fr nb (2 ^ m - 1) t := fun t => ⟨fun g => Ab_cong nb _ _ fr1 (fun b k a hb' ha hk => (hfb b k a hb' ha hk).symm) (fun b k a hb' hk ha hne => hdu1 b k a hb' hk (by rw [← hfb b k a hb' ha hk]; exact hne)) g, fun g => Ab_cong nb _ _ fr1 hfb (fun b k a hb' hk ha hne => ⟨(hdu1 b k a hb' hk hne).1.symm, by rw [(hdu1 b k a hb' hk hne).1]; exact (hdu1 b k a hb' hk hne).2⟩) g⟩
  have ez : z = eC lo' := by
    obtain ⟨u1, u2, u3⟩ := l6
    rcases z2 with ⟨y1, y2⟩ | ⟨t, y1, y2, y3, y4⟩
    · rw [y1]
      rcases u1 with e | ⟨q, ⟨t, q1, q2⟩, e⟩
      · rw [e]; rfl
      · exact absurd ((ab t).mp q1) (y2 t)
    · rw [y2]
      obtain ⟨l, e1, e2⟩ := u2 (0 + t) ⟨t, (ab t).mpr y3, rfl⟩
      rcases u1 with e | ⟨q, ⟨t', q1, q2⟩, e⟩
      · rw [e] at e1; cases e1
      · have y5 := y4 t' ((ab t').mp q1)
        rw [e] at e1
        injection e1 with e1
        have : q = t := by omega
        rw [e, this]; rfl
  refine ⟨z, c5, s4, ?_, ?_, ?_⟩
  · unfold o_X11_bring o_X2_leastToBringIn
    rw [show (0 + 10 : Nat) = 10 from rfl, p1, Option.bind_some, if_pos p3, t1, Option.bind_some, lc, Option.bind_some, f1, Option.bind_some, f2, Option.bind_some, f3, Option.bind_some, f4, Option.bind_some, f5, Option.bind_some, j1, Option.bind_some, z1, Option.bind_some, Option.bind_some]
  · unfold o_X12_bring
    rw [a1, Option.bind_some, g1, Option.bind_some, e26, mni_n (by decide) (by omega), hm, i1, Option.bind_some]
    unfold o_brB
    rw [Nat.xor_self] at l1
    rw [l1, Option.bind_some, l4, ez]
  · have sy : Sy (pN s 0 (nI 0)) s4 := by
      refine ⟨?_, fun j hj => ?_, fun k hk => ?_⟩
      · rw [l2.1]; exact s3v
      · rw [l2.2.1 j (by omega), pN_n (by omega), i2.2.1, g3, a2.2.1 j (by omega)]
      · rw [l2.2.2 k (by omega)]
        show s3.2.2 k = _
        rw [i2.2.2 k (by omega) (by omega), g4 k (by omega), a2.2.2 k (by omega)]
    have x5 : RX τ n c5 10 s.2.1 := f6.cz hI ⟨fun a j k1 k2 => by rw [j2 a (by omega)], j3⟩
    have nw5 : Nw c c5 := f7.trans ⟨fun q hq => by rw [j2 q (by omega)], fun q _ => by rw [j3]⟩
    exact h0.now hI nw5 (by rw [sy.1]; exact x5.rb hb.cr) (fun j hj => sy.2.1 j (by omega)) (fun j hj => sy.2.2 j (by omega))
end ST29
