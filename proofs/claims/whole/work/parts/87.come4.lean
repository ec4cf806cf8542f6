/-! THE PURE LAYER: coming in, the whole -/
section CM4
variable {F : Nat} {τ : cT} {n k i m B H o p b C d kk w j : Nat} {c c' c0 : cS} {s s' s0 : rs_S} {v v' D vs : Nat → Int32} {y M : Int32} {R : Nat → Nat}
theorem okc_v {q : Nat} (h : ∀ q, 73 ≤ q → q < 98 → v' q = v q) : okc D v' y B H o q ↔ okc D v y B H o q := by
  unfold okc
  have m25 : (H + hat o B q) % 25 < 25 := Nat.mod_lt _ (by decide)
  rw [h _ (by omega) (by omega)]
theorem sfe_v (h : ∀ q, 73 ≤ q → q < 98 → v' q = v q) : sfe D v' y B H o ↔ sfe D v y B H o := by
  unfold sfe
  exact ⟨fun g q hq => (okc_v h).mp (g q hq), fun g q hq => (okc_v h).mpr (g q hq)⟩
theorem wim_v (h : ∀ q, 73 ≤ q → q < 98 → v' q = v q) : ∀ m, wim D v' H m = wim D v H m := by
  intro m
  induction m with
  | zero => rfl
  | succ m ih =>
    have m25 : (H + m / 6) % 25 < 25 := Nat.mod_lt _ (by decide)
    rw [wim, wim, ih, h _ (by omega) (by omega)]
theorem sk_loop {l : Int32} (h6 : s.1 6 = nI w) (hw : w ≤ 80) (h3 : ∀ i, i < w → s.2.2 3 i = nI (R i)) : ∀ (r j f : Nat), j + r ≤ w → r < f → (∀ i, j ≤ i → i < j + r → o_X12_comes F s (nI (R i)) = some s) → o_X12_anHour_124 F l f (nI j) s = o_X12_anHour_124 F l (f - r) (nI (j + r)) s := by
  intro r
  induction r with
  | zero => intro j f _ _ _; rfl
  | succ r ih =>
    intro j f hj hf hs
    obtain ⟨f, rfl⟩ : ∃ x, f = x + 1 := ⟨f - 1, by omega⟩
    rw [o_X12_anHour_124, h6, if_neg (nI_no (by omega) (by omega) (by omega)), if_pos (iL_t (show j < 80 by omega) (by decide)), gR_n _ _ (by omega), h3 j (by omega), hs j (Nat.le_refl _) (by omega), Option.bind_some, nI_add, ih (j + 1) f (by omega) (by omega) (fun i h1 h2 => hs i (by omega) (by omega)), show f + 1 - (r + 1) = f - r by omega, show j + 1 + r = j + (r + 1) by omega]
theorem sk_all {l : Int32} (h6 : s.1 6 = nI w) (hw : w ≤ 80) (h3 : ∀ i, i < w → s.2.2 3 i = nI (R i)) {f : Nat} (hj : j ≤ w) (hf : w - j < f) (hs : ∀ i, j ≤ i → i < w → o_X12_comes F s (nI (R i)) = some s) : o_X12_anHour_124 F l f (nI j) s = some s := by
  rw [sk_loop h6 hw h3 (w - j) j f (by omega) hf (fun i h1 h2 => hs i h1 (by omega))]
  obtain ⟨g, hg⟩ : ∃ x, f - (w - j) = x + 1 := ⟨f - (w - j) - 1, by omega⟩
  rw [hg, o_X12_anHour_124, h6, if_pos (nI_yes (by omega) (by omega) (by omega))]
theorem cm_non (hF : 30000 ≤ F) (h : PH τ n c0 s0 c s H D) (hC : lo s.2.1 (N (s.2.1 2811)) (nI 5) (nI 5) = nI C) (hk : k < N (s.2.1 1211)) (hn : ∀ b, b < N (s.2.1 999) → ¬ cnB D s.2.1 H C k b) : o_X12_comes F s (nI k) = some s := by
  obtain ⟨z, _, f2, _⟩ := o_free (F := F) (by omega) h.rb.x
  unfold o_X12_comes
  rw [f2, Option.bind_some]
  by_cases q : z = 0
  · rw [if_pos q]
  · rw [if_neg q]
    rcases cm_loop hF h hC hk _ 0 F (Nat.zero_add _) (by have := h.rb.n999.2; omega) (fun b hb => by omega) with ⟨_, e⟩ | ⟨b, B, e, _⟩
    · rw [e, Option.bind_some]; rfl
    · exact absurd e.2.1 (hn b e.1)
theorem cm_zero {z : Int32} (f2 : o_X12_freePilots F s = some z) (hz : z = 0) : o_X12_comes F s (nI k) = some s := by
  unfold o_X12_comes
  rw [f2, Option.bind_some, if_pos hz]
theorem ci_main (hF : 30000 ≤ F) (hI : LI τ n) (e0 : s0.2.1 0 = nI H) (hc : C ≤ 50) (hC : lo s0.2.1 (N (s0.2.1 2811)) (nI 5) (nI 5) = nI C) (hk4 : kk < 4) (hd2 : d < 2) (hM : -1000 ≤ M.toInt ∧ M.toInt ≤ 2000) (hSR : SR vs kk d (N (vs 1211)) w R) (h80 : N (vs 1211) ≤ 80) : ∀ (l l4 j f f' : Nat) (c : cS) (s : rs_S), l4 + l = 10 → CI τ n c0 s0 vs c s H D C kk d w R M j → cnt (fun b => s.2.1 (1000 + 8 * b + 6) = -1) (N (vs 999)) ≤ l → j ≤ w → l < f → w - j < f' → ∃ c' s', (o_X2_shipsComeIn_10 F τ n 10 (nI C) (nI (kk + 4 * d)) (M - nI C) f (nI l4) c = some (.inl c') ∨ o_X2_shipsComeIn_10 F τ n 10 (nI C) (nI (kk + 4 * d)) (M - nI C) f (nI l4) c = some (.inr c')) ∧ o_X12_anHour_124 F (nI (N (vs 1211))) f' (nI j) s = some s' ∧ PH τ n c0 s0 c' s' H D ∧ N (s'.2.1 1211) = N (vs 1211) := by
  intro l
  induction l with
  | zero =>
    intro l4 j f f' c s hl h hcn hj hf hf'
    obtain ⟨f, rfl⟩ : ∃ x, f = x + 1 := ⟨f - 1, by omega⟩
    have hC' : lo s.2.1 (N (s.2.1 2811)) (nI 5) (nI 5) = nI C := by rw [h.ph.lo e0]; exact hC
    refine ⟨c, s, Or.inl ?_, ?_, h.ph, h.n12⟩
    · rw [o_X2_shipsComeIn_10, if_pos (nI_yes (by omega) (by omega) (by omega))]
    · have w80 : w ≤ 80 := by have := hSR.1; omega
      refine sk_all h.w6 w80 h.r3 hj hf' (fun i h1 h2 => cm_non hF h.ph hC' (by rw [h.n12]; exact (hSR.2.1 i h2).1) (fun b hb e => ?_))
      rw [h.n9] at hb
      have key : ∀ m, cnt (fun b => s.2.1 (1000 + 8 * b + 6) = -1) m = 0 → ∀ b, b < m → ¬ s.2.1 (1000 + 8 * b + 6) = -1 := fun m => by
        induction m with
        | zero => intro _ b hb; omega
        | succ m ih =>
          intro e b hb
          rw [cnt] at e
          by_cases q : b = m
          · subst q
            intro g
            rw [ifc_pos g] at e
            omega
          · exact ih (by omega) b (by omega)
      exact key _ (by omega) b hb e.1.1
  | succ l ih =>
    intro l4 j f f' c s hl h hcn hj hf hf'
    obtain ⟨f, rfl⟩ : ∃ x, f = x + 1 := ⟨f - 1, by omega⟩
    have hC' : lo s.2.1 (N (s.2.1 2811)) (nI 5) (nI 5) = nI C := by rw [h.ph.lo e0]; exact hC
    have w80 : w ≤ 80 := by have := hSR.1; omega
    have rb := h.ph.rb
    obtain ⟨z, f1, f2, fz⟩ := o_free (F := F) (by omega) rb.x
    have z0 : z ≤ 0 ↔ z = 0 := by
      rw [fz]
      unfold mxi
      by_cases q : nI 0 < s.2.1 1080 - (bz8 s.2.1 0 + bz8 s.2.1 1 + bz8 s.2.1 2 + bz8 s.2.1 3)
      · rw [if_pos q]
        exact ⟨fun e => absurd q (i_nlt.mpr e), fun e => by rw [e]; exact Int32.le_refl _⟩
      · rw [if_neg q]
        exact ⟨fun _ => rfl, fun _ => by decide⟩
    rw [o_X2_shipsComeIn_10, if_neg (nI_no (by omega) (by omega) (by omega)), f1, Option.bind_some]
    by_cases q0 : z = 0
    · rw [if_pos (z0.mpr q0)]
      exact ⟨c, s, Or.inl rfl, sk_all h.w6 w80 h.r3 hj hf' (fun i _ _ => cm_zero f2 q0), h.ph, h.n12⟩
    · rw [if_neg (fun e => q0 (z0.mp e))]
      have hW : ∀ j, j < N (s.2.1 999) → c.1 (39 + j) 8 = wyn D s.2.1 H j ∧ wyn D s.2.1 H j ≤ M := fun j hj => h.wy j (by rw [← h.n9]; exact hj)
      obtain ⟨o, o1, o2⟩ := o_first (F := F) (τ := τ) (n := n) (by omega) rb.x hk4 hd2 hc hW hM
      rw [o2, Option.bind_some]
      cases o with
      | none =>
        rw [show eC none = -1 from rfl, if_pos rfl]
        refine ⟨c, s, Or.inr rfl, sk_all h.w6 w80 h.r3 hj hf' (fun i i1 i2 => cm_non hF h.ph hC' (by rw [h.n12]; exact (hSR.2.1 i i2).1) (fun b hb e => ?_)), h.ph, h.n12⟩
        exact o1 (R i) (by rw [h.n12]; exact (hSR.2.1 i i2).1) ⟨h.st i i1 i2, b, hb, e⟩
      | some t =>
        obtain ⟨t1, ⟨t2, tb, tb1, tb2⟩, t3⟩ := o1
        have t12 : t < N (vs 1211) := by rw [← h.n12]; exact t1
        rw [show eC (some t) = nI t from rfl, if_neg (nI_nm1 (by omega)), if_pos (iL_t (show t < 80 by omega) (by decide)), nI_clamp (by omega), show 10 + 39 + 1 + t = 50 + t by omega]
        obtain ⟨js, js1, js2⟩ := hSR.2.2.2 t t12 (h.wt t t12 t2)
        have jle : j ≤ js := by
          by_cases e : j ≤ js
          · exact e
          · exfalso
            refine h.no js (by omega) js1 (by rw [js2]; exact t2) tb (by rw [← h.n9]; exact tb1) ?_
            rw [js2]; exact tb2
        -- same keys
        have kyE : ∀ u, u < 80 → ky s.2.1 kk u = ky vs kk u := fun u hu => by
          unfold ky kf
          split
          · rw [h.ky u 8 hu (by decide) (by decide) (by decide) (by decide) (by decide)]
          · split
            · rw [h.ky u 2 hu (by decide) (by decide) (by decide) (by decide) (by decide)]
            · split
              · rw [h.ky u 3 hu (by decide) (by decide) (by decide) (by decide) (by decide)]
              · rw [h.ky u 1 hu (by decide) (by decide) (by decide) (by decide) (by decide)]
        have ahE : ∀ u u', u < 80 → u' < 80 → (ahd s.2.1 kk d u u' ↔ ahd vs kk d u u') := fun u u' hu hu' => by
          unfold ahd bef
          rw [kyE u hu, kyE u' hu']
        have nob : ∀ i, j ≤ i → i < js → ∀ b, b < N (s.2.1 999) → ¬ cnB D s.2.1 H C (R i) b := fun i i1 i2 b hb e => by
          have ri := (hSR.2.1 i (by omega)).1
          have a1 := hSR.2.2.1 i js i2 js1
          rw [js2] at a1
          rcases t3 (R i) (by rw [h.n12]; exact ri) ⟨h.st i i1 (by omega), b, hb, e⟩ with e2 | e2
          · rw [e2] at a1; exact ahd_irr a1
          · exact ahd_as a1 ((ahE t (R i) (by omega) (by omega)).mp e2)
        rw [sk_loop h.w6 w80 h.r3 (js - j) j f' (by omega) (by omega) (fun i i1 i2 => cm_non hF h.ph hC' (by rw [h.n12]; exact (hSR.2.1 i (by omega)).1) (nob i i1 (by omega))), show j + (js - j) = js by omega]
        obtain ⟨g, hg⟩ : ∃ x, f' - (js - j) = x + 1 := ⟨f' - (js - j) - 1, by omega⟩
        rw [hg, o_X12_anHour_124, h.w6, if_neg (nI_no (by omega) (by omega) (by omega)), if_pos (iL_t (show js < 80 by omega) (by decide)), gR_n _ _ (by omega), h.r3 js js1, js2]
        -- the berth
        obtain ⟨ob, p1, p2⟩ := o_fB (F := F) (τ := τ) (n := n) (k := t) (by omega) rb.x hc t1 (fun j hj => (hW j hj).1)
        rcases cm_loop hF h.ph hC' t1 _ 0 F (Nat.zero_add _) (by have := rb.n999.2; omega) (fun b hb => by omega) with ⟨e, _⟩ | ⟨b, B, e, eB, hB, eR⟩
        · exact absurd tb2 (e tb tb1)
        · have eo := fBo_un p1 e
          subst eo
          have hb := e.1
          have hop := e.2.1.1
          have n9 := rb.n999.2
          obtain ⟨c1, s1, a1, a2, a3, a4, a5, a6, a7, a8, a9⟩ := come1 hF hI h.ph t1 t2 hb hop.1 eB hB
          have cs : o_X12_comes F s (nI t) = some s1 := by
            unfold o_X12_comes
            rw [f2, Option.bind_some, if_neg q0, eR, a2, Option.bind_some]
            rfl
          rw [p2, Option.bind_some, show eC (some b) = nI b from rfl, a1, Option.bind_some, cs, Option.bind_some, nI_add, nI_add]
          have td : ∀ q, 73 ≤ q → q < 98 → s1.2.1 q = s.2.1 q := fun q q1 q2 => a9 q (by omega) (by omega) (by omega) (by omega) (by omega) (by omega) (by omega)
          have bf : ∀ b' f, b' < 10 → f < 8 → ¬ (b' = b ∧ f = 6) → s1.2.1 (1000 + 8 * b' + f) = s.2.1 (1000 + 8 * b' + f) := fun b' f q1 q2 q3 => a9 _ (by omega) (by omega) (by omega) (by omega) (by omega) (by omega) (by omega)
          have sf : ∀ u f, u < 80 → f < 18 → f ≠ 9 → f ≠ 10 → f ≠ 12 → f ≠ 16 → s1.2.1 (1212 + 18 * u + f) = s.2.1 (1212 + 18 * u + f) := fun u f q1 q2 q3 q4 q5 q6 => a9 _ (by omega) (by omega) (by omega) (by omega) (by omega) (by omega) (by omega)
          have nst : ∀ u, u < 80 → u ≠ t → s1.2.1 (1212 + 18 * u + 9) = s.2.1 (1212 + 18 * u + 9) := fun u q1 q2 => a9 _ (by omega) (by omega) (by omega) (by omega) (by omega) (by omega) (by omega)
          have nop : ¬ opn s1.2.1 b := fun g => by
            have := g.1
            rw [a7] at this
            exact nI_nm1 (by omega) this
          have cnE : ∀ u b', u < 80 → b' < 10 → cnB D s1.2.1 H C u b' → cnB D s.2.1 H C u b' := fun u b' hu hb' g => by
            by_cases e2 : b' = b
            · subst e2; exact absurd g.1 nop
            · obtain ⟨⟨g1, g2⟩, g3, g4⟩ := g
              rw [bf b' 6 hb' (by decide) (by omega)] at g1
              rw [bf b' 5 hb' (by decide) (by omega)] at g2
              rw [bf b' 1 hb' (by decide) (by omega), sf u 3 hu (by decide) (by decide) (by decide) (by decide) (by decide)] at g3
              rw [bf b' 0 hb' (by decide) (by omega), sf u 4 hu (by decide) (by decide) (by decide) (by decide) (by decide)] at g4
              exact ⟨⟨g1, g2⟩, g3, (sfe_v td).mp g4⟩
          have n91 : N (s1.2.1 999) = N (vs 999) := by rw [a9 999 (by omega) (by omega) (by omega) (by omega) (by omega) (by omega) (by omega)]; exact h.n9
          have n121 : N (s1.2.1 1211) = N (vs 1211) := by rw [a9 1211 (by omega) (by omega) (by omega) (by omega) (by omega) (by omega) (by omega)]; exact h.n12
          have vs10 : N (vs 999) ≤ 10 := by rw [← h.n9]; exact n9
          have h1 : CI τ n c0 s0 vs c1 s1 H D C kk d w R M (js + 1) := by
            refine CI.mk a3 (by rw [a4]; exact h.w6) (fun i hi => by rw [a5]; exact h.r3 i hi) n91 n121 (fun u f q1 q2 q3 q4 q5 q6 => (sf u f q1 q2 q3 q4 q5 q6).trans (h.ky u f q1 q2 q3 q4 q5 q6)) ?_ ?_ ?_ ?_
            · intro u hu g
              by_cases e2 : u = t
              · subst e2; exact absurd g a8
              · exact h.wt u hu (by unfold wtg at *; rw [nst u (by omega) e2] at g; exact g)
            · intro i i1 i2
              have ri := (hSR.2.1 i i2).1
              have ne : R i ≠ t := fun e2 => by
                have := hSR.2.2.1 js i (by omega) i2
                rw [js2, e2] at this
                exact ahd_irr this
              have := h.st i (by omega) i2
              unfold wtg at *
              rw [nst _ (by omega) ne]; exact this
            · intro i i1 i2 g b' hb' e2
              have ri := (hSR.2.1 i i2).1
              have ne : R i ≠ t := fun e3 => by rw [e3] at g; exact a8 g
              have g' : wtg s.2.1 (R i) := by unfold wtg at *; rw [nst _ (by omega) ne] at g; exact g
              have c1' := cnE (R i) b' (by omega) (by omega) e2
              by_cases i3 : i < j
              · exact h.no i i3 i2 g' b' hb' c1'
              · have i4 : i < js := by
                  by_cases e4 : i = js
                  · subst e4; exact absurd js2 ne
                  · omega
                exact nob i (by omega) i4 b' (by rw [h.n9]; exact hb') c1'
            · intro b' hb'
              rw [a6 b']
              by_cases e2 : b' = b
              · subst e2
                rw [if_pos rfl, show wyn D s1.2.1 H b' = -1000 from ifc_neg nop]
                refine ⟨rfl, ?_⟩
                rw [Int32.le_iff_toInt_le, show ((-1000 : Int32)).toInt = -1000 by decide]
                exact hM.1
              · rw [if_neg e2]
                have : wyn D s1.2.1 H b' = wyn D s.2.1 H b' := by
                  unfold wyn opn
                  rw [bf b' 6 (by omega) (by decide) (by omega), bf b' 5 (by omega) (by decide) (by omega), bf b' 0 (by omega) (by decide) (by omega), wim_v td]
                rw [this]
                exact h.wy b' hb'
          have cn1 : cnt (fun b => s1.2.1 (1000 + 8 * b + 6) = -1) (N (vs 999)) ≤ l := by
            have k1 := cnt_one (P := fun b => s1.2.1 (1000 + 8 * b + 6) = -1) (a := b) (fun g => by rw [a7] at g; exact nI_nm1 (by omega) g) (N (vs 999)) (by rw [← h.n9]; exact hb)
            have k2 : cnt (fun b' => s1.2.1 (1000 + 8 * b' + 6) = -1 ∨ b' = b) (N (vs 999)) = cnt (fun b => s.2.1 (1000 + 8 * b + 6) = -1) (N (vs 999)) := cnt_iff _ (fun b' hb' => by
              by_cases e2 : b' = b
              · subst e2; exact ⟨fun _ => hop.1, fun _ => Or.inr rfl⟩
              · rw [bf b' 6 (by omega) (by decide) (by omega)]
                exact ⟨fun g => g.resolve_right e2, Or.inl⟩)
            omega
          exact ih (l4 + 1) (js + 1) f g c1 s1 (by omega) h1 cn1 (by omega) (by omega) (by omega)
theorem o_comesAll {pt : Nat} (hF : 30000 ≤ F) (hI : LI τ n) (e0 : s0.2.1 0 = nI H) (hc : C ≤ 50) (hC : lo s0.2.1 (N (s0.2.1 2811)) (nI 5) (nI 5) = nI C) (hpt : pt = ap c0 10 (ao s0.2.1 (s0.2.1 0 / nI 24) (N (s0.2.1 2811)))) (h : PH τ n c0 s0 c s H D) : ∃ c' s1 s', o_X12_lines F s = some s1 ∧ o_X12_anHour_124 F (nI (N (s.2.1 1211))) F (nI 0) s1 = some s' ∧ (((∃ k, k < N (s.2.1 1211) ∧ s.2.1 (1212 + 18 * k + 9) = nI 0) ∧ ∃ x, o_X0_lastNumber F τ n pt c (nI 4) (nI 0) = some x ∧ o_X2_shipsComeIn F τ n 10 c (nI C) x = some c') ∨ ((¬ ∃ k, k < N (s.2.1 1211) ∧ s.2.1 (1212 + 18 * k + 9) = nI 0) ∧ c' = c)) ∧ PH τ n c0 s0 c' s' H D ∧ N (s'.2.1 1211) = N (s.2.1 1211) := by
  have rb := h.rb
  have n12 := rb.n1211.2
  obtain ⟨kk, d, hk, hd, t1, t2⟩ := rb.trn (F := F) hI h.z (by omega)
  have lr := rb.lastS (F := F) (x := nI 4) (w := nI 0) (by omega)
  rw [t2] at lr
  obtain ⟨s1, w, R, a1, a2, a3, a4, a5⟩ := o_lines (F := F) (s := s) (by omega) hk hd rb.rg lr
  have w80 : w ≤ 80 := by have := a5.1; omega
  have h1 : PH τ n c0 s0 c s1 H D := h.step (by rw [a2.1]; exact rb) Nw.refl (fun j hj => a2.2.1 j (by omega)) (fun j hj => a2.2.2 j (by omega)) (by rw [a2.1]) (fun q _ => by rw [a2.1]) (fun q _ => by rw [a2.1]) (a2.2.2 2 (by decide)) rfl
  by_cases q : ∃ k, k < N (s.2.1 1211) ∧ s.2.1 (1212 + 18 * k + 9) = nI 0
  · have ep : pt = ap c 10 (ao s.2.1 (s.2.1 0 / nI 24) (N (s.2.1 2811))) := by
      rw [hpt, h.wv 2811 (by omega), h.h0, e0]
      have e1 : ao s.2.1 (nI H / nI 24) (N (s0.2.1 2811)) = ao s0.2.1 (nI H / nI 24) (N (s0.2.1 2811)) := ao_same _ (fun i => h.wv _ (by omega))
      rw [e1]
      unfold ap
      cases ao s0.2.1 (nI H / nI 24) (N (s0.2.1 2811)) with
      | none => rfl
      | some a => show (c0.2 (10 + 24) a).getD 0 = (c.2 (10 + 24) a).getD 0; rw [h.c2]
    rw [← ep] at t1
    obtain ⟨M, c1, b1, b2, b3, b4⟩ := o_deep (F := F) (H := H) (D := D) (by omega) hI rb h.h0 h.hh h.dd
    have h2 : PH τ n c0 s0 c1 s1 H D := h1.step (by rw [a2.1]; exact rb.cz hI b2) b2.nw (fun _ _ => rfl) (fun _ _ => rfl) rfl (fun _ _ => rfl) (fun _ _ => rfl) rfl b2.2
    have ci : CI τ n c0 s0 s.2.1 c1 s1 H D C kk d w R M 0 := CI.mk h2 a3 a4 (by rw [a2.1]) (by rw [a2.1]) (fun t f _ _ _ _ _ _ => by rw [a2.1]) (fun t _ g => by rw [a2.1] at g; exact g) (fun i _ hi => by rw [a2.1]; exact (a5.2.1 i hi).2) (fun i hi => by omega) (fun b hb => by rw [a2.1]; exact b3 b hb)
    have cle : ∀ m (P : Nat → Prop), cnt P m ≤ m := fun m P => by
      induction m with
      | zero => exact Nat.le_refl _
      | succ m ih =>
        rw [cnt]
        by_cases g : P m
        · rw [ifc_pos g]; omega
        · rw [ifc_neg g]; omega
    obtain ⟨c2, s2, d1, d2, d3, d4⟩ := ci_main hF hI e0 hc hC hk hd b4 a5 n12 10 0 0 F F c1 s1 rfl ci (by have := cle (N (s.2.1 999)) (fun b => s1.2.1 (1000 + 8 * b + 6) = -1); have := rb.n999.2; omega) (Nat.zero_le _) (by omega) (by omega)
    refine ⟨c2, s1, s2, a1, d2, Or.inl ⟨q, _, t1, ?_⟩, d3, d4⟩
    unfold o_X2_shipsComeIn
    rw [b1, Option.bind_some]
    rcases d1 with e | e
    · rw [e, Option.bind_some]; rfl
    · rw [e, Option.bind_some]; rfl
  · have w0 : w = 0 := by
      by_cases e : w = 0
      · exact e
      · obtain ⟨r1, r2⟩ := a5.2.1 0 (by omega)
        exact absurd ⟨R 0, r1, r2⟩ q
    subst w0
    refine ⟨c, s1, s1, a1, sk_all (R := R) a3 w80 a4 (Nat.le_refl _) (by omega) (fun i _ hi => by omega), Or.inr ⟨q, rfl⟩, h1, by rw [a2.1]⟩
end CM4
