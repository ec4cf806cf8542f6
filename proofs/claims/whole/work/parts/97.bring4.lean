/-! THE PURE LAYER: bringing in, the two sides together -/
section BOTH
variable {F : Nat} {τ : cT} {n nn : Nat} {c : cS} {v : Nat → Int32}
theorem Lb_cong {fb fb' : Nat → Nat → Option Nat} {du du' : Nat → Nat} (hf : ∀ k a, 1 ≤ a → k < nn → fb' k a = fb k a) (hd : ∀ k a, k < nn → 1 ≤ a → fb k a ≠ none → du' k = du k ∧ 1 ≤ du k) : ∀ (m a P t : Nat), 1 ≤ a → Lb nn fb du m a P t → Lb nn fb' du' m a P t := by
  intro m
  induction m with
  | zero => intro a P t _ h; exact h
  | succ m ih =>
    intro a P t ha h
    rcases h with h | ⟨k, g, t', h1, h2, h3, h4, h5⟩
    · exact Or.inl h
    · refine Or.inr ⟨k, g, t', h1, h2, by rw [hf k a ha h1]; exact h3, h4, ?_⟩
      obtain ⟨d1, d2⟩ := hd k a h1 ha (by rw [h3]; exact fun e => by cases e)
      rw [d1]
      exact ih _ _ _ (by omega) h5
theorem Ab_cong {fb fb' : Nat → Nat → Nat → Option Nat} {du du' : Nat → Nat → Nat} {fr : Nat → Nat} : ∀ (B S t : Nat), (∀ b, b < B → 1 ≤ fr b) → (∀ b k a, b < B → 1 ≤ a → k < nn → fb' b k a = fb b k a) → (∀ b k a, b < B → k < nn → 1 ≤ a → fb b k a ≠ none → du' b k = du b k ∧ 1 ≤ du b k) → Ab nn fb du fr B S t → Ab nn fb' du' fr B S t := by
  intro B
  induction B with
  | zero => intro S t _ _ _ h; exact h
  | succ B ih =>
    intro S t h0 hf hd h
    obtain ⟨P, t1, t2, h1, h2, h3, h4⟩ := h
    exact ⟨P, t1, t2, h1, ih _ _ (fun b hb => h0 b (by omega)) (fun b k a hb => hf b k a (by omega)) (fun b k a hb => hd b k a (by omega)) h2, Lb_cong (fun k a ha hk => hf B k a (by omega) ha hk) (fun k a hk => hd B k a (by omega) hk) _ _ _ _ (h0 B (by omega)) h3, h4⟩
theorem fst1_c {p p' : Nat → Bool} : ∀ (r a : Nat), (∀ h, a ≤ h → h < a + r → p' h = p h) → fst1 p' r a = fst1 p r a := by
  intro r
  induction r with
  | zero => intro a _; rfl
  | succ r ih =>
    intro a h
    rw [fst1, fst1, h a (by omega) (by omega), ih (a + 1) (fun g h1 h2 => h g (by omega) (by omega))]
theorem fst1_n {p : Nat → Bool} : ∀ (r a : Nat), (∀ h, a ≤ h → h < a + r → p h = false) → fst1 p r a = none := by
  intro r
  induction r with
  | zero => intro a _; rfl
  | succ r ih =>
    intro a h
    rw [fst1, h a (by omega) (by omega), if_neg (by decide), ih (a + 1) (fun g h1 h2 => h g (by omega) (by omega))]
theorem wk_7 : ∀ k, k < 2812 → wk k ≠ some (131, 7) := by
  have all : ∀ q, q < 54 → ∀ r, r < 54 → wk (54 * q + r) ≠ some (131, 7) := by decide +kernel
  intro k hk
  have := all (k / 54) (by omega) (k % 54) (by omega)
  rw [show 54 * (k / 54) + k % 54 = k by omega] at this
  exact this
theorem wk_big {k : Nat} (hk : 2812 ≤ k) : wk k = none := by
  unfold wk
  repeat rw [if_neg (by omega)]
/-- how many wait is told in a place of no account -/
theorem RX.w7 {y : Int32} (h : RX τ n c 10 v) (hI : LI τ n) : RX τ n (cp c 141 7 y) 10 v := by
  have nw : Nw c (cp c 141 7 y) := Nw.refl.cp (by omega) (by omega) (by omega)
  have as := nw.as hI
  have e : ∀ q, q ≠ 141 → (cp c 141 7 y).1 q = c.1 q := fun q hq => cp_1 _ hq
  have act : ∀ p a, acb τ n p = true → RAct τ c p v a → RAct τ (cp c 141 7 y) p v a := fun p a hp ha => ha.same (fun _ _ => rfl) (fun j hj => as p hp j hj) (fun _ _ _ => rfl)
  have n9 := h.n999.2
  have n12 := h.n1211.2
  refine RX.mk h.rg ?_ ?_ ?_ ?_ h.law ?_ ?_ ?_ ?_
  · intro k o j hk
    by_cases q : o = 131
    · subst q
      have j7 : j ≠ 7 := fun e => by
        subst e
        rcases Nat.lt_or_ge k 2812 with g | g
        · exact wk_7 k g hk
        · rw [wk_big g] at hk; cases hk
      rw [show 10 + 131 = 141 from rfl, cp_q, upd_n j7]
      exact h.pl k _ _ hk
    · rw [e _ (by omega)]; exact h.pl k o j hk
  · intro i hi f g
    rw [e _ (by omega)]; exact h.ber i hi f g
  · intro i hi f g hg
    rw [e _ (by omega)]; exact h.shp i hi f g hg
  · intro i hi
    rw [e _ (by omega)]; exact h.bak i hi
  · intro a ha
    obtain ⟨t1, p, t2, t3, t4⟩ := h.txt a ha
    exact ⟨by rw [e _ (by omega)]; exact t1, p, t2, t3, act p a t3 t4⟩
  · obtain ⟨p, t2, t3, t4⟩ := h.prp
    exact ⟨p, t2, t3, fun g => act p 20 t3 (t4 g)⟩
  · intro k hk
    rw [e _ (by omega)]; exact h.snd k hk
  · rw [e (10 + 120) (by decide)]; exact h.bus
theorem o_addW {a1 j : Nat} {C : Int32} (ha : a1 < 130) (hj : j < 4) (e7 : c.1 141 7 = nI j) : o_X4_addWaiting τ n 10 a1 c C = some (cp (cp (cp (cp c 145 j (c.1 a1 4 + C)) 146 j (c.1 a1 1)) 147 j (c.1 a1 2)) 141 7 (nI (j + 1))) := by
  unfold o_X4_addWaiting
  have e7' : c.1 (10 + 131) 7 = nI j := e7
  rw [e7', if_neg (nI_no (by decide) (by omega) (by omega)), if_pos (iL_t hj (by decide)), ca_n c _ (by omega), cp_1 (10 + 131) (by decide), e7', if_pos (iL_t hj (by decide)), Option.bind_some, ca_n _ _ (by omega), cp_1 (10 + 131) (by decide), cp_1 (10 + 131) (by decide), e7', if_pos (iL_t hj (by decide)), ca_n _ _ (by omega), cp_1 (10 + 131) (by decide), cp_1 (10 + 131) (by decide), cp_1 (10 + 131) (by decide), e7', cp_1 a1 (by omega), cp_1 a1 (by omega), cp_1 a1 (by omega), Option.bind_some, nI_add]
/-- what the class knows of the first ships -/
def Wt (c : cS) (v : Nat → Int32) (C : Int32) (R : Nat → Nat) (j : Nat) : Prop := c.1 141 7 = nI j ∧ ∀ k, k < j → c.1 145 k = v (1212 + 18 * R k + 4) + C ∧ c.1 146 k = v (1212 + 18 * R k + 2) ∧ c.1 147 k = v (1212 + 18 * R k + 3)
theorem wt_loop {cB : cS} {C : Int32} {kk d w : Nat} {R : Nat → Nat} (hF : 81 < F) (hI : LI τ n) (hk : kk < 4) (hd : d < 2) (sr : SR v kk d (N (v 1211)) w R) : ∀ (r j f : Nat) (c : cS), j + r = min 4 w → r < f → RX τ n c 10 v → Wt c v C R j → (∀ q, q ≠ 141 → q ≠ 145 → q ≠ 146 → q ≠ 147 → c.1 q = cB.1 q) → (∀ q, q ≠ 7 → c.1 141 q = cB.1 141 q) → c.2 = cB.2 → ∃ c', o_X2_leastToBringIn_44 F τ n 10 (nI (kk + 4 * d)) C f (if j < w then nI (R j) else -1) (nI j) c = some c' ∧ RX τ n c' 10 v ∧ Wt c' v C R (min 4 w) ∧ (∀ q, q ≠ 141 → q ≠ 145 → q ≠ 146 → q ≠ 147 → c'.1 q = cB.1 q) ∧ (∀ q, q ≠ 7 → c'.1 141 q = cB.1 141 q) ∧ c'.2 = cB.2 := by
  have m4 : min 4 w ≤ 4 := Nat.min_le_left _ _
  have mw : min 4 w ≤ w := Nat.min_le_right _ _
  intro r
  induction r with
  | zero =>
    intro j f c hj hf h hW k1 k2 k3
    obtain ⟨f, rfl⟩ : ∃ x, f = x + 1 := ⟨f - 1, by omega⟩
    have e : j = min 4 w := by omega
    rw [o_X2_leastToBringIn_44]
    by_cases q : 4 ≤ j
    · rw [if_pos (nI_yes (by decide) (by omega) q)]
      exact ⟨c, rfl, h, by rw [← e]; exact hW, k1, k2, k3⟩
    · have jw : ¬ j < w := by omega
      rw [if_neg (nI_no (by decide) (by omega) (by omega)), if_neg jw, if_pos rfl]
      exact ⟨c, rfl, h, by rw [← e]; exact hW, k1, k2, k3⟩
  | succ r ih =>
    intro j f c hj hf h hW k1 k2 k3
    obtain ⟨f, rfl⟩ : ∃ x, f = x + 1 := ⟨f - 1, by omega⟩
    have jw : j < w := by omega
    have j4 : j < 4 := by omega
    obtain ⟨R1, R2⟩ := sr.2.1 j jw
    have n12 := h.n1211.2
    have s4 : c.1 (50 + R j) 4 = v (1212 + 18 * R j + 4) := h.shp (R j) R1 4 4 rfl
    have s1 : c.1 (50 + R j) 1 = v (1212 + 18 * R j + 2) := h.shp (R j) R1 1 2 rfl
    have s2 : c.1 (50 + R j) 2 = v (1212 + 18 * R j + 3) := h.shp (R j) R1 2 3 rfl
    have aw := o_addW (τ := τ) (n := n) (C := C) (a1 := 50 + R j) (by omega) j4 hW.1
    rw [s4, s1, s2] at aw
    have h1 := (((h.cz hI (Cz.one c j (v (1212 + 18 * R j + 4) + C) (a := 145) (by decide) (by decide))).cz hI (Cz.one _ j (v (1212 + 18 * R j + 2)) (a := 146) (by decide) (by decide))).cz hI (Cz.one _ j (v (1212 + 18 * R j + 3)) (a := 147) (by decide) (by decide))).w7 (y := nI (j + 1)) hI
    have nt := o_nit (F := F) (j := j + 1) hF h1 hk hd sr (by omega)
    rw [if_neg (by omega), show j + 1 - 1 = j by omega] at nt
    rw [o_X2_leastToBringIn_44, if_neg (nI_no (by decide) (by omega) (by omega)), if_pos jw, if_neg (nI_nm1 (by omega)), if_pos (iL_t (show R j < 80 by omega) (by decide)), nI_clamp (by omega), show 10 + 39 + 1 + R j = 50 + R j by omega, aw, Option.bind_some, nt, Option.bind_some, nI_add j 1]
    refine ih (j + 1) f _ (by omega) (by omega) h1 ⟨?_, fun k hk => ?_⟩ (fun q q1 q2 q3 q4 => ?_) (fun q q1 => ?_) k3
    · rw [cp_q, upd_s]
    · rw [cp_1 145 (by decide), cp_1 145 (by decide), cp_1 145 (by decide), cp_q, cp_1 146 (by decide), cp_1 146 (by decide), cp_q, cp_1 146 (by decide), cp_1 147 (by decide), cp_q, cp_1 147 (by decide), cp_1 147 (by decide)]
      by_cases e : k = j
      · subst e; rw [upd_s, upd_s, upd_s]; exact ⟨rfl, rfl, rfl⟩
      · rw [upd_n e, upd_n e, upd_n e]; exact hW.2 k (by omega)
    · rw [cp_1 _ q1, cp_1 _ q4, cp_1 _ q3, cp_1 _ q2]; exact k1 q q1 q2 q3 q4
    · rw [cp_q, upd_n q1, cp_1 141 (by decide), cp_1 141 (by decide), cp_1 141 (by decide)]; exact k2 q q1
theorem wi_loop {cB : cS} {D : Nat → Int32} {H : Nat} (hF : 25 < F) (hH : H ≤ 30000) (hT : ∀ t, t < 25 → cB.1 15 t = v (73 + t)) (hD : ∀ q, q < 24 → cB.1 178 q = D q) (h0 : cB.1 10 0 = nI H) : ∀ (r h f : Nat) (c : cS), h + r = 25 → r < f → (∀ q, q < 149 ∨ 174 ≤ q → c.1 q = cB.1 q) → c.2 = cB.2 → (∀ h', h' < h → ∀ j, j < 24 → c.1 (149 + h') j = wim D v (H + h') (j + 1)) → ∃ c', o_X2_leastToBringIn_95 F τ n 10 f (nI h) c = some c' ∧ (∀ q, q < 149 ∨ 174 ≤ q → c'.1 q = cB.1 q) ∧ c'.2 = cB.2 ∧ (∀ h', h' < 25 → ∀ j, j < 24 → c'.1 (149 + h') j = wim D v (H + h') (j + 1)) := by
  intro r
  induction r with
  | zero =>
    intro h f c hh hf k1 k2 k3
    obtain ⟨f, rfl⟩ : ∃ x, f = x + 1 := ⟨f - 1, by omega⟩
    rw [o_X2_leastToBringIn_95, if_pos (nI_yes (by decide) (by omega) (by omega))]
    exact ⟨c, rfl, k1, k2, fun h' hh' => k3 h' (by omega)⟩
  | succ r ih =>
    intro h f c hh hf k1 k2 k3
    obtain ⟨f, rfl⟩ : ∃ x, f = x + 1 := ⟨f - 1, by omega⟩
    obtain ⟨c1, a1, a2, a3, a4⟩ := o_ways (F := F) (τ := τ) (n := n) (c := c) (v := v) (D := D) (H := H + h) (a := 149 + h) hF (by omega) (fun t ht => by rw [k1 15 (by omega)]; exact hT t ht) (fun q hq => by rw [k1 178 (by omega)]; exact hD q hq) (by omega)
    rw [o_X2_leastToBringIn_95, if_neg (nI_no (by decide) (by omega) (by omega)), if_pos (iL_t (show h < 25 by omega) (by decide)), nI_clamp (by omega), k1 10 (by omega), h0, nI_add H h, show 10 + 138 + 1 + h = 149 + h by omega, show (10 + 168 : Nat) = 178 from rfl, a1, Option.bind_some, nI_add h 1]
    refine ih (h + 1) f c1 (by omega) (by omega) (fun q hq => by rw [a2 q (by omega)]; exact k1 q hq) (a3.trans k2) (fun h' hh' j hj => ?_)
    by_cases e : h' = h
    · subst e; exact a4 j hj
    · rw [a2 _ (by omega)]; exact k3 h' (by omega) j hj
theorem wim_per {D : Nat → Int32} {H h : Nat} : ∀ m, wim D v (H + h % 25) m = wim D v (H + h) m := by
  intro m
  induction m with
  | zero => rfl
  | succ m ih => rw [wim, wim, ih, show (H + h % 25 + m / 6) % 25 = (H + h + m / 6) % 25 by omega]
/-- a ship can begin on both sides at the same hours -/
theorem fb_eq {cB : cS} {s sB : rs_S} {C : Int32} {H k b a : Nat} {R tn ln bc bl br : Nat → Nat} {sh : Nat → Bool} (ha : 1 ≤ a) (hw : ∀ h', h' < 25 → ∀ j, j < 24 → cB.1 (149 + h') j = wim (sB.2.2 2) sB.2.1 (H + h') (j + 1)) (hn : cB.1 145 k = sB.2.1 (1212 + 18 * R k + 4) + C) (hy : sB.2.1 (1212 + 18 * R k + 4) + C ≤ nI 2000) (hl : sB.2.1 (1212 + 18 * R k + 3) = nI (ln k) ∧ ln k < 2 ^ 31) (h0 : sB.2.1 (1000 + 8 * b + 0) = nI (bc b) ∧ bc b < 24) (h1 : sB.2.1 (1000 + 8 * b + 1) = nI (bl b) ∧ bl b < 2 ^ 31) (h5 : sh b = true ↔ ¬ sB.2.1 (1000 + 8 * b + 5) < nI 240) (h9 : ∀ h', 1 ≤ h' → h' ≤ 72 → s.2.2 9 ((10 * k + b) * 73 + h') = ifc (QV sB C H R k b h') (nI 1) (nI 0)) : fbR s b k a = fbB cB tn ln bc bl br sh b k a := by
  have p9 : ∀ h', 1 ≤ h' → h' ≤ 72 → (pr s k b h' = true ↔ QV sB C H R k b h') := fun h' q1 q2 => by
    unfold pr
    rw [decide_eq_true_eq, h9 h' q1 q2]
    by_cases g : QV sB C H R k b h'
    · rw [ifc_pos g]; exact ⟨fun _ => g, fun _ => by decide⟩
    · rw [ifc_neg g]; exact ⟨fun e => absurd nI_0 e, fun e => absurd e g⟩
  have pf : ∀ h', 1 ≤ h' → h' ≤ 72 → ¬ QV sB C H R k b h' → pr s k b h' = false := fun h' q1 q2 g => by
    cases e : pr s k b h' with
    | true => exact absurd ((p9 h' q1 q2).mp e) g
    | false => rfl
  unfold fbR fbB fbC
  by_cases q : sh b = true
  · rw [if_pos q]
    exact fst1_n _ _ (fun h' g1 g2 => pf h' (by omega) (by omega) (fun e => h5.mp q e.1))
  · rw [if_neg q]
    by_cases q2 : bl b < ln k
    · rw [if_pos (show hdu (bl b) (br b) (bc b) tn ln k = 0 by unfold hdu; rw [if_pos q2])]
      refine fst1_n _ _ (fun h' g1 g2 => pf h' (by omega) (by omega) (fun e => e.2.1 ?_))
      rw [h1.1, hl.1]
      exact (nI_ltI h1.2 hl.2).mpr q2
    · rw [if_neg (show ¬ hdu (bl b) (br b) (bc b) tn ln k = 0 by unfold hdu; rw [if_neg q2]; exact Nat.succ_ne_zero _)]
      refine fst1_c _ _ (fun h' g1 g2 => ?_)
      have key : QV sB C H R k b h' ↔ pw cB (bc b) (cB.1 145 k) h' = true := by
        unfold pw QV
        rw [decide_eq_true_eq, hw _ (Nat.mod_lt _ (by decide)) _ h0.2, wim_per, hn, i_nlt (x := wim (sB.2.2 2) sB.2.1 (H + h') (bc b + 1)), wim_sfe hy, h0.1, N_nI (by have := h0.2; omega)]
        constructor
        · intro e; exact e.2.2
        · intro e
          refine ⟨?_, ?_, e⟩
          · by_cases g : sB.2.1 (1000 + 8 * b + 5) < nI 240
            · exact g
            · exact absurd (h5.mpr g) q
          · rw [h1.1, hl.1]; exact nI_ngt h1.2 hl.2 (by omega)
      cases e : pw cB (bc b) (cB.1 145 k) h' with
      | true => exact (p9 h' (by omega) (by omega)).mpr (key.mpr e)
      | false => exact pf h' (by omega) (by omega) (fun g => by rw [key.mp g] at e; cases e)
end BOTH
