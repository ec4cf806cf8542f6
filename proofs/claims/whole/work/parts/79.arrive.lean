/-! THE PURE LAYER: ships arrive -/
section ARR
variable {F : Nat} {τ : cT} {n k i m f g t H : Nat} {c c' : cS} {s : rs_S} {v v' : Nat → Int32} {w w' : Nat → Int32}
/-- a number of the first m ships is set -/
def cW (c : cS) (f : Nat) (w : Nat → Int32) : Nat → cS
  | 0 => c
  | k + 1 => cp (cW c f w k) (50 + k) f (w k)
def vW (v : Nat → Int32) (g : Nat) (w : Nat → Int32) : Nat → Nat → Int32
  | 0 => v
  | k + 1 => upd (vW v g w k) (1212 + 18 * k + g) (w k)
theorem cW_1 (q j : Nat) : ∀ m, (cW c f w m).1 q j = if 50 ≤ q ∧ q < 50 + m ∧ j = f then w (q - 50) else c.1 q j := by
  intro m
  induction m with
  | zero => rw [if_neg (by omega)]; rfl
  | succ m ih =>
    rw [cW]
    by_cases e : q = 50 + m
    · subst e
      rw [cp_q]
      by_cases e2 : j = f
      · subst e2; rw [upd_s, if_pos (by omega), show 50 + m - 50 = m by omega]
      · rw [upd_n e2, ih, if_neg (by omega), if_neg (by omega)]
    · rw [cp_1 _ e, ih]
      by_cases e2 : 50 ≤ q ∧ q < 50 + m ∧ j = f
      · rw [if_pos e2, if_pos (by omega)]
      · rw [if_neg e2, if_neg (by omega)]
theorem cW_2 : ∀ m, (cW c f w m).2 = c.2 := by
  intro m
  induction m with
  | zero => rfl
  | succ m ih => rw [cW, cp_2, ih]
theorem vW_s (hg : g < 18) : ∀ m, k < m → vW v g w m (1212 + 18 * k + g) = w k := by
  intro m
  induction m with
  | zero => intro h; omega
  | succ m ih =>
    intro h
    rw [vW]
    by_cases e : k = m
    · subst e; rw [upd_s]
    · rw [upd_n (by omega)]; exact ih (by omega)
theorem vW_o {q : Nat} : ∀ m, (∀ k, k < m → q ≠ 1212 + 18 * k + g) → vW v g w m q = v q := by
  intro m
  induction m with
  | zero => intro _; rfl
  | succ m ih => intro h; rw [vW, upd_n (h m (by omega)), ih (fun k hk => h k (by omega))]
theorem cS_ext (h1 : ∀ q j, c'.1 q j = c.1 q j) (h2 : c'.2 = c.2) : c' = c := Prod.ext (funext fun q => funext fun j => h1 q j) h2
theorem RX.shipW (h : RX τ n c 10 v) (hI : LI τ n) (hfg : sf f = some g) : ∀ m, m ≤ N (v 1211) → (∀ k, k < m → Ok (1212 + 18 * k + g) (w k)) → RX τ n (cW c f w m) 10 (vW v g w m) := by
  intro m
  induction m with
  | zero => intro _ _; exact h
  | succ m ih =>
    intro hm hw
    rw [cW, vW]
    refine (ih (by omega) (fun k hk => hw k (by omega))).ship hI ?_ hfg (hw m (by omega))
    rw [vW_o m (fun k hk => by omega)]
    omega
/-- states change within what is at a berth -/
theorem Cr.stW (C : Cr v) (r : Rg v) (hw : ∀ k, k < N (v 1211) → w k = v (1212 + 18 * k + 9) ∨ (1 ≤ N (v (1212 + 18 * k + 9)) ∧ N (v (1212 + 18 * k + 9)) ≤ 3 ∧ 1 ≤ N (w k) ∧ N (w k) ≤ 3)) : Cr (vW v 9 w (N (v 1211))) := by
  have b := r.b
  generalize ev : vW v 9 w (N (v 1211)) = v'
  have hu : ∀ q, q < 1212 ∨ 2652 ≤ q → v' q = v q := fun q hq => by rw [← ev]; exact vW_o _ (fun k hk => by omega)
  have hf : ∀ k f, f < 18 → f ≠ 9 → v' (1212 + 18 * k + f) = v (1212 + 18 * k + f) := fun k f h1 h2 => by rw [← ev]; exact vW_o _ (fun k' hk => by omega)
  have h9 : ∀ k, k < N (v 1211) → v' (1212 + 18 * k + 9) = w k := fun k hk => by rw [← ev]; exact vW_s (by decide) _ hk
  have h9o : ∀ k, N (v 1211) ≤ k → v' (1212 + 18 * k + 9) = v (1212 + 18 * k + 9) := fun k hk => by rw [← ev]; exact vW_o _ (fun k' hk' => by omega)
  refine Cr.mk (C.ld_s (hu _ (by omega)) (fun k _ _ => hu k (by omega))) (C.cr_s r (fun k _ _ => hu k (by omega))) ?_ ?_ ?_ (C.sd_s r (hu _ (by omega)) (fun k _ _ => hu k (by omega))) (C.ev_s r (hu _ (by omega)) (fun k _ _ => hu k (by omega))) ?_ (C.zp_s (fun k _ _ => hu k (by omega))) ?_ (C.zb_s (fun k _ _ => hu k (by omega))) (C.oe_s (hu _ (by omega)) (fun k _ _ => hu k (by omega)))
  · intro i hi
    rw [hu 999 (by omega)] at hi
    rw [hu _ (by omega), hu 1211 (by omega)]
    rcases C.hs i hi with q | ⟨k, q1, q2, q3, q4, q5⟩
    · exact Or.inl q
    · refine Or.inr ⟨k, q1, q2, by rw [hf k 10 (by decide) (by decide)]; exact q3, ?_, ?_⟩
      · rw [h9 k q1]
        rcases hw k q1 with e | e
        · rw [e]; exact q4
        · exact e.2.2.1
      · rw [h9 k q1]
        rcases hw k q1 with e | e
        · rw [e]; exact q5
        · exact e.2.2.2
  · intro k hk
    rw [hu 1211 (by omega)] at hk
    rw [h9 k hk, hf k 10 (by decide) (by decide), hu 999 (by omega)]
    intro q1 q2
    have : 1 ≤ N (v (1212 + 18 * k + 9)) ∧ N (v (1212 + 18 * k + 9)) ≤ 3 := by
      rcases hw k hk with e | e
      · rw [← e]; exact ⟨q1, q2⟩
      · exact ⟨e.1, e.2.1⟩
    obtain ⟨i, p1, p2, p3⟩ := C.sh k hk this.1 this.2
    exact ⟨i, p1, p2, by rw [hu _ (by omega)]; exact p3⟩
  · intro k hk
    rw [hu 1211 (by omega)] at hk
    rw [show v' (1212 + 18 * k) = v (1212 + 18 * k) from hf k 0 (by decide) (by decide), hu 1090 (by omega)]
    exact C.ow k hk
  · rw [hu 2655 (by omega), hu 1211 (by omega), tcs_same (v := v) _ (fun i hi => hf i 16 (by decide) (by decide))]
    exact C.tc
  · intro k q1 q2
    rw [hu 1211 (by omega)] at q1
    rw [h9o k q1, hf k 14 (by decide) (by decide), hf k 16 (by decide) (by decide)]
    exact C.zs k q1 q2
/-- who arrives -/
def cnd (v : Nat → Int32) (H k : Nat) : Prop := v (1212 + 18 * k + 9) = nI 1 ∧ ¬ nI H < v (1212 + 18 * k + 12)
noncomputable def wA (v : Nat → Int32) (H i k : Nat) : Int32 := ifc (cnd v H k ∧ ∃ i', i' < i ∧ v (1000 + 8 * i' + 6) = nI k) (nI 2) (v (1212 + 18 * k + 9))
noncomputable def wB (v : Nat → Int32) (H k : Nat) : Int32 := ifc (cnd v H k) (nI 2) (v (1212 + 18 * k + 9))
theorem o_holder (hb : c.1 (10 + 28 + 1 + i) 7 = v (1000 + 8 * i + 6)) (hn : c.1 (10 + 27) 3 = nI (N (v 1211))) (hi : i < 10) (h80 : N (v 1211) ≤ 80) : (v (1000 + 8 * i + 6) = -1 → o_X5_holderOf τ n 10 c (nI i) = some none) ∧ (∀ k, k < N (v 1211) → v (1000 + 8 * i + 6) = nI k → o_X5_holderOf τ n 10 c (nI i) = some (some (10 + 39 + 1 + k))) := by
  unfold o_X5_holderOf
  rw [if_pos (iL_t hi (by decide)), nI_clamp (by omega), hb, hn]
  refine ⟨fun e => by rw [e, if_pos (by decide)], fun k hk e => ?_⟩
  rw [e, if_neg (show ¬ nI k < 0 from nI_ngt (y := 0) (by omega) (by decide) (by omega)), if_neg (nI_no (by omega) (by omega) hk), if_pos (iL_t (show k < 80 by omega) (by decide)), nI_clamp (by omega)]
theorem arr_loop (h : RX τ n c 10 v) (hI : LI τ n) (C : Cr v) : ∀ (r i f : Nat), i + r = N (v 999) → r < f → o_X5_arrive_2 F τ n 10 (nI H) f (nI i) (cW c 10 (wA v H i) (N (v 1211))) = some (cW c 10 (wA v H (N (v 999))) (N (v 1211))) := by
  have n9 := h.n999
  have n12 := h.n1211
  have e27 : ∀ (w : Nat → Int32) j, (cW c 10 w (N (v 1211))).1 (10 + 27) j = c.1 (10 + 27) j := fun w j => by rw [cW_1, if_neg (by omega)]
  intro r
  induction r with
  | zero =>
    intro i f hi hf
    obtain ⟨f, rfl⟩ : ∃ x, f = x + 1 := ⟨f - 1, by omega⟩
    rw [o_X5_arrive_2, e27, show c.1 (10 + 27) 1 = nI (N (v 999)) from (h.pl 999 27 1 rfl).trans n9.1, if_pos (nI_yes (by omega) (by omega) (by omega)), show i = N (v 999) by omega]
  | succ r ih =>
    intro i f hi hf
    obtain ⟨f, rfl⟩ : ∃ x, f = x + 1 := ⟨f - 1, by omega⟩
    have ih' := ih (i + 1) f (by omega) (by omega)
    have same : (∀ k, k < N (v 1211) → wA v H (i + 1) k = wA v H i k) → cW c 10 (wA v H (i + 1)) (N (v 1211)) = cW c 10 (wA v H i) (N (v 1211)) := fun e => cS_ext (fun q j => by
      rw [cW_1, cW_1]
      by_cases q1 : 50 ≤ q ∧ q < 50 + N (v 1211) ∧ j = 10
      · rw [if_pos q1, if_pos q1, e _ (by omega)]
      · rw [if_neg q1, if_neg q1]) (by rw [cW_2, cW_2])
    have eb : (cW c 10 (wA v H i) (N (v 1211))).1 (10 + 28 + 1 + i) 7 = v (1000 + 8 * i + 6) := by rw [cW_1, if_neg (by omega)]; exact h.ber i (by omega) 7 (by decide)
    have oh := o_holder (τ := τ) (n := n) eb ((e27 _ 3).trans ((h.pl 1211 27 3 rfl).trans n12.1)) (by omega) n12.2
    rw [o_X5_arrive_2, e27, show c.1 (10 + 27) 1 = nI (N (v 999)) from (h.pl 999 27 1 rfl).trans n9.1, if_neg (nI_no (by omega) (by omega) (by omega)), nI_add]
    rcases C.hs i (by omega) with q | ⟨k, q1, q2, q3, q4, q5⟩
    · rw [oh.1 q, Option.bind_some]
      show o_X5_arrive_2 F τ n 10 (nI H) f (nI (i + 1)) (cW c 10 (wA v H i) (N (v 1211))) = _
      rw [← same (fun k hk => ?_)]
      · exact ih'
      · unfold wA
        by_cases p : cnd v H k ∧ ∃ i', i' < i ∧ v (1000 + 8 * i' + 6) = nI k
        · rw [ifc_pos p, ifc_pos ⟨p.1, p.2.imp fun i' g => ⟨by omega, g.2⟩⟩]
        · rw [ifc_neg p, ifc_neg (fun ⟨g1, i', g2, g3⟩ => p ⟨g1, i', by
            by_cases e : i' = i
            · subst e; rw [q] at g3; exact absurd g3.symm (nI_nm1 (by omega))
            · omega, g3⟩)]
    · rw [oh.2 k q1 q2, Option.bind_some]
      show (if 10 + 39 + 1 + k < n ∧ τ (10 + 39 + 1 + k) = .inl 9 then (if (cW c 10 (wA v H i) (N (v 1211))).1 (10 + 39 + 1 + k) 10 = nI 1 then (if nI H < (cW c 10 (wA v H i) (N (v 1211))).1 (10 + 39 + 1 + k) 13 then o_X5_arrive_2 F τ n 10 (nI H) f (nI (i + 1)) (cW c 10 (wA v H i) (N (v 1211))) else o_X5_arrive_2 F τ n 10 (nI H) f (nI (i + 1)) (cp (cW c 10 (wA v H i) (N (v 1211))) (10 + 39 + 1 + k) 10 (nI 2))) else o_X5_arrive_2 F τ n 10 (nI H) f (nI (i + 1)) (cW c 10 (wA v H i) (N (v 1211)))) else none) = _
      have ob := hI.1.1.ship (i := k) (show k < 80 by omega)
      rw [if_pos (show 10 + 39 + 1 + k < n ∧ τ (10 + 39 + 1 + k) = .inl 9 from ob)]
      have es : (cW c 10 (wA v H i) (N (v 1211))).1 (10 + 39 + 1 + k) 10 = wA v H i k := by rw [cW_1, if_pos (by omega), show 10 + 39 + 1 + k - 50 = k by omega]
      have et : (cW c 10 (wA v H i) (N (v 1211))).1 (10 + 39 + 1 + k) 13 = v (1212 + 18 * k + 12) := by rw [cW_1, if_neg (by omega)]; exact h.shp k q1 13 12 rfl
      rw [es, et]
      have oth : ∀ k', k' ≠ k → k' < N (v 1211) → wA v H (i + 1) k' = wA v H i k' := fun k' hne hk' => by
        unfold wA
        by_cases p : cnd v H k' ∧ ∃ i', i' < i ∧ v (1000 + 8 * i' + 6) = nI k'
        · rw [ifc_pos p, ifc_pos ⟨p.1, p.2.imp fun i' g => ⟨by omega, g.2⟩⟩]
        · rw [ifc_neg p, ifc_neg (fun ⟨g1, i', g2, g3⟩ => p ⟨g1, i', by
            by_cases e : i' = i
            · subst e; rw [q2] at g3; exact absurd g3.symm (nI_inj (by omega) (by omega) hne)
            · omega, g3⟩)]
      by_cases p : cnd v H k ∧ ∃ i', i' < i ∧ v (1000 + 8 * i' + 6) = nI k
      · have e1 : wA v H i k = nI 2 := ifc_pos p
        have e2 : wA v H (i + 1) k = nI 2 := ifc_pos ⟨p.1, p.2.imp fun i' g => ⟨by omega, g.2⟩⟩
        rw [e1, if_neg (show ¬ (nI 2 : Int32) = nI 1 by decide), ← same (fun k' hk' => by
          by_cases e : k' = k
          · subst e; rw [e1, e2]
          · exact oth k' e hk')]
        exact ih'
      · have e1 : wA v H i k = v (1212 + 18 * k + 9) := ifc_neg p
        rw [e1]
        by_cases c1 : v (1212 + 18 * k + 9) = nI 1
        · rw [if_pos c1]
          by_cases c2 : nI H < v (1212 + 18 * k + 12)
          · rw [if_pos c2, ← same (fun k' hk' => by
              by_cases e : k' = k
              · subst e
                rw [e1]
                exact ifc_neg (fun g => g.1.2 c2)
              · exact oth k' e hk')]
            exact ih'
          · rw [if_neg c2]
            have e2 : wA v H (i + 1) k = nI 2 := ifc_pos ⟨⟨c1, c2⟩, i, by omega, q2⟩
            have : cp (cW c 10 (wA v H i) (N (v 1211))) (10 + 39 + 1 + k) 10 (nI 2) = cW c 10 (wA v H (i + 1)) (N (v 1211)) := cS_ext (fun q j => by
              rw [show 10 + 39 + 1 + k = 50 + k by omega]
              by_cases eq : q = 50 + k
              · subst eq
                rw [cp_q]
                by_cases ej : j = 10
                · subst ej
                  rw [upd_s, cW_1, if_pos (by omega), show 50 + k - 50 = k by omega, e2]
                · rw [upd_n ej, cW_1, cW_1, if_neg (by omega), if_neg (by omega)]
              · rw [cp_1 _ eq, cW_1, cW_1]
                by_cases q1' : 50 ≤ q ∧ q < 50 + N (v 1211) ∧ j = 10
                · rw [if_pos q1', if_pos q1', oth _ (by omega) (by omega)]
                · rw [if_neg q1', if_neg q1']) (by rw [cp_2, cW_2, cW_2])
            rw [this]
            exact ih'
        · rw [if_neg c1, ← same (fun k' hk' => by
            by_cases e : k' = k
            · subst e
              rw [e1]
              exact ifc_neg (fun g => c1 g.1.1)
            · exact oth k' e hk')]
          exact ih'
theorem o_arrive (hF : 11 < F) (h : RB τ n c 10 v) (hI : LI τ n) : o_X5_arrive F τ n 10 c (nI H) = some (cW c 10 (wB v H) (N (v 1211))) := by
  have n9 := h.n999
  have n12 := h.n1211
  have a1 := arr_loop (F := F) (H := H) h.x hI h.cr _ 0 F (Nat.zero_add _) (by omega)
  have e0 : cW c 10 (wA v H 0) (N (v 1211)) = c := cS_ext (fun q j => by
    rw [cW_1]
    by_cases q1 : 50 ≤ q ∧ q < 50 + N (v 1211) ∧ j = 10
    · rw [if_pos q1]
      have : wA v H 0 (q - 50) = v (1212 + 18 * (q - 50) + 9) := ifc_neg (fun ⟨_, i', g, _⟩ => by omega)
      rw [this, q1.2.2]
      have := h.shp (q - 50) (by omega) 10 9 rfl
      rw [show 10 + 40 + (q - 50) = q by omega] at this
      exact this.symm
    · rw [if_neg q1]) (by rw [cW_2])
  have e1 : cW c 10 (wA v H (N (v 999))) (N (v 1211)) = cW c 10 (wB v H) (N (v 1211)) := cS_ext (fun q j => by
    rw [cW_1, cW_1]
    by_cases q1 : 50 ≤ q ∧ q < 50 + N (v 1211) ∧ j = 10
    · rw [if_pos q1, if_pos q1]
      unfold wA wB
      by_cases p : cnd v H (q - 50)
      · have s1 : N (v (1212 + 18 * (q - 50) + 9)) = 1 := by rw [p.1]; rfl
        obtain ⟨i, i1, i2, i3⟩ := h.cr.sh (q - 50) (by omega) (by omega) (by omega)
        rw [ifc_pos p, ifc_pos ⟨p, i, i1, i3⟩]
      · rw [ifc_neg p, ifc_neg (fun g => p g.1)]
    · rw [if_neg q1, if_neg q1]) (by rw [cW_2, cW_2])
  unfold o_X5_arrive
  rw [e0, e1] at a1
  rw [a1, Option.bind_some]
theorem ra_loop (v : Nat → Int32) (hH : v 0 = nI H) (h12 : N (v 1211) ≤ 80) : ∀ (r t f : Nat) (s : rs_S), t + r = N (v 1211) → r < f → s.2.1 = vW v 9 (wB v H) t → ∃ s', o_X12_anHour_45 F (nI (N (v 1211))) f (nI t) s = some s' ∧ s'.2.1 = vW v 9 (wB v H) (N (v 1211)) ∧ s'.1 = s.1 ∧ s'.2.2 = s.2.2 := by
  intro r
  induction r with
  | zero =>
    intro t f s ht hf hs
    obtain ⟨f, rfl⟩ : ∃ x, f = x + 1 := ⟨f - 1, by omega⟩
    rw [o_X12_anHour_45, if_pos (nI_yes (by omega) (by omega) (by omega))]
    exact ⟨s, rfl, by rw [hs, show t = N (v 1211) by omega], rfl, rfl⟩
  | succ r ih =>
    intro t f s ht hf hs
    obtain ⟨f, rfl⟩ : ∃ x, f = x + 1 := ⟨f - 1, by omega⟩
    have u : ∀ g, g < 18 → s.2.1 (1212 + 18 * t + g) = v (1212 + 18 * t + g) := fun g hg => by rw [hs]; exact vW_o t (fun k hk => by omega)
    have h0 : s.2.1 0 = nI H := by rw [hs, vW_o t (fun k hk => by omega)]; exact hH
    have skip : wB v H t = v (1212 + 18 * t + 9) → s.2.1 = vW v 9 (wB v H) (t + 1) := fun e => by
      rw [vW, e, ← hs, upd_id (u 9 (by decide))]
    rw [o_X12_anHour_45, if_neg (nI_no (by omega) (by omega) (by omega)), o_of (show t < 80 by omega) (show 9 < 18 by decide), u 9 (by decide), Option.bind_some, nI_add]
    by_cases c1 : v (1212 + 18 * t + 9) = nI 1
    · rw [if_pos c1, o_of (show t < 80 by omega) (show 12 < 18 by decide), u 12 (by decide), Option.bind_some]
      unfold o_X12_hour
      rw [Option.bind_some, gW_n _ (by decide), h0]
      by_cases c2 : nI H < v (1212 + 18 * t + 12)
      · rw [if_pos c2]
        exact ih (t + 1) f s (by omega) (by omega) (skip (ifc_neg (fun g => g.2 c2)))
      · rw [if_neg c2, o_sets (show t < 80 by omega) (by decide), Option.bind_some]
        obtain ⟨s', a1, a2, a3, a4⟩ := ih (t + 1) f (pW s (nI (1212 + 18 * t + 9)) (nI 2)) (by omega) (by omega) (by
          rw [pW_21, nI_clamp (by omega), vW, hs, show wB v H t = nI 2 from ifc_pos ⟨c1, c2⟩])
        exact ⟨s', a1, a2, a3, a4⟩
    · rw [if_neg c1]
      exact ih (t + 1) f s (by omega) (by omega) (skip (ifc_neg (fun g => c1 g.1)))
theorem o_arrR (hF : 81 < F) (h : RB τ n c 10 s.2.1) (hH : s.2.1 0 = nI H) : ∃ s', o_X12_anHour_45 F (nI (N (s.2.1 1211))) F (nI 0) s = some s' ∧ s'.2.1 = vW s.2.1 9 (wB s.2.1 H) (N (s.2.1 1211)) ∧ s'.1 = s.1 ∧ s'.2.2 = s.2.2 := ra_loop (F := F) s.2.1 hH h.n1211.2 _ 0 F s (Nat.zero_add _) (by have := h.n1211.2; omega) rfl
theorem RB.arrived (h : RB τ n c 10 v) (hI : LI τ n) : RB τ n (cW c 10 (wB v H) (N (v 1211))) 10 (vW v 9 (wB v H) (N (v 1211))) := by
  have n12 := h.n1211.2
  refine (h.x.shipW (f := 10) (g := 9) (w := wB v H) hI rfl _ (Nat.le_refl _) (fun k hk => ?_)).rb (h.cr.stW h.rg (fun k hk => ?_))
  · unfold wB
    by_cases p : cnd v H k
    · rw [ifc_pos p]
      exact ok_n (rg_s (f := 9) (show k < 80 by omega) (by decide)) (by show (0 : Int) ≤ _; omega) (by show _ ≤ (4 : Int); omega) (by decide)
    · rw [ifc_neg p]; exact h.rg _
  · unfold wB
    by_cases p : cnd v H k
    · rw [ifc_pos p, p.1, N_nI (by decide), N_nI (by decide)]
      exact Or.inr ⟨by decide, by decide, by decide, by decide⟩
    · rw [ifc_neg p]; exact Or.inl rfl
end ARR
