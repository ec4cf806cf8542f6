/-! THE PURE LAYER: what is due -/
section DUE
variable {F : Nat} {x : Nat → Int32} {τ : cT} {n p q a i : Nat} {c c' : cS} {s s' : rs_S}
theorem o_of {k f : Nat} (hk : k < 80) (hf : f < 18) : o_X12_of s (nI k) (nI f) = some (s.2.1 (1212 + 18 * k + f)) := by
  unfold o_X12_of o_X12_shipAt
  simp only [Option.bind_some, nI_mul, nI_add]
  rw [if_pos (iL_t (show 1212 + 18 * k + f < 22216 by omega) (by decide)), gW_n _ (by omega)]
theorem o_pat {k f : Nat} : o_X12_payerAt s (nI k) (nI f) = some (nI (1091 + 4 * k + f)) := by
  unfold o_X12_payerAt
  simp only [nI_mul, nI_add]
/-- only what is asked differs -/
def Sc (s s' : rs_S) : Prop := s'.2.1 = s.2.1 ∧ (∀ j, j ≠ 18 → j ≠ 19 → s'.1 j = s.1 j) ∧ ∀ k, k ≠ 6 → k ≠ 7 → s'.2.2 k = s.2.2 k
theorem S6.sc (h : S6 s s') : Sc s s' := ⟨h.2.1, fun j _ _ => by rw [h.1], fun k hk _ => h.2.2 k hk⟩
theorem Sc.refl (s : rs_S) : Sc s s := ⟨rfl, fun _ _ _ => rfl, fun _ _ _ => rfl⟩
theorem Sc.trans {s'' : rs_S} (h : Sc s s') (h' : Sc s' s'') : Sc s s'' := ⟨h'.1.trans h.1, fun j a b => (h'.2.1 j a b).trans (h.2.1 j a b), fun k a b => (h'.2.2 k a b).trans (h.2.2 k a b)⟩
theorem Sc.n18 (s : rs_S) (y : Int32) : Sc s (pN s 18 y) := ⟨rfl, fun j h _ => pN_n h, fun _ _ _ => rfl⟩
theorem Sc.n19 (s : rs_S) (y : Int32) : Sc s (pN s 19 y) := ⟨rfl, fun j _ h => pN_n h, fun _ _ _ => rfl⟩
theorem Sc.r7 (s : rs_S) (i y : Int32) : Sc s (pR s 7 i y) := ⟨rfl, fun _ _ _ => rfl, fun k _ h => va_up_ne _ _ h⟩
/-- only the class's row of facts differs -/
def Cf (c c' : cS) : Prop := (∀ a, a ≠ 177 → c'.1 a = c.1 a) ∧ c'.2 = c.2
theorem Cf.refl (c : cS) : Cf c c := ⟨fun _ _ => rfl, rfl⟩
theorem Cf.trans {c'' : cS} (h : Cf c c') (h' : Cf c' c'') : Cf c c'' := ⟨fun a ha => (h'.1 a ha).trans (h.1 a ha), h'.2.trans h.2⟩
theorem Cf.one (c : cS) (j : Nat) (y : Int32) : Cf c (cp c 177 j y) := ⟨fun a ha => cp_1 _ ha, rfl⟩
theorem Cf.nw (h : Cf c c') : Nw c c' := ⟨fun q hq => h.1 q (by omega), fun q _ => by rw [h.2]⟩
theorem Cf.fr {v : Nat → Int32} (h : Cf c c') : Fr c c' 10 v := ⟨fun o ho j _ _ _ => by rw [h.1 _ (by omega)], fun i hi => by rw [h.2], fun a ha => by rw [h.2], by rw [h.2]⟩
theorem RB.cf {v : Nat → Int32} (h : RB τ n c 10 v) (hI : LI τ n) (hc : Cf c c') : RB τ n c' 10 v := h.frame ext_id hc.fr (hc.nw.as hI) (fun _ _ => Or.inr rfl) h.rg
theorem Rel.sc (h : Rel τ n c s) (hI : LI τ n) (hc : Cf c c') (hs : Sc s s') : Rel τ n c' s' := h.now hI hc.nw (by rw [hs.1]; exact h.b.cf hI hc) (fun j hj => hs.2.1 j (by omega) (by omega)) (fun j hj => hs.2.2 j (by omega) (by omega))
theorem RAct.cf {v : Nat → Int32} (h : RAct τ c p v a) (hp : p = 28 ∨ 180 ≤ p) (hc : Cf c c') : RAct τ c' p v a := h.same (fun _ _ => rfl) (fun j hj => hc.1 _ (by omega)) (fun _ _ _ => rfl)
theorem RLaw.cf {v : Nat → Int32} {y : Int32} (h : RLaw τ c p v y) (hp : p = 28 ∨ 180 ≤ p) (hc : Cf c c') : RLaw τ c' p v y := by
  rcases h with ⟨e1, e2⟩ | ⟨a, ha, e1, h⟩
  · exact Or.inl ⟨e1, by rw [hc.1 _ (by omega)]; exact e2⟩
  · exact Or.inr ⟨a, ha, e1, h.cf hp hc⟩
/-- a ship's act -/
theorem RB.lawOf {v : Nat → Int32} {k : Nat} (h : RB τ n c 10 v) (hI : LI τ n) (hz : c.1 28 0 = nI 0) (hk : k < N (v 1211)) : ∃ p, c.2 (50 + k) 8 = some p ∧ acb τ n p = true ∧ RLaw τ c p v (v (1212 + 18 * k + 17)) := by
  have hn := h.n2811.2
  rcases h.law k hk with ⟨e1, e2⟩ | ⟨a, h1, e1, e2⟩
  · refine ⟨28, by rw [show 50 + k = 10 + 40 + k by omega]; exact e2, ?_, Or.inl ⟨e1, hz⟩⟩
    exact (ap_acb (b := 10) (m := 0) (c := c) (v := v) (t := 0) hI.1.1 (fun i hi => absurd hi (by omega)))
  · obtain ⟨_, p, q1, q2, q3⟩ := h.txt a h1
    exact ⟨p, by rw [show 50 + k = 10 + 40 + k by omega, e2]; exact q1, q2, Or.inr ⟨a, by omega, e1, q3⟩⟩
/-- today's act -/
theorem RB.lawNow {v : Nat → Int32} (h : RB τ n c 10 v) (hI : LI τ n) (hz : c.1 28 0 = nI 0) (hF : 21 ≤ F) : ∃ p, o_X2_actOfToday F τ n 10 c = some p ∧ p = ap c 10 (ao v (v 0 / nI 24) (N (v 2811))) ∧ acb τ n p = true ∧ RLaw τ c p v (eC (ao v (v 0 / nI 24) (N (v 2811)))) := by
  have hn := h.n2811
  have hp : ∀ i, i < N (v 2811) → ∃ p, c.2 (10 + 24) i = some p ∧ acb τ n p = true := fun i hi => by
    obtain ⟨_, p, e2, e3, _⟩ := h.txt i hi
    exact ⟨p, e2, e3⟩
  refine ⟨_, o_actOfToday hF hI.1.1 (h.pl 0 0 0 rfl) ((h.pl 2811 17 3 rfl).trans hn.1) (fun i hi => (h.txt i hi).1) hp hn.2, rfl, ap_acb hI.1.1 hp, ?_⟩
  cases e : ao v (v 0 / nI 24) (N (v 2811)) with
  | none => exact Or.inl ⟨rfl, hz⟩
  | some j =>
    have hj := ao_lt e
    obtain ⟨_, p, q1, q2, q3⟩ := h.txt j hj
    refine Or.inr ⟨j, by omega, rfl, ?_⟩
    show RAct τ c ((c.2 (10 + 24) j).getD 0) v j
    rw [q1]
    exact q3
theorem R_today {s : rs_S} (hF : 21 ≤ F) (h : RB τ n c 10 s.2.1) : o_X12_today s = some (s.2.1 0 / nI 24) ∧ o_X12_actOf F s (s.2.1 0 / nI 24) = some (eC (ao s.2.1 (s.2.1 0 / nI 24) (N (s.2.1 2811)))) := by
  refine ⟨?_, o_actOf hF h.n2811.1 h.n2811.2⟩
  unfold o_X12_today
  rw [gW_n _ (by decide)]
/-- the class asks of a ship -/
theorem ask_loop {k : Nat} {y : Int32} (hk : k < 80) : ∀ (r i f : Nat) (c' : cS), i + r = 6 → r < f → Cf c c' → (∀ j, j < i → c'.1 177 j = if c.1 (50 + k) 0 = nI j then nI 1 else nI 0) → ∃ c'', o_X2_askOfShip_2 F τ n 10 (50 + k) y f (nI i) c' = some c'' ∧ Cf c c'' ∧ ∀ j, j < 6 → c''.1 177 j = if c.1 (50 + k) 0 = nI j then nI 1 else nI 0 := by
  intro r
  induction r with
  | zero =>
    intro i f c' hi hf hc hj
    obtain ⟨f, rfl⟩ : ∃ x, f = x + 1 := ⟨f - 1, by omega⟩
    rw [o_X2_askOfShip_2, if_pos (nI_yes (by decide) (by omega) (by omega))]
    exact ⟨c', rfl, hc, fun j h => hj j (by omega)⟩
  | succ r ih =>
    intro i f c' hi hf hc hj
    obtain ⟨f, rfl⟩ : ∃ x, f = x + 1 := ⟨f - 1, by omega⟩
    rw [o_X2_askOfShip_2, if_neg (nI_no (by decide) (by omega) (by omega)), if_pos (iL_t (show i < 12 by omega) (by decide)), if_pos (iL_t (show i < 12 by omega) (by decide)), ca_n _ _ (by omega), ca_n _ _ (by omega), nI_add, hc.1 (50 + k) (by omega)]
    by_cases q1 : c.1 (50 + k) 0 = nI i
    · rw [if_pos q1]
      refine ih (i + 1) f _ (by omega) (by omega) (hc.trans (Cf.one _ _ _)) (fun j h => ?_)
      show (cp c' 177 i (nI 1)).1 177 j = _
      rw [cp_q]
      by_cases e : j = i
      · subst e; rw [upd_s, if_pos q1]
      · rw [upd_n e]; exact hj j (by omega)
    · rw [if_neg q1]
      refine ih (i + 1) f _ (by omega) (by omega) (hc.trans (Cf.one _ _ _)) (fun j h => ?_)
      show (cp c' 177 i (nI 0)).1 177 j = _
      rw [cp_q]
      by_cases e : j = i
      · subst e; rw [upd_s, if_neg q1]
      · rw [upd_n e]; exact hj j (by omega)
theorem o_askC {k t : Nat} {y : Int32} (hF : 7 ≤ F) (hk : k < 80) (ht : t < 2) (h3 : c.1 (50 + k) 3 = nI t) : ∃ c', o_X2_askOfShip F τ n 10 (50 + k) c y = some c' ∧ Cf c c' ∧ (∀ j, j < 6 → c'.1 177 j = if c.1 (50 + k) 0 = nI j then nI 1 else nI 0) ∧ c'.1 177 6 = nI t ∧ c'.1 177 7 = c.1 (50 + k) 1 ∧ c'.1 177 8 = c.1 (50 + k) 2 ∧ c'.1 177 9 = y ∧ c'.1 177 10 = nI 0 ∧ c'.1 177 11 = nI 0 := by
  obtain ⟨c1, a1, a2, a3⟩ := ask_loop (F := F) (τ := τ) (n := n) (c := c) (y := y) hk 6 0 F c rfl (by omega) (Cf.refl c) (fun j hj => absurd hj (by omega))
  unfold o_X2_askOfShip
  rw [a1]
  simp only [Option.bind_some]
  rw [a2.1 (50 + k) (by omega), h3]
  have e1 : c1.1 (50 + k) 1 = c.1 (50 + k) 1 := by rw [a2.1 _ (by omega)]
  have e2 : c1.1 (50 + k) 2 = c.1 (50 + k) 2 := by rw [a2.1 _ (by omega)]
  have fin : ∀ z : Int32, z = nI t → ∃ c', some (cp (cp (cp (cp (cp (cp c1 177 6 z) 177 7 (c.1 (50 + k) 1)) 177 8 (c.1 (50 + k) 2)) 177 9 y) 177 10 (nI 0)) 177 11 (nI 0)) = some c' ∧ Cf c c' ∧ (∀ j, j < 6 → c'.1 177 j = if c.1 (50 + k) 0 = nI j then nI 1 else nI 0) ∧ c'.1 177 6 = nI t ∧ c'.1 177 7 = c.1 (50 + k) 1 ∧ c'.1 177 8 = c.1 (50 + k) 2 ∧ c'.1 177 9 = y ∧ c'.1 177 10 = nI 0 ∧ c'.1 177 11 = nI 0 := fun z hz => by
    subst hz
    refine ⟨_, rfl, ((((((a2.trans (Cf.one _ _ _)).trans (Cf.one _ _ _)).trans (Cf.one _ _ _)).trans (Cf.one _ _ _)).trans (Cf.one _ _ _)).trans (Cf.one _ _ _)), ?_, ?_, ?_, ?_, ?_, ?_, ?_⟩
    · intro j hj
      rw [cp_q, cp_q, cp_q, cp_q, cp_q, cp_q, upd_n (by omega), upd_n (by omega), upd_n (by omega), upd_n (by omega), upd_n (by omega), upd_n (by omega)]
      exact a3 j hj
    all_goals (simp only [cp_q]; rfl)
  have n6 : ∀ z : Int32, ca (ca c1 177 (nI 6) z) 177 (nI 7) ((ca c1 177 (nI 6) z).1 (50 + k) 1) = cp (cp c1 177 6 z) 177 7 (c.1 (50 + k) 1) := fun z => by
    rw [ca_n _ _ (by decide), ca_n _ _ (by decide), cp_1 _ (by omega), e1]
  have n8 : ∀ z : Int32, ca (ca (ca (ca (cp (cp c1 177 6 z) 177 7 (c.1 (50 + k) 1)) 177 (nI 8) ((cp (cp c1 177 6 z) 177 7 (c.1 (50 + k) 1)).1 (50 + k) 2)) 177 (nI 9) y) 177 (nI 10) (nI 0)) 177 (nI 11) (nI 0) = cp (cp (cp (cp (cp (cp c1 177 6 z) 177 7 (c.1 (50 + k) 1)) 177 8 (c.1 (50 + k) 2)) 177 9 y) 177 10 (nI 0)) 177 11 (nI 0) := fun z => by
    rw [ca_n _ _ (by decide), ca_n _ _ (by decide), ca_n _ _ (by decide), ca_n _ _ (by decide), cp_1 _ (by omega), cp_1 _ (by omega), e2]
  match t, ht with
  | 0, _ =>
    rw [if_pos nI_0]
    have := fin (nI 0) rfl
    rw [← n8, ← n6] at this
    exact this
  | 1, _ =>
    rw [if_neg (by decide)]
    have := fin (nI 1) rfl
    rw [← n8, ← n6] at this
    exact this
  | t + 2, h => exact absurd h (by omega)
theorem o_looksR {k t : Nat} {y : Int32} (hk : k < 80) (ht : t < 2) (h6 : s.2.1 (1212 + 18 * k + 6) = nI t) : ∃ s', o_X12_looksAtShip s (nI k) y = some s' ∧ Sc s s' ∧ s'.1 18 = s.2.1 (1212 + 18 * k + 1) ∧ s'.1 19 = nI t ∧ s'.2.2 7 0 = s.2.1 (1212 + 18 * k + 2) ∧ s'.2.2 7 1 = s.2.1 (1212 + 18 * k + 3) ∧ s'.2.2 7 2 = y ∧ s'.2.2 7 3 = nI 0 ∧ s'.2.2 7 4 = nI 0 := by
  unfold o_X12_looksAtShip
  rw [o_of hk (by decide)]
  simp only [Option.bind_some]
  rw [o_of hk (by decide)]
  simp only [Option.bind_some]
  rw [show (pN s 18 (s.2.1 (1212 + 18 * k + 1))).2.1 (1212 + 18 * k + 6) = nI t from h6]
  have fin : ∀ z : Int32, z = nI t → ∃ s', ((o_X12_of (pN (pN s 18 (s.2.1 (1212 + 18 * k + 1))) 19 z) (nI k) (nI 2)).bind fun x6 => ((o_X12_of (pR (pN (pN s 18 (s.2.1 (1212 + 18 * k + 1))) 19 z) 7 (nI 0) x6) (nI k) (nI 3)).bind fun x7 => (some (pR (pR (pR (pR (pR (pN (pN s 18 (s.2.1 (1212 + 18 * k + 1))) 19 z) 7 (nI 0) x6) 7 (nI 1) x7) 7 (nI 2) y) 7 (nI 3) (nI 0)) 7 (nI 4) (nI 0))))) = some s' ∧ Sc s s' ∧ s'.1 18 = s.2.1 (1212 + 18 * k + 1) ∧ s'.1 19 = nI t ∧ s'.2.2 7 0 = s.2.1 (1212 + 18 * k + 2) ∧ s'.2.2 7 1 = s.2.1 (1212 + 18 * k + 3) ∧ s'.2.2 7 2 = y ∧ s'.2.2 7 3 = nI 0 ∧ s'.2.2 7 4 = nI 0 := fun z hz => by
    subst hz
    rw [o_of hk (by decide)]
    simp only [Option.bind_some]
    rw [o_of hk (by decide)]
    simp only [Option.bind_some]
    refine ⟨_, rfl, ((((((Sc.n18 _ _).trans (Sc.n19 _ _)).trans (Sc.r7 _ _ _)).trans (Sc.r7 _ _ _)).trans (Sc.r7 _ _ _)).trans (Sc.r7 _ _ _)).trans (Sc.r7 _ _ _), ?_, ?_, ?_, ?_, ?_, ?_, ?_⟩
    all_goals rfl
  match t, ht with
  | 0, _ => rw [if_neg (by decide)]; exact fin (nI 0) rfl
  | 1, _ => rw [if_pos rfl]; exact fin (nI 1) rfl
  | t + 2, h => exact absurd h (by omega)
theorem Rg.fo {v : Nat → Int32} (h : Rg v) {k : Nat} (hk : k < 80) : ∃ t, t < 2 ∧ v (1212 + 18 * k + 6) = nI t := by
  have := h.nat (k := 1212 + 18 * k + 6) (hi := 1) (rg_s hk (by decide))
  exact ⟨N (v (1212 + 18 * k + 6)), by omega, this.1⟩
theorem o_ask {k : Nat} {y : Int32} (hF : 7 ≤ F) (h : RB τ n c 10 s.2.1) (hk : k < N (s.2.1 1211)) : ∃ c' s', o_X2_askOfShip F τ n 10 (50 + k) c y = some c' ∧ o_X12_looksAtShip s (nI k) y = some s' ∧ Cf c c' ∧ Sc s s' ∧ RF c' 177 s' := by
  have hm := h.n1211.2
  have e := fun f g hfg => h.shp k hk f g hfg
  obtain ⟨t, ht, h6⟩ := h.rg.fo (show k < 80 by omega)
  obtain ⟨c', a1, a2, a3, a4, a5, a6, a7, a8, a9⟩ := o_askC (F := F) (τ := τ) (n := n) (c := c) (y := y) hF (show k < 80 by omega) ht (show c.1 (50 + k) 3 = nI t by rw [show 50 + k = 10 + 40 + k by omega, e 3 6 rfl]; exact h6)
  obtain ⟨s', b1, b2, b3, b4, b5, b6, b7, b8, b9⟩ := o_looksR (s := s) (y := y) (show k < 80 by omega) ht h6
  refine ⟨c', s', a1, b1, a2, b2, ?_, ⟨t, ht, a4, b4⟩, ?_⟩
  · intro j hj
    rw [a3 j hj, b3, show 50 + k = 10 + 40 + k by omega, e 0 1 rfl]
  · intro j hj
    match j, hj with
    | 0, _ => rw [b5, show 7 + 0 = 7 from rfl, a5, show 50 + k = 10 + 40 + k by omega]; exact e 1 2 rfl
    | 1, _ => rw [b6, show 7 + 1 = 8 from rfl, a6, show 50 + k = 10 + 40 + k by omega]; exact e 2 3 rfl
    | 2, _ => rw [b7, show 7 + 2 = 9 from rfl, a7]
    | 3, _ => rw [b8, show 7 + 3 = 10 from rfl, a8]
    | 4, _ => rw [b9, show 7 + 4 = 11 from rfl, a9]
    | j + 5, h => exact absurd h (by omega)
/-- the due by a text -/
theorem o_due {k : Nat} {y z : Int32} (hF : 401 < F) (h : RB τ n c 10 s.2.1) (hk : k < N (s.2.1 1211)) (hl : RLaw τ c p s.2.1 z) (hp : p = 28 ∨ 180 ≤ p) : ∃ d c' s', d ≤ 2000000000 ∧ o_X2_dueBy F τ n 10 p (50 + k) c y = some (nI d, c') ∧ o_X12_dueOf F s (nI k) z y = some (nI d, s') ∧ Cf c c' ∧ Sc s s' ∧ RF c' 177 s' := by
  have hm := h.n1211.2
  obtain ⟨c1, s1, a1, a2, a3, a4, a5⟩ := o_ask (y := y) (F := F) (by omega) h hk
  have hl1 : RLaw τ c1 p s1.2.1 z := by rw [a4.1]; exact hl.cf hp a3
  obtain ⟨k1, s2, b1, b2, b3, b4⟩ := hl1.sum (n := n) (kd := 0) hF a5 (by decide) (by decide)
  have hl2 : RLaw τ c1 p s2.2.1 z := by rw [b4.2.1]; exact hl1
  obtain ⟨k2, s3, d1, d2, d3, d4⟩ := hl2.sum (n := n) (kd := 1) hF (b4.rf a5) (by decide) (by decide)
  have ht := h.rg.nat (k := 1212 + 18 * k + 2) (hi := 20000) (rg_s (show k < 80 by omega) (by decide))
  have et : s2.2.1 (1212 + 18 * k + 2) = nI (N (s.2.1 (1212 + 18 * k + 2))) := by rw [b4.2.1, a4.1]; exact ht.1
  have ec : c1.1 (50 + k) 1 = nI (N (s.2.1 (1212 + 18 * k + 2))) := by
    rw [a3.1 _ (by omega), show 50 + k = 10 + 40 + k by omega, h.shp k hk 1 2 rfl]; exact ht.1
  generalize N (s.2.1 (1212 + 18 * k + 2)) = T at *
  have hb : k1 * T + k2 < 2 ^ 63 := by
    have : k1 * T ≤ 19999980 * 20000 := Nat.mul_le_mul b1 (by omega)
    omega
  have em : ∀ m, m < 2 ^ 63 → ∃ d, d ≤ 2000000000 ∧ (mnl (lN m) 2000000000).toInt32 = nI d := fun m hm => by
    unfold mnl
    by_cases q : 2000000000 < m
    · rw [if_pos (show (2000000000 : Int64) < lN m from (pk_lLT (show 2000000000 < 2 ^ 63 by decide) hm).mpr q)]
      exact ⟨2000000000, by decide, by decide⟩
    · rw [if_neg (show ¬ (2000000000 : Int64) < lN m from fun q2 => q ((pk_lLT (show 2000000000 < 2 ^ 63 by decide) hm).mp q2))]
      exact ⟨m, by omega, lN_i m⟩
  obtain ⟨d, hd, ed⟩ := em _ hb
  refine ⟨d, c1, s3, hd, ?_, ?_, a3, (a4.trans b4.sc).trans d4.sc, d4.rf (b4.rf a5)⟩
  · unfold o_X2_dueBy
    rw [a1]
    simp only [Option.bind_some]
    rw [show (10 + 167 : Nat) = 177 from rfl, b2, d2]
    simp only [Option.bind_some]
    unfold o_X11_capped
    rw [ec, nI_l (by omega), nI_l (by omega), nI_l (by omega), lN_mul, lN_add, ed]
    rfl
  · unfold o_X12_dueOf
    rw [a2]
    simp only [Option.bind_some]
    rw [b3]
    simp only [Option.bind_some]
    rw [o_of (show k < 80 by omega) (by decide), et]
    simp only [Option.bind_some]
    rw [d3]
    simp only [Option.bind_some]
    unfold o_X12_added
    rw [nI_l (by omega), nI_l (by omega), lN_mul, lN_add, lN_add, Nat.zero_add, ← mnl_comm, ed]
    rfl
end DUE
