/-! THE PURE LAYER: bringing in, the sets of the class -/
section JOIN
variable {F : Nat} {τ : cT} {n m cell k i S : Nat} {c c' cb : cS} {fb : Nat → Nat → Option Nat} {du sv hv : Nat → Nat}
theorem x_dn {S P : Nat} (hS : S < 16) (h : P &&& S = P) (hP : 1 ≤ P) : S ^^^ P < S ∧ P ≤ S := by
  have all : ∀ S, S < 16 → ∀ P, P < 16 → (P &&& S = P ∧ 1 ≤ P → S ^^^ P < S ∧ P ≤ S) := by decide +kernel
  exact all S hS P (x_sub hS h) ⟨h, hP⟩
/-- the least sum of a set, with one berth more -/
def JN (sv hv : Nat → Nat) (S y : Nat) : Prop := y ≤ sv S ∧ (∀ P, 1 ≤ P → P &&& S = P → y ≤ sv (S ^^^ P) + hv P) ∧ (y = sv S ∨ ∃ P, 1 ≤ P ∧ P &&& S = P ∧ y = sv (S ^^^ P) + hv P)
theorem jn_loop (hS : S < 16) (e6 : ∀ T, T < S → c.1 176 T = nI (sv T) ∧ sv T ≤ 1000000) (e5 : He c hv) : ∀ (r p f l : Nat), p + r = S + 1 → 1 ≤ p → r < f → l ≤ 1000000 → ∃ y, y ≤ 1000000 ∧ o_X4_joinSets_9 F τ n 10 (nI S) c f (nI l) (nI p) = some (nI y) ∧ y ≤ l ∧ (∀ P, p ≤ P → P &&& S = P → y ≤ sv (S ^^^ P) + hv P) ∧ (y = l ∨ ∃ P, 1 ≤ P ∧ P &&& S = P ∧ y = sv (S ^^^ P) + hv P) := by
  intro r
  induction r with
  | zero =>
    intro p f l hp h1 hf hl
    obtain ⟨f, rfl⟩ : ∃ x, f = x + 1 := ⟨f - 1, by omega⟩
    rw [o_X4_joinSets_9, if_pos ((nI_ltI (by omega) (by omega)).mpr (by omega))]
    exact ⟨l, hl, rfl, Nat.le_refl _, fun P q1 q2 => by have := (x_dn hS q2 (by omega)).2; omega, Or.inl rfl⟩
  | succ r ih =>
    intro p f l hp h1 hf hl
    obtain ⟨f, rfl⟩ : ∃ x, f = x + 1 := ⟨f - 1, by omega⟩
    rw [o_X4_joinSets_9, if_neg (nI_ngt (by omega) (by omega) (by omega)), nI_and, nI_add p 1]
    by_cases q : p &&& S = p
    · obtain ⟨d1, d2⟩ := x_dn hS q h1
      have z1 := e6 _ d1
      have z2 := e5 p (by omega)
      rw [q, if_pos rfl, nI_xor, if_pos (iL_t (show S ^^^ p < 16 by omega) (by decide)), if_pos (iL_t (show p < 16 by omega) (by decide)), cg_n _ _ (by omega), cg_n _ _ (by omega), show c.1 (10 + 166) (S ^^^ p) = nI (sv (S ^^^ p)) from z1.1, show c.1 (10 + 165) p = nI (hv p) from z2.1, nI_add, mni_n (by omega) (by omega)]
      have m1 : min l (sv (S ^^^ p) + hv p) ≤ l := Nat.min_le_left _ _
      have m2 : min l (sv (S ^^^ p) + hv p) ≤ sv (S ^^^ p) + hv p := Nat.min_le_right _ _
      obtain ⟨y, y0, y1, y2, y3, y4⟩ := ih (p + 1) f (min l (sv (S ^^^ p) + hv p)) (by omega) (by omega) (by omega) (by omega)
      refine ⟨y, y0, y1, by omega, fun P q1 q2 => ?_, ?_⟩
      · by_cases e : P = p
        · subst e; omega
        · exact y3 P (by omega) q2
      · rcases y4 with y4 | y4
        · rcases Nat.le_total l (sv (S ^^^ p) + hv p) with g | g
          · rw [Nat.min_eq_left g] at y4; exact Or.inl y4
          · rw [Nat.min_eq_right g] at y4; exact Or.inr ⟨p, h1, q, y4⟩
        · exact Or.inr y4
    · rw [if_neg (fun e => q ((nI_eq (by have : p &&& S ≤ p := Nat.and_le_left; omega) (by omega)).mp e))]
      obtain ⟨y, y0, y1, y2, y3, y4⟩ := ih (p + 1) f l (by omega) (by omega) (by omega) hl
      refine ⟨y, y0, y1, y2, fun P q1 q2 => ?_, y4⟩
      by_cases e : P = p
      · subst e; exact absurd q2 q
      · exact y3 P (by omega) q2
theorem o_join (hF : 18 < F) (hS : S < 16) (e6 : ∀ T, T ≤ S → c.1 176 T = nI (sv T) ∧ sv T ≤ 1000000) (e5 : He c hv) : ∃ y, y ≤ 1000000 ∧ o_X4_joinSets F τ n 10 c (nI S) = some (cp c 176 S (nI y)) ∧ JN sv hv S y := by
  obtain ⟨y, y0, y1, y2, y3, y4⟩ := jn_loop (F := F) (τ := τ) (n := n) hS (fun T hT => e6 T (by omega)) e5 S 1 F (sv S) (by omega) (Nat.le_refl _) (by omega) (e6 S (Nat.le_refl _)).2
  refine ⟨y, y0, ?_, y2, fun P q1 q2 => y3 P q1 q2, y4⟩
  unfold o_X4_joinSets
  rw [if_pos (iL_t hS (by decide)), cg_n _ _ (by omega), show c.1 (10 + 166) S = nI (sv S) from (e6 S (Nat.le_refl _)).1, y1, Option.bind_some, ca_n _ _ (by omega)]
/-- all sets, from the greatest down -/
theorem us_loop (hF : 18 < F) {a1 M : Nat} (hM : M < 16) (e5 : He cb hv) : ∀ (S f : Nat) (c : cS) (sc : Nat → Nat), S ≤ M → S < f → (∀ q, q ≠ 176 → c.1 q = cb.1 q) → c.2 = cb.2 → (∀ T, T < 16 → c.1 176 T = nI (sc T) ∧ sc T ≤ 1000000) → (∀ T, T ≤ S → sc T = sv T) → (∀ T, S < T → T ≤ M → JN sv hv T (sc T)) → ∃ (c' : cS) (sc' : Nat → Nat), o_X4_useBerth_124 F τ n 10 a1 f (nI S) c = some c' ∧ (∀ q, q ≠ 176 → c'.1 q = cb.1 q) ∧ c'.2 = cb.2 ∧ (∀ T, T < 16 → c'.1 176 T = nI (sc' T) ∧ sc' T ≤ 1000000) ∧ (∀ T, T ≤ M → JN sv hv T (sc' T)) := by
  intro S
  induction S with
  | zero =>
    intro f c sc hS hf h1 h2 h3 h4 h5
    obtain ⟨f, rfl⟩ : ∃ x, f = x + 1 := ⟨f - 1, by omega⟩
    rw [o_X4_useBerth_124, if_pos (show (nI 0 : Int32) ≤ 0 by decide)]
    refine ⟨c, sc, rfl, h1, h2, h3, fun T hT => ?_⟩
    by_cases e : T = 0
    · subst e
      rw [h4 0 (Nat.le_refl _)]
      exact ⟨Nat.le_refl _, fun P q1 q2 => by rw [Nat.and_zero] at q2; omega, Or.inl rfl⟩
    · exact h5 T (by omega) hT
  | succ S ih =>
    intro f c sc hS hf h1 h2 h3 h4 h5
    obtain ⟨f, rfl⟩ : ∃ x, f = x + 1 := ⟨f - 1, by omega⟩
    have e5' : He c hv := fun T hT => by rw [h1 175 (by decide)]; exact e5 T hT
    obtain ⟨y, y0, y1, y2⟩ := o_join (F := F) (τ := τ) (n := n) (c := c) (sv := sv) (hv := hv) hF (show S + 1 < 16 by omega) (fun T hT => by rw [← h4 T hT]; exact h3 T (by omega)) e5'
    rw [o_X4_useBerth_124, if_neg (show ¬ nI (S + 1) ≤ 0 from nI_no (y := 0) (by omega) (by decide) (by omega)), y1, Option.bind_some, nI_neg1 (by omega), show S + 1 - 1 = S by omega]
    refine ih f _ (fun T => if T = S + 1 then y else sc T) (by omega) (by omega) (fun q hq => by rw [cp_1 _ hq]; exact h1 q hq) h2 (fun T hT => ?_) (fun T hT => ?_) (fun T q1 q2 => ?_)
    · rw [cp_q]
      by_cases e : T = S + 1
      · subst e
        show upd _ _ _ _ = nI (if S + 1 = S + 1 then y else sc (S + 1)) ∧ (if S + 1 = S + 1 then y else sc (S + 1)) ≤ _
        rw [upd_s, if_pos rfl]; exact ⟨rfl, y0⟩
      · show upd _ _ _ _ = nI (if T = S + 1 then y else sc T) ∧ (if T = S + 1 then y else sc T) ≤ _
        rw [upd_n e, if_neg e]; exact h3 T hT
    · show (if T = S + 1 then y else sc T) = sv T
      rw [if_neg (by omega)]; exact h4 T (by omega)
    · show JN sv hv T (if T = S + 1 then y else sc T)
      by_cases e : T = S + 1
      · rw [if_pos e, e]; exact y2
      · rw [if_neg e]; exact h5 T (by omega) q2
/-- how long a ship would hold the berth -/
def hdu (len cr cell : Nat) (tn ln : Nat → Nat) (k : Nat) : Nat := if len < ln k then 0 else (tn k + cr - 1) / cr + cell / 6 + 6
theorem hdu_le {len cr : Nat} {tn ln : Nat → Nat} (hc : cell < 24) (ht : tn k ≤ 20000) (hcr : cr ≤ 500) : hdu len cr cell tn ln k ≤ 40000 := by
  unfold hdu
  have : (tn k + cr - 1) / cr ≤ tn k + cr - 1 := Nat.div_le_self _ _
  by_cases e : len < ln k
  · rw [if_pos e]; omega
  · rw [if_neg e]; omega
theorem ho_loop {a1 len cr : Nat} {tn ln : Nat → Nat} (hm : m ≤ 4) (ha : a1 < 100) (hc : cell < 24) (hcr : 1 ≤ cr) (hcr2 : cr ≤ 500) (hlen : len < 2 ^ 31) (e7 : cb.1 141 7 = nI m) (b0 : cb.1 a1 0 = nI cell) (b1 : cb.1 a1 1 = nI len) (b2 : cb.1 a1 2 = nI cr) (et : ∀ k, k < m → cb.1 146 k = nI (tn k) ∧ tn k ≤ 20000) (el : ∀ k, k < m → cb.1 147 k = nI (ln k) ∧ ln k < 2 ^ 31) : ∀ (r i f : Nat) (c : cS), i + r = m → r < f → (∀ q, q ≠ 174 → c.1 q = cb.1 q) → c.2 = cb.2 → (∀ k, k < i → c.1 174 k = nI (hdu len cr cell tn ln k)) → ∃ c', o_X4_useBerth_10 F τ n 10 a1 f (nI i) c = some c' ∧ (∀ q, q ≠ 174 → c'.1 q = cb.1 q) ∧ c'.2 = cb.2 ∧ (∀ k, k < m → c'.1 174 k = nI (hdu len cr cell tn ln k)) := by
  intro r
  induction r with
  | zero =>
    intro i f c hi hf h1 h2 h3
    obtain ⟨f, rfl⟩ : ∃ x, f = x + 1 := ⟨f - 1, by omega⟩
    rw [o_X4_useBerth_10, show c.1 (10 + 131) 7 = nI m by rw [h1 _ (by decide)]; exact e7, if_pos (nI_yes (by omega) (by omega) (by omega))]
    exact ⟨c, rfl, h1, h2, fun k hk => h3 k (by omega)⟩
  | succ r ih =>
    intro i f c hi hf h1 h2 h3
    obtain ⟨f, rfl⟩ : ∃ x, f = x + 1 := ⟨f - 1, by omega⟩
    have i4 : i < 4 := by omega
    obtain ⟨t1, t2⟩ := et i (by omega)
    obtain ⟨l1, l2⟩ := el i (by omega)
    have nxt : ∀ c'' : cS, c'' = cp c 174 i (nI (hdu len cr cell tn ln i)) → ∃ c', o_X4_useBerth_10 F τ n 10 a1 f (nI (i + 1)) c'' = some c' ∧ (∀ q, q ≠ 174 → c'.1 q = cb.1 q) ∧ c'.2 = cb.2 ∧ (∀ k, k < m → c'.1 174 k = nI (hdu len cr cell tn ln k)) := fun c'' e => by
      subst e
      refine ih (i + 1) f _ (by omega) (by omega) (fun q hq => by rw [cp_1 _ hq]; exact h1 q hq) h2 (fun k hk => ?_)
      rw [cp_q]
      by_cases e : k = i
      · subst e; rw [upd_s]
      · rw [upd_n e]; exact h3 k (by omega)
    rw [o_X4_useBerth_10, show c.1 (10 + 131) 7 = nI m by rw [h1 _ (by decide)]; exact e7, if_neg (nI_no (by omega) (by omega) (by omega)), if_pos (iL_t i4 (by decide)), h1 a1 (by omega), b0, b1, b2, if_pos (show ¬ nI cr = 0 from nI_inj (b := 0) (by omega) (by decide) (by omega)), cg_n _ _ (by omega), cg_n _ _ (by omega), show c.1 (10 + 137) i = nI (ln i) by rw [h1 _ (by decide)]; exact l1, show c.1 (10 + 136) i = nI (tn i) by rw [h1 _ (by decide)]; exact t1, nI_add i 1, ca_n _ _ (by omega), ca_n _ _ (by omega)]
    by_cases q : len < ln i
    · rw [if_pos ((nI_ltI hlen l2).mpr q)]
      exact nxt _ (by unfold hdu; rw [if_pos q])
    · rw [if_neg (nI_ngt hlen l2 (by omega)), Option.bind_some, nI_add, nI_sub (by omega), nI_divN (by omega) (by omega), nI_divN (by omega) (by decide), nI_add, nI_add]
      exact nxt _ (by unfold hdu; rw [if_neg q])
theorem fbC_same {c c' : cS} (h : ∀ q, q < 174 → c'.1 q = c.1 q) : fbC c' cell du = fbC c cell du := by
  funext k a
  unfold fbC
  have e : pw c' cell (c'.1 145 k) = pw c cell (c.1 145 k) := by
    funext g
    have := Nat.mod_lt g (show 0 < 25 by decide)
    unfold pw
    rw [h _ (by omega), h 145 (by decide)]
  rw [e]
/-- one berth of the class -/
theorem o_use {a1 len cr a : Nat} {tn ln : Nat → Nat} (hF : 100 < F) (hm : m ≤ 4) (ha : a1 < 100) (hc : cell < 24) (hcr : 1 ≤ cr) (hcr2 : cr ≤ 500) (hlen : len < 2 ^ 31) (e7 : c.1 141 7 = nI m) (b0 : c.1 a1 0 = nI cell) (b1 : c.1 a1 1 = nI len) (b2 : c.1 a1 2 = nI cr) (b7 : (c.1 a1 7 = -1 ∧ a = 1) ∨ (¬ c.1 a1 7 = -1 ∧ a = 24)) (et : ∀ k, k < m → c.1 146 k = nI (tn k) ∧ tn k ≤ 20000) (el : ∀ k, k < m → c.1 147 k = nI (ln k) ∧ ln k < 2 ^ 31) (e6 : ∀ T, T < 16 → c.1 176 T = nI (sv T) ∧ sv T ≤ 1000000) : ∃ (c' : cS) (sv' hv : Nat → Nat), o_X4_useBerth F τ n 10 a1 c = some c' ∧ (∀ q, q < 174 ∨ 176 < q → c'.1 q = c.1 q) ∧ c'.2 = c.2 ∧ (∀ T, T < 16 → c'.1 176 T = nI (sv' T) ∧ sv' T ≤ 1000000) ∧ (∀ P t, P < 16 → Lb m (fbC c cell (hdu len cr cell tn ln)) (hdu len cr cell tn ln) 4 a P t → hv P ≤ t) ∧ (∀ T, T < 16 → hv T = 1000000 ∨ Lb m (fbC c cell (hdu len cr cell tn ln)) (hdu len cr cell tn ln) 4 a T (hv T)) ∧ (∀ T, T < 2 ^ m → JN sv hv T (sv' T)) := by
  obtain ⟨c1, a1', a2, a3, a4⟩ := ho_loop (F := F) (τ := τ) (n := n) hm ha hc hcr hcr2 hlen e7 b0 b1 b2 et el m 0 F c (by omega) (by omega) (fun _ _ => rfl) rfl (fun k hk => by omega)
  obtain ⟨c2, d1, d2, d3, d4⟩ := o_filR (F := F) (τ := τ) (n := n) (q := 175) (c := c1) (y := nI 1000000) (m := 16) (by omega) (by decide)
  have k2 : ∀ q, q ≠ 174 → q ≠ 175 → c2.1 q = c.1 q := fun q q1 q2 => by rw [d2 q q2]; exact a2 q q1
  obtain ⟨c3, hv, f1, f2, f3, f4⟩ := o_lay (F := F) (τ := τ) (n := n) (cb := c2) (du := hdu len cr cell tn ln) (by omega) hm hc (by rw [k2 141 (by decide) (by decide)]; exact e7) (fun k hk => ⟨by rw [d2 174 (by decide)]; exact a4 k hk, hdu_le hc (et k hk).2 hcr2⟩) 8 0 a 0 c2 (fun _ => 1000000) (Nat.pow_pos (by decide)) (by show m + 1 ≤ 0 + 8; omega) (by omega) (by omega) D5.refl (fun T hT => ⟨d4 T hT, Nat.le_refl _⟩)
  have ef : fbC c2 cell (hdu len cr cell tn ln) = fbC c cell (hdu len cr cell tn ln) := fbC_same (fun q hq => k2 q (by omega) (by omega))
  rw [ef] at f4
  have k3 : ∀ q, q ≠ 174 → q ≠ 175 → c3.1 q = c.1 q := fun q q1 q2 => by rw [f2.1 q q2]; exact k2 q q1 q2
  have M16 : 2 ^ m - 1 < 16 := by have : 2 ^ m ≤ 2 ^ 4 := Nat.pow_le_pow_right (by decide) hm; omega
  have M1 : 1 ≤ 2 ^ m := Nat.pow_pos (by decide)
  obtain ⟨c4, sv', g1, g2, g3, g4, g5⟩ := us_loop (F := F) (τ := τ) (n := n) (a1 := a1) (sv := sv) (by omega) M16 f3 (2 ^ m - 1) F c3 sv (Nat.le_refl _) (by omega) (fun _ _ => rfl) rfl (fun T hT => by rw [k3 176 (by decide) (by decide)]; exact e6 T hT) (fun _ _ => rfl) (fun T h1 h2 => by omega)
  refine ⟨c4, sv', hv, ?_, ?_, ?_, g4, ?_, ?_, fun T hT => g5 T (by omega)⟩
  · unfold o_X4_useBerth
    have em : (nI 1 : Int32) <<< (c3.1 (10 + 131) 7 &&& 31) - nI 1 = nI (2 ^ m - 1) := by
      rw [k3 (10 + 131) (by decide) (by decide), show c.1 (10 + 131) 7 = nI m from e7, nI_shl (by omega), Nat.one_mul, nI_sub M1]
    rw [b2, if_pos (show 0 < nI cr from (nI_ltI (a := 0) (by decide) (by omega)).mpr (by omega)), a1', Option.bind_some, show (10 + 165 : Nat) = 175 from rfl, d1, Option.bind_some, k2 a1 (by omega) (by omega), b0]
    unfold o_lyo8
    rcases b7 with ⟨q1, q2⟩ | ⟨q1, q2⟩
    · subst q2
      rw [if_pos q1, f1, Option.bind_some, em, g1, Option.bind_some]
    · subst q2
      rw [if_neg q1, f1, Option.bind_some, em, g1, Option.bind_some]
  · intro q hq
    rw [g2 q (by omega)]
    exact k3 q (by omega) (by omega)
  · rw [g3, f2.2, d3, a3]
  · intro P t hP hL
    have := f4.2.1 P t hP (Nat.and_zero _) hL
    rw [Nat.zero_xor] at this
    omega
  · intro T hT
    rcases f4.2.2 T hT with e | ⟨P, t, p1, p2, p3, p4, p5⟩
    · exact Or.inl e
    · rw [Nat.zero_xor] at p3
      subst p3
      rw [Nat.zero_add] at p5
      rw [p5]
      exact Or.inr p4
end JOIN
