/-! THE PURE LAYER: bringing in, all berths of the class -/
section SUMS
variable {F : Nat} {τ : cT} {n m B k i : Nat} {c c' cB : cS} {fb : Nat → Nat → Nat → Option Nat} {du : Nat → Nat → Nat} {sv sv' hv fr : Nat → Nat}
/-- the sums of the class are the least at the first berths -/
def SV (m : Nat) (fb : Nat → Nat → Nat → Option Nat) (du : Nat → Nat → Nat) (fr : Nat → Nat) (B : Nat) (sv : Nat → Nat) : Prop := ∀ S, S < 2 ^ m → (∀ t, Ab m fb du fr B S t → sv S ≤ t) ∧ (sv S = 1000000 ∨ Ab m fb du fr B S (sv S))
theorem SV_step (hm : m ≤ 4) (h : SV m fb du fr B sv) (h1 : ∀ P t, P < 16 → Lb m (fb B) (du B) 4 (fr B) P t → hv P ≤ t) (h2 : ∀ T, T < 16 → hv T = 1000000 ∨ Lb m (fb B) (du B) 4 (fr B) T (hv T)) (h3 : ∀ T, T < 2 ^ m → JN sv hv T (sv' T)) (h4 : ∀ T, T < 16 → sv' T ≤ 1000000) : SV m fb du fr (B + 1) sv' := by
  intro S hS
  have S16 := (x_m hm hS).1
  obtain ⟨j1, j2, j3⟩ := h3 S hS
  have sub : ∀ P, P &&& S = P → S ^^^ P < 2 ^ m := fun P hP => Nat.xor_lt_two_pow hS (by have : P &&& S ≤ S := Nat.and_le_right; omega)
  constructor
  · intro t ht
    obtain ⟨P, t1, t2, p1, p2, p3, p4⟩ := ht
    have a1 := (h _ (sub P p1)).1 t1 p2
    have a2 := h1 P t2 (x_sub S16 p1) p3
    by_cases e : P = 0
    · subst e; rw [Nat.xor_zero] at a1; omega
    · have := j2 P (by omega) p1
      omega
  · rcases j3 with e | ⟨P, p1, p2, p3⟩
    · rw [e]
      rcases (h S hS).2 with g | g
      · exact Or.inl g
      · exact Or.inr ⟨0, sv S, 0, Nat.zero_and _, by rw [Nat.xor_zero]; exact g, Or.inl ⟨rfl, rfl⟩, rfl⟩
    · have l := h4 S S16
      rcases (h _ (sub P p2)).2 with g | g
      · exact Or.inl (by omega)
      · rcases h2 P (x_sub S16 p2) with g2 | g2
        · exact Or.inl (by omega)
        · exact Or.inr ⟨P, _, _, p2, g, g2, p3⟩
theorem SV_skip (h : SV m fb du fr B sv) (h1 : ∀ k a, fb B k a = none) : SV m fb du fr (B + 1) sv := by
  intro S hS
  obtain ⟨g1, g2⟩ := h S hS
  constructor
  · intro t ht
    obtain ⟨P, t1, t2, p1, p2, p3, p4⟩ := ht
    rcases p3 with p3 | ⟨k, g, t', q1, q2, q3, q4, q5⟩
    · rw [p3.1, Nat.xor_zero] at p2
      have := g1 t1 p2
      omega
    · rw [h1] at q3; cases q3
  · rcases g2 with g2 | g2
    · exact Or.inl g2
    · exact Or.inr ⟨0, sv S, 0, Nat.zero_and _, by rw [Nat.xor_zero]; exact g2, Or.inl ⟨rfl, rfl⟩, rfl⟩
theorem SV_0 (h0 : sv 0 = 0) (h1 : ∀ T, 1 ≤ T → T < 16 → sv T = 1000000) (hm : m ≤ 4) : SV m fb du fr 0 sv := by
  intro S hS
  have S16 := (x_m hm hS).1
  constructor
  · intro t ht
    rw [ht.1, h0]; omega
  · by_cases e : S = 0
    · subst e; rw [h0]; exact Or.inr ⟨rfl, rfl⟩
    · exact Or.inl (h1 S (by omega) S16)
theorem Lb_le {fb : Nat → Nat → Option Nat} {du : Nat → Nat} (hf : ∀ k a h, fb k a = some h → h ≤ 72) : ∀ (j a P t : Nat), Lb m fb du j a P t → t ≤ 72 * j := by
  intro j
  induction j with
  | zero => intro a P t h; rw [h.2]; omega
  | succ j ih =>
    intro a P t h
    rcases h with h | ⟨k, g, t', q1, q2, q3, q4, q5⟩
    · rw [h.2]; omega
    · have := hf _ _ _ q3
      have := ih _ _ _ q5
      omega
theorem Ab_le (hf : ∀ b k a h, fb b k a = some h → h ≤ 72) : ∀ (B S t : Nat), Ab m fb du fr B S t → t ≤ 288 * B := by
  intro B
  induction B with
  | zero => intro S t h; rw [h.2]; omega
  | succ B ih =>
    intro S t h
    obtain ⟨P, t1, t2, p1, p2, p3, p4⟩ := h
    have := ih _ _ p2
    have := Lb_le (hf B) 4 _ _ _ p3
    omega
/-- what the berths and the ships are -/
def BQ (c : cS) (m : Nat) (nb : Nat) (tn : Nat → Nat) (ln : Nat → Nat) (bc : Nat → Nat) (bl : Nat → Nat) (br : Nat → Nat) (fr : Nat → Nat) (sh : Nat → Bool) : Prop :=
  (m ≤ 4) ∧
  (nb ≤ 10) ∧
  (c.1 141 7 = nI m) ∧
  (c.1 37 1 = nI nb) ∧
  (∀ k, k < m → c.1 146 k = nI (tn k) ∧ tn k ≤ 20000) ∧
  (∀ k, k < m → c.1 147 k = nI (ln k) ∧ ln k < 2 ^ 31) ∧
  (∀ b, b < nb → c.1 (39 + b) 0 = nI (bc b) ∧ bc b < 24) ∧
  (∀ b, b < nb → c.1 (39 + b) 1 = nI (bl b) ∧ bl b < 2 ^ 31) ∧
  (∀ b, b < nb → c.1 (39 + b) 2 = nI (br b) ∧ 1 ≤ br b ∧ br b ≤ 500) ∧
  (∀ b, b < nb → (sh b = true ↔ ¬ c.1 (39 + b) 5 < nI 240)) ∧
  (∀ b, b < nb → (c.1 (39 + b) 7 = -1 ∧ fr b = 1) ∨ (¬ c.1 (39 + b) 7 = -1 ∧ fr b = 24))
theorem BQ.mk {c : cS} {m : Nat} {nb : Nat} {tn : Nat → Nat} {ln : Nat → Nat} {bc : Nat → Nat} {bl : Nat → Nat} {br : Nat → Nat} {fr : Nat → Nat} {sh : Nat → Bool} (h0 : m ≤ 4) (h1 : nb ≤ 10) (h2 : c.1 141 7 = nI m) (h3 : c.1 37 1 = nI nb) (h4 : ∀ k, k < m → c.1 146 k = nI (tn k) ∧ tn k ≤ 20000) (h5 : ∀ k, k < m → c.1 147 k = nI (ln k) ∧ ln k < 2 ^ 31) (h6 : ∀ b, b < nb → c.1 (39 + b) 0 = nI (bc b) ∧ bc b < 24) (h7 : ∀ b, b < nb → c.1 (39 + b) 1 = nI (bl b) ∧ bl b < 2 ^ 31) (h8 : ∀ b, b < nb → c.1 (39 + b) 2 = nI (br b) ∧ 1 ≤ br b ∧ br b ≤ 500) (h9 : ∀ b, b < nb → (sh b = true ↔ ¬ c.1 (39 + b) 5 < nI 240)) (h10 : ∀ b, b < nb → (c.1 (39 + b) 7 = -1 ∧ fr b = 1) ∨ (¬ c.1 (39 + b) 7 = -1 ∧ fr b = 24)) : BQ c m nb tn ln bc bl br fr sh := by
  unfold BQ
  exact ⟨h0, h1, h2, h3, h4, h5, h6, h7, h8, h9, h10⟩
theorem BQ.m4 {c : cS} {m : Nat} {nb : Nat} {tn : Nat → Nat} {ln : Nat → Nat} {bc : Nat → Nat} {bl : Nat → Nat} {br : Nat → Nat} {fr : Nat → Nat} {sh : Nat → Bool} (h : BQ c m nb tn ln bc bl br fr sh) : m ≤ 4 := (show _ from by unfold BQ at h; exact h.1)
theorem BQ.nb {c : cS} {m : Nat} {nb : Nat} {tn : Nat → Nat} {ln : Nat → Nat} {bc : Nat → Nat} {bl : Nat → Nat} {br : Nat → Nat} {fr : Nat → Nat} {sh : Nat → Bool} (h : BQ c m nb tn ln bc bl br fr sh) : nb ≤ 10 := (show _ from by unfold BQ at h; exact h.2.1)
theorem BQ.e7 {c : cS} {m : Nat} {nb : Nat} {tn : Nat → Nat} {ln : Nat → Nat} {bc : Nat → Nat} {bl : Nat → Nat} {br : Nat → Nat} {fr : Nat → Nat} {sh : Nat → Bool} (h : BQ c m nb tn ln bc bl br fr sh) : c.1 141 7 = nI m := (show _ from by unfold BQ at h; exact h.2.2.1)
theorem BQ.en {c : cS} {m : Nat} {nb : Nat} {tn : Nat → Nat} {ln : Nat → Nat} {bc : Nat → Nat} {bl : Nat → Nat} {br : Nat → Nat} {fr : Nat → Nat} {sh : Nat → Bool} (h : BQ c m nb tn ln bc bl br fr sh) : c.1 37 1 = nI nb := (show _ from by unfold BQ at h; exact h.2.2.2.1)
theorem BQ.et {c : cS} {m : Nat} {nb : Nat} {tn : Nat → Nat} {ln : Nat → Nat} {bc : Nat → Nat} {bl : Nat → Nat} {br : Nat → Nat} {fr : Nat → Nat} {sh : Nat → Bool} (h : BQ c m nb tn ln bc bl br fr sh) : ∀ k, k < m → c.1 146 k = nI (tn k) ∧ tn k ≤ 20000 := (show _ from by unfold BQ at h; exact h.2.2.2.2.1)
theorem BQ.el {c : cS} {m : Nat} {nb : Nat} {tn : Nat → Nat} {ln : Nat → Nat} {bc : Nat → Nat} {bl : Nat → Nat} {br : Nat → Nat} {fr : Nat → Nat} {sh : Nat → Bool} (h : BQ c m nb tn ln bc bl br fr sh) : ∀ k, k < m → c.1 147 k = nI (ln k) ∧ ln k < 2 ^ 31 := (show _ from by unfold BQ at h; exact h.2.2.2.2.2.1)
theorem BQ.b0 {c : cS} {m : Nat} {nb : Nat} {tn : Nat → Nat} {ln : Nat → Nat} {bc : Nat → Nat} {bl : Nat → Nat} {br : Nat → Nat} {fr : Nat → Nat} {sh : Nat → Bool} (h : BQ c m nb tn ln bc bl br fr sh) : ∀ b, b < nb → c.1 (39 + b) 0 = nI (bc b) ∧ bc b < 24 := (show _ from by unfold BQ at h; exact h.2.2.2.2.2.2.1)
theorem BQ.b1 {c : cS} {m : Nat} {nb : Nat} {tn : Nat → Nat} {ln : Nat → Nat} {bc : Nat → Nat} {bl : Nat → Nat} {br : Nat → Nat} {fr : Nat → Nat} {sh : Nat → Bool} (h : BQ c m nb tn ln bc bl br fr sh) : ∀ b, b < nb → c.1 (39 + b) 1 = nI (bl b) ∧ bl b < 2 ^ 31 := (show _ from by unfold BQ at h; exact h.2.2.2.2.2.2.2.1)
theorem BQ.b2 {c : cS} {m : Nat} {nb : Nat} {tn : Nat → Nat} {ln : Nat → Nat} {bc : Nat → Nat} {bl : Nat → Nat} {br : Nat → Nat} {fr : Nat → Nat} {sh : Nat → Bool} (h : BQ c m nb tn ln bc bl br fr sh) : ∀ b, b < nb → c.1 (39 + b) 2 = nI (br b) ∧ 1 ≤ br b ∧ br b ≤ 500 := (show _ from by unfold BQ at h; exact h.2.2.2.2.2.2.2.2.1)
theorem BQ.b5 {c : cS} {m : Nat} {nb : Nat} {tn : Nat → Nat} {ln : Nat → Nat} {bc : Nat → Nat} {bl : Nat → Nat} {br : Nat → Nat} {fr : Nat → Nat} {sh : Nat → Bool} (h : BQ c m nb tn ln bc bl br fr sh) : ∀ b, b < nb → (sh b = true ↔ ¬ c.1 (39 + b) 5 < nI 240) := (show _ from by unfold BQ at h; exact h.2.2.2.2.2.2.2.2.2.1)
theorem BQ.b7 {c : cS} {m : Nat} {nb : Nat} {tn : Nat → Nat} {ln : Nat → Nat} {bc : Nat → Nat} {bl : Nat → Nat} {br : Nat → Nat} {fr : Nat → Nat} {sh : Nat → Bool} (h : BQ c m nb tn ln bc bl br fr sh) : ∀ b, b < nb → (c.1 (39 + b) 7 = -1 ∧ fr b = 1) ∨ (¬ c.1 (39 + b) 7 = -1 ∧ fr b = 24) := (show _ from by unfold BQ at h; exact h.2.2.2.2.2.2.2.2.2.2)
noncomputable def fbB (c : cS) (tn ln bc bl br : Nat → Nat) (sh : Nat → Bool) (b k a : Nat) : Option Nat := if sh b = true then none else fbC c (bc b) (hdu (bl b) (br b) (bc b) tn ln) k a
def duB (tn ln bc bl br : Nat → Nat) (b k : Nat) : Nat := hdu (bl b) (br b) (bc b) tn ln k
theorem bt_loop {nb : Nat} {tn ln bc bl br : Nat → Nat} {sh : Nat → Bool} (hF : 100 < F) (h : BQ cB m nb tn ln bc bl br fr sh) : ∀ (r b f : Nat) (c : cS) (sv : Nat → Nat), b + r = nb → r < f → (∀ q, q < 174 ∨ 176 < q → c.1 q = cB.1 q) → c.2 = cB.2 → (∀ T, T < 16 → c.1 176 T = nI (sv T) ∧ sv T ≤ 1000000) → SV m (fbB cB tn ln bc bl br sh) (duB tn ln bc bl br) fr b sv → ∃ (c' : cS) (sv' : Nat → Nat), o_X2_leastToBringIn_139 F τ n 10 f (nI b) c = some c' ∧ (∀ q, q < 174 ∨ 176 < q → c'.1 q = cB.1 q) ∧ c'.2 = cB.2 ∧ (∀ T, T < 16 → c'.1 176 T = nI (sv' T) ∧ sv' T ≤ 1000000) ∧ SV m (fbB cB tn ln bc bl br sh) (duB tn ln bc bl br) fr nb sv' := by
  intro r
  have nb10 := h.nb
  induction r with
  | zero =>
    intro b f c sv hb hf h1 h2 h3 h4
    obtain ⟨f, rfl⟩ : ∃ x, f = x + 1 := ⟨f - 1, by omega⟩
    rw [o_X2_leastToBringIn_139, show c.1 (10 + 27) 1 = nI nb by rw [h1 _ (by omega)]; exact h.en, if_pos (nI_yes (by omega) (by omega) (by omega))]
    obtain rfl : b = nb := by omega
    exact ⟨c, sv, rfl, h1, h2, h3, h4⟩
  | succ r ih =>
    intro b f c sv hb hf h1 h2 h3 h4
    obtain ⟨f, rfl⟩ : ∃ x, f = x + 1 := ⟨f - 1, by omega⟩
    have hbn : b < nb := by omega
    rw [o_X2_leastToBringIn_139, show c.1 (10 + 27) 1 = nI nb by rw [h1 _ (by omega)]; exact h.en, if_neg (nI_no (by omega) (by omega) (by omega)), if_pos (iL_t (show b < 10 by omega) (by decide)), nI_clamp (by omega), show 10 + 28 + 1 + b = 39 + b by omega, o_closed, Option.bind_some, nI_add b 1, h1 (39 + b) (by omega)]
    by_cases q : cB.1 (39 + b) 5 < nI 240
    · have q' : ¬ sh b = true := fun e => (h.b5 b hbn).mp e q
      have ef : fbB cB tn ln bc bl br sh b = fbC c (bc b) (hdu (bl b) (br b) (bc b) tn ln) := by
        rw [fbC_same (c := cB) (c' := c) (fun q hq => h1 q (by omega))]
        funext k a
        unfold fbB
        rw [if_neg q']
      rw [if_pos q, if_pos (show (nI 0 : Int32) = 0 from nI_0)]
      obtain ⟨x0, y0⟩ := h.b0 b hbn
      obtain ⟨x1, y1⟩ := h.b1 b hbn
      obtain ⟨x2, y2, y3⟩ := h.b2 b hbn
      obtain ⟨c1, sv1, hv, a1, a2, a3, a4, a5, a6, a7⟩ := o_use (F := F) (τ := τ) (n := n) (c := c) (a1 := 39 + b) (a := fr b) (sv := sv) (tn := tn) (ln := ln) hF h.m4 (by omega) y0 y2 y3 y1 (by rw [h1 _ (by omega)]; exact h.e7) (by rw [h1 _ (by omega)]; exact x0) (by rw [h1 _ (by omega)]; exact x1) (by rw [h1 _ (by omega)]; exact x2) (by rw [h1 _ (by omega)]; exact h.b7 b hbn) (fun k hk => by rw [h1 _ (by omega)]; exact h.et k hk) (fun k hk => by rw [h1 _ (by omega)]; exact h.el k hk) h3
      rw [← ef] at a5 a6
      rw [a1, Option.bind_some]
      exact ih (b + 1) f c1 sv1 (by omega) (by omega) (fun q hq => (a2 q hq).trans (h1 q hq)) (a3.trans h2) a4 (SV_step h.m4 h4 a5 a6 a7 (fun T hT => (a4 T hT).2))
    · rw [if_neg q, if_neg (show ¬ (nI 1 : Int32) = 0 by decide)]
      exact ih (b + 1) f c sv (by omega) (by omega) h1 h2 h3 (SV_skip h4 (fun k a => by unfold fbB; rw [if_pos ((h.b5 b hbn).mpr q)]))
theorem fbB_le {tn ln bc bl br : Nat → Nat} {sh : Nat → Bool} : ∀ b k a h, fbB c tn ln bc bl br sh b k a = some h → h ≤ 72 := by
  intro b k a h e
  unfold fbB fbC at e
  by_cases q : sh b = true
  · rw [if_pos q] at e; cases e
  · rw [if_neg q] at e
    by_cases q2 : hdu (bl b) (br b) (bc b) tn ln k = 0
    · rw [if_pos q2] at e; cases e
    · rw [if_neg q2] at e
      have := fst1_le _ _ _ e
      omega
/-- the least sum that the class tells -/
theorem o_least {nb : Nat} (hm : m ≤ 4) (hn : nb ≤ 10) (e7 : c.1 141 7 = nI m) (e6 : ∀ T, T < 16 → c.1 176 T = nI (sv T) ∧ sv T ≤ 1000000) (hf : ∀ b k a h, fb b k a = some h → h ≤ 72) (h : SV m fb du fr nb sv) : ∃ z, o_X4_leastSum τ n 10 c = some z ∧ ((z = -1 ∧ ∀ t, ¬ Ab m fb du fr nb (2 ^ m - 1) t) ∨ ∃ t, t ≤ 2880 ∧ z = nI t ∧ Ab m fb du fr nb (2 ^ m - 1) t ∧ ∀ t', Ab m fb du fr nb (2 ^ m - 1) t' → t ≤ t') := by
  have M16 : 2 ^ m ≤ 16 := show 2 ^ m ≤ 2 ^ 4 from Nat.pow_le_pow_right (by decide) hm
  have M1 : 1 ≤ 2 ^ m := Nat.pow_pos (by decide)
  have em : (nI 1 : Int32) <<< (c.1 (10 + 131) 7 &&& 31) - nI 1 = nI (2 ^ m - 1) := by
    rw [show c.1 (10 + 131) 7 = nI m from e7, nI_shl (by omega), Nat.one_mul, nI_sub M1]
  obtain ⟨g1, g2⟩ := h (2 ^ m - 1) (by omega)
  obtain ⟨z1, z2⟩ := e6 (2 ^ m - 1) (by omega)
  unfold o_X4_leastSum
  rw [em, if_pos (iL_t (show 2 ^ m - 1 < 16 by omega) (by decide)), cg_n _ _ (by omega), show c.1 (10 + 166) (2 ^ m - 1) = nI (sv (2 ^ m - 1)) from z1]
  by_cases q : sv (2 ^ m - 1) < 1000000
  · rw [if_pos ((nI_ltI (by omega) (by decide)).mpr q)]
    rcases g2 with g2 | g2
    · omega
    · have := Ab_le hf _ _ _ g2
      exact ⟨_, rfl, Or.inr ⟨_, by omega, rfl, g2, g1⟩⟩
  · rw [if_neg (nI_ngt (by omega) (by decide) (by omega))]
    refine ⟨_, rfl, Or.inl ⟨rfl, fun t ht => ?_⟩⟩
    have := g1 t ht
    have := Ab_le hf _ _ _ ht
    omega
end SUMS
