/-! THE PURE LAYER: a Board and a row; all of the two states -/
/-- what a ship had back -/
def bk (x y w : Int32) : Prop := (w = -1 ∧ x = nI 0 ∧ y = nI 0) ∨ (0 ≤ w.toInt ∧ x = w ∧ y = nI 1)
/-- the pilots that are busy: a slot's number by the hours ahead -/
def bz8 (v : Nat → Int32) (e : Nat) : Int32 := v (1082 + (N (v 0) + e) % 8)
def RB (τ : cT) (n : Nat) (c : cS) (b : Nat) (v : Nat → Int32) : Prop :=
  (Rg v) ∧
  (Cr v) ∧
  (Pl c b v) ∧
  (RBe c b v (N (v 999))) ∧
  (RSh c b v (N (v 1211))) ∧
  (∀ i, i < N (v 1211) → bk (c.1 (b + 40 + i) 16) (c.1 (b + 40 + i) 17) (v (1212 + 18 * i + 15))) ∧
  (∀ i, i < N (v 1211) → (v (1212 + 18 * i + 17) = -1 ∧ c.2 (b + 40 + i) 8 = some 28) ∨ ∃ a, a < N (v 2811) ∧ v (1212 + 18 * i + 17) = nI a ∧ c.2 (b + 40 + i) 8 = c.2 (b + 24) a) ∧
  (∀ a, a < N (v 2811) → c.1 (b + 25) a = v (2812 + 882 * a) ∧ ∃ p, c.2 (b + 24) a = some p ∧ acb τ n p = true ∧ RAct τ c p v a) ∧
  (∃ p, c.2 (b + 17) 5 = some p ∧ acb τ n p = true ∧ (v 2661 = nI 1 → RAct τ c p v 20)) ∧
  (∀ k, k < 24 → c.1 (b + 16) k = eC (ls v (nI k) (v 0) (N (v 198)))) ∧
  (c.1 (b + 120) 0 = bz8 v 0 + bz8 v 1 + bz8 v 2 + bz8 v 3 ∧ c.1 (b + 120) 1 = bz8 v 1 + bz8 v 2 + bz8 v 3 ∧ c.1 (b + 120) 2 = bz8 v 2 + bz8 v 3 ∧ c.1 (b + 120) 3 = bz8 v 3 ∧ ∀ e, 4 ≤ e → e < 8 → bz8 v e = 0)
theorem RB.mk {τ : cT} {n : Nat} {c : cS} {b : Nat} {v : Nat → Int32} (h0 : Rg v) (h1 : Cr v) (h2 : Pl c b v) (h3 : RBe c b v (N (v 999))) (h4 : RSh c b v (N (v 1211))) (h5 : ∀ i, i < N (v 1211) → bk (c.1 (b + 40 + i) 16) (c.1 (b + 40 + i) 17) (v (1212 + 18 * i + 15))) (h6 : ∀ i, i < N (v 1211) → (v (1212 + 18 * i + 17) = -1 ∧ c.2 (b + 40 + i) 8 = some 28) ∨ ∃ a, a < N (v 2811) ∧ v (1212 + 18 * i + 17) = nI a ∧ c.2 (b + 40 + i) 8 = c.2 (b + 24) a) (h7 : ∀ a, a < N (v 2811) → c.1 (b + 25) a = v (2812 + 882 * a) ∧ ∃ p, c.2 (b + 24) a = some p ∧ acb τ n p = true ∧ RAct τ c p v a) (h8 : ∃ p, c.2 (b + 17) 5 = some p ∧ acb τ n p = true ∧ (v 2661 = nI 1 → RAct τ c p v 20)) (h9 : ∀ k, k < 24 → c.1 (b + 16) k = eC (ls v (nI k) (v 0) (N (v 198)))) (h10 : c.1 (b + 120) 0 = bz8 v 0 + bz8 v 1 + bz8 v 2 + bz8 v 3 ∧ c.1 (b + 120) 1 = bz8 v 1 + bz8 v 2 + bz8 v 3 ∧ c.1 (b + 120) 2 = bz8 v 2 + bz8 v 3 ∧ c.1 (b + 120) 3 = bz8 v 3 ∧ ∀ e, 4 ≤ e → e < 8 → bz8 v e = 0) : RB τ n c b v := by
  unfold RB
  exact ⟨h0, h1, h2, h3, h4, h5, h6, h7, h8, h9, h10⟩
theorem RB.rg {τ : cT} {n : Nat} {c : cS} {b : Nat} {v : Nat → Int32} (h : RB τ n c b v) : Rg v := (show _ from by unfold RB at h; exact h.1)
theorem RB.cr {τ : cT} {n : Nat} {c : cS} {b : Nat} {v : Nat → Int32} (h : RB τ n c b v) : Cr v := (show _ from by unfold RB at h; exact h.2.1)
theorem RB.pl {τ : cT} {n : Nat} {c : cS} {b : Nat} {v : Nat → Int32} (h : RB τ n c b v) : Pl c b v := (show _ from by unfold RB at h; exact h.2.2.1)
theorem RB.ber {τ : cT} {n : Nat} {c : cS} {b : Nat} {v : Nat → Int32} (h : RB τ n c b v) : RBe c b v (N (v 999)) := (show _ from by unfold RB at h; exact h.2.2.2.1)
theorem RB.shp {τ : cT} {n : Nat} {c : cS} {b : Nat} {v : Nat → Int32} (h : RB τ n c b v) : RSh c b v (N (v 1211)) := (show _ from by unfold RB at h; exact h.2.2.2.2.1)
theorem RB.bak {τ : cT} {n : Nat} {c : cS} {b : Nat} {v : Nat → Int32} (h : RB τ n c b v) : ∀ i, i < N (v 1211) → bk (c.1 (b + 40 + i) 16) (c.1 (b + 40 + i) 17) (v (1212 + 18 * i + 15)) := (show _ from by unfold RB at h; exact h.2.2.2.2.2.1)
theorem RB.law {τ : cT} {n : Nat} {c : cS} {b : Nat} {v : Nat → Int32} (h : RB τ n c b v) : ∀ i, i < N (v 1211) → (v (1212 + 18 * i + 17) = -1 ∧ c.2 (b + 40 + i) 8 = some 28) ∨ ∃ a, a < N (v 2811) ∧ v (1212 + 18 * i + 17) = nI a ∧ c.2 (b + 40 + i) 8 = c.2 (b + 24) a := (show _ from by unfold RB at h; exact h.2.2.2.2.2.2.1)
theorem RB.txt {τ : cT} {n : Nat} {c : cS} {b : Nat} {v : Nat → Int32} (h : RB τ n c b v) : ∀ a, a < N (v 2811) → c.1 (b + 25) a = v (2812 + 882 * a) ∧ ∃ p, c.2 (b + 24) a = some p ∧ acb τ n p = true ∧ RAct τ c p v a := (show _ from by unfold RB at h; exact h.2.2.2.2.2.2.2.1)
theorem RB.prp {τ : cT} {n : Nat} {c : cS} {b : Nat} {v : Nat → Int32} (h : RB τ n c b v) : ∃ p, c.2 (b + 17) 5 = some p ∧ acb τ n p = true ∧ (v 2661 = nI 1 → RAct τ c p v 20) := (show _ from by unfold RB at h; exact h.2.2.2.2.2.2.2.2.1)
theorem RB.snd {τ : cT} {n : Nat} {c : cS} {b : Nat} {v : Nat → Int32} (h : RB τ n c b v) : ∀ k, k < 24 → c.1 (b + 16) k = eC (ls v (nI k) (v 0) (N (v 198))) := (show _ from by unfold RB at h; exact h.2.2.2.2.2.2.2.2.2.1)
theorem RB.bus {τ : cT} {n : Nat} {c : cS} {b : Nat} {v : Nat → Int32} (h : RB τ n c b v) : c.1 (b + 120) 0 = bz8 v 0 + bz8 v 1 + bz8 v 2 + bz8 v 3 ∧ c.1 (b + 120) 1 = bz8 v 1 + bz8 v 2 + bz8 v 3 ∧ c.1 (b + 120) 2 = bz8 v 2 + bz8 v 3 ∧ c.1 (b + 120) 3 = bz8 v 3 ∧ ∀ e, 4 ≤ e → e < 8 → bz8 v e = 0 := (show _ from by unfold RB at h; exact h.2.2.2.2.2.2.2.2.2.2)
theorem RB.n0 {τ : cT} {n : Nat} {c : cS} {b : Nat} {v : Nat → Int32} (h : RB τ n c b v) : v 0 = nI (N (v 0)) ∧ N (v 0) ≤ 30000 := by have := h.rg.nat (k := 0) (hi := 30000) rfl; exact ⟨this.1, by omega⟩
theorem RB.n98 {τ : cT} {n : Nat} {c : cS} {b : Nat} {v : Nat → Int32} (h : RB τ n c b v) : v 98 = nI (N (v 98)) ∧ N (v 98) ≤ 40 := by have := h.rg.nat (k := 98) (hi := 40) rfl; exact ⟨this.1, by omega⟩
theorem RB.n179 {τ : cT} {n : Nat} {c : cS} {b : Nat} {v : Nat → Int32} (h : RB τ n c b v) : v 179 = nI (N (v 179)) ∧ N (v 179) ≤ 6 := by have := h.rg.nat (k := 179) (hi := 6) rfl; exact ⟨this.1, by omega⟩
theorem RB.n198 {τ : cT} {n : Nat} {c : cS} {b : Nat} {v : Nat → Int32} (h : RB τ n c b v) : v 198 = nI (N (v 198)) ∧ N (v 198) ≤ 200 := by have := h.rg.nat (k := 198) (hi := 200) rfl; exact ⟨this.1, by omega⟩
theorem RB.n999 {τ : cT} {n : Nat} {c : cS} {b : Nat} {v : Nat → Int32} (h : RB τ n c b v) : v 999 = nI (N (v 999)) ∧ N (v 999) ≤ 10 := by have := h.rg.nat (k := 999) (hi := 10) rfl; exact ⟨this.1, by omega⟩
theorem RB.n1090 {τ : cT} {n : Nat} {c : cS} {b : Nat} {v : Nat → Int32} (h : RB τ n c b v) : v 1090 = nI (N (v 1090)) ∧ N (v 1090) ≤ 30 := by have := h.rg.nat (k := 1090) (hi := 30) rfl; exact ⟨this.1, by omega⟩
theorem RB.n1211 {τ : cT} {n : Nat} {c : cS} {b : Nat} {v : Nat → Int32} (h : RB τ n c b v) : v 1211 = nI (N (v 1211)) ∧ N (v 1211) ≤ 80 := by have := h.rg.nat (k := 1211) (hi := 80) rfl; exact ⟨this.1, by omega⟩
theorem RB.n2665 {τ : cT} {n : Nat} {c : cS} {b : Nat} {v : Nat → Int32} (h : RB τ n c b v) : v 2665 = nI (N (v 2665)) ∧ N (v 2665) ≤ 20 := by have := h.rg.nat (k := 2665) (hi := 20) rfl; exact ⟨this.1, by omega⟩
theorem RB.n2786 {τ : cT} {n : Nat} {c : cS} {b : Nat} {v : Nat → Int32} (h : RB τ n c b v) : v 2786 = nI (N (v 2786)) ∧ N (v 2786) ≤ 6 := by have := h.rg.nat (k := 2786) (hi := 6) rfl; exact ⟨this.1, by omega⟩
theorem RB.n2811 {τ : cT} {n : Nat} {c : cS} {b : Nat} {v : Nat → Int32} (h : RB τ n c b v) : v 2811 = nI (N (v 2811)) ∧ N (v 2811) ≤ 20 := by have := h.rg.nat (k := 2811) (hi := 20) rfl; exact ⟨this.1, by omega⟩
/-- the same numbers where a Board is wired -/
def Fr (c c' : cS) (b : Nat) (v : Nat → Int32) : Prop := (∀ o, o < 135 → ∀ j, ¬ (29 ≤ o ∧ o < 39 ∧ (j = 8 ∨ 29 + N (v 999) ≤ o)) → ¬ (40 + N (v 1211) ≤ o ∧ o < 120) → ¬ (o = 25 ∧ N (v 2811) ≤ j) → c'.1 (b + o) j = c.1 (b + o) j) ∧ (∀ i, i < N (v 1211) → c'.2 (b + 40 + i) 8 = c.2 (b + 40 + i) 8) ∧ (∀ a, a < N (v 2811) → c'.2 (b + 24) a = c.2 (b + 24) a) ∧ c'.2 (b + 17) 5 = c.2 (b + 17) 5
/-- places of the row that tell nothing as yet -/
def fx (v : Nat → Int32) (k : Nat) : Prop := (1000 + 8 * N (v 999) ≤ k ∧ k < 1080 ∧ (k - 1000) % 8 ≠ 4 ∧ (k - 1000) % 8 ≠ 5 ∧ (k - 1000) % 8 ≠ 7) ∨ (1212 + 18 * N (v 1211) ≤ k ∧ k < 2652 ∧ (k - 1212) % 18 ≠ 9 ∧ (k - 1212) % 18 ≠ 14 ∧ (k - 1212) % 18 ≠ 16) ∨ (2812 + 882 * N (v 2811) ≤ k ∧ k < 20452) ∨ (20452 ≤ k ∧ ¬ v 2661 = nI 1)
theorem Fr.refl {c : cS} {b : Nat} {v : Nat → Int32} : Fr c c b v := ⟨fun _ _ _ _ _ _ => rfl, fun _ _ => rfl, fun _ _ => rfl, rfl⟩
/-- the same texts -/
def As (τ : cT) (n : Nat) (c c' : cS) : Prop := ∀ p, acb τ n p = true → ∀ j, j < 6 → c'.1 (p + j) = c.1 (p + j)
theorem acb_up {τ τ' : cT} {n n' p : Nat} (he : ext τ n τ' n') (h : acb τ n p = true) : acb τ' n' p = true ∧ ∀ j, j < 6 → τ' (p + j) = τ (p + j) := by
  have h1 := acb_all h
  have e : ∀ j, j < 6 → τ' (p + j) = τ (p + j) := fun j hj => he.2 _ (by omega)
  refine ⟨?_, e⟩
  have e0 : τ' p = τ p := e 0 (by decide)
  have := he.1
  simp only [acb, Bool.and_eq_true, decide_eq_true_eq, e0, e 1 (by decide), e 2 (by decide), e 3 (by decide), e 4 (by decide), e 5 (by decide)]
  exact ⟨⟨⟨⟨⟨⟨by omega, h1.2.1⟩, h1.2.2.1⟩, h1.2.2.2.1⟩, h1.2.2.2.2.1⟩, h1.2.2.2.2.2.1⟩, h1.2.2.2.2.2.2⟩
def bs_ok (k : Nat) : Bool := match wk k with
  | some _ => !(decide (1000 ≤ k) && decide (k < 1080)) && !(decide (1212 ≤ k) && decide (k < 2652)) && !(decide (1082 ≤ k) && decide (k < 1090))
  | none => true
theorem bs_2 : ∀ a, a < 54 → ∀ b, b < 54 → bs_ok (54 * a + b) = true := by decide +kernel
theorem wk_bsu {k o j : Nat} (h : wk k = some (o, j)) : ¬ (1000 ≤ k ∧ k < 1080) ∧ ¬ (1212 ≤ k ∧ k < 2652) ∧ ¬ (1082 ≤ k ∧ k < 1090) := by
  have hk : k < 2812 := by
    by_cases q : k < 2812
    · exact q
    · rw [wk_le (by omega)] at h; cases h
  have h1 := bs_2 (k / 54) (by omega) (k % 54) (by omega)
  rw [show 54 * (k / 54) + k % 54 = k by omega] at h1
  unfold bs_ok at h1
  rw [h] at h1
  simp only [Bool.and_eq_true, Bool.not_eq_true', Bool.and_eq_false_iff, decide_eq_false_iff_not] at h1
  omega
theorem wk_bs {k o j : Nat} (h : wk k = some (o, j)) : ¬ (1000 ≤ k ∧ k < 1080) ∧ ¬ (1212 ≤ k ∧ k < 2652) := ⟨(wk_bsu h).1, (wk_bsu h).2.1⟩
theorem RB.frame {τ τ' : cT} {n n' : Nat} {c c' : cS} {b : Nat} {v v' : Nat → Int32} (h : RB τ n c b v) (he : ext τ n τ' n') (hf : Fr c c' b v) (ha : As τ n c c') (hv : ∀ k, k < 21334 → fx v k ∨ v' k = v k) (hg : Rg v') : RB τ' n' c' b v' := by
  have n9 : N (v 2811) ≤ 20 := h.n2811.2
  have hvx : ∀ k, k < 21334 → ¬ fx v k → v' k = v k := fun k hk hn => (hv k hk).resolve_left hn
  have hv2 : ∀ k, k < 2812 → ¬ (1000 + 8 * N (v 999) ≤ k ∧ k < 1080 ∧ (k - 1000) % 8 ≠ 4 ∧ (k - 1000) % 8 ≠ 5 ∧ (k - 1000) % 8 ≠ 7) → ¬ (1212 + 18 * N (v 1211) ≤ k ∧ k < 2652 ∧ (k - 1212) % 18 ≠ 9 ∧ (k - 1212) % 18 ≠ 14 ∧ (k - 1212) % 18 ≠ 16) → v' k = v k := fun k hk q1 q2 => hvx k (by omega) (by unfold fx; omega)
  have n1 := h.n198.2
  have n2 := h.n999.2
  have n3 := h.n1211.2
  have n4 := h.n2811.2
  refine RB.mk hg (h.cr.same h.rg (fun k hk => hv2 k (by unfold crp at hk; omega) (by unfold crp at hk; omega) (by unfold crp at hk; omega))) ?_ ?_ ?_ ?_ ?_ ?_ ?_ ?_ ?_
  · intro k o j hk
    have hk2 : k < 2812 := by
      by_cases q : k < 2812
      · exact q
      · rw [wk_le (by omega)] at hk; cases hk
    have w := wk_no hk
    have w2 : ¬ (1000 ≤ k ∧ k < 1080) ∧ ¬ (1212 ≤ k ∧ k < 2652) := wk_bs hk
    rw [hf.1 o (by omega) j (by omega) (by omega) (by omega), hv2 k hk2 (by omega) (by omega)]
    exact h.pl k o j hk
  · intro i hi f hf2
    rw [hv2 999 (by decide) (by omega) (by omega)] at hi
    have : bf f < 8 := by unfold bf; split <;> (try split) <;> omega
    rw [show b + 29 + i = b + (29 + i) by omega, hf.1 (29 + i) (by omega) f (by omega) (by omega) (by omega), hv2 _ (by omega) (by omega) (by omega), ← Nat.add_assoc]
    exact h.ber i hi f hf2
  · intro i hi f g hg
    rw [hv2 1211 (by decide) (by omega) (by omega)] at hi
    have : g < 18 := by
      unfold sf at hg
      repeat' split at hg
      all_goals (first | (cases hg; done) | (injection hg with hg; omega))
    rw [show b + 40 + i = b + (40 + i) by omega, hf.1 (40 + i) (by omega) f (by omega) (by omega) (by omega), hv2 _ (by omega) (by omega) (by omega), ← Nat.add_assoc]
    exact h.shp i hi f g hg
  · intro i hi
    rw [hv2 1211 (by decide) (by omega) (by omega)] at hi
    rw [show b + 40 + i = b + (40 + i) by omega, hf.1 (40 + i) (by omega) 16 (by omega) (by omega) (by omega), hf.1 (40 + i) (by omega) 17 (by omega) (by omega) (by omega), hv2 _ (by omega) (by omega) (by omega), ← Nat.add_assoc]
    exact h.bak i hi
  · intro i hi
    rw [hv2 1211 (by decide) (by omega) (by omega)] at hi
    rw [hf.2.1 i hi, hv2 _ (by omega) (by omega) (by omega), hv2 2811 (by decide) (by omega) (by omega)]
    rcases h.law i hi with q | ⟨a, q1, q2, q3⟩
    · exact Or.inl q
    · exact Or.inr ⟨a, q1, q2, by rw [hf.2.2.1 a q1]; exact q3⟩
  · intro a ha2
    rw [hv2 2811 (by decide) (by omega) (by omega)] at ha2
    obtain ⟨q1, p, q2, q3, q4⟩ := h.txt a ha2
    have u := acb_up he q3
    rw [hf.1 25 (by decide) a (by omega) (by omega) (by omega), hf.2.2.1 a ha2, hvx _ (by omega) (by unfold fx; omega)]
    exact ⟨q1, p, q2, u.1, q4.same u.2 (ha p q3) (fun k k0 k1 => hvx _ (by omega) (by unfold fx; omega))⟩
  · obtain ⟨p, q2, q3, q4⟩ := h.prp
    have u := acb_up he q3
    rw [hf.2.2.2, hv2 2661 (by decide) (by omega) (by omega)]
    exact ⟨p, q2, u.1, fun e => (q4 e).same u.2 (ha p q3) (fun k k0 k1 => hvx _ (by omega) (by intro q; unfold fx at q; rcases q with q | q | q | q <;> first | omega | exact q.2 e))⟩
  · intro k hk
    rw [hf.1 16 (by decide) k (by omega) (by omega) (by omega), hv2 0 (by decide) (by omega) (by omega), hv2 198 (by decide) (by omega) (by omega)]
    have := h.snd k hk
    rw [this]
    refine congrArg eC ?_
    have g : ∀ m, m ≤ 200 → ls v' (nI k) (v 0) m = ls v (nI k) (v 0) m := by
      intro m
      induction m with
      | zero => intro _; rfl
      | succ m ih =>
        intro hm
        have : ∀ j, ls v (nI k) (v 0) m = some j → v' (199 + 4 * j + 1) = v (199 + 4 * j + 1) := fun j hj => by
          have := ls_lt hj
          exact hv2 _ (by omega) (by omega) (by omega)
        rw [ls, ls, ih (by omega), hv2 (199 + 4 * m) (by omega) (by omega) (by omega), hv2 (199 + 4 * m + 3) (by omega) (by omega) (by omega), hv2 (199 + 4 * m + 1) (by omega) (by omega) (by omega)]
        cases e : ls v (nI k) (v 0) m with
        | none => rfl
        | some j => simp only [this j e]
    exact (g _ n1).symm
  · have e8 : ∀ e, bz8 v' e = bz8 v e := fun e => by unfold bz8; rw [hv2 0 (by decide) (by omega) (by omega), hv2 _ (by omega) (by omega) (by omega)]
    simp only [e8]
    rw [hf.1 120 (by decide) 0 (by omega) (by omega) (by omega), hf.1 120 (by decide) 1 (by omega) (by omega) (by omega), hf.1 120 (by decide) 2 (by omega) (by omega) (by omega), hf.1 120 (by decide) 3 (by omega) (by omega) (by omega)]
    exact h.bus
theorem ext_id {τ : cT} {n : Nat} : ext τ n τ n := ⟨Nat.le_refl _, fun _ _ => rfl⟩
/-- a plain number is set -/
theorem RB.put {τ : cT} {n : Nat} {c : cS} {b : Nat} {v : Nat → Int32} {k o j : Nat} {x : Int32} (h : RB τ n c b v) (hk : wk k = some (o, j)) (h0 : k ≠ 0) (h1 : k ≠ 198 ∧ k ≠ 999 ∧ (199 ≤ k → k < 999 → 199 + 4 * N (v 198) ≤ k)) (h2 : k ≠ 1211) (h3 : k ≠ 2661) (h4 : k ≠ 2811) (hx : Ok k x) (hC : Cr (upd v k x)) (ha : As τ n c (cp c (b + o) j x)) : RB τ n (cp c (b + o) j x) b (upd v k x) := by
  have hk2 : k < 2812 := by
    by_cases q : k < 2812
    · exact q
    · rw [wk_le (by omega)] at hk; cases hk
  have w := wk_no hk
  have wb := wk_bsu hk
  have nb : ∀ q, 1000 ≤ q → q < 1080 → q ≠ k := fun q q1 q2 e => by omega
  have nu : ∀ q, 1082 ≤ q → q < 1090 → q ≠ k := fun q q1 q2 e => by omega
  have ns : ∀ q, 1212 ≤ q → q < 2652 → q ≠ k := fun q q1 q2 e => by omega
  have oo : ∀ o', 28 ≤ o' → o' ≤ 120 → o' ≠ o := fun o' _ _ => by omega
  have m1 : upd v k x 999 = v 999 := upd_n (by omega)
  have m2 : upd v k x 1211 = v 1211 := upd_n (by omega)
  have m3 : upd v k x 2811 = v 2811 := upd_n (by omega)
  have m4 : upd v k x 2661 = v 2661 := upd_n (by omega)
  have m5 : upd v k x 0 = v 0 := upd_n (by omega)
  have m6 : upd v k x 198 = v 198 := upd_n (by omega)
  have n1 := h.n198.2
  have n2 := h.n999.2
  have n3 := h.n1211.2
  have n4 := h.n2811.2
  refine RB.mk (h.rg.put hx) hC (h.pl.put hk) ?_ ?_ ?_ ?_ ?_ ?_ ?_ ?_
  · intro i hi f hf2
    rw [m1] at hi
    have : bf f < 8 := by unfold bf; split <;> (try split) <;> omega
    rw [cp_1 _ (by omega), upd_n (nb _ (by omega) (by omega))]
    exact h.ber i hi f hf2
  · intro i hi f g hg
    rw [m2] at hi
    have : g < 18 := by
      unfold sf at hg
      repeat' split at hg
      all_goals (first | (cases hg; done) | (injection hg with hg; omega))
    rw [cp_1 _ (by omega), upd_n (ns _ (by omega) (by omega))]
    exact h.shp i hi f g hg
  · intro i hi
    rw [m2] at hi
    rw [cp_1 _ (by omega), upd_n (ns _ (by omega) (by omega))]
    exact h.bak i hi
  · intro i hi
    rw [m2] at hi
    rw [upd_n (ns _ (by omega) (by omega)), m3]
    exact h.law i hi
  · intro a ha2
    rw [m3] at ha2
    obtain ⟨q1, p, q2, q3, q4⟩ := h.txt a ha2
    rw [cp_1 _ (by omega), upd_n (by omega)]
    exact ⟨q1, p, q2, q3, q4.same (fun _ _ => rfl) (ha p q3) (fun k k0 k1 => upd_n (by omega))⟩
  · obtain ⟨p, q2, q3, q4⟩ := h.prp
    rw [m4]
    exact ⟨p, q2, q3, fun e => (q4 e).same (fun _ _ => rfl) (ha p q3) (fun k k0 k1 => upd_n (by omega))⟩
  · intro k' hk'
    rw [cp_1 _ (by omega), m5, m6]
    have := h.snd k' hk'
    rw [this]
    refine congrArg eC ?_
    have g : ∀ m, m ≤ N (v 198) → ls (upd v k x) (nI k') (v 0) m = ls v (nI k') (v 0) m := by
      intro m
      induction m with
      | zero => intro _; rfl
      | succ m ih =>
        intro hm
        have : ∀ j, ls v (nI k') (v 0) m = some j → upd v k x (199 + 4 * j + 1) = v (199 + 4 * j + 1) := fun j hj => upd_n (by have := ls_lt hj; omega)
        rw [ls, ls, ih (by omega), upd_n (show 199 + 4 * m ≠ k by omega), upd_n (show 199 + 4 * m + 3 ≠ k by omega), upd_n (show 199 + 4 * m + 1 ≠ k by omega)]
        cases e : ls v (nI k') (v 0) m with
        | none => rfl
        | some j => simp only [this j e]
    exact (g _ (Nat.le_refl _)).symm
  · have e8 : ∀ e, bz8 (upd v k x) e = bz8 v e := fun e => by unfold bz8; rw [m5, upd_n (nu _ (by omega) (by omega))]
    simp only [e8]
    rw [cp_1 _ (by omega)]
    exact h.bus
/-- texts lie behind 28 .. 33 or from 180 on -/
theorem act_pl {τ : cT} {n p : Nat} (hI : LI τ n) (h : acb τ n p = true) : p = 28 ∨ 180 ≤ p := by
  have h1 := (acb_all h).2.1
  by_cases q : 180 ≤ p
  · exact Or.inr q
  · left
    by_cases q2 : p < 10
    · have := hI.1.2 p q2
      rw [Nat.zero_add, h1] at this
      have k : ∀ p, p < 10 → Sum.inl 0 ≠ rt p := by decide
      exact absurd this (k p q2)
    · have := hI.1.1.2 (p - 10) (by omega)
      rw [show 0 + 10 + (p - 10) = p by omega, h1] at this
      have k : ∀ o, o < 170 → o ≠ 18 → Sum.inl 0 ≠ lt o := by decide +kernel
      by_cases q3 : p - 10 = 18
      · omega
      · exact absurd this (k _ (by omega) q3)
/-- a step that writes only into the Board at 10 (its noLines aside) -/
def Nw (c c' : cS) : Prop := (∀ q, q < 10 ∨ 180 ≤ q ∨ (28 ≤ q ∧ q ≤ 33) → c'.1 q = c.1 q) ∧ ∀ q, q < 10 ∨ 180 ≤ q → c'.2 q = c.2 q
theorem Nw.refl {c : cS} : Nw c c := ⟨fun _ _ => rfl, fun _ _ => rfl⟩
theorem Nw.trans {c c' c'' : cS} (h : Nw c c') (h' : Nw c' c'') : Nw c c'' := ⟨fun q hq => (h'.1 q hq).trans (h.1 q hq), fun q hq => (h'.2 q hq).trans (h.2 q hq)⟩
theorem Nw.cp {c c' : cS} {q j : Nat} {x : Int32} (h : Nw c c') (h1 : 10 ≤ q) (h2 : q < 180) (h3 : ¬ (28 ≤ q ∧ q ≤ 33)) : Nw c (cp c' q j x) := ⟨fun a ha => by rw [cp_1 _ (by omega)]; exact h.1 a ha, h.2⟩
theorem Nw.cq {c c' : cS} {q j : Nat} {x : Option Nat} (h : Nw c c') (h1 : 10 ≤ q) (h2 : q < 180) : Nw c (cq c' q j x) := ⟨h.1, fun a ha => by rw [cq_1 _ (by omega)]; exact h.2 a ha⟩
theorem Nw.as {τ : cT} {n : Nat} {c c' : cS} (h : Nw c c') (hI : LI τ n) : As τ n c c' := fun p hp j hj => by
  rcases act_pl hI hp with e | e
  · subst e; exact h.1 _ (by omega)
  · exact h.1 _ (by omega)
/-- the tape, the fault -/
def RT (c : cS) (s : rs_S) : Prop := (∃ t, t ≤ 400 ∧ c.1 0 1 = nI t ∧ s.1 8 = nI t) ∧ (∀ i, i < 400 → c.1 1 i = s.2.2 4 i) ∧ c.1 2 0 = s.1 13
/-- the image -/
def RI (τ : cT) (n : Nat) (c : cS) (s : rs_S) : Prop := (c.2 0 4 = none ∧ s.1 3 = nI 0) ∨ ∃ y, 192 ≤ y ∧ c.2 0 4 = some y ∧ Bd τ n y ∧ s.1 3 = nI 1 ∧ RB τ n c y (s.2.2 1)
def Rel (τ : cT) (n : Nat) (c : cS) (s : rs_S) : Prop :=
  (RB τ n c 10 s.2.1) ∧
  (c.1 28 0 = nI 0) ∧
  (RT c s) ∧
  (RI τ n c s)
theorem Rel.mk {τ : cT} {n : Nat} {c : cS} {s : rs_S} (h0 : RB τ n c 10 s.2.1) (h1 : c.1 28 0 = nI 0) (h2 : RT c s) (h3 : RI τ n c s) : Rel τ n c s := by
  unfold Rel
  exact ⟨h0, h1, h2, h3⟩
theorem Rel.b {τ : cT} {n : Nat} {c : cS} {s : rs_S} (h : Rel τ n c s) : RB τ n c 10 s.2.1 := (show _ from by unfold Rel at h; exact h.1)
theorem Rel.z {τ : cT} {n : Nat} {c : cS} {s : rs_S} (h : Rel τ n c s) : c.1 28 0 = nI 0 := (show _ from by unfold Rel at h; exact h.2.1)
theorem Rel.t {τ : cT} {n : Nat} {c : cS} {s : rs_S} (h : Rel τ n c s) : RT c s := (show _ from by unfold Rel at h; exact h.2.2.1)
theorem Rel.i {τ : cT} {n : Nat} {c : cS} {s : rs_S} (h : Rel τ n c s) : RI τ n c s := (show _ from by unfold Rel at h; exact h.2.2.2)
/-- what a step of the Board at 10 leaves -/
theorem Rel.now {τ : cT} {n : Nat} {c c' : cS} {s s' : rs_S} (h : Rel τ n c s) (hI : LI τ n) (hw : Nw c c') (hb : RB τ n c' 10 s'.2.1) (h1 : ∀ j, j = 3 ∨ j = 8 ∨ j = 13 → s'.1 j = s.1 j) (h2 : ∀ j, j = 1 ∨ j = 4 → s'.2.2 j = s.2.2 j) : Rel τ n c' s' := by
  refine Rel.mk hb (by rw [hw.1 28 (by omega)]; exact h.z) ?_ ?_
  · obtain ⟨⟨t, t1, t2, t3⟩, t4, t5⟩ := h.t
    refine ⟨⟨t, t1, by rw [hw.1 0 (by omega)]; exact t2, by rw [h1 8 (by omega)]; exact t3⟩, fun i hi => ?_, ?_⟩
    · rw [hw.1 1 (by omega), h2 4 (by omega)]; exact t4 i hi
    · rw [hw.1 2 (by omega), h1 13 (by omega)]; exact t5
  · rcases h.i with ⟨q1, q2⟩ | ⟨y, q0, q1, q2, q3, q4⟩
    · exact Or.inl ⟨by rw [hw.2 0 (by omega)]; exact q1, by rw [h1 3 (by omega)]; exact q2⟩
    · refine Or.inr ⟨y, q0, by rw [hw.2 0 (by omega)]; exact q1, q2, by rw [h1 3 (by omega)]; exact q3, ?_⟩
      rw [h2 1 (by omega)]
      exact q4.frame ext_id ⟨fun o ho j hj _ _ => by rw [hw.1 _ (by omega)], fun i hi => by rw [hw.2 _ (by omega)], fun a ha => by rw [hw.2 _ (by omega)], by rw [hw.2 _ (by omega)]⟩ (hw.as hI) (fun _ _ => Or.inr rfl) q4.rg
/-- a cell more -/
theorem Rel.up {τ : cT} {n : Nat} {c : cS} {s : rs_S} (h : Rel τ n c s) : Rel τ (n + 1) c s := by
  have he : ext τ n τ (n + 1) := ⟨Nat.le_succ _, fun _ _ => rfl⟩
  refine Rel.mk (h.b.frame he Fr.refl (fun _ _ _ _ => rfl) (fun _ _ => Or.inr rfl) h.b.rg) h.z h.t ?_
  rcases h.i with q | ⟨y, q0, q1, q2, q3, q4⟩
  · exact Or.inl q
  · exact Or.inr ⟨y, q0, q1, ⟨by have := q2.1; omega, q2.2⟩, q3, q4.frame he Fr.refl (fun _ _ _ _ => rfl) (fun _ _ => Or.inr rfl) q4.rg⟩
/-- the reference's answer alone -/
theorem Rel.pn {τ : cT} {n : Nat} {c : cS} {s : rs_S} (h : Rel τ n c s) (x : Int32) : Rel τ n c (pN s 0 x) := by
  refine Rel.mk h.b h.z ⟨?_, h.t.2.1, by rw [pN_n (by decide)]; exact h.t.2.2⟩ ?_
  · obtain ⟨t, t1, t2, t3⟩ := h.t.1
    exact ⟨t, t1, t2, by rw [pN_n (by decide)]; exact t3⟩
  · rcases h.i with ⟨q1, q2⟩ | ⟨y, q0, q1, q2, q3, q4⟩
    · exact Or.inl ⟨q1, by rw [pN_n (by decide)]; exact q2⟩
    · exact Or.inr ⟨y, q0, q1, q2, by rw [pN_n (by decide)]; exact q3, q4⟩
