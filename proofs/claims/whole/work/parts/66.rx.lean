/-! THE PURE LAYER: the relation of a Board and a row but for what binds numbers together -/
def RX (τ : cT) (n : Nat) (c : cS) (b : Nat) (v : Nat → Int32) : Prop :=
  (Rg v) ∧
  (Pl c b v) ∧
  (RBe c b v (N (v 999))) ∧
  (RSh c b v (N (v 1211))) ∧
  (∀ i, i < N (v 1211) → bk (c.1 (b + 40 + i) 16) (c.1 (b + 40 + i) 17) (v (1212 + 18 * i + 15))) ∧
  (∀ i, i < N (v 1211) → (v (1212 + 18 * i + 17) = -1 ∧ c.2 (b + 40 + i) 8 = some 28) ∨ ∃ a, a < N (v 2811) ∧ v (1212 + 18 * i + 17) = nI a ∧ c.2 (b + 40 + i) 8 = c.2 (b + 24) a) ∧
  (∀ a, a < N (v 2811) → c.1 (b + 25) a = v (2812 + 882 * a) ∧ ∃ p, c.2 (b + 24) a = some p ∧ acb τ n p = true ∧ RAct τ c p v a) ∧
  (∃ p, c.2 (b + 17) 5 = some p ∧ acb τ n p = true ∧ (v 2661 = nI 1 → RAct τ c p v 20)) ∧
  (∀ k, k < 24 → c.1 (b + 16) k = eC (ls v (nI k) (v 0) (N (v 198)))) ∧
  (c.1 (b + 120) 0 = bz8 v 0 + bz8 v 1 + bz8 v 2 + bz8 v 3 ∧ c.1 (b + 120) 1 = bz8 v 1 + bz8 v 2 + bz8 v 3 ∧ c.1 (b + 120) 2 = bz8 v 2 + bz8 v 3 ∧ c.1 (b + 120) 3 = bz8 v 3 ∧ ∀ e, 4 ≤ e → e < 8 → bz8 v e = 0)
theorem RX.mk {τ : cT} {n : Nat} {c : cS} {b : Nat} {v : Nat → Int32} (h0 : Rg v) (h1 : Pl c b v) (h2 : RBe c b v (N (v 999))) (h3 : RSh c b v (N (v 1211))) (h4 : ∀ i, i < N (v 1211) → bk (c.1 (b + 40 + i) 16) (c.1 (b + 40 + i) 17) (v (1212 + 18 * i + 15))) (h5 : ∀ i, i < N (v 1211) → (v (1212 + 18 * i + 17) = -1 ∧ c.2 (b + 40 + i) 8 = some 28) ∨ ∃ a, a < N (v 2811) ∧ v (1212 + 18 * i + 17) = nI a ∧ c.2 (b + 40 + i) 8 = c.2 (b + 24) a) (h6 : ∀ a, a < N (v 2811) → c.1 (b + 25) a = v (2812 + 882 * a) ∧ ∃ p, c.2 (b + 24) a = some p ∧ acb τ n p = true ∧ RAct τ c p v a) (h7 : ∃ p, c.2 (b + 17) 5 = some p ∧ acb τ n p = true ∧ (v 2661 = nI 1 → RAct τ c p v 20)) (h8 : ∀ k, k < 24 → c.1 (b + 16) k = eC (ls v (nI k) (v 0) (N (v 198)))) (h9 : c.1 (b + 120) 0 = bz8 v 0 + bz8 v 1 + bz8 v 2 + bz8 v 3 ∧ c.1 (b + 120) 1 = bz8 v 1 + bz8 v 2 + bz8 v 3 ∧ c.1 (b + 120) 2 = bz8 v 2 + bz8 v 3 ∧ c.1 (b + 120) 3 = bz8 v 3 ∧ ∀ e, 4 ≤ e → e < 8 → bz8 v e = 0) : RX τ n c b v := by
  unfold RX
  exact ⟨h0, h1, h2, h3, h4, h5, h6, h7, h8, h9⟩
theorem RX.rg {τ : cT} {n : Nat} {c : cS} {b : Nat} {v : Nat → Int32} (h : RX τ n c b v) : Rg v := (show _ from by unfold RX at h; exact h.1)
theorem RX.pl {τ : cT} {n : Nat} {c : cS} {b : Nat} {v : Nat → Int32} (h : RX τ n c b v) : Pl c b v := (show _ from by unfold RX at h; exact h.2.1)
theorem RX.ber {τ : cT} {n : Nat} {c : cS} {b : Nat} {v : Nat → Int32} (h : RX τ n c b v) : RBe c b v (N (v 999)) := (show _ from by unfold RX at h; exact h.2.2.1)
theorem RX.shp {τ : cT} {n : Nat} {c : cS} {b : Nat} {v : Nat → Int32} (h : RX τ n c b v) : RSh c b v (N (v 1211)) := (show _ from by unfold RX at h; exact h.2.2.2.1)
theorem RX.bak {τ : cT} {n : Nat} {c : cS} {b : Nat} {v : Nat → Int32} (h : RX τ n c b v) : ∀ i, i < N (v 1211) → bk (c.1 (b + 40 + i) 16) (c.1 (b + 40 + i) 17) (v (1212 + 18 * i + 15)) := (show _ from by unfold RX at h; exact h.2.2.2.2.1)
theorem RX.law {τ : cT} {n : Nat} {c : cS} {b : Nat} {v : Nat → Int32} (h : RX τ n c b v) : ∀ i, i < N (v 1211) → (v (1212 + 18 * i + 17) = -1 ∧ c.2 (b + 40 + i) 8 = some 28) ∨ ∃ a, a < N (v 2811) ∧ v (1212 + 18 * i + 17) = nI a ∧ c.2 (b + 40 + i) 8 = c.2 (b + 24) a := (show _ from by unfold RX at h; exact h.2.2.2.2.2.1)
theorem RX.txt {τ : cT} {n : Nat} {c : cS} {b : Nat} {v : Nat → Int32} (h : RX τ n c b v) : ∀ a, a < N (v 2811) → c.1 (b + 25) a = v (2812 + 882 * a) ∧ ∃ p, c.2 (b + 24) a = some p ∧ acb τ n p = true ∧ RAct τ c p v a := (show _ from by unfold RX at h; exact h.2.2.2.2.2.2.1)
theorem RX.prp {τ : cT} {n : Nat} {c : cS} {b : Nat} {v : Nat → Int32} (h : RX τ n c b v) : ∃ p, c.2 (b + 17) 5 = some p ∧ acb τ n p = true ∧ (v 2661 = nI 1 → RAct τ c p v 20) := (show _ from by unfold RX at h; exact h.2.2.2.2.2.2.2.1)
theorem RX.snd {τ : cT} {n : Nat} {c : cS} {b : Nat} {v : Nat → Int32} (h : RX τ n c b v) : ∀ k, k < 24 → c.1 (b + 16) k = eC (ls v (nI k) (v 0) (N (v 198))) := (show _ from by unfold RX at h; exact h.2.2.2.2.2.2.2.2.1)
theorem RX.bus {τ : cT} {n : Nat} {c : cS} {b : Nat} {v : Nat → Int32} (h : RX τ n c b v) : c.1 (b + 120) 0 = bz8 v 0 + bz8 v 1 + bz8 v 2 + bz8 v 3 ∧ c.1 (b + 120) 1 = bz8 v 1 + bz8 v 2 + bz8 v 3 ∧ c.1 (b + 120) 2 = bz8 v 2 + bz8 v 3 ∧ c.1 (b + 120) 3 = bz8 v 3 ∧ ∀ e, 4 ≤ e → e < 8 → bz8 v e = 0 := (show _ from by unfold RX at h; exact h.2.2.2.2.2.2.2.2.2)
theorem RX.n0 {τ : cT} {n : Nat} {c : cS} {b : Nat} {v : Nat → Int32} (h : RX τ n c b v) : v 0 = nI (N (v 0)) ∧ N (v 0) ≤ 30000 := by have := h.rg.nat (k := 0) (hi := 30000) rfl; exact ⟨this.1, by omega⟩
theorem RX.n98 {τ : cT} {n : Nat} {c : cS} {b : Nat} {v : Nat → Int32} (h : RX τ n c b v) : v 98 = nI (N (v 98)) ∧ N (v 98) ≤ 40 := by have := h.rg.nat (k := 98) (hi := 40) rfl; exact ⟨this.1, by omega⟩
theorem RX.n179 {τ : cT} {n : Nat} {c : cS} {b : Nat} {v : Nat → Int32} (h : RX τ n c b v) : v 179 = nI (N (v 179)) ∧ N (v 179) ≤ 6 := by have := h.rg.nat (k := 179) (hi := 6) rfl; exact ⟨this.1, by omega⟩
theorem RX.n198 {τ : cT} {n : Nat} {c : cS} {b : Nat} {v : Nat → Int32} (h : RX τ n c b v) : v 198 = nI (N (v 198)) ∧ N (v 198) ≤ 200 := by have := h.rg.nat (k := 198) (hi := 200) rfl; exact ⟨this.1, by omega⟩
theorem RX.n999 {τ : cT} {n : Nat} {c : cS} {b : Nat} {v : Nat → Int32} (h : RX τ n c b v) : v 999 = nI (N (v 999)) ∧ N (v 999) ≤ 10 := by have := h.rg.nat (k := 999) (hi := 10) rfl; exact ⟨this.1, by omega⟩
theorem RX.n1090 {τ : cT} {n : Nat} {c : cS} {b : Nat} {v : Nat → Int32} (h : RX τ n c b v) : v 1090 = nI (N (v 1090)) ∧ N (v 1090) ≤ 30 := by have := h.rg.nat (k := 1090) (hi := 30) rfl; exact ⟨this.1, by omega⟩
theorem RX.n1211 {τ : cT} {n : Nat} {c : cS} {b : Nat} {v : Nat → Int32} (h : RX τ n c b v) : v 1211 = nI (N (v 1211)) ∧ N (v 1211) ≤ 80 := by have := h.rg.nat (k := 1211) (hi := 80) rfl; exact ⟨this.1, by omega⟩
theorem RX.n2665 {τ : cT} {n : Nat} {c : cS} {b : Nat} {v : Nat → Int32} (h : RX τ n c b v) : v 2665 = nI (N (v 2665)) ∧ N (v 2665) ≤ 20 := by have := h.rg.nat (k := 2665) (hi := 20) rfl; exact ⟨this.1, by omega⟩
theorem RX.n2786 {τ : cT} {n : Nat} {c : cS} {b : Nat} {v : Nat → Int32} (h : RX τ n c b v) : v 2786 = nI (N (v 2786)) ∧ N (v 2786) ≤ 6 := by have := h.rg.nat (k := 2786) (hi := 6) rfl; exact ⟨this.1, by omega⟩
theorem RX.n2811 {τ : cT} {n : Nat} {c : cS} {b : Nat} {v : Nat → Int32} (h : RX τ n c b v) : v 2811 = nI (N (v 2811)) ∧ N (v 2811) ≤ 20 := by have := h.rg.nat (k := 2811) (hi := 20) rfl; exact ⟨this.1, by omega⟩
theorem RB.x {τ : cT} {n : Nat} {c : cS} {b : Nat} {v : Nat → Int32} (h : RB τ n c b v) : RX τ n c b v := RX.mk h.rg h.pl h.ber h.shp h.bak h.law h.txt h.prp h.snd h.bus
theorem RX.rb {τ : cT} {n : Nat} {c : cS} {b : Nat} {v : Nat → Int32} (h : RX τ n c b v) (hC : Cr v) : RB τ n c b v := RB.mk h.rg hC h.pl h.ber h.shp h.bak h.law h.txt h.prp h.snd h.bus
theorem RX.frame {τ τ' : cT} {n n' : Nat} {c c' : cS} {b : Nat} {v v' : Nat → Int32} (h : RX τ n c b v) (he : ext τ n τ' n') (hf : Fr c c' b v) (ha : As τ n c c') (hv : ∀ k, k < 21334 → fx v k ∨ v' k = v k) (hg : Rg v') : RX τ' n' c' b v' := by
  have n9 : N (v 2811) ≤ 20 := h.n2811.2
  have hvx : ∀ k, k < 21334 → ¬ fx v k → v' k = v k := fun k hk hn => (hv k hk).resolve_left hn
  have hv2 : ∀ k, k < 2812 → ¬ (1000 + 8 * N (v 999) ≤ k ∧ k < 1080 ∧ (k - 1000) % 8 ≠ 4 ∧ (k - 1000) % 8 ≠ 5 ∧ (k - 1000) % 8 ≠ 7) → ¬ (1212 + 18 * N (v 1211) ≤ k ∧ k < 2652 ∧ (k - 1212) % 18 ≠ 9 ∧ (k - 1212) % 18 ≠ 14 ∧ (k - 1212) % 18 ≠ 16) → v' k = v k := fun k hk q1 q2 => hvx k (by omega) (by unfold fx; omega)
  have n1 := h.n198.2
  have n2 := h.n999.2
  have n3 := h.n1211.2
  have n4 := h.n2811.2
  refine RX.mk hg ?_ ?_ ?_ ?_ ?_ ?_ ?_ ?_ ?_
  · intro k o j hk
    have hk2 : k < 2812 := by
      by_cases q : k < 2812
      · exact q
      · rw [wk_le (by omega)] at hk; cases hk
    have w := wk_no hk
    have w2 : ¬ (1000 ≤ k ∧ k < 1080) ∧ ¬ (1212 ≤ k ∧ k < 2652) := wk_bs hk
    rw [hf.1 o (by omega) j (by omega) (by omega) (by omega), hv2 k hk2 (by omega) (by omega)]
    exact h.pl k o j hk
  · intro i hi f hf2
    rw [hv2 999 (by decide) (by omega) (by omega)] at hi
    have : bf f < 8 := by unfold bf; split <;> (try split) <;> omega
    rw [show b + 29 + i = b + (29 + i) by omega, hf.1 (29 + i) (by omega) f (by omega) (by omega) (by omega), hv2 _ (by omega) (by omega) (by omega), ← Nat.add_assoc]
    exact h.ber i hi f hf2
  · intro i hi f g hg
    rw [hv2 1211 (by decide) (by omega) (by omega)] at hi
    have : g < 18 := by
      unfold sf at hg
      repeat' split at hg
      all_goals (first | (cases hg; done) | (injection hg with hg; omega))
    rw [show b + 40 + i = b + (40 + i) by omega, hf.1 (40 + i) (by omega) f (by omega) (by omega) (by omega), hv2 _ (by omega) (by omega) (by omega), ← Nat.add_assoc]
    exact h.shp i hi f g hg
  · intro i hi
    rw [hv2 1211 (by decide) (by omega) (by omega)] at hi
    rw [show b + 40 + i = b + (40 + i) by omega, hf.1 (40 + i) (by omega) 16 (by omega) (by omega) (by omega), hf.1 (40 + i) (by omega) 17 (by omega) (by omega) (by omega), hv2 _ (by omega) (by omega) (by omega), ← Nat.add_assoc]
    exact h.bak i hi
  · intro i hi
    rw [hv2 1211 (by decide) (by omega) (by omega)] at hi
    rw [hf.2.1 i hi, hv2 _ (by omega) (by omega) (by omega), hv2 2811 (by decide) (by omega) (by omega)]
    rcases h.law i hi with q | ⟨a, q1, q2, q3⟩
    · exact Or.inl q
    · exact Or.inr ⟨a, q1, q2, by rw [hf.2.2.1 a q1]; exact q3⟩
  · intro a ha2
    rw [hv2 2811 (by decide) (by omega) (by omega)] at ha2
    obtain ⟨q1, p, q2, q3, q4⟩ := h.txt a ha2
    have u := acb_up he q3
    rw [hf.1 25 (by decide) a (by omega) (by omega) (by omega), hf.2.2.1 a ha2, hvx _ (by omega) (by unfold fx; omega)]
    exact ⟨q1, p, q2, u.1, q4.same u.2 (ha p q3) (fun k k0 k1 => hvx _ (by omega) (by unfold fx; omega))⟩
  · obtain ⟨p, q2, q3, q4⟩ := h.prp
    have u := acb_up he q3
    rw [hf.2.2.2, hv2 2661 (by decide) (by omega) (by omega)]
    exact ⟨p, q2, u.1, fun e => (q4 e).same u.2 (ha p q3) (fun k k0 k1 => hvx _ (by omega) (by intro q; unfold fx at q; rcases q with q | q | q | q <;> first | omega | exact q.2 e))⟩
  · intro k hk
    rw [hf.1 16 (by decide) k (by omega) (by omega) (by omega), hv2 0 (by decide) (by omega) (by omega), hv2 198 (by decide) (by omega) (by omega)]
    have := h.snd k hk
    rw [this]
    refine congrArg eC ?_
    have g : ∀ m, m ≤ 200 → ls v' (nI k) (v 0) m = ls v (nI k) (v 0) m := by
      intro m
      induction m with
      | zero => intro _; rfl
      | succ m ih =>
        intro hm
        have : ∀ j, ls v (nI k) (v 0) m = some j → v' (199 + 4 * j + 1) = v (199 + 4 * j + 1) := fun j hj => by
          have := ls_lt hj
          exact hv2 _ (by omega) (by omega) (by omega)
        rw [ls, ls, ih (by omega), hv2 (199 + 4 * m) (by omega) (by omega) (by omega), hv2 (199 + 4 * m + 3) (by omega) (by omega) (by omega), hv2 (199 + 4 * m + 1) (by omega) (by omega) (by omega)]
        cases e : ls v (nI k) (v 0) m with
        | none => rfl
        | some j => simp only [this j e]
    exact (g _ n1).symm
  · have e8 : ∀ e, bz8 v' e = bz8 v e := fun e => by unfold bz8; rw [hv2 0 (by decide) (by omega) (by omega), hv2 _ (by omega) (by omega) (by omega)]
    simp only [e8]
    rw [hf.1 120 (by decide) 0 (by omega) (by omega) (by omega), hf.1 120 (by decide) 1 (by omega) (by omega) (by omega), hf.1 120 (by decide) 2 (by omega) (by omega) (by omega), hf.1 120 (by decide) 3 (by omega) (by omega) (by omega)]
    exact h.bus
theorem RX.put {τ : cT} {n : Nat} {c : cS} {b : Nat} {v : Nat → Int32} {k o j : Nat} {x : Int32} (h : RX τ n c b v) (hk : wk k = some (o, j)) (h0 : k ≠ 0) (h1 : k ≠ 198 ∧ k ≠ 999 ∧ (199 ≤ k → k < 999 → 199 + 4 * N (v 198) ≤ k)) (h2 : k ≠ 1211) (h3 : k ≠ 2661) (h4 : k ≠ 2811) (hx : Ok k x) (ha : As τ n c (cp c (b + o) j x)) : RX τ n (cp c (b + o) j x) b (upd v k x) := by
  have hk2 : k < 2812 := by
    by_cases q : k < 2812
    · exact q
    · rw [wk_le (by omega)] at hk; cases hk
  have w := wk_no hk
  have wb := wk_bsu hk
  have nb : ∀ q, 1000 ≤ q → q < 1080 → q ≠ k := fun q q1 q2 e => by omega
  have nu : ∀ q, 1082 ≤ q → q < 1090 → q ≠ k := fun q q1 q2 e => by omega
  have ns : ∀ q, 1212 ≤ q → q < 2652 → q ≠ k := fun q q1 q2 e => by omega
  have oo : ∀ o', 28 ≤ o' → o' ≤ 120 → o' ≠ o := fun o' _ _ => by omega
  have m1 : upd v k x 999 = v 999 := upd_n (by omega)
  have m2 : upd v k x 1211 = v 1211 := upd_n (by omega)
  have m3 : upd v k x 2811 = v 2811 := upd_n (by omega)
  have m4 : upd v k x 2661 = v 2661 := upd_n (by omega)
  have m5 : upd v k x 0 = v 0 := upd_n (by omega)
  have m6 : upd v k x 198 = v 198 := upd_n (by omega)
  have n1 := h.n198.2
  have n2 := h.n999.2
  have n3 := h.n1211.2
  have n4 := h.n2811.2
  refine RX.mk (h.rg.put hx) (h.pl.put hk) ?_ ?_ ?_ ?_ ?_ ?_ ?_ ?_
  · intro i hi f hf2
    rw [m1] at hi
    have : bf f < 8 := by unfold bf; split <;> (try split) <;> omega
    rw [cp_1 _ (by omega), upd_n (nb _ (by omega) (by omega))]
    exact h.ber i hi f hf2
  · intro i hi f g hg
    rw [m2] at hi
    have : g < 18 := by
      unfold sf at hg
      repeat' split at hg
      all_goals (first | (cases hg; done) | (injection hg with hg; omega))
    rw [cp_1 _ (by omega), upd_n (ns _ (by omega) (by omega))]
    exact h.shp i hi f g hg
  · intro i hi
    rw [m2] at hi
    rw [cp_1 _ (by omega), upd_n (ns _ (by omega) (by omega))]
    exact h.bak i hi
  · intro i hi
    rw [m2] at hi
    rw [upd_n (ns _ (by omega) (by omega)), m3]
    exact h.law i hi
  · intro a ha2
    rw [m3] at ha2
    obtain ⟨q1, p, q2, q3, q4⟩ := h.txt a ha2
    rw [cp_1 _ (by omega), upd_n (by omega)]
    exact ⟨q1, p, q2, q3, q4.same (fun _ _ => rfl) (ha p q3) (fun k k0 k1 => upd_n (by omega))⟩
  · obtain ⟨p, q2, q3, q4⟩ := h.prp
    rw [m4]
    exact ⟨p, q2, q3, fun e => (q4 e).same (fun _ _ => rfl) (ha p q3) (fun k k0 k1 => upd_n (by omega))⟩
  · intro k' hk'
    rw [cp_1 _ (by omega), m5, m6]
    have := h.snd k' hk'
    rw [this]
    refine congrArg eC ?_
    have g : ∀ m, m ≤ N (v 198) → ls (upd v k x) (nI k') (v 0) m = ls v (nI k') (v 0) m := by
      intro m
      induction m with
      | zero => intro _; rfl
      | succ m ih =>
        intro hm
        have : ∀ j, ls v (nI k') (v 0) m = some j → upd v k x (199 + 4 * j + 1) = v (199 + 4 * j + 1) := fun j hj => upd_n (by have := ls_lt hj; omega)
        rw [ls, ls, ih (by omega), upd_n (show 199 + 4 * m ≠ k by omega), upd_n (show 199 + 4 * m + 3 ≠ k by omega), upd_n (show 199 + 4 * m + 1 ≠ k by omega)]
        cases e : ls v (nI k') (v 0) m with
        | none => rfl
        | some j => simp only [this j e]
    exact (g _ (Nat.le_refl _)).symm
  · have e8 : ∀ e, bz8 (upd v k x) e = bz8 v e := fun e => by unfold bz8; rw [m5, upd_n (nu _ (by omega) (by omega))]
    simp only [e8]
    rw [cp_1 _ (by omega)]
    exact h.bus
section RXS
variable {τ : cT} {n : Nat} {c c' : cS} {b : Nat} {v v' : Nat → Int32}
theorem RX.ber_s (h : RX τ n c b v) (hv : ∀ k, 999 ≤ k → k < 1080 → v' k = v k) (hc : ∀ o, 29 ≤ o → o < 39 → ∀ j, j < 8 → c'.1 (b + o) j = c.1 (b + o) j) : RBe c' b v' (N (v' 999)) := by
  intro i hi f hf
  rw [hv 999 (by decide) (by decide)] at hi
  have := h.n999.2
  have : bf f < 8 := by unfold bf; split <;> (try split) <;> omega
  rw [show b + 29 + i = b + (29 + i) by omega, hc (29 + i) (by omega) (by omega) f hf, hv _ (by omega) (by omega), ← Nat.add_assoc]
  exact h.ber i hi f hf
theorem RX.shp_s (h : RX τ n c b v) (hv : ∀ k, 1211 ≤ k → k < 2652 → v' k = v k) (hc : ∀ o, 40 ≤ o → o < 120 → c'.1 (b + o) = c.1 (b + o)) : RSh c' b v' (N (v' 1211)) := by
  intro i hi f g hg
  rw [hv 1211 (by decide) (by decide)] at hi
  have := h.n1211.2
  have := sf_lt hg
  rw [show b + 40 + i = b + (40 + i) by omega, hc (40 + i) (by omega) (by omega), hv _ (by omega) (by omega), ← Nat.add_assoc]
  exact h.shp i hi f g hg
theorem RX.bak_s (h : RX τ n c b v) (hv : ∀ k, 1211 ≤ k → k < 2652 → v' k = v k) (hc : ∀ o, 40 ≤ o → o < 120 → c'.1 (b + o) = c.1 (b + o)) : ∀ i, i < N (v' 1211) → bk (c'.1 (b + 40 + i) 16) (c'.1 (b + 40 + i) 17) (v' (1212 + 18 * i + 15)) := by
  intro i hi
  rw [hv 1211 (by decide) (by decide)] at hi
  have := h.n1211.2
  rw [show b + 40 + i = b + (40 + i) by omega, hc (40 + i) (by omega) (by omega), hv _ (by omega) (by omega), ← Nat.add_assoc]
  exact h.bak i hi
theorem RX.law_s (h : RX τ n c b v) (hv : ∀ k, 1211 ≤ k → k < 2652 → v' k = v k) (hv2 : v' 2811 = v 2811) (hc : ∀ o, 40 ≤ o → o < 120 → c'.2 (b + o) = c.2 (b + o)) (hc2 : c'.2 (b + 24) = c.2 (b + 24)) : ∀ i, i < N (v' 1211) → (v' (1212 + 18 * i + 17) = -1 ∧ c'.2 (b + 40 + i) 8 = some 28) ∨ ∃ a, a < N (v' 2811) ∧ v' (1212 + 18 * i + 17) = nI a ∧ c'.2 (b + 40 + i) 8 = c'.2 (b + 24) a := by
  intro i hi
  rw [hv 1211 (by decide) (by decide)] at hi
  have := h.n1211.2
  rw [show b + 40 + i = b + (40 + i) by omega, hc (40 + i) (by omega) (by omega), hv _ (by omega) (by omega), hv2, hc2, ← Nat.add_assoc]
  exact h.law i hi
theorem RX.txt_s (h : RX τ n c b v) (hv : ∀ k, 2811 ≤ k → k < 20452 → v' k = v k) (hc : c'.1 (b + 25) = c.1 (b + 25)) (hc2 : c'.2 (b + 24) = c.2 (b + 24)) (ha : As τ n c c') : ∀ a, a < N (v' 2811) → c'.1 (b + 25) a = v' (2812 + 882 * a) ∧ ∃ p, c'.2 (b + 24) a = some p ∧ acb τ n p = true ∧ RAct τ c' p v' a := by
  intro a ha2
  rw [hv 2811 (by decide) (by decide)] at ha2
  have := h.n2811.2
  obtain ⟨q1, p, q2, q3, q4⟩ := h.txt a ha2
  rw [hc, hc2, hv _ (by omega) (by omega)]
  exact ⟨q1, p, q2, q3, q4.same (fun _ _ => rfl) (ha p q3) (fun k k0 k1 => hv _ (by omega) (by omega))⟩
theorem RX.prp_s (h : RX τ n c b v) (hv : ∀ k, 20452 ≤ k → k < 21334 → v' k = v k) (hv2 : v' 2661 = v 2661) (hc : c'.2 (b + 17) = c.2 (b + 17)) (ha : As τ n c c') : ∃ p, c'.2 (b + 17) 5 = some p ∧ acb τ n p = true ∧ (v' 2661 = nI 1 → RAct τ c' p v' 20) := by
  obtain ⟨p, q2, q3, q4⟩ := h.prp
  rw [hc, hv2]
  exact ⟨p, q2, q3, fun e => (q4 e).same (fun _ _ => rfl) (ha p q3) (fun k k0 k1 => hv _ (by omega) (by omega))⟩
theorem RX.snd_s (h : RX τ n c b v) (h0 : v' 0 = v 0) (hv : ∀ k, 198 ≤ k → k < 999 → v' k = v k) (hc : c'.1 (b + 16) = c.1 (b + 16)) : ∀ k, k < 24 → c'.1 (b + 16) k = eC (ls v' (nI k) (v' 0) (N (v' 198))) := by
  intro k hk
  have := h.n198.2
  rw [hc, h0, hv 198 (by decide) (by decide), ls_same (v := v) _ (fun i hi j hj => hv _ (by omega) (by omega))]
  exact h.snd k hk
theorem RX.bus_s (h : RX τ n c b v) (h0 : v' 0 = v 0) (hv : ∀ k, 1082 ≤ k → k < 1090 → v' k = v k) (hc : c'.1 (b + 120) = c.1 (b + 120)) : c'.1 (b + 120) 0 = bz8 v' 0 + bz8 v' 1 + bz8 v' 2 + bz8 v' 3 ∧ c'.1 (b + 120) 1 = bz8 v' 1 + bz8 v' 2 + bz8 v' 3 ∧ c'.1 (b + 120) 2 = bz8 v' 2 + bz8 v' 3 ∧ c'.1 (b + 120) 3 = bz8 v' 3 ∧ ∀ e, 4 ≤ e → e < 8 → bz8 v' e = 0 := by
  have e8 : ∀ e, bz8 v' e = bz8 v e := fun e => by unfold bz8; rw [h0, hv _ (by omega) (by omega)]
  simp only [e8]
  rw [hc]
  exact h.bus
end RXS
section RXP
variable {τ : cT} {n : Nat} {c c' : cS} {v v' : Nat → Int32}
/-- a number of a ship is set on both sides -/
theorem RX.ship {k f g : Nat} {y : Int32} (h : RX τ n c 10 v) (hI : LI τ n) (hk : k < N (v 1211)) (hfg : sf f = some g) (hok : Ok (1212 + 18 * k + g) y) : RX τ n (cp c (50 + k) f y) 10 (upd v (1212 + 18 * k + g) y) := by
  have hm := h.n1211.2
  have hfl := sf_lt hfg
  have hu : ∀ j, j < 1212 ∨ 2652 ≤ j → upd v (1212 + 18 * k + g) y j = v j := fun j hj => upd_n (by omega)
  have hc : ∀ o, o ≠ 40 + k → (cp c (50 + k) f y).1 (10 + o) = c.1 (10 + o) := fun o ho => cp_1 _ (by omega)
  have hw : Nw c (cp c (50 + k) f y) := Nw.refl.cp (by omega) (by omega) (by omega)
  have g15 : g ≠ 15 ∧ g ≠ 17 := by
    unfold sf at hfg
    repeat' split at hfg
    all_goals (first | (cases hfg; done) | (injection hfg with hfg; omega))
  have finj : ∀ f' g', sf f' = some g' → f' ≠ f → g' ≠ g := fun f' g' h1 h2 e => by
    subst e
    have hf' := (sf_lt h1).2
    have key : ∀ a, a < 19 → ∀ b, b < 19 → sf a = sf b → sf a ≠ none → a = b := by decide
    exact h2 (key f' hf' f hfl.2 (h1.trans hfg.symm) (by rw [h1]; simp))
  refine RX.mk (h.rg.put hok) ?_ (h.ber_s (fun j _ _ => hu j (by omega)) (fun o _ _ j _ => by rw [hc o (by omega)])) ?_ ?_ ?_ (h.txt_s (fun j _ _ => hu j (by omega)) (hc 25 (by omega)) rfl (hw.as hI)) (h.prp_s (fun j _ _ => hu j (by omega)) (hu _ (by omega)) rfl (hw.as hI)) (h.snd_s (hu _ (by omega)) (fun j _ _ => hu j (by omega)) (hc 16 (by omega))) (h.bus_s (hu _ (by omega)) (fun j _ _ => hu j (by omega)) (hc 120 (by omega)))
  · intro j o j' hj
    have w := wk_no hj
    have w2 := wk_bs hj
    rw [upd_n (by omega), ← h.pl j o j' hj, hc o (by omega)]
  · intro i hi f' g' hg'
    rw [hu 1211 (by omega)] at hi
    have hl' := sf_lt hg'
    by_cases e : i = k
    · subst e
      rw [show 10 + 40 + i = 50 + i by omega, cp_q]
      by_cases e2 : f' = f
      · subst e2
        rw [hfg] at hg'
        injection hg' with hg'
        subst hg'
        rw [upd_s, upd_s]
      · have := finj f' g' hg' e2
        rw [upd_n e2, upd_n (by omega), show 50 + i = 10 + 40 + i by omega]
        exact h.shp i hi f' g' hg'
    · rw [show 10 + 40 + i = 10 + (40 + i) by omega, hc (40 + i) (by omega), upd_n (by omega), ← Nat.add_assoc]
      exact h.shp i hi f' g' hg'
  · intro i hi
    rw [hu 1211 (by omega)] at hi
    by_cases e : i = k
    · subst e
      have f16 : f ≠ 16 ∧ f ≠ 17 := by
        refine ⟨fun e => ?_, fun e => ?_⟩
        · subst e; cases hfg
        · subst e; cases hfg
      rw [show 10 + 40 + i = 50 + i by omega, cp_q, upd_n (Ne.symm f16.1), upd_n (Ne.symm f16.2), upd_n (by omega), show 50 + i = 10 + 40 + i by omega]
      exact h.bak i hi
    · rw [show 10 + 40 + i = 10 + (40 + i) by omega, hc (40 + i) (by omega), upd_n (by omega), ← Nat.add_assoc]
      exact h.bak i hi
  · intro i hi
    rw [hu 1211 (by omega)] at hi
    rw [upd_n (by omega), hu 2811 (by omega)]
    exact h.law i hi
/-- what a ship had back is set -/
theorem RX.had {k : Nat} {y : Int32} (h : RX τ n c 10 v) (hI : LI τ n) (hk : k < N (v 1211)) (h0 : 0 ≤ y.toInt) (h1 : y.toInt ≤ 2000000000) : RX τ n (cp (cp c (50 + k) 16 y) (50 + k) 17 (nI 1)) 10 (upd v (1212 + 18 * k + 15) y) := by
  have hm := h.n1211.2
  have hu : ∀ j, j < 1212 ∨ 2652 ≤ j → upd v (1212 + 18 * k + 15) y j = v j := fun j hj => upd_n (by omega)
  have hc : ∀ o, o ≠ 40 + k → (cp (cp c (50 + k) 16 y) (50 + k) 17 (nI 1)).1 (10 + o) = c.1 (10 + o) := fun o ho => by rw [cp_1 _ (by omega), cp_1 _ (by omega)]
  have hw : Nw c (cp (cp c (50 + k) 16 y) (50 + k) 17 (nI 1)) := (Nw.refl.cp (by omega) (by omega) (by omega)).cp (by omega) (by omega) (by omega)
  refine RX.mk (h.rg.put (ok_lo (rg_s (show k < 80 by omega) (by decide)) (by show (-1 : Int) ≤ _; omega) h1)) ?_ (h.ber_s (fun j _ _ => hu j (by omega)) (fun o _ _ j _ => by rw [hc o (by omega)])) ?_ ?_ ?_ (h.txt_s (fun j _ _ => hu j (by omega)) (hc 25 (by omega)) rfl (hw.as hI)) (h.prp_s (fun j _ _ => hu j (by omega)) (hu _ (by omega)) rfl (hw.as hI)) (h.snd_s (hu _ (by omega)) (fun j _ _ => hu j (by omega)) (hc 16 (by omega))) (h.bus_s (hu _ (by omega)) (fun j _ _ => hu j (by omega)) (hc 120 (by omega)))
  · intro j o j' hj
    have w := wk_no hj
    have w2 := wk_bs hj
    rw [upd_n (by omega), ← h.pl j o j' hj, hc o (by omega)]
  · intro i hi f' g' hg'
    rw [hu 1211 (by omega)] at hi
    have hl' := sf_lt hg'
    by_cases e : i = k
    · subst e
      have f1 : f' ≠ 16 ∧ f' ≠ 17 := by
        refine ⟨fun e => ?_, fun e => ?_⟩
        · subst e; cases hg'
        · subst e; cases hg'
      have g1 : g' ≠ 15 := by
        unfold sf at hg'
        repeat' split at hg'
        all_goals (first | (cases hg'; done) | (injection hg' with hg'; omega))
      rw [show 10 + 40 + i = 50 + i by omega, cp_q, cp_q, upd_n f1.2, upd_n f1.1, upd_n (by omega), show 50 + i = 10 + 40 + i by omega]
      exact h.shp i hi f' g' hg'
    · rw [show 10 + 40 + i = 10 + (40 + i) by omega, hc (40 + i) (by omega), upd_n (by omega), ← Nat.add_assoc]
      exact h.shp i hi f' g' hg'
  · intro i hi
    rw [hu 1211 (by omega)] at hi
    by_cases e : i = k
    · subst e
      rw [show 10 + 40 + i = 50 + i by omega, cp_q, cp_q, upd_s, upd_s, upd_n (by decide), upd_s]
      exact Or.inr ⟨h0, rfl, rfl⟩
    · rw [show 10 + 40 + i = 10 + (40 + i) by omega, hc (40 + i) (by omega), upd_n (by omega), ← Nat.add_assoc]
      exact h.bak i hi
  · intro i hi
    rw [hu 1211 (by omega)] at hi
    rw [upd_n (by omega), hu 2811 (by omega)]
    exact h.law i hi
/-- a number of a berth is set on both sides -/
theorem RX.berth {k f : Nat} {y : Int32} (h : RX τ n c 10 v) (hI : LI τ n) (hk : k < N (v 999)) (hf : f < 8) (hok : Ok (1000 + 8 * k + bf f) y) : RX τ n (cp c (39 + k) f y) 10 (upd v (1000 + 8 * k + bf f) y) := by
  have hm := h.n999.2
  have hb : bf f < 8 := by unfold bf; split <;> (try split) <;> omega
  have hu : ∀ j, j < 1000 ∨ 1080 ≤ j → upd v (1000 + 8 * k + bf f) y j = v j := fun j hj => upd_n (by omega)
  have hc : ∀ o, o ≠ 29 + k → (cp c (39 + k) f y).1 (10 + o) = c.1 (10 + o) := fun o ho => cp_1 _ (by omega)
  have hw : Nw c (cp c (39 + k) f y) := Nw.refl.cp (by omega) (by omega) (by omega)
  refine RX.mk (h.rg.put hok) ?_ ?_ (h.shp_s (fun j _ _ => hu j (by omega)) (fun o _ _ => hc o (by omega))) (h.bak_s (fun j _ _ => hu j (by omega)) (fun o _ _ => hc o (by omega))) (h.law_s (fun j _ _ => hu j (by omega)) (hu _ (by omega)) (fun o _ _ => rfl) rfl) (h.txt_s (fun j _ _ => hu j (by omega)) (hc 25 (by omega)) rfl (hw.as hI)) (h.prp_s (fun j _ _ => hu j (by omega)) (hu _ (by omega)) rfl (hw.as hI)) (h.snd_s (hu _ (by omega)) (fun j _ _ => hu j (by omega)) (hc 16 (by omega))) (h.bus_s (hu _ (by omega)) (fun j _ _ => hu j (by omega)) (hc 120 (by omega)))
  · intro j o j' hj
    have w := wk_no hj
    have w2 := wk_bs hj
    rw [upd_n (by omega), ← h.pl j o j' hj, hc o (by omega)]
  · intro i hi f' hf'
    rw [hu 999 (by omega)] at hi
    have hb' : bf f' < 8 := by unfold bf; split <;> (try split) <;> omega
    by_cases e : i = k
    · subst e
      rw [show 10 + 29 + i = 39 + i by omega, cp_q]
      by_cases e2 : f' = f
      · subst e2; rw [upd_s, upd_s]
      · have : bf f' ≠ bf f := by
          have key : ∀ a, a < 8 → ∀ b, b < 8 → bf a = bf b → a = b := by decide
          exact fun e3 => e2 (key f' hf' f hf e3)
        rw [upd_n e2, upd_n (by omega), show 39 + i = 10 + 29 + i by omega]
        exact h.ber i hi f' hf'
    · rw [show 10 + 29 + i = 10 + (29 + i) by omega, hc (29 + i) (by omega), upd_n (by omega), ← Nat.add_assoc]
      exact h.ber i hi f' hf'
/-- a number that only the reference keeps -/
theorem RX.ref {k : Nat} {y : Int32} (h : RX τ n c 10 v) (hk : k = 2655 ∨ k = 2660) (hok : Ok k y) : RX τ n c 10 (upd v k y) := by
  have hu : ∀ j, j < 2655 ∨ 2661 ≤ j → upd v k y j = v j := fun j hj => upd_n (by omega)
  refine RX.mk (h.rg.put hok) (h.pl.ref (by rcases hk with rfl | rfl <;> rfl)) (h.ber_s (fun j _ _ => hu j (by omega)) (fun _ _ _ _ _ => rfl)) (h.shp_s (fun j _ _ => hu j (by omega)) (fun _ _ _ => rfl)) (h.bak_s (fun j _ _ => hu j (by omega)) (fun _ _ _ => rfl)) (h.law_s (fun j _ _ => hu j (by omega)) (hu _ (by omega)) (fun _ _ _ => rfl) rfl) (h.txt_s (fun j _ _ => hu j (by omega)) rfl rfl (fun _ _ _ _ => rfl)) (h.prp_s (fun j _ _ => hu j (by omega)) (hu _ (by omega)) rfl (fun _ _ _ _ => rfl)) (h.snd_s (hu _ (by omega)) (fun j _ _ => hu j (by omega)) rfl) (h.bus_s (hu _ (by omega)) (fun j _ _ => hu j (by omega)) rfl)
/-- a plain number, by its place -/
theorem RX.pput {k o j : Nat} {y : Int32} (h : RX τ n c 10 v) (hI : LI τ n) (hk : wk k = some (o, j)) (h0 : k ≠ 0) (h1 : ¬ (198 ≤ k ∧ k ≤ 999)) (h2 : k ≠ 1211) (h3 : k ≠ 2661) (h4 : k ≠ 2811) (hx : Ok k y) : RX τ n (cp c (10 + o) j y) 10 (upd v k y) := by
  have hk2 : k < 2812 := by
    by_cases q : k < 2812
    · exact q
    · rw [wk_le (by omega)] at hk; cases hk
  have w := wk_no hk
  have o18 : ∀ q, q < 54 → ∀ r, r < 54 → (match wk (54 * q + r) with | some (o, _) => decide (o < 18 ∨ 23 < o) | none => true) = true := by decide +kernel
  have o19 := o18 (k / 54) (by omega) (k % 54) (by omega)
  rw [show 54 * (k / 54) + k % 54 = k by omega, hk] at o19
  have o20 : o < 18 ∨ 23 < o := of_decide_eq_true o19
  have hw : Nw c (cp c (10 + o) j y) := Nw.refl.cp (by omega) (by omega) (by omega)
  exact h.put hk h0 ⟨by omega, by omega, fun _ _ => by omega⟩ h2 h3 h4 hx (hw.as hI)
/-- what is asked aside -/
theorem RX.cf (h : RX τ n c 10 v) (hI : LI τ n) (hc : Cf c c') : RX τ n c' 10 v := h.frame ext_id hc.fr (hc.nw.as hI) (fun _ _ => Or.inr rfl) h.rg
end RXP
