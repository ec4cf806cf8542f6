/-! THE PURE LAYER: bringing in, the two sides together -/
section BOTH
variable {F : Nat} {τ : cT} {n nn : Nat} {c : cS} {v : Nat → Int32}
theorem Lb_cong {fb fb' : Nat → Nat → Option Nat} {du du' : Nat → Nat} (hf : ∀ k a, k < nn → fb' k a = fb k a) (hd : ∀ k a, k < nn → fb k a ≠ none → du' k = du k) : ∀ (m a P t : Nat), Lb nn fb du m a P t → Lb nn fb' du' m a P t := by
  intro m
  induction m with
  | zero => intro a P t h; exact h
  | succ m ih =>
    intro a P t h
    rcases h with h | ⟨k, g, t', h1, h2, h3, h4, h5⟩
    · exact Or.inl h
    · refine Or.inr ⟨k, g, t', h1, h2, by rw [hf k a h1]; exact h3, h4, ?_⟩
      rw [hd k a h1 (by rw [h3]; exact fun e => by cases e)]
      exact ih _ _ _ h5
theorem Ab_cong {fb fb' : Nat → Nat → Nat → Option Nat} {du du' : Nat → Nat → Nat} {fr : Nat → Nat} : ∀ (B S t : Nat), (∀ b k a, b < B → k < nn → fb' b k a = fb b k a) → (∀ b k a, b < B → k < nn → fb b k a ≠ none → du' b k = du b k) → Ab nn fb du fr B S t → Ab nn fb' du' fr B S t := by
  intro B
  induction B with
  | zero => intro S t _ _ h; exact h
  | succ B ih =>
    intro S t hf hd h
    obtain ⟨P, t1, t2, h1, h2, h3, h4⟩ := h
    exact ⟨P, t1, t2, h1, ih _ _ (fun b k a hb => hf b k a (by omega)) (fun b k a hb => hd b k a (by omega)) h2, Lb_cong (fun k a hk => hf B k a (by omega) hk) (fun k a hk => hd B k a (by omega) hk) _ _ _ _ h3, h4⟩
theorem wk_7 : ∀ k, k < 2812 → wk k ≠ some (131, 7) := by
  have all : ∀ q, q < 54 → ∀ r, r < 54 → wk (54 * q + r) ≠ some (131, 7) := by decide +kernel
  intro k hk
  have := all (k / 54) (by omega) (k % 54) (by omega)
  rw [show 54 * (k / 54) + k % 54 = k by omega] at this
  exact this
theorem wk_big {k : Nat} (hk : 2812 ≤ k) : wk k = none := by
  unfold wk
  repeat rw [if_neg (by omega)]
/-- how many wait is told in a place of no account -/
theorem RX.w7 {y : Int32} (h : RX τ n c 10 v) (hI : LI τ n) : RX τ n (cp c 141 7 y) 10 v := by
  have nw : Nw c (cp c 141 7 y) := Nw.refl.cp (by omega) (by omega) (by omega)
  have as := nw.as hI
  have e : ∀ q, q ≠ 141 → (cp c 141 7 y).1 q = c.1 q := fun q hq => cp_1 _ hq
  have act : ∀ p a, acb τ n p = true → RAct τ c p v a → RAct τ (cp c 141 7 y) p v a := fun p a hp ha => ha.same (fun _ _ => rfl) (fun j hj => as p hp j hj) (fun _ _ _ => rfl)
  have n9 := h.n999.2
  have n12 := h.n1211.2
  refine RX.mk h.rg ?_ ?_ ?_ ?_ h.law ?_ ?_ ?_ ?_
  · intro k o j hk
    by_cases q : o = 131
    · subst q
      have j7 : j ≠ 7 := fun e => by
        subst e
        rcases Nat.lt_or_ge k 2812 with g | g
        · exact wk_7 k g hk
        · rw [wk_big g] at hk; cases hk
      rw [show 10 + 131 = 141 from rfl, cp_q, upd_n j7]
      exact h.pl k _ _ hk
    · rw [e _ (by omega)]; exact h.pl k o j hk
  · intro i hi f g
    rw [e _ (by omega)]; exact h.ber i hi f g
  · intro i hi f g hg
    rw [e _ (by omega)]; exact h.shp i hi f g hg
  · intro i hi
    rw [e _ (by omega)]; exact h.bak i hi
  · intro a ha
    obtain ⟨t1, p, t2, t3, t4⟩ := h.txt a ha
    exact ⟨by rw [e _ (by omega)]; exact t1, p, t2, t3, act p a t3 t4⟩
  · obtain ⟨p, t2, t3, t4⟩ := h.prp
    exact ⟨p, t2, t3, fun g => act p 20 t3 (t4 g)⟩
  · intro k hk
    rw [e _ (by omega)]; exact h.snd k hk
  · rw [e (10 + 120) (by decide)]; exact h.bus
theorem o_addW {a1 j : Nat} {C : Int32} (ha : a1 < 130) (hj : j < 4) (e7 : c.1 141 7 = nI j) : o_X4_addWaiting τ n 10 a1 c C = some (cp (cp (cp (cp c 145 j (c.1 a1 4 + C)) 146 j (c.1 a1 1)) 147 j (c.1 a1 2)) 141 7 (nI (j + 1))) := by
  unfold o_X4_addWaiting
  have e7' : c.1 (10 + 131) 7 = nI j := e7
  rw [e7', if_neg (nI_no (by decide) (by omega) (by omega)), if_pos (iL_t hj (by decide)), ca_n c _ (by omega), cp_1 (10 + 131) (by decide), e7', if_pos (iL_t hj (by decide)), Option.bind_some, ca_n _ _ (by omega), cp_1 (10 + 131) (by decide), cp_1 (10 + 131) (by decide), e7', if_pos (iL_t hj (by decide)), ca_n _ _ (by omega), cp_1 (10 + 131) (by decide), cp_1 (10 + 131) (by decide), cp_1 (10 + 131) (by decide), e7', cp_1 a1 (by omega), cp_1 a1 (by omega), cp_1 a1 (by omega), Option.bind_some, nI_add]
end BOTH
