/-! THE PURE LAYER: bringing in, the two sides together -/
section BOTH
variable {F : Nat} {τ : cT} {n nn : Nat} {c : cS} {v : Nat → Int32}
theorem Lb_cong {fb fb' : Nat → Nat → Option Nat} {du du' : Nat → Nat} (hf : ∀ k a, k < nn → fb' k a = fb k a) (hd : ∀ k a, k < nn → fb k a ≠ none → du' k = du k) : ∀ (m a P t : Nat), Lb nn fb du m a P t → Lb nn fb' du' m a P t := by
  intro m
  induction m with
  | zero => intro a P t h; exact h
  | succ m ih =>
    intro a P t h
    rcases h with h | ⟨k, g, t', h1, h2, h3, h4, h5⟩
    · exact Or.inl h
    · refine Or.inr ⟨k, g, t', h1, h2, by rw [hf k a h1]; exact h3, h4, ?_⟩
      rw [hd k a h1 (by rw [h3]; exact fun e => by cases e)]
      exact ih _ _ _ h5
theorem Ab_cong {fb fb' : Nat → Nat → Nat → Option Nat} {du du' : Nat → Nat → Nat} {fr : Nat → Nat} : ∀ (B S t : Nat), (∀ b k a, b < B → k < nn → fb' b k a = fb b k a) → (∀ b k a, b < B → k < nn → fb b k a ≠ none → du' b k = du b k) → Ab nn fb du fr B S t → Ab nn fb' du' fr B S t := by
  intro B
  induction B with
  | zero => intro S t _ _ h; exact h
  | succ B ih =>
    intro S t hf hd h
    obtain ⟨P, t1, t2, h1, h2, h3, h4⟩ := h
    exact ⟨P, t1, t2, h1, ih _ _ (fun b k a hb => hf b k a (by omega)) (fun b k a hb => hd b k a (by omega)) h2, Lb_cong (fun k a hk => hf B k a (by omega) hk) (fun k a hk => hd B k a (by omega) hk) _ _ _ _ h3, h4⟩
end BOTH
