/-! THE PURE LAYER: Board.copyFrom (by program wip/whole/copydec.py) -/
theorem cf_X8 {τ : cT} {n a b : Nat} {c0 : cS} {S : Nat → Nat → Bool} {e : Nat → Nat → Option Nat} (hf : far a b) (hS : low S) : o_X8_copyFrom τ n b a (mix c0 a b S e) = some (mix c0 a b (s1 (s1 (s1 (s1 (sr (sr (sr (s1 (sr (sr (sr (sr (sr (sr S 2 24) 3 24) 4 24) 5 25) 6 40) 7 40) 1 6) 8 6) 9 6) 10 6) 1 10) 1 11) 1 12) 1 13) e) ∧ low (s1 (s1 (s1 (s1 (sr (sr (sr (s1 (sr (sr (sr (sr (sr (sr S 2 24) 3 24) 4 24) 5 25) 6 40) 7 40) 1 6) 8 6) 9 6) 10 6) 1 10) 1 11) 1 12) 1 13) := by
  have l0 : low (sr S 2 24) := low_r hS (by decide)
  have l1 : low (sr (sr S 2 24) 3 24) := low_r l0 (by decide)
  have l2 : low (sr (sr (sr S 2 24) 3 24) 4 24) := low_r l1 (by decide)
  have l3 : low (sr (sr (sr (sr S 2 24) 3 24) 4 24) 5 25) := low_r l2 (by decide)
  have l4 : low (sr (sr (sr (sr (sr S 2 24) 3 24) 4 24) 5 25) 6 40) := low_r l3 (by decide)
  have l5 : low (sr (sr (sr (sr (sr (sr S 2 24) 3 24) 4 24) 5 25) 6 40) 7 40) := low_r l4 (by decide)
  have l6 : low (s1 (sr (sr (sr (sr (sr (sr S 2 24) 3 24) 4 24) 5 25) 6 40) 7 40) 1 6) := low_1 l5 (by decide)
  have l7 : low (sr (s1 (sr (sr (sr (sr (sr (sr S 2 24) 3 24) 4 24) 5 25) 6 40) 7 40) 1 6) 8 6) := low_r l6 (by decide)
  have l8 : low (sr (sr (s1 (sr (sr (sr (sr (sr (sr S 2 24) 3 24) 4 24) 5 25) 6 40) 7 40) 1 6) 8 6) 9 6) := low_r l7 (by decide)
  have l9 : low (sr (sr (sr (s1 (sr (sr (sr (sr (sr (sr S 2 24) 3 24) 4 24) 5 25) 6 40) 7 40) 1 6) 8 6) 9 6) 10 6) := low_r l8 (by decide)
  have l10 : low (s1 (sr (sr (sr (s1 (sr (sr (sr (sr (sr (sr S 2 24) 3 24) 4 24) 5 25) 6 40) 7 40) 1 6) 8 6) 9 6) 10 6) 1 10) := low_1 l9 (by decide)
  have l11 : low (s1 (s1 (sr (sr (sr (s1 (sr (sr (sr (sr (sr (sr S 2 24) 3 24) 4 24) 5 25) 6 40) 7 40) 1 6) 8 6) 9 6) 10 6) 1 10) 1 11) := low_1 l10 (by decide)
  have l12 : low (s1 (s1 (s1 (sr (sr (sr (s1 (sr (sr (sr (sr (sr (sr S 2 24) 3 24) 4 24) 5 25) 6 40) 7 40) 1 6) 8 6) 9 6) 10 6) 1 10) 1 11) 1 12) := low_1 l11 (by decide)
  have l13 : low (s1 (s1 (s1 (s1 (sr (sr (sr (s1 (sr (sr (sr (sr (sr (sr S 2 24) 3 24) 4 24) 5 25) 6 40) 7 40) 1 6) 8 6) 9 6) 10 6) 1 10) 1 11) 1 12) 1 13) := low_1 l12 (by decide)
  refine ⟨?_, l13⟩
  unfold o_X8_copyFrom
  simp only [Option.bind_some]
  rw [mix_r (o := 2) hf hS (by decide), mix_r (o := 3) hf l0 (by decide), mix_r (o := 4) hf l1 (by decide), mix_r (o := 5) hf l2 (by decide), mix_r (o := 6) hf l3 (by decide), mix_r (o := 7) hf l4 (by decide), mix_c (o := 1) hf l5 (by decide), mix_r (o := 8) hf l6 (by decide), mix_r (o := 9) hf l7 (by decide), mix_r (o := 10) hf l8 (by decide), mix_c (o := 1) hf l9 (by decide), mix_c (o := 1) hf l10 (by decide), mix_c (o := 1) hf l11 (by decide), mix_c (o := 1) hf l12 (by decide)]
theorem cf_X10 {τ : cT} {n a b : Nat} {c0 : cS} {S : Nat → Nat → Bool} {e : Nat → Nat → Option Nat} (hf : far a b) (hS : low S) : o_X10_copyFrom τ n b a (mix c0 a b S e) = some (mix c0 a b (sr (s1 (sr (sr (sr (sr S 12 200) 13 200) 14 200) 15 200) 11 4) 16 24) e) ∧ low (sr (s1 (sr (sr (sr (sr S 12 200) 13 200) 14 200) 15 200) 11 4) 16 24) := by
  have l0 : low (sr S 12 200) := low_r hS (by decide)
  have l1 : low (sr (sr S 12 200) 13 200) := low_r l0 (by decide)
  have l2 : low (sr (sr (sr S 12 200) 13 200) 14 200) := low_r l1 (by decide)
  have l3 : low (sr (sr (sr (sr S 12 200) 13 200) 14 200) 15 200) := low_r l2 (by decide)
  have l4 : low (s1 (sr (sr (sr (sr S 12 200) 13 200) 14 200) 15 200) 11 4) := low_1 l3 (by decide)
  have l5 : low (sr (s1 (sr (sr (sr (sr S 12 200) 13 200) 14 200) 15 200) 11 4) 16 24) := low_r l4 (by decide)
  refine ⟨?_, l5⟩
  unfold o_X10_copyFrom
  simp only [Option.bind_some]
  rw [mix_r (o := 12) hf hS (by decide), mix_r (o := 13) hf l0 (by decide), mix_r (o := 14) hf l1 (by decide), mix_r (o := 15) hf l2 (by decide), mix_c (o := 11) hf l3 (by decide), mix_r (o := 16) hf l4 (by decide)]
theorem cf_X6 {τ : cT} {n a b : Nat} {c0 : cS} {S : Nat → Nat → Bool} {e : Nat → Nat → Option Nat} (hf : far a b) (hS : low S) : o_X6_copyFrom τ n b a (mix c0 a b S e) = some (mix c0 a b (s1 (sr (sr (sr (sr (sr (sr (s1 (sr (sr (sr (s1 (s1 (s1 S 121 0) 121 1) 121 2) 122 30) 123 30) 124 30) 121 6) 125 20) 126 20) 127 20) 128 20) 129 20) 130 20) 121 13) e) ∧ low (s1 (sr (sr (sr (sr (sr (sr (s1 (sr (sr (sr (s1 (s1 (s1 S 121 0) 121 1) 121 2) 122 30) 123 30) 124 30) 121 6) 125 20) 126 20) 127 20) 128 20) 129 20) 130 20) 121 13) := by
  have l0 : low (s1 S 121 0) := low_1 hS (by decide)
  have l1 : low (s1 (s1 S 121 0) 121 1) := low_1 l0 (by decide)
  have l2 : low (s1 (s1 (s1 S 121 0) 121 1) 121 2) := low_1 l1 (by decide)
  have l3 : low (sr (s1 (s1 (s1 S 121 0) 121 1) 121 2) 122 30) := low_r l2 (by decide)
  have l4 : low (sr (sr (s1 (s1 (s1 S 121 0) 121 1) 121 2) 122 30) 123 30) := low_r l3 (by decide)
  have l5 : low (sr (sr (sr (s1 (s1 (s1 S 121 0) 121 1) 121 2) 122 30) 123 30) 124 30) := low_r l4 (by decide)
  have l6 : low (s1 (sr (sr (sr (s1 (s1 (s1 S 121 0) 121 1) 121 2) 122 30) 123 30) 124 30) 121 6) := low_1 l5 (by decide)
  have l7 : low (sr (s1 (sr (sr (sr (s1 (s1 (s1 S 121 0) 121 1) 121 2) 122 30) 123 30) 124 30) 121 6) 125 20) := low_r l6 (by decide)
  have l8 : low (sr (sr (s1 (sr (sr (sr (s1 (s1 (s1 S 121 0) 121 1) 121 2) 122 30) 123 30) 124 30) 121 6) 125 20) 126 20) := low_r l7 (by decide)
  have l9 : low (sr (sr (sr (s1 (sr (sr (sr (s1 (s1 (s1 S 121 0) 121 1) 121 2) 122 30) 123 30) 124 30) 121 6) 125 20) 126 20) 127 20) := low_r l8 (by decide)
  have l10 : low (sr (sr (sr (sr (s1 (sr (sr (sr (s1 (s1 (s1 S 121 0) 121 1) 121 2) 122 30) 123 30) 124 30) 121 6) 125 20) 126 20) 127 20) 128 20) := low_r l9 (by decide)
  have l11 : low (sr (sr (sr (sr (sr (s1 (sr (sr (sr (s1 (s1 (s1 S 121 0) 121 1) 121 2) 122 30) 123 30) 124 30) 121 6) 125 20) 126 20) 127 20) 128 20) 129 20) := low_r l10 (by decide)
  have l12 : low (sr (sr (sr (sr (sr (sr (s1 (sr (sr (sr (s1 (s1 (s1 S 121 0) 121 1) 121 2) 122 30) 123 30) 124 30) 121 6) 125 20) 126 20) 127 20) 128 20) 129 20) 130 20) := low_r l11 (by decide)
  have l13 : low (s1 (sr (sr (sr (sr (sr (sr (s1 (sr (sr (sr (s1 (s1 (s1 S 121 0) 121 1) 121 2) 122 30) 123 30) 124 30) 121 6) 125 20) 126 20) 127 20) 128 20) 129 20) 130 20) 121 13) := low_1 l12 (by decide)
  refine ⟨?_, l13⟩
  unfold o_X6_copyFrom
  simp only [Option.bind_some]
  rw [mix_c (o := 121) hf hS (by decide), mix_c (o := 121) hf l0 (by decide), mix_c (o := 121) hf l1 (by decide), mix_r (o := 122) hf l2 (by decide), mix_r (o := 123) hf l3 (by decide), mix_r (o := 124) hf l4 (by decide), mix_c (o := 121) hf l5 (by decide), mix_r (o := 125) hf l6 (by decide), mix_r (o := 126) hf l7 (by decide), mix_r (o := 127) hf l8 (by decide), mix_r (o := 128) hf l9 (by decide), mix_r (o := 129) hf l10 (by decide), mix_r (o := 130) hf l11 (by decide), mix_c (o := 121) hf l12 (by decide)]
theorem cf_X4 {τ : cT} {n a b : Nat} {c0 : cS} {S : Nat → Nat → Bool} {e : Nat → Nat → Option Nat} (hf : far a b) (hS : low S) : o_X4_copyFrom τ n b a (mix c0 a b S e) = some (mix c0 a b (s1 (sr (sr (sr S 132 6) 133 6) 134 6) 131 3) e) ∧ low (s1 (sr (sr (sr S 132 6) 133 6) 134 6) 131 3) := by
  have l0 : low (sr S 132 6) := low_r hS (by decide)
  have l1 : low (sr (sr S 132 6) 133 6) := low_r l0 (by decide)
  have l2 : low (sr (sr (sr S 132 6) 133 6) 134 6) := low_r l1 (by decide)
  have l3 : low (s1 (sr (sr (sr S 132 6) 133 6) 134 6) 131 3) := low_1 l2 (by decide)
  refine ⟨?_, l3⟩
  unfold o_X4_copyFrom
  simp only [Option.bind_some]
  rw [mix_r (o := 132) hf hS (by decide), mix_r (o := 133) hf l0 (by decide), mix_r (o := 134) hf l1 (by decide), mix_c (o := 131) hf l2 (by decide)]
/-- so many berths, so many ships -/
def sB (S : Nat → Nat → Bool) (i : Nat) : Nat → Nat → Bool := fun o j => S o j || (decide (29 ≤ o) && decide (o < 29 + i) && decide (j < 8))
def sS (S : Nat → Nat → Bool) (i : Nat) : Nat → Nat → Bool := fun o j => S o j || (decide (40 ≤ o) && decide (o < 40 + i) && decide (j < 19) && decide (j ≠ 8))
theorem low_B {S : Nat → Nat → Bool} {i : Nat} (h : low S) (hi : i ≤ 10) : low (sB S i) := fun o j h' => by
  simp only [sB, Bool.or_eq_true, Bool.and_eq_true, decide_eq_true_eq] at h'
  rcases h' with h' | h'
  · exact h _ _ h'
  · omega
theorem low_S {S : Nat → Nat → Bool} {i : Nat} (h : low S) (hi : i ≤ 80) : low (sS S i) := fun o j h' => by
  simp only [sS, Bool.or_eq_true, Bool.and_eq_true, decide_eq_true_eq] at h'
  rcases h' with h' | h'
  · exact h _ _ h'
  · omega
theorem sB_0 (S : Nat → Nat → Bool) : sB S 0 = S := by
  funext o j
  simp only [sB]
  by_cases h : 29 ≤ o
  · have : ¬ o < 29 + 0 := by omega
    simp [this]
  · simp [h]
theorem sS_0 (S : Nat → Nat → Bool) : sS S 0 = S := by
  funext o j
  simp only [sS]
  by_cases h : 40 ≤ o
  · have : ¬ o < 40 + 0 := by omega
    simp [this]
  · simp [h]
theorem bs {α β : Type} {x : α} {f : α → Option β} {y : Option β} (h : f x = y) : (some x).bind f = y := h
theorem bool_ext {a b : Bool} (h : a = true ↔ b = true) : a = b := by
  cases a <;> cases b <;> simp_all
theorem sB_s (S : Nat → Nat → Bool) (i : Nat) : (s1 (s1 (s1 (s1 (s1 (s1 (s1 (s1 (sB S i) (29 + i) 0) (29 + i) 1) (29 + i) 2) (29 + i) 3) (29 + i) 4) (29 + i) 5) (29 + i) 6) (29 + i) 7) = sB S (i + 1) := by
  funext o j
  apply bool_ext
  cases h : S o j
  · simp only [s1, sB, h, Bool.false_or, Bool.or_eq_true, Bool.and_eq_true, decide_eq_true_eq]
    omega
  · simp only [s1, sB, h, Bool.true_or]
theorem sS_s (S : Nat → Nat → Bool) (i : Nat) : (s1 (s1 (s1 (s1 (s1 (s1 (s1 (s1 (s1 (s1 (s1 (s1 (s1 (s1 (s1 (s1 (s1 (s1 (sS S i) (40 + i) 0) (40 + i) 1) (40 + i) 2) (40 + i) 3) (40 + i) 4) (40 + i) 5) (40 + i) 6) (40 + i) 7) (40 + i) 9) (40 + i) 10) (40 + i) 11) (40 + i) 12) (40 + i) 13) (40 + i) 14) (40 + i) 15) (40 + i) 16) (40 + i) 17) (40 + i) 18) = sS S (i + 1) := by
  funext o j
  cases h : S o j
  · by_cases ho : o = 40 + i
    · subst ho
      by_cases hj : j < 19
      · rcases (show j = 0 ∨ j = 1 ∨ j = 2 ∨ j = 3 ∨ j = 4 ∨ j = 5 ∨ j = 6 ∨ j = 7 ∨ j = 8 ∨ j = 9 ∨ j = 10 ∨ j = 11 ∨ j = 12 ∨ j = 13 ∨ j = 14 ∨ j = 15 ∨ j = 16 ∨ j = 17 ∨ j = 18 by omega) with rfl | rfl | rfl | rfl | rfl | rfl | rfl | rfl | rfl | rfl | rfl | rfl | rfl | rfl | rfl | rfl | rfl | rfl | rfl <;> simp [s1, sS, h] <;> omega
      · have hk : ∀ k, k < 19 → j ≠ k := fun k hk e => hj (by omega)
        simp [s1, sS, h, hj, hk 0 (by decide), hk 1 (by decide), hk 2 (by decide), hk 3 (by decide), hk 4 (by decide), hk 5 (by decide), hk 6 (by decide), hk 7 (by decide), hk 9 (by decide), hk 10 (by decide), hk 11 (by decide), hk 12 (by decide), hk 13 (by decide), hk 14 (by decide), hk 15 (by decide), hk 16 (by decide), hk 17 (by decide), hk 18 (by decide)]
    · have h2 : decide (o < 40 + i) = decide (o < 40 + (i + 1)) := by
        by_cases q : o < 40 + i
        · rw [decide_eq_true q, decide_eq_true (show o < 40 + (i + 1) by omega)]
        · rw [decide_eq_false q, decide_eq_false (show ¬ o < 40 + (i + 1) by omega)]
      simp only [s1, sS, h, decide_eq_false ho, Bool.false_and, Bool.or_false, Bool.false_or, h2]
  · simp only [s1, sS, h, Bool.true_or]
theorem cf_X1 {τ : cT} {n a b i : Nat} {c0 : cS} {S : Nat → Nat → Bool} {e : Nat → Nat → Option Nat} (hf : far a b) (hS : low S) (hi : i < 10) : o_X1_copyFrom τ n (b + (29 + i)) (a + (29 + i)) (mix c0 a b S e) = some (mix c0 a b (s1 (s1 (s1 (s1 (s1 (s1 (s1 (s1 S (29 + i) 0) (29 + i) 1) (29 + i) 2) (29 + i) 3) (29 + i) 4) (29 + i) 5) (29 + i) 6) (29 + i) 7) e) := by
  have l0 : low (s1 S (29 + i) 0) := low_1 hS (by omega)
  have l1 : low (s1 (s1 S (29 + i) 0) (29 + i) 1) := low_1 l0 (by omega)
  have l2 : low (s1 (s1 (s1 S (29 + i) 0) (29 + i) 1) (29 + i) 2) := low_1 l1 (by omega)
  have l3 : low (s1 (s1 (s1 (s1 S (29 + i) 0) (29 + i) 1) (29 + i) 2) (29 + i) 3) := low_1 l2 (by omega)
  have l4 : low (s1 (s1 (s1 (s1 (s1 S (29 + i) 0) (29 + i) 1) (29 + i) 2) (29 + i) 3) (29 + i) 4) := low_1 l3 (by omega)
  have l5 : low (s1 (s1 (s1 (s1 (s1 (s1 S (29 + i) 0) (29 + i) 1) (29 + i) 2) (29 + i) 3) (29 + i) 4) (29 + i) 5) := low_1 l4 (by omega)
  have l6 : low (s1 (s1 (s1 (s1 (s1 (s1 (s1 S (29 + i) 0) (29 + i) 1) (29 + i) 2) (29 + i) 3) (29 + i) 4) (29 + i) 5) (29 + i) 6) := low_1 l5 (by omega)
  have l7 : low (s1 (s1 (s1 (s1 (s1 (s1 (s1 (s1 S (29 + i) 0) (29 + i) 1) (29 + i) 2) (29 + i) 3) (29 + i) 4) (29 + i) 5) (29 + i) 6) (29 + i) 7) := low_1 l6 (by omega)
  unfold o_X1_copyFrom
  simp only [Option.bind_some]
  rw [mix_c (o := 29 + i) hf hS (by omega), mix_c (o := 29 + i) hf l0 (by omega), mix_c (o := 29 + i) hf l1 (by omega), mix_c (o := 29 + i) hf l2 (by omega), mix_c (o := 29 + i) hf l3 (by omega), mix_c (o := 29 + i) hf l4 (by omega), mix_c (o := 29 + i) hf l5 (by omega), mix_c (o := 29 + i) hf l6 (by omega)]
theorem cf_berths {F : Nat} {τ : cT} {n a b m : Nat} {c0 : cS} {S : Nat → Nat → Bool} {e : Nat → Nat → Option Nat} (hf : far a b) (hS : low S) (hs : S 27 1 = true) (hm : c0.1 (a + 27) 1 = nI m) (hm2 : m ≤ 10) : ∀ (r f i : Nat), i + r = m → r < f → o_X5_copyFrom_10 F τ n b a f (nI i) (mix c0 a b (sB S i) e) = some (mix c0 a b (sB S m) e) := by
  intro r
  induction r with
  | zero =>
    intro f i hi hf2
    obtain ⟨f, rfl⟩ : ∃ g, f = g + 1 := ⟨f - 1, by omega⟩
    have e0 : (mix c0 a b (sB S i) e).1 (b + 27) 1 = nI m := by
      show (if b ≤ b + 27 ∧ sB S i (b + 27 - b) 1 = true then c0.1 (a + (b + 27 - b)) 1 else _) = _
      rw [Nat.add_sub_cancel_left, if_pos ⟨by omega, by simp [sB, hs]⟩]; exact hm
    rw [o_X5_copyFrom_10, e0, show i = m by omega, if_pos (Int32.le_refl _)]
  | succ r ih =>
    intro f i hi hf2
    obtain ⟨f, rfl⟩ : ∃ g, f = g + 1 := ⟨f - 1, by omega⟩
    have e0 : (mix c0 a b (sB S i) e).1 (b + 27) 1 = nI m := by
      show (if b ≤ b + 27 ∧ sB S i (b + 27 - b) 1 = true then c0.1 (a + (b + 27 - b)) 1 else _) = _
      rw [Nat.add_sub_cancel_left, if_pos ⟨by omega, by simp [sB, hs]⟩]; exact hm
    rw [o_X5_copyFrom_10, e0, if_neg (nI_ge (show i < m by omega) (by omega)), if_pos (iL_t (show i < 10 by omega) (by decide)), nI_clamp (by omega), nI_add, show b + 28 + 1 + i = b + (29 + i) by omega, show a + 28 + 1 + i = a + (29 + i) by omega, cf_X1 hf (low_B hS (by omega)) (by omega), sB_s]
    simp only [Option.bind_some]
    exact ih f (i + 1) (by omega) (by omega)
theorem mix_q {c0 : cS} {a b q k : Nat} {S : Nat → Nat → Bool} {e : Nat → Nat → Option Nat} {x : Option Nat} : cq (mix c0 a b S e) q k x = mix c0 a b S (va_up e q (va_up (e q) k x)) := rfl
theorem cf_X9 {τ : cT} {n a b i p : Nat} {c0 : cS} {S : Nat → Nat → Bool} {e : Nat → Nat → Option Nat} (hf : far a b) (hS : low S) (hi : i < 80) (hz3 : zb (c0.1 (a + (40 + i)) 3)) (hz17 : zb (c0.1 (a + (40 + i)) 17)) (hp : e (a + (40 + i)) 8 = some p) (hpa : acb τ n p = true) : o_X9_copyFrom τ n (b + (40 + i)) (a + (40 + i)) (mix c0 a b S e) = some (mix c0 a b (s1 (s1 (s1 (s1 (s1 (s1 (s1 (s1 (s1 (s1 (s1 (s1 (s1 (s1 (s1 (s1 (s1 (s1 S (40 + i) 0) (40 + i) 1) (40 + i) 2) (40 + i) 3) (40 + i) 4) (40 + i) 5) (40 + i) 6) (40 + i) 7) (40 + i) 9) (40 + i) 10) (40 + i) 11) (40 + i) 12) (40 + i) 13) (40 + i) 14) (40 + i) 15) (40 + i) 16) (40 + i) 17) (40 + i) 18) (va_up e (b + (40 + i)) (va_up (e (b + (40 + i))) 8 (some p)))) := by
  have l0 : low (s1 S (40 + i) 0) := low_1 hS (by omega)
  have l1 : low (s1 (s1 S (40 + i) 0) (40 + i) 1) := low_1 l0 (by omega)
  have l2 : low (s1 (s1 (s1 S (40 + i) 0) (40 + i) 1) (40 + i) 2) := low_1 l1 (by omega)
  have l3 : low (s1 (s1 (s1 (s1 S (40 + i) 0) (40 + i) 1) (40 + i) 2) (40 + i) 3) := low_1 l2 (by omega)
  have l4 : low (s1 (s1 (s1 (s1 (s1 S (40 + i) 0) (40 + i) 1) (40 + i) 2) (40 + i) 3) (40 + i) 4) := low_1 l3 (by omega)
  have l5 : low (s1 (s1 (s1 (s1 (s1 (s1 S (40 + i) 0) (40 + i) 1) (40 + i) 2) (40 + i) 3) (40 + i) 4) (40 + i) 5) := low_1 l4 (by omega)
  have l6 : low (s1 (s1 (s1 (s1 (s1 (s1 (s1 S (40 + i) 0) (40 + i) 1) (40 + i) 2) (40 + i) 3) (40 + i) 4) (40 + i) 5) (40 + i) 6) := low_1 l5 (by omega)
  have l7 : low (s1 (s1 (s1 (s1 (s1 (s1 (s1 (s1 S (40 + i) 0) (40 + i) 1) (40 + i) 2) (40 + i) 3) (40 + i) 4) (40 + i) 5) (40 + i) 6) (40 + i) 7) := low_1 l6 (by omega)
  have l8 : low (s1 (s1 (s1 (s1 (s1 (s1 (s1 (s1 (s1 S (40 + i) 0) (40 + i) 1) (40 + i) 2) (40 + i) 3) (40 + i) 4) (40 + i) 5) (40 + i) 6) (40 + i) 7) (40 + i) 9) := low_1 l7 (by omega)
  have l9 : low (s1 (s1 (s1 (s1 (s1 (s1 (s1 (s1 (s1 (s1 S (40 + i) 0) (40 + i) 1) (40 + i) 2) (40 + i) 3) (40 + i) 4) (40 + i) 5) (40 + i) 6) (40 + i) 7) (40 + i) 9) (40 + i) 10) := low_1 l8 (by omega)
  have l10 : low (s1 (s1 (s1 (s1 (s1 (s1 (s1 (s1 (s1 (s1 (s1 S (40 + i) 0) (40 + i) 1) (40 + i) 2) (40 + i) 3) (40 + i) 4) (40 + i) 5) (40 + i) 6) (40 + i) 7) (40 + i) 9) (40 + i) 10) (40 + i) 11) := low_1 l9 (by omega)
  have l11 : low (s1 (s1 (s1 (s1 (s1 (s1 (s1 (s1 (s1 (s1 (s1 (s1 S (40 + i) 0) (40 + i) 1) (40 + i) 2) (40 + i) 3) (40 + i) 4) (40 + i) 5) (40 + i) 6) (40 + i) 7) (40 + i) 9) (40 + i) 10) (40 + i) 11) (40 + i) 12) := low_1 l10 (by omega)
  have l12 : low (s1 (s1 (s1 (s1 (s1 (s1 (s1 (s1 (s1 (s1 (s1 (s1 (s1 S (40 + i) 0) (40 + i) 1) (40 + i) 2) (40 + i) 3) (40 + i) 4) (40 + i) 5) (40 + i) 6) (40 + i) 7) (40 + i) 9) (40 + i) 10) (40 + i) 11) (40 + i) 12) (40 + i) 13) := low_1 l11 (by omega)
  have l13 : low (s1 (s1 (s1 (s1 (s1 (s1 (s1 (s1 (s1 (s1 (s1 (s1 (s1 (s1 S (40 + i) 0) (40 + i) 1) (40 + i) 2) (40 + i) 3) (40 + i) 4) (40 + i) 5) (40 + i) 6) (40 + i) 7) (40 + i) 9) (40 + i) 10) (40 + i) 11) (40 + i) 12) (40 + i) 13) (40 + i) 14) := low_1 l12 (by omega)
  have l14 : low (s1 (s1 (s1 (s1 (s1 (s1 (s1 (s1 (s1 (s1 (s1 (s1 (s1 (s1 (s1 S (40 + i) 0) (40 + i) 1) (40 + i) 2) (40 + i) 3) (40 + i) 4) (40 + i) 5) (40 + i) 6) (40 + i) 7) (40 + i) 9) (40 + i) 10) (40 + i) 11) (40 + i) 12) (40 + i) 13) (40 + i) 14) (40 + i) 15) := low_1 l13 (by omega)
  have l15 : low (s1 (s1 (s1 (s1 (s1 (s1 (s1 (s1 (s1 (s1 (s1 (s1 (s1 (s1 (s1 (s1 S (40 + i) 0) (40 + i) 1) (40 + i) 2) (40 + i) 3) (40 + i) 4) (40 + i) 5) (40 + i) 6) (40 + i) 7) (40 + i) 9) (40 + i) 10) (40 + i) 11) (40 + i) 12) (40 + i) 13) (40 + i) 14) (40 + i) 15) (40 + i) 16) := low_1 l14 (by omega)
  have l16 : low (s1 (s1 (s1 (s1 (s1 (s1 (s1 (s1 (s1 (s1 (s1 (s1 (s1 (s1 (s1 (s1 (s1 S (40 + i) 0) (40 + i) 1) (40 + i) 2) (40 + i) 3) (40 + i) 4) (40 + i) 5) (40 + i) 6) (40 + i) 7) (40 + i) 9) (40 + i) 10) (40 + i) 11) (40 + i) 12) (40 + i) 13) (40 + i) 14) (40 + i) 15) (40 + i) 16) (40 + i) 17) := low_1 l15 (by omega)
  have l17 : low (s1 (s1 (s1 (s1 (s1 (s1 (s1 (s1 (s1 (s1 (s1 (s1 (s1 (s1 (s1 (s1 (s1 (s1 S (40 + i) 0) (40 + i) 1) (40 + i) 2) (40 + i) 3) (40 + i) 4) (40 + i) 5) (40 + i) 6) (40 + i) 7) (40 + i) 9) (40 + i) 10) (40 + i) 11) (40 + i) 12) (40 + i) 13) (40 + i) 14) (40 + i) 15) (40 + i) 16) (40 + i) 17) (40 + i) 18) := low_1 l16 (by omega)
  unfold o_X9_copyFrom o_X9_build
  rw [mix_a (o := 40 + i) hf hS (by omega), mix_a (o := 40 + i) hf hS (by omega), mix_a (o := 40 + i) hf hS (by omega), mix_a (o := 40 + i) hf hS (by omega), if_pos hz3, mix_1, mix_1, mix_1, mix_1]
  refine bs ?_
  try dsimp only
  rw [mix_c (o := 40 + i) hf l3 (by omega), mix_c (o := 40 + i) hf l4 (by omega)]
  refine bs ?_
  try dsimp only
  rw [mix_c (o := 40 + i) hf l5 (by omega), mix_c (o := 40 + i) hf l6 (by omega)]
  refine bs ?_
  try dsimp only
  rw [show (mix c0 a b (s1 (s1 (s1 (s1 (s1 (s1 (s1 (s1 S (40 + i) 0) (40 + i) 1) (40 + i) 2) (40 + i) 3) (40 + i) 4) (40 + i) 5) (40 + i) 6) (40 + i) 7) e).2 (a + (40 + i)) 8 = some p from hp]
  refine bs ?_
  rw [if_pos hpa, mix_q, mix_c (o := 40 + i) hf l7 (by omega), mix_c (o := 40 + i) hf l8 (by omega)]
  refine bs ?_
  try dsimp only
  rw [mix_c (o := 40 + i) hf l9 (by omega), mix_c (o := 40 + i) hf l10 (by omega)]
  refine bs ?_
  try dsimp only
  rw [mix_c (o := 40 + i) hf l11 (by omega), mix_c (o := 40 + i) hf l12 (by omega)]
  refine bs ?_
  try dsimp only
  rw [mix_c (o := 40 + i) hf l13 (by omega), mix_c (o := 40 + i) hf l14 (by omega)]
  refine bs ?_
  try dsimp only
  rw [mix_a (o := 40 + i) hf l15 (by omega), if_pos hz17, mix_1, mix_c (o := 40 + i) hf l16 (by omega)]
  rfl
