/-! THE PURE LAYER: bringing in, as sets and orders -/
section CHAIN
variable {nn B : Nat} {fb : Nat → Nat → Nat → Option Nat} {du : Nat → Nat → Nat}
/-- how many of four stand in a set -/
def pc (P : Nat) : Nat := P % 2 + P / 2 % 2 + P / 4 % 2 + P / 8 % 2
/-- at one berth, from an hour on, a set can be laid with a sum -/
def Lb (nn : Nat) (fb : Nat → Nat → Option Nat) (du : Nat → Nat) : Nat → Nat → Nat → Nat → Prop
  | 0, _, P, t => P = 0 ∧ t = 0
  | m + 1, a, P, t => (P = 0 ∧ t = 0) ∨ ∃ k h t', k < nn ∧ P.testBit k = true ∧ fb k a = some h ∧ t = h + t' ∧ Lb nn fb du m (h + du k) (P ^^^ 2 ^ k) t'
/-- at the first berths a set can be laid with a sum -/
def Ab (nn : Nat) (fb : Nat → Nat → Nat → Option Nat) (du : Nat → Nat → Nat) (fr : Nat → Nat) : Nat → Nat → Nat → Prop
  | 0, S, t => S = 0 ∧ t = 0
  | B + 1, S, t => ∃ P t1 t2, P &&& S = P ∧ Ab nn fb du fr B (S ^^^ P) t1 ∧ Lb nn (fb B) (du B) 4 (fr B) P t2 ∧ t = t1 + t2
def upn (fr : Nat → Nat) (b y : Nat) : Nat → Nat := fun j => if j = b then y else fr j
/-- a set can be laid one after the other, at any berth -/
def Fi (nn : Nat) (fb : Nat → Nat → Nat → Option Nat) (du : Nat → Nat → Nat) (B : Nat) : Nat → Nat → (Nat → Nat) → Nat → Prop
  | 0, R, _, t => R = 0 ∧ t = 0
  | m + 1, R, fr, t => (R = 0 ∧ t = 0) ∨ ∃ k b h t', k < nn ∧ R.testBit k = true ∧ b < B ∧ fb b k (fr b) = some h ∧ t = h + t' ∧ Fi nn fb du B m (R ^^^ 2 ^ k) (upn fr b (h + du b k)) t'
theorem x_and {R P k : Nat} (hR : R < 16) (hP : P < 16) (hk : k < 4) (h : P &&& R = P) (hq : R.testBit k = false) : (P ^^^ 2 ^ k) &&& (R ^^^ 2 ^ k) = P ^^^ 2 ^ k ∧ (R ^^^ 2 ^ k) ^^^ (P ^^^ 2 ^ k) = R ^^^ P ∧ pc P ≤ 3 ∧ P.testBit k = false ∧ (R ^^^ 2 ^ k) ^^^ P = (R ^^^ P) ^^^ 2 ^ k ∧ P &&& (R ^^^ 2 ^ k) = P ∧ (R ^^^ P).testBit k = false ∧ (P ^^^ 2 ^ k).testBit k = true ∧ (P ^^^ 2 ^ k) ^^^ 2 ^ k = P ∧ R ^^^ P < 16 := by
  have k4 : k = 0 ∨ k = 1 ∨ k = 2 ∨ k = 3 := by omega
  rcases k4 with rfl | rfl | rfl | rfl
  · have all1 : ∀ R, R < 16 → ∀ P, P < 16 → (P &&& R = P ∧ R.testBit 0 = false → (P ^^^ 2 ^ 0) &&& (R ^^^ 2 ^ 0) = P ^^^ 2 ^ 0 ∧ (R ^^^ 2 ^ 0) ^^^ (P ^^^ 2 ^ 0) = R ^^^ P ∧ pc P ≤ 3 ∧ P.testBit 0 = false) := by decide +kernel
    have all2 : ∀ R, R < 16 → ∀ P, P < 16 → (P &&& R = P ∧ R.testBit 0 = false → (R ^^^ 2 ^ 0) ^^^ P = (R ^^^ P) ^^^ 2 ^ 0 ∧ P &&& (R ^^^ 2 ^ 0) = P ∧ (R ^^^ P).testBit 0 = false) := by decide +kernel
    have all3 : ∀ R, R < 16 → ∀ P, P < 16 → (P &&& R = P ∧ R.testBit 0 = false → (P ^^^ 2 ^ 0).testBit 0 = true ∧ (P ^^^ 2 ^ 0) ^^^ 2 ^ 0 = P ∧ R ^^^ P < 16) := by decide +kernel
    obtain ⟨a1, a2, a3, a4⟩ := all1 R hR P hP ⟨h, hq⟩
    obtain ⟨b1, b2, b3⟩ := all2 R hR P hP ⟨h, hq⟩
    exact ⟨a1, a2, a3, a4, b1, b2, b3, all3 R hR P hP ⟨h, hq⟩⟩
  · have all1 : ∀ R, R < 16 → ∀ P, P < 16 → (P &&& R = P ∧ R.testBit 1 = false → (P ^^^ 2 ^ 1) &&& (R ^^^ 2 ^ 1) = P ^^^ 2 ^ 1 ∧ (R ^^^ 2 ^ 1) ^^^ (P ^^^ 2 ^ 1) = R ^^^ P ∧ pc P ≤ 3 ∧ P.testBit 1 = false) := by decide +kernel
    have all2 : ∀ R, R < 16 → ∀ P, P < 16 → (P &&& R = P ∧ R.testBit 1 = false → (R ^^^ 2 ^ 1) ^^^ P = (R ^^^ P) ^^^ 2 ^ 1 ∧ P &&& (R ^^^ 2 ^ 1) = P ∧ (R ^^^ P).testBit 1 = false) := by decide +kernel
    have all3 : ∀ R, R < 16 → ∀ P, P < 16 → (P &&& R = P ∧ R.testBit 1 = false → (P ^^^ 2 ^ 1).testBit 1 = true ∧ (P ^^^ 2 ^ 1) ^^^ 2 ^ 1 = P ∧ R ^^^ P < 16) := by decide +kernel
    obtain ⟨a1, a2, a3, a4⟩ := all1 R hR P hP ⟨h, hq⟩
    obtain ⟨b1, b2, b3⟩ := all2 R hR P hP ⟨h, hq⟩
    exact ⟨a1, a2, a3, a4, b1, b2, b3, all3 R hR P hP ⟨h, hq⟩⟩
  · have all1 : ∀ R, R < 16 → ∀ P, P < 16 → (P &&& R = P ∧ R.testBit 2 = false → (P ^^^ 2 ^ 2) &&& (R ^^^ 2 ^ 2) = P ^^^ 2 ^ 2 ∧ (R ^^^ 2 ^ 2) ^^^ (P ^^^ 2 ^ 2) = R ^^^ P ∧ pc P ≤ 3 ∧ P.testBit 2 = false) := by decide +kernel
    have all2 : ∀ R, R < 16 → ∀ P, P < 16 → (P &&& R = P ∧ R.testBit 2 = false → (R ^^^ 2 ^ 2) ^^^ P = (R ^^^ P) ^^^ 2 ^ 2 ∧ P &&& (R ^^^ 2 ^ 2) = P ∧ (R ^^^ P).testBit 2 = false) := by decide +kernel
    have all3 : ∀ R, R < 16 → ∀ P, P < 16 → (P &&& R = P ∧ R.testBit 2 = false → (P ^^^ 2 ^ 2).testBit 2 = true ∧ (P ^^^ 2 ^ 2) ^^^ 2 ^ 2 = P ∧ R ^^^ P < 16) := by decide +kernel
    obtain ⟨a1, a2, a3, a4⟩ := all1 R hR P hP ⟨h, hq⟩
    obtain ⟨b1, b2, b3⟩ := all2 R hR P hP ⟨h, hq⟩
    exact ⟨a1, a2, a3, a4, b1, b2, b3, all3 R hR P hP ⟨h, hq⟩⟩
  · have all1 : ∀ R, R < 16 → ∀ P, P < 16 → (P &&& R = P ∧ R.testBit 3 = false → (P ^^^ 2 ^ 3) &&& (R ^^^ 2 ^ 3) = P ^^^ 2 ^ 3 ∧ (R ^^^ 2 ^ 3) ^^^ (P ^^^ 2 ^ 3) = R ^^^ P ∧ pc P ≤ 3 ∧ P.testBit 3 = false) := by decide +kernel
    have all2 : ∀ R, R < 16 → ∀ P, P < 16 → (P &&& R = P ∧ R.testBit 3 = false → (R ^^^ 2 ^ 3) ^^^ P = (R ^^^ P) ^^^ 2 ^ 3 ∧ P &&& (R ^^^ 2 ^ 3) = P ∧ (R ^^^ P).testBit 3 = false) := by decide +kernel
    have all3 : ∀ R, R < 16 → ∀ P, P < 16 → (P &&& R = P ∧ R.testBit 3 = false → (P ^^^ 2 ^ 3).testBit 3 = true ∧ (P ^^^ 2 ^ 3) ^^^ 2 ^ 3 = P ∧ R ^^^ P < 16) := by decide +kernel
    obtain ⟨a1, a2, a3, a4⟩ := all1 R hR P hP ⟨h, hq⟩
    obtain ⟨b1, b2, b3⟩ := all2 R hR P hP ⟨h, hq⟩
    exact ⟨a1, a2, a3, a4, b1, b2, b3, all3 R hR P hP ⟨h, hq⟩⟩
theorem x_sub {R P : Nat} (hR : R < 16) (h : P &&& R = P) : P < 16 := by
  rw [← h]; exact Nat.lt_of_le_of_lt Nat.and_le_right hR
theorem x_bit {R k : Nat} (hR : R < 16) (hk : k < 4) (h : R.testBit k = true) : pc (R ^^^ 2 ^ k) + 1 = pc R ∧ (R ^^^ 2 ^ k).testBit k = false ∧ (R ^^^ 2 ^ k) ^^^ 2 ^ k = R ∧ R ^^^ 2 ^ k < 16 ∧ R ≠ 0 := by
  have all : ∀ R, R < 16 → ∀ k, k < 4 → R.testBit k = true → pc (R ^^^ 2 ^ k) + 1 = pc R ∧ (R ^^^ 2 ^ k).testBit k = false ∧ (R ^^^ 2 ^ k) ^^^ 2 ^ k = R ∧ R ^^^ 2 ^ k < 16 ∧ R ≠ 0 := by decide +kernel
  exact all R hR k hk h
theorem x_mem {R P k : Nat} (hR : R < 16) (hP : P < 16) (hk : k < 4) (h : P &&& R = P) (hq : P.testBit k = true) : (P ^^^ 2 ^ k) &&& (R ^^^ 2 ^ k) = P ^^^ 2 ^ k ∧ (R ^^^ 2 ^ k) ^^^ (P ^^^ 2 ^ k) = R ^^^ P ∧ R.testBit k = true ∧ P ^^^ 2 ^ k < 16 := by
  have k4 : k = 0 ∨ k = 1 ∨ k = 2 ∨ k = 3 := by omega
  rcases k4 with rfl | rfl | rfl | rfl
  · have all : ∀ R, R < 16 → ∀ P, P < 16 → (P &&& R = P ∧ P.testBit 0 = true → (P ^^^ 2 ^ 0) &&& (R ^^^ 2 ^ 0) = P ^^^ 2 ^ 0 ∧ (R ^^^ 2 ^ 0) ^^^ (P ^^^ 2 ^ 0) = R ^^^ P ∧ R.testBit 0 = true ∧ P ^^^ 2 ^ 0 < 16) := by decide +kernel
    exact all R hR P hP ⟨h, hq⟩
  · have all : ∀ R, R < 16 → ∀ P, P < 16 → (P &&& R = P ∧ P.testBit 1 = true → (P ^^^ 2 ^ 1) &&& (R ^^^ 2 ^ 1) = P ^^^ 2 ^ 1 ∧ (R ^^^ 2 ^ 1) ^^^ (P ^^^ 2 ^ 1) = R ^^^ P ∧ R.testBit 1 = true ∧ P ^^^ 2 ^ 1 < 16) := by decide +kernel
    exact all R hR P hP ⟨h, hq⟩
  · have all : ∀ R, R < 16 → ∀ P, P < 16 → (P &&& R = P ∧ P.testBit 2 = true → (P ^^^ 2 ^ 2) &&& (R ^^^ 2 ^ 2) = P ^^^ 2 ^ 2 ∧ (R ^^^ 2 ^ 2) ^^^ (P ^^^ 2 ^ 2) = R ^^^ P ∧ R.testBit 2 = true ∧ P ^^^ 2 ^ 2 < 16) := by decide +kernel
    exact all R hR P hP ⟨h, hq⟩
  · have all : ∀ R, R < 16 → ∀ P, P < 16 → (P &&& R = P ∧ P.testBit 3 = true → (P ^^^ 2 ^ 3) &&& (R ^^^ 2 ^ 3) = P ^^^ 2 ^ 3 ∧ (R ^^^ 2 ^ 3) ^^^ (P ^^^ 2 ^ 3) = R ^^^ P ∧ R.testBit 3 = true ∧ P ^^^ 2 ^ 3 < 16) := by decide +kernel
    exact all R hR P hP ⟨h, hq⟩
theorem x_pc {P : Nat} (hP : P < 16) : (pc P = 0 → P = 0) ∧ pc P ≤ 4 := by
  have all : ∀ P, P < 16 → (pc P = 0 → P = 0) ∧ pc P ≤ 4 := by decide +kernel
  exact all P hP
theorem Lb_fuel {fb : Nat → Nat → Option Nat} {du : Nat → Nat} (hn : nn ≤ 4) : ∀ (m m' a P t : Nat), P < 16 → Lb nn fb du m a P t → pc P ≤ m' → Lb nn fb du m' a P t := by
  intro m
  induction m with
  | zero =>
    intro m' a P t hP h hm
    cases m' with
    | zero => exact h
    | succ m' => exact Or.inl h
  | succ m ih =>
    intro m' a P t hP h hm
    rcases h with h | ⟨k, h, t', h1, h2, h3, h4, h5⟩
    · cases m' with
      | zero => exact h
      | succ m' => exact Or.inl h
    · have x := x_bit hP (by omega) h2
      cases m' with
      | zero => omega
      | succ m' => exact Or.inr ⟨k, h, t', h1, h2, h3, h4, ih m' _ _ _ x.2.2.2.1 h5 (by omega)⟩
theorem Lb_0 {fb : Nat → Nat → Option Nat} {du : Nat → Nat} {m a t : Nat} (h : Lb nn fb du m a 0 t) : t = 0 := by
  cases m with
  | zero => exact h.2
  | succ m =>
    rcases h with h | ⟨k, h, t', h1, h2, h3, h4, h5⟩
    · exact h.2
    · rw [Nat.zero_testBit] at h2; exact absurd h2 (by decide)
theorem Ab_same {fr fr' : Nat → Nat} : ∀ (B S t : Nat), (∀ b, b < B → fr' b = fr b) → Ab nn fb du fr B S t → Ab nn fb du fr' B S t := by
  intro B
  induction B with
  | zero => intro S t _ h; exact h
  | succ B ih =>
    intro S t he h
    obtain ⟨P, t1, t2, h1, h2, h3, h4⟩ := h
    exact ⟨P, t1, t2, h1, ih _ _ (fun b hb => he b (by omega)) h2, by rw [he B (by omega)]; exact h3, h4⟩
theorem upn_s {fr : Nat → Nat} {b y : Nat} : upn fr b y b = y := if_pos rfl
theorem upn_n {fr : Nat → Nat} {b y j : Nat} (h : j ≠ b) : upn fr b y j = fr j := if_neg h
theorem Ab_ins {fr : Nat → Nat} {b k h : Nat} (hn : nn ≤ 4) (hk : k < nn) (hf : fb b k (fr b) = some h) : ∀ (B R t : Nat), b < B → R < 16 → R.testBit k = false → Ab nn fb du (upn fr b (h + du b k)) B R t → Ab nn fb du fr B (R ^^^ 2 ^ k) (h + t) := by
  intro B
  induction B with
  | zero => intro R t hb; omega
  | succ B ih =>
    intro R t hb hR hq h0
    obtain ⟨P, t1, t2, h1, h2, h3, h4⟩ := h0
    have hP := x_sub hR h1
    have x := x_and hR hP (show k < 4 by omega) h1 hq
    by_cases e : b = B
    · subst e
      rw [upn_s] at h3
      refine ⟨P ^^^ 2 ^ k, t1, h + t2, x.1, ?_, ?_, by omega⟩
      · rw [x.2.1]; exact Ab_same _ _ _ (fun j hj => (upn_n (by omega)).symm) h2
      · exact Or.inr ⟨k, h, t2, hk, x.2.2.2.2.2.2.2.1, hf, rfl, by rw [x.2.2.2.2.2.2.2.2.1]; exact Lb_fuel hn 4 3 _ _ _ hP h3 x.2.2.1⟩
    · rw [upn_n (fun q => e q.symm)] at h3
      refine ⟨P, h + t1, t2, x.2.2.2.2.2.1, ?_, h3, by omega⟩
      rw [x.2.2.2.2.1]
      exact ih (R ^^^ P) t1 (by omega) x.2.2.2.2.2.2.2.2.2 x.2.2.2.2.2.2.1 h2
theorem Ab_rem {fr : Nat → Nat} (hn : nn ≤ 4) : ∀ (B R t : Nat), R < 16 → R ≠ 0 → Ab nn fb du fr B R t → ∃ b k h t', b < B ∧ k < nn ∧ R.testBit k = true ∧ fb b k (fr b) = some h ∧ t = h + t' ∧ Ab nn fb du (upn fr b (h + du b k)) B (R ^^^ 2 ^ k) t' := by
  intro B
  induction B with
  | zero => intro R t _ h0 h; exact absurd h.1 h0
  | succ B ih =>
    intro R t hR h0 h
    obtain ⟨P, t1, t2, h1, h2, h3, h4⟩ := h
    have hP := x_sub hR h1
    have zero : P = 0 → ∃ b k h t', b < B + 1 ∧ k < nn ∧ R.testBit k = true ∧ fb b k (fr b) = some h ∧ t = h + t' ∧ Ab nn fb du (upn fr b (h + du b k)) (B + 1) (R ^^^ 2 ^ k) t' := fun e => by
      subst e
      have z := Lb_0 h3
      rw [Nat.xor_zero] at h2
      obtain ⟨b, k, h, t', b1, b2, b3, b4, b5, b6⟩ := ih R t1 hR h0 h2
      exact ⟨b, k, h, t', by omega, b2, b3, b4, by omega, 0, t', 0, Nat.zero_and _, by rw [Nat.xor_zero]; exact b6, Or.inl ⟨rfl, rfl⟩, rfl⟩
    rcases h3 with h3 | ⟨k, h, t', k1, k2, k3, k4, k5⟩
    · exact zero h3.1
    · have x := x_mem hR hP (show k < 4 by omega) h1 k2
      refine ⟨B, k, h, t1 + t', by omega, k1, x.2.2.1, k3, by omega, P ^^^ 2 ^ k, t1, t', x.1, ?_, ?_, rfl⟩
      · rw [x.2.1]; exact Ab_same _ _ _ (fun j hj => upn_n (by omega)) h2
      · rw [upn_s]
        exact Lb_fuel hn 3 4 _ _ _ x.2.2.2 k5 (x_pc x.2.2.2).2
/-- one after the other is the same as berth by berth -/
theorem Fi_Ab (hn : nn ≤ 4) : ∀ (m R : Nat) (fr : Nat → Nat) (t : Nat), R < 16 → pc R ≤ m → (Fi nn fb du B m R fr t ↔ Ab nn fb du fr B R t) := by
  have base : ∀ (B : Nat) (fr : Nat → Nat), Ab nn fb du fr B 0 0 := fun B fr => by
    induction B with
    | zero => exact ⟨rfl, rfl⟩
    | succ B ih => exact ⟨0, 0, 0, rfl, ih, Or.inl ⟨rfl, rfl⟩, rfl⟩
  have b0 : ∀ (B : Nat) (fr : Nat → Nat) (t : Nat), Ab nn fb du fr B 0 t → t = 0 := fun B fr => by
    induction B with
    | zero => intro t h; exact h.2
    | succ B ih =>
      intro t h
      obtain ⟨P, t1, t2, h1, h2, h3, h4⟩ := h
      rw [Nat.and_zero] at h1
      subst h1
      have := ih t1 h2
      have := Lb_0 h3
      omega
  intro m
  induction m with
  | zero =>
    intro R fr t hR hm
    have e := (x_pc hR).1 (by omega)
    subst e
    exact ⟨fun h => by rw [h.2]; exact base _ _, fun h => ⟨rfl, b0 _ _ _ h⟩⟩
  | succ m ih =>
    intro R fr t hR hm
    constructor
    · intro h
      rcases h with h | ⟨k, b, h, t', h1, h2, h3, h4, h5, h6⟩
      · rw [h.1, h.2]; exact base _ _
      · have x := x_bit hR (show k < 4 by omega) h2
        have y := Ab_ins hn h1 h4 B _ _ h3 x.2.2.2.1 x.2.1 ((ih _ _ _ x.2.2.2.1 (by omega)).mp h6)
        rw [x.2.2.1] at y
        rw [h5]; exact y
    · intro h
      by_cases e : R = 0
      · subst e; exact Or.inl ⟨rfl, b0 _ _ _ h⟩
      · obtain ⟨b, k, h, t', b1, b2, b3, b4, b5, b6⟩ := Ab_rem hn B R t hR e h
        have x := x_bit hR (show k < 4 by omega) b3
        exact Or.inr ⟨k, b, h, t', b2, b3, b1, b4, b5, (ih _ _ _ x.2.2.2.1 (by omega)).mpr b6⟩
end CHAIN
