/-! THE PURE LAYER: bringing in, as sets and orders -/
section CHAIN
variable {nn B : Nat} {fb : Nat → Nat → Nat → Option Nat} {du : Nat → Nat → Nat}
/-- how many of four stand in a set -/
def pc (P : Nat) : Nat := P % 2 + P / 2 % 2 + P / 4 % 2 + P / 8 % 2
/-- at one berth, from an hour on, a set can be laid with a sum -/
def Lb (nn : Nat) (fb : Nat → Nat → Option Nat) (du : Nat → Nat) : Nat → Nat → Nat → Nat → Prop
  | 0, _, P, t => P = 0 ∧ t = 0
  | m + 1, a, P, t => (P = 0 ∧ t = 0) ∨ ∃ k h t', k < nn ∧ P.testBit k = true ∧ fb k a = some h ∧ t = h + t' ∧ Lb nn fb du m (h + du k) (P ^^^ 2 ^ k) t'
/-- at the first berths a set can be laid with a sum -/
def Ab (nn : Nat) (fb : Nat → Nat → Nat → Option Nat) (du : Nat → Nat → Nat) (fr : Nat → Nat) : Nat → Nat → Nat → Prop
  | 0, S, t => S = 0 ∧ t = 0
  | B + 1, S, t => ∃ P t1 t2, P &&& S = P ∧ Ab nn fb du fr B (S ^^^ P) t1 ∧ Lb nn (fb B) (du B) 4 (fr B) P t2 ∧ t = t1 + t2
def upn (fr : Nat → Nat) (b y : Nat) : Nat → Nat := fun j => if j = b then y else fr j
/-- a set can be laid one after the other, at any berth -/
def Fi (nn : Nat) (fb : Nat → Nat → Nat → Option Nat) (du : Nat → Nat → Nat) (B : Nat) : Nat → Nat → (Nat → Nat) → Nat → Prop
  | 0, R, _, t => R = 0 ∧ t = 0
  | m + 1, R, fr, t => (R = 0 ∧ t = 0) ∨ ∃ k b h t', k < nn ∧ R.testBit k = true ∧ b < B ∧ fb b k (fr b) = some h ∧ t = h + t' ∧ Fi nn fb du B m (R ^^^ 2 ^ k) (upn fr b (h + du b k)) t'
theorem x_and {R P k : Nat} (hR : R < 16) (hP : P < 16) (hk : k < 4) (h : P &&& R = P) (hq : R.testBit k = false) : (P ^^^ 2 ^ k) &&& (R ^^^ 2 ^ k) = P ^^^ 2 ^ k ∧ (R ^^^ 2 ^ k) ^^^ (P ^^^ 2 ^ k) = R ^^^ P ∧ pc P ≤ 3 ∧ P.testBit k = false ∧ (R ^^^ 2 ^ k) ^^^ P = (R ^^^ P) ^^^ 2 ^ k ∧ P &&& (R ^^^ 2 ^ k) = P ∧ (R ^^^ P).testBit k = false ∧ (P ^^^ 2 ^ k).testBit k = true ∧ (P ^^^ 2 ^ k) ^^^ 2 ^ k = P ∧ R ^^^ P < 16 := by
  have k4 : k = 0 ∨ k = 1 ∨ k = 2 ∨ k = 3 := by omega
  rcases k4 with rfl | rfl | rfl | rfl
  · have all1 : ∀ R, R < 16 → ∀ P, P < 16 → (P &&& R = P ∧ R.testBit 0 = false → (P ^^^ 2 ^ 0) &&& (R ^^^ 2 ^ 0) = P ^^^ 2 ^ 0 ∧ (R ^^^ 2 ^ 0) ^^^ (P ^^^ 2 ^ 0) = R ^^^ P ∧ pc P ≤ 3 ∧ P.testBit 0 = false) := by decide +kernel
    have all2 : ∀ R, R < 16 → ∀ P, P < 16 → (P &&& R = P ∧ R.testBit 0 = false → (R ^^^ 2 ^ 0) ^^^ P = (R ^^^ P) ^^^ 2 ^ 0 ∧ P &&& (R ^^^ 2 ^ 0) = P ∧ (R ^^^ P).testBit 0 = false) := by decide +kernel
    have all3 : ∀ R, R < 16 → ∀ P, P < 16 → (P &&& R = P ∧ R.testBit 0 = false → (P ^^^ 2 ^ 0).testBit 0 = true ∧ (P ^^^ 2 ^ 0) ^^^ 2 ^ 0 = P ∧ R ^^^ P < 16) := by decide +kernel
    obtain ⟨a1, a2, a3, a4⟩ := all1 R hR P hP ⟨h, hq⟩
    obtain ⟨b1, b2, b3⟩ := all2 R hR P hP ⟨h, hq⟩
    exact ⟨a1, a2, a3, a4, b1, b2, b3, all3 R hR P hP ⟨h, hq⟩⟩
  · have all1 : ∀ R, R < 16 → ∀ P, P < 16 → (P &&& R = P ∧ R.testBit 1 = false → (P ^^^ 2 ^ 1) &&& (R ^^^ 2 ^ 1) = P ^^^ 2 ^ 1 ∧ (R ^^^ 2 ^ 1) ^^^ (P ^^^ 2 ^ 1) = R ^^^ P ∧ pc P ≤ 3 ∧ P.testBit 1 = false) := by decide +kernel
    have all2 : ∀ R, R < 16 → ∀ P, P < 16 → (P &&& R = P ∧ R.testBit 1 = false → (R ^^^ 2 ^ 1) ^^^ P = (R ^^^ P) ^^^ 2 ^ 1 ∧ P &&& (R ^^^ 2 ^ 1) = P ∧ (R ^^^ P).testBit 1 = false) := by decide +kernel
    have all3 : ∀ R, R < 16 → ∀ P, P < 16 → (P &&& R = P ∧ R.testBit 1 = false → (P ^^^ 2 ^ 1).testBit 1 = true ∧ (P ^^^ 2 ^ 1) ^^^ 2 ^ 1 = P ∧ R ^^^ P < 16) := by decide +kernel
    obtain ⟨a1, a2, a3, a4⟩ := all1 R hR P hP ⟨h, hq⟩
    obtain ⟨b1, b2, b3⟩ := all2 R hR P hP ⟨h, hq⟩
    exact ⟨a1, a2, a3, a4, b1, b2, b3, all3 R hR P hP ⟨h, hq⟩⟩
  · have all1 : ∀ R, R < 16 → ∀ P, P < 16 → (P &&& R = P ∧ R.testBit 2 = false → (P ^^^ 2 ^ 2) &&& (R ^^^ 2 ^ 2) = P ^^^ 2 ^ 2 ∧ (R ^^^ 2 ^ 2) ^^^ (P ^^^ 2 ^ 2) = R ^^^ P ∧ pc P ≤ 3 ∧ P.testBit 2 = false) := by decide +kernel
    have all2 : ∀ R, R < 16 → ∀ P, P < 16 → (P &&& R = P ∧ R.testBit 2 = false → (R ^^^ 2 ^ 2) ^^^ P = (R ^^^ P) ^^^ 2 ^ 2 ∧ P &&& (R ^^^ 2 ^ 2) = P ∧ (R ^^^ P).testBit 2 = false) := by decide +kernel
    have all3 : ∀ R, R < 16 → ∀ P, P < 16 → (P &&& R = P ∧ R.testBit 2 = false → (P ^^^ 2 ^ 2).testBit 2 = true ∧ (P ^^^ 2 ^ 2) ^^^ 2 ^ 2 = P ∧ R ^^^ P < 16) := by decide +kernel
    obtain ⟨a1, a2, a3, a4⟩ := all1 R hR P hP ⟨h, hq⟩
    obtain ⟨b1, b2, b3⟩ := all2 R hR P hP ⟨h, hq⟩
    exact ⟨a1, a2, a3, a4, b1, b2, b3, all3 R hR P hP ⟨h, hq⟩⟩
  · have all1 : ∀ R, R < 16 → ∀ P, P < 16 → (P &&& R = P ∧ R.testBit 3 = false → (P ^^^ 2 ^ 3) &&& (R ^^^ 2 ^ 3) = P ^^^ 2 ^ 3 ∧ (R ^^^ 2 ^ 3) ^^^ (P ^^^ 2 ^ 3) = R ^^^ P ∧ pc P ≤ 3 ∧ P.testBit 3 = false) := by decide +kernel
    have all2 : ∀ R, R < 16 → ∀ P, P < 16 → (P &&& R = P ∧ R.testBit 3 = false → (R ^^^ 2 ^ 3) ^^^ P = (R ^^^ P) ^^^ 2 ^ 3 ∧ P &&& (R ^^^ 2 ^ 3) = P ∧ (R ^^^ P).testBit 3 = false) := by decide +kernel
    have all3 : ∀ R, R < 16 → ∀ P, P < 16 → (P &&& R = P ∧ R.testBit 3 = false → (P ^^^ 2 ^ 3).testBit 3 = true ∧ (P ^^^ 2 ^ 3) ^^^ 2 ^ 3 = P ∧ R ^^^ P < 16) := by decide +kernel
    obtain ⟨a1, a2, a3, a4⟩ := all1 R hR P hP ⟨h, hq⟩
    obtain ⟨b1, b2, b3⟩ := all2 R hR P hP ⟨h, hq⟩
    exact ⟨a1, a2, a3, a4, b1, b2, b3, all3 R hR P hP ⟨h, hq⟩⟩
theorem x_sub {R P : Nat} (hR : R < 16) (h : P &&& R = P) : P < 16 := by
  rw [← h]; exact Nat.lt_of_le_of_lt Nat.and_le_right hR
theorem x_bit {R k : Nat} (hR : R < 16) (hk : k < 4) (h : R.testBit k = true) : pc (R ^^^ 2 ^ k) + 1 = pc R ∧ (R ^^^ 2 ^ k).testBit k = false ∧ (R ^^^ 2 ^ k) ^^^ 2 ^ k = R ∧ R ^^^ 2 ^ k < 16 ∧ R ≠ 0 := by
  have all : ∀ R, R < 16 → ∀ k, k < 4 → R.testBit k = true → pc (R ^^^ 2 ^ k) + 1 = pc R ∧ (R ^^^ 2 ^ k).testBit k = false ∧ (R ^^^ 2 ^ k) ^^^ 2 ^ k = R ∧ R ^^^ 2 ^ k < 16 ∧ R ≠ 0 := by decide +kernel
  exact all R hR k hk h
theorem x_mem {R P k : Nat} (hR : R < 16) (hP : P < 16) (hk : k < 4) (h : P &&& R = P) (hq : P.testBit k = true) : (P ^^^ 2 ^ k) &&& (R ^^^ 2 ^ k) = P ^^^ 2 ^ k ∧ (R ^^^ 2 ^ k) ^^^ (P ^^^ 2 ^ k) = R ^^^ P ∧ R.testBit k = true ∧ P ^^^ 2 ^ k < 16 := by
  have k4 : k = 0 ∨ k = 1 ∨ k = 2 ∨ k = 3 := by omega
  rcases k4 with rfl | rfl | rfl | rfl
  · have all : ∀ R, R < 16 → ∀ P, P < 16 → (P &&& R = P ∧ P.testBit 0 = true → (P ^^^ 2 ^ 0) &&& (R ^^^ 2 ^ 0) = P ^^^ 2 ^ 0 ∧ (R ^^^ 2 ^ 0) ^^^ (P ^^^ 2 ^ 0) = R ^^^ P ∧ R.testBit 0 = true ∧ P ^^^ 2 ^ 0 < 16) := by decide +kernel
    exact all R hR P hP ⟨h, hq⟩
  · have all : ∀ R, R < 16 → ∀ P, P < 16 → (P &&& R = P ∧ P.testBit 1 = true → (P ^^^ 2 ^ 1) &&& (R ^^^ 2 ^ 1) = P ^^^ 2 ^ 1 ∧ (R ^^^ 2 ^ 1) ^^^ (P ^^^ 2 ^ 1) = R ^^^ P ∧ R.testBit 1 = true ∧ P ^^^ 2 ^ 1 < 16) := by decide +kernel
    exact all R hR P hP ⟨h, hq⟩
  · have all : ∀ R, R < 16 → ∀ P, P < 16 → (P &&& R = P ∧ P.testBit 2 = true → (P ^^^ 2 ^ 2) &&& (R ^^^ 2 ^ 2) = P ^^^ 2 ^ 2 ∧ (R ^^^ 2 ^ 2) ^^^ (P ^^^ 2 ^ 2) = R ^^^ P ∧ R.testBit 2 = true ∧ P ^^^ 2 ^ 2 < 16) := by decide +kernel
    exact all R hR P hP ⟨h, hq⟩
  · have all : ∀ R, R < 16 → ∀ P, P < 16 → (P &&& R = P ∧ P.testBit 3 = true → (P ^^^ 2 ^ 3) &&& (R ^^^ 2 ^ 3) = P ^^^ 2 ^ 3 ∧ (R ^^^ 2 ^ 3) ^^^ (P ^^^ 2 ^ 3) = R ^^^ P ∧ R.testBit 3 = true ∧ P ^^^ 2 ^ 3 < 16) := by decide +kernel
    exact all R hR P hP ⟨h, hq⟩
theorem x_pc {P : Nat} (hP : P < 16) : (pc P = 0 → P = 0) ∧ pc P ≤ 4 := by
  have all : ∀ P, P < 16 → (pc P = 0 → P = 0) ∧ pc P ≤ 4 := by decide +kernel
  exact all P hP
theorem Lb_fuel {fb : Nat → Nat → Option Nat} {du : Nat → Nat} (hn : nn ≤ 4) : ∀ (m m' a P t : Nat), P < 16 → Lb nn fb du m a P t → pc P ≤ m' → Lb nn fb du m' a P t := by
  intro m
  induction m with
  | zero =>
    intro m' a P t hP h hm
    cases m' with
    | zero => exact h
    | succ m' => exact Or.inl h
  | succ m ih =>
    intro m' a P t hP h hm
    rcases h with h | ⟨k, h, t', h1, h2, h3, h4, h5⟩
    · cases m' with
      | zero => exact h
      | succ m' => exact Or.inl h
    · have x := x_bit hP (by omega) h2
      cases m' with
      | zero => omega
      | succ m' => exact Or.inr ⟨k, h, t', h1, h2, h3, h4, ih m' _ _ _ x.2.2.2.1 h5 (by omega)⟩
theorem Lb_0 {fb : Nat → Nat → Option Nat} {du : Nat → Nat} {m a t : Nat} (h : Lb nn fb du m a 0 t) : t = 0 := by
  cases m with
  | zero => exact h.2
  | succ m =>
    rcases h with h | ⟨k, h, t', h1, h2, h3, h4, h5⟩
    · exact h.2
    · rw [Nat.zero_testBit] at h2; exact absurd h2 (by decide)
theorem Ab_same {fr fr' : Nat → Nat} : ∀ (B S t : Nat), (∀ b, b < B → fr' b = fr b) → Ab nn fb du fr B S t → Ab nn fb du fr' B S t := by
  intro B
  induction B with
  | zero => intro S t _ h; exact h
  | succ B ih =>
    intro S t he h
    obtain ⟨P, t1, t2, h1, h2, h3, h4⟩ := h
    exact ⟨P, t1, t2, h1, ih _ _ (fun b hb => he b (by omega)) h2, by rw [he B (by omega)]; exact h3, h4⟩
theorem upn_s {fr : Nat → Nat} {b y : Nat} : upn fr b y b = y := if_pos rfl
theorem upn_n {fr : Nat → Nat} {b y j : Nat} (h : j ≠ b) : upn fr b y j = fr j := if_neg h
theorem Ab_ins {fr : Nat → Nat} {b k h : Nat} (hn : nn ≤ 4) (hk : k < nn) (hf : fb b k (fr b) = some h) : ∀ (B R t : Nat), b < B → R < 16 → R.testBit k = false → Ab nn fb du (upn fr b (h + du b k)) B R t → Ab nn fb du fr B (R ^^^ 2 ^ k) (h + t) := by
  intro B
  induction B with
  | zero => intro R t hb; omega
  | succ B ih =>
    intro R t hb hR hq h0
    obtain ⟨P, t1, t2, h1, h2, h3, h4⟩ := h0
    have hP := x_sub hR h1
    have x := x_and hR hP (show k < 4 by omega) h1 hq
    by_cases e : b = B
    · subst e
      rw [upn_s] at h3
      refine ⟨P ^^^ 2 ^ k, t1, h + t2, x.1, ?_, ?_, by omega⟩
      · rw [x.2.1]; exact Ab_same _ _ _ (fun j hj => (upn_n (by omega)).symm) h2
      · exact Or.inr ⟨k, h, t2, hk, x.2.2.2.2.2.2.2.1, hf, rfl, by rw [x.2.2.2.2.2.2.2.2.1]; exact Lb_fuel hn 4 3 _ _ _ hP h3 x.2.2.1⟩
    · rw [upn_n (fun q => e q.symm)] at h3
      refine ⟨P, h + t1, t2, x.2.2.2.2.2.1, ?_, h3, by omega⟩
      rw [x.2.2.2.2.1]
      exact ih (R ^^^ P) t1 (by omega) x.2.2.2.2.2.2.2.2.2 x.2.2.2.2.2.2.1 h2
theorem Ab_rem {fr : Nat → Nat} (hn : nn ≤ 4) : ∀ (B R t : Nat), R < 16 → R ≠ 0 → Ab nn fb du fr B R t → ∃ b k h t', b < B ∧ k < nn ∧ R.testBit k = true ∧ fb b k (fr b) = some h ∧ t = h + t' ∧ Ab nn fb du (upn fr b (h + du b k)) B (R ^^^ 2 ^ k) t' := by
  intro B
  induction B with
  | zero => intro R t _ h0 h; exact absurd h.1 h0
  | succ B ih =>
    intro R t hR h0 h
    obtain ⟨P, t1, t2, h1, h2, h3, h4⟩ := h
    have hP := x_sub hR h1
    have zero : P = 0 → ∃ b k h t', b < B + 1 ∧ k < nn ∧ R.testBit k = true ∧ fb b k (fr b) = some h ∧ t = h + t' ∧ Ab nn fb du (upn fr b (h + du b k)) (B + 1) (R ^^^ 2 ^ k) t' := fun e => by
      subst e
      have z := Lb_0 h3
      rw [Nat.xor_zero] at h2
      obtain ⟨b, k, h, t', b1, b2, b3, b4, b5, b6⟩ := ih R t1 hR h0 h2
      exact ⟨b, k, h, t', by omega, b2, b3, b4, by omega, 0, t', 0, Nat.zero_and _, by rw [Nat.xor_zero]; exact b6, Or.inl ⟨rfl, rfl⟩, rfl⟩
    rcases h3 with h3 | ⟨k, h, t', k1, k2, k3, k4, k5⟩
    · exact zero h3.1
    · have x := x_mem hR hP (show k < 4 by omega) h1 k2
      refine ⟨B, k, h, t1 + t', by omega, k1, x.2.2.1, k3, by omega, P ^^^ 2 ^ k, t1, t', x.1, ?_, ?_, rfl⟩
      · rw [x.2.1]; exact Ab_same _ _ _ (fun j hj => upn_n (by omega)) h2
      · rw [upn_s]
        exact Lb_fuel hn 3 4 _ _ _ x.2.2.2 k5 (x_pc x.2.2.2).2
/-- one after the other is the same as berth by berth -/
theorem Fi_Ab (hn : nn ≤ 4) : ∀ (m R : Nat) (fr : Nat → Nat) (t : Nat), R < 16 → pc R ≤ m → (Fi nn fb du B m R fr t ↔ Ab nn fb du fr B R t) := by
  have base : ∀ (B : Nat) (fr : Nat → Nat), Ab nn fb du fr B 0 0 := fun B fr => by
    induction B with
    | zero => exact ⟨rfl, rfl⟩
    | succ B ih => exact ⟨0, 0, 0, rfl, ih, Or.inl ⟨rfl, rfl⟩, rfl⟩
  have b0 : ∀ (B : Nat) (fr : Nat → Nat) (t : Nat), Ab nn fb du fr B 0 t → t = 0 := fun B fr => by
    induction B with
    | zero => intro t h; exact h.2
    | succ B ih =>
      intro t h
      obtain ⟨P, t1, t2, h1, h2, h3, h4⟩ := h
      rw [Nat.and_zero] at h1
      subst h1
      have := ih t1 h2
      have := Lb_0 h3
      omega
  intro m
  induction m with
  | zero =>
    intro R fr t hR hm
    have e := (x_pc hR).1 (by omega)
    subst e
    exact ⟨fun h => by rw [h.2]; exact base _ _, fun h => ⟨rfl, b0 _ _ _ h⟩⟩
  | succ m ih =>
    intro R fr t hR hm
    constructor
    · intro h
      rcases h with h | ⟨k, b, h, t', h1, h2, h3, h4, h5, h6⟩
      · rw [h.1, h.2]; exact base _ _
      · have x := x_bit hR (show k < 4 by omega) h2
        have y := Ab_ins hn h1 h4 B _ _ h3 x.2.2.2.1 x.2.1 ((ih _ _ _ x.2.2.2.1 (by omega)).mp h6)
        rw [x.2.2.1] at y
        rw [h5]; exact y
    · intro h
      by_cases e : R = 0
      · subst e; exact Or.inl ⟨rfl, b0 _ _ _ h⟩
      · obtain ⟨b, k, h, t', b1, b2, b3, b4, b5, b6⟩ := Ab_rem hn B R t hR e h
        have x := x_bit hR (show k < 4 by omega) b3
        exact Or.inr ⟨k, b, h, t', b2, b3, b1, b4, b5, (ih _ _ _ x.2.2.2.1 (by omega)).mpr b6⟩
end CHAIN
/-! THE PURE LAYER: bringing in, a berth of the class -/
section LAY
variable {F : Nat} {τ : cT} {n m cell k i : Nat} {c c' cb : cS} {fb : Nat → Nat → Option Nat} {du : Nat → Nat} {need : Int32}
theorem y1 {S P k : Nat} (hS : S < 16) (hP : P < 16) (hk : k < 4) (h : P &&& S = 0) (hq : P.testBit k = true) : S.testBit k = false ∧ (P ^^^ 2 ^ k) &&& (S ^^^ 2 ^ k) = 0 ∧ (S ^^^ 2 ^ k) ^^^ (P ^^^ 2 ^ k) = S ^^^ P ∧ P ^^^ 2 ^ k < 16 := by
  have k4 : k = 0 ∨ k = 1 ∨ k = 2 ∨ k = 3 := by omega
  rcases k4 with rfl | rfl | rfl | rfl
  · have all0 : ∀ S, S < 16 → ∀ P, P < 16 → (P &&& S = 0 ∧ P.testBit 0 = true → S.testBit 0 = false ∧ (P ^^^ 2 ^ 0) &&& (S ^^^ 2 ^ 0) = 0 ∧ (S ^^^ 2 ^ 0) ^^^ (P ^^^ 2 ^ 0) = S ^^^ P ∧ P ^^^ 2 ^ 0 < 16) := by decide +kernel
    obtain ⟨z0, z1, z2, z3⟩ := all0 S hS P hP ⟨h, hq⟩
    exact ⟨z0, z1, z2, z3⟩
  · have all0 : ∀ S, S < 16 → ∀ P, P < 16 → (P &&& S = 0 ∧ P.testBit 1 = true → S.testBit 1 = false ∧ (P ^^^ 2 ^ 1) &&& (S ^^^ 2 ^ 1) = 0 ∧ (S ^^^ 2 ^ 1) ^^^ (P ^^^ 2 ^ 1) = S ^^^ P ∧ P ^^^ 2 ^ 1 < 16) := by decide +kernel
    obtain ⟨z0, z1, z2, z3⟩ := all0 S hS P hP ⟨h, hq⟩
    exact ⟨z0, z1, z2, z3⟩
  · have all0 : ∀ S, S < 16 → ∀ P, P < 16 → (P &&& S = 0 ∧ P.testBit 2 = true → S.testBit 2 = false ∧ (P ^^^ 2 ^ 2) &&& (S ^^^ 2 ^ 2) = 0 ∧ (S ^^^ 2 ^ 2) ^^^ (P ^^^ 2 ^ 2) = S ^^^ P ∧ P ^^^ 2 ^ 2 < 16) := by decide +kernel
    obtain ⟨z0, z1, z2, z3⟩ := all0 S hS P hP ⟨h, hq⟩
    exact ⟨z0, z1, z2, z3⟩
  · have all0 : ∀ S, S < 16 → ∀ P, P < 16 → (P &&& S = 0 ∧ P.testBit 3 = true → S.testBit 3 = false ∧ (P ^^^ 2 ^ 3) &&& (S ^^^ 2 ^ 3) = 0 ∧ (S ^^^ 2 ^ 3) ^^^ (P ^^^ 2 ^ 3) = S ^^^ P ∧ P ^^^ 2 ^ 3 < 16) := by decide +kernel
    obtain ⟨z0, z1, z2, z3⟩ := all0 S hS P hP ⟨h, hq⟩
    exact ⟨z0, z1, z2, z3⟩
theorem y2 {S P k : Nat} (hS : S < 16) (hP : P < 16) (hk : k < 4) (h : P &&& (S ^^^ 2 ^ k) = 0) (hq : S.testBit k = false) : (P ^^^ 2 ^ k) &&& S = 0 ∧ (P ^^^ 2 ^ k).testBit k = true ∧ (P ^^^ 2 ^ k) ^^^ 2 ^ k = P ∧ S ^^^ (P ^^^ 2 ^ k) = (S ^^^ 2 ^ k) ^^^ P ∧ pc P ≤ 3 ∧ P ^^^ 2 ^ k < 16 := by
  have k4 : k = 0 ∨ k = 1 ∨ k = 2 ∨ k = 3 := by omega
  rcases k4 with rfl | rfl | rfl | rfl
  · have all0 : ∀ S, S < 16 → ∀ P, P < 16 → (P &&& (S ^^^ 2 ^ 0) = 0 ∧ S.testBit 0 = false → (P ^^^ 2 ^ 0) &&& S = 0 ∧ (P ^^^ 2 ^ 0).testBit 0 = true ∧ (P ^^^ 2 ^ 0) ^^^ 2 ^ 0 = P) := by decide +kernel
    obtain ⟨z0, z1, z2⟩ := all0 S hS P hP ⟨h, hq⟩
    have all1 : ∀ S, S < 16 → ∀ P, P < 16 → (P &&& (S ^^^ 2 ^ 0) = 0 ∧ S.testBit 0 = false → S ^^^ (P ^^^ 2 ^ 0) = (S ^^^ 2 ^ 0) ^^^ P ∧ pc P ≤ 3 ∧ P ^^^ 2 ^ 0 < 16) := by decide +kernel
    obtain ⟨z3, z4, z5⟩ := all1 S hS P hP ⟨h, hq⟩
    exact ⟨z0, z1, z2, z3, z4, z5⟩
  · have all0 : ∀ S, S < 16 → ∀ P, P < 16 → (P &&& (S ^^^ 2 ^ 1) = 0 ∧ S.testBit 1 = false → (P ^^^ 2 ^ 1) &&& S = 0 ∧ (P ^^^ 2 ^ 1).testBit 1 = true ∧ (P ^^^ 2 ^ 1) ^^^ 2 ^ 1 = P) := by decide +kernel
    obtain ⟨z0, z1, z2⟩ := all0 S hS P hP ⟨h, hq⟩
    have all1 : ∀ S, S < 16 → ∀ P, P < 16 → (P &&& (S ^^^ 2 ^ 1) = 0 ∧ S.testBit 1 = false → S ^^^ (P ^^^ 2 ^ 1) = (S ^^^ 2 ^ 1) ^^^ P ∧ pc P ≤ 3 ∧ P ^^^ 2 ^ 1 < 16) := by decide +kernel
    obtain ⟨z3, z4, z5⟩ := all1 S hS P hP ⟨h, hq⟩
    exact ⟨z0, z1, z2, z3, z4, z5⟩
  · have all0 : ∀ S, S < 16 → ∀ P, P < 16 → (P &&& (S ^^^ 2 ^ 2) = 0 ∧ S.testBit 2 = false → (P ^^^ 2 ^ 2) &&& S = 0 ∧ (P ^^^ 2 ^ 2).testBit 2 = true ∧ (P ^^^ 2 ^ 2) ^^^ 2 ^ 2 = P) := by decide +kernel
    obtain ⟨z0, z1, z2⟩ := all0 S hS P hP ⟨h, hq⟩
    have all1 : ∀ S, S < 16 → ∀ P, P < 16 → (P &&& (S ^^^ 2 ^ 2) = 0 ∧ S.testBit 2 = false → S ^^^ (P ^^^ 2 ^ 2) = (S ^^^ 2 ^ 2) ^^^ P ∧ pc P ≤ 3 ∧ P ^^^ 2 ^ 2 < 16) := by decide +kernel
    obtain ⟨z3, z4, z5⟩ := all1 S hS P hP ⟨h, hq⟩
    exact ⟨z0, z1, z2, z3, z4, z5⟩
  · have all0 : ∀ S, S < 16 → ∀ P, P < 16 → (P &&& (S ^^^ 2 ^ 3) = 0 ∧ S.testBit 3 = false → (P ^^^ 2 ^ 3) &&& S = 0 ∧ (P ^^^ 2 ^ 3).testBit 3 = true ∧ (P ^^^ 2 ^ 3) ^^^ 2 ^ 3 = P) := by decide +kernel
    obtain ⟨z0, z1, z2⟩ := all0 S hS P hP ⟨h, hq⟩
    have all1 : ∀ S, S < 16 → ∀ P, P < 16 → (P &&& (S ^^^ 2 ^ 3) = 0 ∧ S.testBit 3 = false → S ^^^ (P ^^^ 2 ^ 3) = (S ^^^ 2 ^ 3) ^^^ P ∧ pc P ≤ 3 ∧ P ^^^ 2 ^ 3 < 16) := by decide +kernel
    obtain ⟨z3, z4, z5⟩ := all1 S hS P hP ⟨h, hq⟩
    exact ⟨z0, z1, z2, z3, z4, z5⟩
theorem y3 {S k : Nat} (hS : S < 16) (hk : k < 4) : (S.testBit k = false → S / 2 ^ k &&& 1 = 0 ∧ S ||| 1 * 2 ^ k = S ^^^ 2 ^ k ∧ pc (S ^^^ 2 ^ k) = pc S + 1) ∧ (S.testBit k = true → S / 2 ^ k &&& 1 = 1) := by
  have a1 : ∀ S, S < 16 → ∀ k, k < 4 → (S.testBit k = false → S / 2 ^ k &&& 1 = 0 ∧ S ||| 1 * 2 ^ k = S ^^^ 2 ^ k ∧ pc (S ^^^ 2 ^ k) = pc S + 1) := by decide +kernel
  have a2 : ∀ S, S < 16 → ∀ k, k < 4 → (S.testBit k = true → S / 2 ^ k &&& 1 = 1) := by decide +kernel
  exact ⟨a1 S hS k hk, a2 S hS k hk⟩
/-- the first hour from one on that will do -/
def fst1 (p : Nat → Bool) : Nat → Nat → Option Nat
  | 0, _ => none
  | r + 1, h => if p h = true then some h else fst1 p r (h + 1)
theorem fst1_le {p : Nat → Bool} : ∀ r a h, fst1 p r a = some h → a ≤ h ∧ h < a + r := by
  intro r
  induction r with
  | zero => intro a h e; cases e
  | succ r ih =>
    intro a h e
    rw [fst1] at e
    by_cases q : p a = true
    · rw [if_pos q] at e; injection e with e; omega
    · rw [if_neg q] at e; have := ih _ _ e; omega
/-- the way in bears it -/
def pw (c : cS) (cell : Nat) (need : Int32) (h : Nat) : Bool := decide (¬ c.1 (149 + h % 25) cell < need)
theorem fbg_loop (hc : cell < 24) : ∀ (r a f : Nat), r = 73 - a → a ≤ 50000 → r < f → o_X4_firstBegin_3 F τ n 10 (nI cell) need c f (nI a) = some (match fst1 (pw c cell need) r a with | none => .inl () | some h => .inr (nI h)) := by
  intro r
  induction r with
  | zero =>
    intro a f hr ha hf
    obtain ⟨f, rfl⟩ : ∃ x, f = x + 1 := ⟨f - 1, by omega⟩
    rw [o_X4_firstBegin_3, if_pos ((nI_ltI (by decide) (by omega)).mpr (by omega))]
    rfl
  | succ r ih =>
    intro a f hr ha hf
    obtain ⟨f, rfl⟩ : ∃ x, f = x + 1 := ⟨f - 1, by omega⟩
    have m25 : a % 25 < 25 := Nat.mod_lt _ (by decide)
    rw [o_X4_firstBegin_3, if_neg (nI_ngt (by decide) (by omega) (by omega)), irm_n (by omega) (by decide) (by decide), if_pos (iL_t m25 (by decide)), if_pos (iL_t hc (by decide)), nI_clamp (by omega), cg_n _ _ (by omega), nI_add, fst1]
    by_cases q : c.1 (149 + a % 25) cell < need
    · have q' : ¬ pw c cell need a = true := by unfold pw; rw [decide_eq_true_eq]; exact fun e => e q
      rw [if_pos (show c.1 (10 + 138 + 1 + a % 25) cell < need by rw [show 10 + 138 + 1 + a % 25 = 149 + a % 25 by omega]; exact q), if_neg q', ih (a + 1) f (by omega) (by omega) (by omega)]
    · have q' : pw c cell need a = true := by unfold pw; rw [decide_eq_true_eq]; exact q
      rw [if_neg (show ¬ c.1 (10 + 138 + 1 + a % 25) cell < need by rw [show 10 + 138 + 1 + a % 25 = 149 + a % 25 by omega]; exact q), if_pos q']
theorem o_fbg (hF : 74 < F) (hc : cell < 24) {a : Nat} (ha : a ≤ 50000) : o_X4_firstBegin F τ n 10 c (nI cell) need (nI a) = some (eC (fst1 (pw c cell need) (73 - a) a)) := by
  unfold o_X4_firstBegin
  rw [fbg_loop hc (73 - a) a F rfl ha (by omega), Option.bind_some]
  cases fst1 (pw c cell need) (73 - a) a with
  | none => rfl
  | some h => rfl
/-- what laying on makes of the least sums of a berth -/
def LO (m : Nat) (fb : Nat → Nat → Option Nat) (du : Nat → Nat) (u S a : Nat) (hv hv' : Nat → Nat) : Prop := (∀ T, T < 16 → hv' T ≤ hv T) ∧ (∀ P t, P < 16 → P &&& S = 0 → Lb m fb du 4 a P t → hv' (S ^^^ P) ≤ u + t) ∧ (∀ T, T < 16 → hv' T = hv T ∨ ∃ P t, P < 16 ∧ P &&& S = 0 ∧ T = S ^^^ P ∧ Lb m fb du 4 a P t ∧ hv' T = u + t)
/-- the same, from the ship i on -/
def LK (m : Nat) (fb : Nat → Nat → Option Nat) (du : Nat → Nat) (u S a i : Nat) (hv hv' : Nat → Nat) : Prop := (∀ T, T < 16 → hv' T ≤ hv T) ∧ (∀ k h P t, i ≤ k → k < m → S.testBit k = false → fb k a = some h → P < 16 → P &&& (S ^^^ 2 ^ k) = 0 → Lb m fb du 4 (h + du k) P t → hv' ((S ^^^ 2 ^ k) ^^^ P) ≤ u + h + t) ∧ (∀ T, T < 16 → hv' T = hv T ∨ ∃ k h P t, k < m ∧ S.testBit k = false ∧ fb k a = some h ∧ P < 16 ∧ P &&& (S ^^^ 2 ^ k) = 0 ∧ T = (S ^^^ 2 ^ k) ^^^ P ∧ Lb m fb du 4 (h + du k) P t ∧ hv' T = u + h + t)
def upm (hv : Nat → Nat) (S u : Nat) : Nat → Nat := fun T => if T = S then min (hv S) u else hv T
theorem LK.lo {u S a : Nat} {hv hv' : Nat → Nat} (hm : m ≤ 4) (hS : S < 16) (h : LK m fb du u S a 0 (upm hv S u) hv') : LO m fb du u S a hv hv' := by
  obtain ⟨h1, h2, h3⟩ := h
  have le : ∀ T, upm hv S u T ≤ hv T := fun T => by
    unfold upm
    by_cases e : T = S
    · rw [if_pos e, e]; exact Nat.min_le_left _ _
    · rw [if_neg e]; exact Nat.le_refl _
  refine ⟨fun T hT => Nat.le_trans (h1 T hT) (le T), ?_, ?_⟩
  · intro P t hP hd hL
    rcases hL with hL | ⟨k, h, t', k1, k2, k3, k4, k5⟩
    · rw [hL.1, hL.2, Nat.xor_zero]
      refine Nat.le_trans (h1 S hS) ?_
      unfold upm
      rw [if_pos rfl]
      exact Nat.min_le_right _ _
    · obtain ⟨y1, y2, y3, y4⟩ := y1 hS hP (show k < 4 by omega) hd k2
      have := h2 k h _ t' (Nat.zero_le _) k1 y1 k3 y4 y2 (Lb_fuel hm 3 4 _ _ _ y4 k5 (x_pc y4).2)
      rw [y3] at this
      omega
  · intro T hT
    rcases h3 T hT with e | ⟨k, h, P, t, k1, k2, k3, k4, k5, k6, k7, k8⟩
    · by_cases eS : T = S
      · rw [e]
        unfold upm
        rw [if_pos eS]
        rcases Nat.le_total (hv S) u with g | g
        · rw [Nat.min_eq_left g, eS]; exact Or.inl rfl
        · rw [Nat.min_eq_right g]
          exact Or.inr ⟨0, 0, by decide, Nat.zero_and _, by rw [Nat.xor_zero]; exact eS, Or.inl ⟨rfl, rfl⟩, rfl⟩
      · refine Or.inl ?_
        rw [e]
        unfold upm
        rw [if_neg eS]
    · obtain ⟨y1, y2, y3, y4, y5, y6⟩ := y2 hS k4 (show k < 4 by omega) k5 k2
      refine Or.inr ⟨P ^^^ 2 ^ k, h + t, y6, y1, by rw [y4]; exact k6, Or.inr ⟨k, h, t, k1, y2, k3, rfl, ?_⟩, by omega⟩
      rw [y3]
      exact Lb_fuel hm 4 3 _ _ _ k4 k7 y5
/-- what stays while a berth is reckoned -/
def D5 (c c' : cS) : Prop := (∀ q, q ≠ 175 → c'.1 q = c.1 q) ∧ c'.2 = c.2
theorem D5.refl : D5 c c := ⟨fun _ _ => rfl, rfl⟩
theorem D5.put {x : Int32} {j : Nat} (h : D5 cb c) : D5 cb (cp c 175 j x) := ⟨fun q hq => by rw [cp_1 _ hq]; exact h.1 q hq, h.2⟩
def He (c : cS) (hv : Nat → Nat) : Prop := ∀ T, T < 16 → c.1 175 T = nI (hv T) ∧ hv T ≤ 1000000
noncomputable def fbC (cb : cS) (cell : Nat) (du : Nat → Nat) (k a : Nat) : Option Nat := if du k = 0 then none else fst1 (pw cb cell (cb.1 145 k)) (73 - a) a
theorem pw_same (h : D5 cb c) (hc : cell < 24) (need : Int32) : pw c cell need = pw cb cell need := by
  funext h'
  have := Nat.mod_lt h' (show 0 < 25 by decide)
  unfold pw
  rw [h.1 _ (by omega)]
theorem LK.skip {u S a : Nat} {hv hv' : Nat → Nat} (h : LK m fb du u S a (i + 1) hv hv') (hq : S.testBit i = true ∨ fb i a = none) : LK m fb du u S a i hv hv' := by
  obtain ⟨h1, h2, h3⟩ := h
  refine ⟨h1, ?_, h3⟩
  intro k g P t k0 k1 k2 k3 k4 k5 k6
  by_cases e : k = i
  · subst e
    rcases hq with hq | hq
    · rw [hq] at k2; cases k2
    · rw [hq] at k3; cases k3
  · exact h2 k g P t (by omega) k1 k2 k3 k4 k5 k6
theorem x_lt {T P : Nat} (h1 : T < 16) (h2 : P < 16) : T ^^^ P < 16 := Nat.xor_lt_two_pow (n := 4) h1 h2
theorem LK.take {u S a g : Nat} {hv hv1 hv' : Nat → Nat} (hi : i < m) (hm : m ≤ 4) (hS : S < 16) (hq : S.testBit i = false) (hf : fb i a = some g) (h0 : LO m fb du (u + g) (S ^^^ 2 ^ i) (g + du i) hv hv1) (h : LK m fb du u S a (i + 1) hv1 hv') : LK m fb du u S a i hv hv' := by
  obtain ⟨h1, h2, h3⟩ := h
  obtain ⟨g1, g2, g3⟩ := h0
  have p16 : 2 ^ i < 16 := show 2 ^ i < 2 ^ 4 from Nat.pow_lt_pow_right (by decide) (by omega)
  refine ⟨fun T hT => Nat.le_trans (h1 T hT) (g1 T hT), ?_, ?_⟩
  · intro k g' P t k0 k1 k2 k3 k4 k5 k6
    by_cases e : k = i
    · subst e
      rw [hf] at k3
      injection k3 with k3
      subst k3
      exact Nat.le_trans (h1 _ (x_lt (x_lt hS p16) k4)) (g2 P t k4 k5 k6)
    · exact h2 k g' P t (by omega) k1 k2 k3 k4 k5 k6
  · intro T hT
    rcases h3 T hT with e | e
    · rcases g3 T hT with e2 | ⟨P, t, p1, p2, p3, p4, p5⟩
      · exact Or.inl (e.trans e2)
      · exact Or.inr ⟨i, g, P, t, hi, hq, hf, p1, p2, p3, p4, by omega⟩
    · exact Or.inr e
theorem x_m {S : Nat} (hm : m ≤ 4) (hS : S < 2 ^ m) : S < 16 ∧ pc S ≤ m ∧ ∀ k, k < m → S ^^^ 2 ^ k < 2 ^ m := by
  have l16 : 2 ^ m ≤ 16 := show 2 ^ m ≤ 2 ^ 4 from Nat.pow_le_pow_right (by decide) hm
  have all : ∀ m, m < 5 → ∀ S, S < 16 → (S < 2 ^ m → pc S ≤ m) := by decide +kernel
  exact ⟨by omega, all m (by omega) S (by omega) hS, fun k hk => Nat.xor_lt_two_pow hS (Nat.pow_lt_pow_right (by decide) hk)⟩
theorem o_lay (hF : 74 < F) (hm : m ≤ 4) (hc : cell < 24) (em : cb.1 141 7 = nI m) (ed : ∀ k, k < m → cb.1 174 k = nI (du k) ∧ du k ≤ 40000) : ∀ (f S a u : Nat) (c : cS) (hv : Nat → Nat), S < 2 ^ m → m + 1 ≤ pc S + f → a ≤ 50000 → u ≤ 72 * pc S → D5 cb c → He c hv → ∃ c' hv', o_lyo F τ n 10 f c (nI cell) (nI S) (nI a) (nI u) = some c' ∧ D5 cb c' ∧ He c' hv' ∧ LO m (fbC cb cell du) du u S a hv hv' := by
  intro f
  induction f with
  | zero => intro S a u c hv hS hf; have := (x_m hm hS).2.1; omega
  | succ f ih =>
    intro S a u c hv hS hf ha hu hD hH
    obtain ⟨S16, pS, xS⟩ := x_m hm hS
    have loop : ∀ (r i f2 : Nat) (c : cS) (hv : Nat → Nat), i + r = m → r < f2 → D5 cb c → He c hv → ∃ c' hv', o_X4_layOn_20 F τ n 10 (o_lyo F τ n 10 f) (nI cell) (nI S) (nI a) (nI u) f2 (nI i) c = some c' ∧ D5 cb c' ∧ He c' hv' ∧ LK m (fbC cb cell du) du u S a i hv hv' := by
      intro r
      induction r with
      | zero =>
        intro i f2 c hv hi hf2 hD hH
        obtain ⟨f2, rfl⟩ : ∃ x, f2 = x + 1 := ⟨f2 - 1, by omega⟩
        rw [o_X4_layOn_20, show c.1 (10 + 131) 7 = nI m by rw [hD.1 _ (by decide)]; exact em, if_pos (nI_yes (by omega) (by omega) (by omega))]
        exact ⟨c, hv, rfl, hD, hH, fun _ _ => Nat.le_refl _, fun k _ _ _ k0 k1 => by omega, fun _ _ => Or.inl rfl⟩
      | succ r ih2 =>
        intro i f2 c hv hi hf2 hD hH
        obtain ⟨f2, rfl⟩ : ∃ x, f2 = x + 1 := ⟨f2 - 1, by omega⟩
        have i4 : i < 4 := by omega
        have y := y3 S16 i4
        obtain ⟨d1, d2⟩ := ed i (by omega)
        have skip : (S.testBit i = true ∨ fbC cb cell du i a = none) → ∃ c' hv', o_X4_layOn_20 F τ n 10 (o_lyo F τ n 10 f) (nI cell) (nI S) (nI a) (nI u) f2 (nI (i + 1)) c = some c' ∧ D5 cb c' ∧ He c' hv' ∧ LK m (fbC cb cell du) du u S a i hv hv' := fun hq => by
          obtain ⟨c1, hv1, a1, a2, a3, a4⟩ := ih2 (i + 1) f2 c hv (by omega) (by omega) hD hH
          exact ⟨c1, hv1, a1, a2, a3, a4.skip hq⟩
        rw [o_X4_layOn_20, show c.1 (10 + 131) 7 = nI m by rw [hD.1 _ (by decide)]; exact em, if_neg (nI_no (by omega) (by omega) (by omega)), nI_shr (by omega) (by omega), nI_and, nI_add i 1]
        cases hb : S.testBit i with
        | true =>
          rw [y.2 hb, if_neg (show ¬ (nI 1 : Int32) = 0 by decide)]
          exact skip (Or.inl hb)
        | false =>
          obtain ⟨y1, y2, y3⟩ := y.1 hb
          rw [y1, if_pos (show (nI 0 : Int32) = 0 from nI_0), if_pos (iL_t i4 (by decide)), cg_n _ _ (by omega), show c.1 (10 + 164) i = nI (du i) by rw [hD.1 _ (by decide)]; exact d1]
          by_cases q : du i = 0
          · rw [if_pos (show nI (du i) ≤ 0 from nI_yes (y := 0) (by omega) (by decide) (by omega))]
            exact skip (Or.inr (by unfold fbC; rw [if_pos q]))
          · rw [if_neg (show ¬ nI (du i) ≤ 0 from nI_no (y := 0) (by omega) (by decide) (by omega)), cg_n _ _ (by omega), o_fbg hF hc ha, Option.bind_some]
            have ef : fst1 (pw c cell (c.1 (10 + 135) i)) (73 - a) a = fbC cb cell du i a := by
              unfold fbC
              rw [if_neg q, pw_same hD hc, hD.1 (10 + 135) (by decide)]
            rw [ef]
            cases eg : fbC cb cell du i a with
            | none =>
              rw [show eC none = -1 from rfl, if_pos rfl]
              exact skip (Or.inr eg)
            | some g =>
              have g72 : g ≤ 72 := by
                rw [← ef] at eg
                have := fst1_le _ _ _ eg
                omega
              rw [show eC (some g) = nI g from rfl, if_neg (nI_nm1 (by omega)), nI_shl (by omega), nI_or, y2, nI_add, nI_add]
              obtain ⟨c1, hv1, a1, a2, a3, a4⟩ := ih (S ^^^ 2 ^ i) (g + du i) (u + g) c hv (xS i (by omega)) (by omega) (by omega) (by omega) hD hH
              obtain ⟨c2, hv2, b1, b2, b3, b4⟩ := ih2 (i + 1) f2 c1 hv1 (by omega) (by omega) a2 a3
              rw [a1, Option.bind_some]
              exact ⟨c2, hv2, b1, b2, b3, LK.take (by omega) hm S16 hb eg a4 b4⟩
    have hH2 : He (cp c 175 S (mni (c.1 175 S) (nI u))) (upm hv S u) := fun T hT => by
      obtain ⟨t1, t2⟩ := hH T hT
      obtain ⟨s1, s2⟩ := hH S S16
      unfold upm
      rw [cp_q]
      by_cases e : T = S
      · subst e
        rw [if_pos rfl, upd_s, t1, mni_n (by omega) (by omega)]
        exact ⟨rfl, Nat.le_trans (Nat.min_le_left _ _) t2⟩
      · rw [if_neg e, upd_n e]
        exact ⟨t1, t2⟩
    obtain ⟨c1, hv1, a1, a2, a3, a4⟩ := loop m 0 F _ _ (by omega) (by omega) (hD.put (x := mni (c.1 175 S) (nI u)) (j := S)) hH2
    rw [o_lyo]
    unfold o_X4_layOn
    rw [if_pos (iL_t S16 (by decide)), cg_n _ _ (by omega), ca_n _ _ (by omega), show (10 + 165 : Nat) = 175 from rfl, a1, Option.bind_some]
    exact ⟨c1, hv1, rfl, a2, a3, a4.lo hm S16⟩
end LAY
/-! THE PURE LAYER: bringing in, the sets of the class -/
section JOIN
variable {F : Nat} {τ : cT} {n m cell k i S : Nat} {c c' cb : cS} {fb : Nat → Nat → Option Nat} {du sv hv : Nat → Nat}
theorem x_dn {S P : Nat} (hS : S < 16) (h : P &&& S = P) (hP : 1 ≤ P) : S ^^^ P < S ∧ P ≤ S := by
  have all : ∀ S, S < 16 → ∀ P, P < 16 → (P &&& S = P ∧ 1 ≤ P → S ^^^ P < S ∧ P ≤ S) := by decide +kernel
  exact all S hS P (x_sub hS h) ⟨h, hP⟩
/-- the least sum of a set, with one berth more -/
def JN (sv hv : Nat → Nat) (S y : Nat) : Prop := y ≤ sv S ∧ (∀ P, 1 ≤ P → P &&& S = P → y ≤ sv (S ^^^ P) + hv P) ∧ (y = sv S ∨ ∃ P, 1 ≤ P ∧ P &&& S = P ∧ y = sv (S ^^^ P) + hv P)
theorem jn_loop (hS : S < 16) (e6 : ∀ T, T < S → c.1 176 T = nI (sv T) ∧ sv T ≤ 1000000) (e5 : He c hv) : ∀ (r p f l : Nat), p + r = S + 1 → 1 ≤ p → r < f → l ≤ 1000000 → ∃ y, y ≤ 1000000 ∧ o_X4_joinSets_9 F τ n 10 (nI S) c f (nI l) (nI p) = some (nI y) ∧ y ≤ l ∧ (∀ P, p ≤ P → P &&& S = P → y ≤ sv (S ^^^ P) + hv P) ∧ (y = l ∨ ∃ P, 1 ≤ P ∧ P &&& S = P ∧ y = sv (S ^^^ P) + hv P) := by
  intro r
  induction r with
  | zero =>
    intro p f l hp h1 hf hl
    obtain ⟨f, rfl⟩ : ∃ x, f = x + 1 := ⟨f - 1, by omega⟩
    rw [o_X4_joinSets_9, if_pos ((nI_ltI (by omega) (by omega)).mpr (by omega))]
    exact ⟨l, hl, rfl, Nat.le_refl _, fun P q1 q2 => by have := (x_dn hS q2 (by omega)).2; omega, Or.inl rfl⟩
  | succ r ih =>
    intro p f l hp h1 hf hl
    obtain ⟨f, rfl⟩ : ∃ x, f = x + 1 := ⟨f - 1, by omega⟩
    rw [o_X4_joinSets_9, if_neg (nI_ngt (by omega) (by omega) (by omega)), nI_and, nI_add p 1]
    by_cases q : p &&& S = p
    · obtain ⟨d1, d2⟩ := x_dn hS q h1
      have z1 := e6 _ d1
      have z2 := e5 p (by omega)
      rw [q, if_pos rfl, nI_xor, if_pos (iL_t (show S ^^^ p < 16 by omega) (by decide)), if_pos (iL_t (show p < 16 by omega) (by decide)), cg_n _ _ (by omega), cg_n _ _ (by omega), show c.1 (10 + 166) (S ^^^ p) = nI (sv (S ^^^ p)) from z1.1, show c.1 (10 + 165) p = nI (hv p) from z2.1, nI_add, mni_n (by omega) (by omega)]
      have m1 : min l (sv (S ^^^ p) + hv p) ≤ l := Nat.min_le_left _ _
      have m2 : min l (sv (S ^^^ p) + hv p) ≤ sv (S ^^^ p) + hv p := Nat.min_le_right _ _
      obtain ⟨y, y0, y1, y2, y3, y4⟩ := ih (p + 1) f (min l (sv (S ^^^ p) + hv p)) (by omega) (by omega) (by omega) (by omega)
      refine ⟨y, y0, y1, by omega, fun P q1 q2 => ?_, ?_⟩
      · by_cases e : P = p
        · subst e; omega
        · exact y3 P (by omega) q2
      · rcases y4 with y4 | y4
        · rcases Nat.le_total l (sv (S ^^^ p) + hv p) with g | g
          · rw [Nat.min_eq_left g] at y4; exact Or.inl y4
          · rw [Nat.min_eq_right g] at y4; exact Or.inr ⟨p, h1, q, y4⟩
        · exact Or.inr y4
    · rw [if_neg (fun e => q ((nI_eq (by have : p &&& S ≤ p := Nat.and_le_left; omega) (by omega)).mp e))]
      obtain ⟨y, y0, y1, y2, y3, y4⟩ := ih (p + 1) f l (by omega) (by omega) (by omega) hl
      refine ⟨y, y0, y1, y2, fun P q1 q2 => ?_, y4⟩
      by_cases e : P = p
      · subst e; exact absurd q2 q
      · exact y3 P (by omega) q2
theorem o_join (hF : 18 < F) (hS : S < 16) (e6 : ∀ T, T ≤ S → c.1 176 T = nI (sv T) ∧ sv T ≤ 1000000) (e5 : He c hv) : ∃ y, y ≤ 1000000 ∧ o_X4_joinSets F τ n 10 c (nI S) = some (cp c 176 S (nI y)) ∧ JN sv hv S y := by
  obtain ⟨y, y0, y1, y2, y3, y4⟩ := jn_loop (F := F) (τ := τ) (n := n) hS (fun T hT => e6 T (by omega)) e5 S 1 F (sv S) (by omega) (Nat.le_refl _) (by omega) (e6 S (Nat.le_refl _)).2
  refine ⟨y, y0, ?_, y2, fun P q1 q2 => y3 P q1 q2, y4⟩
  unfold o_X4_joinSets
  rw [if_pos (iL_t hS (by decide)), cg_n _ _ (by omega), show c.1 (10 + 166) S = nI (sv S) from (e6 S (Nat.le_refl _)).1, y1, Option.bind_some, ca_n _ _ (by omega)]
/-- all sets, from the greatest down -/
theorem us_loop (hF : 18 < F) {a1 M : Nat} (hM : M < 16) (e5 : He cb hv) : ∀ (S f : Nat) (c : cS) (sc : Nat → Nat), S ≤ M → S < f → (∀ q, q ≠ 176 → c.1 q = cb.1 q) → c.2 = cb.2 → (∀ T, T < 16 → c.1 176 T = nI (sc T) ∧ sc T ≤ 1000000) → (∀ T, T ≤ S → sc T = sv T) → (∀ T, S < T → T ≤ M → JN sv hv T (sc T)) → ∃ (c' : cS) (sc' : Nat → Nat), o_X4_useBerth_124 F τ n 10 a1 f (nI S) c = some c' ∧ (∀ q, q ≠ 176 → c'.1 q = cb.1 q) ∧ c'.2 = cb.2 ∧ (∀ T, T < 16 → c'.1 176 T = nI (sc' T) ∧ sc' T ≤ 1000000) ∧ (∀ T, T ≤ M → JN sv hv T (sc' T)) := by
  intro S
  induction S with
  | zero =>
    intro f c sc hS hf h1 h2 h3 h4 h5
    obtain ⟨f, rfl⟩ : ∃ x, f = x + 1 := ⟨f - 1, by omega⟩
    rw [o_X4_useBerth_124, if_pos (show (nI 0 : Int32) ≤ 0 by decide)]
    refine ⟨c, sc, rfl, h1, h2, h3, fun T hT => ?_⟩
    by_cases e : T = 0
    · subst e
      rw [h4 0 (Nat.le_refl _)]
      exact ⟨Nat.le_refl _, fun P q1 q2 => by rw [Nat.and_zero] at q2; omega, Or.inl rfl⟩
    · exact h5 T (by omega) hT
  | succ S ih =>
    intro f c sc hS hf h1 h2 h3 h4 h5
    obtain ⟨f, rfl⟩ : ∃ x, f = x + 1 := ⟨f - 1, by omega⟩
    have e5' : He c hv := fun T hT => by rw [h1 175 (by decide)]; exact e5 T hT
    obtain ⟨y, y0, y1, y2⟩ := o_join (F := F) (τ := τ) (n := n) (c := c) (sv := sv) (hv := hv) hF (show S + 1 < 16 by omega) (fun T hT => by rw [← h4 T hT]; exact h3 T (by omega)) e5'
    rw [o_X4_useBerth_124, if_neg (show ¬ nI (S + 1) ≤ 0 from nI_no (y := 0) (by omega) (by decide) (by omega)), y1, Option.bind_some, nI_neg1 (by omega), show S + 1 - 1 = S by omega]
    refine ih f _ (fun T => if T = S + 1 then y else sc T) (by omega) (by omega) (fun q hq => by rw [cp_1 _ hq]; exact h1 q hq) h2 (fun T hT => ?_) (fun T hT => ?_) (fun T q1 q2 => ?_)
    · rw [cp_q]
      by_cases e : T = S + 1
      · subst e
        show upd _ _ _ _ = nI (if S + 1 = S + 1 then y else sc (S + 1)) ∧ (if S + 1 = S + 1 then y else sc (S + 1)) ≤ _
        rw [upd_s, if_pos rfl]; exact ⟨rfl, y0⟩
      · show upd _ _ _ _ = nI (if T = S + 1 then y else sc T) ∧ (if T = S + 1 then y else sc T) ≤ _
        rw [upd_n e, if_neg e]; exact h3 T hT
    · show (if T = S + 1 then y else sc T) = sv T
      rw [if_neg (by omega)]; exact h4 T (by omega)
    · show JN sv hv T (if T = S + 1 then y else sc T)
      by_cases e : T = S + 1
      · rw [if_pos e, e]; exact y2
      · rw [if_neg e]; exact h5 T (by omega) q2
/-- how long a ship would hold the berth -/
def hdu (len cr cell : Nat) (tn ln : Nat → Nat) (k : Nat) : Nat := if len < ln k then 0 else (tn k + cr - 1) / cr + cell / 6 + 6
theorem hdu_le {len cr : Nat} {tn ln : Nat → Nat} (hc : cell < 24) (ht : tn k ≤ 20000) (hcr : cr ≤ 500) : hdu len cr cell tn ln k ≤ 40000 := by
  unfold hdu
  have : (tn k + cr - 1) / cr ≤ tn k + cr - 1 := Nat.div_le_self _ _
  by_cases e : len < ln k
  · rw [if_pos e]; omega
  · rw [if_neg e]; omega
theorem ho_loop {a1 len cr : Nat} {tn ln : Nat → Nat} (hm : m ≤ 4) (ha : a1 < 100) (hc : cell < 24) (hcr : 1 ≤ cr) (hcr2 : cr ≤ 500) (hlen : len < 2 ^ 31) (e7 : cb.1 141 7 = nI m) (b0 : cb.1 a1 0 = nI cell) (b1 : cb.1 a1 1 = nI len) (b2 : cb.1 a1 2 = nI cr) (et : ∀ k, k < m → cb.1 146 k = nI (tn k) ∧ tn k ≤ 20000) (el : ∀ k, k < m → cb.1 147 k = nI (ln k) ∧ ln k < 2 ^ 31) : ∀ (r i f : Nat) (c : cS), i + r = m → r < f → (∀ q, q ≠ 174 → c.1 q = cb.1 q) → c.2 = cb.2 → (∀ k, k < i → c.1 174 k = nI (hdu len cr cell tn ln k)) → ∃ c', o_X4_useBerth_10 F τ n 10 a1 f (nI i) c = some c' ∧ (∀ q, q ≠ 174 → c'.1 q = cb.1 q) ∧ c'.2 = cb.2 ∧ (∀ k, k < m → c'.1 174 k = nI (hdu len cr cell tn ln k)) := by
  intro r
  induction r with
  | zero =>
    intro i f c hi hf h1 h2 h3
    obtain ⟨f, rfl⟩ : ∃ x, f = x + 1 := ⟨f - 1, by omega⟩
    rw [o_X4_useBerth_10, show c.1 (10 + 131) 7 = nI m by rw [h1 _ (by decide)]; exact e7, if_pos (nI_yes (by omega) (by omega) (by omega))]
    exact ⟨c, rfl, h1, h2, fun k hk => h3 k (by omega)⟩
  | succ r ih =>
    intro i f c hi hf h1 h2 h3
    obtain ⟨f, rfl⟩ : ∃ x, f = x + 1 := ⟨f - 1, by omega⟩
    have i4 : i < 4 := by omega
    obtain ⟨t1, t2⟩ := et i (by omega)
    obtain ⟨l1, l2⟩ := el i (by omega)
    have nxt : ∀ c'' : cS, c'' = cp c 174 i (nI (hdu len cr cell tn ln i)) → ∃ c', o_X4_useBerth_10 F τ n 10 a1 f (nI (i + 1)) c'' = some c' ∧ (∀ q, q ≠ 174 → c'.1 q = cb.1 q) ∧ c'.2 = cb.2 ∧ (∀ k, k < m → c'.1 174 k = nI (hdu len cr cell tn ln k)) := fun c'' e => by
      subst e
      refine ih (i + 1) f _ (by omega) (by omega) (fun q hq => by rw [cp_1 _ hq]; exact h1 q hq) h2 (fun k hk => ?_)
      rw [cp_q]
      by_cases e : k = i
      · subst e; rw [upd_s]
      · rw [upd_n e]; exact h3 k (by omega)
    rw [o_X4_useBerth_10, show c.1 (10 + 131) 7 = nI m by rw [h1 _ (by decide)]; exact e7, if_neg (nI_no (by omega) (by omega) (by omega)), if_pos (iL_t i4 (by decide)), h1 a1 (by omega), b0, b1, b2, if_pos (show ¬ nI cr = 0 from nI_inj (b := 0) (by omega) (by decide) (by omega)), cg_n _ _ (by omega), cg_n _ _ (by omega), show c.1 (10 + 137) i = nI (ln i) by rw [h1 _ (by decide)]; exact l1, show c.1 (10 + 136) i = nI (tn i) by rw [h1 _ (by decide)]; exact t1, nI_add i 1, ca_n _ _ (by omega), ca_n _ _ (by omega)]
    by_cases q : len < ln i
    · rw [if_pos ((nI_ltI hlen l2).mpr q)]
      exact nxt _ (by unfold hdu; rw [if_pos q])
    · rw [if_neg (nI_ngt hlen l2 (by omega)), Option.bind_some, nI_add, nI_sub (by omega), nI_divN (by omega) (by omega), nI_divN (by omega) (by decide), nI_add, nI_add]
      exact nxt _ (by unfold hdu; rw [if_neg q])
theorem fbC_same {c c' : cS} (h : ∀ q, q < 174 → c'.1 q = c.1 q) : fbC c' cell du = fbC c cell du := by
  funext k a
  unfold fbC
  have e : pw c' cell (c'.1 145 k) = pw c cell (c.1 145 k) := by
    funext g
    have := Nat.mod_lt g (show 0 < 25 by decide)
    unfold pw
    rw [h _ (by omega), h 145 (by decide)]
  rw [e]
/-- one berth of the class -/
theorem o_use {a1 len cr a : Nat} {tn ln : Nat → Nat} (hF : 100 < F) (hm : m ≤ 4) (ha : a1 < 100) (hc : cell < 24) (hcr : 1 ≤ cr) (hcr2 : cr ≤ 500) (hlen : len < 2 ^ 31) (e7 : c.1 141 7 = nI m) (b0 : c.1 a1 0 = nI cell) (b1 : c.1 a1 1 = nI len) (b2 : c.1 a1 2 = nI cr) (b7 : (c.1 a1 7 = -1 ∧ a = 1) ∨ (¬ c.1 a1 7 = -1 ∧ a = 24)) (et : ∀ k, k < m → c.1 146 k = nI (tn k) ∧ tn k ≤ 20000) (el : ∀ k, k < m → c.1 147 k = nI (ln k) ∧ ln k < 2 ^ 31) (e6 : ∀ T, T < 16 → c.1 176 T = nI (sv T) ∧ sv T ≤ 1000000) : ∃ (c' : cS) (sv' hv : Nat → Nat), o_X4_useBerth F τ n 10 a1 c = some c' ∧ (∀ q, q < 174 ∨ 176 < q → c'.1 q = c.1 q) ∧ c'.2 = c.2 ∧ (∀ T, T < 16 → c'.1 176 T = nI (sv' T) ∧ sv' T ≤ 1000000) ∧ (∀ P t, P < 16 → Lb m (fbC c cell (hdu len cr cell tn ln)) (hdu len cr cell tn ln) 4 a P t → hv P ≤ t) ∧ (∀ T, T < 16 → hv T = 1000000 ∨ Lb m (fbC c cell (hdu len cr cell tn ln)) (hdu len cr cell tn ln) 4 a T (hv T)) ∧ (∀ T, T < 2 ^ m → JN sv hv T (sv' T)) := by
  obtain ⟨c1, a1', a2, a3, a4⟩ := ho_loop (F := F) (τ := τ) (n := n) hm ha hc hcr hcr2 hlen e7 b0 b1 b2 et el m 0 F c (by omega) (by omega) (fun _ _ => rfl) rfl (fun k hk => by omega)
  obtain ⟨c2, d1, d2, d3, d4⟩ := o_filR (F := F) (τ := τ) (n := n) (q := 175) (c := c1) (y := nI 1000000) (m := 16) (by omega) (by decide)
  have k2 : ∀ q, q ≠ 174 → q ≠ 175 → c2.1 q = c.1 q := fun q q1 q2 => by rw [d2 q q2]; exact a2 q q1
  obtain ⟨c3, hv, f1, f2, f3, f4⟩ := o_lay (F := F) (τ := τ) (n := n) (cb := c2) (du := hdu len cr cell tn ln) (by omega) hm hc (by rw [k2 141 (by decide) (by decide)]; exact e7) (fun k hk => ⟨by rw [d2 174 (by decide)]; exact a4 k hk, hdu_le hc (et k hk).2 hcr2⟩) 8 0 a 0 c2 (fun _ => 1000000) (Nat.pow_pos (by decide)) (by show m + 1 ≤ 0 + 8; omega) (by omega) (by omega) D5.refl (fun T hT => ⟨d4 T hT, Nat.le_refl _⟩)
  have ef : fbC c2 cell (hdu len cr cell tn ln) = fbC c cell (hdu len cr cell tn ln) := fbC_same (fun q hq => k2 q (by omega) (by omega))
  rw [ef] at f4
  have k3 : ∀ q, q ≠ 174 → q ≠ 175 → c3.1 q = c.1 q := fun q q1 q2 => by rw [f2.1 q q2]; exact k2 q q1 q2
  have M16 : 2 ^ m - 1 < 16 := by have : 2 ^ m ≤ 2 ^ 4 := Nat.pow_le_pow_right (by decide) hm; omega
  have M1 : 1 ≤ 2 ^ m := Nat.pow_pos (by decide)
  obtain ⟨c4, sv', g1, g2, g3, g4, g5⟩ := us_loop (F := F) (τ := τ) (n := n) (a1 := a1) (sv := sv) (by omega) M16 f3 (2 ^ m - 1) F c3 sv (Nat.le_refl _) (by omega) (fun _ _ => rfl) rfl (fun T hT => by rw [k3 176 (by decide) (by decide)]; exact e6 T hT) (fun _ _ => rfl) (fun T h1 h2 => by omega)
  refine ⟨c4, sv', hv, ?_, ?_, ?_, g4, ?_, ?_, fun T hT => g5 T (by omega)⟩
  · unfold o_X4_useBerth
    have em : (nI 1 : Int32) <<< (c3.1 (10 + 131) 7 &&& 31) - nI 1 = nI (2 ^ m - 1) := by
      rw [k3 (10 + 131) (by decide) (by decide), show c.1 (10 + 131) 7 = nI m from e7, nI_shl (by omega), Nat.one_mul, nI_sub M1]
    rw [b2, if_pos (show 0 < nI cr from (nI_ltI (a := 0) (by decide) (by omega)).mpr (by omega)), a1', Option.bind_some, show (10 + 165 : Nat) = 175 from rfl, d1, Option.bind_some, k2 a1 (by omega) (by omega), b0]
    unfold o_lyo8
    rcases b7 with ⟨q1, q2⟩ | ⟨q1, q2⟩
    · subst q2
      rw [if_pos q1, f1, Option.bind_some, em, g1, Option.bind_some]
    · subst q2
      rw [if_neg q1, f1, Option.bind_some, em, g1, Option.bind_some]
  · intro q hq
    rw [g2 q (by omega)]
    exact k3 q (by omega) (by omega)
  · rw [g3, f2.2, d3, a3]
  · intro P t hP hL
    have := f4.2.1 P t hP (Nat.and_zero _) hL
    rw [Nat.zero_xor] at this
    omega
  · intro T hT
    rcases f4.2.2 T hT with e | ⟨P, t, p1, p2, p3, p4, p5⟩
    · exact Or.inl e
    · rw [Nat.zero_xor] at p3
      subst p3
      rw [Nat.zero_add] at p5
      rw [p5]
      exact Or.inr p4
end JOIN
/-! THE PURE LAYER: bringing in, all berths of the class -/
section SUMS
variable {F : Nat} {τ : cT} {n m B k i : Nat} {c c' cB : cS} {fb : Nat → Nat → Nat → Option Nat} {du : Nat → Nat → Nat} {sv sv' hv fr : Nat → Nat}
/-- the sums of the class are the least at the first berths -/
def SV (m : Nat) (fb : Nat → Nat → Nat → Option Nat) (du : Nat → Nat → Nat) (fr : Nat → Nat) (B : Nat) (sv : Nat → Nat) : Prop := ∀ S, S < 2 ^ m → (∀ t, Ab m fb du fr B S t → sv S ≤ t) ∧ (sv S = 1000000 ∨ Ab m fb du fr B S (sv S))
theorem SV_step (hm : m ≤ 4) (h : SV m fb du fr B sv) (h1 : ∀ P t, P < 16 → Lb m (fb B) (du B) 4 (fr B) P t → hv P ≤ t) (h2 : ∀ T, T < 16 → hv T = 1000000 ∨ Lb m (fb B) (du B) 4 (fr B) T (hv T)) (h3 : ∀ T, T < 2 ^ m → JN sv hv T (sv' T)) (h4 : ∀ T, T < 16 → sv' T ≤ 1000000) : SV m fb du fr (B + 1) sv' := by
  intro S hS
  have S16 := (x_m hm hS).1
  obtain ⟨j1, j2, j3⟩ := h3 S hS
  have sub : ∀ P, P &&& S = P → S ^^^ P < 2 ^ m := fun P hP => Nat.xor_lt_two_pow hS (by have : P &&& S ≤ S := Nat.and_le_right; omega)
  constructor
  · intro t ht
    obtain ⟨P, t1, t2, p1, p2, p3, p4⟩ := ht
    have a1 := (h _ (sub P p1)).1 t1 p2
    have a2 := h1 P t2 (x_sub S16 p1) p3
    by_cases e : P = 0
    · subst e; rw [Nat.xor_zero] at a1; omega
    · have := j2 P (by omega) p1
      omega
  · rcases j3 with e | ⟨P, p1, p2, p3⟩
    · rw [e]
      rcases (h S hS).2 with g | g
      · exact Or.inl g
      · exact Or.inr ⟨0, sv S, 0, Nat.zero_and _, by rw [Nat.xor_zero]; exact g, Or.inl ⟨rfl, rfl⟩, rfl⟩
    · have l := h4 S S16
      rcases (h _ (sub P p2)).2 with g | g
      · exact Or.inl (by omega)
      · rcases h2 P (x_sub S16 p2) with g2 | g2
        · exact Or.inl (by omega)
        · exact Or.inr ⟨P, _, _, p2, g, g2, p3⟩
theorem SV_skip (h : SV m fb du fr B sv) (h1 : ∀ k a, fb B k a = none) : SV m fb du fr (B + 1) sv := by
  intro S hS
  obtain ⟨g1, g2⟩ := h S hS
  constructor
  · intro t ht
    obtain ⟨P, t1, t2, p1, p2, p3, p4⟩ := ht
    rcases p3 with p3 | ⟨k, g, t', q1, q2, q3, q4, q5⟩
    · rw [p3.1, Nat.xor_zero] at p2
      have := g1 t1 p2
      omega
    · rw [h1] at q3; cases q3
  · rcases g2 with g2 | g2
    · exact Or.inl g2
    · exact Or.inr ⟨0, sv S, 0, Nat.zero_and _, by rw [Nat.xor_zero]; exact g2, Or.inl ⟨rfl, rfl⟩, rfl⟩
theorem SV_0 (h0 : sv 0 = 0) (h1 : ∀ T, 1 ≤ T → T < 16 → sv T = 1000000) (hm : m ≤ 4) : SV m fb du fr 0 sv := by
  intro S hS
  have S16 := (x_m hm hS).1
  constructor
  · intro t ht
    rw [ht.1, h0]; omega
  · by_cases e : S = 0
    · subst e; rw [h0]; exact Or.inr ⟨rfl, rfl⟩
    · exact Or.inl (h1 S (by omega) S16)
theorem Lb_le {fb : Nat → Nat → Option Nat} {du : Nat → Nat} (hf : ∀ k a h, fb k a = some h → h ≤ 72) : ∀ (j a P t : Nat), Lb m fb du j a P t → t ≤ 72 * j := by
  intro j
  induction j with
  | zero => intro a P t h; rw [h.2]; omega
  | succ j ih =>
    intro a P t h
    rcases h with h | ⟨k, g, t', q1, q2, q3, q4, q5⟩
    · rw [h.2]; omega
    · have := hf _ _ _ q3
      have := ih _ _ _ q5
      omega
theorem Ab_le (hf : ∀ b k a h, fb b k a = some h → h ≤ 72) : ∀ (B S t : Nat), Ab m fb du fr B S t → t ≤ 288 * B := by
  intro B
  induction B with
  | zero => intro S t h; rw [h.2]; omega
  | succ B ih =>
    intro S t h
    obtain ⟨P, t1, t2, p1, p2, p3, p4⟩ := h
    have := ih _ _ p2
    have := Lb_le (hf B) 4 _ _ _ p3
    omega
/-- what the berths and the ships are -/
def BQ (c : cS) (m : Nat) (nb : Nat) (tn : Nat → Nat) (ln : Nat → Nat) (bc : Nat → Nat) (bl : Nat → Nat) (br : Nat → Nat) (fr : Nat → Nat) (sh : Nat → Bool) : Prop :=
  (m ≤ 4) ∧
  (nb ≤ 10) ∧
  (c.1 141 7 = nI m) ∧
  (c.1 37 1 = nI nb) ∧
  (∀ k, k < m → c.1 146 k = nI (tn k) ∧ tn k ≤ 20000) ∧
  (∀ k, k < m → c.1 147 k = nI (ln k) ∧ ln k < 2 ^ 31) ∧
  (∀ b, b < nb → c.1 (39 + b) 0 = nI (bc b) ∧ bc b < 24) ∧
  (∀ b, b < nb → c.1 (39 + b) 1 = nI (bl b) ∧ bl b < 2 ^ 31) ∧
  (∀ b, b < nb → c.1 (39 + b) 2 = nI (br b) ∧ 1 ≤ br b ∧ br b ≤ 500) ∧
  (∀ b, b < nb → (sh b = true ↔ ¬ c.1 (39 + b) 5 < nI 240)) ∧
  (∀ b, b < nb → (c.1 (39 + b) 7 = -1 ∧ fr b = 1) ∨ (¬ c.1 (39 + b) 7 = -1 ∧ fr b = 24))
theorem BQ.mk {c : cS} {m : Nat} {nb : Nat} {tn : Nat → Nat} {ln : Nat → Nat} {bc : Nat → Nat} {bl : Nat → Nat} {br : Nat → Nat} {fr : Nat → Nat} {sh : Nat → Bool} (h0 : m ≤ 4) (h1 : nb ≤ 10) (h2 : c.1 141 7 = nI m) (h3 : c.1 37 1 = nI nb) (h4 : ∀ k, k < m → c.1 146 k = nI (tn k) ∧ tn k ≤ 20000) (h5 : ∀ k, k < m → c.1 147 k = nI (ln k) ∧ ln k < 2 ^ 31) (h6 : ∀ b, b < nb → c.1 (39 + b) 0 = nI (bc b) ∧ bc b < 24) (h7 : ∀ b, b < nb → c.1 (39 + b) 1 = nI (bl b) ∧ bl b < 2 ^ 31) (h8 : ∀ b, b < nb → c.1 (39 + b) 2 = nI (br b) ∧ 1 ≤ br b ∧ br b ≤ 500) (h9 : ∀ b, b < nb → (sh b = true ↔ ¬ c.1 (39 + b) 5 < nI 240)) (h10 : ∀ b, b < nb → (c.1 (39 + b) 7 = -1 ∧ fr b = 1) ∨ (¬ c.1 (39 + b) 7 = -1 ∧ fr b = 24)) : BQ c m nb tn ln bc bl br fr sh := by
  unfold BQ
  exact ⟨h0, h1, h2, h3, h4, h5, h6, h7, h8, h9, h10⟩
theorem BQ.m4 {c : cS} {m : Nat} {nb : Nat} {tn : Nat → Nat} {ln : Nat → Nat} {bc : Nat → Nat} {bl : Nat → Nat} {br : Nat → Nat} {fr : Nat → Nat} {sh : Nat → Bool} (h : BQ c m nb tn ln bc bl br fr sh) : m ≤ 4 := (show _ from by unfold BQ at h; exact h.1)
theorem BQ.nb {c : cS} {m : Nat} {nb : Nat} {tn : Nat → Nat} {ln : Nat → Nat} {bc : Nat → Nat} {bl : Nat → Nat} {br : Nat → Nat} {fr : Nat → Nat} {sh : Nat → Bool} (h : BQ c m nb tn ln bc bl br fr sh) : nb ≤ 10 := (show _ from by unfold BQ at h; exact h.2.1)
theorem BQ.e7 {c : cS} {m : Nat} {nb : Nat} {tn : Nat → Nat} {ln : Nat → Nat} {bc : Nat → Nat} {bl : Nat → Nat} {br : Nat → Nat} {fr : Nat → Nat} {sh : Nat → Bool} (h : BQ c m nb tn ln bc bl br fr sh) : c.1 141 7 = nI m := (show _ from by unfold BQ at h; exact h.2.2.1)
theorem BQ.en {c : cS} {m : Nat} {nb : Nat} {tn : Nat → Nat} {ln : Nat → Nat} {bc : Nat → Nat} {bl : Nat → Nat} {br : Nat → Nat} {fr : Nat → Nat} {sh : Nat → Bool} (h : BQ c m nb tn ln bc bl br fr sh) : c.1 37 1 = nI nb := (show _ from by unfold BQ at h; exact h.2.2.2.1)
theorem BQ.et {c : cS} {m : Nat} {nb : Nat} {tn : Nat → Nat} {ln : Nat → Nat} {bc : Nat → Nat} {bl : Nat → Nat} {br : Nat → Nat} {fr : Nat → Nat} {sh : Nat → Bool} (h : BQ c m nb tn ln bc bl br fr sh) : ∀ k, k < m → c.1 146 k = nI (tn k) ∧ tn k ≤ 20000 := (show _ from by unfold BQ at h; exact h.2.2.2.2.1)
theorem BQ.el {c : cS} {m : Nat} {nb : Nat} {tn : Nat → Nat} {ln : Nat → Nat} {bc : Nat → Nat} {bl : Nat → Nat} {br : Nat → Nat} {fr : Nat → Nat} {sh : Nat → Bool} (h : BQ c m nb tn ln bc bl br fr sh) : ∀ k, k < m → c.1 147 k = nI (ln k) ∧ ln k < 2 ^ 31 := (show _ from by unfold BQ at h; exact h.2.2.2.2.2.1)
theorem BQ.b0 {c : cS} {m : Nat} {nb : Nat} {tn : Nat → Nat} {ln : Nat → Nat} {bc : Nat → Nat} {bl : Nat → Nat} {br : Nat → Nat} {fr : Nat → Nat} {sh : Nat → Bool} (h : BQ c m nb tn ln bc bl br fr sh) : ∀ b, b < nb → c.1 (39 + b) 0 = nI (bc b) ∧ bc b < 24 := (show _ from by unfold BQ at h; exact h.2.2.2.2.2.2.1)
theorem BQ.b1 {c : cS} {m : Nat} {nb : Nat} {tn : Nat → Nat} {ln : Nat → Nat} {bc : Nat → Nat} {bl : Nat → Nat} {br : Nat → Nat} {fr : Nat → Nat} {sh : Nat → Bool} (h : BQ c m nb tn ln bc bl br fr sh) : ∀ b, b < nb → c.1 (39 + b) 1 = nI (bl b) ∧ bl b < 2 ^ 31 := (show _ from by unfold BQ at h; exact h.2.2.2.2.2.2.2.1)
theorem BQ.b2 {c : cS} {m : Nat} {nb : Nat} {tn : Nat → Nat} {ln : Nat → Nat} {bc : Nat → Nat} {bl : Nat → Nat} {br : Nat → Nat} {fr : Nat → Nat} {sh : Nat → Bool} (h : BQ c m nb tn ln bc bl br fr sh) : ∀ b, b < nb → c.1 (39 + b) 2 = nI (br b) ∧ 1 ≤ br b ∧ br b ≤ 500 := (show _ from by unfold BQ at h; exact h.2.2.2.2.2.2.2.2.1)
theorem BQ.b5 {c : cS} {m : Nat} {nb : Nat} {tn : Nat → Nat} {ln : Nat → Nat} {bc : Nat → Nat} {bl : Nat → Nat} {br : Nat → Nat} {fr : Nat → Nat} {sh : Nat → Bool} (h : BQ c m nb tn ln bc bl br fr sh) : ∀ b, b < nb → (sh b = true ↔ ¬ c.1 (39 + b) 5 < nI 240) := (show _ from by unfold BQ at h; exact h.2.2.2.2.2.2.2.2.2.1)
theorem BQ.b7 {c : cS} {m : Nat} {nb : Nat} {tn : Nat → Nat} {ln : Nat → Nat} {bc : Nat → Nat} {bl : Nat → Nat} {br : Nat → Nat} {fr : Nat → Nat} {sh : Nat → Bool} (h : BQ c m nb tn ln bc bl br fr sh) : ∀ b, b < nb → (c.1 (39 + b) 7 = -1 ∧ fr b = 1) ∨ (¬ c.1 (39 + b) 7 = -1 ∧ fr b = 24) := (show _ from by unfold BQ at h; exact h.2.2.2.2.2.2.2.2.2.2)
noncomputable def fbB (c : cS) (tn ln bc bl br : Nat → Nat) (sh : Nat → Bool) (b k a : Nat) : Option Nat := if sh b = true then none else fbC c (bc b) (hdu (bl b) (br b) (bc b) tn ln) k a
def duB (tn ln bc bl br : Nat → Nat) (b k : Nat) : Nat := hdu (bl b) (br b) (bc b) tn ln k
theorem bt_loop {nb : Nat} {tn ln bc bl br : Nat → Nat} {sh : Nat → Bool} (hF : 100 < F) (h : BQ cB m nb tn ln bc bl br fr sh) : ∀ (r b f : Nat) (c : cS) (sv : Nat → Nat), b + r = nb → r < f → (∀ q, q < 174 ∨ 176 < q → c.1 q = cB.1 q) → c.2 = cB.2 → (∀ T, T < 16 → c.1 176 T = nI (sv T) ∧ sv T ≤ 1000000) → SV m (fbB cB tn ln bc bl br sh) (duB tn ln bc bl br) fr b sv → ∃ (c' : cS) (sv' : Nat → Nat), o_X2_leastToBringIn_139 F τ n 10 f (nI b) c = some c' ∧ (∀ q, q < 174 ∨ 176 < q → c'.1 q = cB.1 q) ∧ c'.2 = cB.2 ∧ (∀ T, T < 16 → c'.1 176 T = nI (sv' T) ∧ sv' T ≤ 1000000) ∧ SV m (fbB cB tn ln bc bl br sh) (duB tn ln bc bl br) fr nb sv' := by
  intro r
  have nb10 := h.nb
  induction r with
  | zero =>
    intro b f c sv hb hf h1 h2 h3 h4
    obtain ⟨f, rfl⟩ : ∃ x, f = x + 1 := ⟨f - 1, by omega⟩
    rw [o_X2_leastToBringIn_139, show c.1 (10 + 27) 1 = nI nb by rw [h1 _ (by omega)]; exact h.en, if_pos (nI_yes (by omega) (by omega) (by omega))]
    obtain rfl : b = nb := by omega
    exact ⟨c, sv, rfl, h1, h2, h3, h4⟩
  | succ r ih =>
    intro b f c sv hb hf h1 h2 h3 h4
    obtain ⟨f, rfl⟩ : ∃ x, f = x + 1 := ⟨f - 1, by omega⟩
    have hbn : b < nb := by omega
    rw [o_X2_leastToBringIn_139, show c.1 (10 + 27) 1 = nI nb by rw [h1 _ (by omega)]; exact h.en, if_neg (nI_no (by omega) (by omega) (by omega)), if_pos (iL_t (show b < 10 by omega) (by decide)), nI_clamp (by omega), show 10 + 28 + 1 + b = 39 + b by omega, o_closed, Option.bind_some, nI_add b 1, h1 (39 + b) (by omega)]
    by_cases q : cB.1 (39 + b) 5 < nI 240
    · have q' : ¬ sh b = true := fun e => (h.b5 b hbn).mp e q
      have ef : fbB cB tn ln bc bl br sh b = fbC c (bc b) (hdu (bl b) (br b) (bc b) tn ln) := by
        rw [fbC_same (c := cB) (c' := c) (fun q hq => h1 q (by omega))]
        funext k a
        unfold fbB
        rw [if_neg q']
      rw [if_pos q, if_pos (show (nI 0 : Int32) = 0 from nI_0)]
      obtain ⟨x0, y0⟩ := h.b0 b hbn
      obtain ⟨x1, y1⟩ := h.b1 b hbn
      obtain ⟨x2, y2, y3⟩ := h.b2 b hbn
      obtain ⟨c1, sv1, hv, a1, a2, a3, a4, a5, a6, a7⟩ := o_use (F := F) (τ := τ) (n := n) (c := c) (a1 := 39 + b) (a := fr b) (sv := sv) (tn := tn) (ln := ln) hF h.m4 (by omega) y0 y2 y3 y1 (by rw [h1 _ (by omega)]; exact h.e7) (by rw [h1 _ (by omega)]; exact x0) (by rw [h1 _ (by omega)]; exact x1) (by rw [h1 _ (by omega)]; exact x2) (by rw [h1 _ (by omega)]; exact h.b7 b hbn) (fun k hk => by rw [h1 _ (by omega)]; exact h.et k hk) (fun k hk => by rw [h1 _ (by omega)]; exact h.el k hk) h3
      rw [← ef] at a5 a6
      rw [a1, Option.bind_some]
      exact ih (b + 1) f c1 sv1 (by omega) (by omega) (fun q hq => (a2 q hq).trans (h1 q hq)) (a3.trans h2) a4 (SV_step h.m4 h4 a5 a6 a7 (fun T hT => (a4 T hT).2))
    · rw [if_neg q, if_neg (show ¬ (nI 1 : Int32) = 0 by decide)]
      exact ih (b + 1) f c sv (by omega) (by omega) h1 h2 h3 (SV_skip h4 (fun k a => by unfold fbB; rw [if_pos ((h.b5 b hbn).mpr q)]))
theorem fbB_le {tn ln bc bl br : Nat → Nat} {sh : Nat → Bool} : ∀ b k a h, fbB c tn ln bc bl br sh b k a = some h → h ≤ 72 := by
  intro b k a h e
  unfold fbB fbC at e
  by_cases q : sh b = true
  · rw [if_pos q] at e; cases e
  · rw [if_neg q] at e
    by_cases q2 : hdu (bl b) (br b) (bc b) tn ln k = 0
    · rw [if_pos q2] at e; cases e
    · rw [if_neg q2] at e
      have := fst1_le _ _ _ e
      omega
/-- the least sum that the class tells -/
theorem o_least {nb : Nat} (hm : m ≤ 4) (hn : nb ≤ 10) (e7 : c.1 141 7 = nI m) (e6 : ∀ T, T < 16 → c.1 176 T = nI (sv T) ∧ sv T ≤ 1000000) (hf : ∀ b k a h, fb b k a = some h → h ≤ 72) (h : SV m fb du fr nb sv) : ∃ z, o_X4_leastSum τ n 10 c = some z ∧ ((z = -1 ∧ ∀ t, ¬ Ab m fb du fr nb (2 ^ m - 1) t) ∨ ∃ t, t ≤ 2880 ∧ z = nI t ∧ Ab m fb du fr nb (2 ^ m - 1) t ∧ ∀ t', Ab m fb du fr nb (2 ^ m - 1) t' → t ≤ t') := by
  have M16 : 2 ^ m ≤ 16 := show 2 ^ m ≤ 2 ^ 4 from Nat.pow_le_pow_right (by decide) hm
  have M1 : 1 ≤ 2 ^ m := Nat.pow_pos (by decide)
  have em : (nI 1 : Int32) <<< (c.1 (10 + 131) 7 &&& 31) - nI 1 = nI (2 ^ m - 1) := by
    rw [show c.1 (10 + 131) 7 = nI m from e7, nI_shl (by omega), Nat.one_mul, nI_sub M1]
  obtain ⟨g1, g2⟩ := h (2 ^ m - 1) (by omega)
  obtain ⟨z1, z2⟩ := e6 (2 ^ m - 1) (by omega)
  unfold o_X4_leastSum
  rw [em, if_pos (iL_t (show 2 ^ m - 1 < 16 by omega) (by decide)), cg_n _ _ (by omega), show c.1 (10 + 166) (2 ^ m - 1) = nI (sv (2 ^ m - 1)) from z1]
  by_cases q : sv (2 ^ m - 1) < 1000000
  · rw [if_pos ((nI_ltI (by omega) (by decide)).mpr q)]
    rcases g2 with g2 | g2
    · omega
    · have := Ab_le hf _ _ _ g2
      exact ⟨_, rfl, Or.inr ⟨_, by omega, rfl, g2, g1⟩⟩
  · rw [if_neg (nI_ngt (by omega) (by decide) (by omega))]
    refine ⟨_, rfl, Or.inl ⟨rfl, fun t ht => ?_⟩⟩
    have := g1 t ht
    have := Ab_le hf _ _ _ ht
    omega
end SUMS
