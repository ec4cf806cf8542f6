/-! THE PURE LAYER: bringing in, a berth of the class -/
section LAY
variable {F : Nat} {τ : cT} {n m cell k i : Nat} {c c' cb : cS} {fb : Nat → Nat → Option Nat} {du : Nat → Nat} {need : Int32}
theorem y1 {S P k : Nat} (hS : S < 16) (hP : P < 16) (hk : k < 4) (h : P &&& S = 0) (hq : P.testBit k = true) : S.testBit k = false ∧ (P ^^^ 2 ^ k) &&& (S ^^^ 2 ^ k) = 0 ∧ (S ^^^ 2 ^ k) ^^^ (P ^^^ 2 ^ k) = S ^^^ P ∧ P ^^^ 2 ^ k < 16 := by
  have k4 : k = 0 ∨ k = 1 ∨ k = 2 ∨ k = 3 := by omega
  rcases k4 with rfl | rfl | rfl | rfl
  · have all0 : ∀ S, S < 16 → ∀ P, P < 16 → (P &&& S = 0 ∧ P.testBit 0 = true → S.testBit 0 = false ∧ (P ^^^ 2 ^ 0) &&& (S ^^^ 2 ^ 0) = 0 ∧ (S ^^^ 2 ^ 0) ^^^ (P ^^^ 2 ^ 0) = S ^^^ P ∧ P ^^^ 2 ^ 0 < 16) := by decide +kernel
    obtain ⟨z0, z1, z2, z3⟩ := all0 S hS P hP ⟨h, hq⟩
    exact ⟨z0, z1, z2, z3⟩
  · have all0 : ∀ S, S < 16 → ∀ P, P < 16 → (P &&& S = 0 ∧ P.testBit 1 = true → S.testBit 1 = false ∧ (P ^^^ 2 ^ 1) &&& (S ^^^ 2 ^ 1) = 0 ∧ (S ^^^ 2 ^ 1) ^^^ (P ^^^ 2 ^ 1) = S ^^^ P ∧ P ^^^ 2 ^ 1 < 16) := by decide +kernel
    obtain ⟨z0, z1, z2, z3⟩ := all0 S hS P hP ⟨h, hq⟩
    exact ⟨z0, z1, z2, z3⟩
  · have all0 : ∀ S, S < 16 → ∀ P, P < 16 → (P &&& S = 0 ∧ P.testBit 2 = true → S.testBit 2 = false ∧ (P ^^^ 2 ^ 2) &&& (S ^^^ 2 ^ 2) = 0 ∧ (S ^^^ 2 ^ 2) ^^^ (P ^^^ 2 ^ 2) = S ^^^ P ∧ P ^^^ 2 ^ 2 < 16) := by decide +kernel
    obtain ⟨z0, z1, z2, z3⟩ := all0 S hS P hP ⟨h, hq⟩
    exact ⟨z0, z1, z2, z3⟩
  · have all0 : ∀ S, S < 16 → ∀ P, P < 16 → (P &&& S = 0 ∧ P.testBit 3 = true → S.testBit 3 = false ∧ (P ^^^ 2 ^ 3) &&& (S ^^^ 2 ^ 3) = 0 ∧ (S ^^^ 2 ^ 3) ^^^ (P ^^^ 2 ^ 3) = S ^^^ P ∧ P ^^^ 2 ^ 3 < 16) := by decide +kernel
    obtain ⟨z0, z1, z2, z3⟩ := all0 S hS P hP ⟨h, hq⟩
    exact ⟨z0, z1, z2, z3⟩
theorem y2 {S P k : Nat} (hS : S < 16) (hP : P < 16) (hk : k < 4) (h : P &&& (S ^^^ 2 ^ k) = 0) (hq : S.testBit k = false) : (P ^^^ 2 ^ k) &&& S = 0 ∧ (P ^^^ 2 ^ k).testBit k = true ∧ (P ^^^ 2 ^ k) ^^^ 2 ^ k = P ∧ S ^^^ (P ^^^ 2 ^ k) = (S ^^^ 2 ^ k) ^^^ P ∧ pc P ≤ 3 ∧ P ^^^ 2 ^ k < 16 := by
  have k4 : k = 0 ∨ k = 1 ∨ k = 2 ∨ k = 3 := by omega
  rcases k4 with rfl | rfl | rfl | rfl
  · have all0 : ∀ S, S < 16 → ∀ P, P < 16 → (P &&& (S ^^^ 2 ^ 0) = 0 ∧ S.testBit 0 = false → (P ^^^ 2 ^ 0) &&& S = 0 ∧ (P ^^^ 2 ^ 0).testBit 0 = true ∧ (P ^^^ 2 ^ 0) ^^^ 2 ^ 0 = P) := by decide +kernel
    obtain ⟨z0, z1, z2⟩ := all0 S hS P hP ⟨h, hq⟩
    have all1 : ∀ S, S < 16 → ∀ P, P < 16 → (P &&& (S ^^^ 2 ^ 0) = 0 ∧ S.testBit 0 = false → S ^^^ (P ^^^ 2 ^ 0) = (S ^^^ 2 ^ 0) ^^^ P ∧ pc P ≤ 3 ∧ P ^^^ 2 ^ 0 < 16) := by decide +kernel
    obtain ⟨z3, z4, z5⟩ := all1 S hS P hP ⟨h, hq⟩
    exact ⟨z0, z1, z2, z3, z4, z5⟩
  · have all0 : ∀ S, S < 16 → ∀ P, P < 16 → (P &&& (S ^^^ 2 ^ 1) = 0 ∧ S.testBit 1 = false → (P ^^^ 2 ^ 1) &&& S = 0 ∧ (P ^^^ 2 ^ 1).testBit 1 = true ∧ (P ^^^ 2 ^ 1) ^^^ 2 ^ 1 = P) := by decide +kernel
    obtain ⟨z0, z1, z2⟩ := all0 S hS P hP ⟨h, hq⟩
    have all1 : ∀ S, S < 16 → ∀ P, P < 16 → (P &&& (S ^^^ 2 ^ 1) = 0 ∧ S.testBit 1 = false → S ^^^ (P ^^^ 2 ^ 1) = (S ^^^ 2 ^ 1) ^^^ P ∧ pc P ≤ 3 ∧ P ^^^ 2 ^ 1 < 16) := by decide +kernel
    obtain ⟨z3, z4, z5⟩ := all1 S hS P hP ⟨h, hq⟩
    exact ⟨z0, z1, z2, z3, z4, z5⟩
  · have all0 : ∀ S, S < 16 → ∀ P, P < 16 → (P &&& (S ^^^ 2 ^ 2) = 0 ∧ S.testBit 2 = false → (P ^^^ 2 ^ 2) &&& S = 0 ∧ (P ^^^ 2 ^ 2).testBit 2 = true ∧ (P ^^^ 2 ^ 2) ^^^ 2 ^ 2 = P) := by decide +kernel
    obtain ⟨z0, z1, z2⟩ := all0 S hS P hP ⟨h, hq⟩
    have all1 : ∀ S, S < 16 → ∀ P, P < 16 → (P &&& (S ^^^ 2 ^ 2) = 0 ∧ S.testBit 2 = false → S ^^^ (P ^^^ 2 ^ 2) = (S ^^^ 2 ^ 2) ^^^ P ∧ pc P ≤ 3 ∧ P ^^^ 2 ^ 2 < 16) := by decide +kernel
    obtain ⟨z3, z4, z5⟩ := all1 S hS P hP ⟨h, hq⟩
    exact ⟨z0, z1, z2, z3, z4, z5⟩
  · have all0 : ∀ S, S < 16 → ∀ P, P < 16 → (P &&& (S ^^^ 2 ^ 3) = 0 ∧ S.testBit 3 = false → (P ^^^ 2 ^ 3) &&& S = 0 ∧ (P ^^^ 2 ^ 3).testBit 3 = true ∧ (P ^^^ 2 ^ 3) ^^^ 2 ^ 3 = P) := by decide +kernel
    obtain ⟨z0, z1, z2⟩ := all0 S hS P hP ⟨h, hq⟩
    have all1 : ∀ S, S < 16 → ∀ P, P < 16 → (P &&& (S ^^^ 2 ^ 3) = 0 ∧ S.testBit 3 = false → S ^^^ (P ^^^ 2 ^ 3) = (S ^^^ 2 ^ 3) ^^^ P ∧ pc P ≤ 3 ∧ P ^^^ 2 ^ 3 < 16) := by decide +kernel
    obtain ⟨z3, z4, z5⟩ := all1 S hS P hP ⟨h, hq⟩
    exact ⟨z0, z1, z2, z3, z4, z5⟩
theorem y3 {S k : Nat} (hS : S < 16) (hk : k < 4) : (S.testBit k = false → S / 2 ^ k &&& 1 = 0 ∧ S ||| 1 * 2 ^ k = S ^^^ 2 ^ k ∧ pc (S ^^^ 2 ^ k) = pc S + 1) ∧ (S.testBit k = true → S / 2 ^ k &&& 1 = 1) := by
  have a1 : ∀ S, S < 16 → ∀ k, k < 4 → (S.testBit k = false → S / 2 ^ k &&& 1 = 0 ∧ S ||| 1 * 2 ^ k = S ^^^ 2 ^ k ∧ pc (S ^^^ 2 ^ k) = pc S + 1) := by decide +kernel
  have a2 : ∀ S, S < 16 → ∀ k, k < 4 → (S.testBit k = true → S / 2 ^ k &&& 1 = 1) := by decide +kernel
  exact ⟨a1 S hS k hk, a2 S hS k hk⟩
/-- the first hour from one on that will do -/
def fst1 (p : Nat → Bool) : Nat → Nat → Option Nat
  | 0, _ => none
  | r + 1, h => if p h = true then some h else fst1 p r (h + 1)
theorem fst1_le {p : Nat → Bool} : ∀ r a h, fst1 p r a = some h → a ≤ h ∧ h < a + r := by
  intro r
  induction r with
  | zero => intro a h e; cases e
  | succ r ih =>
    intro a h e
    rw [fst1] at e
    by_cases q : p a = true
    · rw [if_pos q] at e; injection e with e; omega
    · rw [if_neg q] at e; have := ih _ _ e; omega
/-- the way in bears it -/
def pw (c : cS) (cell : Nat) (need : Int32) (h : Nat) : Bool := decide (¬ c.1 (149 + h % 25) cell < need)
theorem fbg_loop (hc : cell < 24) : ∀ (r a f : Nat), r = 73 - a → a ≤ 50000 → r < f → o_X4_firstBegin_3 F τ n 10 (nI cell) need c f (nI a) = some (match fst1 (pw c cell need) r a with | none => .inl () | some h => .inr (nI h)) := by
  intro r
  induction r with
  | zero =>
    intro a f hr ha hf
    obtain ⟨f, rfl⟩ : ∃ x, f = x + 1 := ⟨f - 1, by omega⟩
    rw [o_X4_firstBegin_3, if_pos ((nI_ltI (by decide) (by omega)).mpr (by omega))]
    rfl
  | succ r ih =>
    intro a f hr ha hf
    obtain ⟨f, rfl⟩ : ∃ x, f = x + 1 := ⟨f - 1, by omega⟩
    have m25 : a % 25 < 25 := Nat.mod_lt _ (by decide)
    rw [o_X4_firstBegin_3, if_neg (nI_ngt (by decide) (by omega) (by omega)), irm_n (by omega) (by decide) (by decide), if_pos (iL_t m25 (by decide)), if_pos (iL_t hc (by decide)), nI_clamp (by omega), cg_n _ _ (by omega), nI_add, fst1]
    by_cases q : c.1 (149 + a % 25) cell < need
    · have q' : ¬ pw c cell need a = true := by unfold pw; rw [decide_eq_true_eq]; exact fun e => e q
      rw [if_pos (show c.1 (10 + 138 + 1 + a % 25) cell < need by rw [show 10 + 138 + 1 + a % 25 = 149 + a % 25 by omega]; exact q), if_neg q', ih (a + 1) f (by omega) (by omega) (by omega)]
    · have q' : pw c cell need a = true := by unfold pw; rw [decide_eq_true_eq]; exact q
      rw [if_neg (show ¬ c.1 (10 + 138 + 1 + a % 25) cell < need by rw [show 10 + 138 + 1 + a % 25 = 149 + a % 25 by omega]; exact q), if_pos q']
theorem o_fbg (hF : 74 < F) (hc : cell < 24) {a : Nat} (ha : a ≤ 50000) : o_X4_firstBegin F τ n 10 c (nI cell) need (nI a) = some (eC (fst1 (pw c cell need) (73 - a) a)) := by
  unfold o_X4_firstBegin
  rw [fbg_loop hc (73 - a) a F rfl ha (by omega), Option.bind_some]
  cases fst1 (pw c cell need) (73 - a) a with
  | none => rfl
  | some h => rfl
/-- what laying on makes of the least sums of a berth -/
def LO (m : Nat) (fb : Nat → Nat → Option Nat) (du : Nat → Nat) (u S a : Nat) (hv hv' : Nat → Nat) : Prop := (∀ T, T < 16 → hv' T ≤ hv T) ∧ (∀ P t, P < 16 → P &&& S = 0 → Lb m fb du 4 a P t → hv' (S ^^^ P) ≤ u + t) ∧ (∀ T, T < 16 → hv' T = hv T ∨ ∃ P t, P < 16 ∧ P &&& S = 0 ∧ T = S ^^^ P ∧ Lb m fb du 4 a P t ∧ hv' T = u + t)
/-- the same, from the ship i on -/
def LK (m : Nat) (fb : Nat → Nat → Option Nat) (du : Nat → Nat) (u S a i : Nat) (hv hv' : Nat → Nat) : Prop := (∀ T, T < 16 → hv' T ≤ hv T) ∧ (∀ k h P t, i ≤ k → k < m → S.testBit k = false → fb k a = some h → P < 16 → P &&& (S ^^^ 2 ^ k) = 0 → Lb m fb du 4 (h + du k) P t → hv' ((S ^^^ 2 ^ k) ^^^ P) ≤ u + h + t) ∧ (∀ T, T < 16 → hv' T = hv T ∨ ∃ k h P t, k < m ∧ S.testBit k = false ∧ fb k a = some h ∧ P < 16 ∧ P &&& (S ^^^ 2 ^ k) = 0 ∧ T = (S ^^^ 2 ^ k) ^^^ P ∧ Lb m fb du 4 (h + du k) P t ∧ hv' T = u + h + t)
def upm (hv : Nat → Nat) (S u : Nat) : Nat → Nat := fun T => if T = S then min (hv S) u else hv T
theorem LK.lo {u S a : Nat} {hv hv' : Nat → Nat} (hm : m ≤ 4) (hS : S < 16) (h : LK m fb du u S a 0 (upm hv S u) hv') : LO m fb du u S a hv hv' := by
  obtain ⟨h1, h2, h3⟩ := h
  have le : ∀ T, upm hv S u T ≤ hv T := fun T => by
    unfold upm
    by_cases e : T = S
    · rw [if_pos e, e]; exact Nat.min_le_left _ _
    · rw [if_neg e]; exact Nat.le_refl _
  refine ⟨fun T hT => Nat.le_trans (h1 T hT) (le T), ?_, ?_⟩
  · intro P t hP hd hL
    rcases hL with hL | ⟨k, h, t', k1, k2, k3, k4, k5⟩
    · rw [hL.1, hL.2, Nat.xor_zero]
      refine Nat.le_trans (h1 S hS) ?_
      unfold upm
      rw [if_pos rfl]
      exact Nat.min_le_right _ _
    · obtain ⟨y1, y2, y3, y4⟩ := y1 hS hP (show k < 4 by omega) hd k2
      have := h2 k h _ t' (Nat.zero_le _) k1 y1 k3 y4 y2 (Lb_fuel hm 3 4 _ _ _ y4 k5 (x_pc y4).2)
      rw [y3] at this
      omega
  · intro T hT
    rcases h3 T hT with e | ⟨k, h, P, t, k1, k2, k3, k4, k5, k6, k7, k8⟩
    · by_cases eS : T = S
      · rw [e]
        unfold upm
        rw [if_pos eS]
        rcases Nat.le_total (hv S) u with g | g
        · rw [Nat.min_eq_left g, eS]; exact Or.inl rfl
        · rw [Nat.min_eq_right g]
          exact Or.inr ⟨0, 0, by decide, Nat.zero_and _, by rw [Nat.xor_zero]; exact eS, Or.inl ⟨rfl, rfl⟩, rfl⟩
      · refine Or.inl ?_
        rw [e]
        unfold upm
        rw [if_neg eS]
    · obtain ⟨y1, y2, y3, y4, y5, y6⟩ := y2 hS k4 (show k < 4 by omega) k5 k2
      refine Or.inr ⟨P ^^^ 2 ^ k, h + t, y6, y1, by rw [y4]; exact k6, Or.inr ⟨k, h, t, k1, y2, k3, rfl, ?_⟩, by omega⟩
      rw [y3]
      exact Lb_fuel hm 4 3 _ _ _ k4 k7 y5
/-- what stays while a berth is reckoned -/
def D5 (c c' : cS) : Prop := (∀ q, q ≠ 175 → c'.1 q = c.1 q) ∧ c'.2 = c.2
theorem D5.refl : D5 c c := ⟨fun _ _ => rfl, rfl⟩
theorem D5.put {x : Int32} {j : Nat} (h : D5 cb c) : D5 cb (cp c 175 j x) := ⟨fun q hq => by rw [cp_1 _ hq]; exact h.1 q hq, h.2⟩
def He (c : cS) (hv : Nat → Nat) : Prop := ∀ T, T < 16 → c.1 175 T = nI (hv T) ∧ hv T ≤ 1000000
noncomputable def fbC (cb : cS) (cell : Nat) (du : Nat → Nat) (k a : Nat) : Option Nat := if du k = 0 then none else fst1 (pw cb cell (cb.1 145 k)) (73 - a) a
theorem pw_same (h : D5 cb c) (hc : cell < 24) (need : Int32) : pw c cell need = pw cb cell need := by
  funext h'
  have := Nat.mod_lt h' (show 0 < 25 by decide)
  unfold pw
  rw [h.1 _ (by omega)]
theorem LK.skip {u S a : Nat} {hv hv' : Nat → Nat} (h : LK m fb du u S a (i + 1) hv hv') (hq : S.testBit i = true ∨ fb i a = none) : LK m fb du u S a i hv hv' := by
  obtain ⟨h1, h2, h3⟩ := h
  refine ⟨h1, ?_, h3⟩
  intro k g P t k0 k1 k2 k3 k4 k5 k6
  by_cases e : k = i
  · subst e
    rcases hq with hq | hq
    · rw [hq] at k2; cases k2
    · rw [hq] at k3; cases k3
  · exact h2 k g P t (by omega) k1 k2 k3 k4 k5 k6
theorem x_lt {T P : Nat} (h1 : T < 16) (h2 : P < 16) : T ^^^ P < 16 := Nat.xor_lt_two_pow (n := 4) h1 h2
theorem LK.take {u S a g : Nat} {hv hv1 hv' : Nat → Nat} (hi : i < m) (hm : m ≤ 4) (hS : S < 16) (hq : S.testBit i = false) (hf : fb i a = some g) (h0 : LO m fb du (u + g) (S ^^^ 2 ^ i) (g + du i) hv hv1) (h : LK m fb du u S a (i + 1) hv1 hv') : LK m fb du u S a i hv hv' := by
  obtain ⟨h1, h2, h3⟩ := h
  obtain ⟨g1, g2, g3⟩ := h0
  have p16 : 2 ^ i < 16 := show 2 ^ i < 2 ^ 4 from Nat.pow_lt_pow_right (by decide) (by omega)
  refine ⟨fun T hT => Nat.le_trans (h1 T hT) (g1 T hT), ?_, ?_⟩
  · intro k g' P t k0 k1 k2 k3 k4 k5 k6
    by_cases e : k = i
    · subst e
      rw [hf] at k3
      injection k3 with k3
      subst k3
      exact Nat.le_trans (h1 _ (x_lt (x_lt hS p16) k4)) (g2 P t k4 k5 k6)
    · exact h2 k g' P t (by omega) k1 k2 k3 k4 k5 k6
  · intro T hT
    rcases h3 T hT with e | e
    · rcases g3 T hT with e2 | ⟨P, t, p1, p2, p3, p4, p5⟩
      · exact Or.inl (e.trans e2)
      · exact Or.inr ⟨i, g, P, t, hi, hq, hf, p1, p2, p3, p4, by omega⟩
    · exact Or.inr e
theorem x_m {S : Nat} (hm : m ≤ 4) (hS : S < 2 ^ m) : S < 16 ∧ pc S ≤ m ∧ ∀ k, k < m → S ^^^ 2 ^ k < 2 ^ m := by
  have l16 : 2 ^ m ≤ 16 := show 2 ^ m ≤ 2 ^ 4 from Nat.pow_le_pow_right (by decide) hm
  have all : ∀ m, m < 5 → ∀ S, S < 16 → (S < 2 ^ m → pc S ≤ m) := by decide +kernel
  exact ⟨by omega, all m (by omega) S (by omega) hS, fun k hk => Nat.xor_lt_two_pow hS (Nat.pow_lt_pow_right (by decide) hk)⟩
theorem o_lay (hF : 74 < F) (hm : m ≤ 4) (hc : cell < 24) (em : cb.1 141 7 = nI m) (ed : ∀ k, k < m → cb.1 174 k = nI (du k) ∧ du k ≤ 40000) : ∀ (f S a u : Nat) (c : cS) (hv : Nat → Nat), S < 2 ^ m → m + 1 ≤ pc S + f → a ≤ 50000 → u ≤ 72 * pc S → D5 cb c → He c hv → ∃ c' hv', o_lyo F τ n 10 f c (nI cell) (nI S) (nI a) (nI u) = some c' ∧ D5 cb c' ∧ He c' hv' ∧ LO m (fbC cb cell du) du u S a hv hv' := by
  intro f
  induction f with
  | zero => intro S a u c hv hS hf; have := (x_m hm hS).2.1; omega
  | succ f ih =>
    intro S a u c hv hS hf ha hu hD hH
    obtain ⟨S16, pS, xS⟩ := x_m hm hS
    have loop : ∀ (r i f2 : Nat) (c : cS) (hv : Nat → Nat), i + r = m → r < f2 → D5 cb c → He c hv → ∃ c' hv', o_X4_layOn_20 F τ n 10 (o_lyo F τ n 10 f) (nI cell) (nI S) (nI a) (nI u) f2 (nI i) c = some c' ∧ D5 cb c' ∧ He c' hv' ∧ LK m (fbC cb cell du) du u S a i hv hv' := by
      intro r
      induction r with
      | zero =>
        intro i f2 c hv hi hf2 hD hH
        obtain ⟨f2, rfl⟩ : ∃ x, f2 = x + 1 := ⟨f2 - 1, by omega⟩
        rw [o_X4_layOn_20, show c.1 (10 + 131) 7 = nI m by rw [hD.1 _ (by decide)]; exact em, if_pos (nI_yes (by omega) (by omega) (by omega))]
        exact ⟨c, hv, rfl, hD, hH, fun _ _ => Nat.le_refl _, fun k _ _ _ k0 k1 => by omega, fun _ _ => Or.inl rfl⟩
      | succ r ih2 =>
        intro i f2 c hv hi hf2 hD hH
        obtain ⟨f2, rfl⟩ : ∃ x, f2 = x + 1 := ⟨f2 - 1, by omega⟩
        have i4 : i < 4 := by omega
        have y := y3 S16 i4
        obtain ⟨d1, d2⟩ := ed i (by omega)
        have skip : (S.testBit i = true ∨ fbC cb cell du i a = none) → ∃ c' hv', o_X4_layOn_20 F τ n 10 (o_lyo F τ n 10 f) (nI cell) (nI S) (nI a) (nI u) f2 (nI (i + 1)) c = some c' ∧ D5 cb c' ∧ He c' hv' ∧ LK m (fbC cb cell du) du u S a i hv hv' := fun hq => by
          obtain ⟨c1, hv1, a1, a2, a3, a4⟩ := ih2 (i + 1) f2 c hv (by omega) (by omega) hD hH
          exact ⟨c1, hv1, a1, a2, a3, a4.skip hq⟩
        rw [o_X4_layOn_20, show c.1 (10 + 131) 7 = nI m by rw [hD.1 _ (by decide)]; exact em, if_neg (nI_no (by omega) (by omega) (by omega)), nI_shr (by omega) (by omega), nI_and, nI_add i 1]
        cases hb : S.testBit i with
        | true =>
          rw [y.2 hb, if_neg (show ¬ (nI 1 : Int32) = 0 by decide)]
          exact skip (Or.inl hb)
        | false =>
          obtain ⟨y1, y2, y3⟩ := y.1 hb
          rw [y1, if_pos (show (nI 0 : Int32) = 0 from nI_0), if_pos (iL_t i4 (by decide)), cg_n _ _ (by omega), show c.1 (10 + 164) i = nI (du i) by rw [hD.1 _ (by decide)]; exact d1]
          by_cases q : du i = 0
          · rw [if_pos (show nI (du i) ≤ 0 from nI_yes (y := 0) (by omega) (by decide) (by omega))]
            exact skip (Or.inr (by unfold fbC; rw [if_pos q]))
          · rw [if_neg (show ¬ nI (du i) ≤ 0 from nI_no (y := 0) (by omega) (by decide) (by omega)), cg_n _ _ (by omega), o_fbg hF hc ha, Option.bind_some]
            have ef : fst1 (pw c cell (c.1 (10 + 135) i)) (73 - a) a = fbC cb cell du i a := by
              unfold fbC
              rw [if_neg q, pw_same hD hc, hD.1 (10 + 135) (by decide)]
            rw [ef]
            cases eg : fbC cb cell du i a with
            | none =>
              rw [show eC none = -1 from rfl, if_pos rfl]
              exact skip (Or.inr eg)
            | some g =>
              have g72 : g ≤ 72 := by
                rw [← ef] at eg
                have := fst1_le _ _ _ eg
                omega
              rw [show eC (some g) = nI g from rfl, if_neg (nI_nm1 (by omega)), nI_shl (by omega), nI_or, y2, nI_add, nI_add]
              obtain ⟨c1, hv1, a1, a2, a3, a4⟩ := ih (S ^^^ 2 ^ i) (g + du i) (u + g) c hv (xS i (by omega)) (by omega) (by omega) (by omega) hD hH
              obtain ⟨c2, hv2, b1, b2, b3, b4⟩ := ih2 (i + 1) f2 c1 hv1 (by omega) (by omega) a2 a3
              rw [a1, Option.bind_some]
              exact ⟨c2, hv2, b1, b2, b3, LK.take (by omega) hm S16 hb eg a4 b4⟩
    have hH2 : He (cp c 175 S (mni (c.1 175 S) (nI u))) (upm hv S u) := fun T hT => by
      obtain ⟨t1, t2⟩ := hH T hT
      obtain ⟨s1, s2⟩ := hH S S16
      unfold upm
      rw [cp_q]
      by_cases e : T = S
      · subst e
        rw [if_pos rfl, upd_s, t1, mni_n (by omega) (by omega)]
        exact ⟨rfl, Nat.le_trans (Nat.min_le_left _ _) t2⟩
      · rw [if_neg e, upd_n e]
        exact ⟨t1, t2⟩
    obtain ⟨c1, hv1, a1, a2, a3, a4⟩ := loop m 0 F _ _ (by omega) (by omega) (hD.put (x := mni (c.1 175 S) (nI u)) (j := S)) hH2
    rw [o_lyo]
    unfold o_X4_layOn
    rw [if_pos (iL_t S16 (by decide)), cg_n _ _ (by omega), ca_n _ _ (by omega), show (10 + 165 : Nat) = 175 from rfl, a1, Option.bind_some]
    exact ⟨c1, hv1, rfl, a2, a3, a4.lo hm S16⟩
end LAY
