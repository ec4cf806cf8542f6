/-! THE PURE LAYER: Port.copyFrom, Laws.copyFrom (by program wip/whole/copydec2.py) -/
def eS (e : Nat → Nat → Option Nat) (a b i : Nat) : Nat → Nat → Option Nat := fun q => if b + 40 ≤ q ∧ q < b + 40 + i then va_up (e q) 8 (e (a + (q - b)) 8) else e q
theorem eS_0 (e : Nat → Nat → Option Nat) (a b : Nat) : eS e a b 0 = e := funext fun q => if_neg (by omega)
theorem eS_a {e : Nat → Nat → Option Nat} {a b i o : Nat} (hf : far a b) (hi : i ≤ 80) (ho : o < 170) : eS e a b i (a + o) = e (a + o) := by
  unfold far at hf
  exact if_neg (by omega)
theorem eS_s {e : Nat → Nat → Option Nat} {a b i p : Nat} (hp : e (a + (40 + i)) 8 = some p) : va_up (eS e a b i) (b + (40 + i)) (va_up (eS e a b i (b + (40 + i))) 8 (some p)) = eS e a b (i + 1) := by
  funext q
  by_cases h : q = b + (40 + i)
  · subst h
    rw [va_up_self]
    show va_up (if b + 40 ≤ b + (40 + i) ∧ b + (40 + i) < b + 40 + i then _ else e (b + (40 + i))) 8 (some p) = if b + 40 ≤ b + (40 + i) ∧ b + (40 + i) < b + 40 + (i + 1) then va_up (e (b + (40 + i))) 8 (e (a + (b + (40 + i) - b)) 8) else _
    rw [if_neg (by omega), if_pos (by omega), Nat.add_sub_cancel_left, hp]
  · rw [va_up_ne _ _ h]
    show (if b + 40 ≤ q ∧ q < b + 40 + i then _ else _) = (if b + 40 ≤ q ∧ q < b + 40 + (i + 1) then _ else _)
    by_cases h2 : b + 40 ≤ q ∧ q < b + 40 + i
    · rw [if_pos h2, if_pos (by omega)]
    · rw [if_neg h2, if_neg (by omega)]
theorem mix_b {c0 : cS} {a b o j : Nat} {S : Nat → Nat → Bool} {e : Nat → Nat → Option Nat} (h : S o j = true) : (mix c0 a b S e).1 (b + o) j = c0.1 (a + o) j := by
  show (if b ≤ b + o ∧ S (b + o - b) j = true then c0.1 (a + (b + o - b)) j else _) = _
  rw [Nat.add_sub_cancel_left, if_pos ⟨by omega, h⟩]
theorem cf_ships {F : Nat} {τ : cT} {n a b m : Nat} {c0 : cS} {S : Nat → Nat → Bool} {e : Nat → Nat → Option Nat} (hf : far a b) (hS : low S) (hs : S 27 3 = true) (hm : c0.1 (a + 27) 3 = nI m) (hm2 : m ≤ 80) (hz : ∀ i, i < m → zb (c0.1 (a + (40 + i)) 3) ∧ zb (c0.1 (a + (40 + i)) 17) ∧ ∃ p, e (a + (40 + i)) 8 = some p ∧ acb τ n p = true) : ∀ (r f i : Nat), i + r = m → r < f → o_X5_copyFrom_49 F τ n b a f (nI i) (mix c0 a b (sS S i) (eS e a b i)) = some (mix c0 a b (sS S m) (eS e a b m)) := by
  intro r
  induction r with
  | zero =>
    intro f i hi hf2
    obtain ⟨f, rfl⟩ : ∃ g, f = g + 1 := ⟨f - 1, by omega⟩
    rw [o_X5_copyFrom_49, mix_b (show sS S i 27 3 = true by simp [sS, hs]), hm, show i = m by omega, if_pos (Int32.le_refl _)]
  | succ r ih =>
    intro f i hi hf2
    obtain ⟨f, rfl⟩ : ∃ g, f = g + 1 := ⟨f - 1, by omega⟩
    obtain ⟨z3, z17, p, hp, hpa⟩ := hz i (by omega)
    rw [o_X5_copyFrom_49, mix_b (show sS S i 27 3 = true by simp [sS, hs]), hm, if_neg (nI_ge (show i < m by omega) (by omega)), if_pos (iL_t (show i < 80 by omega) (by decide)), nI_clamp (by omega), nI_add, show b + 39 + 1 + i = b + (40 + i) by omega, show a + 39 + 1 + i = a + (40 + i) by omega, cf_X9 hf (low_S hS (by omega)) (by omega) z3 z17 (by rw [eS_a hf (by omega) (by omega)]; exact hp) hpa, sS_s, eS_s hp]
    exact bs (ih f (i + 1) (by omega) (by omega))
/-- the Port's places -/
def sP (S : Nat → Nat → Bool) (m k : Nat) : Nat → Nat → Bool := s1 (sr (s1 (s1 (sS (s1 (sB (s1 S 27 1) m) 27 3) k) 27 4) 27 5) 120 4) 27 7
theorem cf_X5 {F : Nat} {τ : cT} {n a b m k : Nat} {c0 : cS} {S : Nat → Nat → Bool} {e : Nat → Nat → Option Nat} (hF : 81 ≤ F) (hf : far a b) (hS : low S) (hm : c0.1 (a + 27) 1 = nI m) (hm2 : m ≤ 10) (hk : c0.1 (a + 27) 3 = nI k) (hk2 : k ≤ 80) (hz : ∀ i, i < k → zb (c0.1 (a + (40 + i)) 3) ∧ zb (c0.1 (a + (40 + i)) 17) ∧ ∃ p, e (a + (40 + i)) 8 = some p ∧ acb τ n p = true) : o_X5_copyFrom F τ n b a (mix c0 a b S e) = some (mix c0 a b (sP S m k) (eS e a b k)) ∧ low (sP S m k) := by
  have l0 : low (s1 S 27 1) := low_1 hS (by decide)
  have l1 : low (sB (s1 S 27 1) m) := low_B l0 hm2
  have l2 : low (s1 (sB (s1 S 27 1) m) 27 3) := low_1 l1 (by decide)
  have l3 : low (sS (s1 (sB (s1 S 27 1) m) 27 3) k) := low_S l2 hk2
  have l4 : low (s1 (sS (s1 (sB (s1 S 27 1) m) 27 3) k) 27 4) := low_1 l3 (by decide)
  have l5 : low (s1 (s1 (sS (s1 (sB (s1 S 27 1) m) 27 3) k) 27 4) 27 5) := low_1 l4 (by decide)
  have l6 : low (sr (s1 (s1 (sS (s1 (sB (s1 S 27 1) m) 27 3) k) 27 4) 27 5) 120 4) := low_r l5 (by decide)
  refine ⟨?_, low_1 l6 (by decide)⟩
  unfold o_X5_copyFrom
  have b1 := cf_berths (F := F) (τ := τ) (n := n) (e := e) hf l0 (by simp [s1]) hm hm2 m F 0 (by omega) (by omega)
  rw [sB_0] at b1
  rw [mix_c (o := 27) hf hS (by decide), b1]
  refine bs ?_
  have b2 := cf_ships (F := F) (τ := τ) (n := n) (e := e) hf l2 (by simp [s1]) hk hk2 hz k F 0 (by omega) (by omega)
  rw [sS_0, eS_0] at b2
  rw [mix_c (o := 27) hf l1 (by decide), b2]
  refine bs ?_
  try dsimp only
  rw [mix_c (o := 27) hf l3 (by decide), mix_c (o := 27) hf l4 (by decide)]
  refine bs ?_
  try dsimp only
  rw [mix_r (o := 120) hf l5 (by decide), mix_c (o := 27) hf l6 (by decide)]
  rfl
/-- the texts -/
def eT (e : Nat → Nat → Option Nat) (a b i : Nat) : Nat → Nat → Option Nat := fun q => if q = b + 24 then (fun k => if k < i then e (a + 24) k else e q k) else e q
theorem eT_0 (e : Nat → Nat → Option Nat) (a b : Nat) : eT e a b 0 = e := by
  funext q
  show (if q = b + 24 then (fun k => if k < 0 then _ else e q k) else e q) = e q
  by_cases h : q = b + 24
  · rw [if_pos h]; funext k; rw [if_neg (by omega)]
  · rw [if_neg h]
theorem eT_a {e : Nat → Nat → Option Nat} {a b i o : Nat} (hf : far a b) (ho : o < 170) : eT e a b i (a + o) = e (a + o) := by
  unfold far at hf
  exact if_neg (by omega)
theorem eT_s {e : Nat → Nat → Option Nat} {a b i p : Nat} (hp : e (a + 24) i = some p) : va_up (eT e a b i) (b + 24) (va_up (eT e a b i (b + 24)) i (some p)) = eT e a b (i + 1) := by
  funext q
  by_cases h : q = b + 24
  · subst h
    rw [va_up_self]
    funext k
    show va_up (if b + 24 = b + 24 then (fun k => if k < i then e (a + 24) k else e (b + 24) k) else e (b + 24)) i (some p) k = (if b + 24 = b + 24 then (fun k => if k < i + 1 then e (a + 24) k else e (b + 24) k) else e (b + 24)) k
    rw [if_pos rfl, if_pos rfl]
    by_cases hk : k = i
    · subst hk; rw [va_up_self, if_pos (by omega), hp]
    · rw [va_up_ne _ _ hk]
      by_cases h2 : k < i
      · rw [if_pos h2, if_pos (by omega)]
      · rw [if_neg h2, if_neg (by omega)]
  · rw [va_up_ne _ _ h]
    show (if q = b + 24 then _ else e q) = (if q = b + 24 then _ else e q)
    rw [if_neg h, if_neg h]
theorem cf_texts {F : Nat} {τ : cT} {n a b m : Nat} {c0 : cS} {S : Nat → Nat → Bool} {e : Nat → Nat → Option Nat} (hf : far a b) (hs : S 17 3 = true) (hm : c0.1 (a + 17) 3 = nI m) (hm2 : m ≤ 20) (hz : ∀ i, i < m → ∃ p, e (a + 24) i = some p ∧ acb τ n p = true) : ∀ (r f i : Nat), i + r = m → r < f → o_X3_copyFrom_10 F τ n b a f (nI i) (mix c0 a b S (eT e a b i)) = some (mix c0 a b S (eT e a b m)) := by
  intro r
  induction r with
  | zero =>
    intro f i hi hf2
    obtain ⟨f, rfl⟩ : ∃ g, f = g + 1 := ⟨f - 1, by omega⟩
    rw [o_X3_copyFrom_10, mix_b hs, hm, show i = m by omega, if_pos (Int32.le_refl _)]
  | succ r ih =>
    intro f i hi hf2
    obtain ⟨f, rfl⟩ : ∃ g, f = g + 1 := ⟨f - 1, by omega⟩
    obtain ⟨p, hp, hpa⟩ := hz i (by omega)
    rw [o_X3_copyFrom_10, mix_b hs, hm, if_neg (nI_ge (show i < m by omega) (by omega)), if_pos (iL_t (show i < 20 by omega) (by decide)), nI_clamp (by omega), nI_add, show (mix c0 a b S (eT e a b i)).2 (a + 24) i = some p by show eT e a b i (a + 24) i = some p; rw [eT_a hf (by decide)]; exact hp]
    refine bs ?_
    rw [if_pos hpa, mix_q, eT_s hp]
    exact ih f (i + 1) (by omega) (by omega)
def sD (S : Nat → Nat → Bool) (i : Nat) : Nat → Nat → Bool := sr S 26 i
theorem sD_0 (S : Nat → Nat → Bool) : sD S 0 = S := by
  funext o j
  simp [sD, sr]
theorem sD_s (S : Nat → Nat → Bool) (i : Nat) : s1 (sD S i) 26 i = sD S (i + 1) := by
  funext o j
  cases h : S o j
  · by_cases ho : o = 26
    · subst ho
      by_cases hj : j < i
      · simp [s1, sD, sr, h, hj, Nat.lt_succ_of_lt hj]
      · by_cases hj2 : j = i
        · subst hj2; simp [s1, sD, sr, h]
        · have : ¬ j < i + 1 := by omega
          simp [s1, sD, sr, h, hj, hj2, this]
    · simp [s1, sD, sr, h, ho]
  · simp [s1, sD, sr, h]
theorem cf_said {F : Nat} {τ : cT} {n a b : Nat} {c0 : cS} {S : Nat → Nat → Bool} {e : Nat → Nat → Option Nat} (hf : far a b) (hS : low S) (hz : ∀ i, i < 30 → zb (c0.1 (a + 26) i)) : ∀ (r f i : Nat), i + r = 30 → r < f → o_X3_copyFrom_73 F τ n b a f (nI i) (mix c0 a b (sD S i) e) = some (mix c0 a b (sD S 30) e) := by
  intro r
  induction r with
  | zero =>
    intro f i hi hf2
    obtain ⟨f, rfl⟩ : ∃ g, f = g + 1 := ⟨f - 1, by omega⟩
    rw [o_X3_copyFrom_73, show i = 30 by omega, if_pos (Int32.le_refl _)]
  | succ r ih =>
    intro f i hi hf2
    obtain ⟨f, rfl⟩ : ∃ g, f = g + 1 := ⟨f - 1, by omega⟩
    have hS' : low (sD S i) := low_r hS (by decide)
    rw [o_X3_copyFrom_73, if_neg (nI_ge (show i < 30 by omega) (by decide)), if_pos (iL_t (show i < 30 by omega) (by decide)), nI_add, cg_n _ _ (by omega), ca_n _ _ (by omega), mix_a (o := 26) hf hS' (by decide), zb_v (hz i (by omega)), mix_1, sD_s]
    exact ih f (i + 1) (by omega) (by omega)
/-- the Laws' places and references -/
def sL (S : Nat → Nat → Bool) : Nat → Nat → Bool := s1 (s1 (sD (s1 (s1 (sr (s1 S 17 3) 25 20) 17 4) 17 6) 30) 17 8) 17 9
def eL (e : Nat → Nat → Option Nat) (a b m p : Nat) : Nat → Nat → Option Nat := va_up (eT e a b m) (b + 17) (va_up (eT e a b m (b + 17)) 5 (some p))
theorem cf_X3 {F : Nat} {τ : cT} {n a b m p : Nat} {c0 : cS} {S : Nat → Nat → Bool} {e : Nat → Nat → Option Nat} (hF : 31 ≤ F) (hf : far a b) (hS : low S) (hm : c0.1 (a + 17) 3 = nI m) (hm2 : m ≤ 20) (hz : ∀ i, i < m → ∃ p, e (a + 24) i = some p ∧ acb τ n p = true) (hv : zb (c0.1 (a + 17) 4)) (hp : e (a + 17) 5 = some p) (hpa : acb τ n p = true) (hd : ∀ i, i < 30 → zb (c0.1 (a + 26) i)) : o_X3_copyFrom F τ n b a (mix c0 a b S e) = some (mix c0 a b (sL S) (eL e a b m p)) ∧ low (sL S) := by
  have l0 : low (s1 S 17 3) := low_1 hS (by decide)
  have l1 : low (sr (s1 S 17 3) 25 20) := low_r l0 (by decide)
  have l2 : low (s1 (sr (s1 S 17 3) 25 20) 17 4) := low_1 l1 (by decide)
  have l3 : low (s1 (s1 (sr (s1 S 17 3) 25 20) 17 4) 17 6) := low_1 l2 (by decide)
  have l4 : low (sD (s1 (s1 (sr (s1 S 17 3) 25 20) 17 4) 17 6) 30) := low_r l3 (by decide)
  have l5 : low (s1 (sD (s1 (s1 (sr (s1 S 17 3) 25 20) 17 4) 17 6) 30) 17 8) := low_1 l4 (by decide)
  refine ⟨?_, low_1 l5 (by decide)⟩
  unfold o_X3_copyFrom
  have b1 := cf_texts (F := F) (τ := τ) (n := n) (S := s1 S 17 3) (c0 := c0) hf (by simp [s1]) hm hm2 hz m F 0 (by omega) (by omega)
  rw [eT_0] at b1
  rw [mix_c (o := 17) hf hS (by decide), b1]
  refine bs ?_
  rw [mix_r (o := 25) hf l0 (by decide), mix_a (o := 17) hf l1 (by decide), if_pos hv, mix_1]
  refine bs ?_
  try dsimp only
  rw [show (mix c0 a b (s1 (sr (s1 S 17 3) 25 20) 17 4) (eT e a b m)).2 (a + 17) 5 = some p by show eT e a b m (a + 17) 5 = some p; rw [eT_a hf (by decide)]; exact hp]
  refine bs ?_
  rw [if_pos hpa, mix_q, mix_c (o := 17) hf l2 (by decide)]
  refine bs ?_
  have b2 := cf_said (F := F) (τ := τ) (n := n) (e := va_up (eT e a b m) (b + 17) (va_up (eT e a b m (b + 17)) 5 (some p))) hf l3 hd 30 F 0 (by omega) (by omega)
  rw [sD_0] at b2
  rw [b2]
  refine bs ?_
  try dsimp only
  rw [mix_c (o := 17) hf l4 (by decide), mix_c (o := 17) hf l5 (by decide)]
  rfl
