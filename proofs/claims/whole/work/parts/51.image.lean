/-! THE PURE LAYER: the image -/
theorem keep_loop {F : Nat} : ∀ (r f i : Nat) (s : rs_S), i + r = 21334 → r < f → o_X12_keep_7 F f (nI i) s = some (s.1, s.2.1, va_up s.2.2 1 (fun k => if i ≤ k ∧ k < 21334 then s.2.1 k else s.2.2 1 k)) := by
  intro r
  induction r with
  | zero =>
    intro f i s hi hf
    obtain ⟨f, rfl⟩ : ∃ g, f = g + 1 := ⟨f - 1, by omega⟩
    rw [o_X12_keep_7, show i = 21334 by omega, if_pos (Int32.le_refl _)]
    refine congrArg some (Prod.ext rfl (Prod.ext rfl (funext fun q => ?_)))
    show s.2.2 q = va_up s.2.2 1 _ q
    by_cases e : q = 1
    · subst e; rw [va_up_self]; funext k; rw [if_neg (by omega)]
    · rw [va_up_ne _ _ e]
  | succ r ih =>
    intro f i s hi hf
    obtain ⟨f, rfl⟩ : ∃ g, f = g + 1 := ⟨f - 1, by omega⟩
    rw [o_X12_keep_7, if_neg (nI_ge (show i < 21334 by omega) (by decide)), if_pos (iL_t (show i < 22216 by omega) (by decide)), if_pos (iL_t (show i < 21334 by omega) (by decide)), nI_add, gW_n _ (by omega), ih f (i + 1) _ (by omega) (by omega)]
    refine congrArg some (Prod.ext rfl (Prod.ext rfl (funext fun q => ?_)))
    show va_up (va_up s.2.2 1 (upd (s.2.2 1) (nI i).toNatClampNeg (s.2.1 i))) 1 (fun k => if i + 1 ≤ k ∧ k < 21334 then s.2.1 k else va_up s.2.2 1 (upd (s.2.2 1) (nI i).toNatClampNeg (s.2.1 i)) 1 k) q = va_up s.2.2 1 (fun k => if i ≤ k ∧ k < 21334 then s.2.1 k else s.2.2 1 k) q
    by_cases e : q = 1
    · subst e
      rw [va_up_self, va_up_self, va_up_self, nI_clamp (by omega)]
      funext k
      by_cases e2 : k = i
      · subst e2; rw [if_neg (by omega), upd_s, if_pos (by omega)]
      · rw [upd_n e2]
        by_cases e3 : i + 1 ≤ k ∧ k < 21334
        · rw [if_pos e3, if_pos (by omega)]
        · rw [if_neg e3, if_neg (by omega)]
    · rw [va_up_ne _ _ e, va_up_ne _ _ e, va_up_ne _ _ e]
theorem o_keep {F : Nat} (hF : 21335 ≤ F) (s : rs_S) : o_X12_keep F s = some (va_up (pN s 0 (nI 0)).1 3 (nI 1), s.2.1, va_up s.2.2 1 (fun k => if k < 21334 then s.2.1 k else s.2.2 1 k)) := by
  unfold o_X12_keep
  rw [keep_loop 21334 F 0 _ (by omega) (by omega)]
  simp only [Option.bind_some]
  refine congrArg some (Prod.ext rfl (Prod.ext rfl ?_))
  show va_up s.2.2 1 (fun k => if 0 ≤ k ∧ k < 21334 then s.2.1 k else s.2.2 1 k) = va_up s.2.2 1 (fun k => if k < 21334 then s.2.1 k else s.2.2 1 k)
  refine congrArg (va_up s.2.2 1) (funext fun k => ?_)
  by_cases e : k < 21334
  · rw [if_pos e, if_pos ⟨Nat.zero_le _, e⟩]
  · rw [if_neg e, if_neg (fun h => e h.2)]
theorem again_loop {F : Nat} : ∀ (r f i : Nat) (s : rs_S), i + r = 21334 → r < f → o_X12_again_16 F f (nI i) s = some (s.1, (fun k => if i ≤ k ∧ k < 21334 then s.2.2 1 k else s.2.1 k), s.2.2) := by
  intro r
  induction r with
  | zero =>
    intro f i s hi hf
    obtain ⟨f, rfl⟩ : ∃ g, f = g + 1 := ⟨f - 1, by omega⟩
    rw [o_X12_again_16, show i = 21334 by omega, if_pos (Int32.le_refl _)]
    refine congrArg some (Prod.ext rfl (Prod.ext (funext fun k => ?_) rfl))
    show s.2.1 k = if 21334 ≤ k ∧ k < 21334 then s.2.2 1 k else s.2.1 k
    rw [if_neg (by omega)]
  | succ r ih =>
    intro f i s hi hf
    obtain ⟨f, rfl⟩ : ∃ g, f = g + 1 := ⟨f - 1, by omega⟩
    rw [o_X12_again_16, if_neg (nI_ge (show i < 21334 by omega) (by decide)), if_pos (iL_t (show i < 21334 by omega) (by decide)), if_pos (iL_t (show i < 22216 by omega) (by decide)), nI_add, ih f (i + 1) _ (by omega) (by omega)]
    refine congrArg some (Prod.ext rfl (Prod.ext (funext fun k => ?_) rfl))
    show (if i + 1 ≤ k ∧ k < 21334 then s.2.2 1 k else upd s.2.1 (nI i).toNatClampNeg (gR s 1 (nI i)) k) = if i ≤ k ∧ k < 21334 then s.2.2 1 k else s.2.1 k
    have eg : gR s 1 (nI i) = s.2.2 1 i := by unfold gR; rw [nI_clamp (by omega)]
    rw [nI_clamp (by omega), eg]
    by_cases e2 : k = i
    · subst e2; rw [if_neg (by omega), upd_s, if_pos (by omega)]
    · rw [upd_n e2]
      by_cases e3 : i + 1 ≤ k ∧ k < 21334
      · rw [if_pos e3, if_pos (by omega)]
      · rw [if_neg e3, if_neg (by omega)]
theorem o_again0 {F : Nat} {s : rs_S} (h : s.1 3 = nI 0) : o_X12_again F s = some (nI 0, pN s 0 (nI 0)) := by
  unfold o_X12_again
  rw [pN_n (by decide), h, if_pos nI_0]
theorem o_again1 {F : Nat} {s : rs_S} (hF : 21335 ≤ F) (h : s.1 3 = nI 1) : o_X12_again F s = some (nI 1, (pN s 0 (nI 0)).1, (fun k => if k < 21334 then s.2.2 1 k else s.2.1 k), s.2.2) := by
  unfold o_X12_again
  rw [pN_n (by decide), h, if_neg (by decide), again_loop 21334 F 0 _ (by omega) (by omega)]
  simp only [Option.bind_some]
  refine congrArg (fun z => some (nI 1, (pN s 0 (nI 0)).1, z, s.2.2)) (funext fun k => ?_)
  show (if 0 ≤ k ∧ k < 21334 then s.2.2 1 k else s.2.1 k) = _
  by_cases e : k < 21334
  · rw [if_pos e, if_pos ⟨Nat.zero_le _, e⟩]
  · rw [if_neg e, if_neg (fun h => e h.2)]
/-! a Board copied onto another: place by place -/
/-- the numbers of c0, but where S says so those of the Board at a, at the Board at b -/
def mix (c0 : cS) (a b : Nat) (S : Nat → Nat → Bool) (e : Nat → Nat → Option Nat) : cS := (fun q j => if b ≤ q ∧ S (q - b) j = true then c0.1 (a + (q - b)) j else c0.1 q j, e)
def s1 (S : Nat → Nat → Bool) (o j : Nat) : Nat → Nat → Bool := fun o' j' => S o' j' || (decide (o' = o) && decide (j' = j))
def sr (S : Nat → Nat → Bool) (o len : Nat) : Nat → Nat → Bool := fun o' j' => S o' j' || (decide (o' = o) && decide (j' < len))
def far (a b : Nat) : Prop := a + 170 ≤ b ∨ b + 170 ≤ a
def low (S : Nat → Nat → Bool) : Prop := ∀ o j, S o j = true → o < 170
theorem low_1 {S : Nat → Nat → Bool} {o j : Nat} (h : low S) (ho : o < 170) : low (s1 S o j) := fun o' j' h' => by
  simp only [s1, Bool.or_eq_true, Bool.and_eq_true, decide_eq_true_eq] at h'
  rcases h' with h' | h'
  · exact h _ _ h'
  · omega
theorem low_r {S : Nat → Nat → Bool} {o len : Nat} (h : low S) (ho : o < 170) : low (sr S o len) := fun o' j' h' => by
  simp only [sr, Bool.or_eq_true, Bool.and_eq_true, decide_eq_true_eq] at h'
  rcases h' with h' | h'
  · exact h _ _ h'
  · omega
theorem mix_a {c0 : cS} {a b o j : Nat} {S : Nat → Nat → Bool} {e : Nat → Nat → Option Nat} (hf : far a b) (hS : low S) (ho : o < 170) : (mix c0 a b S e).1 (a + o) j = c0.1 (a + o) j := by
  show (if b ≤ a + o ∧ S (a + o - b) j = true then c0.1 (a + (a + o - b)) j else c0.1 (a + o) j) = _
  rw [if_neg]
  rintro ⟨h1, h2⟩
  have := hS _ _ h2
  unfold far at hf
  omega
theorem mix_1 {c0 : cS} {a b o j : Nat} {S : Nat → Nat → Bool} {e : Nat → Nat → Option Nat} : cp (mix c0 a b S e) (b + o) j (c0.1 (a + o) j) = mix c0 a b (s1 S o j) e := by
  refine Prod.ext (funext fun q => funext fun i => ?_) rfl
  show (cp (mix c0 a b S e) (b + o) j (c0.1 (a + o) j)).1 q i = if b ≤ q ∧ s1 S o j (q - b) i = true then c0.1 (a + (q - b)) i else c0.1 q i
  by_cases hq : q = b + o
  · subst hq
    rw [cp_q, Nat.add_sub_cancel_left]
    by_cases hi : i = j
    · subst hi
      rw [upd_s, if_pos ⟨by omega, by simp [s1]⟩]
    · rw [upd_n hi]
      show (if b ≤ b + o ∧ S (b + o - b) i = true then c0.1 (a + (b + o - b)) i else c0.1 (b + o) i) = _
      rw [Nat.add_sub_cancel_left]
      have : s1 S o j o i = S o i := by simp [s1, hi]
      rw [this]
  · rw [cp_1 _ hq]
    show (if b ≤ q ∧ S (q - b) i = true then c0.1 (a + (q - b)) i else c0.1 q i) = _
    by_cases hb : b ≤ q
    · have : s1 S o j (q - b) i = S (q - b) i := by
        have : q - b ≠ o := by omega
        simp [s1, this]
      rw [this]
    · rw [if_neg (by omega), if_neg (by omega)]
theorem mix_r {c0 : cS} {a b o len : Nat} {S : Nat → Nat → Bool} {e : Nat → Nat → Option Nat} (hf : far a b) (hS : low S) (ho : o < 170) : cc (mix c0 a b S e) (a + o) (b + o) len = mix c0 a b (sr S o len) e := by
  refine Prod.ext (funext fun q => funext fun i => ?_) rfl
  show va_up (mix c0 a b S e).1 (b + o) (fun i => if i < len then (mix c0 a b S e).1 (a + o) i else (mix c0 a b S e).1 (b + o) i) q i = if b ≤ q ∧ sr S o len (q - b) i = true then c0.1 (a + (q - b)) i else c0.1 q i
  by_cases hq : q = b + o
  · subst hq
    rw [va_up_self, Nat.add_sub_cancel_left]
    by_cases hi : i < len
    · rw [if_pos hi, mix_a hf hS ho, if_pos ⟨by omega, by simp [sr, hi]⟩]
    · rw [if_neg hi]
      show (if b ≤ b + o ∧ S (b + o - b) i = true then c0.1 (a + (b + o - b)) i else c0.1 (b + o) i) = _
      rw [Nat.add_sub_cancel_left]
      have : sr S o len o i = S o i := by simp [sr, hi]
      rw [this]
  · rw [va_up_ne _ _ hq]
    show (if b ≤ q ∧ S (q - b) i = true then c0.1 (a + (q - b)) i else c0.1 q i) = _
    by_cases hb : b ≤ q
    · have : sr S o len (q - b) i = S (q - b) i := by
        have : q - b ≠ o := by omega
        simp [sr, this]
      rw [this]
    · rw [if_neg (by omega), if_neg (by omega)]
/-- a number is copied -/
theorem mix_c {c0 : cS} {a b o j : Nat} {S : Nat → Nat → Bool} {e : Nat → Nat → Option Nat} (hf : far a b) (hS : low S) (ho : o < 170) : cp (mix c0 a b S e) (b + o) j ((mix c0 a b S e).1 (a + o) j) = mix c0 a b (s1 S o j) e := by
  rw [mix_a hf hS ho, mix_1]
