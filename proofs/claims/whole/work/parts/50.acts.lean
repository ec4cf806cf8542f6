/-! THE PURE LAYER: which act holds, and its last number of a kind -/
/-- of the first i acts the one of a day -/
def ao (v : Nat → Int32) (t : Int32) : Nat → Option Nat
  | 0 => none
  | i + 1 => if t < v (2812 + 882 * i) then ao v t i else (match ao v t i with
    | none => some i
    | some j => if v (2812 + 882 * i) < v (2812 + 882 * j) then some j else some i)
theorem ao_lt {v : Nat → Int32} {t : Int32} : ∀ {i j : Nat}, ao v t i = some j → j < i := by
  intro i
  induction i with
  | zero => intro j h; cases h
  | succ i ih =>
    intro j h
    rw [ao] at h
    split at h
    · exact Nat.lt_succ_of_lt (ih h)
    · split at h
      · cases h; exact Nat.lt_succ_self _
      · rename_i j' e
        split at h
        · cases h; exact Nat.lt_succ_of_lt (ih e)
        · cases h; exact Nat.lt_succ_self _
theorem onDay_loop {F : Nat} {τ : cT} {n b m : Nat} {c : cS} {v : Nat → Int32} {t : Int32} (e0 : c.1 (b + 17) 3 = nI m) (hd : ∀ i, i < m → c.1 (b + 25) i = v (2812 + 882 * i)) (hm2 : m ≤ 20) : ∀ (r f i : Nat), i + r = m → r < f → o_X3_onDay_4 F τ n b t c f (eC (ao v t i)) (nI i) = some (eC (ao v t m)) := by
  intro r
  induction r with
  | zero =>
    intro f i hi hf
    obtain ⟨f, rfl⟩ : ∃ g, f = g + 1 := ⟨f - 1, by omega⟩
    rw [o_X3_onDay_4, e0, show i = m by omega, if_pos (Int32.le_refl _)]
  | succ r ih =>
    intro f i hi hf
    obtain ⟨f, rfl⟩ : ∃ g, f = g + 1 := ⟨f - 1, by omega⟩
    have ih' := ih f (i + 1) (by omega) (by omega)
    rw [o_X3_onDay_4, e0, if_neg (nI_ge (show i < m by omega) (by omega)), if_pos (iL_t (show i < 20 by omega) (by decide)), cg_n _ _ (by omega), nI_add, hd i (by omega)]
    rw [ao] at ih'
    by_cases h2 : t < v (2812 + 882 * i)
    · rw [if_pos h2] at ih' ⊢
      exact ih'
    · rw [if_neg h2] at ih' ⊢
      cases e : ao v t i with
      | none =>
        rw [e] at ih'
        rw [show eC none = -1 from rfl, if_pos rfl]
        exact ih'
      | some j =>
        rw [e] at ih'
        have hj : j < i := ao_lt e
        rw [show eC (some j) = nI j from rfl, if_neg (nI_nm1 (by omega)), if_pos (iL_t (show j < 20 by omega) (by decide)), cg_n _ _ (by omega), hd j (by omega)]
        by_cases h3 : v (2812 + 882 * i) < v (2812 + 882 * j)
        · rw [if_pos h3]
          simp only [if_pos h3] at ih'
          exact ih'
        · rw [if_neg h3]
          simp only [if_neg h3] at ih'
          exact ih'
theorem o_actAt {s : rs_S} {k : Nat} : o_X12_actAt s (nI k) = some (nI (2812 + 882 * k)) := by unfold o_X12_actAt; rw [nI_mul, nI_add]
theorem actOf_loop {F m : Nat} {s : rs_S} {t : Int32} (hm : s.2.1 2811 = nI m) (hm2 : m ≤ 20) : ∀ (r f i : Nat), i + r = m → r < f → o_X12_actOf_4 F t s f (eC (ao s.2.1 t i)) (nI i) = some (eC (ao s.2.1 t m)) := by
  intro r
  induction r with
  | zero =>
    intro f i hi hf
    obtain ⟨f, rfl⟩ : ∃ g, f = g + 1 := ⟨f - 1, by omega⟩
    rw [o_X12_actOf_4, gW_n _ (by decide), hm, show i = m by omega, if_pos (Int32.le_refl _)]
  | succ r ih =>
    intro f i hi hf
    obtain ⟨f, rfl⟩ : ∃ g, f = g + 1 := ⟨f - 1, by omega⟩
    have ih' := ih f (i + 1) (by omega) (by omega)
    rw [o_X12_actOf_4, gW_n s (show 2811 < 2 ^ 31 by decide), hm, if_neg (nI_ge (show i < m by omega) (by omega)), o_actAt, nI_add]
    simp only [Option.bind_some]
    rw [if_pos (iL_t (show 2812 + 882 * i < 22216 by omega) (by decide)), gW_n _ (by omega)]
    rw [ao] at ih'
    by_cases h2 : t < s.2.1 (2812 + 882 * i)
    · rw [if_pos h2] at ih' ⊢
      exact ih'
    · rw [if_neg h2] at ih' ⊢
      cases e : ao s.2.1 t i with
      | none =>
        rw [e] at ih'
        rw [show eC none = -1 from rfl, if_pos (by decide)]
        exact ih'
      | some j =>
        rw [e] at ih'
        have hj : j < i := ao_lt e
        rw [show eC (some j) = nI j from rfl, if_neg (nI_pos (by omega)), o_actAt]
        simp only [Option.bind_some]
        rw [if_pos (iL_t (show 2812 + 882 * i < 22216 by omega) (by decide)), if_pos (iL_t (show 2812 + 882 * j < 22216 by omega) (by decide)), gW_n _ (by omega)]
        by_cases h3 : s.2.1 (2812 + 882 * i) < s.2.1 (2812 + 882 * j)
        · rw [if_pos h3]
          simp only [if_pos h3] at ih'
          exact ih'
        · rw [if_neg h3]
          simp only [if_neg h3] at ih'
          exact ih'
theorem o_actOf {F m : Nat} {s : rs_S} {t : Int32} (hF : 21 ≤ F) (hm : s.2.1 2811 = nI m) (hm2 : m ≤ 20) : o_X12_actOf F s t = some (eC (ao s.2.1 t m)) := by
  unfold o_X12_actOf
  have h := actOf_loop (F := F) (t := t) hm hm2 m F 0 (by omega) (by omega)
  rw [show eC (ao s.2.1 t 0) = -1 from rfl] at h
  rw [h]
  rfl
/-- the class's act of a day -/
def ap (c : cS) (b : Nat) (o : Option Nat) : Nat := match o with
  | none => b + 18
  | some j => (c.2 (b + 24) j).getD 0
theorem o_onDay {F : Nat} {τ : cT} {n b m : Nat} {c : cS} {v : Nat → Int32} {t : Int32} (hF : 21 ≤ F) (e0 : c.1 (b + 17) 3 = nI m) (hd : ∀ i, i < m → c.1 (b + 25) i = v (2812 + 882 * i)) (hp : ∀ i, i < m → ∃ p, c.2 (b + 24) i = some p ∧ acb τ n p = true) (hm2 : m ≤ 20) : o_X3_onDay F τ n b c t = some (ap c b (ao v t m)) := by
  unfold o_X3_onDay
  have h := onDay_loop (F := F) (τ := τ) (n := n) (t := t) e0 hd hm2 m F 0 (by omega) (by omega)
  rw [show eC (ao v t 0) = -1 from rfl] at h
  rw [h]
  simp only [Option.bind_some]
  cases e : ao v t m with
  | none => rw [show eC none = -1 from rfl, if_pos rfl]; rfl
  | some j =>
    have hj : j < m := ao_lt e
    obtain ⟨p, hp1, hp2⟩ := hp j hj
    rw [show eC (some j) = nI j from rfl, if_neg (nI_nm1 (by omega)), if_pos (iL_t (show j < 20 by omega) (by decide)), nI_clamp (by omega), hp1]
    simp only [Option.bind_some]
    rw [if_pos hp2]
    show some p = some ((c.2 (b + 24) j).getD 0)
    rw [hp1]
    rfl
theorem ap_acb {τ : cT} {n b m : Nat} {c : cS} {v : Nat → Int32} {t : Int32} (hB : Bd τ n b) (hp : ∀ i, i < m → ∃ p, c.2 (b + 24) i = some p ∧ acb τ n p = true) : acb τ n (ap c b (ao v t m)) = true := by
  cases e : ao v t m with
  | none => exact hB.noLines
  | some j =>
    obtain ⟨p, hp1, hp2⟩ := hp j (ao_lt e)
    show acb τ n ((c.2 (b + 24) j).getD 0) = true
    rw [hp1]
    exact hp2
theorem o_actOfToday {F : Nat} {τ : cT} {n b m : Nat} {c : cS} {v : Nat → Int32} (hF : 21 ≤ F) (hB : Bd τ n b) (eh : c.1 b 0 = v 0) (e0 : c.1 (b + 17) 3 = nI m) (hd : ∀ i, i < m → c.1 (b + 25) i = v (2812 + 882 * i)) (hp : ∀ i, i < m → ∃ p, c.2 (b + 24) i = some p ∧ acb τ n p = true) (hm2 : m ≤ 20) : o_X2_actOfToday F τ n b c = some (ap c b (ao v (v 0 / nI 24) m)) := by
  unfold o_X2_actOfToday o_X2_today
  rw [eh]
  simp only [Option.bind_some]
  rw [o_onDay hF e0 hd hp hm2]
  simp only [Option.bind_some]
  rw [if_pos (ap_acb hB hp)]
/-- the last number of a kind -/
def lnb (kd nm : Nat → Int32) (x w : Int32) : Nat → Int32
  | 0 => w
  | i + 1 => if kd i = x then nm i else lnb kd nm x w i
theorem lnb_rel {kd nm kd' nm' : Nat → Int32} {x w w' : Int32} {R : Int32 → Int32 → Prop} (hw : R w w') : ∀ L, (∀ i, i < L → kd i = kd' i ∧ (kd i = x → R (nm i) (nm' i))) → R (lnb kd nm x w L) (lnb kd' nm' x w' L) := by
  intro L
  induction L with
  | zero => intro _; exact hw
  | succ L ih =>
    intro h
    obtain ⟨h1, h2⟩ := h L (Nat.lt_succ_self _)
    rw [lnb, lnb, ← h1]
    by_cases e : kd L = x
    · rw [if_pos e, if_pos e]; exact h2 e
    · rw [if_neg e, if_neg e]; exact ih (fun i hi => h i (Nat.lt_succ_of_lt hi))
theorem lastN_loop {F : Nat} {τ : cT} {n p L : Nat} {c : cS} {x w : Int32} (hL : L ≤ 20) (t1 : tl τ (p + 1) = L) (t2 : tl τ (p + 2) = L) : ∀ (i f : Nat), i ≤ L → i < f → ∃ r, o_X0_lastNumber_7 F τ n p x w c f (nI i - nI 1) = some r ∧ Sum.elim (fun _ => w) (fun z => z) r = lnb (c.1 (p + 1)) (c.1 (p + 2)) x w i := by
  intro i
  induction i with
  | zero =>
    intro f hi hf
    obtain ⟨f, rfl⟩ : ∃ g, f = g + 1 := ⟨f - 1, by omega⟩
    exact ⟨.inl (), by rw [o_X0_lastNumber_7, if_pos (by decide)], rfl⟩
  | succ i ih =>
    intro f hi hf
    obtain ⟨f, rfl⟩ : ∃ g, f = g + 1 := ⟨f - 1, by omega⟩
    obtain ⟨r, h1, h2⟩ := ih f (by omega) (by omega)
    rw [show nI (i + 1) - nI 1 = nI i from nI_pred i, o_X0_lastNumber_7, if_neg (nI_pos (by omega)), t1, t2, if_pos (iL_t (show i < L by omega) (by omega)), cg_n _ _ (by omega), cg_n _ _ (by omega), lnb]
    by_cases e : c.1 (p + 1) i = x
    · rw [if_pos e, if_pos e, if_pos (iL_t (show i < L by omega) (by omega))]
      exact ⟨_, rfl, rfl⟩
    · rw [if_neg e, if_neg e, show nI i + (-1) = nI i - nI 1 by rw [Int32.sub_eq_add_neg, show -nI 1 = (-1 : Int32) by decide]]
      exact ⟨r, h1, h2⟩
theorem o_lastNumber {F : Nat} {τ : cT} {n p L : Nat} {c : cS} {x w : Int32} (hF : 21 ≤ F) (hL : L ≤ 20) (h0 : c.1 p 0 = nI L) (t1 : tl τ (p + 1) = L) (t2 : tl τ (p + 2) = L) : o_X0_lastNumber F τ n p c x w = some (lnb (c.1 (p + 1)) (c.1 (p + 2)) x w L) := by
  unfold o_X0_lastNumber
  obtain ⟨r, h1, h2⟩ := lastN_loop (F := F) (τ := τ) (n := n) (c := c) (x := x) (w := w) hL t1 t2 L F (Nat.le_refl _) (by omega)
  rw [h0, h1]
  simp only [Option.bind_some]
  rw [← h2]
  cases r <;> rfl
theorem o_linesOf {s : rs_S} {a L : Nat} (ha : a ≤ 21) (hL : s.2.1 (2812 + 882 * a + 1) = nI L) : o_X12_linesOf s (nI a) = some (nI L) := by
  unfold o_X12_linesOf
  rw [if_pos (nI_pos' (by omega)), o_actAt]
  simp only [Option.bind_some, nI_add]
  rw [if_pos (iL_t (show 2812 + 882 * a + 1 < 22216 by omega) (by decide)), gW_n _ (by omega), hL]
theorem lastOf_loop {F a L : Nat} {s : rs_S} {x w : Int32} (ha : a ≤ 21) (hL : s.2.1 (2812 + 882 * a + 1) = nI L) (hL2 : L ≤ 20) : ∀ (r f i : Nat), i + r = L → r < f → o_X12_lastOf_15 F x (nI a) s f (lnb (fun k => s.2.1 (2812 + 882 * a + 2 + 4 * k)) (fun k => s.2.1 (2812 + 882 * a + 2 + 4 * k + 1)) x w i) (nI i) = some (lnb (fun k => s.2.1 (2812 + 882 * a + 2 + 4 * k)) (fun k => s.2.1 (2812 + 882 * a + 2 + 4 * k + 1)) x w L) := by
  intro r
  induction r with
  | zero =>
    intro f i hi hf
    obtain ⟨f, rfl⟩ : ∃ g, f = g + 1 := ⟨f - 1, by omega⟩
    rw [o_X12_lastOf_15, o_linesOf ha hL]
    simp only [Option.bind_some]
    rw [show i = L by omega, if_pos (Int32.le_refl _)]
  | succ r ih =>
    intro f i hi hf
    obtain ⟨f, rfl⟩ : ∃ g, f = g + 1 := ⟨f - 1, by omega⟩
    have ih' := ih f (i + 1) (by omega) (by omega)
    rw [o_X12_lastOf_15, o_linesOf ha hL]
    simp only [Option.bind_some]
    rw [if_neg (nI_ge (show i < L by omega) (by omega)), o_actAt]
    simp only [Option.bind_some, nI_add, nI_mul]
    rw [if_pos (iL_t (show 2812 + 882 * a + 2 + 4 * i < 22216 by omega) (by decide)), gW_n _ (by omega), if_pos (iL_t (show 2812 + 882 * a + 2 + 4 * i + 1 < 22216 by omega) (by decide)), gW_n _ (by omega)]
    rw [lnb] at ih'
    by_cases e : s.2.1 (2812 + 882 * a + 2 + 4 * i) = x
    · rw [if_pos e] at ih' ⊢; exact ih'
    · rw [if_neg e] at ih' ⊢; exact ih'
/-- the reference's last number of a kind, of the act of today -/
def lo (v : Nat → Int32) (m : Nat) (x w : Int32) : Int32 := match ao v (v 0 / nI 24) m with
  | none => w
  | some a => lnb (fun k => v (2812 + 882 * a + 2 + 4 * k)) (fun k => v (2812 + 882 * a + 2 + 4 * k + 1)) x w (v (2812 + 882 * a + 1)).toNatClampNeg
theorem o_lastOf {F m : Nat} {s : rs_S} {x w : Int32} (hF : 21 ≤ F) (hm : s.2.1 2811 = nI m) (hm2 : m ≤ 20) (hl : ∀ a, a < m → ∃ L, L ≤ 20 ∧ s.2.1 (2812 + 882 * a + 1) = nI L) : o_X12_lastOf F s x w = some (lo s.2.1 m x w) := by
  unfold o_X12_lastOf o_X12_today
  simp only [Option.bind_some]
  rw [gW_n _ (by decide), o_actOf hF hm hm2]
  simp only [Option.bind_some]
  unfold lo
  obtain ⟨F', hF'⟩ : ∃ g, F = g + 1 := ⟨F - 1, by omega⟩
  cases e : ao s.2.1 (s.2.1 0 / nI 24) m with
  | none =>
    rw [show eC none = -1 from rfl]
    have h9 : o_X12_lastOf_15 F x (-1) s F w (nI 0) = some w := by
      conv => lhs; arg 5; rw [hF']
      rw [o_X12_lastOf_15]
      unfold o_X12_linesOf
      rw [if_neg (by decide)]
      simp only [Option.bind_some]
      rw [if_pos (Int32.le_refl _)]
    rw [h9]
    rfl
  | some a =>
    have ha : a < m := ao_lt e
    obtain ⟨L, hL, hL2⟩ := hl a ha
    rw [show eC (some a) = nI a from rfl]
    have h := lastOf_loop (F := F) (x := x) (w := w) (show a ≤ 21 by omega) hL2 hL L F 0 (by omega) (by omega)
    rw [lnb] at h
    rw [h]
    simp only [Option.bind_some]
    rw [hL2, nI_clamp (by omega)]
