/-! THE PURE LAYER: soundings -/
/-- of the first i soundings the one that counts of a cell as of an hour -/
def ls (v : Nat → Int32) (x t : Int32) : Nat → Option Nat
  | 0 => none
  | i + 1 => if v (199 + 4 * i) = x then (if t < v (199 + 4 * i + 3) then ls v x t i else (match ls v x t i with
    | none => some i
    | some j => if v (199 + 4 * i + 1) < v (199 + 4 * j + 1) then some j else some i)) else ls v x t i
theorem ls_lt {v : Nat → Int32} {x t : Int32} : ∀ {i j : Nat}, ls v x t i = some j → j < i := by
  intro i
  induction i with
  | zero => intro j h; cases h
  | succ i ih =>
    intro j h
    rw [ls] at h
    split at h
    · split at h
      · exact Nat.lt_succ_of_lt (ih h)
      · split at h
        · cases h; exact Nat.lt_succ_self _
        · rename_i j' e
          split at h
          · cases h; exact Nat.lt_succ_of_lt (ih e)
          · cases h; exact Nat.lt_succ_self _
    · exact Nat.lt_succ_of_lt (ih h)
def eC (o : Option Nat) : Int32 := match o with
  | none => -1
  | some j => nI j
def eR (o : Option Nat) : Int32 := match o with
  | none => -1
  | some j => nI (199 + 4 * j)
theorem nI_nm1 {k : Nat} (h : k < 2 ^ 31) : ¬ nI k = -1 := fun e => nI_pos h (by rw [e]; decide)
theorem wk_s {i j : Nat} (hi : i < 200) (hj : j < 4) : wk (199 + 4 * i + j) = some (12 + j, i) := by
  unfold wk
  rw [if_neg (by omega), if_neg (by omega), if_neg (by omega), if_neg (by omega), if_neg (by omega), if_neg (by omega), if_neg (by omega), if_neg (by omega), if_neg (by omega), if_neg (by omega), if_pos (by omega), show (199 + 4 * i + j - 199) % 4 = j by omega, show (199 + 4 * i + j - 199) / 4 = i by omega]
theorem latest_loop {F : Nat} {τ : cT} {n b m : Nat} {c : cS} {v : Nat → Int32} {x t : Int32} (hP : Pl c b v) (hm : v 198 = nI m) (hm2 : m ≤ 200) : ∀ (r f i : Nat), i + r = m → r < f → o_X10_latest_5 F τ n b x t c f (eC (ls v x t i)) (nI i) = some (eC (ls v x t m)) := by
  have e0 : c.1 (b + 11) 4 = nI m := (hP 198 11 4 rfl).trans hm
  have w (i j : Nat) (hi : i < 200) (hj : j < 4) : c.1 (b + (12 + j)) i = v (199 + 4 * i + j) := hP _ _ _ (wk_s hi hj)
  intro r
  induction r with
  | zero =>
    intro f i hi hf
    obtain ⟨f, rfl⟩ : ∃ g, f = g + 1 := ⟨f - 1, by omega⟩
    rw [o_X10_latest_5, e0, show i = m by omega, if_pos (Int32.le_refl _)]
  | succ r ih =>
    intro f i hi hf
    obtain ⟨f, rfl⟩ : ∃ g, f = g + 1 := ⟨f - 1, by omega⟩
    have hi2 : i < 200 := by omega
    have ih' := ih f (i + 1) (by omega) (by omega)
    rw [o_X10_latest_5, e0, if_neg (nI_ge (show i < m by omega) (by omega)), if_pos (iL_t hi2 (by decide)), cg_n _ _ (by omega), cg_n _ _ (by omega), cg_n _ _ (by omega), nI_add,
      show c.1 (b + 12) i = v (199 + 4 * i) from w i 0 hi2 (by decide), show c.1 (b + 15) i = v (199 + 4 * i + 3) from w i 3 hi2 (by decide), show c.1 (b + 13) i = v (199 + 4 * i + 1) from w i 1 hi2 (by decide)]
    rw [ls] at ih'
    by_cases h1 : v (199 + 4 * i) = x
    · rw [if_pos h1] at ih' ⊢
      by_cases h2 : t < v (199 + 4 * i + 3)
      · rw [if_pos h2] at ih' ⊢
        exact ih'
      · rw [if_neg h2] at ih' ⊢
        cases e : ls v x t i with
        | none =>
          rw [e] at ih'
          rw [show eC none = -1 from rfl, if_pos rfl]
          exact ih'
        | some j =>
          rw [e] at ih'
          have hj : j < 200 := Nat.lt_trans (ls_lt e) hi2
          rw [show eC (some j) = nI j from rfl, if_neg (nI_nm1 (by omega)), if_pos (iL_t hj (by decide)), cg_n _ _ (by omega), show c.1 (b + 13) j = v (199 + 4 * j + 1) from w j 1 hj (by decide)]
          by_cases h3 : v (199 + 4 * i + 1) < v (199 + 4 * j + 1)
          · rw [if_pos h3]
            simp only [if_pos h3] at ih'
            exact ih'
          · rw [if_neg h3]
            simp only [if_neg h3] at ih'
            exact ih'
    · rw [if_neg h1] at ih' ⊢
      exact ih'
theorem known_loop {F m : Nat} {s : rs_S} {x t : Int32} (hm : s.2.1 198 = nI m) (hm2 : m ≤ 200) : ∀ (r f i : Nat), i + r = m → r < f → o_X12_knownOf_7 F x t s f (eR (ls s.2.1 x t i)) (nI (199 + 4 * i)) = some (eR (ls s.2.1 x t m)) := by
  intro r
  induction r with
  | zero =>
    intro f i hi hf
    obtain ⟨f, rfl⟩ : ∃ g, f = g + 1 := ⟨f - 1, by omega⟩
    rw [o_X12_knownOf_7, gW_n _ (by decide), hm, nI_mul, nI_add, show i = m by omega, if_pos (Int32.le_refl _)]
  | succ r ih =>
    intro f i hi hf
    obtain ⟨f, rfl⟩ : ∃ g, f = g + 1 := ⟨f - 1, by omega⟩
    have ih' := ih f (i + 1) (by omega) (by omega)
    rw [o_X12_knownOf_7, gW_n s (show 198 < 2 ^ 31 by decide), hm, nI_mul, nI_add, if_neg (nI_ge (show 199 + 4 * i < 199 + 4 * m by omega) (by omega)), nI_add, nI_add, nI_add, if_pos (iL_t (show 199 + 4 * i < 22216 by omega) (by decide)), gW_n _ (by omega), if_pos (iL_t (show 199 + 4 * i + 3 < 22216 by omega) (by decide)), gW_n _ (by omega), gW_n _ (by omega)]
    rw [show 199 + 4 * (i + 1) = 199 + 4 * i + 4 by omega, ls] at ih'
    by_cases h1 : s.2.1 (199 + 4 * i) = x
    · rw [if_pos h1] at ih' ⊢
      by_cases h2 : t < s.2.1 (199 + 4 * i + 3)
      · rw [if_pos h2] at ih'
        rw [if_neg (Int32.not_le.mpr h2)]
        exact ih'
      · rw [if_neg h2] at ih'
        rw [if_pos (Int32.not_lt.mp h2)]
        cases e : ls s.2.1 x t i with
        | none =>
          rw [e] at ih'
          rw [show eR none = -1 from rfl, if_pos (by decide)]
          exact ih'
        | some j =>
          rw [e] at ih'
          have hj : j < 200 := Nat.lt_trans (ls_lt e) (by omega)
          rw [show eR (some j) = nI (199 + 4 * j) from rfl, if_neg (nI_pos (by omega)), if_pos (iL_t (show 199 + 4 * i + 1 < 22216 by omega) (by decide)), nI_add, if_pos (iL_t (show 199 + 4 * j + 1 < 22216 by omega) (by decide)), gW_n _ (by omega)]
          by_cases h3 : s.2.1 (199 + 4 * i + 1) < s.2.1 (199 + 4 * j + 1)
          · rw [if_pos h3]
            simp only [if_pos h3] at ih'
            exact ih'
          · rw [if_neg h3]
            simp only [if_neg h3] at ih'
            exact ih'
    · rw [if_neg h1] at ih' ⊢
      exact ih'
/-- what is known of a cell -/
def kn (v : Nat → Int32) (m k : Nat) (t : Int32) : Int32 := match ls v (nI k) t m with
  | none => v (25 + k)
  | some j => v (199 + 4 * j + 2)
theorem o_knownOf {F m k : Nat} {s : rs_S} {t : Int32} (hF : 201 ≤ F) (hm : s.2.1 198 = nI m) (hm2 : m ≤ 200) (hk : k < 24) : o_X12_knownOf F s (nI k) t = some (kn s.2.1 m k t) := by
  unfold o_X12_knownOf kn
  have h := known_loop (F := F) (x := nI k) (t := t) hm hm2 m F 0 (by omega) (by omega)
  rw [show eR (ls s.2.1 (nI k) t 0) = -1 from rfl, show 199 + 4 * 0 = 199 from rfl] at h
  rw [h]
  simp only [Option.bind_some]
  cases e : ls s.2.1 (nI k) t m with
  | none =>
    rw [show eR none = -1 from rfl, if_neg (by decide), nI_add, if_pos (iL_t (show 25 + k < 22216 by omega) (by decide)), gW_n _ (by omega)]
  | some j =>
    have hj : j < 200 := Nat.lt_of_lt_of_le (ls_lt e) hm2
    rw [show eR (some j) = nI (199 + 4 * j) from rfl, if_pos (nI_pos' (by omega)), nI_add, if_pos (iL_t (show 199 + 4 * j + 2 < 22216 by omega) (by decide)), gW_n _ (by omega)]
theorem o_latest {F : Nat} {τ : cT} {n b m : Nat} {c : cS} {v : Nat → Int32} {x t : Int32} (hF : 201 ≤ F) (hP : Pl c b v) (hm : v 198 = nI m) (hm2 : m ≤ 200) : o_X10_latest F τ n b c x t = some (eC (ls v x t m)) := by
  unfold o_X10_latest
  have h := latest_loop (F := F) (τ := τ) (n := n) (x := x) (t := t) hP hm hm2 m F 0 (by omega) (by omega)
  rw [show eC (ls v x t 0) = -1 from rfl] at h
  rw [h]
  rfl
theorem o_depthAsOf {F : Nat} {τ : cT} {n b m k : Nat} {c : cS} {v : Nat → Int32} {t : Int32} (hF : 201 ≤ F) (hP : Pl c b v) (hm : v 198 = nI m) (hm2 : m ≤ 200) (hk : k < 24) : o_X2_depthAsOf F τ n b c (nI k) t = some (kn v m k t) := by
  unfold o_X2_depthAsOf kn
  rw [o_latest hF hP hm hm2]
  simp only [Option.bind_some]
  cases e : ls v (nI k) t m with
  | none =>
    rw [show eC none = -1 from rfl, if_pos rfl, if_pos (iL_t hk (by decide)), cg_n _ _ (by omega)]
    have := hP (25 + k) 3 k (by unfold wk; rw [if_neg (by omega), if_neg (by omega), if_pos (by omega), show 25 + k - 25 = k by omega])
    rw [this]
  | some j =>
    have hj : j < 200 := Nat.lt_of_lt_of_le (ls_lt e) hm2
    rw [show eC (some j) = nI j from rfl, if_neg (nI_nm1 (by omega)), if_pos (iL_t hj (by decide)), cg_n _ _ (by omega)]
    rw [show c.1 (b + 14) j = v (199 + 4 * j + 2) from hP _ _ _ (wk_s hj (by decide))]
theorem e_known {F : Nat} {τ : cT} {n m : Nat} {c : cS} {s : rs_S} {a1 a2 : Int32} (hF : 201 ≤ F) (hP : Pl c 10 s.2.1) (hm : s.2.1 198 = nI m) (hm2 : m ≤ 200) :
    (∃ v, o_X11_known F τ n 0 c a1 a2 = some (.inl v) ∧ o_X12_known F s a1 a2 = some (v, pN s 0 (nI 0))) ∨
    (o_X11_known F τ n 0 c a1 a2 = some (.inr 0) ∧ o_X12_known F s a1 a2 = some (nI 0, pN (pN s 0 (nI 0)) 0 (nI 1))) := by
  unfold o_X11_known o_X12_known
  rcases cx a1 with ⟨k, hk, rfl, w1, r1⟩ | ⟨w1, r1⟩
  · left
    refine ⟨kn s.2.1 m k a2, ?_, ?_⟩
    · simp only [w1, Option.bind_some, Sum.elim_inl, o_depthAsOf (b := 0 + 10) hF hP hm hm2 hk]
    · simp only [r1, Option.bind_some, tI0, z0, if_true, o_knownOf (s := pN s 0 (nI 0)) hF hm hm2 hk]
      rfl
  · right; simp only [w1, r1, Option.bind_some, Sum.elim_inr, tI1, z1, if_false, and_self]
theorem e_cell {F : Nat} {τ : cT} {n m : Nat} {c : cS} {s : rs_S} {a1 a2 : Int32} (hF : 201 ≤ F) (hP : Pl c 10 s.2.1) (hm : s.2.1 198 = nI m) (hm2 : m ≤ 200) :
    (∃ v, o_X11_cell F τ n 0 c a1 a2 = some (.inl v) ∧ o_X12_cell F s a1 a2 = some (v, pN s 0 (nI 0))) ∨
    (o_X11_cell F τ n 0 c a1 a2 = some (.inr 0) ∧ o_X12_cell F s a1 a2 = some (nI 0, pN (pN s 0 (nI 0)) 0 (nI 1))) ∨
    (o_X11_cell F τ n 0 c a1 a2 = some (.inr 4) ∧ o_X12_cell F s a1 a2 = some (nI 0, pN (pN s 0 (nI 0)) 0 (nI 2))) := by
  unfold o_X11_cell o_X12_cell
  rcases cx a1 with ⟨k, hk, rfl, w1, r1⟩ | ⟨w1, r1⟩
  · have i1 : iL (nI k) 24 := iL_t hk (by decide)
    have g0 : c.1 (0 + 12) k = s.2.1 (1 + k) := hP (1 + k) 2 k (by unfold wk; rw [if_neg (by omega), if_pos (by omega), show 1 + k - 1 = k by omega])
    have g1 : c.1 (0 + 13) k = s.2.1 (25 + k) := hP (25 + k) 3 k (by unfold wk; rw [if_neg (by omega), if_neg (by omega), if_pos (by omega), show 25 + k - 25 = k by omega])
    have g2 : c.1 (0 + 14) k = s.2.1 (49 + k) := hP (49 + k) 4 k (by unfold wk; rw [if_neg (by omega), if_neg (by omega), if_neg (by omega), if_pos (by omega), show 49 + k - 49 = k by omega])
    simp only [w1, r1, Option.bind_some, Sum.elim_inl, tI0, z0, if_true, if_pos i1, cg_n _ _ (show k < 2 ^ 31 by omega), g0, g1, g2, nI_add, if_pos (iL_t (show 1 + k < 22216 by omega) (by decide)), if_pos (iL_t (show 25 + k < 22216 by omega) (by decide)), if_pos (iL_t (show 49 + k < 22216 by omega) (by decide)), gW_pN, gW_n _ (show 1 + k < 2 ^ 31 by omega), gW_n _ (show 25 + k < 2 ^ 31 by omega), gW_n _ (show 49 + k < 2 ^ 31 by omega)]
    by_cases c0 : a2 = nI 0
    · left; exact ⟨_, by rw [if_pos c0], by rw [if_pos c0]; rfl⟩
    · rw [if_neg c0, if_neg c0]
      by_cases c1 : a2 = nI 1
      · left; exact ⟨_, by rw [if_pos c1], by rw [if_pos c1]; rfl⟩
      · rw [if_neg c1, if_neg c1]
        by_cases c2 : a2 = nI 2
        · left; exact ⟨_, by rw [if_pos c2], by rw [if_pos c2]; rfl⟩
        · rw [if_neg c2, if_neg c2]
          by_cases c3 : a2 = nI 3
          · left
            rw [if_pos c3, if_pos c3, o_depthAsOf (b := 0 + 10) hF hP hm hm2 hk]
            unfold o_X12_hour
            simp only [Option.bind_some, gW_pN, gW_n _ (show 0 < 2 ^ 31 by decide), o_knownOf (s := pN s 0 (nI 0)) hF hm hm2 hk]
            rw [show c.1 (0 + 10) 0 = s.2.1 0 from hP 0 0 0 rfl]
            exact ⟨_, rfl, rfl⟩
          · rw [if_neg c3, if_neg c3]
            right; right; exact ⟨rfl, rfl⟩
  · right; left; simp only [w1, r1, Option.bind_some, Sum.elim_inr, tI1, z1, if_false, and_self]
