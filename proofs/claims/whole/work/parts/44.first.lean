/-! THE PURE LAYER: the two objects as they are made -/
def v0 (k : Nat) : Int32 := if 1 ≤ k ∧ k < 49 then nI 20 else if k = 1080 then nI 2 else if k = 1081 then nI 1 else 0
def s00 : rs_S := (iM.1, v0, iM.2.2)
theorem i92_loop {F : Nat} : ∀ (r f i : Nat) (s : rs_S), i + r = 24 → r < f → o_X12_i92_94 F f (nI i) s = some (s.1, (fun k => if (1 + i ≤ k ∧ k < 25) ∨ (25 + i ≤ k ∧ k < 49) then nI 20 else s.2.1 k), s.2.2) := by
  intro r
  induction r with
  | zero =>
    intro f i s hi hf
    obtain ⟨f, rfl⟩ : ∃ g, f = g + 1 := ⟨f - 1, by omega⟩
    rw [o_X12_i92_94, show i = 24 by omega, if_pos (Int32.le_refl _)]
    refine congrArg some (Prod.ext rfl (Prod.ext (funext fun k => ?_) rfl))
    show s.2.1 k = if (1 + 24 ≤ k ∧ k < 25) ∨ (25 + 24 ≤ k ∧ k < 49) then nI 20 else s.2.1 k
    rw [if_neg (by omega)]
  | succ r ih =>
    intro f i s hi hf
    obtain ⟨f, rfl⟩ : ∃ g, f = g + 1 := ⟨f - 1, by omega⟩
    rw [o_X12_i92_94, if_neg (nI_ge (show i < 24 by omega) (by decide)), nI_add, nI_add, nI_add, if_pos (iL_t (show 1 + i < 22216 by omega) (by decide)), if_pos (iL_t (show 25 + i < 22216 by omega) (by decide)), ih f (i + 1) _ (by omega) (by omega)]
    refine congrArg some (Prod.ext rfl (Prod.ext (funext fun k => ?_) rfl))
    show (if (1 + (i + 1) ≤ k ∧ k < 25) ∨ (25 + (i + 1) ≤ k ∧ k < 49) then nI 20 else upd (upd s.2.1 (nI (1 + i)).toNatClampNeg (nI 20)) (nI (25 + i)).toNatClampNeg (nI 20) k) = if (1 + i ≤ k ∧ k < 25) ∨ (25 + i ≤ k ∧ k < 49) then nI 20 else s.2.1 k
    rw [nI_clamp (by omega), nI_clamp (by omega)]
    by_cases e1 : k = 25 + i
    · subst e1; rw [if_neg (by omega), upd_s, if_pos (by omega)]
    · by_cases e2 : k = 1 + i
      · subst e2
        by_cases e3 : (1 + (i + 1) ≤ 1 + i ∧ 1 + i < 25) ∨ (25 + (i + 1) ≤ 1 + i ∧ 1 + i < 49)
        · omega
        · rw [if_neg e3, upd_n e1, upd_s, if_pos (by omega)]
      · rw [upd_n e1, upd_n e2]
        by_cases e3 : (1 + i ≤ k ∧ k < 25) ∨ (25 + i ≤ k ∧ k < 49)
        · rw [if_pos e3, if_pos (by omega)]
        · rw [if_neg e3, if_neg (by omega)]
theorem o_i92 {F : Nat} (hF : 25 ≤ F) : o_X12_i92 F iM = some s00 := by
  unfold o_X12_i92
  rw [i92_loop 24 F 0 iM (by omega) (by omega)]
  simp only [Option.bind_some]
  refine congrArg some (Prod.ext rfl (Prod.ext (funext fun k => ?_) rfl))
  show upd (upd (fun k => if (1 + 0 ≤ k ∧ k < 25) ∨ (25 + 0 ≤ k ∧ k < 49) then nI 20 else iM.2.1 k) (nI 1080).toNatClampNeg (nI 2)) (nI 1081).toNatClampNeg (nI 1) k = v0 k
  rw [nI_clamp (by decide), nI_clamp (by decide)]
  unfold v0
  by_cases e1 : k = 1081
  · subst e1; rw [upd_s, if_neg (by decide), if_neg (by decide), if_pos rfl]
  · rw [upd_n e1]
    by_cases e2 : k = 1080
    · subst e2; rw [upd_s, if_neg (by decide), if_pos rfl]
    · rw [upd_n e2]
      by_cases e3 : 1 ≤ k ∧ k < 49
      · rw [if_pos e3, if_pos (by omega)]
      · rw [if_neg e3, if_neg e2, if_neg e1, if_neg (by omega)]; rfl
def p0_ok (k : Nat) : Bool := match wk k with
  | some (o, j) => decide (iniB o j = v0 k)
  | none => true
theorem p0_2 : ∀ a, a < 54 → ∀ b, b < 54 → p0_ok (54 * a + b) = true := by decide +kernel
theorem iB_at {s : cS} {n o : Nat} (ho : o < 170) : (iB s n).1 (n + o) = iniB o := by
  show (if n ≤ n + o ∧ n + o < n + 170 then iniB (n + o - n) else s.1 (n + o)) = _
  rw [if_pos (by omega), Nat.add_sub_cancel_left]
theorem Pl0 {s : cS} {n : Nat} : Pl (iB s n) n v0 := by
  intro k o j h
  have hk : k < 2812 := by
    by_cases q : k < 2812
    · exact q
    · rw [wk_le (by omega)] at h; cases h
  have h1 := p0_2 (k / 54) (by omega) (k % 54) (by omega)
  rw [show 54 * (k / 54) + k % 54 = k by omega] at h1
  unfold p0_ok at h1
  rw [h] at h1
  rw [iB_at (wk_back h).2]
  exact of_decide_eq_true h1
/-! river: two loops side by side -/
theorem river_loop {F : Nat} {τ : cT} {n : Nat} {x y : Int32} {m : Nat} (hm : m < 24) : ∀ (r f f' i : Nat) (c : cS) (s : rs_S), i + r = m + 1 → r < f → r < f' → Pl c 10 s.2.1 →
    ∃ c' s', o_X11_river_65 F τ n 0 (nI m) x y f (nI i) c = some c' ∧ o_X12_river_97 F (nI m) x y f' (nI i) s = some s' ∧ Pl c' 10 s'.2.1 ∧ (∀ q, q ≠ 12 → q ≠ 13 → c'.1 q = c.1 q) ∧ c'.2 = c.2 ∧ s'.1 = s.1 ∧ s'.2.2 = s.2.2 ∧ (∀ k, k < 1 ∨ 49 ≤ k → s'.2.1 k = s.2.1 k) := by
  intro r
  induction r with
  | zero =>
    intro f f' i c s hi hf hf' hP
    obtain ⟨f, rfl⟩ : ∃ g, f = g + 1 := ⟨f - 1, by omega⟩
    obtain ⟨f', rfl⟩ : ∃ g, f' = g + 1 := ⟨f' - 1, by omega⟩
    refine ⟨c, s, ?_, ?_, hP, fun _ _ _ => rfl, rfl, rfl, rfl, fun _ _ => rfl⟩
    · rw [o_X11_river_65, if_pos (nI_lt (show m < i by omega) (by omega))]
    · rw [o_X12_river_97, if_pos (nI_lt (show m < i by omega) (by omega))]
  | succ r ih =>
    intro f f' i c s hi hf hf' hP
    obtain ⟨f, rfl⟩ : ∃ g, f = g + 1 := ⟨f - 1, by omega⟩
    obtain ⟨f', rfl⟩ : ∃ g, f' = g + 1 := ⟨f' - 1, by omega⟩
    have e1 : wk (1 + i) = some (2, i) := by unfold wk; rw [if_neg (by omega), if_pos (by omega), show 1 + i - 1 = i by omega]
    have e2 : wk (25 + i) = some (3, i) := by unfold wk; rw [if_neg (by omega), if_neg (by omega), if_pos (by omega), show 25 + i - 25 = i by omega]
    have hP' : Pl (cp (cp c 12 i x) 13 i y) 10 (upd (upd s.2.1 (1 + i) x) (25 + i) y) := (hP.put (x := x) e1).put (x := y) e2
    obtain ⟨c', s', h1, h2, h3, h4, h5, h6, h7, h8⟩ := ih f f' (i + 1) (cp (cp c 12 i x) 13 i y) (pW (pW s (nI (1 + i)) x) (nI (25 + i)) y) (by omega) (by omega) (by omega) (by
      rw [pW_21, pW_21, nI_clamp (by omega), nI_clamp (by omega)]; exact hP')
    refine ⟨c', s', ?_, ?_, h3, fun q q1 q2 => ?_, h5, h6, h7, fun k hk => ?_⟩
    · rw [o_X11_river_65, if_neg (nI_nlt (show i ≤ m by omega) (by omega)), if_pos (iL_t (show i < 24 by omega) (by decide)), nI_add, ca_n _ _ (by omega), ca_n _ _ (by omega)]
      exact h1
    · rw [o_X12_river_97, if_neg (nI_nlt (show i ≤ m by omega) (by omega)), nI_add, nI_add, nI_add, if_pos (iL_t (show 1 + i < 22216 by omega) (by decide)), if_pos (iL_t (show 25 + i < 22216 by omega) (by decide))]
      exact h2
    · rw [h4 q q1 q2, cp_1 _ q2, cp_1 _ q1]
    · rw [h8 k hk, pW_21, pW_21, nI_clamp (by omega), nI_clamp (by omega), upd_n (by omega), upd_n (by omega)]
