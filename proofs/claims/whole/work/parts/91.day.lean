/-! THE PURE LAYER: a day ends -/
section DAY
variable {F : Nat} {τ : cT} {n k i m B H o p b C d kk w j t W f q : Nat} {c c' c0 : cS} {s s' s0 : rs_S} {v v' : Nat → Int32} {y T : Int32}
/-- plain numbers of the river -/
def riv (k : Nat) : Prop := (1 ≤ k ∧ k < 25) ∨ (49 ≤ k ∧ k < 73) ∨ (2656 ≤ k ∧ k < 2659)
theorem PG.put (h : PG τ n c0 s0 c s H) (hI : LI τ n) (hk : wk k = some (o, j)) (hr : riv k) (hy : Ok k y) : PG τ n c0 s0 (cp c (10 + o) j y) (pW s (nI k) y) H := by
  unfold riv at hr
  have w : (pW s (nI k) y).2.1 = upd s.2.1 k y := by rw [pW_21, nI_clamp (by omega)]
  have w20 : o < 18 ∨ 23 < o := by
    have o18 : ∀ q, q < 54 → ∀ r, r < 54 → (match wk (54 * q + r) with | some (o, _) => decide (o < 18 ∨ 23 < o) | none => true) = true := by decide +kernel
    have o19 := o18 (k / 54) (by omega) (k % 54) (by omega)
    rw [show 54 * (k / 54) + k % 54 = k by omega, hk] at o19
    exact of_decide_eq_true o19
  have wn := wk_no hk
  refine h.step ?_ (Nw.refl.cp (by omega) (by omega) (by omega)) rfl rfl (by rw [w, upd_n (by omega)]) (fun q q1 q2 => by rw [w, upd_n (by omega)])
  rw [w]
  exact (h.rb.x.pput hI hk (by omega) (by omega) (by omega) (by omega) (by omega) hy).rb (h.rb.cr.free h.rb.rg (by unfold crp; omega))
theorem wk_bed (hq : q < 24) : wk (1 + q) = some (2, q) := by unfold wk; rw [if_neg (by omega), if_pos (by omega), show 1 + q - 1 = q by omega]
theorem wk_nat (hq : q < 24) : wk (25 + q) = some (3, q) := by unfold wk; rw [if_neg (by omega), if_neg (by omega), if_pos (by omega), show 25 + q - 25 = q by omega]
theorem wk_hp (hq : q < 24) : wk (49 + q) = some (4, q) := by unfold wk; rw [if_neg (by omega), if_neg (by omega), if_neg (by omega), if_pos (by omega), show 49 + q - 49 = q by omega]
theorem ok_hp (hq : q < 24) : Ok (49 + q) y := rg_any (by unfold rg; rw [if_neg (by omega), if_neg (by omega), if_pos (by omega)])
theorem rg_bed (hq : q < 24) : rg (1 + q) = (0, 200) := by unfold rg; rw [if_neg (by omega), if_pos (by omega)]
theorem PG.bed (h : PG τ n c0 s0 c s H) (hq : q < 24) : c.1 12 q = s.2.1 (1 + q) := h.rb.pl _ _ _ (wk_bed hq)
theorem PG.nat (h : PG τ n c0 s0 c s H) (hq : q < 24) : c.1 13 q = s.2.1 (25 + q) := h.rb.pl _ _ _ (wk_nat hq)
theorem PG.hp (h : PG τ n c0 s0 c s H) (hq : q < 24) : c.1 14 q = s.2.1 (49 + q) := h.rb.pl _ _ _ (wk_hp hq)
/-- the run told last for a day -/
def eQ : Option Nat → Int32
  | none => -1
  | some j => nI (99 + 2 * j)
theorem wk_r {e : Nat} (hi : i < 40) (he : e < 2) : wk (99 + 2 * i + e) = some (6 + e, i) := by
  have h : ∀ i, i < 40 → ∀ e, e < 2 → wk (99 + 2 * i + e) = some (6 + e, i) := by decide +kernel
  exact h i hi e he
theorem rn_loop (h : RB τ n c 10 s.2.1) : ∀ (r i f f' : Nat) (x : Option Nat), i + r = N (s.2.1 98) → r < f → r < f' → (∀ j, x = some j → j < 40) → ∃ x', (∀ j, x' = some j → j < 40) ∧ o_X8_runOf_4 F τ n 10 T c f (eC x) (nI i) = some (eC x') ∧ o_X12_runOf_5 F T s f' (eQ x) (nI (99 + 2 * i)) = some (eQ x') := by
  have n98 := h.n98
  have g98 : gW s (nI 98) = nI (N (s.2.1 98)) := by rw [gW_n _ (by decide)]; exact n98.1
  have c98 : c.1 (10 + 1) 6 = nI (N (s.2.1 98)) := (h.pl 98 1 6 rfl).trans n98.1
  intro r
  induction r with
  | zero =>
    intro i f f' x hi hf hf' hx
    obtain ⟨f, rfl⟩ : ∃ x, f = x + 1 := ⟨f - 1, by omega⟩
    obtain ⟨f', rfl⟩ : ∃ x, f' = x + 1 := ⟨f' - 1, by omega⟩
    rw [o_X8_runOf_4, o_X12_runOf_5, g98, c98, nI_mul, nI_add 99, if_pos (nI_yes (by omega) (by omega) (by omega)), if_pos (nI_yes (by omega) (by omega) (by omega))]
    exact ⟨x, hx, rfl, rfl⟩
  | succ r ih =>
    intro i f f' x hi hf hf' hx
    obtain ⟨f, rfl⟩ : ∃ x, f = x + 1 := ⟨f - 1, by omega⟩
    obtain ⟨f', rfl⟩ : ∃ x, f' = x + 1 := ⟨f' - 1, by omega⟩
    have i40 : i < 40 := by omega
    have e6 : ∀ j, j < 40 → c.1 (10 + 6) j = s.2.1 (99 + 2 * j) := fun j hj => h.pl _ _ _ (wk_r (e := 0) hj (by decide))
    have a1 := ih (i + 1) f f' x (by omega) (by omega) (by omega) hx
    have a2 := ih (i + 1) f f' (some i) (by omega) (by omega) (by omega) (fun j e => by injection e with e; omega)
    rw [show 99 + 2 * (i + 1) = 99 + 2 * i + 2 by omega] at a1 a2
    rw [o_X8_runOf_4, o_X12_runOf_5, g98, c98, nI_mul, nI_add 99, if_neg (nI_no (by omega) (by omega) (by omega)), if_neg (nI_no (by omega) (by omega) (by omega)), if_pos (iL_t i40 (by decide)), if_pos (iL_t (show 99 + 2 * i < 22216 by omega) (by decide)), cg_n _ _ (by omega), gW_n _ (by omega), e6 i i40, nI_add i 1, nI_add (99 + 2 * i) 2]
    by_cases q1 : T < s.2.1 (99 + 2 * i)
    · rw [if_pos q1, if_pos q1]; exact a1
    · rw [if_neg q1, if_neg q1]
      cases x with
      | none =>
        rw [show eC none = -1 from rfl, if_pos rfl, show eQ none = -1 from rfl, if_pos (show (-1 : Int32) < 0 by decide)]
        exact a2
      | some j =>
        have hj := hx j rfl
        rw [show eC (some j) = nI j from rfl, if_neg (nI_nm1 (by omega)), show eQ (some j) = nI (99 + 2 * j) from rfl, if_neg (show ¬ nI (99 + 2 * j) < 0 from nI_ngt (y := 0) (by omega) (by decide) (by omega)), if_pos (iL_t hj (by decide)), if_pos (iL_t (show 99 + 2 * j < 22216 by omega) (by decide)), cg_n _ _ (by omega), gW_n _ (by omega), e6 j hj]
        by_cases q2 : s.2.1 (99 + 2 * i) < s.2.1 (99 + 2 * j)
        · rw [if_pos q2, if_pos q2]; exact a1
        · rw [if_neg q2, if_neg q2]; exact a2
theorem o_runs (hF : 41 < F) (h : RB τ n c 10 s.2.1) : ∃ z, o_X8_runOf F τ n 10 c T = some z ∧ o_X12_runOf F s T = some z := by
  obtain ⟨x, a1, a2, a3⟩ := rn_loop (F := F) (τ := τ) (n := n) (T := T) h _ 0 F F none (Nat.zero_add _) (by have := h.n98.2; omega) (by have := h.n98.2; omega) (fun j e => by cases e)
  unfold o_X8_runOf o_X12_runOf
  have a2' : o_X8_runOf_4 F τ n 10 T c F (-1) (nI 0) = some (eC x) := a2
  have a3' : o_X12_runOf_5 F T s F (-1) (nI 99) = some (eQ x) := a3
  rw [a2', a3', Option.bind_some, Option.bind_some]
  cases x with
  | none =>
    rw [show eC none = -1 from rfl, if_pos rfl, show eQ none = -1 from rfl, if_neg (show ¬ (0 : Int32) ≤ -1 by decide)]
    exact ⟨_, rfl, rfl⟩
  | some j =>
    have hj := a1 j rfl
    rw [show eC (some j) = nI j from rfl, if_neg (nI_nm1 (by omega)), if_pos (iL_t hj (by decide)), show eQ (some j) = nI (99 + 2 * j) from rfl, if_pos (show (0 : Int32) ≤ nI (99 + 2 * j) from nI_yes (x := 0) (by decide) (by omega) (by omega)), nI_add, if_pos (iL_t (show 99 + 2 * j + 1 < 22216 by omega) (by decide)), gW_n _ (by omega), cg_n _ _ (by omega), show c.1 (10 + 7) j = s.2.1 (99 + 2 * j + 1) from h.pl _ _ _ (wk_r (e := 1) hj (by decide))]
    exact ⟨_, rfl, rfl⟩
theorem si_loop (hI : LI τ n) : ∀ (q f f' : Nat) (l : Int32) (c : cS) (s : rs_S), q ≤ 24 → q < f → q < f' → PG τ n c0 s0 c s H → ∃ l' c' s', o_X8_silt_15 F τ n 10 f l (nI q - nI 1) c = some (l', c') ∧ o_X12_settles_26 F f' l (nI q - nI 1) s = some (l', s') ∧ PG τ n c0 s0 c' s' H := by
  intro q
  induction q with
  | zero =>
    intro f f' l c s hq hf hf' h
    obtain ⟨f, rfl⟩ : ∃ x, f = x + 1 := ⟨f - 1, by omega⟩
    obtain ⟨f', rfl⟩ : ∃ x, f' = x + 1 := ⟨f' - 1, by omega⟩
    rw [o_X8_silt_15, o_X12_settles_26, if_pos (show nI 0 - nI 1 < 0 by decide), if_pos (show nI 0 - nI 1 < 0 by decide)]
    exact ⟨l, c, s, rfl, rfl, h⟩
  | succ q ih =>
    intro f f' l c s hq hf hf' h
    obtain ⟨f, rfl⟩ : ∃ x, f = x + 1 := ⟨f - 1, by omega⟩
    obtain ⟨f', rfl⟩ : ∃ x, f' = x + 1 := ⟨f' - 1, by omega⟩
    have q24 : q < 24 := by omega
    have em : nI q + (-1) = nI q - nI 1 := (Int32.sub_eq_add_neg _ _).symm
    rw [nI_sub (by omega), show q + 1 - 1 = q by omega, o_X8_silt_15, o_X12_settles_26, if_neg (show ¬ nI q < 0 from nI_ngt (y := 0) (by omega) (by decide) (by omega)), if_neg (show ¬ nI q < 0 from nI_ngt (y := 0) (by omega) (by decide) (by omega)), if_pos (iL_t q24 (by decide)), nI_add, nI_add, nI_add, if_pos (iL_t (show 1 + q < 22216 by omega) (by decide)), if_pos (iL_t (show 25 + q < 22216 by omega) (by decide)), if_pos (iL_t (show 49 + q < 22216 by omega) (by decide)), Option.bind_some, ca_n _ _ (by omega), cg_n _ _ (by omega), cg_n _ _ (by omega), cg_n _ _ (by omega), gW_n _ (by omega), gW_n _ (by omega), gW_n _ (by omega), show (10 + 2 : Nat) = 12 from rfl, show (10 + 3 : Nat) = 13 from rfl, show (10 + 4 : Nat) = 14 from rfl, h.bed q24, h.nat q24, h.hp q24, em]
    exact ih f f' _ _ _ (by omega) (by omega) (by omega) (h.put hI (wk_hp q24) (by unfold riv; omega) (ok_hp q24))
theorem o_silts (hF : 25 < F) (hI : LI τ n) (h : PG τ n c0 s0 c s H) : ∃ c' s', o_X8_silt F τ n 10 c y = some c' ∧ ((o_X12_settles_26 F F y (nI 23) (pW s (nI 2656) ((gW s (nI 2656)) + y))).bind fun x7 => (some (pW x7.2 (nI 2657) ((gW x7.2 (nI 2657)) + x7.1)))) = some s' ∧ PG τ n c0 s0 c' s' H := by
  have h1 := h.put (k := 2656) (o := 1) (j := 11) (y := s.2.1 2656 + y) hI rfl (by unfold riv; omega) (rg_any rfl)
  obtain ⟨l, c1, s1, a1, a2, a3⟩ := si_loop (F := F) hI 24 F F y _ _ (Nat.le_refl _) (by omega) (by omega) h1
  have e23 : nI 24 - nI 1 = nI 23 := by decide
  rw [e23] at a1 a2
  have h2 := a3.put (k := 2657) (o := 1) (j := 12) (y := s1.2.1 2657 + l) hI rfl (by unfold riv; omega) (rg_any rfl)
  unfold o_X8_silt
  rw [show c.1 (10 + 1) 11 = s.2.1 2656 from h.rb.pl 2656 1 11 rfl, a1, Option.bind_some, show c1.1 (10 + 1) 12 = s1.2.1 2657 from a3.rb.pl 2657 1 12 rfl, gW_n _ (by decide), a2, Option.bind_some, gW_n _ (by decide)]
  exact ⟨_, _, rfl, rfl, h2⟩
theorem dg_loop {l1 l3 : Int32} {l1' l3' : Int32} (hI : LI τ n) (hq : q < 24) : ∀ (r f f' : Nat) (c : cS) (s : rs_S), 200 - N (s.2.1 (1 + q)) ≤ r → r < f → r < f' → PG τ n c0 s0 c s H → ∃ c' s', o_X8_dig_35 F τ n 10 l1 (nI q) l3 f c = some c' ∧ o_X12_digs_34 F l1' (nI q) l3' f' s = some s' ∧ PG τ n c0 s0 c' s' H ∧ ∀ k, k < 180 ∨ 198 ≤ k ∨ True → (k ≠ 1 + q → k ≠ 49 + q → s'.2.1 k = s.2.1 k) := by
  intro r
  induction r with
  | zero =>
    intro f f' c s hr hf hf' h
    obtain ⟨f, rfl⟩ : ∃ x, f = x + 1 := ⟨f - 1, by omega⟩
    obtain ⟨f', rfl⟩ : ∃ x, f' = x + 1 := ⟨f' - 1, by omega⟩
    have rb := h.rb.rg.nat (rg_bed hq)
    rw [o_X8_dig_35, o_X12_digs_34, if_pos (iL_t hq (by decide)), nI_add, nI_add, if_pos (iL_t (show 49 + q < 22216 by omega) (by decide)), if_pos (iL_t (show 1 + q < 22216 by omega) (by decide)), cg_n _ _ (by omega), cg_n _ _ (by omega), gW_n _ (by omega), gW_n _ (by omega), show (10 + 2 : Nat) = 12 from rfl, show (10 + 4 : Nat) = 14 from rfl, h.bed hq, h.hp hq]
    by_cases q1 : (0 : Int32) ≤ s.2.1 (49 + q)
    · rw [if_pos q1, if_pos q1]; exact ⟨c, s, rfl, rfl, h, fun _ _ _ _ => rfl⟩
    · have q2 : nI 200 ≤ s.2.1 (1 + q) := by rw [rb.1]; exact nI_yes (by decide) (by omega) (by omega)
      rw [if_neg q1, if_neg q1, if_pos q2, if_pos q2]; exact ⟨c, s, rfl, rfl, h, fun _ _ _ _ => rfl⟩
  | succ r ih =>
    intro f f' c s hr hf hf' h
    obtain ⟨f, rfl⟩ : ∃ x, f = x + 1 := ⟨f - 1, by omega⟩
    obtain ⟨f', rfl⟩ : ∃ x, f' = x + 1 := ⟨f' - 1, by omega⟩
    have rb := h.rb.rg.nat (rg_bed hq)
    rw [o_X8_dig_35, o_X12_digs_34, if_pos (iL_t hq (by decide)), nI_add, nI_add, if_pos (iL_t (show 49 + q < 22216 by omega) (by decide)), if_pos (iL_t (show 1 + q < 22216 by omega) (by decide)), cg_n _ _ (by omega), cg_n _ _ (by omega), gW_n _ (by omega), gW_n _ (by omega), show (10 + 2 : Nat) = 12 from rfl, show (10 + 4 : Nat) = 14 from rfl, h.bed hq, h.hp hq]
    by_cases q1 : (0 : Int32) ≤ s.2.1 (49 + q)
    · rw [if_pos q1, if_pos q1]; exact ⟨c, s, rfl, rfl, h, fun _ _ _ _ => rfl⟩
    · rw [if_neg q1, if_neg q1]
      by_cases q2 : 200 ≤ N (s.2.1 (1 + q))
      · have q2' : nI 200 ≤ s.2.1 (1 + q) := by rw [rb.1]; exact nI_yes (by decide) (by omega) q2
        rw [if_pos q2', if_pos q2']; exact ⟨c, s, rfl, rfl, h, fun _ _ _ _ => rfl⟩
      · have q2' : ¬ nI 200 ≤ s.2.1 (1 + q) := by rw [rb.1]; exact nI_no (by decide) (by omega) (by omega)
        rw [if_neg q2', if_neg q2', ca_n c 12 (show q < 2 ^ 31 by omega), ca_n _ 14 (show q < 2 ^ 31 by omega), cg_n _ _ (by omega), cp_1 14 (by decide), h.hp hq, Option.bind_some, gW_pWn _ (by omega) (by omega) (by omega), gW_n _ (by omega)]
        have eb : s.2.1 (1 + q) + nI 1 = nI (N (s.2.1 (1 + q)) + 1) := by rw [← nI_add, ← rb.1]
        have h1 := h.put (y := s.2.1 (1 + q) + nI 1) hI (wk_bed hq) (by unfold riv; omega) (by rw [eb]; exact ok_n (rg_bed hq) (by omega) (by omega) (by omega))
        have h2 := h1.put (y := s.2.1 (49 + q) + nI 50) hI (wk_hp hq) (by unfold riv; omega) (ok_hp hq)
        have w : (pW (pW s (nI (1 + q)) (s.2.1 (1 + q) + nI 1)) (nI (49 + q)) (s.2.1 (49 + q) + nI 50)).2.1 = upd (upd s.2.1 (1 + q) (s.2.1 (1 + q) + nI 1)) (49 + q) (s.2.1 (49 + q) + nI 50) := by rw [pW_21, pW_21, nI_clamp (by omega), nI_clamp (by omega)]
        obtain ⟨c', s', a1, a2, a3, a4⟩ := ih f f' _ _ (by rw [w, upd_n (by omega), upd_s, eb, N_nI (by omega)]; omega) (by omega) (by omega) h2
        exact ⟨c', s', a1, a2, a3, fun k hk k1 k2 => by rw [a4 k hk k1 k2, w, upd_n k2, upd_n k1]⟩
theorem optN {lim : Nat} {x : Int32} {hi : Int} (h : x = -1 ∨ (x = nI (N x) ∧ (N x : Int) ≤ hi)) (hh : hi + 1 = (lim : Int)) : x = -1 ∨ ∃ j, j < lim ∧ x = nI j := by
  rcases h with h | ⟨h1, h2⟩
  · exact Or.inl h
  · exact Or.inr ⟨N x, by omega, h1⟩
theorem o_digs1 (hF : 201 < F) (hI : LI τ n) (hk : k < 6) (h : PG τ n c0 s0 c s H) : ∃ c' s', o_X8_dig F τ n 10 c (nI k) = some c' ∧ o_X12_digs F s (nI (180 + 3 * k)) = some s' ∧ PG τ n c0 s0 c' s' H := by
  have e8 : cg c (10 + 8) (nI k) = s.2.1 (180 + 3 * k) := by rw [cg_n _ _ (by omega)]; exact h.rb.pl _ _ _ (wk_d (j := 0) hk (by decide))
  have e9 : cg c (10 + 9) (nI k) = s.2.1 (180 + 3 * k + 1) := by rw [cg_n _ _ (by omega)]; exact h.rb.pl _ _ _ (wk_d (j := 1) hk (by decide))
  have r1 := optN (lim := 24) (h.rb.rg.opt (k := 180 + 3 * k + 1) (hi := 23) (rg_d (j := 1) hk (by decide))) (by decide)
  generalize hD : s.2.1 (180 + 3 * k) = D at e8
  generalize hP : s.2.1 (180 + 3 * k + 1) = P at e9 r1
  unfold o_X8_dig o_X12_digs
  rw [if_pos (iL_t hk (by decide)), nI_add (180 + 3 * k) 1, nI_add (180 + 3 * k) 2, if_pos (iL_t (show 180 + 3 * k + 1 < 22216 by omega) (by decide)), e8, e9, gW_n s (show 180 + 3 * k + 1 < 2 ^ 31 by omega), gW_n s (show 180 + 3 * k < 2 ^ 31 by omega), hD, hP]
  rcases r1 with e | ⟨q, hq, e⟩
  · subst e
    rw [if_pos (show (-1 : Int32) < 0 by decide), if_neg (show ¬ (0 : Int32) ≤ -1 by decide)]
    exact ⟨c, s, rfl, rfl, h⟩
  · subst e
    rw [if_neg (show ¬ nI q < 0 from nI_ngt (y := 0) (by omega) (by decide) (by omega)), if_pos (show nI q < nI 24 from (nI_ltI (by omega) (by decide)).mpr hq), if_pos (iL_t hq (by decide)), if_pos (show (0 : Int32) ≤ nI q from nI_yes (x := 0) (by decide) (by omega) (by omega)), if_pos (iL_t (show 180 + 3 * k < 22216 by omega) (by decide)), nI_add 49 q, if_pos (iL_t (show 49 + q < 22216 by omega) (by decide)), Option.bind_some, ca_n c _ (show q < 2 ^ 31 by omega), cg_n c (10 + 4) (show q < 2 ^ 31 by omega), show c.1 (10 + 4) q = s.2.1 (49 + q) from h.hp hq, gW_n s (show 49 + q < 2 ^ 31 by omega)]
    have h1 := h.put (y := s.2.1 (49 + q) - D) hI (wk_hp hq) (by unfold riv; omega) (ok_hp hq)
    obtain ⟨c1, s1, b1, b2, b3, _⟩ := dg_loop (F := F) (l1 := nI k) (l3 := D) (l1' := nI (180 + 3 * k)) (l3' := D) hI hq 200 F F _ _ (by omega) (by omega) (by omega) h1
    rw [b1, b2, Option.bind_some c1, Option.bind_some s1, cg_n c1 (10 + 4) (show q < 2 ^ 31 by omega), show c1.1 (10 + 4) q = s1.2.1 (49 + q) from b3.hp hq, gW_n s1 (show 49 + q < 2 ^ 31 by omega), if_pos (iL_t (show 180 + 3 * k + 2 < 22216 by omega) (by decide))]
    by_cases q1 : (0 : Int32) ≤ s1.2.1 (49 + q)
    · have e10 : cg c1 (10 + 10) (nI k) = s1.2.1 (180 + 3 * k + 2) := by rw [cg_n _ _ (by omega)]; exact b3.rb.pl _ _ _ (wk_d (j := 2) hk (by decide))
      have r2 := optN (lim := 24) (b3.rb.rg.opt (k := 180 + 3 * k + 2) (hi := 23) (rg_d (j := 2) hk (by decide))) (by decide)
      rw [if_pos q1, if_pos q1, e10, gW_n s1 (show 180 + 3 * k + 2 < 2 ^ 31 by omega)]
      generalize s1.2.1 (180 + 3 * k + 2) = L at r2
      rcases r2 with e | ⟨j, hj, e⟩
      · subst e
        rw [if_pos (show (-1 : Int32) < 0 by decide), if_neg (show ¬ (0 : Int32) ≤ -1 by decide), show c1.1 (10 + 1) 13 = s1.2.1 2658 from b3.rb.pl 2658 1 13 rfl, gW_n s1 (show 2658 < 2 ^ 31 by decide)]
        exact ⟨_, _, rfl, rfl, b3.put hI rfl (by unfold riv; omega) (rg_any rfl)⟩
      · subst e
        rw [if_neg (show ¬ nI j < 0 from nI_ngt (y := 0) (by omega) (by decide) (by omega)), if_pos (show nI j < nI 24 from (nI_ltI (by omega) (by decide)).mpr hj), if_pos (iL_t hj (by decide)), if_pos (show (0 : Int32) ≤ nI j from nI_yes (x := 0) (by decide) (by omega) (by omega)), nI_add 49 j, if_pos (iL_t (show 49 + j < 22216 by omega) (by decide)), Option.bind_some, ca_n c1 _ (show j < 2 ^ 31 by omega), cg_n c1 (10 + 4) (show j < 2 ^ 31 by omega), show c1.1 (10 + 4) j = s1.2.1 (49 + j) from b3.hp hj, gW_n s1 (show 49 + j < 2 ^ 31 by omega)]
        exact ⟨_, _, rfl, rfl, b3.put hI (wk_hp hj) (by unfold riv; omega) (ok_hp hj)⟩
    · rw [if_neg q1, if_neg q1, if_pos (iL_t (show 180 + 3 * k + 2 < 22216 by omega) (by decide)), ca_n c1 _ (show q < 2 ^ 31 by omega)]
      have b4 := b3.put (y := nI 0) hI (wk_hp hq) (by unfold riv; omega) (ok_hp hq)
      generalize D + s1.2.1 (49 + q) = Y
      generalize cp c1 (10 + 4) q (nI 0) = c2 at b4
      generalize pW s1 (nI (49 + q)) (nI 0) = s2 at b4
      have e10 : cg c2 (10 + 10) (nI k) = s2.2.1 (180 + 3 * k + 2) := by rw [cg_n _ _ (by omega)]; exact b4.rb.pl _ _ _ (wk_d (j := 2) hk (by decide))
      have r2 := optN (lim := 24) (b4.rb.rg.opt (k := 180 + 3 * k + 2) (hi := 23) (rg_d (j := 2) hk (by decide))) (by decide)
      rw [e10, gW_n s2 (show 180 + 3 * k + 2 < 2 ^ 31 by omega)]
      generalize s2.2.1 (180 + 3 * k + 2) = L at r2
      rcases r2 with e | ⟨j, hj, e⟩
      · subst e
        rw [if_pos (show (-1 : Int32) < 0 by decide), if_neg (show ¬ (0 : Int32) ≤ -1 by decide), show c2.1 (10 + 1) 13 = s2.2.1 2658 from b4.rb.pl 2658 1 13 rfl, gW_n s2 (show 2658 < 2 ^ 31 by decide), Option.bind_some]
        exact ⟨_, _, rfl, rfl, b4.put hI rfl (by unfold riv; omega) (rg_any rfl)⟩
      · subst e
        rw [if_neg (show ¬ nI j < 0 from nI_ngt (y := 0) (by omega) (by decide) (by omega)), if_pos (show nI j < nI 24 from (nI_ltI (by omega) (by decide)).mpr hj), if_pos (iL_t hj (by decide)), if_pos (show (0 : Int32) ≤ nI j from nI_yes (x := 0) (by decide) (by omega) (by omega)), nI_add 49 j, if_pos (iL_t (show 49 + j < 22216 by omega) (by decide)), Option.bind_some, ca_n c2 _ (show j < 2 ^ 31 by omega), cg_n c2 (10 + 4) (show j < 2 ^ 31 by omega), show c2.1 (10 + 4) j = s2.2.1 (49 + j) from b4.hp hj, gW_n s2 (show 49 + j < 2 ^ 31 by omega)]
        exact ⟨_, _, rfl, rfl, b4.put hI (wk_hp hj) (by unfold riv; omega) (ok_hp hj)⟩
theorem o_digs (hF : 201 < F) (hI : LI τ n) : ∀ (r i f f' : Nat) (c : cS) (s : rs_S), i ≤ 6 → 6 - i ≤ r → r < f → r < f' → PG τ n c0 s0 c s H → ∃ c' s', o_X8_endDay_11 F τ n 10 f (nI i) c = some c' ∧ o_X12_dayEnds_6 F f' (nI i) s = some s' ∧ PG τ n c0 s0 c' s' H := by
  intro r
  induction r with
  | zero =>
    intro i f f' c s hi hr hf hf' h
    obtain ⟨f, rfl⟩ : ∃ x, f = x + 1 := ⟨f - 1, by omega⟩
    obtain ⟨f', rfl⟩ : ∃ x, f' = x + 1 := ⟨f' - 1, by omega⟩
    have m := h.rb.n179
    rw [o_X8_endDay_11, o_X12_dayEnds_6, show c.1 (10 + 1) 10 = s.2.1 179 from h.rb.pl 179 1 10 rfl, gW_n s (show 179 < 2 ^ 31 by decide), if_pos (show s.2.1 179 ≤ nI i by rw [m.1]; exact nI_yes (by omega) (by omega) (by omega)), if_pos (show s.2.1 179 ≤ nI i by rw [m.1]; exact nI_yes (by omega) (by omega) (by omega))]
    exact ⟨c, s, rfl, rfl, h⟩
  | succ r ih =>
    intro i f f' c s hi hr hf hf' h
    obtain ⟨f, rfl⟩ : ∃ x, f = x + 1 := ⟨f - 1, by omega⟩
    obtain ⟨f', rfl⟩ : ∃ x, f' = x + 1 := ⟨f' - 1, by omega⟩
    have m := h.rb.n179
    rw [o_X8_endDay_11, o_X12_dayEnds_6, show c.1 (10 + 1) 10 = s.2.1 179 from h.rb.pl 179 1 10 rfl, gW_n s (show 179 < 2 ^ 31 by decide)]
    by_cases q : N (s.2.1 179) ≤ i
    · have q' : s.2.1 179 ≤ nI i := by rw [m.1]; exact nI_yes (by omega) (by omega) q
      rw [if_pos q', if_pos q']
      exact ⟨c, s, rfl, rfl, h⟩
    · have q' : ¬ s.2.1 179 ≤ nI i := by rw [m.1]; exact nI_no (by omega) (by omega) (by omega)
      obtain ⟨c1, s1, a1, a2, a3⟩ := o_digs1 hF hI (show i < 6 by omega) h
      rw [if_neg q', if_neg q', nI_mul, nI_add 180, a1, a2, Option.bind_some, Option.bind_some, nI_add i 1]
      exact ih (i + 1) f f' c1 s1 (by omega) (by omega) (by omega) (by omega) a3
theorem fl_loop (hI : LI τ n) (hq : q < 24) : ∀ (r f f' : Nat) (c : cS) (s : rs_S), N (s.2.1 (1 + q)) ≤ r → r < f → r < f' → PG τ n c0 s0 c s H → ∃ c' s', o_X8_endDay_38 F τ n 10 (nI q) f c = some c' ∧ o_X12_dayEnds_43 F (nI q) f' s = some s' ∧ PG τ n c0 s0 c' s' H := by
  intro r
  induction r with
  | zero =>
    intro f f' c s hr hf hf' h
    obtain ⟨f, rfl⟩ : ∃ x, f = x + 1 := ⟨f - 1, by omega⟩
    obtain ⟨f', rfl⟩ : ∃ x, f' = x + 1 := ⟨f' - 1, by omega⟩
    have rb := h.rb.rg.nat (rg_bed hq)
    rw [o_X8_endDay_38, o_X12_dayEnds_43, if_pos (iL_t hq (by decide)), nI_add, nI_add, if_pos (iL_t (show 49 + q < 22216 by omega) (by decide)), if_pos (iL_t (show 1 + q < 22216 by omega) (by decide)), cg_n _ _ (by omega), cg_n _ _ (by omega), gW_n _ (by omega), gW_n _ (by omega), show (10 + 2 : Nat) = 12 from rfl, show (10 + 4 : Nat) = 14 from rfl, h.bed hq, h.hp hq]
    by_cases q1 : s.2.1 (49 + q) < nI 50
    · rw [if_pos q1, if_pos q1]; exact ⟨c, s, rfl, rfl, h⟩
    · have q2 : s.2.1 (1 + q) ≤ 0 := by rw [rb.1]; exact nI_yes (y := 0) (by omega) (by decide) (by omega)
      rw [if_neg q1, if_neg q1, if_pos q2, if_pos q2]; exact ⟨c, s, rfl, rfl, h⟩
  | succ r ih =>
    intro f f' c s hr hf hf' h
    obtain ⟨f, rfl⟩ : ∃ x, f = x + 1 := ⟨f - 1, by omega⟩
    obtain ⟨f', rfl⟩ : ∃ x, f' = x + 1 := ⟨f' - 1, by omega⟩
    have rb := h.rb.rg.nat (rg_bed hq)
    rw [o_X8_endDay_38, o_X12_dayEnds_43, if_pos (iL_t hq (by decide)), nI_add, nI_add, if_pos (iL_t (show 49 + q < 22216 by omega) (by decide)), if_pos (iL_t (show 1 + q < 22216 by omega) (by decide)), cg_n _ _ (by omega), cg_n _ _ (by omega), gW_n _ (by omega), gW_n _ (by omega), show (10 + 2 : Nat) = 12 from rfl, show (10 + 4 : Nat) = 14 from rfl, h.bed hq, h.hp hq]
    by_cases q1 : s.2.1 (49 + q) < nI 50
    · rw [if_pos q1, if_pos q1]; exact ⟨c, s, rfl, rfl, h⟩
    · rw [if_neg q1, if_neg q1]
      by_cases q2 : N (s.2.1 (1 + q)) = 0
      · have q2' : s.2.1 (1 + q) ≤ 0 := by rw [rb.1]; exact nI_yes (y := 0) (by omega) (by decide) (by omega)
        rw [if_pos q2', if_pos q2']; exact ⟨c, s, rfl, rfl, h⟩
      · have q2' : ¬ s.2.1 (1 + q) ≤ 0 := by rw [rb.1]; exact nI_no (y := 0) (by omega) (by decide) (by omega)
        rw [if_neg q2', if_neg q2', ca_n c 14 (show q < 2 ^ 31 by omega), ca_n _ 12 (show q < 2 ^ 31 by omega), cg_n _ _ (by omega), cp_1 12 (by decide), h.bed hq, Option.bind_some, gW_pWn _ (by omega) (by omega) (by omega), gW_n _ (by omega)]
        have eb : s.2.1 (1 + q) - nI 1 = nI (N (s.2.1 (1 + q)) - 1) := by rw [← nI_sub (by omega), ← rb.1]
        have h1 := h.put (y := s.2.1 (49 + q) - nI 50) hI (wk_hp hq) (by unfold riv; omega) (ok_hp hq)
        have h2 := h1.put (y := s.2.1 (1 + q) - nI 1) hI (wk_bed hq) (by unfold riv; omega) (by rw [eb]; exact ok_n (rg_bed hq) (by omega) (by omega) (by omega))
        have w : (pW (pW s (nI (49 + q)) (s.2.1 (49 + q) - nI 50)) (nI (1 + q)) (s.2.1 (1 + q) - nI 1)).2.1 = upd (upd s.2.1 (49 + q) (s.2.1 (49 + q) - nI 50)) (1 + q) (s.2.1 (1 + q) - nI 1) := by rw [pW_21, pW_21, nI_clamp (by omega), nI_clamp (by omega)]
        exact ih f f' _ _ (by rw [w, upd_s, eb, N_nI (by omega)]; omega) (by omega) (by omega) h2
theorem o_fills (hF : 201 < F) (hI : LI τ n) : ∀ (r i f f' : Nat) (c : cS) (s : rs_S), i + r = 24 → r < f → r < f' → PG τ n c0 s0 c s H → ∃ c' s', o_X8_endDay_32 F τ n 10 f (nI i) c = some c' ∧ o_X12_dayEnds_37 F f' (nI i) s = some s' ∧ PG τ n c0 s0 c' s' H := by
  intro r
  induction r with
  | zero =>
    intro i f f' c s hi hf hf' h
    obtain ⟨f, rfl⟩ : ∃ x, f = x + 1 := ⟨f - 1, by omega⟩
    obtain ⟨f', rfl⟩ : ∃ x, f' = x + 1 := ⟨f' - 1, by omega⟩
    rw [o_X8_endDay_32, o_X12_dayEnds_37, if_pos (nI_yes (by omega) (by omega) (by omega)), if_pos (nI_yes (by omega) (by omega) (by omega))]
    exact ⟨c, s, rfl, rfl, h⟩
  | succ r ih =>
    intro i f f' c s hi hf hf' h
    obtain ⟨f, rfl⟩ : ∃ x, f = x + 1 := ⟨f - 1, by omega⟩
    obtain ⟨f', rfl⟩ : ∃ x, f' = x + 1 := ⟨f' - 1, by omega⟩
    have rb := h.rb.rg.nat (rg_bed (show i < 24 by omega))
    obtain ⟨c1, s1, a1, a2, a3⟩ := fl_loop (F := F) hI (show i < 24 by omega) 200 F F c s (by omega) (by omega) (by omega) h
    rw [o_X8_endDay_32, o_X12_dayEnds_37, if_neg (nI_no (by omega) (by omega) (by omega)), if_neg (nI_no (by omega) (by omega) (by omega)), a1, a2, Option.bind_some, Option.bind_some, nI_add i 1]
    exact ih (i + 1) f f' c1 s1 (by omega) (by omega) (by omega) a3
/-- a day ends -/
theorem o_days (hF : 201 < F) (hI : LI τ n) (h : PG τ n c0 s0 c s H) : ∃ c' s', o_X8_endDay F τ n 10 c (s.2.1 0 / nI 24 - nI 1) = some c' ∧ o_X12_dayEnds F s = some s' ∧ PG τ n c0 s0 c' s' H := by
  obtain ⟨z, z1, z2⟩ := o_runs (F := F) (T := s.2.1 0 / nI 24 - nI 1) (by omega) h.rb
  obtain ⟨c1, s1, a1, a2, a3⟩ := o_silts (F := F) (y := z) (by omega) hI h
  obtain ⟨c2, s2, b1, b2, b3⟩ := o_digs hF hI 6 0 F F c1 s1 (by omega) (by omega) (by omega) (by omega) a3
  obtain ⟨c3, s3, d1, d2, d3⟩ := o_fills hF hI 24 0 F F c2 s2 (by omega) (by omega) (by omega) b3
  unfold o_X8_endDay o_X12_dayEnds o_X12_settles
  rw [(R_today (F := F) (by omega) h.rb).1, Option.bind_some, z1, z2, Option.bind_some, Option.bind_some, a1, a2, Option.bind_some, Option.bind_some, b1, b2, Option.bind_some, Option.bind_some, d1, d2, Option.bind_some, Option.bind_some]
  exact ⟨_, _, rfl, rfl, d3⟩
end DAY
