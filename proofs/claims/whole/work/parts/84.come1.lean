/-! THE PURE LAYER: ships come in: the ways -/
section CM1
variable {F : Nat} {τ : cT} {n k i m B H o p b C : Nat} {c c' : cS} {s : rs_S} {v v' D : Nat → Int32} {y : Int32}
theorem le_mni {x z : Int32} : y ≤ mni x z ↔ y ≤ x ∧ y ≤ z := by
  unfold mni
  by_cases q : z < x
  · rw [if_pos q]
    rw [Int32.lt_iff_toInt_lt] at q
    simp only [Int32.le_iff_toInt_le]
    omega
  · rw [if_neg q]
    have q2 := i_nlt.mp q
    rw [Int32.le_iff_toInt_le] at q2
    simp only [Int32.le_iff_toInt_le]
    omega
/-- the least of the depths and the tide on the first m cells of a way in -/
def wim (D v : Nat → Int32) (H : Nat) : Nat → Int32
  | 0 => nI 2000
  | q + 1 => mni (wim D v H q) (D q + v (73 + (H + q / 6) % 25))
theorem wim_le : ∀ m, y ≤ wim D v H m ↔ y ≤ nI 2000 ∧ ∀ q, q < m → y ≤ D q + v (73 + (H + q / 6) % 25) := by
  intro m
  induction m with
  | zero => exact ⟨fun h => ⟨h, fun q hq => by omega⟩, fun h => h.1⟩
  | succ m ih =>
    rw [wim, le_mni, ih]
    refine ⟨fun ⟨⟨a, b⟩, e⟩ => ⟨a, fun q hq => ?_⟩, fun ⟨a, b⟩ => ⟨⟨a, fun q hq => b q (by omega)⟩, b m (by omega)⟩⟩
    by_cases e2 : q = m
    · subst e2; exact e
    · exact b q (by omega)
theorem wim_sfe (hy : y ≤ nI 2000) : y ≤ wim D v H (B + 1) ↔ sfe D v y B H 0 := by
  rw [wim_le]
  unfold sfe okc hat
  have e : ∀ q : Nat, (if (0 : Nat) = 0 then q else B - q) = q := fun q => if_pos rfl
  simp only [e]
  exact ⟨fun ⟨_, a⟩ q hq => a q (by omega), fun a => ⟨hy, fun q hq => a q (by omega)⟩⟩
theorem ways_loop {a : Nat} (ha : a ≠ 178 ∧ a ≠ 15) (hT : ∀ t, t < 25 → c.1 15 t = v (73 + t)) (hD : ∀ q, q < 24 → c.1 178 q = D q) (hH : H < 40000) : ∀ (r q f : Nat) (c' : cS), q + r = 24 → r < f → (∀ x, x ≠ a → c'.1 x = c.1 x) → c'.2 = c.2 → (∀ j, j < q → c'.1 a j = wim D v H (j + 1)) → ∃ c'', o_X8_fillWaysIn_8 F τ n 10 a 178 (nI H) f (wim D v H q) (nI q) c' = some c'' ∧ (∀ x, x ≠ a → c''.1 x = c.1 x) ∧ c''.2 = c.2 ∧ ∀ j, j < 24 → c''.1 a j = wim D v H (j + 1) := by
  intro r
  induction r with
  | zero =>
    intro q f c' hq hf h1 h2 h3
    obtain ⟨f, rfl⟩ : ∃ x, f = x + 1 := ⟨f - 1, by omega⟩
    rw [o_X8_fillWaysIn_8, if_pos (nI_yes (by omega) (by omega) (by omega))]
    exact ⟨c', rfl, h1, h2, fun j hj => h3 j (by omega)⟩
  | succ r ih =>
    intro q f c' hq hf h1 h2 h3
    obtain ⟨f, rfl⟩ : ∃ x, f = x + 1 := ⟨f - 1, by omega⟩
    have m25 : (H + q / 6) % 25 < 25 := Nat.mod_lt _ (by decide)
    have ea : irm (nI H + nI q / nI 6) (nI 25) = nI ((H + q / 6) % 25) := by rw [pk_div (by omega) (by decide) (by decide), nI_add, irm_n (by omega) (by decide) (by decide)]
    have em : mni (wim D v H q) (cg c' 178 (nI q) + cg c' (10 + 5) (nI ((H + q / 6) % 25))) = wim D v H (q + 1) := by
      rw [cg_n _ _ (by omega), cg_n _ _ (by omega), h1 178 (fun e => ha.1 e.symm), show (10 + 5 : Nat) = 15 from rfl, h1 15 (fun e => ha.2 e.symm), hD q (by omega), hT _ m25]
      rfl
    rw [o_X8_fillWaysIn_8, if_neg (nI_no (by omega) (by omega) (by omega)), if_neg (nI_no (by omega) (by omega) (by omega)), if_pos (iL_t (show q < 24 by omega) (by decide)), ea, if_pos (iL_t m25 (by decide)), em, Option.bind_some, nI_add, ca_n _ _ (by omega)]
    refine ih (q + 1) f _ (by omega) (by omega) (fun x hx => by rw [cp_1 _ hx]; exact h1 x hx) h2 (fun j hj => ?_)
    rw [cp_q]
    by_cases e : j = q
    · subst e; rw [upd_s]
    · rw [upd_n e]; exact h3 j (by omega)
theorem o_ways {a : Nat} (hF : 25 < F) (ha : a ≠ 178 ∧ a ≠ 15) (hT : ∀ t, t < 25 → c.1 15 t = v (73 + t)) (hD : ∀ q, q < 24 → c.1 178 q = D q) (hH : H < 40000) : ∃ c', o_X8_fillWaysIn F τ n 10 a 178 c (nI H) = some c' ∧ (∀ x, x ≠ a → c'.1 x = c.1 x) ∧ c'.2 = c.2 ∧ ∀ j, j < 24 → c'.1 a j = wim D v H (j + 1) := by
  obtain ⟨c', a1, a2⟩ := ways_loop (F := F) (τ := τ) (n := n) (a := a) ha hT hD hH 24 0 F c rfl (by omega) (fun _ _ => rfl) rfl (fun j hj => by omega)
  refine ⟨c', ?_, a2⟩
  unfold o_X8_fillWaysIn
  rw [show nI 2000 = wim D v H 0 from rfl, a1, Option.bind_some]
/-- sunk too deep -/
theorem closed_iff (x : Int32) : (x / nI 24 < nI 10) ↔ x < nI 240 := by
  rw [Int32.lt_iff_toInt_lt, Int32.lt_iff_toInt_lt, nI_toInt (by decide), nI_toInt (by decide)]
  have lo := toInt_lo x
  have hi := toInt_hi x
  have e : (x / nI 24).toInt = x.toInt.tdiv 24 := by
    rw [Int32.toInt_div, nI_toInt (by decide), show ((24 : Nat) : Int) = 24 from rfl]
    have h1 : (-2147483648 : Int) ≤ x.toInt.tdiv 24 ∧ x.toInt.tdiv 24 ≤ 2147483647 := by
      by_cases q : 0 ≤ x.toInt
      · rw [Int.tdiv_eq_ediv_of_nonneg q]; omega
      · have : x.toInt.tdiv 24 = -((-x.toInt).tdiv 24) := by rw [Int.neg_tdiv, Int.neg_neg]
        rw [this, Int.tdiv_eq_ediv_of_nonneg (by omega)]; omega
    exact Int.bmod_eq_of_le (by omega) (by omega)
  rw [e]
  by_cases q : 0 ≤ x.toInt
  · rw [Int.tdiv_eq_ediv_of_nonneg q]; omega
  · have : x.toInt.tdiv 24 = -((-x.toInt).tdiv 24) := by rw [Int.neg_tdiv, Int.neg_neg]
    rw [this, Int.tdiv_eq_ediv_of_nonneg (by omega)]; omega
theorem o_closed {q : Nat} : o_X1_isClosed τ n q c = some (if c.1 q 5 < nI 240 then nI 0 else nI 1) := by
  unfold o_X1_isClosed o_X1_sunk
  rw [Option.bind_some]
  by_cases e : c.1 q 5 < nI 240
  · rw [if_pos e, if_pos ((closed_iff _).mpr e)]
  · rw [if_neg e, if_neg (fun g => e ((closed_iff _).mp g))]
/-- how shallow the way in to a berth is: shut, if it has a ship or is sunk -/
def opn (v : Nat → Int32) (b : Nat) : Prop := v (1000 + 8 * b + 6) = -1 ∧ v (1000 + 8 * b + 5) < nI 240
noncomputable def wyn (D v : Nat → Int32) (H b : Nat) : Int32 := ifc (opn v b) (wim D v H (N (v (1000 + 8 * b + 0)) + 1)) (-1000)
theorem wim_r (r : Rg v) (hD : ∀ q, q < 24 → 0 ≤ (D q).toInt ∧ (D q).toInt ≤ 250) : ∀ m, m ≤ 24 → -1000 ≤ (wim D v H m).toInt ∧ (wim D v H m).toInt ≤ 2000 := by
  intro m
  induction m with
  | zero => intro _; show -1000 ≤ (nI 2000).toInt ∧ (nI 2000).toInt ≤ 2000; rw [nI_toInt (by decide)]; omega
  | succ m ih =>
    intro hm
    have h1 := ih (by omega)
    rw [wim]
    have d := hD m (by omega)
    have m25 : (H + m / 6) % 25 < 25 := Nat.mod_lt _ (by decide)
    have t := r (73 + (H + m / 6) % 25)
    unfold Ok at t
    rw [show rg (73 + (H + m / 6) % 25) = (-20, 60) by unfold rg; rw [if_neg (by omega), if_neg (by omega), if_neg (by omega), if_pos (by omega)]] at t
    have t' : -20 ≤ (v (73 + (H + m / 6) % 25)).toInt ∧ (v (73 + (H + m / 6) % 25)).toInt ≤ 60 := t
    have s : (D m + v (73 + (H + m / 6) % 25)).toInt = (D m).toInt + (v (73 + (H + m / 6) % 25)).toInt := by
      rw [Int32.toInt_add]
      exact Int.bmod_eq_of_le (by omega) (by omega)
    unfold mni
    split
    · rw [s]; omega
    · exact h1
theorem deep_loop (h : RX τ n c 10 v) (hW : ∀ j, j < 24 → c.1 179 j = wim D v H (j + 1)) : ∀ (r b f : Nat) (M : Int32) (c' : cS), b + r = N (v 999) → r < f → Cz c c' → (∀ q, q < 24 → c'.1 179 q = c.1 179 q) → (∀ j, j < b → c'.1 (39 + j) 8 = wyn D v H j ∧ wyn D v H j ≤ M) → ∃ M' c'', o_X2_deepestWayIn_29 F τ n 10 f M (nI b) c' = some (M', c'') ∧ Cz c c'' ∧ (∀ j, j < N (v 999) → c''.1 (39 + j) 8 = wyn D v H j ∧ wyn D v H j ≤ M') ∧ (M' = M ∨ ∃ j, j < N (v 999) ∧ M' = wyn D v H j) := by
  have n9 := h.n999
  intro r
  induction r with
  | zero =>
    intro b f M c' hb hf hz h9 hw
    obtain ⟨f, rfl⟩ : ∃ x, f = x + 1 := ⟨f - 1, by omega⟩
    rw [o_X2_deepestWayIn_29, hz.1 (10 + 27) 1 (by omega) (by omega), show c.1 (10 + 27) 1 = nI (N (v 999)) from (h.pl 999 27 1 rfl).trans n9.1, if_pos (nI_yes (by omega) (by omega) (by omega))]
    exact ⟨M, c', rfl, hz, fun j hj => hw j (by omega), Or.inl rfl⟩
  | succ r ih =>
    intro b f M c' hb hf hz h9 hw
    obtain ⟨f, rfl⟩ : ∃ x, f = x + 1 := ⟨f - 1, by omega⟩
    have b10 : b < 10 := by omega
    have e7 : c'.1 (10 + 28 + 1 + b) 7 = v (1000 + 8 * b + 6) := by rw [hz.1 _ 7 (by omega) (by omega)]; exact h.ber b (by omega) 7 (by decide)
    have e5 : c'.1 (10 + 28 + 1 + b) 5 = v (1000 + 8 * b + 5) := by rw [hz.1 _ 5 (by omega) (by omega)]; exact h.ber b (by omega) 5 (by decide)
    have e0 : c'.1 (10 + 28 + 1 + b) 0 = v (1000 + 8 * b + 0) := by rw [hz.1 _ 0 (by omega) (by omega)]; exact h.ber b (by omega) 0 (by decide)
    obtain ⟨eB, hB⟩ := h.rg.nw9 (B := 0) b10
    have go : ∀ y, y = wyn D v H b → ∃ M' c'', o_X2_deepestWayIn_29 F τ n 10 f (mxi M ((cp c' (10 + 28 + 1 + b) 8 y).1 (10 + 28 + 1 + b) 8)) (nI (b + 1)) (cp c' (10 + 28 + 1 + b) 8 y) = some (M', c'') ∧ Cz c c'' ∧ (∀ j, j < N (v 999) → c''.1 (39 + j) 8 = wyn D v H j ∧ wyn D v H j ≤ M') ∧ (M' = M ∨ ∃ j, j < N (v 999) ∧ M' = wyn D v H j) := fun y hy => by
      have hz' : Cz c (cp c' (10 + 28 + 1 + b) 8 y) := hz.trans ⟨fun a j h1 h2 => by
        by_cases e : a = 10 + 28 + 1 + b
        · subst e; rw [cp_q, upd_n (by omega)]
        · rw [cp_1 _ e], rfl⟩
      have ev : (cp c' (10 + 28 + 1 + b) 8 y).1 (10 + 28 + 1 + b) 8 = y := by rw [cp_q, upd_s]
      rw [ev]
      have mx : ∀ z, z ≤ M → z ≤ mxi M y := fun z hz => by
        unfold mxi
        by_cases q : M < y
        · rw [if_pos q]
          rw [Int32.lt_iff_toInt_lt] at q
          rw [Int32.le_iff_toInt_le] at hz ⊢
          omega
        · rw [if_neg q]; exact hz
      have my : y ≤ mxi M y := by
        unfold mxi
        by_cases q : M < y
        · rw [if_pos q]; exact Int32.le_refl _
        · rw [if_neg q]; exact i_nlt.mp q
      obtain ⟨M', c'', a1, a2, a3, a4⟩ := ih (b + 1) f (mxi M y) (cp c' (10 + 28 + 1 + b) 8 y) (by omega) (by omega) hz' (fun q hq => by rw [cp_1 _ (by omega)]; exact h9 q hq) (fun j hj => by
        by_cases e : j = b
        · subst e
          rw [show 39 + j = 10 + 28 + 1 + j by omega, ev, hy]
          exact ⟨rfl, by rw [← hy]; exact my⟩
        · have := hw j (by omega)
          exact ⟨by rw [cp_1 _ (by omega)]; exact this.1, mx _ this.2⟩)
      refine ⟨M', c'', a1, a2, a3, ?_⟩
      rcases a4 with e | e
      · rw [e]
        unfold mxi
        by_cases q : M < y
        · rw [if_pos q]; exact Or.inr ⟨b, by omega, hy⟩
        · rw [if_neg q]; exact Or.inl rfl
      · exact Or.inr e
    rw [o_X2_deepestWayIn_29, hz.1 (10 + 27) 1 (by omega) (by omega), show c.1 (10 + 27) 1 = nI (N (v 999)) from (h.pl 999 27 1 rfl).trans n9.1, if_neg (nI_no (by omega) (by omega) (by omega)), if_pos (iL_t b10 (by decide)), nI_clamp (by omega), e7, o_closed, e5, nI_add]
    by_cases q1 : v (1000 + 8 * b + 6) = -1
    · rw [if_pos q1, Option.bind_some]
      by_cases q2 : v (1000 + 8 * b + 5) < nI 240
      · rw [if_pos q2, if_pos (show (nI 0 : Int32) = 0 from nI_0), e0, eB, if_pos (iL_t hB (by decide)), cg_n _ _ (by omega), show (10 + 169 : Nat) = 179 from rfl, h9 _ hB, hW _ hB, Option.bind_some]
        exact go _ (ifc_pos ⟨q1, q2⟩).symm
      · rw [if_neg q2, if_neg (show ¬ (nI 1 : Int32) = 0 by decide)]
        exact go _ (ifc_neg (fun g => q2 g.2)).symm
    · rw [if_neg q1]
      exact go _ (ifc_neg (fun g => q1 g.1)).symm
/-- depths are small -/
theorem dp_r (r : Rg v) (hk : k < 24) : 0 ≤ (dp v k).toInt ∧ (dp v k).toInt ≤ 250 := by
  have b := r.b
  unfold dp kn
  cases e : ls v (nI k) (v 0) (N (v 198)) with
  | none =>
    have t := r (25 + k)
    unfold Ok at t
    rw [show rg (25 + k) = (0, 200) by unfold rg; rw [if_neg (by omega), if_pos (by omega)]] at t
    have t' : 0 ≤ (v (25 + k)).toInt ∧ (v (25 + k)).toInt ≤ 200 := t
    show 0 ≤ (v (25 + k)).toInt ∧ (v (25 + k)).toInt ≤ 250
    omega
  | some j =>
    have hj := ls_lt e
    have t := r (199 + 4 * j + 2)
    unfold Ok at t
    rw [show rg (199 + 4 * j + 2) = (0, 250) by unfold rg; rw [if_neg (by omega), if_neg (by omega), if_neg (by omega), if_neg (by omega), if_neg (by omega), if_neg (by omega), if_neg (by omega), if_neg (by omega), if_neg (by omega), if_pos (by omega), if_pos (by omega)]] at t
    exact t
theorem o_deep (hF : 201 < F) (hI : LI τ n) (h : RB τ n c 10 v) (h0 : v 0 = nI H) (hH : H ≤ 30000) (hD : ∀ q, q < 24 → dp v q = D q) : ∃ M c', o_X2_deepestWayIn F τ n 10 c = some (M, c') ∧ Cz c c' ∧ (∀ j, j < N (v 999) → c'.1 (39 + j) 8 = wyn D v H j ∧ wyn D v H j ≤ M) ∧ -1000 ≤ M.toInt ∧ M.toInt ≤ 2000 := by
  have n9 := h.n999.2
  obtain ⟨c1, a1, a2, a3, a4⟩ := o_fillD (F := F) (τ := τ) (n := n) (by omega) h.x
  have z1 : Cz c c1 := ⟨fun a j h1 _ => by rw [a2 a (by omega)], a3⟩
  have T1 : ∀ t, t < 25 → c1.1 15 t = v (73 + t) := fun t ht => by rw [a2 15 (by decide)]; exact h.x.tid t ht
  obtain ⟨c2, b1, b2, b3, b4⟩ := o_ways (F := F) (τ := τ) (n := n) (c := c1) (D := D) (v := v) (H := H) (a := 179) (by omega) (by decide) T1 (fun q hq => by rw [a4 q hq]; exact hD q hq) (by omega)
  have z2 : Cz c1 c2 := ⟨fun a j h1 _ => by rw [b2 a (by omega)], b3⟩
  have x2 := h.x.cz hI (z1.trans z2)
  obtain ⟨M, c3, d1, d2, d3, d4⟩ := deep_loop (F := F) x2 b4 _ 0 F (-1000) c2 (Nat.zero_add _) (by omega) (Cz.refl _) (fun _ _ => rfl) (fun j hj => by omega)
  refine ⟨M, c3, ?_, (z1.trans z2).trans d2, d3, ?_⟩
  · unfold o_X2_deepestWayIn
    rw [a1, Option.bind_some, show (10 + 169 : Nat) = 179 from rfl, show (10 + 168 : Nat) = 178 from rfl, a2 10 (by decide), show c.1 10 0 = nI H from (h.pl 0 0 0 rfl).trans h0, b1, Option.bind_some, d1, Option.bind_some]
  · have m1 : ((-1000 : Int32)).toInt = -1000 := by decide
    rcases d4 with e | ⟨j, hj, e⟩
    · rw [e, m1]; omega
    · rw [e]
      unfold wyn
      obtain ⟨_, hB⟩ := h.rg.nw9 (B := 0) (show j < 10 by omega)
      have w := wim_r (H := H) (D := D) h.rg (fun q hq => by rw [← hD q hq]; exact dp_r h.rg hq) (N (v (1000 + 8 * j + 0)) + 1) (by omega)
      by_cases q : opn v j
      · rw [ifc_pos q]; exact w
      · rw [ifc_neg q, m1]; omega
end CM1
