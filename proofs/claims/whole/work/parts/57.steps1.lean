/-! THE PURE LAYER: calls that only look, and calls that set a plain number -/
theorem e_tide2 {τ : cT} {n : Nat} {c : cS} {s : rs_S} {a1 a2 : Int32} : (∃ k, k < 25 ∧ a1 = nI k ∧ ¬ a2 < -20 ∧ ¬ nI 60 < a2 ∧ o_X11_tide τ n 0 c a1 a2 = some (.inl (cp c 15 k a2)) ∧ o_X12_tide s a1 a2 = some (pW (pN s 0 (nI 0)) (nI (73 + k)) a2)) ∨ (o_X11_tide τ n 0 c a1 a2 = some (.inr (1, c)) ∧ o_X12_tide s a1 a2 = some (pN (pN s 0 (nI 0)) 0 (nI 1))) := by
  unfold o_X11_tide o_X12_tide
  rcases rng a1 (nI 0) (nI 24) with ⟨w1, r1, h1, h2⟩ | ⟨w1, r1⟩
  · rcases rng a2 (-20) (nI 60) with ⟨w2, r2, h3, h4⟩ | ⟨w2, r2⟩
    · obtain ⟨k, hk, rfl⟩ := i_in h1 h2 (by decide)
      have i1 : iL (nI k) 25 := iL_t (by omega) (by decide)
      have i2 : iL (nI (73 + k)) 22216 := iL_t (by omega) (by decide)
      refine Or.inl ⟨k, by omega, rfl, h3, h4, ?_, ?_⟩
      · simp only [w1, w2, Option.bind_some, z1, if_false, nA1, Sum.elim_inl, if_pos i1]
        rw [ca_n _ _ (by omega)]
      · simp only [r1, r2, Option.bind_some, z1, if_false, nI_add, if_pos i2]
    · right; simp only [w1, w2, r1, r2, Option.bind_some, z0, z1, if_true, if_false, nA0, Sum.elim_inr, and_self]
  · right; simp only [w1, r1, Option.bind_some, z0, if_true, nA0, Sum.elim_inr, and_self]
section ST
variable {F : Nat} {x : Nat → Int32} {τ : cT} {n : Nat} {c : cS} {s : rs_S}
theorem Rel.pn2 (h : Rel τ n c s) (x y : Int32) : Rel τ (n + 1) c (pN (pN s 0 x) 0 y) := ((h.pn x).pn y).up
theorem pN00 (s : rs_S) (x y : Int32) : (pN (pN s 0 x) 0 y).1 0 = y := pN0 _ _
theorem st7 (hF : 30000 ≤ F) (h : Rel τ n c s) : stp Rel F 7 x τ n c s := by
  rcases e_cell (F := F) (τ := τ) (n := n) (a1 := x 1) (a2 := x 2) (by omega) h.b.pl h.b.n198.1 h.b.n198.2 with ⟨v, a, b⟩ | ⟨a, b⟩ | ⟨a, b⟩
  · exact Or.inl ⟨v, _, a, b, pN0 _ _, h.pn _⟩
  · exact Or.inr (Or.inl ⟨_, _, a, b, pN0 _ _, h.pn2 _ _⟩)
  · exact Or.inr (Or.inr ⟨_, _, a, b, pN0 _ _, h.pn2 _ _⟩)
theorem st9 (hF : 30000 ≤ F) (h : Rel τ n c s) : stp Rel F 9 x τ n c s := by
  rcases e_known (F := F) (τ := τ) (n := n) (a1 := x 1) (a2 := x 2) (by omega) h.b.pl h.b.n198.1 h.b.n198.2 with ⟨v, a, b⟩ | ⟨a, b⟩
  · exact Or.inl ⟨v, _, a, b, pN0 _ _, h.pn _⟩
  · exact Or.inr ⟨_, _, a, b, pN0 _ _, h.pn2 _ _⟩
theorem st16 (h : Rel τ n c s) : stp Rel F 16 x τ n c s := by
  rcases e_quay (τ := τ) (n := n) (a1 := x 1) (a2 := x 2) (h.b.pl 999 27 1 rfl) h.b.n999.1 h.b.n999.2 h.b.ber with ⟨v, a, b⟩ | ⟨a, b⟩ | ⟨a, b⟩
  · exact Or.inl ⟨v, _, a, b, pN0 _ _, h.pn _⟩
  · exact Or.inr (Or.inl ⟨_, _, a, b, pN0 _ _, h.pn2 _ _⟩)
  · exact Or.inr (Or.inr ⟨_, _, a, b, pN0 _ _, h.pn2 _ _⟩)
theorem st28 (h : Rel τ n c s) : stp Rel F 28 x τ n c s := by
  rcases e_owes (τ := τ) (n := n) (a1 := x 1) (a2 := x 2) h.b.pl h.b.n2665.1 h.b.n2665.2 with ⟨v, a, b⟩ | ⟨a, b⟩ | ⟨a, b⟩
  · exact Or.inl ⟨v, _, a, b, pN0 _ _, h.pn _⟩
  · exact Or.inr (Or.inl ⟨_, _, a, b, pN0 _ _, h.pn2 _ _⟩)
  · exact Or.inr (Or.inr ⟨_, _, a, b, pN0 _ _, h.pn2 _ _⟩)
theorem st20 (h : Rel τ n c s) : stp Rel F 20 x τ n c s := by
  obtain ⟨a, b⟩ := e_fault (τ := τ) (n := n) (c := c) (s := s) h.t.2.2
  exact ⟨_, _, a, b, h.pn _⟩
/-- a plain number is set on both sides -/
theorem Rel.put {k o j : Nat} {y : Int32} (h : Rel τ n c s) (hI : LI τ n) (hk : wk k = some (o, j)) (h0 : k ≠ 0) (h1 : k ≠ 198 ∧ k ≠ 999 ∧ (199 ≤ k → k < 999 → 199 + 4 * N (s.2.1 198) ≤ k)) (h2 : k ≠ 1211) (h3 : k ≠ 2661) (h4 : k ≠ 2811) (hx : Ok k y) (hC : Cr (upd s.2.1 k y)) : Rel τ n (cp c (10 + o) j y) (pW s (nI k) y) := by
  have w := wk_no hk
  have hk2 : k < 2812 := by
    by_cases q : k < 2812
    · exact q
    · rw [wk_le (by omega)] at hk; cases hk
  have o18 : ∀ q, q < 54 → ∀ r, r < 54 → (match wk (54 * q + r) with | some (o, _) => decide (o < 18 ∨ 23 < o) | none => true) = true := by decide +kernel
  have o19 := o18 (k / 54) (by omega) (k % 54) (by omega)
  rw [show 54 * (k / 54) + k % 54 = k by omega, hk] at o19
  have o20 : o < 18 ∨ 23 < o := of_decide_eq_true o19
  have hw : Nw c (cp c (10 + o) j y) := Nw.refl.cp (by omega) (by omega) (by omega)
  refine h.now hI hw ?_ (fun _ _ => rfl) (fun _ _ => rfl)
  rw [pW_21, nI_clamp (by omega)]
  exact h.b.put hk h0 h1 h2 h3 h4 hx hC (hw.as hI)
/-- .. a free one -/
theorem Rel.fre {k o j : Nat} {y : Int32} (h : Rel τ n c s) (hI : LI τ n) (hk : wk k = some (o, j)) (hf : ¬ crp s.2.1 k) (h1 : ¬ (198 ≤ k ∧ k ≤ 999)) (h3 : k ≠ 2661) (h4 : k ≠ 2811) (hx : Ok k y) : Rel τ n (cp c (10 + o) j y) (pW s (nI k) y) := h.put hI hk (fun e => hf (by unfold crp; omega)) ⟨by omega, by omega, fun _ _ => by omega⟩ (fun e => hf (by unfold crp; omega)) h3 h4 hx (h.b.cr.free h.b.rg hf)
theorem ok_lo {k : Nat} {y : Int32} {lo hi : Int} (e : rg k = (lo, hi)) (h1 : lo ≤ y.toInt) (h2 : y.toInt ≤ hi) : Ok k y := by unfold Ok; rw [e]; exact ⟨h1, h2⟩
theorem nlt_i {x y : Int32} (h : ¬ x < y) : y.toInt ≤ x.toInt := by rw [Int32.lt_iff_toInt_lt] at h; omega
theorem st3 (hI : LI τ n) (h : Rel τ n c s) : stp Rel F 3 x τ n c s := by
  rcases e_tide2 (τ := τ) (n := n) (c := c) (s := s) (a1 := x 1) (a2 := x 2) with ⟨k, hk, _, q1, q2, a, b⟩ | ⟨a, b⟩
  · refine Or.inl ⟨_, _, a, b, pN0 s (nI 0), ?_⟩
    have w : wk (73 + k) = some (5, k) := by unfold wk; rw [if_neg (by omega), if_neg (by omega), if_neg (by omega), if_neg (by omega), if_pos (by omega), show 73 + k - 73 = k by omega]
    refine (h.pn (nI 0)).fre hI w (by unfold crp; omega) (by omega) (by omega) (by omega) ?_
    exact ok_lo (lo := -20) (hi := 60) (by unfold rg; rw [if_neg (by omega), if_neg (by omega), if_neg (by omega), if_pos (by omega)]) (by have := nlt_i q1; rw [show ((-20 : Int32)).toInt = -20 by decide] at this; exact this) (by have := nlt_i q2; rw [nI_toInt (by decide)] at this; exact this)
  · exact Or.inr ⟨_, _, a, b, pN0 _ _, h.pn2 _ _⟩
theorem st11 (hI : LI τ n) (h : Rel τ n c s) : stp Rel F 11 x τ n c s := by
  rcases e_hands (τ := τ) (n := n) (c := c) (s := s) (a1 := x 1) (a2 := x 2) with ⟨k, m, hk, hm, e1, e2, a, b⟩ | ⟨a, b⟩
  · refine Or.inl ⟨_, _, a, b, pN0 s (nI 0), ?_⟩
    have r1 : Rel τ n (cp c 37 4 (x 1)) (pW (pN s 0 (nI 0)) (nI 1080) (x 1)) := (h.pn (nI 0)).fre (o := 27) (j := 4) hI rfl (by unfold crp; omega) (by omega) (by omega) (by omega) (by rw [e1]; exact ok_n (lo := 0) (hi := 20) rfl (by omega) (by omega) (by omega))
    exact r1.fre (o := 27) (j := 5) hI rfl (by unfold crp; omega) (by omega) (by omega) (by omega) (by rw [e2]; exact ok_n (lo := 0) (hi := 100) rfl (by omega) (by omega) (by omega))
  · exact Or.inr ⟨_, _, a, b, pN0 _ _, h.pn2 _ _⟩
/-- what is added up to the most -/
theorem add_nn {m j : Nat} (hm : m ≤ 2000000000) (hj : j < 2 ^ 31) : ∃ d, d ≤ 2000000000 ∧ m ≤ d ∧ (d = m + j ∨ d = 2000000000) ∧ (mnl 2000000000 ((nI m).toInt64 + (nI j).toInt64)).toInt32 = nI d := by
  rw [nI_l (by omega), nI_l hj, lN_add]
  unfold mnl
  by_cases q : 2000000000 < m + j
  · rw [if_neg (show ¬ lN (m + j) < (2000000000 : Int64) from fun q2 => absurd ((pk_lLT (show m + j < 2 ^ 63 by omega) (show 2000000000 < 2 ^ 63 by decide)).mp q2) (by omega))]
    exact ⟨2000000000, by decide, hm, Or.inr rfl, by decide⟩
  · by_cases q3 : m + j < 2000000000
    · rw [if_pos (show lN (m + j) < (2000000000 : Int64) from (pk_lLT (show m + j < 2 ^ 63 by omega) (show 2000000000 < 2 ^ 63 by decide)).mpr q3)]
      exact ⟨m + j, by omega, by omega, Or.inl rfl, lN_i _⟩
    · rw [if_neg (show ¬ lN (m + j) < (2000000000 : Int64) from fun q2 => absurd ((pk_lLT (show m + j < 2 ^ 63 by omega) (show 2000000000 < 2 ^ 63 by decide)).mp q2) (by omega))]
      exact ⟨2000000000, by decide, hm, Or.inr rfl, by decide⟩
theorem ok_add {v : Nat → Int32} {y : Int32} (r : Rg v) (hy : ¬ y < nI 0) : Ok 2652 (mnl 2000000000 ((v 2652).toInt64 + y.toInt64)).toInt32 := by
  have h1 := r.nat (k := 2652) (hi := 2000000000) rfl
  obtain ⟨j, hj, rfl⟩ := nI_of (show ¬ y < 0 from hy)
  rw [h1.1]
  obtain ⟨d, hd, _, _, e⟩ := add_nn (m := N (v 2652)) (j := j) (by omega) hj
  rw [e]
  exact ok_n (lo := 0) (hi := 2000000000) rfl (by omega) (by omega) (by omega)
theorem st26 (hI : LI τ n) (h : Rel τ n c s) : stp Rel F 26 x τ n c s := by
  rcases e_cash (τ := τ) (n := n) (c := c) (s := s) (a1 := x 1) (h.b.pl 2652 121 0 rfl) with ⟨v, a, b, ev, q1, -⟩ | ⟨a, v, b⟩
  · refine Or.inl ⟨_, _, _, a, b, pN0 s (nI 0), (h.pn (nI 0)).fre (o := 121) (j := 0) hI rfl (by unfold crp; omega) (by omega) (by omega) (by omega) ?_⟩
    rw [ev]
    exact ok_add h.b.rg q1
  · exact Or.inr ⟨_, _, _, a, b, pN0 _ _, h.pn2 _ _⟩
theorem st4 (hI : LI τ n) (h : Rel τ n c s) : stp Rel F 4 x τ n c s := by
  rcases e_run (τ := τ) (n := n) (c := c) (s := s) (a1 := x 1) (a2 := x 2) (h.b.pl 0 0 0 rfl) (h.b.pl 98 1 6 rfl) h.b.n98.1 h.b.n98.2 with ⟨hm, a, b⟩ | ⟨a, b⟩ | ⟨a, b⟩
  · refine Or.inl ⟨_, _, _, a, b, pN0 s (nI 0), ?_⟩
    generalize N (s.2.1 98) = m at hm
    have w1 : wk (99 + 2 * m) = some (6, m) := by unfold wk; rw [if_neg (by omega), if_neg (by omega), if_neg (by omega), if_neg (by omega), if_neg (by omega), if_neg (by omega), if_pos (by omega), show (99 + 2 * m - 99) % 2 = 0 by omega, show (99 + 2 * m - 99) / 2 = m by omega]
    have w2 : wk (99 + 2 * m + 1) = some (7, m) := by unfold wk; rw [if_neg (by omega), if_neg (by omega), if_neg (by omega), if_neg (by omega), if_neg (by omega), if_neg (by omega), if_pos (by omega), show (99 + 2 * m + 1 - 99) % 2 = 1 by omega, show (99 + 2 * m + 1 - 99) / 2 = m by omega]
    have g1 : rg (99 + 2 * m) = (-2147483648, 2147483647) := by unfold rg; rw [if_neg (by omega), if_neg (by omega), if_neg (by omega), if_neg (by omega), if_neg (by omega), if_pos (by omega)]
    have g2 : rg (99 + 2 * m + 1) = (-2147483648, 2147483647) := by unfold rg; rw [if_neg (by omega), if_neg (by omega), if_neg (by omega), if_neg (by omega), if_neg (by omega), if_pos (by omega)]
    have r1 := (h.pn (nI 0)).fre (y := x 1) hI w1 (by unfold crp; omega) (by omega) (by omega) (by omega) (rg_any g1)
    have r2 := r1.fre (y := x 2) hI w2 (by unfold crp; omega) (by omega) (by omega) (by omega) (rg_any g2)
    exact r2.fre (o := 1) (j := 6) (k := 98) hI rfl (by unfold crp; omega) (by omega) (by omega) (by omega) (ok_n (lo := 0) (hi := 40) rfl (by omega) (by omega) (by omega))
  · exact Or.inl ⟨_, _, _, a, b, pN0 _ _, h.pn _⟩
  · exact Or.inr ⟨_, _, _, a, b, pN0 _ _, h.pn2 _ _⟩
theorem wk_d {i j : Nat} (hi : i < 6) (hj : j < 3) : wk (180 + 3 * i + j) = some (8 + j, i) := by
  unfold wk
  rw [if_neg (by omega), if_neg (by omega), if_neg (by omega), if_neg (by omega), if_neg (by omega), if_neg (by omega), if_neg (by omega), if_neg (by omega), if_pos (by omega), show (180 + 3 * i + j - 180) % 3 = j by omega, show (180 + 3 * i + j - 180) / 3 = i by omega]
theorem rg_d {i j : Nat} (hi : i < 6) (hj : j < 3) : rg (180 + 3 * i + j) = if j = 0 then (-2147483648, 2147483647) else (-1, 23) := by
  unfold rg
  rw [if_neg (by omega), if_neg (by omega), if_neg (by omega), if_neg (by omega), if_neg (by omega), if_neg (by omega), if_neg (by omega), if_pos (by omega), show (180 + 3 * i + j - 180) % 3 = j by omega]
theorem st5 (hI : LI τ n) (h : Rel τ n c s) : stp Rel F 5 x τ n c s := by
  rcases e_dredger (τ := τ) (n := n) (c := c) (s := s) (a1 := x 1) (h.b.pl 179 1 10 rfl) h.b.n179.1 h.b.n179.2 with ⟨hm, _, _, a, b⟩ | ⟨a, b⟩ | ⟨a, b⟩
  · refine Or.inl ⟨_, _, _, a, b, pN0 s (nI 0), ?_⟩
    generalize N (s.2.1 179) = m at hm
    have r1 := (h.pn (nI 0)).fre (y := x 1) hI (wk_d (j := 0) hm (by decide)) (by unfold crp; omega) (by omega) (by omega) (by omega) (rg_any (rg_d (j := 0) hm (by decide)))
    have r2 := r1.fre (y := -1) hI (wk_d (j := 1) hm (by decide)) (by unfold crp; omega) (by omega) (by omega) (by omega) (ok_m (hi := 23) (rg_d (j := 1) hm (by decide)) (by decide))
    have r3 := r2.fre (y := -1) hI (wk_d (j := 2) hm (by decide)) (by unfold crp; omega) (by omega) (by omega) (by omega) (ok_m (hi := 23) (rg_d (j := 2) hm (by decide)) (by decide))
    exact r3.fre (o := 1) (j := 10) (k := 179) hI rfl (by unfold crp; omega) (by omega) (by omega) (by omega) (ok_n (lo := 0) (hi := 6) rfl (by omega) (by omega) (by omega))
  · exact Or.inr (Or.inr ⟨_, _, _, a, b, pN0 _ _, h.pn2 _ _⟩)
  · exact Or.inr (Or.inl ⟨_, _, _, a, b, pN0 _ _, h.pn2 _ _⟩)
theorem st6 (hI : LI τ n) (h : Rel τ n c s) : stp Rel F 6 x τ n c s := by
  rcases e_station (τ := τ) (n := n) (c := c) (s := s) (a1 := x 1) (a2 := x 2) (a3 := x 3) h.b.pl h.b.n179.1 h.b.n179.2 with ⟨k, v, hk, _, p2, p3, a, b⟩ | ⟨a, b⟩
  · refine Or.inl ⟨_, _, _, a, b, pN0 s (nI 0), ?_⟩
    have hk6 : k < 6 := by have := h.b.n179.2; omega
    have ok : ∀ j, 1 ≤ j → j < 3 → ∀ y : Int32, (y = -1 ∨ ∃ i, i < 24 ∧ y = nI i) → Ok (180 + 3 * k + j) y := fun j j1 j2 y hy => by
      have e := rg_d (i := k) hk6 j2
      rw [if_neg (by omega)] at e
      rcases hy with rfl | ⟨i, hi, rfl⟩
      · exact ok_m e (by decide)
      · exact ok_n e (by omega) (by omega) (by omega)
    have r1 := (h.pn (nI 0)).fre (y := x 2) hI (wk_d (j := 1) hk6 (by decide)) (by unfold crp; omega) (by omega) (by omega) (by omega) (ok 1 (by decide) (by decide) _ p2)
    exact r1.fre (y := x 3) hI (wk_d (j := 2) hk6 (by decide)) (by unfold crp; omega) (by omega) (by omega) (by omega) (ok 2 (by decide) (by decide) _ p3)
  · exact Or.inr ⟨_, _, _, a, b, pN0 _ _, h.pn2 _ _⟩
theorem wk_w {i j : Nat} (hi : i < 6) (hj : j < 3) : wk (2787 + 4 * i + j) = some (132 + j, i) := by
  have h : ∀ i, i < 6 → ∀ j, j < 3 → wk (2787 + 4 * i + j) = some (132 + j, i) := by decide +kernel
  exact h i hi j hj
theorem rg_w {k : Nat} (h1 : 2787 ≤ k) (h2 : k < 2811) : rg k = (-2147483648, 2147483647) := by
  have h : ∀ i, i < 24 → rg (2787 + i) = (-2147483648, 2147483647) := by decide +kernel
  have := h (k - 2787) (by omega)
  rw [show 2787 + (k - 2787) = k by omega] at this
  exact this
theorem st30 (hI : LI τ n) (h : Rel τ n c s) : stp Rel F 30 x τ n c s := by
  rcases e_work (τ := τ) (n := n) (c := c) (s := s) (a1 := x 1) (a2 := x 2) (a3 := x 3) (a4 := x 4) (h.b.pl 2786 131 3 rfl) h.b.n2786.1 h.b.n2786.2 with ⟨hm, _, _, _, _, _, _, _, _, a, b⟩ | ⟨a, b⟩ | ⟨a, b⟩
  · refine Or.inl ⟨_, _, _, a, b, pN0 s (nI 0), ?_⟩
    generalize N (s.2.1 2786) = m at hm
    have r1 := (h.pn (nI 0)).fre (y := x 1) hI (wk_w (j := 0) hm (by decide)) (by unfold crp; omega) (by omega) (by omega) (by omega) (rg_any (rg_w (by omega) (by omega)))
    have r2 := r1.fre (y := x 2 * (nI 100 - x 4) / nI 100) hI (wk_w (j := 1) hm (by decide)) (by unfold crp; omega) (by omega) (by omega) (by omega) (rg_any (rg_w (by omega) (by omega)))
    have r3 := r2.fre (y := x 3) hI (wk_w (j := 2) hm (by decide)) (by unfold crp; omega) (by omega) (by omega) (by omega) (rg_any (rg_w (by omega) (by omega)))
    exact r3.fre (o := 131) (j := 3) (k := 2786) hI rfl (by unfold crp; omega) (by omega) (by omega) (by omega) (ok_n (lo := 0) (hi := 6) rfl (by omega) (by omega) (by omega))
  · exact Or.inl ⟨_, _, _, a, b, pN0 _ _, h.pn _⟩
  · exact Or.inr ⟨_, _, _, a, b, pN0 _ _, h.pn2 _ _⟩
end ST
