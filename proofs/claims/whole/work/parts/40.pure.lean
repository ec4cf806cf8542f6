/-! THE PURE LAYER: where the class's Board and the reference's row hold the same number -/
/-- the place (part of the Board, index) of the row's place k, where it is plainly the same number -/
def wk (k : Nat) : Option (Nat × Nat) :=
  if k = 0 then some (0, 0) else if k < 25 then some (2, k - 1) else if k < 49 then some (3, k - 25) else if k < 73 then some (4, k - 49) else if k < 98 then some (5, k - 73)
  else if k = 98 then some (1, 6) else if k < 179 then some (6 + (k - 99) % 2, (k - 99) / 2) else if k = 179 then some (1, 10) else if k < 198 then some (8 + (k - 180) % 3, (k - 180) / 3)
  else if k = 198 then some (11, 4) else if k < 999 then some (12 + (k - 199) % 4, (k - 199) / 4) else if k = 999 then some (27, 1) else if k < 1080 then none
  else if k = 1080 then some (27, 4) else if k = 1081 then some (27, 5) else if k < 1090 then none else if k = 1090 then some (121, 6)
  else if k < 1211 then (if (k - 1091) % 4 = 3 then some (26, (k - 1091) / 4) else some (122 + (k - 1091) % 4, (k - 1091) / 4)) else if k = 1211 then some (27, 3) else if k < 2652 then none
  else if k < 2655 then some (121, k - 2652) else if k = 2655 then none else if k < 2659 then some (1, k - 2645) else if k = 2659 then some (27, 7) else if k = 2660 then none
  else if k = 2661 then some (17, 4) else if k = 2662 then some (17, 6) else if k = 2663 then some (17, 8) else if k = 2664 then some (17, 9)
  else if k = 2665 then some (121, 13) else if k < 2786 then some (125 + (k - 2666) % 6, (k - 2666) / 6) else if k = 2786 then some (131, 3) else if k < 2811 then (if (k - 2787) % 4 = 3 then none else some (132 + (k - 2787) % 4, (k - 2787) / 4)) else if k = 2811 then some (17, 3) else none
/-- and back -/
def wr (o j : Nat) : Nat :=
  if o = 0 then 0 else if o = 1 then (if j = 6 then 98 else if j = 10 then 179 else j + 2645) else if o = 2 then j + 1 else if o = 3 then j + 25 else if o = 4 then j + 49 else if o = 5 then j + 73
  else if o < 8 then 99 + 2 * j + (o - 6) else if o < 11 then 180 + 3 * j + (o - 8) else if o = 11 then 198 else if o < 16 then 199 + 4 * j + (o - 12)
  else if o = 17 then (if j = 4 then 2661 else if j = 6 then 2662 else if j = 8 then 2663 else if j = 9 then 2664 else 2811) else if o = 26 then 1091 + 4 * j + 3
  else if o = 27 then (if j = 1 then 999 else if j = 4 then 1080 else if j = 5 then 1081 else if j = 3 then 1211 else 2659) else if o = 121 then (if j = 6 then 1090 else if j = 13 then 2665 else j + 2652)
  else if o < 125 then 1091 + 4 * j + (o - 122) else if o < 131 then 2666 + 6 * j + (o - 125) else if o = 131 then 2786 else 2787 + 4 * j + (o - 132)
def wk_ok (k : Nat) : Bool := match wk k with
  | some (o, j) => decide (wr o j = k) && decide (o < 170)
  | none => true
theorem wk_wr2 : ∀ a, a < 54 → ∀ b, b < 54 → wk_ok (54 * a + b) = true := by decide +kernel
theorem wk_wr (k : Nat) (hk : k < 2812) : wk_ok k = true := by
  have h := wk_wr2 (k / 54) (by omega) (k % 54) (by omega)
  rw [show 54 * (k / 54) + k % 54 = k by omega] at h
  exact h
theorem wk_le {k : Nat} (h : 2812 ≤ k) : wk k = none := by
  unfold wk
  repeat rw [if_neg (by omega)]
theorem wk_back {k o j : Nat} (h : wk k = some (o, j)) : wr o j = k ∧ o < 170 := by
  by_cases hk : k < 2812
  · have := wk_wr k hk
    unfold wk_ok at this
    rw [h] at this
    simpa using this
  · rw [wk_le (by omega)] at h; cases h
/-- the plain part of the relation of a Board at b and a row -/
def Pl (c : cS) (b : Nat) (v : Nat → Int32) : Prop := ∀ k o j, wk k = some (o, j) → c.1 (b + o) j = v k
theorem Pl.put {c : cS} {b o j k : Nat} {v : Nat → Int32} {x : Int32} (h : Pl c b v) (hk : wk k = some (o, j)) : Pl (cp c (b + o) j x) b (upd v k x) := by
  intro k' o' j' h'
  by_cases e : k' = k
  · subst e
    cases h'.symm.trans hk
    rw [cp_q]; unfold upd; rw [if_pos rfl, if_pos rfl]
  · have hne : upd v k x k' = v k' := if_neg e
    rw [hne, ← h k' o' j' h']
    by_cases e2 : o' = o
    · subst e2
      rw [cp_q]
      have e3 : j' ≠ j := fun e3 => e (by subst e3; exact (wk_back h').1.symm.trans (wk_back hk).1)
      exact if_neg e3
    · rw [cp_1 _ (by omega)]
/-- numbers that aren't plain -/
theorem Pl.cls {c : cS} {b q j : Nat} {v : Nat → Int32} {x : Int32} (h : Pl c b v) (hq : ∀ k o' j', wk k = some (o', j') → ¬ (b + o' = q ∧ j' = j)) : Pl (cp c q j x) b v := by
  intro k o' j' h'
  rw [← h k o' j' h']
  by_cases e : b + o' = q
  · rw [e, cp_q]; exact if_neg (fun e2 => hq k o' j' h' ⟨e, e2⟩)
  · rw [cp_1 _ e]
theorem Pl.ref {c : cS} {b k : Nat} {v : Nat → Int32} {x : Int32} (h : Pl c b v) (hk : wk k = none) : Pl c b (upd v k x) := by
  intro k' o' j' h'
  rw [h k' o' j' h']
  exact (if_neg (fun e => by subst e; rw [hk] at h'; cases h')).symm
theorem Pl.same {c c' : cS} {b : Nat} {v : Nat → Int32} (h : Pl c b v) (hc : ∀ o, o < 170 → c'.1 (b + o) = c.1 (b + o)) : Pl c' b v := fun k o j hk => by rw [hc o (wk_back hk).2]; exact h k o j hk
/-! what the simple calls do -/
theorem pN0 (s : rs_S) (x : Int32) : (pN s 0 x).1 0 = x := by show va_up s.1 0 x 0 = x; exact va_up_self _ _ _
theorem pN_2 (s : rs_S) (k : Nat) (x : Int32) : (pN s k x).2 = s.2 := rfl
theorem pW_1 (s : rs_S) (i x : Int32) : (pW s i x).1 = s.1 := rfl
theorem pW_21 (s : rs_S) (i x : Int32) : (pW s i x).2.1 = upd s.2.1 i.toNatClampNeg x := rfl
theorem gW_n (s : rs_S) {k : Nat} (h : k < 2 ^ 31) : gW s (nI k) = s.2.1 k := by unfold gW; rw [nI_clamp h]
theorem gW_pN (s : rs_S) (k : Nat) (x i : Int32) : gW (pN s k x) i = gW s i := rfl
theorem i_in {x : Int32} {a : Nat} (h1 : ¬ x < nI 0) (h2 : ¬ nI a < x) (ha : a < 2 ^ 31) : ∃ k, k ≤ a ∧ x = nI k := by
  obtain ⟨j, hj, e⟩ := nI_of (x := x) (by rw [← nI_0]; exact h1)
  subst e
  refine ⟨j, ?_, rfl⟩
  by_cases q : j ≤ a
  · exact q
  · exact absurd (nI_lt (show a < j by omega) hj) h2
theorem z0 : (nI 0 = 0) = True := eq_true nI_0
theorem z1 : (nI 1 = 0) = False := eq_false (by decide)
theorem ca_n (c : cS) (q : Nat) {k : Nat} (h : k < 2 ^ 31) (x : Int32) : ca c q (nI k) x = cp c q k x := by unfold ca; rw [nI_clamp h]
theorem cg_n (c : cS) (q : Nat) {k : Nat} (h : k < 2 ^ 31) : cg c q (nI k) = c.1 q k := by unfold cg; rw [nI_clamp h]
theorem w_lo {τ : cT} {n : Nat} {c : cS} {x a b : Int32} (h : x < a) : o_X11_within τ n c x a b = some (nI 0) := by unfold o_X11_within; rw [if_pos h]
theorem w_hi {τ : cT} {n : Nat} {c : cS} {x a b : Int32} (h : ¬ x < a) (h2 : b < x) : o_X11_within τ n c x a b = some (nI 0) := by unfold o_X11_within; rw [if_neg h, if_pos h2]
theorem w_in {τ : cT} {n : Nat} {c : cS} {x a b : Int32} (h : ¬ x < a) (h2 : ¬ b < x) : o_X11_within τ n c x a b = some (nI 1) := by unfold o_X11_within; rw [if_neg h, if_neg h2]
theorem r_lo {s : rs_S} {x a b : Int32} (h : x < a) : o_X12_in s x a b = some (nI 0) := by unfold o_X12_in; rw [if_pos h]
theorem r_hi {s : rs_S} {x a b : Int32} (h : ¬ x < a) (h2 : b < x) : o_X12_in s x a b = some (nI 0) := by unfold o_X12_in; rw [if_neg h, if_pos h2]
theorem r_in {s : rs_S} {x a b : Int32} (h : ¬ x < a) (h2 : ¬ b < x) : o_X12_in s x a b = some (nI 1) := by unfold o_X12_in; rw [if_neg h, if_neg h2]
/-- in a range, or not: both sides see it alike -/
theorem rng (x a b : Int32) : ((∀ τ n c, o_X11_within τ n c x a b = some (nI 1)) ∧ (∀ s, o_X12_in s x a b = some (nI 1)) ∧ ¬ x < a ∧ ¬ b < x) ∨ ((∀ τ n c, o_X11_within τ n c x a b = some (nI 0)) ∧ ∀ s, o_X12_in s x a b = some (nI 0)) := by
  by_cases h : x < a
  · exact Or.inr ⟨fun τ n c => w_lo h, fun s => r_lo h⟩
  · by_cases h2 : b < x
    · exact Or.inr ⟨fun τ n c => w_hi h h2, fun s => r_hi h h2⟩
    · exact Or.inl ⟨fun τ n c => w_in h h2, fun s => r_in h h2, h, h2⟩
theorem nA0 {τ : cT} {n : Nat} {c : cS} : o_X11_needArgument τ n c (nI 0) = some (.inr 1) := by unfold o_X11_needArgument; rw [if_pos nI_0]
theorem nA1 {τ : cT} {n : Nat} {c : cS} : o_X11_needArgument τ n c (nI 1) = some (.inl ()) := by unfold o_X11_needArgument; rw [if_neg (by decide)]
theorem nS0 {τ : cT} {n : Nat} {c : cS} : o_X11_needState τ n c (nI 0) = some (.inr 2) := by unfold o_X11_needState; rw [if_pos nI_0]
theorem nS1 {τ : cT} {n : Nat} {c : cS} : o_X11_needState τ n c (nI 1) = some (.inl ()) := by unfold o_X11_needState; rw [if_neg (by decide)]
theorem e_tide {τ : cT} {n : Nat} {c : cS} {s : rs_S} {a1 a2 : Int32} : (∃ k, k < 25 ∧ a1 = nI k ∧ o_X11_tide τ n 0 c a1 a2 = some (.inl (cp c 15 k a2)) ∧ o_X12_tide s a1 a2 = some (pW (pN s 0 (nI 0)) (nI (73 + k)) a2)) ∨ (o_X11_tide τ n 0 c a1 a2 = some (.inr (1, c)) ∧ o_X12_tide s a1 a2 = some (pN (pN s 0 (nI 0)) 0 (nI 1))) := by
  unfold o_X11_tide o_X12_tide
  rcases rng a1 (nI 0) (nI 24) with ⟨w1, r1, h1, h2⟩ | ⟨w1, r1⟩
  · rcases rng a2 (-20) (nI 60) with ⟨w2, r2, h3, h4⟩ | ⟨w2, r2⟩
    · obtain ⟨k, hk, rfl⟩ := i_in h1 h2 (by decide)
      have i1 : iL (nI k) 25 := iL_t (by omega) (by decide)
      have i2 : iL (nI (73 + k)) 22216 := iL_t (by omega) (by decide)
      refine Or.inl ⟨k, by omega, rfl, ?_, ?_⟩
      · simp only [w1, w2, Option.bind_some, z1, if_false, nA1, Sum.elim_inl, if_pos i1]
        rw [ca_n _ _ (by omega)]
      · simp only [r1, r2, Option.bind_some, z1, if_false, nI_add, if_pos i2]
    · right; simp only [w1, w2, r1, r2, Option.bind_some, z0, z1, if_true, if_false, nA0, Sum.elim_inr, and_self]
  · right; simp only [w1, r1, Option.bind_some, z0, if_true, nA0, Sum.elim_inr, and_self]
theorem e_hands {τ : cT} {n : Nat} {c : cS} {s : rs_S} {a1 a2 : Int32} : (∃ k m, k ≤ 20 ∧ m ≤ 100 ∧ a1 = nI k ∧ a2 = nI m ∧ o_X11_hands τ n 0 c a1 a2 = some (.inl (cp (cp c 37 4 a1) 37 5 a2)) ∧ o_X12_hands s a1 a2 = some (pW (pW (pN s 0 (nI 0)) (nI 1080) a1) (nI 1081) a2)) ∨ (o_X11_hands τ n 0 c a1 a2 = some (.inr (1, c)) ∧ o_X12_hands s a1 a2 = some (pN (pN s 0 (nI 0)) 0 (nI 1))) := by
  unfold o_X11_hands o_X12_hands
  rcases rng a1 (nI 0) (nI 20) with ⟨w1, r1, h1, h2⟩ | ⟨w1, r1⟩
  · rcases rng a2 (nI 0) (nI 100) with ⟨w2, r2, h3, h4⟩ | ⟨w2, r2⟩
    · obtain ⟨k, hk, rfl⟩ := i_in h1 h2 (by decide)
      obtain ⟨m, hm, rfl⟩ := i_in h3 h4 (by decide)
      refine Or.inl ⟨k, m, hk, hm, rfl, rfl, ?_, ?_⟩
      · simp only [w1, w2, Option.bind_some, z1, if_false, nA1, Sum.elim_inl]
      · simp only [r1, r2, Option.bind_some, z1, if_false]
    · right; simp only [w1, w2, r1, r2, Option.bind_some, z0, z1, if_true, if_false, nA0, Sum.elim_inr, and_self]
  · right; simp only [w1, r1, Option.bind_some, z0, if_true, nA0, Sum.elim_inr, and_self]
theorem mnl_comm (x : Int64) : mnl x 2000000000 = mnl 2000000000 x := by
  unfold mnl
  by_cases h : (2000000000 : Int64) < x
  · rw [if_pos h, if_neg (fun h2 => Int64.lt_irrefl (Int64.lt_trans h h2))]
  · rw [if_neg h]
    by_cases h2 : x < 2000000000
    · rw [if_pos h2]
    · rw [if_neg h2]; exact Int64.le_antisymm (Int64.not_lt.mp h) (Int64.not_lt.mp h2)
theorem e_cash {τ : cT} {n : Nat} {c : cS} {s : rs_S} {a1 : Int32} (hc : c.1 131 0 = s.2.1 2652) : (∃ v, o_X11_cash τ n 0 c a1 = some (.inl (v, cp c 131 0 v)) ∧ o_X12_cash s a1 = some (v, pW (pN s 0 (nI 0)) (nI 2652) v) ∧ v = (mnl 2000000000 ((s.2.1 2652).toInt64 + a1.toInt64)).toInt32 ∧ ¬ a1 < nI 0 ∧ ¬ nI 1000000 < a1) ∨ (o_X11_cash τ n 0 c a1 = some (.inr (1, c)) ∧ ∃ v, o_X12_cash s a1 = some (v, pN (pN s 0 (nI 0)) 0 (nI 1))) := by
  unfold o_X11_cash o_X12_cash
  rcases rng a1 (nI 0) (nI 1000000) with ⟨w1, r1, h1, h2⟩ | ⟨w1, r1⟩
  · refine Or.inl ⟨(mnl 2000000000 ((s.2.1 2652).toInt64 + a1.toInt64)).toInt32, ?_, ?_, rfl, h1, h2⟩
    · simp only [w1, Option.bind_some, nA1, Sum.elim_inl, o_X11_capped, Nat.zero_add, hc, mnl_comm, cp_q]
      simp only [upd, if_true]
    · simp only [r1, Option.bind_some, z1, if_false, o_X12_added, gW_pN, gW_n _ (show 2652 < 2 ^ 31 by decide), pW_21, nI_clamp (show 2652 < 2 ^ 31 by decide)]
      simp only [upd, if_true, pN_2]
  · right
    refine ⟨?_, nI 0, ?_⟩
    · simp only [w1, Option.bind_some, nA0, Sum.elim_inr]
    · simp only [r1, Option.bind_some, z0, if_true]
