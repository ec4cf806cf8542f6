/-! THE PURE LAYER: a year ends -/
section YEAR
variable {F : Nat} {τ : cT} {n k i m r B H o p b C d kk w j t W f q : Nat} {c c' c0 c1 : cS} {s s' s0 : rs_S} {v v' u : Nat → Int32} {y T : Int32}
theorem nI_divN {a d : Nat} (ha : a < 2 ^ 31) (hd : d < 2 ^ 31) : nI a / nI d = nI (a / d) := by
  have l : a / d ≤ a := Nat.div_le_self a d
  apply Int32.toInt_inj.mp
  rw [Int32.toInt_div, nI_toInt ha, nI_toInt hd, nI_toInt (by omega), ← Int.ofNat_tdiv]
  generalize a / d = e at l
  exact Int.bmod_eq_of_le (by omega) (by omega)
theorem lN_divN {a d : Nat} (ha : a < 2 ^ 31) (hd : d < 2 ^ 31) : lN a / lN d = lN (a / d) := by
  have l : a / d ≤ a := Nat.div_le_self a d
  apply Int64.toInt_inj.mp
  rw [Int64.toInt_div, lN_toInt ha, lN_toInt hd, lN_toInt (by omega), ← Int.ofNat_tdiv]
  generalize a / d = e at l
  exact Int.bmod_eq_of_le (by omega) (by omega)
theorem intr {f r : Nat} (hf : f ≤ 1000000) (hr : r ≤ 2000) : nI f * nI r / nI 10000 = nI (f * r / 10000) ∧ (((nI f).toInt64 * (nI r).toInt64) / 10000).toInt32 = nI (f * r / 10000) ∧ f * r / 10000 ≤ 200000 := by
  have l : f * r ≤ 1000000 * 2000 := Nat.mul_le_mul hf hr
  have l2 : f * r / 10000 ≤ 1000000 * 2000 / 10000 := Nat.div_le_div_right l
  refine ⟨?_, ?_, l2⟩
  · rw [nI_mul, nI_divN (by omega) (by decide)]
  · rw [nI_l (by omega), nI_l (by omega), lN_mul, show (10000 : Int64) = lN 10000 from rfl, lN_divN (by omega) (by decide), lN_i]
/-- what a bond owes when its year has been reckoned -/
def adI (v : Nat → Int32) (i : Nat) : Int32 := v (2666 + 6 * i + 4) + v (2666 + 6 * i + 0) * v (2666 + 6 * i + 1) / nI 10000
noncomputable def adO (v : Nat → Int32) (y : Int32) (i : Nat) : Int32 := if v (2666 + 6 * i + 3) < y then v (2666 + 6 * i + 4) else if v (2666 + 6 * i + 3) = y then adI v i + v (2666 + 6 * i + 0) else adI v i
theorem bnd (r : Rg v) (hi : i < 20) : ∃ o f t, v (2666 + 6 * i + 4) = nI o ∧ v (2666 + 6 * i + 0) = nI f ∧ v (2666 + 6 * i + 1) = nI t ∧ o ≤ 15600000 ∧ f ≤ 1000000 ∧ t ≤ 2000 := by
  have r0 := r.nat (k := 2666 + 6 * i + 0) (hi := 1000000) (rg_o hi (by decide))
  have r1 := r.nat (k := 2666 + 6 * i + 1) (hi := 2000) (rg_o hi (by decide))
  have r4 := r.nat (k := 2666 + 6 * i + 4) (hi := 15600000) (rg_o hi (by decide))
  exact ⟨_, _, _, r4.1, r0.1, r1.1, by omega, by omega, by omega⟩
theorem adI_ok (r : Rg v) (hi : i < 20) (hB : (v (2666 + 6 * i + 4)).toInt ≤ (B : Int)) (hB2 : B + 1200000 ≤ 15600000) : ∃ w, w ≤ B + 200000 ∧ adI v i = nI w := by
  obtain ⟨o, f, t, e1, e2, e3, h1, h2, h3⟩ := bnd r hi
  obtain ⟨a1, _, a3⟩ := intr h2 h3
  rw [e1, nI_toInt (by omega)] at hB
  refine ⟨o + f * t / 10000, by omega, ?_⟩
  unfold adI
  rw [e1, e2, e3, a1, nI_add]
theorem adO_ok (r : Rg v) (hi : i < 20) (hB : (v (2666 + 6 * i + 4)).toInt ≤ (B : Int)) (hB2 : B + 1200000 ≤ 15600000) : ∃ w, w ≤ B + 1200000 ∧ adO v y i = nI w := by
  obtain ⟨o, f, t, e1, e2, e3, h1, h2, h3⟩ := bnd r hi
  obtain ⟨w, w1, w2⟩ := adI_ok r hi hB hB2
  unfold adO
  by_cases q1 : v (2666 + 6 * i + 3) < y
  · rw [if_pos q1]
    rw [e1, nI_toInt (by omega)] at hB
    exact ⟨o, by omega, e1⟩
  · rw [if_neg q1]
    by_cases q2 : v (2666 + 6 * i + 3) = y
    · rw [if_pos q2, w2, e2, nI_add]; exact ⟨_, by omega, rfl⟩
    · rw [if_neg q2]; exact ⟨w, by omega, w2⟩
theorem ok_o {w : Nat} (hi : i < 20) (hw : w ≤ 15600000) : Ok (2666 + 6 * i + 4) (nI w) := ok_n (rg_o (f := 4) hi (by decide)) (by show (0 : Int) ≤ _; omega) (by show _ ≤ (15600000 : Int); omega) (by omega)
theorem upd_upd {f : Nat → Int32} {k : Nat} {a b : Int32} : upd (upd f k a) k b = upd f k b := by
  funext j
  by_cases e : j = k
  · subst e; rw [upd_s, upd_s]
  · rw [upd_n e, upd_n e, upd_n e]
/-- the row with the first bonds reckoned -/
noncomputable def yv (v : Nat → Int32) (y : Int32) : Nat → (Nat → Int32)
  | 0 => v
  | i + 1 => upd (yv v y i) (2666 + 6 * i + 4) (adO v y i)
theorem yv_n (h : ∀ j, j < i → k ≠ 2666 + 6 * j + 4) : yv v y i k = v k := by
  induction i with
  | zero => rfl
  | succ i ih =>
    show upd _ _ _ _ = _
    rw [upd_n (h i (by omega))]
    exact ih (fun j hj => h j (by omega))
theorem yv_o (h : j < i) : yv v y i (2666 + 6 * j + 4) = adO v y j := by
  induction i with
  | zero => omega
  | succ i ih =>
    show upd _ _ _ _ = _
    by_cases e : j = i
    · subst e; rw [upd_s]
    · rw [upd_n (by omega)]; exact ih (by omega)
theorem ya_loop (hI : LI τ n) (hr : Rg v) (hB : ∀ i, i < 20 → (v (2666 + 6 * i + 4)).toInt ≤ (B : Int)) (hB2 : B + 1200000 ≤ 15600000) (hm : v 2665 = nI m) (hm2 : m ≤ 20) : ∀ (r i f : Nat) (c : cS), i + r = m → r < f → RX τ n c 10 (yv v y i) → Nw c0 c → ∃ c', o_X6_endYear_2 F τ n 10 y f (nI i) c = some c' ∧ RX τ n c' 10 (yv v y m) ∧ Nw c0 c' := by
  intro r
  induction r with
  | zero =>
    intro i f c hi hf h hn
    obtain ⟨f, rfl⟩ : ∃ x, f = x + 1 := ⟨f - 1, by omega⟩
    rw [o_X6_endYear_2, show c.1 (10 + 121) 13 = nI m from (h.pl 2665 121 13 rfl).trans ((yv_n (fun j _ => by omega)).trans hm), if_pos (nI_yes (by omega) (by omega) (by omega))]
    obtain rfl : i = m := by omega
    exact ⟨c, rfl, h, hn⟩
  | succ r ih =>
    intro i f c hi hf h hn
    obtain ⟨f, rfl⟩ : ∃ x, f = x + 1 := ⟨f - 1, by omega⟩
    have i20 : i < 20 := by omega
    have p0 : c.1 (10 + 125) i = v (2666 + 6 * i + 0) := (h.pl _ _ _ (wk_o (j := 0) i20 (by decide))).trans (yv_n (fun j _ => by omega))
    have p1 : c.1 (10 + 126) i = v (2666 + 6 * i + 1) := (h.pl _ _ _ (wk_o (j := 1) i20 (by decide))).trans (yv_n (fun j _ => by omega))
    have p3 : c.1 (10 + 128) i = v (2666 + 6 * i + 3) := (h.pl _ _ _ (wk_o (j := 3) i20 (by decide))).trans (yv_n (fun j _ => by omega))
    have p4 : c.1 (10 + 129) i = v (2666 + 6 * i + 4) := (h.pl _ _ _ (wk_o (j := 4) i20 (by decide))).trans (yv_n (fun j _ => by omega))
    obtain ⟨wI, i1, i2⟩ := adI_ok hr i20 (hB i i20) hB2
    obtain ⟨wO, o1, o2⟩ := adO_ok (y := y) hr i20 (hB i i20) hB2
    have hA := h.pput (y := adI v i) hI (wk_o (j := 4) i20 (by decide)) (by omega) (by omega) (by omega) (by omega) (by omega) (by rw [i2]; exact ok_o i20 (by omega))
    have nA : Nw c0 (cp c (10 + 129) i (adI v i)) := hn.cp (by omega) (by omega) (by omega)
    rw [o_X6_endYear_2, show c.1 (10 + 121) 13 = nI m from (h.pl 2665 121 13 rfl).trans ((yv_n (fun j _ => by omega)).trans hm), if_neg (nI_no (by omega) (by omega) (by omega)), if_pos (iL_t i20 (by decide)), cg_n c (10 + 128) (by omega), p3, nI_add i 1]
    by_cases q1 : v (2666 + 6 * i + 3) < y
    · have q2 : ¬ v (2666 + 6 * i + 3) = y := fun e => by rw [e] at q1; exact absurd q1 (Int32.lt_irrefl)
      rw [if_pos q1, if_neg q2]
      refine ih (i + 1) f c (by omega) (by omega) ?_ hn
      have e : adO v y i = v (2666 + 6 * i + 4) := by unfold adO; rw [if_pos q1]
      show RX τ n c 10 (upd (yv v y i) (2666 + 6 * i + 4) (adO v y i))
      rw [upd_id (by rw [e]; exact yv_n (fun j _ => by omega))]
      exact h
    · have eI : c.1 (10 + 129) i + c.1 (10 + 125) i * c.1 (10 + 126) i / nI 10000 = adI v i := by rw [p0, p1, p4]; rfl
      rw [if_neg q1, cg_n c (10 + 129) (by omega), cg_n c (10 + 125) (by omega), cg_n c (10 + 126) (by omega), ca_n c _ (by omega), eI, Option.bind_some, cg_n _ (10 + 128) (by omega), cp_1 (10 + 128) (by decide), p3]
      by_cases q2 : v (2666 + 6 * i + 3) = y
      · have e : adO v y i = adI v i + v (2666 + 6 * i + 0) := by unfold adO; rw [if_neg q1, if_pos q2]
        have g4 : (cp c (10 + 129) i (adI v i)).1 (10 + 129) i = adI v i := (hA.pl _ _ _ (wk_o (j := 4) i20 (by decide))).trans (upd_s _ _ _)
        rw [if_pos q2, ca_n _ _ (by omega), cg_n _ (10 + 129) (by omega), cg_n _ (10 + 125) (by omega), g4, cp_1 (10 + 125) (by decide), p0, ← e, Option.bind_some]
        have hO := hA.pput (y := adO v y i) hI (wk_o (j := 4) i20 (by decide)) (by omega) (by omega) (by omega) (by omega) (by omega) (by rw [o2]; exact ok_o i20 (by omega))
        rw [upd_upd] at hO
        exact ih (i + 1) f _ (by omega) (by omega) hO (nA.cp (by omega) (by omega) (by omega))
      · have e : adO v y i = adI v i := by unfold adO; rw [if_neg q1, if_neg q2]
        rw [if_neg q2]
        rw [← e] at hA nA ⊢
        exact ih (i + 1) f _ (by omega) (by omega) hA nA
/-- paying in rank: w the row of the class, u the row of the reference, P the bonds that have been paid -/
def Yb (v : Nat → Int32) (y : Int32) (m B : Nat) (P : Nat → Prop) (w : Nat → Int32) (u : Nat → Int32) : Prop :=
  (∀ k, (∀ j, j < m → ¬ P j → k ≠ 2666 + 6 * j + 4) → w k = u k) ∧
  (∀ j, j < m → ¬ P j → w (2666 + 6 * j + 4) = adO v y j ∧ u (2666 + 6 * j + 4) = v (2666 + 6 * j + 4)) ∧
  (∀ j, j < 20 → ∀ f, f < 4 → u (2666 + 6 * j + f) = v (2666 + 6 * j + f)) ∧
  (∀ j, j < 20 → (w (2666 + 6 * j + 4)).toInt ≤ (B : Int)) ∧
  (∀ k, k ≠ 2652 → ¬ (2666 ≤ k ∧ k < 2786) → u k = v k)
theorem Yb.mk {v : Nat → Int32} {y : Int32} {m B : Nat} {P : Nat → Prop} {w : Nat → Int32} {u : Nat → Int32} (h0 : ∀ k, (∀ j, j < m → ¬ P j → k ≠ 2666 + 6 * j + 4) → w k = u k) (h1 : ∀ j, j < m → ¬ P j → w (2666 + 6 * j + 4) = adO v y j ∧ u (2666 + 6 * j + 4) = v (2666 + 6 * j + 4)) (h2 : ∀ j, j < 20 → ∀ f, f < 4 → u (2666 + 6 * j + f) = v (2666 + 6 * j + f)) (h3 : ∀ j, j < 20 → (w (2666 + 6 * j + 4)).toInt ≤ (B : Int)) (h4 : ∀ k, k ≠ 2652 → ¬ (2666 ≤ k ∧ k < 2786) → u k = v k) : Yb v y m B P w u := by
  unfold Yb
  exact ⟨h0, h1, h2, h3, h4⟩
theorem Yb.eq {v : Nat → Int32} {y : Int32} {m B : Nat} {P : Nat → Prop} {w : Nat → Int32} {u : Nat → Int32} (h : Yb v y m B P w u) : ∀ k, (∀ j, j < m → ¬ P j → k ≠ 2666 + 6 * j + 4) → w k = u k := (show _ from by unfold Yb at h; exact h.1)
theorem Yb.un {v : Nat → Int32} {y : Int32} {m B : Nat} {P : Nat → Prop} {w : Nat → Int32} {u : Nat → Int32} (h : Yb v y m B P w u) : ∀ j, j < m → ¬ P j → w (2666 + 6 * j + 4) = adO v y j ∧ u (2666 + 6 * j + 4) = v (2666 + 6 * j + 4) := (show _ from by unfold Yb at h; exact h.2.1)
theorem Yb.bd {v : Nat → Int32} {y : Int32} {m B : Nat} {P : Nat → Prop} {w : Nat → Int32} {u : Nat → Int32} (h : Yb v y m B P w u) : ∀ j, j < 20 → ∀ f, f < 4 → u (2666 + 6 * j + f) = v (2666 + 6 * j + f) := (show _ from by unfold Yb at h; exact h.2.2.1)
theorem Yb.oe {v : Nat → Int32} {y : Int32} {m B : Nat} {P : Nat → Prop} {w : Nat → Int32} {u : Nat → Int32} (h : Yb v y m B P w u) : ∀ j, j < 20 → (w (2666 + 6 * j + 4)).toInt ≤ (B : Int) := (show _ from by unfold Yb at h; exact h.2.2.2.1)
theorem Yb.fr {v : Nat → Int32} {y : Int32} {m B : Nat} {P : Nat → Prop} {w : Nat → Int32} {u : Nat → Int32} (h : Yb v y m B P w u) : ∀ k, k ≠ 2652 → ¬ (2666 ≤ k ∧ k < 2786) → u k = v k := (show _ from by unfold Yb at h; exact h.2.2.2.2)
theorem Yb.imp {P P' : Nat → Prop} {w u : Nat → Int32} (h : Yb v y m B P w u) (hp : ∀ j, j < m → (P j ↔ P' j)) : Yb v y m B P' w u :=
  Yb.mk (fun k hk => h.eq k (fun j hj hq => hk j hj (fun e => hq ((hp j hj).mpr e)))) (fun j hj hq => h.un j hj (fun e => hq ((hp j hj).mp e))) h.bd h.oe h.fr
theorem adO_c (h : ∀ f, f < 5 → u (2666 + 6 * i + f) = v (2666 + 6 * i + f)) : adO u y i = adO v y i := by
  unfold adO adI
  rw [h 0 (by decide), h 1 (by decide), h 3 (by decide), h 4 (by decide)]
/-- what one payment makes of the row -/
def pb (u : Nat → Int32) (i : Nat) (A p : Int32) : Nat → Int32 := upd (upd (upd u (2666 + 6 * i + 4) (A - p)) (2666 + 6 * i + 5) (u (2666 + 6 * i + 5) + p)) 2652 (u 2652 - p)
theorem o_pays (hr : Rg s.2.1) (hi : i < 20) : ∃ s', o_X12_paysBond s (nI i) y = some s' ∧ s'.1 = s.1 ∧ s'.2.2 = s.2.2 ∧ s'.2.1 = pb s.2.1 i (adO s.2.1 y i) (mni (s.2.1 2652) (adO s.2.1 y i)) := by
  obtain ⟨o, f, t, e1, e2, e3, h1, h2, h3⟩ := bnd hr hi
  obtain ⟨a1, a2, a3⟩ := intr h2 h3
  unfold o_X12_paysBond
  have l4 : iL (nI (2666 + 6 * i + 4)) 22216 := iL_t (by omega) (by decide)
  have l5 : iL (nI (2666 + 6 * i + 5)) 22216 := iL_t (by omega) (by decide)
  rw [o_bondOf hi (show 3 < 6 by decide), Option.bind_some]
  by_cases q1 : s.2.1 (2666 + 6 * i + 3) < y
  · have eO : adO s.2.1 y i = s.2.1 (2666 + 6 * i + 4) := by unfold adO; rw [if_pos q1]
    rw [if_pos q1, o_bondOf hi (show 4 < 6 by decide), Option.bind_some, o_bAt, Option.bind_some, if_pos l4, o_bAt, Option.bind_some, if_pos l5, eO]
    refine ⟨_, rfl, rfl, rfl, ?_⟩
    rw [pW_21, pW_21, pW_21, nI_clamp (by decide), nI_clamp (by omega), nI_clamp (by omega), gW_pWn _ (by omega) (by omega) (by omega), gW_pWn _ (by omega) (by omega) (by omega), gW_pWn _ (by omega) (by omega) (by omega), gW_n _ (by omega), gW_n _ (by omega), gW_n _ (by omega)]
    unfold pb
    rw [upd_cm (show 2652 ≠ 2666 + 6 * i + 4 by omega), upd_cm (show 2652 ≠ 2666 + 6 * i + 5 by omega)]
  · have pbu : ∀ A p : Int32, pb (upd s.2.1 (2666 + 6 * i + 4) A) i A p = pb s.2.1 i A p := fun A p => by
      unfold pb
      rw [upd_upd, upd_n (by omega), upd_n (by omega)]
    have tail : ∀ s1 : rs_S, s1.1 = s.1 → s1.2.2 = s.2.2 → s1.2.1 = upd s.2.1 (2666 + 6 * i + 4) (adO s.2.1 y i) → ∃ s', some (pW (pW (pW s1 (nI 2652) (gW s1 (nI 2652) - mni (gW s1 (nI 2652)) (s1.2.1 (2666 + 6 * i + 4)))) (nI (2666 + 6 * i + 4)) (gW (pW s1 (nI 2652) (gW s1 (nI 2652) - mni (gW s1 (nI 2652)) (s1.2.1 (2666 + 6 * i + 4)))) (nI (2666 + 6 * i + 4)) - mni (gW s1 (nI 2652)) (s1.2.1 (2666 + 6 * i + 4)))) (nI (2666 + 6 * i + 5)) (gW (pW (pW s1 (nI 2652) (gW s1 (nI 2652) - mni (gW s1 (nI 2652)) (s1.2.1 (2666 + 6 * i + 4)))) (nI (2666 + 6 * i + 4)) (gW (pW s1 (nI 2652) (gW s1 (nI 2652) - mni (gW s1 (nI 2652)) (s1.2.1 (2666 + 6 * i + 4)))) (nI (2666 + 6 * i + 4)) - mni (gW s1 (nI 2652)) (s1.2.1 (2666 + 6 * i + 4)))) (nI (2666 + 6 * i + 5)) + mni (gW s1 (nI 2652)) (s1.2.1 (2666 + 6 * i + 4)))) = some s' ∧ s'.1 = s.1 ∧ s'.2.2 = s.2.2 ∧ s'.2.1 = pb s.2.1 i (adO s.2.1 y i) (mni (s.2.1 2652) (adO s.2.1 y i)) := fun s1 f1 f2 f3 => by
      refine ⟨_, rfl, f1, f2, ?_⟩
      have g4 : s1.2.1 (2666 + 6 * i + 4) = adO s.2.1 y i := by rw [f3, upd_s]
      have g2 : s1.2.1 2652 = s.2.1 2652 := by rw [f3, upd_n (by omega)]
      rw [pW_21, pW_21, pW_21, nI_clamp (by decide), nI_clamp (by omega), nI_clamp (by omega), gW_pWn _ (by omega) (by omega) (by omega), gW_pWn _ (by omega) (by omega) (by omega), gW_pWn _ (by omega) (by omega) (by omega), gW_n _ (by omega), gW_n _ (by omega), gW_n _ (by omega), g4, ← pbu, g2, ← f3]
      unfold pb
      rw [upd_cm (show 2652 ≠ 2666 + 6 * i + 4 by omega), upd_cm (show 2652 ≠ 2666 + 6 * i + 5 by omega), g2]
    rw [if_neg q1, o_bAt, Option.bind_some, if_pos l4, o_bondOf hi (show 0 < 6 by decide), Option.bind_some, o_bondOf hi (show 1 < 6 by decide), Option.bind_some, gW_n s (show 2666 + 6 * i + 4 < 2 ^ 31 by omega)]
    by_cases q2 : s.2.1 (2666 + 6 * i + 3) = y
    · have eO : s.2.1 (2666 + 6 * i + 4) + ((((s.2.1 (2666 + 6 * i + 0)).toInt64 * (s.2.1 (2666 + 6 * i + 1)).toInt64) / 10000).toInt32 + s.2.1 (2666 + 6 * i + 0)) = adO s.2.1 y i := by
        unfold adO adI
        rw [if_neg q1, if_pos q2, e1, e2, e3, a1, a2, Int32.add_assoc]
      rw [if_pos q2, Option.bind_some, eO]
      generalize hs1 : pW s (nI (2666 + 6 * i + 4)) (adO s.2.1 y i) = s1
      rw [o_bondOf hi (show 4 < 6 by decide), Option.bind_some, o_bAt, Option.bind_some, if_pos l4, o_bAt, Option.bind_some, if_pos l5]
      exact tail s1 (by rw [← hs1]; rfl) (by rw [← hs1]; rfl) (by rw [← hs1, pW_21, nI_clamp (by omega)])
    · have eO : s.2.1 (2666 + 6 * i + 4) + ((((s.2.1 (2666 + 6 * i + 0)).toInt64 * (s.2.1 (2666 + 6 * i + 1)).toInt64) / 10000).toInt32 + nI 0) = adO s.2.1 y i := by
        unfold adO adI
        rw [if_neg q1, if_neg q2, e1, e2, e3, a1, a2, nI_add (f * t / 10000) 0, Nat.add_zero]
      rw [if_neg q2, eO]
      generalize hs1 : pW s (nI (2666 + 6 * i + 4)) (adO s.2.1 y i) = s1
      rw [o_bondOf hi (show 4 < 6 by decide), Option.bind_some, o_bAt, Option.bind_some, if_pos l4, o_bAt, Option.bind_some, if_pos l5]
      exact tail s1 (by rw [← hs1]; rfl) (by rw [← hs1]; rfl) (by rw [← hs1, pW_21, nI_clamp (by omega)])
theorem Yb.pay {P : Nat → Prop} {w u : Nat → Int32} (h : Yb v y m B P w u) (hi : i < m) (hm : m ≤ 20) (hP : ¬ P i) (hp : ∃ a, (adO v y i - (mni (u 2652) (adO v y i))).toInt = a ∧ a ≤ (B : Int)) : Yb v y m B (fun j => P j ∨ j = i) (pb w i (adO v y i) (mni (u 2652) (adO v y i))) (pb u i (adO v y i) (mni (u 2652) (adO v y i))) := by
  have e2 : w 2652 = u 2652 := h.eq _ (fun j _ _ => by omega)
  have e5 : w (2666 + 6 * i + 5) = u (2666 + 6 * i + 5) := h.eq _ (fun j _ _ => by omega)
  generalize hpp : mni (u 2652) (adO v y i) = p at hp
  generalize hAA : adO v y i = A at hp
  have other : ∀ (x : Nat → Int32) k, k ≠ 2652 → k ≠ 2666 + 6 * i + 4 → k ≠ 2666 + 6 * i + 5 → pb x i A p k = x k := fun x k k1 k2 k3 => by unfold pb; rw [upd_n k1, upd_n k3, upd_n k2]
  have own : ∀ (x : Nat → Int32), pb x i A p (2666 + 6 * i + 4) = A - p := fun x => by unfold pb; rw [upd_n (by omega), upd_n (by omega), upd_s]
  refine Yb.mk ?_ ?_ ?_ ?_ ?_
  · intro k hk
    by_cases k1 : k = 2652
    · subst k1; unfold pb; rw [upd_s, upd_s, e2]
    · by_cases k2 : k = 2666 + 6 * i + 4
      · subst k2; rw [own, own]
      · by_cases k3 : k = 2666 + 6 * i + 5
        · subst k3; unfold pb; rw [upd_n k1, upd_s, upd_n k1, upd_s, e5]
        · rw [other _ _ k1 k2 k3, other _ _ k1 k2 k3]
          refine h.eq k (fun j hj hq => ?_)
          by_cases ej : j = i
          · subst ej; exact k2
          · exact hk j hj (fun e => by rcases e with e | e; exact hq e; exact ej e)
  · intro j hj hq
    have ej : j ≠ i := fun e => hq (Or.inr e)
    rw [other _ _ (by omega) (by omega) (by omega), other _ _ (by omega) (by omega) (by omega)]
    exact h.un j hj (fun e => hq (Or.inl e))
  · intro j hj f hf
    rw [other _ _ (by omega) (by omega) (by omega)]
    exact h.bd j hj f hf
  · intro j hj
    by_cases ej : j = i
    · subst ej; rw [own]; obtain ⟨a, a1, a2⟩ := hp; omega
    · rw [other _ _ (by omega) (by omega) (by omega)]; exact h.oe j hj
  · intro k k1 k2
    rw [other _ _ k1 (by omega) (by omega)]
    exact h.fr k k1 k2
theorem Yb.rg {P : Nat → Prop} {w u : Nat → Int32} (h : Yb v y m B P w u) (hv : Rg v) (hw : Rg w) : Rg u := fun k => by
  by_cases hk : ∀ j, j < m → ¬ P j → k ≠ 2666 + 6 * j + 4
  · have := hw k
    rw [h.eq k hk] at this
    exact this
  · obtain ⟨j, hj⟩ := Classical.not_forall.mp hk
    have j1 : j < m := Classical.byContradiction (fun e => hj (fun a => absurd a e))
    have j2 : ¬ P j := fun e => hj (fun _ a => absurd e a)
    have j3 : k = 2666 + 6 * j + 4 := Classical.byContradiction (fun e => hj (fun _ _ => e))
    subst j3
    have := hv (2666 + 6 * j + 4)
    rw [← (h.un j j1 j2).2] at this
    exact this
theorem RX.paid {w : Nat → Int32} (h : RX τ n c 10 w) (hI : LI τ n) (hi : i < 20) : RX τ n (cp (cp (cp c 139 i (w (2666 + 6 * i + 4) - mni (w 2652) (w (2666 + 6 * i + 4)))) 140 i (w (2666 + 6 * i + 5) + mni (w 2652) (w (2666 + 6 * i + 4)))) 131 0 (w 2652 - mni (w 2652) (w (2666 + 6 * i + 4)))) 10 (pb w i (w (2666 + 6 * i + 4)) (mni (w 2652) (w (2666 + 6 * i + 4)))) ∧ ∃ a b, w (2666 + 6 * i + 4) = nI a ∧ w (2666 + 6 * i + 4) - mni (w 2652) (w (2666 + 6 * i + 4)) = nI b ∧ b ≤ a ∧ a < 2 ^ 31 := by
  have r4 := h.rg.nat (k := 2666 + 6 * i + 4) (hi := 15600000) (rg_o hi (by decide))
  have r2 := h.rg.nat (k := 2652) (hi := 2000000000) rfl
  generalize ha : N (w (2666 + 6 * i + 4)) = a at r4
  generalize hb : N (w 2652) = b at r2
  have em : mni (w 2652) (w (2666 + 6 * i + 4)) = nI (min b a) := by rw [r4.1, r2.1, mni_n (by omega) (by omega)]
  have m1 : min b a ≤ a := Nat.min_le_right _ _
  have m2 : min b a ≤ b := Nat.min_le_left _ _
  have e4 : w (2666 + 6 * i + 4) - mni (w 2652) (w (2666 + 6 * i + 4)) = nI (a - min b a) := by rw [em, r4.1, nI_sub m1]
  have e2 : w 2652 - mni (w 2652) (w (2666 + 6 * i + 4)) = nI (b - min b a) := by rw [em, r2.1, nI_sub m2]
  refine ⟨?_, a, _, r4.1, e4, by omega, by omega⟩
  unfold pb
  generalize mni (w 2652) (w (2666 + 6 * i + 4)) = p at e4 e2
  have h1 := h.pput (y := w (2666 + 6 * i + 4) - p) hI (wk_o (j := 4) hi (by decide)) (by omega) (by omega) (by omega) (by omega) (by omega) (by rw [e4]; exact ok_o hi (by omega))
  have h2 := h1.pput (y := w (2666 + 6 * i + 5) + p) hI (wk_o (j := 5) hi (by decide)) (by omega) (by omega) (by omega) (by omega) (by omega) (rg_any (rg_o (f := 5) hi (by decide)))
  exact h2.pput (k := 2652) (o := 121) (j := 0) (y := w 2652 - p) hI rfl (by omega) (by omega) (by omega) (by omega) (by omega) (by rw [e2]; exact ok_n (lo := 0) (hi := 2000000000) rfl (by omega) (by omega) (by omega))
/-- the bonds paid before (rank t, number i) -/
def Pb (v : Nat → Int32) (t i : Nat) (j : Nat) : Prop := N (v (2666 + 6 * j + 2)) < t ∨ (N (v (2666 + 6 * j + 2)) = t ∧ j < i)
theorem rk (hr : Rg v) (hi : i < 20) : v (2666 + 6 * i + 2) = nI (N (v (2666 + 6 * i + 2))) ∧ N (v (2666 + 6 * i + 2)) ≤ 9 := by
  have := hr.nat (k := 2666 + 6 * i + 2) (hi := 9) (rg_o hi (by decide))
  exact ⟨this.1, by omega⟩
theorem pr_loop (hI : LI τ n) (hr : Rg v) (hm : v 2665 = nI m) (hm2 : m ≤ 20) (ht : t < 10) : ∀ (r i f f' : Nat) (c : cS) (s : rs_S) (w : Nat → Int32), i + r = m → r < f → r < f' → Yb v y m B (Pb v t i) w s.2.1 → RX τ n c 10 w → Nw c0 c → s.1 = s0.1 → s.2.2 = s0.2.2 → ∃ c' s' w', o_X6_payRank_2 F τ n 10 (nI t) f (nI i) c = some c' ∧ o_X12_yearEnds_17 F y (nI t) f' (nI i) s = some s' ∧ Yb v y m B (Pb v t m) w' s'.2.1 ∧ RX τ n c' 10 w' ∧ Nw c0 c' ∧ s'.1 = s0.1 ∧ s'.2.2 = s0.2.2 := by
  intro r
  induction r with
  | zero =>
    intro i f f' c s w hi hf hf' hY h hn g1 g2
    obtain ⟨f, rfl⟩ : ∃ x, f = x + 1 := ⟨f - 1, by omega⟩
    obtain ⟨f', rfl⟩ : ∃ x, f' = x + 1 := ⟨f' - 1, by omega⟩
    have u5 : s.2.1 2665 = nI m := (hY.fr 2665 (by omega) (by omega)).trans hm
    have w5 : w 2665 = nI m := (hY.eq 2665 (fun j _ _ => by omega)).trans u5
    rw [o_X6_payRank_2, o_X12_yearEnds_17, show c.1 (10 + 121) 13 = nI m from (h.pl 2665 121 13 rfl).trans w5, gW_n s (show 2665 < 2 ^ 31 by decide), u5, if_pos (nI_yes (by omega) (by omega) (by omega)), if_pos (nI_yes (by omega) (by omega) (by omega))]
    obtain rfl : i = m := by omega
    exact ⟨c, s, w, rfl, rfl, hY, h, hn, g1, g2⟩
  | succ r ih =>
    intro i f f' c s w hi hf hf' hY h hn g1 g2
    obtain ⟨f, rfl⟩ : ∃ x, f = x + 1 := ⟨f - 1, by omega⟩
    obtain ⟨f', rfl⟩ : ∃ x, f' = x + 1 := ⟨f' - 1, by omega⟩
    have i20 : i < 20 := by omega
    have u5 : s.2.1 2665 = nI m := (hY.fr 2665 (by omega) (by omega)).trans hm
    have w5 : w 2665 = nI m := (hY.eq 2665 (fun j _ _ => by omega)).trans u5
    have k2 := rk hr i20
    have u2 : s.2.1 (2666 + 6 * i + 2) = nI (N (v (2666 + 6 * i + 2))) := (hY.bd i i20 2 (by decide)).trans k2.1
    have w2 : w (2666 + 6 * i + 2) = nI (N (v (2666 + 6 * i + 2))) := (hY.eq _ (fun j _ _ => by omega)).trans u2
    have c2 : c.1 (10 + 127) i = nI (N (v (2666 + 6 * i + 2))) := (h.pl _ _ _ (wk_o (j := 2) i20 (by decide))).trans w2
    rw [o_X6_payRank_2, o_X12_yearEnds_17, show c.1 (10 + 121) 13 = nI m from (h.pl 2665 121 13 rfl).trans w5, gW_n s (show 2665 < 2 ^ 31 by decide), u5, if_neg (nI_no (by omega) (by omega) (by omega)), if_neg (nI_no (by omega) (by omega) (by omega)), if_pos (iL_t i20 (by decide)), cg_n c (10 + 127) (by omega), c2, o_bondOf i20 (show 2 < 6 by decide), Option.bind_some (s.2.1 (2666 + 6 * i + 2)), u2, nI_add i 1]
    by_cases q : N (v (2666 + 6 * i + 2)) = t
    · have hP : ¬ Pb v t i i := by unfold Pb; omega
      have eA := (hY.un i (by omega) hP).1
      have eu : adO s.2.1 y i = adO v y i := adO_c (fun f hf => by
        by_cases e : f = 4
        · subst e; exact (hY.un i (by omega) hP).2
        · exact hY.bd i i20 f (by omega))
      have e52 : w 2652 = s.2.1 2652 := hY.eq _ (fun j _ _ => by omega)
      obtain ⟨s1, b1, b2, b3, b4⟩ := o_pays (y := y) (hY.rg hr h.rg) i20
      obtain ⟨d1, a, b, d2, d3, d4, d5⟩ := h.paid hI i20
      have p0 : c.1 (10 + 121) 0 = w 2652 := h.pl 2652 121 0 rfl
      have p4 : c.1 (10 + 129) i = w (2666 + 6 * i + 4) := h.pl _ _ _ (wk_o (j := 4) i20 (by decide))
      have p5 : c.1 (10 + 130) i = w (2666 + 6 * i + 5) := h.pl _ _ _ (wk_o (j := 5) i20 (by decide))
      rw [eu] at b4
      have hY2 := hY.pay (i := i) (by omega) hm2 hP ⟨_, rfl, by
        have := hY.oe i i20
        rw [← eA, ← e52, d3, nI_toInt (by omega)]
        rw [d2, nI_toInt (by omega)] at this
        omega⟩
      rw [← b4] at hY2
      have hY3 : Yb v y m B (Pb v t (i + 1)) (pb w i (adO v y i) (mni (s.2.1 2652) (adO v y i))) s1.2.1 := hY2.imp (fun j hj => by
        unfold Pb
        constructor
        · intro e
          rcases e with (e | e) | e
          · exact Or.inl e
          · exact Or.inr ⟨e.1, by omega⟩
          · subst e; exact Or.inr ⟨q, by omega⟩
        · intro e
          rcases e with e | e
          · exact Or.inl (Or.inl e)
          · by_cases ej : j = i
            · exact Or.inr ej
            · exact Or.inl (Or.inr ⟨e.1, by omega⟩))
      rw [← eA, ← e52] at hY3
      rw [q, if_pos rfl, if_pos rfl, b1, Option.bind_some s1, Option.bind_some, ca_n c _ (by omega), cg_n c _ (by omega), p0, p4, ca_n _ _ (by omega), cg_n _ _ (by omega), cp_1 (10 + 130) (by decide), p5, Option.bind_some, cp_1 (10 + 121) (by decide), cp_1 (10 + 121) (by decide), p0, Option.bind_some]
      exact ih (i + 1) f f' _ s1 _ (by omega) (by omega) (by omega) hY3 d1 (((hn.cp (by omega) (by omega) (by omega)).cp (by omega) (by omega) (by omega)).cp (by omega) (by omega) (by omega)) (b2.trans g1) (b3.trans g2)
    · rw [if_neg (nI_inj (by omega) (by omega) q), if_neg (nI_inj (by omega) (by omega) q)]
      refine ih (i + 1) f f' c s w (by omega) (by omega) (by omega) (hY.imp (fun j hj => ?_)) h hn g1 g2
      unfold Pb
      constructor
      · intro e
        rcases e with e | e
        · exact Or.inl e
        · exact Or.inr ⟨e.1, by omega⟩
      · intro e
        rcases e with e | e
        · exact Or.inl e
        · have ej : j ≠ i := fun ej => by subst ej; exact q e.1
          exact Or.inr ⟨e.1, by omega⟩
theorem rk_loop (hF : 21 < F) (hI : LI τ n) (hr : Rg v) (hm : v 2665 = nI m) (hm2 : m ≤ 20) : ∀ (r t f f' : Nat) (c : cS) (s : rs_S) (w : Nat → Int32), t + r = 10 → r < f → r < f' → Yb v y m B (Pb v t 0) w s.2.1 → RX τ n c 10 w → Nw c0 c → s.1 = s0.1 → s.2.2 = s0.2.2 → ∃ c' s' w', o_X6_endYear_79 F τ n 10 f (nI t) c = some c' ∧ o_X12_yearEnds_9 F y f' (nI t) s = some s' ∧ Yb v y m B (Pb v 10 0) w' s'.2.1 ∧ RX τ n c' 10 w' ∧ Nw c0 c' ∧ s'.1 = s0.1 ∧ s'.2.2 = s0.2.2 := by
  intro r
  induction r with
  | zero =>
    intro t f f' c s w hi hf hf' hY h hn g1 g2
    obtain ⟨f, rfl⟩ : ∃ x, f = x + 1 := ⟨f - 1, by omega⟩
    obtain ⟨f', rfl⟩ : ∃ x, f' = x + 1 := ⟨f' - 1, by omega⟩
    rw [o_X6_endYear_79, o_X12_yearEnds_9, if_pos (nI_yes (by omega) (by omega) (by omega)), if_pos (nI_yes (by omega) (by omega) (by omega))]
    obtain rfl : t = 10 := by omega
    exact ⟨c, s, w, rfl, rfl, hY, h, hn, g1, g2⟩
  | succ r ih =>
    intro t f f' c s w hi hf hf' hY h hn g1 g2
    obtain ⟨f, rfl⟩ : ∃ x, f = x + 1 := ⟨f - 1, by omega⟩
    obtain ⟨f', rfl⟩ : ∃ x, f' = x + 1 := ⟨f' - 1, by omega⟩
    obtain ⟨c1, s1, w1, a1, a2, a3, a4, a5, a6, a7⟩ := pr_loop (F := F) hI hr hm hm2 (show t < 10 by omega) m 0 F F c s w (by omega) (by omega) (by omega) hY h hn g1 g2
    rw [o_X6_endYear_79, o_X12_yearEnds_9, if_neg (nI_no (by omega) (by omega) (by omega)), if_neg (nI_no (by omega) (by omega) (by omega))]
    unfold o_X6_payRank
    rw [a1, Option.bind_some, Option.bind_some, a2, Option.bind_some, nI_add t 1]
    refine ih (t + 1) f f' c1 s1 w1 (by omega) (by omega) (by omega) (a3.imp (fun j hj => ?_)) a4 a5 a6 a7
    unfold Pb
    omega
theorem py_loop (hI : LI τ n) (hm : u 1090 = nI m) (hm2 : m ≤ 30) : ∀ (r i f f' : Nat) (c : cS) (s : rs_S), i + r = m → r < f → r < f' → RX τ n c 10 s.2.1 → Nw c0 c → s.1 = s0.1 → s.2.2 = s0.2.2 → (∀ k, ¬ (1091 ≤ k ∧ k < 1091 + 4 * m ∧ (k - 1091) % 4 < 2) → s.2.1 k = u k) → ∃ c' s', o_X6_endYear_98 F τ n 10 f (nI i) c = some c' ∧ o_X12_yearEnds_59 F f' (nI i) s = some s' ∧ RX τ n c' 10 s'.2.1 ∧ Nw c0 c' ∧ s'.1 = s0.1 ∧ s'.2.2 = s0.2.2 ∧ (∀ k, ¬ (1091 ≤ k ∧ k < 1091 + 4 * m ∧ (k - 1091) % 4 < 2) → s'.2.1 k = u k) := by
  intro r
  induction r with
  | zero =>
    intro i f f' c s hi hf hf' h hn g1 g2 g3
    obtain ⟨f, rfl⟩ : ∃ x, f = x + 1 := ⟨f - 1, by omega⟩
    obtain ⟨f', rfl⟩ : ∃ x, f' = x + 1 := ⟨f' - 1, by omega⟩
    have u5 : s.2.1 1090 = nI m := (g3 1090 (by omega)).trans hm
    rw [o_X6_endYear_98, o_X12_yearEnds_59, show c.1 (10 + 121) 6 = nI m from (h.pl 1090 121 6 rfl).trans u5, gW_n s (show 1090 < 2 ^ 31 by decide), u5, if_pos (nI_yes (by omega) (by omega) (by omega)), if_pos (nI_yes (by omega) (by omega) (by omega))]
    exact ⟨c, s, rfl, rfl, h, hn, g1, g2, g3⟩
  | succ r ih =>
    intro i f f' c s hi hf hf' h hn g1 g2 g3
    obtain ⟨f, rfl⟩ : ∃ x, f = x + 1 := ⟨f - 1, by omega⟩
    obtain ⟨f', rfl⟩ : ∃ x, f' = x + 1 := ⟨f' - 1, by omega⟩
    have i30 : i < 30 := by omega
    have u5 : s.2.1 1090 = nI m := (g3 1090 (by omega)).trans hm
    have p0 : c.1 (10 + 122) i = s.2.1 (1091 + 4 * i + 0) := h.pl _ _ _ (wk_p (j := 0) i30 (by decide))
    have h1 := h.pput (y := s.2.1 (1091 + 4 * i + 0)) hI (wk_p (j := 1) i30 (by decide)) (by omega) (by omega) (by omega) (by omega) (by omega) (rg_any (rg_p (f := 1) i30 (by decide)))
    have h2 := h1.pput (y := nI 0) hI (wk_p (j := 0) i30 (by decide)) (by omega) (by omega) (by omega) (by omega) (by omega) (rg_any (rg_p (f := 0) i30 (by decide)))
    rw [o_X6_endYear_98, o_X12_yearEnds_59, show c.1 (10 + 121) 6 = nI m from (h.pl 1090 121 6 rfl).trans u5, gW_n s (show 1090 < 2 ^ 31 by decide), u5, if_neg (nI_no (by omega) (by omega) (by omega)), if_neg (nI_no (by omega) (by omega) (by omega)), if_pos (iL_t i30 (by decide)), Option.bind_some, o_pat, Option.bind_some, o_pat, Option.bind_some, if_pos (iL_t (show 1091 + 4 * i + 0 < 22216 by omega) (by decide)), if_pos (iL_t (show 1091 + 4 * i + 1 < 22216 by omega) (by decide)), o_pat, Option.bind_some, if_pos (iL_t (show 1091 + 4 * i + 0 < 22216 by omega) (by decide)), ca_n c _ (by omega), ca_n _ _ (by omega), cg_n c _ (by omega), p0, gW_n s (show 1091 + 4 * i + 0 < 2 ^ 31 by omega), nI_add i 1]
    have w : (pW (pW s (nI (1091 + 4 * i + 1)) (s.2.1 (1091 + 4 * i + 0))) (nI (1091 + 4 * i + 0)) (nI 0)).2.1 = upd (upd s.2.1 (1091 + 4 * i + 1) (s.2.1 (1091 + 4 * i + 0))) (1091 + 4 * i + 0) (nI 0) := by rw [pW_21, pW_21, nI_clamp (by omega), nI_clamp (by omega)]
    refine ih (i + 1) f f' _ _ (by omega) (by omega) (by omega) (by rw [w]; exact h2) ((hn.cp (by omega) (by omega) (by omega)).cp (by omega) (by omega) (by omega)) g1 g2 (fun k hk => ?_)
    rw [w, upd_n (by omega), upd_n (by omega)]
    exact g3 k hk
/-- a year ends -/
theorem o_years {K : Nat} (hF : 31 < F) (hI : LI τ n) (h : RB τ n c 10 s.2.1) (h0 : s.2.1 0 = nI (2400 * K)) (hK : 1 ≤ K) (hK2 : K ≤ 12) (hB : ∀ i, i < 20 → (s.2.1 (2666 + 6 * i + 4)).toInt ≤ 1200000 * ((K : Int) - 1)) : ∃ c' s', o_X6_endYear F τ n 10 c (s.2.1 0 / nI 2400 - nI 1) = some c' ∧ o_X12_yearEnds F s = some s' ∧ RB τ n c' 10 s'.2.1 ∧ Nw c c' ∧ s'.1 = s.1 ∧ s'.2.2 = s.2.2 ∧ s'.2.1 0 = s.2.1 0 := by
  have hm := h.n2665
  have hp := h.n1090
  generalize hy : s.2.1 0 / nI 2400 - nI 1 = y
  generalize em : N (s.2.1 2665) = m at hm
  generalize ep : N (s.2.1 1090) = P at hp
  have hB1 : ∀ i, i < 20 → (s.2.1 (2666 + 6 * i + 4)).toInt ≤ ((1200000 * (K - 1) : Nat) : Int) := fun i hi => by have := hB i hi; omega
  have hB2 : 1200000 * (K - 1) + 1200000 ≤ 15600000 := by omega
  obtain ⟨c1, a1, a2, a3⟩ := ya_loop (F := F) (c0 := c) (y := y) hI h.rg hB1 hB2 hm.1 hm.2 m 0 F c (by omega) (by omega) h.x Nw.refl
  have hY : Yb s.2.1 y m (1200000 * K) (Pb s.2.1 0 0) (yv s.2.1 y m) s.2.1 := by
    refine Yb.mk ?_ ?_ ?_ ?_ ?_
    · intro k hk
      exact yv_n (fun j hj => hk j hj (by unfold Pb; omega))
    · intro j hj _
      exact ⟨yv_o hj, rfl⟩
    · intro j _ f _
      rfl
    · intro j hj
      by_cases q : j < m
      · rw [yv_o q]
        obtain ⟨w, w1, w2⟩ := adO_ok (y := y) h.rg hj (hB1 j hj) hB2
        rw [w2, nI_toInt (by omega)]
        omega
      · rw [yv_n (fun j' hj' => by omega)]
        have := hB j hj
        omega
    · intro k _ _
      rfl
  obtain ⟨c2, s2, w2, b1, b2, b3, b4, b5, b6, b7⟩ := rk_loop (F := F) (s0 := s) (by omega) hI h.rg hm.1 hm.2 10 0 F F c1 s _ (by omega) (by omega) (by omega) hY a2 a3 rfl rfl
  have ew : w2 = s2.2.1 := by
    funext k
    refine b3.eq k (fun j hj hq => absurd ?_ hq)
    have := rk h.rg (show j < 20 by omega)
    unfold Pb
    omega
  rw [ew] at b4
  have hf : ∀ k, k ≠ 2652 → ¬ (2666 ≤ k ∧ k < 2786) → s2.2.1 k = s.2.1 k := b3.fr
  obtain ⟨c3, s3, d1, d2, d3, d4, d5, d6, d7⟩ := py_loop (F := F) (s0 := s) (u := s2.2.1) hI ((hf 1090 (by omega) (by omega)).trans hp.1) hp.2 P 0 F F c2 s2 (by omega) (by omega) (by omega) b4 b5 b6 b7 (fun _ _ => rfl)
  have hu : ∀ k, k ≠ 2652 → ¬ (2666 ≤ k ∧ k < 2786) → ¬ (1091 ≤ k ∧ k < 1091 + 4 * P ∧ (k - 1091) % 4 < 2) → s3.2.1 k = s.2.1 k := fun k k1 k2 k3 => (d7 k k3).trans (hf k k1 k2)
  have e0 : s3.2.1 0 = s.2.1 0 := hu 0 (by omega) (by omega) (by omega)
  refine ⟨c3, s3, ?_, ?_, d3.rb ?_, d4, d5, d6, e0⟩
  · unfold o_X6_endYear
    rw [a1, Option.bind_some, b1, Option.bind_some, d1, Option.bind_some]
  · unfold o_X12_yearEnds o_X12_year
    rw [Option.bind_some, gW_n _ (by decide), hy, b2, Option.bind_some, d2, Option.bind_some]
  · have C := h.cr
    have r := h.rg
    have e90 : s3.2.1 1090 = s.2.1 1090 := hu _ (by omega) (by omega) (by omega)
    refine Cr.mk (C.ld_s e0 (fun k _ _ => hu k (by omega) (by omega) (by omega))) (C.cr_s r (fun k _ _ => hu k (by omega) (by omega) (by omega))) (C.hs_s r (fun k _ _ => hu k (by omega) (by omega) (by omega)) (fun k _ _ => hu k (by omega) (by omega) (by omega))) (C.sh_s r (fun k _ _ => hu k (by omega) (by omega) (by omega)) (fun k _ _ => hu k (by omega) (by omega) (by omega))) (C.ow_s r e90 (fun k _ _ => hu k (by omega) (by omega) (by omega))) (C.sd_s r e0 (fun k _ _ => hu k (by omega) (by omega) (by omega))) ?_ (C.tc_s r (hu _ (by omega) (by omega) (by omega)) (fun k _ _ => hu k (by omega) (by omega) (by omega))) ?_ (C.zs_s (fun k _ _ => hu k (by omega) (by omega) (by omega))) (C.zb_s (fun k _ _ => hu k (by omega) (by omega) (by omega))) ?_
    · rw [hu 2660 (by omega) (by omega) (by omega), e90, C.ev]
      constructor
      · intro e
        obtain ⟨p, p1, p2⟩ := e
        exact ⟨p, p1, by rw [hu _ (by omega) (by omega) (by omega)]; exact p2⟩
      · intro e
        obtain ⟨p, p1, p2⟩ := e
        rw [hu _ (by omega) (by omega) (by omega)] at p2
        exact ⟨p, p1, p2⟩
    · intro p p1 p2
      rw [e90, ep] at p1
      rw [hu _ (by omega) (by omega) (by omega), hu _ (by omega) (by omega) (by omega), hu _ (by omega) (by omega) (by omega)]
      exact C.zp p (by rw [ep]; exact p1) p2
    · intro b hb
      rw [e0, h0, nI_toInt (by omega), d7 _ (by omega), ← ew]
      have := b3.oe b hb
      rw [ew] at this ⊢
      omega
end YEAR
