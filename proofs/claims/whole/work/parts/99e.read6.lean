/-! THE PURE LAYER: a line, read by both -/
section LIN
variable {F : Nat} {τ : cT} {n : Nat} {T : Nat → Int32} {L k a m l : Nat} {B : Nat → Nat} {c c' c'' : cS} {s s' s'' : rs_S}
/-- what a line says on both sides -/
def LNe (c : cS) (v : Nat → Int32) (i : Nat) (m : Nat) : Prop :=
  (c.1 5 i = v (21336 + 4 * i) ∧ ∃ k, k < 8 ∧ c.1 5 i = nI k) ∧
  (c.1 5 i ≠ nI 4 → c.1 6 i = v (21336 + 4 * i + 1) ∧ ∃ k, k < 1000000 ∧ c.1 6 i = nI k) ∧
  (c.1 5 i = nI 4 → ∃ k d, k < 4 ∧ d < 2 ∧ c.1 6 i = nI (k + 4 * d) ∧ v (21336 + 4 * i + 1) = nI (2 * k + d)) ∧
  (c.1 5 i = nI 2 ∨ c.1 5 i = nI 6 → N (c.1 6 i) ≤ 100) ∧
  (c.1 5 i = nI 5 → N (c.1 6 i) ≤ 50) ∧
  (c.1 7 i = v (21336 + 4 * i + 3) ∧ c.1 7 i = nI (N (c.1 7 i)) ∧ bgn (c.1 7) i ≤ N (c.1 7 i) ∧ N (c.1 7 i) ≤ m ∧ v (21336 + 4 * i + 2) = nI (bgn (c.1 7) i)) ∧
  (bgn (c.1 7) i < N (c.1 7 i) → hgt (c.1 8) (bgn (c.1 7) i) (N (c.1 7 i) - bgn (c.1 7) i) 0 = some 1)
theorem LNe.mk {c : cS} {v : Nat → Int32} {i : Nat} {m : Nat} (h0 : c.1 5 i = v (21336 + 4 * i) ∧ ∃ k, k < 8 ∧ c.1 5 i = nI k) (h1 : c.1 5 i ≠ nI 4 → c.1 6 i = v (21336 + 4 * i + 1) ∧ ∃ k, k < 1000000 ∧ c.1 6 i = nI k) (h2 : c.1 5 i = nI 4 → ∃ k d, k < 4 ∧ d < 2 ∧ c.1 6 i = nI (k + 4 * d) ∧ v (21336 + 4 * i + 1) = nI (2 * k + d)) (h3 : c.1 5 i = nI 2 ∨ c.1 5 i = nI 6 → N (c.1 6 i) ≤ 100) (h4 : c.1 5 i = nI 5 → N (c.1 6 i) ≤ 50) (h5 : c.1 7 i = v (21336 + 4 * i + 3) ∧ c.1 7 i = nI (N (c.1 7 i)) ∧ bgn (c.1 7) i ≤ N (c.1 7 i) ∧ N (c.1 7 i) ≤ m ∧ v (21336 + 4 * i + 2) = nI (bgn (c.1 7) i)) (h6 : bgn (c.1 7) i < N (c.1 7 i) → hgt (c.1 8) (bgn (c.1 7) i) (N (c.1 7 i) - bgn (c.1 7) i) 0 = some 1) : LNe c v i m := by
  unfold LNe
  exact ⟨h0, h1, h2, h3, h4, h5, h6⟩
theorem LNe.kd {c : cS} {v : Nat → Int32} {i : Nat} {m : Nat} (h : LNe c v i m) : c.1 5 i = v (21336 + 4 * i) ∧ ∃ k, k < 8 ∧ c.1 5 i = nI k := (show _ from by unfold LNe at h; exact h.1)
theorem LNe.nm {c : cS} {v : Nat → Int32} {i : Nat} {m : Nat} (h : LNe c v i m) : c.1 5 i ≠ nI 4 → c.1 6 i = v (21336 + 4 * i + 1) ∧ ∃ k, k < 1000000 ∧ c.1 6 i = nI k := (show _ from by unfold LNe at h; exact h.2.1)
theorem LNe.n4 {c : cS} {v : Nat → Int32} {i : Nat} {m : Nat} (h : LNe c v i m) : c.1 5 i = nI 4 → ∃ k d, k < 4 ∧ d < 2 ∧ c.1 6 i = nI (k + 4 * d) ∧ v (21336 + 4 * i + 1) = nI (2 * k + d) := (show _ from by unfold LNe at h; exact h.2.2.1)
theorem LNe.n2 {c : cS} {v : Nat → Int32} {i : Nat} {m : Nat} (h : LNe c v i m) : c.1 5 i = nI 2 ∨ c.1 5 i = nI 6 → N (c.1 6 i) ≤ 100 := (show _ from by unfold LNe at h; exact h.2.2.2.1)
theorem LNe.n5 {c : cS} {v : Nat → Int32} {i : Nat} {m : Nat} (h : LNe c v i m) : c.1 5 i = nI 5 → N (c.1 6 i) ≤ 50 := (show _ from by unfold LNe at h; exact h.2.2.2.2.1)
theorem LNe.en {c : cS} {v : Nat → Int32} {i : Nat} {m : Nat} (h : LNe c v i m) : c.1 7 i = v (21336 + 4 * i + 3) ∧ c.1 7 i = nI (N (c.1 7 i)) ∧ bgn (c.1 7) i ≤ N (c.1 7 i) ∧ N (c.1 7 i) ≤ m ∧ v (21336 + 4 * i + 2) = nI (bgn (c.1 7) i) := (show _ from by unfold LNe at h; exact h.2.2.2.2.2.1)
theorem LNe.wf {c : cS} {v : Nat → Int32} {i : Nat} {m : Nat} (h : LNe c v i m) : bgn (c.1 7) i < N (c.1 7 i) → hgt (c.1 8) (bgn (c.1 7) i) (N (c.1 7 i) - bgn (c.1 7) i) 0 = some 1 := (show _ from by unfold LNe at h; exact h.2.2.2.2.2.2)
def RLn (T : Nat → Int32) (L : Nat) (k : Nat) (B : Nat → Nat) (c : cS) (s : rs_S) (a : Nat) (m : Nat) (l : Nat) : Prop :=
  (RJ T L k B c s a m) ∧
  (c.1 2 8 = nI l) ∧
  (l ≤ 20) ∧
  (∀ i, i < l → LNe c s.2.1 i m) ∧
  (bgn (c.1 7) l = m)
theorem RLn.mk {T : Nat → Int32} {L : Nat} {k : Nat} {B : Nat → Nat} {c : cS} {s : rs_S} {a : Nat} {m : Nat} {l : Nat} (h0 : RJ T L k B c s a m) (h1 : c.1 2 8 = nI l) (h2 : l ≤ 20) (h3 : ∀ i, i < l → LNe c s.2.1 i m) (h4 : bgn (c.1 7) l = m) : RLn T L k B c s a m l := by
  unfold RLn
  exact ⟨h0, h1, h2, h3, h4⟩
theorem RLn.rj {T : Nat → Int32} {L : Nat} {k : Nat} {B : Nat → Nat} {c : cS} {s : rs_S} {a : Nat} {m : Nat} {l : Nat} (h : RLn T L k B c s a m l) : RJ T L k B c s a m := (show _ from by unfold RLn at h; exact h.1)
theorem RLn.l8 {T : Nat → Int32} {L : Nat} {k : Nat} {B : Nat → Nat} {c : cS} {s : rs_S} {a : Nat} {m : Nat} {l : Nat} (h : RLn T L k B c s a m l) : c.1 2 8 = nI l := (show _ from by unfold RLn at h; exact h.2.1)
theorem RLn.l2 {T : Nat → Int32} {L : Nat} {k : Nat} {B : Nat → Nat} {c : cS} {s : rs_S} {a : Nat} {m : Nat} {l : Nat} (h : RLn T L k B c s a m l) : l ≤ 20 := (show _ from by unfold RLn at h; exact h.2.2.1)
theorem RLn.ln {T : Nat → Int32} {L : Nat} {k : Nat} {B : Nat → Nat} {c : cS} {s : rs_S} {a : Nat} {m : Nat} {l : Nat} (h : RLn T L k B c s a m l) : ∀ i, i < l → LNe c s.2.1 i m := (show _ from by unfold RLn at h; exact h.2.2.2.1)
theorem RLn.bm {T : Nat → Int32} {L : Nat} {k : Nat} {B : Nat → Nat} {c : cS} {s : rs_S} {a : Nat} {m : Nat} {l : Nat} (h : RLn T L k B c s a m l) : bgn (c.1 7) l = m := (show _ from by unfold RLn at h; exact h.2.2.2.2)
/-- what stays, line by line -/
def RFl (c c' : cS) (s s' : rs_S) : Prop := (∀ q, q < 2 ∨ q = 3 ∨ q = 4 ∨ 10 ≤ q → c'.1 q = c.1 q) ∧ (∀ j, j ≠ 4 → j ≠ 8 → j ≠ 11 → c'.1 2 j = c.1 2 j) ∧ c'.2 = c.2 ∧ (∀ q, q < 21336 → s'.2.1 q = s.2.1 q) ∧ s'.2.2 = s.2.2 ∧ ∀ j, j ≠ 9 → j ≠ 11 → j ≠ 12 → j ≠ 15 → s'.1 j = s.1 j
theorem RFl.refl : RFl c c s s := ⟨fun _ _ => rfl, fun _ _ _ _ => rfl, rfl, fun _ _ => rfl, rfl, fun _ _ _ _ _ => rfl⟩
theorem RFl.trans (h : RFl c c' s s') (h' : RFl c' c'' s' s'') : RFl c c'' s s'' := by
  obtain ⟨a1, a2, a3, a4, a5, a6⟩ := h
  obtain ⟨b1, b2, b3, b4, b5, b6⟩ := h'
  exact ⟨fun q hq => (b1 q hq).trans (a1 q hq), fun j h1 h2 h3 => (b2 j h1 h2 h3).trans (a2 j h1 h2 h3), b3.trans a3, fun q hq => (b4 q hq).trans (a4 q hq), b5.trans a5, fun j h1 h2 h3 h4 => (b6 j h1 h2 h3 h4).trans (a6 j h1 h2 h3 h4)⟩
theorem RFm.fl (h : RFm c c' s s' m) : RFl c c' s s' := ⟨fun q hq => h.1 q (by omega) (by omega) (by omega), fun j h1 _ h3 => h.2.1 j h1 h3, h.2.2.1, fun q hq => h.2.2.2.2.1 q (by omega), h.2.2.2.2.2.1, h.2.2.2.2.2.2⟩
theorem RFl.ps {P b : Nat} (h : RFl c c' s s') : RFl c c' s (ps s' P b) := ⟨h.1, h.2.1, h.2.2.1, h.2.2.2.1, h.2.2.2.2.1, fun j h1 h2 h3 h4 => (ps_n h1 h2).trans (h.2.2.2.2.2 j h1 h2 h3 h4)⟩
theorem pWn {q : Nat} {x : Int32} (hq : q < 2 ^ 31) : (pW s (nI q) x).2.1 = upd s.2.1 q x := by
  show upd s.2.1 (nI q).toNatClampNeg x = _
  rw [nI_clamp hq]
theorem RFl.w {q : Nat} {x : Int32} (h : RFl c c' s s') (h1 : 21336 ≤ q) (h2 : q < 22216) : RFl c c' s (pW s' (nI q) x) := ⟨h.1, h.2.1, h.2.2.1, fun j hj => by rw [pWn (by omega), upd_n (by omega)]; exact h.2.2.2.1 j hj, h.2.2.2.2.1, h.2.2.2.2.2⟩
theorem RJ.w {q : Nat} {x : Int32} (h : RJ T L k B c s a m) (hq : q < 21416) : RJ T L k B c (pW s (nI q) x) a m := RJ.mk h.tk h.tx h.ta h.ak h.pt h.st h.s5 h.ma (fun j hj => by rw [pWn (by omega), upd_n (by omega), upd_n (by omega)]; exact h.sp j hj)
/-- a line is put down -/
def pl (x : cS) (l : Nat) (K V : Int32) (m : Nat) : cS := cp (cp (cp (cp x 5 l K) 6 l V) 7 l (nI m)) 2 8 (nI (l + 1))
noncomputable def psA (x : cS) (K V : Int32) : Option (Int32 × cS) := if iL (x.1 2 8) 20 then (if iL ((ca x 5 (x.1 2 8) K).1 2 8) 20 then ((some (ca (ca x 5 (x.1 2 8) K) 6 ((ca x 5 (x.1 2 8) K).1 2 8) V)).bind fun x15 => (if iL (x15.1 2 8) 20 then ((some (cp (ca x15 7 (x15.1 2 8) (x15.1 2 11)) 2 8 (((ca x15 7 (x15.1 2 8) (x15.1 2 11)).1 2 8) + (nI 1)))).bind fun x17 => (some (nI 1, x17))) else none)) else none) else none
noncomputable def psB (x : cS) (K V : Int32) : Option (Int32 × cS) := if iL (x.1 2 8) 20 then ((some (ca x 5 (x.1 2 8) K)).bind fun x126 => (if iL (x126.1 2 8) 20 then (if iL ((ca x126 6 (x126.1 2 8) V).1 2 8) 20 then ((some (ca (ca x126 6 (x126.1 2 8) V) 7 ((ca x126 6 (x126.1 2 8) V).1 2 8) ((ca x126 6 (x126.1 2 8) V).1 2 11))).bind fun x129 => (some (nI 1, cp x129 2 8 ((x129.1 2 8) + (nI 1))))) else none) else none)) else none
theorem psA_e {K V : Int32} (hl : l < 20) (h8 : c.1 2 8 = nI l) (h11 : c.1 2 11 = nI m) : psA c K V = some (nI 1, pl c l K V m) := by
  unfold psA
  rw [h8, if_pos (iL_t hl (by decide)), ca_n _ _ (by omega), cp_1 2 (by decide), h8, if_pos (iL_t hl (by decide)), ca_n _ _ (by omega), Option.bind_some, cp_1 2 (by decide), cp_1 2 (by decide), h8, if_pos (iL_t hl (by decide)), ca_n _ _ (by omega), Option.bind_some, cp_1 2 (by decide), cp_1 2 (by decide), cp_1 2 (by decide), h8, h11, nI_add]
  rfl
theorem psB_e {K V : Int32} (hl : l < 20) (h8 : c.1 2 8 = nI l) (h11 : c.1 2 11 = nI m) : psB c K V = some (nI 1, pl c l K V m) := by
  unfold psB
  rw [h8, if_pos (iL_t hl (by decide)), ca_n _ _ (by omega), Option.bind_some, cp_1 2 (by decide), h8, if_pos (iL_t hl (by decide)), ca_n _ _ (by omega), cp_1 2 (by decide), cp_1 2 (by decide), h8, if_pos (iL_t hl (by decide)), ca_n _ _ (by omega), Option.bind_some, cp_1 2 (by decide), cp_1 2 (by decide), cp_1 2 (by decide), h8, h11, nI_add]
  rfl
theorem pl_o {K V : Int32} {q : Nat} (h : q < 2 ∨ q = 3 ∨ q = 4 ∨ 8 ≤ q) : (pl c l K V m).1 q = c.1 q := by unfold pl; rw [cp_1 _ (by omega), cp_1 _ (by omega), cp_1 _ (by omega), cp_1 _ (by omega)]
theorem pl_2 {K V : Int32} {j : Nat} (h : j ≠ 8) : (pl c l K V m).1 2 j = c.1 2 j := by unfold pl; rw [cp_q, upd_n h, cp_1 2 (by decide), cp_1 2 (by decide), cp_1 2 (by decide)]
theorem pl_8 {K V : Int32} : (pl c l K V m).1 2 8 = nI (l + 1) := by unfold pl; rw [cp_q, upd_s]
theorem pl_5 {K V : Int32} : (pl c l K V m).1 5 = upd (c.1 5) l K := by unfold pl; rw [cp_1 5 (by decide), cp_1 5 (by decide), cp_1 5 (by decide), cp_q]
theorem pl_6 {K V : Int32} : (pl c l K V m).1 6 = upd (c.1 6) l V := by unfold pl; rw [cp_1 6 (by decide), cp_1 6 (by decide), cp_q, cp_1 6 (by decide)]
theorem pl_7 {K V : Int32} : (pl c l K V m).1 7 = upd (c.1 7) l (nI m) := by unfold pl; rw [cp_1 7 (by decide), cp_q, cp_1 7 (by decide), cp_1 7 (by decide)]
theorem RFl.pl {K V : Int32} (h : RFl c c' s s') : RFl c (pl c' l K V m) s s' := ⟨fun q hq => (pl_o (by omega)).trans (h.1 q hq), fun j h1 h2 h3 => (pl_2 h2).trans (h.2.1 j h1 h2 h3), h.2.2.1, h.2.2.2⟩
theorem bgn_u {f : Nat → Int32} {x : Int32} {i : Nat} (hi : i ≤ l) : bgn (upd f l x) i = bgn f i := by
  cases i with
  | zero => rfl
  | succ i => show N (upd f l x i) = N (f i); rw [upd_n (by omega)]
/-- a line more -/
theorem RLn.push {kd a2 m2 : Nat} {V : Int32} {c2 : cS} {s2 : rs_S} (h : RLn T L k B c s a m l) (hl : l < 20) (j : RJ T L k B c2 s2 a2 m2) (e5 : c2.1 5 = c.1 5) (e6 : c2.1 6 = c.1 6) (e7 : c2.1 7 = c.1 7) (e8 : ∀ j, j < m → c2.1 8 j = c.1 8 j) (ew : ∀ q, 21336 ≤ q → q < 21336 + 4 * l → s2.2.1 q = s.2.1 q) (hk : kd < 8) (w0 : s2.2.1 (21336 + 4 * l) = nI kd) (w1 : kd ≠ 4 → V = s2.2.1 (21336 + 4 * l + 1) ∧ ∃ k, k < 1000000 ∧ V = nI k) (w4 : kd = 4 → ∃ k d, k < 4 ∧ d < 2 ∧ V = nI (k + 4 * d) ∧ s2.2.1 (21336 + 4 * l + 1) = nI (2 * k + d)) (wn : kd = 2 ∨ kd = 6 → N V ≤ 100) (w5 : kd = 5 → N V ≤ 50) (w2 : s2.2.1 (21336 + 4 * l + 2) = nI m) (w3 : s2.2.1 (21336 + 4 * l + 3) = nI m2) (hm : m ≤ m2) (hw : m < m2 → hgt (c2.1 8) m (m2 - m) 0 = some 1) : RLn T L k B (pl c2 l (nI kd) V m2) s2 a2 m2 (l + 1) := by
  have m4 : m2 ≤ 400 := by have := j.ma; have := j.ak; have := j.tk.k4; have := j.tk.L4; omega
  refine RLn.mk ?_ pl_8 (by omega) (fun i hi => ?_) ?_
  · exact RJ.mk (j.tk.same (pl_2 (by decide)) (pl_o (by omega)) (pl_o (by omega))) j.tx (by rw [pl_2 (by decide)]; exact j.ta) j.ak j.pt (by rw [pl_2 (by decide)]; exact j.st) j.s5 j.ma (fun i hi => by rw [pl_o (by omega), pl_o (by omega)]; exact j.sp i hi)
  · by_cases e : i = l
    · subst e
      refine LNe.mk ?_ ?_ ?_ ?_ ?_ ?_ ?_
      · rw [pl_5, upd_s]; exact ⟨w0.symm, kd, hk, rfl⟩
      · rw [pl_5, upd_s, pl_6, upd_s]
        intro g
        exact w1 (fun e => g (by rw [e]))
      · rw [pl_5, upd_s, pl_6, upd_s]
        intro g
        exact w4 ((nI_eq (by omega) (by decide)).mp g)
      · rw [pl_5, upd_s, pl_6, upd_s]
        intro g
        refine wn ?_
        rcases g with g | g
        · exact Or.inl ((nI_eq (by omega) (by decide)).mp g)
        · exact Or.inr ((nI_eq (by omega) (by decide)).mp g)
      · rw [pl_5, upd_s, pl_6, upd_s]
        intro g
        exact w5 ((nI_eq (by omega) (by decide)).mp g)
      · rw [pl_7, upd_s, bgn_u (Nat.le_refl _), e7, h.bm, N_nI (by omega)]
        exact ⟨w3.symm, rfl, hm, Nat.le_refl _, w2⟩
      · rw [pl_7, upd_s, bgn_u (Nat.le_refl _), e7, h.bm, N_nI (by omega), pl_o (by omega)]
        exact hw
    · have li := h.ln i (by omega)
      have i9 : i < l := by omega
      have v4 : ∀ f, f < 4 → s2.2.1 (21336 + 4 * i + f) = s.2.1 (21336 + 4 * i + f) := fun f hf => ew _ (by omega) (by omega)
      have v0 : s2.2.1 (21336 + 4 * i) = s.2.1 (21336 + 4 * i) := v4 0 (by decide)
      obtain ⟨q1, q2, q3, q4, q5⟩ := li.en
      refine LNe.mk ?_ ?_ ?_ ?_ ?_ ?_ ?_
      · rw [pl_5, upd_n e, e5, v0]; exact li.kd
      · rw [pl_5, upd_n e, e5, pl_6, upd_n e, e6, v4 1 (by decide)]; exact li.nm
      · rw [pl_5, upd_n e, e5, pl_6, upd_n e, e6, v4 1 (by decide)]; exact li.n4
      · rw [pl_5, upd_n e, e5, pl_6, upd_n e, e6]; exact li.n2
      · rw [pl_5, upd_n e, e5, pl_6, upd_n e, e6]; exact li.n5
      · rw [pl_7, upd_n e, bgn_u (by omega), e7, v4 3 (by decide), v4 2 (by decide)]
        exact ⟨q1, q2, q3, by omega, q5⟩
      · rw [pl_7, upd_n e, bgn_u (by omega), e7, pl_o (by omega)]
        intro g
        rw [hgt_cg (f := c.1 8) _ (fun j g1 g2 => e8 j (by omega))]
        exact li.wf g
  · show N ((pl c2 l (nI kd) V m2).1 7 l) = m2
    rw [pl_7, upd_s, N_nI (by omega)]
/-- how much a number may be -/
def mo (kd : Nat) : Nat := if kd = 2 then 100 else if kd = 6 then 100 else if kd = 5 then 50 else 999999
theorem o_most {kd : Nat} (hk : kd < 8) : o_X7_mostOf τ n c (nI kd) = some (nI (mo kd)) := by
  unfold o_X7_mostOf
  match kd, hk with
  | 0, _ => rfl
  | 1, _ => rfl
  | 2, _ => rfl
  | 3, _ => rfl
  | 4, _ => rfl
  | 5, _ => rfl
  | 6, _ => rfl
  | 7, _ => rfl
  | kd + 8, h => exact absurd h (by omega)
theorem mo_lt {kd : Nat} : mo kd < 2 ^ 31 := by unfold mo; split <;> (try split) <;> (try split) <;> decide
noncomputable def tlC (F : Nat) (τ : cT) (n : Nat) (K V : Int32) (x10 : cS) : Option (Int32 × cS) := if (nI 3) < K then psA x10 K V else ((o_X7_thing τ n 0 x10).bind fun x18 => (if x18 = (nI 402) then ((o_crY F τ n 0 (cp x10 2 4 ((x10.1 2 4) + (nI 1))) (nI 0)).bind fun x25 => (if x25.1 = 0 then (some (nI 0, x25.2)) else psA x25.2 K V)) else psA x10 K V))
noncomputable def tlR (F : Nat) (K K3 x4 : Int32) (x11 : Int32 × rs_S) : Option (Int32 × rs_S) := if iL (K + (nI 1)) 22216 then (if 0 ≤ (gW (pW x11.2 (K + (nI 1)) x11.1) (K + (nI 1))) then (if x4 ≤ (nI 4) then ((o_X12_passes F (pW x11.2 (K + (nI 1)) x11.1) 27).bind fun x15 => (if x15.1 = 0 then (some (nI 1, pW x15.2 K3 (x15.2.1 15))) else ((o_rdC F (pN x15.2 12 (nI 0))).bind fun x17 => (if x17.1 = 0 then (some (nI 0, x17.2)) else (some (nI 1, pW x17.2 K3 (x17.2.1 15))))))) else (some (nI 1, pW x11.2 (K + (nI 1)) x11.1))) else (some (nI 0, pW x11.2 (K + (nI 1)) x11.1))) else none
/-- the line's head, as the reference writes it -/
def w3S (s : rs_S) (l : Nat) (x : Int32) (m : Nat) : rs_S := pW (pW (pW s (nI (21336 + 4 * l)) x) (nI (21336 + 4 * l + 2)) (nI m)) (nI (21336 + 4 * l + 3)) (nI m)
theorem w3_w {x : Int32} (hl : l < 20) : (w3S s l x m).2.1 = upd (upd (upd s.2.1 (21336 + 4 * l) x) (21336 + 4 * l + 2) (nI m)) (21336 + 4 * l + 3) (nI m) := by
  unfold w3S
  rw [pWn (by omega), pWn (by omega), pWn (by omega)]
theorem RLn.head (hF : 401 < F) (h : RLn T L k B c s a m l) (hl : l < 20) {x4 : Int32} (hs : o_X12_sortOf F (ps s (wd T L (B a)) (B a)) = some x4) : (¬ 0 ≤ x4 → o_X12_readLine F s (nI l) = some (nI 0, w3S (ps s (wd T L (B a)) (B a)) l x4 m)) ∧ (x4 = nI 4 → o_X12_readLine F s (nI l) = (o_X12_readTurn F (w3S (ps s (wd T L (B a)) (B a)) l x4 m) (nI (21336 + 4 * l))).bind fun x45 => (if zb x45.1 then some (x45.1, x45.2) else none)) ∧ (∀ kd, kd < 8 → kd ≠ 4 → x4 = nI kd → o_X12_readLine F s (nI l) = (o_X12_number F (w3S (ps s (wd T L (B a)) (B a)) l x4 m) (nI (mo kd))).bind (tlR F (nI (21336 + 4 * l)) (nI (21336 + 4 * l + 3)) x4)) := by
  have e15 : (ps s (wd T L (B a)) (B a)).1 15 = nI m := by rw [ps_n (by decide) (by decide)]; exact h.rj.s5
  have H : o_X12_word F s = some (ps s (wd T L (B a)) (B a)) := h.rj.wrd hF
  have st : ∀ X : rs_S, X = ps s (wd T L (B a)) (B a) → pW (pW (pW X (nI (21336 + 4 * l)) x4) (nI (21336 + 4 * l + 2)) ((pW X (nI (21336 + 4 * l)) x4).1 15)) (nI (21336 + 4 * l + 3)) ((pW (pW X (nI (21336 + 4 * l)) x4) (nI (21336 + 4 * l + 2)) ((pW X (nI (21336 + 4 * l)) x4).1 15)).1 15) = w3S X l x4 m := fun X e => by
    subst e
    rw [show (pW (ps s (wd T L (B a)) (B a)) (nI (21336 + 4 * l)) x4).1 15 = nI m from e15, show (pW (pW (ps s (wd T L (B a)) (B a)) (nI (21336 + 4 * l)) x4) (nI (21336 + 4 * l + 2)) (nI m)).1 15 = nI m from e15]
    rfl
  have i0 : iL (nI (21336 + 4 * l)) 22216 := iL_t (by omega) (by decide)
  have i2 : iL (nI (21336 + 4 * l + 2)) 22216 := iL_t (by omega) (by decide)
  have i3 : iL (nI (21336 + 4 * l + 3)) 22216 := iL_t (by omega) (by decide)
  unfold o_X12_readLine
  rw [H, Option.bind_some, if_neg (nI_inj (by omega) (by decide) (by omega)), o_actAt, Option.bind_some, hs, Option.bind_some, nI_mul, nI_add, nI_add, show 2812 + 882 * 21 + 2 + 4 * l = 21336 + 4 * l by omega, nI_add (21336 + 4 * l) 2, nI_add (21336 + 4 * l) 3, if_pos i0, if_pos i2, if_pos i3, st _ rfl]
  refine ⟨fun g => by rw [if_neg g], fun g => ?_, fun kd h8 h4 g => ?_⟩
  · subst g
    rw [if_pos (n0le (by decide)), if_pos rfl]
  · subst g
    rw [if_pos (n0le (by omega)), if_neg (nI_inj (by omega) (by decide) h4)]
    by_cases q2 : kd = 2
    · subst q2
      rw [if_pos rfl, show mo 2 = 100 from rfl]
      rfl
    · rw [if_neg (nI_inj (by omega) (by decide) q2)]
      by_cases q6 : kd = 6
      · subst q6
        rw [if_pos rfl, show mo 6 = 100 from rfl]
        rfl
      · rw [if_neg (nI_inj (by omega) (by decide) q6)]
        by_cases q5 : kd = 5
        · subst q5
          rw [if_pos rfl, show mo 5 = 50 from rfl]
          rfl
        · rw [if_neg (nI_inj (by omega) (by decide) q5), show mo kd = 999999 by unfold mo; rw [if_neg q2, if_neg q6, if_neg q5]]
          rfl
end LIN
