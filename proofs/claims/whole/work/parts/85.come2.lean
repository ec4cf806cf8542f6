/-! THE PURE LAYER: a ship comes in -/
section CM2
variable {F : Nat} {τ : cT} {n k i m B H o p b C st : Nat} {c c' c0 : cS} {s s' s0 : rs_S} {v v' D : Nat → Int32} {y : Int32}
theorem cm_row {x1 x2 x3 x4 x5 : Int32} {a10 a12 a9 aH ab : Nat} (h3 : a10 ≠ aH) (h4 : a10 ≠ ab) (h6 : a12 ≠ aH) (h7 : a12 ≠ ab) (h8 : a9 ≠ aH) (h9 : a9 ≠ ab) (h10 : aH ≠ ab) : upd (upd (upd (upd (upd v ab x5) aH x4) a10 x1) a12 x2) a9 x3 = upd (upd (upd (upd (upd v a10 x1) a12 x2) a9 x3) aH x4) ab x5 := by
  rw [upd_cm (a := aH) (b := a10) (Ne.symm h3), upd_cm (a := ab) (b := a10) (Ne.symm h4), upd_cm (a := aH) (b := a12) (Ne.symm h6), upd_cm (a := ab) (b := a12) (Ne.symm h7), upd_cm (a := aH) (b := a9) (Ne.symm h8), upd_cm (a := ab) (b := a9) (Ne.symm h9), upd_cm (a := ab) (b := aH) (Ne.symm h10)]
theorem RB.came {T : Nat} (h : RB τ n c 10 v) (hI : LI τ n) (hk : k < N (v 1211)) (h9 : v (1212 + 18 * k + 9) = 0) (hb : b < N (v 999)) (hhas : v (1000 + 8 * b + 6) = -1) (hst : st = 1 ∨ st = 2) : RB τ n (cp (cp (cp (cp c (50 + k) 11 (nI b)) (50 + k) 13 (nI T)) (50 + k) 10 (nI st)) (39 + b) 7 (nI k)) 10 (upd (upd (upd (upd v (1212 + 18 * k + 10) (nI b)) (1212 + 18 * k + 12) (nI T)) (1212 + 18 * k + 9) (nI st)) (1000 + 8 * b + 6) (nI k)) := by
  have C := h.cr
  have r := h.rg
  have bb := r.b
  have k80 : k < 80 := by omega
  have x1 := h.x.ship (f := 11) (g := 10) (y := nI b) hI hk rfl (ok_n (rg_s (f := 10) k80 (by decide)) (by show (-1 : Int) ≤ _; omega) (show (b : Int) ≤ 9 by omega) (by omega))
  have x2 := x1.ship (k := k) (f := 13) (g := 12) (y := nI T) hI (by rw [upd_n (by omega)]; exact hk) rfl (rg_any (rg_s (f := 12) k80 (by decide)))
  have x3 := x2.ship (k := k) (f := 10) (g := 9) (y := nI st) hI (by rw [upd_n (by omega), upd_n (by omega)]; exact hk) rfl (ok_n (rg_s (f := 9) k80 (by decide)) (by show (0 : Int) ≤ _; omega) (show (st : Int) ≤ 4 by omega) (by omega))
  have x4 := x3.berth (k := b) (f := 7) (y := nI k) hI (by rw [upd_n (by omega), upd_n (by omega), upd_n (by omega)]; exact hb) (by decide) (ok_n (rg_b (f := 6) (show b < 10 by omega) (by decide)) (by show (-1 : Int) ≤ _; omega) (show (k : Int) ≤ 79 by omega) (by omega))
  refine x4.rb ?_
  show Cr (upd (upd (upd (upd v (1212 + 18 * k + 10) (nI b)) (1212 + 18 * k + 12) (nI T)) (1212 + 18 * k + 9) (nI st)) (1000 + 8 * b + 6) (nI k))
  generalize ev : upd (upd (upd (upd v (1212 + 18 * k + 10) (nI b)) (1212 + 18 * k + 12) (nI T)) (1212 + 18 * k + 9) (nI st)) (1000 + 8 * b + 6) (nI k) = v'
  have hu : ∀ q, q ≠ 1212 + 18 * k + 10 → q ≠ 1212 + 18 * k + 12 → q ≠ 1212 + 18 * k + 9 → q ≠ 1000 + 8 * b + 6 → v' q = v q := fun q h1 h2 h3 h4 => by rw [← ev, upd_n h4, upd_n h3, upd_n h2, upd_n h1]
  have hx : v' (1000 + 8 * b + 6) = nI k := by rw [← ev, upd_s]
  have h9' : v' (1212 + 18 * k + 9) = nI st := by rw [← ev, upd_n (by omega), upd_s]
  have h10' : v' (1212 + 18 * k + 10) = nI b := by rw [← ev, upd_n (by omega), upd_n (by omega), upd_n (by omega), upd_s]
  have hf : ∀ k' f, k' ≠ k → f < 18 → v' (1212 + 18 * k' + f) = v (1212 + 18 * k' + f) := fun k' f h1 h2 => hu _ (by omega) (by omega) (by omega) (by omega)
  refine Cr.mk ?_ ?_ ?_ ?_ ?_ (C.sd_s r (hu _ (by omega) (by omega) (by omega) (by omega)) (fun q _ _ => hu q (by omega) (by omega) (by omega) (by omega))) (C.ev_s r (hu _ (by omega) (by omega) (by omega) (by omega)) (fun q _ _ => hu q (by omega) (by omega) (by omega) (by omega))) ?_ (C.zp_s (fun q _ _ => hu q (by omega) (by omega) (by omega) (by omega))) ?_ ?_ (C.oe_s (hu _ (by omega) (by omega) (by omega) (by omega)) (fun q _ _ => hu q (by omega) (by omega) (by omega) (by omega)))
  · intro j hj
    rw [hu _ (by omega) (by omega) (by omega) (by omega), hu 0 (by omega) (by omega) (by omega) (by omega)]; exact C.ld j hj
  · intro j hj
    rw [hu 999 (by omega) (by omega) (by omega) (by omega)] at hj
    rw [hu _ (by omega) (by omega) (by omega) (by omega)]; exact C.cr j hj
  · intro j hj
    rw [hu 999 (by omega) (by omega) (by omega) (by omega)] at hj
    rw [hu 1211 (by omega) (by omega) (by omega) (by omega)]
    by_cases e : j = b
    · subst e
      exact Or.inr ⟨k, hk, hx, h10', by rw [h9', N_nI (by omega)]; omega, by rw [h9', N_nI (by omega)]; omega⟩
    · rw [hu (1000 + 8 * j + 6) (by omega) (by omega) (by omega) (by omega)]
      rcases C.hs j hj with q | ⟨k', q1, q2, q3, q4, q5⟩
      · exact Or.inl q
      · have nk : k' ≠ k := fun e2 => by
          subst e2
          rw [h9] at q4
          exact absurd q4 (by decide)
        exact Or.inr ⟨k', q1, q2, by rw [hf k' 10 nk (by decide)]; exact q3, by rw [hf k' 9 nk (by decide)]; exact q4, by rw [hf k' 9 nk (by decide)]; exact q5⟩
  · intro k' hk'
    rw [hu 1211 (by omega) (by omega) (by omega) (by omega)] at hk'
    rw [hu 999 (by omega) (by omega) (by omega) (by omega)]
    by_cases e : k' = k
    · subst e
      exact fun _ _ => ⟨b, hb, h10', hx⟩
    · rw [hf k' 9 e (by decide), hf k' 10 e (by decide)]
      intro q1 q2
      obtain ⟨j, p1, p2, p3⟩ := C.sh k' hk' q1 q2
      have nj : j ≠ b := fun e2 => by
        subst e2
        rw [hhas] at p3
        exact absurd p3.symm (nI_nm1 (by omega))
      exact ⟨j, p1, p2, by rw [hu _ (by omega) (by omega) (by omega) (by omega)]; exact p3⟩
  · intro k' hk'
    rw [hu 1211 (by omega) (by omega) (by omega) (by omega)] at hk'
    rw [hu (1212 + 18 * k') (by omega) (by omega) (by omega) (by omega), hu 1090 (by omega) (by omega) (by omega) (by omega)]
    exact C.ow k' hk'
  · rw [hu 2655 (by omega) (by omega) (by omega) (by omega), hu 1211 (by omega) (by omega) (by omega) (by omega), tcs_same (v := v) _ (fun j hj => hu _ (by omega) (by omega) (by omega) (by omega))]
    exact C.tc
  · intro k' q1 q2
    rw [hu 1211 (by omega) (by omega) (by omega) (by omega)] at q1
    rw [hf k' 9 (by omega) (by decide), hf k' 14 (by omega) (by decide), hf k' 16 (by omega) (by decide)]
    exact C.zs k' q1 q2
  · intro j q1 q2
    rw [hu 999 (by omega) (by omega) (by omega) (by omega)] at q1
    rw [hu _ (by omega) (by omega) (by omega) (by omega), hu _ (by omega) (by omega) (by omega) (by omega), hu _ (by omega) (by omega) (by omega) (by omega)]
    exact C.zb j q1 q2
/-- the class's way of coming in -/
theorem ci_tail {c1 : cS} (hF : 6 ≤ F) (k80 : k < 80) (b10 : b < 10) (hB : B < 24) (hH : H ≤ 30000) (e0 : c1.1 10 0 = nI H) :
    ((some (cp (cp c1 (50 + k) 11 (nI b)) (50 + k) 13 (((cp c1 (50 + k) 11 (nI b)).1 10 0) + (nI B / (nI 6))))).bind fun x7 => (if (x7.1 (50 + k) 13) = (x7.1 10 0) then ((o_X1_take τ n (39 + b) (cp x7 (50 + k) 10 (nI 2)) (nI k)).bind fun x11 => ((o_X5_takePilot F τ n 10 x11 ((nI B / (nI 6)) + (nI 1))).bind fun x12 => (some x12))) else ((o_X1_take τ n (39 + b) (cp x7 (50 + k) 10 (nI 1)) (nI k)).bind fun x9 => ((o_X5_takePilot F τ n 10 x9 ((nI B / (nI 6)) + (nI 1))).bind fun x10 => (some x10))))) = some (cPil (cp (cp (cp (cp (cp c1 (50 + k) 11 (nI b)) (50 + k) 13 (nI (H + B / 6))) (50 + k) 10 (nI (if B / 6 = 0 then 2 else 1))) (39 + b) 7 (nI k)) (39 + b) 8 (-1000)) (B / 6 + 1)) := by
  have h10 : (cp c1 (50 + k) 11 (nI b)).1 10 0 = nI H := by rw [cp_1 _ (by omega)]; exact e0
  rw [Option.bind_some, h10, pk_div (show B < 2 ^ 31 by omega) (by decide) (by decide), nI_add, nI_add]
  have a1 : (cp (cp c1 (50 + k) 11 (nI b)) (50 + k) 13 (nI (H + B / 6))).1 (50 + k) 13 = nI (H + B / 6) := by rw [cp_q, upd_s]
  have a2 : (cp (cp c1 (50 + k) 11 (nI b)) (50 + k) 13 (nI (H + B / 6))).1 10 0 = nI H := by rw [cp_1 _ (by omega)]; exact h10
  unfold o_X1_take
  rw [a1, a2, Option.bind_some, Option.bind_some, o_takeP hF (by omega), o_takeP hF (by omega), Option.bind_some, Option.bind_some]
  by_cases q : B / 6 = 0
  · rw [if_pos (by rw [q, Nat.add_zero]), if_pos q]
  · rw [if_neg (nI_inj (by omega) (by omega) (by omega)), if_neg q]
/-- the reference's way of coming in, once the berth is found -/
noncomputable def rci (F : Nat) (s : rs_S) (l1 l2 x4 : Int32) : Option (Unit ⊕ rs_S) := ((o_X12_of s l1 (nI 4)).bind fun x13 => ((o_X12_touches F s l1 x13 x4 (nI 0)).bind fun x14 => ((o_X12_pilots x14 x4).bind fun x15 => ((o_X12_berthAt x15 l2 (nI 6)).bind fun x16 => (if iL x16 22216 then ((o_X12_sets (pW x15 x16 l1) l1 (nI 10) l2).bind fun x18 => ((o_X12_hour x18).bind fun x19 => ((o_X12_sets x18 l1 (nI 12) (x19 + (x4 / (nI 6)))).bind fun x20 => (if (x4 / (nI 6)) = 0 then ((o_X12_sets x20 l1 (nI 9) (nI 2)).bind fun x23 => (some (.inr x23))) else ((o_X12_sets x20 l1 (nI 9) (nI 1)).bind fun x22 => (some (.inr x22))))))) else none)))))
theorem come1 (hF : 30000 ≤ F) (hI : LI τ n) (h : PH τ n c0 s0 c s H D) (hk : k < N (s.2.1 1211)) (h9 : s.2.1 (1212 + 18 * k + 9) = 0) (hb : b < N (s.2.1 999)) (hhas : s.2.1 (1000 + 8 * b + 6) = -1) (eB : s.2.1 (1000 + 8 * b + 0) = nI B) (hB : B < 24) : ∃ c' s', o_X2_comeIn F τ n 10 c (nI k) (nI b) = some c' ∧ rci F s (nI k) (nI b) (nI B) = some (.inr s') ∧ PH τ n c0 s0 c' s' H D ∧ s'.1 = s.1 ∧ s'.2.2 = s.2.2 ∧ (∀ b', c'.1 (39 + b') 8 = if b' = b then -1000 else c.1 (39 + b') 8) ∧ s'.2.1 (1000 + 8 * b + 6) = nI k ∧ ¬ s'.2.1 (1212 + 18 * k + 9) = 0 ∧ ∀ q, q ≠ 1212 + 18 * k + 9 → q ≠ 1212 + 18 * k + 10 → q ≠ 1212 + 18 * k + 12 → q ≠ 1212 + 18 * k + 16 → q ≠ 1000 + 8 * b + 6 → (q < 1082 ∨ 1090 ≤ q) → q ≠ 2655 → s'.2.1 q = s.2.1 q := by
  have rb := h.rb
  have r := rb.rg
  have n12 := rb.n1211
  have n9 := rb.n999
  have hh := h.hh
  have k80 : k < 80 := by omega
  have b10 : b < 10 := by omega
  have es := fun f g hfg => rb.shp k hk f g hfg
  simp only [show 10 + 40 + k = 50 + k by omega] at es
  have e10 : c.1 10 0 = nI H := (rb.pl 0 0 0 rfl).trans h.h0
  have e27 : c.1 37 1 = nI (N (s.2.1 999)) := (rb.pl 999 27 1 rfl).trans n9.1
  have eb0 : c.1 (39 + b) 0 = nI B := by rw [show 39 + b = 10 + 29 + b by omega, ← eB]; exact rb.ber b hb 0 (by decide)
  have T0 := rb.x.tid
  obtain ⟨s1, t1, t2, t3, t4⟩ := o_touches (F := F) (s := s) (k := k) (y := s.2.1 (1212 + 18 * k + 4)) (o := 0) (by omega) k80 hB (show H < 40000 by omega) (by decide) h.h0
  have bed : ∀ q, q < 24 → c.1 12 q = s.2.1 (1 + q) := fun q hq => rb.pl _ _ _ (show wk (1 + q) = some (2, q) by unfold wk; rw [if_neg (by omega), if_pos (by omega), show 1 + q - 1 = q by omega])
  have bb : o_X8_bears F τ n 10 12 c (c.1 (50 + k) 4) (nI B) (c.1 10 0) (nI 0) = some (ifc (sfe (c.1 12) s.2.1 (s.2.1 (1212 + 18 * k + 4)) B H 0) (nI 1) (nI 0)) := by
    rw [es 4 4 rfl, e10]
    exact o_bears (by omega) T0 hB (by omega) (by decide)
  have bd : sfe (c.1 12) s.2.1 (s.2.1 (1212 + 18 * k + 4)) B H 0 ↔ sfe (fun q => s.2.1 (1 + q)) s.2.1 (s.2.1 (1212 + 18 * k + 4)) B H 0 := sfe_same hB bed
  generalize hP : sfe (fun q => s.2.1 (1 + q)) s.2.1 (s.2.1 (1212 + 18 * k + 4)) B H 0 = P at t4 bd
  have rb1 := rb.touched (k := k) (P := P) hI hk
  rw [← t4] at rb1
  have v1o : ∀ q, q ≠ 1212 + 18 * k + 16 → q ≠ 2655 → s1.2.1 q = s.2.1 q := fun q h1 h2 => by rw [t4]; exact vT_o h1 h2
  have m8 : (H + B / 6) % 8 < 8 := Nat.mod_lt _ (by decide)
  -- the class
  have ct := ci_tail (F := F) (τ := τ) (n := n) (k := k) (b := b) (B := B) (H := H) (c1 := cT_ c k P) (by omega) k80 b10 hB hh (by rw [cT_o (by omega)]; exact e10)
  have cl : o_X2_comeIn F τ n 10 c (nI k) (nI b) = some (cPil (cp (cp (cp (cp (cp (cT_ c k P) (50 + k) 11 (nI b)) (50 + k) 13 (nI (H + B / 6))) (50 + k) 10 (nI (if B / 6 = 0 then 2 else 1))) (39 + b) 7 (nI k)) (39 + b) 8 (-1000)) (B / 6 + 1)) := by
    unfold o_X2_comeIn
    rw [if_neg (show ¬ nI b < 0 from nI_ngt (y := 0) (by omega) (by decide) (by omega)), show (10 + 27 : Nat) = 37 from rfl, e27, if_pos ((nI_ltI (by omega) (by omega)).mpr hb), if_pos (iL_t k80 (by decide)), if_pos (iL_t b10 (by decide)), nI_clamp (show k < 2 ^ 31 by omega), nI_clamp (show b < 2 ^ 31 by omega), show 10 + 39 + 1 + k = 50 + k by omega, show 10 + 28 + 1 + b = 39 + b by omega, eb0, show (10 + 2 : Nat) = 12 from rfl, bb, Option.bind_some]
    by_cases pp : P
    · rw [ifc_pos (bd.mpr pp), if_neg (show ¬ (nI 1 : Int32) = 0 by decide)]
      rw [show cT_ c k P = c from ifc_pos pp] at ct ⊢
      exact ct
    · rw [ifc_neg (fun e => pp (bd.mp e)), if_pos (show (nI 0 : Int32) = 0 from nI_0)]
      rw [show cT_ c k P = cp c (50 + k) 18 (c.1 (50 + k) 18 + nI 1) from ifc_neg pp] at ct ⊢
      rw [Option.bind_some]
      exact ct
  -- the reference
  have st12 : (if B / 6 = 0 then 2 else 1) = 1 ∨ (if B / 6 = 0 then 2 else 1) = 2 := by split <;> omega
  have rf : ∃ s', rci F s (nI k) (nI b) (nI B) = some (.inr s') ∧ s'.1 = s.1 ∧ s'.2.2 = s.2.2 ∧ s'.2.1 = upd (upd (upd (upd (upd s1.2.1 (1212 + 18 * k + 10) (nI b)) (1212 + 18 * k + 12) (nI (H + B / 6))) (1212 + 18 * k + 9) (nI (if B / 6 = 0 then 2 else 1))) (1000 + 8 * b + 6) (nI k)) (1082 + (H + B / 6) % 8) (s1.2.1 (1082 + (H + B / 6) % 8) + nI 1) := by
    unfold rci
    rw [o_of k80 (show 4 < 18 by decide), Option.bind_some, t1, Option.bind_some, o_pilots hB hh (by rw [v1o 0 (by omega) (by omega)]; exact h.h0), Option.bind_some, o_berthAt, Option.bind_some, if_pos (iL_t (show 1000 + 8 * b + 6 < 22216 by omega) (by decide)), o_sets k80 (by decide), Option.bind_some]
    unfold o_X12_hour
    have g0 : gW (pW (pW (pW s1 (nI (1082 + (H + B / 6) % 8)) (s1.2.1 (1082 + (H + B / 6) % 8) + nI 1)) (nI (1000 + 8 * b + 6)) (nI k)) (nI (1212 + 18 * k + 10)) (nI b)) (nI 0) = nI H := by rw [gW_pWn _ (by omega) (by decide) (by omega), gW_pWn _ (by omega) (by decide) (by omega), gW_pWn _ (by omega) (by decide) (by omega), gW_n _ (by decide), v1o _ (by omega) (by omega)]; exact h.h0
    rw [Option.bind_some, g0, pk_div (show B < 2 ^ 31 by omega) (by decide) (by decide), nI_add, o_sets k80 (by decide), Option.bind_some, o_sets k80 (by decide), o_sets k80 (by decide), Option.bind_some, Option.bind_some]
    have fin : ∀ st : Nat, (pW (pW (pW (pW (pW s1 (nI (1082 + (H + B / 6) % 8)) (s1.2.1 (1082 + (H + B / 6) % 8) + nI 1)) (nI (1000 + 8 * b + 6)) (nI k)) (nI (1212 + 18 * k + 10)) (nI b)) (nI (1212 + 18 * k + 12)) (nI (H + B / 6))) (nI (1212 + 18 * k + 9)) (nI st)).2.1 = upd (upd (upd (upd (upd s1.2.1 (1212 + 18 * k + 10) (nI b)) (1212 + 18 * k + 12) (nI (H + B / 6))) (1212 + 18 * k + 9) (nI st)) (1000 + 8 * b + 6) (nI k)) (1082 + (H + B / 6) % 8) (s1.2.1 (1082 + (H + B / 6) % 8) + nI 1) := fun st => by
      simp only [pW_21]
      rw [nI_clamp (show 1082 + (H + B / 6) % 8 < 2 ^ 31 by omega), nI_clamp (show 1000 + 8 * b + 6 < 2 ^ 31 by omega), nI_clamp (show 1212 + 18 * k + 10 < 2 ^ 31 by omega), nI_clamp (show 1212 + 18 * k + 12 < 2 ^ 31 by omega), nI_clamp (show 1212 + 18 * k + 9 < 2 ^ 31 by omega)]
      exact cm_row (by omega) (by omega) (by omega) (by omega) (by omega) (by omega) (by omega)
    by_cases q : B / 6 = 0
    · rw [if_pos (show nI (B / 6) = 0 by rw [q]; rfl), if_pos q]
      exact ⟨_, rfl, t2, t3, fin 2⟩
    · rw [if_neg (show ¬ nI (B / 6) = 0 from nI_inj (b := 0) (by omega) (by decide) q), if_neg q]
      exact ⟨_, rfl, t2, t3, fin 1⟩
  obtain ⟨s', f1, f2, f3, f4⟩ := rf
  -- the relation
  have rb2 := rb1.came (k := k) (b := b) (T := H + B / 6) (st := if B / 6 = 0 then 2 else 1) hI (by rw [v1o _ (by omega) (by omega)]; exact hk) (by rw [v1o _ (by omega) (by omega)]; exact h9) (by rw [v1o _ (by omega) (by omega)]; exact hb) (by rw [v1o _ (by omega) (by omega)]; exact hhas) st12
  have cz : Cz (cp (cp (cp (cp (cT_ c k P) (50 + k) 11 (nI b)) (50 + k) 13 (nI (H + B / 6))) (50 + k) 10 (nI (if B / 6 = 0 then 2 else 1))) (39 + b) 7 (nI k)) (cp (cp (cp (cp (cp (cT_ c k P) (50 + k) 11 (nI b)) (50 + k) 13 (nI (H + B / 6))) (50 + k) 10 (nI (if B / 6 = 0 then 2 else 1))) (39 + b) 7 (nI k)) (39 + b) 8 (-1000)) := ⟨fun a j h1 h2 => by
    by_cases e : a = 39 + b
    · subst e; rw [cp_q, upd_n (by omega)]
    · rw [cp_1 _ e], rfl⟩
  have rb3 := (rb2.cz hI cz).piloted (H := H) (e := B / 6) hI (by rw [upd_n (by omega), upd_n (by omega), upd_n (by omega), upd_n (by omega), v1o _ (by omega) (by omega)]; exact h.h0) hh (by omega)
  rw [show upd (upd (upd (upd s1.2.1 (1212 + 18 * k + 10) (nI b)) (1212 + 18 * k + 12) (nI (H + B / 6))) (1212 + 18 * k + 9) (nI (if B / 6 = 0 then 2 else 1))) (1000 + 8 * b + 6) (nI k) (1082 + (H + B / 6) % 8) = s1.2.1 (1082 + (H + B / 6) % 8) by rw [upd_n (by omega), upd_n (by omega), upd_n (by omega), upd_n (by omega)], ← f4] at rb3
  have w : ∀ q, q ≠ 1212 + 18 * k + 9 → q ≠ 1212 + 18 * k + 10 → q ≠ 1212 + 18 * k + 12 → q ≠ 1212 + 18 * k + 16 → q ≠ 1000 + 8 * b + 6 → (q < 1082 ∨ 1090 ≤ q) → q ≠ 2655 → s'.2.1 q = s.2.1 q := fun q a1 a2 a3 a4 a5 a6 a7 => by rw [f4, upd_n (by omega), upd_n a5, upd_n a1, upd_n a3, upd_n a2, v1o _ a4 a7]
  have co : ∀ q, q ≠ 50 + k → q ≠ 39 + b → q ≠ 130 → (cPil (cp (cp (cp (cp (cp (cT_ c k P) (50 + k) 11 (nI b)) (50 + k) 13 (nI (H + B / 6))) (50 + k) 10 (nI (if B / 6 = 0 then 2 else 1))) (39 + b) 7 (nI k)) (39 + b) 8 (-1000)) (B / 6 + 1)).1 q = c.1 q := fun q a1 a2 a3 => by
    rw [cPil_o a3, cp_1 _ a2, cp_1 _ a2, cp_1 _ a1, cp_1 _ a1, cp_1 _ a1]
    exact funext fun j => cT_o (Or.inl a1)
  have co2 : (cPil (cp (cp (cp (cp (cp (cT_ c k P) (50 + k) 11 (nI b)) (50 + k) 13 (nI (H + B / 6))) (50 + k) 10 (nI (if B / 6 = 0 then 2 else 1))) (39 + b) 7 (nI k)) (39 + b) 8 (-1000)) (B / 6 + 1)).2 = c.2 := by rw [cPil_2, cp_2, cp_2, cp_2, cp_2, cp_2, cT_2]
  refine ⟨_, s', cl, f1, h.step rb3 ⟨fun q hq => co q (by omega) (by omega) (by omega), fun q _ => by rw [co2]⟩ (fun j _ => by rw [f2]) (fun j _ => by rw [f3]) (w 0 (by omega) (by omega) (by omega) (by omega) (by omega) (by omega) (by omega)) (fun q hq => w q (by omega) (by omega) (by omega) (by omega) (by omega) (by omega) (by omega)) (fun j hj => w _ (by omega) (by omega) (by omega) (by omega) (by omega) (by omega) (by omega)) (by rw [f3]) co2, f2, f3, fun b' => ?_, ?_, ?_, w⟩
  · by_cases e : b' = b
    · subst e
      rw [if_pos rfl, cPil_o (by omega), cp_q, upd_s]
    · rw [if_neg e]
      by_cases e3 : 39 + b' = 130
      · rw [e3, cPil_q, if_neg (by omega), cp_1 _ (by omega), cp_1 _ (by omega), cp_1 _ (by omega), cp_1 _ (by omega), cp_1 _ (by omega)]
        exact cT_o (by omega)
      · rw [cPil_o e3, cp_1 _ (by omega), cp_1 _ (by omega)]
        by_cases e4 : 39 + b' = 50 + k
        · rw [e4, cp_q, upd_n (by decide), cp_q, upd_n (by decide), cp_q, upd_n (by decide)]
          exact cT_o (by omega)
        · rw [cp_1 _ e4, cp_1 _ e4, cp_1 _ e4]
          exact cT_o (by omega)
  · rw [f4, upd_n (by omega), upd_s]
  · rw [f4, upd_n (by omega), upd_n (by omega), upd_s]
    exact nI_inj (b := 0) (by omega) (by decide) (by omega)
end CM2
