/-! THE PURE LAYER: ships leave -/
section LV3
variable {F : Nat} {τ : cT} {n k i m B H o p d C : Nat} {c c' c0 : cS} {s s' s0 : rs_S} {v v' D : Nat → Int32} {y : Int32}
/-- within an hour: c, s come of c0, s0 -/
def PH (τ : cT) (n : Nat) (c0 : cS) (s0 : rs_S) (c : cS) (s : rs_S) (H : Nat) (D : Nat → Int32) : Prop :=
  (RB τ n c 10 s.2.1) ∧
  (Nw c0 c) ∧
  (c.1 28 0 = nI 0) ∧
  (∀ j, j = 0 ∨ j = 3 ∨ j = 8 ∨ j = 13 → s.1 j = s0.1 j) ∧
  (∀ j, j = 1 ∨ j = 4 → s.2.2 j = s0.2.2 j) ∧
  (s.2.1 0 = nI H) ∧
  (H ≤ 30000) ∧
  (∀ q, (25 ≤ q ∧ q < 49) ∨ (198 ≤ q ∧ q < 999) ∨ (2665 ≤ q ∧ q < 2786) ∨ 2811 ≤ q → s.2.1 q = s0.2.1 q) ∧
  (∀ j, j < 10 → s.2.1 (1000 + 8 * j + 4) = s0.2.1 (1000 + 8 * j + 4)) ∧
  (∀ q, q < 24 → s.2.2 2 q = D q) ∧
  (∀ q, q < 24 → dp s.2.1 q = D q) ∧
  (c.2 = c0.2)
theorem PH.mk {τ : cT} {n : Nat} {c0 : cS} {s0 : rs_S} {c : cS} {s : rs_S} {H : Nat} {D : Nat → Int32} (h0 : RB τ n c 10 s.2.1) (h1 : Nw c0 c) (h2 : c.1 28 0 = nI 0) (h3 : ∀ j, j = 0 ∨ j = 3 ∨ j = 8 ∨ j = 13 → s.1 j = s0.1 j) (h4 : ∀ j, j = 1 ∨ j = 4 → s.2.2 j = s0.2.2 j) (h5 : s.2.1 0 = nI H) (h6 : H ≤ 30000) (h7 : ∀ q, (25 ≤ q ∧ q < 49) ∨ (198 ≤ q ∧ q < 999) ∨ (2665 ≤ q ∧ q < 2786) ∨ 2811 ≤ q → s.2.1 q = s0.2.1 q) (h8 : ∀ j, j < 10 → s.2.1 (1000 + 8 * j + 4) = s0.2.1 (1000 + 8 * j + 4)) (h9 : ∀ q, q < 24 → s.2.2 2 q = D q) (h10 : ∀ q, q < 24 → dp s.2.1 q = D q) (h11 : c.2 = c0.2) : PH τ n c0 s0 c s H D := by
  unfold PH
  exact ⟨h0, h1, h2, h3, h4, h5, h6, h7, h8, h9, h10, h11⟩
theorem PH.rb {τ : cT} {n : Nat} {c0 : cS} {s0 : rs_S} {c : cS} {s : rs_S} {H : Nat} {D : Nat → Int32} (h : PH τ n c0 s0 c s H D) : RB τ n c 10 s.2.1 := (show _ from by unfold PH at h; exact h.1)
theorem PH.nw {τ : cT} {n : Nat} {c0 : cS} {s0 : rs_S} {c : cS} {s : rs_S} {H : Nat} {D : Nat → Int32} (h : PH τ n c0 s0 c s H D) : Nw c0 c := (show _ from by unfold PH at h; exact h.2.1)
theorem PH.z {τ : cT} {n : Nat} {c0 : cS} {s0 : rs_S} {c : cS} {s : rs_S} {H : Nat} {D : Nat → Int32} (h : PH τ n c0 s0 c s H D) : c.1 28 0 = nI 0 := (show _ from by unfold PH at h; exact h.2.2.1)
theorem PH.f1 {τ : cT} {n : Nat} {c0 : cS} {s0 : rs_S} {c : cS} {s : rs_S} {H : Nat} {D : Nat → Int32} (h : PH τ n c0 s0 c s H D) : ∀ j, j = 0 ∨ j = 3 ∨ j = 8 ∨ j = 13 → s.1 j = s0.1 j := (show _ from by unfold PH at h; exact h.2.2.2.1)
theorem PH.r1 {τ : cT} {n : Nat} {c0 : cS} {s0 : rs_S} {c : cS} {s : rs_S} {H : Nat} {D : Nat → Int32} (h : PH τ n c0 s0 c s H D) : ∀ j, j = 1 ∨ j = 4 → s.2.2 j = s0.2.2 j := (show _ from by unfold PH at h; exact h.2.2.2.2.1)
theorem PH.h0 {τ : cT} {n : Nat} {c0 : cS} {s0 : rs_S} {c : cS} {s : rs_S} {H : Nat} {D : Nat → Int32} (h : PH τ n c0 s0 c s H D) : s.2.1 0 = nI H := (show _ from by unfold PH at h; exact h.2.2.2.2.2.1)
theorem PH.hh {τ : cT} {n : Nat} {c0 : cS} {s0 : rs_S} {c : cS} {s : rs_S} {H : Nat} {D : Nat → Int32} (h : PH τ n c0 s0 c s H D) : H ≤ 30000 := (show _ from by unfold PH at h; exact h.2.2.2.2.2.2.1)
theorem PH.wv {τ : cT} {n : Nat} {c0 : cS} {s0 : rs_S} {c : cS} {s : rs_S} {H : Nat} {D : Nat → Int32} (h : PH τ n c0 s0 c s H D) : ∀ q, (25 ≤ q ∧ q < 49) ∨ (198 ≤ q ∧ q < 999) ∨ (2665 ≤ q ∧ q < 2786) ∨ 2811 ≤ q → s.2.1 q = s0.2.1 q := (show _ from by unfold PH at h; exact h.2.2.2.2.2.2.2.1)
theorem PH.ld {τ : cT} {n : Nat} {c0 : cS} {s0 : rs_S} {c : cS} {s : rs_S} {H : Nat} {D : Nat → Int32} (h : PH τ n c0 s0 c s H D) : ∀ j, j < 10 → s.2.1 (1000 + 8 * j + 4) = s0.2.1 (1000 + 8 * j + 4) := (show _ from by unfold PH at h; exact h.2.2.2.2.2.2.2.2.1)
theorem PH.dr {τ : cT} {n : Nat} {c0 : cS} {s0 : rs_S} {c : cS} {s : rs_S} {H : Nat} {D : Nat → Int32} (h : PH τ n c0 s0 c s H D) : ∀ q, q < 24 → s.2.2 2 q = D q := (show _ from by unfold PH at h; exact h.2.2.2.2.2.2.2.2.2.1)
theorem PH.dd {τ : cT} {n : Nat} {c0 : cS} {s0 : rs_S} {c : cS} {s : rs_S} {H : Nat} {D : Nat → Int32} (h : PH τ n c0 s0 c s H D) : ∀ q, q < 24 → dp s.2.1 q = D q := (show _ from by unfold PH at h; exact h.2.2.2.2.2.2.2.2.2.2.1)
theorem PH.c2 {τ : cT} {n : Nat} {c0 : cS} {s0 : rs_S} {c : cS} {s : rs_S} {H : Nat} {D : Nat → Int32} (h : PH τ n c0 s0 c s H D) : c.2 = c0.2 := (show _ from by unfold PH at h; exact h.2.2.2.2.2.2.2.2.2.2.2)
theorem dp_same (h0 : v' 0 = v 0) (h1 : ∀ q, (25 ≤ q ∧ q < 49) ∨ (198 ≤ q ∧ q < 999) → v' q = v q) (r : Rg v) (hk : k < 24) : dp v' k = dp v k := by
  have b := r.b
  unfold dp kn
  rw [h0, h1 198 (by omega), ls_same (v := v) _ (fun i hi j hj => h1 _ (by omega))]
  cases e : ls v (nI k) (v 0) (N (v 198)) with
  | none => exact h1 _ (by omega)
  | some j =>
    have := ls_lt e
    exact h1 _ (by omega)
theorem PH.step (h : PH τ n c0 s0 c s H D) (rb : RB τ n c' 10 s'.2.1) (nw : Nw c c') (f1 : ∀ j, j = 0 ∨ j = 3 ∨ j = 8 ∨ j = 13 → s'.1 j = s.1 j) (r1 : ∀ j, j = 1 ∨ j = 4 → s'.2.2 j = s.2.2 j) (h0 : s'.2.1 0 = s.2.1 0) (wv : ∀ q, (25 ≤ q ∧ q < 49) ∨ (198 ≤ q ∧ q < 999) ∨ (2665 ≤ q ∧ q < 2786) ∨ 2811 ≤ q → s'.2.1 q = s.2.1 q) (ld : ∀ j, j < 10 → s'.2.1 (1000 + 8 * j + 4) = s.2.1 (1000 + 8 * j + 4)) (dr : s'.2.2 2 = s.2.2 2) (c2 : c'.2 = c.2) : PH τ n c0 s0 c' s' H D := PH.mk rb (h.nw.trans nw) (by rw [nw.1 28 (by omega)]; exact h.z) (fun j hj => (f1 j hj).trans (h.f1 j hj)) (fun j hj => (r1 j hj).trans (h.r1 j hj)) (h0.trans h.h0) h.hh (fun q hq => (wv q hq).trans (h.wv q hq)) (fun j hj => (ld j hj).trans (h.ld j hj)) (fun q hq => by rw [dr]; exact h.dr q hq) (fun q hq => by rw [dp_same h0 (fun q hq => wv q (by omega)) h.rb.rg hq]; exact h.dd q hq) (c2.trans h.c2)
/-- the class's way from the due on -/
theorem lv_tail {c1 c2 : cS} {cm : Int32} {p' : Nat} (hF : 6 ≤ F) (l1 : c1.2 (50 + k) 8 = some p) (l2 : acb τ n p = true) (e10 : c1.1 (50 + k) 10 = nI 3) (e0 : c1.1 10 0 = nI H) (e9 : c1.1 (50 + k) 9 = cm) (du : o_X2_dueBy F τ n 10 p (50 + k) c1 (nI H - cm) = some (nI d, c2)) (cf : Cf c1 c2) (k80 : k < 80) (e11 : c1.1 (50 + k) 11 = nI i) (e27 : c1.1 37 1 = nI m) (him : i < m) (hm : m ≤ 10) (e6 : c1.1 (50 + k) 6 = nI p') (hB : B < 24) (td : o_X6_takeDue τ n 10 (cPil (cp (cp (cp (cp c2 (50 + k) 15 (nI d)) (50 + k) 10 (nI 4)) (50 + k) 14 (nI H)) (39 + i) 7 (-1)) (B / 6 + 1)) (nI p') (nI d) = some c') :
    ((c1.2 (50 + k) 8).bind fun x11 => (if acb τ n x11 = true then ((o_X2_stayOf τ n 10 (50 + k) c1).bind fun x13 => ((o_X2_dueBy F τ n 10 x11 (50 + k) c1 x13).bind fun x14 => ((some (cp (cp (cp x14.2 (50 + k) 15 x14.1) (50 + k) 10 (nI 4)) (50 + k) 14 ((cp (cp x14.2 (50 + k) 15 x14.1) (50 + k) 10 (nI 4)).1 10 0))).bind fun x15 => ((o_X5_freeBerth τ n 10 x15 (x15.1 (50 + k) 11)).bind fun x16 => ((o_X5_takePilot F τ n 10 x16 ((nI B / (nI 6)) + (nI 1))).bind fun x17 => ((o_X6_takeDue τ n 10 x17 (x17.1 (50 + k) 6) (x17.1 (50 + k) 15)).bind fun x18 => (some x18))))))) else none)) = some c' := by
  unfold o_X2_stayOf o_X5_freeBerth
  rw [l1, Option.bind_some, if_pos l2, e10, if_neg (show ¬ (nI 3 : Int32) = nI 4 by decide), Option.bind_some, e0, e9, du, Option.bind_some, Option.bind_some]
  have h10 : (cp (cp c2 (50 + k) 15 (nI d)) (50 + k) 10 (nI 4)).1 10 0 = nI H := by rw [cp_1 _ (by omega), cp_1 _ (by omega), cf.1 _ (by decide)]; exact e0
  rw [h10]
  have h11 : (cp (cp (cp c2 (50 + k) 15 (nI d)) (50 + k) 10 (nI 4)) (50 + k) 14 (nI H)).1 (50 + k) 11 = nI i := by rw [cp_q, upd_n (by decide), cp_q, upd_n (by decide), cp_q, upd_n (by decide), cf.1 _ (by omega)]; exact e11
  have h37 : (cp (cp (cp c2 (50 + k) 15 (nI d)) (50 + k) 10 (nI 4)) (50 + k) 14 (nI H)).1 (10 + 27) 1 = nI m := by rw [cp_1 _ (by omega), cp_1 _ (by omega), cp_1 _ (by omega), cf.1 _ (by decide)]; exact e27
  rw [h11, if_neg (show ¬ nI i < 0 from nI_ngt (y := 0) (by omega) (by decide) (by omega)), h37, if_neg (nI_no (by omega) (by omega) him), if_pos (iL_t (show i < 10 by omega) (by decide)), nI_clamp (by omega), Option.bind_some, pk_div (by omega) (by decide) (by decide), nI_add, o_takeP hF (by omega), Option.bind_some, show 10 + 28 + 1 + i = 39 + i by omega]
  have p6 : (cPil (cp (cp (cp (cp c2 (50 + k) 15 (nI d)) (50 + k) 10 (nI 4)) (50 + k) 14 (nI H)) (39 + i) 7 (-1)) (B / 6 + 1)).1 (50 + k) 6 = nI p' := by rw [cPil_o (by omega), cp_1 _ (by omega), cp_q, upd_n (by decide), cp_q, upd_n (by decide), cp_q, upd_n (by decide), cf.1 _ (by omega)]; exact e6
  have p15 : (cPil (cp (cp (cp (cp c2 (50 + k) 15 (nI d)) (50 + k) 10 (nI 4)) (50 + k) 14 (nI H)) (39 + i) 7 (-1)) (B / 6 + 1)).1 (50 + k) 15 = nI d := by rw [cPil_o (by omega), cp_1 _ (by omega), cp_q, upd_n (by decide), cp_q, upd_n (by decide), cp_q, upd_s]
  rw [p6, p15, td, Option.bind_some]
theorem Rg.nw9 {B : Nat} (r : Rg v) (hi : i < 10) : v (1000 + 8 * i + 0) = nI (N (v (1000 + 8 * i + 0))) ∧ N (v (1000 + 8 * i + 0)) < 24 := by
  have := r.nat (k := 1000 + 8 * i + 0) (hi := 23) (rg_b (f := 0) hi (by decide))
  exact ⟨this.1, by omega⟩
theorem lv_row {x1 x2 x3 x4 x5 : Int32} {a14 a9 a13 aH ab : Nat} (h1 : a14 ≠ a9) (h2 : a14 ≠ a13) (h3 : a14 ≠ aH) (h4 : a14 ≠ ab) (h5 : a9 ≠ a13) (h6 : a9 ≠ aH) (h7 : a9 ≠ ab) (h8 : a13 ≠ aH) (h9 : a13 ≠ ab) (h10 : aH ≠ ab) : upd (upd (upd (upd (upd v ab x5) aH x4) a9 x2) a13 x3) a14 x1 = upd (upd (upd (upd (upd v a14 x1) a9 x2) a13 x3) aH x4) ab x5 := by
  rw [upd_cm (a := a13) (b := a14) (Ne.symm h2), upd_cm (a := a9) (b := a14) (Ne.symm h1), upd_cm (a := aH) (b := a14) (Ne.symm h3), upd_cm (a := ab) (b := a14) (Ne.symm h4), upd_cm (a := aH) (b := a9) (Ne.symm h6), upd_cm (a := ab) (b := a9) (Ne.symm h7), upd_cm (a := aH) (b := a13) (Ne.symm h8), upd_cm (a := ab) (b := a13) (Ne.symm h9), upd_cm (a := ab) (b := aH) (Ne.symm h10)]
theorem vT_o {P : Prop} {q : Nat} (h1 : q ≠ 1212 + 18 * k + 16) (h2 : q ≠ 2655) : vT v k P q = v q := by
  unfold vT
  by_cases p : P
  · rw [ifc_pos p]
  · rw [ifc_neg p, upd_n h2, upd_n h1]
theorem cT_o {P : Prop} {q j : Nat} (h : q ≠ 50 + k ∨ j ≠ 18) : (cT_ c k P).1 q j = c.1 q j := by
  unfold cT_
  by_cases p : P
  · rw [ifc_pos p]
  · rw [ifc_neg p]
    by_cases e : q = 50 + k
    · subst e; rw [cp_q, upd_n (by omega)]
    · rw [cp_1 _ e]
theorem cT_2 {P : Prop} : (cT_ c k P).2 = c.2 := by
  unfold cT_
  by_cases p : P
  · rw [ifc_pos p]
  · rw [ifc_neg p, cp_2]
theorem leave1 (hF : 30000 ≤ F) (hI : LI τ n) (h : PH τ n c0 s0 c s H D) (hc : C ≤ 50) (hC : lo s.2.1 (N (s.2.1 2811)) (nI 5) (nI 5) = nI C) (hk : k < N (s.2.1 1211)) (h9 : s.2.1 (1212 + 18 * k + 9) = nI 3) (hD : ∀ q, q < 24 → c.1 178 q = D q) :
    (∃ z, o_X5_freePilots τ n 10 c = some z ∧ z ≤ 0 ∧ o_X12_leaves F s (nI k) = some s) ∨
    ∃ z B, o_X5_freePilots τ n 10 c = some z ∧ ¬ z ≤ 0 ∧ o_X5_cellOf τ n 10 c (c.1 (50 + k) 11) = some (nI B) ∧
      ((o_X8_bears F τ n 10 178 c (c.1 (50 + k) 5 + nI C) (nI B) (c.1 10 0) (nI 1) = some (nI 0) ∧ o_X12_leaves F s (nI k) = some s) ∨
       (o_X8_bears F τ n 10 178 c (c.1 (50 + k) 5 + nI C) (nI B) (c.1 10 0) (nI 1) = some (nI 1) ∧ ∃ c' s', o_X2_leave F τ n 10 (50 + k) c (nI B) = some c' ∧ o_X12_leaves F s (nI k) = some s' ∧ PH τ n c0 s0 c' s' H D ∧ c'.1 178 = c.1 178 ∧ (∀ q, q = 999 ∨ q = 1211 → s'.2.1 q = s.2.1 q) ∧ ∀ k', k' < 80 → k' ≠ k → s'.2.1 (1212 + 18 * k' + 9) = s.2.1 (1212 + 18 * k' + 9))) := by
  have rb := h.rb
  have r := rb.rg
  have C0 := rb.cr
  have n12 := rb.n1211
  have n9 := rb.n999
  have hh := h.hh
  have k80 : k < 80 := by omega
  obtain ⟨i, hi, hat, hhas⟩ := C0.sh k hk (by rw [h9]; decide) (by rw [h9]; decide)
  obtain ⟨eB, hB⟩ := r.nw9 (B := 0) (show i < 10 by omega)
  generalize hBe : N (s.2.1 (1000 + 8 * i + 0)) = B at eB hB
  obtain ⟨z, f1, f2, fz⟩ := o_free (F := F) (by omega) rb.x
  have es := fun f g hfg => rb.shp k hk f g hfg
  simp only [show 10 + 40 + k = 50 + k by omega] at es
  have e10 : c.1 10 0 = nI H := (rb.pl 0 0 0 rfl).trans h.h0
  have e27 : c.1 37 1 = nI (N (s.2.1 999)) := (rb.pl 999 27 1 rfl).trans n9.1
  have eb0 : c.1 (39 + i) 0 = nI B := by rw [show 39 + i = 10 + 29 + i by omega, ← eB]; exact rb.ber i hi 0 (by decide)
  have cellE : o_X5_cellOf τ n 10 c (c.1 (50 + k) 11) = some (nI B) := by
    unfold o_X5_cellOf
    rw [es 11 10 rfl, hat, if_neg (show ¬ nI i < 0 from nI_ngt (y := 0) (by omega) (by decide) (by omega)), show (10 + 27 : Nat) = 37 from rfl, e27, if_neg (nI_no (by omega) (by omega) hi), if_pos (iL_t (show i < 10 by omega) (by decide)), nI_clamp (by omega), show 10 + 28 + 1 + i = 39 + i by omega, eb0]
  have z0 : z ≤ 0 ↔ z = 0 := by
    rw [fz]
    unfold mxi
    by_cases q : nI 0 < s.2.1 1080 - (bz8 s.2.1 0 + bz8 s.2.1 1 + bz8 s.2.1 2 + bz8 s.2.1 3)
    · rw [if_pos q]
      refine ⟨fun e => absurd e (fun e => ?_), fun e => by rw [e]; exact Int32.le_refl _⟩
      exact i_nlt.mpr e q
    · rw [if_neg q]
      exact ⟨fun _ => rfl, fun _ => by decide⟩
  have clr : o_X12_clearance F s = some (nI C) := by rw [R_clr rb (by omega), hC]
  unfold o_X12_leaves
  rw [o_of k80 (show 10 < 18 by decide), hat, Option.bind_some, o_berthOf (show i < 10 by omega) (by decide), eB, Option.bind_some, f2, Option.bind_some]
  by_cases q0 : z = 0
  · left
    rw [if_pos q0]
    exact ⟨z, f1, z0.mpr q0, rfl⟩
  · right
    rw [if_neg q0]
    refine ⟨z, B, f1, fun e => q0 (z0.mp e), cellE, ?_⟩
    unfold o_X12_hour
    rw [o_of k80 (show 5 < 18 by decide), Option.bind_some, Option.bind_some, gW_n _ (show 0 < 2 ^ 31 by decide), h.h0, o_isSafe (F := F) (by omega) clr hB (by omega) (by decide), Option.bind_some]
    have T0 := rb.x.tid
    have be : o_X8_bears F τ n 10 178 c (c.1 (50 + k) 5 + nI C) (nI B) (c.1 10 0) (nI 1) = some (ifc (sfe (c.1 178) s.2.1 (s.2.1 (1212 + 18 * k + 5) + nI C) B H 1) (nI 1) (nI 0)) := by
      rw [es 5 5 rfl, e10]
      exact o_bears (by omega) T0 hB (by omega) (by decide)
    have sd : sfe (c.1 178) s.2.1 (s.2.1 (1212 + 18 * k + 5) + nI C) B H 1 ↔ sfe (s.2.2 2) s.2.1 (s.2.1 (1212 + 18 * k + 5) + nI C) B H 1 := sfe_same hB (fun q hq => by rw [hD q hq, h.dr q hq])
    by_cases sf : sfe (s.2.2 2) s.2.1 (s.2.1 (1212 + 18 * k + 5) + nI C) B H 1
    · right
      rw [ifc_pos (sd.mpr sf)] at be
      rw [ifc_pos sf, if_neg (show ¬ (nI 1 : Int32) = 0 by decide)]
      refine ⟨be, ?_⟩
      -- the touch
      obtain ⟨s1, t1, t2, t3, t4⟩ := o_touches (F := F) (s := s) (k := k) (y := s.2.1 (1212 + 18 * k + 5)) (o := 1) (by omega) k80 hB (show H < 40000 by omega) (by decide) h.h0
      have bed : ∀ q, q < 24 → c.1 12 q = s.2.1 (1 + q) := fun q hq => rb.pl _ _ _ (show wk (1 + q) = some (2, q) by unfold wk; rw [if_neg (by omega), if_pos (by omega), show 1 + q - 1 = q by omega])
      have bb : o_X8_bears F τ n 10 12 c (c.1 (50 + k) 5) (nI B) (c.1 10 0) (nI 1) = some (ifc (sfe (c.1 12) s.2.1 (s.2.1 (1212 + 18 * k + 5)) B H 1) (nI 1) (nI 0)) := by
        rw [es 5 5 rfl, e10]
        exact o_bears (by omega) T0 hB (by omega) (by decide)
      have bd : sfe (c.1 12) s.2.1 (s.2.1 (1212 + 18 * k + 5)) B H 1 ↔ sfe (fun q => s.2.1 (1 + q)) s.2.1 (s.2.1 (1212 + 18 * k + 5)) B H 1 := sfe_same hB bed
      generalize hP : sfe (fun q => s.2.1 (1 + q)) s.2.1 (s.2.1 (1212 + 18 * k + 5)) B H 1 = P at t4 bd
      have rb1 := rb.touched (k := k) (P := P) hI hk
      rw [← t4] at rb1
      have v1o : ∀ q, q ≠ 1212 + 18 * k + 16 → q ≠ 2655 → s1.2.1 q = s.2.1 q := fun q h1 h2 => by rw [t4]; exact vT_o h1 h2
      have z1 : (cT_ c k P).1 28 0 = nI 0 := by rw [cT_o (by omega)]; exact h.z
      have k1 : k < N (s1.2.1 1211) := by rw [v1o _ (by omega) (by omega)]; exact hk
      obtain ⟨p, l1, l2, l3⟩ := rb1.lawOf hI z1 k1
      have hp := act_pl hI l2
      have es1 := fun f g hfg => rb1.shp k k1 f g hfg
      simp only [show 10 + 40 + k = 50 + k by omega] at es1
      -- the reference up to the due
      rw [Option.bind_some, t1, Option.bind_some, o_pilots hB hh (by rw [v1o 0 (by omega) (by omega)]; exact h.h0), Option.bind_some, o_berthAt, Option.bind_some, if_pos (iL_t (show 1000 + 8 * i + 6 < 22216 by omega) (by decide)), o_sets k80 (by decide), Option.bind_some]
      have m8 : (H + B / 6) % 8 < 8 := Nat.mod_lt _ (by decide)
      have g0 : gW (pW (pW (pW s1 (nI (1082 + (H + B / 6) % 8)) (s1.2.1 (1082 + (H + B / 6) % 8) + nI 1)) (nI (1000 + 8 * i + 6)) (-1)) (nI (1212 + 18 * k + 9)) (nI 4)) (nI 0) = nI H := by rw [gW_pWn _ (by omega) (by decide) (by omega), gW_pWn _ (by omega) (by decide) (by omega), gW_pWn _ (by omega) (by decide) (by omega), gW_n _ (by decide), v1o _ (by omega) (by omega)]; exact h.h0
      rw [Option.bind_some, g0, o_sets k80 (by decide), Option.bind_some]
      generalize hs5 : pW (pW (pW (pW s1 (nI (1082 + (H + B / 6) % 8)) (s1.2.1 (1082 + (H + B / 6) % 8) + nI 1)) (nI (1000 + 8 * i + 6)) (-1)) (nI (1212 + 18 * k + 9)) (nI 4)) (nI (1212 + 18 * k + 13)) (nI H) = s5
      have v5 : s5.2.1 = upd (upd (upd (upd s1.2.1 (1082 + (H + B / 6) % 8) (s1.2.1 (1082 + (H + B / 6) % 8) + nI 1)) (1000 + 8 * i + 6) (-1)) (1212 + 18 * k + 9) (nI 4)) (1212 + 18 * k + 13) (nI H) := by
        rw [← hs5]
        simp only [pW_21]
        rw [nI_clamp (show 1082 + (H + B / 6) % 8 < 2 ^ 31 by omega), nI_clamp (show 1000 + 8 * i + 6 < 2 ^ 31 by omega), nI_clamp (show 1212 + 18 * k + 9 < 2 ^ 31 by omega), nI_clamp (show 1212 + 18 * k + 13 < 2 ^ 31 by omega)]
      have v51 : s5.1 = s.1 := by rw [← hs5]; exact t2
      have v52 : s5.2.2 = s.2.2 := by rw [← hs5]; exact t3
      have v5o : ∀ q, q ≠ 1082 + (H + B / 6) % 8 → q ≠ 1000 + 8 * i + 6 → q ≠ 1212 + 18 * k + 9 → q ≠ 1212 + 18 * k + 13 → s5.2.1 q = s1.2.1 q := fun q a1 a2 a3 a4 => by rw [v5, upd_n a4, upd_n a3, upd_n a2, upd_n a1]
      have r5 : Rg s5.2.1 := by
        rw [v5]
        exact (((rb1.rg.put (rg_any (rg_82 _ m8))).put (ok_m (hi := 79) (rg_b (f := 6) (show i < 10 by omega) (by decide)) (by decide))).put (ok_n (rg_s (f := 9) k80 (by decide)) (by show (0 : Int) ≤ _; omega) (by show _ ≤ (4 : Int); omega) (by omega))).put (ok_n (rg_s (f := 13) k80 (by decide)) (by show (-1 : Int) ≤ _; omega) (show (H : Int) ≤ 30000 by omega) (by omega))
      have g17 : s5.2.1 (1212 + 18 * k + 17) = s1.2.1 (1212 + 18 * k + 17) := v5o _ (by omega) (by omega) (by omega) (by omega)
      have l5 : RLaw τ (cT_ c k P) p s5.2.1 (s1.2.1 (1212 + 18 * k + 17)) := l3.vv (fun q hq => v5o q (by omega) (by omega) (by omega) (by omega))
      obtain ⟨d, c2, s6, d1, d2, d3, d4, d5, d6⟩ := o_due2 (F := F) (n := n) (y := nI H - s1.2.1 (1212 + 18 * k + 8)) (by omega) (by rw [v5o _ (by omega) (by omega) (by omega) (by omega)]; exact es1 0 1 rfl) (by rw [v5o _ (by omega) (by omega) (by omega) (by omega)]; exact es1 1 2 rfl) (by rw [v5o _ (by omega) (by omega) (by omega) (by omega)]; exact es1 2 3 rfl) (by rw [v5o _ (by omega) (by omega) (by omega) (by omega)]; exact es1 3 6 rfl) r5 k80 l5 hp
      have g05 : gW s5 (nI 0) = nI H := by rw [gW_n _ (by decide), v5o _ (by omega) (by omega) (by omega) (by omega), v1o _ (by omega) (by omega)]; exact h.h0
      rw [o_of k80 (show 17 < 18 by decide), g17, Option.bind_some, g05, Option.bind_some, o_of k80 (show 8 < 18 by decide), v5o (1212 + 18 * k + 8) (by omega) (by omega) (by omega) (by omega), Option.bind_some, d3, Option.bind_some, o_sets k80 (by decide), Option.bind_some]
      -- the owner
      have ow := C0.ow k hk
      have rO := r.nat (k := 1212 + 18 * k + 0) (hi := 29) (rg_s k80 (by decide))
      have n10 := rb.n1090.2
      generalize hp' : N (s.2.1 (1212 + 18 * k)) = p' at ow
      have eO : s.2.1 (1212 + 18 * k + 0) = nI p' := by rw [rO.1]; exact congrArg nI hp'
      generalize hs7 : pW s6 (nI (1212 + 18 * k + 14)) (nI d) = s7
      have v7 : s7.2.1 = upd (upd (upd (upd (upd s1.2.1 (1212 + 18 * k + 14) (nI d)) (1212 + 18 * k + 9) (nI 4)) (1212 + 18 * k + 13) (nI H)) (1000 + 8 * i + 6) (-1)) (1082 + (H + B / 6) % 8) (s1.2.1 (1082 + (H + B / 6) % 8) + nI 1) := by
        rw [← hs7, pW_21, nI_clamp (by omega), d5.1, v5]
        exact lv_row (by omega) (by omega) (by omega) (by omega) (by omega) (by omega) (by omega) (by omega) (by omega) (by omega)
      have v71 : ∀ j, j ≠ 18 → j ≠ 19 → s7.1 j = s.1 j := fun j a1 a2 => by rw [← hs7]; show s6.1 j = _; rw [d5.2.1 j a1 a2, v51]
      have v72 : ∀ j, j ≠ 6 → j ≠ 7 → s7.2.2 j = s.2.2 j := fun j a1 a2 => by rw [← hs7]; show s6.2.2 j = _; rw [d5.2.2 j a1 a2, v52]
      -- the class and the relation
      have rb2 := rb1.cf hI d4
      have rb4 := rb2.gone (d := d) (H := H) hI k1 (by rw [v1o _ (by omega) (by omega)]; exact h9) (i := i) (by rw [v1o _ (by omega) (by omega)]; exact hi) (by rw [v1o _ (by omega) (by omega)]; exact hat) (by rw [v1o _ (by omega) (by omega)]; exact hhas) d1 hh
      have rb5 := rb4.piloted (H := H) (e := B / 6) hI (by rw [upd_n (by omega), upd_n (by omega), upd_n (by omega), upd_n (by omega), v1o _ (by omega) (by omega)]; exact h.h0) hh (by omega)
      rw [show upd (upd (upd (upd s1.2.1 (1212 + 18 * k + 14) (nI d)) (1212 + 18 * k + 9) (nI 4)) (1212 + 18 * k + 13) (nI H)) (1000 + 8 * i + 6) (-1) (1082 + (H + B / 6) % 8) = s1.2.1 (1082 + (H + B / 6) % 8) by rw [upd_n (by omega), upd_n (by omega), upd_n (by omega), upd_n (by omega)], ← v7] at rb5
      have v7o : ∀ q, q < 1000 ∨ (1090 ≤ q ∧ q < 1212) ∨ (2652 ≤ q ∧ q ≠ 2655) → s7.2.1 q = s.2.1 q := fun q hq => by rw [v7, upd_n (by omega), upd_n (by omega), upd_n (by omega), upd_n (by omega), upd_n (by omega), v1o _ (by omega) (by omega)]
      have p30 : p' < 30 := by omega
      have td := o_takeDue (τ := τ) (n := n) (p := p') (z := nI d) rb5.x p30
      have rb6 := rb5.dued (p := p') (d := d) hI (by rw [v7o 1090 (by omega)]; exact ow) d1
      -- the reference's last part
      have gO : s7.2.1 (1212 + 18 * k + 0) = nI p' := by rw [v7, upd_n (by omega), upd_n (by omega), upd_n (by omega), upd_n (by omega), upd_n (by omega), v1o _ (by omega) (by omega)]; exact eO
      rw [o_of k80 (show 0 < 18 by decide), gO, Option.bind_some, o_pat, Option.bind_some, Option.bind_some, if_pos (iL_t (show 1091 + 4 * p' + 0 < 22216 by omega) (by decide))]
      unfold o_X12_added
      rw [Option.bind_some, if_pos (iL_t (show 1091 + 4 * p' + 0 < 22216 by omega) (by decide)), o_pat, Option.bind_some, Option.bind_some, if_pos (iL_t (show 1091 + 4 * p' + 2 < 22216 by omega) (by decide)), Option.bind_some, if_pos (iL_t (show 1091 + 4 * p' + 2 < 22216 by omega) (by decide)), Option.bind_some, Option.bind_some]
      have ga : gW s7 (nI (1091 + 4 * p' + 0)) = s7.2.1 (1091 + 4 * p' + 0) := gW_n _ (by omega)
      have gb : ∀ X, gW (pW s7 (nI (1091 + 4 * p' + 0)) X) (nI (1091 + 4 * p' + 2)) = s7.2.1 (1091 + 4 * p' + 2) := fun X => by rw [gW_pWn _ (by omega) (by omega) (by omega), gW_n _ (by omega)]
      have gc : ∀ X Y, gW (pW (pW s7 (nI (1091 + 4 * p' + 0)) X) (nI (1091 + 4 * p' + 2)) Y) (nI 2652) = s7.2.1 2652 := fun X Y => by rw [gW_pWn _ (by omega) (by decide) (by omega), gW_pWn _ (by omega) (by decide) (by omega), gW_n _ (by decide)]
      have gd : ∀ X Y Z, gW (pW (pW (pW s7 (nI (1091 + 4 * p' + 0)) X) (nI (1091 + 4 * p' + 2)) Y) (nI 2652) Z) (nI 2653) = s7.2.1 2653 := fun X Y Z => by rw [gW_pWn _ (by decide) (by decide) (by decide), gW_pWn _ (by omega) (by decide) (by omega), gW_pWn _ (by omega) (by decide) (by omega), gW_n _ (by decide)]
      rw [ga, gb, gc, gd]
      generalize hs8 : pW (pW (pW (pW s7 (nI (1091 + 4 * p' + 0)) (mnl 2000000000 ((s7.2.1 (1091 + 4 * p' + 0)).toInt64 + (nI d).toInt64)).toInt32) (nI (1091 + 4 * p' + 2)) (mnl 2000000000 ((s7.2.1 (1091 + 4 * p' + 2)).toInt64 + (nI d).toInt64)).toInt32) (nI 2652) (mnl 2000000000 ((s7.2.1 2652).toInt64 + (nI d).toInt64)).toInt32) (nI 2653) (mnl 2000000000 ((s7.2.1 2653).toInt64 + (nI d).toInt64)).toInt32 = s8
      have v8 : s8.2.1 = vD s7.2.1 p' (nI d) := by
        rw [← hs8]
        simp only [pW_21]
        rw [nI_clamp (show 1091 + 4 * p' + 0 < 2 ^ 31 by omega), nI_clamp (show 1091 + 4 * p' + 2 < 2 ^ 31 by omega), nI_clamp (show 2652 < 2 ^ 31 by decide), nI_clamp (show 2653 < 2 ^ 31 by decide), upd_cm (a := 2652) (b := 2653) (by decide)]
        rfl
      have v81 : s8.1 = s7.1 := by rw [← hs8]; rfl
      have v82 : s8.2.2 = s7.2.2 := by rw [← hs8]; rfl
      have tl := lv_tail (F := F) (τ := τ) (n := n) (k := k) (H := H) (B := B) (c1 := cT_ c k P) (m := N (s.2.1 999)) (p' := p') (cm := s1.2.1 (1212 + 18 * k + 8)) (by omega) l1 l2 (by rw [cT_o (by omega), es 10 9 rfl]; exact h9) (by rw [cT_o (by omega)]; exact e10) (by exact es1 9 8 rfl) d2 d4 k80 (by rw [cT_o (by omega), es 11 10 rfl]; exact hat) (by rw [cT_o (by omega)]; exact e27) hi n9.2 (by rw [cT_o (by omega), es 6 0 rfl]; exact eO) hB td
      have lv : o_X2_leave F τ n 10 (50 + k) c (nI B) = some (cD (cPil (cp (cp (cp (cp c2 (50 + k) 15 (nI d)) (50 + k) 10 (nI 4)) (50 + k) 14 (nI H)) (39 + i) 7 (-1)) (B / 6 + 1)) s7.2.1 p' (nI d)) := by
        unfold o_X2_leave
        rw [show (10 + 2 : Nat) = 12 from rfl, bb, Option.bind_some]
        by_cases pp : P
        · rw [ifc_pos (bd.mpr pp), if_neg (show ¬ (nI 1 : Int32) = 0 by decide)]
          rw [show cT_ c k P = c from ifc_pos pp] at tl
          exact tl
        · rw [ifc_neg (fun e => pp (bd.mp e)), if_pos (show (nI 0 : Int32) = 0 from nI_0)]
          rw [show cT_ c k P = cp c (50 + k) 18 (c.1 (50 + k) 18 + nI 1) from ifc_neg pp] at tl
          exact tl
      have rf : (if nI d ≤ 0 then some s8 else some (pW s8 (nI 2660) (nI 1))) = some (if d = 0 then s8 else pW s8 (nI 2660) (nI 1)) := by
        by_cases d0 : d = 0
        · rw [if_pos d0, if_pos (by rw [d0]; decide)]
        · rw [if_neg d0, if_neg (show ¬ nI d ≤ 0 from nI_no (y := 0) (by omega) (by decide) (by omega))]
      rw [rf]
      have w8 : (if d = 0 then s8 else pW s8 (nI 2660) (nI 1)).2.1 = (if d = 0 then vD s7.2.1 p' (nI d) else upd (vD s7.2.1 p' (nI d)) 2660 (nI 1)) := by
        by_cases d0 : d = 0
        · rw [if_pos d0, if_pos d0]; exact v8
        · rw [if_neg d0, if_neg d0, pW_21, nI_clamp (by decide), v8]
      have w81 : (if d = 0 then s8 else pW s8 (nI 2660) (nI 1)).1 = s7.1 := by
        by_cases d0 : d = 0
        · rw [if_pos d0]; exact v81
        · rw [if_neg d0]; exact v81
      have w82 : (if d = 0 then s8 else pW s8 (nI 2660) (nI 1)).2.2 = s7.2.2 := by
        by_cases d0 : d = 0
        · rw [if_pos d0]; exact v82
        · rw [if_neg d0]; exact v82
      have w8o : ∀ q, q < 1091 ∨ (1211 ≤ q ∧ q < 2652) ∨ 2661 ≤ q → (if d = 0 then s8 else pW s8 (nI 2660) (nI 1)).2.1 q = s7.2.1 q := fun q hq => by
        rw [w8]
        have e : vD s7.2.1 p' (nI d) q = s7.2.1 q := by unfold vD; rw [upd_n (by omega), upd_n (by omega), upd_n (by omega), upd_n (by omega)]
        by_cases d0 : d = 0
        · rw [if_pos d0]; exact e
        · rw [if_neg d0, upd_n (by omega)]; exact e
      generalize hs9 : (if d = 0 then s8 else pW s8 (nI 2660) (nI 1)) = s9 at *
      rw [← w8] at rb6
      have v79 : ∀ q, q ≠ 1212 + 18 * k + 9 → q ≠ 1212 + 18 * k + 13 → q ≠ 1212 + 18 * k + 14 → q ≠ 1212 + 18 * k + 16 → q ≠ 1000 + 8 * i + 6 → (q < 1082 ∨ 1090 ≤ q) → q ≠ 2655 → s7.2.1 q = s.2.1 q := fun q a1 a2 a3 a4 a5 a6 a7 => by rw [v7, upd_n (by omega), upd_n (by omega), upd_n (by omega), upd_n (by omega), upd_n (by omega), v1o _ (by omega) (by omega)]
      have cf1 : ∀ q, q ≠ 50 + k → (cT_ c k P).1 q = c.1 q := fun q hq => funext fun j => cT_o (Or.inl hq)
      have co : ∀ q, q ≠ 177 → q ≠ 50 + k → q ≠ 39 + i → q ≠ 130 → q ≠ 131 → q ≠ 132 → q ≠ 134 → (cD (cPil (cp (cp (cp (cp c2 (50 + k) 15 (nI d)) (50 + k) 10 (nI 4)) (50 + k) 14 (nI H)) (39 + i) 7 (-1)) (B / 6 + 1)) s7.2.1 p' (nI d)).1 q = c.1 q := fun q a1 a2 a3 a4 a5 a6 a7 => by
        unfold cD
        rw [cp_1 _ a5, cp_1 _ a5, cp_1 _ a7, cp_1 _ a6, cPil_o a4, cp_1 _ a3, cp_1 _ a2, cp_1 _ a2, cp_1 _ a2, d4.1 _ a1, cf1 _ a2]
      have co2 : (cD (cPil (cp (cp (cp (cp c2 (50 + k) 15 (nI d)) (50 + k) 10 (nI 4)) (50 + k) 14 (nI H)) (39 + i) 7 (-1)) (B / 6 + 1)) s7.2.1 p' (nI d)).2 = c.2 := by
        unfold cD
        rw [cp_2, cp_2, cp_2, cp_2, cPil_2, cp_2, cp_2, cp_2, cp_2, d4.2, cT_2]
      refine ⟨_, s9, lv, rfl, h.step rb6 ⟨fun q hq => co q (by omega) (by omega) (by omega) (by omega) (by omega) (by omega) (by omega), fun q _ => by rw [co2]⟩ (fun j hj => by rw [w81, v71 j (by omega) (by omega)]) (fun j hj => by rw [w82, v72 j (by omega) (by omega)]) (by rw [w8o 0 (by omega), v79 0 (by omega) (by omega) (by omega) (by omega) (by omega) (by omega) (by omega)]) (fun q hq => by rw [w8o q (by omega), v79 q (by omega) (by omega) (by omega) (by omega) (by omega) (by omega) (by omega)]) (fun j hj => by rw [w8o _ (by omega), v79 _ (by omega) (by omega) (by omega) (by omega) (by omega) (by omega) (by omega)]) (by rw [w82, v72 2 (by decide) (by decide)]) co2, co 178 (by omega) (by omega) (by omega) (by omega) (by omega) (by omega) (by omega), fun q hq => by rw [w8o q (by omega), v79 q (by omega) (by omega) (by omega) (by omega) (by omega) (by omega) (by omega)], fun k' k2 hk' => by rw [w8o _ (by omega), v79 _ (by omega) (by omega) (by omega) (by omega) (by omega) (by omega) (by omega)]⟩
    · left
      rw [ifc_neg (fun e => sf (sd.mp e))] at be
      rw [ifc_neg sf, if_pos (show (nI 0 : Int32) = 0 from nI_0)]
      exact ⟨be, rfl⟩
end LV3
