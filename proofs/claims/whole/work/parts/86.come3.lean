/-! THE PURE LAYER: all that can come in do -/
section CM3
variable {F : Nat} {τ : cT} {n k i m B H o p b C d kk : Nat} {c c' c0 : cS} {s s' s0 : rs_S} {v v' D : Nat → Int32} {y M : Int32} {R : Nat → Nat}
/-- a ship can go to a berth -/
def cnB (D v : Nat → Int32) (H C k b : Nat) : Prop := opn v b ∧ ¬ v (1000 + 8 * b + 1) < v (1212 + 18 * k + 3) ∧ sfe D v (v (1212 + 18 * k + 4) + nI C) (N (v (1000 + 8 * b + 0))) H 0
/-- the first berth that it can go to -/
def fBo (D v : Nat → Int32) (H C k m : Nat) : Option Nat → Prop
  | none => ∀ b, b < m → ¬ cnB D v H C k b
  | some b => b < m ∧ cnB D v H C k b ∧ ∀ b', b' < b → ¬ cnB D v H C k b'
theorem drn (r : Rg v) (hk : k < 80) (hc : C ≤ 50) : ∃ j, j ≤ 130 ∧ C ≤ j ∧ v (1212 + 18 * k + 4) = nI (j - C) ∧ v (1212 + 18 * k + 4) + nI C = nI j := by
  have t := r.nat (k := 1212 + 18 * k + 4) (hi := 80) (rg_s hk (by decide))
  refine ⟨N (v (1212 + 18 * k + 4)) + C, by omega, by omega, ?_, ?_⟩
  · rw [show N (v (1212 + 18 * k + 4)) + C - C = N (v (1212 + 18 * k + 4)) by omega]; exact t.1
  · rw [← nI_add, ← t.1]
theorem wyn_le (r : Rg v) (hk : k < 80) (hc : C ≤ 50) : v (1212 + 18 * k + 4) + nI C ≤ wyn D v H b ↔ opn v b ∧ sfe D v (v (1212 + 18 * k + 4) + nI C) (N (v (1000 + 8 * b + 0))) H 0 := by
  obtain ⟨j, hj, _, _, ej⟩ := drn r hk hc
  unfold wyn
  by_cases q : opn v b
  · rw [ifc_pos q, wim_sfe (by rw [ej]; exact nI_yes (by omega) (by decide) (by omega))]
    exact ⟨fun e => ⟨q, e⟩, fun e => e.2⟩
  · rw [ifc_neg q, ej]
    refine ⟨fun e => ?_, fun e => absurd e.1 q⟩
    rw [Int32.le_iff_toInt_le, nI_toInt (by omega), show ((-1000 : Int32)).toInt = -1000 by decide] at e
    omega
theorem fb_loop (h : RX τ n c 10 v) (hc : C ≤ 50) (hk : k < N (v 1211)) (hW : ∀ j, j < N (v 999) → c.1 (39 + j) 8 = wyn D v H j) : ∀ (r i f : Nat), i + r = N (v 999) → r < f → (∀ b, b < i → ¬ cnB D v H C k b) → ∃ o, fBo D v H C k (N (v 999)) o ∧ o_X5_firstBerthFor_2 F τ n 10 (50 + k) (nI C) c f (nI i) = some (match o with | none => .inl () | some b => .inr (nI b)) := by
  have n9 := h.n999
  have n12 := h.n1211
  have es := fun f g hfg => h.shp k hk f g hfg
  simp only [show 10 + 40 + k = 50 + k by omega] at es
  intro r
  induction r with
  | zero =>
    intro i f hi hf hn
    obtain ⟨f, rfl⟩ : ∃ x, f = x + 1 := ⟨f - 1, by omega⟩
    rw [o_X5_firstBerthFor_2, show c.1 (10 + 27) 1 = nI (N (v 999)) from (h.pl 999 27 1 rfl).trans n9.1, if_pos (nI_yes (by omega) (by omega) (by omega))]
    exact ⟨none, fun b hb => hn b (by omega), rfl⟩
  | succ r ih =>
    intro i f hi hf hn
    obtain ⟨f, rfl⟩ : ∃ x, f = x + 1 := ⟨f - 1, by omega⟩
    have skip : ¬ cnB D v H C k i → ∃ o, fBo D v H C k (N (v 999)) o ∧ o_X5_firstBerthFor_2 F τ n 10 (50 + k) (nI C) c f (nI (i + 1)) = some (match o with | none => .inl () | some b => .inr (nI b)) := fun nc => ih (i + 1) f (by omega) (by omega) (fun b hb => by
      by_cases e : b = i
      · subst e; exact nc
      · exact hn b (by omega))
    rw [o_X5_firstBerthFor_2, show c.1 (10 + 27) 1 = nI (N (v 999)) from (h.pl 999 27 1 rfl).trans n9.1, if_neg (nI_no (by omega) (by omega) (by omega)), if_pos (iL_t (show i < 10 by omega) (by decide)), nI_clamp (by omega), nI_add, show c.1 (10 + 28 + 1 + i) 1 = v (1000 + 8 * i + 1) from h.ber i (by omega) 1 (by decide), es 2 3 rfl, es 4 4 rfl, show 10 + 28 + 1 + i = 39 + i by omega, hW i (by omega)]
    by_cases q1 : v (1000 + 8 * i + 1) < v (1212 + 18 * k + 3)
    · rw [if_pos q1]; exact skip (fun g => g.2.1 q1)
    · rw [if_neg q1]
      by_cases q2 : wyn D v H i < v (1212 + 18 * k + 4) + nI C
      · rw [if_pos q2]
        exact skip (fun g => i_nlt.mpr ((wyn_le h.rg (show k < 80 by omega) hc).mpr ⟨g.1, g.2.2⟩) q2)
      · rw [if_neg q2]
        have w := (wyn_le h.rg (show k < 80 by omega) hc).mp (i_nlt.mp q2)
        exact ⟨some i, ⟨by omega, ⟨w.1, q1, w.2⟩, hn⟩, rfl⟩
theorem o_fB (hF : 11 < F) (h : RX τ n c 10 v) (hc : C ≤ 50) (hk : k < N (v 1211)) (hW : ∀ j, j < N (v 999) → c.1 (39 + j) 8 = wyn D v H j) : ∃ o, fBo D v H C k (N (v 999)) o ∧ o_X5_firstBerthFor F τ n 10 (50 + k) c (nI C) = some (eC o) := by
  obtain ⟨o, a1, a2⟩ := fb_loop (F := F) h hc hk hW _ 0 F (Nat.zero_add _) (by have := h.n999.2; omega) (fun b hb => by omega)
  refine ⟨o, a1, ?_⟩
  unfold o_X5_firstBerthFor
  rw [a2, Option.bind_some]
  cases o with
  | none => rfl
  | some b => rfl
theorem fBo_un {o o' : Option Nat} (h : fBo D v H C k m o) (h' : fBo D v H C k m o') : o = o' := by
  cases o with
  | none =>
    cases o' with
    | none => rfl
    | some b => exact absurd h'.2.1 (h b h'.1)
  | some b =>
    cases o' with
    | none => exact absurd h.2.1 (h' b h.1)
    | some b' =>
      have : b = b' := by
        by_cases e : b < b'
        · exact absurd h.2.1 (h'.2.2 b e)
        · by_cases e2 : b' < b
          · exact absurd h'.2.1 (h.2.2 b' e2)
          · omega
      rw [this]
/-- the reference looks for a berth -/
theorem cm_loop (hF : 30000 ≤ F) (h : PH τ n c0 s0 c s H D) (hC : lo s.2.1 (N (s.2.1 2811)) (nI 5) (nI 5) = nI C) (hk : k < N (s.2.1 1211)) : ∀ (r i f : Nat), i + r = N (s.2.1 999) → r < f → (∀ b, b < i → ¬ cnB D s.2.1 H C k b) → (fBo D s.2.1 H C k (N (s.2.1 999)) none ∧ o_X12_comes_10 F (nI k) s f (nI i) = some (.inl ())) ∨ ∃ b B, fBo D s.2.1 H C k (N (s.2.1 999)) (some b) ∧ s.2.1 (1000 + 8 * b + 0) = nI B ∧ B < 24 ∧ o_X12_comes_10 F (nI k) s f (nI i) = rci F s (nI k) (nI b) (nI B) := by
  have rb := h.rb
  have n9 := rb.n999
  have n12 := rb.n1211
  have hh := h.hh
  have k80 : k < 80 := by omega
  have clr : o_X12_clearance F s = some (nI C) := by rw [R_clr rb (by omega), hC]
  intro r
  induction r with
  | zero =>
    intro i f hi hf hn
    obtain ⟨f, rfl⟩ : ∃ x, f = x + 1 := ⟨f - 1, by omega⟩
    left
    rw [o_X12_comes_10, show gW s (nI 999) = nI (N (s.2.1 999)) by rw [gW_n _ (by decide)]; exact n9.1, if_pos (nI_yes (by omega) (by omega) (by omega))]
    exact ⟨fun b hb => hn b (by omega), rfl⟩
  | succ r ih =>
    intro i f hi hf hn
    obtain ⟨f, rfl⟩ : ∃ x, f = x + 1 := ⟨f - 1, by omega⟩
    have i10 : i < 10 := by omega
    have skip : ¬ cnB D s.2.1 H C k i → (fBo D s.2.1 H C k (N (s.2.1 999)) none ∧ o_X12_comes_10 F (nI k) s f (nI (i + 1)) = some (.inl ())) ∨ ∃ b B, fBo D s.2.1 H C k (N (s.2.1 999)) (some b) ∧ s.2.1 (1000 + 8 * b + 0) = nI B ∧ B < 24 ∧ o_X12_comes_10 F (nI k) s f (nI (i + 1)) = rci F s (nI k) (nI b) (nI B) := fun nc => ih (i + 1) f (by omega) (by omega) (fun b hb => by
      by_cases e : b = i
      · subst e; exact nc
      · exact hn b (by omega))
    obtain ⟨eB, hB⟩ := rb.rg.nw9 (B := 0) i10
    generalize hBe : N (s.2.1 (1000 + 8 * i + 0)) = B at eB hB
    rw [o_X12_comes_10, show gW s (nI 999) = nI (N (s.2.1 999)) by rw [gW_n _ (by decide)]; exact n9.1, if_neg (nI_no (by omega) (by omega) (by omega)), o_berthOf i10 (show 0 < 8 by decide), eB, Option.bind_some, o_berthOf i10 (show 6 < 8 by decide), Option.bind_some, nI_add]
    by_cases q1 : s.2.1 (1000 + 8 * i + 6) = -1
    · rw [q1, if_neg (show ¬ (0 : Int32) ≤ -1 by decide)]
      unfold o_X12_mayHave o_X12_isClosed
      rw [o_berthOf i10 (show 5 < 8 by decide), Option.bind_some, o_berthOf i10 (show 1 < 8 by decide), o_of k80 (show 3 < 18 by decide)]
      by_cases q2 : s.2.1 (1000 + 8 * i + 5) < nI 240
      · rw [if_pos q2, Option.bind_some, if_pos (show (nI 0 : Int32) = 0 from nI_0), Option.bind_some, Option.bind_some]
        by_cases q3 : s.2.1 (1000 + 8 * i + 1) < s.2.1 (1212 + 18 * k + 3)
        · rw [if_pos q3, Option.bind_some, if_pos (show (nI 0 : Int32) = 0 from nI_0)]
          exact skip (fun g => g.2.1 q3)
        · rw [if_neg q3, Option.bind_some, if_neg (show ¬ (nI 1 : Int32) = 0 by decide)]
          have e4 : o_X12_of s (nI k) (nI 4) = some (s.2.1 (1212 + 18 * k + 4)) := o_of k80 (by decide)
          have hr : o_X12_hour s = some (nI H) := by unfold o_X12_hour; rw [gW_n _ (by decide), h.h0]
          have sa : o_X12_isSafe F s (s.2.1 (1212 + 18 * k + 4)) (nI B) (nI H) (nI 0) = some (ifc (sfe (s.2.2 2) s.2.1 (s.2.1 (1212 + 18 * k + 4) + nI C) B H 0) (nI 1) (nI 0)) := o_isSafe (F := F) (by omega) clr hB (by omega) (by decide)
          have sd : sfe (s.2.2 2) s.2.1 (s.2.1 (1212 + 18 * k + 4) + nI C) B H 0 ↔ sfe D s.2.1 (s.2.1 (1212 + 18 * k + 4) + nI C) B H 0 := sfe_same hB (fun q hq => h.dr q hq)
          by_cases q4 : sfe D s.2.1 (s.2.1 (1212 + 18 * k + 4) + nI C) B H 0
          · rw [ifc_pos (sd.mpr q4)] at sa
            right
            refine ⟨i, B, ⟨by omega, ⟨⟨q1, q2⟩, q3, by rw [hBe]; exact q4⟩, hn⟩, eB, hB, ?_⟩
            unfold rci
            rw [e4, Option.bind_some, hr, Option.bind_some, sa, Option.bind_some, if_neg (show ¬ (nI 1 : Int32) = 0 by decide)]
          · rw [ifc_neg (fun e => q4 (sd.mp e))] at sa
            rw [e4, Option.bind_some, hr, Option.bind_some, sa, Option.bind_some, if_pos (show (nI 0 : Int32) = 0 from nI_0)]
            exact skip (fun g => q4 (by have := g.2.2; rw [hBe] at this; exact this))
      · rw [if_neg q2, Option.bind_some, if_neg (show ¬ (nI 1 : Int32) = 0 by decide), Option.bind_some, if_pos (show (nI 0 : Int32) = 0 from nI_0)]
        exact skip (fun g => q2 g.1.2)
    · have : (0 : Int32) ≤ s.2.1 (1000 + 8 * i + 6) := by
        rcases rb.cr.hs i (by omega) with q | ⟨k', _, q2, _⟩
        · exact absurd q q1
        · rw [q2]; exact nI_yes (x := 0) (by decide) (by have := rb.n1211.2; omega) (by omega)
      rw [if_pos this]
      exact skip (fun g => q1 g.1.1)
/-- what stands when the row's first j ships are through -/
def CI (τ : cT) (n : Nat) (c0 : cS) (s0 : rs_S) (vs : Nat → Int32) (c : cS) (s : rs_S) (H : Nat) (D : Nat → Int32) (C kk d w : Nat) (R : Nat → Nat) (M : Int32) (j : Nat) : Prop :=
  (PH τ n c0 s0 c s H D) ∧
  (s.1 6 = nI w) ∧
  (∀ i, i < w → s.2.2 3 i = nI (R i)) ∧
  (N (s.2.1 999) = N (vs 999)) ∧
  (N (s.2.1 1211) = N (vs 1211)) ∧
  (∀ t f, t < 80 → f < 18 → f ≠ 9 → f ≠ 10 → f ≠ 12 → f ≠ 16 → s.2.1 (1212 + 18 * t + f) = vs (1212 + 18 * t + f)) ∧
  (∀ t, t < N (vs 1211) → wtg s.2.1 t → wtg vs t) ∧
  (∀ i, j ≤ i → i < w → wtg s.2.1 (R i)) ∧
  (∀ i, i < j → i < w → wtg s.2.1 (R i) → ∀ b, b < N (vs 999) → ¬ cnB D s.2.1 H C (R i) b) ∧
  (∀ b, b < N (vs 999) → c.1 (39 + b) 8 = wyn D s.2.1 H b ∧ wyn D s.2.1 H b ≤ M)
theorem CI.mk {τ : cT} {n : Nat} {c0 : cS} {s0 : rs_S} {vs : Nat → Int32} {c : cS} {s : rs_S} {H : Nat} {D : Nat → Int32} {C kk d w : Nat} {R : Nat → Nat} {M : Int32} {j : Nat} (h0 : PH τ n c0 s0 c s H D) (h1 : s.1 6 = nI w) (h2 : ∀ i, i < w → s.2.2 3 i = nI (R i)) (h3 : N (s.2.1 999) = N (vs 999)) (h4 : N (s.2.1 1211) = N (vs 1211)) (h5 : ∀ t f, t < 80 → f < 18 → f ≠ 9 → f ≠ 10 → f ≠ 12 → f ≠ 16 → s.2.1 (1212 + 18 * t + f) = vs (1212 + 18 * t + f)) (h6 : ∀ t, t < N (vs 1211) → wtg s.2.1 t → wtg vs t) (h7 : ∀ i, j ≤ i → i < w → wtg s.2.1 (R i)) (h8 : ∀ i, i < j → i < w → wtg s.2.1 (R i) → ∀ b, b < N (vs 999) → ¬ cnB D s.2.1 H C (R i) b) (h9 : ∀ b, b < N (vs 999) → c.1 (39 + b) 8 = wyn D s.2.1 H b ∧ wyn D s.2.1 H b ≤ M) : CI τ n c0 s0 vs c s H D C kk d w R M j := by
  unfold CI
  exact ⟨h0, h1, h2, h3, h4, h5, h6, h7, h8, h9⟩
theorem CI.ph {τ : cT} {n : Nat} {c0 : cS} {s0 : rs_S} {vs : Nat → Int32} {c : cS} {s : rs_S} {H : Nat} {D : Nat → Int32} {C kk d w : Nat} {R : Nat → Nat} {M : Int32} {j : Nat} (h : CI τ n c0 s0 vs c s H D C kk d w R M j) : PH τ n c0 s0 c s H D := (show _ from by unfold CI at h; exact h.1)
theorem CI.w6 {τ : cT} {n : Nat} {c0 : cS} {s0 : rs_S} {vs : Nat → Int32} {c : cS} {s : rs_S} {H : Nat} {D : Nat → Int32} {C kk d w : Nat} {R : Nat → Nat} {M : Int32} {j : Nat} (h : CI τ n c0 s0 vs c s H D C kk d w R M j) : s.1 6 = nI w := (show _ from by unfold CI at h; exact h.2.1)
theorem CI.r3 {τ : cT} {n : Nat} {c0 : cS} {s0 : rs_S} {vs : Nat → Int32} {c : cS} {s : rs_S} {H : Nat} {D : Nat → Int32} {C kk d w : Nat} {R : Nat → Nat} {M : Int32} {j : Nat} (h : CI τ n c0 s0 vs c s H D C kk d w R M j) : ∀ i, i < w → s.2.2 3 i = nI (R i) := (show _ from by unfold CI at h; exact h.2.2.1)
theorem CI.n9 {τ : cT} {n : Nat} {c0 : cS} {s0 : rs_S} {vs : Nat → Int32} {c : cS} {s : rs_S} {H : Nat} {D : Nat → Int32} {C kk d w : Nat} {R : Nat → Nat} {M : Int32} {j : Nat} (h : CI τ n c0 s0 vs c s H D C kk d w R M j) : N (s.2.1 999) = N (vs 999) := (show _ from by unfold CI at h; exact h.2.2.2.1)
theorem CI.n12 {τ : cT} {n : Nat} {c0 : cS} {s0 : rs_S} {vs : Nat → Int32} {c : cS} {s : rs_S} {H : Nat} {D : Nat → Int32} {C kk d w : Nat} {R : Nat → Nat} {M : Int32} {j : Nat} (h : CI τ n c0 s0 vs c s H D C kk d w R M j) : N (s.2.1 1211) = N (vs 1211) := (show _ from by unfold CI at h; exact h.2.2.2.2.1)
theorem CI.ky {τ : cT} {n : Nat} {c0 : cS} {s0 : rs_S} {vs : Nat → Int32} {c : cS} {s : rs_S} {H : Nat} {D : Nat → Int32} {C kk d w : Nat} {R : Nat → Nat} {M : Int32} {j : Nat} (h : CI τ n c0 s0 vs c s H D C kk d w R M j) : ∀ t f, t < 80 → f < 18 → f ≠ 9 → f ≠ 10 → f ≠ 12 → f ≠ 16 → s.2.1 (1212 + 18 * t + f) = vs (1212 + 18 * t + f) := (show _ from by unfold CI at h; exact h.2.2.2.2.2.1)
theorem CI.wt {τ : cT} {n : Nat} {c0 : cS} {s0 : rs_S} {vs : Nat → Int32} {c : cS} {s : rs_S} {H : Nat} {D : Nat → Int32} {C kk d w : Nat} {R : Nat → Nat} {M : Int32} {j : Nat} (h : CI τ n c0 s0 vs c s H D C kk d w R M j) : ∀ t, t < N (vs 1211) → wtg s.2.1 t → wtg vs t := (show _ from by unfold CI at h; exact h.2.2.2.2.2.2.1)
theorem CI.st {τ : cT} {n : Nat} {c0 : cS} {s0 : rs_S} {vs : Nat → Int32} {c : cS} {s : rs_S} {H : Nat} {D : Nat → Int32} {C kk d w : Nat} {R : Nat → Nat} {M : Int32} {j : Nat} (h : CI τ n c0 s0 vs c s H D C kk d w R M j) : ∀ i, j ≤ i → i < w → wtg s.2.1 (R i) := (show _ from by unfold CI at h; exact h.2.2.2.2.2.2.2.1)
theorem CI.no {τ : cT} {n : Nat} {c0 : cS} {s0 : rs_S} {vs : Nat → Int32} {c : cS} {s : rs_S} {H : Nat} {D : Nat → Int32} {C kk d w : Nat} {R : Nat → Nat} {M : Int32} {j : Nat} (h : CI τ n c0 s0 vs c s H D C kk d w R M j) : ∀ i, i < j → i < w → wtg s.2.1 (R i) → ∀ b, b < N (vs 999) → ¬ cnB D s.2.1 H C (R i) b := (show _ from by unfold CI at h; exact h.2.2.2.2.2.2.2.2.1)
theorem CI.wy {τ : cT} {n : Nat} {c0 : cS} {s0 : rs_S} {vs : Nat → Int32} {c : cS} {s : rs_S} {H : Nat} {D : Nat → Int32} {C kk d w : Nat} {R : Nat → Nat} {M : Int32} {j : Nat} (h : CI τ n c0 s0 vs c s H D C kk d w R M j) : ∀ b, b < N (vs 999) → c.1 (39 + b) 8 = wyn D s.2.1 H b ∧ wyn D s.2.1 H b ≤ M := (show _ from by unfold CI at h; exact h.2.2.2.2.2.2.2.2.2)
/-- the first in turn of those that P holds of -/
def mnA (v : Nat → Int32) (kk d : Nat) (P : Nat → Prop) (m : Nat) : Option Nat → Prop
  | none => ∀ t, t < m → ¬ P t
  | some t => t < m ∧ P t ∧ ∀ u, u < m → P u → u = t ∨ ahd v kk d t u
theorem ft_loop (h : RX τ n c 10 v) (hk : kk < 4) (hd : d < 2) (hc : C ≤ 50) (hF : 11 < F) (hW : ∀ j, j < N (v 999) → c.1 (39 + j) 8 = wyn D v H j ∧ wyn D v H j ≤ M) (hM : -1000 ≤ M.toInt ∧ M.toInt ≤ 2000) : ∀ (r i f : Nat) (o : Option Nat), i + r = N (v 1211) → r < f → mnA v kk d (fun t => wtg v t ∧ ∃ b, b < N (v 999) ∧ cnB D v H C t b) i o → ∃ o', mnA v kk d (fun t => wtg v t ∧ ∃ b, b < N (v 999) ∧ cnB D v H C t b) (N (v 1211)) o' ∧ o_X2_firstThatCanComeIn_6 F τ n 10 (M - nI C) (nI C) (nI (kk + 4 * d)) c f (eC o) (nI i) = some (eC o') := by
  have n12 := h.n1211
  intro r
  induction r with
  | zero =>
    intro i f o hi hf ho
    obtain ⟨f, rfl⟩ : ∃ x, f = x + 1 := ⟨f - 1, by omega⟩
    have : i = N (v 1211) := by omega
    subst this
    rw [o_X2_firstThatCanComeIn_6, show c.1 (10 + 27) 3 = nI (N (v 1211)) from (h.pl 1211 27 3 rfl).trans n12.1, if_pos (Int32.le_refl _)]
    exact ⟨o, ho, rfl⟩
  | succ r ih =>
    intro i f o hi hf ho
    obtain ⟨f, rfl⟩ : ∃ x, f = x + 1 := ⟨f - 1, by omega⟩
    have i80 : i < 80 := by omega
    have skip : ¬ (wtg v i ∧ ∃ b, b < N (v 999) ∧ cnB D v H C i b) → mnA v kk d (fun t => wtg v t ∧ ∃ b, b < N (v 999) ∧ cnB D v H C t b) (i + 1) o := fun np => by
      cases o with
      | none =>
        intro t ht
        by_cases e : t = i
        · subst e; exact np
        · exact ho t (by omega)
      | some t =>
        refine ⟨by have := ho.1; omega, ho.2.1, fun u hu pu => ?_⟩
        by_cases e : u = i
        · subst e; exact absurd pu np
        · exact ho.2.2 u (by omega) pu
    have keep : ∀ t, o = some t → ahd v kk d t i → mnA v kk d (fun t => wtg v t ∧ ∃ b, b < N (v 999) ∧ cnB D v H C t b) (i + 1) o := fun t et ha => by
      subst et
      refine ⟨by have := ho.1; omega, ho.2.1, fun u hu pu => ?_⟩
      by_cases e : u = i
      · subst e; exact Or.inr ha
      · exact ho.2.2 u (by omega) pu
    have take : (wtg v i ∧ ∃ b, b < N (v 999) ∧ cnB D v H C i b) → (∀ t, o = some t → ahd v kk d i t) → mnA v kk d (fun t => wtg v t ∧ ∃ b, b < N (v 999) ∧ cnB D v H C t b) (i + 1) (some i) := fun pi ha => by
      refine ⟨by omega, pi, fun u hu pu => ?_⟩
      by_cases e : u = i
      · exact Or.inl e
      · right
        cases o with
        | none => exact absurd pu (ho u (by omega))
        | some t =>
          rcases ho.2.2 u (by omega) pu with e2 | e2
          · subst e2; exact ha u rfl
          · exact ahd_tr (ha t rfl) e2
    obtain ⟨ob, f1, f2⟩ := o_fB (F := F) (τ := τ) (n := n) (k := i) hF h hc (by omega) (fun j hj => (hW j hj).1)
    have pb : (∃ b, b < N (v 999) ∧ cnB D v H C i b) ↔ ob ≠ none := by
      cases ob with
      | none => exact ⟨fun ⟨b, b1, b2⟩ => absurd b2 (f1 b b1), fun e => absurd rfl e⟩
      | some b => exact ⟨fun _ => by simp, fun _ => ⟨b, f1.1, f1.2.1⟩⟩
    have eob : eC ob = -1 ↔ ob = none := by
      cases ob with
      | none => exact ⟨fun _ => rfl, fun _ => rfl⟩
      | some b => exact ⟨fun e => absurd e (nI_nm1 (by have := f1.1; have := h.n999.2; omega)), fun e => by cases e⟩
    rw [o_X2_firstThatCanComeIn_6, show c.1 (10 + 27) 3 = nI (N (v 1211)) from (h.pl 1211 27 3 rfl).trans n12.1, if_neg (nI_no (by omega) (by omega) (by omega)), if_pos (iL_t i80 (by decide)), nI_clamp (by omega), nI_add, show c.1 (10 + 39 + 1 + i) 10 = v (1212 + 18 * i + 9) from h.shp i (by omega) 10 9 rfl, show c.1 (10 + 39 + 1 + i) 4 = v (1212 + 18 * i + 4) from h.shp i (by omega) 4 4 rfl, show 10 + 39 + 1 + i = 50 + i by omega, f2]
    by_cases q1 : v (1212 + 18 * i + 9) = 0
    · rw [if_pos q1]
      by_cases q2 : M - nI C < v (1212 + 18 * i + 4)
      · rw [if_pos q2]
        refine ih (i + 1) f o (by omega) (by omega) (skip (fun ⟨_, b, b1, b2⟩ => ?_))
        obtain ⟨j, hj, hj2, ej1, ej2⟩ := drn h.rg i80 hc
        have w := (wyn_le (D := D) (H := H) (b := b) h.rg i80 hc).mpr ⟨b2.1, b2.2.2⟩
        have w2 := (hW b b1).2
        rw [ej2] at w
        rw [ej1] at q2
        rw [Int32.le_iff_toInt_le] at w w2
        rw [nI_toInt (by omega)] at w
        rw [Int32.lt_iff_toInt_lt, nI_toInt (by omega), Int32.toInt_sub, nI_toInt (by omega), Int.bmod_eq_of_le (by omega) (by omega)] at q2
        omega
      · rw [if_neg q2]
        cases o with
        | none =>
          rw [show eC none = -1 from rfl, if_pos rfl, Option.bind_some]
          by_cases q3 : ob = none
          · rw [if_pos (eob.mpr q3)]
            exact ih (i + 1) f none (by omega) (by omega) (skip (fun g => (pb.mp g.2) q3))
          · rw [if_neg (fun e => q3 (eob.mp e))]
            exact ih (i + 1) f (some i) (by omega) (by omega) (take ⟨q1, pb.mpr q3⟩ (fun t e => by cases e))
        | some t =>
          have ht := ho.1
          rw [show eC (some t) = nI t from rfl, if_neg (nI_nm1 (by omega)), o_ahead h (by omega) (by omega) hk hd, Option.bind_some]
          by_cases q4 : ahd v kk d i t
          · rw [ifc_pos q4, if_neg (show ¬ (nI 1 : Int32) = 0 by decide), Option.bind_some]
            by_cases q3 : ob = none
            · rw [if_pos (eob.mpr q3)]
              exact ih (i + 1) f (some t) (by omega) (by omega) (skip (fun g => (pb.mp g.2) q3))
            · rw [if_neg (fun e => q3 (eob.mp e))]
              exact ih (i + 1) f (some i) (by omega) (by omega) (take ⟨q1, pb.mpr q3⟩ (fun t' e => by injection e with e; subst e; exact q4))
          · rw [ifc_neg q4, if_pos (show (nI 0 : Int32) = 0 from nI_0)]
            have ha : ahd v kk d t i := (ahd_tot (show t ≠ i by omega)).resolve_right q4
            exact ih (i + 1) f (some t) (by omega) (by omega) (keep t rfl ha)
    · rw [if_neg q1]
      exact ih (i + 1) f o (by omega) (by omega) (skip (fun g => q1 g.1))
theorem o_first (hF : 81 < F) (h : RX τ n c 10 v) (hk : kk < 4) (hd : d < 2) (hc : C ≤ 50) (hW : ∀ j, j < N (v 999) → c.1 (39 + j) 8 = wyn D v H j ∧ wyn D v H j ≤ M) (hM : -1000 ≤ M.toInt ∧ M.toInt ≤ 2000) : ∃ o, mnA v kk d (fun t => wtg v t ∧ ∃ b, b < N (v 999) ∧ cnB D v H C t b) (N (v 1211)) o ∧ o_X2_firstThatCanComeIn F τ n 10 c (M - nI C) (nI C) (nI (kk + 4 * d)) = some (eC o) := by
  obtain ⟨o, a1, a2⟩ := ft_loop (F := F) h hk hd hc (by omega) hW hM _ 0 F none (Nat.zero_add _) (by have := h.n1211.2; omega) (fun t ht => by omega)
  refine ⟨o, a1, ?_⟩
  unfold o_X2_firstThatCanComeIn
  rw [show (-1 : Int32) = eC none from rfl, a2, Option.bind_some]
end CM3
