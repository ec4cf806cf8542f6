/-! THE PURE LAYER: ships unload, the whole -/
section UN2
variable {F : Nat} {τ : cT} {n k i m B H o p b C d kk w j t : Nat} {c c' c0 : cS} {s s' s0 : rs_S} {v v' v0 D vs L S O Q L' S' O' Q' : Nat → Int32} {y M : Int32} {R : Nat → Nat}
/-- the reference unloads by ships -/
theorem ur_loop (v : Nat → Int32) (C0 : Cr v) (r : Rg v) : ∀ (q t f : Nat) (s : rs_S), t + q = N (v 1211) → q < f → PU s.2.1 v (N (v 999)) (N (v 1211)) (cL v (fun k => k < t)) (cSt v (fun k => k < t)) (cO v (fun j => hB v j < t) 4) (cO v (fun j => hB v j < t) 7) → ∃ s', o_X12_anHour_150 F (nI (N (v 1211))) f (nI t) s = some s' ∧ s'.1 = s.1 ∧ s'.2.2 = s.2.2 ∧ PU s'.2.1 v (N (v 999)) (N (v 1211)) (cL v (fun k => k < N (v 1211))) (cSt v (fun k => k < N (v 1211))) (cO v (fun j => hB v j < N (v 1211)) 4) (cO v (fun j => hB v j < N (v 1211)) 7) := by
  have b := r.b
  obtain ⟨bj1, bj2⟩ := C0.bj r
  intro q
  induction q with
  | zero =>
    intro t f s ht hf hp
    obtain ⟨f, rfl⟩ : ∃ x, f = x + 1 := ⟨f - 1, by omega⟩
    have : t = N (v 1211) := by omega
    subst this
    rw [o_X12_anHour_150, if_pos (Int32.le_refl _)]
    exact ⟨s, rfl, rfl, rfl, hp⟩
  | succ q ih =>
    intro t f s ht hf hp
    obtain ⟨f, rfl⟩ : ∃ x, f = x + 1 := ⟨f - 1, by omega⟩
    have t80 : t < 80 := by omega
    have tn : t < N (v 1211) := by omega
    have e9 : s.2.1 (1212 + 18 * t + 9) = v (1212 + 18 * t + 9) := by rw [hp.2.1 t tn]; exact ifc_neg (fun g => by omega)
    rw [o_X12_anHour_150, if_neg (nI_no (by omega) (by omega) (by omega)), o_of t80 (show 9 < 18 by decide), e9, Option.bind_some, nI_add]
    by_cases u : v (1212 + 18 * t + 9) = nI 2
    · rw [if_pos u]
      obtain ⟨a1, a2, a3, a4⟩ := bj1 t tn u
      generalize hi : aT v t = i at a1 a2 a3 a4
      have i10 : i < 10 := by omega
      have g10 : s.2.1 (1212 + 18 * t + 10) = nI i := by rw [hp.2.2.2.2 _ (fun k _ => by omega) (fun j _ => by omega)]; exact a3
      have g11 : s.2.1 (1212 + 18 * t + 11) = v (1212 + 18 * t + 11) := by rw [hp.1 t tn]; exact ifc_neg (fun g => by omega)
      have g2 : s.2.1 (1000 + 8 * i + 2) = v (1000 + 8 * i + 2) := hp.2.2.2.2 _ (fun k _ => by omega) (fun j _ => by omega)
      have g4 : s.2.1 (1000 + 8 * i + 4) = v (1000 + 8 * i + 4) := by rw [hp.2.2.1 i a1]; exact ifc_neg (fun g => by rw [a4] at g; omega)
      have g7 : s.2.1 (1000 + 8 * i + 7) = v (1000 + 8 * i + 7) := by rw [hp.2.2.2.1 i a1]; exact ifc_neg (fun g => by rw [a4] at g; omega)
      have tE : mni (v (1000 + 8 * i + 2)) (v (1212 + 18 * t + 11)) = tns v t := by unfold tns; rw [hi]
      have lE : v (1212 + 18 * t + 11) - tns v t = lf v t := rfl
      unfold o_X12_unloads
      rw [o_of t80 (show 10 < 18 by decide), g10, Option.bind_some, o_berthOf i10 (show 2 < 8 by decide), g2, Option.bind_some, o_of t80 (show 11 < 18 by decide), g11, Option.bind_some, Option.bind_some, tE, lE, o_sets t80 (by decide), Option.bind_some, o_berthAt, Option.bind_some, if_pos (iL_t (show 1000 + 8 * i + 4 < 22216 by omega) (by decide)), o_berthAt, Option.bind_some, if_pos (iL_t (show 1000 + 8 * i + 7 < 22216 by omega) (by decide)), gW_pWn _ (by omega) (by omega) (by omega), gW_n _ (show 1000 + 8 * i + 4 < 2 ^ 31 by omega), g4, gW_pWn _ (by omega) (by omega) (by omega), gW_pWn _ (by omega) (by omega) (by omega), gW_n _ (show 1000 + 8 * i + 7 < 2 ^ 31 by omega), g7]
      generalize hs1 : pW (pW (pW s (nI (1212 + 18 * t + 11)) (lf v t)) (nI (1000 + 8 * i + 4)) (v (1000 + 8 * i + 4) + tns v t)) (nI (1000 + 8 * i + 7)) (v (1000 + 8 * i + 7) + tns v t) = s1
      have v1 : s1.2.1 = upd (upd (upd s.2.1 (1212 + 18 * t + 11) (lf v t)) (1000 + 8 * i + 4) (v (1000 + 8 * i + 4) + tns v t)) (1000 + 8 * i + 7) (v (1000 + 8 * i + 7) + tns v t) := by
        rw [← hs1]
        simp only [pW_21]
        rw [nI_clamp (show 1212 + 18 * t + 11 < 2 ^ 31 by omega), nI_clamp (show 1000 + 8 * i + 4 < 2 ^ 31 by omega), nI_clamp (show 1000 + 8 * i + 7 < 2 ^ 31 by omega)]
      have v11 : s1.1 = s.1 := by rw [← hs1]; rfl
      have v12 : s1.2.2 = s.2.2 := by rw [← hs1]; rfl
      have l11 : s1.2.1 (1212 + 18 * t + 11) = lf v t := by rw [v1, upd_n (by omega), upd_n (by omega), upd_s]
      have l9 : s1.2.1 (1212 + 18 * t + 9) = nI 2 := by rw [v1, upd_n (by omega), upd_n (by omega), upd_n (by omega), e9]; exact u
      rw [o_of t80 (show 11 < 18 by decide), l11, Option.bind_some]
      have pu := hp.one (x1 := lf v t) (x2 := s3 v t) (x3 := v (1000 + 8 * i + 4) + tns v t) (x4 := v (1000 + 8 * i + 7) + tns v t) tn a1 (by omega) (by omega)
      rw [← v1] at pu
      have pu2 : PU (upd s1.2.1 (1212 + 18 * t + 9) (s3 v t)) v (N (v 999)) (N (v 1211)) (cL v (fun k => k < t + 1)) (cSt v (fun k => k < t + 1)) (cO v (fun j => hB v j < t + 1) 4) (cO v (fun j => hB v j < t + 1) 7) := pu.cong (fun k' hk' => by
          by_cases e : k' = t
          · subst e; rw [upd_s]; exact ifc_pos ⟨u, by omega⟩
          · rw [upd_n e]; exact ifc_iff ⟨fun ⟨a, b⟩ => ⟨a, by omega⟩, fun ⟨a, b⟩ => ⟨a, by omega⟩⟩) (fun k' hk' => by
          by_cases e : k' = t
          · subst e; rw [upd_s]; exact ifc_pos ⟨u, by omega⟩
          · rw [upd_n e]; exact ifc_iff ⟨fun ⟨a, b⟩ => ⟨a, by omega⟩, fun ⟨a, b⟩ => ⟨a, by omega⟩⟩) (fun j' hj' => by
          by_cases e : j' = i
          · subst e
            rw [upd_s]
            unfold cO
            rw [ifc_pos ⟨⟨by rw [a2]; exact nI_nm1 (by omega), by rw [a4]; exact u⟩, by omega⟩, a4]
          · rw [upd_n e]
            exact ifc_iff ⟨fun ⟨a, b⟩ => ⟨a, by
              have h1 := bj2 j' hj' a.1
              by_cases e2 : hB v j' = t
              · rw [e2, hi] at h1; exact absurd h1.2.2.symm e
              · omega⟩, fun ⟨a, b⟩ => ⟨a, by omega⟩⟩) (fun j' hj' => by
          by_cases e : j' = i
          · subst e
            rw [upd_s]
            unfold cO
            rw [ifc_pos ⟨⟨by rw [a2]; exact nI_nm1 (by omega), by rw [a4]; exact u⟩, by omega⟩, a4]
          · rw [upd_n e]
            exact ifc_iff ⟨fun ⟨a, b⟩ => ⟨a, by
              have h1 := bj2 j' hj' a.1
              by_cases e2 : hB v j' = t
              · rw [e2, hi] at h1; exact absurd h1.2.2.symm e
              · omega⟩, fun ⟨a, b⟩ => ⟨a, by omega⟩⟩)
      unfold s3 at pu2
      by_cases z : lf v t = 0
      · rw [if_pos z, o_sets t80 (by decide), Option.bind_some, Option.bind_some]
        rw [if_pos z] at pu2
        obtain ⟨s', d1, d2, d3, d4⟩ := ih (t + 1) f (pW s1 (nI (1212 + 18 * t + 9)) (nI 3)) (by omega) (by omega) (by rw [pW_21, nI_clamp (by omega)]; exact pu2)
        exact ⟨s', d1, d2.trans v11, d3.trans v12, d4⟩
      · rw [if_neg z, Option.bind_some]
        rw [if_neg z, upd_id l9] at pu2
        obtain ⟨s', d1, d2, d3, d4⟩ := ih (t + 1) f s1 (by omega) (by omega) pu2
        exact ⟨s', d1, d2.trans v11, d3.trans v12, d4⟩
    · rw [if_neg u]
      exact ih (t + 1) f s (by omega) (by omega) (hp.cong (fun k' hk' => ifc_iff ⟨fun ⟨a, b⟩ => ⟨a, by
          by_cases e : k' = t
          · subst e; exact absurd a u
          · omega⟩, fun ⟨a, b⟩ => ⟨a, by omega⟩⟩) (fun k' hk' => ifc_iff ⟨fun ⟨a, b⟩ => ⟨a, by
          by_cases e : k' = t
          · subst e; exact absurd a u
          · omega⟩, fun ⟨a, b⟩ => ⟨a, by omega⟩⟩) (fun j' hj' => ifc_iff ⟨fun ⟨a, b⟩ => ⟨a, by
          by_cases e : hB v j' = t
          · have a2 := a.2; rw [e] at a2; exact absurd a2 u
          · omega⟩, fun ⟨a, b⟩ => ⟨a, by omega⟩⟩) (fun j' hj' => ifc_iff ⟨fun ⟨a, b⟩ => ⟨a, by
          by_cases e : hB v j' = t
          · have a2 := a.2; rw [e] at a2; exact absurd a2 u
          · omega⟩, fun ⟨a, b⟩ => ⟨a, by omega⟩⟩))
/-- after ships came in and left: what the rest of an hour keeps -/
def PG (τ : cT) (n : Nat) (c0 : cS) (s0 : rs_S) (c : cS) (s : rs_S) (H : Nat) : Prop :=
  (RB τ n c 10 s.2.1) ∧
  (Nw c0 c) ∧
  (∀ j, j = 0 ∨ j = 3 ∨ j = 8 ∨ j = 13 → s.1 j = s0.1 j) ∧
  (∀ j, j = 1 ∨ j = 4 → s.2.2 j = s0.2.2 j) ∧
  (s.2.1 0 = nI H) ∧
  (H ≤ 30000) ∧
  (∀ q, 2665 ≤ q → q < 2786 → s.2.1 q = s0.2.1 q)
theorem PG.mk {τ : cT} {n : Nat} {c0 : cS} {s0 : rs_S} {c : cS} {s : rs_S} {H : Nat} (h0 : RB τ n c 10 s.2.1) (h1 : Nw c0 c) (h2 : ∀ j, j = 0 ∨ j = 3 ∨ j = 8 ∨ j = 13 → s.1 j = s0.1 j) (h3 : ∀ j, j = 1 ∨ j = 4 → s.2.2 j = s0.2.2 j) (h4 : s.2.1 0 = nI H) (h5 : H ≤ 30000) (h6 : ∀ q, 2665 ≤ q → q < 2786 → s.2.1 q = s0.2.1 q) : PG τ n c0 s0 c s H := by
  unfold PG
  exact ⟨h0, h1, h2, h3, h4, h5, h6⟩
theorem PG.rb {τ : cT} {n : Nat} {c0 : cS} {s0 : rs_S} {c : cS} {s : rs_S} {H : Nat} (h : PG τ n c0 s0 c s H) : RB τ n c 10 s.2.1 := (show _ from by unfold PG at h; exact h.1)
theorem PG.nw {τ : cT} {n : Nat} {c0 : cS} {s0 : rs_S} {c : cS} {s : rs_S} {H : Nat} (h : PG τ n c0 s0 c s H) : Nw c0 c := (show _ from by unfold PG at h; exact h.2.1)
theorem PG.f1 {τ : cT} {n : Nat} {c0 : cS} {s0 : rs_S} {c : cS} {s : rs_S} {H : Nat} (h : PG τ n c0 s0 c s H) : ∀ j, j = 0 ∨ j = 3 ∨ j = 8 ∨ j = 13 → s.1 j = s0.1 j := (show _ from by unfold PG at h; exact h.2.2.1)
theorem PG.r1 {τ : cT} {n : Nat} {c0 : cS} {s0 : rs_S} {c : cS} {s : rs_S} {H : Nat} (h : PG τ n c0 s0 c s H) : ∀ j, j = 1 ∨ j = 4 → s.2.2 j = s0.2.2 j := (show _ from by unfold PG at h; exact h.2.2.2.1)
theorem PG.h0 {τ : cT} {n : Nat} {c0 : cS} {s0 : rs_S} {c : cS} {s : rs_S} {H : Nat} (h : PG τ n c0 s0 c s H) : s.2.1 0 = nI H := (show _ from by unfold PG at h; exact h.2.2.2.2.1)
theorem PG.hh {τ : cT} {n : Nat} {c0 : cS} {s0 : rs_S} {c : cS} {s : rs_S} {H : Nat} (h : PG τ n c0 s0 c s H) : H ≤ 30000 := (show _ from by unfold PG at h; exact h.2.2.2.2.2.1)
theorem PG.bo {τ : cT} {n : Nat} {c0 : cS} {s0 : rs_S} {c : cS} {s : rs_S} {H : Nat} (h : PG τ n c0 s0 c s H) : ∀ q, 2665 ≤ q → q < 2786 → s.2.1 q = s0.2.1 q := (show _ from by unfold PG at h; exact h.2.2.2.2.2.2)
theorem Cr.unl {P : Nat → Prop} (C : Cr v) (r : Rg v) (h : PU v' v (N (v 999)) (N (v 1211)) L S O Q) (hS : ∀ k, k < N (v 1211) → S k = v (1212 + 18 * k + 9) ∨ (1 ≤ N (v (1212 + 18 * k + 9)) ∧ N (v (1212 + 18 * k + 9)) ≤ 3 ∧ 1 ≤ N (S k) ∧ N (S k) ≤ 3)) (hO : ∀ j, j < N (v 999) → (O j).toInt ≤ 500 * (v 0).toInt) : Cr v' := by
  have b := r.b
  have hu : ∀ q, q < 1000 ∨ (1080 ≤ q ∧ q < 1212) ∨ 2652 ≤ q → v' q = v q := fun q hq => h.2.2.2.2 q (fun k _ => by omega) (fun j _ => by omega)
  have hf : ∀ k f, f < 18 → f ≠ 9 → f ≠ 11 → v' (1212 + 18 * k + f) = v (1212 + 18 * k + f) := fun k f a1 a2 a3 => h.2.2.2.2 _ (fun k' _ => by omega) (fun j _ => by omega)
  have hb : ∀ j f, j < 10 → f < 8 → f ≠ 4 → f ≠ 7 → v' (1000 + 8 * j + f) = v (1000 + 8 * j + f) := fun j f a0 a1 a2 a3 => h.2.2.2.2 _ (fun k' _ => by omega) (fun j' _ => by omega)
  refine Cr.mk ?_ ?_ ?_ ?_ ?_ (C.sd_s r (hu _ (by omega)) (fun q _ _ => hu q (by omega))) (C.ev_s r (hu _ (by omega)) (fun q _ _ => hu q (by omega))) ?_ (C.zp_s (fun q _ _ => hu q (by omega))) ?_ ?_ (C.oe_s (hu _ (by omega)) (fun q _ _ => hu q (by omega)))
  · intro j hj
    rw [hu 0 (by omega)]
    by_cases e : j < N (v 999)
    · rw [h.2.2.1 j e]; exact hO j e
    · rw [h.2.2.2.2 _ (fun k' _ => by omega) (fun j' _ => by omega)]; exact C.ld j hj
  · intro j hj
    rw [hu 999 (by omega)] at hj
    rw [hb j 2 (by omega) (by decide) (by decide) (by decide)]; exact C.cr j hj
  · intro j hj
    rw [hu 999 (by omega)] at hj
    rw [hb j 6 (by omega) (by decide) (by decide) (by decide), hu 1211 (by omega)]
    rcases C.hs j hj with q | ⟨k, q1, q2, q3, q4, q5⟩
    · exact Or.inl q
    · refine Or.inr ⟨k, q1, q2, by rw [hf k 10 (by decide) (by decide) (by decide)]; exact q3, ?_, ?_⟩
      · rw [h.2.1 k q1]
        rcases hS k q1 with e | e
        · rw [e]; exact q4
        · exact e.2.2.1
      · rw [h.2.1 k q1]
        rcases hS k q1 with e | e
        · rw [e]; exact q5
        · exact e.2.2.2
  · intro k hk
    rw [hu 1211 (by omega)] at hk
    rw [h.2.1 k hk, hf k 10 (by decide) (by decide) (by decide), hu 999 (by omega)]
    intro q1 q2
    have : 1 ≤ N (v (1212 + 18 * k + 9)) ∧ N (v (1212 + 18 * k + 9)) ≤ 3 := by
      rcases hS k hk with e | e
      · rw [← e]; exact ⟨q1, q2⟩
      · exact ⟨e.1, e.2.1⟩
    obtain ⟨i, p1, p2, p3⟩ := C.sh k hk this.1 this.2
    exact ⟨i, p1, p2, by rw [hb i 6 (by omega) (by decide) (by decide) (by decide)]; exact p3⟩
  · intro k hk
    rw [hu 1211 (by omega)] at hk
    rw [show v' (1212 + 18 * k) = v (1212 + 18 * k) from hf k 0 (by decide) (by decide) (by decide), hu 1090 (by omega)]
    exact C.ow k hk
  · rw [hu 2655 (by omega), hu 1211 (by omega), tcs_same (v := v) _ (fun i hi => hf i 16 (by decide) (by decide) (by decide))]
    exact C.tc
  · intro k q1 q2
    rw [hu 1211 (by omega)] at q1
    rw [h.2.2.2.2 (1212 + 18 * k + 9) (fun k' _ => by omega) (fun j _ => by omega), hf k 14 (by decide) (by decide) (by decide), hf k 16 (by decide) (by decide) (by decide)]
    exact C.zs k q1 q2
  · intro j q1 q2
    rw [hu 999 (by omega)] at q1
    rw [h.2.2.2.2 (1000 + 8 * j + 4) (fun k' _ => by omega) (fun j' _ => by omega), hb j 5 q2 (by decide) (by decide) (by decide), h.2.2.2.2 (1000 + 8 * j + 7) (fun k' _ => by omega) (fun j' _ => by omega)]
    exact C.zb j q1 q2
theorem o_unloads (hF : 30000 ≤ F) (hI : LI τ n) (h : PH τ n c0 s0 c s H D) (hl : ∀ j, j < 10 → (s0.2.1 (1000 + 8 * j + 4)).toInt + 500 ≤ 500 * (H : Int)) : ∃ c' s', o_X5_unload F τ n 10 c = some c' ∧ o_X12_anHour_150 F (nI (N (s.2.1 1211))) F (nI 0) s = some s' ∧ PG τ n c0 s0 c' s' H := by
  have rb := h.rb
  have r := rb.rg
  have C0 := rb.cr
  have b := r.b
  have hh := h.hh
  have i0 : (s.2.1 0).toInt = H := by rw [h.h0, nI_toInt (by omega)]
  obtain ⟨bj1, bj2⟩ := C0.bj r
  obtain ⟨c1, vb, a1, a2, a3, a4, a5⟩ := ul_loop (F := F) (τ := τ) (n := n) (c := c) hI C0 r (fun j hj => by rw [h.ld j hj]; have := hl j hj; omega) _ 0 F c s.2.1 (Nat.zero_add _) (by omega) rb.x ((PU.refl s.2.1 _ _).cong (fun k hk => ifc_neg (fun g => by omega)) (fun k hk => ifc_neg (fun g => by omega)) (fun j hj => ifc_neg (fun g => by omega)) (fun j hj => ifc_neg (fun g => by omega))) Nw.refl rfl
  obtain ⟨s1, b1, b2, b3, b4⟩ := ur_loop (F := F) s.2.1 C0 r _ 0 F s (Nat.zero_add _) (by omega) ((PU.refl s.2.1 _ _).cong (fun k hk => ifc_neg (fun g => by omega)) (fun k hk => ifc_neg (fun g => by omega)) (fun j hj => ifc_neg (fun g => by omega)) (fun j hj => ifc_neg (fun g => by omega)))
  have e : vb = s1.2.1 := a3.eq b4 (fun k hk => ifc_iff ⟨fun ⟨x, _⟩ => ⟨x, hk⟩, fun ⟨x, _⟩ => ⟨x, (bj1 k hk x).1⟩⟩) (fun k hk => ifc_iff ⟨fun ⟨x, _⟩ => ⟨x, hk⟩, fun ⟨x, _⟩ => ⟨x, (bj1 k hk x).1⟩⟩) (fun j hj => ifc_iff ⟨fun ⟨x, _⟩ => ⟨x, (bj2 j hj x.1).1⟩, fun ⟨x, _⟩ => ⟨x, hj⟩⟩) (fun j hj => ifc_iff ⟨fun ⟨x, _⟩ => ⟨x, (bj2 j hj x.1).1⟩, fun ⟨x, _⟩ => ⟨x, hj⟩⟩)
  rw [e] at a2
  have cr : Cr s1.2.1 := C0.unl (P := fun _ => True) r b4 (fun k hk => by
      unfold cSt
      by_cases u : un s.2.1 k ∧ k < N (s.2.1 1211)
      · rw [ifc_pos u, u.1]
        right
        unfold s3
        split
        · exact ⟨by decide, by decide, by decide, by decide⟩
        · exact ⟨by decide, by decide, by decide, by decide⟩
      · rw [ifc_neg u]; exact Or.inl rfl) (fun j hj => by
      rw [i0]
      have l0 := hl j (by omega)
      have ej := h.ld j (by omega)
      unfold cO
      by_cases u : (s.2.1 (1000 + 8 * j + 6) ≠ -1 ∧ un s.2.1 (hB s.2.1 j)) ∧ hB s.2.1 j < N (s.2.1 1211)
      · rw [ifc_pos u]
        have k80 : hB s.2.1 j < 80 := by omega
        obtain ⟨T, l, hT, _, _, eT, _, _⟩ := tns_n r k80 (by rw [(bj2 j hj u.1.1).2.2]; omega)
        have lo4 := r.nat (k := 1000 + 8 * j + 4) (hi := 15000000) (rg_b (f := 4) (by omega) (by decide))
        rw [← ej, lo4.1, nI_toInt (by omega)] at l0
        rw [eT, lo4.1, nI_add, nI_toInt (by omega)]
        omega
      · rw [ifc_neg u, ej]; omega)
  have w : ∀ q, q < 1000 ∨ (1080 ≤ q ∧ q < 1212) ∨ 2652 ≤ q → s1.2.1 q = s.2.1 q := fun q hq => b4.2.2.2.2 q (fun k _ => by omega) (fun j _ => by omega)
  refine ⟨c1, s1, ?_, b1, PG.mk (a2.rb cr) (h.nw.trans a4) (fun j hj => by rw [b2]; exact h.f1 j hj) (fun j hj => by rw [b3]; exact h.r1 j hj) (by rw [w 0 (by omega)]; exact h.h0) hh (fun q q1 q2 => by rw [w q (by omega)]; exact h.wv q (by omega))⟩
  unfold o_X5_unload
  rw [a1, Option.bind_some]
end UN2
