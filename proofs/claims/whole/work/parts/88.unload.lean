/-! THE PURE LAYER: ships unload -/
section UNL
variable {F : Nat} {τ : cT} {n k i m B H o p b C d kk w j t : Nat} {c c' c0 : cS} {s s' s0 : rs_S} {v v' v0 D vs L S O Q L' S' O' Q' : Nat → Int32} {y M : Int32} {R : Nat → Nat}
/-- a row in which what is left, states, loads and landings are told anew -/
def PU (v' v : Nat → Int32) (m n : Nat) (L S O Q : Nat → Int32) : Prop := (∀ k, k < n → v' (1212 + 18 * k + 11) = L k) ∧ (∀ k, k < n → v' (1212 + 18 * k + 9) = S k) ∧ (∀ j, j < m → v' (1000 + 8 * j + 4) = O j) ∧ (∀ j, j < m → v' (1000 + 8 * j + 7) = Q j) ∧ ∀ q, (∀ k, k < n → q ≠ 1212 + 18 * k + 11 ∧ q ≠ 1212 + 18 * k + 9) → (∀ j, j < m → q ≠ 1000 + 8 * j + 4 ∧ q ≠ 1000 + 8 * j + 7) → v' q = v q
theorem PU.eq {a b : Nat → Int32} (h : PU a v m n L S O Q) (h' : PU b v m n L' S' O' Q') (hL : ∀ k, k < n → L k = L' k) (hS : ∀ k, k < n → S k = S' k) (hO : ∀ j, j < m → O j = O' j) (hQ : ∀ j, j < m → Q j = Q' j) : a = b := by
  funext q
  by_cases e1 : ∃ k, k < n ∧ q = 1212 + 18 * k + 11
  · obtain ⟨k, hk, rfl⟩ := e1; rw [h.1 k hk, h'.1 k hk, hL k hk]
  · by_cases e2 : ∃ k, k < n ∧ q = 1212 + 18 * k + 9
    · obtain ⟨k, hk, rfl⟩ := e2; rw [h.2.1 k hk, h'.2.1 k hk, hS k hk]
    · by_cases e3 : ∃ j, j < m ∧ q = 1000 + 8 * j + 4
      · obtain ⟨j, hj, rfl⟩ := e3; rw [h.2.2.1 j hj, h'.2.2.1 j hj, hO j hj]
      · by_cases e4 : ∃ j, j < m ∧ q = 1000 + 8 * j + 7
        · obtain ⟨j, hj, rfl⟩ := e4; rw [h.2.2.2.1 j hj, h'.2.2.2.1 j hj, hQ j hj]
        · have a1 : ∀ k, k < n → q ≠ 1212 + 18 * k + 11 ∧ q ≠ 1212 + 18 * k + 9 := fun k hk => ⟨fun e => e1 ⟨k, hk, e⟩, fun e => e2 ⟨k, hk, e⟩⟩
          have a2 : ∀ j, j < m → q ≠ 1000 + 8 * j + 4 ∧ q ≠ 1000 + 8 * j + 7 := fun j hj => ⟨fun e => e3 ⟨j, hj, e⟩, fun e => e4 ⟨j, hj, e⟩⟩
          rw [h.2.2.2.2 q a1 a2, h'.2.2.2.2 q a1 a2]
theorem PU.refl (v : Nat → Int32) (m n : Nat) : PU v v m n (fun k => v (1212 + 18 * k + 11)) (fun k => v (1212 + 18 * k + 9)) (fun j => v (1000 + 8 * j + 4)) (fun j => v (1000 + 8 * j + 7)) := ⟨fun _ _ => rfl, fun _ _ => rfl, fun _ _ => rfl, fun _ _ => rfl, fun _ _ _ => rfl⟩
/-- one ship at one berth -/
theorem PU.one {x1 x2 x3 x4 : Int32} (h : PU v' v m n L S O Q) (hk : k < n) (hj : j < m) (hm : m ≤ 10) (hn : n ≤ 80) : PU (upd (upd (upd (upd v' (1212 + 18 * k + 11) x1) (1000 + 8 * j + 4) x3) (1000 + 8 * j + 7) x4) (1212 + 18 * k + 9) x2) v m n (upd L k x1) (upd S k x2) (upd O j x3) (upd Q j x4) := by
  refine ⟨fun k' hk' => ?_, fun k' hk' => ?_, fun j' hj' => ?_, fun j' hj' => ?_, fun q a1 a2 => ?_⟩
  · rw [upd_n (by omega), upd_n (by omega), upd_n (by omega)]
    by_cases e : k' = k
    · subst e; rw [upd_s, upd_s]
    · rw [upd_n (by omega), upd_n e]; exact h.1 k' hk'
  · by_cases e : k' = k
    · subst e; rw [upd_s, upd_s]
    · rw [upd_n (by omega), upd_n (by omega), upd_n (by omega), upd_n (by omega), upd_n e]; exact h.2.1 k' hk'
  · rw [upd_n (by omega), upd_n (by omega)]
    by_cases e : j' = j
    · subst e; rw [upd_s, upd_s]
    · rw [upd_n (by omega), upd_n (by omega), upd_n e]; exact h.2.2.1 j' hj'
  · rw [upd_n (by omega)]
    by_cases e : j' = j
    · subst e; rw [upd_s, upd_s]
    · rw [upd_n (by omega), upd_n (by omega), upd_n (by omega), upd_n e]; exact h.2.2.2.1 j' hj'
  · have b1 := a1 k hk
    have b2 := a2 j hj
    rw [upd_n b1.2, upd_n b2.2, upd_n b2.1, upd_n b1.1]; exact h.2.2.2.2 q a1 a2
/-- what is at a berth; what it lands -/
def aT (v : Nat → Int32) (k : Nat) : Nat := N (v (1212 + 18 * k + 10))
def hB (v : Nat → Int32) (j : Nat) : Nat := N (v (1000 + 8 * j + 6))
def un (v : Nat → Int32) (k : Nat) : Prop := v (1212 + 18 * k + 9) = nI 2
def tns (v : Nat → Int32) (k : Nat) : Int32 := mni (v (1000 + 8 * aT v k + 2)) (v (1212 + 18 * k + 11))
def lf (v : Nat → Int32) (k : Nat) : Int32 := v (1212 + 18 * k + 11) - tns v k
def s3 (v : Nat → Int32) (k : Nat) : Int32 := if lf v k = 0 then nI 3 else nI 2
def un_j (v : Nat → Int32) (m n j : Nat) : Prop := v (1000 + 8 * j + 6) ≠ -1 ∧ un v (hB v j)
/-- berths and what is at them -/
theorem Cr.bj (C : Cr v) (r : Rg v) : (∀ k, k < N (v 1211) → un v k → aT v k < N (v 999) ∧ v (1000 + 8 * aT v k + 6) = nI k ∧ v (1212 + 18 * k + 10) = nI (aT v k) ∧ hB v (aT v k) = k) ∧ ∀ j, j < N (v 999) → v (1000 + 8 * j + 6) ≠ -1 → hB v j < N (v 1211) ∧ v (1000 + 8 * j + 6) = nI (hB v j) ∧ aT v (hB v j) = j := by
  have b := r.b
  refine ⟨fun k hk hu => ?_, fun j hj hn => ?_⟩
  · obtain ⟨i, i1, i2, i3⟩ := C.sh k hk (by rw [hu]; decide) (by rw [hu]; decide)
    have e : aT v k = i := by unfold aT; rw [i2, N_nI (by omega)]
    rw [e]
    exact ⟨i1, i3, i2, by unfold hB; rw [i3, N_nI (by omega)]⟩
  · rcases C.hs j hj with q | ⟨k, q1, q2, q3, _⟩
    · exact absurd q hn
    · have e : hB v j = k := by unfold hB; rw [q2, N_nI (by omega)]
      rw [e]
      exact ⟨q1, q2, by unfold aT; rw [q3, N_nI (by omega)]⟩
theorem tns_n (r : Rg v) (hk : k < 80) (ha : aT v k < 10) : ∃ T l, T ≤ 500 ∧ T ≤ l ∧ l ≤ 20000 ∧ tns v k = nI T ∧ v (1212 + 18 * k + 11) = nI l ∧ lf v k = nI (l - T) := by
  have r1 := r.nat (k := 1000 + 8 * aT v k + 2) (hi := 500) (rg_b (f := 2) ha (by decide))
  have r2 := r.nat (k := 1212 + 18 * k + 11) (hi := 20000) (rg_s (f := 11) hk (by decide))
  have e : tns v k = nI (min (N (v (1000 + 8 * aT v k + 2))) (N (v (1212 + 18 * k + 11)))) := by unfold tns; rw [r1.1, r2.1, N_nI (by omega), N_nI (by omega)]; exact mni_n (by omega) (by omega)
  refine ⟨min (N (v (1000 + 8 * aT v k + 2))) (N (v (1212 + 18 * k + 11))), N (v (1212 + 18 * k + 11)), by omega, by omega, by omega, e, r2.1, ?_⟩
  unfold lf
  rw [e, r2.1, N_nI (by omega)]
  exact nI_sub (by omega)
theorem PU.cong (h : PU v' v m n L S O Q) (hL : ∀ k, k < n → L' k = L k) (hS : ∀ k, k < n → S' k = S k) (hO : ∀ j, j < m → O' j = O j) (hQ : ∀ j, j < m → Q' j = Q j) : PU v' v m n L' S' O' Q' := ⟨fun k hk => by rw [hL k hk]; exact h.1 k hk, fun k hk => by rw [hS k hk]; exact h.2.1 k hk, fun j hj => by rw [hO j hj]; exact h.2.2.1 j hj, fun j hj => by rw [hQ j hj]; exact h.2.2.2.1 j hj, h.2.2.2.2⟩
noncomputable def cL (v : Nat → Int32) (P : Nat → Prop) (k : Nat) : Int32 := ifc (un v k ∧ P k) (lf v k) (v (1212 + 18 * k + 11))
noncomputable def cSt (v : Nat → Int32) (P : Nat → Prop) (k : Nat) : Int32 := ifc (un v k ∧ P k) (s3 v k) (v (1212 + 18 * k + 9))
noncomputable def cO (v : Nat → Int32) (P : Nat → Prop) (f j : Nat) : Int32 := ifc ((v (1000 + 8 * j + 6) ≠ -1 ∧ un v (hB v j)) ∧ P j) (v (1000 + 8 * j + f) + tns v (hB v j)) (v (1000 + 8 * j + f))
theorem ifc_iff {α : Type} {P P' : Prop} {a b : α} (h : P ↔ P') : ifc P a b = ifc P' a b := by
  by_cases q : P
  · rw [ifc_pos q, ifc_pos (h.mp q)]
  · rw [ifc_neg q, ifc_neg (fun e => q (h.mpr e))]
/-- the class unloads by berths -/
theorem ul_loop (hI : LI τ n) (C0 : Cr v) (r : Rg v) (hl : ∀ j, j < 10 → (v (1000 + 8 * j + 4)).toInt ≤ 14999500) : ∀ (q i f : Nat) (c' : cS) (vb : Nat → Int32), i + q = N (v 999) → q < f → RX τ n c' 10 vb → PU vb v (N (v 999)) (N (v 1211)) (cL v (fun k => aT v k < i)) (cSt v (fun k => aT v k < i)) (cO v (fun j => j < i) 4) (cO v (fun j => j < i) 7) → Nw c c' → c'.2 = c.2 → ∃ c'' vb', o_X5_unload_2 F τ n 10 f (nI i) c' = some c'' ∧ RX τ n c'' 10 vb' ∧ PU vb' v (N (v 999)) (N (v 1211)) (cL v (fun k => aT v k < N (v 999))) (cSt v (fun k => aT v k < N (v 999))) (cO v (fun j => j < N (v 999)) 4) (cO v (fun j => j < N (v 999)) 7) ∧ Nw c c'' ∧ c''.2 = c.2 := by
  have b := r.b
  obtain ⟨bj1, bj2⟩ := C0.bj r
  intro q
  induction q with
  | zero =>
    intro i f c' vb hi hf hx hp hw h2
    obtain ⟨f, rfl⟩ : ∃ x, f = x + 1 := ⟨f - 1, by omega⟩
    have e9 : vb 999 = v 999 := hp.2.2.2.2 999 (fun k _ => by omega) (fun j _ => by omega)
    have n9 := hx.n999
    rw [e9] at n9
    have : i = N (v 999) := by omega
    subst this
    rw [o_X5_unload_2, show c'.1 (10 + 27) 1 = nI (N (v 999)) by rw [show c'.1 (10 + 27) 1 = vb 999 from hx.pl 999 27 1 rfl, e9]; exact n9.1, if_pos (Int32.le_refl _)]
    exact ⟨c', vb, rfl, hx, hp, hw, h2⟩
  | succ q ih =>
    intro i f c' vb hi hf hx hp hw h2
    obtain ⟨f, rfl⟩ : ∃ x, f = x + 1 := ⟨f - 1, by omega⟩
    have e9 : vb 999 = v 999 := hp.2.2.2.2 999 (fun k _ => by omega) (fun j _ => by omega)
    have e12 : vb 1211 = v 1211 := hp.2.2.2.2 1211 (fun k _ => by omega) (fun j _ => by omega)
    have n9 := hx.n999
    rw [e9] at n9
    have n12 := hx.n1211
    rw [e12] at n12
    have i10 : i < 10 := by omega
    have e6 : vb (1000 + 8 * i + 6) = v (1000 + 8 * i + 6) := hp.2.2.2.2 _ (fun k _ => by omega) (fun j _ => by omega)
    have e2 : vb (1000 + 8 * i + 2) = v (1000 + 8 * i + 2) := hp.2.2.2.2 _ (fun k _ => by omega) (fun j _ => by omega)
    have eb : c'.1 (10 + 28 + 1 + i) 7 = v (1000 + 8 * i + 6) := by rw [← e6]; exact hx.ber i (by rw [e9]; omega) 7 (by decide)
    have oh := o_holder (τ := τ) (n := n) (v := v) eb ((show c'.1 (10 + 27) 3 = vb 1211 from hx.pl 1211 27 3 rfl).trans (by rw [e12]; exact n12.1)) i10 n12.2
    have skip : (∀ k, k < N (v 1211) → un v k → aT v k ≠ i) → (v (1000 + 8 * i + 6) ≠ -1 → ¬ un v (hB v i)) → PU vb v (N (v 999)) (N (v 1211)) (cL v (fun k => aT v k < i + 1)) (cSt v (fun k => aT v k < i + 1)) (cO v (fun j => j < i + 1) 4) (cO v (fun j => j < i + 1) 7) := fun g1 g2 => hp.cong (fun k hk => ifc_iff ⟨fun ⟨a, b⟩ => ⟨a, by have := g1 k hk a; omega⟩, fun ⟨a, b⟩ => ⟨a, by omega⟩⟩) (fun k hk => ifc_iff ⟨fun ⟨a, b⟩ => ⟨a, by have := g1 k hk a; omega⟩, fun ⟨a, b⟩ => ⟨a, by omega⟩⟩) (fun j hj => ifc_iff ⟨fun ⟨a, b⟩ => ⟨a, by
      by_cases e : j = i
      · subst e; exact absurd a.2 (g2 a.1)
      · omega⟩, fun ⟨a, b⟩ => ⟨a, by omega⟩⟩) (fun j hj => ifc_iff ⟨fun ⟨a, b⟩ => ⟨a, by
      by_cases e : j = i
      · subst e; exact absurd a.2 (g2 a.1)
      · omega⟩, fun ⟨a, b⟩ => ⟨a, by omega⟩⟩)
    rw [o_X5_unload_2, show c'.1 (10 + 27) 1 = nI (N (v 999)) by rw [show c'.1 (10 + 27) 1 = vb 999 from hx.pl 999 27 1 rfl, e9]; exact n9.1, if_neg (nI_no (by omega) (by omega) (by omega)), nI_add]
    rcases C0.hs i (by omega) with q1 | ⟨k, q1, q2, q3, q4, q5⟩
    · rw [oh.1 q1, Option.bind_some]
      exact ih (i + 1) f c' vb (by omega) (by omega) hx (skip (fun k hk a e => by
        have := (bj1 k hk a).2.1
        rw [e, q1] at this
        exact nI_nm1 (by omega) this.symm) (fun a => absurd q1 a)) hw h2
    · rw [oh.2 k q1 q2, Option.bind_some]
      have k80 : k < 80 := by omega
      have ob := hI.1.1.ship (i := k) k80
      have aTk : aT v k = i := by unfold aT; rw [q3, N_nI (by omega)]
      have hBk : hB v i = k := by unfold hB; rw [q2, N_nI (by omega)]
      have s10 : c'.1 (50 + k) 10 = v (1212 + 18 * k + 9) := by
        rw [show 50 + k = 10 + 40 + k by omega, hx.shp k (by rw [e12]; exact q1) 10 9 rfl, hp.2.1 k q1]
        exact ifc_neg (fun g => by omega)
      have s12 : c'.1 (50 + k) 12 = v (1212 + 18 * k + 11) := by
        rw [show 50 + k = 10 + 40 + k by omega, hx.shp k (by rw [e12]; exact q1) 12 11 rfl, hp.1 k q1]
        exact ifc_neg (fun g => by omega)
      have b2 : c'.1 (39 + i) 2 = v (1000 + 8 * i + 2) := by rw [show 39 + i = 10 + 29 + i by omega, ← e2]; exact hx.ber i (by rw [e9]; omega) 2 (by decide)
      have b4 : c'.1 (39 + i) 4 = v (1000 + 8 * i + 4) := by
        rw [show 39 + i = 10 + 29 + i by omega, hx.ber i (by rw [e9]; omega) 4 (by decide), show bf 4 = 4 from rfl, hp.2.2.1 i (by omega)]
        exact ifc_neg (fun g => by omega)
      have b6 : c'.1 (39 + i) 6 = v (1000 + 8 * i + 7) := by
        rw [show 39 + i = 10 + 29 + i by omega, hx.ber i (by rw [e9]; omega) 6 (by decide), show bf 6 = 7 from rfl, hp.2.2.2.1 i (by omega)]
        exact ifc_neg (fun g => by omega)
      show ∃ c'' vb', (if 10 + 39 + 1 + k < n ∧ τ (10 + 39 + 1 + k) = .inl 9 then (if (c'.1 (10 + 39 + 1 + k) 10) = (nI 2) then (if iL (nI i) 10 then ((some (cp c' (10 + 39 + 1 + k) 12 ((c'.1 (10 + 39 + 1 + k) 12) - (mni (c'.1 (10 + 28 + 1 + (nI i).toNatClampNeg) 2) (c'.1 (10 + 39 + 1 + k) 12))))).bind fun x6 => ((some (cp x6 (10 + 28 + 1 + (nI i).toNatClampNeg) 4 ((x6.1 (10 + 28 + 1 + (nI i).toNatClampNeg) 4) + (mni (c'.1 (10 + 28 + 1 + (nI i).toNatClampNeg) 2) (c'.1 (10 + 39 + 1 + k) 12))))).bind fun x7 => ((some (cp x7 (10 + 28 + 1 + (nI i).toNatClampNeg) 6 ((x7.1 (10 + 28 + 1 + (nI i).toNatClampNeg) 6) + (mni (c'.1 (10 + 28 + 1 + (nI i).toNatClampNeg) 2) (c'.1 (10 + 39 + 1 + k) 12))))).bind fun x8 => (if (x8.1 (10 + 39 + 1 + k) 12) = 0 then (o_X5_unload_2 F τ n 10 f (nI (i + 1)) (cp x8 (10 + 39 + 1 + k) 10 (nI 3))) else (o_X5_unload_2 F τ n 10 f (nI (i + 1)) x8))))) else none) else (o_X5_unload_2 F τ n 10 f (nI (i + 1)) c')) else none) = some c'' ∧ _
      rw [if_pos (show 10 + 39 + 1 + k < n ∧ τ (10 + 39 + 1 + k) = .inl 9 from ob), if_pos (iL_t i10 (show 10 < 2 ^ 31 by decide)), nI_clamp (show i < 2 ^ 31 by omega), show 10 + 39 + 1 + k = 50 + k by omega, show 10 + 28 + 1 + i = 39 + i by omega, s10, s12, b2]
      by_cases u : v (1212 + 18 * k + 9) = nI 2
      · rw [if_pos u, Option.bind_some]
        have tE : mni (v (1000 + 8 * i + 2)) (v (1212 + 18 * k + 11)) = tns v k := by unfold tns; rw [aTk]
        have lE : v (1212 + 18 * k + 11) - tns v k = lf v k := rfl
        rw [tE, lE, cp_1 (39 + i) (show 39 + i ≠ 50 + k by omega), b4, Option.bind_some, cp_q, upd_n (show (6 : Nat) ≠ 4 by decide), cp_1 (39 + i) (show 39 + i ≠ 50 + k by omega), b6, Option.bind_some]
        have z12 : (cp (cp (cp c' (50 + k) 12 (lf v k)) (39 + i) 4 (v (1000 + 8 * i + 4) + tns v k)) (39 + i) 6 (v (1000 + 8 * i + 7) + tns v k)).1 (50 + k) 12 = lf v k := by rw [cp_1 _ (by omega), cp_1 _ (by omega), cp_q, upd_s]
        rw [z12]
        obtain ⟨T, l, hT, hTl, hl2, eT, el, elf⟩ := tns_n r k80 (by rw [aTk]; exact i10)
        have un' : (if lf v k = 0 then o_X5_unload_2 F τ n 10 f (nI (i + 1)) (cp (cp (cp (cp c' (50 + k) 12 (lf v k)) (39 + i) 4 (v (1000 + 8 * i + 4) + tns v k)) (39 + i) 6 (v (1000 + 8 * i + 7) + tns v k)) (50 + k) 10 (nI 3)) else o_X5_unload_2 F τ n 10 f (nI (i + 1)) (cp (cp (cp c' (50 + k) 12 (lf v k)) (39 + i) 4 (v (1000 + 8 * i + 4) + tns v k)) (39 + i) 6 (v (1000 + 8 * i + 7) + tns v k))) = o_X5_unload_2 F τ n 10 f (nI (i + 1)) (cp (cp (cp (cp c' (50 + k) 12 (lf v k)) (39 + i) 4 (v (1000 + 8 * i + 4) + tns v k)) (39 + i) 6 (v (1000 + 8 * i + 7) + tns v k)) (50 + k) 10 (s3 v k)) := by
          unfold s3
          by_cases z : lf v k = 0
          · rw [if_pos z, if_pos z]
          · rw [if_neg z, if_neg z, cp_id (q := 50 + k) (j := 10) (y := nI 2) (by rw [cp_1 _ (by omega), cp_1 _ (by omega), cp_q, upd_n (by decide), s10]; exact u)]
        rw [un']
        have n12v : k < N (vb 1211) := by rw [e12]; exact q1
        have i9v : i < N (vb 999) := by rw [e9]; omega
        have x1 := hx.ship (k := k) (f := 12) (g := 11) (y := lf v k) hI n12v rfl (by rw [elf]; exact ok_n (rg_s (f := 11) k80 (by decide)) (by show (0 : Int) ≤ _; omega) (show ((l - T : Nat) : Int) ≤ 20000 by omega) (by omega))
        have lo4 := r.nat (k := 1000 + 8 * i + 4) (hi := 15000000) (rg_b (f := 4) i10 (by decide))
        have hl4 := hl i i10
        rw [lo4.1, nI_toInt (by omega)] at hl4
        have x2 := x1.berth (k := i) (f := 4) (y := v (1000 + 8 * i + 4) + tns v k) hI (by rw [upd_n (by omega)]; exact i9v) (by decide) (by
          rw [lo4.1, eT, nI_add]
          exact ok_n (rg_b (f := 4) i10 (by decide)) (by show (0 : Int) ≤ _; omega) (show ((N (v (1000 + 8 * i + 4)) + T : Nat) : Int) ≤ 15000000 by omega) (by omega))
        have x3 := x2.berth (k := i) (f := 6) (y := v (1000 + 8 * i + 7) + tns v k) hI (by rw [show bf 4 = 4 from rfl, upd_n (by omega), upd_n (by omega)]; exact i9v) (by decide) (rg_any (rg_b (f := 7) i10 (by decide)))
        have x4 := x3.ship (k := k) (f := 10) (g := 9) (y := s3 v k) hI (by rw [show bf 6 = 7 from rfl, show bf 4 = 4 from rfl, upd_n (by omega), upd_n (by omega), upd_n (by omega)]; exact n12v) rfl (by
          unfold s3
          split
          · exact ok_n (rg_s (f := 9) k80 (by decide)) (by show (0 : Int) ≤ _; omega) (by show _ ≤ (4 : Int); omega) (by decide)
          · exact ok_n (rg_s (f := 9) k80 (by decide)) (by show (0 : Int) ≤ _; omega) (by show _ ≤ (4 : Int); omega) (by decide))
        have pu := hp.one (x1 := lf v k) (x2 := s3 v k) (x3 := v (1000 + 8 * i + 4) + tns v k) (x4 := v (1000 + 8 * i + 7) + tns v k) q1 (show i < N (v 999) by omega) (by omega) (by omega)
        refine ih (i + 1) f _ _ (by omega) (by omega) x4 (pu.cong (fun k' hk' => ?_) (fun k' hk' => ?_) (fun j' hj' => ?_) (fun j' hj' => ?_)) ((((hw.cp (by omega) (by omega) (by omega)).cp (by omega) (by omega) (by omega)).cp (by omega) (by omega) (by omega)).cp (by omega) (by omega) (by omega)) h2
        · by_cases e : k' = k
          · subst e; rw [upd_s]; exact ifc_pos ⟨u, by omega⟩
          · rw [upd_n e]
            exact ifc_iff ⟨fun ⟨a, b⟩ => ⟨a, by
              have h1 := bj1 k' hk' a
              by_cases e2 : aT v k' = i
              · rw [e2, hBk] at h1; exact absurd h1.2.2.2 (Ne.symm e)
              · omega⟩, fun ⟨a, b⟩ => ⟨a, by omega⟩⟩
        · by_cases e : k' = k
          · subst e; rw [upd_s]; exact ifc_pos ⟨u, by omega⟩
          · rw [upd_n e]
            exact ifc_iff ⟨fun ⟨a, b⟩ => ⟨a, by
              have h1 := bj1 k' hk' a
              by_cases e2 : aT v k' = i
              · rw [e2, hBk] at h1; exact absurd h1.2.2.2 (Ne.symm e)
              · omega⟩, fun ⟨a, b⟩ => ⟨a, by omega⟩⟩
        · by_cases e : j' = i
          · subst e
            rw [upd_s]
            unfold cO
            rw [ifc_pos ⟨⟨by rw [q2]; exact nI_nm1 (by omega), by rw [hBk]; exact u⟩, by omega⟩, hBk]
          · rw [upd_n e]
            exact ifc_iff ⟨fun ⟨a, b⟩ => ⟨a, by omega⟩, fun ⟨a, b⟩ => ⟨a, by omega⟩⟩
        · by_cases e : j' = i
          · subst e
            rw [upd_s]
            unfold cO
            rw [ifc_pos ⟨⟨by rw [q2]; exact nI_nm1 (by omega), by rw [hBk]; exact u⟩, by omega⟩, hBk]
          · rw [upd_n e]
            exact ifc_iff ⟨fun ⟨a, b⟩ => ⟨a, by omega⟩, fun ⟨a, b⟩ => ⟨a, by omega⟩⟩
      · rw [if_neg u]
        exact ih (i + 1) f c' vb (by omega) (by omega) hx (skip (fun k' hk' a e => by
          have h1 := bj1 k' hk' a
          rw [e, hBk] at h1
          have : k = k' := h1.2.2.2
          subst this
          exact u a) (fun _ => by rw [hBk]; exact u)) hw h2
end UNL
