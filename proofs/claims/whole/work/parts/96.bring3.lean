/-! THE PURE LAYER: bringing in, the reference's rows -/
section ROWS3
variable {F : Nat} {m nb k b i H : Nat} {s s' sB : rs_S} {C : Int32} {R : Nat → Nat}
theorem bk_loop (hF : 74 < F) (hm : m ≤ 4) (hb : b < 10) (hR : ∀ k, k < m → R k < 80 ∧ sB.2.2 3 k = nI (R k)) (eb : ∃ B, B < 24 ∧ sB.2.1 (1000 + 8 * b + 0) = nI B) (e0 : sB.2.1 0 = nI H) (hH : H ≤ 30000) (hcl : ∀ s : rs_S, s.2.1 = sB.2.1 → o_X12_clearance F s = some C) : ∀ (r k f : Nat) (s : rs_S), k + r = m → r < f → E9 sB s → ∃ s', o_X12_bring_60 F (nI m) (nI b) f (nI k) s = some s' ∧ E9 sB s' ∧ s'.2.2 8 = s.2.2 8 ∧ (∀ k' h', k ≤ k' → k' < m → 1 ≤ h' → h' ≤ 72 → s'.2.2 9 ((10 * k' + b) * 73 + h') = ifc (QV sB C H R k' b h') (nI 1) (nI 0)) ∧ (∀ k' b' h', b' < 10 → 1 ≤ h' → h' ≤ 72 → (b' ≠ b ∨ k' < k) → s'.2.2 9 ((10 * k' + b') * 73 + h') = s.2.2 9 ((10 * k' + b') * 73 + h')) := by
  intro r
  induction r with
  | zero =>
    intro k f s hk hf hE
    obtain ⟨f, rfl⟩ : ∃ x, f = x + 1 := ⟨f - 1, by omega⟩
    rw [o_X12_bring_60, if_pos (nI_yes (by omega) (by omega) (by omega))]
    exact ⟨s, rfl, hE, rfl, fun k' h' q1 q2 => by omega, fun _ _ _ _ _ _ _ => rfl⟩
  | succ r ih =>
    intro k f s hk hf hE
    obtain ⟨f, rfl⟩ : ∃ x, f = x + 1 := ⟨f - 1, by omega⟩
    obtain ⟨r1, r2⟩ := hR k (by omega)
    obtain ⟨s1, a1, a2, a3, a4, a5⟩ := bi_loop (F := F) (l1 := nI m) (R := R) (by omega) (show k < 4 by omega) hb r1 r2 eb e0 hH hcl 72 1 F s (by omega) (by omega) (by omega) hE
    obtain ⟨s2, b1, b2, b3, b4, b5⟩ := ih (k + 1) f s1 (by omega) (by omega) a2
    rw [o_X12_bring_60, if_neg (nI_no (by omega) (by omega) (by omega)), a1, Option.bind_some, nI_add k 1]
    refine ⟨s2, b1, b2, b3.trans a3, fun k' h' q1 q2 q3 q4 => ?_, fun k' b' h' q1 q2 q3 q4 => ?_⟩
    · by_cases e : k' = k
      · subst e
        rw [b5 k' b h' hb q3 q4 (by omega)]
        exact a4 h' q3 q4
      · exact b4 k' h' (by omega) q2 q3 q4
    · rw [b5 k' b' h' q1 q2 q3 (by omega)]
      exact a5 _ (by omega)
theorem bb_loop (hF : 74 < F) (hm : m ≤ 4) (hn : nb ≤ 10) (en : sB.2.1 999 = nI nb) (hR : ∀ k, k < m → R k < 80 ∧ sB.2.2 3 k = nI (R k)) (eb : ∀ b, b < nb → ∃ B, B < 24 ∧ sB.2.1 (1000 + 8 * b + 0) = nI B) (e0 : sB.2.1 0 = nI H) (hH : H ≤ 30000) (hcl : ∀ s : rs_S, s.2.1 = sB.2.1 → o_X12_clearance F s = some C) : ∀ (r b f : Nat) (s : rs_S), b + r = nb → r < f → E9 sB s → ∃ s', o_X12_bring_24 F (nI m) f (nI b) s = some s' ∧ E9 sB s' ∧ (∀ b', b ≤ b' → b' < nb → s'.2.2 8 b' = if sB.2.1 (1000 + 8 * b' + 6) < 0 then nI 0 else nI 24) ∧ (∀ b', b' < b → s'.2.2 8 b' = s.2.2 8 b') ∧ (∀ b' k' h', b ≤ b' → b' < nb → k' < m → 1 ≤ h' → h' ≤ 72 → s'.2.2 9 ((10 * k' + b') * 73 + h') = ifc (QV sB C H R k' b' h') (nI 1) (nI 0)) ∧ (∀ b' k' h', b' < b → 1 ≤ h' → h' ≤ 72 → s'.2.2 9 ((10 * k' + b') * 73 + h') = s.2.2 9 ((10 * k' + b') * 73 + h')) := by
  intro r
  induction r with
  | zero =>
    intro b f s hb hf hE
    obtain ⟨f, rfl⟩ : ∃ x, f = x + 1 := ⟨f - 1, by omega⟩
    rw [o_X12_bring_24, gW_n s (show 999 < 2 ^ 31 by decide), hE.1, en, if_pos (nI_yes (by omega) (by omega) (by omega))]
    exact ⟨s, rfl, hE, fun b' q1 q2 => by omega, fun _ _ => rfl, fun b' k' h' q1 q2 => by omega, fun _ _ _ _ _ _ => rfl⟩
  | succ r ih =>
    intro b f s hb hf hE
    obtain ⟨f, rfl⟩ : ∃ x, f = x + 1 := ⟨f - 1, by omega⟩
    have b10 : b < 10 := by omega
    have go : ∀ y : Int32, (y = if sB.2.1 (1000 + 8 * b + 6) < 0 then nI 0 else nI 24) → ∃ s', ((o_X12_bring_60 F (nI m) (nI b) F (nI 0) (pR s 8 (nI b) y)).bind fun x21 => o_X12_bring_24 F (nI m) f (nI (b + 1)) x21) = some s' ∧ E9 sB s' ∧ (∀ b', b ≤ b' → b' < nb → s'.2.2 8 b' = if sB.2.1 (1000 + 8 * b' + 6) < 0 then nI 0 else nI 24) ∧ (∀ b', b' < b → s'.2.2 8 b' = s.2.2 8 b') ∧ (∀ b' k' h', b ≤ b' → b' < nb → k' < m → 1 ≤ h' → h' ≤ 72 → s'.2.2 9 ((10 * k' + b') * 73 + h') = ifc (QV sB C H R k' b' h') (nI 1) (nI 0)) ∧ (∀ b' k' h', b' < b → 1 ≤ h' → h' ≤ 72 → s'.2.2 9 ((10 * k' + b') * 73 + h') = s.2.2 9 ((10 * k' + b') * 73 + h')) := fun y hy => by
      obtain ⟨s1, a1, a2, a3, a4, a5⟩ := bk_loop (F := F) (R := R) hF hm b10 hR (eb b (by omega)) e0 hH hcl m 0 F (pR s 8 (nI b) y) (by omega) (by omega) (hE.pr (Or.inl rfl))
      obtain ⟨s2, b1, b2, b3, b4, b5, b6⟩ := ih (b + 1) f s1 (by omega) (by omega) a2
      have f8 : s1.2.2 8 = upd (s.2.2 8) b y := by rw [a3, pR_s _ _ _ _ (by omega)]
      have f9 : (pR s 8 (nI b) y).2.2 9 = s.2.2 9 := pR_n _ _ _ _ _ (by decide)
      rw [a1, Option.bind_some]
      refine ⟨s2, b1, b2, fun b' q1 q2 => ?_, fun b' q1 => ?_, fun b' k' h' q1 q2 q3 q4 q5 => ?_, fun b' k' h' q1 q2 q3 => ?_⟩
      · by_cases e : b' = b
        · subst e
          rw [b4 b' (by omega), f8, upd_s]
          exact hy
        · exact b3 b' (by omega) q2
      · rw [b4 b' (by omega), f8, upd_n (by omega)]
      · by_cases e : b' = b
        · subst e
          rw [b6 b' k' h' (by omega) q4 q5]
          exact a4 k' h' (by omega) q3 q4 q5
        · exact b5 b' k' h' (by omega) q2 q3 q4 q5
      · rw [b6 b' k' h' (by omega) q2 q3, a5 k' b' h' (by omega) q2 q3 (by omega), f9]
    rw [o_X12_bring_24, gW_n s (show 999 < 2 ^ 31 by decide), hE.1, en, if_neg (nI_no (by omega) (by omega) (by omega)), o_berthOf b10 (show 6 < 8 by decide), Option.bind_some, hE.1, if_pos (iL_t b10 (by decide)), if_pos (iL_t b10 (by decide)), nI_add b 1]
    by_cases q : sB.2.1 (1000 + 8 * b + 6) < 0
    · rw [if_pos q]
      exact go _ (by rw [if_pos q])
    · rw [if_neg q]
      exact go _ (by rw [if_neg q])
end ROWS3
section TURN3
variable {F : Nat} {τ : cT} {n kk d : Nat} {c : cS} {v : Nat → Int32}
/-- behind a ship, or any -/
def bhd (v : Nat → Int32) (kk d : Nat) : Option Nat → Nat → Prop
  | none, _ => True
  | some l, t => ahd v kk d l t
theorem nit_loop {l : Option Nat} (h : RX τ n c 10 v) (hk : kk < 4) (hd : d < 2) (hl : ∀ x, l = some x → x < N (v 1211)) : ∀ (r i f : Nat) (o : Option Nat), i + r = N (v 1211) → r < f → mnA v kk d (fun t => wtg v t ∧ bhd v kk d l t) i o → ∃ o', mnA v kk d (fun t => wtg v t ∧ bhd v kk d l t) (N (v 1211)) o' ∧ o_X5_nextInTurn_5 F τ n 10 (eC l) (nI (kk + 4 * d)) c f (eC o) (nI i) = some (eC o') := by
  have n12 := h.n1211
  intro r
  induction r with
  | zero =>
    intro i f o hi hf ho
    obtain ⟨f, rfl⟩ : ∃ x, f = x + 1 := ⟨f - 1, by omega⟩
    have : i = N (v 1211) := by omega
    subst this
    rw [o_X5_nextInTurn_5, show c.1 (10 + 27) 3 = nI (N (v 1211)) from (h.pl 1211 27 3 rfl).trans n12.1, if_pos (Int32.le_refl _)]
    exact ⟨o, ho, rfl⟩
  | succ r ih =>
    intro i f o hi hf ho
    obtain ⟨f, rfl⟩ : ∃ x, f = x + 1 := ⟨f - 1, by omega⟩
    have i80 : i < 80 := by omega
    have iN : i < N (v 1211) := by omega
    have skip : ¬ (wtg v i ∧ bhd v kk d l i) → mnA v kk d (fun t => wtg v t ∧ bhd v kk d l t) (i + 1) o := fun np => by
      cases o with
      | none =>
        intro t ht
        by_cases e : t = i
        · subst e; exact np
        · exact ho t (by omega)
      | some t =>
        refine ⟨by have := ho.1; omega, ho.2.1, fun u hu pu => ?_⟩
        by_cases e : u = i
        · subst e; exact absurd pu np
        · exact ho.2.2 u (by omega) pu
    have keep : ∀ t, o = some t → ahd v kk d t i → mnA v kk d (fun t => wtg v t ∧ bhd v kk d l t) (i + 1) o := fun t et ha => by
      subst et
      refine ⟨by have := ho.1; omega, ho.2.1, fun u hu pu => ?_⟩
      by_cases e : u = i
      · subst e; exact Or.inr ha
      · exact ho.2.2 u (by omega) pu
    have take : (wtg v i ∧ bhd v kk d l i) → (∀ t, o = some t → ahd v kk d i t) → mnA v kk d (fun t => wtg v t ∧ bhd v kk d l t) (i + 1) (some i) := fun pi ha => by
      refine ⟨by omega, pi, fun u hu pu => ?_⟩
      by_cases e : u = i
      · exact Or.inl e
      · right
        cases o with
        | none => exact absurd pu (ho u (by omega))
        | some t =>
          rcases ho.2.2 u (by omega) pu with e2 | e2
          · subst e2; exact ha u rfl
          · exact ahd_tr (ha t rfl) e2
    have better : (wtg v i ∧ bhd v kk d l i) → ∃ o', mnA v kk d (fun t => wtg v t ∧ bhd v kk d l t) (N (v 1211)) o' ∧ (if eC o = -1 then o_X5_nextInTurn_5 F τ n 10 (eC l) (nI (kk + 4 * d)) c f (nI i) (nI (i + 1)) else (o_X5_isAhead τ n 10 c (nI i) (eC o) (nI (kk + 4 * d))).bind fun x6 => if x6 = 0 then o_X5_nextInTurn_5 F τ n 10 (eC l) (nI (kk + 4 * d)) c f (eC o) (nI (i + 1)) else o_X5_nextInTurn_5 F τ n 10 (eC l) (nI (kk + 4 * d)) c f (nI i) (nI (i + 1))) = some (eC o') := fun pi => by
      cases o with
      | none =>
        rw [show eC none = -1 from rfl, if_pos rfl]
        exact ih (i + 1) f (some i) (by omega) (by omega) (take pi (fun t e => by cases e))
      | some t =>
        have tN := ho.1
        rw [show eC (some t) = nI t from rfl, if_neg (nI_nm1 (by omega)), o_ahead h iN (show t < N (v 1211) by omega) hk hd, Option.bind_some]
        by_cases q : ahd v kk d i t
        · rw [ifc_pos q, if_neg (show ¬ (nI 1 : Int32) = 0 by decide)]
          exact ih (i + 1) f (some i) (by omega) (by omega) (take pi (fun t' e => by injection e with e; subst e; exact q))
        · rw [ifc_neg q, if_pos (show (nI 0 : Int32) = 0 from nI_0)]
          refine ih (i + 1) f (some t) (by omega) (by omega) (keep t rfl ?_)
          rcases ahd_tot (v := v) (k := kk) (d := d) (show i ≠ t by omega) with g | g
          · exact absurd g q
          · exact g
    have s9 : c.1 (50 + i) 10 = v (1212 + 18 * i + 9) := h.shp i iN 10 9 (by decide)
    rw [o_X5_nextInTurn_5, show c.1 (10 + 27) 3 = nI (N (v 1211)) from (h.pl 1211 27 3 rfl).trans n12.1, if_neg (nI_no (by omega) (by omega) (by omega)), if_pos (iL_t i80 (by decide)), nI_clamp (by omega), show 10 + 39 + 1 + i = 50 + i by omega, s9, nI_add i 1]
    by_cases w : v (1212 + 18 * i + 9) = 0
    · rw [if_pos w]
      cases l with
      | none =>
        rw [show eC none = -1 from rfl, if_pos rfl]
        exact better ⟨w, trivial⟩
      | some x =>
        have xN := hl x rfl
        rw [show eC (some x) = nI x from rfl, if_neg (nI_nm1 (by omega)), o_ahead h xN iN hk hd, Option.bind_some]
        by_cases q : ahd v kk d x i
        · rw [ifc_pos q, if_neg (show ¬ (nI 1 : Int32) = 0 by decide)]
          exact better ⟨w, q⟩
        · rw [ifc_neg q, if_pos (show (nI 0 : Int32) = 0 from nI_0)]
          exact ih (i + 1) f o (by omega) (by omega) (skip (fun e => q e.2))
    · rw [if_neg w]
      exact ih (i + 1) f o (by omega) (by omega) (skip (fun e => w e.1))
/-- the next in turn is the next in the row -/
theorem o_nit {w j : Nat} {R : Nat → Nat} (hF : 81 < F) (h : RX τ n c 10 v) (hk : kk < 4) (hd : d < 2) (sr : SR v kk d (N (v 1211)) w R) (hj : j ≤ w) : o_X5_nextInTurn F τ n 10 c (if j = 0 then -1 else nI (R (j - 1))) (nI (kk + 4 * d)) = some (if j < w then nI (R j) else -1) := by
  obtain ⟨r1, r2, r3, r4⟩ := sr
  have n12 := h.n1211.2
  have key : ∀ (l : Option Nat), (∀ x, l = some x → x < N (v 1211)) → (∀ t, t < N (v 1211) → (wtg v t ∧ bhd v kk d l t ↔ ∃ i, j ≤ i ∧ i < w ∧ R i = t)) → o_X5_nextInTurn F τ n 10 c (eC l) (nI (kk + 4 * d)) = some (if j < w then nI (R j) else -1) := fun l hl ht => by
    obtain ⟨o, o1, o2⟩ := nit_loop (F := F) h hk hd hl (N (v 1211)) 0 F none (by omega) (by omega) (fun t ht => by omega)
    unfold o_X5_nextInTurn
    rw [show eC none = -1 from rfl] at o2
    rw [o2, Option.bind_some]
    by_cases q : j < w
    · rw [if_pos q]
      have cj := (ht (R j) (r2 j q).1).mpr ⟨j, Nat.le_refl _, q, rfl⟩
      cases o with
      | none => exact absurd cj (o1 (R j) (r2 j q).1)
      | some t =>
        obtain ⟨t1, t2, t3⟩ := o1
        obtain ⟨i, i1, i2, i3⟩ := (ht t t1).mp t2
        by_cases e : i = j
        · rw [← i3, e]; rfl
        · have a := r3 j i (by omega) i2
          rw [i3] at a
          rcases t3 (R j) (r2 j q).1 cj with g | g
          · rw [g]; rfl
          · exact absurd g (ahd_as a)
    · rw [if_neg q]
      cases o with
      | none => rfl
      | some t =>
        obtain ⟨t1, t2, t3⟩ := o1
        obtain ⟨i, i1, i2, i3⟩ := (ht t t1).mp t2
        omega
  by_cases e : j = 0
  · subst e
    rw [if_pos rfl]
    refine key none (fun x e => by cases e) (fun t ht => ⟨fun g => ?_, fun g => ?_⟩)
    · obtain ⟨i, i1, i2⟩ := r4 t ht g.1
      exact ⟨i, Nat.zero_le _, i1, i2⟩
    · obtain ⟨i, i1, i2, i3⟩ := g
      rw [← i3]
      exact ⟨(r2 i i2).2, trivial⟩
  · rw [if_neg e]
    refine key (some (R (j - 1))) (fun x e => by injection e with e; subst e; exact (r2 _ (by omega)).1) (fun t ht => ⟨fun g => ?_, fun g => ?_⟩)
    · obtain ⟨i, i1, i2⟩ := r4 t ht g.1
      have a : ahd v kk d (R (j - 1)) t := g.2
      rw [← i2] at a
      refine ⟨i, ?_, i1, i2⟩
      rcases Nat.lt_or_ge i j with q | q
      · by_cases e2 : i = j - 1
        · subst e2; exact absurd a ahd_irr
        · exact absurd a (ahd_as (r3 i (j - 1) (by omega) (by omega)))
      · exact q
    · obtain ⟨i, i1, i2, i3⟩ := g
      rw [← i3]
      exact ⟨(r2 i i2).2, r3 (j - 1) i (by omega) i2⟩
end TURN3
