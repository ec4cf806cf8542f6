/-! THE PURE LAYER: bringing in, the search of the reference -/
section SEARCH
variable {F : Nat} {m B k i : Nat} {s s' sB : rs_S} {fb : Nat → Nat → Nat → Option Nat} {du : Nat → Nat → Nat} {fr : Nat → Nat}
/-- the least so far, once more values have been looked at -/
def BR (W : Nat → Prop) (lo lo' : Option Nat) : Prop := (lo' = lo ∨ ∃ x, W x ∧ lo' = some x) ∧ (∀ x, W x → ∃ l, lo' = some l ∧ l ≤ x) ∧ (∀ l, lo = some l → ∃ l', lo' = some l' ∧ l' ≤ l)
theorem BR.none {W : Nat → Prop} {lo : Option Nat} (h : ∀ x, ¬ W x) : BR W lo lo := ⟨Or.inl rfl, fun x hx => absurd hx (h x), fun l hl => ⟨l, hl, Nat.le_refl _⟩⟩
theorem BR.imp {W W' : Nat → Prop} {lo lo' : Option Nat} (h : BR W lo lo') (hw : ∀ x, W x ↔ W' x) : BR W' lo lo' := by
  obtain ⟨h1, h2, h3⟩ := h
  refine ⟨?_, fun x hx => h2 x ((hw x).mpr hx), h3⟩
  rcases h1 with h1 | ⟨x, x1, x2⟩
  · exact Or.inl h1
  · exact Or.inr ⟨x, (hw x).mp x1, x2⟩
theorem BR.comb {W W' : Nat → Prop} {lo lo1 lo2 : Option Nat} (h : BR W lo lo1) (g : BR W' lo1 lo2) : BR (fun x => W x ∨ W' x) lo lo2 := by
  obtain ⟨h1, h2, h3⟩ := h
  obtain ⟨g1, g2, g3⟩ := g
  refine ⟨?_, ?_, ?_⟩
  · rcases g1 with g1 | ⟨x, x1, x2⟩
    · rcases h1 with h1 | ⟨x, x1, x2⟩
      · exact Or.inl (g1.trans h1)
      · exact Or.inr ⟨x, Or.inl x1, g1.trans x2⟩
    · exact Or.inr ⟨x, Or.inr x1, x2⟩
  · intro x hx
    rcases hx with hx | hx
    · obtain ⟨l, l1, l2⟩ := h2 x hx
      obtain ⟨l', l3, l4⟩ := g3 l l1
      exact ⟨l', l3, by omega⟩
    · exact g2 x hx
  · intro l hl
    obtain ⟨l1, a1, a2⟩ := h3 l hl
    obtain ⟨l2, b1, b2⟩ := g3 l1 a1
    exact ⟨l2, b1, by omega⟩
/-- the hours in which a ship can begin, as the reference has them -/
def pr (s : rs_S) (k b h : Nat) : Bool := decide (¬ s.2.2 9 ((10 * k + b) * 73 + h) = 0)
theorem sr_loop {rB : rs_S → Int32 → Int32 → Int32 → Option rs_S} {l1 l2 l3 : Int32} {b : Nat} (hk : k < 4) (hb : b < 10) : ∀ (r a f : Nat), r = 73 - a → a ≤ 50000 → r < f → o_X12_brings_82 F rB l1 l2 l3 (nI k) (nI b) s f (nI a) = some (nI (match fst1 (pr s k b) r a with | none => max a 73 | some h => h)) := by
  intro r
  induction r with
  | zero =>
    intro a f hr ha hf
    obtain ⟨f, rfl⟩ : ∃ x, f = x + 1 := ⟨f - 1, by omega⟩
    rw [o_X12_brings_82, if_pos ((nI_ltI (by decide) (by omega)).mpr (by omega))]
    show some (nI a) = some (nI (max a 73))
    rw [Nat.max_eq_left (by omega)]
  | succ r ih =>
    intro a f hr ha hf
    obtain ⟨f, rfl⟩ : ∃ x, f = x + 1 := ⟨f - 1, by omega⟩
    rw [o_X12_brings_82, if_neg (nI_ngt (by decide) (by omega) (by omega)), nI_mul, nI_add (10 * k) b, nI_mul, nI_add ((10 * k + b) * 73) a, if_pos (iL_t (show (10 * k + b) * 73 + a < 2920 by omega) (by decide)), gR_n _ _ (by omega), nI_add a 1, fst1]
    by_cases q : s.2.2 9 ((10 * k + b) * 73 + a) = 0
    · have q' : ¬ pr s k b a = true := by unfold pr; rw [decide_eq_true_eq]; exact fun e => e q
      rw [if_pos q, if_neg q', ih (a + 1) f (by omega) (by omega) (by omega)]
      cases fst1 (pr s k b) r (a + 1) with
      | none =>
        show some (nI (max (a + 1) 73)) = some (nI (max a 73))
        rw [Nat.max_eq_right (by omega), Nat.max_eq_right (by omega)]
      | some h => rfl
    · have q' : pr s k b a = true := by unfold pr; rw [decide_eq_true_eq]; exact q
      rw [if_neg q, if_pos q']
/-- what stays while the reference searches -/
def E8 (s s' : rs_S) : Prop := s'.2.1 = s.2.1 ∧ (∀ j, j ≠ 22 → s'.1 j = s.1 j) ∧ ∀ j, j ≠ 8 → s'.2.2 j = s.2.2 j
theorem E8.refl : E8 s s := ⟨rfl, fun _ _ => rfl, fun _ _ => rfl⟩
theorem pR_8 (s : rs_S) (b : Nat) (x : Int32) (hb : b < 2 ^ 31) : (pR s 8 (nI b) x).2.2 8 = upd (s.2.2 8) b x := by
  show va_up s.2.2 8 (upd (s.2.2 8) (nI b).toNatClampNeg x) 8 = _
  rw [va_up_self, nI_clamp hb]
theorem pR_o (s : rs_S) (j b : Nat) (x : Int32) (hj : j ≠ 8) : (pR s 8 (nI b) x).2.2 j = s.2.2 j := by
  unfold pR
  exact va_up_ne _ _ hj
theorem E8.pr {b : Nat} {x : Int32} (h : E8 sB s) : E8 sB (pR s 8 (nI b) x) := ⟨h.1, h.2.1, fun j hj => by rw [pR_o _ _ _ _ hj]; exact h.2.2 j hj⟩
theorem E8.pn {x : Int32} (h : E8 sB s) : E8 sB (pN s 22 x) := ⟨h.1, fun j hj => by show va_up s.1 22 x j = _; rw [va_up_ne _ _ hj]; exact h.2.1 j hj, h.2.2⟩
/-- from when on each berth is free -/
def Fre (s : rs_S) (nb : Nat) (fr : Nat → Nat) : Prop := ∀ b, b < nb → ∃ g, s.2.2 8 b = nI g ∧ g ≤ 50000 ∧ max 1 g = fr b
theorem zz1 {R k : Nat} (hm : m ≤ 4) (hR : R < 2 ^ m) (hk : k < m) : (R.testBit k = true → ((2 ^ m - 1) ^^^ R).testBit k = false ∧ (2 ^ m - 1) ^^^ R ||| 1 * 2 ^ k = (2 ^ m - 1) ^^^ (R ^^^ 2 ^ k)) ∧ (R.testBit k = false → ((2 ^ m - 1) ^^^ R).testBit k = true) := by
  have R16 := (x_m hm hR).1
  have a1 : ∀ m, m < 5 → ∀ R, R < 16 → ∀ k, k < 4 → (R < 2 ^ m ∧ k < m ∧ R.testBit k = true → ((2 ^ m - 1) ^^^ R).testBit k = false) := by decide +kernel
  have a2 : ∀ m, m < 5 → ∀ R, R < 16 → ∀ k, k < 4 → (R < 2 ^ m ∧ k < m ∧ R.testBit k = true → (2 ^ m - 1) ^^^ R ||| 1 * 2 ^ k = (2 ^ m - 1) ^^^ (R ^^^ 2 ^ k)) := by decide +kernel
  have a3 : ∀ m, m < 5 → ∀ R, R < 16 → ∀ k, k < 4 → (R < 2 ^ m ∧ k < m ∧ R.testBit k = false → ((2 ^ m - 1) ^^^ R).testBit k = true) := by decide +kernel
  exact ⟨fun h => ⟨a1 m (by omega) R R16 k (by omega) ⟨hR, hk, h⟩, a2 m (by omega) R R16 k (by omega) ⟨hR, hk, h⟩⟩, fun h => a3 m (by omega) R R16 k (by omega) ⟨hR, hk, h⟩⟩
theorem zz2 {R : Nat} (hm : m ≤ 4) (hR : R < 2 ^ m) : (2 ^ m - 1) ^^^ R < 16 ∧ ((2 ^ m - 1) ^^^ R = 2 ^ m - 1 ↔ R = 0) := by
  have R16 := (x_m hm hR).1
  have a1 : ∀ m, m < 5 → ∀ R, R < 16 → (R < 2 ^ m → (2 ^ m - 1) ^^^ R < 16) := by decide +kernel
  have a2 : ∀ m, m < 5 → ∀ R, R < 16 → (R < 2 ^ m → ((2 ^ m - 1) ^^^ R = 2 ^ m - 1 ↔ R = 0)) := by decide +kernel
  exact ⟨a1 m (by omega) R R16 hR, a2 m (by omega) R R16 hR⟩
/-- what the reference searches in -/
def SQ (s : rs_S) (m : Nat) (nb : Nat) (tn : Nat → Nat) (bc : Nat → Nat) (br : Nat → Nat) : Prop :=
  (m ≤ 4) ∧
  (nb ≤ 10) ∧
  (s.2.1 999 = nI nb) ∧
  (∀ k, k < m → ∃ j, j < 80 ∧ s.2.2 3 k = nI j ∧ s.2.1 (1212 + 18 * j + 2) = nI (tn k) ∧ tn k ≤ 20000) ∧
  (∀ b, b < nb → s.2.1 (1000 + 8 * b + 0) = nI (bc b) ∧ bc b < 24) ∧
  (∀ b, b < nb → s.2.1 (1000 + 8 * b + 2) = nI (br b) ∧ 1 ≤ br b ∧ br b ≤ 500)
theorem SQ.mk {s : rs_S} {m : Nat} {nb : Nat} {tn : Nat → Nat} {bc : Nat → Nat} {br : Nat → Nat} (h0 : m ≤ 4) (h1 : nb ≤ 10) (h2 : s.2.1 999 = nI nb) (h3 : ∀ k, k < m → ∃ j, j < 80 ∧ s.2.2 3 k = nI j ∧ s.2.1 (1212 + 18 * j + 2) = nI (tn k) ∧ tn k ≤ 20000) (h4 : ∀ b, b < nb → s.2.1 (1000 + 8 * b + 0) = nI (bc b) ∧ bc b < 24) (h5 : ∀ b, b < nb → s.2.1 (1000 + 8 * b + 2) = nI (br b) ∧ 1 ≤ br b ∧ br b ≤ 500) : SQ s m nb tn bc br := by
  unfold SQ
  exact ⟨h0, h1, h2, h3, h4, h5⟩
theorem SQ.m4 {s : rs_S} {m : Nat} {nb : Nat} {tn : Nat → Nat} {bc : Nat → Nat} {br : Nat → Nat} (h : SQ s m nb tn bc br) : m ≤ 4 := (show _ from by unfold SQ at h; exact h.1)
theorem SQ.nb {s : rs_S} {m : Nat} {nb : Nat} {tn : Nat → Nat} {bc : Nat → Nat} {br : Nat → Nat} (h : SQ s m nb tn bc br) : nb ≤ 10 := (show _ from by unfold SQ at h; exact h.2.1)
theorem SQ.en {s : rs_S} {m : Nat} {nb : Nat} {tn : Nat → Nat} {bc : Nat → Nat} {br : Nat → Nat} (h : SQ s m nb tn bc br) : s.2.1 999 = nI nb := (show _ from by unfold SQ at h; exact h.2.2.1)
theorem SQ.et {s : rs_S} {m : Nat} {nb : Nat} {tn : Nat → Nat} {bc : Nat → Nat} {br : Nat → Nat} (h : SQ s m nb tn bc br) : ∀ k, k < m → ∃ j, j < 80 ∧ s.2.2 3 k = nI j ∧ s.2.1 (1212 + 18 * j + 2) = nI (tn k) ∧ tn k ≤ 20000 := (show _ from by unfold SQ at h; exact h.2.2.2.1)
theorem SQ.b0 {s : rs_S} {m : Nat} {nb : Nat} {tn : Nat → Nat} {bc : Nat → Nat} {br : Nat → Nat} (h : SQ s m nb tn bc br) : ∀ b, b < nb → s.2.1 (1000 + 8 * b + 0) = nI (bc b) ∧ bc b < 24 := (show _ from by unfold SQ at h; exact h.2.2.2.2.1)
theorem SQ.b2 {s : rs_S} {m : Nat} {nb : Nat} {tn : Nat → Nat} {bc : Nat → Nat} {br : Nat → Nat} (h : SQ s m nb tn bc br) : ∀ b, b < nb → s.2.1 (1000 + 8 * b + 2) = nI (br b) ∧ 1 ≤ br b ∧ br b ≤ 500 := (show _ from by unfold SQ at h; exact h.2.2.2.2.2)
def fbR (s : rs_S) (b k a : Nat) : Option Nat := fst1 (pr s k b) (73 - a) a
def duR (tn bc br : Nat → Nat) (b k : Nat) : Nat := (tn k + br b - 1) / br b + bc b / 6 + 6
theorem upd_b {f : Nat → Int32} {b : Nat} {y : Int32} : upd (upd f b y) b (f b) = f := by rw [upd_upd]; exact upd_id rfl
theorem Ab_b0 : ∀ (B t : Nat), Ab m fb du fr B 0 t → t = 0 := by
  intro B
  induction B with
  | zero => intro t h; exact h.2
  | succ B ih =>
    intro t h
    obtain ⟨P, t1, t2, h1, h2, h3, h4⟩ := h
    rw [Nat.and_zero] at h1
    subst h1
    have := ih t1 h2
    have := Lb_0 h3
    omega
theorem Ab_z : ∀ (B : Nat), Ab m fb du fr B 0 0 := by
  intro B
  induction B with
  | zero => exact ⟨rfl, rfl⟩
  | succ B ih => exact ⟨0, 0, 0, rfl, ih, Or.inl ⟨rfl, rfl⟩, rfl⟩
theorem pr_e (h : E8 sB s) : fbR s = fbR sB := by
  funext b k a
  unfold fbR
  have e : pr s k b = pr sB k b := by funext g; unfold pr; rw [h.2.2 9 (by decide)]
  rw [e]
/-- the search finds the least -/
theorem o_search {nb : Nat} {tn bc br : Nat → Nat} (hF : 100 < F) (q : SQ sB m nb tn bc br) : ∀ (f R u : Nat) (fr : Nat → Nat) (s : rs_S) (lo : Option Nat), R < 2 ^ m → pc R + 1 ≤ f → u + 72 * pc R ≤ 288 → E8 sB s → Fre s nb fr → s.1 22 = eC lo → (∀ l, lo = some l → l ≤ 288) → ∃ (s' : rs_S) (lo' : Option Nat), o_brg F f s (nI m) (nI ((2 ^ m - 1) ^^^ R)) (nI u) = some s' ∧ E8 sB s' ∧ s'.2.2 8 = s.2.2 8 ∧ s'.1 22 = eC lo' ∧ (∀ l, lo' = some l → l ≤ 288) ∧ BR (fun x => ∃ t, Ab m (fbR sB) (duR tn bc br) fr nb R t ∧ x = u + t) lo lo' := by
  have hm := q.m4
  have hn := q.nb
  have M1 : 1 ≤ 2 ^ m := Nat.pow_pos (by decide)
  have M16 : 2 ^ m ≤ 16 := show 2 ^ m ≤ 2 ^ 4 from Nat.pow_le_pow_right (by decide) hm
  intro f
  induction f with
  | zero => intro R u fr s lo _ h; omega
  | succ f ih =>
    intro R u fr s lo hR hf hu hE hFr hlo hl
    obtain ⟨R16, pRm, xR⟩ := x_m hm hR
    obtain ⟨U16, Ueq⟩ := zz2 hm hR
    have em : (nI 1 : Int32) <<< (nI m &&& 31) - nI 1 = nI (2 ^ m - 1) := by rw [nI_shl (by omega), Nat.one_mul, nI_sub M1]
    -- one ship at the berths from b on
    have lpb : ∀ k, k < m → R.testBit k = true → ∀ (r b f2 : Nat) (s : rs_S) (lo : Option Nat), b + r = nb → r < f2 → E8 sB s → Fre s nb fr → s.1 22 = eC lo → (∀ l, lo = some l → l ≤ 288) → ∃ (s' : rs_S) (lo' : Option Nat), o_X12_brings_43 F (o_brg F f) (nI m) (nI ((2 ^ m - 1) ^^^ R)) (nI u) (nI k) f2 (nI b) s = some s' ∧ E8 sB s' ∧ s'.2.2 8 = s.2.2 8 ∧ s'.1 22 = eC lo' ∧ (∀ l, lo' = some l → l ≤ 288) ∧ BR (fun x => ∃ b' h t, b ≤ b' ∧ b' < nb ∧ fbR sB b' k (fr b') = some h ∧ Ab m (fbR sB) (duR tn bc br) (upn fr b' (h + duR tn bc br b' k)) nb (R ^^^ 2 ^ k) t ∧ x = u + (h + t)) lo lo' := by
      intro k hk hb r
      obtain ⟨zt, zo⟩ := (zz1 hm hR hk).1 hb
      have k4 : k < 4 := by omega
      have yb := (y3 U16 k4).1 zt
      have xb := x_bit R16 k4 hb
      induction r with
      | zero =>
        intro b f2 s lo hbn hf2 hE hFr hlo hl
        obtain ⟨f2, rfl⟩ : ∃ x, f2 = x + 1 := ⟨f2 - 1, by omega⟩
        rw [o_X12_brings_43, gW_n s (show 999 < 2 ^ 31 by decide), hE.1, q.en, if_pos (nI_yes (by omega) (by omega) (by omega))]
        exact ⟨s, lo, rfl, hE, rfl, hlo, hl, BR.none (fun x hx => by obtain ⟨b', _, _, h1, h2, _⟩ := hx; omega)⟩
      | succ r ih2 =>
        intro b f2 s lo hbn hf2 hE hFr hlo hl
        obtain ⟨f2, rfl⟩ : ∃ x, f2 = x + 1 := ⟨f2 - 1, by omega⟩
        have b10 : b < 10 := by omega
        obtain ⟨g, g1, g2, g3⟩ := hFr b (by omega)
        have fr5 : fr b ≤ 50000 := by rw [← g3]; exact Nat.max_le.mpr ⟨by omega, g2⟩
        have ef : fst1 (pr s k b) (73 - fr b) (fr b) = fbR sB b k (fr b) := by rw [← pr_e hE]; rfl
        have sr := sr_loop (F := F) (rB := o_brg F f) (l1 := nI m) (l2 := nI ((2 ^ m - 1) ^^^ R)) (l3 := nI u) (s := s) k4 b10 (73 - fr b) (fr b) F rfl fr5 (by omega)
        rw [ef] at sr
        rw [o_X12_brings_43, gW_n s (show 999 < 2 ^ 31 by decide), hE.1, q.en, if_neg (nI_no (by omega) (by omega) (by omega)), nI_shr (by omega) (by omega), nI_and, yb.1, if_neg (show ¬ (nI 0 : Int32) = nI 1 by decide), if_pos (iL_t b10 (by decide)), gR_n s 8 (show b < 2 ^ 31 by omega), g1, mxi_n (by decide) (by omega), g3, sr, nI_add b 1]
        cases eg : fbR sB b k (fr b) with
        | none =>
          rw [Option.bind_some, if_neg (nI_no (by show max (fr b) 73 < 2 ^ 31; exact Nat.max_lt.mpr ⟨by omega, by decide⟩) (by decide) (by show 72 < max (fr b) 73; exact Nat.lt_of_lt_of_le (by decide) (Nat.le_max_right _ _)))]
          obtain ⟨s1, lo1, c1, c2, c3, c4, c5, c6⟩ := ih2 (b + 1) f2 s lo (by omega) (by omega) hE hFr hlo hl
          refine ⟨s1, lo1, c1, c2, c3, c4, c5, c6.imp (fun x => ⟨fun hx => ?_, fun hx => ?_⟩)⟩
          · obtain ⟨b', h, t, e1, e2, e3, e4, e5⟩ := hx
            exact ⟨b', h, t, by omega, e2, e3, e4, e5⟩
          · obtain ⟨b', h, t, e1, e2, e3, e4, e5⟩ := hx
            by_cases eb : b' = b
            · subst eb; rw [eg] at e3; cases e3
            · exact ⟨b', h, t, by omega, e2, e3, e4, e5⟩
        | some h =>
          have h72 : h ≤ 72 := by
            have := fst1_le _ _ _ eg
            omega
          obtain ⟨j, j1, j2, j3, j4⟩ := q.et k hk
          obtain ⟨x0, y0⟩ := q.b0 b (by omega)
          obtain ⟨x2, y2, y3'⟩ := q.b2 b (by omega)
          have dle : (tn k + br b - 1) / br b ≤ tn k + br b - 1 := Nat.div_le_self _ _
          have ed : nI h + (nI (tn k) + nI (br b) - nI 1) / nI (br b) + nI (bc b) / nI 6 + nI 6 = nI (h + duR tn bc br b k) := by
            rw [nI_add, nI_sub (by omega), nI_divN (by omega) (by omega), nI_divN (by omega) (by decide), nI_add, nI_add, nI_add]
            unfold duR
            rw [Nat.add_assoc, Nat.add_assoc, Nat.add_assoc]
          rw [Option.bind_some, if_pos (nI_yes (by show h < 2 ^ 31; omega) (by decide) (by show h ≤ 72; exact h72)), if_pos (iL_t (show k < 80 by omega) (by decide)), gR_n s 3 (show k < 2 ^ 31 by omega), hE.2.2 3 (by decide), j2, o_of j1 (show 2 < 18 by decide), Option.bind_some, o_berthOf b10 (show 2 < 8 by decide), Option.bind_some, Option.bind_some, hE.1, x2, if_pos (show ¬ nI (br b) = 0 from nI_inj (b := 0) (by omega) (by decide) (by omega)), o_berthOf b10 (show 0 < 8 by decide), Option.bind_some, hE.1, x0, j3]
          show ∃ s' lo', ((o_brg F f (pR s 8 (nI b) (nI h + (nI (tn k) + nI (br b) - nI 1) / nI (br b) + nI (bc b) / nI 6 + nI 6)) (nI m) (nI ((2 ^ m - 1) ^^^ R) ||| nI 1 <<< (nI k &&& 31)) (nI u + nI h)).bind fun x18 => o_X12_brings_43 F (o_brg F f) (nI m) (nI ((2 ^ m - 1) ^^^ R)) (nI u) (nI k) f2 (nI (b + 1)) (pR x18 8 (nI b) (nI g))) = some s' ∧ _
          have dB : duR tn bc br b k ≤ 40000 := by unfold duR; omega
          have d1 : 1 ≤ h + duR tn bc br b k := by unfold duR; generalize (tn k + br b - 1) / br b = e9; omega
          rw [ed, nI_shl (by omega), nI_or, zo, nI_add u h]
          obtain ⟨s1, lo1, a1, a2, a3, a4, a5, a6⟩ := ih (R ^^^ 2 ^ k) (u + h) (upn fr b (h + duR tn bc br b k)) (pR s 8 (nI b) (nI (h + duR tn bc br b k))) lo (xR k hk) (by omega) (by omega) hE.pr (fun b' hb' => by
            rw [pR_8 _ _ _ (by omega)]
            by_cases eb : b' = b
            · subst eb
              exact ⟨_, upd_s _ _ _, by omega, by rw [upn_s]; exact Nat.max_eq_right d1⟩
            · rw [upd_n eb, upn_n eb]
              exact hFr b' hb') hlo hl
          have e8 : (pR s1 8 (nI b) (nI g)).2.2 8 = s.2.2 8 := by rw [pR_8 _ _ _ (by omega), a3, pR_8 _ _ _ (by omega), ← g1]; exact upd_b
          obtain ⟨s2, lo2, c1, c2, c3, c4, c5, c6⟩ := ih2 (b + 1) f2 (pR s1 8 (nI b) (nI g)) lo1 (by omega) (by omega) a2.pr (fun b' hb' => by rw [e8]; exact hFr b' hb') a4 a5
          rw [a1, Option.bind_some]
          refine ⟨s2, lo2, c1, c2, c3.trans e8, c4, c5, (a6.comb c6).imp (fun x => ⟨fun hx => ?_, fun hx => ?_⟩)⟩
          · rcases hx with ⟨t, t1, t2⟩ | ⟨b', h', t, e1, e2, e3, e4, e5⟩
            · exact ⟨b, h, t, Nat.le_refl _, by omega, eg, t1, by omega⟩
            · exact ⟨b', h', t, by omega, e2, e3, e4, e5⟩
          · obtain ⟨b', h', t, e1, e2, e3, e4, e5⟩ := hx
            by_cases eb : b' = b
            · subst eb
              rw [eg] at e3
              injection e3 with e3
              subst e3
              exact Or.inl ⟨t, e4, by omega⟩
            · exact Or.inr ⟨b', h', t, by omega, e2, e3, e4, e5⟩
    -- a ship that has been laid already
    have lpn : ∀ k, k < m → R.testBit k = false → ∀ (r b f2 : Nat) (s : rs_S), b + r = nb → r < f2 → E8 sB s → o_X12_brings_43 F (o_brg F f) (nI m) (nI ((2 ^ m - 1) ^^^ R)) (nI u) (nI k) f2 (nI b) s = some s := by
      intro k hk hb r
      have zt := (zz1 hm hR hk).2 hb
      have yb := (y3 U16 (show k < 4 by omega)).2 zt
      induction r with
      | zero =>
        intro b f2 s hbn hf2 hE
        obtain ⟨f2, rfl⟩ : ∃ x, f2 = x + 1 := ⟨f2 - 1, by omega⟩
        rw [o_X12_brings_43, gW_n s (show 999 < 2 ^ 31 by decide), hE.1, q.en, if_pos (nI_yes (by omega) (by omega) (by omega))]
      | succ r ih2 =>
        intro b f2 s hbn hf2 hE
        obtain ⟨f2, rfl⟩ : ∃ x, f2 = x + 1 := ⟨f2 - 1, by omega⟩
        rw [o_X12_brings_43, gW_n s (show 999 < 2 ^ 31 by decide), hE.1, q.en, if_neg (nI_no (by omega) (by omega) (by omega)), nI_shr (by omega) (by omega), nI_and, yb, if_pos rfl, nI_add b 1]
        exact ih2 (b + 1) f2 s (by omega) (by omega) hE
    -- the ships from i on
    have lpk : ∀ (r i f2 : Nat) (s : rs_S) (lo : Option Nat), i + r = m → r < f2 → E8 sB s → Fre s nb fr → s.1 22 = eC lo → (∀ l, lo = some l → l ≤ 288) → ∃ (s' : rs_S) (lo' : Option Nat), o_X12_brings_34 F (o_brg F f) (nI m) (nI ((2 ^ m - 1) ^^^ R)) (nI u) f2 (nI i) s = some s' ∧ E8 sB s' ∧ s'.2.2 8 = s.2.2 8 ∧ s'.1 22 = eC lo' ∧ (∀ l, lo' = some l → l ≤ 288) ∧ BR (fun x => ∃ k b' h t, i ≤ k ∧ k < m ∧ R.testBit k = true ∧ b' < nb ∧ fbR sB b' k (fr b') = some h ∧ Ab m (fbR sB) (duR tn bc br) (upn fr b' (h + duR tn bc br b' k)) nb (R ^^^ 2 ^ k) t ∧ x = u + (h + t)) lo lo' := by
      intro r
      induction r with
      | zero =>
        intro i f2 s lo hi hf2 hE hFr hlo hl
        obtain ⟨f2, rfl⟩ : ∃ x, f2 = x + 1 := ⟨f2 - 1, by omega⟩
        rw [o_X12_brings_34, if_pos (nI_yes (by omega) (by omega) (by omega))]
        exact ⟨s, lo, rfl, hE, rfl, hlo, hl, BR.none (fun x hx => by obtain ⟨k, _, _, _, h1, h2, _⟩ := hx; omega)⟩
      | succ r ih2 =>
        intro i f2 s lo hi hf2 hE hFr hlo hl
        obtain ⟨f2, rfl⟩ : ∃ x, f2 = x + 1 := ⟨f2 - 1, by omega⟩
        rw [o_X12_brings_34, if_neg (nI_no (by omega) (by omega) (by omega)), nI_add i 1]
        cases hb : R.testBit i with
        | false =>
          rw [lpn i (by omega) hb nb 0 F s (by omega) (by omega) hE, Option.bind_some]
          obtain ⟨s1, lo1, c1, c2, c3, c4, c5, c6⟩ := ih2 (i + 1) f2 s lo (by omega) (by omega) hE hFr hlo hl
          refine ⟨s1, lo1, c1, c2, c3, c4, c5, c6.imp (fun x => ⟨fun hx => ?_, fun hx => ?_⟩)⟩
          · obtain ⟨k, b', h, t, e0, e1⟩ := hx
            exact ⟨k, b', h, t, by omega, e1⟩
          · obtain ⟨k, b', h, t, e0, e1, e2, e3⟩ := hx
            by_cases ek : k = i
            · subst ek; rw [hb] at e2; cases e2
            · exact ⟨k, b', h, t, by omega, e1, e2, e3⟩
        | true =>
          obtain ⟨s1, lo1, a1, a2, a3, a4, a5, a6⟩ := lpb i (by omega) hb nb 0 F s lo (by omega) (by omega) hE hFr hlo hl
          rw [a1, Option.bind_some]
          obtain ⟨s2, lo2, c1, c2, c3, c4, c5, c6⟩ := ih2 (i + 1) f2 s1 lo1 (by omega) (by omega) a2 (fun b' hb' => by rw [a3]; exact hFr b' hb') a4 a5
          refine ⟨s2, lo2, c1, c2, c3.trans a3, c4, c5, (a6.comb c6).imp (fun x => ⟨fun hx => ?_, fun hx => ?_⟩)⟩
          · rcases hx with ⟨b', h, t, e1, e2, e3, e4, e5⟩ | ⟨k, b', h, t, e0, e1⟩
            · exact ⟨i, b', h, t, Nat.le_refl _, by omega, hb, e2, e3, e4, e5⟩
            · exact ⟨k, b', h, t, by omega, e1⟩
          · obtain ⟨k, b', h, t, e0, e1, e2, e3, e4, e5, e6⟩ := hx
            by_cases ek : k = i
            · subst ek; exact Or.inl ⟨b', h, t, Nat.zero_le _, e3, e4, e5, e6⟩
            · exact Or.inr ⟨k, b', h, t, by omega, e1, e2, e3, e4, e5, e6⟩
    -- without the bound
    have core : (∀ l, lo = some l → u < l) → ∃ (s' : rs_S) (lo' : Option Nat), (if nI ((2 ^ m - 1) ^^^ R) = nI (2 ^ m - 1) then some (pN s 22 (nI u)) else (o_X12_brings_34 F (o_brg F f) (nI m) (nI ((2 ^ m - 1) ^^^ R)) (nI u) F (nI 0) s).bind fun x20 => some x20) = some s' ∧ E8 sB s' ∧ s'.2.2 8 = s.2.2 8 ∧ s'.1 22 = eC lo' ∧ (∀ l, lo' = some l → l ≤ 288) ∧ BR (fun x => ∃ t, Ab m (fbR sB) (duR tn bc br) fr nb R t ∧ x = u + t) lo lo' := fun hlt => by
      by_cases e : R = 0
      · rw [if_pos (by rw [Ueq.mpr e])]
        subst e
        refine ⟨_, some u, rfl, hE.pn, rfl, pN_s _ _ _, fun l hl => by injection hl with hl; omega, Or.inr ⟨u, ⟨0, Ab_z nb, rfl⟩, rfl⟩, fun x hx => ?_, fun l hl => ⟨u, rfl, Nat.le_of_lt (hlt l hl)⟩⟩
        obtain ⟨t, _, t2⟩ := hx
        exact ⟨u, rfl, by omega⟩
      · rw [if_neg (nI_inj (by omega) (by omega) (fun g => e (Ueq.mp g)))]
        obtain ⟨s1, lo1, a1, a2, a3, a4, a5, a6⟩ := lpk m 0 F s lo (by omega) (by omega) hE hFr hlo hl
        rw [a1, Option.bind_some]
        refine ⟨s1, lo1, rfl, a2, a3, a4, a5, a6.imp (fun x => ⟨fun hx => ?_, fun hx => ?_⟩)⟩
        · obtain ⟨k, b', h, t, e0, e1, e2, e3, e4, e5, e6⟩ := hx
          have xb := x_bit R16 (show k < 4 by omega) e2
          have y := Ab_ins hm e1 e4 nb _ _ e3 xb.2.2.2.1 xb.2.1 e5
          rw [xb.2.2.1] at y
          exact ⟨h + t, y, e6⟩
        · obtain ⟨t, t1, t2⟩ := hx
          obtain ⟨b', k, h, t', b1, b2, b3, b4, b5, b6⟩ := Ab_rem hm nb R t R16 e t1
          exact ⟨k, b', h, t', Nat.zero_le _, b2, b3, b1, b4, b6, by omega⟩
    rw [o_brg]
    unfold o_X12_brings
    rw [em, hlo]
    cases lo with
    | none =>
      rw [show eC none = -1 from rfl, if_pos (show (-1 : Int32) < 0 by decide)]
      exact core (fun l hl => by cases hl)
    | some l =>
      have l2 := hl l rfl
      rw [show eC (some l) = nI l from rfl, if_neg (show ¬ nI l < 0 from nI_ngt (y := 0) (by omega) (by decide) (by omega))]
      by_cases g : u < l
      · rw [if_pos ((nI_ltI (by omega) (by omega)).mpr g)]
        exact core (fun l' hl' => by injection hl' with hl'; omega)
      · rw [if_neg (nI_ngt (by omega) (by omega) (by omega))]
        refine ⟨s, some l, rfl, hE, rfl, hlo, hl, Or.inl rfl, fun x hx => ?_, fun l' hl' => ⟨l', hl', Nat.le_refl _⟩⟩
        obtain ⟨t, _, t2⟩ := hx
        exact ⟨l, rfl, by omega⟩
end SEARCH
/-! THE PURE LAYER: bringing in, when a ship can begin -/
section BEGIN
variable {F : Nat} {m nb k b i H : Nat} {s s' sB : rs_S} {C : Int32} {R : Nat → Nat}
/-- a ship of the line can begin at a berth in an hour -/
def QV (s : rs_S) (C : Int32) (H : Nat) (R : Nat → Nat) (k b h : Nat) : Prop := s.2.1 (1000 + 8 * b + 5) < nI 240 ∧ ¬ s.2.1 (1000 + 8 * b + 1) < s.2.1 (1212 + 18 * R k + 3) ∧ sfe (s.2.2 2) s.2.1 (s.2.1 (1212 + 18 * R k + 4) + C) (N (s.2.1 (1000 + 8 * b + 0))) (H + h) 0
def E9 (s s' : rs_S) : Prop := s'.2.1 = s.2.1 ∧ s'.1 = s.1 ∧ ∀ j, j ≠ 8 → j ≠ 9 → s'.2.2 j = s.2.2 j
theorem pR_s (s : rs_S) (a j : Nat) (x : Int32) (hj : j < 2 ^ 31) : (pR s a (nI j) x).2.2 a = upd (s.2.2 a) j x := by
  show va_up s.2.2 a (upd (s.2.2 a) (nI j).toNatClampNeg x) a = _
  rw [va_up_self, nI_clamp hj]
theorem pR_n (s : rs_S) (a j q : Nat) (x : Int32) (hq : q ≠ a) : (pR s a (nI j) x).2.2 q = s.2.2 q := by
  unfold pR
  exact va_up_ne _ _ hq
theorem E9.pr {a j : Nat} {x : Int32} (h : E9 sB s) (ha : a = 8 ∨ a = 9) : E9 sB (pR s a (nI j) x) := ⟨h.1, h.2.1, fun q q1 q2 => by rw [pR_n _ _ _ _ _ (by omega)]; exact h.2.2 q q1 q2⟩
theorem o_may {S : Nat} (hS : S < 80) (hb : b < 10) : o_X12_mayHave s (nI S) (nI b) = some (ifc (s.2.1 (1000 + 8 * b + 5) < nI 240 ∧ ¬ s.2.1 (1000 + 8 * b + 1) < s.2.1 (1212 + 18 * S + 3)) (nI 1) (nI 0)) := by
  unfold o_X12_mayHave o_X12_isClosed
  rw [o_berthOf hb (show 5 < 8 by decide), Option.bind_some]
  by_cases q : s.2.1 (1000 + 8 * b + 5) < nI 240
  · rw [if_pos q, Option.bind_some, if_pos (show (nI 0 : Int32) = 0 from nI_0), o_berthOf hb (show 1 < 8 by decide), Option.bind_some, o_of hS (show 3 < 18 by decide), Option.bind_some]
    by_cases q2 : s.2.1 (1000 + 8 * b + 1) < s.2.1 (1212 + 18 * S + 3)
    · rw [if_pos q2, ifc_neg (fun e => e.2 q2)]
    · rw [if_neg q2, ifc_pos ⟨q, q2⟩]
  · rw [if_neg q, Option.bind_some, if_neg (show ¬ (nI 1 : Int32) = 0 by decide), ifc_neg (fun e => q e.1)]
theorem bi_loop {l1 : Int32} (hF : 25 ≤ F) (hk : k < 4) (hb : b < 10) (hR : R k < 80) (e3 : sB.2.2 3 k = nI (R k)) (eb : ∃ B, B < 24 ∧ sB.2.1 (1000 + 8 * b + 0) = nI B) (e0 : sB.2.1 0 = nI H) (hH : H ≤ 30000) (hcl : ∀ s : rs_S, s.2.1 = sB.2.1 → o_X12_clearance F s = some C) : ∀ (r h f : Nat) (s : rs_S), h + r = 73 → 1 ≤ h → r < f → E9 sB s → ∃ s', o_X12_bring_68 F l1 (nI b) (nI k) f (nI h) s = some s' ∧ E9 sB s' ∧ s'.2.2 8 = s.2.2 8 ∧ (∀ h', h ≤ h' → h' ≤ 72 → s'.2.2 9 ((10 * k + b) * 73 + h') = ifc (QV sB C H R k b h') (nI 1) (nI 0)) ∧ (∀ j, j < (10 * k + b) * 73 + h ∨ (10 * k + b) * 73 + 73 ≤ j → s'.2.2 9 j = s.2.2 9 j) := by
  obtain ⟨B, hB, eB⟩ := eb
  have v0 : vp_nar .boolean (nI 0) = nI 0 := by decide
  have v1 : vp_nar .boolean (nI 1) = nI 1 := by decide
  intro r
  induction r with
  | zero =>
    intro h f s hr h1 hf hE
    obtain ⟨f, rfl⟩ : ∃ x, f = x + 1 := ⟨f - 1, by omega⟩
    rw [o_X12_bring_68, if_pos ((nI_ltI (by decide) (by omega)).mpr (by omega))]
    exact ⟨s, rfl, hE, rfl, fun h' q1 q2 => by omega, fun _ _ => rfl⟩
  | succ r ih =>
    intro h f s hr h1 hf hE
    obtain ⟨f, rfl⟩ : ∃ x, f = x + 1 := ⟨f - 1, by omega⟩
    have nxt : ∀ x : Int32, x = ifc (QV sB C H R k b h) (nI 1) (nI 0) → ∃ s', o_X12_bring_68 F l1 (nI b) (nI k) f (nI (h + 1)) (pR s 9 (nI ((10 * k + b) * 73 + h)) x) = some s' ∧ E9 sB s' ∧ s'.2.2 8 = s.2.2 8 ∧ (∀ h', h ≤ h' → h' ≤ 72 → s'.2.2 9 ((10 * k + b) * 73 + h') = ifc (QV sB C H R k b h') (nI 1) (nI 0)) ∧ (∀ j, j < (10 * k + b) * 73 + h ∨ (10 * k + b) * 73 + 73 ≤ j → s'.2.2 9 j = s.2.2 9 j) := fun x hx => by
      obtain ⟨s1, a1, a2, a3, a4, a5⟩ := ih (h + 1) f (pR s 9 (nI ((10 * k + b) * 73 + h)) x) (by omega) (by omega) (by omega) (hE.pr (Or.inr rfl))
      refine ⟨s1, a1, a2, by rw [a3, pR_n _ _ _ _ _ (by decide)], fun h' q1 q2 => ?_, fun j hj => ?_⟩
      · by_cases e : h' = h
        · subst e
          rw [a5 _ (by omega), pR_s _ _ _ _ (by omega), upd_s]
          exact hx
        · exact a4 h' (by omega) q2
      · rw [a5 j (by omega), pR_s _ _ _ _ (by omega), upd_n (by omega)]
    have hr0 : o_X12_hour s = some (nI H) := by unfold o_X12_hour; rw [gW_n _ (by decide), hE.1, e0]
    rw [o_X12_bring_68, if_neg (nI_ngt (by decide) (by omega) (by omega)), if_pos (iL_t (show k < 80 by omega) (by decide)), gR_n s 3 (show k < 2 ^ 31 by omega), hE.2.2 3 (by decide) (by decide), e3, o_may hR hb, Option.bind_some, nI_mul, nI_add (10 * k) b, nI_mul, nI_add ((10 * k + b) * 73) h, nI_add h 1, v0, v1, if_pos (iL_t (show (10 * k + b) * 73 + h < 2920 by omega) (by decide))]
    by_cases q : s.2.1 (1000 + 8 * b + 5) < nI 240 ∧ ¬ s.2.1 (1000 + 8 * b + 1) < s.2.1 (1212 + 18 * R k + 3)
    · rw [ifc_pos q, if_neg (show ¬ (nI 1 : Int32) = 0 by decide), o_of hR (show 4 < 18 by decide), Option.bind_some, o_berthOf hb (show 0 < 8 by decide), Option.bind_some, hr0, Option.bind_some, nI_add H h, hE.1, eB, o_isSafe hF (hcl s hE.1) hB (by omega) (show 0 < 2 by decide), Option.bind_some, hE.1, hE.2.2 2 (by decide) (by decide), if_pos (iL_t (show (10 * k + b) * 73 + h < 2920 by omega) (by decide))]
      rw [hE.1] at q
      by_cases q2 : sfe (sB.2.2 2) sB.2.1 (sB.2.1 (1212 + 18 * R k + 4) + C) B (H + h) 0
      · rw [ifc_pos q2, if_neg (show ¬ (nI 1 : Int32) = 0 by decide)]
        exact nxt _ (by rw [ifc_pos]; exact ⟨q.1, q.2, by rw [eB, N_nI (by omega)]; exact q2⟩)
      · rw [ifc_neg q2, if_pos (show (nI 0 : Int32) = 0 from nI_0)]
        exact nxt _ (by rw [ifc_neg]; intro e; exact q2 (by have := e.2.2; rw [eB, N_nI (by omega)] at this; exact this))
    · rw [ifc_neg q, if_pos (show (nI 0 : Int32) = 0 from nI_0)]
      rw [hE.1] at q
      exact nxt _ (by rw [ifc_neg]; intro e; exact q ⟨e.1, e.2.1⟩)
end BEGIN
