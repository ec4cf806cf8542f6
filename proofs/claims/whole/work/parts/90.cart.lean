/-! THE PURE LAYER: wagons; what stands on quays -/
section CART
variable {F : Nat} {τ : cT} {n k i m B H o p b C d kk w j t W f : Nat} {c c' c0 : cS} {s s' s0 : rs_S} {v v' : Nat → Int32} {y : Int32}
theorem PG.step (h : PG τ n c0 s0 c s H) (rb : RB τ n c' 10 s'.2.1) (nw : Nw c c') (f1 : s'.1 = s.1) (r1 : s'.2.2 = s.2.2) (h0 : s'.2.1 0 = s.2.1 0) (bo : ∀ q, 2665 ≤ q → q < 2786 → s'.2.1 q = s.2.1 q) : PG τ n c0 s0 c' s' H := PG.mk rb (h.nw.trans nw) (fun j hj => by rw [f1]; exact h.f1 j hj) (fun j hj => by rw [r1]; exact h.r1 j hj) (h0.trans h.h0) h.hh (fun q q1 q2 => (bo q q1 q2).trans (h.bo q q1 q2))
theorem Cr.ber45 (C : Cr v) (r : Rg v) (hb : b < N (v 999)) (hf : f = 4 ∨ f = 5) (hy : f = 4 → y.toInt ≤ 500 * (v 0).toInt) : Cr (upd v (1000 + 8 * b + f) y) := by
  have bb := r.b
  generalize ev : upd v (1000 + 8 * b + f) y = v'
  have hu : ∀ q, q ≠ 1000 + 8 * b + f → v' q = v q := fun q hq => by rw [← ev, upd_n hq]
  refine Cr.mk ?_ ?_ ?_ ?_ (C.ow_s r (hu _ (by omega)) (fun q _ _ => hu q (by omega))) (C.sd_s r (hu _ (by omega)) (fun q _ _ => hu q (by omega))) (C.ev_s r (hu _ (by omega)) (fun q _ _ => hu q (by omega))) (C.tc_s r (hu _ (by omega)) (fun q _ _ => hu q (by omega))) (C.zp_s (fun q _ _ => hu q (by omega))) (C.zs_s (fun q _ _ => hu q (by omega))) ?_ (C.oe_s (hu _ (by omega)) (fun q _ _ => hu q (by omega)))
  · intro j hj
    rw [hu 0 (by omega)]
    by_cases e : 1000 + 8 * j + 4 = 1000 + 8 * b + f
    · rw [e, ← ev, upd_s]; exact hy (by omega)
    · rw [hu _ e]; exact C.ld j hj
  · intro j hj
    rw [hu 999 (by omega)] at hj
    rw [hu _ (by omega)]; exact C.cr j hj
  · intro j hj
    rw [hu 999 (by omega)] at hj
    rw [hu _ (by omega), hu 1211 (by omega)]
    rcases C.hs j hj with q | ⟨k, q1, q2, q3, q4, q5⟩
    · exact Or.inl q
    · exact Or.inr ⟨k, q1, q2, by rw [hu _ (by omega)]; exact q3, by rw [hu _ (by omega)]; exact q4, by rw [hu _ (by omega)]; exact q5⟩
  · intro k hk
    rw [hu 1211 (by omega)] at hk
    rw [hu (1212 + 18 * k + 9) (by omega), hu (1212 + 18 * k + 10) (by omega), hu 999 (by omega)]
    intro q1 q2
    obtain ⟨j, p1, p2, p3⟩ := C.sh k hk q1 q2
    exact ⟨j, p1, p2, by rw [hu _ (by omega)]; exact p3⟩
  · intro j q1 q2
    rw [hu 999 (by omega)] at q1
    rw [hu _ (by omega), hu _ (by omega), hu _ (by omega)]
    exact C.zb j q1 q2
/-- a berth's load -/
def ldN (v : Nat → Int32) (j : Nat) : Nat := N (v (1000 + 8 * j + 4))
theorem Rg.ld (r : Rg v) (hj : j < 10) : v (1000 + 8 * j + 4) = nI (ldN v j) ∧ ldN v j ≤ 15000000 := by
  have := r.nat (k := 1000 + 8 * j + 4) (hi := 15000000) (rg_b (f := 4) hj (by decide))
  exact ⟨this.1, by unfold ldN; omega⟩
def mxB (v : Nat → Int32) (i b : Nat) : Prop := b < i ∧ (∀ j, j < i → ldN v j ≤ ldN v b) ∧ ∀ j, j < b → ldN v j < ldN v b
def fuB (v : Nat → Int32) (i : Nat) : Option Nat → Prop
  | none => ∀ j, j < i → ldN v j = 0
  | some b => mxB v i b ∧ 0 < ldN v b
def moN (v : Nat → Int32) : Option Nat → Nat
  | none => 0
  | some b => ldN v b
theorem fu_loop (h : RX τ n c 10 v) : ∀ (r i f : Nat) (o : Option Nat), i + r = N (v 999) → r < f → fuB v i o → ∃ o', fuB v (N (v 999)) o' ∧ o_X5_fullestBerth_6 F τ n 10 c f (eC o) (nI (moN v o)) (nI i) = some (eC o') := by
  have n9 := h.n999
  intro r
  induction r with
  | zero =>
    intro i f o hi hf ho
    obtain ⟨f, rfl⟩ : ∃ x, f = x + 1 := ⟨f - 1, by omega⟩
    have : i = N (v 999) := by omega
    subst this
    rw [o_X5_fullestBerth_6, show c.1 (10 + 27) 1 = nI (N (v 999)) from (h.pl 999 27 1 rfl).trans n9.1, if_pos (Int32.le_refl _)]
    exact ⟨o, ho, rfl⟩
  | succ r ih =>
    intro i f o hi hf ho
    obtain ⟨f, rfl⟩ : ∃ x, f = x + 1 := ⟨f - 1, by omega⟩
    have i10 : i < 10 := by omega
    obtain ⟨e1, e2⟩ := h.rg.ld i10
    have mB : (moN v o) ≤ 15000000 := by
      cases o with
      | none => exact Nat.zero_le _
      | some b => exact (h.rg.ld (show b < 10 by have := ho.1.1; omega)).2
    rw [o_X5_fullestBerth_6, show c.1 (10 + 27) 1 = nI (N (v 999)) from (h.pl 999 27 1 rfl).trans n9.1, if_neg (nI_no (by omega) (by omega) (by omega)), if_pos (iL_t i10 (by decide)), nI_clamp (by omega), nI_add, show c.1 (10 + 28 + 1 + i) 4 = nI (ldN v i) by rw [← e1]; exact h.ber i (by omega) 4 (by decide)]
    by_cases q : ldN v i ≤ (moN v o)
    · rw [if_pos (nI_yes (by omega) (by omega) q)]
      refine ih (i + 1) f o (by omega) (by omega) ?_
      cases o with
      | none =>
        intro j hj
        by_cases e : j = i
        · subst e; exact Nat.le_zero.mp q
        · exact ho j (by omega)
      | some b =>
        refine ⟨⟨by have := ho.1.1; omega, fun j hj => ?_, ho.1.2.2⟩, ho.2⟩
        by_cases e : j = i
        · subst e; exact q
        · exact ho.1.2.1 j (by omega)
    · rw [if_neg (nI_no (by omega) (by omega) (by omega))]
      have := ih (i + 1) f (some i) (by omega) (by omega) (by
        cases o with
        | none =>
          have q' : ¬ ldN v i ≤ 0 := q
          refine ⟨⟨by omega, fun j hj => ?_, fun j hj => ?_⟩, by omega⟩
          · by_cases e : j = i
            · subst e; exact Nat.le_refl _
            · rw [ho j (by omega)]; exact Nat.zero_le _
          · rw [ho j hj]; omega
        | some b =>
          have q' : ¬ ldN v i ≤ ldN v b := q
          refine ⟨⟨by omega, fun j hj => ?_, fun j hj => ?_⟩, by omega⟩
          · by_cases e : j = i
            · subst e; exact Nat.le_refl _
            · have := ho.1.2.1 j (by omega); omega
          · have := ho.1.2.1 j hj; omega)
      exact this
theorem o_full (hF : 11 < F) (h : RX τ n c 10 v) : ∃ o, fuB v (N (v 999)) o ∧ o_X5_fullestBerth F τ n 10 c = some (eC o) := by
  obtain ⟨o, a1, a2⟩ := fu_loop (F := F) h _ 0 F none (Nat.zero_add _) (by have := h.n999.2; omega) (fun j hj => by omega)
  refine ⟨o, a1, ?_⟩
  have a2' : o_X5_fullestBerth_6 F τ n 10 c F (-1) (nI 0) (nI 0) = some (eC o) := a2
  unfold o_X5_fullestBerth
  rw [a2', Option.bind_some]
theorem hl_loop (r : Rg s.2.1) : ∀ (q i f b : Nat), i + q = N (s.2.1 999) → q < f → mxB s.2.1 i b → ∃ b', mxB s.2.1 (N (s.2.1 999)) b' ∧ o_X12_hauls_4 F s f (nI b) (nI i) = some (nI b') := by
  have n9 := r.nat (k := 999) (hi := 10) rfl
  intro q
  induction q with
  | zero =>
    intro i f b hi hf hb
    obtain ⟨f, rfl⟩ : ∃ x, f = x + 1 := ⟨f - 1, by omega⟩
    have : i = N (s.2.1 999) := by omega
    subst this
    rw [o_X12_hauls_4, show gW s (nI 999) = nI (N (s.2.1 999)) by rw [gW_n _ (by decide)]; exact n9.1, if_pos (Int32.le_refl _)]
    exact ⟨b, hb, rfl⟩
  | succ q ih =>
    intro i f b hi hf hb
    obtain ⟨f, rfl⟩ : ∃ x, f = x + 1 := ⟨f - 1, by omega⟩
    have i10 : i < 10 := by omega
    have b10 : b < 10 := by have := hb.1; omega
    obtain ⟨e1, e2⟩ := r.ld i10
    obtain ⟨e3, e4⟩ := r.ld b10
    rw [o_X12_hauls_4, show gW s (nI 999) = nI (N (s.2.1 999)) by rw [gW_n _ (by decide)]; exact n9.1, if_neg (nI_no (by omega) (by omega) (by omega)), if_neg (show ¬ nI b < 0 from nI_ngt (y := 0) (by omega) (by decide) (by omega)), o_berthOf i10 (show 4 < 8 by decide), e1, Option.bind_some, o_berthOf b10 (show 4 < 8 by decide), e3, Option.bind_some, nI_add]
    by_cases q1 : ldN s.2.1 i ≤ ldN s.2.1 b
    · rw [if_pos (nI_yes (by omega) (by omega) q1)]
      refine ih (i + 1) f b (by omega) (by omega) ⟨by have := hb.1; omega, fun j hj => ?_, hb.2.2⟩
      by_cases e : j = i
      · subst e; exact q1
      · exact hb.2.1 j (by omega)
    · rw [if_neg (nI_no (by omega) (by omega) (by omega))]
      refine ih (i + 1) f i (by omega) (by omega) ⟨by omega, fun j hj => ?_, fun j hj => ?_⟩
      · by_cases e : j = i
        · subst e; exact Nat.le_refl _
        · have := hb.2.1 j (by omega); omega
      · have := hb.2.1 j hj; omega
theorem mxB_un {b' : Nat} (h : mxB v i b) (h' : mxB v i b') : b = b' := by
  by_cases e : b < b'
  · have := h'.2.2 b e; have := h.2.1 b' h'.1; omega
  · by_cases e2 : b' < b
    · have := h.2.2 b' e2; have := h'.2.1 b h.1; omega
    · omega
theorem pW_id {q : Nat} {z : Int32} (hq : q < 2 ^ 31) (h : s.2.1 q = z) : pW s (nI q) z = s := by
  refine Prod.ext rfl (Prod.ext ?_ rfl)
  show upd s.2.1 (nI q).toNatClampNeg z = s.2.1
  rw [nI_clamp hq]
  exact upd_id h
/-- one wagon of the reference -/
theorem o_hauls (hF : 12 < F) (r : Rg s.2.1) : (N (s.2.1 999) = 0 ∧ o_X12_hauls F s = some s) ∨ ∃ b, mxB s.2.1 (N (s.2.1 999)) b ∧ o_X12_hauls F s = some (pW (pW s (nI (1000 + 8 * b + 4)) (nI (ldN s.2.1 b - min 10 (ldN s.2.1 b)))) (nI 2659) (s.2.1 2659 + nI (min 10 (ldN s.2.1 b)))) := by
  have n9 := r.nat (k := 999) (hi := 10) rfl
  obtain ⟨f, rfl⟩ : ∃ x, F = x + 1 := ⟨F - 1, by omega⟩
  unfold o_X12_hauls
  by_cases q : N (s.2.1 999) = 0
  · left
    refine ⟨q, ?_⟩
    rw [o_X12_hauls_4, show gW s (nI 999) = nI (N (s.2.1 999)) by rw [gW_n _ (by decide)]; exact n9.1, q, if_pos (Int32.le_refl _), Option.bind_some, if_neg (show ¬ (0 : Int32) ≤ -1 by decide)]
  · right
    obtain ⟨b, b1, b2⟩ := hl_loop (F := f + 1) r (N (s.2.1 999) - 1) 1 f 0 (by omega) (by omega) ⟨by omega, fun j hj => by rw [show j = 0 by omega]; exact Nat.le_refl _, fun j hj => by omega⟩
    have b10 : b < 10 := by have := b1.1; omega
    obtain ⟨e3, e4⟩ := r.ld b10
    refine ⟨b, b1, ?_⟩
    rw [o_X12_hauls_4, show gW s (nI 999) = nI (N (s.2.1 999)) by rw [gW_n _ (by decide)]; exact n9.1, if_neg (nI_no (by omega) (by omega) (by omega)), if_pos (show (-1 : Int32) < 0 by decide), nI_add, Nat.zero_add, b2, Option.bind_some, if_pos (show (0 : Int32) ≤ nI b from nI_yes (x := 0) (by decide) (by omega) (by omega)), o_berthOf b10 (show 4 < 8 by decide), Option.bind_some, o_berthAt, Option.bind_some, if_pos (iL_t (show 1000 + 8 * b + 4 < 22216 by omega) (by decide)), gW_n _ (show 1000 + 8 * b + 4 < 2 ^ 31 by omega), gW_pWn _ (by omega) (by decide) (by omega), gW_n _ (show 2659 < 2 ^ 31 by decide), e3, mni_n (by decide) (by omega), nI_sub (by omega)]
theorem hz_loop (hF : 12 < F) (r : Rg s.2.1) (h81 : s.2.1 1081 = nI W) (hW : W ≤ 100) (hz : ∀ j, j < N (s.2.1 999) → ldN s.2.1 j = 0) : ∀ (q t f : Nat), t + q = W → q < f → o_X12_anHour_179 F f (nI t) s = some s := by
  intro q
  induction q with
  | zero =>
    intro t f ht hf
    obtain ⟨f, rfl⟩ : ∃ x, f = x + 1 := ⟨f - 1, by omega⟩
    rw [o_X12_anHour_179, gW_n _ (by decide), h81, if_pos (nI_yes (by omega) (by omega) (by omega))]
  | succ q ih =>
    intro t f ht hf
    obtain ⟨f, rfl⟩ : ∃ x, f = x + 1 := ⟨f - 1, by omega⟩
    have e : o_X12_hauls F s = some s := by
      rcases o_hauls hF r with ⟨_, e⟩ | ⟨b, b1, e⟩
      · exact e
      · rw [e]
        have n9 := r.nat (k := 999) (hi := 10) rfl
        have b10 : b < 10 := by have := b1.1; omega
        have l0 := hz b b1.1
        rw [l0, show 0 - min 10 0 = 0 by omega, show min 10 0 = 0 by omega, pW_id (q := 1000 + 8 * b + 4) (by omega) (by rw [(r.ld b10).1, l0]), pW_id (by decide) (show s.2.1 2659 = s.2.1 2659 + nI 0 from (Int32.add_zero _).symm)]
    rw [o_X12_anHour_179, gW_n _ (by decide), h81, if_neg (nI_no (by omega) (by omega) (by omega)), e, Option.bind_some, nI_add]
    exact ih (t + 1) f (by omega) (by omega)
theorem ct_loop (hF : 30000 ≤ F) (hI : LI τ n) (hW : W ≤ 100) : ∀ (q t f f' : Nat) (c : cS) (s : rs_S), t + q = W → q < f → q < f' → PG τ n c0 s0 c s H → s.2.1 1081 = nI W → ∃ c' s', (o_X5_cart_2 F τ n 10 f (nI t) c = some (.inl c') ∨ o_X5_cart_2 F τ n 10 f (nI t) c = some (.inr c')) ∧ o_X12_anHour_179 F f' (nI t) s = some s' ∧ PG τ n c0 s0 c' s' H := by
  intro q
  induction q with
  | zero =>
    intro t f f' c s ht hf hf' h h81
    obtain ⟨f, rfl⟩ : ∃ x, f = x + 1 := ⟨f - 1, by omega⟩
    obtain ⟨f', rfl⟩ : ∃ x, f' = x + 1 := ⟨f' - 1, by omega⟩
    rw [o_X5_cart_2, o_X12_anHour_179, gW_n _ (by decide), h81, show c.1 (10 + 27) 5 = nI W from (h.rb.pl 1081 27 5 rfl).trans h81, if_pos (nI_yes (by omega) (by omega) (by omega)), if_pos (nI_yes (by omega) (by omega) (by omega))]
    exact ⟨c, s, Or.inl rfl, rfl, h⟩
  | succ q ih =>
    intro t f f' c s ht hf hf' h h81
    obtain ⟨f, rfl⟩ : ∃ x, f = x + 1 := ⟨f - 1, by omega⟩
    have rb := h.rb
    have r := rb.rg
    have n9 := rb.n999.2
    obtain ⟨o, o1, o2⟩ := o_full (F := F) (τ := τ) (n := n) (by omega) rb.x
    rw [o_X5_cart_2, show c.1 (10 + 27) 5 = nI W from (rb.pl 1081 27 5 rfl).trans h81, if_neg (nI_no (by omega) (by omega) (by omega)), o2, Option.bind_some]
    cases o with
    | none =>
      rw [show eC none = -1 from rfl, if_pos rfl]
      exact ⟨c, s, Or.inr rfl, hz_loop (by omega) r h81 hW o1 (q + 1) t f' ht hf', h⟩
    | some b =>
      obtain ⟨f', rfl⟩ : ∃ x, f' = x + 1 := ⟨f' - 1, by omega⟩
      have bm := o1.1.1
      have b10 : b < 10 := by omega
      obtain ⟨e3, e4⟩ := r.ld b10
      rw [show eC (some b) = nI b from rfl, if_neg (nI_nm1 (by omega)), if_pos (iL_t b10 (by decide)), nI_clamp (by omega), show 10 + 28 + 1 + b = 39 + b by omega, show c.1 (39 + b) 4 = nI (ldN s.2.1 b) by rw [← e3, show 39 + b = 10 + 29 + b by omega]; exact rb.ber b bm 4 (by decide), mni_n (by decide) (by omega), nI_sub (by omega), Option.bind_some, cp_1 (10 + 27) (show 10 + 27 ≠ 39 + b by omega), show c.1 (10 + 27) 7 = s.2.1 2659 from rb.pl 2659 27 7 rfl, Option.bind_some, nI_add]
      have hs : o_X12_hauls F s = some (pW (pW s (nI (1000 + 8 * b + 4)) (nI (ldN s.2.1 b - min 10 (ldN s.2.1 b)))) (nI 2659) (s.2.1 2659 + nI (min 10 (ldN s.2.1 b)))) := by
        rcases o_hauls (F := F) (by omega) r with ⟨e, _⟩ | ⟨b', b1, e⟩
        · omega
        · rw [mxB_un o1.1 b1]; exact e
      rw [o_X12_anHour_179, gW_n _ (by decide), h81, if_neg (nI_no (by omega) (by omega) (by omega)), hs, Option.bind_some, nI_add]
      have x1 := rb.x.berth (k := b) (f := 4) (y := nI (ldN s.2.1 b - min 10 (ldN s.2.1 b))) hI bm (by decide) (ok_n (rg_b (f := 4) b10 (by decide)) (by show (0 : Int) ≤ _; omega) (show ((ldN s.2.1 b - min 10 (ldN s.2.1 b) : Nat) : Int) ≤ 15000000 by omega) (by omega))
      have l0 := rb.cr.ld b b10
      rw [e3, nI_toInt (by omega)] at l0
      have c1 := rb.cr.ber45 (b := b) (f := 4) (y := nI (ldN s.2.1 b - min 10 (ldN s.2.1 b))) r bm (Or.inl rfl) (fun _ => by rw [nI_toInt (by omega)]; omega)
      have b1 : RB τ n (cp c (39 + b) 4 (nI (ldN s.2.1 b - min 10 (ldN s.2.1 b)))) 10 (upd s.2.1 (1000 + 8 * b + 4) (nI (ldN s.2.1 b - min 10 (ldN s.2.1 b)))) := x1.rb c1
      have x2 := b1.x.pput (k := 2659) (o := 27) (j := 7) (y := s.2.1 2659 + nI (min 10 (ldN s.2.1 b))) hI rfl (by decide) (by decide) (by decide) (by decide) (by decide) (rg_any rfl)
      have b2 := x2.rb (b1.cr.free b1.rg (by unfold crp; omega))
      have w : (pW (pW s (nI (1000 + 8 * b + 4)) (nI (ldN s.2.1 b - min 10 (ldN s.2.1 b)))) (nI 2659) (s.2.1 2659 + nI (min 10 (ldN s.2.1 b)))).2.1 = upd (upd s.2.1 (1000 + 8 * b + 4) (nI (ldN s.2.1 b - min 10 (ldN s.2.1 b)))) 2659 (s.2.1 2659 + nI (min 10 (ldN s.2.1 b))) := by rw [pW_21, pW_21, nI_clamp (by omega), nI_clamp (by decide)]
      refine ih (t + 1) f f' _ _ (by omega) (by omega) (by omega) (h.step (by rw [w]; exact b2) ((Nw.refl.cp (by omega) (by omega) (by omega)).cp (by omega) (by omega) (by omega)) rfl rfl (by rw [w, upd_n (by omega), upd_n (by omega)]) (fun q q1 q2 => by rw [w, upd_n (by omega), upd_n (by omega)])) (by rw [w, upd_n (by omega), upd_n (by omega)]; exact h81)
theorem o_carts (hF : 30000 ≤ F) (hI : LI τ n) (h : PG τ n c0 s0 c s H) : ∃ c' s', o_X5_cart F τ n 10 c = some c' ∧ o_X12_anHour_179 F F (nI 0) s = some s' ∧ PG τ n c0 s0 c' s' H := by
  have w := h.rb.rg.nat (k := 1081) (hi := 100) rfl
  obtain ⟨c1, s1, a1, a2, a3⟩ := ct_loop hF hI (show N (s.2.1 1081) ≤ 100 by omega) _ 0 F F c s (Nat.zero_add _) (by omega) (by omega) h w.1
  refine ⟨c1, s1, ?_, a2, a3⟩
  unfold o_X5_cart
  rcases a1 with e | e
  · rw [e, Option.bind_some]; rfl
  · rw [e, Option.bind_some]; rfl
theorem we_loop (hI : LI τ n) : ∀ (q t f f' : Nat) (c : cS) (s : rs_S), t + q = m → q < f → q < f' → PG τ n c0 s0 c s H → N (s.2.1 999) = m → ∃ c' s', o_X5_weigh_2 F τ n 10 f (nI t) c = some c' ∧ o_X12_anHour_203 F f' (nI t) s = some s' ∧ PG τ n c0 s0 c' s' H := by
  intro q
  induction q with
  | zero =>
    intro t f f' c s ht hf hf' h hm
    obtain ⟨f, rfl⟩ : ∃ x, f = x + 1 := ⟨f - 1, by omega⟩
    obtain ⟨f', rfl⟩ : ∃ x, f' = x + 1 := ⟨f' - 1, by omega⟩
    have n9 := h.rb.n999
    rw [hm] at n9
    rw [o_X5_weigh_2, o_X12_anHour_203, gW_n _ (by decide), n9.1, show c.1 (10 + 27) 1 = nI m from (h.rb.pl 999 27 1 rfl).trans n9.1, if_pos (nI_yes (by omega) (by omega) (by omega)), if_pos (nI_yes (by omega) (by omega) (by omega))]
    exact ⟨c, s, rfl, rfl, h⟩
  | succ q ih =>
    intro t f f' c s ht hf hf' h hm
    obtain ⟨f, rfl⟩ : ∃ x, f = x + 1 := ⟨f - 1, by omega⟩
    obtain ⟨f', rfl⟩ : ∃ x, f' = x + 1 := ⟨f' - 1, by omega⟩
    have rb := h.rb
    have n9 := rb.n999
    rw [hm] at n9
    have t10 : t < 10 := by omega
    have tm : t < N (s.2.1 999) := by omega
    rw [o_X5_weigh_2, o_X12_anHour_203, gW_n _ (by decide), n9.1, show c.1 (10 + 27) 1 = nI m from (rb.pl 999 27 1 rfl).trans n9.1, if_neg (nI_no (by omega) (by omega) (by omega)), if_neg (nI_no (by omega) (by omega) (by omega)), if_pos (iL_t t10 (by decide)), nI_clamp (by omega), show c.1 (10 + 28 + 1 + t) 4 = s.2.1 (1000 + 8 * t + 4) from rb.ber t tm 4 (by decide), show c.1 (10 + 28 + 1 + t) 3 = s.2.1 (1000 + 8 * t + 3) from rb.ber t tm 3 (by decide), show c.1 (10 + 28 + 1 + t) 5 = s.2.1 (1000 + 8 * t + 5) from rb.ber t tm 5 (by decide), o_berthOf t10 (show 4 < 8 by decide), Option.bind_some, o_berthOf t10 (show 3 < 8 by decide), Option.bind_some, Option.bind_some, nI_add, show 10 + 28 + 1 + t = 39 + t by omega]
    by_cases q1 : s.2.1 (1000 + 8 * t + 4) ≤ s.2.1 (1000 + 8 * t + 3)
    · rw [if_pos q1, if_pos q1]
      exact ih (t + 1) f f' c s (by omega) (by omega) (by omega) h hm
    · rw [if_neg q1, if_neg q1, o_berthAt, Option.bind_some, if_pos (iL_t (show 1000 + 8 * t + 5 < 22216 by omega) (by decide)), gW_n _ (by omega)]
      have x1 := rb.x.berth (k := t) (f := 5) (y := s.2.1 (1000 + 8 * t + 5) + nI 1) hI tm (by decide) (rg_any (rg_b (f := 5) t10 (by decide)))
      have b1 : RB τ n (cp c (39 + t) 5 (s.2.1 (1000 + 8 * t + 5) + nI 1)) 10 (upd s.2.1 (1000 + 8 * t + 5) (s.2.1 (1000 + 8 * t + 5) + nI 1)) := x1.rb (rb.cr.ber45 (b := t) (f := 5) rb.rg tm (Or.inr rfl) (fun e => absurd e (by decide)))
      have w : (pW s (nI (1000 + 8 * t + 5)) (s.2.1 (1000 + 8 * t + 5) + nI 1)).2.1 = upd s.2.1 (1000 + 8 * t + 5) (s.2.1 (1000 + 8 * t + 5) + nI 1) := by rw [pW_21, nI_clamp (by omega)]
      exact ih (t + 1) f f' _ _ (by omega) (by omega) (by omega) (h.step (by rw [w]; exact b1) (Nw.refl.cp (by omega) (by omega) (by omega)) rfl rfl (by rw [w, upd_n (by omega)]) (fun q q1 q2 => by rw [w, upd_n (by omega)])) (by rw [w, upd_n (by omega)]; exact hm)
theorem o_weighs (hF : 30000 ≤ F) (hI : LI τ n) (h : PG τ n c0 s0 c s H) : ∃ c' s', o_X5_weigh F τ n 10 c = some c' ∧ o_X12_anHour_203 F F (nI 0) s = some s' ∧ PG τ n c0 s0 c' s' H := by
  obtain ⟨c1, s1, a1, a2, a3⟩ := we_loop (F := F) hI _ 0 F F c s (Nat.zero_add _) (by have := h.rb.n999.2; omega) (by have := h.rb.n999.2; omega) h rfl
  refine ⟨c1, s1, ?_, a2, a3⟩
  unfold o_X5_weigh
  rw [a1, Option.bind_some]
end CART
