/-! THE PURE LAYER: feed -/
def byt (x : Int32) (j : Nat) : Int32 := vp_nar .byte ((x >>> (nI (24 - 8 * j) &&& 31)).toInt8.toInt32)
/-- the tape with r bytes more from t on -/
def tp (f : Nat → Int32) (t : Nat) (a : Nat → Int32) (r : Nat) : Nat → Int32 := fun i => if t ≤ i ∧ i < t + r then byt (a ((i - t) / 4)) ((i - t) % 4) else f i
theorem tp_0 (f : Nat → Int32) (t : Nat) (a : Nat → Int32) : tp f t a 0 = f := funext fun i => if_neg (by omega)
theorem tp_s (f : Nat → Int32) (t : Nat) (a : Nat → Int32) (r : Nat) : upd (tp f t a r) (t + r) (byt (a (r / 4)) (r % 4)) = tp f t a (r + 1) := by
  funext i
  by_cases e : i = t + r
  · subst e
    rw [upd_s]
    show _ = if t ≤ t + r ∧ t + r < t + (r + 1) then byt (a ((t + r - t) / 4)) ((t + r - t) % 4) else f (t + r)
    rw [if_pos (by omega), Nat.add_sub_cancel_left]
  · rw [upd_n e]
    unfold tp
    by_cases q : t ≤ i ∧ i < t + r
    · rw [if_pos q, if_pos (by omega)]
    · rw [if_neg q, if_neg (by omega)]
def cset (c : cS) (T : Nat → Int32) (x : Int32) : cS := (fun q => if q = 1 then T else if q = 0 then upd (c.1 0) 1 x else c.1 q, c.2)
theorem cset_01 (c : cS) (T : Nat → Int32) (x : Int32) : (cset c T x).1 0 1 = x := by show upd (c.1 0) 1 x 1 = x; exact upd_s _ _ _
theorem cset_1 (c : cS) (T : Nat → Int32) (x : Int32) : (cset c T x).1 1 = T := rfl
theorem cset_o (c : cS) (T : Nat → Int32) (x : Int32) {q : Nat} (h0 : q ≠ 0) (h1 : q ≠ 1) : (cset c T x).1 q = c.1 q := by
  show (if q = 1 then T else if q = 0 then _ else c.1 q) = _
  rw [if_neg h1, if_neg h0]
theorem cset_id (c : cS) : cset c (c.1 1) (c.1 0 1) = c := by
  refine Prod.ext (funext fun q => ?_) rfl
  show (if q = 1 then c.1 1 else if q = 0 then upd (c.1 0) 1 (c.1 0 1) else c.1 q) = c.1 q
  by_cases h1 : q = 1
  · rw [if_pos h1, h1]
  · rw [if_neg h1]
    by_cases h0 : q = 0
    · rw [if_pos h0, h0]
      funext i
      by_cases e : i = 1
      · subst e; rw [upd_s]
      · rw [upd_n e]
    · rw [if_neg h0]
theorem cset_put (c : cS) (T : Nat → Int32) (x y z : Int32) (p : Nat) : cp (cp (cset c T x) 1 p y) 0 1 z = cset c (upd T p y) z := by
  refine Prod.ext (funext fun q => ?_) rfl
  by_cases h0 : q = 0
  · subst h0
    rw [cp_q, cp_1 _ (by decide)]
    funext i
    show upd (upd (c.1 0) 1 x) 1 z i = upd (c.1 0) 1 z i
    by_cases e : i = 1
    · subst e; rw [upd_s, upd_s]
    · rw [upd_n e, upd_n e, upd_n e]
  · rw [cp_1 _ h0]
    by_cases h1 : q = 1
    · subst h1; rw [cp_q]; rfl
    · rw [cp_1 _ h1, cset_o _ _ _ h0 h1, cset_o _ _ _ h0 h1]
theorem ab_1 {F f : Nat} {τ : cT} {n p : Nat} {c : cS} {T : Nat → Int32} {x l : Int32} (hl : ¬ l < 0) (hp : p < 400) : o_X11_addBytes_3 F τ n 0 x (f + 1) l (cset c T (nI p)) = o_X11_addBytes_3 F τ n 0 x f (l + (-8)) (cset c (upd T p (vp_nar .byte ((x >>> (l &&& 31)).toInt8.toInt32))) (nI (p + 1))) := by
  rw [o_X11_addBytes_3, if_neg hl, cset_01, if_neg (nI_ge hp (by decide)), if_pos (iL_t hp (by decide)), ca_n _ _ (by omega)]
  simp only [Option.bind_some]
  rw [show 0 + 1 = 1 from rfl, cp_1 _ (by decide), cset_01, nI_add, cset_put]
theorem o_addBytes {F : Nat} {τ : cT} {n t r : Nat} {c : cS} {f a : Nat → Int32} (hF : 5 ≤ F) (hr : r % 4 = 0) (ht : t + r + 4 ≤ 400) : o_X11_addBytes F τ n 0 (cset c (tp f t a r) (nI (t + r))) (a (r / 4)) = some (cset c (tp f t a (r + 4)) (nI (t + (r + 4)))) := by
  obtain ⟨F', hF'⟩ : ∃ g, F = g + 1 + 1 + 1 + 1 + 1 := ⟨F - 5, by omega⟩
  unfold o_X11_addBytes
  have h : o_X11_addBytes_3 F τ n 0 (a (r / 4)) F (nI 24) (cset c (tp f t a r) (nI (t + r))) = some (cset c (tp f t a (r + 4)) (nI (t + (r + 4)))) := by
    have e : ∀ j, j < 4 → upd (tp f t a (r + j)) (t + r + j) (vp_nar .byte (((a (r / 4)) >>> (nI (24 - 8 * j) &&& 31)).toInt8.toInt32)) = tp f t a (r + j + 1) := fun j hj => by
      have h9 := tp_s f t a (r + j)
      rw [show (r + j) / 4 = r / 4 by omega, show (r + j) % 4 = j by omega, show t + (r + j) = t + r + j by omega] at h9
      exact h9
    have e0 := e 0 (by decide)
    have e1 := e 1 (by decide)
    have e2 := e 2 (by decide)
    have e3 := e 3 (by decide)
    conv => lhs; arg 6; rw [hF']
    rw [ab_1 (by decide) (by omega), show r = r + 0 from rfl, show t + (r + 0) = t + r + 0 from rfl]
    simp only [Nat.add_zero] at e0 ⊢
    rw [show (nI 24 : Int32) = nI (24 - 8 * 0) from rfl, e0]
    rw [show (nI (24 - 8 * 0) : Int32) + (-8) = nI (24 - 8 * 1) by decide, ab_1 (by decide) (by omega), e1]
    rw [show (nI (24 - 8 * 1) : Int32) + (-8) = nI (24 - 8 * 2) by decide, show t + r + 1 + 1 = t + r + 2 by omega, ab_1 (by decide) (by omega), show r + 1 + 1 = r + 2 from rfl, e2]
    rw [show (nI (24 - 8 * 2) : Int32) + (-8) = nI (24 - 8 * 3) by decide, show t + r + 2 + 1 = t + r + 3 by omega, ab_1 (by decide) (by omega), show r + 2 + 1 = r + 3 from rfl, e3]
    rw [show (nI (24 - 8 * 3) : Int32) + (-8) = -8 by decide, o_X11_addBytes_3, if_pos (by decide)]
    rfl
  rw [h]
  rfl
def rset (s : rs_S) (T : Nat → Int32) : rs_S := (s.1, s.2.1, va_up s.2.2 4 T)
theorem rset_p (s : rs_S) (T : Nat → Int32) {p : Nat} (hp : p < 2 ^ 31) (x : Int32) : pR (rset s T) 4 (nI p) x = rset s (upd T p x) := by
  unfold pR rset
  rw [nI_clamp hp]
  refine Prod.ext rfl (Prod.ext rfl ?_)
  show va_up (va_up s.2.2 4 T) 4 (upd (va_up s.2.2 4 T 4) p x) = va_up s.2.2 4 (upd T p x)
  rw [va_up_self]
  funext q
  by_cases e : q = 4
  · subst e; rw [va_up_self, va_up_self]
  · rw [va_up_ne _ _ e, va_up_ne _ _ e, va_up_ne _ _ e]
theorem rset_5 (s : rs_S) (T : Nat → Int32) (i : Int32) : gR (rset s T) 5 i = gR s 5 i := by
  show va_up s.2.2 4 T 5 _ = _
  rw [va_up_ne _ _ (by decide)]; rfl
theorem fd_ar : ∀ r, r < 20 → nI r / nI 4 = nI (r / 4) ∧ (nI 24 - nI 8 * irm (nI r) (nI 4)) = nI (24 - 8 * (r % 4)) := by decide
theorem feed_loop {F t : Nat} {s : rs_S} {f a : Nat → Int32} (ht : s.1 8 = nI t) (ht2 : t + 20 ≤ 400) (ha : ∀ j, j < 5 → gR s 5 (nI j) = a j) : ∀ (q g r : Nat), r + q = 20 → q < g → o_X12_feed_60 F g (nI r) (rset s (tp f t a r)) = some (rset s (tp f t a 20)) := by
  intro q
  induction q with
  | zero =>
    intro g r hr hg
    obtain ⟨g, rfl⟩ : ∃ k, g = k + 1 := ⟨g - 1, by omega⟩
    rw [o_X12_feed_60, show r = 20 by omega, if_pos (Int32.le_refl _)]
  | succ q ih =>
    intro g r hr hg
    obtain ⟨g, rfl⟩ : ∃ k, g = k + 1 := ⟨g - 1, by omega⟩
    obtain ⟨d1, d2⟩ := fd_ar r (by omega)
    rw [o_X12_feed_60, if_neg (nI_ge (show r < 20 by omega) (by decide)), d1, d2, if_pos (iL_t (show r / 4 < 5 by omega) (by decide)), show (rset s (tp f t a r)).1 8 = nI t from ht, nI_add, if_pos (iL_t (show t + r < 400 by omega) (by decide)), nI_add, rset_5, ha _ (by omega), rset_p _ _ (by omega)]
    have e := tp_s f t a r
    unfold byt at e
    rw [e]
    exact ih g (r + 1) (by omega) (by omega)
def five (a1 a2 a3 a4 a5 : Int32) (j : Nat) : Int32 := if j = 0 then a1 else if j = 1 then a2 else if j = 2 then a3 else if j = 3 then a4 else a5
theorem e_feed {F : Nat} {τ : cT} {n t : Nat} {c : cS} {s : rs_S} {a1 a2 a3 a4 a5 : Int32} (hF : 21 ≤ F) (h1 : c.1 0 1 = nI t) (h2 : s.1 8 = nI t) (ht : t ≤ 400) :
    (t + 20 ≤ 400 ∧ o_X11_feed F τ n 0 c a1 a2 a3 a4 a5 = some (nI (t + 20), cset c (tp (c.1 1) t (five a1 a2 a3 a4 a5) 20) (nI (t + 20))) ∧ ∃ s', o_X12_feed F s a1 a2 a3 a4 a5 = some (nI (t + 20), s') ∧ s'.1 = va_up (pN s 0 (nI 0)).1 8 (nI (t + 20)) ∧ s'.2.1 = s.2.1 ∧ s'.2.2 4 = tp (s.2.2 4) t (five a1 a2 a3 a4 a5) 20 ∧ ∀ j, j ≠ 4 → j ≠ 5 → s'.2.2 j = s.2.2 j) ∨
    (o_X11_feed F τ n 0 c a1 a2 a3 a4 a5 = some (-1, c) ∧ o_X12_feed F s a1 a2 a3 a4 a5 = some (-1, pN s 0 (nI 0))) := by
  have e8 : (pN s 0 (nI 0)).1 8 = nI t := (pN_n (by decide)).trans h2
  unfold o_X11_feed o_X12_feed
  rw [h1, e8, nI_add]
  by_cases hq : t + 20 ≤ 400
  · left
    refine ⟨hq, ?_, ?_⟩
    · rw [if_pos (nI_le hq (by decide))]
      have b0 : o_X11_addBytes F τ n 0 c a1 = some (cset c (tp (c.1 1) t (five a1 a2 a3 a4 a5) 4) (nI (t + 4))) := by
        have h9 := o_addBytes (F := F) (τ := τ) (n := n) (t := t) (r := 0) (c := c) (f := c.1 1) (a := (five a1 a2 a3 a4 a5)) (by omega) (by decide) (by omega)
        rw [tp_0, Nat.add_zero, ← h1, cset_id] at h9
        exact h9
      have b1 : o_X11_addBytes F τ n 0 (cset c (tp (c.1 1) t (five a1 a2 a3 a4 a5) 4) (nI (t + 4))) a2 = some (cset c (tp (c.1 1) t (five a1 a2 a3 a4 a5) 8) (nI (t + 8))) := by
        exact o_addBytes (F := F) (τ := τ) (n := n) (t := t) (r := 4) (c := c) (f := c.1 1) (a := (five a1 a2 a3 a4 a5)) (by omega) (by decide) (by omega)
      have b2 : o_X11_addBytes F τ n 0 (cset c (tp (c.1 1) t (five a1 a2 a3 a4 a5) 8) (nI (t + 8))) a3 = some (cset c (tp (c.1 1) t (five a1 a2 a3 a4 a5) 12) (nI (t + 12))) := by
        exact o_addBytes (F := F) (τ := τ) (n := n) (t := t) (r := 8) (c := c) (f := c.1 1) (a := (five a1 a2 a3 a4 a5)) (by omega) (by decide) (by omega)
      have b3 : o_X11_addBytes F τ n 0 (cset c (tp (c.1 1) t (five a1 a2 a3 a4 a5) 12) (nI (t + 12))) a4 = some (cset c (tp (c.1 1) t (five a1 a2 a3 a4 a5) 16) (nI (t + 16))) := by
        exact o_addBytes (F := F) (τ := τ) (n := n) (t := t) (r := 12) (c := c) (f := c.1 1) (a := (five a1 a2 a3 a4 a5)) (by omega) (by decide) (by omega)
      have b4 : o_X11_addBytes F τ n 0 (cset c (tp (c.1 1) t (five a1 a2 a3 a4 a5) 16) (nI (t + 16))) a5 = some (cset c (tp (c.1 1) t (five a1 a2 a3 a4 a5) 20) (nI (t + 20))) := by
        exact o_addBytes (F := F) (τ := τ) (n := n) (t := t) (r := 16) (c := c) (f := c.1 1) (a := (five a1 a2 a3 a4 a5)) (by omega) (by decide) (by omega)
      rw [b0]
      simp only [Option.bind_some]
      rw [b1]
      simp only [Option.bind_some]
      rw [b2]
      simp only [Option.bind_some]
      rw [b3]
      simp only [Option.bind_some]
      rw [b4]
      simp only [Option.bind_some, cset_01]
    · rw [if_pos (nI_le hq (by decide))]
      generalize hs1 : pR (pR (pR (pR (pR (pN s 0 (nI 0)) 5 (nI 0) a1) 5 (nI 1) a2) 5 (nI 2) a3) 5 (nI 3) a4) 5 (nI 4) a5 = s1
      have k1 : s1.1 = (pN s 0 (nI 0)).1 := by rw [← hs1]; rfl
      have k2 : s1.2.1 = s.2.1 := by rw [← hs1]; rfl
      have k3 : ∀ j, j ≠ 5 → s1.2.2 j = s.2.2 j := fun j hj => by
        rw [← hs1]
        unfold pR
        simp only
        rw [va_up_ne _ _ hj, va_up_ne _ _ hj, va_up_ne _ _ hj, va_up_ne _ _ hj, va_up_ne _ _ hj]
        rfl
      have k4 : ∀ j, j < 5 → gR s1 5 (nI j) = five a1 a2 a3 a4 a5 j := fun j hj => by
        rw [← hs1]
        unfold pR gR
        simp only [va_up_self]
        match j, hj with
        | 0, _ => rfl
        | 1, _ => rfl
        | 2, _ => rfl
        | 3, _ => rfl
        | 4, _ => rfl
        | z + 5, hz => exact absurd hz (by omega)
      have l := feed_loop (F := F) (t := t) (s := s1) (f := s1.2.2 4) (a := five a1 a2 a3 a4 a5) (by rw [k1]; exact e8) hq k4 20 F 0 (by omega) (by omega)
      have l0 : rset s1 (tp (s1.2.2 4) t (five a1 a2 a3 a4 a5) 0) = s1 := by
        rw [tp_0]
        unfold rset
        refine Prod.ext rfl (Prod.ext rfl (funext fun q => ?_))
        show va_up s1.2.2 4 (s1.2.2 4) q = s1.2.2 q
        by_cases e : q = 4
        · subst e; rw [va_up_self]
        · rw [va_up_ne _ _ e]
      rw [l0] at l
      rw [l]
      simp only [Option.bind_some]
      have k5 : (rset s1 (tp (s1.2.2 4) t (five a1 a2 a3 a4 a5) 20)).1 8 = nI t := by show s1.1 8 = nI t; rw [k1]; exact e8
      rw [k5, nI_add]
      refine ⟨pN (rset s1 (tp (s1.2.2 4) t (five a1 a2 a3 a4 a5) 20)) 8 (nI (t + 20)), ?_, ?_, k2, ?_, ?_⟩
      · have h9 : (pN (rset s1 (tp (s1.2.2 4) t (five a1 a2 a3 a4 a5) 20)) 8 (nI (t + 20))).1 8 = nI (t + 20) := by show va_up s1.1 8 (nI (t + 20)) 8 = nI (t + 20); exact va_up_self _ _ _
        rw [h9]
      · show va_up s1.1 8 (nI (t + 20)) = _
        rw [k1]
      · show va_up s1.2.2 4 (tp (s1.2.2 4) t (five a1 a2 a3 a4 a5) 20) 4 = _
        rw [va_up_self, k3 4 (by decide)]
      · intro j h4 h5
        show va_up s1.2.2 4 (tp (s1.2.2 4) t (five a1 a2 a3 a4 a5) 20) j = _
        rw [va_up_ne _ _ h4, k3 j h5]
  · right
    rw [if_neg (nI_ge (show 400 < t + 20 by omega) (by omega)), if_neg (nI_ge (show 400 < t + 20 by omega) (by omega))]
    exact ⟨rfl, rfl⟩
