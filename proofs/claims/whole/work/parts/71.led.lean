/-! THE PURE LAYER: led -/
section LED
variable {F : Nat} {x : Nat → Int32} {τ : cT} {n k d i j m w : Nat} {c : cS} {s : rs_S} {v : Nat → Int32} {R : Nat → Nat}
noncomputable def cnt (P : Nat → Prop) : Nat → Nat
  | 0 => 0
  | i + 1 => cnt P i + ifc (P i) 1 0
theorem cnt_iff {P Q : Nat → Prop} : ∀ m, (∀ t, t < m → (P t ↔ Q t)) → cnt P m = cnt Q m := by
  intro m
  induction m with
  | zero => intro _; rfl
  | succ m ih =>
    intro h
    rw [cnt, cnt, ih (fun t ht => h t (by omega))]
    by_cases q : P m
    · rw [ifc_pos q, ifc_pos ((h m (by omega)).mp q)]
    · rw [ifc_neg q, ifc_neg (fun e => q ((h m (by omega)).mpr e))]
theorem cnt_one {P : Nat → Prop} {a : Nat} (hn : ¬ P a) : ∀ m, a < m → cnt (fun t => P t ∨ t = a) m = cnt P m + 1 := by
  intro m
  induction m with
  | zero => intro h; omega
  | succ m ih =>
    intro h
    rw [cnt, cnt]
    by_cases e : a = m
    · subst e
      rw [ifc_pos (Or.inr rfl), ifc_neg hn, cnt_iff (Q := P) a (fun t ht => ⟨fun q => q.resolve_right (by omega), Or.inl⟩)]
    · rw [ih (by omega)]
      by_cases q : P m
      · rw [ifc_pos (Or.inl q), ifc_pos q]
      · rw [ifc_neg (fun r => r.elim q (fun e2 => e e2.symm)), ifc_neg q]
theorem cnt_img : ∀ j, (∀ i, i < j → R i < m) → (∀ i i', i < i' → i' < j → R i ≠ R i') → cnt (fun t => ∃ i, i < j ∧ R i = t) m = j := by
  intro j
  induction j with
  | zero =>
    intro _ _
    rw [cnt_iff (Q := fun _ => False) m (fun t _ => ⟨fun ⟨i, h, _⟩ => absurd h (by omega), False.elim⟩)]
    have : ∀ m, cnt (fun _ => False) m = 0 := fun m => by
      induction m with
      | zero => rfl
      | succ m ih => rw [cnt, ih, ifc_neg id]
    exact this m
  | succ j ih =>
    intro h1 h2
    have a1 := ih (fun i hi => h1 i (by omega)) (fun i i' a b => h2 i i' a (by omega))
    have a2 := cnt_one (P := fun t => ∃ i, i < j ∧ R i = t) (a := R j) (fun ⟨i, hi, e⟩ => h2 i j hi (by omega) e) m (h1 j (by omega))
    rw [a1] at a2
    rw [← a2]
    refine cnt_iff m (fun t _ => ⟨fun ⟨i, hi, e⟩ => ?_, fun q => ?_⟩)
    · by_cases e2 : i = j
      · subst e2; exact Or.inr e.symm
      · exact Or.inl ⟨i, by omega, e⟩
    · rcases q with ⟨i, hi, e⟩ | e
      · exact ⟨i, by omega, e⟩
      · exact ⟨j, by omega, e.symm⟩
theorem SR.cnt_R (h : SR v k d m w R) (hj : j < w) : cnt (fun t => wtg v t ∧ ahd v k d t (R j)) m = j := by
  obtain ⟨h1, h2, h3, h4⟩ := h
  refine Eq.trans (cnt_iff (Q := fun t => ∃ i, i < j ∧ R i = t) m (fun t ht => ⟨fun ⟨q1, q2⟩ => ?_, fun ⟨i, hi, e⟩ => ?_⟩)) (cnt_img (R := R) (m := m) j (fun i hi => (h2 i (by omega)).1) (fun i i' a b e => by
    have := h3 i i' a (by omega)
    rw [e] at this
    exact ahd_irr this))
  · obtain ⟨i, i1, i2⟩ := h4 t ht q1
    refine ⟨i, ?_, i2⟩
    by_cases e : i < j
    · exact e
    · by_cases e2 : i = j
      · subst e2; rw [i2] at q2; exact absurd q2 ahd_irr
      · have := h3 j i (by omega) i1
        rw [i2] at this
        exact absurd q2 (ahd_as this)
  · subst e
    exact ⟨(h2 i (by omega)).2, h3 i j hi hj⟩
theorem cah_loop {t : Nat} (h : RX τ n c 10 v) (ht : t < N (v 1211)) (hk : k < 4) (hd : d < 2) : ∀ (r i f : Nat), i + r = N (v 1211) → r < f → o_X2_countAheadOf_32 F τ n 10 (nI t) (nI (k + 4 * d)) c f (nI (cnt (fun u => wtg v u ∧ ahd v k d u t) i)) (nI i) = some (nI (cnt (fun u => wtg v u ∧ ahd v k d u t) (N (v 1211)))) := by
  have hm := h.n1211
  have e1 : c.1 (10 + 27) 3 = nI (N (v 1211)) := (h.pl 1211 27 3 rfl).trans hm.1
  intro r
  induction r with
  | zero =>
    intro i f hi hf
    obtain ⟨f, rfl⟩ : ∃ x, f = x + 1 := ⟨f - 1, by omega⟩
    rw [o_X2_countAheadOf_32, e1, if_pos (nI_yes (by omega) (by omega) (by omega)), show i = N (v 1211) by omega]
  | succ r ih =>
    intro i f hi hf
    obtain ⟨f, rfl⟩ : ∃ x, f = x + 1 := ⟨f - 1, by omega⟩
    have ih' := ih (i + 1) f (by omega) (by omega)
    rw [cnt] at ih'
    rw [o_X2_countAheadOf_32, e1, if_neg (nI_no (by omega) (by omega) (by omega)), if_pos (iL_t (show i < 80 by omega) (by decide)), nI_clamp (by omega), nI_add, o_ahead h (by omega) ht hk hd]
    simp only [Option.bind_some]
    rw [show c.1 (10 + 39 + 1 + i) 10 = v (1212 + 18 * i + 9) from h.shp i (by omega) 10 9 rfl]
    by_cases q1 : v (1212 + 18 * i + 9) = 0
    · rw [if_pos q1]
      by_cases q2 : ahd v k d i t
      · rw [ifc_pos q2, if_neg (show ¬ nI 1 = 0 by decide), nI_add]
        rw [ifc_pos ⟨q1, q2⟩] at ih'
        exact ih'
      · rw [ifc_neg q2, if_pos nI_0]
        rw [ifc_neg (fun e => q2 e.2)] at ih'
        exact ih'
    · rw [if_neg q1]
      rw [ifc_neg (fun e => q1 e.1)] at ih'
      exact ih'
theorem fnd_loop {t w : Nat} (hw : s.1 6 = nI w) (hw8 : w ≤ 80) (hR : ∀ j, j < w → s.2.2 3 j = nI (R j)) (hR8 : ∀ j, j < w → R j < 80) (ht : t < 80) : ∀ (r i f : Nat), i + r = w → r < f → (∃ j, i ≤ j ∧ j < w ∧ R j = t ∧ o_X12_led_196 F (nI t) s f (nI i) = some (.inr (nI j, s))) ∨ ((∀ j, i ≤ j → j < w → R j ≠ t) ∧ o_X12_led_196 F (nI t) s f (nI i) = some (.inl ())) := by
  intro r
  induction r with
  | zero =>
    intro i f hi hf
    obtain ⟨f, rfl⟩ : ∃ x, f = x + 1 := ⟨f - 1, by omega⟩
    right
    rw [o_X12_led_196, hw, if_pos (nI_yes (by omega) (by omega) (by omega))]
    exact ⟨fun j j1 j2 => by omega, rfl⟩
  | succ r ih =>
    intro i f hi hf
    obtain ⟨f, rfl⟩ : ∃ x, f = x + 1 := ⟨f - 1, by omega⟩
    have b := hR8 i (by omega)
    rw [o_X12_led_196, hw, if_neg (nI_no (by omega) (by omega) (by omega)), if_pos (iL_t (show i < 80 by omega) (by decide)), gR_n _ _ (by omega), hR i (by omega), nI_add]
    by_cases e : R i = t
    · rw [if_pos (by rw [e])]
      exact Or.inl ⟨i, Nat.le_refl _, by omega, e, rfl⟩
    · rw [if_neg (nI_inj (by omega) (by omega) e)]
      rcases ih (i + 1) f (by omega) (by omega) with ⟨j, j1, j2, j3, j4⟩ | ⟨j1, j2⟩
      · exact Or.inl ⟨j, by omega, j2, j3, j4⟩
      · refine Or.inr ⟨fun j h1 h2 => ?_, j2⟩
        by_cases e2 : j = i
        · subst e2; exact e
        · exact j1 j (by omega) h2
theorem Rel.sl {s' : rs_S} (h : Rel τ n c s) (hI : LI τ n) (hs : Sl s s') : Rel τ n c s' := h.now hI Nw.refl (by rw [hs.1]; exact h.b) (fun j hj => hs.2.1 j (by omega)) (fun j hj => hs.2.2 j (by omega))
theorem e_led9 {t : Nat} (hF : 30000 ≤ F) (hI : LI τ n) (h : Rel τ n c s) (ht : t < N (s.2.1 1211)) : ∃ y s1, o_X2_countAheadOf F τ n 10 c (nI t) = some y ∧ ((o_X12_lines F s).bind fun x29 => (o_X12_led_196 F (nI t) x29 F (nI 0)).bind fun x33 => Sum.elim (fun y34 => some ((-1), x29)) (fun z35 => some z35) x33) = some (y, s1) ∧ Sl s s1 := by
  have n1 := h.b.n1211
  have t80 : t < 80 := by omega
  obtain ⟨k, d, hk, hd, t1, t2⟩ := h.b.trn (F := F) hI h.z (by omega)
  have lr := h.b.lastS (F := F) (x := nI 4) (w := nI 0) (by omega)
  rw [t2] at lr
  obtain ⟨s1, w, R, a1, a2, a3, a4, a5⟩ := o_lines (F := F) (s := s) (by omega) hk hd h.b.rg lr
  rw [a1]
  simp only [Option.bind_some]
  have R80 : ∀ j, j < w → R j < 80 := fun j hj => by
    have := (a5.2.1 j hj).1
    omega
  have w80 : w ≤ 80 := by
    have := a5.1
    omega
  obtain ⟨p, b1, b2, b3, b4⟩ := h.b.lawNow (F := F) hI h.z (by omega)
  unfold o_X2_countAheadOf
  rw [if_pos (iL_t t80 (by decide)), nI_clamp (by omega), show c.1 (10 + 39 + 1 + t) 10 = s.2.1 (1212 + 18 * t + 9) from h.b.shp t ht 10 9 rfl, b1]
  simp only [Option.bind_some]
  rw [← b2] at t1
  rw [if_pos b3, t1]
  simp only [Option.bind_some]
  rcases fnd_loop (F := F) (t := t) a3 w80 a4 R80 t80 w 0 F (Nat.zero_add _) (by omega) with ⟨j, j1, j2, j3, j4⟩ | ⟨j1, j2⟩
  · have wt : s.2.1 (1212 + 18 * t + 9) = 0 := by have := (a5.2.1 j j2).2; rw [j3] at this; exact this
    have cl := cah_loop (F := F) (τ := τ) (n := n) (t := t) (k := k) (d := d) h.b.x ht hk hd _ 0 F (Nat.zero_add _) (by omega)
    have cj := a5.cnt_R j2
    rw [j3] at cj
    rw [cj, cnt] at cl
    rw [if_pos wt, cl, j4]
    exact ⟨_, _, rfl, rfl, a2⟩
  · have wt : ¬ s.2.1 (1212 + 18 * t + 9) = 0 := fun e => by
      obtain ⟨j, i1, i2⟩ := a5.2.2.2 t ht e
      exact j1 j (by omega) i1 i2
    rw [if_neg wt, j2]
    exact ⟨_, _, rfl, rfl, a2⟩
theorem led_0 (hF : 30000 ≤ F) (hI : LI τ n) (h : Rel τ n c s) (q : x 2 = nI 0) : stp Rel F 15 x τ n c s := by
  show (∃ v c' s', o_X11_led F τ n 0 c (x 1) (x 2) = some (.inl (v, c')) ∧ o_X12_led F s (x 1) (x 2) = some (v, s') ∧ s'.1 0 = nI 0 ∧ Rel τ n c' s') ∨ _
  have n1 := h.b.n1211
  have e1 : c.1 (0 + 37) 3 = nI (N (s.2.1 1211)) := (h.b.pl 1211 27 3 rfl).trans n1.1
  have hb0 : RB τ n c 10 (pN s 0 (nI 0)).2.1 := h.b
  have h0 := h.pn (nI 0)
  unfold o_X11_led o_X12_led o_X12_noShip
  rw [e1, show gW (pN s 0 (nI 0)) (nI 1211) = nI (N (s.2.1 1211)) by rw [gW_pN, gW_n _ (by decide)]; exact n1.1, q]
  rcases ix (x 1) (N (s.2.1 1211)) (by omega) with ⟨t, ht, et, w1, r1⟩ | ⟨w1, r1⟩
  · rw [et] at w1 r1 ⊢
    have t80 : t < 80 := by omega
    have es := fun f g hfg => h.b.shp t ht f g hfg
    simp only [show 10 + 40 + t = 50 + t by omega] at es
    simp only [w1, r1, Option.bind_some, Sum.elim_inl, z0, z1, if_true, if_false, tI0, if_pos (iL_t t80 (show 80 < 2 ^ 31 by decide)), nI_clamp (show t < 2 ^ 31 by omega), show 0 + 49 + 1 + t = 50 + t by omega, if_pos (show (nI 0 : Int32) = nI 0 from rfl)]
    rw [es 10 9 rfl, o_of t80 (by decide)]
    exact Or.inl ⟨_, _, _, rfl, rfl, pN0 _ _, h0⟩
  · simp only [w1, r1, Option.bind_some, z0, z1, if_true, if_false, tI1, Sum.elim_inr]
    exact Or.inr (Or.inl ⟨_, _, _, rfl, rfl, pN0 _ _, h.pn2 _ _⟩)
theorem led_1 (hF : 30000 ≤ F) (hI : LI τ n) (h : Rel τ n c s) (q : x 2 = nI 1) : stp Rel F 15 x τ n c s := by
  show (∃ v c' s', o_X11_led F τ n 0 c (x 1) (x 2) = some (.inl (v, c')) ∧ o_X12_led F s (x 1) (x 2) = some (v, s') ∧ s'.1 0 = nI 0 ∧ Rel τ n c' s') ∨ _
  have n1 := h.b.n1211
  have e1 : c.1 (0 + 37) 3 = nI (N (s.2.1 1211)) := (h.b.pl 1211 27 3 rfl).trans n1.1
  have hb0 : RB τ n c 10 (pN s 0 (nI 0)).2.1 := h.b
  have h0 := h.pn (nI 0)
  unfold o_X11_led o_X12_led o_X12_noShip
  rw [e1, show gW (pN s 0 (nI 0)) (nI 1211) = nI (N (s.2.1 1211)) by rw [gW_pN, gW_n _ (by decide)]; exact n1.1, q]
  rcases ix (x 1) (N (s.2.1 1211)) (by omega) with ⟨t, ht, et, w1, r1⟩ | ⟨w1, r1⟩
  · rw [et] at w1 r1 ⊢
    have t80 : t < 80 := by omega
    have es := fun f g hfg => h.b.shp t ht f g hfg
    simp only [show 10 + 40 + t = 50 + t by omega] at es
    simp only [w1, r1, Option.bind_some, Sum.elim_inl, z0, z1, if_true, if_false, tI0, if_pos (iL_t t80 (show 80 < 2 ^ 31 by decide)), nI_clamp (show t < 2 ^ 31 by omega), show 0 + 49 + 1 + t = 50 + t by omega, if_neg (show ¬ (nI 1 : Int32) = nI 0 by decide), if_pos (show (nI 1 : Int32) = nI 1 from rfl)]
    rw [es 11 10 rfl, o_of t80 (by decide)]
    exact Or.inl ⟨_, _, _, rfl, rfl, pN0 _ _, h0⟩
  · simp only [w1, r1, Option.bind_some, z0, z1, if_true, if_false, tI1, Sum.elim_inr]
    exact Or.inr (Or.inl ⟨_, _, _, rfl, rfl, pN0 _ _, h.pn2 _ _⟩)
theorem led_2 (hF : 30000 ≤ F) (hI : LI τ n) (h : Rel τ n c s) (q : x 2 = nI 2) : stp Rel F 15 x τ n c s := by
  show (∃ v c' s', o_X11_led F τ n 0 c (x 1) (x 2) = some (.inl (v, c')) ∧ o_X12_led F s (x 1) (x 2) = some (v, s') ∧ s'.1 0 = nI 0 ∧ Rel τ n c' s') ∨ _
  have n1 := h.b.n1211
  have e1 : c.1 (0 + 37) 3 = nI (N (s.2.1 1211)) := (h.b.pl 1211 27 3 rfl).trans n1.1
  have hb0 : RB τ n c 10 (pN s 0 (nI 0)).2.1 := h.b
  have h0 := h.pn (nI 0)
  unfold o_X11_led o_X12_led o_X12_noShip
  rw [e1, show gW (pN s 0 (nI 0)) (nI 1211) = nI (N (s.2.1 1211)) by rw [gW_pN, gW_n _ (by decide)]; exact n1.1, q]
  rcases ix (x 1) (N (s.2.1 1211)) (by omega) with ⟨t, ht, et, w1, r1⟩ | ⟨w1, r1⟩
  · rw [et] at w1 r1 ⊢
    have t80 : t < 80 := by omega
    have es := fun f g hfg => h.b.shp t ht f g hfg
    simp only [show 10 + 40 + t = 50 + t by omega] at es
    simp only [w1, r1, Option.bind_some, Sum.elim_inl, z0, z1, if_true, if_false, tI0, if_pos (iL_t t80 (show 80 < 2 ^ 31 by decide)), nI_clamp (show t < 2 ^ 31 by omega), show 0 + 49 + 1 + t = 50 + t by omega, if_neg (show ¬ (nI 2 : Int32) = nI 0 by decide), if_neg (show ¬ (nI 2 : Int32) = nI 1 by decide), if_pos (show (nI 2 : Int32) = nI 2 from rfl)]
    rw [es 12 11 rfl, o_of t80 (by decide)]
    exact Or.inl ⟨_, _, _, rfl, rfl, pN0 _ _, h0⟩
  · simp only [w1, r1, Option.bind_some, z0, z1, if_true, if_false, tI1, Sum.elim_inr]
    exact Or.inr (Or.inl ⟨_, _, _, rfl, rfl, pN0 _ _, h.pn2 _ _⟩)
theorem led_3 (hF : 30000 ≤ F) (hI : LI τ n) (h : Rel τ n c s) (q : x 2 = nI 3) : stp Rel F 15 x τ n c s := by
  show (∃ v c' s', o_X11_led F τ n 0 c (x 1) (x 2) = some (.inl (v, c')) ∧ o_X12_led F s (x 1) (x 2) = some (v, s') ∧ s'.1 0 = nI 0 ∧ Rel τ n c' s') ∨ _
  have n1 := h.b.n1211
  have e1 : c.1 (0 + 37) 3 = nI (N (s.2.1 1211)) := (h.b.pl 1211 27 3 rfl).trans n1.1
  have hb0 : RB τ n c 10 (pN s 0 (nI 0)).2.1 := h.b
  have h0 := h.pn (nI 0)
  unfold o_X11_led o_X12_led o_X12_noShip
  rw [e1, show gW (pN s 0 (nI 0)) (nI 1211) = nI (N (s.2.1 1211)) by rw [gW_pN, gW_n _ (by decide)]; exact n1.1, q]
  rcases ix (x 1) (N (s.2.1 1211)) (by omega) with ⟨t, ht, et, w1, r1⟩ | ⟨w1, r1⟩
  · rw [et] at w1 r1 ⊢
    have t80 : t < 80 := by omega
    have es := fun f g hfg => h.b.shp t ht f g hfg
    simp only [show 10 + 40 + t = 50 + t by omega] at es
    simp only [w1, r1, Option.bind_some, Sum.elim_inl, z0, z1, if_true, if_false, tI0, if_pos (iL_t t80 (show 80 < 2 ^ 31 by decide)), nI_clamp (show t < 2 ^ 31 by omega), show 0 + 49 + 1 + t = 50 + t by omega, if_neg (show ¬ (nI 3 : Int32) = nI 0 by decide), if_neg (show ¬ (nI 3 : Int32) = nI 1 by decide), if_neg (show ¬ (nI 3 : Int32) = nI 2 by decide), if_pos (show (nI 3 : Int32) = nI 3 from rfl)]
    rw [es 9 8 rfl, o_of t80 (by decide)]
    exact Or.inl ⟨_, _, _, rfl, rfl, pN0 _ _, h0⟩
  · simp only [w1, r1, Option.bind_some, z0, z1, if_true, if_false, tI1, Sum.elim_inr]
    exact Or.inr (Or.inl ⟨_, _, _, rfl, rfl, pN0 _ _, h.pn2 _ _⟩)
theorem led_4 (hF : 30000 ≤ F) (hI : LI τ n) (h : Rel τ n c s) (q : x 2 = nI 4) : stp Rel F 15 x τ n c s := by
  show (∃ v c' s', o_X11_led F τ n 0 c (x 1) (x 2) = some (.inl (v, c')) ∧ o_X12_led F s (x 1) (x 2) = some (v, s') ∧ s'.1 0 = nI 0 ∧ Rel τ n c' s') ∨ _
  have n1 := h.b.n1211
  have e1 : c.1 (0 + 37) 3 = nI (N (s.2.1 1211)) := (h.b.pl 1211 27 3 rfl).trans n1.1
  have hb0 : RB τ n c 10 (pN s 0 (nI 0)).2.1 := h.b
  have h0 := h.pn (nI 0)
  unfold o_X11_led o_X12_led o_X12_noShip
  rw [e1, show gW (pN s 0 (nI 0)) (nI 1211) = nI (N (s.2.1 1211)) by rw [gW_pN, gW_n _ (by decide)]; exact n1.1, q]
  rcases ix (x 1) (N (s.2.1 1211)) (by omega) with ⟨t, ht, et, w1, r1⟩ | ⟨w1, r1⟩
  · rw [et] at w1 r1 ⊢
    have t80 : t < 80 := by omega
    have es := fun f g hfg => h.b.shp t ht f g hfg
    simp only [show 10 + 40 + t = 50 + t by omega] at es
    simp only [w1, r1, Option.bind_some, Sum.elim_inl, z0, z1, if_true, if_false, tI0, if_pos (iL_t t80 (show 80 < 2 ^ 31 by decide)), nI_clamp (show t < 2 ^ 31 by omega), show 0 + 49 + 1 + t = 50 + t by omega, if_neg (show ¬ (nI 4 : Int32) = nI 0 by decide), if_neg (show ¬ (nI 4 : Int32) = nI 1 by decide), if_neg (show ¬ (nI 4 : Int32) = nI 2 by decide), if_neg (show ¬ (nI 4 : Int32) = nI 3 by decide), if_pos (show (nI 4 : Int32) = nI 4 from rfl)]
    rw [es 13 12 rfl, o_of t80 (by decide)]
    exact Or.inl ⟨_, _, _, rfl, rfl, pN0 _ _, h0⟩
  · simp only [w1, r1, Option.bind_some, z0, z1, if_true, if_false, tI1, Sum.elim_inr]
    exact Or.inr (Or.inl ⟨_, _, _, rfl, rfl, pN0 _ _, h.pn2 _ _⟩)
theorem led_5 (hF : 30000 ≤ F) (hI : LI τ n) (h : Rel τ n c s) (q : x 2 = nI 5) : stp Rel F 15 x τ n c s := by
  show (∃ v c' s', o_X11_led F τ n 0 c (x 1) (x 2) = some (.inl (v, c')) ∧ o_X12_led F s (x 1) (x 2) = some (v, s') ∧ s'.1 0 = nI 0 ∧ Rel τ n c' s') ∨ _
  have n1 := h.b.n1211
  have e1 : c.1 (0 + 37) 3 = nI (N (s.2.1 1211)) := (h.b.pl 1211 27 3 rfl).trans n1.1
  have hb0 : RB τ n c 10 (pN s 0 (nI 0)).2.1 := h.b
  have h0 := h.pn (nI 0)
  unfold o_X11_led o_X12_led o_X12_noShip
  rw [e1, show gW (pN s 0 (nI 0)) (nI 1211) = nI (N (s.2.1 1211)) by rw [gW_pN, gW_n _ (by decide)]; exact n1.1, q]
  rcases ix (x 1) (N (s.2.1 1211)) (by omega) with ⟨t, ht, et, w1, r1⟩ | ⟨w1, r1⟩
  · rw [et] at w1 r1 ⊢
    have t80 : t < 80 := by omega
    have es := fun f g hfg => h.b.shp t ht f g hfg
    simp only [show 10 + 40 + t = 50 + t by omega] at es
    simp only [w1, r1, Option.bind_some, Sum.elim_inl, z0, z1, if_true, if_false, tI0, if_pos (iL_t t80 (show 80 < 2 ^ 31 by decide)), nI_clamp (show t < 2 ^ 31 by omega), show 0 + 49 + 1 + t = 50 + t by omega, if_neg (show ¬ (nI 5 : Int32) = nI 0 by decide), if_neg (show ¬ (nI 5 : Int32) = nI 1 by decide), if_neg (show ¬ (nI 5 : Int32) = nI 2 by decide), if_neg (show ¬ (nI 5 : Int32) = nI 3 by decide), if_neg (show ¬ (nI 5 : Int32) = nI 4 by decide), if_pos (show (nI 5 : Int32) = nI 5 from rfl)]
    rw [es 14 13 rfl, o_of t80 (by decide)]
    exact Or.inl ⟨_, _, _, rfl, rfl, pN0 _ _, h0⟩
  · simp only [w1, r1, Option.bind_some, z0, z1, if_true, if_false, tI1, Sum.elim_inr]
    exact Or.inr (Or.inl ⟨_, _, _, rfl, rfl, pN0 _ _, h.pn2 _ _⟩)
theorem led_6 (hF : 30000 ≤ F) (hI : LI τ n) (h : Rel τ n c s) (q : x 2 = nI 6) : stp Rel F 15 x τ n c s := by
  show (∃ v c' s', o_X11_led F τ n 0 c (x 1) (x 2) = some (.inl (v, c')) ∧ o_X12_led F s (x 1) (x 2) = some (v, s') ∧ s'.1 0 = nI 0 ∧ Rel τ n c' s') ∨ _
  have n1 := h.b.n1211
  have e1 : c.1 (0 + 37) 3 = nI (N (s.2.1 1211)) := (h.b.pl 1211 27 3 rfl).trans n1.1
  have hb0 : RB τ n c 10 (pN s 0 (nI 0)).2.1 := h.b
  have h0 := h.pn (nI 0)
  unfold o_X11_led o_X12_led o_X12_noShip
  rw [e1, show gW (pN s 0 (nI 0)) (nI 1211) = nI (N (s.2.1 1211)) by rw [gW_pN, gW_n _ (by decide)]; exact n1.1, q]
  rcases ix (x 1) (N (s.2.1 1211)) (by omega) with ⟨t, ht, et, w1, r1⟩ | ⟨w1, r1⟩
  · rw [et] at w1 r1 ⊢
    have t80 : t < 80 := by omega
    have es := fun f g hfg => h.b.shp t ht f g hfg
    simp only [show 10 + 40 + t = 50 + t by omega] at es
    simp only [w1, r1, Option.bind_some, Sum.elim_inl, z0, z1, if_true, if_false, tI0, if_pos (iL_t t80 (show 80 < 2 ^ 31 by decide)), nI_clamp (show t < 2 ^ 31 by omega), show 0 + 49 + 1 + t = 50 + t by omega, if_neg (show ¬ (nI 6 : Int32) = nI 0 by decide), if_neg (show ¬ (nI 6 : Int32) = nI 1 by decide), if_neg (show ¬ (nI 6 : Int32) = nI 2 by decide), if_neg (show ¬ (nI 6 : Int32) = nI 3 by decide), if_neg (show ¬ (nI 6 : Int32) = nI 4 by decide), if_neg (show ¬ (nI 6 : Int32) = nI 5 by decide), if_pos (show (nI 6 : Int32) = nI 6 from rfl)]
    rw [es 10 9 rfl, o_of t80 (show 9 < 18 by decide), Option.bind_some]
    by_cases g4 : s.2.1 (1212 + 18 * t + 9) = nI 4
    · have g4' : (pN s 0 (nI 0)).2.1 (1212 + 18 * t + 9) = nI 4 := g4
      rw [if_pos g4, if_pos g4', es 15 14 rfl, o_of t80 (show 14 < 18 by decide), Option.bind_some]
      exact Or.inl ⟨_, _, _, rfl, rfl, pN0 _ _, h0⟩
    · have g4' : ¬ (pN s 0 (nI 0)).2.1 (1212 + 18 * t + 9) = nI 4 := g4
      rw [if_neg g4, if_neg g4', o_of t80 (show 17 < 18 by decide), Option.bind_some]
      obtain ⟨p, l1, l2, l3⟩ := hb0.lawOf hI h.z ht
      have hp := act_pl hI l2
      rw [l1]
      simp only [Option.bind_some]
      unfold o_X2_stayOf o_X12_hour
      rw [if_pos l2, es 10 9 rfl, if_neg g4, o_of t80 (show 8 < 18 by decide), show c.1 (50 + t) 9 = (pN s 0 (nI 0)).2.1 (1212 + 18 * t + 8) from es 9 8 rfl, gW_n _ (by decide), show c.1 (0 + 10) 0 = (pN s 0 (nI 0)).2.1 0 from h.b.pl 0 0 0 rfl]
      simp only [Option.bind_some]
      obtain ⟨dd, c2, s2, d1, d2, d3, d4, d5, d6⟩ := o_due (F := F) (y := (pN s 0 (nI 0)).2.1 0 - (pN s 0 (nI 0)).2.1 (1212 + 18 * t + 8)) (by omega) hb0 ht l3 hp
      rw [show (0 + 10 : Nat) = 10 from rfl, d2, d3]
      exact Or.inl ⟨_, _, _, rfl, rfl, pN_sc d5, h0.sc hI d4 d5⟩
  · simp only [w1, r1, Option.bind_some, z0, z1, if_true, if_false, tI1, Sum.elim_inr]
    exact Or.inr (Or.inl ⟨_, _, _, rfl, rfl, pN0 _ _, h.pn2 _ _⟩)
theorem led_7 (hF : 30000 ≤ F) (hI : LI τ n) (h : Rel τ n c s) (q : x 2 = nI 7) : stp Rel F 15 x τ n c s := by
  show (∃ v c' s', o_X11_led F τ n 0 c (x 1) (x 2) = some (.inl (v, c')) ∧ o_X12_led F s (x 1) (x 2) = some (v, s') ∧ s'.1 0 = nI 0 ∧ Rel τ n c' s') ∨ _
  have n1 := h.b.n1211
  have e1 : c.1 (0 + 37) 3 = nI (N (s.2.1 1211)) := (h.b.pl 1211 27 3 rfl).trans n1.1
  have hb0 : RB τ n c 10 (pN s 0 (nI 0)).2.1 := h.b
  have h0 := h.pn (nI 0)
  unfold o_X11_led o_X12_led o_X12_noShip
  rw [e1, show gW (pN s 0 (nI 0)) (nI 1211) = nI (N (s.2.1 1211)) by rw [gW_pN, gW_n _ (by decide)]; exact n1.1, q]
  rcases ix (x 1) (N (s.2.1 1211)) (by omega) with ⟨t, ht, et, w1, r1⟩ | ⟨w1, r1⟩
  · rw [et] at w1 r1 ⊢
    have t80 : t < 80 := by omega
    have es := fun f g hfg => h.b.shp t ht f g hfg
    simp only [show 10 + 40 + t = 50 + t by omega] at es
    simp only [w1, r1, Option.bind_some, Sum.elim_inl, z0, z1, if_true, if_false, tI0, if_pos (iL_t t80 (show 80 < 2 ^ 31 by decide)), nI_clamp (show t < 2 ^ 31 by omega), show 0 + 49 + 1 + t = 50 + t by omega, if_neg (show ¬ (nI 7 : Int32) = nI 0 by decide), if_neg (show ¬ (nI 7 : Int32) = nI 1 by decide), if_neg (show ¬ (nI 7 : Int32) = nI 2 by decide), if_neg (show ¬ (nI 7 : Int32) = nI 3 by decide), if_neg (show ¬ (nI 7 : Int32) = nI 4 by decide), if_neg (show ¬ (nI 7 : Int32) = nI 5 by decide), if_neg (show ¬ (nI 7 : Int32) = nI 6 by decide), if_pos (show (nI 7 : Int32) = nI 7 from rfl)]
    rw [o_of t80 (by decide), pN_2]
    simp only [Option.bind_some]
    have b := h.b.bak t ht
    simp only [show 10 + 40 + t = 50 + t by omega] at b
    have e7 : c.1 (50 + t) 16 = mxi (nI 0) (s.2.1 (1212 + 18 * t + 15)) := by
      unfold mxi
      rcases b with ⟨b1, b2, b3⟩ | ⟨b1, b2, b3⟩
      · rw [b1, b2, if_neg (by decide)]
      · rw [b2]
        by_cases e : nI 0 < s.2.1 (1212 + 18 * t + 15)
        · rw [if_pos e]
        · rw [if_neg e]
          refine Int32.toInt_inj.mp ?_
          have := nlt_i e
          rw [nI_toInt (by decide)] at this ⊢
          omega
    rw [e7]
    exact Or.inl ⟨_, _, _, rfl, rfl, pN0 _ _, h0⟩
  · simp only [w1, r1, Option.bind_some, z0, z1, if_true, if_false, tI1, Sum.elim_inr]
    exact Or.inr (Or.inl ⟨_, _, _, rfl, rfl, pN0 _ _, h.pn2 _ _⟩)
theorem led_8 (hF : 30000 ≤ F) (hI : LI τ n) (h : Rel τ n c s) (q : x 2 = nI 8) : stp Rel F 15 x τ n c s := by
  show (∃ v c' s', o_X11_led F τ n 0 c (x 1) (x 2) = some (.inl (v, c')) ∧ o_X12_led F s (x 1) (x 2) = some (v, s') ∧ s'.1 0 = nI 0 ∧ Rel τ n c' s') ∨ _
  have n1 := h.b.n1211
  have e1 : c.1 (0 + 37) 3 = nI (N (s.2.1 1211)) := (h.b.pl 1211 27 3 rfl).trans n1.1
  have hb0 : RB τ n c 10 (pN s 0 (nI 0)).2.1 := h.b
  have h0 := h.pn (nI 0)
  unfold o_X11_led o_X12_led o_X12_noShip
  rw [e1, show gW (pN s 0 (nI 0)) (nI 1211) = nI (N (s.2.1 1211)) by rw [gW_pN, gW_n _ (by decide)]; exact n1.1, q]
  rcases ix (x 1) (N (s.2.1 1211)) (by omega) with ⟨t, ht, et, w1, r1⟩ | ⟨w1, r1⟩
  · rw [et] at w1 r1 ⊢
    have t80 : t < 80 := by omega
    have es := fun f g hfg => h.b.shp t ht f g hfg
    simp only [show 10 + 40 + t = 50 + t by omega] at es
    simp only [w1, r1, Option.bind_some, Sum.elim_inl, z0, z1, if_true, if_false, tI0, if_pos (iL_t t80 (show 80 < 2 ^ 31 by decide)), nI_clamp (show t < 2 ^ 31 by omega), show 0 + 49 + 1 + t = 50 + t by omega, if_neg (show ¬ (nI 8 : Int32) = nI 0 by decide), if_neg (show ¬ (nI 8 : Int32) = nI 1 by decide), if_neg (show ¬ (nI 8 : Int32) = nI 2 by decide), if_neg (show ¬ (nI 8 : Int32) = nI 3 by decide), if_neg (show ¬ (nI 8 : Int32) = nI 4 by decide), if_neg (show ¬ (nI 8 : Int32) = nI 5 by decide), if_neg (show ¬ (nI 8 : Int32) = nI 6 by decide), if_neg (show ¬ (nI 8 : Int32) = nI 7 by decide), if_pos (show (nI 8 : Int32) = nI 8 from rfl)]
    rw [es 18 16 rfl, o_of t80 (by decide)]
    exact Or.inl ⟨_, _, _, rfl, rfl, pN0 _ _, h0⟩
  · simp only [w1, r1, Option.bind_some, z0, z1, if_true, if_false, tI1, Sum.elim_inr]
    exact Or.inr (Or.inl ⟨_, _, _, rfl, rfl, pN0 _ _, h.pn2 _ _⟩)
theorem led_9 (hF : 30000 ≤ F) (hI : LI τ n) (h : Rel τ n c s) (q : x 2 = nI 9) : stp Rel F 15 x τ n c s := by
  show (∃ v c' s', o_X11_led F τ n 0 c (x 1) (x 2) = some (.inl (v, c')) ∧ o_X12_led F s (x 1) (x 2) = some (v, s') ∧ s'.1 0 = nI 0 ∧ Rel τ n c' s') ∨ _
  have n1 := h.b.n1211
  have e1 : c.1 (0 + 37) 3 = nI (N (s.2.1 1211)) := (h.b.pl 1211 27 3 rfl).trans n1.1
  have hb0 : RB τ n c 10 (pN s 0 (nI 0)).2.1 := h.b
  have h0 := h.pn (nI 0)
  unfold o_X11_led o_X12_led o_X12_noShip
  rw [e1, show gW (pN s 0 (nI 0)) (nI 1211) = nI (N (s.2.1 1211)) by rw [gW_pN, gW_n _ (by decide)]; exact n1.1, q]
  rcases ix (x 1) (N (s.2.1 1211)) (by omega) with ⟨t, ht, et, w1, r1⟩ | ⟨w1, r1⟩
  · rw [et] at w1 r1 ⊢
    have t80 : t < 80 := by omega
    have es := fun f g hfg => h.b.shp t ht f g hfg
    simp only [show 10 + 40 + t = 50 + t by omega] at es
    simp only [w1, r1, Option.bind_some, Sum.elim_inl, z0, z1, if_true, if_false, tI0, if_pos (iL_t t80 (show 80 < 2 ^ 31 by decide)), nI_clamp (show t < 2 ^ 31 by omega), show 0 + 49 + 1 + t = 50 + t by omega, if_neg (show ¬ (nI 9 : Int32) = nI 0 by decide), if_neg (show ¬ (nI 9 : Int32) = nI 1 by decide), if_neg (show ¬ (nI 9 : Int32) = nI 2 by decide), if_neg (show ¬ (nI 9 : Int32) = nI 3 by decide), if_neg (show ¬ (nI 9 : Int32) = nI 4 by decide), if_neg (show ¬ (nI 9 : Int32) = nI 5 by decide), if_neg (show ¬ (nI 9 : Int32) = nI 6 by decide), if_neg (show ¬ (nI 9 : Int32) = nI 7 by decide), if_neg (show ¬ (nI 9 : Int32) = nI 8 by decide), if_pos (show (nI 9 : Int32) = nI 9 from rfl)]
    obtain ⟨y, s1, a1, a2, a3⟩ := e_led9 (F := F) hF hI h0 ht
    rw [show (0 + 10 : Nat) = 10 from rfl, a1]
    simp only [Option.bind_some]
    rw [a2]
    exact Or.inl ⟨_, _, _, rfl, rfl, by rw [a3.2.1 0 (by decide)]; exact pN0 _ _, h0.sl hI a3⟩
  · simp only [w1, r1, Option.bind_some, z0, z1, if_true, if_false, tI1, Sum.elim_inr]
    exact Or.inr (Or.inl ⟨_, _, _, rfl, rfl, pN0 _ _, h.pn2 _ _⟩)
theorem led_d (hF : 30000 ≤ F) (hI : LI τ n) (h : Rel τ n c s) (q0 : ¬ x 2 = nI 0) (q1 : ¬ x 2 = nI 1) (q2 : ¬ x 2 = nI 2) (q3 : ¬ x 2 = nI 3) (q4 : ¬ x 2 = nI 4) (q5 : ¬ x 2 = nI 5) (q6 : ¬ x 2 = nI 6) (q7 : ¬ x 2 = nI 7) (q8 : ¬ x 2 = nI 8) (q9 : ¬ x 2 = nI 9) : stp Rel F 15 x τ n c s := by
  show (∃ v c' s', o_X11_led F τ n 0 c (x 1) (x 2) = some (.inl (v, c')) ∧ o_X12_led F s (x 1) (x 2) = some (v, s') ∧ s'.1 0 = nI 0 ∧ Rel τ n c' s') ∨ _
  have n1 := h.b.n1211
  have e1 : c.1 (0 + 37) 3 = nI (N (s.2.1 1211)) := (h.b.pl 1211 27 3 rfl).trans n1.1
  have hb0 : RB τ n c 10 (pN s 0 (nI 0)).2.1 := h.b
  have h0 := h.pn (nI 0)
  unfold o_X11_led o_X12_led o_X12_noShip
  rw [e1, show gW (pN s 0 (nI 0)) (nI 1211) = nI (N (s.2.1 1211)) by rw [gW_pN, gW_n _ (by decide)]; exact n1.1]
  rcases ix (x 1) (N (s.2.1 1211)) (by omega) with ⟨t, ht, et, w1, r1⟩ | ⟨w1, r1⟩
  · rw [et] at w1 r1 ⊢
    have t80 : t < 80 := by omega
    have es := fun f g hfg => h.b.shp t ht f g hfg
    simp only [show 10 + 40 + t = 50 + t by omega] at es
    simp only [w1, r1, Option.bind_some, Sum.elim_inl, z0, z1, if_true, if_false, tI0, if_pos (iL_t t80 (show 80 < 2 ^ 31 by decide)), nI_clamp (show t < 2 ^ 31 by omega), show 0 + 49 + 1 + t = 50 + t by omega, if_neg q0, if_neg q1, if_neg q2, if_neg q3, if_neg q4, if_neg q5, if_neg q6, if_neg q7, if_neg q8, if_neg q9]
    exact Or.inr (Or.inr ⟨_, _, _, rfl, rfl, pN0 _ _, (h0.pn _).up⟩)
  · simp only [w1, r1, Option.bind_some, z0, z1, if_true, if_false, tI1, Sum.elim_inr]
    exact Or.inr (Or.inl ⟨_, _, _, rfl, rfl, pN0 _ _, h.pn2 _ _⟩)
theorem st15 (hF : 30000 ≤ F) (hI : LI τ n) (h : Rel τ n c s) : stp Rel F 15 x τ n c s := by
  by_cases q0 : x 2 = nI 0
  · exact led_0 hF hI h q0
  by_cases q1 : x 2 = nI 1
  · exact led_1 hF hI h q1
  by_cases q2 : x 2 = nI 2
  · exact led_2 hF hI h q2
  by_cases q3 : x 2 = nI 3
  · exact led_3 hF hI h q3
  by_cases q4 : x 2 = nI 4
  · exact led_4 hF hI h q4
  by_cases q5 : x 2 = nI 5
  · exact led_5 hF hI h q5
  by_cases q6 : x 2 = nI 6
  · exact led_6 hF hI h q6
  by_cases q7 : x 2 = nI 7
  · exact led_7 hF hI h q7
  by_cases q8 : x 2 = nI 8
  · exact led_8 hF hI h q8
  by_cases q9 : x 2 = nI 9
  · exact led_9 hF hI h q9
  exact led_d hF hI h q0 q1 q2 q3 q4 q5 q6 q7 q8 q9
end LED
