/-! THE PURE LAYER: act, propose, another -/
section ACT
variable {F : Nat} {x : Nat → Int32} {τ : cT} {n l m : Nat} {c c' : cS} {s s' : rs_S} {v : Nat → Int32}
theorem Rel.low (h : Rel τ n c s) (hI : LI τ n) (h1 : ∀ q, 10 ≤ q → c'.1 q = c.1 q) (h2 : c'.2 = c.2) (hv : ∀ q, q < 21334 → s'.2.1 q = s.2.1 q) (h3 : s'.1 3 = s.1 3) (h4 : s'.2.2 1 = s.2.2 1) (ht : RT c' s') : Rel τ n c' s' := by
  have hA : As τ n c c' := fun p hp j hj => by
    rcases act_pl hI hp with e | e
    · rw [h1 _ (by omega)]
    · rw [h1 _ (by omega)]
  have hg : Rg s'.2.1 := fun k => by
    rcases Nat.lt_or_ge k 21334 with g | g
    · rw [hv k g]; exact h.b.rg k
    · exact rg_any (rg_hi (by omega))
  refine Rel.mk (h.b.frame ext_id ⟨fun o ho j _ _ _ => by rw [h1 _ (by omega)], fun i hi => by rw [h2], fun a ha => by rw [h2], by rw [h2]⟩ hA (fun k hk => Or.inr (hv k hk)) hg) (by rw [h1 28 (by decide)]; exact h.z) ht ?_
  rcases h.i with ⟨q1, q2⟩ | ⟨y, q0, q1, q2, q3, q4⟩
  · exact Or.inl ⟨by rw [h2]; exact q1, by rw [h3]; exact q2⟩
  · refine Or.inr ⟨y, q0, by rw [h2]; exact q1, q2, by rw [h3]; exact q3, ?_⟩
    rw [h4]
    exact q4.frame ext_id ⟨fun o ho j _ _ _ => by rw [h1 _ (by omega)], fun i hi => by rw [h2], fun a ha => by rw [h2], by rw [h2]⟩ hA (fun _ _ => Or.inr rfl) q4.rg
def us (s : rs_S) : rs_S := pN (pN (pN s 0 (nI 0)) 10 ((pN s 0 (nI 0)).1 8)) 8 (nI 0)
theorem us_n {j : Nat} (h0 : j ≠ 0) (h1 : j ≠ 10) (h2 : j ≠ 8) : (us s).1 j = s.1 j := by unfold us; rw [pN_n h2, pN_n h1, pN_n h0]
theorem us_0 : (us s).1 0 = nI 0 := by unfold us; rw [pN_n (by decide), pN_n (by decide), pN_s]
theorem us_8 : (us s).1 8 = nI 0 := by unfold us; rw [pN_s]
theorem us_10 : (us s).1 10 = s.1 8 := by unfold us; rw [pN_n (by decide), pN_s, pN_n (by decide)]
theorem o_uses : o_X12_uses s = some (us s) := rfl
theorem Rel.used (h : Rel τ n c s) (hI : LI τ n) : Rel τ n (cp c 0 1 (nI 0)) (us s) := by
  obtain ⟨⟨t, t1, t2, t3⟩, t4, t5⟩ := h.t
  refine h.low hI (fun q hq => cp_1 _ (by omega)) rfl (fun _ _ => rfl) (us_n (by decide) (by decide) (by decide)) rfl ⟨⟨0, by decide, by rw [cp_q, upd_s], us_8⟩, fun i hi => ?_, ?_⟩
  · rw [cp_1 1 (by decide)]; exact t4 i hi
  · rw [cp_1 2 (by decide), us_n (by decide) (by decide) (by decide)]; exact t5
theorem Rel.reads (hF : 401 < F) (h : Rel τ n c s) (hI : LI τ n) : ∃ t, c.1 0 1 = nI t ∧ ∃ c' s', Rel τ n c' s' ∧ s'.1 0 = nI 0 ∧ ((∃ l m, o_X7_read F τ n 0 1 (cp c 0 1 (nI 0)) (nI t) = some (true, c') ∧ o_X12_reads F (us s) = some (nI l, s') ∧ TXR c' s'.2.1 l m) ∨ (o_X7_read F τ n 0 1 (cp c 0 1 (nI 0)) (nI t) = some (false, c') ∧ o_X12_reads F (us s) = some (-1, s'))) := by
  obtain ⟨⟨t, t1, t2, t3⟩, t4, t5⟩ := h.t
  have hu := h.used hI
  obtain ⟨c1, s1, r1, r2, r3⟩ := o_reads (F := F) (τ := τ) (n := n) (T := fun i => s.2.2 4 i) (L := t) (c := cp c 0 1 (nI 0)) (s := us s) hF t1 (fun i hi => by rw [cp_1 1 (by decide)]; exact t4 i hi) ⟨by rw [us_10]; exact t3, t1, fun i hi => rfl⟩
  obtain ⟨f1, f2, f3, f4, f5⟩ := r1
  refine ⟨t, t2, c1, s1, ?_, ?_, r3⟩
  · refine hu.low hI (fun q hq => f1 q (by omega)) f2 (fun q hq => f3 q (by omega)) (f5 3 (by decide) (by decide) (by decide) (by decide) (by decide)) (by rw [f4]) ⟨⟨0, by decide, ?_, ?_⟩, fun i hi => ?_, r2⟩
    · rw [f1 0 (by decide), cp_q, upd_s]
    · rw [f5 8 (by decide) (by decide) (by decide) (by decide) (by decide)]; exact us_8
    · rw [f1 1 (by decide), f4, cp_1 1 (by decide)]; exact t4 i hi
  · rw [f5 0 (by decide) (by decide) (by decide) (by decide) (by decide)]; exact us_0
/-- a text is laid down -/
theorem Rel.new (h : Rel τ n c s) (hI : LI τ n) : Rel (tA τ n l m) (n + 6) (iA c n 0 l m) s := by
  have h192 := hI.2.1
  have he : ext τ n (tA τ n l m) (n + 6) := tA_ext
  have c1 : ∀ q, q < n → (iA c n 0 l m).1 q = c.1 q := fun q hq => iA_o (by omega)
  have c2 : (iA c n 0 l m).2 = c.2 := rfl
  have hA : As τ n c (iA c n 0 l m) := fun p hp j hj => c1 _ (by have := (acb_all hp).1; omega)
  refine Rel.mk (h.b.frame he ⟨fun o ho j _ _ _ => by rw [c1 _ (by omega)], fun i hi => by rw [c2], fun a ha => by rw [c2], by rw [c2]⟩ hA (fun _ _ => Or.inr rfl) h.b.rg) (by rw [c1 28 (by omega)]; exact h.z) ?_ ?_
  · obtain ⟨⟨t, t1, t2, t3⟩, t4, t5⟩ := h.t
    exact ⟨⟨t, t1, by rw [c1 0 (by omega)]; exact t2, t3⟩, fun i hi => by rw [c1 1 (by omega)]; exact t4 i hi, by rw [c1 2 (by omega)]; exact t5⟩
  · rcases h.i with q | ⟨y, q0, q1, q2, q3, q4⟩
    · exact Or.inl q
    · have q5 := q2.1
      exact Or.inr ⟨y, q0, q1, ⟨by omega, fun o ho => by rw [he.2 _ (by omega)]; exact q2.2 o ho⟩, q3, q4.frame he ⟨fun o ho j _ _ _ => by rw [c1 _ (by omega)], fun i hi => by rw [c2], fun a ha => by rw [c2], by rw [c2]⟩ hA (fun _ _ => Or.inr rfl) q4.rg⟩
theorem RAct.new (h : TXR c v l m) : RAct (tA τ n l m) (iA c n 0 l m) n v 21 := by
  obtain ⟨h1, h2, h3, h4, h5, h6, h7⟩ := h
  have e1 : v (2812 + 882 * 21 + 1) = nI l := h5
  have eN : N (v (2812 + 882 * 21 + 1)) = l := by rw [e1]; exact N_nI (by omega)
  have i5 : ∀ i, i < l → (iA c n 0 l m).1 (n + 1) i = c.1 5 i := fun i hi => by rw [iA_3 (by omega), show 0 + 5 + (n + 1 - n - 1) = 5 by omega]; exact if_pos (by omega)
  have i6 : ∀ i, i < l → (iA c n 0 l m).1 (n + 2) i = c.1 6 i := fun i hi => by rw [iA_3 (by omega), show 0 + 5 + (n + 2 - n - 1) = 6 by omega]; exact if_pos (by omega)
  have i7 : ∀ i, i < l → (iA c n 0 l m).1 (n + 3) i = c.1 7 i := fun i hi => by rw [iA_3 (by omega), show 0 + 5 + (n + 3 - n - 1) = 7 by omega]; exact if_pos (by omega)
  have i8 : ∀ i, i < m → (iA c n 0 l m).1 (n + 4) i = c.1 8 i := fun i hi => by rw [iA_5 (by omega), show 0 + 5 + (n + 4 - n - 1) = 8 by omega]; exact if_pos (by omega)
  have i9 : ∀ i, i < m → (iA c n 0 l m).1 (n + 5) i = c.1 9 i := fun i hi => by rw [iA_5 (by omega), show 0 + 5 + (n + 5 - n - 1) = 9 by omega]; exact if_pos (by omega)
  have bg : ∀ i, i ≤ l → bgn ((iA c n 0 l m).1 (n + 3)) i = bgn (c.1 7) i := fun i hi => by
    cases i with
    | zero => rfl
    | succ i => show N _ = N _; rw [i7 i (by omega)]
  have t3 : ∀ j, n < j → j ≤ n + 3 → tl (tA τ n l m) j = l := fun j g1 g2 => by unfold tl; rw [tA_3 ⟨g1, g2⟩]
  have t5 : ∀ j, n + 3 < j → j ≤ n + 5 → tl (tA τ n l m) j = m := fun j g1 g2 => by unfold tl; rw [tA_5 ⟨g1, g2⟩]
  have t4 : tl (tA τ n l m) (n + 4) = m := t5 _ (by omega) (by omega)
  refine RAct.mk (by omega) (by rw [eN]; exact e1) ?_ (by rw [eN]; exact t3 _ (by omega) (by omega)) (by rw [eN]; exact t3 _ (by omega) (by omega)) (by rw [eN]; exact t3 _ (by omega) (by omega)) (by rw [t4]; exact h2) (by rw [t4]; exact t5 _ (by omega) (by omega)) ?_ ?_ ?_ ?_ ?_ ?_ ?_ ?_
  · rw [e1, iA_0]; exact h3
  · intro i hi; rw [eN] at hi; rw [i5 i hi]; exact (h6 i hi).kd
  · intro i hi; rw [eN] at hi; rw [i5 i hi, i6 i hi]; exact (h6 i hi).nm
  · intro i hi; rw [eN] at hi; rw [i5 i hi, i6 i hi]; exact (h6 i hi).n4
  · intro i hi; rw [eN] at hi; rw [i5 i hi, i6 i hi]; exact (h6 i hi).n2
  · intro i hi; rw [eN] at hi; rw [i5 i hi, i6 i hi]; exact (h6 i hi).n5
  · intro i hi; rw [eN] at hi; rw [i7 i hi, bg i (by omega), t4]; exact (h6 i hi).en
  · intro j hj; rw [t4] at hj; rw [i8 j hj, i9 j hj, show 2812 + 882 * 21 + 82 + 2 * j + 1 = 21417 + 2 * j by omega]; exact h7 j hj
  · intro i hi
    rw [eN] at hi
    rw [i7 i hi, bg i (by omega)]
    intro g
    have g4 := (h6 i hi).en.2.2.2.1
    rw [hgt_cg (f := c.1 8) _ (fun j q1 q2 => i8 j (by omega))]
    exact (h6 i hi).wf g
theorem ev_loop (h : RB τ n c 10 v) : ∀ (r i f : Nat), i + r = N (v 1090) → r < f → (∀ p, p < i → ¬ 0 < (v (1091 + 4 * p + 2)).toInt) → o_X6_everPaid_2 F τ n 10 c f (nI i) = some (ifc (∃ p, p < N (v 1090) ∧ 0 < (v (1091 + 4 * p + 2)).toInt) (.inr (nI 1)) (.inl ())) := by
  have n1 := h.n1090
  have e6 : c.1 (10 + 121) 6 = nI (N (v 1090)) := (h.pl 1090 121 6 rfl).trans n1.1
  intro r
  induction r with
  | zero =>
    intro i f hi hf hp
    obtain ⟨f, rfl⟩ : ∃ x, f = x + 1 := ⟨f - 1, by omega⟩
    rw [o_X6_everPaid_2, e6, if_pos (nI_yes (by omega) (by omega) (by omega)), ifc_neg]
    intro ⟨p, p1, p2⟩
    exact hp p (by omega) p2
  | succ r ih =>
    intro i f hi hf hp
    obtain ⟨f, rfl⟩ : ∃ x, f = x + 1 := ⟨f - 1, by omega⟩
    have i30 : i < 30 := by omega
    have e2 : c.1 (10 + 124) i = v (1091 + 4 * i + 2) := h.pl _ _ _ (wk_p (j := 2) i30 (by decide))
    rw [o_X6_everPaid_2, e6, if_neg (nI_no (by omega) (by omega) (by omega)), if_pos (iL_t i30 (by decide)), cg_n _ _ (by omega), e2, nI_add]
    have z : ((0 : Int32)).toInt = 0 := by decide
    by_cases g : v (1091 + 4 * i + 2) ≤ 0
    · rw [if_pos g]
      refine ih (i + 1) f (by omega) (by omega) (fun p hp2 => ?_)
      by_cases e : p = i
      · subst e
        rw [Int32.le_iff_toInt_le, z] at g
        omega
      · exact hp p (by omega)
    · rw [if_neg g, ifc_pos]
      rw [Int32.le_iff_toInt_le, z] at g
      exact ⟨i, by omega, by omega⟩
theorem o_ever (hF : 31 < F) (h : RB τ n c 10 v) : o_X6_everPaid F τ n 10 c = some (ifc (v 2660 = nI 1) (nI 1) (nI 0)) := by
  have n1 := h.n1090
  unfold o_X6_everPaid
  rw [ev_loop (F := F) h (N (v 1090)) 0 F (Nat.zero_add _) (by omega) (fun p hp => by omega), Option.bind_some]
  by_cases g : v 2660 = nI 1
  · rw [ifc_pos g, ifc_pos (h.cr.ev.mp g)]; rfl
  · rw [ifc_neg g, ifc_neg (fun q => g (h.cr.ev.mpr q))]; rfl
theorem ln_A {c : cS} (h : c.1 2 8 = nI l) (hl : l ≤ 20) : lnA c 0 = l := by
  show N (c.1 2 8) = l
  rw [h]; exact N_nI (by omega)
theorem st_A {c : cS} (h : c.1 2 11 = nI m) (hm : m ≤ 400) : stA c 0 = m := by
  show N (c.1 2 11) = m
  rw [h]; exact N_nI (by omega)
theorem n_14 {y : Nat} (hy : y < 2 ^ 31) : (0 : Int32) ≤ nI y := n0le hy
theorem st18 (hF : 30000 ≤ F) (hI : LI τ n) (h : Rel τ n c s) : stp Rel F 18 x τ n c s := by
  show (∃ q, ∃ v c' s', o_X11_act F τ n 0 c (x 1) = some (q, .inl (v, c')) ∧ o_X12_act F s (x 1) = some (v, s') ∧ s'.1 0 = nI 0 ∧ Rel (tQ τ n q) (nQ n q) c' s') ∨ _
  have hu := h.used hI
  have td : o_X2_today τ n (0 + 10) (cp c 0 1 (nI 0)) = some (s.2.1 0 / nI 24) := by
    unfold o_X2_today
    rw [cp_1 (0 + 10) (by decide), show c.1 (0 + 10) 0 = s.2.1 0 from h.b.pl 0 0 0 rfl]
  have td2 : o_X12_today (us s) = some (s.2.1 0 / nI 24) := by unfold o_X12_today; rw [gW_n _ (by decide)]; rfl
  obtain ⟨t, t1, c1, s1, r1, r2, r3⟩ := h.reads (F := F) (by omega) hI
  have A0 : o_X11_act F τ n 0 c (x 1) = (o_X11_within τ n (cp c 0 1 (nI 0)) (x 1) (s.2.1 0 / nI 24) (nI 1250)).bind fun x3 => ((o_X11_needArgument τ n (cp c 0 1 (nI 0)) x3).bind fun x4 => (Sum.elim (fun y5 => (o_X7_read F τ n 0 1 (cp c 0 1 (nI 0)) (nI t)).bind fun x7 => ((fun (x7b : Bool) (x7s : cS) => if x7b = true then ((o_X11_act_34 F (tA τ n (lnA x7s 0) (stA x7s 0)) (n + 6) 0 n (iA x7s n 0 (lnA x7s 0) (stA x7s 0)) (x 1)).map (fun y => (some ((lnA x7s 0), (stA x7s 0)), y))) else (some (none, .inr (1, x7s)))) x7.1 x7.2)) (fun z6 => some (none, .inr (z6, cp c 0 1 (nI 0)))) x4)) := by
    unfold o_X11_act o_X11_useTape
    rw [Option.bind_some]
    dsimp only
    rw [td, Option.bind_some, t1]
  have B0 : o_X12_act F s (x 1) = (o_X12_in (us s) (x 1) (s.2.1 0 / nI 24) (nI 1250)).bind fun x3 => (if x3 = 0 then (some (nI 0, pN (us s) 0 (nI 1))) else ((o_X12_reads F (us s)).bind fun x5 => (if 0 ≤ x5.1 then (if (gW x5.2 (nI 2660)) = (nI 1) then (some (nI 0, pN x5.2 0 (nI 2))) else (if (gW x5.2 (nI 2811)) = (nI 20) then (some (nI 0, pN x5.2 0 (nI 3))) else ((o_X12_copies F x5.2 (nI 21) (gW x5.2 (nI 2811)) (x 1)).bind fun x9 => (some (x5.1, pW x9 (nI 2811) ((gW x9 (nI 2811)) + (nI 1))))))) else (some (nI 0, pN x5.2 0 (nI 1)))))) := by
    unfold o_X12_act
    rw [o_uses, Option.bind_some, td2, Option.bind_some]
  rcases rng (x 1) (s.2.1 0 / nI 24) (nI 1250) with ⟨w1, w2, _, _⟩ | ⟨w1, w2⟩
  · rw [w1, Option.bind_some, nA1, Option.bind_some, Sum.elim_inl] at A0
    rw [w2, Option.bind_some, if_neg n10] at B0
    rcases r3 with ⟨l, m, q1, q2, q3⟩ | ⟨q1, q2⟩
    · have rA := RAct.new (τ := τ) (n := n) q3
      have rl := r1.new (l := l) (m := m) hI
      have l20 := q3.1
      have m4 := q3.2.1
      have hI' : LI (tA τ n l m) (n + 6) := hI.tQ (some (l, m))
      have e1 : (iA c1 n 0 l m).1 n 0 = nI l := by rw [iA_0]; exact q3.2.2.1
      rw [q1, Option.bind_some] at A0
      dsimp only at A0
      rw [if_pos rfl, ln_A q3.2.2.1 q3.1, st_A q3.2.2.2.1 q3.2.1] at A0
      rw [q2, Option.bind_some, if_pos (n0le (by omega))] at B0
      dsimp only at B0
      rw [gW_n _ (by decide)] at B0
      generalize hc2 : iA c1 n 0 l m = c2 at *
      generalize hτ : tA τ n l m = τ' at *
      have n11 := rl.b.n2811
      have c3 : c2.1 27 3 = nI (N (s1.2.1 2811)) := (rl.b.pl 2811 17 3 rfl).trans n11.1
      rw [show gW s1 (nI 2811) = nI (N (s1.2.1 2811)) by rw [gW_n _ (by decide)]; exact n11.1] at B0
      by_cases g : s1.2.1 2660 = nI 1
      · rw [if_pos g] at B0
        have A1 : o_X11_act_34 F τ' (n + 6) 0 n c2 (x 1) = some (.inr (2, c2)) := by
          unfold o_X11_act_34
          rw [show (0 + 10 : Nat) = 10 from rfl, o_ever (by omega) rl.b, Option.bind_some, ifc_pos g, if_neg n10, nS0, Option.bind_some, Sum.elim_inr]
        rw [A1] at A0
        refine Or.inr (Or.inr (Or.inl ⟨some (l, m), c2, nI 0, pN s1 0 (nI 2), A0, B0, pN_s _ _ _, ?_⟩))
        show Rel (tA τ n l m) (n + 6 + 1) c2 _
        rw [hτ]
        exact (rl.pn _).up
      · rw [if_neg g] at B0
        have A1 : o_X11_act_34 F τ' (n + 6) 0 n c2 (x 1) = (o_X11_needRoom τ' (n + 6) c2 (c2.1 27 3) (nI 20)).bind fun x13 => (Sum.elim (fun y14 => (o_X3_pass τ' (n + 6) 10 n c2 (x 1)).bind fun x16 => (some (.inl (x16.1 n 0, x16)))) (fun z15 => some (.inr (z15, c2))) x13) := by
          unfold o_X11_act_34
          rw [show (0 + 10 : Nat) = 10 from rfl, o_ever (by omega) rl.b, Option.bind_some, ifc_neg g, if_pos nI_0, nS1, Option.bind_some, Sum.elim_inl]
        by_cases g2 : N (s1.2.1 2811) = 20
        · rw [g2, if_pos rfl] at B0
          rw [c3, g2] at A1
          have A2 : o_X11_act_34 F τ' (n + 6) 0 n c2 (x 1) = some (.inr (3, c2)) := by
            rw [A1]
            unfold o_X11_needRoom
            rw [if_neg (fun q => Int32.lt_irrefl q), Option.bind_some, Sum.elim_inr]
          rw [A2] at A0
          refine Or.inr (Or.inr (Or.inr ⟨some (l, m), c2, nI 0, pN s1 0 (nI 3), A0, B0, pN_s _ _ _, ?_⟩))
          show Rel (tA τ n l m) (n + 6 + 1) c2 _
          rw [hτ]
          exact (rl.pn _).up
        · have k20 : N (s1.2.1 2811) < 20 := by omega
          obtain ⟨s2, f1, f2, f3, f4⟩ := o_copies (F := F) (s := s1) (a := 21) (b := N (s1.2.1 2811)) (y := x 1) (by omega) (by decide) (by omega) (by omega)
          rw [if_neg (nI_inj (by omega) (by decide) g2), f1, Option.bind_some, show gW s2 (nI 2811) = nI (N (s1.2.1 2811)) by rw [gW_n _ (by decide), f4, cpy_o (by omega)]; exact n11.1, nI_add] at B0
          have P : o_X3_pass τ' (n + 6) 10 n c2 (x 1) = some (cp (cp (cq c2 34 (N (s1.2.1 2811)) (some n)) 35 (N (s1.2.1 2811)) (x 1)) 27 3 (nI (N (s1.2.1 2811) + 1))) := by
            unfold o_X3_pass
            rw [show (10 + 17 : Nat) = 27 from rfl, c3, if_pos (iL_t k20 (by decide)), nI_clamp (by omega), show (cq c2 (10 + 24) (N (s1.2.1 2811)) (some n)).1 27 3 = nI (N (s1.2.1 2811)) from c3, if_pos (iL_t k20 (by decide)), ca_n _ _ (by omega), Option.bind_some, cp_1 27 (by decide), show (cq c2 (10 + 24) (N (s1.2.1 2811)) (some n)).1 27 3 = nI (N (s1.2.1 2811)) from c3, nI_add]
          have h192 := hI.2.1
          have A2 : o_X11_act_34 F τ' (n + 6) 0 n c2 (x 1) = some (.inl (nI l, cp (cp (cq c2 34 (N (s1.2.1 2811)) (some n)) 35 (N (s1.2.1 2811)) (x 1)) 27 3 (nI (N (s1.2.1 2811) + 1)))) := by
            rw [A1, c3]
            unfold o_X11_needRoom
            rw [if_pos ((nI_ltI (by omega) (by decide)).mpr k20), Option.bind_some, Sum.elim_inl, P, Option.bind_some, cp_1 n (by omega), cp_1 n (by omega), show (cq c2 34 (N (s1.2.1 2811)) (some n)).1 n 0 = nI l from e1]
          rw [A2] at A0
          have acb' : acb τ' (n + 6) n = true := by rw [← hτ]; exact tA_acb
          have rb := rl.b.passed (y := x 1) hI' rfl k20 acb' (by decide) (by decide) rA
          refine Or.inl ⟨some (l, m), nI l, _, _, A0, B0, by show s2.1 0 = nI 0; rw [f2]; exact r2, ?_⟩
          show Rel (tA τ n l m) (n + 6) _ _
          rw [hτ]
          refine rl.now hI' (((Nw.refl.cq (by omega) (by omega)).cp (by omega) (by omega) (by omega)).cp (by omega) (by omega) (by omega)) ?_ (fun j hj => ?_) (fun j hj => ?_)
          · rw [pW_21, nI_clamp (by decide), f4]; exact rb
          · show s2.1 j = s1.1 j; rw [f2]
          · show s2.2.2 j = s1.2.2 j; rw [f3]
    · rw [q1, Option.bind_some] at A0
      dsimp only at A0
      rw [if_neg (by decide)] at A0
      rw [q2, Option.bind_some, if_neg m1_0] at B0
      exact Or.inr (Or.inl ⟨none, c1, nI 0, pN s1 0 (nI 1), A0, B0, pN_s _ _ _, (r1.pn _).up⟩)
  · rw [w1, Option.bind_some, nA0, Option.bind_some, Sum.elim_inr] at A0
    rw [w2, Option.bind_some, if_pos nI_0] at B0
    exact Or.inr (Or.inl ⟨none, _, nI 0, pN (us s) 0 (nI 1), A0, B0, pN_s _ _ _, (hu.pn _).up⟩)
end ACT
