/-! THE PURE LAYER: bond -/
section BOND
variable {F : Nat} {x : Nat → Int32} {τ : cT} {n k i m : Nat} {c : cS} {s : rs_S} {v : Nat → Int32}
theorem lgc_le {a b : Nat} (ha : a < 2 ^ 63) (hb : b < 2 ^ 63) : (lg_cmp (lN a) (lN b) ≤ 0) ↔ a ≤ b := by
  unfold lg_cmp
  by_cases q : b < a
  · rw [if_pos (show lN a > lN b from (pk_lLT hb ha).mpr q)]
    exact ⟨fun e => absurd e (by decide), fun e => by omega⟩
  · rw [if_neg (show ¬ lN a > lN b from fun e => q ((pk_lLT hb ha).mp e))]
    by_cases q2 : a = b
    · rw [if_pos (by rw [q2])]
      exact ⟨fun _ => by omega, fun _ => by decide⟩
    · rw [if_neg (fun e => q2 ((pk_lEQ ha hb).mp e))]
      exact ⟨fun _ => by omega, fun _ => by decide⟩
theorem bor_loop {A a2 a3 a4 : Int32} {fc : Nat} (hfc : fc ≤ 1000000) (h : RB τ n c 10 s.2.1) : ∀ (r i f f' k : Nat), i + r = N (s.2.1 2665) → r < f → r < f' → k ≤ i * 1000000 → ∃ k', k' ≤ 20000000 ∧ o_X6_borrowed_4 F τ n 10 (s.2.1 0 / nI 2400) c f (nI k) (nI i) = some (nI k') ∧ o_X12_bond_105 F A a2 a3 a4 (nI (N (s.2.1 2665))) s f' (lN (fc + k)) (nI i) = some (lN (fc + k')) := by
  have hm := h.n2665
  have e1 : c.1 (10 + 121) 13 = nI (N (s.2.1 2665)) := (h.pl 2665 121 13 rfl).trans hm.1
  intro r
  induction r with
  | zero =>
    intro i f f' k hi hf hf' hk
    obtain ⟨f, rfl⟩ : ∃ x, f = x + 1 := ⟨f - 1, by omega⟩
    obtain ⟨f', rfl⟩ : ∃ x, f' = x + 1 := ⟨f' - 1, by omega⟩
    rw [o_X6_borrowed_4, o_X12_bond_105, e1, if_pos (nI_yes (by omega) (by omega) (by omega)), if_pos (nI_yes (by omega) (by omega) (by omega))]
    refine ⟨k, ?_, rfl, rfl⟩
    have : i * 1000000 ≤ 20 * 1000000 := Nat.mul_le_mul_right _ (by omega)
    exact Nat.le_trans hk this
  | succ r ih =>
    intro i f f' k hi hf hf' hk
    obtain ⟨f, rfl⟩ : ∃ x, f = x + 1 := ⟨f - 1, by omega⟩
    obtain ⟨f', rfl⟩ : ∃ x, f' = x + 1 := ⟨f' - 1, by omega⟩
    have i20 : i < 20 := by omega
    have p0 : c.1 (10 + 125) i = s.2.1 (2666 + 6 * i + 0) := h.pl _ _ _ (wk_o (j := 0) i20 (by decide))
    have p3 : c.1 (10 + 128) i = s.2.1 (2666 + 6 * i + 3) := h.pl _ _ _ (wk_o (j := 3) i20 (by decide))
    have p4 : c.1 (10 + 129) i = s.2.1 (2666 + 6 * i + 4) := h.pl _ _ _ (wk_o (j := 4) i20 (by decide))
    have r0 := h.rg.nat (k := 2666 + 6 * i + 0) (hi := 1000000) (rg_o i20 (by decide))
    have s0 : k ≤ (i + 1) * 1000000 := Nat.le_trans (Nat.le_trans hk (Nat.le_add_right _ 1000000)) (Nat.le_of_eq (Nat.succ_mul i 1000000).symm)
    have rn : N (s.2.1 (2666 + 6 * i + 0)) ≤ 1000000 := by have := r0.2; omega
    have s1 : k + N (s.2.1 (2666 + 6 * i + 0)) ≤ (i + 1) * 1000000 := Nat.le_trans (Nat.add_le_add hk rn) (Nat.le_of_eq (Nat.succ_mul i 1000000).symm)
    have i0 := ih (i + 1) f f' k (by omega) (by omega) (by omega) s0
    have i1 := ih (i + 1) f f' (k + N (s.2.1 (2666 + 6 * i + 0))) (by omega) (by omega) (by omega) s1
    rw [o_X6_borrowed_4, o_X12_bond_105, e1, if_neg (nI_no (by omega) (by omega) (by omega)), if_neg (nI_no (by omega) (by omega) (by omega)), if_pos (iL_t i20 (by decide)), cg_n _ _ (by omega), cg_n _ _ (by omega), cg_n _ _ (by omega), p0, p3, p4]
    unfold o_X12_isOver o_X12_year
    rw [o_bondOf i20 (show 3 < 6 by decide), Option.bind_some, Option.bind_some, gW_n _ (show 0 < 2 ^ 31 by decide), o_bondOf i20 (show 0 < 6 by decide), o_bondOf i20 (show 4 < 6 by decide), nI_add i 1, r0.1, nI_add]
    by_cases q1 : s.2.1 0 / nI 2400 ≤ s.2.1 (2666 + 6 * i + 3)
    · rw [if_pos q1, if_pos q1, Option.bind_some, if_pos (show (nI 0 : Int32) = 0 from nI_0), Option.bind_some, nI_l (by omega), lN_add, Nat.add_assoc fc k]
      exact i1
    · rw [if_neg q1, if_neg q1, Option.bind_some, if_neg (show ¬ (nI 1 : Int32) = 0 by decide), Option.bind_some]
      by_cases q2 : s.2.1 (2666 + 6 * i + 4) ≤ 0
      · rw [if_pos q2, if_pos q2, show lN (fc + k) + 0 = lN (fc + k) from Int64.add_zero _]
        exact i0
      · rw [if_neg q2, if_neg q2, Option.bind_some, nI_l (by omega), lN_add, Nat.add_assoc fc k]
        exact i1
theorem RB.sold {y1 y2 y3 y4 cs : Int32} (h : RB τ n c 10 v) (hI : LI τ n) (hm : N (v 2665) = m) (hm2 : m < 20) (h1 : Ok (2666 + 6 * m + 0) y1) (h2 : Ok (2666 + 6 * m + 1) y2) (h3 : Ok (2666 + 6 * m + 2) y3) (hc : Ok 2652 cs) : RB τ n (cp (cp (cp (cp (cp (cp (cp (cp c 135 m y1) 136 m y2) 137 m y3) 138 m y4) 139 m (nI 0)) 140 m (nI 0)) 131 0 cs) 131 13 (nI (m + 1))) 10 (upd (upd (upd (upd (upd (upd (upd (upd v (2666 + 6 * m + 0) y1) (2666 + 6 * m + 1) y2) (2666 + 6 * m + 2) y3) (2666 + 6 * m + 3) y4) (2666 + 6 * m + 4) (nI 0)) (2666 + 6 * m + 5) (nI 0)) 2652 cs) 2665 (nI (m + 1))) := by
  have x0 := h.x.pput (y := y1) hI (wk_o (j := 0) hm2 (by decide)) (by omega) (by omega) (by omega) (by omega) (by omega) h1
  have x1 := x0.pput (y := y2) hI (wk_o (j := 1) hm2 (by decide)) (by omega) (by omega) (by omega) (by omega) (by omega) h2
  have x2 := x1.pput (y := y3) hI (wk_o (j := 2) hm2 (by decide)) (by omega) (by omega) (by omega) (by omega) (by omega) h3
  have x3 := x2.pput (y := y4) hI (wk_o (j := 3) hm2 (by decide)) (by omega) (by omega) (by omega) (by omega) (by omega) (rg_any (rg_o (f := 3) hm2 (by decide)))
  have x4 := x3.pput (y := nI 0) hI (wk_o (j := 4) hm2 (by decide)) (by omega) (by omega) (by omega) (by omega) (by omega) (ok_n (rg_o (f := 4) hm2 (by decide)) (by show (0 : Int) ≤ _; omega) (by show _ ≤ (15600000 : Int); omega) (by decide))
  have x5 := x4.pput (y := nI 0) hI (wk_o (j := 5) hm2 (by decide)) (by omega) (by omega) (by omega) (by omega) (by omega) (rg_any (rg_o (f := 5) hm2 (by decide)))
  have x6 := x5.pput (k := 2652) (o := 121) (j := 0) (y := cs) hI rfl (by omega) (by omega) (by omega) (by omega) (by omega) hc
  have x7 := x6.pput (k := 2665) (o := 121) (j := 13) (y := nI (m + 1)) hI rfl (by omega) (by omega) (by omega) (by omega) (by omega) (ok_n (lo := 0) (hi := 20) rfl (by omega) (by omega) (by omega))
  refine x7.rb ?_
  have C := h.cr
  have r := h.rg
  have r0 := r.nat (k := 0) (hi := 30000) rfl
  generalize ev : upd (upd (upd (upd (upd (upd (upd (upd v (2666 + 6 * m + 0) y1) (2666 + 6 * m + 1) y2) (2666 + 6 * m + 2) y3) (2666 + 6 * m + 3) y4) (2666 + 6 * m + 4) (nI 0)) (2666 + 6 * m + 5) (nI 0)) 2652 cs) 2665 (nI (m + 1)) = v'
  have hu : ∀ k, k < 2652 ∨ k = 2655 ∨ k = 2660 → v' k = v k := fun k hk => by
    rw [← ev, upd_n (by omega), upd_n (by omega), upd_n (by omega), upd_n (by omega), upd_n (by omega), upd_n (by omega), upd_n (by omega), upd_n (by omega)]
  refine Cr.mk (C.ld_s (hu _ (by omega)) (fun k _ _ => hu k (by omega))) (C.cr_s r (fun k _ _ => hu k (by omega))) (C.hs_s r (fun k _ _ => hu k (by omega)) (fun k _ _ => hu k (by omega))) (C.sh_s r (fun k _ _ => hu k (by omega)) (fun k _ _ => hu k (by omega))) (C.ow_s r (hu _ (by omega)) (fun k _ _ => hu k (by omega))) (C.sd_s r (hu _ (by omega)) (fun k _ _ => hu k (by omega))) (C.ev_s r (hu _ (by omega)) (fun k _ _ => hu k (by omega))) (C.tc_s r (hu _ (by omega)) (fun k _ _ => hu k (by omega))) (C.zp_s (fun k _ _ => hu k (by omega))) (C.zs_s (fun k _ _ => hu k (by omega))) (C.zb_s (fun k _ _ => hu k (by omega))) ?_
  intro b hb
  rw [hu 0 (by omega)]
  by_cases e : b = m
  · subst e
    rw [← ev, upd_n (by omega), upd_n (by omega), upd_n (by omega), upd_s, nI_toInt (by decide), r0.1, nI_toInt (by omega)]
    omega
  · rw [← ev, upd_n (by omega), upd_n (by omega), upd_n (by omega), upd_n (by omega), upd_n (by omega), upd_n (by omega), upd_n (by omega), upd_n (by omega)]
    exact C.oe b hb
theorem upd_cm {f : Nat → Int32} {a b : Nat} {y z : Int32} (h : a ≠ b) : upd (upd f a y) b z = upd (upd f b z) a y := by
  funext k
  by_cases e : k = b
  · subst e; rw [upd_s, upd_n (fun q => h q.symm), upd_s]
  · rw [upd_n e]
    by_cases e2 : k = a
    · subst e2; rw [upd_s, upd_s]
    · rw [upd_n e2, upd_n e2, upd_n e]
theorem RB.bor (h : RB τ n c 10 v) (hI : LI τ n) (hz : c.1 28 0 = nI 0) : ∃ L, L < 1000000 ∧ lo v (N (v 2811)) (nI 7) (nI 0) = nI L := by
  obtain ⟨y, _, e1, L, hL, eL⟩ := h.lastR (F := 21) (R := fun a b => a = b ∧ ∃ L, L < 1000000 ∧ a = nI L) (kd := 7) (w := nI 0) hI hz (by decide) ⟨rfl, 0, by decide, rfl⟩ (fun a p i ha q hi e => by
    obtain ⟨m1, m, m2, m3⟩ := q.nm i hi (by rw [e]; decide)
    exact ⟨m1, m, m2, m3⟩)
  exact ⟨L, hL, by rw [← e1]; exact eL⟩
theorem o_bAt {s : rs_S} {k f : Nat} : o_X12_bondAt s (nI k) (nI f) = some (nI (2666 + 6 * k + f)) := by unfold o_X12_bondAt; simp only [nI_mul, nI_add]
theorem e_sell {y1 y2 y3 y4 : Int32} (h : RB τ n c 10 v) (hm2 : N (v 2665) < 20) : o_X6_sell τ n 10 c y1 y2 y3 y4 = some (nI (N (v 2665)), cp (cp (cp (cp (cp (cp (cp (cp c 135 (N (v 2665)) y1) 136 (N (v 2665)) y2) 137 (N (v 2665)) y3) 138 (N (v 2665)) y4) 139 (N (v 2665)) (nI 0)) 140 (N (v 2665)) (nI 0)) 131 0 (mnl 2000000000 ((v 2652).toInt64 + y1.toInt64)).toInt32) 131 13 (nI (N (v 2665) + 1))) := by
  have e1 : c.1 131 13 = nI (N (v 2665)) := (h.pl 2665 121 13 rfl).trans h.n2665.1
  have e2 : c.1 131 0 = v 2652 := h.pl 2652 121 0 rfl
  generalize N (v 2665) = m at *
  have iL20 : iL (nI m) 20 := iL_t hm2 (by decide)
  have k1 : ∀ (c' : cS) (q : Nat) (y : Int32), q ≠ 131 → c'.1 131 = c.1 131 → (ca c' q (nI m) y).1 131 = c.1 131 := fun c' q y hq hc => by rw [ca_n _ _ (by omega), cp_1 _ (fun e => hq e.symm)]; exact hc
  unfold o_X6_sell
  simp only [show (10 + 121 : Nat) = 131 from rfl, show (10 + 125 : Nat) = 135 from rfl, show (10 + 126 : Nat) = 136 from rfl, show (10 + 127 : Nat) = 137 from rfl, show (10 + 128 : Nat) = 138 from rfl, show (10 + 129 : Nat) = 139 from rfl, show (10 + 130 : Nat) = 140 from rfl]
  have c1 := k1 c 135 y1 (by decide) rfl
  have c2 := k1 _ 136 y2 (by decide) c1
  have c3 := k1 _ 137 y3 (by decide) c2
  have c4 := k1 _ 138 y4 (by decide) c3
  have c5 := k1 _ 139 (nI 0) (by decide) c4
  have c6 := k1 _ 140 (nI 0) (by decide) c5
  rw [e1, if_pos iL20, c1, e1, if_pos iL20, Option.bind_some, c2, e1, if_pos iL20, c3, e1, if_pos iL20, Option.bind_some, c4, e1, if_pos iL20, c5, e1, if_pos iL20, Option.bind_some, c6, e2]
  unfold o_X11_capped
  have c7 : ∀ (y z : Int32), (cp (ca (ca (ca (ca (ca (ca c 135 (nI m) y1) 136 (nI m) y2) 137 (nI m) y3) 138 (nI m) y4) 139 (nI m) (nI 0)) 140 (nI m) (nI 0)) 131 0 y).1 131 13 = nI m := fun y z => by rw [cp_q, upd_n (by decide), c6]; exact e1
  rw [Option.bind_some, Option.bind_some, c7 _ 0, nI_add, cp_q, upd_s, nI_sub (by omega), show m + 1 - 1 = m by omega, mnl_comm, ca_n _ _ (by omega), ca_n _ _ (by omega), ca_n _ _ (by omega), ca_n _ _ (by omega), ca_n _ _ (by omega), ca_n _ _ (by omega)]
theorem st27 (hF : 30000 ≤ F) (hI : LI τ n) (h : Rel τ n c s) : stp Rel F 27 x τ n c s := by
  show (∃ v c' s', o_X11_bond F τ n 0 c (x 1) (x 2) (x 3) (x 4) = some (.inl (v, c')) ∧ o_X12_bond F s (x 1) (x 2) (x 3) (x 4) = some (v, s') ∧ s'.1 0 = nI 0 ∧ Rel τ n c' s') ∨ _
  have n1 := h.b.n2665
  have hb0 : RB τ n c 10 (pN s 0 (nI 0)).2.1 := h.b
  have h0 := h.pn (nI 0)
  have z1' : ¬ (nI 1 : Int32) = 0 := by decide
  have z0' : (nI 0 : Int32) = 0 := rfl
  unfold o_X11_bond o_X12_bond
  rcases rng (x 1) (nI 1) (nI 1000000) with ⟨w1, r1, p1, q1⟩ | ⟨w1, r1⟩
  · rcases rng (x 2) (nI 0) (nI 2000) with ⟨w2, r2, p2, q2⟩ | ⟨w2, r2⟩
    · rcases rng (x 3) (nI 0) (nI 9) with ⟨w3, r3, p3, q3⟩ | ⟨w3, r3⟩
      · rcases rng (x 4) (nI 1) (nI 30) with ⟨w4, r4, p4, q4⟩ | ⟨w4, r4⟩
        · simp only [w1, w2, w3, w4, r1, r2, r3, r4, Option.bind_some, z1, if_false, nA1, Sum.elim_inl]
          have e1 : c.1 (0 + 131) 13 = nI (N (s.2.1 2665)) := (h.b.pl 2665 121 13 rfl).trans n1.1
          have e2 : gW (pN s 0 (nI 0)) (nI 2665) = nI (N (s.2.1 2665)) := by rw [gW_pN, gW_n _ (by decide)]; exact n1.1
          rw [e1, e2]
          by_cases hq : N (s.2.1 2665) = 20
          · rw [hq, nR_out (by decide), if_pos rfl, Option.bind_some, Sum.elim_inr]
            exact Or.inr (Or.inr ⟨_, _, _, rfl, rfl, pN0 _ _, h.pn2 _ _⟩)
          · have hm2 : N (s.2.1 2665) < 20 := by omega
            rw [nR_in (nI_lt hm2 (by decide)), if_neg (nI_inj (by omega) (by decide) hq), Option.bind_some, Sum.elim_inl]
            obtain ⟨fc, f1, hfc, efc⟩ := i_1 p1 q1 (by decide)
            obtain ⟨k2, hk2, ek2⟩ := i_in p2 q2 (by decide)
            obtain ⟨k3, hk3, ek3⟩ := i_in p3 q3 (by decide)
            obtain ⟨k', hk', l1, l2⟩ := bor_loop (F := F) (A := x 1) (a2 := x 2) (a3 := x 3) (a4 := x 4) hfc hb0 _ 0 F F 0 (Nat.zero_add _) (by have := hb0.n2665.2; omega) (by have := hb0.n2665.2; omega) (Nat.zero_le _)
            have l2' : o_X12_bond_105 F (x 1) (x 2) (x 3) (x 4) (nI (N (s.2.1 2665))) (pN s 0 (nI 0)) F (x 1).toInt64 (nI 0) = some (lN (fc + k')) := by rw [efc] at l2 ⊢; rw [nI_l (by omega)]; exact l2
            have yr : o_X2_year τ n (0 + 10) c = some ((pN s 0 (nI 0)).2.1 0 / nI 2400) := by
              unfold o_X2_year
              rw [show c.1 (0 + 10) 0 = (pN s 0 (nI 0)).2.1 0 from h.b.pl 0 0 0 rfl]
            have bo : o_X6_borrowed F τ n (0 + 10) c ((pN s 0 (nI 0)).2.1 0 / nI 2400) = some (nI k') := by
              unfold o_X6_borrowed
              rw [show (0 + 10 : Nat) = 10 from rfl, l1]
              rfl
            obtain ⟨p, b1, b2, b3, b4⟩ := hb0.lawNow (F := F) hI h.z (by omega)
            have lc := hb0.lastC (F := F) (kd := 7) (w := nI 0) hI h.z (by omega) (by decide) (by decide)
            have lr := hb0.lastS (F := F) (x := nI 7) (w := nI 0) (by omega)
            obtain ⟨L, hL, eL⟩ := hb0.bor hI h.z
            rw [← b2] at lc
            rw [eL] at lc lr
            rw [yr, Option.bind_some, bo, Option.bind_some, show (0 + 10 : Nat) = 10 from rfl, b1, Option.bind_some, if_pos b3, lc, Option.bind_some, l2', Option.bind_some, lr, Option.bind_some, Option.bind_some, nI_l (show L < 2 ^ 31 by omega)]
            have le1 : (x 1 + nI k' ≤ nI L) ↔ fc + k' ≤ L := by rw [efc, nI_add]; exact nI_leI (by omega) (by omega)
            by_cases ql : fc + k' ≤ L
            · rw [if_pos (le1.mpr ql), if_pos ((lgc_le (by omega) (by omega)).mpr ql)]
              have se := e_sell (y1 := x 1) (y2 := x 2) (y3 := x 3) (y4 := (pN s 0 (nI 0)).2.1 0 / nI 2400 + x 4 - nI 1) hb0 hm2
              have e22 : (pN s 0 (nI 0)).2.1 = s.2.1 := rfl
              rw [e22] at se
              rw [e22, se, Option.bind_some]
              have rg1 : Ok (2666 + 6 * N (s.2.1 2665) + 0) (x 1) := by rw [efc]; exact ok_n (rg_o (f := 0) hm2 (by decide)) (by show (0 : Int) ≤ _; omega) (show (fc : Int) ≤ 1000000 by omega) (by omega)
              have rg2 : Ok (2666 + 6 * N (s.2.1 2665) + 1) (x 2) := by rw [ek2]; exact ok_n (rg_o (f := 1) hm2 (by decide)) (by show (0 : Int) ≤ _; omega) (show (k2 : Int) ≤ 2000 by omega) (by omega)
              have rg3 : Ok (2666 + 6 * N (s.2.1 2665) + 2) (x 3) := by rw [ek3]; exact ok_n (rg_o (f := 2) hm2 (by decide)) (by show (0 : Int) ≤ _; omega) (show (k3 : Int) ≤ 9 by omega) (by omega)
              have rb := h.b.sold (y4 := s.2.1 0 / nI 2400 + x 4 - nI 1) hI rfl hm2 rg1 rg2 rg3 (ok_add (y := x 1) h.b.rg (by rw [efc]; exact nI_ngt (by omega) (by decide) (by omega)))
              generalize N (s.2.1 2665) = m at *
              unfold o_X12_year
              rw [o_bAt, Option.bind_some, if_pos (iL_t (show 2666 + 6 * m + 0 < 22216 by omega) (by decide)), o_bAt, Option.bind_some, if_pos (iL_t (show 2666 + 6 * m + 1 < 22216 by omega) (by decide)), o_bAt, Option.bind_some, if_pos (iL_t (show 2666 + 6 * m + 2 < 22216 by omega) (by decide)), o_bAt, Option.bind_some, Option.bind_some, if_pos (iL_t (show 2666 + 6 * m + 3 < 22216 by omega) (by decide)), o_bAt, Option.bind_some, if_pos (iL_t (show 2666 + 6 * m + 4 < 22216 by omega) (by decide)), o_bAt, Option.bind_some, if_pos (iL_t (show 2666 + 6 * m + 5 < 22216 by omega) (by decide))]
              have g0 : gW (pW (pW (pW (pN s 0 (nI 0)) (nI (2666 + 6 * m + 0)) (x 1)) (nI (2666 + 6 * m + 1)) (x 2)) (nI (2666 + 6 * m + 2)) (x 3)) (nI 0) = s.2.1 0 := by rw [gW_pWn _ (by omega) (by decide) (by omega), gW_pWn _ (by omega) (by decide) (by omega), gW_pWn _ (by omega) (by decide) (by omega), gW_pN, gW_n _ (by decide)]
              rw [g0]
              generalize hs6 : pW (pW (pW (pW (pW (pW (pN s 0 (nI 0)) (nI (2666 + 6 * m + 0)) (x 1)) (nI (2666 + 6 * m + 1)) (x 2)) (nI (2666 + 6 * m + 2)) (x 3)) (nI (2666 + 6 * m + 3)) (s.2.1 0 / nI 2400 + x 4 - nI 1)) (nI (2666 + 6 * m + 4)) (nI 0)) (nI (2666 + 6 * m + 5)) (nI 0) = s6
              have v6 : s6.2.1 = upd (upd (upd (upd (upd (upd s.2.1 (2666 + 6 * m + 0) (x 1)) (2666 + 6 * m + 1) (x 2)) (2666 + 6 * m + 2) (x 3)) (2666 + 6 * m + 3) (s.2.1 0 / nI 2400 + x 4 - nI 1)) (2666 + 6 * m + 4) (nI 0)) (2666 + 6 * m + 5) (nI 0) := by
                rw [← hs6]
                simp only [pW_21]
                rw [nI_clamp (show 2666 + 6 * m + 0 < 2 ^ 31 by omega), nI_clamp (show 2666 + 6 * m + 1 < 2 ^ 31 by omega), nI_clamp (show 2666 + 6 * m + 2 < 2 ^ 31 by omega), nI_clamp (show 2666 + 6 * m + 3 < 2 ^ 31 by omega), nI_clamp (show 2666 + 6 * m + 4 < 2 ^ 31 by omega), nI_clamp (show 2666 + 6 * m + 5 < 2 ^ 31 by omega)]
                rfl
              have v61 : s6.1 = (pN s 0 (nI 0)).1 := by rw [← hs6]; rfl
              have v62 : s6.2.2 = s.2.2 := by rw [← hs6]; rfl
              have g65 : gW s6 (nI 2665) = nI m := by rw [gW_n _ (by decide), v6, upd_n (by omega), upd_n (by omega), upd_n (by omega), upd_n (by omega), upd_n (by omega), upd_n (by omega)]; exact n1.1
              rw [g65, nI_add]
              have g52 : gW (pW s6 (nI 2665) (nI (m + 1))) (nI 2652) = s.2.1 2652 := by rw [gW_pWn _ (by decide) (by decide) (by decide), gW_n _ (by decide), v6, upd_n (by omega), upd_n (by omega), upd_n (by omega), upd_n (by omega), upd_n (by omega), upd_n (by omega)]
              unfold o_X12_added
              rw [g52, Option.bind_some]
              refine Or.inl ⟨_, _, _, rfl, rfl, by show s6.1 0 = nI 0; rw [v61]; exact pN0 _ _, ?_⟩
              refine h.now hI ((((((((Nw.refl.cp (by omega) (by omega) (by omega)).cp (by omega) (by omega) (by omega)).cp (by omega) (by omega) (by omega)).cp (by omega) (by omega) (by omega)).cp (by omega) (by omega) (by omega)).cp (by omega) (by omega) (by omega)).cp (by omega) (by omega) (by omega)).cp (by omega) (by omega) (by omega)) ?_ (fun j hj => by show s6.1 j = s.1 j; rw [v61, pN_n (by omega)]) (fun j hj => by show s6.2.2 j = s.2.2 j; rw [v62])
              rw [pW_21, pW_21, nI_clamp (by decide), nI_clamp (by decide), v6, upd_cm (by decide)]
              exact rb
            · rw [if_neg (fun e => ql (le1.mp e)), if_neg (fun e => ql ((lgc_le (by omega) (by omega)).mp e))]
              exact Or.inl ⟨_, _, _, rfl, rfl, pN0 _ _, h0⟩
        · simp only [w1, w2, w3, w4, r1, r2, r3, r4, Option.bind_some, z0, z1, if_true, if_false, nA0, nA1, Sum.elim_inl, Sum.elim_inr]
          exact Or.inr (Or.inl ⟨_, _, _, rfl, rfl, pN0 _ _, h.pn2 _ _⟩)
      · simp only [w1, w2, w3, r1, r2, r3, Option.bind_some, z0, z1, if_true, if_false, nA0, nA1, Sum.elim_inl, Sum.elim_inr]
        exact Or.inr (Or.inl ⟨_, _, _, rfl, rfl, pN0 _ _, h.pn2 _ _⟩)
    · simp only [w1, w2, r1, r2, Option.bind_some, z0, z1, if_true, if_false, nA0, nA1, Sum.elim_inl, Sum.elim_inr]
      exact Or.inr (Or.inl ⟨_, _, _, rfl, rfl, pN0 _ _, h.pn2 _ _⟩)
  · simp only [w1, r1, Option.bind_some, z0, z1, if_true, if_false, nA0, Sum.elim_inr]
    exact Or.inr (Or.inl ⟨_, _, _, rfl, rfl, pN0 _ _, h.pn2 _ _⟩)
end BOND
