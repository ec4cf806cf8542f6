/-! THE PURE LAYER: back, pays, vote, close -/
section ST
variable {F : Nat} {x : Nat → Int32} {τ : cT} {n p q a i : Nat} {c c' : cS} {s s' : rs_S} {v v' : Nat → Int32}
theorem mni_n {a b : Nat} (ha : a < 2 ^ 31) (hb : b < 2 ^ 31) : mni (nI a) (nI b) = nI (min a b) := by
  unfold mni
  by_cases q : b < a
  · rw [if_pos ((nI_ltI hb ha).mpr q), Nat.min_eq_right (by omega)]
  · rw [if_neg (nI_ngt hb ha (by omega)), Nat.min_eq_left (by omega)]
theorem mxi_n {a b : Nat} (ha : a < 2 ^ 31) (hb : b < 2 ^ 31) : mxi (nI a) (nI b) = nI (max a b) := by
  unfold mxi
  by_cases q : a < b
  · rw [if_pos ((nI_ltI ha hb).mpr q), Nat.max_eq_right (by omega)]
  · rw [if_neg (nI_ngt ha hb (by omega)), Nat.max_eq_left (by omega)]
theorem mnl_n {a b : Nat} (ha : a < 2 ^ 63) (hb : b < 2 ^ 63) : mnl (lN a) (lN b) = lN (min a b) := by
  unfold mnl
  by_cases q : b < a
  · rw [if_pos ((pk_lLT hb ha).mpr q), Nat.min_eq_right (by omega)]
  · rw [if_neg (fun e => absurd ((pk_lLT hb ha).mp e) (by omega)), Nat.min_eq_left (by omega)]
theorem st24 (hF : 30000 ≤ F) (hI : LI τ n) (h : Rel τ n c s) : stp Rel F 24 x τ n c s := by
  show (∃ v c' s', o_X11_back F τ n 0 c (x 1) = some (.inl (v, c')) ∧ o_X12_back F s (x 1) = some (v, s') ∧ s'.1 0 = nI 0 ∧ Rel τ n c' s') ∨ _
  have n1 := h.b.n1211
  have e1 : c.1 (0 + 37) 3 = nI (N (s.2.1 1211)) := (h.b.pl 1211 27 3 rfl).trans n1.1
  have hb0 : RB τ n c 10 (pN s 0 (nI 0)).2.1 := h.b
  have h0 := h.pn (nI 0)
  have t0 : (pN s 0 (nI 0)).1 0 = 0 := pN0 _ _
  unfold o_X11_back o_X12_back o_X12_noShip
  rw [e1, show gW (pN s 0 (nI 0)) (nI 1211) = nI (N (s.2.1 1211)) by rw [gW_pN, gW_n _ (by decide)]; exact n1.1]
  rcases ix (x 1) (N (s.2.1 1211)) (by omega) with ⟨k, hk, ek, w1, r1⟩ | ⟨w1, r1⟩
  · rw [ek] at w1 r1 ⊢
    simp only [w1, r1, Option.bind_some, Sum.elim_inl, z0, z1, if_true, if_false, tI0]
    have k80 : k < 80 := by omega
    rw [if_pos (iL_t k80 (by decide)), nI_clamp (by omega), show 0 + 49 + 1 + k = 50 + k by omega, show (0 + 10 : Nat) = 10 from rfl, o_of k80 (by decide)]
    simp only [Option.bind_some]
    unfold o_X2_payBack o_X2_stayOf
    have es := fun f g hfg => h.b.shp k hk f g hfg
    simp only [show 10 + 40 + k = 50 + k by omega] at es
    have e9 : c.1 (50 + k) 10 = s.2.1 (1212 + 18 * k + 9) := es 10 9 rfl
    rw [e9]
    show _ ∨ _
    by_cases g4 : s.2.1 (1212 + 18 * k + 9) = nI 4
    · have g4' : (pN s 0 (nI 0)).2.1 (1212 + 18 * k + 9) = nI 4 := g4
      rw [if_pos g4, if_pos g4', if_pos g4, o_of k80 (by decide)]
      simp only [Option.bind_some]
      have bk1 := h.b.bak k hk
      simp only [show 10 + 40 + k = 50 + k by omega] at bk1
      rcases bk1 with ⟨b1, b2, b3⟩ | ⟨b1, b2, b3⟩
      · rw [b3, if_pos nI_0, show (pN s 0 (nI 0)).2.1 (1212 + 18 * k + 15) = -1 from b1, if_pos (show (-1 : Int32) < 0 by decide), o_of k80 (by decide), o_of k80 (by decide)]
        simp only [Option.bind_some]
        obtain ⟨c1, s1, a1, a2, a3, a4, a5⟩ := o_ask (F := F) (y := (pN s 0 (nI 0)).2.1 (1212 + 18 * k + 13) - (pN s 0 (nI 0)).2.1 (1212 + 18 * k + 8)) (by omega) hb0 hk
        have e14 : c.1 (50 + k) 14 - c.1 (50 + k) 9 = (pN s 0 (nI 0)).2.1 (1212 + 18 * k + 13) - (pN s 0 (nI 0)).2.1 (1212 + 18 * k + 8) := by rw [es 14 13 rfl, es 9 8 rfl]; rfl
        rw [e14, a1, a2]
        simp only [Option.bind_some]
        obtain ⟨p, l1, l2, l3⟩ := hb0.lawOf hI h.z hk
        have hp := act_pl hI l2
        have hl : RLaw τ c1 p s1.2.1 (s.2.1 (1212 + 18 * k + 17)) := by rw [a4.1]; exact l3.cf hp a3
        obtain ⟨m, s2, m1, m2, m3, m4⟩ := hl.back (F := F) (n := n) (by omega) a5
        have s1e : s1.2.1 = s.2.1 := a4.1
        have s2e : s2.2.1 = s.2.1 := m4.2.1.trans a4.1
        rw [show c1.2 (50 + k) 8 = some p by rw [a3.2]; exact l1, o_of k80 (by decide), o_of k80 (by decide)]
        simp only [Option.bind_some]
        rw [if_pos l2, show (10 + 167 : Nat) = 177 from rfl, m2, s1e, m3]
        simp only [Option.bind_some]
        have hD := h.b.rg.nat (k := 1212 + 18 * k + 14) (hi := 2000000000) (rg_s k80 (by decide))
        have hC := h.b.rg.nat (k := 2652) (hi := 2000000000) rfl
        have ed : c1.1 (50 + k) 15 = nI (N (s.2.1 (1212 + 18 * k + 14))) := by rw [a3.1 _ (by omega), es 15 14 rfl]; exact hD.1
        have ecs : c1.1 131 0 = nI (N (s.2.1 2652)) := by rw [a3.1 _ (by omega), ← hC.1]; exact h.b.pl 2652 121 0 rfl
        have eck : c1.1 131 2 = s.2.1 2654 := by rw [a3.1 _ (by omega)]; exact h.b.pl 2654 121 2 rfl
        rw [gW_n _ (by decide), gW_n _ (by decide), s1e, s2e, hC.1, hD.1, ed]
        generalize N (s.2.1 (1212 + 18 * k + 14)) = D at *
        generalize N (s.2.1 2652) = C at *
        have hD2 := hD.2
        have hC2 := hC.2
        have e100 : (100 : Int64) = lN 100 := rfl
        have hmd : m * D < 2 ^ 63 := by
          have : m * D ≤ 100 * 2000000000 := Nat.mul_le_mul m1 (by omega)
          omega
        have hA : m * D / 100 ≤ 2000000000 := by
          have : m * D ≤ 100 * 2000000000 := Nat.mul_le_mul m1 (by omega)
          omega
        rw [nI_l (show m < 2 ^ 31 by omega), nI_l (show D < 2 ^ 31 by omega), nI_l (show C < 2 ^ 31 by omega), e100, lN_mul, lN_mul, Nat.mul_comm D m, pk_lDiv hmd (by decide) (by decide), lN_i, mnl_n (show C < 2 ^ 63 by omega) (show m * D / 100 < 2 ^ 63 by omega), lN_i]
        generalize m * D / 100 = A at *
        unfold o_X6_giveBack o_X11_capped o_X12_added
        simp only [Option.bind_some]
        rw [show (10 + 121 : Nat) = 131 from rfl, ecs, mni_n (show A < 2 ^ 31 by omega) (show C < 2 ^ 31 by omega), Nat.min_comm C A]
        have hM : min A C ≤ C := Nat.min_le_right _ _
        generalize min A C = M at *
        rw [nI_sub hM, show (cp c1 131 0 (nI (C - M))).1 131 2 = s.2.1 2654 by rw [cp_q, upd_n (by decide)]; exact eck, gW_pWn _ (by decide) (by decide) (by decide), gW_n _ (by decide), s2e, o_sets k80 (by decide)]
        simp only [Option.bind_some]
        rw [mnl_comm]
        generalize (mnl 2000000000 ((s.2.1 2654).toInt64 + (nI M).toInt64)).toInt32 = B
        have ev : (cp (cp (cp (cp c1 131 0 (nI (C - M))) 131 2 B) (50 + k) 16 (nI M)) (50 + k) 17 (nI 1)).1 (50 + k) 16 = nI M := by rw [cp_q, cp_q, upd_n (by decide), upd_s]
        rw [ev]
        refine Or.inl ⟨_, _, _, rfl, rfl, ?_, ?_⟩
        · show s2.1 0 = nI 0
          rw [m4.1]; exact pN_sc a4
        · have x0 : RX τ n c1 10 s.2.1 := h.b.x.cf hI a3
          have x1 := x0.pput (k := 2652) (o := 121) (j := 0) (y := nI (C - M)) hI rfl (by decide) (by decide) (by decide) (by decide) (by decide) (ok_n (lo := 0) (hi := 2000000000) rfl (by omega) (by omega) (by omega))
          have x2 := x1.pput (k := 2654) (o := 121) (j := 2) (y := B) hI rfl (by decide) (by decide) (by decide) (by decide) (by decide) (rg_any rfl)
          have x3 := x2.had (k := k) (y := nI M) hI (by rw [upd_n (by decide), upd_n (by decide)]; exact hk) (by rw [nI_toInt (by omega)]; omega) (by rw [nI_toInt (by omega)]; omega)
          have cr : Cr (upd (upd (upd s.2.1 2652 (nI (C - M))) 2654 B) (1212 + 18 * k + 15) (nI M)) := h.b.cr.same h.b.rg (fun j hj => by
            rw [upd_n (by unfold crp at hj; omega), upd_n (by unfold crp at hj; omega), upd_n (by unfold crp at hj; omega)])
          have nw : Nw c (cp (cp (cp (cp c1 131 0 (nI (C - M))) 131 2 B) (50 + k) 16 (nI M)) (50 + k) 17 (nI 1)) := (((a3.nw.cp (by omega) (by omega) (by omega)).cp (by omega) (by omega) (by omega)).cp (by omega) (by omega) (by omega)).cp (by omega) (by omega) (by omega)
          refine h.now hI nw ?_ ?_ ?_
          · rw [pW_21, pW_21, pW_21, nI_clamp (show 2652 < 2 ^ 31 by decide), nI_clamp (show 2654 < 2 ^ 31 by decide), nI_clamp (show 1212 + 18 * k + 15 < 2 ^ 31 by omega), s2e]
            exact x3.rb cr
          · intro j hj
            show s2.1 j = s.1 j
            rw [m4.1, a4.2.1 j (by omega) (by omega), pN_n (by omega)]
          · intro j hj
            show s2.2.2 j = s.2.2 j
            rw [m4.2.2 j (by omega), a4.2.2 j (by omega) (by omega)]
            rfl
      · rw [b3, if_neg (show ¬ nI 1 = 0 by decide), show (pN s 0 (nI 0)).2.1 (1212 + 18 * k + 15) = s.2.1 (1212 + 18 * k + 15) from rfl, if_neg (by rw [Int32.lt_iff_toInt_lt]; show ¬ _ < (0 : Int); omega), if_pos t0]
        exact Or.inl ⟨_, _, _, rfl, rfl, pN0 _ _, h0⟩
    · have g4' : ¬ (pN s 0 (nI 0)).2.1 (1212 + 18 * k + 9) = nI 4 := g4
      rw [if_neg g4, if_neg g4', if_pos t0]
      exact Or.inl ⟨_, _, _, rfl, rfl, pN0 _ _, h0⟩
  · simp only [w1, r1, Option.bind_some, z0, z1, if_true, if_false, tI1, Sum.elim_inr]
    rw [if_neg (show ¬ (pN (pN s 0 (nI 0)) 0 (nI 1)).1 0 = 0 by rw [pN0]; decide)]
    exact Or.inr ⟨_, _, _, rfl, rfl, pN0 _ _, h.pn2 _ _⟩
theorem cnt_loop {k m : Nat} (h : RB τ n c 10 s.2.1) (hm : N (s.2.1 1211) = m) (hm8 : m ≤ 80) : ∀ (r i f f' : Nat) (y : Int32), i + r = m → r < f → r < f' → ∃ z, o_X5_countShipsOf_4 F τ n 10 (nI k) c f y (nI i) = some z ∧ o_X12_pays_87 F (nI k) s f' y (nI i) = some z := by
  have e1 : c.1 37 3 = nI m := by rw [← hm]; exact (h.pl 1211 27 3 rfl).trans h.n1211.1
  have e2 : gW s (nI 1211) = nI m := by rw [gW_n _ (by decide), ← hm]; exact h.n1211.1
  intro r
  induction r with
  | zero =>
    intro i f f' y hi hf hf'
    obtain ⟨f, rfl⟩ : ∃ x, f = x + 1 := ⟨f - 1, by omega⟩
    obtain ⟨f', rfl⟩ : ∃ x, f' = x + 1 := ⟨f' - 1, by omega⟩
    rw [o_X5_countShipsOf_4, o_X12_pays_87, e2, show (10 + 27 : Nat) = 37 from rfl, e1, if_pos (nI_yes (by omega) (by omega) (by omega)), if_pos (nI_yes (by omega) (by omega) (by omega))]
    exact ⟨y, rfl, rfl⟩
  | succ r ih =>
    intro i f f' y hi hf hf'
    obtain ⟨f, rfl⟩ : ∃ x, f = x + 1 := ⟨f - 1, by omega⟩
    obtain ⟨f', rfl⟩ : ∃ x, f' = x + 1 := ⟨f' - 1, by omega⟩
    rw [o_X5_countShipsOf_4, o_X12_pays_87, e2, show (10 + 27 : Nat) = 37 from rfl, e1, if_neg (nI_no (by omega) (by omega) (by omega)), if_neg (nI_no (by omega) (by omega) (by omega)), if_pos (iL_t (show i < 80 by omega) (by decide)), o_of (show i < 80 by omega) (by decide), nI_clamp (by omega)]
    simp only [Option.bind_some]
    have e6 : c.1 (10 + 39 + 1 + i) 6 = s.2.1 (1212 + 18 * i + 0) := h.shp i (by omega) 6 0 rfl
    rw [e6, nI_add]
    by_cases q : s.2.1 (1212 + 18 * i + 0) = nI k
    · rw [if_pos q, if_pos q]; exact ih (i + 1) f f' _ (by omega) (by omega) (by omega)
    · rw [if_neg q, if_neg q, show y + nI 0 = y from Int32.add_zero y]; exact ih (i + 1) f f' _ (by omega) (by omega) (by omega)
end ST
