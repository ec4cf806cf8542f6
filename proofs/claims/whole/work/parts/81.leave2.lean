/-! THE PURE LAYER: ships leave: the Board and the row -/
section LV2
variable {F : Nat} {τ : cT} {n k i m B H o p d : Nat} {c c' : cS} {s s' : rs_S} {v v' : Nat → Int32} {y : Int32}
theorem RB.piloted {e : Nat} (h : RB τ n c 10 v) (hI : LI τ n) (h0 : v 0 = nI H) (hH : H ≤ 30000) (he : e < 4) : RB τ n (cPil c (e + 1)) 10 (upd v (1082 + (H + e) % 8) (v (1082 + (H + e) % 8) + nI 1)) := by
  have m8 : (H + e) % 8 < 8 := Nat.mod_lt _ (by decide)
  exact (h.x.piloted hI h0 hH he).rb (h.cr.free h.rg (by unfold crp; omega))
theorem RB.gone (h : RB τ n c 10 v) (hI : LI τ n) (hk : k < N (v 1211)) (h9 : v (1212 + 18 * k + 9) = nI 3) (hi : i < N (v 999)) (hat : v (1212 + 18 * k + 10) = nI i) (hhas : v (1000 + 8 * i + 6) = nI k) (hd : d ≤ 2000000000) (hH : H ≤ 30000) : RB τ n (cp (cp (cp (cp c (50 + k) 15 (nI d)) (50 + k) 10 (nI 4)) (50 + k) 14 (nI H)) (39 + i) 7 (-1)) 10 (upd (upd (upd (upd v (1212 + 18 * k + 14) (nI d)) (1212 + 18 * k + 9) (nI 4)) (1212 + 18 * k + 13) (nI H)) (1000 + 8 * i + 6) (-1)) := by
  have C := h.cr
  have r := h.rg
  have b := r.b
  have k80 : k < 80 := by omega
  have x1 := h.x.ship (f := 15) (g := 14) (y := nI d) hI hk rfl (ok_n (rg_s (f := 14) k80 (by decide)) (by show (0 : Int) ≤ _; omega) (show (d : Int) ≤ 2000000000 by omega) (by omega))
  have x2 := x1.ship (k := k) (f := 10) (g := 9) (y := nI 4) hI (by rw [upd_n (by omega)]; exact hk) rfl (ok_n (rg_s (f := 9) k80 (by decide)) (by show (0 : Int) ≤ _; omega) (by show _ ≤ (4 : Int); omega) (by omega))
  have x3 := x2.ship (k := k) (f := 14) (g := 13) (y := nI H) hI (by rw [upd_n (by omega), upd_n (by omega)]; exact hk) rfl (ok_n (rg_s (f := 13) k80 (by decide)) (by show (-1 : Int) ≤ _; omega) (show (H : Int) ≤ 30000 by omega) (by omega))
  have x4 := x3.berth (k := i) (f := 7) (y := -1) hI (by rw [upd_n (by omega), upd_n (by omega), upd_n (by omega)]; exact hi) (by decide) (ok_m (hi := 79) (rg_b (f := 6) (by omega) (by decide)) (by decide))
  refine x4.rb ?_
  show Cr (upd (upd (upd (upd v (1212 + 18 * k + 14) (nI d)) (1212 + 18 * k + 9) (nI 4)) (1212 + 18 * k + 13) (nI H)) (1000 + 8 * i + 6) (-1))
  generalize ev : upd (upd (upd (upd v (1212 + 18 * k + 14) (nI d)) (1212 + 18 * k + 9) (nI 4)) (1212 + 18 * k + 13) (nI H)) (1000 + 8 * i + 6) (-1) = v'
  have hu : ∀ q, q ≠ 1212 + 18 * k + 14 → q ≠ 1212 + 18 * k + 9 → q ≠ 1212 + 18 * k + 13 → q ≠ 1000 + 8 * i + 6 → v' q = v q := fun q h1 h2 h3 h4 => by rw [← ev, upd_n h4, upd_n h3, upd_n h2, upd_n h1]
  have hx : v' (1000 + 8 * i + 6) = -1 := by rw [← ev, upd_s]
  have h9' : v' (1212 + 18 * k + 9) = nI 4 := by rw [← ev, upd_n (by omega), upd_n (by omega), upd_s]
  have hf : ∀ k' f, k' ≠ k → f < 18 → v' (1212 + 18 * k' + f) = v (1212 + 18 * k' + f) := fun k' f h1 h2 => hu _ (by omega) (by omega) (by omega) (by omega)
  refine Cr.mk ?_ ?_ ?_ ?_ ?_ (C.sd_s r (hu _ (by omega) (by omega) (by omega) (by omega)) (fun q _ _ => hu q (by omega) (by omega) (by omega) (by omega))) (C.ev_s r (hu _ (by omega) (by omega) (by omega) (by omega)) (fun q _ _ => hu q (by omega) (by omega) (by omega) (by omega))) ?_ (C.zp_s (fun q _ _ => hu q (by omega) (by omega) (by omega) (by omega))) ?_ ?_ (C.oe_s (hu _ (by omega) (by omega) (by omega) (by omega)) (fun q _ _ => hu q (by omega) (by omega) (by omega) (by omega)))
  · intro j hj
    rw [hu _ (by omega) (by omega) (by omega) (by omega), hu 0 (by omega) (by omega) (by omega) (by omega)]; exact C.ld j hj
  · intro j hj
    rw [hu 999 (by omega) (by omega) (by omega) (by omega)] at hj
    rw [hu _ (by omega) (by omega) (by omega) (by omega)]; exact C.cr j hj
  · intro j hj
    rw [hu 999 (by omega) (by omega) (by omega) (by omega)] at hj
    by_cases e : j = i
    · subst e; exact Or.inl hx
    · rw [hu (1000 + 8 * j + 6) (by omega) (by omega) (by omega) (by omega), hu 1211 (by omega) (by omega) (by omega) (by omega)]
      rcases C.hs j hj with q | ⟨k', q1, q2, q3, q4, q5⟩
      · exact Or.inl q
      · have nk : k' ≠ k := fun e2 => by
          subst e2
          rw [hat] at q3
          exact absurd q3 (nI_inj (by omega) (by omega) (Ne.symm e))
        exact Or.inr ⟨k', q1, q2, by rw [hf k' 10 nk (by decide)]; exact q3, by rw [hf k' 9 nk (by decide)]; exact q4, by rw [hf k' 9 nk (by decide)]; exact q5⟩
  · intro k' hk'
    rw [hu 1211 (by omega) (by omega) (by omega) (by omega)] at hk'
    by_cases e : k' = k
    · subst e
      rw [h9', N_nI (by decide)]
      intro _ q
      omega
    · rw [hf k' 9 e (by decide), hf k' 10 e (by decide), hu 999 (by omega) (by omega) (by omega) (by omega)]
      intro q1 q2
      obtain ⟨j, p1, p2, p3⟩ := C.sh k' hk' q1 q2
      have nj : j ≠ i := fun e2 => by
        subst e2
        rw [hhas] at p3
        exact absurd p3 (nI_inj (by omega) (by omega) (Ne.symm e))
      exact ⟨j, p1, p2, by rw [hu _ (by omega) (by omega) (by omega) (by omega)]; exact p3⟩
  · intro k' hk'
    rw [hu 1211 (by omega) (by omega) (by omega) (by omega)] at hk'
    rw [hu (1212 + 18 * k') (by omega) (by omega) (by omega) (by omega), hu 1090 (by omega) (by omega) (by omega) (by omega)]
    exact C.ow k' hk'
  · rw [hu 2655 (by omega) (by omega) (by omega) (by omega), hu 1211 (by omega) (by omega) (by omega) (by omega), tcs_same (v := v) _ (fun j hj => hu _ (by omega) (by omega) (by omega) (by omega))]
    exact C.tc
  · intro k' q1 q2
    rw [hu 1211 (by omega) (by omega) (by omega) (by omega)] at q1
    rw [hf k' 9 (by omega) (by decide), hf k' 14 (by omega) (by decide), hf k' 16 (by omega) (by decide)]
    exact C.zs k' q1 q2
  · intro j q1 q2
    rw [hu 999 (by omega) (by omega) (by omega) (by omega)] at q1
    rw [hu _ (by omega) (by omega) (by omega) (by omega), hu _ (by omega) (by omega) (by omega) (by omega), hu _ (by omega) (by omega) (by omega) (by omega)]
    exact C.zb j q1 q2
/-- added up to the most -/
def ad (x y : Int32) : Int32 := (mnl 2000000000 (x.toInt64 + y.toInt64)).toInt32
theorem ad_n {m j : Nat} (hm : m ≤ 2000000000) (hj : j < 2 ^ 31) : ∃ d, d ≤ 2000000000 ∧ m ≤ d ∧ (d = m + j ∨ d = 2000000000) ∧ ad (nI m) (nI j) = nI d := add_nn hm hj
theorem ad_0 {m : Nat} (hm : m ≤ 2000000000) : ad (nI m) (nI 0) = nI m := by
  unfold ad
  rw [nI_l (by omega), nI_l (by decide), lN_add, Nat.add_zero]
  unfold mnl
  by_cases q : m < 2000000000
  · rw [if_pos (show lN m < (2000000000 : Int64) from (pk_lLT (show m < 2 ^ 63 by omega) (show 2000000000 < 2 ^ 63 by decide)).mpr q)]
    exact lN_i m
  · rw [if_neg (show ¬ lN m < (2000000000 : Int64) from fun e => q ((pk_lLT (show m < 2 ^ 63 by omega) (show 2000000000 < 2 ^ 63 by decide)).mp e)), show m = 2000000000 by omega]
    decide
def vD (v : Nat → Int32) (p : Nat) (z : Int32) : Nat → Int32 := upd (upd (upd (upd v (1091 + 4 * p + 0) (ad (v (1091 + 4 * p + 0)) z)) (1091 + 4 * p + 2) (ad (v (1091 + 4 * p + 2)) z)) 2653 (ad (v 2653) z)) 2652 (ad (v 2652) z)
def cD (c : cS) (v : Nat → Int32) (p : Nat) (z : Int32) : cS := cp (cp (cp (cp c 132 p (ad (v (1091 + 4 * p + 0)) z)) 134 p (ad (v (1091 + 4 * p + 2)) z)) 131 1 (ad (v 2653) z)) 131 0 (ad (v 2652) z)
theorem o_takeDue {z : Int32} (h : RX τ n c 10 v) (hp : p < 30) : o_X6_takeDue τ n 10 c (nI p) z = some (cD c v p z) := by
  have e0 : c.1 132 p = v (1091 + 4 * p + 0) := h.pl _ _ _ (wk_p (j := 0) hp (by decide))
  have e2 : c.1 134 p = v (1091 + 4 * p + 2) := h.pl _ _ _ (wk_p (j := 2) hp (by decide))
  have e3 : c.1 131 1 = v 2653 := h.pl 2653 121 1 rfl
  have e4 : c.1 131 0 = v 2652 := h.pl 2652 121 0 rfl
  unfold o_X6_takeDue o_X11_capped cD ad
  simp only [show (10 + 121 : Nat) = 131 from rfl, show (10 + 122 : Nat) = 132 from rfl, show (10 + 124 : Nat) = 134 from rfl]
  have g0 : cg c 132 (nI p) = v (1091 + 4 * p + 0) := by rw [cg_n _ _ (by omega)]; exact e0
  rw [if_pos (iL_t hp (by decide)), Option.bind_some, g0, ca_n c 132 (show p < 2 ^ 31 by omega), Option.bind_some, cg_n _ 134 (show p < 2 ^ 31 by omega), cp_1 134 (by decide), e2, ca_n _ _ (by omega), Option.bind_some, cp_1 _ (by decide), cp_1 _ (by decide), e3, Option.bind_some, Option.bind_some, cp_q, upd_n (by decide), cp_1 _ (by decide), cp_1 _ (by decide), e4, mnl_comm, mnl_comm, mnl_comm, mnl_comm]
theorem RB.dued (h : RB τ n c 10 v) (hI : LI τ n) (hp : p < N (v 1090)) (hd : d ≤ 2000000000) : RB τ n (cD c v p (nI d)) 10 (if d = 0 then vD v p (nI d) else upd (vD v p (nI d)) 2660 (nI 1)) := by
  have C := h.cr
  have r := h.rg
  have b := r.b
  have p30 : p < 30 := by omega
  have rI := r.nat (k := 1091 + 4 * p + 2) (hi := 2000000000) (by rw [rg_p p30 (by decide)]; rfl)
  have rC := r.nat (k := 2652) (hi := 2000000000) rfl
  obtain ⟨dI, dI1, dI2, dI3, dI4⟩ := ad_n (m := N (v (1091 + 4 * p + 2))) (j := d) (by omega) (by omega)
  obtain ⟨dC, dC1, dC2, dC3, dC4⟩ := ad_n (m := N (v 2652)) (j := d) (by omega) (by omega)
  have eI : ad (v (1091 + 4 * p + 2)) (nI d) = nI dI := by rw [rI.1]; exact dI4
  have eC' : ad (v 2652) (nI d) = nI dC := by rw [rC.1]; exact dC4
  have x1 := h.x.pput (y := ad (v (1091 + 4 * p + 0)) (nI d)) hI (wk_p (j := 0) p30 (by decide)) (by omega) (by omega) (by omega) (by omega) (by omega) (rg_any (by rw [rg_p p30 (by decide)]; rfl))
  have x2 := x1.pput (y := ad (v (1091 + 4 * p + 2)) (nI d)) hI (wk_p (j := 2) p30 (by decide)) (by omega) (by omega) (by omega) (by omega) (by omega) (by rw [eI]; exact ok_n (lo := 0) (hi := 2000000000) (by rw [rg_p p30 (by decide)]; rfl) (by omega) (by omega) (by omega))
  have x3 := x2.pput (k := 2653) (o := 121) (j := 1) (y := ad (v 2653) (nI d)) hI rfl (by omega) (by omega) (by omega) (by omega) (by omega) (rg_any rfl)
  have x4 := x3.pput (k := 2652) (o := 121) (j := 0) (y := ad (v 2652) (nI d)) hI rfl (by omega) (by omega) (by omega) (by omega) (by omega) (by rw [eC']; exact ok_n (lo := 0) (hi := 2000000000) rfl (by omega) (by omega) (by omega))
  have x4' : RX τ n (cD c v p (nI d)) 10 (vD v p (nI d)) := x4
  have key : ∀ v' : Nat → Int32, (∀ q, q ≠ 1091 + 4 * p + 0 → q ≠ 1091 + 4 * p + 2 → q ≠ 2653 → q ≠ 2652 → q ≠ 2660 → v' q = v q) → (v' 2660 = nI 1 ↔ ∃ p', p' < N (v 1090) ∧ 0 < (v' (1091 + 4 * p' + 2)).toInt) → Cr v' := fun v' hu hev => by
    have hq : ∀ q, q < 1091 ∨ (1211 ≤ q ∧ q < 2652) ∨ 2661 ≤ q ∨ q = 2655 → v' q = v q := fun q hq => hu q (by omega) (by omega) (by omega) (by omega) (by omega)
    refine Cr.mk (C.ld_s (hq _ (by omega)) (fun q _ _ => hq q (by omega))) (C.cr_s r (fun q _ _ => hq q (by omega))) (C.hs_s r (fun q _ _ => hq q (by omega)) (fun q _ _ => hq q (by omega))) (C.sh_s r (fun q _ _ => hq q (by omega)) (fun q _ _ => hq q (by omega))) ?_ (C.sd_s r (hq _ (by omega)) (fun q _ _ => hq q (by omega))) ?_ (C.tc_s r (hq _ (by omega)) (fun q _ _ => hq q (by omega))) ?_ (C.zs_s (fun q _ _ => hq q (by omega))) (C.zb_s (fun q _ _ => hq q (by omega))) (C.oe_s (hq _ (by omega)) (fun q _ _ => hq q (by omega)))
    · intro k' hk'
      rw [hq 1211 (by omega)] at hk'
      rw [hq _ (by omega), hq 1090 (by omega)]
      exact C.ow k' hk'
    · rw [hq 1090 (by omega)]; exact hev
    · intro p' q1 q2
      rw [hq 1090 (by omega)] at q1
      rw [hu _ (by omega) (by omega) (by omega) (by omega) (by omega), hu _ (by omega) (by omega) (by omega) (by omega) (by omega), hu _ (by omega) (by omega) (by omega) (by omega) (by omega)]
      exact C.zp p' q1 q2
  have vo : ∀ q, q ≠ 1091 + 4 * p + 0 → q ≠ 1091 + 4 * p + 2 → q ≠ 2653 → q ≠ 2652 → vD v p (nI d) q = v q := fun q h1 h2 h3 h4 => by unfold vD; rw [upd_n h4, upd_n h3, upd_n h2, upd_n h1]
  have vI : vD v p (nI d) (1091 + 4 * p + 2) = nI dI := by unfold vD; rw [upd_n (by omega), upd_n (by omega), upd_s, eI]
  by_cases d0 : d = 0
  · rw [if_pos d0]
    have dIm : dI = N (v (1091 + 4 * p + 2)) := by
      have e1 : ad (nI (N (v (1091 + 4 * p + 2)))) (nI d) = nI (N (v (1091 + 4 * p + 2))) := by rw [d0]; exact ad_0 (by omega)
      exact (nI_eq (by omega) (by omega)).mp (dI4.symm.trans e1)
    refine x4'.rb (key _ (fun q h1 h2 h3 h4 _ => vo q h1 h2 h3 h4) ?_)
    rw [vo 2660 (by omega) (by omega) (by omega) (by omega)]
    refine C.ev.trans ⟨fun ⟨p', q1, q2⟩ => ⟨p', q1, ?_⟩, fun ⟨p', q1, q2⟩ => ⟨p', q1, ?_⟩⟩
    · by_cases e : p' = p
      · subst e
        rw [vI, nI_toInt (by omega)]
        rw [rI.1, nI_toInt (by omega)] at q2
        omega
      · rw [vo _ (by omega) (by omega) (by omega) (by omega)]; exact q2
    · by_cases e : p' = p
      · subst e
        rw [vI, nI_toInt (by omega)] at q2
        rw [rI.1, nI_toInt (by omega)]
        omega
      · rw [vo _ (by omega) (by omega) (by omega) (by omega)] at q2; exact q2
  · rw [if_neg d0]
    refine (x4'.ref (k := 2660) (y := nI 1) (Or.inr rfl) (ok_n (lo := 0) (hi := 1) rfl (by decide) (by decide) (by decide))).rb (key _ (fun q h1 h2 h3 h4 h5 => by rw [upd_n h5]; exact vo q h1 h2 h3 h4) ?_)
    rw [upd_s]
    refine ⟨fun _ => ⟨p, hp, ?_⟩, fun _ => rfl⟩
    rw [upd_n (by omega), vI, nI_toInt (by omega)]
    omega
theorem RAct.vv {τ : cT} {a : Nat} (h : RAct τ c p v a) (hv : ∀ q, 2812 ≤ q → v' q = v q) : RAct τ c p v' a := h.same (fun _ _ => rfl) (fun _ _ => rfl) (fun k k0 k1 => hv _ (by omega))
theorem RLaw.vv {z : Int32} (h : RLaw τ c p v z) (hv : ∀ q, 2812 ≤ q → v' q = v q) : RLaw τ c p v' z := by
  rcases h with e | ⟨a, ha, e1, h⟩
  · exact Or.inl e
  · exact Or.inr ⟨a, ha, e1, h.vv hv⟩
end LV2
