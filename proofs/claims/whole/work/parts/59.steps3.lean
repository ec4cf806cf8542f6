/-! THE PURE LAYER: parts of the relation that a step doesn't touch; payer, sound, berth -/
section CRS
variable {v v' : Nat → Int32}
theorem Rg.b {v : Nat → Int32} (r : Rg v) : N (v 198) ≤ 200 ∧ N (v 999) ≤ 10 ∧ N (v 1090) ≤ 30 ∧ N (v 1211) ≤ 80 ∧ N (v 2665) ≤ 20 ∧ N (v 2811) ≤ 20 := by
  have a1 := (r.nat (k := 198) (hi := 200) rfl).2
  have a2 := (r.nat (k := 999) (hi := 10) rfl).2
  have a3 := (r.nat (k := 1090) (hi := 30) rfl).2
  have a4 := (r.nat (k := 1211) (hi := 80) rfl).2
  have a5 := (r.nat (k := 2665) (hi := 20) rfl).2
  have a6 := (r.nat (k := 2811) (hi := 20) rfl).2
  omega
theorem Cr.ld_s (C : Cr v) (h0 : v' 0 = v 0) (hb : ∀ k, 999 ≤ k → k < 1080 → v' k = v k) : ∀ i, i < 10 → (v' (1000 + 8 * i + 4)).toInt ≤ 500 * (v' 0).toInt := by
  intro i hi; rw [hb _ (by omega) (by omega), h0]; exact C.ld i hi
theorem Cr.cr_s (C : Cr v) (r : Rg v) (hb : ∀ k, 999 ≤ k → k < 1080 → v' k = v k) : ∀ i, i < N (v' 999) → 1 ≤ N (v' (1000 + 8 * i + 2)) := by
  have := r.b
  intro i hi; rw [hb 999 (by omega) (by omega)] at hi; rw [hb _ (by omega) (by omega)]; exact C.cr i hi
theorem Cr.hs_s (C : Cr v) (r : Rg v) (hb : ∀ k, 999 ≤ k → k < 1080 → v' k = v k) (hs : ∀ k, 1211 ≤ k → k < 2652 → v' k = v k) : ∀ i, i < N (v' 999) → v' (1000 + 8 * i + 6) = -1 ∨ ∃ k, k < N (v' 1211) ∧ v' (1000 + 8 * i + 6) = nI k ∧ v' (1212 + 18 * k + 10) = nI i ∧ 1 ≤ N (v' (1212 + 18 * k + 9)) ∧ N (v' (1212 + 18 * k + 9)) ≤ 3 := by
  have := r.b
  intro i hi
  rw [hb 999 (by omega) (by omega)] at hi
  rw [hb _ (by omega) (by omega), hs 1211 (by omega) (by omega)]
  rcases C.hs i hi with q | ⟨k, q1, q2, q3, q4, q5⟩
  · exact Or.inl q
  · exact Or.inr ⟨k, q1, q2, by rw [hs _ (by omega) (by omega)]; exact q3, by rw [hs _ (by omega) (by omega)]; exact q4, by rw [hs _ (by omega) (by omega)]; exact q5⟩
theorem Cr.sh_s (C : Cr v) (r : Rg v) (hb : ∀ k, 999 ≤ k → k < 1080 → v' k = v k) (hs : ∀ k, 1211 ≤ k → k < 2652 → v' k = v k) : ∀ k, k < N (v' 1211) → 1 ≤ N (v' (1212 + 18 * k + 9)) → N (v' (1212 + 18 * k + 9)) ≤ 3 → ∃ i, i < N (v' 999) ∧ v' (1212 + 18 * k + 10) = nI i ∧ v' (1000 + 8 * i + 6) = nI k := by
  have := r.b
  intro k hk
  rw [hs 1211 (by omega) (by omega)] at hk
  rw [hs (1212 + 18 * k + 9) (by omega) (by omega), hb 999 (by omega) (by omega), hs (1212 + 18 * k + 10) (by omega) (by omega)]
  intro q1 q2
  obtain ⟨i, p1, p2, p3⟩ := C.sh k hk q1 q2
  exact ⟨i, p1, p2, by rw [hb _ (by omega) (by omega)]; exact p3⟩
theorem Cr.ow_s (C : Cr v) (r : Rg v) (hp : v' 1090 = v 1090) (hs : ∀ k, 1211 ≤ k → k < 2652 → v' k = v k) : ∀ k, k < N (v' 1211) → N (v' (1212 + 18 * k)) < N (v' 1090) := by
  have := r.b
  intro k hk
  rw [hs 1211 (by omega) (by omega)] at hk
  rw [hs _ (by omega) (by omega), hp]
  exact C.ow k hk
theorem Cr.sd_s (C : Cr v) (r : Rg v) (h0 : v' 0 = v 0) (hd : ∀ k, 198 ≤ k → k < 999 → v' k = v k) : ∀ i, i < N (v' 198) → ¬ v' 0 < v' (199 + 4 * i + 3) := by
  have := r.b
  intro i hi; rw [hd 198 (by omega) (by omega)] at hi; rw [h0, hd _ (by omega) (by omega)]; exact C.sd i hi
theorem Cr.ev_s (C : Cr v) (r : Rg v) (he : v' 2660 = v 2660) (hp : ∀ k, 1090 ≤ k → k < 1211 → v' k = v k) : v' 2660 = nI 1 ↔ ∃ p, p < N (v' 1090) ∧ 0 < (v' (1091 + 4 * p + 2)).toInt := by
  have := r.b
  rw [he, hp 1090 (by omega) (by omega)]
  exact C.ev.trans ⟨fun ⟨p, q1, q2⟩ => ⟨p, q1, by rw [hp _ (by omega) (by omega)]; exact q2⟩, fun ⟨p, q1, q2⟩ => ⟨p, q1, by rw [hp _ (by omega) (by omega)] at q2; exact q2⟩⟩
theorem Cr.tc_s (C : Cr v) (r : Rg v) (ht : v' 2655 = v 2655) (hs : ∀ k, 1211 ≤ k → k < 2652 → v' k = v k) : v' 2655 = tcs v' (N (v' 1211)) := by
  have := r.b
  rw [ht, hs 1211 (by omega) (by omega), tcs_same _ (fun i hi => hs _ (by omega) (by omega))]; exact C.tc
theorem Cr.zp_s (C : Cr v) (hp : ∀ k, 1090 ≤ k → k < 1211 → v' k = v k) : ∀ p, N (v' 1090) ≤ p → p < 30 → v' (1091 + 4 * p) = 0 ∧ v' (1091 + 4 * p + 1) = 0 ∧ v' (1091 + 4 * p + 2) = 0 := by
  intro p q1 q2
  rw [hp 1090 (by omega) (by omega)] at q1
  rw [hp _ (by omega) (by omega), hp _ (by omega) (by omega), hp _ (by omega) (by omega)]
  exact C.zp p q1 q2
theorem Cr.zs_s (C : Cr v) (hs : ∀ k, 1211 ≤ k → k < 2652 → v' k = v k) : ∀ k, N (v' 1211) ≤ k → k < 80 → v' (1212 + 18 * k + 9) = 0 ∧ v' (1212 + 18 * k + 14) = 0 ∧ v' (1212 + 18 * k + 16) = 0 := by
  intro k q1 q2
  rw [hs 1211 (by omega) (by omega)] at q1
  rw [hs _ (by omega) (by omega), hs _ (by omega) (by omega), hs _ (by omega) (by omega)]
  exact C.zs k q1 q2
theorem Cr.oe_s (C : Cr v) (h0 : v' 0 = v 0) (hb : ∀ k, 2665 ≤ k → k < 2786 → v' k = v k) : ∀ b, b < 20 → (v' (2666 + 6 * b + 4)).toInt ≤ 1200000 * ((v' 0).toInt / 2400) := by
  intro b h; rw [hb _ (by omega) (by omega), h0]; exact C.oe b h
theorem Cr.zb_s (C : Cr v) (hb : ∀ k, 999 ≤ k → k < 1080 → v' k = v k) : ∀ i, N (v' 999) ≤ i → i < 10 → v' (1000 + 8 * i + 4) = 0 ∧ v' (1000 + 8 * i + 5) = 0 ∧ v' (1000 + 8 * i + 7) = 0 := by
  intro i q1 q2
  rw [hb 999 (by omega) (by omega)] at q1
  rw [hb _ (by omega) (by omega), hb _ (by omega) (by omega), hb _ (by omega) (by omega)]
  exact C.zb i q1 q2
end CRS
section RBS
variable {τ : cT} {n : Nat} {c c' : cS} {b : Nat} {v v' : Nat → Int32}
theorem RB.ber_s (h : RB τ n c b v) (hv : ∀ k, 999 ≤ k → k < 1080 → v' k = v k) (hc : ∀ o, 29 ≤ o → o < 39 → ∀ j, j < 8 → c'.1 (b + o) j = c.1 (b + o) j) : RBe c' b v' (N (v' 999)) := by
  intro i hi f hf
  rw [hv 999 (by decide) (by decide)] at hi
  have := h.n999.2
  have : bf f < 8 := by unfold bf; split <;> (try split) <;> omega
  rw [show b + 29 + i = b + (29 + i) by omega, hc (29 + i) (by omega) (by omega) f hf, hv _ (by omega) (by omega), ← Nat.add_assoc]
  exact h.ber i hi f hf
theorem sf_lt {f g : Nat} (h : sf f = some g) : g < 18 ∧ f < 19 := by
  unfold sf at h
  repeat' split at h
  all_goals (first | (cases h; done) | (injection h with h; omega))
theorem RB.shp_s (h : RB τ n c b v) (hv : ∀ k, 1211 ≤ k → k < 2652 → v' k = v k) (hc : ∀ o, 40 ≤ o → o < 120 → c'.1 (b + o) = c.1 (b + o)) : RSh c' b v' (N (v' 1211)) := by
  intro i hi f g hg
  rw [hv 1211 (by decide) (by decide)] at hi
  have := h.n1211.2
  have := sf_lt hg
  rw [show b + 40 + i = b + (40 + i) by omega, hc (40 + i) (by omega) (by omega), hv _ (by omega) (by omega), ← Nat.add_assoc]
  exact h.shp i hi f g hg
theorem RB.bak_s (h : RB τ n c b v) (hv : ∀ k, 1211 ≤ k → k < 2652 → v' k = v k) (hc : ∀ o, 40 ≤ o → o < 120 → c'.1 (b + o) = c.1 (b + o)) : ∀ i, i < N (v' 1211) → bk (c'.1 (b + 40 + i) 16) (c'.1 (b + 40 + i) 17) (v' (1212 + 18 * i + 15)) := by
  intro i hi
  rw [hv 1211 (by decide) (by decide)] at hi
  have := h.n1211.2
  rw [show b + 40 + i = b + (40 + i) by omega, hc (40 + i) (by omega) (by omega), hv _ (by omega) (by omega), ← Nat.add_assoc]
  exact h.bak i hi
theorem RB.law_s (h : RB τ n c b v) (hv : ∀ k, 1211 ≤ k → k < 2652 → v' k = v k) (hv2 : v' 2811 = v 2811) (hc : ∀ o, 40 ≤ o → o < 120 → c'.2 (b + o) = c.2 (b + o)) (hc2 : c'.2 (b + 24) = c.2 (b + 24)) : ∀ i, i < N (v' 1211) → (v' (1212 + 18 * i + 17) = -1 ∧ c'.2 (b + 40 + i) 8 = some 28) ∨ ∃ a, a < N (v' 2811) ∧ v' (1212 + 18 * i + 17) = nI a ∧ c'.2 (b + 40 + i) 8 = c'.2 (b + 24) a := by
  intro i hi
  rw [hv 1211 (by decide) (by decide)] at hi
  have := h.n1211.2
  rw [show b + 40 + i = b + (40 + i) by omega, hc (40 + i) (by omega) (by omega), hv _ (by omega) (by omega), hv2, hc2, ← Nat.add_assoc]
  exact h.law i hi
theorem RB.txt_s (h : RB τ n c b v) (hv : ∀ k, 2811 ≤ k → k < 20452 → v' k = v k) (hc : c'.1 (b + 25) = c.1 (b + 25)) (hc2 : c'.2 (b + 24) = c.2 (b + 24)) (ha : As τ n c c') : ∀ a, a < N (v' 2811) → c'.1 (b + 25) a = v' (2812 + 882 * a) ∧ ∃ p, c'.2 (b + 24) a = some p ∧ acb τ n p = true ∧ RAct τ c' p v' a := by
  intro a ha2
  rw [hv 2811 (by decide) (by decide)] at ha2
  have := h.n2811.2
  obtain ⟨q1, p, q2, q3, q4⟩ := h.txt a ha2
  rw [hc, hc2, hv _ (by omega) (by omega)]
  exact ⟨q1, p, q2, q3, q4.same (fun _ _ => rfl) (ha p q3) (fun k k0 k1 => hv _ (by omega) (by omega))⟩
theorem RB.prp_s (h : RB τ n c b v) (hv : ∀ k, 20452 ≤ k → k < 21334 → v' k = v k) (hv2 : v' 2661 = v 2661) (hc : c'.2 (b + 17) = c.2 (b + 17)) (ha : As τ n c c') : ∃ p, c'.2 (b + 17) 5 = some p ∧ acb τ n p = true ∧ (v' 2661 = nI 1 → RAct τ c' p v' 20) := by
  obtain ⟨p, q2, q3, q4⟩ := h.prp
  rw [hc, hv2]
  exact ⟨p, q2, q3, fun e => (q4 e).same (fun _ _ => rfl) (ha p q3) (fun k k0 k1 => hv _ (by omega) (by omega))⟩
theorem ls_same {x t : Int32} : ∀ m, (∀ i, i < m → ∀ j, j < 4 → v' (199 + 4 * i + j) = v (199 + 4 * i + j)) → ls v' x t m = ls v x t m := by
  intro m
  induction m with
  | zero => intro _; rfl
  | succ m ih =>
    intro hm
    have : ∀ j, ls v x t m = some j → v' (199 + 4 * j + 1) = v (199 + 4 * j + 1) := fun j hj => hm j (by have := ls_lt hj; omega) 1 (by decide)
    rw [ls, ls, ih (fun i hi => hm i (by omega)), show v' (199 + 4 * m) = v (199 + 4 * m) from hm m (by omega) 0 (by decide), hm m (by omega) 3 (by decide), hm m (by omega) 1 (by decide)]
    cases e : ls v x t m with
    | none => rfl
    | some j => simp only [this j e]
theorem RB.snd_s (h : RB τ n c b v) (h0 : v' 0 = v 0) (hv : ∀ k, 198 ≤ k → k < 999 → v' k = v k) (hc : c'.1 (b + 16) = c.1 (b + 16)) : ∀ k, k < 24 → c'.1 (b + 16) k = eC (ls v' (nI k) (v' 0) (N (v' 198))) := by
  intro k hk
  have := h.n198.2
  rw [hc, h0, hv 198 (by decide) (by decide), ls_same (v := v) _ (fun i hi j hj => hv _ (by omega) (by omega))]
  exact h.snd k hk
theorem RB.bus_s (h : RB τ n c b v) (h0 : v' 0 = v 0) (hv : ∀ k, 1082 ≤ k → k < 1090 → v' k = v k) (hc : c'.1 (b + 120) = c.1 (b + 120)) : c'.1 (b + 120) 0 = bz8 v' 0 + bz8 v' 1 + bz8 v' 2 + bz8 v' 3 ∧ c'.1 (b + 120) 1 = bz8 v' 1 + bz8 v' 2 + bz8 v' 3 ∧ c'.1 (b + 120) 2 = bz8 v' 2 + bz8 v' 3 ∧ c'.1 (b + 120) 3 = bz8 v' 3 ∧ ∀ e, 4 ≤ e → e < 8 → bz8 v' e = 0 := by
  have e8 : ∀ e, bz8 v' e = bz8 v e := fun e => by unfold bz8; rw [h0, hv _ (by omega) (by omega)]
  simp only [e8]
  rw [hc]
  exact h.bus
end RBS
section ST
variable {F : Nat} {x : Nat → Int32} {τ : cT} {n : Nat} {c : cS} {s : rs_S}
theorem cp_id {c : cS} {q j : Nat} {y : Int32} (h : c.1 q j = y) : cp c q j y = c := by
  refine Prod.ext (funext fun a => ?_) rfl
  by_cases e : a = q
  · subst e
    rw [cp_q]
    funext i
    by_cases e2 : i = j
    · subst e2; rw [upd_s, h]
    · rw [upd_n e2]
  · rw [cp_1 _ e]
theorem wk_p {i j : Nat} (hi : i < 30) (hj : j < 3) : wk (1091 + 4 * i + j) = some (122 + j, i) := by
  have h : ∀ i, i < 30 → ∀ j, j < 3 → wk (1091 + 4 * i + j) = some (122 + j, i) := by decide +kernel
  exact h i hi j hj
theorem st12 (hI : LI τ n) (h : Rel τ n c s) : stp Rel F 12 x τ n c s := by
  rcases e_payer (τ := τ) (n := n) (c := c) (s := s) (h.b.pl 1090 121 6 rfl) h.b.n1090.1 h.b.n1090.2 with ⟨hm, a, b⟩ | ⟨a, b⟩
  · obtain ⟨z0, z1, z2⟩ := h.b.cr.zp _ (Nat.le_refl _) hm
    have y0 : c.1 132 (N (s.2.1 1090)) = nI 0 := (h.b.pl _ _ _ (wk_p (j := 0) hm (by decide))).trans z0
    have y1 : c.1 133 (N (s.2.1 1090)) = nI 0 := (h.b.pl _ _ _ (wk_p (j := 1) hm (by decide))).trans z1
    have y2 : c.1 134 (N (s.2.1 1090)) = nI 0 := (h.b.pl _ _ _ (wk_p (j := 2) hm (by decide))).trans z2
    rw [cp_id y0, cp_id y1, cp_id y2] at a
    refine Or.inl ⟨_, _, _, a, b, pN0 s (nI 0), ?_⟩
    have hu : ∀ k, k ≠ 1090 → upd s.2.1 1090 (nI (N (s.2.1 1090) + 1)) k = s.2.1 k := fun k hk => upd_n hk
    have hn : N (upd s.2.1 1090 (nI (N (s.2.1 1090) + 1)) 1090) = N (s.2.1 1090) + 1 := by rw [upd_s, N_nI (by omega)]
    refine (h.pn (nI 0)).put (o := 121) (j := 6) hI rfl (by decide) (by omega) (by decide) (by decide) (by decide) (ok_n (lo := 0) (hi := 30) rfl (by omega) (by omega) (by omega)) ?_
    have C := h.b.cr
    show Cr (upd s.2.1 1090 (nI (N (s.2.1 1090) + 1)))
    have r := h.b.rg
    have m4 := h.b.n1211.2
    have m2 := h.b.n999.2
    have m1 := h.b.n198.2
    refine Cr.mk (C.ld_s (hu _ (by omega)) (fun k _ _ => hu k (by omega))) (C.cr_s r (fun k _ _ => hu k (by omega))) (C.hs_s r (fun k _ _ => hu k (by omega)) (fun k _ _ => hu k (by omega))) (C.sh_s r (fun k _ _ => hu k (by omega)) (fun k _ _ => hu k (by omega))) ?_ (C.sd_s r (hu _ (by omega)) (fun k _ _ => hu k (by omega))) ?_ (C.tc_s r (hu _ (by omega)) (fun k _ _ => hu k (by omega))) ?_ (C.zs_s (fun k _ _ => hu k (by omega))) (C.zb_s (fun k _ _ => hu k (by omega))) (C.oe_s (hu _ (by omega)) (fun k _ _ => hu k (by omega)))
    · intro k hk
      rw [hu _ (by omega)] at hk
      rw [hu _ (by omega), hn]
      have := C.ow k hk
      omega
    · rw [hu _ (by omega), hn]
      refine C.ev.trans ⟨fun ⟨p, q1, q2⟩ => ⟨p, by omega, by rw [hu _ (by omega)]; exact q2⟩, fun ⟨p, q1, q2⟩ => ?_⟩
      rw [hu _ (by omega)] at q2
      by_cases e : p = N (s.2.1 1090)
      · subst e; rw [z2] at q2; exact absurd q2 (by decide)
      · exact ⟨p, by omega, q2⟩
    · intro p q1 q2
      rw [hn] at q1
      rw [hu _ (by omega), hu _ (by omega), hu _ (by omega)]
      exact C.zp p (by omega) q2
  · exact Or.inr ⟨_, _, _, a, b, pN0 _ _, h.pn2 _ _⟩
/-- one sounding more -/
theorem RB.sounded {v : Nat → Int32} {b k : Nat} (h : RB τ n c b v) (hm : N (v 198) < 200) (hk : k < 24) (e0 : v (199 + 4 * N (v 198)) = nI k) (e3 : v (199 + 4 * N (v 198) + 3) = v 0) (ha : As τ n c (cp (cp c (b + 11) 4 (nI (N (v 198) + 1))) (b + 16) k (eC (ls (upd v 198 (nI (N (v 198) + 1))) (nI k) (v 0) (N (v 198) + 1))))) : RB τ n (cp (cp c (b + 11) 4 (nI (N (v 198) + 1))) (b + 16) k (eC (ls (upd v 198 (nI (N (v 198) + 1))) (nI k) (v 0) (N (v 198) + 1)))) b (upd v 198 (nI (N (v 198) + 1))) := by
  have hu : ∀ q, q ≠ 198 → upd v 198 (nI (N (v 198) + 1)) q = v q := fun q hq => upd_n hq
  have hn : N (upd v 198 (nI (N (v 198) + 1)) 198) = N (v 198) + 1 := by rw [upd_s, N_nI (by omega)]
  have hc : ∀ o, o ≠ 11 → o ≠ 16 → (cp (cp c (b + 11) 4 (nI (N (v 198) + 1))) (b + 16) k (eC (ls (upd v 198 (nI (N (v 198) + 1))) (nI k) (v 0) (N (v 198) + 1)))).1 (b + o) = c.1 (b + o) := fun o o1 o2 => by rw [cp_1 _ (by omega), cp_1 _ (by omega)]
  have C := h.cr
  have r := h.rg
  refine RB.mk (r.put (ok_n (lo := 0) (hi := 200) rfl (by omega) (by omega) (by omega))) ?_ ((h.pl.put (show wk 198 = some (11, 4) from rfl)).cls (fun k' o' j' h' e => (wk_no h').1 (by omega))) (h.ber_s (fun k _ _ => hu k (by omega)) (fun o _ _ j _ => by rw [hc o (by omega) (by omega)])) (h.shp_s (fun k _ _ => hu k (by omega)) (fun o _ _ => hc o (by omega) (by omega))) (h.bak_s (fun k _ _ => hu k (by omega)) (fun o _ _ => hc o (by omega) (by omega))) (h.law_s (fun k _ _ => hu k (by omega)) (hu _ (by omega)) (fun o _ _ => rfl) rfl) (h.txt_s (fun k _ _ => hu k (by omega)) (hc 25 (by omega) (by omega)) rfl ha) (h.prp_s (fun k _ _ => hu k (by omega)) (hu _ (by omega)) rfl ha) ?_ (h.bus_s (hu _ (by omega)) (fun k _ _ => hu k (by omega)) (hc 120 (by omega) (by omega)))
  · refine Cr.mk (C.ld_s (hu _ (by omega)) (fun k _ _ => hu k (by omega))) (C.cr_s r (fun k _ _ => hu k (by omega))) (C.hs_s r (fun k _ _ => hu k (by omega)) (fun k _ _ => hu k (by omega))) (C.sh_s r (fun k _ _ => hu k (by omega)) (fun k _ _ => hu k (by omega))) (C.ow_s r (hu _ (by omega)) (fun k _ _ => hu k (by omega))) ?_ (C.ev_s r (hu _ (by omega)) (fun k _ _ => hu k (by omega))) (C.tc_s r (hu _ (by omega)) (fun k _ _ => hu k (by omega))) (C.zp_s (fun k _ _ => hu k (by omega))) (C.zs_s (fun k _ _ => hu k (by omega))) (C.zb_s (fun k _ _ => hu k (by omega))) (C.oe_s (hu _ (by omega)) (fun k _ _ => hu k (by omega)))
    intro i hi
    rw [hn] at hi
    rw [hu _ (by omega), hu _ (by omega)]
    by_cases e : i = N (v 198)
    · subst e; rw [e3]; exact Int32.lt_irrefl
    · exact C.sd i (by omega)
  · intro q hq
    rw [hn, hu 0 (by omega)]
    by_cases e : q = k
    · subst e; rw [cp_q, upd_s]
    · rw [cp_q, upd_n e, cp_1 _ (by omega), h.snd q hq]
      refine congrArg eC ?_
      rw [ls, hu _ (by omega), e0, if_neg (nI_inj (by omega) (by omega) (fun e2 => e e2.symm))]
      exact (ls_same _ (fun i hi j hj => hu _ (by omega))).symm
theorem st8 (hF : 30000 ≤ F) (hI : LI τ n) (h : Rel τ n c s) : stp Rel F 8 x τ n c s := by
  rcases e_sound (F := F) (τ := τ) (n := n) (c := c) (s := s) (a1 := x 1) (a2 := x 2) (a3 := x 3) (by omega) h.b.pl h.b.n198.1 h.b.n198.2 with ⟨k, hk, e1, hm, p1, p2, p3, p4, a, ⟨s', b, k1, k2, k3⟩, -⟩ | ⟨a, b⟩ | ⟨e, he, a, b⟩
  · refine Or.inl ⟨_, _, _, a, b, by rw [k1]; exact pN0 _ _, ?_⟩
    have r0 := h.b
    have hm' : N (s.2.1 198) < 200 := hm
    generalize em : N (s.2.1 198) = m at *
    have hl : ∀ q, 10 ≤ q → q < 28 → ∀ j (y : Int32) (c0 : cS), Nw c c0 → Nw c (cp c0 q j y) := fun q q1 q2 j y c0 hw => hw.cp q1 (by omega) (by omega)
    have rgd : ∀ j, j < 4 → j ≠ 2 → rg (199 + 4 * m + j) = (-2147483648, 2147483647) := fun j hj hj2 => by unfold rg; rw [if_neg (by omega), if_neg (by omega), if_neg (by omega), if_neg (by omega), if_neg (by omega), if_neg (by omega), if_neg (by omega), if_neg (by omega), if_neg (by omega), if_pos (by omega), if_neg (by omega)]
    have rg2 : rg (199 + 4 * m + 2) = (0, 250) := by unfold rg; rw [if_neg (by omega), if_neg (by omega), if_neg (by omega), if_neg (by omega), if_neg (by omega), if_neg (by omega), if_neg (by omega), if_neg (by omega), if_neg (by omega), if_pos (by omega), if_pos (by omega)]
    have w0 : Nw c (cp c 22 m (x 1)) := hl 22 (by omega) (by omega) _ _ _ Nw.refl
    have w1 : Nw c (cp (cp c 22 m (x 1)) 23 m (x 2)) := hl 23 (by omega) (by omega) _ _ _ w0
    have w2 : Nw c (cp (cp (cp c 22 m (x 1)) 23 m (x 2)) 24 m (x 3)) := hl 24 (by omega) (by omega) _ _ _ w1
    have w3 : Nw c (cp (cp (cp (cp c 22 m (x 1)) 23 m (x 2)) 24 m (x 3)) 25 m (s.2.1 0)) := hl 25 (by omega) (by omega) _ _ _ w2
    have b0 : RB τ n (cp c 22 m (x 1)) 10 (upd s.2.1 (199 + 4 * m) (x 1)) := r0.put (o := 12) (wk_s (j := 0) hm (by decide)) (by omega) ⟨by omega, by omega, fun _ _ => by omega⟩ (by omega) (by omega) (by omega) (rg_any (rgd 0 (by decide) (by decide))) (r0.cr.free r0.rg (by unfold crp; omega)) (w0.as hI)
    have n0 : upd s.2.1 (199 + 4 * m) (x 1) 198 = s.2.1 198 := upd_n (by omega)
    have b1 : RB τ n (cp (cp c 22 m (x 1)) 23 m (x 2)) 10 (upd (upd s.2.1 (199 + 4 * m) (x 1)) (199 + 4 * m + 1) (x 2)) := b0.put (o := 13) (wk_s (j := 1) hm (by decide)) (by omega) ⟨by omega, by omega, fun _ _ => by rw [n0, em]; omega⟩ (by omega) (by omega) (by omega) (rg_any (rgd 1 (by decide) (by decide))) (b0.cr.free b0.rg (by unfold crp; rw [n0, em]; omega)) (fun p hp j hj => by rw [w1.as hI p hp j hj, w0.as hI p hp j hj])
    have n1 : upd (upd s.2.1 (199 + 4 * m) (x 1)) (199 + 4 * m + 1) (x 2) 198 = s.2.1 198 := by rw [upd_n (by omega)]; exact n0
    have b2 : RB τ n (cp (cp (cp c 22 m (x 1)) 23 m (x 2)) 24 m (x 3)) 10 (upd (upd (upd s.2.1 (199 + 4 * m) (x 1)) (199 + 4 * m + 1) (x 2)) (199 + 4 * m + 2) (x 3)) := b1.put (o := 14) (wk_s (j := 2) hm (by decide)) (by omega) ⟨by omega, by omega, fun _ _ => by rw [n1, em]; omega⟩ (by omega) (by omega) (by omega) (ok_lo rg2 (by have := nlt_i p3; rw [nI_toInt (by decide)] at this; exact this) (by have := nlt_i p4; rw [nI_toInt (by decide)] at this; exact this)) (b1.cr.free b1.rg (by unfold crp; rw [n1, em]; omega)) (fun p hp j hj => by rw [w2.as hI p hp j hj, w1.as hI p hp j hj])
    have n2 : upd (upd (upd s.2.1 (199 + 4 * m) (x 1)) (199 + 4 * m + 1) (x 2)) (199 + 4 * m + 2) (x 3) 198 = s.2.1 198 := by rw [upd_n (by omega)]; exact n1
    have b3 : RB τ n (cp (cp (cp (cp c 22 m (x 1)) 23 m (x 2)) 24 m (x 3)) 25 m (s.2.1 0)) 10 (upd (upd (upd (upd s.2.1 (199 + 4 * m) (x 1)) (199 + 4 * m + 1) (x 2)) (199 + 4 * m + 2) (x 3)) (199 + 4 * m + 3) (s.2.1 0)) := b2.put (o := 15) (wk_s (j := 3) hm (by decide)) (by omega) ⟨by omega, by omega, fun _ _ => by rw [n2, em]; omega⟩ (by omega) (by omega) (by omega) (rg_any (rgd 3 (by decide) (by decide))) (b2.cr.free b2.rg (by unfold crp; rw [n2, em]; omega)) (fun p hp j hj => by rw [w3.as hI p hp j hj, w2.as hI p hp j hj])
    have n3 : N (upd (upd (upd (upd s.2.1 (199 + 4 * m) (x 1)) (199 + 4 * m + 1) (x 2)) (199 + 4 * m + 2) (x 3)) (199 + 4 * m + 3) (s.2.1 0) 198) = m := by rw [upd_n (by omega), n2]; exact em
    have z3 : upd (upd (upd (upd s.2.1 (199 + 4 * m) (x 1)) (199 + 4 * m + 1) (x 2)) (199 + 4 * m + 2) (x 3)) (199 + 4 * m + 3) (s.2.1 0) 0 = s.2.1 0 := by rw [upd_n (by omega), upd_n (by omega), upd_n (by omega), upd_n (by omega)]
    have b4 := b3.sounded (k := k) (by rw [n3]; exact hm) hk (by rw [n3, upd_n (by omega), upd_n (by omega), upd_n (by omega), upd_s]; exact e1) (by rw [n3, upd_s, z3]) (fun p hp j hj => by
      rw [(hl 26 (by omega) (by omega) _ _ _ (hl 21 (by omega) (by omega) _ _ _ w3)).as hI p hp j hj, w3.as hI p hp j hj])
    rw [n3, z3] at b4
    refine h.now hI (hl 26 (by omega) (by omega) _ _ _ (hl 21 (by omega) (by omega) _ _ _ w3)) (by rw [k3, ← e1] at *; exact b4) (fun j hj => by rw [k1, pN_n (by omega)]) (fun j hj => by rw [k2])
  · exact Or.inl ⟨_, _, _, a, b, pN0 _ _, h.pn _⟩
  · match e, he, a, b with
    | 0, _, a, b => exact Or.inr (Or.inl ⟨_, _, _, a, b, pN0 _ _, h.pn2 _ _⟩)
    | 1, _, a, b => exact Or.inr (Or.inr ⟨_, _, _, a, b, pN0 _ _, h.pn2 _ _⟩)
    | e + 2, he, _, _ => exact absurd he (by omega)
end ST
