/-! THE PURE LAYER: berth -/
section ST
variable {F : Nat} {x : Nat → Int32} {τ : cT} {n : Nat} {c : cS} {s : rs_S}
def vb (v : Nat → Int32) (m : Nat) (a1 a2 a3 a4 : Int32) : Nat → Int32 := upd (upd (upd (upd (upd (upd v 999 (nI (m + 1))) (1000 + 8 * m + 0) a1) (1000 + 8 * m + 1) a2) (1000 + 8 * m + 2) a3) (1000 + 8 * m + 3) a4) (1000 + 8 * m + 6) (-1)
theorem vb_o {v : Nat → Int32} {m k : Nat} {a1 a2 a3 a4 : Int32} (h0 : k ≠ 999) (h1 : k ≠ 1000 + 8 * m + 0) (h2 : k ≠ 1000 + 8 * m + 1) (h3 : k ≠ 1000 + 8 * m + 2) (h4 : k ≠ 1000 + 8 * m + 3) (h5 : k ≠ 1000 + 8 * m + 6) : vb v m a1 a2 a3 a4 k = v k := by
  unfold vb; rw [upd_n h5, upd_n h4, upd_n h3, upd_n h2, upd_n h1, upd_n h0]
theorem vb_999 {v : Nat → Int32} {m : Nat} {a1 a2 a3 a4 : Int32} : vb v m a1 a2 a3 a4 999 = nI (m + 1) := by
  unfold vb; rw [upd_n (by omega), upd_n (by omega), upd_n (by omega), upd_n (by omega), upd_n (by omega), upd_s]
theorem vb_0 {v : Nat → Int32} {m : Nat} {a1 a2 a3 a4 : Int32} : vb v m a1 a2 a3 a4 (1000 + 8 * m + 0) = a1 := by
  unfold vb; rw [upd_n (by omega), upd_n (by omega), upd_n (by omega), upd_n (by omega), upd_s]
theorem vb_1 {v : Nat → Int32} {m : Nat} {a1 a2 a3 a4 : Int32} : vb v m a1 a2 a3 a4 (1000 + 8 * m + 1) = a2 := by
  unfold vb; rw [upd_n (by omega), upd_n (by omega), upd_n (by omega), upd_s]
theorem vb_2 {v : Nat → Int32} {m : Nat} {a1 a2 a3 a4 : Int32} : vb v m a1 a2 a3 a4 (1000 + 8 * m + 2) = a3 := by
  unfold vb; rw [upd_n (by omega), upd_n (by omega), upd_s]
theorem vb_3 {v : Nat → Int32} {m : Nat} {a1 a2 a3 a4 : Int32} : vb v m a1 a2 a3 a4 (1000 + 8 * m + 3) = a4 := by
  unfold vb; rw [upd_n (by omega), upd_s]
theorem vb_6 {v : Nat → Int32} {m : Nat} {a1 a2 a3 a4 : Int32} : vb v m a1 a2 a3 a4 (1000 + 8 * m + 6) = -1 := by
  unfold vb; rw [upd_s]
theorem wk_nb {k : Nat} (h1 : 1000 ≤ k) (h2 : k < 1080) : wk k = none := by
  cases e : wk k with
  | none => rfl
  | some p => exact absurd ⟨h1, h2⟩ (wk_bsu (o := p.1) (j := p.2) e).1
theorem c_ber_o {m q : Nat} {a1 a2 a3 a4 : Int32} (h : q ≠ 39 + m) (h2 : q ≠ 37) : (c_ber c m a1 a2 a3 a4).1 q = c.1 q := by
  unfold c_ber
  rw [cp_1 _ h2, cp_1 _ h, cp_1 _ h, cp_1 _ h, cp_1 _ h, cp_1 _ h, cp_1 _ h, cp_1 _ h, cp_1 _ h, cp_1 _ h]
theorem c_ber_37 {m j : Nat} {a1 a2 a3 a4 : Int32} (hj : j ≠ 1) : (c_ber c m a1 a2 a3 a4).1 37 j = c.1 37 j := by
  unfold c_ber
  rw [cp_q, upd_n hj, cp_1 _ (by omega), cp_1 _ (by omega), cp_1 _ (by omega), cp_1 _ (by omega), cp_1 _ (by omega), cp_1 _ (by omega), cp_1 _ (by omega), cp_1 _ (by omega), cp_1 _ (by omega)]
theorem c_ber_1 {m : Nat} {a1 a2 a3 a4 : Int32} : (c_ber c m a1 a2 a3 a4).1 37 1 = nI (m + 1) := by
  unfold c_ber
  rw [cp_q, upd_s]
theorem c_ber_m {m f : Nat} {a1 a2 a3 a4 : Int32} (hf : f < 8) : (c_ber c m a1 a2 a3 a4).1 (39 + m) f = if f = 0 then a1 else if f = 1 then a2 else if f = 2 then a3 else if f = 3 then a4 else if f < 7 then nI 0 else -1 := by
  unfold c_ber
  rw [cp_1 _ (by omega), cp_q, cp_q, cp_q, cp_q, cp_q, cp_q, cp_q, cp_q, cp_q]
  match f, hf with
  | 0, _ => rfl
  | 1, _ => rfl
  | 2, _ => rfl
  | 3, _ => rfl
  | 4, _ => rfl
  | 5, _ => rfl
  | 6, _ => rfl
  | 7, _ => rfl
  | f + 8, h => exact absurd h (by omega)
theorem RB.berthed {v : Nat → Int32} {k1 k2 k3 k4 : Nat} (h : RB τ n c 10 v) (hI : LI τ n) (hm : N (v 999) < 10) (h1 : k1 < 24) (h2 : k2 ≤ 900) (h3 : 1 ≤ k3) (h3' : k3 ≤ 500) (h4 : k4 ≤ 50000) : RB τ n (c_ber c (N (v 999)) (nI k1) (nI k2) (nI k3) (nI k4)) 10 (vb v (N (v 999)) (nI k1) (nI k2) (nI k3) (nI k4)) := by
  have C := h.cr
  have r := h.rg
  have rb := r.b
  obtain ⟨zz4, zz5, zz7⟩ := C.zb _ (Nat.le_refl _) hm
  have hb1 := h.ber
  have hp1 := h.pl
  have hs1 := C.hs
  have hs2 := C.sh
  generalize em : N (v 999) = m at *
  generalize ev : vb v m (nI k1) (nI k2) (nI k3) (nI k4) = v'
  have hu : ∀ k, k < 999 ∨ 1080 ≤ k → v' k = v k := fun k hk => by rw [← ev]; exact vb_o (by omega) (by omega) (by omega) (by omega) (by omega) (by omega)
  have hi : ∀ i f, i ≠ m → f < 8 → v' (1000 + 8 * i + f) = v (1000 + 8 * i + f) := fun i f h0 hf => by rw [← ev]; exact vb_o (by omega) (by omega) (by omega) (by omega) (by omega) (by omega)
  have u4 : v' (1000 + 8 * m + 4) = v (1000 + 8 * m + 4) := by rw [← ev]; exact vb_o (by omega) (by omega) (by omega) (by omega) (by omega) (by omega)
  have u5 : v' (1000 + 8 * m + 5) = v (1000 + 8 * m + 5) := by rw [← ev]; exact vb_o (by omega) (by omega) (by omega) (by omega) (by omega) (by omega)
  have u7 : v' (1000 + 8 * m + 7) = v (1000 + 8 * m + 7) := by rw [← ev]; exact vb_o (by omega) (by omega) (by omega) (by omega) (by omega) (by omega)
  have u999 : v' 999 = nI (m + 1) := by rw [← ev]; exact vb_999
  have u0 : v' (1000 + 8 * m + 0) = nI k1 := by rw [← ev]; exact vb_0
  have u1 : v' (1000 + 8 * m + 1) = nI k2 := by rw [← ev]; exact vb_1
  have u2 : v' (1000 + 8 * m + 2) = nI k3 := by rw [← ev]; exact vb_2
  have u3 : v' (1000 + 8 * m + 3) = nI k4 := by rw [← ev]; exact vb_3
  have u6 : v' (1000 + 8 * m + 6) = -1 := by rw [← ev]; exact vb_6
  have un : N (v' 999) = m + 1 := by rw [u999, N_nI (by omega)]
  have hc : ∀ o, o ≠ 27 → (o < 29 ∨ 39 ≤ o) → (c_ber c m (nI k1) (nI k2) (nI k3) (nI k4)).1 (10 + o) = c.1 (10 + o) := fun o o1 o2 => c_ber_o (by omega) (by omega)
  have hw : Nw c (c_ber c m (nI k1) (nI k2) (nI k3) (nI k4)) := ⟨fun q hq => c_ber_o (by omega) (by omega), fun q hq => rfl⟩
  have hl : ∀ i, i < 10 → v' (1000 + 8 * i + 4) = v (1000 + 8 * i + 4) := fun i hi9 => by
    by_cases e : i = m
    · subst e; exact u4
    · exact hi i 4 e (by decide)
  refine RB.mk ?_ ?_ ?_ ?_ (h.shp_s (fun k _ _ => hu k (by omega)) (fun o _ _ => hc o (by omega) (by omega))) (h.bak_s (fun k _ _ => hu k (by omega)) (fun o _ _ => hc o (by omega) (by omega))) (h.law_s (fun k _ _ => hu k (by omega)) (hu _ (by omega)) (fun o _ _ => rfl) rfl) (h.txt_s (fun k _ _ => hu k (by omega)) (hc 25 (by omega) (by omega)) rfl (hw.as hI)) (h.prp_s (fun k _ _ => hu k (by omega)) (hu _ (by omega)) rfl (hw.as hI)) (h.snd_s (hu _ (by omega)) (fun k _ _ => hu k (by omega)) (hc 16 (by omega) (by omega))) (h.bus_s (hu _ (by omega)) (fun k _ _ => hu k (by omega)) (hc 120 (by omega) (by omega)))
  · rw [← ev]
    exact (((((r.put (ok_n (k := 999) (lo := 0) (hi := 10) rfl (by omega) (by omega) (by omega))).put (ok_n (rg_b (f := 0) hm (by decide)) (by show (0 : Int) ≤ _; omega) (show (k1 : Int) ≤ 23 by omega) (by omega))).put (ok_n (rg_b (f := 1) hm (by decide)) (by show (0 : Int) ≤ _; omega) (show (k2 : Int) ≤ 900 by omega) (by omega))).put (ok_n (rg_b (f := 2) hm (by decide)) (by show (0 : Int) ≤ _; omega) (show (k3 : Int) ≤ 500 by omega) (by omega))).put (ok_n (rg_b (f := 3) hm (by decide)) (by show (0 : Int) ≤ _; omega) (show (k4 : Int) ≤ 50000 by omega) (by omega))).put (ok_m (rg_b (f := 6) hm (by decide)) (by decide))
  · refine Cr.mk ?_ ?_ ?_ ?_ (C.ow_s r (hu _ (by omega)) (fun k _ _ => hu k (by omega))) (C.sd_s r (hu _ (by omega)) (fun k _ _ => hu k (by omega))) (C.ev_s r (hu _ (by omega)) (fun k _ _ => hu k (by omega))) (C.tc_s r (hu _ (by omega)) (fun k _ _ => hu k (by omega))) (C.zp_s (fun k _ _ => hu k (by omega))) (C.zs_s (fun k _ _ => hu k (by omega))) ?_ (C.oe_s (hu _ (by omega)) (fun k _ _ => hu k (by omega)))
    · intro i hi9; rw [hl i hi9, hu 0 (by omega)]; exact C.ld i hi9
    · intro i hi9
      rw [un] at hi9
      by_cases e : i = m
      · subst e; rw [u2, N_nI (by omega)]; exact h3
      · rw [hi i 2 e (by decide)]; exact C.cr i (by rw [em]; omega)
    · intro i hi9
      rw [un] at hi9
      by_cases e : i = m
      · subst e; exact Or.inl u6
      · rw [hi i 6 e (by decide), hu 1211 (by omega)]
        rcases hs1 i (by omega) with q | ⟨k, q1, q2, q3, q4, q5⟩
        · exact Or.inl q
        · exact Or.inr ⟨k, q1, q2, by rw [hu _ (by omega)]; exact q3, by rw [hu _ (by omega)]; exact q4, by rw [hu _ (by omega)]; exact q5⟩
    · intro k hk
      rw [hu 1211 (by omega)] at hk
      rw [hu (1212 + 18 * k + 9) (by omega), hu (1212 + 18 * k + 10) (by omega), un]
      intro q1 q2
      obtain ⟨i, p1, p2, p3⟩ := hs2 k hk q1 q2
      exact ⟨i, by omega, p2, by rw [hi i 6 (by omega) (by decide)]; exact p3⟩
    · intro i q1 q2
      rw [un] at q1
      rw [hi i 4 (by omega) (by decide), hi i 5 (by omega) (by decide), hi i 7 (by omega) (by decide)]
      exact C.zb i (by rw [em]; omega) q2
  · intro k o j hk
    have w := wk_bsu hk
    have w2 := wk_no hk
    by_cases e : k = 999
    · subst e
      cases (show wk 999 = some (27, 1) from rfl).symm.trans hk
      rw [u999]; exact c_ber_1
    · rw [hu k (by omega), ← hp1 k o j hk]
      by_cases e2 : o = 27
      · subst e2
        have e3 : j ≠ 1 := fun e3 => e (by
          subst e3
          have := (wk_back hk).1
          exact this.symm)
        exact c_ber_37 e3
      · rw [hc o e2 (by omega)]
  · intro i hi9 f hf
    rw [un] at hi9
    by_cases e : i = m
    · subst e
      rw [show 10 + 29 + i = 39 + i by omega, c_ber_m hf]
      match f, hf with
      | 0, _ => exact u0.symm
      | 1, _ => exact u1.symm
      | 2, _ => exact u2.symm
      | 3, _ => exact u3.symm
      | 4, _ => exact (u4.trans zz4).symm
      | 5, _ => exact (u5.trans zz5).symm
      | 6, _ => exact (u7.trans zz7).symm
      | 7, _ => exact u6.symm
      | f + 8, h => exact absurd h (by omega)
    · have : bf f < 8 := by unfold bf; split <;> (try split) <;> omega
      rw [c_ber_o (by omega) (by omega), hi i _ e this]
      exact hb1 i (by omega) f hf
theorem st10 (hI : LI τ n) (h : Rel τ n c s) : stp Rel F 10 x τ n c s := by
  have hr := h.b.n999
  rcases e_berth (τ := τ) (n := n) (c := c) (s := s) (a1 := x 1) (a2 := x 2) (a3 := x 3) (a4 := x 4) (h.b.pl 999 27 1 rfl) hr.1 hr.2 with ⟨k1, k2, k3, k4, q1, e1, q2, q3, e2, q4, q5, e3, q6, q7, e4, hm, a, b⟩ | ⟨a, b⟩ | ⟨a, b⟩ | ⟨a, b⟩
  · refine Or.inl ⟨_, _, _, a, b, pN0 s (nI 0), ?_⟩
    refine h.now hI ⟨fun q hq => c_ber_o (by omega) (by omega), fun q hq => rfl⟩ ?_ (fun j hj => pN_n (by omega)) (fun j hj => rfl)
    have e : (s_ber s (N (s.2.1 999)) (x 1) (x 2) (x 3) (x 4)).2.1 = vb s.2.1 (N (s.2.1 999)) (x 1) (x 2) (x 3) (x 4) := by
      unfold s_ber vb
      simp only [pW_21]
      rw [nI_clamp (show 999 < 2 ^ 31 by decide), nI_clamp (show 1000 + 8 * N (s.2.1 999) + 0 < 2 ^ 31 by omega), nI_clamp (show 1000 + 8 * N (s.2.1 999) + 1 < 2 ^ 31 by omega), nI_clamp (show 1000 + 8 * N (s.2.1 999) + 2 < 2 ^ 31 by omega), nI_clamp (show 1000 + 8 * N (s.2.1 999) + 3 < 2 ^ 31 by omega), nI_clamp (show 1000 + 8 * N (s.2.1 999) + 6 < 2 ^ 31 by omega)]
      rfl
    rw [e, e1, e2, e3, e4]
    exact h.b.berthed hI hm q1 q3 q4 q5 q7
  · exact Or.inr (Or.inl ⟨_, _, _, a, b, pN0 _ _, h.pn2 _ _⟩)
  · exact Or.inr (Or.inr (Or.inl ⟨_, _, _, a, b, pN0 _ _, h.pn2 _ _⟩))
  · exact Or.inr (Or.inr (Or.inr ⟨_, _, _, a, b, pN0 _ _, h.pn2 _ _⟩))
end ST
