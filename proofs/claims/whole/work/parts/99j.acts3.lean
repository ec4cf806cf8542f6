/-! THE PURE LAYER: another -/
section ANO
variable {F : Nat} {x : Nat → Int32} {τ : cT} {n l m p : Nat} {c c' : cS} {s s' : rs_S} {v : Nat → Int32}
theorem min_2 {S d : Nat} : min 2000000000 (min S 2000000000 + d) = min (S + d) 2000000000 := by omega
/-- what ships would have paid -/
theorem an_loop {c0 : cS} {s0 : rs_S} {yr el : Int32} (hF : 30000 ≤ F) (hI : LI τ n) (hp : p = 28 ∨ 180 ≤ p) : ∀ (r i f S M : Nat) (c : cS) (s : rs_S), i + r = N (s0.2.1 1211) → r < f → RB τ n c 10 s.2.1 → RLaw τ c p s.2.1 (nI 21) → Cf c0 c → Sc s0 s → S ≤ 2000000000 * i → M ≤ i → ∃ S' M' c' s', S' ≤ 160000000000 ∧ o_X2_underAnother_9 F τ n 10 p yr el f (lN S) (nI M) (nI i) c = some (lN S', nI M', c') ∧ o_X12_another_37 F yr el f (nI (min S 2000000000)) (nI M) (nI i) s = some (nI (min S' 2000000000), nI M', s') ∧ Cf c0 c' ∧ Sc s0 s' := by
  intro r
  induction r with
  | zero =>
    intro i f S M c s hi hf h hl hc hs hS hM
    obtain ⟨f, rfl⟩ : ∃ x, f = x + 1 := ⟨f - 1, by omega⟩
    have n1 := h.n1211
    have e0 : s.2.1 = s0.2.1 := hs.1
    have e3 : c.1 (10 + 27) 3 = nI (N (s.2.1 1211)) := (h.pl 1211 27 3 rfl).trans n1.1
    have n12 := n1.2
    rw [e0] at n12 e3
    refine ⟨S, M, c, s, by omega, ?_, ?_, hc, hs⟩
    · rw [o_X2_underAnother_9, e3, if_pos (nI_yes (by omega) (by omega) (by omega))]
    · rw [o_X12_another_37, gW_n _ (by decide), e0, show s0.2.1 1211 = nI (N (s0.2.1 1211)) by rw [← e0]; exact n1.1, if_pos (nI_yes (by omega) (by omega) (by omega))]
  | succ r ih =>
    intro i f S M c s hi hf h hl hc hs hS hM
    obtain ⟨f, rfl⟩ : ∃ x, f = x + 1 := ⟨f - 1, by omega⟩
    have n1 := h.n1211
    have e0 : s.2.1 = s0.2.1 := hs.1
    have n12 := n1.2
    have iN : i < N (s.2.1 1211) := by rw [e0]; omega
    have i80 : i < 80 := by omega
    have e3 : c.1 (10 + 27) 3 = nI (N (s.2.1 1211)) := (h.pl 1211 27 3 rfl).trans n1.1
    have sh := fun f g hfg => h.shp i iN f g hfg
    simp only [show 10 + 40 + i = 50 + i by omega] at sh
    have CA : o_X2_underAnother_9 F τ n 10 p yr el (f + 1) (lN S) (nI M) (nI i) c = if s.2.1 (1212 + 18 * i + 9) = (nI 4) then (if (s.2.1 (1212 + 18 * i + 13) / (nI 2400)) = yr then ((o_X2_stayOf τ n 10 (50 + i) c).bind fun x5 => ((o_X2_dueBy F τ n 10 p (50 + i) c x5).bind fun x6 => (if x6.1 ≤ (x6.2.1 (50 + i) 7) then (o_X2_underAnother_9 F τ n 10 p yr el f (lN S + x6.1.toInt64) (nI M) (nI (i + 1)) x6.2) else (o_X2_underAnother_9 F τ n 10 p yr el f (lN S) (nI M + nI 1) (nI (i + 1)) x6.2)))) else (o_X2_underAnother_9 F τ n 10 p yr el f (lN S) (nI M) (nI (i + 1)) c)) else (o_X2_underAnother_9 F τ n 10 p yr el f (lN S) (nI M) (nI (i + 1)) c) := by
      rw [o_X2_underAnother_9, e3, if_neg (nI_no (by omega) (by omega) iN), if_pos (iL_t i80 (by decide)), nI_clamp (by omega), show 10 + 39 + 1 + i = 50 + i by omega, sh 10 9 (by decide), sh 14 13 (by decide), nI_add]
    have RA : o_X12_another_37 F yr el (f + 1) (nI (min S 2000000000)) (nI M) (nI i) s = if s.2.1 (1212 + 18 * i + 9) = (nI 4) then (if (s.2.1 (1212 + 18 * i + 13) / (nI 2400)) = yr then ((o_X12_dueOf F s (nI i) (nI 21) (s.2.1 (1212 + 18 * i + 13) - s.2.1 (1212 + 18 * i + 8))).bind fun x11 => ((o_X12_of x11.2 (nI i) (nI 7)).bind fun x12 => (if x11.1 ≤ x12 then ((o_X12_added x11.2 (nI (min S 2000000000)) x11.1.toInt64).bind fun x14 => (o_X12_another_37 F yr el f x14 (nI M) (nI (i + 1)) x11.2)) else (o_X12_another_37 F yr el f (nI (min S 2000000000)) (nI M + nI 1) (nI (i + 1)) x11.2)))) else (o_X12_another_37 F yr el f (nI (min S 2000000000)) (nI M) (nI (i + 1)) s)) else (o_X12_another_37 F yr el f (nI (min S 2000000000)) (nI M) (nI (i + 1)) s) := by
      rw [o_X12_another_37, gW_n _ (by decide), n1.1, if_neg (nI_no (by omega) (by omega) iN), o_of i80 (by decide), Option.bind_some, o_of i80 (by decide), Option.bind_some, o_of i80 (by decide), Option.bind_some, Option.bind_some, nI_add]
    have skip : ∃ S' M' c' s', S' ≤ 160000000000 ∧ o_X2_underAnother_9 F τ n 10 p yr el f (lN S) (nI M) (nI (i + 1)) c = some (lN S', nI M', c') ∧ o_X12_another_37 F yr el f (nI (min S 2000000000)) (nI M) (nI (i + 1)) s = some (nI (min S' 2000000000), nI M', s') ∧ Cf c0 c' ∧ Sc s0 s' := ih (i + 1) f S M c s (by omega) (by omega) h hl hc hs (by omega) (by omega)
    rw [CA, RA]
    by_cases g4 : s.2.1 (1212 + 18 * i + 9) = nI 4
    · rw [if_pos g4, if_pos g4]
      by_cases gy : s.2.1 (1212 + 18 * i + 13) / nI 2400 = yr
      · rw [if_pos gy, if_pos gy]
        have so : o_X2_stayOf τ n 10 (50 + i) c = some (s.2.1 (1212 + 18 * i + 13) - s.2.1 (1212 + 18 * i + 8)) := by
          unfold o_X2_stayOf
          rw [sh 10 9 (by decide), if_pos g4, sh 14 13 (by decide), sh 9 8 (by decide)]
        obtain ⟨d, c2, s2, d1, d2, d3, d4, d5, d6⟩ := o_due (F := F) (y := s.2.1 (1212 + 18 * i + 13) - s.2.1 (1212 + 18 * i + 8)) (by omega) h iN hl hp
        have s2v : s2.2.1 = s.2.1 := d5.1
        have h2 : RB τ n c2 10 s2.2.1 := by rw [s2v]; exact h.cf hI d4
        have l2 : RLaw τ c2 p s2.2.1 (nI 21) := by rw [s2v]; exact hl.cf hp d4
        have e7 : c2.1 (50 + i) 7 = s.2.1 (1212 + 18 * i + 7) := by rw [d4.1 _ (by omega)]; exact sh 7 7 (by decide)
        rw [so, Option.bind_some, d2, Option.bind_some, d3, Option.bind_some]
        dsimp only
        rw [e7, o_of i80 (by decide), Option.bind_some, s2v]
        by_cases gd : nI d ≤ s.2.1 (1212 + 18 * i + 7)
        · rw [if_pos gd, if_pos gd]
          unfold o_X12_added
          rw [nI_l (show d < 2 ^ 31 by omega), nI_l (show min S 2000000000 < 2 ^ 31 by omega), lN_add, lN_add, Option.bind_some, show (2000000000 : Int64) = lN 2000000000 from rfl, mnl_n (by decide) (by omega), lN_i, min_2]
          exact ih (i + 1) f (S + d) M c2 s2 (by omega) (by omega) h2 l2 (hc.trans d4) (hs.trans d5) (by omega) (by omega)
        · rw [if_neg gd, if_neg gd, nI_add]
          exact ih (i + 1) f S (M + 1) c2 s2 (by omega) (by omega) h2 l2 (hc.trans d4) (hs.trans d5) (by omega) (by omega)
      · rw [if_neg gy, if_neg gy]
        exact skip
    · rw [if_neg g4, if_neg g4]
      exact skip
theorem st33 (hF : 30000 ≤ F) (hI : LI τ n) (h : Rel τ n c s) : stp Rel F 33 x τ n c s := by
  show (∃ q, ∃ v c' s', o_X11_another F τ n 0 c (x 1) (bz (x 2)) = some (q, .inl (v, c')) ∧ o_X12_another F s (x 1) (bz (x 2)) = some (v, s') ∧ s'.1 0 = nI 0 ∧ Rel (tQ τ n q) (nQ n q) c' s') ∨ _
  obtain ⟨t, t1, c1, s1, r1, r2, r3⟩ := h.reads (F := F) (by omega) hI
  have A0 : o_X11_another F τ n 0 c (x 1) (bz (x 2)) = (o_X7_read F τ n 0 1 (cp c 0 1 (nI 0)) (nI t)).bind fun x2 => ((fun (x2b : Bool) (x2s : cS) => if x2b = true then ((o_X11_another_15 F (tA τ n (lnA x2s 0) (stA x2s 0)) (n + 6) 0 n (iA x2s n 0 (lnA x2s 0) (stA x2s 0)) (x 1) (bz (x 2))).map (fun y => (some ((lnA x2s 0), (stA x2s 0)), y))) else (some (none, .inr (1, x2s)))) x2.1 x2.2) := by
    unfold o_X11_another o_X11_useTape
    rw [Option.bind_some]
    dsimp only
    rw [t1]
  have B0 : o_X12_another F s (x 1) (bz (x 2)) = (o_X12_reads F (us s)).bind fun x2' => (if 0 ≤ x2'.1 then ((o_X12_another_37 F (x 1) (bz (x 2)) F (nI 0) (nI 0) (nI 0) x2'.2).bind fun x15 => (if (bz (x 2)) = 0 then (some (x15.1, x15.2.2)) else (some (x15.2.1, x15.2.2)))) else (some (nI 0, pN x2'.2 0 (nI 1)))) := by
    unfold o_X12_another
    rw [o_uses, Option.bind_some]
  rcases r3 with ⟨l, m, q1, q2, q3⟩ | ⟨q1, q2⟩
  · have rA := RAct.new (τ := τ) (n := n) q3
    have rl := r1.new (l := l) (m := m) hI
    have l20 := q3.1
    have h192 := hI.2.1
    have hI' : LI (tA τ n l m) (n + 6) := hI.tQ (some (l, m))
    rw [q1, Option.bind_some] at A0
    dsimp only at A0
    rw [if_pos rfl, ln_A q3.2.2.1 q3.1, st_A q3.2.2.2.1 q3.2.1] at A0
    rw [q2, Option.bind_some, if_pos (n0le (by omega))] at B0
    dsimp only at B0
    generalize hc2 : iA c1 n 0 l m = c2 at *
    generalize hτ : tA τ n l m = τ' at *
    have n1 := rl.b.n1211.2
    obtain ⟨S, M, c3, s3, u0, u1, u2, u3, u4⟩ := an_loop (F := F) (τ := τ') (n := n + 6) (p := n) (c0 := c2) (s0 := s1) (yr := x 1) (el := bz (x 2)) hF hI' (by omega) (N (s1.2.1 1211)) 0 F 0 0 c2 s1 (Nat.zero_add _) (by omega) rl.b (Or.inr ⟨21, by decide, rfl, rA⟩) ⟨fun _ _ => rfl, rfl⟩ ⟨rfl, fun _ _ _ => rfl, fun _ _ _ => rfl⟩ (Nat.zero_le _) (Nat.zero_le _)
    rw [show min 0 2000000000 = 0 by decide] at u2
    rw [u2, Option.bind_some] at B0
    dsimp only at B0
    have fin : Rel τ' (n + 6) c3 s3 := rl.sc hI' u3 u4
    have t0 : s3.1 0 = nI 0 := by rw [u4.2.1 0 (by decide) (by decide)]; exact r2
    by_cases g : bz (x 2) = 0
    · rw [if_pos g] at B0
      have A1 : o_X11_another_15 F τ' (n + 6) 0 n c2 (x 1) (bz (x 2)) = some (.inl (nI (min S 2000000000), c3)) := by
        unfold o_X11_another_15 o_X2_underAnother
        rw [show (0 + 10 : Nat) = 10 from rfl, show (0 : Int64) = lN 0 from rfl, u1, Option.bind_some, if_pos g]
        unfold o_X11_capped
        dsimp only
        rw [Option.bind_some, Option.bind_some, show (2000000000 : Int64) = lN 2000000000 from rfl, mnl_n (by omega) (by decide), lN_i]
      rw [A1] at A0
      refine Or.inl ⟨some (l, m), _, c3, s3, A0, B0, t0, ?_⟩
      show Rel (tA τ n l m) (n + 6) c3 s3
      rw [hτ]; exact fin
    · rw [if_neg g] at B0
      have A1 : o_X11_another_15 F τ' (n + 6) 0 n c2 (x 1) (bz (x 2)) = some (.inl (nI M, c3)) := by
        unfold o_X11_another_15 o_X2_underAnother
        rw [show (0 + 10 : Nat) = 10 from rfl, show (0 : Int64) = lN 0 from rfl, u1, Option.bind_some, if_neg g, Option.bind_some]
      rw [A1] at A0
      refine Or.inl ⟨some (l, m), _, c3, s3, A0, B0, t0, ?_⟩
      show Rel (tA τ n l m) (n + 6) c3 s3
      rw [hτ]; exact fin
  · rw [q1, Option.bind_some] at A0
    dsimp only at A0
    rw [if_neg (by decide)] at A0
    rw [q2, Option.bind_some, if_neg m1_0] at B0
    exact Or.inr ⟨none, c1, nI 0, pN s1 0 (nI 1), A0, B0, pN_s _ _ _, (r1.pn _).up⟩
end ANO
