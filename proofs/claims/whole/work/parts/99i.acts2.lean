/-! THE PURE LAYER: propose -/
section PRO
variable {F : Nat} {x : Nat → Int32} {τ : cT} {n l m p : Nat} {c c' : cS} {s s' : rs_S} {v : Nat → Int32}
/-- nobody has said anything -/
def sdC (c : cS) : Nat → cS
  | 0 => c
  | i + 1 => cp (sdC c i) 36 i (nI 0)
def sdV (v : Nat → Int32) : Nat → Nat → Int32
  | 0 => v
  | i + 1 => upd (sdV v i) (1091 + 4 * i + 3) (nI 0)
theorem sdC_1 {q : Nat} (hq : q ≠ 36) : ∀ i, (sdC c i).1 q = c.1 q := by
  intro i
  induction i with
  | zero => rfl
  | succ i ih => rw [sdC, cp_1 _ hq]; exact ih
theorem sdC_36 : ∀ i, (sdC c i).1 36 = fun j => if j < i then nI 0 else c.1 36 j := by
  intro i
  induction i with
  | zero => funext j; rw [if_neg (by omega)]; rfl
  | succ i ih =>
    rw [sdC, cp_q, ih]
    funext j
    by_cases e : j = i
    · subst e; rw [upd_s, if_pos (by omega)]
    · rw [upd_n e]
      by_cases g : j < i
      · rw [if_pos g, if_pos (by omega)]
      · rw [if_neg g, if_neg (by omega)]
theorem sdC_2 : ∀ i, (sdC c i).2 = c.2 := by
  intro i
  induction i with
  | zero => rfl
  | succ i ih => rw [sdC]; exact ih
theorem RB.said (hI : LI τ n) (h : RB τ n c 10 v) : ∀ i, i ≤ 30 → RB τ n (sdC c i) 10 (sdV v i) := by
  intro i
  induction i with
  | zero => intro _; exact h
  | succ i ih =>
    intro hi
    have h' := ih (by omega)
    have nw : Nw (sdC c i) (cp (sdC c i) 36 i (nI 0)) := Nw.refl.cp (by omega) (by omega) (by omega)
    refine h'.put (o := 26) (wk_p3 (show i < 30 by omega)) (by omega) ⟨by omega, by omega, fun _ _ => by omega⟩ (by omega) (by omega) (by omega) (ok_n (lo := 0) (hi := 1) ?_ (by decide) (by decide) (by decide)) (h'.cr.free h'.rg (by unfold crp; omega)) (nw.as hI)
    rw [rg_p (show i < 30 by omega) (by decide)]
    rfl
theorem bv_loop {K : Nat} (hK : K = 30) : ∀ (r i f : Nat), i + r = K → r < f → o_X3_beginVote_17 F τ n 10 p f (nI i) (sdC c i) = some (sdC c K) := by
  intro r
  induction r with
  | zero =>
    intro i f hi hf
    obtain ⟨f, rfl⟩ : ∃ x, f = x + 1 := ⟨f - 1, by omega⟩
    have : i = K := by omega
    subst this
    rw [o_X3_beginVote_17, if_pos (nI_yes (by decide) (by omega) (by omega))]
  | succ r ih =>
    intro i f hi hf
    obtain ⟨f, rfl⟩ : ∃ x, f = x + 1 := ⟨f - 1, by omega⟩
    rw [o_X3_beginVote_17, if_neg (nI_no (by decide) (by omega) (by omega)), if_pos (iL_t (show i < 30 by omega) (by decide)), ca_n _ _ (by omega), nI_add, show vp_nar .boolean (nI 0) = nI 0 by decide]
    exact ih (i + 1) f (by omega) (by omega)
theorem pv_loop {y : Int32} {K : Nat} (hK : K = 30) : ∀ (r i f : Nat), i + r = K → r < f → o_X12_propose_155 F y f (nI i) (s.1, sdV s.2.1 i, s.2.2) = some (s.1, sdV s.2.1 K, s.2.2) := by
  intro r
  induction r with
  | zero =>
    intro i f hi hf
    obtain ⟨f, rfl⟩ : ∃ x, f = x + 1 := ⟨f - 1, by omega⟩
    have : i = K := by omega
    subst this
    rw [o_X12_propose_155, if_pos (nI_yes (by decide) (by omega) (by omega))]
  | succ r ih =>
    intro i f hi hf
    obtain ⟨f, rfl⟩ : ∃ x, f = x + 1 := ⟨f - 1, by omega⟩
    rw [o_X12_propose_155, if_neg (nI_no (by decide) (by omega) (by omega)), o_pat, Option.bind_some, if_pos (iL_t (show 1091 + 4 * i + 3 < 22216 by omega) (by decide)), nI_add]
    have e : pW (s.1, sdV s.2.1 i, s.2.2) (nI (1091 + 4 * i + 3)) (nI 0) = (s.1, sdV s.2.1 (i + 1), s.2.2) := by
      show (s.1, upd (sdV s.2.1 i) (nI (1091 + 4 * i + 3)).toNatClampNeg (nI 0), s.2.2) = _
      rw [nI_clamp (by omega)]
      rfl
    rw [e]
    exact ih (i + 1) f (by omega) (by omega)
/-- a text is voted on -/
theorem RB.voted {y : Int32} (h : RB τ n c 10 v) (hI : LI τ n) (hp : acb τ n p = true) (hR : RAct τ c p v 21) : RB τ n (cp (cp (cp (cp (cq c 27 5 (some p)) 27 4 (nI 1)) 27 6 y) 27 8 (nI 0)) 27 9 (nI 0)) 10 (upd (upd (upd (upd (cpy v 21 20 y) 2661 (nI 1)) 2662 y) 2663 (nI 0)) 2664 (nI 0)) := by
  have n11 := h.n2811.2
  have hw : Nw c (cp (cp (cp (cp (cq c 27 5 (some p)) 27 4 (nI 1)) 27 6 y) 27 8 (nI 0)) 27 9 (nI 0)) := ((((Nw.refl.cq (by omega) (by omega)).cp (by omega) (by omega) (by omega)).cp (by omega) (by omega) (by omega)).cp (by omega) (by omega) (by omega)).cp (by omega) (by omega) (by omega)
  have V : ∀ k, ¬ (2661 ≤ k ∧ k ≤ 2664) → upd (upd (upd (upd (cpy v 21 20 y) 2661 (nI 1)) 2662 y) 2663 (nI 0)) 2664 (nI 0) k = cpy v 21 20 y k := fun k hk => by rw [upd_n (by omega), upd_n (by omega), upd_n (by omega), upd_n (by omega)]
  have C : ∀ q, q ≠ 27 → (cp (cp (cp (cp (cq c 27 5 (some p)) 27 4 (nI 1)) 27 6 y) 27 8 (nI 0)) 27 9 (nI 0)).1 q = c.1 q := fun q hq => by rw [cp_1 _ hq, cp_1 _ hq, cp_1 _ hq, cp_1 _ hq]; rfl
  have C2 : ∀ q, q ≠ 27 → (cp (cp (cp (cp (cq c 27 5 (some p)) 27 4 (nI 1)) 27 6 y) 27 8 (nI 0)) 27 9 (nI 0)).2 q = c.2 q := fun q hq => cq_1 _ hq
  refine h.laws ext_id ((((h.rg.cpy.put (ok_n (lo := 0) (hi := 1) rfl (by decide) (by decide) (by decide))).put (rg_any rfl)).put (rg_any rfl)).put (rg_any rfl)) ?_ (fun k hk => by rw [V k (by omega), cpy_o (by omega)]) (fun o ho => C _ (by omega)) (fun o _ _ => C2 _ (by omega)) ?_ (fun a _ => by rw [C2 34 (by decide)]) ?_ ?_
  · have hc : Pl (cq c 27 5 (some p)) 10 (cpy v 21 20 y) := h.pl.cpy
    exact (((hc.put (k := 2661) (o := 17) (j := 4) rfl).put (k := 2662) (o := 17) (j := 6) rfl).put (k := 2663) (o := 17) (j := 8) rfl).put (k := 2664) (o := 17) (j := 9) rfl
  · rw [V 2811 (by omega), cpy_o (by omega)]; exact Nat.le_refl _
  · intro a ha
    rw [V 2811 (by omega), cpy_o (by omega)] at ha
    rw [V _ (by omega), cpy_o (by omega), C 35 (by decide), C2 34 (by decide)]
    obtain ⟨q1, p2, q2, q3, q4⟩ := h.txt a ha
    exact ⟨q1, p2, q2, q3, q4.same (fun _ _ => rfl) (hw.as hI p2 q3) (fun k k0 k1 => by rw [V _ (by omega), cpy_o (by omega)])⟩
  · refine ⟨p, ?_, hp, fun _ => hR.same (fun _ _ => rfl) (hw.as hI p hp) (fun k k0 k1 => by rw [V _ (by omega), cpy_i k0 k1])⟩
    show (cq c 27 5 (some p)).2 27 5 = some p
    rw [cq_q, va_up_self]
/-- the class begins a vote -/
theorem o_bvote {K : Nat} {y : Int32} (hF : 30000 ≤ F) (hK : K = 30) : o_X3_beginVote F τ n (0 + 10) p c y = some (sdC (cp (cp (cp (cp (cq c 27 5 (some p)) 27 4 (nI 1)) 27 6 y) 27 8 (nI 0)) 27 9 (nI 0)) K) := by
  generalize hc0 : cp (cq (cp c 27 4 (nI 1)) 27 5 (some p)) 27 6 y = c0
  have bv := bv_loop (F := F) (τ := τ) (n := n) (p := p) (c := c0) hK K 0 F (Nat.zero_add _) (by omega)
  rw [show sdC c0 0 = c0 from rfl] at bv
  have VV : o_X3_beginVote F τ n (0 + 10) p c y = some (cp (cp (sdC c0 K) 27 8 (nI 0)) 27 9 (nI 0)) := by
    unfold o_X3_beginVote
    rw [Option.bind_some, show (0 + 10 + 17 : Nat) = 27 from rfl, show (0 + 10 : Nat) = 10 from rfl, hc0, bv, Option.bind_some]
  rw [VV]
  refine congrArg some (Prod.ext (funext fun q => ?_) ?_)
  · by_cases e27 : q = 27
    · subst e27
      rw [cp_q, cp_q, sdC_1 (by decide), sdC_1 (by decide), cp_q, cp_q, cp_q, cp_q, ← hc0, cp_q]
      show upd (upd (upd ((cp c 27 4 (nI 1)).1 27) 6 y) 8 (nI 0)) 9 (nI 0) = _
      rw [cp_q]
      rfl
    · rw [cp_1 _ e27, cp_1 _ e27]
      by_cases e36 : q = 36
      · subst e36
        rw [sdC_36, sdC_36]
        funext j
        rw [cp_1 36 (by decide), cp_1 36 (by decide), cp_1 36 (by decide), cp_1 36 (by decide), ← hc0, cp_1 36 (by decide)]
        show (if j < K then nI 0 else (cp c 27 4 (nI 1)).1 36 j) = _
        rw [cp_1 36 (by decide)]
        rfl
      · rw [sdC_1 e36, sdC_1 e36, cp_1 _ e27, cp_1 _ e27, cp_1 _ e27, cp_1 _ e27, ← hc0, cp_1 _ e27]
        show (cp c 27 4 (nI 1)).1 q = _
        rw [cp_1 _ e27]
        rfl
  · show (sdC c0 K).2 = _
    rw [sdC_2, sdC_2, ← hc0]
    rfl
theorem st19 (hF : 30000 ≤ F) (hI : LI τ n) (h : Rel τ n c s) : stp Rel F 19 x τ n c s := by
  show (∃ q, ∃ v c' s', o_X11_propose F τ n 0 c (x 1) = some (q, .inl (v, c')) ∧ o_X12_propose F s (x 1) = some (v, s') ∧ s'.1 0 = nI 0 ∧ Rel (tQ τ n q) (nQ n q) c' s') ∨ _
  have hu := h.used hI
  have td : o_X2_today τ n (0 + 10) (cp c 0 1 (nI 0)) = some (s.2.1 0 / nI 24) := by
    unfold o_X2_today
    rw [cp_1 (0 + 10) (by decide), show c.1 (0 + 10) 0 = s.2.1 0 from h.b.pl 0 0 0 rfl]
  have td2 : o_X12_today (us s) = some (s.2.1 0 / nI 24) := by unfold o_X12_today; rw [gW_n _ (by decide)]; rfl
  obtain ⟨t, t1, c1, s1, r1, r2, r3⟩ := h.reads (F := F) (by omega) hI
  have A0 : o_X11_propose F τ n 0 c (x 1) = (o_X11_within τ n (cp c 0 1 (nI 0)) (x 1) (s.2.1 0 / nI 24) (nI 1250)).bind fun x3 => ((o_X11_needArgument τ n (cp c 0 1 (nI 0)) x3).bind fun x4 => (Sum.elim (fun y5 => (o_X7_read F τ n 0 1 (cp c 0 1 (nI 0)) (nI t)).bind fun x7 => ((fun (x7b : Bool) (x7s : cS) => if x7b = true then ((o_X11_propose_34 F (tA τ n (lnA x7s 0) (stA x7s 0)) (n + 6) 0 n (iA x7s n 0 (lnA x7s 0) (stA x7s 0)) (x 1)).map (fun y => (some ((lnA x7s 0), (stA x7s 0)), y))) else (some (none, .inr (1, x7s)))) x7.1 x7.2)) (fun z6 => some (none, .inr (z6, cp c 0 1 (nI 0)))) x4)) := by
    unfold o_X11_propose o_X11_useTape
    rw [Option.bind_some]
    dsimp only
    rw [td, Option.bind_some, t1]
  have B0 : o_X12_propose F s (x 1) = (o_X12_in (us s) (x 1) (s.2.1 0 / nI 24) (nI 1250)).bind fun x3 => (if x3 = 0 then (some (nI 0, pN (us s) 0 (nI 1))) else ((o_X12_reads F (us s)).bind fun x5 => (if 0 ≤ x5.1 then (if (gW x5.2 (nI 2661)) = (nI 1) then (some (nI 0, pN x5.2 0 (nI 2))) else (if (gW x5.2 (nI 2811)) = (nI 20) then (some (nI 0, pN x5.2 0 (nI 3))) else ((o_X12_copies F x5.2 (nI 21) (nI 20) (x 1)).bind fun x9 => ((o_X12_propose_155 F x5.1 F (nI 0) (pW (pW (pW (pW x9 (nI 2661) (nI 1)) (nI 2662) (x 1)) (nI 2663) (nI 0)) (nI 2664) (nI 0))).bind fun x13 => (some (x5.1, x13)))))) else (some (nI 0, pN x5.2 0 (nI 1)))))) := by
    unfold o_X12_propose
    rw [o_uses, Option.bind_some, td2, Option.bind_some]
  rcases rng (x 1) (s.2.1 0 / nI 24) (nI 1250) with ⟨w1, w2, _, _⟩ | ⟨w1, w2⟩
  · rw [w1, Option.bind_some, nA1, Option.bind_some, Sum.elim_inl] at A0
    rw [w2, Option.bind_some, if_neg n10] at B0
    rcases r3 with ⟨l, m, q1, q2, q3⟩ | ⟨q1, q2⟩
    · have rA := RAct.new (τ := τ) (n := n) q3
      have rl := r1.new (l := l) (m := m) hI
      have l20 := q3.1
      have hI' : LI (tA τ n l m) (n + 6) := hI.tQ (some (l, m))
      have e1 : (iA c1 n 0 l m).1 n 0 = nI l := by rw [iA_0]; exact q3.2.2.1
      rw [q1, Option.bind_some] at A0
      dsimp only at A0
      rw [if_pos rfl, ln_A q3.2.2.1 q3.1, st_A q3.2.2.2.1 q3.2.1] at A0
      rw [q2, Option.bind_some, if_pos (n0le (by omega))] at B0
      dsimp only at B0
      rw [gW_n _ (by decide)] at B0
      generalize hc2 : iA c1 n 0 l m = c2 at *
      generalize hτ : tA τ n l m = τ' at *
      have n11 := rl.b.n2811
      have r61 := rl.b.rg.nat (k := 2661) (hi := 1) rfl
      have c4 : c2.1 (0 + 27) 4 = s1.2.1 2661 := rl.b.pl 2661 17 4 rfl
      have c3 : c2.1 (0 + 27) 3 = nI (N (s1.2.1 2811)) := (rl.b.pl 2811 17 3 rfl).trans n11.1
      rw [show gW s1 (nI 2811) = nI (N (s1.2.1 2811)) by rw [gW_n _ (by decide)]; exact n11.1] at B0
      by_cases v0 : N (s1.2.1 2661) = 0
      · have e61 : s1.2.1 2661 = nI 0 := by rw [r61.1, v0]
        rw [if_neg (by rw [e61]; decide)] at B0
        have A1 : o_X11_propose_34 F τ' (n + 6) 0 n c2 (x 1) = (o_X11_needRoom τ' (n + 6) c2 (c2.1 (0 + 27) 3) (nI 20)).bind fun x12 => (Sum.elim (fun y13 => (o_X3_beginVote F τ' (n + 6) (0 + 10) n c2 (x 1)).bind fun x15 => (some (.inl (x15.1 n 0, x15)))) (fun z14 => some (.inr (z14, c2))) x12) := by
          unfold o_X11_propose_34
          rw [c4, e61, if_pos nI_0, nS1, Option.bind_some, Sum.elim_inl]
        by_cases g2 : N (s1.2.1 2811) = 20
        · rw [g2, if_pos rfl] at B0
          rw [c3, g2] at A1
          have A2 : o_X11_propose_34 F τ' (n + 6) 0 n c2 (x 1) = some (.inr (3, c2)) := by
            rw [A1]
            unfold o_X11_needRoom
            rw [if_neg (fun q => Int32.lt_irrefl q), Option.bind_some, Sum.elim_inr]
          rw [A2] at A0
          refine Or.inr (Or.inr (Or.inr ⟨some (l, m), c2, nI 0, pN s1 0 (nI 3), A0, B0, pN_s _ _ _, ?_⟩))
          show Rel (tA τ n l m) (n + 6 + 1) c2 _
          rw [hτ]
          exact (rl.pn _).up
        · have k20 : N (s1.2.1 2811) < 20 := by omega
          have h192 := hI.2.1
          obtain ⟨s2, f1, f2, f3, f4⟩ := o_copies (F := F) (s := s1) (a := 21) (b := 20) (y := x 1) (by omega) (by decide) (by decide) (by decide)
          rw [if_neg (nI_inj (by omega) (by decide) g2), f1, Option.bind_some] at B0
          generalize hs3 : pW (pW (pW (pW s2 (nI 2661) (nI 1)) (nI 2662) (x 1)) (nI 2663) (nI 0)) (nI 2664) (nI 0) = s3 at B0
          have s3v : s3.2.1 = upd (upd (upd (upd (cpy s1.2.1 21 20 (x 1)) 2661 (nI 1)) 2662 (x 1)) 2663 (nI 0)) 2664 (nI 0) := by
            rw [← hs3, pWn (by decide), pWn (by decide), pWn (by decide), pWn (by decide), f4]
          have s31 : s3.1 = s1.1 := by rw [← hs3]; exact f2
          have s32 : s3.2.2 = s1.2.2 := by rw [← hs3]; exact f3
          obtain ⟨K, hK⟩ : ∃ K : Nat, K = 30 := ⟨30, rfl⟩
          have pl := pv_loop (F := F) (s := s3) (y := nI l) hK K 0 F (Nat.zero_add _) (by omega)
          rw [show ((s3.1, sdV s3.2.1 0, s3.2.2) : rs_S) = s3 from rfl] at pl
          rw [pl, Option.bind_some] at B0
          have VV := o_bvote (F := F) (τ := τ') (n := n + 6) (p := n) (c := c2) (y := x 1) hF hK
          have A2 : o_X11_propose_34 F τ' (n + 6) 0 n c2 (x 1) = some (.inl (nI l, sdC (cp (cp (cp (cp (cq c2 27 5 (some n)) 27 4 (nI 1)) 27 6 (x 1)) 27 8 (nI 0)) 27 9 (nI 0)) K)) := by
            rw [A1, c3]
            unfold o_X11_needRoom
            rw [if_pos ((nI_ltI (by omega) (by decide)).mpr k20), Option.bind_some, Sum.elim_inl, VV, Option.bind_some, sdC_1 (by omega), cp_1 n (by omega), cp_1 n (by omega), cp_1 n (by omega), cp_1 n (by omega), show (cq c2 27 5 (some n)).1 n 0 = nI l from e1]
          rw [A2] at A0
          have acb' : acb τ' (n + 6) n = true := by rw [← hτ]; exact tA_acb
          have rb := RB.said hI' (rl.b.voted (y := x 1) hI' acb' rA) K (by omega)
          refine Or.inl ⟨some (l, m), nI l, _, _, A0, B0, by show s3.1 0 = nI 0; rw [s31]; exact r2, ?_⟩
          show Rel (tA τ n l m) (n + 6) _ _
          rw [hτ]
          refine rl.now hI' ⟨fun q hq => ?_, fun q hq => ?_⟩ ?_ (fun j hj => ?_) (fun j hj => ?_)
          · rw [sdC_1 (by omega), cp_1 _ (by omega), cp_1 _ (by omega), cp_1 _ (by omega), cp_1 _ (by omega)]; rfl
          · rw [sdC_2]; exact cq_1 _ (by omega)
          · show RB τ' (n + 6) _ 10 (sdV s3.2.1 K)
            rw [s3v]; exact rb
          · show s3.1 j = s1.1 j; rw [s31]
          · show s3.2.2 j = s1.2.2 j; rw [s32]
      · have e61 : s1.2.1 2661 = nI 1 := by rw [r61.1, show N (s1.2.1 2661) = 1 by omega]
        rw [if_pos e61] at B0
        have A1 : o_X11_propose_34 F τ' (n + 6) 0 n c2 (x 1) = some (.inr (2, c2)) := by
          unfold o_X11_propose_34
          rw [c4, e61, if_neg n10, nS0, Option.bind_some, Sum.elim_inr]
        rw [A1] at A0
        refine Or.inr (Or.inr (Or.inl ⟨some (l, m), c2, nI 0, pN s1 0 (nI 2), A0, B0, pN_s _ _ _, ?_⟩))
        show Rel (tA τ n l m) (n + 6 + 1) c2 _
        rw [hτ]
        exact (rl.pn _).up
    · rw [q1, Option.bind_some] at A0
      dsimp only at A0
      rw [if_neg (by decide)] at A0
      rw [q2, Option.bind_some, if_neg m1_0] at B0
      exact Or.inr (Or.inl ⟨none, c1, nI 0, pN s1 0 (nI 1), A0, B0, pN_s _ _ _, (r1.pn _).up⟩)
  · rw [w1, Option.bind_some, nA0, Option.bind_some, Sum.elim_inr] at A0
    rw [w2, Option.bind_some, if_pos nI_0] at B0
    exact Or.inr (Or.inl ⟨none, _, nI 0, pN (us s) 0 (nI 1), A0, B0, pN_s _ _ _, (hu.pn _).up⟩)
end PRO
