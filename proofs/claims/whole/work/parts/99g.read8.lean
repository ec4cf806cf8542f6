/-! THE PURE LAYER: a whole text, read by both -/
section RDS
variable {F : Nat} {τ : cT} {n : Nat} {T : Nat → Int32} {L k a m l : Nat} {B : Nat → Nat} {c c' c'' : cS} {s s' s'' : rs_S}
theorem LNe.cg {i : Nat} {v v' : Nat → Int32} (h : LNe c v i m) (e5 : c'.1 5 = c.1 5) (e6 : c'.1 6 = c.1 6) (e7 : c'.1 7 = c.1 7) (e8 : c'.1 8 = c.1 8) (ev : ∀ q, 21336 ≤ q → q < 21416 → v' q = v q) (hi : i < 20) : LNe c' v' i m := by
  have v0 : v' (21336 + 4 * i) = v (21336 + 4 * i) := ev _ (by omega) (by omega)
  refine LNe.mk ?_ ?_ ?_ ?_ ?_ ?_ ?_
  · rw [e5, v0]; exact h.kd
  · rw [e5, e6, ev (21336 + 4 * i + 1) (by omega) (by omega)]; exact h.nm
  · rw [e5, e6, ev (21336 + 4 * i + 1) (by omega) (by omega)]; exact h.n4
  · rw [e5, e6]; exact h.n2
  · rw [e5, e6]; exact h.n5
  · rw [e7, ev (21336 + 4 * i + 3) (by omega) (by omega), ev (21336 + 4 * i + 2) (by omega) (by omega)]; exact h.en
  · rw [e7, e8]; exact h.wf
theorem RLn.stay {b : Nat} (h : RLn T L k B c s a m l) : RLn T L k B c (ps s (B a) b) a m l := RLn.mk h.rj.stay h.l8 h.l2 h.ln h.bm
theorem RLn.next {b : Nat} (h : RLn T L k B c s a m l) (hk : a < k) : RLn T L k B (cp c 2 4 (nI (a + 1))) (ps s (te T L (B a)) b) (a + 1) m l := by
  have l2 := h.l2
  refine RLn.mk (h.rj.next hk) (by rw [cp_q, upd_n (by decide)]; exact h.l8) h.l2 (fun i hi => (h.ln i hi).cg (cp_1 _ (by decide)) (cp_1 _ (by decide)) (cp_1 _ (by decide)) (cp_1 _ (by decide)) (fun _ _ _ => rfl) (by omega)) ?_
  rw [cp_1 7 (by decide)]; exact h.bm
theorem TK.ne2 (h : TK T L k B c) (ha : a < k) : ¬ c.1 3 a = -2 := by
  have np : ∀ v, v < 2 ^ 31 → ¬ nI v = -2 := fun v hv e => nI_pos hv (by rw [e]; decide)
  rcases h.kind (Nat.le_of_lt ha) with ⟨k1, k2⟩ | ⟨k1, k2, k3, k4⟩ | ⟨k1, k2, k3, k4, k5, k6⟩ | ⟨k1, k2, k3, k4, k5⟩
  · omega
  · rcases k4.2 with g | ⟨i, i1, i2, g⟩
    · rw [g]; decide
    · have := sl_pos i1 i2
      rw [g]; exact np _ (by omega)
  · rcases k6 with ⟨_, v, v1, v2, v3⟩ | ⟨_, v3⟩
    · rw [v3]; exact np _ (by omega)
    · rw [v3]; decide
  · rcases k5 with ⟨g, v3⟩ | ⟨_, v3⟩
    · rw [v3]
      rcases g with g | g | g | g | g <;> (rw [g]; exact np _ (by decide))
    · rw [v3]; decide
theorem rd_stop {f : Nat} {mr rt l5 : Int32} (h : rt = 0 ∨ mr = 0) : o_X7_read_47 F τ n 0 1 (f + 1) mr rt l5 c = some (mr, rt, c) := by
  rw [o_X7_read_47]
  by_cases g1 : nI 20 ≤ l5
  · rw [if_pos g1]
  · rw [if_neg g1]
    by_cases g2 : rt = 0
    · rw [if_pos g2]
    · rw [if_neg g2]
      rcases h with h | h
      · exact absurd h g2
      · rw [if_pos h]
theorem rd_loop (hF : 401 < F) : ∀ (r l f : Nat) (c : cS) (s : rs_S) (a m : Nat), l + r = 20 → r + 1 < f → RLn T L k B c s a m l → ∃ c' s', RFl c c' s s' ∧ ((∃ l' m', o_X7_read_47 F τ n 0 1 f (nI 1) (nI 1) (nI l) c = some (nI 0, nI 1, c') ∧ o_X12_readAll_29 F f (nI l) s = some (.inr (nI l', s')) ∧ RLn T L k B c' s' k m' l') ∨ (∃ mr rt : Int32, o_X7_read_47 F τ n 0 1 f (nI 1) (nI 1) (nI l) c = some (mr, rt, c') ∧ (rt = 0 ∨ (¬ rt = 0 ∧ ¬ mr = 0)) ∧ (o_X12_readAll_29 F f (nI l) s = some (.inl s') ∨ o_X12_readAll_29 F f (nI l) s = some (.inr (-1, s'))) ∧ FL k B c' s')) := by
  intro r
  induction r with
  | zero =>
    intro l f c s a m hl hf h
    obtain ⟨f, rfl⟩ : ∃ x, f = x + 1 := ⟨f - 1, by omega⟩
    have : l = 20 := by omega
    subst this
    refine ⟨c, ps s (wd T L (B a)) (B a), RFl.refl.ps, Or.inr ⟨nI 1, nI 1, ?_, Or.inr ⟨n10, n10⟩, Or.inl ?_, a, h.rj.ak, h.rj.ta, ps_11⟩⟩
    · rw [o_X7_read_47, if_pos (Int32.le_refl _)]
    · rw [o_X12_readAll_29]
      unfold o_X12_readLine
      rw [h.rj.wrd hF, Option.bind_some, if_pos rfl, Option.bind_some, if_pos nI_0]
  | succ r ih =>
    intro l f c s a m hl hf h
    obtain ⟨f, rfl⟩ : ∃ x, f = x + 1 + 1 := ⟨f - 2, by omega⟩
    obtain ⟨c1, s1, fr, e⟩ := h.line (F := F) (τ := τ) (n := n) hF (by omega)
    have tk1 : TK T L k B c1 := h.rj.tk.same (fr.2.1 3 (by decide) (by decide) (by decide)) (fr.1 3 (by omega)) (fr.1 4 (by omega))
    have C0 : o_X7_read_47 F τ n 0 1 (f + 1 + 1) (nI 1) (nI 1) (nI l) c = ((o_X7_readLine F τ n 0 c).bind fun x8 => ((o_X7_thing τ n 0 x8.2).bind fun x9 => (if x9 = (-2) then (if x8.1 = 0 then (o_X7_read_47 F τ n 0 1 (f + 1) (nI 0) x8.1 (nI l + nI 1) x8.2) else (o_X7_read_47 F τ n 0 1 (f + 1) (nI 0) x8.1 (nI l + nI 1) x8.2)) else (if x8.1 = 0 then (o_X7_read_47 F τ n 0 1 (f + 1) (nI 1) x8.1 (nI l + nI 1) x8.2) else ((o_X7_thing τ n 0 x8.2).bind fun x13 => (if x13 = (nI 59) then (o_X7_read_47 F τ n 0 1 (f + 1) (nI 1) (nI 1) (nI l + nI 1) (cp x8.2 2 4 ((x8.2.1 2 4) + (nI 1)))) else (o_X7_read_47 F τ n 0 1 (f + 1) (nI 1) (nI 0) (nI l + nI 1) (cp x8.2 2 4 ((x8.2.1 2 4) + (nI 0)))))))))) := by
      rw [o_X7_read_47, if_neg (nI_no (by decide) (by omega) (by omega)), if_neg n10, if_neg n10]
    have R0 : o_X12_readAll_29 F (f + 1 + 1) (nI l) s = (o_X12_readLine F s (nI l)).bind fun x3 => (if x3.1 = 0 then (some (.inl x3.2)) else ((o_X12_blanks F x3.2).bind fun x5 => (if (x5.1 9) = (x5.1 10) then (some (.inr (nI l + (nI 1), x5))) else ((o_X12_isAt x5 (nI 59) (nI 59)).bind fun x7 => (if x7 = 0 then (some (.inr ((-1), x5))) else (o_X12_readAll_29 F (f + 1) (nI l + nI 1) (pN x5 9 ((x5.1 9) + (nI 1))))))))) := by
      rw [o_X12_readAll_29]
    rcases e with ⟨q1, q2, a1, m1, h1, q3⟩ | ⟨q1, q2, a1, q3, q4, q5⟩
    · rw [q1, Option.bind_some] at C0
      rw [q2, Option.bind_some, if_neg n10] at R0
      dsimp only at C0 R0
      have e9 : (ps s1 (B a1) (B a1)).1 9 = nI (B a1) := ps_9
      have e10 : (ps s1 (B a1) (B a1)).1 10 = nI L := by rw [ps_n (by decide) (by decide)]; exact h1.rj.tx.1
      rw [h1.rj.thing, Option.bind_some] at C0
      rw [h1.rj.blk hF, Option.bind_some, e9, e10] at R0
      have L4 := h1.rj.tk.L4
      have bl := h1.rj.tk.bl h1.rj.ak
      by_cases ek : a1 = k
      · subst ek
        rw [h1.rj.tk.tk, if_pos rfl, if_neg n10, rd_stop (Or.inr nI_0)] at C0
        have h2 := h1.stay (b := B a1)
        rw [h1.rj.tk.bk] at h2 R0
        rw [if_pos rfl, nI_add] at R0
        exact ⟨c1, ps s1 L L, fr.ps, Or.inl ⟨l + 1, m1, C0, R0, h2⟩⟩
      · have ak : a1 < k := by have := h1.rj.ak; omega
        have bL := (h1.rj.tk.tt a1 ak).1
        rw [if_neg (h1.rj.tk.ne2 ak), if_neg n10, Option.bind_some, h1.rj.ta] at C0
        rw [if_neg (nI_inj (by omega) (by omega) (by omega)), o_at_l (b := B a1) h1.rj.tx bL, Option.bind_some] at R0
        obtain ⟨P, b, p1, p2, p3, p4⟩ := h1.rj.pt
        have sg := h1.rj.tk.sgn (F := F) (b := b) (s := s1) (ch := 59) hF h1.rj.tx h1.rj.ak p1 p4 (by omega)
        by_cases g : c1.1 3 a1 = nI 59
        · obtain ⟨g1, g2, g3, g4, _⟩ := sg.1 g
          rw [if_pos g, nI_add a1 1, nI_add l 1] at C0
          rw [if_pos (bw_1.mpr g4), if_neg n10, nI_add (B a1) 1, nI_add l 1, ps_p9, ← g2] at R0
          obtain ⟨c2, s2, fr2, u⟩ := ih (l + 1) (f + 1) _ _ _ _ (by omega) (by omega) (h1.next (b := B a1) ak)
          refine ⟨c2, s2, (fr.trans (RFm.cat (m := m1)).fl.ps).trans fr2, ?_⟩
          rw [C0, R0]
          exact u
        · rw [if_neg g, rd_stop (Or.inl nI_0)] at C0
          rw [if_neg (fun q => (sg.2 g).1 ⟨bL, bw_1.mp q⟩), if_pos nI_0] at R0
          refine ⟨cp c1 2 4 (nI a1 + nI 0), ps s1 (B a1) (B a1), (fr.trans (RFm.cat (m := m1)).fl).ps, Or.inr ⟨nI 1, nI 0, C0, Or.inl nI_0, Or.inr R0, a1, h1.rj.ak, ?_, ps_11⟩⟩
          rw [cp_q, upd_s, nI_add, Nat.add_zero]
    · rw [q1, Option.bind_some] at C0
      rw [q2, Option.bind_some, if_pos nI_0] at R0
      dsimp only at C0 R0
      rw [tk1.thing q3 q4, Option.bind_some] at C0
      by_cases g : c1.1 3 a1 = -2
      · rw [if_pos g, if_pos nI_0, rd_stop (Or.inl nI_0)] at C0
        exact ⟨c1, s1, fr, Or.inr ⟨nI 0, nI 0, C0, Or.inl nI_0, Or.inl R0, a1, q3, q4, q5⟩⟩
      · rw [if_neg g, if_pos nI_0, rd_stop (Or.inl nI_0)] at C0
        exact ⟨c1, s1, fr, Or.inr ⟨nI 1, nI 0, C0, Or.inl nI_0, Or.inl R0, a1, q3, q4, q5⟩⟩
theorem nI_sur (x : Int32) : ∃ b, x = nI b := ⟨x.toBitVec.toNat, by
  apply Int32.toBitVec_inj.mp
  show x.toBitVec = BitVec.ofNat 32 x.toBitVec.toNat
  rw [BitVec.ofNat_toNat, BitVec.setWidth_eq]⟩
/-- what stays over a text -/
def RF0 (c c' : cS) (s s' : rs_S) : Prop := (∀ q, q < 2 ∨ 10 ≤ q → c'.1 q = c.1 q) ∧ c'.2 = c.2 ∧ (∀ q, q < 21335 → s'.2.1 q = s.2.1 q) ∧ s'.2.2 = s.2.2 ∧ ∀ j, j ≠ 9 → j ≠ 11 → j ≠ 12 → j ≠ 13 → j ≠ 15 → s'.1 j = s.1 j
/-- what a text says, on both sides -/
def TXR (c : cS) (v : Nat → Int32) (l m : Nat) : Prop := l ≤ 20 ∧ m ≤ 400 ∧ c.1 2 8 = nI l ∧ c.1 2 11 = nI m ∧ v 21335 = nI l ∧ (∀ i, i < l → LNe c v i m) ∧ ∀ j, j < m → stc (c.1 8 j) (v (21416 + 2 * j)) ∧ c.1 9 j = v (21417 + 2 * j) ∧ ((∃ f, f < 7 ∧ c.1 8 j = nI (12 + f)) → c.1 9 j = nI 0)
theorem o_reads (hF : 401 < F) (hL : L ≤ 400) (hc : ∀ i, i < 400 → c.1 1 i = T i) (hx : Tx s T L) : ∃ c' s', RF0 c c' s s' ∧ c'.1 2 0 = s'.1 13 ∧ ((∃ l m, o_X7_read F τ n 0 1 c (nI L) = some (true, c') ∧ o_X12_reads F s = some (nI l, s') ∧ TXR c' s'.2.1 l m) ∨ (o_X7_read F τ n 0 1 c (nI L) = some (false, c') ∧ o_X12_reads F s = some (-1, s'))) := by
  obtain ⟨c1, k, B, a1, tk, a2, a3, a4⟩ := o_find (F := F) (τ := τ) (n := n) hF hL hc
  have k4 := tk.k4
  generalize hc2 : cp (cp (cp c1 2 4 (nI 0)) 2 8 (nI 0)) 2 11 (nI 0) = c2
  have e3 : c2.1 3 = c1.1 3 := by rw [← hc2, cp_1 3 (by decide), cp_1 3 (by decide), cp_1 3 (by decide)]
  have e4 : c2.1 4 = c1.1 4 := by rw [← hc2, cp_1 4 (by decide), cp_1 4 (by decide), cp_1 4 (by decide)]
  have e23 : c2.1 2 3 = c1.1 2 3 := by rw [← hc2, cp_q, upd_n (by decide), cp_q, upd_n (by decide), cp_q, upd_n (by decide)]
  have e24 : c2.1 2 4 = nI 0 := by rw [← hc2, cp_q, upd_n (by decide), cp_q, upd_n (by decide), cp_q, upd_s]
  have e28 : c2.1 2 8 = nI 0 := by rw [← hc2, cp_q, upd_n (by decide), cp_q, upd_s]
  have e211 : c2.1 2 11 = nI 0 := by rw [← hc2, cp_q, upd_s]
  have o2 : ∀ q, q ≠ 2 → c2.1 q = c1.1 q := fun q hq => by rw [← hc2, cp_1 _ hq, cp_1 _ hq, cp_1 _ hq]
  have r2 : c2.2 = c1.2 := by rw [← hc2]; rfl
  have tk2 : TK T L k B c2 := tk.same e23 e3 e4
  generalize hs0 : pN (pN s 9 (nI 0)) 15 (nI 0) = s0
  have x0 : Tx s0 T L := by rw [← hs0]; exact ⟨by rw [pN_n (by decide), pN_n (by decide)]; exact hx.1, hx.2⟩
  obtain ⟨b0, hb0⟩ := nI_sur (s0.1 11)
  have z9 : s0.1 9 = nI 0 := by rw [← hs0, pN_n (by decide), pN_s]
  have z15 : s0.1 15 = nI 0 := by rw [← hs0, pN_s]
  have j0 : RJ T L k B c2 s0 0 0 := RJ.mk tk2 x0 e24 (Nat.zero_le _) ⟨0, b0, Nat.zero_le _, z9, hb0, tk.b0⟩ e211 z15 (Nat.le_refl _) (fun j hj => by omega)
  have h0 : RLn T L k B c2 (ps s0 (B 0) (B 0)) 0 0 0 := RLn.mk j0.stay e28 (by decide) (fun i hi => by omega) rfl
  have bl0 := j0.blk (F := F) hF
  have f10 : ∀ j, j ≠ 9 → j ≠ 15 → s0.1 j = s.1 j := fun j h1 h2 => by rw [← hs0, pN_n h2, pN_n h1]
  have w0 : s0.2 = s.2 := by rw [← hs0]; rfl
  have frA : ∀ (c3 : cS) (s3 : rs_S), RFl c2 c3 (ps s0 (B 0) (B 0)) s3 → (∀ q, q < 2 ∨ 10 ≤ q → c3.1 q = c.1 q) ∧ c3.2 = c.2 ∧ (∀ q, q < 21336 → s3.2.1 q = s.2.1 q) ∧ s3.2.2 = s.2.2 ∧ ∀ j, j ≠ 9 → j ≠ 11 → j ≠ 12 → j ≠ 15 → s3.1 j = s.1 j := fun c3 s3 f => by
    refine ⟨fun q hq => ?_, ?_, fun q hq => ?_, ?_, fun j h1 h2 h3 h4 => ?_⟩
    · rw [f.1 q (by omega), o2 q (by omega), a2 q (by omega) (by omega) (by omega)]
    · rw [f.2.2.1, r2, a4]
    · rw [f.2.2.2.1 q hq]; show s0.2.1 q = _; rw [w0]
    · rw [f.2.2.2.2.1]; show s0.2.2 = _; rw [w0]
    · rw [f.2.2.2.2.2 j h1 h2 h3 h4, ps_n h1 h2, f10 j h1 h4]
  -- what both do at the end
  have good : ∀ (c3 : cS) (s3 : rs_S) (l m : Nat), RFl c2 c3 (ps s0 (B 0) (B 0)) s3 → RLn T L k B c3 s3 k m l → RF0 c (cp c3 2 0 (-1)) s (pW (pN s3 13 (-1)) (nI 21335) (nI l)) ∧ (cp c3 2 0 (-1)).1 2 0 = (pW (pN s3 13 (-1)) (nI 21335) (nI l)).1 13 ∧ iL ((cp c3 2 0 (-1)).1 2 8) 21 ∧ iL ((cp c3 2 0 (-1)).1 2 11) 401 ∧ TXR (cp c3 2 0 (-1)) (pW (pN s3 13 (-1)) (nI 21335) (nI l)).2.1 l m := fun c3 s3 l m f h => by
    obtain ⟨g1, g2, g3, g4, g5⟩ := frA c3 s3 f
    have l2 := h.l2
    have m4 : m ≤ 400 := by have := h.rj.ma; omega
    have e8 : (cp c3 2 0 (-1)).1 2 8 = nI l := by rw [cp_q, upd_n (by decide)]; exact h.l8
    have e11 : (cp c3 2 0 (-1)).1 2 11 = nI m := by rw [cp_q, upd_n (by decide)]; exact h.rj.st
    have W : (pW (pN s3 13 (-1)) (nI 21335) (nI l)).2.1 = upd s3.2.1 21335 (nI l) := by rw [pWn (by decide)]; rfl
    refine ⟨⟨fun q hq => by rw [cp_1 _ (by omega)]; exact g1 q hq, g2, fun q hq => by rw [W, upd_n (by omega)]; exact g3 q (by omega), g4, fun j h1 h2 h3 h4 h5 => (show (pN s3 13 (-1)).1 j = _ from by rw [pN_n h4]; exact g5 j h1 h2 h3 h5)⟩, ?_, ?_, ?_, l2, m4, e8, e11, ?_, fun i hi => ?_, fun j hj => ?_⟩
    · rw [cp_q, upd_s]
      show _ = (pN s3 13 (-1)).1 13
      rw [pN_s]
    · rw [e8]; exact iL_t (by omega) (by decide)
    · rw [e11]; exact iL_t (by omega) (by decide)
    · rw [W, upd_s]
    · exact (h.ln i hi).cg (cp_1 _ (by decide)) (cp_1 _ (by decide)) (cp_1 _ (by decide)) (cp_1 _ (by decide)) (fun q q1 q2 => by rw [W, upd_n (by omega)]) (by omega)
    · rw [W, upd_n (by omega), upd_n (by omega), cp_1 8 (by decide), cp_1 9 (by decide)]
      exact h.rj.sp j hj
  have bad : ∀ (c3 : cS) (s3 : rs_S), RFl c2 c3 (ps s0 (B 0) (B 0)) s3 → FL k B c3 s3 → iL (mni (c3.1 2 4) (c3.1 2 3 - nI 1)) 401 ∧ RF0 c (cp c3 2 0 (cg c3 4 (mni (c3.1 2 4) (c3.1 2 3 - nI 1)))) s (pW (pN s3 13 (s3.1 11)) (nI 21335) (-1)) ∧ (cp c3 2 0 (cg c3 4 (mni (c3.1 2 4) (c3.1 2 3 - nI 1)))).1 2 0 = (pW (pN s3 13 (s3.1 11)) (nI 21335) (-1)).1 13 := fun c3 s3 f h => by
    obtain ⟨g1, g2, g3, g4, g5⟩ := frA c3 s3 f
    obtain ⟨a', h1, h2, h3⟩ := h
    have tk3 : TK T L k B c3 := tk2.same (f.2.1 3 (by decide) (by decide) (by decide)) (f.1 3 (by omega)) (f.1 4 (by omega))
    have em : mni (c3.1 2 4) (c3.1 2 3 - nI 1) = nI a' := by
      rw [h2, tk3.sz, nI_sub (by omega), show k + 1 - 1 = k by omega, mni_n (by omega) (by omega), show min a' k = a' by omega]
    have W : (pW (pN s3 13 (s3.1 11)) (nI 21335) (-1)).2.1 = upd s3.2.1 21335 (-1) := by rw [pWn (by decide)]; rfl
    rw [em, cg_n _ _ (by omega), tk3.bg a' h1]
    refine ⟨iL_t (by omega) (by decide), ⟨fun q hq => by rw [cp_1 _ (by omega)]; exact g1 q hq, g2, fun q hq => by rw [W, upd_n (by omega)]; exact g3 q (by omega), g4, fun j h1 h2 h3 h4 h5 => (show (pN s3 13 (s3.1 11)).1 j = _ from by rw [pN_n h4]; exact g5 j h1 h2 h3 h5)⟩, ?_⟩
    rw [cp_q, upd_s]
    show _ = (pN s3 13 (s3.1 11)).1 13
    rw [pN_s, h3]
  have i35 : iL (nI 21335) 22216 := iL_t (by decide) (by decide)
  have rds : ∀ (x : Int32) (s3 : rs_S), o_X12_readAll F s = some (x, s3) → (0 ≤ x → o_X12_reads F s = some (x, pW (pN s3 13 (-1)) (nI 21335) x)) ∧ (¬ 0 ≤ x → o_X12_reads F s = some (x, pW (pN s3 13 (s3.1 11)) (nI 21335) x)) := fun x s3 e => by
    unfold o_X12_reads
    rw [e, Option.bind_some]
    refine ⟨fun g => ?_, fun g => ?_⟩
    · rw [if_pos g, o_actAt, Option.bind_some, nI_add, if_pos i35]
    · rw [if_neg g, o_actAt, Option.bind_some, nI_add, if_pos i35]
  have RA : o_X12_readAll F s = if (nI (B 0) : Int32) = nI L then some (nI 0, ps s0 (B 0) (B 0)) else ((o_X12_readAll_29 F F (nI 0) (ps s0 (B 0) (B 0))).bind fun x9 => (Sum.elim (fun y10 => some ((-1), y10)) (fun z11 => some z11) x9)) := by
    unfold o_X12_readAll
    rw [hs0, bl0, Option.bind_some, ps_9, ps_n (by decide) (by decide), x0.1]
  have CA : ∀ (mr rt : Int32) (c3 : cS), (if c2.1 3 0 = -2 then o_X7_read_47 F τ n 0 1 F (nI 0) (nI 1) (nI 0) c2 else o_X7_read_47 F τ n 0 1 F (nI 1) (nI 1) (nI 0) c2) = some (mr, rt, c3) → ((rt = 0 ∨ (¬ rt = 0 ∧ ¬ mr = 0)) → iL (mni (c3.1 2 4) (c3.1 2 3 - nI 1)) 401 → o_X7_read F τ n 0 1 c (nI L) = some (false, cp c3 2 0 (cg c3 4 (mni (c3.1 2 4) (c3.1 2 3 - nI 1))))) ∧ (¬ rt = 0 → mr = 0 → iL ((cp c3 2 0 (-1)).1 2 8) 21 → iL ((cp c3 2 0 (-1)).1 2 11) 401 → o_X7_read F τ n 0 1 c (nI L) = some (true, cp c3 2 0 (-1))) := fun mr rt c3 e => by
    have base : o_X7_read F τ n 0 1 c (nI L) = ((if c2.1 3 0 = -2 then o_X7_read_47 F τ n 0 1 F (nI 0) (nI 1) (nI 0) c2 else o_X7_read_47 F τ n 0 1 F (nI 1) (nI 1) (nI 0) c2)).bind fun x15 => (if x15.2.1 = 0 then (if iL (mni (x15.2.2.1 2 4) ((x15.2.2.1 2 3) - (nI 1))) 401 then ((some (cp x15.2.2 2 0 (cg x15.2.2 4 (mni (x15.2.2.1 2 4) ((x15.2.2.1 2 3) - (nI 1)))))).bind fun x18 => (some (false, x18))) else none) else (if x15.1 = 0 then (if iL ((cp x15.2.2 2 0 (-1)).1 2 8) 21 then (if iL ((cp x15.2.2 2 0 (-1)).1 2 11) 401 then (some (true, cp x15.2.2 2 0 (-1))) else none) else none) else (if iL (mni (x15.2.2.1 2 4) ((x15.2.2.1 2 3) - (nI 1))) 401 then ((some (cp x15.2.2 2 0 (cg x15.2.2 4 (mni (x15.2.2.1 2 4) ((x15.2.2.1 2 3) - (nI 1)))))).bind fun x21 => (some (false, x21))) else none))) := by
      unfold o_X7_read
      simp only [Nat.zero_add]
      rw [mni_n (by omega) (by decide), show min L 400 = L by omega, a1, Option.bind_some, hc2, Option.bind_some, tk2.thing (Nat.zero_le _) e24, Option.bind_some]
      by_cases g : c2.1 3 0 = -2
      · rw [if_pos g, if_pos g]
      · rw [if_neg g, if_neg g]
    rw [base, e, Option.bind_some]
    dsimp only
    refine ⟨fun g i => ?_, fun g1 g2 i1 i2 => ?_⟩
    · rcases g with g | ⟨g1, g2⟩
      · rw [if_pos g, if_pos i, Option.bind_some]
      · rw [if_neg g1, if_neg g2, if_pos i, Option.bind_some]
    · rw [if_neg g1, if_pos g2, if_pos i1, if_pos i2]
  by_cases k0 : k = 0
  · subst k0
    have B0 : B 0 = L := tk.bk
    obtain ⟨F, rfl⟩ : ∃ x, F = x + 1 := ⟨F - 1, by omega⟩
    obtain ⟨g1, g2, g3, g4, g5⟩ := good c2 (ps s0 (B 0) (B 0)) 0 0 RFl.refl h0
    refine ⟨_, _, g1, g2, Or.inl ⟨0, 0, (CA (nI 0) (nI 1) c2 ?_).2 n10 nI_0 g3 g4, (rds (nI 0) _ ?_).1 (n0le (by decide)), g5⟩⟩
    · rw [if_pos tk2.tk, rd_stop (Or.inr nI_0)]
    · rw [RA, B0, if_pos rfl]
  · have kp : 0 < k := by omega
    have bL := (tk.tt 0 kp).1
    rw [if_neg (nI_inj (by omega) (by omega) (by omega))] at RA
    obtain ⟨c3, s3, f, u⟩ := rd_loop (F := F) (τ := τ) (n := n) hF 20 0 F c2 _ 0 0 rfl (by omega) h0
    rcases u with ⟨l', m', u1, u2, u3⟩ | ⟨mr, rt, u1, u2, u3, u4⟩
    · obtain ⟨g1, g2, g3, g4, g5⟩ := good c3 s3 l' m' f u3
      have l2 := u3.l2
      refine ⟨_, _, g1, g2, Or.inl ⟨l', m', (CA (nI 0) (nI 1) c3 ?_).2 n10 nI_0 g3 g4, (rds (nI l') _ ?_).1 (n0le (by omega)), g5⟩⟩
      · rw [if_neg (tk2.ne2 kp), u1]
      · rw [RA, u2]; rfl
    · obtain ⟨g1, g2, g3⟩ := bad c3 s3 f u4
      refine ⟨_, _, g2, g3, Or.inr ⟨(CA mr rt c3 ?_).1 u2 g1, (rds (-1) s3 ?_).2 m1_0⟩⟩
      · rw [if_neg (tk2.ne2 kp), u1]
      · rw [RA]
        rcases u3 with u3 | u3
        · rw [u3]; rfl
        · rw [u3]; rfl
end RDS
