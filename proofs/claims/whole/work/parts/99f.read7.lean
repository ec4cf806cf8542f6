/-! THE PURE LAYER: lines, read by both -/
section LN2
variable {F : Nat} {τ : cT} {n : Nat} {T : Nat → Int32} {L k a m l kd : Nat} {B : Nat → Nat} {c c' c'' : cS} {s s' s'' : rs_S} {x6 : Int32}
def RRl (T : Nat → Int32) (L k : Nat) (B : Nat → Nat) (c : cS) (s : rs_S) (a l : Nat) (x : Option (Int32 × cS)) (y : Option (Int32 × rs_S)) : Prop := ∃ c' s', RFl c c' s s' ∧ ((x = some (nI 1, c') ∧ y = some (nI 1, s') ∧ ∃ a' m', RLn T L k B c' s' a' m' (l + 1) ∧ a < a') ∨ (x = some (nI 0, c') ∧ y = some (nI 0, s') ∧ FL k B c' s'))
theorem rl_f {x : Option (Int32 × cS)} {y : Option (Int32 × rs_S)} {c1 : cS} {s1 : rs_S} {a1 : Nat} (hfr : RFl c c1 s s1) (ha : a1 ≤ k) (h1 : c1.1 2 4 = nI a1) (h2 : s1.1 11 = nI (B a1)) (hx : x = some (nI 0, c1)) (hy : y = some (nI 0, s1)) : RRl T L k B c s a l x y := ⟨c1, s1, hfr, Or.inr ⟨hx, hy, a1, ha, h1, h2⟩⟩
theorem cl_num (h : RLn T L k B c s a m l) (hl : l < 20) (hk8 : kd < 8) (k4 : kd ≠ 4) (g : c.1 3 a = nI (200 + kd)) (j1 : o_X7_thing τ n 0 (cp c 2 4 (nI (a + 1))) = some x6) : ((x6 - nI 1000) < 0 → o_X7_readLine F τ n 0 c = some (nI 0, cp c 2 4 (nI (a + 1)))) ∧ (∀ v, v < 1000000 → x6 = nI (1000 + v) → mo kd < v → o_X7_readLine F τ n 0 c = some (nI 0, cp c 2 4 (nI (a + 1)))) ∧ (∀ v, v < 1000000 → x6 = nI (1000 + v) → v ≤ mo kd → o_X7_readLine F τ n 0 c = tlC F τ n (nI kd) (nI v) (cp (cp c 2 4 (nI (a + 1))) 2 4 (nI (a + 1 + 1)))) := by
  have ml := mo_lt (kd := kd)
  have e2 : (cp c 2 4 (nI (a + 1))).1 2 4 = nI (a + 1) := by rw [cp_q, upd_s]
  unfold o_X7_readLine
  simp only [Nat.zero_add]
  rw [h.rj.thing, Option.bind_some, g, nI_sub (by omega), show 200 + kd - 200 = kd by omega, if_neg (nI_pos (by omega)), if_neg (fun q => absurd ((nI_ltI (by decide) (by omega)).mp q) (by omega)), h.l8, if_pos ((nI_ltI (by omega) (by decide)).mpr hl), if_neg (nI_inj (by omega) (by decide) k4), h.rj.ta, nI_add, j1, Option.bind_some]
  refine ⟨fun q => by rw [if_pos q], fun v v1 v2 v3 => ?_, fun v v1 v2 v3 => ?_⟩
  · rw [v2, nI_sub (by omega), show 1000 + v - 1000 = v by omega, if_neg (nI_pos (by omega)), o_most hk8, Option.bind_some, if_neg (nI_no (by omega) ml v3)]
  · rw [v2, nI_sub (by omega), show 1000 + v - 1000 = v by omega, if_neg (nI_pos (by omega)), o_most hk8, Option.bind_some, if_pos (nI_yes (by omega) ml v3), Option.bind_some, if_neg (nI_inj (by omega) (by decide) k4), e2, nI_add]
    rfl
theorem cl_trn {x102 : Int32} {key : Nat} (h : RLn T L k B c s a m l) (hl : l < 20) (g : c.1 3 a = nI 204) (j1 : o_X7_thing τ n 0 (cp c 2 4 (nI (a + 1))) = some x6) : (o_X7_keyOf τ n (cp c 2 4 (nI (a + 1))) x6 = some (-1) → o_X7_readLine F τ n 0 c = some (nI 0, cp c 2 4 (nI (a + 1)))) ∧ (key < 4 → o_X7_keyOf τ n (cp c 2 4 (nI (a + 1))) x6 = some (nI key) → o_X7_thing τ n 0 (cp (cp c 2 4 (nI (a + 1))) 2 4 (nI (a + 1 + 1))) = some x102 → (x102 = nI 406 → o_X7_readLine F τ n 0 c = psB (cp (cp (cp c 2 4 (nI (a + 1))) 2 4 (nI (a + 1 + 1))) 2 4 (nI (a + 1 + 1 + 1))) (nI 4) (nI (key + 4))) ∧ (¬ x102 = nI 406 → o_X7_readLine F τ n 0 c = psA (cp (cp c 2 4 (nI (a + 1))) 2 4 (nI (a + 1 + 1))) (nI 4) (nI key))) := by
  have e2 : (cp c 2 4 (nI (a + 1))).1 2 4 = nI (a + 1) := by rw [cp_q, upd_s]
  have e3 : (cp (cp c 2 4 (nI (a + 1))) 2 4 (nI (a + 1 + 1))).1 2 4 = nI (a + 1 + 1) := by rw [cp_q, upd_s]
  unfold o_X7_readLine
  simp only [Nat.zero_add]
  rw [h.rj.thing, Option.bind_some, g, nI_sub (by omega), show 204 - 200 = 4 from rfl, if_neg (nI_pos (by omega)), if_neg (fun q => absurd ((nI_ltI (by decide) (by omega)).mp q) (by omega)), h.l8, if_pos ((nI_ltI (by omega) (by decide)).mpr hl), if_pos rfl, h.rj.ta, nI_add, j1, Option.bind_some]
  refine ⟨fun q => by rw [q, Option.bind_some, if_pos (by decide)], fun k1 k2 k3 => ?_⟩
  rw [k2, Option.bind_some, if_neg (nI_pos (by omega)), o_most (by decide), Option.bind_some, show mo 4 = 999999 from rfl, if_pos (nI_yes (by omega) (by decide) (by omega)), Option.bind_some, if_pos rfl, e2, nI_add (a + 1) 1, k3, Option.bind_some]
  refine ⟨fun q => ?_, fun q => ?_⟩
  · rw [if_pos q, if_pos (by decide), e3, nI_add (a + 1 + 1) 1, nI_add key 4]
    rfl
  · rw [if_neg q, if_pos (by decide)]
    rfl
/-- both look for the key -/
theorem key_r {K : Nat} (hF : 401 < F) (hK : K + 1 < 22216) (h : RJ T L k B c s a m) : (o_X7_keyOf τ n c (c.1 3 a) = some (-1) ∧ o_X12_readTurn F s (nI K) = some (nI 0, ps s (wd T L (B a)) (B a))) ∨ ∃ key, key < 4 ∧ o_X7_keyOf τ n c (c.1 3 a) = some (nI key) ∧ a < k ∧ wd T L (B a) = te T L (B a) ∧ o_X12_readTurn F s (nI K) = (o_X12_passes F (ps s (wd T L (B a)) (B a)) 26).bind fun x => (if x.1 = 0 then some (nI 1, pW x.2 (nI (K + 1)) (nI (2 * key + 0))) else some (nI 1, pW x.2 (nI (K + 1)) (nI (2 * key + 1)))) := by
  have hW : ∀ i, 14 ≤ i → i < 41 → o_X12_isWord F (ps s (wd T L (B a)) (B a)) i = some (ifc (c.1 3 a = nI (cd i)) (nI 1) (nI 0)) := fun i h1 h2 => h.tk.isW hF h.tx h.ak h1 h2
  have we : ∀ i, 14 ≤ i → i < 41 → c.1 3 a = nI (cd i) → a < k ∧ wd T L (B a) = te T L (B a) := fun i h1 h2 e => ⟨((h.tk.eqw h.ak h1 h2).2 e).1, ((h.tk.eqw h.ak h1 h2).2 e).2.symm⟩
  have iK : iL (nI (K + 1)) 22216 := iL_t hK (by decide)
  unfold o_X7_keyOf o_X12_readTurn
  rw [h.wrd hF, Option.bind_some, hW 22 (by decide) (by decide), Option.bind_some]
  by_cases g0 : c.1 3 a = nI (cd 22)
  · have g0' : c.1 3 a = nI 400 := g0
    refine Or.inr ⟨0, by decide, ?_, (we 22 (by decide) (by decide) g0).1, (we 22 (by decide) (by decide) g0).2, ?_⟩
    · rw [g0', if_neg (by decide), if_neg (by decide), if_pos rfl]
    · rw [ifc_pos g0, if_neg n10, nI_add K 1]
      simp only [if_pos iK]
      rfl
  rw [ifc_neg g0, if_pos nI_0, hW 23 (by decide) (by decide), Option.bind_some]
  by_cases g1 : c.1 3 a = nI (cd 23)
  · have g1' : c.1 3 a = nI 307 := g1
    refine Or.inr ⟨1, by decide, ?_, (we 23 (by decide) (by decide) g1).1, (we 23 (by decide) (by decide) g1).2, ?_⟩
    · rw [if_pos g1']
    · rw [ifc_pos g1, if_neg n10, nI_add K 1]
      simp only [if_pos iK]
      rfl
  rw [ifc_neg g1, if_pos nI_0, hW 24 (by decide) (by decide), Option.bind_some]
  by_cases g2 : c.1 3 a = nI (cd 24)
  · have g2' : c.1 3 a = nI 308 := g2
    refine Or.inr ⟨2, by decide, ?_, (we 24 (by decide) (by decide) g2).1, (we 24 (by decide) (by decide) g2).2, ?_⟩
    · rw [if_neg (show ¬ c.1 3 a = nI 307 from g1), if_pos g2']
    · rw [ifc_pos g2, if_neg n10, nI_add K 1]
      simp only [if_pos iK]
      rfl
  rw [ifc_neg g2, if_pos nI_0, hW 25 (by decide) (by decide), Option.bind_some]
  by_cases g3 : c.1 3 a = nI (cd 25)
  · have g3' : c.1 3 a = nI 401 := g3
    refine Or.inr ⟨3, by decide, ?_, (we 25 (by decide) (by decide) g3).1, (we 25 (by decide) (by decide) g3).2, ?_⟩
    · rw [if_neg (show ¬ c.1 3 a = nI 307 from g1), if_neg (show ¬ c.1 3 a = nI 308 from g2), if_neg (show ¬ c.1 3 a = nI 400 from g0), if_pos g3']
    · rw [ifc_pos g3, if_neg n10, nI_add K 1]
      simp only [if_pos iK]
      rfl
  rw [ifc_neg g3, if_pos nI_0]
  refine Or.inl ⟨?_, rfl⟩
  rw [if_neg (show ¬ c.1 3 a = nI 307 from g1), if_neg (show ¬ c.1 3 a = nI 308 from g2), if_neg (show ¬ c.1 3 a = nI 400 from g0), if_neg (show ¬ c.1 3 a = nI 401 from g3)]
theorem w3_r {X : rs_S} {x : Int32} (h : RJ T L k B c X a m) (hl : l < 20) : RJ T L k B c (w3S X l x m) a m := ((h.w (by omega)).w (by omega)).w (by omega)
theorem w3_f {X : rs_S} {x : Int32} (h : RFl c c' s X) (hl : l < 20) : RFl c c' s (w3S X l x m) := ((h.w (by omega) (by omega)).w (by omega) (by omega)).w (by omega) (by omega)
/-- a line with a number -/
theorem RLn.lnum (hF : 401 < F) (h : RLn T L k B c s a m l) (hl : l < 20) (hk8 : kd < 8) (k4 : kd ≠ 4) (g : c.1 3 a = nI (200 + kd)) (ak : a < k) (we : wd T L (B a) = te T L (B a)) (hs : o_X12_sortOf F (ps s (wd T L (B a)) (B a)) = some (nI kd)) : RRl T L k B c s a l (o_X7_readLine F τ n 0 c) (o_X12_readLine F s (nI l)) := by
  have R := (h.head hF hl hs).2.2 kd hk8 k4 rfl
  rw [we] at R
  have ml := mo_lt (kd := kd)
  have j1 := h.rj.next (b := B a) ak
  have j2 := w3_r (l := l) (x := nI kd) j1 hl
  have C := cl_num (F := F) (τ := τ) (n := n) h hl hk8 k4 g j1.thing
  have fr1 : RFl c (cp c 2 4 (nI (a + 1))) s (ps s (te T L (B a)) (B a)) := (RFm.cat (m := m)).fl.ps
  have fr2 := w3_f (m := m) (l := l) (x := nI kd) fr1 hl
  have i1 : iL (nI (21336 + 4 * l) + nI 1) 22216 := by rw [nI_add]; exact iL_t (by omega) (by decide)
  have bad : ∀ e, o_X12_number F (w3S (ps s (te T L (B a)) (B a)) l (nI kd) m) (nI (mo kd)) = some (-1, ps (w3S (ps s (te T L (B a)) (B a)) l (nI kd) m) e (B (a + 1))) → o_X7_readLine F τ n 0 c = some (nI 0, cp c 2 4 (nI (a + 1))) → RRl T L k B c s a l (o_X7_readLine F τ n 0 c) (o_X12_readLine F s (nI l)) := fun e e1 e2 => by
    refine rl_f (c1 := cp c 2 4 (nI (a + 1))) (s1 := pW (ps (w3S (ps s (te T L (B a)) (B a)) l (nI kd) m) e (B (a + 1))) (nI (21336 + 4 * l + 1)) (-1)) (a1 := a + 1) ((fr2.ps).w (by omega) (by omega)) j1.ak j1.ta (show (ps (w3S (ps s (te T L (B a)) (B a)) l (nI kd) m) e (B (a + 1))).1 11 = nI (B (a + 1)) from ps_11) e2 ?_
    rw [R, e1, Option.bind_some]
    unfold tlR
    rw [if_pos i1, nI_add]
    dsimp only
    rw [gW_n _ (by omega), pWn (by omega), upd_s, if_neg m1_0]
  rcases j2.num (F := F) (hi := mo kd) hF ml with ⟨v, v1, v2, v3, v4⟩ | ⟨v1, e, v2, v3⟩
  · by_cases vm : v ≤ mo kd
    · rw [if_pos vm] at v4
      have C2 := C.2.2 v v1 v2 vm
      generalize hs2 : w3S (ps s (te T L (B a)) (B a)) l (nI kd) m = s2 at *
      have j3 := (j2.next (b := B (a + 1)) v3).w (q := 21336 + 4 * l + 1) (x := nI v) (by omega)
      have fr3 : RFl c (cp (cp c 2 4 (nI (a + 1))) 2 4 (nI (a + 1 + 1))) s (pW (ps s2 (te T L (B (a + 1))) (B (a + 1))) (nI (21336 + 4 * l + 1)) (nI v)) := (fr2.trans (RFm.cat (m := m)).fl).ps.w (by omega) (by omega)
      have W : (pW (ps s2 (te T L (B (a + 1))) (B (a + 1))) (nI (21336 + 4 * l + 1)) (nI v)).2.1 = upd (upd (upd (upd s.2.1 (21336 + 4 * l) (nI kd)) (21336 + 4 * l + 2) (nI m)) (21336 + 4 * l + 3) (nI m)) (21336 + 4 * l + 1) (nI v) := by
        rw [pWn (by omega)]
        show upd s2.2.1 _ _ = _
        rw [← hs2, w3_w hl]
        rfl
      have R2 : o_X12_readLine F s (nI l) = if (nI kd) ≤ (nI 4) then ((o_X12_passes F (pW (ps s2 (te T L (B (a + 1))) (B (a + 1))) (nI (21336 + 4 * l + 1)) (nI v)) 27).bind fun x15 => (if x15.1 = 0 then (some (nI 1, pW x15.2 (nI (21336 + 4 * l + 3)) (x15.2.1 15))) else ((o_rdC F (pN x15.2 12 (nI 0))).bind fun x17 => (if x17.1 = 0 then (some (nI 0, x17.2)) else (some (nI 1, pW x17.2 (nI (21336 + 4 * l + 3)) (x17.2.1 15))))))) else (some (nI 1, pW (ps s2 (te T L (B (a + 1))) (B (a + 1))) (nI (21336 + 4 * l + 1)) (nI v))) := by
        rw [R, v4, Option.bind_some]
        unfold tlR
        rw [if_pos i1, nI_add]
        dsimp only
        rw [gW_n _ (by omega), pWn (by omega), upd_s, if_pos (n0le (by omega))]
      generalize hs3 : pW (ps s2 (te T L (B (a + 1))) (B (a + 1))) (nI (21336 + 4 * l + 1)) (nI v) = s3 at *
      have w5' : kd = 5 → N (nI v) ≤ 50 := fun e => by subst e; rw [N_nI (by omega)]; exact vm
      have wn' : kd = 2 ∨ kd = 6 → N (nI v) ≤ 100 := fun e => by
        rw [N_nI (by omega)]
        rcases e with e | e <;> subst e <;> exact vm
      by_cases k3 : 3 < kd
      · have P := h.push (kd := kd) (V := nI v) hl j3 (by rw [cp_1 5 (by decide), cp_1 5 (by decide)]) (by rw [cp_1 6 (by decide), cp_1 6 (by decide)]) (by rw [cp_1 7 (by decide), cp_1 7 (by decide)]) (fun j _ => by rw [cp_1 8 (by decide), cp_1 8 (by decide)]) (fun q q1 q2 => by rw [W, upd_n (by omega), upd_n (by omega), upd_n (by omega), upd_n (by omega)]) hk8 (by rw [W, upd_n (by omega), upd_n (by omega), upd_n (by omega), upd_s]) (fun _ => ⟨by rw [W, upd_s], v, v1, rfl⟩) (fun e => absurd e k4) wn' w5' (by rw [W, upd_n (by omega), upd_n (by omega), upd_s]) (by rw [W, upd_n (by omega), upd_s]) (Nat.le_refl _) (fun q => absurd q (Nat.lt_irrefl _))
        refine ⟨_, _, fr3.pl (l := l) (K := nI kd) (V := nI v) (m := m), Or.inl ⟨?_, ?_, a + 1 + 1, m, P, by omega⟩⟩
        · rw [C2]
          unfold tlC
          rw [if_pos ((nI_ltI (by decide) (by omega)).mpr k3), psA_e hl (by rw [cp_q, upd_n (by decide), cp_q, upd_n (by decide)]; exact h.l8) j3.st]
        · rw [R2, if_neg (nI_no (by omega) (by decide) (by omega))]
      · have C3 : o_X7_readLine F τ n 0 c = ((o_X7_thing τ n 0 (cp (cp c 2 4 (nI (a + 1))) 2 4 (nI (a + 1 + 1)))).bind fun x18 => (if x18 = (nI 402) then ((o_crY F τ n 0 (cp (cp (cp c 2 4 (nI (a + 1))) 2 4 (nI (a + 1 + 1))) 2 4 (((cp (cp c 2 4 (nI (a + 1))) 2 4 (nI (a + 1 + 1))).1 2 4) + (nI 1))) (nI 0)).bind fun x25 => (if x25.1 = 0 then (some (nI 0, x25.2)) else psA x25.2 (nI kd) (nI v))) else psA (cp (cp c 2 4 (nI (a + 1))) 2 4 (nI (a + 1 + 1))) (nI kd) (nI v))) := by
          rw [C2]
          unfold tlC
          rw [if_neg (fun q => k3 ((nI_ltI (by decide) (by omega)).mp q))]
        rw [if_pos (nI_yes (by omega) (by decide) (by omega))] at R2
        rw [j3.thing, Option.bind_some, j3.ta, nI_add] at C3
        have p := j3.pas (F := F) (i := 27) hF (by decide) (by decide)
        by_cases gi : (cp (cp c 2 4 (nI (a + 1))) 2 4 (nI (a + 1 + 1))).1 3 (a + 1 + 1) = nI 402
        · obtain ⟨p1, p2⟩ := p.1 gi
          have j4 := (j3.next (b := B (a + 1 + 1)) p1).d12 (y := nI 0)
          obtain ⟨c5, s5, e1, e2⟩ := RR.cond (F := F) (τ := τ) (n := n) hF j4 (pN_s _ _ _)
          have fr4 : RFl c (cp (cp (cp c 2 4 (nI (a + 1))) 2 4 (nI (a + 1 + 1))) 2 4 (nI (a + 1 + 1 + 1))) s (pN (ps s3 (te T L (B (a + 1 + 1))) (B (a + 1 + 1))) 12 (nI 0)) := fr3.trans (RFm.cat (m := m)).ps.d12.fl
          have fr5 := fr4.trans e1.fl
          rw [if_pos gi] at C3
          rw [p2, Option.bind_some, if_neg n10] at R2
          dsimp only at R2
          rcases e2 with ⟨q1, q2, q3, a5, m5, j5, q4, q5, q6⟩ | ⟨q1, q2, a5, q3, q4, q5⟩
          · rw [q1, Option.bind_some, if_neg n10] at C3
            rw [q2, Option.bind_some, if_neg n10] at R2
            dsimp only at C3 R2
            have W5 : ∀ q, q < 21416 → s5.2.1 q = s3.2.1 q := fun q hq => e1.2.2.2.2.1 q (by omega)
            have j6 := j5.w (q := 21336 + 4 * l + 3) (x := nI m5) (by omega)
            have W6 : ∀ q, q < 21416 → q ≠ 21336 + 4 * l + 3 → (pW s5 (nI (21336 + 4 * l + 3)) (nI m5)).2.1 q = s3.2.1 q := fun q h1 h2 => by rw [pWn (by omega), upd_n h2]; exact W5 q h1
            have P := h.push (kd := kd) (V := nI v) hl j6 (by rw [e1.1 5 (by decide) (by decide) (by decide), cp_1 5 (by decide), cp_1 5 (by decide), cp_1 5 (by decide)]) (by rw [e1.1 6 (by decide) (by decide) (by decide), cp_1 6 (by decide), cp_1 6 (by decide), cp_1 6 (by decide)]) (by rw [e1.1 7 (by decide) (by decide) (by decide), cp_1 7 (by decide), cp_1 7 (by decide), cp_1 7 (by decide)]) (fun j hj => by rw [(e1.2.2.2.1 j hj).1, cp_1 8 (by decide), cp_1 8 (by decide), cp_1 8 (by decide)]) (fun q q1 q2 => by rw [W6 q (by omega) (by omega), W, upd_n (by omega), upd_n (by omega), upd_n (by omega), upd_n (by omega)]) hk8 (by rw [W6 _ (by omega) (by omega), W, upd_n (by omega), upd_n (by omega), upd_n (by omega), upd_s]) (fun _ => ⟨by rw [W6 _ (by omega) (by omega), W, upd_s], v, v1, rfl⟩) (fun e => absurd e k4) wn' w5' (by rw [W6 _ (by omega) (by omega), W, upd_n (by omega), upd_n (by omega), upd_s]) (by rw [pWn (by omega), upd_s]) (by omega) (fun _ => q6 0 (by decide))
            refine ⟨_, _, (fr5.w (q := 21336 + 4 * l + 3) (x := nI m5) (by omega) (by omega)).pl (l := l) (K := nI kd) (V := nI v) (m := m5), Or.inl ⟨?_, ?_, a5, m5, P, by omega⟩⟩
            · rw [C3, psA_e hl (by rw [e1.2.1 8 (by decide) (by decide), cp_q, upd_n (by decide), cp_q, upd_n (by decide), cp_q, upd_n (by decide)]; exact h.l8) j5.st]
            · rw [R2, j5.s5]
          · rw [q1, Option.bind_some, if_pos nI_0] at C3
            rw [q2, Option.bind_some, if_pos nI_0] at R2
            exact rl_f fr5 q3 q4 q5 C3 R2
        · rw [if_neg gi] at C3
          rw [p.2 gi, Option.bind_some, if_pos nI_0] at R2
          dsimp only at R2
          rw [show (ps s3 (B (a + 1 + 1)) (B (a + 1 + 1))).1 15 = nI m by rw [ps_n (by decide) (by decide)]; exact j3.s5] at R2
          have j6 := (j3.stay (b := B (a + 1 + 1))).w (q := 21336 + 4 * l + 3) (x := nI m) (by omega)
          have W6 : (pW (ps s3 (B (a + 1 + 1)) (B (a + 1 + 1))) (nI (21336 + 4 * l + 3)) (nI m)).2.1 = upd s3.2.1 (21336 + 4 * l + 3) (nI m) := by rw [pWn (by omega)]; rfl
          have P := h.push (kd := kd) (V := nI v) hl j6 (by rw [cp_1 5 (by decide), cp_1 5 (by decide)]) (by rw [cp_1 6 (by decide), cp_1 6 (by decide)]) (by rw [cp_1 7 (by decide), cp_1 7 (by decide)]) (fun j _ => by rw [cp_1 8 (by decide), cp_1 8 (by decide)]) (fun q q1 q2 => by rw [W6, upd_n (by omega), W, upd_n (by omega), upd_n (by omega), upd_n (by omega), upd_n (by omega)]) hk8 (by rw [W6, upd_n (by omega), W, upd_n (by omega), upd_n (by omega), upd_n (by omega), upd_s]) (fun _ => ⟨by rw [W6, upd_n (by omega), W, upd_s], v, v1, rfl⟩) (fun e => absurd e k4) wn' w5' (by rw [W6, upd_n (by omega), W, upd_n (by omega), upd_n (by omega), upd_s]) (by rw [W6, upd_s]) (Nat.le_refl _) (fun q => absurd q (Nat.lt_irrefl _))
          refine ⟨_, _, (fr3.ps.w (q := 21336 + 4 * l + 3) (x := nI m) (by omega) (by omega)).pl (l := l) (K := nI kd) (V := nI v) (m := m), Or.inl ⟨?_, R2, a + 1 + 1, m, P, by omega⟩⟩
          rw [C3, psA_e hl (by rw [cp_q, upd_n (by decide), cp_q, upd_n (by decide)]; exact h.l8) j3.st]
    · rw [if_neg vm] at v4
      exact bad _ v4 (C.2.1 v v1 v2 (by omega))
  · exact bad e v3 (C.1 v1)
/-- a line on turns -/
theorem RLn.ltrn (hF : 401 < F) (h : RLn T L k B c s a m l) (hl : l < 20) (g : c.1 3 a = nI 204) (ak : a < k) (we : wd T L (B a) = te T L (B a)) (hs : o_X12_sortOf F (ps s (wd T L (B a)) (B a)) = some (nI 4)) : RRl T L k B c s a l (o_X7_readLine F τ n 0 c) (o_X12_readLine F s (nI l)) := by
  have R := (h.head hF hl hs).2.1 rfl
  rw [we] at R
  have j1 := h.rj.next (b := B a) ak
  have j2 := w3_r (l := l) (x := nI 4) j1 hl
  have fr1 : RFl c (cp c 2 4 (nI (a + 1))) s (ps s (te T L (B a)) (B a)) := (RFm.cat (m := m)).fl.ps
  have fr2 := w3_f (m := m) (l := l) (x := nI 4) fr1 hl
  rcases key_r (F := F) (τ := τ) (n := n) (K := 21336 + 4 * l) hF (by omega) j2 with ⟨q1, q2⟩ | ⟨key, q1, q2, q3, q4, q5⟩
  · have C := (cl_trn (F := F) (τ := τ) (n := n) (x102 := 0) (key := 0) h hl g j1.thing).1 q1
    refine rl_f (c1 := cp c 2 4 (nI (a + 1))) (s1 := ps (w3S (ps s (te T L (B a)) (B a)) l (nI 4) m) (wd T L (B (a + 1))) (B (a + 1))) (a1 := a + 1) fr2.ps j1.ak j1.ta ps_11 C ?_
    rw [R, q2, Option.bind_some, if_pos (Or.inl rfl)]
  · rw [q4] at q5
    generalize hs2 : w3S (ps s (te T L (B a)) (B a)) l (nI 4) m = s2 at *
    have W2 : s2.2.1 = upd (upd (upd s.2.1 (21336 + 4 * l) (nI 4)) (21336 + 4 * l + 2) (nI m)) (21336 + 4 * l + 3) (nI m) := by rw [← hs2, w3_w hl]; rfl
    have j3 := j2.next (b := B (a + 1)) q3
    have C := (cl_trn (F := F) (τ := τ) (n := n) h hl g j1.thing).2 q1 q2 j3.thing
    have p := j3.pas (F := F) (i := 26) hF (by decide) (by decide)
    have fr3 : RFl c (cp (cp c 2 4 (nI (a + 1))) 2 4 (nI (a + 1 + 1))) s (ps s2 (te T L (B (a + 1))) (B (a + 1))) := (fr2.trans (RFm.cat (m := m)).fl).ps
    by_cases gd : (cp (cp c 2 4 (nI (a + 1))) 2 4 (nI (a + 1 + 1))).1 3 (a + 1 + 1) = nI 406
    · obtain ⟨p1, p2⟩ := p.1 gd
      have j4 := (j3.next (b := B (a + 1 + 1)) p1).w (q := 21336 + 4 * l + 1) (x := nI (2 * key + 1)) (by omega)
      have W : (pW (ps (ps s2 (te T L (B (a + 1))) (B (a + 1))) (te T L (B (a + 1 + 1))) (B (a + 1 + 1))) (nI (21336 + 4 * l + 1)) (nI (2 * key + 1))).2.1 = upd s2.2.1 (21336 + 4 * l + 1) (nI (2 * key + 1)) := by rw [pWn (by omega)]; rfl
      have P := h.push (kd := 4) (V := nI (key + 4)) hl j4 (by rw [cp_1 5 (by decide), cp_1 5 (by decide), cp_1 5 (by decide)]) (by rw [cp_1 6 (by decide), cp_1 6 (by decide), cp_1 6 (by decide)]) (by rw [cp_1 7 (by decide), cp_1 7 (by decide), cp_1 7 (by decide)]) (fun j _ => by rw [cp_1 8 (by decide), cp_1 8 (by decide), cp_1 8 (by decide)]) (fun q q1 q2 => by rw [W, upd_n (by omega), W2, upd_n (by omega), upd_n (by omega), upd_n (by omega)]) (by decide) (by rw [W, upd_n (by omega), W2, upd_n (by omega), upd_n (by omega), upd_s]) (fun e => absurd rfl e) (fun _ => ⟨key, 1, q1, by decide, rfl, by rw [W, upd_s]⟩) (fun e => by omega) (fun e => by omega) (by rw [W, upd_n (by omega), W2, upd_n (by omega), upd_s]) (by rw [W, upd_n (by omega), W2, upd_s]) (Nat.le_refl _) (fun q => absurd q (Nat.lt_irrefl _))
      refine ⟨_, _, ((fr3.trans (RFm.cat (m := m) (y := nI (a + 1 + 1 + 1))).fl).ps.w (q := 21336 + 4 * l + 1) (x := nI (2 * key + 1)) (by omega) (by omega)).pl (l := l) (K := nI 4) (V := nI (key + 4)) (m := m), Or.inl ⟨?_, ?_, a + 1 + 1 + 1, m, P, by omega⟩⟩
      · rw [C.1 gd, psB_e hl (by rw [cp_q, upd_n (by decide), cp_q, upd_n (by decide), cp_q, upd_n (by decide)]; exact h.l8) j4.st]
      · rw [R, q5, p2, Option.bind_some, if_neg n10, Option.bind_some, if_pos (Or.inr rfl)]
    · have j4 := (j3.stay (b := B (a + 1 + 1))).w (q := 21336 + 4 * l + 1) (x := nI (2 * key + 0)) (by omega)
      have W : (pW (ps (ps s2 (te T L (B (a + 1))) (B (a + 1))) (B (a + 1 + 1)) (B (a + 1 + 1))) (nI (21336 + 4 * l + 1)) (nI (2 * key + 0))).2.1 = upd s2.2.1 (21336 + 4 * l + 1) (nI (2 * key + 0)) := by rw [pWn (by omega)]; rfl
      have P := h.push (kd := 4) (V := nI key) hl j4 (by rw [cp_1 5 (by decide), cp_1 5 (by decide)]) (by rw [cp_1 6 (by decide), cp_1 6 (by decide)]) (by rw [cp_1 7 (by decide), cp_1 7 (by decide)]) (fun j _ => by rw [cp_1 8 (by decide), cp_1 8 (by decide)]) (fun q q1 q2 => by rw [W, upd_n (by omega), W2, upd_n (by omega), upd_n (by omega), upd_n (by omega)]) (by decide) (by rw [W, upd_n (by omega), W2, upd_n (by omega), upd_n (by omega), upd_s]) (fun e => absurd rfl e) (fun _ => ⟨key, 0, q1, by decide, rfl, by rw [W, upd_s]⟩) (fun e => by omega) (fun e => by omega) (by rw [W, upd_n (by omega), W2, upd_n (by omega), upd_s]) (by rw [W, upd_n (by omega), W2, upd_s]) (Nat.le_refl _) (fun q => absurd q (Nat.lt_irrefl _))
      refine ⟨_, _, (fr3.ps.w (q := 21336 + 4 * l + 1) (x := nI (2 * key + 0)) (by omega) (by omega)).pl (l := l) (K := nI 4) (V := nI key) (m := m), Or.inl ⟨?_, ?_, a + 1 + 1, m, P, by omega⟩⟩
      · rw [C.2 gd, psA_e hl (by rw [cp_q, upd_n (by decide), cp_q, upd_n (by decide)]; exact h.l8) j4.st]
      · rw [R, q5, p.2 gd, Option.bind_some, if_pos nI_0, Option.bind_some, if_pos (Or.inr rfl)]
/-- a line -/
theorem RLn.line (hF : 401 < F) (h : RLn T L k B c s a m l) (hl : l < 20) : RRl T L k B c s a l (o_X7_readLine F τ n 0 c) (o_X12_readLine F s (nI l)) := by
  have hW : ∀ i, 14 ≤ i → i < 41 → o_X12_isWord F (ps s (wd T L (B a)) (B a)) i = some (ifc (c.1 3 a = nI (cd i)) (nI 1) (nI 0)) := fun i h1 h2 => h.rj.tk.isW hF h.rj.tx h.rj.ak h1 h2
  rcases w_srt hW with ⟨kd, f1, f2, f3⟩ | ⟨f1, f3⟩
  · have w : a < k ∧ wd T L (B a) = te T L (B a) := by
      obtain ⟨k1, k2, k3, k4⟩ := kf2 7 (by decide) (by decide) kd f1
      have := (h.rj.tk.eqw h.rj.ak k1 k2).2 (by rw [k4]; exact f2)
      exact ⟨this.1, this.2.symm⟩
    by_cases k4 : kd = 4
    · subst k4
      exact h.ltrn hF hl f2 w.1 w.2 f3
    · exact h.lnum hF hl f1 k4 f2 w.1 w.2 f3
  · have R := (h.head hF hl f3).1 m1_0
    refine rl_f (c1 := c) (s1 := w3S (ps s (wd T L (B a)) (B a)) l (-1) m) (a1 := a) (w3_f (m := m) (l := l) RFl.refl.ps hl) h.rj.ak h.rj.ta (show (ps s (wd T L (B a)) (B a)).1 11 = nI (B a) from ps_11) ?_ R
    · unfold o_X7_readLine
      rw [h.rj.thing, Option.bind_some]
      by_cases g1 : (c.1 3 a - nI 200 : Int32) < 0
      · rw [if_pos g1]
      · rw [if_neg g1]
        by_cases g2 : nI 7 < (c.1 3 a - nI 200 : Int32)
        · rw [if_pos g2]
        · exfalso
          obtain ⟨f, k1, k2⟩ := i_in (x := c.1 3 a - nI 200) (a := 7) (by rw [nI_0]; exact g1) g2 (by decide)
          have e : c.1 3 a = nI (200 + f) := by
            rw [Nat.add_comm, ← nI_add, ← k2, Int32.sub_add_cancel]
          exact f1 f (by omega) e
end LN2
