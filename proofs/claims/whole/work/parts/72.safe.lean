/-! THE PURE LAYER: depths as they are known, safe ways; window -/
section SAFE
variable {F : Nat} {x : Nat → Int32} {τ : cT} {n q B H o i k : Nat} {c c' c'' : cS} {s s' s'' : rs_S} {v : Nat → Int32} {D : Nat → Int32} {y : Int32}
/-- the class: only places of no account differ -/
def Cz (c c' : cS) : Prop := (∀ a j, (a < 145 ∨ 180 ≤ a) → ¬ (39 ≤ a ∧ a < 49 ∧ j = 8) → c'.1 a j = c.1 a j) ∧ c'.2 = c.2
theorem Cz.refl (c : cS) : Cz c c := ⟨fun _ _ _ _ => rfl, rfl⟩
theorem Cz.trans (h : Cz c c') (h' : Cz c' c'') : Cz c c'' := ⟨fun a j h1 h2 => (h'.1 a j h1 h2).trans (h.1 a j h1 h2), h'.2.trans h.2⟩
theorem Cf.cz (h : Cf c c') : Cz c c' := ⟨fun a j h1 _ => by rw [h.1 a (by omega)], h.2⟩
theorem Cz.one (c : cS) {a : Nat} (j : Nat) (y : Int32) (h : 145 ≤ a) (h2 : a < 180) : Cz c (cp c a j y) := ⟨fun b i h1 _ => by rw [cp_1 _ (by omega)], rfl⟩
theorem Cz.nw (h : Cz c c') : Nw c c' := ⟨fun q hq => funext fun j => h.1 q j (by omega) (by omega), fun q _ => by rw [h.2]⟩
theorem Cz.fr (h : Cz c c') : Fr c c' 10 v := ⟨fun o ho j h1 _ _ => h.1 _ j (by omega) (by omega), fun i hi => by rw [h.2], fun a ha => by rw [h.2], by rw [h.2]⟩
theorem RX.cz (h : RX τ n c 10 v) (hI : LI τ n) (hc : Cz c c') : RX τ n c' 10 v := h.frame ext_id hc.fr (hc.nw.as hI) (fun _ _ => Or.inr rfl) h.rg
theorem RB.cz (h : RB τ n c 10 v) (hI : LI τ n) (hc : Cz c c') : RB τ n c' 10 v := (h.x.cz hI hc).rb h.cr
/-- the reference: only places of no account differ -/
def Sy (s s' : rs_S) : Prop := s'.2.1 = s.2.1 ∧ (∀ j, j = 0 ∨ j = 3 ∨ j = 8 ∨ j = 13 → s'.1 j = s.1 j) ∧ ∀ k, k = 1 ∨ k = 4 → s'.2.2 k = s.2.2 k
theorem Sy.refl (s : rs_S) : Sy s s := ⟨rfl, fun _ _ => rfl, fun _ _ => rfl⟩
theorem Sy.trans (h : Sy s s') (h' : Sy s' s'') : Sy s s'' := ⟨h'.1.trans h.1, fun j a => (h'.2.1 j a).trans (h.2.1 j a), fun k a => (h'.2.2 k a).trans (h.2.2 k a)⟩
theorem Sc.sy (h : Sc s s') : Sy s s' := ⟨h.1, fun j hj => h.2.1 j (by omega) (by omega), fun k hk => h.2.2 k (by omega) (by omega)⟩
theorem Sl.sy (h : Sl s s') : Sy s s' := ⟨h.1, fun j hj => h.2.1 j (by omega), fun k hk => h.2.2 k (by omega)⟩
theorem Sy.r {j : Nat} (s : rs_S) (i y : Int32) (h : j ≠ 1 ∧ j ≠ 4) : Sy s (pR s j i y) := ⟨rfl, fun _ _ => rfl, fun k hk => va_up_ne _ _ (by omega)⟩
theorem Sy.nn {j : Nat} (s : rs_S) (y : Int32) (h : j ≠ 0 ∧ j ≠ 3 ∧ j ≠ 8 ∧ j ≠ 13) : Sy s (pN s j y) := ⟨rfl, fun _ _ => pN_n (by omega), fun _ _ => rfl⟩
theorem Rel.sy (h : Rel τ n c s) (hI : LI τ n) (hc : Cz c c') (hs : Sy s s') : Rel τ n c' s' := h.now hI hc.nw (by rw [hs.1]; exact h.b.cz hI hc) (fun j hj => hs.2.1 j (by omega)) (fun j hj => hs.2.2 j (by omega))
theorem pN_sy {s1 : rs_S} (h : Sy (pN s 0 (nI 0)) s1) : s1.1 0 = nI 0 := by rw [h.2.1 0 (by omega)]; exact pN0 _ _
/-- the known depth now -/
def dp (v : Nat → Int32) (k : Nat) : Int32 := kn v (N (v 198)) k (v 0)
theorem fd_loop (hP : Pl c 10 v) (hS : ∀ k, k < 24 → c.1 26 k = eC (ls v (nI k) (v 0) (N (v 198)))) (h198 : N (v 198) ≤ 200) : ∀ (r i f : Nat) (c' : cS), i + r = 24 → r < f → (∀ a, a ≠ 178 → c'.1 a = c.1 a) → c'.2 = c.2 → (∀ k, k < i → c'.1 178 k = dp v k) → ∃ c'', o_X2_fillDepths_2 F τ n 10 f (nI i) c' = some c'' ∧ (∀ a, a ≠ 178 → c''.1 a = c.1 a) ∧ c''.2 = c.2 ∧ ∀ k, k < 24 → c''.1 178 k = dp v k := by
  intro r
  induction r with
  | zero =>
    intro i f c' hi hf h1 h2 h3
    obtain ⟨f, rfl⟩ : ∃ x, f = x + 1 := ⟨f - 1, by omega⟩
    rw [o_X2_fillDepths_2, if_pos (nI_yes (by omega) (by omega) (by omega))]
    exact ⟨c', rfl, h1, h2, fun k hk => h3 k (by omega)⟩
  | succ r ih =>
    intro i f c' hi hf h1 h2 h3
    obtain ⟨f, rfl⟩ : ∃ x, f = x + 1 := ⟨f - 1, by omega⟩
    rw [o_X2_fillDepths_2, if_neg (nI_no (by omega) (by omega) (by omega)), if_pos (iL_t (show i < 24 by omega) (by decide)), cg_n _ _ (by omega), cg_n _ _ (by omega), nI_add, ca_n _ _ (by omega), show (10 + 16 : Nat) = 26 from rfl, h1 26 (by decide), hS i (by omega)]
    have nx : ∀ y : Int32, y = dp v i → ∃ c'', o_X2_fillDepths_2 F τ n 10 f (nI (i + 1)) (cp c' (10 + 168) i y) = some c'' ∧ (∀ a, a ≠ 178 → c''.1 a = c.1 a) ∧ c''.2 = c.2 ∧ ∀ k, k < 24 → c''.1 178 k = dp v k := fun y hy => by
      refine ih (i + 1) f _ (by omega) (by omega) (fun a ha => by rw [cp_1 _ (by omega)]; exact h1 a ha) h2 (fun k hk => ?_)
      show (cp c' 178 i y).1 178 k = _
      rw [cp_q]
      by_cases e : k = i
      · subst e; rw [upd_s]; exact hy
      · rw [upd_n e]; exact h3 k (by omega)
    cases e : ls v (nI i) (v 0) (N (v 198)) with
    | none =>
      rw [show eC none = -1 from rfl, if_pos rfl, h1 (10 + 3) (by decide)]
      refine nx _ ?_
      unfold dp kn
      rw [e]
      have w : wk (25 + i) = some (3, i) := by unfold wk; rw [if_neg (by omega), if_neg (by omega), if_pos (by omega), show 25 + i - 25 = i by omega]
      exact hP _ _ _ w
    | some j =>
      have hj := ls_lt e
      rw [show eC (some j) = nI j from rfl, if_neg (nI_nm1 (by omega)), if_pos (iL_t (show j < 200 by omega) (by decide)), cg_n _ _ (by omega), h1 (10 + 14) (by decide), ca_n _ _ (by omega)]
      refine nx _ ?_
      unfold dp kn
      rw [e]
      exact hP _ _ _ (wk_s (j := 2) (show j < 200 by omega) (by decide))
theorem o_fillD (hF : 25 ≤ F) (h : RX τ n c 10 v) : ∃ c', o_X2_fillDepths F τ n 10 c = some c' ∧ (∀ a, a ≠ 178 → c'.1 a = c.1 a) ∧ c'.2 = c.2 ∧ ∀ k, k < 24 → c'.1 178 k = dp v k := by
  obtain ⟨c', a1, a2⟩ := fd_loop (F := F) (τ := τ) (n := n) h.pl h.snd h.n198.2 24 0 F c rfl (by omega) (fun _ _ => rfl) rfl (fun k hk => absurd hk (by omega))
  refine ⟨c', ?_, a2⟩
  unfold o_X2_fillDepths
  rw [a1]
  rfl
theorem lk_loop (hF : 201 ≤ F) (v : Nat → Int32) (r : Rg v) : ∀ (q i f : Nat) (s' : rs_S), i + q = 24 → q < f → s'.2.1 = v → s'.1 = s.1 → (∀ k, k ≠ 2 → s'.2.2 k = s.2.2 k) → (∀ k, k < i → s'.2.2 2 k = dp v k) → ∃ s'', o_X12_looks_2 F f (nI i) s' = some s'' ∧ s''.2.1 = v ∧ s''.1 = s.1 ∧ (∀ k, k ≠ 2 → s''.2.2 k = s.2.2 k) ∧ ∀ k, k < 24 → s''.2.2 2 k = dp v k := by
  have h198 := r.nat (k := 198) (hi := 200) rfl
  intro q
  induction q with
  | zero =>
    intro i f s' hi hf h0 h1 h2 h3
    obtain ⟨f, rfl⟩ : ∃ x, f = x + 1 := ⟨f - 1, by omega⟩
    rw [o_X12_looks_2, if_pos (nI_yes (by omega) (by omega) (by omega))]
    exact ⟨s', rfl, h0, h1, h2, fun k hk => h3 k (by omega)⟩
  | succ q ih =>
    intro i f s' hi hf h0 h1 h2 h3
    obtain ⟨f, rfl⟩ : ∃ x, f = x + 1 := ⟨f - 1, by omega⟩
    rw [o_X12_looks_2, if_neg (nI_no (by omega) (by omega) (by omega))]
    unfold o_X12_hour
    simp only [Option.bind_some]
    rw [gW_n _ (by decide), o_knownOf (m := N (v 198)) (k := i) hF (by rw [h0]; exact h198.1) (by omega) (by omega)]
    simp only [Option.bind_some]
    rw [if_pos (iL_t (show i < 24 by omega) (by decide)), nI_add, h0]
    refine ih (i + 1) f _ (by omega) (by omega) h0 h1 (fun k hk => by rw [show (pR s' 2 (nI i) (kn v (N (v 198)) i (v 0))).2.2 k = s'.2.2 k from va_up_ne _ _ hk]; exact h2 k hk) (fun k hk => ?_)
    show va_up s'.2.2 2 (upd (s'.2.2 2) (nI i).toNatClampNeg (kn v (N (v 198)) i (v 0))) 2 k = _
    rw [va_up_self, nI_clamp (by omega)]
    by_cases e : k = i
    · subst e; rw [upd_s]; rfl
    · rw [upd_n e]; exact h3 k (by omega)
theorem o_looks (hF : 201 ≤ F) (r : Rg s.2.1) : ∃ s', o_X12_looks F s = some s' ∧ s'.2.1 = s.2.1 ∧ s'.1 = s.1 ∧ (∀ k, k ≠ 2 → s'.2.2 k = s.2.2 k) ∧ ∀ k, k < 24 → s'.2.2 2 k = dp s.2.1 k := by
  obtain ⟨s', a1, a2⟩ := lk_loop (F := F) (s := s) hF s.2.1 r 24 0 F s rfl (by omega) rfl rfl (fun _ _ => rfl) (fun k hk => absurd hk (by omega))
  refine ⟨s', ?_, a2⟩
  unfold o_X12_looks
  rw [a1]
  rfl
/-- where a ship is on its way to or from B, in hours -/
def hat (o B c : Nat) : Nat := (if o = 0 then c else B - c) / 6
/-- enough water at c -/
def okc (D v : Nat → Int32) (y : Int32) (B H o c : Nat) : Prop := y ≤ D c + v (73 + (H + hat o B c) % 25)
def sfe (D v : Nat → Int32) (y : Int32) (B H o : Nat) : Prop := ∀ c, c ≤ B → okc D v y B H o c
theorem hat_lt (h : B < 24) (hc : i ≤ B) : hat o B i < 4 := by unfold hat; split <;> omega
theorem irm_n {a b : Nat} (ha : a < 2 ^ 31) (h0 : 0 < b) (hb : b < 2 ^ 31) : irm (nI a) (nI b) = nI (a % b) := pk_rem ha h0 hb
theorem br_loop (hT : ∀ t, t < 25 → c.1 15 t = v (73 + t)) (hB : B < 24) (hH : H < 40000) (ho : o < 2) : ∀ (r i f : Nat), i + r = B + 1 → r < f → o_X8_bears_3 F τ n 10 q y (nI B) (nI H) (nI o) c f (nI i) = some (ifc (∀ j, i ≤ j → j ≤ B → okc (c.1 q) v y B H o j) (.inl ()) (.inr (nI 0))) := by
  intro r
  induction r with
  | zero =>
    intro i f hi hf
    obtain ⟨f, rfl⟩ : ∃ x, f = x + 1 := ⟨f - 1, by omega⟩
    rw [o_X8_bears_3, if_pos ((nI_ltI (by omega) (by omega)).mpr (by omega)), ifc_pos (fun j j1 j2 => by omega)]
  | succ r ih =>
    intro i f hi hf
    obtain ⟨f, rfl⟩ : ∃ x, f = x + 1 := ⟨f - 1, by omega⟩
    have hat4 := hat_lt (o := o) hB (show i ≤ B by omega)
    have m25 : (H + hat o B i) % 25 < 25 := Nat.mod_lt _ (by decide)
    have e1 : (if y ≤ cg c q (nI i) + cg c (10 + 5) (nI ((H + hat o B i) % 25)) then o_X8_bears_3 F τ n 10 q y (nI B) (nI H) (nI o) c f (nI (i + 1)) else some (.inr (nI 0))) = some (ifc (∀ j, i ≤ j → j ≤ B → okc (c.1 q) v y B H o j) (.inl ()) (.inr (nI 0))) := by
      rw [cg_n _ _ (by omega), cg_n _ _ (by omega), hT _ m25, ih (i + 1) f (by omega) (by omega)]
      by_cases p : y ≤ c.1 q i + v (73 + (H + hat o B i) % 25)
      · rw [if_pos p]
        by_cases p2 : ∀ j, i + 1 ≤ j → j ≤ B → okc (c.1 q) v y B H o j
        · rw [ifc_pos p2, ifc_pos (fun j j1 j2 => by
            by_cases e : j = i
            · subst e; exact p
            · exact p2 j (by omega) j2)]
        · rw [ifc_neg p2, ifc_neg (fun g => p2 (fun j j1 j2 => g j (by omega) j2))]
      · rw [if_neg p, ifc_neg (fun g => p (g i (Nat.le_refl _) (by omega)))]
    have ea : irm (nI H + nI i / nI 6) (nI 25) = nI ((H + i / 6) % 25) := by rw [pk_div (by omega) (by decide) (by decide), nI_add, irm_n (by omega) (by decide) (by decide)]
    have eb : irm (nI H + (nI B - nI i) / nI 6) (nI 25) = nI ((H + (B - i) / 6) % 25) := by rw [nI_sub (by omega), pk_div (by omega) (by decide) (by decide), nI_add, irm_n (by omega) (by decide) (by decide)]
    rw [o_X8_bears_3, if_neg (nI_ngt (by omega) (by omega) (by omega)), if_neg (nI_no (by omega) (by omega) (by omega)), ea, eb, nI_add, if_pos (iL_t (show i < 24 by omega) (by decide)), if_pos (iL_t (show (H + i / 6) % 25 < 25 from Nat.mod_lt _ (by decide)) (by decide)), if_pos (iL_t (show i < 24 by omega) (by decide)), if_pos (iL_t (show (H + (B - i) / 6) % 25 < 25 from Nat.mod_lt _ (by decide)) (by decide))]
    match o, ho with
    | 0, _ => rw [if_pos nI_0]; exact e1
    | 1, _ => rw [if_neg (by decide)]; exact e1
    | o + 2, h => exact absurd h (by omega)
theorem o_bears (hF : 25 ≤ F) (hT : ∀ t, t < 25 → c.1 15 t = v (73 + t)) (hB : B < 24) (hH : H < 40000) (ho : o < 2) : o_X8_bears F τ n 10 q c y (nI B) (nI H) (nI o) = some (ifc (sfe (c.1 q) v y B H o) (nI 1) (nI 0)) := by
  unfold o_X8_bears
  rw [br_loop (F := F) hT hB hH ho (B + 1) 0 F (by omega) (by omega)]
  by_cases p : sfe (c.1 q) v y B H o
  · rw [ifc_pos p, ifc_pos (fun j _ j2 => p j j2)]; rfl
  · rw [ifc_neg p, ifc_neg (fun g => p (fun j j2 => g j (by omega) j2))]; rfl
theorem RX.tid (h : RX τ n c 10 v) : ∀ t, t < 25 → c.1 15 t = v (73 + t) := fun t ht => by
  have w : wk (73 + t) = some (5, t) := by unfold wk; rw [if_neg (by omega), if_neg (by omega), if_neg (by omega), if_neg (by omega), if_pos (by omega), show 73 + t - 73 = t by omega]
  exact h.pl _ _ _ w
theorem sf_loop (hB : B < 24) (hH : H < 40000) (ho : o < 2) : ∀ (r i f : Nat), i + r = B + 1 → r < f → o_X12_isSafe_14 F (nI B) (nI H) (nI o) y s f (nI 0) (nI i) = some (nI 0) ∧ o_X12_isSafe_14 F (nI B) (nI H) (nI o) y s f (nI 1) (nI i) = some (ifc (∀ j, i ≤ j → j ≤ B → okc (s.2.2 2) s.2.1 y B H o j) (nI 1) (nI 0)) := by
  intro r
  induction r with
  | zero =>
    intro i f hi hf
    obtain ⟨f, rfl⟩ : ∃ x, f = x + 1 := ⟨f - 1, by omega⟩
    rw [o_X12_isSafe_14, o_X12_isSafe_14, if_pos ((nI_ltI (by omega) (by omega)).mpr (by omega)), if_pos ((nI_ltI (by omega) (by omega)).mpr (by omega)), ifc_pos (fun j j1 j2 => by omega)]
    exact ⟨rfl, rfl⟩
  | succ r ih =>
    intro i f hi hf
    obtain ⟨f, rfl⟩ : ∃ x, f = x + 1 := ⟨f - 1, by omega⟩
    obtain ⟨ih0, ih1⟩ := ih (i + 1) f (by omega) (by omega)
    refine ⟨?_, ?_⟩
    · rw [o_X12_isSafe_14, if_neg (nI_ngt (by omega) (by omega) (by omega)), if_pos nI_0, nI_add]
      exact ih0
    · have hat4 := hat_lt (o := o) hB (show i ≤ B by omega)
      have m25 : (H + hat o B i) % 25 < 25 := Nat.mod_lt _ (by decide)
      have eh : o_X12_hourAt s (nI H) (nI i) (nI B) (nI o) = some (nI (H + hat o B i)) := by
        unfold o_X12_hourAt hat
        rw [nI_sub (show i ≤ B by omega), pk_div (show i < 2 ^ 31 by omega) (by decide) (by decide), pk_div (show B - i < 2 ^ 31 by omega) (by decide) (by decide), nI_add, nI_add]
        match o, ho with
        | 0, _ => rw [if_pos nI_0, if_pos rfl]
        | 1, _ => rw [if_neg (by decide), if_neg (by decide)]
        | o + 2, h => exact absurd h (by omega)
      have et : o_X12_tideOf s (nI (H + hat o B i)) = some (s.2.1 (73 + (H + hat o B i) % 25)) := by
        unfold o_X12_tideOf
        rw [irm_n (by omega) (by decide) (by decide), nI_add, if_pos (iL_t (by omega) (by decide)), gW_n _ (by omega)]
      rw [o_X12_isSafe_14, if_neg (nI_ngt (by omega) (by omega) (by omega)), if_neg (by decide), if_pos (iL_t (show i < 24 by omega) (by decide)), eh]
      simp only [Option.bind_some]
      rw [et]
      simp only [Option.bind_some]
      rw [gR_n _ _ (by omega), nI_add, ih0, ih1]
      by_cases p : s.2.2 2 i + s.2.1 (73 + (H + hat o B i) % 25) < y
      · rw [if_pos p, ifc_neg (fun g => i_nlt.mpr (g i (Nat.le_refl _) (by omega)) p)]
      · rw [if_neg p]
        by_cases p2 : ∀ j, i + 1 ≤ j → j ≤ B → okc (s.2.2 2) s.2.1 y B H o j
        · rw [ifc_pos p2, ifc_pos (fun j j1 j2 => by
            by_cases e : j = i
            · subst e; exact i_nlt.mp p
            · exact p2 j (by omega) j2)]
        · rw [ifc_neg p2, ifc_neg (fun g => p2 (fun j j1 j2 => g j (by omega) j2))]
theorem o_isSafe {C : Int32} (hF : 25 ≤ F) (hc : o_X12_clearance F s = some C) (hB : B < 24) (hH : H < 40000) (ho : o < 2) : o_X12_isSafe F s y (nI B) (nI H) (nI o) = some (ifc (sfe (s.2.2 2) s.2.1 (y + C) B H o) (nI 1) (nI 0)) := by
  unfold o_X12_isSafe
  rw [hc]
  simp only [Option.bind_some]
  rw [(sf_loop (F := F) (s := s) (y := y + C) hB hH ho (B + 1) 0 F (by omega) (by omega)).2]
  simp only [Option.bind_some]
  by_cases p : sfe (s.2.2 2) s.2.1 (y + C) B H o
  · rw [ifc_pos p, ifc_pos (fun j _ j2 => p j j2), if_pos (Or.inr rfl)]
  · rw [ifc_neg p, ifc_neg (fun g => p (fun j j2 => g j (by omega) j2)), if_pos (Or.inl rfl)]
theorem sfe_same {D' : Nat → Int32} (hB : B < 24) (h : ∀ k, k < 24 → D' k = D k) : sfe D' v y B H o ↔ sfe D v y B H o := by
  unfold sfe okc
  exact ⟨fun g c hc => by rw [← h c (by omega)]; exact g c hc, fun g c hc => by rw [h c (by omega)]; exact g c hc⟩
theorem o_berthOf {k f : Nat} (hk : k < 10) (hf : f < 8) : o_X12_berthOf s (nI k) (nI f) = some (s.2.1 (1000 + 8 * k + f)) := by
  unfold o_X12_berthOf
  rw [o_berthAt]
  simp only [Option.bind_some]
  rw [if_pos (iL_t (show 1000 + 8 * k + f < 22216 by omega) (by decide)), gW_n _ (by omega)]
theorem win_loop {C Dr : Int32} {k b G : Nat} (hF : 25 ≤ F) (hc : o_X12_clearance F s = some C) (hT : ∀ t, t < 25 → c.1 15 t = s.2.1 (73 + t)) (hD : ∀ k, k < 24 → c.1 178 k = s.2.2 2 k) (hB : B < 24) (hH : H ≤ 30000) (ho : o < 2) (h0 : c.1 10 0 = nI H) (h0' : s.2.1 0 = nI H) (hk : k < 80) (hb : b < 10) (hbc : s.2.1 (1000 + 8 * b + 0) = nI B) (hdr : s.2.1 (1212 + 18 * k + (4 + o)) = Dr) : ∀ (r i f f' : Nat), i + r = H + 51 → r < f → r < f' → (o_X2_firstSafeHour_39 F τ n 10 G (nI B) (nI o) (Dr + C) c f (nI i) = some (.inl ()) ∧ o_X12_window_48 F (nI k) (nI b) (nI o) s f' (nI i) = some (.inl ())) ∨ ∃ y, o_X2_firstSafeHour_39 F τ n 10 G (nI B) (nI o) (Dr + C) c f (nI i) = some (.inr (y, c)) ∧ o_X12_window_48 F (nI k) (nI b) (nI o) s f' (nI i) = some (.inr (y, s)) := by
  intro r
  induction r with
  | zero =>
    intro i f f' hi hf hf'
    obtain ⟨f, rfl⟩ : ∃ x, f = x + 1 := ⟨f - 1, by omega⟩
    obtain ⟨f', rfl⟩ : ∃ x, f' = x + 1 := ⟨f' - 1, by omega⟩
    left
    rw [o_X2_firstSafeHour_39, o_X12_window_48]
    unfold o_X12_hour
    simp only [Option.bind_some]
    rw [h0, gW_n _ (by decide), h0', nI_add, if_pos ((nI_ltI (by omega) (by omega)).mpr (by omega)), if_pos ((nI_ltI (by omega) (by omega)).mpr (by omega))]
    exact ⟨rfl, rfl⟩
  | succ r ih =>
    intro i f f' hi hf hf'
    obtain ⟨f, rfl⟩ : ∃ x, f = x + 1 := ⟨f - 1, by omega⟩
    obtain ⟨f', rfl⟩ : ∃ x, f' = x + 1 := ⟨f' - 1, by omega⟩
    have ih' := ih (i + 1) f f' (by omega) (by omega) (by omega)
    rw [o_X2_firstSafeHour_39, o_X12_window_48]
    unfold o_X12_hour
    simp only [Option.bind_some]
    rw [h0, gW_n _ (by decide), h0', nI_add, if_neg (nI_ngt (by omega) (by omega) (by omega)), if_neg (nI_ngt (by omega) (by omega) (by omega)), show (10 + 168 : Nat) = 178 from rfl, o_bears hF hT hB (by omega) ho, nI_add]
    simp only [Option.bind_some]
    have fin : ∀ fl : Int32, fl = (ifc (sfe (s.2.2 2) s.2.1 (Dr + C) B i o) (nI 1) (nI 0)) → ((if (ifc (sfe (c.1 178) s.2.1 (Dr + C) B i o) (nI 1) (nI 0)) = 0 then o_X2_firstSafeHour_39 F τ n 10 G (nI B) (nI o) (Dr + C) c f (nI (i + 1)) else some (.inr (nI i, c))) = some (.inl ()) ∧ (if fl = 0 then o_X12_window_48 F (nI k) (nI b) (nI o) s f' (nI (i + 1)) else some (.inr (nI i, s))) = some (.inl ())) ∨ ∃ y, (if (ifc (sfe (c.1 178) s.2.1 (Dr + C) B i o) (nI 1) (nI 0)) = 0 then o_X2_firstSafeHour_39 F τ n 10 G (nI B) (nI o) (Dr + C) c f (nI (i + 1)) else some (.inr (nI i, c))) = some (.inr (y, c)) ∧ (if fl = 0 then o_X12_window_48 F (nI k) (nI b) (nI o) s f' (nI (i + 1)) else some (.inr (nI i, s))) = some (.inr (y, s)) := fun fl hfl => by
      by_cases p : sfe (s.2.2 2) s.2.1 (Dr + C) B i o
      · rw [ifc_pos p] at hfl
        rw [hfl, ifc_pos ((sfe_same hB hD).mpr p), if_neg (by decide), if_neg (by decide)]
        exact Or.inr ⟨_, rfl, rfl⟩
      · rw [ifc_neg p] at hfl
        rw [hfl, ifc_neg (fun g => p ((sfe_same hB hD).mp g)), if_pos nI_0, if_pos nI_0]
        exact ih'
    match o, ho with
    | 0, _ =>
      rw [if_pos (show (nI 0 : Int32) = 0 from nI_0), o_of hk (by decide), o_berthOf hb (by decide)]
      simp only [Option.bind_some]
      rw [hbc, show s.2.1 (1212 + 18 * k + 4) = Dr from hdr, o_isSafe (o := 0) hF hc hB (by omega) (by decide)]
      simp only [Option.bind_some]
      exact fin _ rfl
    | 1, _ =>
      rw [if_neg (show ¬ (nI 1 : Int32) = 0 by decide), o_of hk (by decide), o_berthOf hb (by decide)]
      simp only [Option.bind_some]
      rw [hbc, show s.2.1 (1212 + 18 * k + 5) = Dr from hdr, o_isSafe (o := 1) hF hc hB (by omega) (by decide)]
      simp only [Option.bind_some]
      exact fin _ rfl
    | o + 2, h => exact absurd h (by omega)
theorem R_clr (h : RB τ n c 10 s.2.1) (hF : 21 ≤ F) : o_X12_clearance F s = some (lo s.2.1 (N (s.2.1 2811)) (nI 5) (nI 5)) := by
  unfold o_X12_clearance
  rw [h.lastS hF]
  rfl
theorem st17 (hF : 30000 ≤ F) (hI : LI τ n) (h : Rel τ n c s) : stp Rel F 17 x τ n c s := by
  show (∃ v c' s', o_X11_window F τ n 0 c (x 1) (x 2) (bz (x 3)) = some (.inl (v, c')) ∧ o_X12_window F s (x 1) (x 2) (bz (x 3)) = some (v, s') ∧ s'.1 0 = nI 0 ∧ Rel τ n c' s') ∨ _
  have n1 := h.b.n1211
  have n9 := h.b.n999
  have e1 : c.1 (0 + 37) 3 = nI (N (s.2.1 1211)) := (h.b.pl 1211 27 3 rfl).trans n1.1
  have e2 : c.1 (0 + 37) 1 = nI (N (s.2.1 999)) := (h.b.pl 999 27 1 rfl).trans n9.1
  have hb0 : RB τ n c 10 (pN s 0 (nI 0)).2.1 := h.b
  have h0 := h.pn (nI 0)
  unfold o_X11_window o_X12_window o_X12_noShip o_X12_noBerth
  rw [e1, e2, show gW (pN s 0 (nI 0)) (nI 1211) = nI (N (s.2.1 1211)) by rw [gW_pN, gW_n _ (by decide)]; exact n1.1, show gW (pN s 0 (nI 0)) (nI 999) = nI (N (s.2.1 999)) by rw [gW_pN, gW_n _ (by decide)]; exact n9.1]
  rcases ix (x 1) (N (s.2.1 1211)) (by omega) with ⟨t, ht, et, w1, r1⟩ | ⟨w1, r1⟩
  · rcases ix (x 2) (N (s.2.1 999)) (by omega) with ⟨b, hb, eb, w2, r2⟩ | ⟨w2, r2⟩
    · rw [et] at w1 r1 ⊢
      rw [eb] at w2 r2 ⊢
      have t80 : t < 80 := by omega
      simp only [w1, r1, w2, r2, Option.bind_some, Sum.elim_inl, z0, z1, if_true, if_false]
      rw [if_pos (iL_t t80 (by decide)), if_pos (iL_t (show b < 10 by omega) (by decide)), nI_clamp (by omega), nI_clamp (by omega), show 0 + 49 + 1 + t = 50 + t by omega, show 0 + 38 + 1 + b = 39 + b by omega, show (0 + 10 : Nat) = 10 from rfl]
      obtain ⟨s1, a1, a2, a3, a4, a5⟩ := o_looks (F := F) (s := pN s 0 (nI 0)) (by omega) hb0.rg
      have sy1 : Sy (pN s 0 (nI 0)) s1 := ⟨a2, fun j _ => by rw [a3], fun k hk => a4 k (by omega)⟩
      have s1v : s1.2.1 = s.2.1 := a2
      rw [a1]
      simp only [Option.bind_some]
      obtain ⟨p, b1, b2, b3, b4⟩ := hb0.lawNow (F := F) hI h.z (by omega)
      have lc := hb0.lastC (F := F) (kd := 5) (w := nI 5) hI h.z (by omega) (by decide) (by decide)
      rw [← b2] at lc
      obtain ⟨c1, d1, d2, d3, d4⟩ := o_fillD (F := F) (τ := τ) (n := n) (by omega) hb0.x
      have cz1 : Cz c c1 := ⟨fun a j h1 _ => by rw [d2 a (by omega)], d3⟩
      have hB0 := h.b.rg.nat (k := 1000 + 8 * b + 0) (hi := 23) (rg_b (f := 0) (show b < 10 by omega) (by decide))
      have hb39 : c.1 (39 + b) 0 = nI (N (s.2.1 (1000 + 8 * b + 0))) := by rw [← hB0.1, show 39 + b = 10 + 29 + b by omega]; exact h.b.ber b hb 0 (by decide)
      have hc1 : o_X12_clearance F s1 = some (lo s1.2.1 (N (s1.2.1 2811)) (nI 5) (nI 5)) := R_clr (c := c) (τ := τ) (n := n) (by rw [s1v]; exact h.b) (by omega)
      obtain ⟨ob, hob, eob⟩ := bz_z (x 3)
      have hour := h.b.n0
      have T1 : ∀ t, t < 25 → c1.1 15 t = s1.2.1 (73 + t) := fun t ht => by rw [d2 15 (by decide), s1v]; exact h.b.x.tid t ht
      have D1 : ∀ k, k < 24 → c1.1 178 k = s1.2.2 2 k := fun k hk => by rw [d4 k hk, a5 k hk]
      have wl := fun (Dr : Int32) (hdr : s1.2.1 (1212 + 18 * t + (4 + ob)) = Dr) => win_loop (F := F) (τ := τ) (n := n) (c := c1) (s := s1) (C := lo s1.2.1 (N (s1.2.1 2811)) (nI 5) (nI 5)) (Dr := Dr) (k := t) (b := b) (G := 50 + t) (B := N (s.2.1 (1000 + 8 * b + 0))) (H := N (s.2.1 0)) (o := ob) (by omega) hc1 T1 D1 (by omega) hour.2 (by omega) (by rw [d2 10 (by decide), ← hour.1]; exact h.b.pl 0 0 0 rfl) (by rw [s1v]; exact hour.1) t80 (by omega) (by rw [s1v]; exact hB0.1) hdr 50 (N (s.2.1 0) + 1) F F (by omega) (by omega) (by omega)
      unfold o_X2_firstSafeHour o_X12_hour
      rw [b1, hb39, eob, gW_n _ (by decide), s1v, hour.1]
      simp only [Option.bind_some]
      rw [if_pos b3, lc, nI_add]
      simp only [Option.bind_some]
      rw [d1]
      simp only [Option.bind_some]
      rw [show c1.1 10 0 = nI (N (s.2.1 0)) by rw [d2 10 (by decide), ← hour.1]; exact h.b.pl 0 0 0 rfl, nI_add]
      have e4 : c.1 (50 + t) 4 = s.2.1 (1212 + 18 * t + 4) := by rw [show 50 + t = 10 + 40 + t by omega]; exact h.b.shp t ht 4 4 rfl
      have e5 : c.1 (50 + t) 5 = s.2.1 (1212 + 18 * t + 5) := by rw [show 50 + t = 10 + 40 + t by omega]; exact h.b.shp t ht 5 5 rfl
      rw [e4, e5]
      have s10 := pN_sy sy1
      match ob, hob with
      | 0, _ =>
        rw [if_pos nI_0]
        rcases wl _ (by rw [s1v]) with ⟨g1, g2⟩ | ⟨yy, g1, g2⟩
        · rw [s1v] at g1
          have g1' : o_X2_firstSafeHour_39 F τ n 10 (50 + t) (nI (N (s.2.1 (1000 + 8 * b + 0)))) (nI 0) (s.2.1 (1212 + 18 * t + 4) + lo (pN s 0 (nI 0)).2.1 (N ((pN s 0 (nI 0)).2.1 2811)) (nI 5) (nI 5)) c1 F (nI (N (s.2.1 0) + 1)) = some (.inl ()) := g1
          rw [g1', g2]
          exact Or.inl ⟨_, _, _, rfl, rfl, s10, h0.sy hI cz1 sy1⟩
        · rw [s1v] at g1
          have g1' : o_X2_firstSafeHour_39 F τ n 10 (50 + t) (nI (N (s.2.1 (1000 + 8 * b + 0)))) (nI 0) (s.2.1 (1212 + 18 * t + 4) + lo (pN s 0 (nI 0)).2.1 (N ((pN s 0 (nI 0)).2.1 2811)) (nI 5) (nI 5)) c1 F (nI (N (s.2.1 0) + 1)) = some (.inr (yy, c1)) := g1
          rw [g1', g2]
          exact Or.inl ⟨_, _, _, rfl, rfl, s10, h0.sy hI cz1 sy1⟩
      | 1, _ =>
        rw [if_neg (show ¬ (nI 1 : Int32) = 0 by decide), if_pos b3]
        rcases wl _ (by rw [s1v]) with ⟨g1, g2⟩ | ⟨yy, g1, g2⟩
        · rw [s1v] at g1
          have g1' : o_X2_firstSafeHour_39 F τ n 10 (50 + t) (nI (N (s.2.1 (1000 + 8 * b + 0)))) (nI 1) (s.2.1 (1212 + 18 * t + 5) + lo (pN s 0 (nI 0)).2.1 (N ((pN s 0 (nI 0)).2.1 2811)) (nI 5) (nI 5)) c1 F (nI (N (s.2.1 0) + 1)) = some (.inl ()) := g1
          rw [g1', g2]
          exact Or.inl ⟨_, _, _, rfl, rfl, s10, h0.sy hI cz1 sy1⟩
        · rw [s1v] at g1
          have g1' : o_X2_firstSafeHour_39 F τ n 10 (50 + t) (nI (N (s.2.1 (1000 + 8 * b + 0)))) (nI 1) (s.2.1 (1212 + 18 * t + 5) + lo (pN s 0 (nI 0)).2.1 (N ((pN s 0 (nI 0)).2.1 2811)) (nI 5) (nI 5)) c1 F (nI (N (s.2.1 0) + 1)) = some (.inr (yy, c1)) := g1
          rw [g1', g2]
          exact Or.inl ⟨_, _, _, rfl, rfl, s10, h0.sy hI cz1 sy1⟩
      | ob + 2, h => exact absurd h (by omega)
    · simp only [w1, r1, w2, r2, Option.bind_some, z0, z1, if_true, if_false, Sum.elim_inl, Sum.elim_inr]
      exact Or.inr ⟨_, _, _, rfl, rfl, pN0 _ _, h.pn2 _ _⟩
  · simp only [w1, r1, Option.bind_some, z0, z1, if_true, if_false, Sum.elim_inr]
    exact Or.inr ⟨_, _, _, rfl, rfl, pN0 _ _, h.pn2 _ _⟩
end SAFE
