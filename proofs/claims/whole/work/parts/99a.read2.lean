/-! THE PURE LAYER: the things of a text, as the class finds them -/
section THG
variable {F : Nat} {τ : cT} {n : Nat} {T : Nat → Int32} {L k q b e : Nat} {c : cS}
/-- two signs hang together -/
def gon (x y : Int32) : Bool := (bw 97 122 x && bw 97 122 y) || (bw 48 57 x && bw 48 57 y)
/-- where a thing ends -/
def te (T : Nat → Int32) (L q : Nat) : Nat := ru (fun j => gon (T q) (T j)) (L - (q + 1)) (q + 1)
theorem te_le (hq : q < L) : q + 1 ≤ te T L q ∧ te T L q ≤ L := by
  have := ru_le (p := fun j => gon (T q) (T j)) (L - (q + 1)) (q + 1)
  unfold te
  omega
theorem ld {x : Int32} (h : bw 97 122 x = true) : bw 48 57 x = false := by
  obtain ⟨k, k1, k2, rfl⟩ := bw_n (by decide) (by decide) h
  exact bw_f (fun g => (bw_t.mp g).2 ((nI_ltI (by decide) (by omega)).mpr (by omega)))
theorem te_l (hq : q < L) (h : bw 97 122 (T q) = true) : te T L q = wd T L q := by
  unfold te wd
  rw [ru_y (p := fun j => bw 97 122 (T j)) hq h]
  exact ru_c _ _ (fun j _ _ => by show gon (T q) (T j) = bw 97 122 (T j); unfold gon; rw [h, ld h, Bool.true_and, Bool.false_and, Bool.or_false])
theorem te_d (hq : q < L) (h : bw 48 57 (T q) = true) : te T L q = dg T L q := by
  have hl : bw 97 122 (T q) = false := bw_f (fun g => by rw [ld g] at h; cases h)
  unfold te dg
  rw [ru_y (p := fun j => bw 48 57 (T j)) hq h]
  exact ru_c _ _ (fun j _ _ => by show gon (T q) (T j) = bw 48 57 (T j); unfold gon; rw [h, hl, Bool.true_and, Bool.false_and, Bool.false_or])
theorem te_s (h1 : ¬ bw 97 122 (T q) = true) (h2 : ¬ bw 48 57 (T q) = true) : te T L q = q + 1 := by
  unfold te
  refine ru_n (fun g => ?_)
  have : gon (T q) (T (q + 1)) = true := g
  unfold gon at this
  rw [bw_f h1, bw_f h2, Bool.false_and, Bool.false_and] at this
  cases this
theorem o_isL {x : Int32} : o_X7_isLetter τ n c x = some (if bw 97 122 x = true then nI 1 else nI 0) := by
  unfold o_X7_isLetter
  by_cases g1 : x < nI 97
  · rw [if_pos g1, if_neg (fun g => (bw_t.mp g).1 g1)]
  · rw [if_neg g1]
    by_cases g2 : nI 122 < x
    · rw [if_pos g2, if_neg (fun g => (bw_t.mp g).2 g2)]
    · rw [if_neg g2, if_pos (bw_t.mpr ⟨g1, g2⟩)]
theorem o_isD {x : Int32} : o_X7_isDigit τ n c x = some (if bw 48 57 x = true then nI 1 else nI 0) := by
  unfold o_X7_isDigit
  by_cases g1 : x < nI 48
  · rw [if_pos g1, if_neg (fun g => (bw_t.mp g).1 g1)]
  · rw [if_neg g1]
    by_cases g2 : nI 57 < x
    · rw [if_pos g2, if_neg (fun g => (bw_t.mp g).2 g2)]
    · rw [if_neg g2, if_pos (bw_t.mpr ⟨g1, g2⟩)]
theorem o_gon {x y : Int32} : o_X7_goesOn τ n c x y = some (if gon x y = true then nI 1 else nI 0) := by
  unfold o_X7_goesOn gon
  simp only [o_isL, o_isD, Option.bind_some]
  cases bw 97 122 x <;> cases bw 97 122 y <;> cases bw 48 57 x <;> cases bw 48 57 y <;> simp [z0, z1]
theorem f17 (hc : ∀ i, i < 400 → c.1 1 i = T i) (hL : L ≤ 400) (hb : b < L) : ∀ (r q f : Nat), q + r = L → r < f → o_X7_findThings_17 F τ n 0 1 (nI L) (nI b) c f (nI q) = some (nI (ru (fun j => gon (T b) (T j)) r q)) := by
  intro r
  induction r with
  | zero =>
    intro q f hq hf
    obtain ⟨f, rfl⟩ : ∃ x, f = x + 1 := ⟨f - 1, by omega⟩
    rw [o_X7_findThings_17, if_pos (nI_yes (by omega) (by omega) (by omega)), ru]
  | succ r ih =>
    intro q f hq hf
    obtain ⟨f, rfl⟩ : ∃ x, f = x + 1 := ⟨f - 1, by omega⟩
    rw [o_X7_findThings_17, if_neg (nI_no (by omega) (by omega) (by omega)), if_pos (iL_t (show b < 400 by omega) (by decide)), if_pos (iL_t (show q < 400 by omega) (by decide)), cg_n _ _ (by omega), cg_n _ _ (by omega), hc b (by omega), hc q (by omega), o_gon, Option.bind_some, ru]
    by_cases g : gon (T b) (T q) = true
    · rw [if_pos g, if_neg n10, if_pos g, nI_add]
      exact ih (q + 1) f (by omega) (by omega)
    · rw [if_neg g, if_pos nI_0, if_neg g]
theorem nm_loop (hc : ∀ i, i < 400 → c.1 1 i = T i) (he : e ≤ 400) : ∀ (r q f : Nat), b ≤ q → q + r = e → r < f → o_X7_numberOf_15 F τ n 1 (nI e) c f (vl T b (q - b)) (nI q) = some (vl T b (e - b)) := by
  intro r
  induction r with
  | zero =>
    intro q f hb hq hf
    obtain ⟨f, rfl⟩ : ∃ x, f = x + 1 := ⟨f - 1, by omega⟩
    rw [o_X7_numberOf_15, if_pos (nI_yes (by omega) (by omega) (by omega)), show q = e by omega]
  | succ r ih =>
    intro q f hb hq hf
    obtain ⟨f, rfl⟩ : ∃ x, f = x + 1 := ⟨f - 1, by omega⟩
    rw [o_X7_numberOf_15, if_neg (nI_no (by omega) (by omega) (by omega)), if_pos (iL_t (show q < 400 by omega) (by decide)), cg_n _ _ (by omega), hc q (by omega), nI_add, Int32.mul_comm]
    have := ih (q + 1) f (by omega) (by omega) (by omega)
    rw [show q + 1 - b = (q - b) + 1 by omega, vl, show b + (q - b) = q by omega] at this
    exact this
theorem o_nmo (hF : 401 < F) (hc : ∀ i, i < 400 → c.1 1 i = T i) (he : e ≤ 400) (hb : b ≤ e) : o_X7_numberOf F τ n 1 c (nI b) (nI e) = some (if e - b ≤ 6 then nI 1000 + vl T b (e - b) else -1) := by
  unfold o_X7_numberOf
  rw [nI_sub hb]
  by_cases g : e - b ≤ 6
  · have := nm_loop (F := F) (τ := τ) (n := n) hc he (e - b) b F (Nat.le_refl _) (by omega) (by omega)
    rw [Nat.sub_self, vl] at this
    rw [if_pos (nI_yes (by omega) (by decide) g), this, Option.bind_some, if_pos g]
  · rw [if_neg (nI_no (by omega) (by decide) (by omega)), if_neg g]
theorem vl_n : ∀ m, (∀ j, j < m → bw 48 57 (T (b + j)) = true) → m ≤ 6 → ∃ v, vl T b m = nI v ∧ v < 10 ^ m := by
  intro m
  induction m with
  | zero => intro _ _; exact ⟨0, rfl, by decide⟩
  | succ m ih =>
    intro h hm
    obtain ⟨v, v1, v2⟩ := ih (fun j hj => h j (by omega)) (by omega)
    obtain ⟨d, d1, d2, d3⟩ := bw_n (by decide) (by decide) (h m (by omega))
    refine ⟨10 * v + d - 48, ?_, ?_⟩
    · rw [vl, v1, d3, nI_mul, nI_add, nI_sub (by omega)]
    · rw [Nat.pow_succ]; omega
/-- the words' places: a row of the class, a place in it; how the class calls a word -/
def kc (r w : Nat) : Nat := if r = 7 then 14 + w else if r = 8 then [29, 30, 31, 32, 33, 34, 35, 23, 24, 36, 37, 38].getD w 0 else [22, 25, 27, 40, 39, 28, 26].getD w 0
def nr (r : Nat) : Nat := if r = 7 then 8 else if r = 8 then 12 else 7
def cd (i : Nat) : Nat := [200, 201, 202, 203, 204, 205, 206, 207, 400, 307, 308, 401, 406, 402, 405, 300, 301, 302, 303, 304, 305, 306, 309, 310, 311, 404, 403].getD (i - 14) 0
theorem kf1 : ∀ r, r < 10 → 7 ≤ r → sl r = 8 * nr r := by decide +kernel
theorem kf2 : ∀ r, r < 10 → 7 ≤ r → ∀ w, w < nr r → 14 ≤ kc r w ∧ kc r w < 41 ∧ sl (kc r w) < 8 ∧ cd (kc r w) = 100 * (r - 5) + w := by decide +kernel
theorem kf3 : ∀ r, r < 10 → 7 ≤ r → ∀ w, w < nr r → ∀ j, j < sl (kc r w) → sch r (8 * w + j) = sch (kc r w) j ∧ ¬ sch (kc r w) j = nI 32 := by decide +kernel
theorem kf4 : ∀ r, r < 10 → 7 ≤ r → ∀ w, w < nr r → sch r (8 * w + sl (kc r w)) = nI 32 := by decide +kernel
theorem kfW (r : Nat) (hr : r < 10) (h7 : 7 ≤ r) : sl r = 8 * nr r ∧ ∀ w, w < nr r → 14 ≤ kc r w ∧ kc r w < 41 ∧ sl (kc r w) < 8 ∧ cd (kc r w) = 100 * (r - 5) + w ∧ (∀ j, j < sl (kc r w) → sch r (8 * w + j) = sch (kc r w) j ∧ ¬ sch (kc r w) j = nI 32) ∧ sch r (8 * w + sl (kc r w)) = nI 32 := by
  refine ⟨kf1 r hr h7, fun w hw => ?_⟩
  obtain ⟨a1, a2, a3, a4⟩ := kf2 r hr h7 w hw
  exact ⟨a1, a2, a3, a4, kf3 r hr h7 w hw, kf4 r hr h7 w hw⟩
theorem cf1 : ∀ i, i < 41 → 14 ≤ i → 1 ≤ sl i ∧ 200 ≤ cd i ∧ cd i < 407 ∧ kc (cd i / 100 + 5) (cd i % 100) = i ∧ cd i % 100 < nr (cd i / 100 + 5) ∧ cd i / 100 + 5 < 10 := by decide +kernel
def sme (i i' : Nat) : Bool := decide (sl i = sl i') && (List.range (sl i)).all (fun j => decide (sch i j = sch i' j))
theorem cf2 : ∀ i, i < 41 → 14 ≤ i → ∀ i', i' < 41 → 14 ≤ i' → sme i i' = true → i = i' := by decide +kernel
theorem cf3 {i i' : Nat} (h1 : 14 ≤ i) (h2 : i < 41) (h3 : 14 ≤ i') (h4 : i' < 41) (h : cd i = cd i') : i = i' := by
  rw [← (cf1 i h2 h1).2.2.2.1, ← (cf1 i' h4 h3).2.2.2.1, h]
theorem eq_u {i i' : Nat} (h1 : 14 ≤ i) (h2 : i < 41) (h3 : 14 ≤ i') (h4 : i' < 41) {len : Nat} (h : eqw T b len i) (h' : eqw T b len i') : i = i' := by
  refine cf2 i h2 h1 i' h4 h3 ?_
  unfold sme
  rw [Bool.and_eq_true]
  refine ⟨decide_eq_true (h.1.symm.trans h'.1), List.all_eq_true.mpr (fun j hj => ?_)⟩
  have hj := List.mem_range.mp hj
  exact decide_eq_true ((h.2 j hj).symm.trans (h'.2 j (by rw [← h'.1, h.1]; exact hj)))
theorem p32 {r w : Nat} (hc : ∀ i, i < 400 → c.1 1 i = T i) (hr : r < 10) (hr7 : 7 ≤ r) (hw : w < nr r) (hb : b ≤ e) (he : e ≤ 400) (h8 : e - b < 8) : ∀ (m j f : Nat), j + m = e - b → m < f → o_X7_placeOf_32 F τ n r 1 (nI b) (nI (e - b)) (nI (8 * w)) c f (nI j) = some (nI (ru (fun i => decide (sch r (8 * w + i) = T (b + i))) m j)) := by
  have hs := (kfW r hr hr7).1
  have hn : nr r ≤ 12 := by unfold nr; split <;> (try split) <;> omega
  intro m
  induction m with
  | zero =>
    intro j f hj hf
    obtain ⟨f, rfl⟩ : ∃ x, f = x + 1 := ⟨f - 1, by omega⟩
    rw [o_X7_placeOf_32, if_pos (nI_yes (by omega) (by omega) (by omega)), ru]
  | succ m ih =>
    intro j f hj hf
    obtain ⟨f, rfl⟩ : ∃ x, f = x + 1 := ⟨f - 1, by omega⟩
    rw [o_X7_placeOf_32, if_neg (nI_no (by omega) (by omega) (by omega)), if_pos (show r < 41 by omega), nI_add, nI_add, nI_add, if_pos (iL_t (show 8 * w + j < sl r by omega) (by omega)), if_pos (iL_t (show b + j < 400 by omega) (by decide)), nI_clamp (by omega), cg_n _ _ (by omega), hc _ (by omega), ru]
    by_cases g : sch r (8 * w + j) = T (b + j)
    · rw [if_pos g, if_pos (decide_eq_true g)]
      exact ih (j + 1) f (by omega) (by omega)
    · rw [if_neg g, if_neg (fun q => g (of_decide_eq_true q))]
theorem p17 {r : Nat} (hF : 401 < F) (hc : ∀ i, i < 400 → c.1 1 i = T i) (hr : r < 10) (hr7 : 7 ≤ r) (hb : b < e) (he : e ≤ 400) (h8 : e - b < 8) (hl : ∀ j, b ≤ j → j < e → ¬ T j = nI 32) : ∀ (m w f : Nat), w + m = nr r → m < f → (∃ w', w ≤ w' ∧ w' < nr r ∧ eqw T b (e - b) (kc r w') ∧ o_X7_placeOf_17 F τ n r 1 (nI b) (nI (e - b)) c f (nI (8 * w)) = some (.inr (nI w'))) ∨ ((∀ w', w ≤ w' → w' < nr r → ¬ eqw T b (e - b) (kc r w')) ∧ o_X7_placeOf_17 F τ n r 1 (nI b) (nI (e - b)) c f (nI (8 * w)) = some (.inl ())) := by
  have hs := (kfW r hr hr7).1
  have hn : nr r ≤ 12 := by unfold nr; split <;> (try split) <;> omega
  intro m
  induction m with
  | zero =>
    intro w f hw hf
    obtain ⟨f, rfl⟩ : ∃ x, f = x + 1 := ⟨f - 1, by omega⟩
    refine Or.inr ⟨fun w' h1 h2 => by omega, ?_⟩
    rw [o_X7_placeOf_17, if_pos (show r < 41 by omega), nI_add, if_pos ((nI_ltI (by omega) (by omega)).mpr (by omega))]
  | succ m ih =>
    intro w f hw hf
    obtain ⟨f, rfl⟩ : ∃ x, f = x + 1 := ⟨f - 1, by omega⟩
    have wn : w < nr r := by omega
    obtain ⟨k1, k2, k3, k4, k5, k6⟩ := (kfW r hr hr7).2 w wn
    have rl := ru_le (p := fun i => decide (sch r (8 * w + i) = T (b + i))) (e - b) 0
    have key : eqw T b (e - b) (kc r w) ↔ ru (fun i => decide (sch r (8 * w + i) = T (b + i))) (e - b) 0 = e - b ∧ sch r (8 * w + (e - b)) = nI 32 := by
      constructor
      · intro h
        refine ⟨?_, by rw [h.1]; exact k6⟩
        rcases ru_at (p := fun i => decide (sch r (8 * w + i) = T (b + i))) (e - b) 0 with g | g
        · rw [g, Nat.zero_add]
        · rcases Nat.lt_or_ge (ru (fun i => decide (sch r (8 * w + i) = T (b + i))) (e - b) 0) (e - b) with g2 | g2
          · refine absurd (decide_eq_true ?_) g
            rw [(k5 _ (by rw [← h.1]; exact g2)).1, h.2 _ (by rw [← h.1]; exact g2)]
          · omega
      · intro ⟨h1, h2⟩
        have all : ∀ j, j < e - b → sch r (8 * w + j) = T (b + j) := fun j hj => of_decide_eq_true (ru_in (p := fun i => decide (sch r (8 * w + i) = T (b + i))) (e - b) 0 j (Nat.zero_le _) (by rw [h1]; exact hj))
        have hlen : e - b = sl (kc r w) := by
          rcases Nat.lt_trichotomy (e - b) (sl (kc r w)) with g | g | g
          · exact absurd ((k5 _ g).1.symm.trans h2) (k5 _ g).2
          · exact g
          · exact absurd ((all _ g).symm.trans k6) (hl _ (by omega) (by omega))
        exact ⟨hlen, fun j hj => by rw [← (k5 j hj).1]; exact (all j (by omega)).symm⟩
    have go : ¬ eqw T b (e - b) (kc r w) → o_X7_placeOf_17 F τ n r 1 (nI b) (nI (e - b)) c (f + 1) (nI (8 * w)) = o_X7_placeOf_17 F τ n r 1 (nI b) (nI (e - b)) c f (nI (8 * (w + 1))) → (∃ w', w ≤ w' ∧ w' < nr r ∧ eqw T b (e - b) (kc r w') ∧ o_X7_placeOf_17 F τ n r 1 (nI b) (nI (e - b)) c (f + 1) (nI (8 * w)) = some (.inr (nI w'))) ∨ ((∀ w', w ≤ w' → w' < nr r → ¬ eqw T b (e - b) (kc r w')) ∧ o_X7_placeOf_17 F τ n r 1 (nI b) (nI (e - b)) c (f + 1) (nI (8 * w)) = some (.inl ())) := fun hne hs => by
      rcases ih (w + 1) f (by omega) (by omega) with ⟨w', h1, h2, h3, h4⟩ | ⟨h1, h2⟩
      · exact Or.inl ⟨w', by omega, h2, h3, by rw [hs]; exact h4⟩
      · refine Or.inr ⟨fun w' g1 g2 => ?_, by rw [hs]; exact h2⟩
        by_cases e2 : w' = w
        · subst e2; exact hne
        · exact h1 w' (by omega) g2
    have st : o_X7_placeOf_17 F τ n r 1 (nI b) (nI (e - b)) c (f + 1) (nI (8 * w)) = if nI (ru (fun i => decide (sch r (8 * w + i) = T (b + i))) (e - b) 0) = nI (e - b) then (if sch r (8 * w + (e - b)) = nI 32 then some (.inr (nI (8 * w) / nI 8)) else o_X7_placeOf_17 F τ n r 1 (nI b) (nI (e - b)) c f (nI (8 * (w + 1)))) else o_X7_placeOf_17 F τ n r 1 (nI b) (nI (e - b)) c f (nI (8 * (w + 1))) := by
      rw [o_X7_placeOf_17, if_pos (show r < 41 by omega), nI_add, if_neg (fun g => absurd ((nI_ltI (by omega) (by omega)).mp g) (by omega)), p32 hc hr hr7 wn (by omega) he h8 (e - b) 0 F (Nat.zero_add _) (by omega), Option.bind_some, nI_add, if_pos (iL_t (show 8 * w + (e - b) < sl r by omega) (by omega)), nI_clamp (by omega), show 8 * w + 8 = 8 * (w + 1) by omega]
    by_cases g1 : ru (fun i => decide (sch r (8 * w + i) = T (b + i))) (e - b) 0 = e - b
    · by_cases g2 : sch r (8 * w + (e - b)) = nI 32
      · refine Or.inl ⟨w, Nat.le_refl _, wn, key.mpr ⟨g1, g2⟩, ?_⟩
        rw [st, if_pos (by rw [g1]), if_pos g2, nI_divN (by omega) (by decide), show 8 * w / 8 = w by omega]
      · exact go (fun h => g2 (key.mp h).2) (by rw [st, if_pos (by rw [g1]), if_neg g2])
    · exact go (fun h => g1 (key.mp h).1) (by rw [st, if_neg (nI_inj (by omega) (by omega) g1)])
theorem o_plc {r : Nat} (hF : 401 < F) (hc : ∀ i, i < 400 → c.1 1 i = T i) (hr : r < 10) (hr7 : 7 ≤ r) (hb : b < e) (he : e ≤ 400) (hl : ∀ j, b ≤ j → j < e → ¬ T j = nI 32) : (∃ w, w < nr r ∧ eqw T b (e - b) (kc r w) ∧ o_X7_placeOf F τ n r 1 c (nI b) (nI e) = some (nI w)) ∨ ((∀ w, w < nr r → ¬ eqw T b (e - b) (kc r w)) ∧ o_X7_placeOf F τ n r 1 c (nI b) (nI e) = some (-1)) := by
  have hn : nr r ≤ 12 := by unfold nr; split <;> (try split) <;> omega
  unfold o_X7_placeOf
  rw [nI_sub (by omega)]
  by_cases h8 : e - b < 8
  · rw [if_pos ((nI_ltI (by omega) (by decide)).mpr h8)]
    rcases p17 (F := F) (τ := τ) (n := n) hF hc hr hr7 hb he h8 hl (nr r) 0 F (Nat.zero_add _) (by omega) with ⟨w, h1, h2, h3, h4⟩ | ⟨h1, h2⟩
    · refine Or.inl ⟨w, h2, h3, ?_⟩
      rw [show (nI 0 : Int32) = nI (8 * 0) from rfl, h4]; rfl
    · refine Or.inr ⟨fun w hw => h1 w (Nat.zero_le _) hw, ?_⟩
      rw [show (nI 0 : Int32) = nI (8 * 0) from rfl, h2]; rfl
  · rw [if_neg (fun g => h8 ((nI_ltI (by omega) (by decide)).mp g))]
    refine Or.inr ⟨fun w hw h => ?_, rfl⟩
    have := ((kfW r hr hr7).2 w hw).2.2.1
    have := h.1
    omega
/-- what a word is called -/
def WS (T : Nat → Int32) (b len : Nat) (x : Int32) : Prop := (∀ i, 14 ≤ i → i < 41 → (x = nI (cd i) ↔ eqw T b len i)) ∧ (x = -1 ∨ ∃ i, 14 ≤ i ∧ i < 41 ∧ x = nI (cd i))
theorem ws_i {len i : Nat} (h1 : 14 ≤ i) (h2 : i < 41) (h : eqw T b len i) : WS T b len (nI (cd i)) := by
  refine ⟨fun i' g1 g2 => ⟨fun g => ?_, fun g => ?_⟩, Or.inr ⟨i, h1, h2, rfl⟩⟩
  · have a1 := cf1 i h2 h1
    have a2 := cf1 i' g2 g1
    have : cd i = cd i' := (nI_eq (by omega) (by omega)).mp g
    rw [← cf3 h1 h2 g1 g2 this]; exact h
  · rw [eq_u g1 g2 h1 h2 g h]
theorem o_wof (hF : 401 < F) (hc : ∀ i, i < 400 → c.1 1 i = T i) (hb : b < e) (he : e ≤ 400) (hl : ∀ j, b ≤ j → j < e → ¬ T j = nI 32) : ∃ x, o_X7_wordOf F τ n 1 c (nI b) (nI e) = some x ∧ WS T b (e - b) x := by
  unfold o_X7_wordOf
  rcases o_plc (F := F) (τ := τ) (n := n) (r := 7) hF hc (by decide) (by decide) hb he hl with ⟨w, h1, h2, h3⟩ | ⟨h1, h3⟩
  · obtain ⟨k1, k2, k3, k4, _⟩ := (kfW 7 (by decide) (by decide)).2 w h1
    have w8 : w < 8 := h1
    rw [h3, Option.bind_some, if_neg (nI_nm1 (by omega)), nI_add]
    exact ⟨_, rfl, by rw [show 200 + w = cd (kc 7 w) by rw [k4]]; exact ws_i k1 k2 h2⟩
  · rw [h3, Option.bind_some, if_pos rfl]
    rcases o_plc (F := F) (τ := τ) (n := n) (r := 8) hF hc (by decide) (by decide) hb he hl with ⟨w, g1, g2, g3⟩ | ⟨g1, g3⟩
    · obtain ⟨k1, k2, k3, k4, _⟩ := (kfW 8 (by decide) (by decide)).2 w g1
      have w8 : w < 12 := g1
      rw [g3, Option.bind_some, if_neg (nI_nm1 (by omega)), nI_add]
      exact ⟨_, rfl, by rw [show 300 + w = cd (kc 8 w) by rw [k4]]; exact ws_i k1 k2 g2⟩
    · rw [g3, Option.bind_some, if_pos rfl]
      rcases o_plc (F := F) (τ := τ) (n := n) (r := 9) hF hc (by decide) (by decide) hb he hl with ⟨w, f1, f2, f3⟩ | ⟨f1, f3⟩
      · obtain ⟨k1, k2, k3, k4, _⟩ := (kfW 9 (by decide) (by decide)).2 w f1
        have w8 : w < 7 := f1
        rw [f3, Option.bind_some, if_neg (nI_nm1 (by omega)), nI_add]
        exact ⟨_, rfl, by rw [show 400 + w = cd (kc 9 w) by rw [k4]]; exact ws_i k1 k2 f2⟩
      · rw [f3, Option.bind_some, if_pos rfl]
        refine ⟨_, rfl, fun i i1 i2 => ⟨fun g => absurd g.symm (nI_nm1 (by have := cf1 i i2 i1; omega)), fun g => ?_⟩, Or.inl rfl⟩
        obtain ⟨c1, c2, c3, c4, c5, c6⟩ := cf1 i i2 i1
        rw [← c4] at g
        have c7 : cd i / 100 + 5 = 7 ∨ cd i / 100 + 5 = 8 ∨ cd i / 100 + 5 = 9 := by omega
        rcases c7 with c7 | c7 | c7
        · rw [c7] at g c5; exact absurd g (h1 _ c5)
        · rw [c7] at g c5; exact absurd g (g1 _ c5)
        · rw [c7] at g c5; exact absurd g (f1 _ c5)
/-- what a thing is called -/
def tko (T : Nat → Int32) (L b : Nat) (x : Int32) : Prop := (bw 97 122 (T b) = true → WS T b (wd T L b - b) x) ∧ (bw 48 57 (T b) = true → x = if dg T L b - b ≤ 6 then nI 1000 + vl T b (dg T L b - b) else -1) ∧ (¬ bw 97 122 (T b) = true → ¬ bw 48 57 (T b) = true → ((T b = nI 59 ∨ T b = nI 40 ∨ T b = nI 41 ∨ T b = nI 60 ∨ T b = nI 62) ∧ x = T b) ∨ (¬ (T b = nI 59 ∨ T b = nI 40 ∨ T b = nI 41 ∨ T b = nI 60 ∨ T b = nI 62) ∧ x = -1))
theorem o_tho (hF : 401 < F) (hc : ∀ i, i < 400 → c.1 1 i = T i) (hL : L ≤ 400) (hb : b < L) : ∃ x, o_X7_thingOf F τ n 1 c (nI b) (nI (te T L b)) = some x ∧ tko T L b x := by
  have tl := te_le (T := T) hb
  unfold o_X7_thingOf
  rw [if_pos (iL_t (show b < 400 by omega) (by decide)), cg_n _ _ (by omega), hc b (by omega), o_isL, Option.bind_some]
  by_cases g : bw 97 122 (T b) = true
  · have gd := ld g
    have el := te_l hb g
    rw [if_pos g, if_neg n10]
    obtain ⟨x, x1, x2⟩ := o_wof (F := F) (τ := τ) (n := n) (b := b) (e := te T L b) hF hc (by omega) (by omega) (fun j h1 h2 h3 => by
      rw [el] at h2
      have := ru_in (p := fun j => bw 97 122 (T j)) (L - b) b j h1 h2
      have t := (bw_t.mp this).1
      rw [h3] at t
      exact t (by decide))
    rw [x1, Option.bind_some]
    exact ⟨x, rfl, (fun _ => by rw [← el]; exact x2), (fun h => by rw [gd] at h; cases h), fun h => absurd g h⟩
  · rw [if_neg g, if_pos nI_0, o_isD, Option.bind_some]
    by_cases gd : bw 48 57 (T b) = true
    · have ed := te_d hb gd
      rw [if_pos gd, if_neg n10, o_nmo hF hc (by omega) (by omega), Option.bind_some]
      exact ⟨_, rfl, fun h => absurd h g, fun _ => by rw [ed], fun _ h => absurd gd h⟩
    · rw [if_neg gd, if_pos nI_0]
      by_cases q1 : T b = nI 59
      · rw [if_pos q1]; exact ⟨_, rfl, fun h => absurd h g, fun h => absurd h gd, fun _ _ => Or.inl ⟨Or.inl q1, rfl⟩⟩
      · rw [if_neg q1]
        by_cases q2 : T b = nI 40
        · rw [if_pos q2]; exact ⟨_, rfl, fun h => absurd h g, fun h => absurd h gd, fun _ _ => Or.inl ⟨Or.inr (Or.inl q2), rfl⟩⟩
        · rw [if_neg q2]
          by_cases q3 : T b = nI 41
          · rw [if_pos q3]; exact ⟨_, rfl, fun h => absurd h g, fun h => absurd h gd, fun _ _ => Or.inl ⟨Or.inr (Or.inr (Or.inl q3)), rfl⟩⟩
          · rw [if_neg q3]
            by_cases q4 : T b = nI 60
            · rw [if_pos q4]; exact ⟨_, rfl, fun h => absurd h g, fun h => absurd h gd, fun _ _ => Or.inl ⟨Or.inr (Or.inr (Or.inr (Or.inl q4))), rfl⟩⟩
            · rw [if_neg q4]
              by_cases q5 : T b = nI 62
              · rw [if_pos q5]; exact ⟨_, rfl, fun h => absurd h g, fun h => absurd h gd, fun _ _ => Or.inl ⟨Or.inr (Or.inr (Or.inr (Or.inr q5))), rfl⟩⟩
              · rw [if_neg q5]
                exact ⟨_, rfl, fun h => absurd h g, fun h => absurd h gd, fun _ _ => Or.inr ⟨fun h => by
                  rcases h with h | h | h | h | h
                  · exact q1 h
                  · exact q2 h
                  · exact q3 h
                  · exact q4 h
                  · exact q5 h, rfl⟩⟩
end THG
