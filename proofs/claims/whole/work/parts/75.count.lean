/-! THE PURE LAYER: count (by program wip/whole/cntdec.py) -/
section CNT
variable {F : Nat} {x : Nat → Int32} {τ : cT} {n k i m : Nat} {c : cS} {s : rs_S} {v : Nat → Int32}
theorem st_loop {a b : Nat} (hab : (a = 5 ∧ b = 0) ∨ (a = 6 ∧ b = 4)) (h : RB τ n c 10 s.2.1) : ∀ (r i f f' : Nat) (y : Int32), i + r = N (s.2.1 1211) → r < f → r < f' → ∃ z, o_X5_countInState_4 F τ n 10 (nI b) c f y (nI i) = some z ∧ o_X12_count_155 F (nI a) s f' y (nI i) = some z := by
  have hm := h.n1211
  have e1 : c.1 (10 + 27) 3 = nI (N (s.2.1 1211)) := (h.pl 1211 27 3 rfl).trans hm.1
  have e2 : gW s (nI 1211) = nI (N (s.2.1 1211)) := by rw [gW_n _ (by decide)]; exact hm.1
  intro r
  induction r with
  | zero =>
    intro i f f' y hi hf hf'
    obtain ⟨f, rfl⟩ : ∃ x, f = x + 1 := ⟨f - 1, by omega⟩
    obtain ⟨f', rfl⟩ : ∃ x, f' = x + 1 := ⟨f' - 1, by omega⟩
    rw [o_X5_countInState_4, o_X12_count_155, e2, e1, if_pos (nI_yes (by omega) (by omega) (by omega)), if_pos (nI_yes (by omega) (by omega) (by omega))]
    exact ⟨y, rfl, rfl⟩
  | succ r ih =>
    intro i f f' y hi hf hf'
    obtain ⟨f, rfl⟩ : ∃ x, f = x + 1 := ⟨f - 1, by omega⟩
    obtain ⟨f', rfl⟩ : ∃ x, f' = x + 1 := ⟨f' - 1, by omega⟩
    rw [o_X5_countInState_4, o_X12_count_155, e2, e1, if_neg (nI_no (by omega) (by omega) (by omega)), if_neg (nI_no (by omega) (by omega) (by omega)), if_pos (iL_t (show i < 80 by omega) (by decide)), nI_clamp (by omega), o_of (show i < 80 by omega) (show 9 < 18 by decide), Option.bind_some, show c.1 (10 + 39 + 1 + i) 10 = s.2.1 (1212 + 18 * i + 9) from h.shp i (by omega) 10 9 rfl, nI_add]
    have i1 := ih (i + 1) f f' (y + nI 1) (by omega) (by omega) (by omega)
    have i0 := ih (i + 1) f f' y (by omega) (by omega) (by omega)
    rw [show y + nI 0 = y from Int32.add_zero y]
    rcases hab with ⟨ha, hb⟩ | ⟨ha, hb⟩
    · rw [ha, hb] at i1 i0 ⊢
      rw [if_pos (show (nI 5 : Int32) = nI 5 from rfl)]
      by_cases q : s.2.1 (1212 + 18 * i + 9) = nI 0
      · rw [if_pos q, if_pos q]; exact i1
      · rw [if_neg q, if_neg q]; exact i0
    · rw [ha, hb] at i1 i0 ⊢
      rw [if_neg (show ¬ (nI 6 : Int32) = nI 5 by decide)]
      by_cases q : s.2.1 (1212 + 18 * i + 9) = nI 4
      · rw [if_pos q, if_pos q]; exact i1
      · rw [if_neg q, if_neg q]; exact i0
theorem ld_loop (h : RB τ n c 10 s.2.1) : ∀ (r i f f' : Nat) (y : Int32), i + r = N (s.2.1 999) → r < f → r < f' → ∃ z, o_X5_loadOfAll_4 F τ n 10 c f y (nI i) = some z ∧ o_X12_count_210 F s f' y (nI i) = some z := by
  have hm := h.n999
  have e1 : c.1 (10 + 27) 1 = nI (N (s.2.1 999)) := (h.pl 999 27 1 rfl).trans hm.1
  have e2 : gW s (nI 999) = nI (N (s.2.1 999)) := by rw [gW_n _ (by decide)]; exact hm.1
  intro r
  induction r with
  | zero =>
    intro i f f' y hi hf hf'
    obtain ⟨f, rfl⟩ : ∃ x, f = x + 1 := ⟨f - 1, by omega⟩
    obtain ⟨f', rfl⟩ : ∃ x, f' = x + 1 := ⟨f' - 1, by omega⟩
    rw [o_X5_loadOfAll_4, o_X12_count_210, e2, e1, if_pos (nI_yes (by omega) (by omega) (by omega)), if_pos (nI_yes (by omega) (by omega) (by omega))]
    exact ⟨y, rfl, rfl⟩
  | succ r ih =>
    intro i f f' y hi hf hf'
    obtain ⟨f, rfl⟩ : ∃ x, f = x + 1 := ⟨f - 1, by omega⟩
    obtain ⟨f', rfl⟩ : ∃ x, f' = x + 1 := ⟨f' - 1, by omega⟩
    rw [o_X5_loadOfAll_4, o_X12_count_210, e2, e1, if_neg (nI_no (by omega) (by omega) (by omega)), if_neg (nI_no (by omega) (by omega) (by omega)), if_pos (iL_t (show i < 10 by omega) (by decide)), nI_clamp (by omega), o_berthOf (show i < 10 by omega) (show 4 < 8 by decide), Option.bind_some, show c.1 (10 + 28 + 1 + i) 4 = s.2.1 (1000 + 8 * i + 4) from h.ber i (by omega) 4 (by decide), nI_add]
    exact ih (i + 1) f f' _ (by omega) (by omega) (by omega)
theorem tc_loop (h : RB τ n c 10 v) : ∀ (r i f : Nat), i + r = N (v 1211) → r < f → o_X5_countTouches_4 F τ n 10 c f (tcs v i) (nI i) = some (tcs v (N (v 1211))) := by
  have hm := h.n1211
  have e1 : c.1 (10 + 27) 3 = nI (N (v 1211)) := (h.pl 1211 27 3 rfl).trans hm.1
  intro r
  induction r with
  | zero =>
    intro i f hi hf
    obtain ⟨f, rfl⟩ : ∃ x, f = x + 1 := ⟨f - 1, by omega⟩
    rw [o_X5_countTouches_4, e1, if_pos (nI_yes (by omega) (by omega) (by omega)), show i = N (v 1211) by omega]
  | succ r ih =>
    intro i f hi hf
    obtain ⟨f, rfl⟩ : ∃ x, f = x + 1 := ⟨f - 1, by omega⟩
    rw [o_X5_countTouches_4, e1, if_neg (nI_no (by omega) (by omega) (by omega)), if_pos (iL_t (show i < 80 by omega) (by decide)), nI_clamp (by omega), show c.1 (10 + 39 + 1 + i) 18 = v (1212 + 18 * i + 16) from h.shp i (by omega) 18 16 rfl, nI_add]
    exact ih (i + 1) f (by omega) (by omega)
theorem wk_o {i j : Nat} (hi : i < 20) (hj : j < 6) : wk (2666 + 6 * i + j) = some (125 + j, i) := by
  have h : ∀ i, i < 20 → ∀ j, j < 6 → wk (2666 + 6 * i + j) = some (125 + j, i) := by decide +kernel
  exact h i hi j hj
theorem o_bondOf {k f : Nat} (hk : k < 20) (hf : f < 6) : o_X12_bondOf s (nI k) (nI f) = some (s.2.1 (2666 + 6 * k + f)) := by
  unfold o_X12_bondOf o_X12_bondAt
  simp only [Option.bind_some, nI_mul, nI_add]
  rw [if_pos (iL_t (show 2666 + 6 * k + f < 22216 by omega) (by decide)), gW_n _ (by omega)]
theorem ow_loop (h : RB τ n c 10 s.2.1) : ∀ (r i f f' : Nat) (y : Int32), i + r = N (s.2.1 2665) → r < f → r < f' → ∃ z, o_X6_owedInAll_4 F τ n 10 c f y (nI i) = some z ∧ o_X12_count_353 F s f' y (nI i) = some z := by
  have hm := h.n2665
  have e1 : c.1 (10 + 121) 13 = nI (N (s.2.1 2665)) := (h.pl 2665 121 13 rfl).trans hm.1
  have e2 : gW s (nI 2665) = nI (N (s.2.1 2665)) := by rw [gW_n _ (by decide)]; exact hm.1
  intro r
  induction r with
  | zero =>
    intro i f f' y hi hf hf'
    obtain ⟨f, rfl⟩ : ∃ x, f = x + 1 := ⟨f - 1, by omega⟩
    obtain ⟨f', rfl⟩ : ∃ x, f' = x + 1 := ⟨f' - 1, by omega⟩
    rw [o_X6_owedInAll_4, o_X12_count_353, e2, e1, if_pos (nI_yes (by omega) (by omega) (by omega)), if_pos (nI_yes (by omega) (by omega) (by omega))]
    exact ⟨y, rfl, rfl⟩
  | succ r ih =>
    intro i f f' y hi hf hf'
    obtain ⟨f, rfl⟩ : ∃ x, f = x + 1 := ⟨f - 1, by omega⟩
    obtain ⟨f', rfl⟩ : ∃ x, f' = x + 1 := ⟨f' - 1, by omega⟩
    rw [o_X6_owedInAll_4, o_X12_count_353, e2, e1, if_neg (nI_no (by omega) (by omega) (by omega)), if_neg (nI_no (by omega) (by omega) (by omega)), if_pos (iL_t (show i < 20 by omega) (by decide)), cg_n _ _ (by omega), o_bondOf (show i < 20 by omega) (show 4 < 6 by decide), Option.bind_some, show c.1 (10 + 129) i = s.2.1 (2666 + 6 * i + 4) from h.pl _ _ _ (wk_o (j := 4) (show i < 20 by omega) (by decide)), nI_add]
    exact ih (i + 1) f f' _ (by omega) (by omega) (by omega)
theorem sc_loop {q B : Nat} (hB : B < 100) (hc : ∀ i, i < 24 → c.1 q i = s.2.1 (B + i)) : ∀ (r i f f' : Nat) (y : Int32), i + r = 24 → r < f → r < f' → ∃ z, o_X11_sumOf_4 F τ n q c f y (nI i) = some z ∧ o_X12_sumCells_4 F (nI B) s f' y (nI i) = some z := by
  intro r
  induction r with
  | zero =>
    intro i f f' y hi hf hf'
    obtain ⟨f, rfl⟩ : ∃ x, f = x + 1 := ⟨f - 1, by omega⟩
    obtain ⟨f', rfl⟩ : ∃ x, f' = x + 1 := ⟨f' - 1, by omega⟩
    rw [o_X11_sumOf_4, o_X12_sumCells_4, if_pos (nI_yes (by omega) (by omega) (by omega)), if_pos (nI_yes (by omega) (by omega) (by omega))]
    exact ⟨y, rfl, rfl⟩
  | succ r ih =>
    intro i f f' y hi hf hf'
    obtain ⟨f, rfl⟩ : ∃ x, f = x + 1 := ⟨f - 1, by omega⟩
    obtain ⟨f', rfl⟩ : ∃ x, f' = x + 1 := ⟨f' - 1, by omega⟩
    rw [o_X11_sumOf_4, o_X12_sumCells_4, if_neg (nI_no (by omega) (by omega) (by omega)), if_neg (nI_no (by omega) (by omega) (by omega)), if_pos (iL_t (show i < 24 by omega) (by decide)), nI_add B i, if_pos (iL_t (show B + i < 22216 by omega) (by decide)), cg_n _ _ (by omega), gW_n _ (by omega), hc i (by omega), nI_add]
    exact ih (i + 1) f f' _ (by omega) (by omega) (by omega)
theorem fp8 (y : Int32) (hF : 9 ≤ F) : o_X12_freePilots_4 F s F y (nI 0) = some (y + s.2.1 1082 + s.2.1 1083 + s.2.1 1084 + s.2.1 1085 + s.2.1 1086 + s.2.1 1087 + s.2.1 1088 + s.2.1 1089) := by
  obtain ⟨f, rfl⟩ : ∃ x, F = x + 9 := ⟨F - 9, by omega⟩
  have st : ∀ (f k : Nat) (y : Int32), k < 8 → o_X12_freePilots_4 (f + 9) s (f + 1) y (nI k) = o_X12_freePilots_4 (f + 9) s f (y + s.2.1 (1082 + k)) (nI (k + 1)) := fun f k y hk => by
    rw [o_X12_freePilots_4, if_neg (nI_no (by decide) (by omega) (by omega)), nI_add, if_pos (iL_t (show 1082 + k < 22216 by omega) (by decide)), gW_n _ (by omega), nI_add]
  have go : ∀ (G f k : Nat) (y : Int32), k < 8 → o_X12_freePilots_4 G s (f + 1) y (nI k) = o_X12_freePilots_4 G s f (y + s.2.1 (1082 + k)) (nI (k + 1)) := fun G f k y hk => by
    rw [o_X12_freePilots_4, if_neg (nI_no (by decide) (by omega) (by omega)), nI_add, if_pos (iL_t (show 1082 + k < 22216 by omega) (by decide)), gW_n _ (by omega), nI_add]
  rw [go _ (f + 8) 0 _ (by decide), go _ (f + 7) 1 _ (by decide), go _ (f + 6) 2 _ (by decide), go _ (f + 5) 3 _ (by decide), go _ (f + 4) 4 _ (by decide), go _ (f + 3) 5 _ (by decide), go _ (f + 2) 6 _ (by decide), go _ (f + 1) 7 _ (by decide)]
  rw [o_X12_freePilots_4, if_pos (nI_yes (by decide) (by decide) (by decide))]
theorem rot8 (v : Nat → Int32) (hz : ∀ e, 4 ≤ e → e < 8 → bz8 v e = 0) : nI 0 + v 1082 + v 1083 + v 1084 + v 1085 + v 1086 + v 1087 + v 1088 + v 1089 = bz8 v 0 + bz8 v 1 + bz8 v 2 + bz8 v 3 := by
  have e8 : ∀ e, bz8 v e = v (1082 + (N (v 0) % 8 + e) % 8) := fun e => by unfold bz8; rw [show (N (v 0) + e) % 8 = (N (v 0) % 8 + e) % 8 by omega]
  have hr : N (v 0) % 8 < 8 := Nat.mod_lt _ (by decide)
  have z4 := hz 4 (by decide) (by decide)
  have z5 := hz 5 (by decide) (by decide)
  have z6 := hz 6 (by decide) (by decide)
  have z7 := hz 7 (by decide) (by decide)
  rw [e8] at z4 z5 z6 z7
  rw [e8, e8, e8, e8]
  generalize N (v 0) % 8 = r at *
  rw [show (nI 0 : Int32) = 0 from rfl]
  match r, hr with
  | 0, _ =>
    have y4 : v 1086 = 0 := z4
    have y5 : v 1087 = 0 := z5
    have y6 : v 1088 = 0 := z6
    have y7 : v 1089 = 0 := z7
    rw [y4, y5, y6, y7]
    show _ = v 1082 + v 1083 + v 1084 + v 1085
    simp only [Int32.add_zero, Int32.zero_add]
  | 1, _ =>
    have y4 : v 1087 = 0 := z4
    have y5 : v 1088 = 0 := z5
    have y6 : v 1089 = 0 := z6
    have y7 : v 1082 = 0 := z7
    rw [y4, y5, y6, y7]
    show _ = v 1083 + v 1084 + v 1085 + v 1086
    simp only [Int32.add_zero, Int32.zero_add]
    try ac_rfl
  | 2, _ =>
    have y4 : v 1088 = 0 := z4
    have y5 : v 1089 = 0 := z5
    have y6 : v 1082 = 0 := z6
    have y7 : v 1083 = 0 := z7
    rw [y4, y5, y6, y7]
    show _ = v 1084 + v 1085 + v 1086 + v 1087
    simp only [Int32.add_zero, Int32.zero_add]
    try ac_rfl
  | 3, _ =>
    have y4 : v 1089 = 0 := z4
    have y5 : v 1082 = 0 := z5
    have y6 : v 1083 = 0 := z6
    have y7 : v 1084 = 0 := z7
    rw [y4, y5, y6, y7]
    show _ = v 1085 + v 1086 + v 1087 + v 1088
    simp only [Int32.add_zero, Int32.zero_add]
    try ac_rfl
  | 4, _ =>
    have y4 : v 1082 = 0 := z4
    have y5 : v 1083 = 0 := z5
    have y6 : v 1084 = 0 := z6
    have y7 : v 1085 = 0 := z7
    rw [y4, y5, y6, y7]
    show _ = v 1086 + v 1087 + v 1088 + v 1089
    simp only [Int32.add_zero, Int32.zero_add]
    try ac_rfl
  | 5, _ =>
    have y4 : v 1083 = 0 := z4
    have y5 : v 1084 = 0 := z5
    have y6 : v 1085 = 0 := z6
    have y7 : v 1086 = 0 := z7
    rw [y4, y5, y6, y7]
    show _ = v 1087 + v 1088 + v 1089 + v 1082
    simp only [Int32.add_zero, Int32.zero_add]
    try ac_rfl
  | 6, _ =>
    have y4 : v 1084 = 0 := z4
    have y5 : v 1085 = 0 := z5
    have y6 : v 1086 = 0 := z6
    have y7 : v 1087 = 0 := z7
    rw [y4, y5, y6, y7]
    show _ = v 1088 + v 1089 + v 1082 + v 1083
    simp only [Int32.add_zero, Int32.zero_add]
    try ac_rfl
  | 7, _ =>
    have y4 : v 1085 = 0 := z4
    have y5 : v 1086 = 0 := z5
    have y6 : v 1087 = 0 := z6
    have y7 : v 1088 = 0 := z7
    rw [y4, y5, y6, y7]
    show _ = v 1089 + v 1082 + v 1083 + v 1084
    simp only [Int32.add_zero, Int32.zero_add]
    try ac_rfl
  | r + 8, h => exact absurd h (by omega)
theorem o_free (hF : 9 ≤ F) (h : RX τ n c 10 s.2.1) : ∃ z, o_X5_freePilots τ n 10 c = some z ∧ o_X12_freePilots F s = some z ∧ z = mxi (nI 0) (s.2.1 1080 - (bz8 s.2.1 0 + bz8 s.2.1 1 + bz8 s.2.1 2 + bz8 s.2.1 3)) := by
  refine ⟨_, ?_, ?_, rfl⟩
  · unfold o_X5_freePilots
    rw [cg_n _ _ (by decide), h.bus.1, show c.1 (10 + 27) 4 = s.2.1 1080 from h.pl 1080 27 4 rfl]
  · unfold o_X12_freePilots
    rw [fp8 _ hF, rot8 s.2.1 h.bus.2.2.2.2, Option.bind_some, gW_n _ (by decide)]
theorem cn_0 (hF : 30000 ≤ F) (hI : LI τ n) (h : Rel τ n c s) (q : x 1 = nI 0) : stp Rel F 36 x τ n c s := by
  show ∃ v s', o_X11_count F τ n 0 c (x 1) = some v ∧ o_X12_count F s (x 1) = some (v, s') ∧ Rel τ n c s'
  have hb0 : RB τ n c 10 (pN s 0 (nI 0)).2.1 := h.b
  have h0 := h.pn (nI 0)
  unfold o_X11_count o_X12_count
  rw [q]
  simp only [if_true, if_pos (show (nI 0 : Int32) = nI 0 from rfl)]
  unfold o_X12_hour
  rw [gW_n _ (by decide), show c.1 (0 + 10) 0 = (pN s 0 (nI 0)).2.1 0 from h.b.pl 0 0 0 rfl]
  exact ⟨_, _, rfl, rfl, h0⟩
theorem cn_1 (hF : 30000 ≤ F) (hI : LI τ n) (h : Rel τ n c s) (q : x 1 = nI 1) : stp Rel F 36 x τ n c s := by
  show ∃ v s', o_X11_count F τ n 0 c (x 1) = some v ∧ o_X12_count F s (x 1) = some (v, s') ∧ Rel τ n c s'
  have hb0 : RB τ n c 10 (pN s 0 (nI 0)).2.1 := h.b
  have h0 := h.pn (nI 0)
  unfold o_X11_count o_X12_count
  rw [q]
  simp only [if_true, if_neg (show ¬ (nI 1 : Int32) = nI 0 by decide), if_pos (show (nI 1 : Int32) = nI 1 from rfl)]
  unfold o_X2_today o_X12_today
  rw [gW_n _ (by decide), show c.1 (0 + 10) 0 = (pN s 0 (nI 0)).2.1 0 from h.b.pl 0 0 0 rfl]
  exact ⟨_, _, rfl, rfl, h0⟩
theorem cn_2 (hF : 30000 ≤ F) (hI : LI τ n) (h : Rel τ n c s) (q : x 1 = nI 2) : stp Rel F 36 x τ n c s := by
  show ∃ v s', o_X11_count F τ n 0 c (x 1) = some v ∧ o_X12_count F s (x 1) = some (v, s') ∧ Rel τ n c s'
  have hb0 : RB τ n c 10 (pN s 0 (nI 0)).2.1 := h.b
  have h0 := h.pn (nI 0)
  unfold o_X11_count o_X12_count
  rw [q]
  simp only [if_true, if_neg (show ¬ (nI 2 : Int32) = nI 0 by decide), if_neg (show ¬ (nI 2 : Int32) = nI 1 by decide), if_pos (show (nI 2 : Int32) = nI 2 from rfl)]
  unfold o_X2_year o_X12_year
  rw [gW_n _ (by decide), show c.1 (0 + 10) 0 = (pN s 0 (nI 0)).2.1 0 from h.b.pl 0 0 0 rfl]
  exact ⟨_, _, rfl, rfl, h0⟩
theorem cn_3 (hF : 30000 ≤ F) (hI : LI τ n) (h : Rel τ n c s) (q : x 1 = nI 3) : stp Rel F 36 x τ n c s := by
  show ∃ v s', o_X11_count F τ n 0 c (x 1) = some v ∧ o_X12_count F s (x 1) = some (v, s') ∧ Rel τ n c s'
  have hb0 : RB τ n c 10 (pN s 0 (nI 0)).2.1 := h.b
  have h0 := h.pn (nI 0)
  unfold o_X11_count o_X12_count
  rw [q]
  simp only [if_true, if_neg (show ¬ (nI 3 : Int32) = nI 0 by decide), if_neg (show ¬ (nI 3 : Int32) = nI 1 by decide), if_neg (show ¬ (nI 3 : Int32) = nI 2 by decide), if_pos (show (nI 3 : Int32) = nI 3 from rfl)]
  rw [gW_n _ (by decide), show c.1 (0 + 37) 1 = (pN s 0 (nI 0)).2.1 999 from h.b.pl 999 27 1 rfl]
  exact ⟨_, _, rfl, rfl, h0⟩
theorem cn_4 (hF : 30000 ≤ F) (hI : LI τ n) (h : Rel τ n c s) (q : x 1 = nI 4) : stp Rel F 36 x τ n c s := by
  show ∃ v s', o_X11_count F τ n 0 c (x 1) = some v ∧ o_X12_count F s (x 1) = some (v, s') ∧ Rel τ n c s'
  have hb0 : RB τ n c 10 (pN s 0 (nI 0)).2.1 := h.b
  have h0 := h.pn (nI 0)
  unfold o_X11_count o_X12_count
  rw [q]
  simp only [if_true, if_neg (show ¬ (nI 4 : Int32) = nI 0 by decide), if_neg (show ¬ (nI 4 : Int32) = nI 1 by decide), if_neg (show ¬ (nI 4 : Int32) = nI 2 by decide), if_neg (show ¬ (nI 4 : Int32) = nI 3 by decide), if_pos (show (nI 4 : Int32) = nI 4 from rfl)]
  rw [gW_n _ (by decide), show c.1 (0 + 37) 3 = (pN s 0 (nI 0)).2.1 1211 from h.b.pl 1211 27 3 rfl]
  exact ⟨_, _, rfl, rfl, h0⟩
theorem cn_5 (hF : 30000 ≤ F) (hI : LI τ n) (h : Rel τ n c s) (q : x 1 = nI 5) : stp Rel F 36 x τ n c s := by
  show ∃ v s', o_X11_count F τ n 0 c (x 1) = some v ∧ o_X12_count F s (x 1) = some (v, s') ∧ Rel τ n c s'
  have hb0 : RB τ n c 10 (pN s 0 (nI 0)).2.1 := h.b
  have h0 := h.pn (nI 0)
  unfold o_X11_count o_X12_count
  rw [q]
  simp only [if_true, if_neg (show ¬ (nI 5 : Int32) = nI 0 by decide), if_neg (show ¬ (nI 5 : Int32) = nI 1 by decide), if_neg (show ¬ (nI 5 : Int32) = nI 2 by decide), if_neg (show ¬ (nI 5 : Int32) = nI 3 by decide), if_neg (show ¬ (nI 5 : Int32) = nI 4 by decide), if_pos (show (nI 5 : Int32) = nI 5 from rfl)]
  obtain ⟨z, a1, a2⟩ := st_loop (F := F) (a := 5) (b := 0) (by omega) hb0 _ 0 F F (nI 0) (Nat.zero_add _) (by have := hb0.n1211.2; omega) (by have := hb0.n1211.2; omega)
  unfold o_X5_countInState
  rw [show (0 + 10 : Nat) = 10 from rfl, a1, a2]
  exact ⟨_, _, rfl, rfl, h0⟩
theorem cn_6 (hF : 30000 ≤ F) (hI : LI τ n) (h : Rel τ n c s) (q : x 1 = nI 6) : stp Rel F 36 x τ n c s := by
  show ∃ v s', o_X11_count F τ n 0 c (x 1) = some v ∧ o_X12_count F s (x 1) = some (v, s') ∧ Rel τ n c s'
  have hb0 : RB τ n c 10 (pN s 0 (nI 0)).2.1 := h.b
  have h0 := h.pn (nI 0)
  unfold o_X11_count o_X12_count
  rw [q]
  simp only [if_true, if_neg (show ¬ (nI 6 : Int32) = nI 0 by decide), if_neg (show ¬ (nI 6 : Int32) = nI 1 by decide), if_neg (show ¬ (nI 6 : Int32) = nI 2 by decide), if_neg (show ¬ (nI 6 : Int32) = nI 3 by decide), if_neg (show ¬ (nI 6 : Int32) = nI 4 by decide), if_neg (show ¬ (nI 6 : Int32) = nI 5 by decide), if_pos (show (nI 6 : Int32) = nI 6 from rfl)]
  obtain ⟨z, a1, a2⟩ := st_loop (F := F) (a := 6) (b := 4) (by omega) hb0 _ 0 F F (nI 0) (Nat.zero_add _) (by have := hb0.n1211.2; omega) (by have := hb0.n1211.2; omega)
  unfold o_X5_countInState
  rw [show (0 + 10 : Nat) = 10 from rfl, a1, a2]
  exact ⟨_, _, rfl, rfl, h0⟩
theorem cn_7 (hF : 30000 ≤ F) (hI : LI τ n) (h : Rel τ n c s) (q : x 1 = nI 7) : stp Rel F 36 x τ n c s := by
  show ∃ v s', o_X11_count F τ n 0 c (x 1) = some v ∧ o_X12_count F s (x 1) = some (v, s') ∧ Rel τ n c s'
  have hb0 : RB τ n c 10 (pN s 0 (nI 0)).2.1 := h.b
  have h0 := h.pn (nI 0)
  unfold o_X11_count o_X12_count
  rw [q]
  simp only [if_true, if_neg (show ¬ (nI 7 : Int32) = nI 0 by decide), if_neg (show ¬ (nI 7 : Int32) = nI 1 by decide), if_neg (show ¬ (nI 7 : Int32) = nI 2 by decide), if_neg (show ¬ (nI 7 : Int32) = nI 3 by decide), if_neg (show ¬ (nI 7 : Int32) = nI 4 by decide), if_neg (show ¬ (nI 7 : Int32) = nI 5 by decide), if_neg (show ¬ (nI 7 : Int32) = nI 6 by decide), if_pos (show (nI 7 : Int32) = nI 7 from rfl)]
  obtain ⟨z, a1, a2, _⟩ := o_free (F := F) (by omega) hb0.x
  rw [show (0 + 10 : Nat) = 10 from rfl, a1, a2]
  exact ⟨_, _, rfl, rfl, h0⟩
theorem cn_8 (hF : 30000 ≤ F) (hI : LI τ n) (h : Rel τ n c s) (q : x 1 = nI 8) : stp Rel F 36 x τ n c s := by
  show ∃ v s', o_X11_count F τ n 0 c (x 1) = some v ∧ o_X12_count F s (x 1) = some (v, s') ∧ Rel τ n c s'
  have hb0 : RB τ n c 10 (pN s 0 (nI 0)).2.1 := h.b
  have h0 := h.pn (nI 0)
  unfold o_X11_count o_X12_count
  rw [q]
  simp only [if_true, if_neg (show ¬ (nI 8 : Int32) = nI 0 by decide), if_neg (show ¬ (nI 8 : Int32) = nI 1 by decide), if_neg (show ¬ (nI 8 : Int32) = nI 2 by decide), if_neg (show ¬ (nI 8 : Int32) = nI 3 by decide), if_neg (show ¬ (nI 8 : Int32) = nI 4 by decide), if_neg (show ¬ (nI 8 : Int32) = nI 5 by decide), if_neg (show ¬ (nI 8 : Int32) = nI 6 by decide), if_neg (show ¬ (nI 8 : Int32) = nI 7 by decide), if_pos (show (nI 8 : Int32) = nI 8 from rfl)]
  obtain ⟨z, a1, a2⟩ := ld_loop (F := F) hb0 _ 0 F F (nI 0) (Nat.zero_add _) (by have := hb0.n999.2; omega) (by have := hb0.n999.2; omega)
  unfold o_X5_loadOfAll
  rw [show (0 + 10 : Nat) = 10 from rfl, a1, a2]
  exact ⟨_, _, rfl, rfl, h0⟩
theorem cn_9 (hF : 30000 ≤ F) (hI : LI τ n) (h : Rel τ n c s) (q : x 1 = nI 9) : stp Rel F 36 x τ n c s := by
  show ∃ v s', o_X11_count F τ n 0 c (x 1) = some v ∧ o_X12_count F s (x 1) = some (v, s') ∧ Rel τ n c s'
  have hb0 : RB τ n c 10 (pN s 0 (nI 0)).2.1 := h.b
  have h0 := h.pn (nI 0)
  unfold o_X11_count o_X12_count
  rw [q]
  simp only [if_true, if_neg (show ¬ (nI 9 : Int32) = nI 0 by decide), if_neg (show ¬ (nI 9 : Int32) = nI 1 by decide), if_neg (show ¬ (nI 9 : Int32) = nI 2 by decide), if_neg (show ¬ (nI 9 : Int32) = nI 3 by decide), if_neg (show ¬ (nI 9 : Int32) = nI 4 by decide), if_neg (show ¬ (nI 9 : Int32) = nI 5 by decide), if_neg (show ¬ (nI 9 : Int32) = nI 6 by decide), if_neg (show ¬ (nI 9 : Int32) = nI 7 by decide), if_neg (show ¬ (nI 9 : Int32) = nI 8 by decide), if_pos (show (nI 9 : Int32) = nI 9 from rfl)]
  rw [gW_n _ (by decide), show c.1 (0 + 37) 7 = (pN s 0 (nI 0)).2.1 2659 from h.b.pl 2659 27 7 rfl]
  exact ⟨_, _, rfl, rfl, h0⟩
theorem cn_10 (hF : 30000 ≤ F) (hI : LI τ n) (h : Rel τ n c s) (q : x 1 = nI 10) : stp Rel F 36 x τ n c s := by
  show ∃ v s', o_X11_count F τ n 0 c (x 1) = some v ∧ o_X12_count F s (x 1) = some (v, s') ∧ Rel τ n c s'
  have hb0 : RB τ n c 10 (pN s 0 (nI 0)).2.1 := h.b
  have h0 := h.pn (nI 0)
  unfold o_X11_count o_X12_count
  rw [q]
  simp only [if_true, if_neg (show ¬ (nI 10 : Int32) = nI 0 by decide), if_neg (show ¬ (nI 10 : Int32) = nI 1 by decide), if_neg (show ¬ (nI 10 : Int32) = nI 2 by decide), if_neg (show ¬ (nI 10 : Int32) = nI 3 by decide), if_neg (show ¬ (nI 10 : Int32) = nI 4 by decide), if_neg (show ¬ (nI 10 : Int32) = nI 5 by decide), if_neg (show ¬ (nI 10 : Int32) = nI 6 by decide), if_neg (show ¬ (nI 10 : Int32) = nI 7 by decide), if_neg (show ¬ (nI 10 : Int32) = nI 8 by decide), if_neg (show ¬ (nI 10 : Int32) = nI 9 by decide), if_pos (show (nI 10 : Int32) = nI 10 from rfl)]
  rw [gW_n _ (by decide), show c.1 (0 + 131) 0 = (pN s 0 (nI 0)).2.1 2652 from h.b.pl 2652 121 0 rfl]
  exact ⟨_, _, rfl, rfl, h0⟩
theorem cn_11 (hF : 30000 ≤ F) (hI : LI τ n) (h : Rel τ n c s) (q : x 1 = nI 11) : stp Rel F 36 x τ n c s := by
  show ∃ v s', o_X11_count F τ n 0 c (x 1) = some v ∧ o_X12_count F s (x 1) = some (v, s') ∧ Rel τ n c s'
  have hb0 : RB τ n c 10 (pN s 0 (nI 0)).2.1 := h.b
  have h0 := h.pn (nI 0)
  unfold o_X11_count o_X12_count
  rw [q]
  simp only [if_true, if_neg (show ¬ (nI 11 : Int32) = nI 0 by decide), if_neg (show ¬ (nI 11 : Int32) = nI 1 by decide), if_neg (show ¬ (nI 11 : Int32) = nI 2 by decide), if_neg (show ¬ (nI 11 : Int32) = nI 3 by decide), if_neg (show ¬ (nI 11 : Int32) = nI 4 by decide), if_neg (show ¬ (nI 11 : Int32) = nI 5 by decide), if_neg (show ¬ (nI 11 : Int32) = nI 6 by decide), if_neg (show ¬ (nI 11 : Int32) = nI 7 by decide), if_neg (show ¬ (nI 11 : Int32) = nI 8 by decide), if_neg (show ¬ (nI 11 : Int32) = nI 9 by decide), if_neg (show ¬ (nI 11 : Int32) = nI 10 by decide), if_pos (show (nI 11 : Int32) = nI 11 from rfl)]
  rw [gW_n _ (by decide), show c.1 (0 + 131) 1 = (pN s 0 (nI 0)).2.1 2653 from h.b.pl 2653 121 1 rfl]
  exact ⟨_, _, rfl, rfl, h0⟩
theorem cn_12 (hF : 30000 ≤ F) (hI : LI τ n) (h : Rel τ n c s) (q : x 1 = nI 12) : stp Rel F 36 x τ n c s := by
  show ∃ v s', o_X11_count F τ n 0 c (x 1) = some v ∧ o_X12_count F s (x 1) = some (v, s') ∧ Rel τ n c s'
  have hb0 : RB τ n c 10 (pN s 0 (nI 0)).2.1 := h.b
  have h0 := h.pn (nI 0)
  unfold o_X11_count o_X12_count o_X11_countMore
  rw [q]
  simp only [if_true, if_neg (show ¬ (nI 12 : Int32) = nI 0 by decide), if_neg (show ¬ (nI 12 : Int32) = nI 1 by decide), if_neg (show ¬ (nI 12 : Int32) = nI 2 by decide), if_neg (show ¬ (nI 12 : Int32) = nI 3 by decide), if_neg (show ¬ (nI 12 : Int32) = nI 4 by decide), if_neg (show ¬ (nI 12 : Int32) = nI 5 by decide), if_neg (show ¬ (nI 12 : Int32) = nI 6 by decide), if_neg (show ¬ (nI 12 : Int32) = nI 7 by decide), if_neg (show ¬ (nI 12 : Int32) = nI 8 by decide), if_neg (show ¬ (nI 12 : Int32) = nI 9 by decide), if_neg (show ¬ (nI 12 : Int32) = nI 10 by decide), if_neg (show ¬ (nI 12 : Int32) = nI 11 by decide), if_pos (show (nI 12 : Int32) = nI 12 from rfl)]
  rw [gW_n _ (by decide), show c.1 (0 + 131) 2 = (pN s 0 (nI 0)).2.1 2654 from h.b.pl 2654 121 2 rfl]
  exact ⟨_, _, rfl, rfl, h0⟩
theorem cn_13 (hF : 30000 ≤ F) (hI : LI τ n) (h : Rel τ n c s) (q : x 1 = nI 13) : stp Rel F 36 x τ n c s := by
  show ∃ v s', o_X11_count F τ n 0 c (x 1) = some v ∧ o_X12_count F s (x 1) = some (v, s') ∧ Rel τ n c s'
  have hb0 : RB τ n c 10 (pN s 0 (nI 0)).2.1 := h.b
  have h0 := h.pn (nI 0)
  unfold o_X11_count o_X12_count o_X11_countMore
  rw [q]
  simp only [if_true, if_neg (show ¬ (nI 13 : Int32) = nI 0 by decide), if_neg (show ¬ (nI 13 : Int32) = nI 1 by decide), if_neg (show ¬ (nI 13 : Int32) = nI 2 by decide), if_neg (show ¬ (nI 13 : Int32) = nI 3 by decide), if_neg (show ¬ (nI 13 : Int32) = nI 4 by decide), if_neg (show ¬ (nI 13 : Int32) = nI 5 by decide), if_neg (show ¬ (nI 13 : Int32) = nI 6 by decide), if_neg (show ¬ (nI 13 : Int32) = nI 7 by decide), if_neg (show ¬ (nI 13 : Int32) = nI 8 by decide), if_neg (show ¬ (nI 13 : Int32) = nI 9 by decide), if_neg (show ¬ (nI 13 : Int32) = nI 10 by decide), if_neg (show ¬ (nI 13 : Int32) = nI 11 by decide), if_neg (show ¬ (nI 13 : Int32) = nI 12 by decide), if_pos (show (nI 13 : Int32) = nI 13 from rfl)]
  have a1 := tc_loop (F := F) hb0 _ 0 F (Nat.zero_add _) (by have := hb0.n1211.2; omega)
  unfold o_X5_countTouches
  rw [tcs, show (0 : Int32) = nI 0 from rfl] at a1
  rw [show (0 + 10 : Nat) = 10 from rfl, a1, gW_n _ (by decide), hb0.cr.tc]
  exact ⟨_, _, rfl, rfl, h0⟩
theorem cn_14 (hF : 30000 ≤ F) (hI : LI τ n) (h : Rel τ n c s) (q : x 1 = nI 14) : stp Rel F 36 x τ n c s := by
  show ∃ v s', o_X11_count F τ n 0 c (x 1) = some v ∧ o_X12_count F s (x 1) = some (v, s') ∧ Rel τ n c s'
  have hb0 : RB τ n c 10 (pN s 0 (nI 0)).2.1 := h.b
  have h0 := h.pn (nI 0)
  unfold o_X11_count o_X12_count o_X11_countMore
  rw [q]
  simp only [if_true, if_neg (show ¬ (nI 14 : Int32) = nI 0 by decide), if_neg (show ¬ (nI 14 : Int32) = nI 1 by decide), if_neg (show ¬ (nI 14 : Int32) = nI 2 by decide), if_neg (show ¬ (nI 14 : Int32) = nI 3 by decide), if_neg (show ¬ (nI 14 : Int32) = nI 4 by decide), if_neg (show ¬ (nI 14 : Int32) = nI 5 by decide), if_neg (show ¬ (nI 14 : Int32) = nI 6 by decide), if_neg (show ¬ (nI 14 : Int32) = nI 7 by decide), if_neg (show ¬ (nI 14 : Int32) = nI 8 by decide), if_neg (show ¬ (nI 14 : Int32) = nI 9 by decide), if_neg (show ¬ (nI 14 : Int32) = nI 10 by decide), if_neg (show ¬ (nI 14 : Int32) = nI 11 by decide), if_neg (show ¬ (nI 14 : Int32) = nI 12 by decide), if_neg (show ¬ (nI 14 : Int32) = nI 13 by decide), if_pos (show (nI 14 : Int32) = nI 14 from rfl)]
  rw [gW_n _ (by decide), show c.1 (0 + 11) 11 = (pN s 0 (nI 0)).2.1 2656 from h.b.pl 2656 1 11 rfl]
  exact ⟨_, _, rfl, rfl, h0⟩
theorem cn_15 (hF : 30000 ≤ F) (hI : LI τ n) (h : Rel τ n c s) (q : x 1 = nI 15) : stp Rel F 36 x τ n c s := by
  show ∃ v s', o_X11_count F τ n 0 c (x 1) = some v ∧ o_X12_count F s (x 1) = some (v, s') ∧ Rel τ n c s'
  have hb0 : RB τ n c 10 (pN s 0 (nI 0)).2.1 := h.b
  have h0 := h.pn (nI 0)
  unfold o_X11_count o_X12_count o_X11_countMore
  rw [q]
  simp only [if_true, if_neg (show ¬ (nI 15 : Int32) = nI 0 by decide), if_neg (show ¬ (nI 15 : Int32) = nI 1 by decide), if_neg (show ¬ (nI 15 : Int32) = nI 2 by decide), if_neg (show ¬ (nI 15 : Int32) = nI 3 by decide), if_neg (show ¬ (nI 15 : Int32) = nI 4 by decide), if_neg (show ¬ (nI 15 : Int32) = nI 5 by decide), if_neg (show ¬ (nI 15 : Int32) = nI 6 by decide), if_neg (show ¬ (nI 15 : Int32) = nI 7 by decide), if_neg (show ¬ (nI 15 : Int32) = nI 8 by decide), if_neg (show ¬ (nI 15 : Int32) = nI 9 by decide), if_neg (show ¬ (nI 15 : Int32) = nI 10 by decide), if_neg (show ¬ (nI 15 : Int32) = nI 11 by decide), if_neg (show ¬ (nI 15 : Int32) = nI 12 by decide), if_neg (show ¬ (nI 15 : Int32) = nI 13 by decide), if_neg (show ¬ (nI 15 : Int32) = nI 14 by decide), if_pos (show (nI 15 : Int32) = nI 15 from rfl)]
  rw [gW_n _ (by decide), show c.1 (0 + 11) 12 = (pN s 0 (nI 0)).2.1 2657 from h.b.pl 2657 1 12 rfl]
  exact ⟨_, _, rfl, rfl, h0⟩
theorem cn_16 (hF : 30000 ≤ F) (hI : LI τ n) (h : Rel τ n c s) (q : x 1 = nI 16) : stp Rel F 36 x τ n c s := by
  show ∃ v s', o_X11_count F τ n 0 c (x 1) = some v ∧ o_X12_count F s (x 1) = some (v, s') ∧ Rel τ n c s'
  have hb0 : RB τ n c 10 (pN s 0 (nI 0)).2.1 := h.b
  have h0 := h.pn (nI 0)
  unfold o_X11_count o_X12_count o_X11_countMore
  rw [q]
  simp only [if_true, if_neg (show ¬ (nI 16 : Int32) = nI 0 by decide), if_neg (show ¬ (nI 16 : Int32) = nI 1 by decide), if_neg (show ¬ (nI 16 : Int32) = nI 2 by decide), if_neg (show ¬ (nI 16 : Int32) = nI 3 by decide), if_neg (show ¬ (nI 16 : Int32) = nI 4 by decide), if_neg (show ¬ (nI 16 : Int32) = nI 5 by decide), if_neg (show ¬ (nI 16 : Int32) = nI 6 by decide), if_neg (show ¬ (nI 16 : Int32) = nI 7 by decide), if_neg (show ¬ (nI 16 : Int32) = nI 8 by decide), if_neg (show ¬ (nI 16 : Int32) = nI 9 by decide), if_neg (show ¬ (nI 16 : Int32) = nI 10 by decide), if_neg (show ¬ (nI 16 : Int32) = nI 11 by decide), if_neg (show ¬ (nI 16 : Int32) = nI 12 by decide), if_neg (show ¬ (nI 16 : Int32) = nI 13 by decide), if_neg (show ¬ (nI 16 : Int32) = nI 14 by decide), if_neg (show ¬ (nI 16 : Int32) = nI 15 by decide), if_pos (show (nI 16 : Int32) = nI 16 from rfl)]
  rw [gW_n _ (by decide), show c.1 (0 + 11) 13 = (pN s 0 (nI 0)).2.1 2658 from h.b.pl 2658 1 13 rfl]
  exact ⟨_, _, rfl, rfl, h0⟩
theorem cn_17 (hF : 30000 ≤ F) (hI : LI τ n) (h : Rel τ n c s) (q : x 1 = nI 17) : stp Rel F 36 x τ n c s := by
  show ∃ v s', o_X11_count F τ n 0 c (x 1) = some v ∧ o_X12_count F s (x 1) = some (v, s') ∧ Rel τ n c s'
  have hb0 : RB τ n c 10 (pN s 0 (nI 0)).2.1 := h.b
  have h0 := h.pn (nI 0)
  unfold o_X11_count o_X12_count o_X11_countMore
  rw [q]
  simp only [if_true, if_neg (show ¬ (nI 17 : Int32) = nI 0 by decide), if_neg (show ¬ (nI 17 : Int32) = nI 1 by decide), if_neg (show ¬ (nI 17 : Int32) = nI 2 by decide), if_neg (show ¬ (nI 17 : Int32) = nI 3 by decide), if_neg (show ¬ (nI 17 : Int32) = nI 4 by decide), if_neg (show ¬ (nI 17 : Int32) = nI 5 by decide), if_neg (show ¬ (nI 17 : Int32) = nI 6 by decide), if_neg (show ¬ (nI 17 : Int32) = nI 7 by decide), if_neg (show ¬ (nI 17 : Int32) = nI 8 by decide), if_neg (show ¬ (nI 17 : Int32) = nI 9 by decide), if_neg (show ¬ (nI 17 : Int32) = nI 10 by decide), if_neg (show ¬ (nI 17 : Int32) = nI 11 by decide), if_neg (show ¬ (nI 17 : Int32) = nI 12 by decide), if_neg (show ¬ (nI 17 : Int32) = nI 13 by decide), if_neg (show ¬ (nI 17 : Int32) = nI 14 by decide), if_neg (show ¬ (nI 17 : Int32) = nI 15 by decide), if_neg (show ¬ (nI 17 : Int32) = nI 16 by decide), if_pos (show (nI 17 : Int32) = nI 17 from rfl)]
  rw [gW_n _ (by decide), show c.1 (0 + 21) 4 = (pN s 0 (nI 0)).2.1 198 from h.b.pl 198 11 4 rfl]
  exact ⟨_, _, rfl, rfl, h0⟩
theorem cn_18 (hF : 30000 ≤ F) (hI : LI τ n) (h : Rel τ n c s) (q : x 1 = nI 18) : stp Rel F 36 x τ n c s := by
  show ∃ v s', o_X11_count F τ n 0 c (x 1) = some v ∧ o_X12_count F s (x 1) = some (v, s') ∧ Rel τ n c s'
  have hb0 : RB τ n c 10 (pN s 0 (nI 0)).2.1 := h.b
  have h0 := h.pn (nI 0)
  unfold o_X11_count o_X12_count o_X11_countMore
  rw [q]
  simp only [if_true, if_neg (show ¬ (nI 18 : Int32) = nI 0 by decide), if_neg (show ¬ (nI 18 : Int32) = nI 1 by decide), if_neg (show ¬ (nI 18 : Int32) = nI 2 by decide), if_neg (show ¬ (nI 18 : Int32) = nI 3 by decide), if_neg (show ¬ (nI 18 : Int32) = nI 4 by decide), if_neg (show ¬ (nI 18 : Int32) = nI 5 by decide), if_neg (show ¬ (nI 18 : Int32) = nI 6 by decide), if_neg (show ¬ (nI 18 : Int32) = nI 7 by decide), if_neg (show ¬ (nI 18 : Int32) = nI 8 by decide), if_neg (show ¬ (nI 18 : Int32) = nI 9 by decide), if_neg (show ¬ (nI 18 : Int32) = nI 10 by decide), if_neg (show ¬ (nI 18 : Int32) = nI 11 by decide), if_neg (show ¬ (nI 18 : Int32) = nI 12 by decide), if_neg (show ¬ (nI 18 : Int32) = nI 13 by decide), if_neg (show ¬ (nI 18 : Int32) = nI 14 by decide), if_neg (show ¬ (nI 18 : Int32) = nI 15 by decide), if_neg (show ¬ (nI 18 : Int32) = nI 16 by decide), if_neg (show ¬ (nI 18 : Int32) = nI 17 by decide), if_pos (show (nI 18 : Int32) = nI 18 from rfl)]
  rw [gW_n _ (by decide), show c.1 (0 + 27) 3 = (pN s 0 (nI 0)).2.1 2811 from h.b.pl 2811 17 3 rfl]
  exact ⟨_, _, rfl, rfl, h0⟩
theorem cn_19 (hF : 30000 ≤ F) (hI : LI τ n) (h : Rel τ n c s) (q : x 1 = nI 19) : stp Rel F 36 x τ n c s := by
  show ∃ v s', o_X11_count F τ n 0 c (x 1) = some v ∧ o_X12_count F s (x 1) = some (v, s') ∧ Rel τ n c s'
  have hb0 : RB τ n c 10 (pN s 0 (nI 0)).2.1 := h.b
  have h0 := h.pn (nI 0)
  unfold o_X11_count o_X12_count o_X11_countMore
  rw [q]
  simp only [if_true, if_neg (show ¬ (nI 19 : Int32) = nI 0 by decide), if_neg (show ¬ (nI 19 : Int32) = nI 1 by decide), if_neg (show ¬ (nI 19 : Int32) = nI 2 by decide), if_neg (show ¬ (nI 19 : Int32) = nI 3 by decide), if_neg (show ¬ (nI 19 : Int32) = nI 4 by decide), if_neg (show ¬ (nI 19 : Int32) = nI 5 by decide), if_neg (show ¬ (nI 19 : Int32) = nI 6 by decide), if_neg (show ¬ (nI 19 : Int32) = nI 7 by decide), if_neg (show ¬ (nI 19 : Int32) = nI 8 by decide), if_neg (show ¬ (nI 19 : Int32) = nI 9 by decide), if_neg (show ¬ (nI 19 : Int32) = nI 10 by decide), if_neg (show ¬ (nI 19 : Int32) = nI 11 by decide), if_neg (show ¬ (nI 19 : Int32) = nI 12 by decide), if_neg (show ¬ (nI 19 : Int32) = nI 13 by decide), if_neg (show ¬ (nI 19 : Int32) = nI 14 by decide), if_neg (show ¬ (nI 19 : Int32) = nI 15 by decide), if_neg (show ¬ (nI 19 : Int32) = nI 16 by decide), if_neg (show ¬ (nI 19 : Int32) = nI 17 by decide), if_neg (show ¬ (nI 19 : Int32) = nI 18 by decide), if_pos (show (nI 19 : Int32) = nI 19 from rfl)]
  obtain ⟨p, b1, b2, b3, b4⟩ := hb0.lawNow (F := F) hI h.z (by omega)
  have t := R_today (F := F) (by omega) hb0
  rw [show (0 + 10 : Nat) = 10 from rfl, b1, t.1]
  rw [Option.bind_some, Option.bind_some, if_pos b3, t.2, Option.bind_some]
  rcases b4 with ⟨e1, e2⟩ | ⟨a, ha, e1, e2⟩
  · rw [e1, Option.bind_some]
    unfold o_X12_linesOf
    rw [if_neg (show ¬ (0 : Int32) ≤ -1 by decide), e2]
    exact ⟨_, _, rfl, rfl, h0⟩
  · rw [e1, Option.bind_some, o_linesOf ha e2.l0, show c.1 p 0 = nI (N ((pN s 0 (nI 0)).2.1 (2812 + 882 * a + 1))) from e2.lc.trans e2.l0]
    exact ⟨_, _, rfl, rfl, h0⟩
theorem cn_20 (hF : 30000 ≤ F) (hI : LI τ n) (h : Rel τ n c s) (q : x 1 = nI 20) : stp Rel F 36 x τ n c s := by
  show ∃ v s', o_X11_count F τ n 0 c (x 1) = some v ∧ o_X12_count F s (x 1) = some (v, s') ∧ Rel τ n c s'
  have hb0 : RB τ n c 10 (pN s 0 (nI 0)).2.1 := h.b
  have h0 := h.pn (nI 0)
  unfold o_X11_count o_X12_count o_X11_countMore
  rw [q]
  simp only [if_true, if_neg (show ¬ (nI 20 : Int32) = nI 0 by decide), if_neg (show ¬ (nI 20 : Int32) = nI 1 by decide), if_neg (show ¬ (nI 20 : Int32) = nI 2 by decide), if_neg (show ¬ (nI 20 : Int32) = nI 3 by decide), if_neg (show ¬ (nI 20 : Int32) = nI 4 by decide), if_neg (show ¬ (nI 20 : Int32) = nI 5 by decide), if_neg (show ¬ (nI 20 : Int32) = nI 6 by decide), if_neg (show ¬ (nI 20 : Int32) = nI 7 by decide), if_neg (show ¬ (nI 20 : Int32) = nI 8 by decide), if_neg (show ¬ (nI 20 : Int32) = nI 9 by decide), if_neg (show ¬ (nI 20 : Int32) = nI 10 by decide), if_neg (show ¬ (nI 20 : Int32) = nI 11 by decide), if_neg (show ¬ (nI 20 : Int32) = nI 12 by decide), if_neg (show ¬ (nI 20 : Int32) = nI 13 by decide), if_neg (show ¬ (nI 20 : Int32) = nI 14 by decide), if_neg (show ¬ (nI 20 : Int32) = nI 15 by decide), if_neg (show ¬ (nI 20 : Int32) = nI 16 by decide), if_neg (show ¬ (nI 20 : Int32) = nI 17 by decide), if_neg (show ¬ (nI 20 : Int32) = nI 18 by decide), if_neg (show ¬ (nI 20 : Int32) = nI 19 by decide), if_pos (show (nI 20 : Int32) = nI 20 from rfl)]
  rw [gW_n _ (by decide), show c.1 (0 + 131) 13 = (pN s 0 (nI 0)).2.1 2665 from h.b.pl 2665 121 13 rfl]
  exact ⟨_, _, rfl, rfl, h0⟩
theorem cn_21 (hF : 30000 ≤ F) (hI : LI τ n) (h : Rel τ n c s) (q : x 1 = nI 21) : stp Rel F 36 x τ n c s := by
  show ∃ v s', o_X11_count F τ n 0 c (x 1) = some v ∧ o_X12_count F s (x 1) = some (v, s') ∧ Rel τ n c s'
  have hb0 : RB τ n c 10 (pN s 0 (nI 0)).2.1 := h.b
  have h0 := h.pn (nI 0)
  unfold o_X11_count o_X12_count o_X11_countMore
  rw [q]
  simp only [if_true, if_neg (show ¬ (nI 21 : Int32) = nI 0 by decide), if_neg (show ¬ (nI 21 : Int32) = nI 1 by decide), if_neg (show ¬ (nI 21 : Int32) = nI 2 by decide), if_neg (show ¬ (nI 21 : Int32) = nI 3 by decide), if_neg (show ¬ (nI 21 : Int32) = nI 4 by decide), if_neg (show ¬ (nI 21 : Int32) = nI 5 by decide), if_neg (show ¬ (nI 21 : Int32) = nI 6 by decide), if_neg (show ¬ (nI 21 : Int32) = nI 7 by decide), if_neg (show ¬ (nI 21 : Int32) = nI 8 by decide), if_neg (show ¬ (nI 21 : Int32) = nI 9 by decide), if_neg (show ¬ (nI 21 : Int32) = nI 10 by decide), if_neg (show ¬ (nI 21 : Int32) = nI 11 by decide), if_neg (show ¬ (nI 21 : Int32) = nI 12 by decide), if_neg (show ¬ (nI 21 : Int32) = nI 13 by decide), if_neg (show ¬ (nI 21 : Int32) = nI 14 by decide), if_neg (show ¬ (nI 21 : Int32) = nI 15 by decide), if_neg (show ¬ (nI 21 : Int32) = nI 16 by decide), if_neg (show ¬ (nI 21 : Int32) = nI 17 by decide), if_neg (show ¬ (nI 21 : Int32) = nI 18 by decide), if_neg (show ¬ (nI 21 : Int32) = nI 19 by decide), if_neg (show ¬ (nI 21 : Int32) = nI 20 by decide), if_pos (show (nI 21 : Int32) = nI 21 from rfl)]
  obtain ⟨z, a1, a2⟩ := ow_loop (F := F) hb0 _ 0 F F (nI 0) (Nat.zero_add _) (by have := hb0.n2665.2; omega) (by have := hb0.n2665.2; omega)
  unfold o_X6_owedInAll
  rw [show (0 + 10 : Nat) = 10 from rfl, a1, a2]
  exact ⟨_, _, rfl, rfl, h0⟩
theorem cn_22 (hF : 30000 ≤ F) (hI : LI τ n) (h : Rel τ n c s) (q : x 1 = nI 22) : stp Rel F 36 x τ n c s := by
  show ∃ v s', o_X11_count F τ n 0 c (x 1) = some v ∧ o_X12_count F s (x 1) = some (v, s') ∧ Rel τ n c s'
  have hb0 : RB τ n c 10 (pN s 0 (nI 0)).2.1 := h.b
  have h0 := h.pn (nI 0)
  unfold o_X11_count o_X12_count o_X11_countMore
  rw [q]
  simp only [if_true, if_neg (show ¬ (nI 22 : Int32) = nI 0 by decide), if_neg (show ¬ (nI 22 : Int32) = nI 1 by decide), if_neg (show ¬ (nI 22 : Int32) = nI 2 by decide), if_neg (show ¬ (nI 22 : Int32) = nI 3 by decide), if_neg (show ¬ (nI 22 : Int32) = nI 4 by decide), if_neg (show ¬ (nI 22 : Int32) = nI 5 by decide), if_neg (show ¬ (nI 22 : Int32) = nI 6 by decide), if_neg (show ¬ (nI 22 : Int32) = nI 7 by decide), if_neg (show ¬ (nI 22 : Int32) = nI 8 by decide), if_neg (show ¬ (nI 22 : Int32) = nI 9 by decide), if_neg (show ¬ (nI 22 : Int32) = nI 10 by decide), if_neg (show ¬ (nI 22 : Int32) = nI 11 by decide), if_neg (show ¬ (nI 22 : Int32) = nI 12 by decide), if_neg (show ¬ (nI 22 : Int32) = nI 13 by decide), if_neg (show ¬ (nI 22 : Int32) = nI 14 by decide), if_neg (show ¬ (nI 22 : Int32) = nI 15 by decide), if_neg (show ¬ (nI 22 : Int32) = nI 16 by decide), if_neg (show ¬ (nI 22 : Int32) = nI 17 by decide), if_neg (show ¬ (nI 22 : Int32) = nI 18 by decide), if_neg (show ¬ (nI 22 : Int32) = nI 19 by decide), if_neg (show ¬ (nI 22 : Int32) = nI 20 by decide), if_neg (show ¬ (nI 22 : Int32) = nI 21 by decide), if_pos (show (nI 22 : Int32) = nI 22 from rfl)]
  obtain ⟨z, a1, a2⟩ := sc_loop (F := F) (τ := τ) (n := n) (c := c) (s := pN s 0 (nI 0)) (q := 14) (B := 49) (by decide) (fun i hi => hb0.pl _ _ _ (show wk (49 + i) = some (4, i) by unfold wk; rw [if_neg (by omega), if_neg (by omega), if_neg (by omega), if_pos (by omega), show 49 + i - 49 = i by omega])) 24 0 F F (nI 0) rfl (by omega) (by omega)
  unfold o_X11_sumOf o_X12_sumCells
  rw [show (0 + 14 : Nat) = 14 from rfl, a1, a2]
  exact ⟨_, _, rfl, rfl, h0⟩
theorem cn_23 (hF : 30000 ≤ F) (hI : LI τ n) (h : Rel τ n c s) (q : x 1 = nI 23) : stp Rel F 36 x τ n c s := by
  show ∃ v s', o_X11_count F τ n 0 c (x 1) = some v ∧ o_X12_count F s (x 1) = some (v, s') ∧ Rel τ n c s'
  have hb0 : RB τ n c 10 (pN s 0 (nI 0)).2.1 := h.b
  have h0 := h.pn (nI 0)
  unfold o_X11_count o_X12_count o_X11_countMore
  rw [q]
  simp only [if_true, if_neg (show ¬ (nI 23 : Int32) = nI 0 by decide), if_neg (show ¬ (nI 23 : Int32) = nI 1 by decide), if_neg (show ¬ (nI 23 : Int32) = nI 2 by decide), if_neg (show ¬ (nI 23 : Int32) = nI 3 by decide), if_neg (show ¬ (nI 23 : Int32) = nI 4 by decide), if_neg (show ¬ (nI 23 : Int32) = nI 5 by decide), if_neg (show ¬ (nI 23 : Int32) = nI 6 by decide), if_neg (show ¬ (nI 23 : Int32) = nI 7 by decide), if_neg (show ¬ (nI 23 : Int32) = nI 8 by decide), if_neg (show ¬ (nI 23 : Int32) = nI 9 by decide), if_neg (show ¬ (nI 23 : Int32) = nI 10 by decide), if_neg (show ¬ (nI 23 : Int32) = nI 11 by decide), if_neg (show ¬ (nI 23 : Int32) = nI 12 by decide), if_neg (show ¬ (nI 23 : Int32) = nI 13 by decide), if_neg (show ¬ (nI 23 : Int32) = nI 14 by decide), if_neg (show ¬ (nI 23 : Int32) = nI 15 by decide), if_neg (show ¬ (nI 23 : Int32) = nI 16 by decide), if_neg (show ¬ (nI 23 : Int32) = nI 17 by decide), if_neg (show ¬ (nI 23 : Int32) = nI 18 by decide), if_neg (show ¬ (nI 23 : Int32) = nI 19 by decide), if_neg (show ¬ (nI 23 : Int32) = nI 20 by decide), if_neg (show ¬ (nI 23 : Int32) = nI 21 by decide), if_neg (show ¬ (nI 23 : Int32) = nI 22 by decide), if_pos (show (nI 23 : Int32) = nI 23 from rfl)]
  obtain ⟨z, a1, a2⟩ := sc_loop (F := F) (τ := τ) (n := n) (c := c) (s := pN s 0 (nI 0)) (q := 12) (B := 1) (by decide) (fun i hi => hb0.pl _ _ _ (show wk (1 + i) = some (2, i) by unfold wk; rw [if_neg (by omega), if_pos (by omega), show 1 + i - 1 = i by omega])) 24 0 F F (nI 0) rfl (by omega) (by omega)
  unfold o_X11_sumOf o_X12_sumCells
  rw [show (0 + 12 : Nat) = 12 from rfl, a1, a2]
  exact ⟨_, _, rfl, rfl, h0⟩
theorem cn_d (hF : 30000 ≤ F) (hI : LI τ n) (h : Rel τ n c s) (q0 : ¬ x 1 = nI 0) (q1 : ¬ x 1 = nI 1) (q2 : ¬ x 1 = nI 2) (q3 : ¬ x 1 = nI 3) (q4 : ¬ x 1 = nI 4) (q5 : ¬ x 1 = nI 5) (q6 : ¬ x 1 = nI 6) (q7 : ¬ x 1 = nI 7) (q8 : ¬ x 1 = nI 8) (q9 : ¬ x 1 = nI 9) (q10 : ¬ x 1 = nI 10) (q11 : ¬ x 1 = nI 11) (q12 : ¬ x 1 = nI 12) (q13 : ¬ x 1 = nI 13) (q14 : ¬ x 1 = nI 14) (q15 : ¬ x 1 = nI 15) (q16 : ¬ x 1 = nI 16) (q17 : ¬ x 1 = nI 17) (q18 : ¬ x 1 = nI 18) (q19 : ¬ x 1 = nI 19) (q20 : ¬ x 1 = nI 20) (q21 : ¬ x 1 = nI 21) (q22 : ¬ x 1 = nI 22) (q23 : ¬ x 1 = nI 23) : stp Rel F 36 x τ n c s := by
  show ∃ v s', o_X11_count F τ n 0 c (x 1) = some v ∧ o_X12_count F s (x 1) = some (v, s') ∧ Rel τ n c s'
  have hb0 : RB τ n c 10 (pN s 0 (nI 0)).2.1 := h.b
  have h0 := h.pn (nI 0)
  unfold o_X11_count o_X12_count o_X11_countMore
  simp only [if_neg q0, if_neg q1, if_neg q2, if_neg q3, if_neg q4, if_neg q5, if_neg q6, if_neg q7, if_neg q8, if_neg q9, if_neg q10, if_neg q11, if_neg q12, if_neg q13, if_neg q14, if_neg q15, if_neg q16, if_neg q17, if_neg q18, if_neg q19, if_neg q20, if_neg q21, if_neg q22, if_neg q23]
  exact ⟨_, _, rfl, rfl, h0⟩
theorem st36 (hF : 30000 ≤ F) (hI : LI τ n) (h : Rel τ n c s) : stp Rel F 36 x τ n c s := by
  by_cases q0 : x 1 = nI 0
  · exact cn_0 hF hI h q0
  by_cases q1 : x 1 = nI 1
  · exact cn_1 hF hI h q1
  by_cases q2 : x 1 = nI 2
  · exact cn_2 hF hI h q2
  by_cases q3 : x 1 = nI 3
  · exact cn_3 hF hI h q3
  by_cases q4 : x 1 = nI 4
  · exact cn_4 hF hI h q4
  by_cases q5 : x 1 = nI 5
  · exact cn_5 hF hI h q5
  by_cases q6 : x 1 = nI 6
  · exact cn_6 hF hI h q6
  by_cases q7 : x 1 = nI 7
  · exact cn_7 hF hI h q7
  by_cases q8 : x 1 = nI 8
  · exact cn_8 hF hI h q8
  by_cases q9 : x 1 = nI 9
  · exact cn_9 hF hI h q9
  by_cases q10 : x 1 = nI 10
  · exact cn_10 hF hI h q10
  by_cases q11 : x 1 = nI 11
  · exact cn_11 hF hI h q11
  by_cases q12 : x 1 = nI 12
  · exact cn_12 hF hI h q12
  by_cases q13 : x 1 = nI 13
  · exact cn_13 hF hI h q13
  by_cases q14 : x 1 = nI 14
  · exact cn_14 hF hI h q14
  by_cases q15 : x 1 = nI 15
  · exact cn_15 hF hI h q15
  by_cases q16 : x 1 = nI 16
  · exact cn_16 hF hI h q16
  by_cases q17 : x 1 = nI 17
  · exact cn_17 hF hI h q17
  by_cases q18 : x 1 = nI 18
  · exact cn_18 hF hI h q18
  by_cases q19 : x 1 = nI 19
  · exact cn_19 hF hI h q19
  by_cases q20 : x 1 = nI 20
  · exact cn_20 hF hI h q20
  by_cases q21 : x 1 = nI 21
  · exact cn_21 hF hI h q21
  by_cases q22 : x 1 = nI 22
  · exact cn_22 hF hI h q22
  by_cases q23 : x 1 = nI 23
  · exact cn_23 hF hI h q23
  exact cn_d hF hI h q0 q1 q2 q3 q4 q5 q6 q7 q8 q9 q10 q11 q12 q13 q14 q15 q16 q17 q18 q19 q20 q21 q22 q23
end CNT
