/-! THE PURE LAYER: a text, its things; how the reference goes on in it -/
section TXT
variable {F : Nat} {T : Nat → Int32} {L P q b e : Nat} {s : rs_S}
/-- a sign between two -/
def bw (lo hi : Nat) (x : Int32) : Bool := decide (¬ x < nI lo ∧ ¬ nI hi < x)
theorem bw_t {lo hi : Nat} {x : Int32} : bw lo hi x = true ↔ ¬ x < nI lo ∧ ¬ nI hi < x := by unfold bw; exact decide_eq_true_iff
theorem bw_1 {a : Nat} {x : Int32} : bw a a x = true ↔ x = nI a := by
  rw [bw_t]
  constructor
  · intro h; exact Int32.le_antisymm (i_nlt.mp h.2) (i_nlt.mp h.1)
  · intro h; subst h; exact ⟨fun g => Int32.lt_irrefl g, fun g => Int32.lt_irrefl g⟩
theorem bw_f {lo hi : Nat} {x : Int32} (h : ¬ bw lo hi x = true) : bw lo hi x = false := by
  cases e : bw lo hi x with
  | true => exact absurd e h
  | false => rfl
theorem bw_n {lo hi : Nat} {x : Int32} (hh : hi < 2 ^ 31) (hl : lo < 2 ^ 31) (h : bw lo hi x = true) : ∃ k, lo ≤ k ∧ k ≤ hi ∧ x = nI k := by
  obtain ⟨h1, h2⟩ := bw_t.mp h
  have z : ¬ x < nI 0 := fun q => h1 (by
    rw [Int32.lt_iff_toInt_lt] at q ⊢
    rw [nI_toInt (by decide)] at q
    rw [nI_toInt hl]
    omega)
  obtain ⟨k, k1, k2⟩ := i_in z h2 hh
  subst k2
  exact ⟨k, by
    rcases Nat.lt_or_ge k lo with g | g
    · exact absurd ((nI_ltI (by omega) hl).mpr g) h1
    · exact g, k1, rfl⟩
/-- as far as it goes on -/
def ru (p : Nat → Bool) : Nat → Nat → Nat
  | 0, q => q
  | r + 1, q => if p q = true then ru p r (q + 1) else q
theorem ru_le {p : Nat → Bool} : ∀ r q, q ≤ ru p r q ∧ ru p r q ≤ q + r := by
  intro r
  induction r with
  | zero => intro q; exact ⟨Nat.le_refl _, Nat.le_refl _⟩
  | succ r ih =>
    intro q
    rw [ru]
    by_cases g : p q = true
    · rw [if_pos g]; have := ih (q + 1); omega
    · rw [if_neg g]; omega
theorem ru_in {p : Nat → Bool} : ∀ r q j, q ≤ j → j < ru p r q → p j = true := by
  intro r
  induction r with
  | zero => intro q j h1 h2; exact absurd h2 (by rw [ru]; omega)
  | succ r ih =>
    intro q j h1 h2
    rw [ru] at h2
    by_cases g : p q = true
    · rw [if_pos g] at h2
      by_cases e : j = q
      · subst e; exact g
      · exact ih (q + 1) j (by omega) h2
    · rw [if_neg g] at h2; omega
theorem ru_at {p : Nat → Bool} : ∀ r q, ru p r q = q + r ∨ ¬ p (ru p r q) = true := by
  intro r
  induction r with
  | zero => intro q; exact Or.inl rfl
  | succ r ih =>
    intro q
    rw [ru]
    by_cases g : p q = true
    · rw [if_pos g]
      rcases ih (q + 1) with h | h
      · exact Or.inl (by omega)
      · exact Or.inr h
    · rw [if_neg g]; exact Or.inr g
theorem ru_c {p p' : Nat → Bool} : ∀ r q, (∀ j, q ≤ j → j < q + r → p' j = p j) → ru p' r q = ru p r q := by
  intro r
  induction r with
  | zero => intro q _; rfl
  | succ r ih =>
    intro q h
    rw [ru, ru, h q (by omega) (by omega), ih (q + 1) (fun j h1 h2 => h j (by omega) (by omega))]
theorem ru_y {p : Nat → Bool} {L q : Nat} (hq : q < L) (h : p q = true) : ru p (L - q) q = ru p (L - (q + 1)) (q + 1) := by
  rw [show L - q = (L - (q + 1)) + 1 by omega, ru, if_pos h]
theorem ru_n {p : Nat → Bool} {r q : Nat} (h : ¬ p q = true) : ru p r q = q := by
  cases r with
  | zero => rfl
  | succ r => rw [ru, if_neg h]
/-- where it reads, and where it began to -/
def ps (s : rs_S) (P b : Nat) : rs_S := pN (pN s 9 (nI P)) 11 (nI b)
theorem ps_9 : (ps s P b).1 9 = nI P := by unfold ps; rw [pN_n (by decide), pN_s]
theorem ps_11 : (ps s P b).1 11 = nI b := by unfold ps; rw [pN_s]
theorem ps_n {j : Nat} (h9 : j ≠ 9) (h11 : j ≠ 11) : (ps s P b).1 j = s.1 j := by unfold ps; rw [pN_n h11, pN_n h9]
theorem ps_2 : (ps s P b).2 = s.2 := rfl
theorem ps_p9 {P' : Nat} : pN (ps s P b) 9 (nI P') = ps s P' b := by
  refine Prod.ext (funext fun j => ?_) rfl
  by_cases e : j = 9
  · subst e; rw [pN_s, ps_9]
  · rw [pN_n e]
    by_cases e2 : j = 11
    · subst e2; rw [ps_11, ps_11]
    · rw [ps_n e e2, ps_n e e2]
theorem ps_p11 {b' : Nat} : pN (ps s P b) 11 (nI b') = ps s P b' := by
  refine Prod.ext (funext fun j => ?_) rfl
  by_cases e : j = 11
  · subst e; rw [pN_s, ps_11]
  · rw [pN_n e]
    by_cases e2 : j = 9
    · subst e2; rw [ps_9, ps_9]
    · rw [ps_n e2 e, ps_n e2 e]
theorem ps_id (h9 : s.1 9 = nI P) (h11 : s.1 11 = nI b) : ps s P b = s := by
  refine Prod.ext (funext fun j => ?_) rfl
  by_cases e : j = 9
  · subst e; rw [ps_9, h9]
  · by_cases e2 : j = 11
    · subst e2; rw [ps_11, h11]
    · rw [ps_n e e2]
theorem ps_o {k : Nat} {x : Int32} (h9 : k ≠ 9) (h11 : k ≠ 11) : pN (ps s P b) k x = ps (pN s k x) P b := by
  refine Prod.ext (funext fun j => ?_) rfl
  by_cases e : j = 9
  · subst e; rw [pN_n (by omega), ps_9, ps_9]
  · by_cases e2 : j = 11
    · subst e2; rw [pN_n (by omega), ps_11, ps_11]
    · rw [ps_n e e2]
      by_cases e3 : j = k
      · subst e3; rw [pN_s, pN_s]
      · rw [pN_n e3, pN_n e3, ps_n e e2]
theorem ps_W {k x : Int32} : pW (ps s P b) k x = ps (pW s k x) P b := rfl
/-- the text that lies on the tape -/
def Tx (s : rs_S) (T : Nat → Int32) (L : Nat) : Prop := s.1 10 = nI L ∧ L ≤ 400 ∧ ∀ i, i < 400 → s.2.2 4 i = T i
theorem o_at_e {x y : Int32} (h : Tx s T L) : o_X12_isAt (ps s L b) x y = some (nI 0) := by
  unfold o_X12_isAt
  rw [ps_9, ps_n (by decide) (by decide), h.1, if_pos (Int32.le_refl _)]
theorem o_at_l {lo hi : Nat} (h : Tx s T L) (hq : q < L) : o_X12_isAt (ps s q b) (nI lo) (nI hi) = some (if bw lo hi (T q) = true then nI 1 else nI 0) := by
  have h4 := h.2.1
  unfold o_X12_isAt
  rw [ps_9, ps_n (by decide) (by decide), h.1, if_neg (nI_no (by omega) (by omega) hq), if_pos (iL_t (show q < 400 by omega) (by decide)), gR_n _ _ (by omega), show (ps s q b).2.2 4 q = T q from h.2.2 q (by omega)]
  by_cases g1 : T q < nI lo
  · rw [if_pos g1, if_neg (fun g => (bw_t.mp g).1 g1)]
  · rw [if_neg g1]
    by_cases g2 : nI hi < T q
    · rw [if_pos g2, if_neg (fun g => (bw_t.mp g).2 g2)]
    · rw [if_neg g2, if_pos (bw_t.mpr ⟨g1, g2⟩)]
theorem n10 : ¬ (nI 1 : Int32) = 0 := by decide
theorem bl_loop (h : Tx s T L) : ∀ (r q f : Nat), q + r = L → r < f → o_X12_blanks_0 F f (ps s q b) = some (ps s (ru (fun j => bw 32 32 (T j)) r q) b) := by
  have h4 := h.2.1
  intro r
  induction r with
  | zero =>
    intro q f hq hf
    obtain ⟨f, rfl⟩ : ∃ x, f = x + 1 := ⟨f - 1, by omega⟩
    have : q = L := by omega
    subst this
    rw [o_X12_blanks_0, o_at_e h, Option.bind_some, if_pos nI_0, ru]
  | succ r ih =>
    intro q f hq hf
    obtain ⟨f, rfl⟩ : ∃ x, f = x + 1 := ⟨f - 1, by omega⟩
    rw [o_X12_blanks_0, o_at_l h (by omega), Option.bind_some, ru]
    by_cases g : bw 32 32 (T q) = true
    · rw [if_pos g, if_neg n10, if_pos g, ps_9, nI_add, ps_p9]
      exact ih (q + 1) f (by omega) (by omega)
    · rw [if_neg g, if_pos nI_0, if_neg g]
/-- past the blanks -/
def nb (T : Nat → Int32) (L q : Nat) : Nat := ru (fun j => bw 32 32 (T j)) (L - q) q
theorem nb_le (hq : q ≤ L) : q ≤ nb T L q ∧ nb T L q ≤ L := by
  have := ru_le (p := fun j => bw 32 32 (T j)) (L - q) q
  unfold nb
  omega
theorem nb_ns (hq : q ≤ L) (h : nb T L q < L) : ¬ T (nb T L q) = nI 32 := by
  rcases ru_at (p := fun j => bw 32 32 (T j)) (L - q) q with g | g
  · unfold nb at h; omega
  · intro e; exact g (bw_1.mpr e)
theorem nb_id (h : q = L ∨ ¬ T q = nI 32) : nb T L q = q := by
  unfold nb
  rcases h with h | h
  · subst h; rw [Nat.sub_self, ru]
  · exact ru_n (fun g => h (bw_1.mp g))
theorem nb_sp (hq : q < L) (h : T q = nI 32) : nb T L q = nb T L (q + 1) := ru_y hq (bw_1.mpr h)
theorem o_blanks (hF : 401 < F) (h : Tx s T L) (hP : P ≤ L) : o_X12_blanks F (ps s P b) = some (ps s (nb T L P) (nb T L P)) := by
  have h4 := h.2.1
  unfold o_X12_blanks
  rw [bl_loop h (L - P) P F (by omega) (by omega), Option.bind_some, ps_9, ps_p11]
  rfl
theorem wo_loop (h : Tx s T L) : ∀ (r q f : Nat), q + r = L → r < f → o_X12_word_4 F f (ps s q b) = some (ps s (ru (fun j => bw 97 122 (T j)) r q) b) := by
  have h4 := h.2.1
  intro r
  induction r with
  | zero =>
    intro q f hq hf
    obtain ⟨f, rfl⟩ : ∃ x, f = x + 1 := ⟨f - 1, by omega⟩
    have : q = L := by omega
    subst this
    rw [o_X12_word_4, o_at_e h, Option.bind_some, if_pos nI_0, ru]
  | succ r ih =>
    intro q f hq hf
    obtain ⟨f, rfl⟩ : ∃ x, f = x + 1 := ⟨f - 1, by omega⟩
    rw [o_X12_word_4, o_at_l h (by omega), Option.bind_some, ru]
    by_cases g : bw 97 122 (T q) = true
    · rw [if_pos g, if_neg n10, if_pos g, ps_9, nI_add, ps_p9]
      exact ih (q + 1) f (by omega) (by omega)
    · rw [if_neg g, if_pos nI_0, if_neg g]
/-- past the letters, past the digits -/
def wd (T : Nat → Int32) (L q : Nat) : Nat := ru (fun j => bw 97 122 (T j)) (L - q) q
def dg (T : Nat → Int32) (L q : Nat) : Nat := ru (fun j => bw 48 57 (T j)) (L - q) q
theorem wd_le (hq : q ≤ L) : q ≤ wd T L q ∧ wd T L q ≤ L := by
  have := ru_le (p := fun j => bw 97 122 (T j)) (L - q) q
  unfold wd
  omega
theorem dg_le (hq : q ≤ L) : q ≤ dg T L q ∧ dg T L q ≤ L := by
  have := ru_le (p := fun j => bw 48 57 (T j)) (L - q) q
  unfold dg
  omega
theorem o_word (hF : 401 < F) (h : Tx s T L) (hP : P ≤ L) : o_X12_word F (ps s P b) = some (ps s (wd T L (nb T L P)) (nb T L P)) := by
  have h4 := h.2.1
  have h5 := nb_le (T := T) hP
  unfold o_X12_word
  rw [o_blanks hF h hP, Option.bind_some, wo_loop h (L - nb T L P) (nb T L P) F (by omega) (by omega), Option.bind_some]
  rfl
/-- what digits say -/
def vl (T : Nat → Int32) (b : Nat) : Nat → Int32
  | 0 => nI 0
  | j + 1 => nI 10 * vl T b j + T (b + j) - nI 48
theorem nu_loop {l1 : Int32} (h : Tx s T L) : ∀ (r q f : Nat), b ≤ q → q + r = L → r < f → o_X12_number_6 F l1 f (vl T b (min (q - b) 6)) (ps s q b) = some (vl T b (min (ru (fun j => bw 48 57 (T j)) r q - b) 6), ps s (ru (fun j => bw 48 57 (T j)) r q) b) := by
  have h4 := h.2.1
  intro r
  induction r with
  | zero =>
    intro q f hb hq hf
    obtain ⟨f, rfl⟩ : ∃ x, f = x + 1 := ⟨f - 1, by omega⟩
    have : q = L := by omega
    subst this
    rw [o_X12_number_6, o_at_e h, Option.bind_some, if_pos nI_0, ru]
  | succ r ih =>
    intro q f hb hq hf
    obtain ⟨f, rfl⟩ : ∃ x, f = x + 1 := ⟨f - 1, by omega⟩
    rw [o_X12_number_6, o_at_l h (by omega), Option.bind_some, ru]
    by_cases g : bw 48 57 (T q) = true
    · rw [if_pos g, if_neg n10, if_pos g, ps_9, ps_11, nI_sub hb, nI_add, ps_p9]
      have := ih (q + 1) f (by omega) (by omega) (by omega)
      by_cases g6 : 6 ≤ q - b
      · rw [if_pos (nI_yes (by decide) (by omega) g6), show min (q - b) 6 = min (q + 1 - b) 6 by omega]
        exact this
      · rw [if_neg (nI_no (by decide) (by omega) (by omega)), if_pos (iL_t (show q < 400 by omega) (by decide)), gR_n _ _ (by omega), show (ps s q b).2.2 4 q = T q from h.2.2 q (by omega)]
        rw [show min (q + 1 - b) 6 = (q - b) + 1 by omega, vl, show b + (q - b) = q by omega] at this
        rw [show min (q - b) 6 = q - b by omega]
        exact this
    · rw [if_neg g, if_pos nI_0, if_neg g]
theorem o_num {a1 : Int32} (hF : 401 < F) (h : Tx s T L) (hP : P ≤ L) (hq : nb T L P = q) (he : dg T L q = e) : o_X12_number F (ps s P b) a1 = some (if e = q then -1 else if 6 < e - q then -1 else if vl T q (e - q) ≤ a1 then vl T q (e - q) else -1, ps s e q) := by
  have h4 := h.2.1
  have h5 := nb_le (T := T) hP
  rw [hq] at h5
  have h6 := dg_le (T := T) h5.2
  rw [he] at h6
  have nl := nu_loop (F := F) (b := q) (l1 := a1) h (L - q) q F (Nat.le_refl _) (by omega) (by omega)
  rw [show min (q - q) 6 = 0 by omega, show ru (fun j => bw 48 57 (T j)) (L - q) q = e from he] at nl
  unfold o_X12_number
  rw [o_blanks hF h hP, Option.bind_some, hq, show nI 0 = vl T q 0 from rfl, nl, Option.bind_some]
  simp only [ps_9, ps_11]
  by_cases g : e = q
  · rw [if_pos (by rw [g]), if_pos g]
  · rw [if_neg (nI_inj (by omega) (by omega) g), if_neg g, nI_sub h6.1]
    by_cases g6 : 6 < e - q
    · rw [if_pos ((nI_ltI (by decide) (by omega)).mpr g6), if_pos g6]
    · rw [if_neg (fun e => g6 ((nI_ltI (by decide) (by omega)).mp e)), if_neg g6, show min (e - q) 6 = e - q by omega]
      by_cases gv : vl T q (e - q) ≤ a1
      · rw [if_pos gv, if_pos gv]
      · rw [if_neg gv, if_neg gv]
/-- the text says a word -/
def eqw (T : Nat → Int32) (b len i : Nat) : Prop := len = sl i ∧ ∀ j, j < sl i → T (b + j) = sch i j
theorem sl_100 : ∀ i, i < 41 → sl i ≤ 100 := by decide +kernel
theorem iw_loop {i : Nat} (h : Tx s T L) (hi : i < 41) (hb : b + sl i ≤ L) : ∀ (r j f : Nat), j + r = sl i → r + 1 < f → o_X12_isWord_24 F i (ps s q b) f (nI 1) (nI j) = some (ifc (∀ j', j ≤ j' → j' < sl i → T (b + j') = sch i j') (nI 1) (nI 0)) := by
  have h4 := h.2.1
  intro r
  induction r with
  | zero =>
    intro j f hj hf
    obtain ⟨f, rfl⟩ : ∃ x, f = x + 1 := ⟨f - 1, by omega⟩
    rw [o_X12_isWord_24, if_neg n10, if_pos hi, if_pos (nI_yes (by omega) (by omega) (by omega)), ifc_pos (fun j' h1 h2 => absurd h2 (by omega))]
  | succ r ih =>
    intro j f hj hf
    obtain ⟨f, rfl⟩ : ∃ x, f = x + 1 := ⟨f - 1, by omega⟩
    rw [o_X12_isWord_24, if_neg n10, if_pos hi, if_neg (nI_no (by omega) (by omega) (by omega)), ps_11, nI_add, nI_add, if_pos (iL_t (show b + j < 400 by omega) (by decide)), if_pos (iL_t (show j < sl i by omega) (by omega)), gR_n _ _ (by omega), nI_clamp (by omega), show (ps s q b).2.2 4 (b + j) = T (b + j) from h.2.2 _ (by omega)]
    by_cases g : T (b + j) = sch i j
    · rw [if_pos g, ih (j + 1) f (by omega) (by omega)]
      refine congrArg some (ifc_iff ⟨fun k j' h1 h2 => ?_, fun k j' h1 h2 => k j' (by omega) h2⟩)
      by_cases e : j' = j
      · subst e; exact g
      · exact k j' (by omega) h2
    · obtain ⟨f, rfl⟩ : ∃ x, f = x + 1 := ⟨f - 1, by omega⟩
      rw [if_neg g, o_X12_isWord_24, if_pos nI_0, ifc_neg (fun k => g (k j (Nat.le_refl _) (by omega)))]
theorem o_isW {i : Nat} (hF : 401 < F) (h : Tx s T L) (hi : i < 41) (hb : b ≤ q) (hq : q ≤ L) : o_X12_isWord F (ps s q b) i = some (ifc (eqw T b (q - b) i) (nI 1) (nI 0)) := by
  have h4 := h.2.1
  have h1 := sl_100 i hi
  unfold o_X12_isWord
  rw [if_pos hi, ps_9, ps_11, nI_sub hb]
  by_cases g : q - b = sl i
  · rw [if_pos (by rw [g]), iw_loop h hi (by omega) (sl i) 0 F (Nat.zero_add _) (by omega), Option.bind_some]
    by_cases g2 : ∀ j', 0 ≤ j' → j' < sl i → T (b + j') = sch i j'
    · rw [ifc_pos g2, ifc_pos ⟨g, fun j hj => g2 j (Nat.zero_le _) hj⟩, if_pos (Or.inr rfl)]
    · rw [ifc_neg g2, ifc_neg (fun e => g2 (fun j _ hj => e.2 j hj)), if_pos (Or.inl rfl)]
  · obtain ⟨f, rfl⟩ : ∃ x, F = x + 1 := ⟨F - 1, by omega⟩
    rw [if_neg (nI_inj (by omega) (by omega) g), o_X12_isWord_24, if_pos nI_0, Option.bind_some, ifc_neg (fun e => g e.1), if_pos (Or.inl rfl)]
theorem o_pas {i : Nat} (hF : 401 < F) (h : Tx s T L) (hi : i < 41) (hP : P ≤ L) (hq : nb T L P = q) : (eqw T q (wd T L q - q) i → o_X12_passes F (ps s P b) i = some (nI 1, ps s (wd T L q) q)) ∧ (¬ eqw T q (wd T L q - q) i → o_X12_passes F (ps s P b) i = some (nI 0, ps s q q)) := by
  have h5 := nb_le (T := T) hP
  rw [hq] at h5
  have h6 := wd_le (T := T) h5.2
  unfold o_X12_passes
  rw [o_word hF h hP, Option.bind_some, hq, o_isW hF h hi h6.1 h6.2, Option.bind_some]
  exact ⟨fun g => by rw [ifc_pos g, if_neg n10], fun g => by rw [ifc_neg g, if_pos nI_0, ps_11, ps_p9]⟩
theorem o_sgn {ch : Nat} (hF : 401 < F) (h : Tx s T L) (hP : P ≤ L) (hq : nb T L P = q) : ((q < L ∧ T q = nI ch) → o_X12_sign F (ps s P b) (nI ch) = some (nI 1, ps s (q + 1) q)) ∧ (¬ (q < L ∧ T q = nI ch) → o_X12_sign F (ps s P b) (nI ch) = some (nI 0, ps s q q)) := by
  have h5 := nb_le (T := T) hP
  rw [hq] at h5
  unfold o_X12_sign
  rw [o_blanks hF h hP, Option.bind_some, hq]
  refine ⟨fun g => ?_, fun g => ?_⟩
  · rw [o_at_l h g.1, Option.bind_some, if_pos (bw_1.mpr g.2), if_neg n10, ps_9, nI_add, ps_p9]
  · rcases Nat.lt_or_ge q L with g2 | g2
    · rw [o_at_l h g2, Option.bind_some, if_neg (fun e => g ⟨g2, bw_1.mp e⟩), if_pos nI_0]
    · have : q = L := by omega
      subst this
      rw [o_at_e h, Option.bind_some, if_pos nI_0]
/-- a step more -/
def adS (s : rs_S) (m : Nat) (x y : Int32) : rs_S := pN (pW (pW s (nI (21416 + 2 * m)) x) (nI (21417 + 2 * m)) y) 15 (nI (m + 1))
theorem o_adds {m : Nat} {x y : Int32} (hm : m < 400) (h15 : s.1 15 = nI m) : o_X12_adds (ps s P b) x y = some (ps (adS s m x y) P b) := by
  unfold o_X12_adds
  rw [o_actAt, Option.bind_some, ps_n (by decide) (by decide), h15, nI_add, nI_mul, nI_add, nI_add, show 2812 + 882 * 21 + 82 + 2 * m = 21416 + 2 * m by omega, show 21416 + 2 * m + 1 = 21417 + 2 * m by omega, if_pos (iL_t (show 21416 + 2 * m < 22216 by omega) (by decide)), if_pos (iL_t (show 21417 + 2 * m < 22216 by omega) (by decide)), ps_W, ps_W, ps_n (by decide) (by decide), show (pW (pW s (nI (21416 + 2 * m)) x) (nI (21417 + 2 * m)) y).1 15 = nI m from h15, nI_add, ps_o (by decide) (by decide)]
  rfl
end TXT
