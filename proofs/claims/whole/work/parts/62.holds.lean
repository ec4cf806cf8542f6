/-! THE PURE LAYER: bits; conditions -/
/-- one of two, by a condition that nobody need decide -/
noncomputable def ifc {α : Type} (P : Prop) (a b : α) : α := @ite α P (Classical.propDecidable P) a b
theorem ifc_pos {α : Type} {P : Prop} {a b : α} (h : P) : ifc P a b = a := by unfold ifc; exact @if_pos P (Classical.propDecidable P) h α a b
theorem ifc_neg {α : Type} {P : Prop} {a b : α} (h : ¬ P) : ifc P a b = b := by unfold ifc; exact @if_neg P (Classical.propDecidable P) h α a b
theorem i_nlt {x y : Int32} : ¬ x < y ↔ y ≤ x := by rw [Int32.lt_iff_toInt_lt, Int32.le_iff_toInt_le]; omega
theorem nI_and (a b : Nat) : nI a &&& nI b = nI (a &&& b) := by
  rw [← Int32.toBitVec_inj, Int32.toBitVec_and]
  exact BitVec.ofNat_and.symm
theorem nI_or (a b : Nat) : nI a ||| nI b = nI (a ||| b) := by
  rw [← Int32.toBitVec_inj, Int32.toBitVec_or]
  exact BitVec.ofNat_or.symm
theorem nI_xor (a b : Nat) : nI a ^^^ nI b = nI (a ^^^ b) := by
  rw [← Int32.toBitVec_inj, Int32.toBitVec_xor]
  exact BitVec.ofNat_xor.symm
theorem sh_j : ∀ j, j < 32 → ((nI j &&& 31).toBitVec.smod 32).toNat = j := by decide
theorem nI_shl {k j : Nat} (hj : j < 32) : nI k <<< (nI j &&& 31) = nI (k * 2 ^ j) := by
  rw [← Int32.toBitVec_inj, Int32.toBitVec_shiftLeft, BitVec.shiftLeft_eq', sh_j j hj]
  apply BitVec.eq_of_toNat_eq
  rw [BitVec.toNat_shiftLeft]
  show (BitVec.ofNat 32 k).toNat <<< j % 2 ^ 32 = (BitVec.ofNat 32 (k * 2 ^ j)).toNat
  rw [BitVec.toNat_ofNat, BitVec.toNat_ofNat, Nat.shiftLeft_eq, Nat.mod_mul_mod]
theorem nI_shr {k j : Nat} (hk : k < 2 ^ 31) (hj : j < 32) : nI k >>> (nI j &&& 31) = nI (k / 2 ^ j) := by
  rw [← Int32.toBitVec_inj, Int32.toBitVec_shiftRight, BitVec.sshiftRight', sh_j j hj]
  have h1 : (nI k).toBitVec = BitVec.ofNat 32 k := rfl
  have h2 : (nI (k / 2 ^ j)).toBitVec = BitVec.ofNat 32 (k / 2 ^ j) := rfl
  rw [h1, h2, BitVec.sshiftRight_eq_of_msb_false]
  · apply BitVec.eq_of_toNat_eq
    rw [BitVec.toNat_ushiftRight, BitVec.toNat_ofNat, BitVec.toNat_ofNat, Nat.mod_eq_of_lt (by omega), Nat.shiftRight_eq_div_pow, Nat.mod_eq_of_lt]
    have := Nat.div_le_self k (2 ^ j)
    omega
  · rw [BitVec.msb_eq_false_iff_two_mul_lt, BitVec.toNat_ofNat, Nat.mod_eq_of_lt (by omega)]
    omega
theorem bt_and (a b : Nat) (hb : b < 2) : (2 * a + b) &&& 1 = b := by rw [Nat.and_one_is_mod]; omega
theorem bt_or0 (a : Nat) : 2 * a ||| 0 = 2 * a := Nat.or_zero _
theorem bt_or (a b : Nat) (hb : b < 2) : (2 * a) ||| b = 2 * a + b := by
  have := Nat.two_pow_add_eq_or_of_lt (i := 1) (b := b) (by omega) a
  simpa using this.symm
theorem bt_or1 (a b : Nat) (hb : b < 2) : (2 * a + 1) ||| b = 2 * a + 1 := by
  apply Nat.eq_of_testBit_eq
  intro i
  cases i with
  | zero => simp
  | succ i =>
    rw [Nat.testBit_or, Nat.testBit_succ, Nat.testBit_succ, show (2 * a + 1) / 2 = a by omega, show b / 2 = 0 by omega]
    simp
theorem bt_xor (a b : Nat) (hb : b < 2) : (2 * a + b) ^^^ 1 = 2 * a + (1 - b) := by
  apply Nat.eq_of_testBit_eq
  intro i
  cases i with
  | zero => simp; omega
  | succ i =>
    rw [Nat.testBit_xor, Nat.testBit_succ, Nat.testBit_succ, Nat.testBit_succ]
    rw [show (2 * a + b) / 2 = a by omega, show (2 * a + (1 - b)) / 2 = a by omega]
    simp
theorem nI_m2 {a b : Nat} (ha : 2 * a + b < 2 ^ 31) (hb : b < 2) : nI (2 * a + b) &&& (-2) = nI (2 * a) := by
  rw [← Int32.toBitVec_inj, Int32.toBitVec_and]
  apply BitVec.eq_of_toNat_eq
  have h1 : (nI (2 * a + b)).toBitVec = BitVec.ofNat 32 (2 * a + b) := rfl
  have h2 : (nI (2 * a)).toBitVec = BitVec.ofNat 32 (2 * a) := rfl
  rw [h1, h2, BitVec.toNat_and, BitVec.toNat_ofNat, BitVec.toNat_ofNat, Nat.mod_eq_of_lt (by omega), Nat.mod_eq_of_lt (by omega), show ((-2 : Int32).toBitVec).toNat = 2 * (2 ^ 31 - 1) by decide]
  apply Nat.eq_of_testBit_eq
  intro i
  cases i with
  | zero => simp
  | succ i =>
    rw [Nat.testBit_and, Nat.testBit_succ, Nat.testBit_succ, Nat.testBit_succ, show (2 * a + b) / 2 = a by omega, show 2 * a / 2 = a by omega, show 2 * (2 ^ 31 - 1) / 2 = 2 ^ 31 - 1 by omega, Nat.testBit_two_pow_sub_one]
    by_cases q : i < 31
    · simp [q]
    · have : a < 2 ^ i := Nat.lt_of_lt_of_le (show a < 2 ^ 31 by omega) (Nat.pow_le_pow_right (by decide) (by omega))
      rw [Nat.testBit_lt_two_pow this]; rfl
/-- answers that wait, as the class keeps them -/
def ebt (g : Nat → Int32) : Nat → Nat
  | 0 => 1
  | h + 1 => 2 * ebt g h + (if g h = 0 then 0 else 1)
theorem en_lt (g : Nat → Int32) : ∀ h, ebt g h < 2 ^ (h + 1) := by
  intro h
  induction h with
  | zero => exact (by decide : 1 < 2 ^ 1)
  | succ h ih => rw [ebt, Nat.pow_succ]; split <;> omega
theorem en_20 (g : Nat → Int32) {h : Nat} (hh : h ≤ 20) : ebt g h < 2 ^ 21 := Nat.lt_of_lt_of_le (en_lt g h) (Nat.pow_le_pow_right (by decide) (by omega))
theorem en_same {g g' : Nat → Int32} : ∀ h, (∀ k, k < h → g' k = g k) → ebt g' h = ebt g h := by
  intro h
  induction h with
  | zero => intro _; rfl
  | succ h ih => intro e; rw [ebt, ebt, ih (fun k hk => e k (by omega)), e h (by omega)]
theorem en_up {g : Nat → Int32} {h k : Nat} {x : Int32} (hk : h ≤ k) : ebt (upd g k x) h = ebt g h := en_same _ (fun j hj => upd_n (by omega))
theorem en_push {g : Nat → Int32} {h : Nat} {x : Int32} : ebt (upd g h x) (h + 1) = 2 * ebt g h + (if x = 0 then 0 else 1) := by rw [ebt, en_up (Nat.le_refl _), upd_s]
def hs1 (x : Int32) (g : Nat) : Option Nat := if x = nI 24 then (if 1 ≤ g then some g else none) else if x = nI 25 ∨ x = nI 26 then (if 2 ≤ g then some (g - 1) else none) else (if g < 20 then some (g + 1) else none)
theorem hgt_s (f : Nat → Int32) (i r h : Nat) : hgt f i (r + 1) h = (hgt f i r h).bind (hs1 (f (i + r))) := rfl
theorem hgt_c (f : Nat → Int32) (i : Nat) : ∀ r h, hgt f i (r + 1) h = (hs1 (f i) h).bind (hgt f (i + 1) r) := by
  intro r
  induction r with
  | zero =>
    intro h
    rw [hgt_s]
    show (some h).bind (hs1 (f (i + 0))) = (hs1 (f i) h).bind (fun g => some g)
    rw [Option.bind_some, Nat.add_zero, Option.bind_fun_some]
  | succ r ih =>
    intro h
    rw [hgt_s, ih, Option.bind_assoc, show i + (r + 1) = i + 1 + r by omega]
    rfl
/-- what is asked: the class's row of facts and the reference's -/
def RF (c : cS) (q : Nat) (s : rs_S) : Prop := (∀ k, k < 6 → c.1 q k = if s.1 18 = nI k then nI 1 else nI 0) ∧ (∃ t, t < 2 ∧ c.1 q 6 = nI t ∧ s.1 19 = nI t) ∧ ∀ k, k < 5 → c.1 q (7 + k) = s.2.2 7 k
/-- only the row of answers differs -/
def S6 (s s' : rs_S) : Prop := s'.1 = s.1 ∧ s'.2.1 = s.2.1 ∧ ∀ k, k ≠ 6 → s'.2.2 k = s.2.2 k
theorem S6.refl (s : rs_S) : S6 s s := ⟨rfl, rfl, fun _ _ => rfl⟩
theorem S6.trans {s s' s'' : rs_S} (h : S6 s s') (h' : S6 s' s'') : S6 s s'' := ⟨h'.1.trans h.1, h'.2.1.trans h.2.1, fun k hk => (h'.2.2 k hk).trans (h.2.2 k hk)⟩
theorem S6.p6 (s : rs_S) (i x : Int32) : S6 s (pR s 6 i x) := ⟨rfl, rfl, fun k hk => va_up_ne _ _ hk⟩
theorem S6.rf {c : cS} {q : Nat} {s s' : rs_S} (h : S6 s s') (r : RF c q s) : RF c q s' := ⟨fun k hk => by rw [h.1]; exact r.1 k hk, by rw [h.1]; exact r.2.1, fun k hk => by rw [h.2.2 7 (by decide)]; exact r.2.2 k hk⟩
theorem row6 (s : rs_S) {k : Nat} (hk : k < 2 ^ 31) (x : Int32) : (pR s 6 (nI k) x).2.2 6 = upd (s.2.2 6) k x := by
  show va_up s.2.2 6 (upd (s.2.2 6) (nI k).toNatClampNeg x) 6 = _
  rw [va_up_self, nI_clamp hk]
theorem nI_sub {a b : Nat} (h : b ≤ a) : nI a - nI b = nI (a - b) := by
  have e : nI a = nI (a - b) + nI b := by rw [nI_add, Nat.sub_add_cancel h]
  rw [e, Int32.add_sub_cancel]
theorem nI_neg1 {a : Nat} (h : 1 ≤ a) : nI a + (-1) = nI (a - 1) := by
  rw [← Int32.sub_eq_add_neg]; exact nI_sub h
section HOLDS
variable {F : Nat} {τ : cT} {n p q a i e : Nat} {c : cS}
theorem cl_end {f j : Nat} {y : Int32} (h3 : i < tl τ (p + 3)) (h3' : tl τ (p + 3) ≤ 20) (he : c.1 (p + 3) i = nI e) (hj : e ≤ j) (hj2 : j ≤ 400) : o_X0_holds_20 F τ n p q (nI i) c (f + 1) y (nI j) = some y := by
  rw [o_X0_holds_20, if_pos (iL_t h3 (by omega)), cg_n _ _ (by omega), he, if_pos ((nI_leI (by omega) (by omega)).mpr hj)]
theorem cl_u {f j : Nat} {y : Int32} (h3 : i < tl τ (p + 3)) (h3' : tl τ (p + 3) ≤ 20) (he : c.1 (p + 3) i = nI e) (hj : j < e) (h4 : e ≤ tl τ (p + 4)) (h4' : tl τ (p + 4) ≤ 400) (h5 : tl τ (p + 5) = tl τ (p + 4)) :
    o_X0_holds_20 F τ n p q (nI i) c (f + 1) y (nI j) =
    if c.1 (p + 4) j = nI 24 then o_X0_holds_20 F τ n p q (nI i) c f (y ^^^ nI 1) (nI (j + 1))
    else if c.1 (p + 4) j = nI 25 then (if y &&& nI 1 = nI 1 then o_X0_holds_20 F τ n p q (nI i) c f (y >>> (nI 1 &&& 31)) (nI (j + 1)) else o_X0_holds_20 F τ n p q (nI i) c f ((y >>> (nI 1 &&& 31)) &&& (-2)) (nI (j + 1)))
    else if c.1 (p + 4) j = nI 26 then o_X0_holds_20 F τ n p q (nI i) c f ((y >>> (nI 1 &&& 31)) ||| (y &&& nI 1)) (nI (j + 1))
    else if c.1 (p + 4) j < nI 12 then (if iL (c.1 (p + 4) j) 12 then (if c.1 (p + 5) j ≤ cg c q (c.1 (p + 4) j) then o_X0_holds_20 F τ n p q (nI i) c f ((y <<< (nI 1 &&& 31)) ||| nI 0) (nI (j + 1)) else o_X0_holds_20 F τ n p q (nI i) c f ((y <<< (nI 1 &&& 31)) ||| nI 1) (nI (j + 1))) else none)
    else (if iL (c.1 (p + 4) j - nI 12) 12 then (if cg c q (c.1 (p + 4) j - nI 12) ≤ c.1 (p + 5) j then o_X0_holds_20 F τ n p q (nI i) c f ((y <<< (nI 1 &&& 31)) ||| nI 0) (nI (j + 1)) else o_X0_holds_20 F τ n p q (nI i) c f ((y <<< (nI 1 &&& 31)) ||| nI 1) (nI (j + 1))) else none) := by
  rw [o_X0_holds_20, if_pos (iL_t h3 (by omega)), cg_n _ _ (show i < 2 ^ 31 by omega), he, if_neg (nI_ge hj (by omega)), if_pos (iL_t (show j < tl τ (p + 4) by omega) (by omega)), cg_n _ _ (show j < 2 ^ 31 by omega), cg_n _ (p + 5) (show j < 2 ^ 31 by omega), if_pos (iL_t (show j < tl τ (p + 5) by omega) (by omega)), nI_add]
  simp only [if_pos (iL_t (show j < tl τ (p + 5) by omega) (show tl τ (p + 5) < 2 ^ 31 by omega))]
theorem re_end {f j h : Nat} {s : rs_S} (ha : a ≤ 21) (hi : i < 20) (he : s.2.1 (2812 + 882 * a + 2 + 4 * i + 3) = nI e) (hj : e ≤ j) (hj2 : j ≤ 400) : o_X12_holds_24 F (nI a) (nI (2812 + 882 * a + 2 + 4 * i)) (f + 1) (nI h) (nI j) s = some (nI h, s) := by
  rw [o_X12_holds_24, nI_add, if_pos (iL_t (show 2812 + 882 * a + 2 + 4 * i + 3 < 22216 by omega) (by decide)), gW_n _ (by omega), he, if_pos ((nI_leI (by omega) (by omega)).mpr hj)]
/-- the step and the limit at j; then what follows -/
theorem re_u {f j : Nat} {h : Int32} {s : rs_S} {y : Int32} (ha : a ≤ 21) (hi : i < 20) (he : s.2.1 (2812 + 882 * a + 2 + 4 * i + 3) = nI e) (hj : j < e) (hj2 : e ≤ 400) (hy : s.2.1 (2812 + 882 * a + 82 + 2 * j) = y) :
    o_X12_holds_24 F (nI a) (nI (2812 + 882 * a + 2 + 4 * i)) (f + 1) h (nI j) s =
    if y = nI 300 then (if iL (h - nI 1) 400 then (if gR s 6 (h - nI 1) = 0 then o_X12_holds_24 F (nI a) (nI (2812 + 882 * a + 2 + 4 * i)) f h (nI (j + 1)) (pR s 6 (h - nI 1) (nI 1)) else o_X12_holds_24 F (nI a) (nI (2812 + 882 * a + 2 + 4 * i)) f h (nI (j + 1)) (pR s 6 (h - nI 1) (nI 0))) else none)
    else if y = nI 301 then (if iL (h + (-1) - nI 1) 400 then (if gR s 6 (h + (-1) - nI 1) = 0 then o_X12_holds_24 F (nI a) (nI (2812 + 882 * a + 2 + 4 * i)) f (h + (-1)) (nI (j + 1)) (pR s 6 (h + (-1) - nI 1) (nI 0)) else (if iL (h + (-1)) 400 then (if gR s 6 (h + (-1)) = 0 then o_X12_holds_24 F (nI a) (nI (2812 + 882 * a + 2 + 4 * i)) f (h + (-1)) (nI (j + 1)) (pR s 6 (h + (-1) - nI 1) (nI 0)) else o_X12_holds_24 F (nI a) (nI (2812 + 882 * a + 2 + 4 * i)) f (h + (-1)) (nI (j + 1)) (pR s 6 (h + (-1) - nI 1) (nI 1))) else none)) else none)
    else if y = nI 302 then (if iL (h + (-1) - nI 1) 400 then (if gR s 6 (h + (-1) - nI 1) = 0 then (if iL (h + (-1)) 400 then (if gR s 6 (h + (-1)) = 0 then o_X12_holds_24 F (nI a) (nI (2812 + 882 * a + 2 + 4 * i)) f (h + (-1)) (nI (j + 1)) (pR s 6 (h + (-1) - nI 1) (nI 0)) else o_X12_holds_24 F (nI a) (nI (2812 + 882 * a + 2 + 4 * i)) f (h + (-1)) (nI (j + 1)) (pR s 6 (h + (-1) - nI 1) (nI 1))) else none) else o_X12_holds_24 F (nI a) (nI (2812 + 882 * a + 2 + 4 * i)) f (h + (-1)) (nI (j + 1)) (pR s 6 (h + (-1) - nI 1) (nI 1))) else none)
    else if nI 7 ≤ y then (if nI 200 ≤ y then (if iL (y - nI 200) 5 then (if gR s 7 (y - nI 200) ≤ s.2.1 (2812 + 882 * a + 82 + 2 * j + 1) then (if iL h 400 then o_X12_holds_24 F (nI a) (nI (2812 + 882 * a + 2 + 4 * i)) f (h + nI 1) (nI (j + 1)) (pR s 6 h (nI 0)) else none) else (if iL h 400 then o_X12_holds_24 F (nI a) (nI (2812 + 882 * a + 2 + 4 * i)) f (h + nI 1) (nI (j + 1)) (pR s 6 h (nI 1)) else none)) else none) else (if iL (y - nI 100) 5 then (if s.2.1 (2812 + 882 * a + 82 + 2 * j + 1) ≤ gR s 7 (y - nI 100) then (if iL h 400 then o_X12_holds_24 F (nI a) (nI (2812 + 882 * a + 2 + 4 * i)) f (h + nI 1) (nI (j + 1)) (pR s 6 h (nI 0)) else none) else (if iL h 400 then o_X12_holds_24 F (nI a) (nI (2812 + 882 * a + 2 + 4 * i)) f (h + nI 1) (nI (j + 1)) (pR s 6 h (nI 1)) else none)) else none))
    else (if y = nI 6 then (if iL h 400 then o_X12_holds_24 F (nI a) (nI (2812 + 882 * a + 2 + 4 * i)) f (h + nI 1) (nI (j + 1)) (pR s 6 h (vp_nar .boolean (s.1 19))) else none) else (if s.1 18 = y then (if iL h 400 then o_X12_holds_24 F (nI a) (nI (2812 + 882 * a + 2 + 4 * i)) f (h + nI 1) (nI (j + 1)) (pR s 6 h (nI 1)) else none) else (if iL h 400 then o_X12_holds_24 F (nI a) (nI (2812 + 882 * a + 2 + 4 * i)) f (h + nI 1) (nI (j + 1)) (pR s 6 h (nI 0)) else none))) := by
  have v0 : vp_nar .boolean (nI 0) = nI 0 := by decide
  have v1 : vp_nar .boolean (nI 1) = nI 1 := by decide
  rw [o_X12_holds_24, nI_add, if_pos (iL_t (show 2812 + 882 * a + 2 + 4 * i + 3 < 22216 by omega) (by decide)), gW_n _ (show 2812 + 882 * a + 2 + 4 * i + 3 < 2 ^ 31 by omega), he, if_neg (nI_ge hj (by omega)), o_actAt]
  simp only [Option.bind_some, nI_add, nI_mul]
  rw [if_pos (iL_t (show 2812 + 882 * a + 82 + 2 * j < 22216 by omega) (by decide)), if_pos (iL_t (show 2812 + 882 * a + 82 + 2 * j + 1 < 22216 by omega) (by decide)), gW_n _ (show 2812 + 882 * a + 82 + 2 * j < 2 ^ 31 by omega), gW_n _ (show 2812 + 882 * a + 82 + 2 * j + 1 < 2 ^ 31 by omega), hy, v0, v1]
  by_cases q1 : y = nI 301
  · have q2 : ¬ y = nI 300 := by rw [q1]; decide
    simp only [if_pos q1, if_neg q2]
  · simp only [if_neg q1]
theorem hs_push {x : Int32} {h g : Nat} (n1 : ¬ x = nI 24) (n2 : ¬ x = nI 25) (n3 : ¬ x = nI 26) (e : hs1 x h = some g) : h < 20 ∧ g = h + 1 := by
  unfold hs1 at e
  rw [if_neg n1, if_neg (by rintro (q | q); exact n2 q; exact n3 q)] at e
  by_cases q : h < 20
  · rw [if_pos q] at e; injection e with e; omega
  · rw [if_neg q] at e; cases e
theorem gR_n (s : rs_S) (k : Nat) {j : Nat} (h : j < 2 ^ 31) : gR s k (nI j) = s.2.2 k j := by unfold gR; rw [nI_clamp h]
theorem nI_ngt {x y : Nat} (hx : x < 2 ^ 31) (hy : y < 2 ^ 31) (h : y ≤ x) : ¬ nI x < nI y := fun q => absurd ((nI_ltI hx hy).mp q) (by omega)
theorem nI_yes {x y : Nat} (hx : x < 2 ^ 31) (hy : y < 2 ^ 31) (h : x ≤ y) : nI x ≤ nI y := (nI_leI hx hy).mpr h
theorem nI_no {x y : Nat} (hx : x < 2 ^ 31) (hy : y < 2 ^ 31) (h : y < x) : ¬ nI x ≤ nI y := fun q => absurd ((nI_leI hx hy).mp q) (by omega)
theorem bit_0 : (if nI 0 = 0 then 0 else 1 : Nat) = 0 := if_pos nI_0
theorem bit_1 : (if nI 1 = 0 then 0 else 1 : Nat) = 1 := if_neg (by decide)
theorem hold_run {v : Nat → Int32} (h3 : i < tl τ (p + 3)) (h3' : tl τ (p + 3) ≤ 20) (he : c.1 (p + 3) i = nI e) (h4 : e ≤ tl τ (p + 4)) (h4' : tl τ (p + 4) ≤ 400) (h5 : tl τ (p + 5) = tl τ (p + 4)) (ha : a ≤ 21) (hv : v (2812 + 882 * a + 2 + 4 * i + 3) = nI e) (st : ∀ j, j < tl τ (p + 4) → stc (c.1 (p + 4) j) (v (2812 + 882 * a + 82 + 2 * j)) ∧ c.1 (p + 5) j = v (2812 + 882 * a + 82 + 2 * j + 1) ∧ ((∃ f, f < 7 ∧ c.1 (p + 4) j = nI (12 + f)) → c.1 (p + 5) j = nI 0)) :
    ∀ (r j h f f' : Nat) (s : rs_S) (g : Nat), s.2.1 = v → RF c q s → j + r = e → hgt (c.1 (p + 4)) j r h = some g → h ≤ 20 → r < f → r < f' → ∃ s', o_X0_holds_20 F τ n p q (nI i) c f (nI (ebt (s.2.2 6) h)) (nI j) = some (nI (ebt (s'.2.2 6) g)) ∧ o_X12_holds_24 F (nI a) (nI (2812 + 882 * a + 2 + 4 * i)) f' (nI h) (nI j) s = some (nI g, s') ∧ S6 s s' := by
  intro r
  induction r with
  | zero =>
    intro j h f f' s g hs hr hj hg hh hf hf'
    obtain ⟨f, rfl⟩ : ∃ x, f = x + 1 := ⟨f - 1, by omega⟩
    obtain ⟨f', rfl⟩ : ∃ x, f' = x + 1 := ⟨f' - 1, by omega⟩
    injection hg with hg
    subst hg
    subst hs
    exact ⟨s, cl_end h3 h3' he (by omega) (by omega), re_end ha (by omega) hv (by omega) (by omega), S6.refl s⟩
  | succ r ih =>
    intro j h f f' s g hs hr hj hg hh hf hf'
    obtain ⟨f, rfl⟩ : ∃ x, f = x + 1 := ⟨f - 1, by omega⟩
    obtain ⟨f', rfl⟩ : ∃ x, f' = x + 1 := ⟨f' - 1, by omega⟩
    rw [hgt_c] at hg
    obtain ⟨k, hk, hg⟩ := Option.bind_eq_some_iff.mp hg
    have hje : j < e := by omega
    obtain ⟨st1, st2, st3⟩ := st j (by omega)
    have nx : ∀ (s1 : rs_S) (y : Nat), S6 s s1 → ebt (s1.2.2 6) k = y → k ≤ 20 → ∃ s', o_X0_holds_20 F τ n p q (nI i) c f (nI y) (nI (j + 1)) = some (nI (ebt (s'.2.2 6) g)) ∧ o_X12_holds_24 F (nI a) (nI (2812 + 882 * a + 2 + 4 * i)) f' (nI k) (nI (j + 1)) s1 = some (nI g, s') ∧ S6 s s' := fun s1 y h6 hy hk20 => by
      obtain ⟨s', a1, a2, a3⟩ := ih (j + 1) k f f' s1 g (h6.2.1.trans hs) (h6.rf hr) (by omega) hg hk20 (by omega) (by omega)
      rw [hy] at a1
      exact ⟨s', a1, a2, h6.trans a3⟩
    have he' : s.2.1 (2812 + 882 * a + 2 + 4 * i + 3) = nI e := by rw [hs]; exact hv
    have enb := en_20 (s.2.2 6) hh
    have lim : s.2.1 (2812 + 882 * a + 82 + 2 * j + 1) = c.1 (p + 5) j := by rw [hs]; exact st2.symm
    have push : ∀ t, t < 2 → h < 20 → k = h + 1 → ∃ s', o_X0_holds_20 F τ n p q (nI i) c f ((nI (ebt (s.2.2 6) h) <<< (nI 1 &&& 31)) ||| nI t) (nI (j + 1)) = some (nI (ebt (s'.2.2 6) g)) ∧ o_X12_holds_24 F (nI a) (nI (2812 + 882 * a + 2 + 4 * i)) f' (nI h + nI 1) (nI (j + 1)) (pR s 6 (nI h) (nI t)) = some (nI g, s') ∧ S6 s s' := fun t ht hh2 ek => by
      rw [nI_shl (by decide), nI_or, show ebt (s.2.2 6) h * 2 ^ 1 = 2 * ebt (s.2.2 6) h by omega, bt_or _ _ ht, nI_add, ← ek]
      refine nx _ _ (S6.p6 _ _ _) ?_ (by omega)
      rw [row6 _ (by omega), ek, en_push]
      match t, ht with
      | 0, _ => rw [bit_0]
      | 1, _ => rw [bit_1]
      | t + 2, h => exact absurd h (by omega)
    have ih400 : iL (nI h) 400 := iL_t (by omega) (by decide)
    rcases st1 with ⟨w, hw, hx, hy⟩ | ⟨w, hw, hx, hy⟩ | ⟨w, hw, hx, hy⟩ | ⟨w, hw, hx, hy⟩
    · have hl := st3 ⟨w, hw, hx⟩
      have hp := hs_push (by rw [hx]; exact nI_inj (by omega) (by decide) (by omega)) (by rw [hx]; exact nI_inj (by omega) (by decide) (by omega)) (by rw [hx]; exact nI_inj (by omega) (by decide) (by omega)) hk
      rw [cl_u h3 h3' he hje h4 h4' h5, re_u ha (by omega) he' hje (by omega) (y := nI w) (by rw [hs]; exact hy), hx]
      rw [if_neg (nI_inj (by omega) (by decide) (by omega)), if_neg (nI_inj (by omega) (by decide) (by omega)), if_neg (nI_inj (by omega) (by decide) (by omega)), if_neg (nI_ngt (by omega) (by decide) (by omega)), nI_sub (by omega), show 12 + w - 12 = w by omega, if_pos (iL_t (show w < 12 by omega) (by decide)), cg_n _ _ (by omega), hl]
      rw [if_neg (nI_inj (by omega) (by decide) (by omega)), if_neg (nI_inj (by omega) (by decide) (by omega)), if_neg (nI_inj (by omega) (by decide) (by omega)), if_neg (nI_no (by decide) (by omega) (by omega))]
      simp only [if_pos ih400]
      by_cases w6 : w = 6
      · subst w6
        obtain ⟨t, ht, t1, t2⟩ := hr.2.1
        rw [if_pos rfl, t1, t2]
        match t, ht with
        | 0, _ => rw [if_pos (by decide), show vp_nar .boolean (nI 0) = nI 0 by decide]; exact push 0 (by decide) hp.1 hp.2
        | 1, _ => rw [if_neg (by decide), show vp_nar .boolean (nI 1) = nI 1 by decide]; exact push 1 (by decide) hp.1 hp.2
        | t + 2, h => exact absurd h (by omega)
      · rw [if_neg (nI_inj (by omega) (by decide) w6), hr.1 w (by omega)]
        by_cases g18 : s.1 18 = nI w
        · rw [if_pos g18, if_pos g18, if_neg (by decide)]; exact push 1 (by decide) hp.1 hp.2
        · rw [if_neg g18, if_neg g18, if_pos (by decide)]; exact push 0 (by decide) hp.1 hp.2
    · have hp := hs_push (by rw [hx]; exact nI_inj (by omega) (by decide) (by omega)) (by rw [hx]; exact nI_inj (by omega) (by decide) (by omega)) (by rw [hx]; exact nI_inj (by omega) (by decide) (by omega)) hk
      rw [cl_u h3 h3' he hje h4 h4' h5, re_u ha (by omega) he' hje (by omega) (y := nI (100 + w)) (by rw [hs]; exact hy), hx, lim]
      rw [if_neg (nI_inj (by omega) (by decide) (by omega)), if_neg (nI_inj (by omega) (by decide) (by omega)), if_neg (nI_inj (by omega) (by decide) (by omega)), if_pos ((nI_ltI (by omega) (by decide)).mpr (by omega)), if_pos (iL_t (show 7 + w < 12 by omega) (by decide)), cg_n _ _ (by omega), hr.2.2 w hw]
      rw [if_neg (nI_inj (by omega) (by decide) (by omega)), if_neg (nI_inj (by omega) (by decide) (by omega)), if_neg (nI_inj (by omega) (by decide) (by omega)), if_pos (nI_yes (by decide) (by omega) (by omega)), if_neg (nI_no (by decide) (by omega) (by omega)), nI_sub (by omega), show 100 + w - 100 = w by omega, if_pos (iL_t (show w < 5 by omega) (by decide)), gR_n _ _ (by omega)]
      simp only [if_pos ih400]
      by_cases q1 : c.1 (p + 5) j ≤ s.2.2 7 w
      · rw [if_pos q1, if_pos q1]; exact push 0 (by decide) hp.1 hp.2
      · rw [if_neg q1, if_neg q1]; exact push 1 (by decide) hp.1 hp.2
    · have hp := hs_push (by rw [hx]; exact nI_inj (by omega) (by decide) (by omega)) (by rw [hx]; exact nI_inj (by omega) (by decide) (by omega)) (by rw [hx]; exact nI_inj (by omega) (by decide) (by omega)) hk
      rw [cl_u h3 h3' he hje h4 h4' h5, re_u ha (by omega) he' hje (by omega) (y := nI (200 + w)) (by rw [hs]; exact hy), hx, lim]
      rw [if_neg (nI_inj (by omega) (by decide) (by omega)), if_neg (nI_inj (by omega) (by decide) (by omega)), if_neg (nI_inj (by omega) (by decide) (by omega)), if_neg (nI_ngt (by omega) (by decide) (by omega)), nI_sub (by omega), show 19 + w - 12 = 7 + w by omega, if_pos (iL_t (show 7 + w < 12 by omega) (by decide)), cg_n _ _ (by omega), hr.2.2 w hw]
      rw [if_neg (nI_inj (by omega) (by decide) (by omega)), if_neg (nI_inj (by omega) (by decide) (by omega)), if_neg (nI_inj (by omega) (by decide) (by omega)), if_pos (nI_yes (by decide) (by omega) (by omega)), if_pos (nI_yes (by decide) (by omega) (by omega)), nI_sub (by omega), show 200 + w - 200 = w by omega, if_pos (iL_t (show w < 5 by omega) (by decide)), gR_n _ _ (by omega)]
      simp only [if_pos ih400]
      by_cases q1 : s.2.2 7 w ≤ c.1 (p + 5) j
      · rw [if_pos q1, if_pos q1]; exact push 0 (by decide) hp.1 hp.2
      · rw [if_neg q1, if_neg q1]; exact push 1 (by decide) hp.1 hp.2
    · rw [cl_u h3 h3' he hje h4 h4' h5, re_u ha (by omega) he' hje (by omega) (y := nI (300 + w)) (by rw [hs]; exact hy), hx]
      rw [hx] at hk
      match w, hw with
      | 0, _ =>
        rw [if_pos rfl, if_pos rfl]
        unfold hs1 at hk
        rw [if_pos rfl] at hk
        by_cases h1 : 1 ≤ h
        · rw [if_pos h1] at hk
          injection hk with hk
          obtain ⟨m, rfl⟩ : ∃ m, h = m + 1 := ⟨h - 1, by omega⟩
          rw [nI_sub (by omega), show m + 1 - 1 = m by omega, if_pos (iL_t (show m < 400 by omega) (by decide)), gR_n _ _ (by omega), ebt, nI_xor, bt_xor _ _ (by split <;> omega), hk]
          by_cases g0 : s.2.2 6 m = 0
          · rw [if_pos g0, if_pos g0]
            exact nx _ _ (S6.p6 _ _ _) (by rw [row6 _ (by omega), ← hk, en_push, bit_1]) (by omega)
          · rw [if_neg g0, if_neg g0]
            exact nx _ _ (S6.p6 _ _ _) (by rw [row6 _ (by omega), ← hk, en_push, bit_0]) (by omega)
        · rw [if_neg h1] at hk; cases hk
      | 1, _ =>
        rw [if_neg (show ¬ nI (24 + 1) = nI 24 by decide), if_pos (show nI (24 + 1) = nI 25 from rfl), if_neg (show ¬ nI (300 + 1) = nI 300 by decide), if_pos (show nI (300 + 1) = nI 301 from rfl)]
        unfold hs1 at hk
        rw [if_neg (by decide), if_pos (Or.inl rfl)] at hk
        by_cases h1 : 2 ≤ h
        · rw [if_pos h1] at hk
          injection hk with hk
          obtain ⟨m, rfl⟩ : ∃ m, h = m + 2 := ⟨h - 2, by omega⟩
          rw [nI_neg1 (by omega), show m + 2 - 1 = m + 1 by omega, nI_sub (by omega), show m + 1 - 1 = m by omega, if_pos (iL_t (show m < 400 by omega) (by decide)), if_pos (iL_t (show m + 1 < 400 by omega) (by decide)), gR_n _ _ (by omega), gR_n _ _ (by omega)]
          have e1 : ebt (s.2.2 6) (m + 2) = 2 * (2 * ebt (s.2.2 6) m + (if s.2.2 6 m = 0 then 0 else 1)) + (if s.2.2 6 (m + 1) = 0 then 0 else 1) := rfl
          have b0 : ∀ x : Int32, (if x = 0 then 0 else 1 : Nat) < 2 := fun x => by split <;> omega
          rw [show m + 2 - 1 = m + 1 by omega] at hk
          have eb2 := b0 (s.2.2 6 (m + 1))
          rw [e1] at enb
          rw [e1, nI_and, bt_and _ _ (b0 _), nI_shr (by omega) (by decide), show ∀ x y : Nat, y < 2 → (2 * x + y) / 2 ^ 1 = x from fun x y hy => by omega]
          · by_cases g1 : s.2.2 6 (m + 1) = 0
            · rw [if_pos g1, if_neg (by decide), nI_m2 (by omega) (b0 _), if_pos g1]
              have fin : ∃ s', o_X0_holds_20 F τ n p q (nI i) c f (nI (2 * ebt (s.2.2 6) m)) (nI (j + 1)) = some (nI (ebt (s'.2.2 6) g)) ∧ o_X12_holds_24 F (nI a) (nI (2812 + 882 * a + 2 + 4 * i)) f' (nI k) (nI (j + 1)) (pR s 6 (nI m) (nI 0)) = some (nI g, s') ∧ S6 s s' := nx _ _ (S6.p6 _ _ _) (by rw [row6 _ (by omega), ← hk, en_push, bit_0]; rfl) (by omega)
              rw [← hk] at fin
              split
              · exact fin
              · exact fin
            · rw [if_neg g1, if_pos rfl, if_neg g1]
              by_cases g0 : s.2.2 6 m = 0
              · rw [if_pos g0, if_pos g0, hk]
                exact nx _ _ (S6.p6 _ _ _) (by rw [row6 _ (by omega), ← hk, en_push, bit_0]) (by omega)
              · rw [if_neg g0, if_neg g0, hk]
                exact nx _ _ (S6.p6 _ _ _) (by rw [row6 _ (by omega), ← hk, en_push, bit_1]) (by omega)
          · exact b0 _
        · rw [if_neg h1] at hk; cases hk
      | 2, _ =>
        rw [if_neg (show ¬ nI (24 + 2) = nI 24 by decide), if_neg (show ¬ nI (24 + 2) = nI 25 by decide), if_pos (show nI (24 + 2) = nI 26 from rfl), if_neg (show ¬ nI (300 + 2) = nI 300 by decide), if_neg (show ¬ nI (300 + 2) = nI 301 by decide), if_pos (show nI (300 + 2) = nI 302 from rfl)]
        unfold hs1 at hk
        rw [if_neg (by decide), if_pos (Or.inr rfl)] at hk
        by_cases h1 : 2 ≤ h
        · rw [if_pos h1] at hk
          injection hk with hk
          obtain ⟨m, rfl⟩ : ∃ m, h = m + 2 := ⟨h - 2, by omega⟩
          rw [nI_neg1 (by omega), show m + 2 - 1 = m + 1 by omega, nI_sub (by omega), show m + 1 - 1 = m by omega, if_pos (iL_t (show m < 400 by omega) (by decide)), if_pos (iL_t (show m + 1 < 400 by omega) (by decide)), gR_n _ _ (by omega), gR_n _ _ (by omega)]
          have e1 : ebt (s.2.2 6) (m + 2) = 2 * (2 * ebt (s.2.2 6) m + (if s.2.2 6 m = 0 then 0 else 1)) + (if s.2.2 6 (m + 1) = 0 then 0 else 1) := rfl
          have b0 : ∀ x : Int32, (if x = 0 then 0 else 1 : Nat) < 2 := fun x => by split <;> omega
          rw [show m + 2 - 1 = m + 1 by omega] at hk
          have eb2 := b0 (s.2.2 6 (m + 1))
          rw [e1] at enb
          rw [e1, nI_and, bt_and _ _ (b0 _), nI_shr (by omega) (by decide), show ∀ x y : Nat, y < 2 → (2 * x + y) / 2 ^ 1 = x from fun x y hy => by omega, nI_or]
          · by_cases g0 : s.2.2 6 m = 0
            · rw [if_pos g0, if_pos g0, Nat.add_zero, bt_or _ _ (b0 _)]
              by_cases g1 : s.2.2 6 (m + 1) = 0
              · rw [if_pos g1, if_pos g1, hk]
                exact nx _ _ (S6.p6 _ _ _) (by rw [row6 _ (by omega), ← hk, en_push, bit_0]) (by omega)
              · rw [if_neg g1, if_neg g1, hk]
                exact nx _ _ (S6.p6 _ _ _) (by rw [row6 _ (by omega), ← hk, en_push, bit_1]) (by omega)
            · rw [if_neg g0, if_neg g0, bt_or1 _ _ (b0 _), hk]
              exact nx _ _ (S6.p6 _ _ _) (by rw [row6 _ (by omega), ← hk, en_push, bit_1]) (by omega)
          · exact b0 _
        · rw [if_neg h1] at hk; cases hk
      | w + 3, h => exact absurd h (by omega)
end HOLDS
