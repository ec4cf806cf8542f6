/-! FUNCTIONS OF METHODS: what their making needs -/
/-- fewer locals are known -/
def jg_le : List (Option Value) → List (Option Value) → Prop
  | [], _ => True
  | none :: l, _ :: m => jg_le l m
  | some v :: l, some w :: m => v = w ∧ jg_le l m
  | _, _ => False
theorem jg_le_at : ∀ {l m : List (Option Value)}, jg_le l m → ∀ (i : Nat) (v : Value), l[i]? = some (some v) → m[i]? = some (some v)
  | [], _, _, i, v, h => by simp at h
  | none :: l, x :: m, hl, i, v, h => by
    cases i with
    | zero => simp at h
    | succ i => simpa using jg_le_at (l := l) (m := m) hl i v (by simpa using h)
  | some u :: l, some w :: m, hl, i, v, h => by
    obtain ⟨rfl, hl⟩ := hl
    cases i with
    | zero => simpa using h
    | succ i => simpa using jg_le_at (l := l) (m := m) hl i v (by simpa using h)
  | none :: l, [], hl, i, v, h => by simp [jg_le] at hl
  | some u :: l, [], hl, i, v, h => by simp [jg_le] at hl
  | some u :: l, none :: m, hl, i, v, h => by simp [jg_le] at hl
theorem jg_fg {Γ : jg_G} {M : jg_Md} {d a b pc : Nat} {L L' : List (Option Value)} {S : List Value} {h : jg_H} {Q : jg_Q} (hl : jg_le L' L) (k : jg Γ M d a b pc L' S h Q) : jg Γ M d a b pc L S h Q := by
  intro p e R s m args below meth c H ls locs cells slots mc ms hE h1 h2 h3 h4 hf hz hR hL
  exact k p e R s m args below meth c H ls locs cells slots mc ms hE h1 h2 h3 h4 hf hz hR ⟨hL.1, hL.2.1, fun i v hv => hL.2.2 i v (jg_le_at hl i v hv)⟩
theorem gd_some {p : Prop} {i : Decidable p} {α : Type} {x : Option α} {r : α} (h : (@ite _ p i x none) = some r) : p ∧ x = some r := by
  by_cases hp : p
  · rw [if_pos hp] at h; exact ⟨hp, h⟩
  · rw [if_neg hp] at h; cases h
theorem bd_some {α β : Type} {o : Option α} {f : α → Option β} {r : β} (h : o.bind f = some r) : ∃ x, o = some x ∧ f x = some r := by
  cases o with
  | none => cases h
  | some x => exact ⟨x, rfl, h⟩
theorem it_t {p : Prop} {i : Decidable p} {α : Type} {x y : α} {r : α} (hp : p) (h : (@ite _ p i x y) = r) : x = r := by rw [if_pos hp] at h; exact h
theorem it_f {p : Prop} {i : Decidable p} {α : Type} {x y : α} {r : α} (hp : ¬ p) (h : (@ite _ p i x y) = r) : y = r := by rw [if_neg hp] at h; exact h
theorem se_l {α β γ : Type} {f : α → γ} {g : β → γ} {y : α} {r : γ} (h : Sum.elim f g (.inl y) = r) : f y = r := h
theorem se_r {α β γ : Type} {f : α → γ} {g : β → γ} {y : β} {r : γ} (h : Sum.elim f g (.inr y) = r) : g y = r := h
abbrev iL (i : Int32) (n : Nat) : Prop := ¬ i < 0 ∧ i.toNatClampNeg < n
abbrev zb (x : Int32) : Prop := x = nI 0 ∨ x = nI 1
theorem zb_nar {x : Int32} (h : zb x) : narrow .boolean (.int x) = .int x := by rcases h with h | h <;> rw [h] <;> rfl
theorem zb_v {x : Int32} (h : zb x) : vp_nar .boolean x = x := by rcases h with h | h <;> rw [h] <;> decide
def ush (x y : Int32) : Int32 := (x.toUInt32 >>> (y.toUInt32 &&& Int32.toUInt32 31)).toInt32
def irm (x y : Int32) : Int32 := x - x / y * y
def mxi (x y : Int32) : Int32 := if x < y then y else x
def mni (x y : Int32) : Int32 := if y < x then y else x
def mnl (x y : Int64) : Int64 := if y < x then y else x
theorem ic_k {k : Int} {c : Int32} (x : Int32) (h : Int32.ofInt k = c) : x + Int32.ofInt k = x + c := by rw [h]
section DCR
variable {Γ : jg_G} {M : jg_Md} {d a b pc : Nat} {L : List (Option Value)} {S : List Value} {h : jg_H} {Q : jg_Q}
theorem jg_iushrR {x y : Int32} (hd : decode M.2.1 pc = .ok (.iushr, 1)) (kk : jg Γ M d a b (pc + 1) L (.int (ush x y) :: S) h Q) : jg Γ M d a b pc L (.int y :: .int x :: S) h Q := jg_iushr hd kk
theorem jg_iremR {x y : Int32} (hd : decode M.2.1 pc = .ok (.irem, 1)) (hne : ¬ y = 0) (kk : jg Γ M d a b (pc + 1) L (.int (irm x y) :: S) h Q) : jg Γ M d a b pc L (.int y :: .int x :: S) h Q := jg_irem hd hne kk
end DCR
section DCS
variable {Γ : jg_G} {M : jg_Md} {d pc : Nat} {L : List (Option Value)} {S : List Value} {Q : jg_Q} {g : Nat → jg_C} {n r : Nat} {s : rs_S}
def pN (s : rs_S) (k : Nat) (x : Int32) : rs_S := (va_up s.1 k x, s.2)
def gW (s : rs_S) (i : Int32) : Int32 := s.2.1 i.toNatClampNeg
def pW (s : rs_S) (i x : Int32) : rs_S := (s.1, upd s.2.1 i.toNatClampNeg x, s.2.2)
def gR (s : rs_S) (j : Nat) (i : Int32) : Int32 := s.2.2 j i.toNatClampNeg
def pR (s : rs_S) (j : Nat) (i x : Int32) : rs_S := (s.1, s.2.1, va_up s.2.2 j (upd (s.2.2 j) i.toNatClampNeg x))
theorem iL_nI {i : Int32} {n : Nat} (hi : iL i n) : ∃ k : Nat, i = nI k ∧ k < n ∧ i.toNatClampNeg = k := by
  obtain ⟨j, hj, rfl⟩ := nI_of hi.1
  exact ⟨j, rfl, by rw [← nI_clamp hj]; exact hi.2, nI_clamp hj⟩
theorem rs_putD {idx k : Nat} {t : FieldType} {x : Int32} (hF : jg_F M.1.cls idx 12 k t false) (hd : decode M.2.1 pc = .ok (.putfield idx, 3)) (hr : r + 11 ≤ n) (hk : k < 23) (hn : narrow t (.int x) = .int x) (hfit : fits t (.int x) = true) (hi : (rs_fl r s.1).set k (.int x) = rs_fl r (va_up s.1 k x)) (kk : jg Γ M d 0 0 (pc + 3) L S (rs_h g r (pN s k x), n) Q) : jg Γ M d 0 0 pc L (.int x :: .ref r :: S) (rs_h g r s, n) Q := rs_put hF hd hr hk hn hfit hi kk
theorem rs_lwD {i : Int32} (hd : decode M.2.1 pc = .ok (.iaload, 1)) (hr : r + 11 ≤ n) (hi : iL i 22216) (kk : jg Γ M d 0 0 (pc + 1) L (.int (gW s i) :: S) (rs_h g r s, n) Q) : jg Γ M d 0 0 pc L (.int i :: .ref (r + 1 + 0) :: S) (rs_h g r s, n) Q := by
  obtain ⟨k, e, hk, e2⟩ := iL_nI hi
  unfold gW at kk; rw [e2] at kk; rw [e]; exact rs_lw hd hr hk kk
theorem rs_swD {i x : Int32} (hd : decode M.2.1 pc = .ok (.iastore, 1)) (hr : r + 11 ≤ n) (hi : iL i 22216) (kk : jg Γ M d 0 0 (pc + 1) L S (rs_h g r (pW s i x), n) Q) : jg Γ M d 0 0 pc L (.int x :: .int i :: .ref (r + 1 + 0) :: S) (rs_h g r s, n) Q := by
  obtain ⟨k, e, hk, e2⟩ := iL_nI hi
  unfold pW at kk; rw [e2] at kk; rw [e]; exact rs_sw hd hr hk kk
theorem rs_ldD {i : Int32} {j : Nat} (hd : decode M.2.1 pc = .ok (.iaload, 1)) (hr : r + 11 ≤ n) (hj : j + 1 < 10) (hk : rs_kd (j + 1) = 0) (hi : iL i (rs_ln (j + 1))) (kk : jg Γ M d 0 0 (pc + 1) L (.int (gR s (j + 1) i) :: S) (rs_h g r s, n) Q) : jg Γ M d 0 0 pc L (.int i :: .ref (r + 1 + (j + 1)) :: S) (rs_h g r s, n) Q := by
  obtain ⟨k, e, hk9, e2⟩ := iL_nI hi
  unfold gR at kk; rw [e2] at kk; rw [e]; exact rs_ld hd hr hj hk hk9 kk
theorem rs_lbD {i : Int32} {j : Nat} (hd : decode M.2.1 pc = .ok (.baload, 1)) (hr : r + 11 ≤ n) (hj : j + 1 < 10) (hk : rs_kd (j + 1) = 1) (hi : iL i (rs_ln (j + 1))) (kk : jg Γ M d 0 0 (pc + 1) L (.int (gR s (j + 1) i) :: S) (rs_h g r s, n) Q) : jg Γ M d 0 0 pc L (.int i :: .ref (r + 1 + (j + 1)) :: S) (rs_h g r s, n) Q := by
  obtain ⟨k, e, hk9, e2⟩ := iL_nI hi
  unfold gR at kk; rw [e2] at kk; rw [e]; exact rs_lb hd hr hj hk hk9 kk
theorem rs_lzD {i : Int32} {j : Nat} (hd : decode M.2.1 pc = .ok (.baload, 1)) (hr : r + 11 ≤ n) (hj : j + 1 < 10) (hk : rs_kd (j + 1) = 2) (hi : iL i (rs_ln (j + 1))) (kk : jg Γ M d 0 0 (pc + 1) L (.int (gR s (j + 1) i) :: S) (rs_h g r s, n) Q) : jg Γ M d 0 0 pc L (.int i :: .ref (r + 1 + (j + 1)) :: S) (rs_h g r s, n) Q := by
  obtain ⟨k, e, hk9, e2⟩ := iL_nI hi
  unfold gR at kk; rw [e2] at kk; rw [e]; exact rs_lz hd hr hj hk hk9 kk
theorem rs_stD {i x : Int32} {j : Nat} (hd : decode M.2.1 pc = .ok (.iastore, 1)) (hr : r + 11 ≤ n) (hj : j + 1 < 10) (hk : rs_kd (j + 1) = 0) (hi : iL i (rs_ln (j + 1))) (kk : jg Γ M d 0 0 (pc + 1) L S (rs_h g r (pR s (j + 1) i x), n) Q) : jg Γ M d 0 0 pc L (.int x :: .int i :: .ref (r + 1 + (j + 1)) :: S) (rs_h g r s, n) Q := by
  obtain ⟨k, e, hk9, e2⟩ := iL_nI hi
  unfold pR at kk; rw [e2] at kk; rw [e]; exact rs_st hd hr hj hk hk9 kk
theorem rs_sbD {i x : Int32} {j : Nat} (hd : decode M.2.1 pc = .ok (.bastore, 1)) (hr : r + 11 ≤ n) (hj : j + 1 < 10) (hk : rs_kd (j + 1) = 1) (hi : iL i (rs_ln (j + 1))) (kk : jg Γ M d 0 0 (pc + 1) L S (rs_h g r (pR s (j + 1) i (vp_nar .byte x)), n) Q) : jg Γ M d 0 0 pc L (.int x :: .int i :: .ref (r + 1 + (j + 1)) :: S) (rs_h g r s, n) Q := by
  obtain ⟨k, e, hk9, e2⟩ := iL_nI hi
  unfold pR at kk; rw [e2] at kk; rw [e]; exact rs_sb hd hr hj hk hk9 kk
theorem rs_szD {i x : Int32} {j : Nat} (hd : decode M.2.1 pc = .ok (.bastore, 1)) (hr : r + 11 ≤ n) (hj : j + 1 < 10) (hk : rs_kd (j + 1) = 2) (hi : iL i (rs_ln (j + 1))) (kk : jg Γ M d 0 0 (pc + 1) L S (rs_h g r (pR s (j + 1) i (vp_nar .boolean x)), n) Q) : jg Γ M d 0 0 pc L (.int x :: .int i :: .ref (r + 1 + (j + 1)) :: S) (rs_h g r s, n) Q := by
  obtain ⟨k, e, hk9, e2⟩ := iL_nI hi
  unfold pR at kk; rw [e2] at kk; rw [e]; exact rs_sz hd hr hj hk hk9 kk
end DCS
theorem jt_outN (lo hi : Nat) (x : Int32) (h : ∀ k : Nat, lo ≤ k → k ≤ hi → ¬ x = nI k) : x.toInt < (lo : Int) ∨ (hi : Int) < x.toInt := by
  by_cases h1 : x.toInt < (lo : Int)
  · exact Or.inl h1
  · by_cases h2 : (hi : Int) < x.toInt
    · exact Or.inr h2
    · have h0 : ¬ x < 0 := by
        rw [Int32.lt_iff_toInt_lt]
        have : (0 : Int32).toInt = 0 := rfl
        omega
      obtain ⟨j, hj, rfl⟩ := nI_of h0
      rw [nI_toInt hj] at h1 h2
      exact absurd rfl (h j (by omega) (by omega))
