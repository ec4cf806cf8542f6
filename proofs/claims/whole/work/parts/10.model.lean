/-! CONTRACTS, AND THE REFERENCE's STATE -/
/-- from the heap h with the locals L the method M ends with o, in the heap h' -/
def jc (Γ : jg_G) (M : jg_Md) (d a b : Nat) (L : List (Option Value)) (h : jg_H) (o : Option Value ⊕ String) (h' : jg_H) : Prop := ∀ Q : jg_Q, Q o h' → jg Γ M d a b 0 L [] h Q
/-- an ending that says no more -/
def jq (o : Option Value ⊕ String) (h' : jg_H) : jg_Q := fun r t => r = o ∧ t = h'
theorem jc_of {Γ : jg_G} {M : jg_Md} {d a b : Nat} {L : List (Option Value)} {h h' : jg_H} {o : Option Value ⊕ String} (k : jg Γ M d a b 0 L [] h (jq o h')) : jc Γ M d a b L h o h' := fun Q hq => jg_mono (fun r t e => by rw [e.1, e.2]; exact hq) k
theorem jc_deep {Γ : jg_G} {M : jg_Md} {d d' a b : Nat} {L : List (Option Value)} {h h' : jg_H} {o : Option Value ⊕ String} (hd : d ≤ d') (k : jc Γ M d a b L h o h') : jc Γ M d' a b L h o h' := fun Q hq => jg_deep hd (k Q hq)
section JCC
variable {Γ : jg_G} {M M' : jg_Md} {d d' a b a' b' pc : Nat} {L L' : List (Option Value)} {S : List Value} {h h' : jg_H} {Q : jg_Q} {v : Option Value} {E : String}
theorem jc_S {idx n : Nat} {As : List Value} (hc : jg_Sc M.1.cls idx M' n) (hd : decode M.2.1 pc = .ok (.invokestatic idx, 3)) (hn : As.length = n) (hm : M'.2.2.1 ≤ 45) (hl : (jg_en As).length ≤ M'.2.2.1) (hent : jg_en As ++ List.replicate (M'.2.2.1 - (jg_en As).length) none = L') (hdd : d' + 1 ≤ d) (ha : a' ≤ a) (hb : b' ≤ b) (hS : (S.map fun v => v.category).sum ≤ 8)
    (K : jc Γ M' d' a' b' L' h (.inl v) h') (kk : jg Γ M d (a - a') (b - b') (pc + 3) L (v.toList ++ S) h' Q) : jg Γ M d a b pc L (As.reverse ++ S) h Q :=
  jg_callS hc hd hn hm hl hent hdd ha hb hS (K (jq (.inl v) h') ⟨rfl, rfl⟩) (fun v9 h9 e => by obtain ⟨e1, e2⟩ := e; cases e1; subst e2; exact kk) (fun E9 h9 e => nomatch e.1)
theorem jc_SX {idx n : Nat} {As : List Value} (hc : jg_Sc M.1.cls idx M' n) (hd : decode M.2.1 pc = .ok (.invokestatic idx, 3)) (hn : As.length = n) (hm : M'.2.2.1 ≤ 45) (hl : (jg_en As).length ≤ M'.2.2.1) (hent : jg_en As ++ List.replicate (M'.2.2.1 - (jg_en As).length) none = L') (hdd : d' + 1 ≤ d) (ha : a' ≤ a) (hb : b' ≤ b) (hS : (S.map fun v => v.category).sum ≤ 8)
    (K : jc Γ M' d' a' b' L' h (.inr E) h') (kk : Q (.inr E) h') : jg Γ M d a b pc L (As.reverse ++ S) h Q :=
  jg_callS hc hd hn hm hl hent hdd ha hb hS (K (jq (.inr E) h') ⟨rfl, rfl⟩) (fun v9 h9 e => nomatch e.1) (fun E9 h9 e => by obtain ⟨e1, e2⟩ := e; cases e1; subst e2; exact kk)
theorem jc_V {idx n ci q : Nat} {As : List Value} {T9 : u_T} {N9 : Nat} {fs : List Value} (hc : jg_Vc M.1.cls idx M' n) (hd : decode M.2.1 pc = .ok (.invokevirtual idx, 3)) (hci : jg_cl[ci]? = some (M'.1.cls, T9, N9)) (hq : q < h.2) (hqc : h.1 q = .inl (ci, fs)) (hn : As.length = n) (hm : M'.2.2.1 ≤ 45) (hl : (jg_en (.ref q :: As)).length ≤ M'.2.2.1) (hent : jg_en (.ref q :: As) ++ List.replicate (M'.2.2.1 - (jg_en (.ref q :: As)).length) none = L') (hdd : d' + 1 ≤ d) (ha : a' ≤ a) (hb : b' ≤ b) (hS : (S.map fun v => v.category).sum ≤ 8)
    (K : jc Γ M' d' a' b' L' h (.inl v) h') (kk : jg Γ M d (a - a') (b - b') (pc + 3) L (v.toList ++ S) h' Q) : jg Γ M d a b pc L (As.reverse ++ .ref q :: S) h Q :=
  jg_callV hc hd hci hq hqc hn hm hl hent hdd ha hb hS (K (jq (.inl v) h') ⟨rfl, rfl⟩) (fun v9 h9 e => by obtain ⟨e1, e2⟩ := e; cases e1; subst e2; exact kk) (fun E9 h9 e => nomatch e.1)
theorem jc_VX {idx n ci q : Nat} {As : List Value} {T9 : u_T} {N9 : Nat} {fs : List Value} (hc : jg_Vc M.1.cls idx M' n) (hd : decode M.2.1 pc = .ok (.invokevirtual idx, 3)) (hci : jg_cl[ci]? = some (M'.1.cls, T9, N9)) (hq : q < h.2) (hqc : h.1 q = .inl (ci, fs)) (hn : As.length = n) (hm : M'.2.2.1 ≤ 45) (hl : (jg_en (.ref q :: As)).length ≤ M'.2.2.1) (hent : jg_en (.ref q :: As) ++ List.replicate (M'.2.2.1 - (jg_en (.ref q :: As)).length) none = L') (hdd : d' + 1 ≤ d) (ha : a' ≤ a) (hb : b' ≤ b) (hS : (S.map fun v => v.category).sum ≤ 8)
    (K : jc Γ M' d' a' b' L' h (.inr E) h') (kk : Q (.inr E) h') : jg Γ M d a b pc L (As.reverse ++ .ref q :: S) h Q :=
  jg_callV hc hd hci hq hqc hn hm hl hent hdd ha hb hS (K (jq (.inr E) h') ⟨rfl, rfl⟩) (fun v9 h9 e => nomatch e.1) (fun E9 h9 e => by obtain ⟨e1, e2⟩ := e; cases e1; subst e2; exact kk)
theorem jc_I {idx n q : Nat} {As : List Value} (hc : jg_Ic M.1.cls idx M' n) (hd : decode M.2.1 pc = .ok (.invokespecial idx, 3)) (hn : As.length = n) (hm : M'.2.2.1 ≤ 45) (hl : (jg_en (.ref q :: As)).length ≤ M'.2.2.1) (hent : jg_en (.ref q :: As) ++ List.replicate (M'.2.2.1 - (jg_en (.ref q :: As)).length) none = L') (hdd : d' + 1 ≤ d) (ha : a' ≤ a) (hb : b' ≤ b) (hS : (S.map fun v => v.category).sum ≤ 8)
    (K : jc Γ M' d' a' b' L' h (.inl v) h') (kk : jg Γ M d (a - a') (b - b') (pc + 3) L (v.toList ++ S) h' Q) : jg Γ M d a b pc L (As.reverse ++ .ref q :: S) h Q :=
  jg_callI hc hd hn hm hl hent hdd ha hb hS (K (jq (.inl v) h') ⟨rfl, rfl⟩) (fun v9 h9 e => by obtain ⟨e1, e2⟩ := e; cases e1; subst e2; exact kk) (fun E9 h9 e => nomatch e.1)
end JCC
/-- the reference's numbers (by field) and rows: 0 world, 1 image, 2 depth, 3 row, 4 tape, 5 five, 6 met, 7 facts, 8 free, 9 canBegin -/
abbrev rs_S : Type := (Nat → Int32) × (Nat → Int32) × (Nat → Nat → Int32)
/-- a row: the world is a part of its own -/
def rs_f (s : rs_S) (j : Nat) : Nat → Int32 := match j with
  | 0 => s.2.1
  | j + 1 => s.2.2 (j + 1)
def rs_fl (r : Nat) (i : Nat → Int32) : List Value := [.int (i 0), .ref (r + 1 + 0), .ref (r + 1 + 1), .int (i 3), .ref (r + 1 + 2), .ref (r + 1 + 3), .int (i 6), .ref (r + 1 + 4), .int (i 8), .int (i 9), .int (i 10), .int (i 11), .int (i 12), .int (i 13), .ref (r + 1 + 5), .int (i 15), .ref (r + 1 + 6), .ref (r + 1 + 7), .int (i 18), .int (i 19), .ref (r + 1 + 8), .ref (r + 1 + 9), .int (i 22)]
def rs_kd (j : Nat) : Nat := match j with
  | 4 => 1
  | 6 => 2
  | 9 => 2
  | _ => 0
def rs_ln (j : Nat) : Nat := match j with
  | 0 => 22216
  | 1 => 21334
  | 2 => 24
  | 3 => 80
  | 4 => 400
  | 5 => 5
  | 6 => 400
  | 7 => 5
  | 8 => 10
  | _ => 2920
def rs_h (g : Nat → jg_C) (r : Nat) (s : rs_S) : Nat → jg_C := fun k => if k = r then .inl (12, rs_fl r s.1) else if r < k ∧ k ≤ r + 10 then .inr (rs_kd (k - r - 1), rs_ln (k - r - 1), .inl (rs_f s (k - r - 1))) else g k
theorem rs_at (g : Nat → jg_C) (r : Nat) (s : rs_S) : rs_h g r s r = .inl (12, rs_fl r s.1) := by simp [rs_h]
theorem rs_ar (g : Nat → jg_C) (r : Nat) (s : rs_S) {j : Nat} (hj : j < 10) : rs_h g r s (r + 1 + j) = .inr (rs_kd j, rs_ln j, .inl (rs_f s j)) := by
  have e1 : ¬ r + 1 + j = r := by omega
  have e2 : r < r + 1 + j ∧ r + 1 + j ≤ r + 10 := by omega
  have e3 : r + 1 + j - r - 1 = j := by omega
  simp [rs_h, e1, e2, e3]
theorem rs_f1 (s : rs_S) (i : Nat → Int32) (j : Nat) : rs_f (i, s.2) j = rs_f s j := by cases j <;> rfl
theorem rs_pi (g : Nat → jg_C) (r : Nat) (s : rs_S) (i : Nat → Int32) : va_up (rs_h g r s) r (.inl (12, rs_fl r i)) = rs_h g r (i, s.2) := by
  funext k
  by_cases e : k = r
  · subst e; simp [va_up, rs_h]
  · simp [va_up, rs_h, e, rs_f1]
theorem rs_pa (g : Nat → jg_C) (r : Nat) (s s' : rs_S) {j : Nat} (hj : j < 10) (f : Nat → Int32) (h1 : s'.1 = s.1) (h2 : rs_f s' j = f) (h3 : ∀ k, k ≠ j → rs_f s' k = rs_f s k) : va_up (rs_h g r s) (r + 1 + j) (.inr (rs_kd j, rs_ln j, .inl f)) = rs_h g r s' := by
  funext k
  by_cases e : k = r + 1 + j
  · subst e
    have e1 : ¬ r + 1 + j = r := by omega
    have e2 : r < r + 1 + j ∧ r + 1 + j ≤ r + 10 := by omega
    have e3 : r + 1 + j - r - 1 = j := by omega
    simp [va_up, rs_h, e1, e2, e3, h2]
  · by_cases e1 : k = r
    · subst e1; simp [va_up, rs_h, e, h1]
    · by_cases e2 : r < k ∧ k ≤ r + 10
      · have e3 : k - r - 1 ≠ j := by omega
        simp [va_up, rs_h, e, e1, e2, h3 _ e3]
      · simp [va_up, rs_h, e, e1, e2]
theorem rs_pw (g : Nat → jg_C) (r : Nat) (s : rs_S) (w : Nat → Int32) : va_up (rs_h g r s) (r + 1 + 0) (.inr (0, 22216, .inl w)) = rs_h g r (s.1, w, s.2.2) :=
  rs_pa g r s (s.1, w, s.2.2) (j := 0) (by decide) w rfl rfl (fun k hk => by cases k with
    | zero => exact absurd rfl hk
    | succ k => rfl)
theorem rs_pf (g : Nat → jg_C) (r : Nat) (s : rs_S) {j : Nat} (hj : j + 1 < 10) (f : Nat → Int32) : va_up (rs_h g r s) (r + 1 + (j + 1)) (.inr (rs_kd (j + 1), rs_ln (j + 1), .inl f)) = rs_h g r (s.1, s.2.1, va_up s.2.2 (j + 1) f) :=
  rs_pa g r s (s.1, s.2.1, va_up s.2.2 (j + 1) f) hj f rfl (va_up_self _ _ _) (fun k hk => by cases k with
    | zero => rfl
    | succ k => exact va_up_ne _ _ hk)
section RSR
variable {Γ : jg_G} {M M' : jg_Md} {d d' pc : Nat} {L L' : List (Option Value)} {S : List Value} {Q : jg_Q} {g : Nat → jg_C} {n r : Nat} {s s' : rs_S} {v : Option Value}
/-- a row of the reference, or a number, is read -/
theorem rs_ga {idx k : Nat} {t : FieldType} {fin : Bool} {w : Value} (hF : jg_F M.1.cls idx 12 k t fin) (hd : decode M.2.1 pc = .ok (.getfield idx, 3)) (hr : r + 11 ≤ n) (hv : (rs_fl r s.1)[k]? = some w) (kk : jg Γ M d 0 0 (pc + 3) L (w :: S) (rs_h g r s, n) Q) : jg Γ M d 0 0 pc L (.ref r :: S) (rs_h g r s, n) Q := jg_get hF hd (show r < n by omega) (rs_at g r s) hv kk
theorem rs_put {idx k : Nat} {t : FieldType} {x : Int32} {i' : Nat → Int32} (hF : jg_F M.1.cls idx 12 k t false) (hd : decode M.2.1 pc = .ok (.putfield idx, 3)) (hr : r + 11 ≤ n) (hk : k < 23) (hn : narrow t (.int x) = .int x) (hfit : fits t (.int x) = true) (hi : (rs_fl r s.1).set k (.int x) = rs_fl r i') (kk : jg Γ M d 0 0 (pc + 3) L S (rs_h g r (i', s.2), n) Q) : jg Γ M d 0 0 pc L (.int x :: .ref r :: S) (rs_h g r s, n) Q :=
  jg_put hF hd (show r < n by omega) (rs_at g r s) hk hn hfit (by rw [hi]; show jg Γ M d 0 0 (pc + 3) L S (va_up (rs_h g r s) r (.inl (12, rs_fl r i')), n) Q; rw [rs_pi]; exact kk)
/-- the world at a place -/
theorem rs_lw {i : Nat} (hd : decode M.2.1 pc = .ok (.iaload, 1)) (hr : r + 11 ≤ n) (hi : i < 22216) (kk : jg Γ M d 0 0 (pc + 1) L (.int (s.2.1 i) :: S) (rs_h g r s, n) Q) : jg Γ M d 0 0 pc L (.int (nI i) :: .ref (r + 1 + 0) :: S) (rs_h g r s, n) Q :=
  jn_iald hd (show r + 1 + 0 < n by omega) (rs_ar g r s (j := 0) (by decide)) hi (by decide) kk
theorem rs_lwN {i : Nat} {x : Int32} (hx : s.2.1 i = x) (hd : decode M.2.1 pc = .ok (.iaload, 1)) (hr : r + 11 ≤ n) (hi : i < 22216) (kk : jg Γ M d 0 0 (pc + 1) L (.int x :: S) (rs_h g r s, n) Q) : jg Γ M d 0 0 pc L (.int (nI i) :: .ref (r + 1 + 0) :: S) (rs_h g r s, n) Q := rs_lw hd hr hi (by rw [hx]; exact kk)
theorem rs_sw {i : Nat} {x : Int32} (hd : decode M.2.1 pc = .ok (.iastore, 1)) (hr : r + 11 ≤ n) (hi : i < 22216) (kk : jg Γ M d 0 0 (pc + 1) L S (rs_h g r (s.1, upd s.2.1 i x, s.2.2), n) Q) : jg Γ M d 0 0 pc L (.int x :: .int (nI i) :: .ref (r + 1 + 0) :: S) (rs_h g r s, n) Q :=
  jn_iast hd (show r + 1 + 0 < n by omega) (rs_ar g r s (j := 0) (by decide)) hi (by decide) (by rw [← rs_pw g r s] at kk; exact kk)
/-- depth, row, five, facts, free at a place -/
theorem rs_ld {i j : Nat} (hd : decode M.2.1 pc = .ok (.iaload, 1)) (hr : r + 11 ≤ n) (hj : j + 1 < 10) (hk : rs_kd (j + 1) = 0) (hi : i < rs_ln (j + 1)) (kk : jg Γ M d 0 0 (pc + 1) L (.int (s.2.2 (j + 1) i) :: S) (rs_h g r s, n) Q) : jg Γ M d 0 0 pc L (.int (nI i) :: .ref (r + 1 + (j + 1)) :: S) (rs_h g r s, n) Q :=
  jn_iald hd (show r + 1 + (j + 1) < n by omega) (by have h9 := rs_ar g r s hj; rw [hk] at h9; exact h9) hi (by unfold rs_ln; split <;> decide) kk
theorem rs_st {i j : Nat} {x : Int32} (hd : decode M.2.1 pc = .ok (.iastore, 1)) (hr : r + 11 ≤ n) (hj : j + 1 < 10) (hk : rs_kd (j + 1) = 0) (hi : i < rs_ln (j + 1)) (kk : jg Γ M d 0 0 (pc + 1) L S (rs_h g r (s.1, s.2.1, va_up s.2.2 (j + 1) (upd (s.2.2 (j + 1)) i x)), n) Q) : jg Γ M d 0 0 pc L (.int x :: .int (nI i) :: .ref (r + 1 + (j + 1)) :: S) (rs_h g r s, n) Q :=
  jn_iast hd (show r + 1 + (j + 1) < n by omega) (by have h9 := rs_ar g r s hj; rw [hk] at h9; exact h9) hi (by unfold rs_ln; split <;> decide) (by rw [← rs_pf g r s hj] at kk; rw [hk] at kk; exact kk)
/-- tape (1), met, canBegin (2): small types -/
theorem rs_lb {i j : Nat} (hd : decode M.2.1 pc = .ok (.baload, 1)) (hr : r + 11 ≤ n) (hj : j + 1 < 10) (hk : rs_kd (j + 1) = 1) (hi : i < rs_ln (j + 1)) (kk : jg Γ M d 0 0 (pc + 1) L (.int (s.2.2 (j + 1) i) :: S) (rs_h g r s, n) Q) : jg Γ M d 0 0 pc L (.int (nI i) :: .ref (r + 1 + (j + 1)) :: S) (rs_h g r s, n) Q := by
  have hn : rs_ln (j + 1) < 2 ^ 31 := by unfold rs_ln; split <;> decide
  exact jg_bald hd (show r + 1 + (j + 1) < n by omega) (by have h9 := rs_ar g r s hj; rw [hk] at h9; exact h9) (vp_in_nI hi hn) (by rw [nI_clamp (Nat.lt_trans hi hn)]; exact kk)
theorem rs_lz {i j : Nat} (hd : decode M.2.1 pc = .ok (.baload, 1)) (hr : r + 11 ≤ n) (hj : j + 1 < 10) (hk : rs_kd (j + 1) = 2) (hi : i < rs_ln (j + 1)) (kk : jg Γ M d 0 0 (pc + 1) L (.int (s.2.2 (j + 1) i) :: S) (rs_h g r s, n) Q) : jg Γ M d 0 0 pc L (.int (nI i) :: .ref (r + 1 + (j + 1)) :: S) (rs_h g r s, n) Q := by
  have hn : rs_ln (j + 1) < 2 ^ 31 := by unfold rs_ln; split <;> decide
  exact jg_zald hd (show r + 1 + (j + 1) < n by omega) (by have h9 := rs_ar g r s hj; rw [hk] at h9; exact h9) (vp_in_nI hi hn) (by rw [nI_clamp (Nat.lt_trans hi hn)]; exact kk)
theorem rs_sb {i j : Nat} {x : Int32} (hd : decode M.2.1 pc = .ok (.bastore, 1)) (hr : r + 11 ≤ n) (hj : j + 1 < 10) (hk : rs_kd (j + 1) = 1) (hi : i < rs_ln (j + 1)) (kk : jg Γ M d 0 0 (pc + 1) L S (rs_h g r (s.1, s.2.1, va_up s.2.2 (j + 1) (upd (s.2.2 (j + 1)) i (vp_nar .byte x))), n) Q) : jg Γ M d 0 0 pc L (.int x :: .int (nI i) :: .ref (r + 1 + (j + 1)) :: S) (rs_h g r s, n) Q := by
  have hn : rs_ln (j + 1) < 2 ^ 31 := by unfold rs_ln; split <;> decide
  exact jg_bast hd (show r + 1 + (j + 1) < n by omega) (by have h9 := rs_ar g r s hj; rw [hk] at h9; exact h9) (vp_in_nI hi hn) (by rw [nI_clamp (Nat.lt_trans hi hn)]; rw [← rs_pf g r s hj] at kk; rw [hk] at kk; exact kk)
theorem rs_sz {i j : Nat} {x : Int32} (hd : decode M.2.1 pc = .ok (.bastore, 1)) (hr : r + 11 ≤ n) (hj : j + 1 < 10) (hk : rs_kd (j + 1) = 2) (hi : i < rs_ln (j + 1)) (kk : jg Γ M d 0 0 (pc + 1) L S (rs_h g r (s.1, s.2.1, va_up s.2.2 (j + 1) (upd (s.2.2 (j + 1)) i (vp_nar .boolean x))), n) Q) : jg Γ M d 0 0 pc L (.int x :: .int (nI i) :: .ref (r + 1 + (j + 1)) :: S) (rs_h g r s, n) Q := by
  have hn : rs_ln (j + 1) < 2 ^ 31 := by unfold rs_ln; split <;> decide
  exact jg_zast hd (show r + 1 + (j + 1) < n by omega) (by have h9 := rs_ar g r s hj; rw [hk] at h9; exact h9) (vp_in_nI hi hn) (by rw [nI_clamp (Nat.lt_trans hi hn)]; rw [← rs_pf g r s hj] at kk; rw [hk] at kk; exact kk)
/-- a method of the reference's own is called -/
theorem rs_call {idx k : Nat} {As : List Value} (hc : jg_Vc M.1.cls idx M' k) (hd : decode M.2.1 pc = .ok (.invokevirtual idx, 3)) (hr : r + 11 ≤ n) (hci : M'.1.cls = RX12) (hn : As.length = k) (hm : M'.2.2.1 ≤ 45) (hl : (jg_en (.ref r :: As)).length ≤ M'.2.2.1) (hent : jg_en (.ref r :: As) ++ List.replicate (M'.2.2.1 - (jg_en (.ref r :: As)).length) none = L') (hdd : d' + 1 ≤ d) (hS : (S.map fun v => v.category).sum ≤ 8)
    (K : jc Γ M' d' 0 0 L' (rs_h g r s, n) (.inl v) (rs_h g r s', n)) (kk : jg Γ M d 0 0 (pc + 3) L (v.toList ++ S) (rs_h g r s', n) Q) : jg Γ M d 0 0 pc L (As.reverse ++ .ref r :: S) (rs_h g r s, n) Q :=
  jc_V (ci := 12) (T9 := TX12) (N9 := 23) hc hd (by rw [hci]; rfl) (show r < n by omega) (rs_at g r s) hn hm hl hent hdd (Nat.le_refl _) (Nat.le_refl _) hS K kk
theorem rs_callS {idx k : Nat} {As : List Value} (hc : jg_Sc M.1.cls idx M' k) (hd : decode M.2.1 pc = .ok (.invokestatic idx, 3)) (hn : As.length = k) (hm : M'.2.2.1 ≤ 45) (hl : (jg_en As).length ≤ M'.2.2.1) (hent : jg_en As ++ List.replicate (M'.2.2.1 - (jg_en As).length) none = L') (hdd : d' + 1 ≤ d) (hS : (S.map fun v => v.category).sum ≤ 8)
    (K : jc Γ M' d' 0 0 L' (rs_h g r s, n) (.inl v) (rs_h g r s', n)) (kk : jg Γ M d 0 0 (pc + 3) L (v.toList ++ S) (rs_h g r s', n) Q) : jg Γ M d 0 0 pc L (As.reverse ++ S) (rs_h g r s, n) Q :=
  jc_S hc hd hn hm hl hent hdd (Nat.le_refl _) (Nat.le_refl _) hS K kk
end RSR
/-- a static method that leaves the heap as it is -/
theorem jcs0 {Γ : jg_G} {M M' : jg_Md} {d d' pc : Nat} {L L' : List (Option Value)} {S : List Value} {h : jg_H} {Q : jg_Q} {v : Option Value} {idx k : Nat} {As : List Value} (hc : jg_Sc M.1.cls idx M' k) (hd : decode M.2.1 pc = .ok (.invokestatic idx, 3)) (hn : As.length = k) (hm : M'.2.2.1 ≤ 45) (hl : (jg_en As).length ≤ M'.2.2.1) (hent : jg_en As ++ List.replicate (M'.2.2.1 - (jg_en As).length) none = L') (hdd : d' + 1 ≤ d) (hS : (S.map fun v => v.category).sum ≤ 8)
    (K : jc Γ M' d' 0 0 L' h (.inl v) h) (kk : jg Γ M d 0 0 (pc + 3) L (v.toList ++ S) h Q) : jg Γ M d 0 0 pc L (As.reverse ++ S) h Q :=
  jc_S hc hd hn hm hl hent hdd (Nat.le_refl _) (Nat.le_refl _) hS K kk
