/-! NEW BOARDS AND OBJECTS AS STATES (by program wip/whole/mk2.py) -/
/-- a cell by its tag -/
def cel (t : Nat ⊕ (Nat × Nat)) (k : Nat) (c : Nat → Int32) (e : Nat → Option Nat) : jg_C := match t with
  | .inl cl => .inl (cl, ct_f k cl c e)
  | .inr (kd, len) => .inr (kd, len, ct_a k kd c e)
theorem ct_cel {g : Nat → jg_C} {τ : cT} {s : cS} {k : Nat} {t : Nat ⊕ (Nat × Nat)} (ht : τ k = t) (hk : ∀ kd len, t = .inr (kd, len) → kd < 8) : ct_h g τ s k = cel t k (s.1 k) (s.2 k) := by
  unfold ct_h cel
  rw [ht]
  cases t with
  | inl c => rfl
  | inr x => exact if_pos (hk x.1 x.2 rfl)
theorem ct_alike {g : Nat → jg_C} {τ τ' : cT} {s s' : cS} {k : Nat} (ht : τ' k = τ k) (h1 : s'.1 k = s.1 k) (h2 : s'.2 k = s.2 k) : ct_h g τ' s' k = ct_h g τ s k := by
  unfold ct_h; rw [ht, h1, h2]
theorem ct_base {g : Nat → jg_C} {τ : cT} {s : cS} {k : Nat} (ht : τ k = .inr (8, 0)) : ct_h g τ s k = g k := by
  unfold ct_h; rw [ht]; exact if_neg (by decide)
/-- a Board as it is made: numbers and references, by its place -/
def iniB (i j : Nat) : Int32 := if i = 2 ∨ i = 3 then (if j < 24 then nI 20 else 0) else if i = 16 then (if j < 24 then (-1) else 0) else if i = 27 then (if j = 4 then nI 2 else if j = 5 then nI 1 else 0) else 0
def inrB (b i j : Nat) : Option Nat := if i = 17 then some (b + 18) else if i = 24 then (if j < 20 then some (b + 18) else none) else if 40 ≤ i ∧ i ≤ 119 then some (b + 18) else none
def tB (τ : cT) (n : Nat) : cT := fun k => if n ≤ k ∧ k < n + 170 then lt (k - n) else τ k
def iB (s : cS) (n : Nat) : cS := (fun k => if n ≤ k ∧ k < n + 170 then iniB (k - n) else s.1 k, fun k => if n ≤ k ∧ k < n + 170 then inrB n (k - n) else s.2 k)
set_option maxRecDepth 20000 in
theorem lt_kd : ∀ i, i < 170 → ∀ kd len, lt i = .inr (kd, len) → kd < 8 := by
  have h : ∀ i, i < 170 → (match lt i with | .inl _ => true | .inr (kd, _) => decide (kd < 8)) = true := by decide
  intro i hi kd len e
  have := h i hi
  rw [e] at this
  exact of_decide_eq_true this
set_option maxRecDepth 20000 in
theorem cBd_len (n : Nat) : (cBd n).length = 170 := rfl
set_option maxRecDepth 20000 in
theorem cBd_at (n : Nat) : ∀ i, i < 170 → (cBd n)[i]? = some (cel (lt i) (n + i) (iniB i) (inrB n i)) := by
  intro i hi
  match i, hi with
  | 0, _ => rfl
  | 1, _ => rfl
  | 2, _ => rfl
  | 3, _ => rfl
  | 4, _ => rfl
  | 5, _ => rfl
  | 6, _ => rfl
  | 7, _ => rfl
  | 8, _ => rfl
  | 9, _ => rfl
  | 10, _ => rfl
  | 11, _ => rfl
  | 12, _ => rfl
  | 13, _ => rfl
  | 14, _ => rfl
  | 15, _ => rfl
  | 16, _ => rfl
  | 17, _ => rfl
  | 18, _ => rfl
  | 19, _ => rfl
  | 20, _ => rfl
  | 21, _ => rfl
  | 22, _ => rfl
  | 23, _ => rfl
  | 24, _ => rfl
  | 25, _ => rfl
  | 26, _ => rfl
  | 27, _ => rfl
  | 28, _ => rfl
  | 29, _ => rfl
  | 30, _ => rfl
  | 31, _ => rfl
  | 32, _ => rfl
  | 33, _ => rfl
  | 34, _ => rfl
  | 35, _ => rfl
  | 36, _ => rfl
  | 37, _ => rfl
  | 38, _ => rfl
  | 39, _ => rfl
  | 40, _ => rfl
  | 41, _ => rfl
  | 42, _ => rfl
  | 43, _ => rfl
  | 44, _ => rfl
  | 45, _ => rfl
  | 46, _ => rfl
  | 47, _ => rfl
  | 48, _ => rfl
  | 49, _ => rfl
  | 50, _ => rfl
  | 51, _ => rfl
  | 52, _ => rfl
  | 53, _ => rfl
  | 54, _ => rfl
  | 55, _ => rfl
  | 56, _ => rfl
  | 57, _ => rfl
  | 58, _ => rfl
  | 59, _ => rfl
  | 60, _ => rfl
  | 61, _ => rfl
  | 62, _ => rfl
  | 63, _ => rfl
  | 64, _ => rfl
  | 65, _ => rfl
  | 66, _ => rfl
  | 67, _ => rfl
  | 68, _ => rfl
  | 69, _ => rfl
  | 70, _ => rfl
  | 71, _ => rfl
  | 72, _ => rfl
  | 73, _ => rfl
  | 74, _ => rfl
  | 75, _ => rfl
  | 76, _ => rfl
  | 77, _ => rfl
  | 78, _ => rfl
  | 79, _ => rfl
  | 80, _ => rfl
  | 81, _ => rfl
  | 82, _ => rfl
  | 83, _ => rfl
  | 84, _ => rfl
  | 85, _ => rfl
  | 86, _ => rfl
  | 87, _ => rfl
  | 88, _ => rfl
  | 89, _ => rfl
  | 90, _ => rfl
  | 91, _ => rfl
  | 92, _ => rfl
  | 93, _ => rfl
  | 94, _ => rfl
  | 95, _ => rfl
  | 96, _ => rfl
  | 97, _ => rfl
  | 98, _ => rfl
  | 99, _ => rfl
  | 100, _ => rfl
  | 101, _ => rfl
  | 102, _ => rfl
  | 103, _ => rfl
  | 104, _ => rfl
  | 105, _ => rfl
  | 106, _ => rfl
  | 107, _ => rfl
  | 108, _ => rfl
  | 109, _ => rfl
  | 110, _ => rfl
  | 111, _ => rfl
  | 112, _ => rfl
  | 113, _ => rfl
  | 114, _ => rfl
  | 115, _ => rfl
  | 116, _ => rfl
  | 117, _ => rfl
  | 118, _ => rfl
  | 119, _ => rfl
  | 120, _ => rfl
  | 121, _ => rfl
  | 122, _ => rfl
  | 123, _ => rfl
  | 124, _ => rfl
  | 125, _ => rfl
  | 126, _ => rfl
  | 127, _ => rfl
  | 128, _ => rfl
  | 129, _ => rfl
  | 130, _ => rfl
  | 131, _ => rfl
  | 132, _ => rfl
  | 133, _ => rfl
  | 134, _ => rfl
  | 135, _ => rfl
  | 136, _ => rfl
  | 137, _ => rfl
  | 138, _ => rfl
  | 139, _ => rfl
  | 140, _ => rfl
  | 141, _ => rfl
  | 142, _ => rfl
  | 143, _ => rfl
  | 144, _ => rfl
  | 145, _ => rfl
  | 146, _ => rfl
  | 147, _ => rfl
  | 148, _ => rfl
  | 149, _ => rfl
  | 150, _ => rfl
  | 151, _ => rfl
  | 152, _ => rfl
  | 153, _ => rfl
  | 154, _ => rfl
  | 155, _ => rfl
  | 156, _ => rfl
  | 157, _ => rfl
  | 158, _ => rfl
  | 159, _ => rfl
  | 160, _ => rfl
  | 161, _ => rfl
  | 162, _ => rfl
  | 163, _ => rfl
  | 164, _ => rfl
  | 165, _ => rfl
  | 166, _ => rfl
  | 167, _ => rfl
  | 168, _ => rfl
  | 169, _ => rfl
  | k + 170, hk => exact absurd hk (by omega)
theorem bd_new {g : Nat → jg_C} {τ : cT} {s : cS} {n : Nat} : apx (ct_h g τ s) n (cBd n) = ct_h g (tB τ n) (iB s n) := by
  funext k
  by_cases h : n ≤ k ∧ k < n + 170
  · obtain ⟨i, rfl⟩ : ∃ i, k = n + i := ⟨k - n, by omega⟩
    have hi : i < 170 := by omega
    have e1 : tB τ n (n + i) = lt i := by unfold tB; rw [if_pos h, Nat.add_sub_cancel_left]
    rw [app_at (cBd_at n i hi), ct_cel e1 (lt_kd i hi)]
    show _ = cel (lt i) (n + i) (if _ then _ else _) (if _ then _ else _)
    rw [if_pos h, if_pos h, Nat.add_sub_cancel_left]
  · have e1 : apx (ct_h g τ s) n (cBd n) k = ct_h g τ s k := by
      unfold apx
      by_cases h2 : n ≤ k
      · rw [if_pos h2, List.getElem?_eq_none (by rw [cBd_len]; omega)]; rfl
      · rw [if_neg h2]
    rw [e1]
    exact (ct_alike (show tB τ n k = τ k from if_neg h) (show (if _ then _ else _) = _ from if_neg h) (show (if _ then _ else _) = _ from if_neg h)).symm
theorem tB_Bd {τ : cT} {n : Nat} : Bd (tB τ n) (n + 170) n := ⟨Nat.le_refl _, fun o ho => by unfold tB; rw [if_pos (by omega), Nat.add_sub_cancel_left]⟩
/-- more cells: what lay there lies there still -/
def ext (τ : cT) (n : Nat) (τ' : cT) (n' : Nat) : Prop := n ≤ n' ∧ ∀ k, k < n → τ' k = τ k
theorem ext_r (τ : cT) (n : Nat) : ext τ n τ n := ⟨Nat.le_refl _, fun _ _ => rfl⟩
theorem ext.Ob {τ τ' : cT} {n n' q cl : Nat} (h : ext τ n τ' n') (ho : Ob τ n q cl) : Ob τ' n' q cl := ⟨Nat.lt_of_lt_of_le ho.1 h.1, (h.2 q ho.1).trans ho.2⟩
theorem ext.Bd {τ τ' : cT} {n n' b : Nat} (h : ext τ n τ' n') (ho : Bd τ n b) : Bd τ' n' b := ⟨Nat.le_trans ho.1 h.1, fun o h9 => (h.2 _ (by have := ho.1; omega)).trans (ho.2 o h9)⟩
theorem ext.Sh {τ τ' : cT} {n n' b : Nat} (h : ext τ n τ' n') (ho : Sh τ n b) : Sh τ' n' b := ⟨h.Bd ho.1, fun o h9 => (h.2 _ (by have := ho.1.1; omega)).trans (ho.2 o h9)⟩
theorem ext.acb {τ τ' : cT} {n n' p : Nat} (h : ext τ n τ' n') (ho : acb τ n p = true) : acb τ' n' p = true := by
  have h0 := acb_all ho
  have e : ∀ j, j < 6 → τ' (p + j) = τ (p + j) := fun j hj => h.2 _ (by omega)
  have e0 := e 0 (by omega)
  have h1 := h.1
  simp only [Jvm.Pilot.@@N@@.acb, Bool.and_eq_true, decide_eq_true_eq]
  rw [show τ' p = τ p from e0, e 1 (by omega), e 2 (by omega), e 3 (by omega), e 4 (by omega), e 5 (by omega)]
  exact ⟨⟨⟨⟨⟨⟨by omega, h0.2.1⟩, h0.2.2.1⟩, h0.2.2.2.1⟩, h0.2.2.2.2.1⟩, h0.2.2.2.2.2.1⟩, h0.2.2.2.2.2.2⟩
theorem tB_ext {τ : cT} {n : Nat} : ext τ n (tB τ n) (n + 170) := ⟨Nat.le_add_right _ _, fun k hk => if_neg (by omega)⟩
/-- SiltHarbour ahead of its Board, as it is made -/
def cS0 (q : Nat) : List jg_C := [.inl (11, [.ref (q + 1), .int (nI 0), .ref (q + 2), .ref (q + 10), .null]), .inr (1, 400, .inl (fun _ => 0))] ++ cRd (q + 2)
def tS (q : Nat) : cT := fun k => if q ≤ k ∧ k < q + 10 then rt (k - q) else .inr (8, 0)
def iS (q : Nat) : cS := (fun k j => if k = q + 2 ∧ j = 0 then (-1) else 0, fun _ _ => none)
theorem rt_kd : ∀ i, i < 10 → ∀ kd len, rt i = .inr (kd, len) → kd < 8 := by
  have h : ∀ i, i < 10 → (match rt i with | .inl _ => true | .inr (kd, _) => decide (kd < 8)) = true := by decide
  intro i hi kd len e
  have := h i hi
  rw [e] at this
  exact of_decide_eq_true this
theorem iS_0 (q i : Nat) (hi : i ≠ 2) : (iS q).1 (q + i) = fun _ => 0 := funext fun j => if_neg (by omega)
theorem iS_2 (q : Nat) : (iS q).1 (q + 2) = fun j => if j = 0 then (-1) else 0 := funext fun j => by
  show (if q + 2 = q + 2 ∧ j = 0 then _ else _) = _
  simp
theorem cS0_at (q : Nat) : ∀ i, i < 10 → (cS0 q)[i]? = some (cel (rt i) (q + i) ((iS q).1 (q + i)) ((iS q).2 (q + i))) := by
  intro i hi
  match i, hi with
  | 2, _ => rw [iS_2]; rfl
  | 0, _ => rw [iS_0 q 0 (by decide)]; rfl
  | 1, _ => rw [iS_0 q 1 (by decide)]; rfl
  | 3, _ => rw [iS_0 q 3 (by decide)]; rfl
  | 4, _ => rw [iS_0 q 4 (by decide)]; rfl
  | 5, _ => rw [iS_0 q 5 (by decide)]; rfl
  | 6, _ => rw [iS_0 q 6 (by decide)]; rfl
  | 7, _ => rw [iS_0 q 7 (by decide)]; rfl
  | 8, _ => rw [iS_0 q 8 (by decide)]; rfl
  | 9, _ => rw [iS_0 q 9 (by decide)]; rfl
  | k + 10, hk => exact absurd hk (by omega)
theorem sh_new {f : Nat → jg_C} {q : Nat} : apx f q (cSi q) = ct_h f (tB (tS q) (q + 10)) (iB (iS q) (q + 10)) := by
  have e1 : apx f q (cSi q) = apx (apx f q (cS0 q)) (q + 10) (cBd (q + 10)) := (app_app (xs := cS0 q) rfl rfl).symm
  have e2 : apx f q (cS0 q) = ct_h f (tS q) (iS q) := by
    funext k
    by_cases h : q ≤ k ∧ k < q + 10
    · obtain ⟨i, rfl⟩ : ∃ i, k = q + i := ⟨k - q, by omega⟩
      have hi : i < 10 := by omega
      have e3 : tS q (q + i) = rt i := by unfold tS; rw [if_pos h, Nat.add_sub_cancel_left]
      rw [app_at (cS0_at q i hi), ct_cel e3 (rt_kd i hi)]
    · have e3 : apx f q (cS0 q) k = f k := by
        unfold apx
        by_cases h2 : q ≤ k
        · rw [if_pos h2, List.getElem?_eq_none (by show 10 ≤ _; omega)]; rfl
        · rw [if_neg h2]
      rw [e3, ct_base (show tS q k = .inr (8, 0) from if_neg h)]
  rw [e1, e2, bd_new]
theorem sh_Sh {q : Nat} : Sh (tB (tS q) (q + 10)) (q + 180) q := ⟨tB_Bd, fun k hk => by
  unfold tB
  rw [if_neg (by omega)]
  unfold tS
  rw [if_pos (by omega), Nat.add_sub_cancel_left]⟩
theorem sh_base {q k : Nat} (h : ¬ (q ≤ k ∧ k < q + 180)) : tB (tS q) (q + 10) k = .inr (8, 0) := by
  unfold tB
  rw [if_neg (by omega)]
  unfold tS
  rw [if_neg (by omega)]
theorem dX12_init_0 : decode cX12_init 0 = .ok (.aload_n 0, 1) := by decide +kernel
theorem dX12_init_1 : decode cX12_init 1 = .ok (.invokespecial 7, 3) := by decide +kernel
theorem dX12_init_4 : decode cX12_init 4 = .ok (.aload_n 0, 1) := by decide +kernel
theorem dX12_init_5 : decode cX12_init 5 = .ok (.sipush 22216, 3) := by decide +kernel
theorem dX12_init_8 : decode cX12_init 8 = .ok (.newarray .int, 2) := by decide +kernel
theorem dX12_init_10 : decode cX12_init 10 = .ok (.putfield 13, 3) := by decide +kernel
theorem dX12_init_13 : decode cX12_init 13 = .ok (.aload_n 0, 1) := by decide +kernel
theorem dX12_init_14 : decode cX12_init 14 = .ok (.sipush 21334, 3) := by decide +kernel
theorem dX12_init_17 : decode cX12_init 17 = .ok (.newarray .int, 2) := by decide +kernel
theorem dX12_init_19 : decode cX12_init 19 = .ok (.putfield 17, 3) := by decide +kernel
theorem dX12_init_22 : decode cX12_init 22 = .ok (.aload_n 0, 1) := by decide +kernel
theorem dX12_init_23 : decode cX12_init 23 = .ok (.bipush 24, 2) := by decide +kernel
theorem dX12_init_25 : decode cX12_init 25 = .ok (.newarray .int, 2) := by decide +kernel
theorem dX12_init_27 : decode cX12_init 27 = .ok (.putfield 20, 3) := by decide +kernel
theorem dX12_init_30 : decode cX12_init 30 = .ok (.aload_n 0, 1) := by decide +kernel
theorem dX12_init_31 : decode cX12_init 31 = .ok (.bipush 80, 2) := by decide +kernel
theorem dX12_init_33 : decode cX12_init 33 = .ok (.newarray .int, 2) := by decide +kernel
theorem dX12_init_35 : decode cX12_init 35 = .ok (.putfield 23, 3) := by decide +kernel
theorem dX12_init_38 : decode cX12_init 38 = .ok (.aload_n 0, 1) := by decide +kernel
theorem dX12_init_39 : decode cX12_init 39 = .ok (.sipush 400, 3) := by decide +kernel
theorem dX12_init_42 : decode cX12_init 42 = .ok (.newarray .byte, 2) := by decide +kernel
theorem dX12_init_44 : decode cX12_init 44 = .ok (.putfield 26, 3) := by decide +kernel
theorem dX12_init_47 : decode cX12_init 47 = .ok (.aload_n 0, 1) := by decide +kernel
theorem dX12_init_48 : decode cX12_init 48 = .ok (.iconst (-1), 1) := by decide +kernel
theorem dX12_init_49 : decode cX12_init 49 = .ok (.putfield 30, 3) := by decide +kernel
theorem dX12_init_52 : decode cX12_init 52 = .ok (.aload_n 0, 1) := by decide +kernel
theorem dX12_init_53 : decode cX12_init 53 = .ok (.iconst 5, 1) := by decide +kernel
theorem dX12_init_54 : decode cX12_init 54 = .ok (.newarray .int, 2) := by decide +kernel
theorem dX12_init_56 : decode cX12_init 56 = .ok (.putfield 33, 3) := by decide +kernel
theorem dX12_init_59 : decode cX12_init 59 = .ok (.aload_n 0, 1) := by decide +kernel
theorem dX12_init_60 : decode cX12_init 60 = .ok (.sipush 400, 3) := by decide +kernel
theorem dX12_init_63 : decode cX12_init 63 = .ok (.newarray .boolean, 2) := by decide +kernel
theorem dX12_init_65 : decode cX12_init 65 = .ok (.putfield 36, 3) := by decide +kernel
theorem dX12_init_68 : decode cX12_init 68 = .ok (.aload_n 0, 1) := by decide +kernel
theorem dX12_init_69 : decode cX12_init 69 = .ok (.iconst 5, 1) := by decide +kernel
theorem dX12_init_70 : decode cX12_init 70 = .ok (.newarray .int, 2) := by decide +kernel
theorem dX12_init_72 : decode cX12_init 72 = .ok (.putfield 40, 3) := by decide +kernel
theorem dX12_init_75 : decode cX12_init 75 = .ok (.aload_n 0, 1) := by decide +kernel
theorem dX12_init_76 : decode cX12_init 76 = .ok (.bipush 10, 2) := by decide +kernel
theorem dX12_init_78 : decode cX12_init 78 = .ok (.newarray .int, 2) := by decide +kernel
theorem dX12_init_80 : decode cX12_init 80 = .ok (.putfield 43, 3) := by decide +kernel
theorem dX12_init_83 : decode cX12_init 83 = .ok (.aload_n 0, 1) := by decide +kernel
theorem dX12_init_84 : decode cX12_init 84 = .ok (.sipush 2920, 3) := by decide +kernel
theorem dX12_init_87 : decode cX12_init 87 = .ok (.newarray .boolean, 2) := by decide +kernel
theorem dX12_init_89 : decode cX12_init 89 = .ok (.putfield 46, 3) := by decide +kernel
def cMd (q : Nat) : List jg_C := [.inl (12, [.int 0, .ref (q + 1), .ref (q + 2), .int 0, .ref (q + 3), .ref (q + 4), .int 0, .ref (q + 5), .int 0, .int 0, .int 0, .int 0, .int 0, .int (-1), .ref (q + 6), .int 0, .ref (q + 7), .ref (q + 8), .int 0, .int 0, .ref (q + 9), .ref (q + 10), .int 0]), .inr (0, 22216, .inl (fun _ => 0)), .inr (0, 21334, .inl (fun _ => 0)), .inr (0, 24, .inl (fun _ => 0)), .inr (0, 80, .inl (fun _ => 0)), .inr (1, 400, .inl (fun _ => 0)), .inr (0, 5, .inl (fun _ => 0)), .inr (2, 400, .inl (fun _ => 0)), .inr (0, 5, .inl (fun _ => 0)), .inr (0, 10, .inl (fun _ => 0)), .inr (2, 2920, .inl (fun _ => 0))]
def iM : rs_S := (fun k => if k = 13 then (-1) else 0, fun _ => 0, fun _ _ => 0)
theorem md_new {f : Nat → jg_C} {q : Nat} : apx f q (cMd q) = rs_h f q iM := by
  funext k
  by_cases h : q ≤ k ∧ k < q + 11
  · obtain ⟨i, rfl⟩ : ∃ i, k = q + i := ⟨k - q, by omega⟩
    have hi : i < 11 := by omega
    match i, hi with
    | 0, _ => rw [app_at (show (cMd q)[0]? = some (.inl (12, rs_fl q iM.1)) from rfl)]; exact (rs_at f q iM).symm
    | 1, _ => rw [app_at (show (cMd q)[1]? = some (.inr (rs_kd 0, rs_ln 0, .inl (rs_f iM 0))) from rfl)]; exact (rs_ar f q iM (j := 0) (by decide)).symm
    | 2, _ => rw [app_at (show (cMd q)[2]? = some (.inr (rs_kd 1, rs_ln 1, .inl (rs_f iM 1))) from rfl)]; exact (rs_ar f q iM (j := 1) (by decide)).symm
    | 3, _ => rw [app_at (show (cMd q)[3]? = some (.inr (rs_kd 2, rs_ln 2, .inl (rs_f iM 2))) from rfl)]; exact (rs_ar f q iM (j := 2) (by decide)).symm
    | 4, _ => rw [app_at (show (cMd q)[4]? = some (.inr (rs_kd 3, rs_ln 3, .inl (rs_f iM 3))) from rfl)]; exact (rs_ar f q iM (j := 3) (by decide)).symm
    | 5, _ => rw [app_at (show (cMd q)[5]? = some (.inr (rs_kd 4, rs_ln 4, .inl (rs_f iM 4))) from rfl)]; exact (rs_ar f q iM (j := 4) (by decide)).symm
    | 6, _ => rw [app_at (show (cMd q)[6]? = some (.inr (rs_kd 5, rs_ln 5, .inl (rs_f iM 5))) from rfl)]; exact (rs_ar f q iM (j := 5) (by decide)).symm
    | 7, _ => rw [app_at (show (cMd q)[7]? = some (.inr (rs_kd 6, rs_ln 6, .inl (rs_f iM 6))) from rfl)]; exact (rs_ar f q iM (j := 6) (by decide)).symm
    | 8, _ => rw [app_at (show (cMd q)[8]? = some (.inr (rs_kd 7, rs_ln 7, .inl (rs_f iM 7))) from rfl)]; exact (rs_ar f q iM (j := 7) (by decide)).symm
    | 9, _ => rw [app_at (show (cMd q)[9]? = some (.inr (rs_kd 8, rs_ln 8, .inl (rs_f iM 8))) from rfl)]; exact (rs_ar f q iM (j := 8) (by decide)).symm
    | 10, _ => rw [app_at (show (cMd q)[10]? = some (.inr (rs_kd 9, rs_ln 9, .inl (rs_f iM 9))) from rfl)]; exact (rs_ar f q iM (j := 9) (by decide)).symm
    | k + 11, hk => exact absurd hk (by omega)
  · have e1 : apx f q (cMd q) k = f k := by
      unfold apx
      by_cases h2 : q ≤ k
      · rw [if_pos h2, List.getElem?_eq_none (by show 11 ≤ _; omega)]; rfl
      · rw [if_neg h2]
    rw [e1]
    unfold rs_h
    rw [if_neg (by omega), if_neg (by omega)]
theorem dX12_init_92 : decode cX12_init 92 = .ok (.iconst 0, 1) := by decide +kernel
theorem dX12_init_93 : decode cX12_init 93 = .ok (.istore_n 1, 1) := by decide +kernel
theorem dX12_init_94 : decode cX12_init 94 = .ok (.iload_n 1, 1) := by decide +kernel
theorem dX12_init_95 : decode cX12_init 95 = .ok (.bipush 24, 2) := by decide +kernel
theorem dX12_init_97 : decode cX12_init 97 = .ok (.if_icmp .ge 30, 3) := by decide +kernel
theorem dX12_init_100 : decode cX12_init 100 = .ok (.aload_n 0, 1) := by decide +kernel
theorem dX12_init_101 : decode cX12_init 101 = .ok (.getfield 13, 3) := by decide +kernel
theorem dX12_init_104 : decode cX12_init 104 = .ok (.iconst 1, 1) := by decide +kernel
theorem dX12_init_105 : decode cX12_init 105 = .ok (.iload_n 1, 1) := by decide +kernel
theorem dX12_init_106 : decode cX12_init 106 = .ok (.iadd, 1) := by decide +kernel
theorem dX12_init_107 : decode cX12_init 107 = .ok (.bipush 20, 2) := by decide +kernel
theorem dX12_init_109 : decode cX12_init 109 = .ok (.iastore, 1) := by decide +kernel
theorem dX12_init_110 : decode cX12_init 110 = .ok (.aload_n 0, 1) := by decide +kernel
theorem dX12_init_111 : decode cX12_init 111 = .ok (.getfield 13, 3) := by decide +kernel
theorem dX12_init_114 : decode cX12_init 114 = .ok (.bipush 25, 2) := by decide +kernel
theorem dX12_init_116 : decode cX12_init 116 = .ok (.iload_n 1, 1) := by decide +kernel
theorem dX12_init_117 : decode cX12_init 117 = .ok (.iadd, 1) := by decide +kernel
theorem dX12_init_118 : decode cX12_init 118 = .ok (.bipush 20, 2) := by decide +kernel
theorem dX12_init_120 : decode cX12_init 120 = .ok (.iastore, 1) := by decide +kernel
theorem dX12_init_121 : decode cX12_init 121 = .ok (.iinc 1 1, 3) := by decide +kernel
theorem dX12_init_124 : decode cX12_init 124 = .ok (.goto (-30), 3) := by decide +kernel
theorem dX12_init_127 : decode cX12_init 127 = .ok (.aload_n 0, 1) := by decide +kernel
theorem dX12_init_128 : decode cX12_init 128 = .ok (.getfield 13, 3) := by decide +kernel
theorem dX12_init_131 : decode cX12_init 131 = .ok (.sipush 1080, 3) := by decide +kernel
theorem dX12_init_134 : decode cX12_init 134 = .ok (.iconst 2, 1) := by decide +kernel
theorem dX12_init_135 : decode cX12_init 135 = .ok (.iastore, 1) := by decide +kernel
theorem dX12_init_136 : decode cX12_init 136 = .ok (.aload_n 0, 1) := by decide +kernel
theorem dX12_init_137 : decode cX12_init 137 = .ok (.getfield 13, 3) := by decide +kernel
theorem dX12_init_140 : decode cX12_init 140 = .ok (.sipush 1081, 3) := by decide +kernel
theorem dX12_init_143 : decode cX12_init 143 = .ok (.iconst 1, 1) := by decide +kernel
theorem dX12_init_144 : decode cX12_init 144 = .ok (.iastore, 1) := by decide +kernel
theorem dX12_init_145 : decode cX12_init 145 = .ok (.return_, 1) := by decide +kernel
noncomputable def o_X12_i92_94 (F : Nat)   : Nat → Int32 → rs_S → Option (rs_S)
  | 0, _, _ => none
  | f + 1, l1, s => if (nI 24) ≤ l1 then (some s) else (if iL ((nI 1) + l1) 22216 then (if iL ((nI 25) + l1) 22216 then (o_X12_i92_94 F f (l1 + nI 1) (pW (pW s ((nI 1) + l1) (nI 20)) ((nI 25) + l1) (nI 20))) else none) else none)
set_option maxHeartbeats 4000000 in
theorem t_X12_i92_94 {Γ : jg_G} {g : Nat → jg_C} {n r : Nat} (hr : r + 11 ≤ n) (F : Nat)    (Q : jg_Q) {x : rs_S} (K1 : jg Γ mX12_init 1 0 0 127 [some (.ref r), none] [] (rs_h g r x, n) Q)  : ∀ (f : Nat) (l1 : Int32) (s : rs_S), o_X12_i92_94 F f l1 s = some x → jg Γ mX12_init 1 0 0 94 [some (.ref r), some (.int l1)] [] (rs_h g r s, n) Q := by
  intro f
  induction f with
  | zero => intro l1 s h; rw [o_X12_i92_94] at h; cases h
  | succ f ih =>
   intro l1 s h
   rw [o_X12_i92_94] at h
   refine jg_iload_n dX12_init_94 rfl ?_
   refine jg_bipush (v := nI 24) dX12_init_95 (by decide) ?_
   refine jg_icmp_ge (x := l1) (y := (nI 24)) (tgt := 127) dX12_init_97 (by decide) (fun c1 => ?_) (fun c1 => ?_)
   · replace h := it_t c1 h
     refine jg_fg (L' := [some (.ref r), none]) (by repeat (first | exact trivial | refine ⟨rfl, ?_⟩ | show jg_le _ _)) ?_
     obtain rfl := Option.some.inj h
     exact K1
   · replace h := it_f c1 h
     refine jg_aload_n dX12_init_100 rfl ?_
     refine rs_ga fl_X12_13 dX12_init_101 hr rfl ?_
     refine jg_iconst (v := nI 1) dX12_init_104 (by decide) ?_
     refine jg_iload_n dX12_init_105 rfl ?_
     refine jg_iadd (x := (nI 1)) (y := l1) dX12_init_106  ?_
     refine jg_bipush (v := nI 20) dX12_init_107 (by decide) ?_
     obtain ⟨q2, h⟩ := gd_some h
     refine rs_swD (s := s) (i := ((nI 1) + l1)) (x := (nI 20)) dX12_init_109 hr q2 ?_
     refine jg_aload_n dX12_init_110 rfl ?_
     refine rs_ga fl_X12_13 dX12_init_111 hr rfl ?_
     refine jg_bipush (v := nI 25) dX12_init_114 (by decide) ?_
     refine jg_iload_n dX12_init_116 rfl ?_
     refine jg_iadd (x := (nI 25)) (y := l1) dX12_init_117  ?_
     refine jg_bipush (v := nI 20) dX12_init_118 (by decide) ?_
     obtain ⟨q3, h⟩ := gd_some h
     refine rs_swD (s := (pW s ((nI 1) + l1) (nI 20))) (i := ((nI 25) + l1)) (x := (nI 20)) dX12_init_120 hr q3 ?_
     refine jg_iinc (x := l1) (v := l1 + nI 1) (L' := [some (.ref r), some (.int (l1 + nI 1))]) dX12_init_121 rfl (ic_k _ (by decide)) (by decide) rfl ?_
     refine jg_goto (tgt := 94) dX12_init_124 (by decide) ?_
     refine jg_fg (L' := [some (.ref r), some (.int (l1 + nI 1))]) (by repeat (first | exact trivial | refine ⟨rfl, ?_⟩ | show jg_le _ _)) ?_
     exact ih (l1 + nI 1) (pW (pW s ((nI 1) + l1) (nI 20)) ((nI 25) + l1) (nI 20)) h
noncomputable def o_X12_i92 (F : Nat) (s : rs_S) : Option rs_S := (o_X12_i92_94 F F (nI 0) s).bind fun x4 => (some (pW (pW x4 (nI 1080) (nI 2)) (nI 1081) (nI 1)))
theorem t_X12_i92 {Γ : jg_G} {g : Nat → jg_C} {n r : Nat} (hr : r + 11 ≤ n) (F : Nat) (s : rs_S) {x : rs_S} (h : o_X12_i92 F s = some x) : jg Γ mX12_init 1 0 0 92 [some (.ref r), none] [] (rs_h g r s, n) (jq (.inl none) (rs_h g r x, n)) := by
  rw [o_X12_i92] at h
  refine jg_iconst (v := nI 0) dX12_init_92 (by decide) ?_
  refine jg_istore_n (L' := [some (.ref r), some (.int (nI 0))]) dX12_init_93 (by decide) rfl ?_
  obtain ⟨x4, e_x4, h⟩ := bd_some h
  refine jg_fg (L' := [some (.ref r), some (.int (nI 0))]) (by repeat (first | exact trivial | refine ⟨rfl, ?_⟩ | show jg_le _ _)) ?_
  refine t_X12_i92_94 hr F  _ (x := x4) ?_ F (nI 0) s e_x4
  refine jg_aload_n dX12_init_127 rfl ?_
  refine rs_ga fl_X12_13 dX12_init_128 hr rfl ?_
  refine jg_sipush (v := nI 1080) dX12_init_131 (by decide) ?_
  refine jg_iconst (v := nI 2) dX12_init_134 (by decide) ?_
  refine rs_swD (s := x4) (i := (nI 1080)) (x := (nI 2)) dX12_init_135 hr (by decide) ?_
  refine jg_aload_n dX12_init_136 rfl ?_
  refine rs_ga fl_X12_13 dX12_init_137 hr rfl ?_
  refine jg_sipush (v := nI 1081) dX12_init_140 (by decide) ?_
  refine jg_iconst (v := nI 1) dX12_init_143 (by decide) ?_
  refine rs_swD (s := (pW x4 (nI 1080) (nI 2))) (i := (nI 1081)) (x := (nI 1)) dX12_init_144 hr (by decide) ?_
  obtain rfl := Option.some.inj h
  exact jg_return dX12_init_145 rfl ⟨rfl, rfl⟩
set_option maxHeartbeats 4000000 in
set_option maxRecDepth 20000 in
theorem t_X12_init {Γ : jg_G} (F : Nat) (f : Nat → jg_C) (q : Nat) (hn : q + 11 ≤ 1000000) {x : rs_S} (h : o_X12_i92 F iM = some x) : jc Γ mX12_init 1 10 47394 [some (.ref q), none] (apx f q [.inl (12, [.int 0, .null, .null, .int 0, .null, .null, .int 0, .null, .int 0, .int 0, .int 0, .int 0, .int 0, .int 0, .null, .int 0, .null, .null, .int 0, .int 0, .null, .null, .int 0])], q + 1) (.inl none) (rs_h f q x, q + 11) := by
  refine jc_of ?_
  refine jg_aload_n dX12_init_0 rfl ?_
  refine jg_objI ko_X12_7 (jg_m1 36 rfl rfl) (jg_m1 37 rfl rfl) dX12_init_1 (by decide) (Nat.le_of_ble_eq_true rfl) ?_
  refine jg_aload_n dX12_init_4 rfl ?_
  refine jg_sipush (v := nI 22216) dX12_init_5 (by decide) ?_
  refine jg_newa (at9 := .int) (ki := 0) (N := 22216) (by decide) rfl ka_int dX12_init_8 (by decide) (by decide) (by decide) (by show q + 1 < 1000000; omega) (Nat.le_of_ble_eq_true rfl) (Nat.le_of_ble_eq_true rfl) ?_
  refine jg_hs (S' := [.ref (q + 1), .ref q]) (h' := (apx f q ([.inl (12, [.int 0, .null, .null, .int 0, .null, .null, .int 0, .null, .int 0, .int 0, .int 0, .int 0, .int 0, .int 0, .null, .int 0, .null, .null, .int 0, .int 0, .null, .null, .int 0]), .inr (0, 22216, .inl (fun _ => 0))]), q + 2)) rfl (mk_push rfl rfl) ?_
  refine jg_putF (q := q) fl_X12_13 rfl rfl dX12_init_10 (by show q < q + 2; omega) (app_at (i := 0) rfl) (ltb rfl) rfl rfl ?_
  refine jg_hs (S' := []) (h' := (apx f q ([.inl (12, [.int 0, .ref (q + 1), .null, .int 0, .null, .null, .int 0, .null, .int 0, .int 0, .int 0, .int 0, .int 0, .int 0, .null, .int 0, .null, .null, .int 0, .int 0, .null, .null, .int 0]), .inr (0, 22216, .inl (fun _ => 0))]), q + 2)) rfl (mk_set (i := 0) (ltb rfl) rfl) ?_
  refine jg_aload_n dX12_init_13 rfl ?_
  refine jg_sipush (v := nI 21334) dX12_init_14 (by decide) ?_
  refine jg_newa (at9 := .int) (ki := 0) (N := 21334) (by decide) rfl ka_int dX12_init_17 (by decide) (by decide) (by decide) (by show q + 2 < 1000000; omega) (Nat.le_of_ble_eq_true rfl) (Nat.le_of_ble_eq_true rfl) ?_
  refine jg_hs (S' := [.ref (q + 2), .ref q]) (h' := (apx f q ([.inl (12, [.int 0, .ref (q + 1), .null, .int 0, .null, .null, .int 0, .null, .int 0, .int 0, .int 0, .int 0, .int 0, .int 0, .null, .int 0, .null, .null, .int 0, .int 0, .null, .null, .int 0]), .inr (0, 22216, .inl (fun _ => 0)), .inr (0, 21334, .inl (fun _ => 0))]), q + 3)) rfl (mk_push rfl rfl) ?_
  refine jg_putF (q := q) fl_X12_17 rfl rfl dX12_init_19 (by show q < q + 3; omega) (app_at (i := 0) rfl) (ltb rfl) rfl rfl ?_
  refine jg_hs (S' := []) (h' := (apx f q ([.inl (12, [.int 0, .ref (q + 1), .ref (q + 2), .int 0, .null, .null, .int 0, .null, .int 0, .int 0, .int 0, .int 0, .int 0, .int 0, .null, .int 0, .null, .null, .int 0, .int 0, .null, .null, .int 0]), .inr (0, 22216, .inl (fun _ => 0)), .inr (0, 21334, .inl (fun _ => 0))]), q + 3)) rfl (mk_set (i := 0) (ltb rfl) rfl) ?_
  refine jg_aload_n dX12_init_22 rfl ?_
  refine jg_bipush (v := nI 24) dX12_init_23 (by decide) ?_
  refine jg_newa (at9 := .int) (ki := 0) (N := 24) (by decide) rfl ka_int dX12_init_25 (by decide) (by decide) (by decide) (by show q + 3 < 1000000; omega) (Nat.le_of_ble_eq_true rfl) (Nat.le_of_ble_eq_true rfl) ?_
  refine jg_hs (S' := [.ref (q + 3), .ref q]) (h' := (apx f q ([.inl (12, [.int 0, .ref (q + 1), .ref (q + 2), .int 0, .null, .null, .int 0, .null, .int 0, .int 0, .int 0, .int 0, .int 0, .int 0, .null, .int 0, .null, .null, .int 0, .int 0, .null, .null, .int 0]), .inr (0, 22216, .inl (fun _ => 0)), .inr (0, 21334, .inl (fun _ => 0)), .inr (0, 24, .inl (fun _ => 0))]), q + 4)) rfl (mk_push rfl rfl) ?_
  refine jg_putF (q := q) fl_X12_20 rfl rfl dX12_init_27 (by show q < q + 4; omega) (app_at (i := 0) rfl) (ltb rfl) rfl rfl ?_
  refine jg_hs (S' := []) (h' := (apx f q ([.inl (12, [.int 0, .ref (q + 1), .ref (q + 2), .int 0, .ref (q + 3), .null, .int 0, .null, .int 0, .int 0, .int 0, .int 0, .int 0, .int 0, .null, .int 0, .null, .null, .int 0, .int 0, .null, .null, .int 0]), .inr (0, 22216, .inl (fun _ => 0)), .inr (0, 21334, .inl (fun _ => 0)), .inr (0, 24, .inl (fun _ => 0))]), q + 4)) rfl (mk_set (i := 0) (ltb rfl) rfl) ?_
  refine jg_aload_n dX12_init_30 rfl ?_
  refine jg_bipush (v := nI 80) dX12_init_31 (by decide) ?_
  refine jg_newa (at9 := .int) (ki := 0) (N := 80) (by decide) rfl ka_int dX12_init_33 (by decide) (by decide) (by decide) (by show q + 4 < 1000000; omega) (Nat.le_of_ble_eq_true rfl) (Nat.le_of_ble_eq_true rfl) ?_
  refine jg_hs (S' := [.ref (q + 4), .ref q]) (h' := (apx f q ([.inl (12, [.int 0, .ref (q + 1), .ref (q + 2), .int 0, .ref (q + 3), .null, .int 0, .null, .int 0, .int 0, .int 0, .int 0, .int 0, .int 0, .null, .int 0, .null, .null, .int 0, .int 0, .null, .null, .int 0]), .inr (0, 22216, .inl (fun _ => 0)), .inr (0, 21334, .inl (fun _ => 0)), .inr (0, 24, .inl (fun _ => 0)), .inr (0, 80, .inl (fun _ => 0))]), q + 5)) rfl (mk_push rfl rfl) ?_
  refine jg_putF (q := q) fl_X12_23 rfl rfl dX12_init_35 (by show q < q + 5; omega) (app_at (i := 0) rfl) (ltb rfl) rfl rfl ?_
  refine jg_hs (S' := []) (h' := (apx f q ([.inl (12, [.int 0, .ref (q + 1), .ref (q + 2), .int 0, .ref (q + 3), .ref (q + 4), .int 0, .null, .int 0, .int 0, .int 0, .int 0, .int 0, .int 0, .null, .int 0, .null, .null, .int 0, .int 0, .null, .null, .int 0]), .inr (0, 22216, .inl (fun _ => 0)), .inr (0, 21334, .inl (fun _ => 0)), .inr (0, 24, .inl (fun _ => 0)), .inr (0, 80, .inl (fun _ => 0))]), q + 5)) rfl (mk_set (i := 0) (ltb rfl) rfl) ?_
  refine jg_aload_n dX12_init_38 rfl ?_
  refine jg_sipush (v := nI 400) dX12_init_39 (by decide) ?_
  refine jg_newa (at9 := .byte) (ki := 1) (N := 400) (by decide) rfl ka_byte dX12_init_42 (by decide) (by decide) (by decide) (by show q + 5 < 1000000; omega) (Nat.le_of_ble_eq_true rfl) (Nat.le_of_ble_eq_true rfl) ?_
  refine jg_hs (S' := [.ref (q + 5), .ref q]) (h' := (apx f q ([.inl (12, [.int 0, .ref (q + 1), .ref (q + 2), .int 0, .ref (q + 3), .ref (q + 4), .int 0, .null, .int 0, .int 0, .int 0, .int 0, .int 0, .int 0, .null, .int 0, .null, .null, .int 0, .int 0, .null, .null, .int 0]), .inr (0, 22216, .inl (fun _ => 0)), .inr (0, 21334, .inl (fun _ => 0)), .inr (0, 24, .inl (fun _ => 0)), .inr (0, 80, .inl (fun _ => 0)), .inr (1, 400, .inl (fun _ => 0))]), q + 6)) rfl (mk_push rfl rfl) ?_
  refine jg_putF (q := q) fl_X12_26 rfl rfl dX12_init_44 (by show q < q + 6; omega) (app_at (i := 0) rfl) (ltb rfl) rfl rfl ?_
  refine jg_hs (S' := []) (h' := (apx f q ([.inl (12, [.int 0, .ref (q + 1), .ref (q + 2), .int 0, .ref (q + 3), .ref (q + 4), .int 0, .ref (q + 5), .int 0, .int 0, .int 0, .int 0, .int 0, .int 0, .null, .int 0, .null, .null, .int 0, .int 0, .null, .null, .int 0]), .inr (0, 22216, .inl (fun _ => 0)), .inr (0, 21334, .inl (fun _ => 0)), .inr (0, 24, .inl (fun _ => 0)), .inr (0, 80, .inl (fun _ => 0)), .inr (1, 400, .inl (fun _ => 0))]), q + 6)) rfl (mk_set (i := 0) (ltb rfl) rfl) ?_
  refine jg_aload_n dX12_init_47 rfl ?_
  refine jg_iconst (v := (-1)) dX12_init_48 (by decide) ?_
  refine jg_put (q := q) fl_X12_30 dX12_init_49 (by show q < q + 6; omega) (app_at (i := 0) rfl) (ltb rfl) rfl rfl ?_
  refine jg_hs (S' := []) (h' := (apx f q ([.inl (12, [.int 0, .ref (q + 1), .ref (q + 2), .int 0, .ref (q + 3), .ref (q + 4), .int 0, .ref (q + 5), .int 0, .int 0, .int 0, .int 0, .int 0, .int (-1), .null, .int 0, .null, .null, .int 0, .int 0, .null, .null, .int 0]), .inr (0, 22216, .inl (fun _ => 0)), .inr (0, 21334, .inl (fun _ => 0)), .inr (0, 24, .inl (fun _ => 0)), .inr (0, 80, .inl (fun _ => 0)), .inr (1, 400, .inl (fun _ => 0))]), q + 6)) rfl (mk_set (i := 0) (ltb rfl) rfl) ?_
  refine jg_aload_n dX12_init_52 rfl ?_
  refine jg_iconst (v := nI 5) dX12_init_53 (by decide) ?_
  refine jg_newa (at9 := .int) (ki := 0) (N := 5) (by decide) rfl ka_int dX12_init_54 (by decide) (by decide) (by decide) (by show q + 6 < 1000000; omega) (Nat.le_of_ble_eq_true rfl) (Nat.le_of_ble_eq_true rfl) ?_
  refine jg_hs (S' := [.ref (q + 6), .ref q]) (h' := (apx f q ([.inl (12, [.int 0, .ref (q + 1), .ref (q + 2), .int 0, .ref (q + 3), .ref (q + 4), .int 0, .ref (q + 5), .int 0, .int 0, .int 0, .int 0, .int 0, .int (-1), .null, .int 0, .null, .null, .int 0, .int 0, .null, .null, .int 0]), .inr (0, 22216, .inl (fun _ => 0)), .inr (0, 21334, .inl (fun _ => 0)), .inr (0, 24, .inl (fun _ => 0)), .inr (0, 80, .inl (fun _ => 0)), .inr (1, 400, .inl (fun _ => 0)), .inr (0, 5, .inl (fun _ => 0))]), q + 7)) rfl (mk_push rfl rfl) ?_
  refine jg_putF (q := q) fl_X12_33 rfl rfl dX12_init_56 (by show q < q + 7; omega) (app_at (i := 0) rfl) (ltb rfl) rfl rfl ?_
  refine jg_hs (S' := []) (h' := (apx f q ([.inl (12, [.int 0, .ref (q + 1), .ref (q + 2), .int 0, .ref (q + 3), .ref (q + 4), .int 0, .ref (q + 5), .int 0, .int 0, .int 0, .int 0, .int 0, .int (-1), .ref (q + 6), .int 0, .null, .null, .int 0, .int 0, .null, .null, .int 0]), .inr (0, 22216, .inl (fun _ => 0)), .inr (0, 21334, .inl (fun _ => 0)), .inr (0, 24, .inl (fun _ => 0)), .inr (0, 80, .inl (fun _ => 0)), .inr (1, 400, .inl (fun _ => 0)), .inr (0, 5, .inl (fun _ => 0))]), q + 7)) rfl (mk_set (i := 0) (ltb rfl) rfl) ?_
  refine jg_aload_n dX12_init_59 rfl ?_
  refine jg_sipush (v := nI 400) dX12_init_60 (by decide) ?_
  refine jg_newa (at9 := .boolean) (ki := 2) (N := 400) (by decide) rfl ka_boolean dX12_init_63 (by decide) (by decide) (by decide) (by show q + 7 < 1000000; omega) (Nat.le_of_ble_eq_true rfl) (Nat.le_of_ble_eq_true rfl) ?_
  refine jg_hs (S' := [.ref (q + 7), .ref q]) (h' := (apx f q ([.inl (12, [.int 0, .ref (q + 1), .ref (q + 2), .int 0, .ref (q + 3), .ref (q + 4), .int 0, .ref (q + 5), .int 0, .int 0, .int 0, .int 0, .int 0, .int (-1), .ref (q + 6), .int 0, .null, .null, .int 0, .int 0, .null, .null, .int 0]), .inr (0, 22216, .inl (fun _ => 0)), .inr (0, 21334, .inl (fun _ => 0)), .inr (0, 24, .inl (fun _ => 0)), .inr (0, 80, .inl (fun _ => 0)), .inr (1, 400, .inl (fun _ => 0)), .inr (0, 5, .inl (fun _ => 0)), .inr (2, 400, .inl (fun _ => 0))]), q + 8)) rfl (mk_push rfl rfl) ?_
  refine jg_putF (q := q) fl_X12_36 rfl rfl dX12_init_65 (by show q < q + 8; omega) (app_at (i := 0) rfl) (ltb rfl) rfl rfl ?_
  refine jg_hs (S' := []) (h' := (apx f q ([.inl (12, [.int 0, .ref (q + 1), .ref (q + 2), .int 0, .ref (q + 3), .ref (q + 4), .int 0, .ref (q + 5), .int 0, .int 0, .int 0, .int 0, .int 0, .int (-1), .ref (q + 6), .int 0, .ref (q + 7), .null, .int 0, .int 0, .null, .null, .int 0]), .inr (0, 22216, .inl (fun _ => 0)), .inr (0, 21334, .inl (fun _ => 0)), .inr (0, 24, .inl (fun _ => 0)), .inr (0, 80, .inl (fun _ => 0)), .inr (1, 400, .inl (fun _ => 0)), .inr (0, 5, .inl (fun _ => 0)), .inr (2, 400, .inl (fun _ => 0))]), q + 8)) rfl (mk_set (i := 0) (ltb rfl) rfl) ?_
  refine jg_aload_n dX12_init_68 rfl ?_
  refine jg_iconst (v := nI 5) dX12_init_69 (by decide) ?_
  refine jg_newa (at9 := .int) (ki := 0) (N := 5) (by decide) rfl ka_int dX12_init_70 (by decide) (by decide) (by decide) (by show q + 8 < 1000000; omega) (Nat.le_of_ble_eq_true rfl) (Nat.le_of_ble_eq_true rfl) ?_
  refine jg_hs (S' := [.ref (q + 8), .ref q]) (h' := (apx f q ([.inl (12, [.int 0, .ref (q + 1), .ref (q + 2), .int 0, .ref (q + 3), .ref (q + 4), .int 0, .ref (q + 5), .int 0, .int 0, .int 0, .int 0, .int 0, .int (-1), .ref (q + 6), .int 0, .ref (q + 7), .null, .int 0, .int 0, .null, .null, .int 0]), .inr (0, 22216, .inl (fun _ => 0)), .inr (0, 21334, .inl (fun _ => 0)), .inr (0, 24, .inl (fun _ => 0)), .inr (0, 80, .inl (fun _ => 0)), .inr (1, 400, .inl (fun _ => 0)), .inr (0, 5, .inl (fun _ => 0)), .inr (2, 400, .inl (fun _ => 0)), .inr (0, 5, .inl (fun _ => 0))]), q + 9)) rfl (mk_push rfl rfl) ?_
  refine jg_putF (q := q) fl_X12_40 rfl rfl dX12_init_72 (by show q < q + 9; omega) (app_at (i := 0) rfl) (ltb rfl) rfl rfl ?_
  refine jg_hs (S' := []) (h' := (apx f q ([.inl (12, [.int 0, .ref (q + 1), .ref (q + 2), .int 0, .ref (q + 3), .ref (q + 4), .int 0, .ref (q + 5), .int 0, .int 0, .int 0, .int 0, .int 0, .int (-1), .ref (q + 6), .int 0, .ref (q + 7), .ref (q + 8), .int 0, .int 0, .null, .null, .int 0]), .inr (0, 22216, .inl (fun _ => 0)), .inr (0, 21334, .inl (fun _ => 0)), .inr (0, 24, .inl (fun _ => 0)), .inr (0, 80, .inl (fun _ => 0)), .inr (1, 400, .inl (fun _ => 0)), .inr (0, 5, .inl (fun _ => 0)), .inr (2, 400, .inl (fun _ => 0)), .inr (0, 5, .inl (fun _ => 0))]), q + 9)) rfl (mk_set (i := 0) (ltb rfl) rfl) ?_
  refine jg_aload_n dX12_init_75 rfl ?_
  refine jg_bipush (v := nI 10) dX12_init_76 (by decide) ?_
  refine jg_newa (at9 := .int) (ki := 0) (N := 10) (by decide) rfl ka_int dX12_init_78 (by decide) (by decide) (by decide) (by show q + 9 < 1000000; omega) (Nat.le_of_ble_eq_true rfl) (Nat.le_of_ble_eq_true rfl) ?_
  refine jg_hs (S' := [.ref (q + 9), .ref q]) (h' := (apx f q ([.inl (12, [.int 0, .ref (q + 1), .ref (q + 2), .int 0, .ref (q + 3), .ref (q + 4), .int 0, .ref (q + 5), .int 0, .int 0, .int 0, .int 0, .int 0, .int (-1), .ref (q + 6), .int 0, .ref (q + 7), .ref (q + 8), .int 0, .int 0, .null, .null, .int 0]), .inr (0, 22216, .inl (fun _ => 0)), .inr (0, 21334, .inl (fun _ => 0)), .inr (0, 24, .inl (fun _ => 0)), .inr (0, 80, .inl (fun _ => 0)), .inr (1, 400, .inl (fun _ => 0)), .inr (0, 5, .inl (fun _ => 0)), .inr (2, 400, .inl (fun _ => 0)), .inr (0, 5, .inl (fun _ => 0)), .inr (0, 10, .inl (fun _ => 0))]), q + 10)) rfl (mk_push rfl rfl) ?_
  refine jg_putF (q := q) fl_X12_43 rfl rfl dX12_init_80 (by show q < q + 10; omega) (app_at (i := 0) rfl) (ltb rfl) rfl rfl ?_
  refine jg_hs (S' := []) (h' := (apx f q ([.inl (12, [.int 0, .ref (q + 1), .ref (q + 2), .int 0, .ref (q + 3), .ref (q + 4), .int 0, .ref (q + 5), .int 0, .int 0, .int 0, .int 0, .int 0, .int (-1), .ref (q + 6), .int 0, .ref (q + 7), .ref (q + 8), .int 0, .int 0, .ref (q + 9), .null, .int 0]), .inr (0, 22216, .inl (fun _ => 0)), .inr (0, 21334, .inl (fun _ => 0)), .inr (0, 24, .inl (fun _ => 0)), .inr (0, 80, .inl (fun _ => 0)), .inr (1, 400, .inl (fun _ => 0)), .inr (0, 5, .inl (fun _ => 0)), .inr (2, 400, .inl (fun _ => 0)), .inr (0, 5, .inl (fun _ => 0)), .inr (0, 10, .inl (fun _ => 0))]), q + 10)) rfl (mk_set (i := 0) (ltb rfl) rfl) ?_
  refine jg_aload_n dX12_init_83 rfl ?_
  refine jg_sipush (v := nI 2920) dX12_init_84 (by decide) ?_
  refine jg_newa (at9 := .boolean) (ki := 2) (N := 2920) (by decide) rfl ka_boolean dX12_init_87 (by decide) (by decide) (by decide) (by show q + 10 < 1000000; omega) (Nat.le_of_ble_eq_true rfl) (Nat.le_of_ble_eq_true rfl) ?_
  refine jg_hs (S' := [.ref (q + 10), .ref q]) (h' := (apx f q ([.inl (12, [.int 0, .ref (q + 1), .ref (q + 2), .int 0, .ref (q + 3), .ref (q + 4), .int 0, .ref (q + 5), .int 0, .int 0, .int 0, .int 0, .int 0, .int (-1), .ref (q + 6), .int 0, .ref (q + 7), .ref (q + 8), .int 0, .int 0, .ref (q + 9), .null, .int 0]), .inr (0, 22216, .inl (fun _ => 0)), .inr (0, 21334, .inl (fun _ => 0)), .inr (0, 24, .inl (fun _ => 0)), .inr (0, 80, .inl (fun _ => 0)), .inr (1, 400, .inl (fun _ => 0)), .inr (0, 5, .inl (fun _ => 0)), .inr (2, 400, .inl (fun _ => 0)), .inr (0, 5, .inl (fun _ => 0)), .inr (0, 10, .inl (fun _ => 0)), .inr (2, 2920, .inl (fun _ => 0))]), q + 11)) rfl (mk_push rfl rfl) ?_
  refine jg_putF (q := q) fl_X12_46 rfl rfl dX12_init_89 (by show q < q + 11; omega) (app_at (i := 0) rfl) (ltb rfl) rfl rfl ?_
  refine jg_hs (S' := []) (h' := (apx f q ([.inl (12, [.int 0, .ref (q + 1), .ref (q + 2), .int 0, .ref (q + 3), .ref (q + 4), .int 0, .ref (q + 5), .int 0, .int 0, .int 0, .int 0, .int 0, .int (-1), .ref (q + 6), .int 0, .ref (q + 7), .ref (q + 8), .int 0, .int 0, .ref (q + 9), .ref (q + 10), .int 0]), .inr (0, 22216, .inl (fun _ => 0)), .inr (0, 21334, .inl (fun _ => 0)), .inr (0, 24, .inl (fun _ => 0)), .inr (0, 80, .inl (fun _ => 0)), .inr (1, 400, .inl (fun _ => 0)), .inr (0, 5, .inl (fun _ => 0)), .inr (2, 400, .inl (fun _ => 0)), .inr (0, 5, .inl (fun _ => 0)), .inr (0, 10, .inl (fun _ => 0)), .inr (2, 2920, .inl (fun _ => 0))]), q + 11)) rfl (mk_set (i := 0) (ltb rfl) rfl) ?_
  refine jg_hs (S' := []) (h' := (rs_h f q iM, q + 11)) rfl (congrArg (fun z => (z, q + 11)) (md_new (f := f) (q := q))) ?_
  exact t_X12_i92 (Nat.le_refl _) F iM h
theorem dJ7_copyOf_59c91_0 : decode cJ7_copyOf_59c91 0 = .ok (.iload_n 1, 1) := by decide +kernel
theorem dJ7_copyOf_59c91_1 : decode cJ7_copyOf_59c91 1 = .ok (.aload_n 0, 1) := by decide +kernel
theorem dJ7_copyOf_59c91_2 : decode cJ7_copyOf_59c91 2 = .ok (.arraylength, 1) := by decide +kernel
theorem dJ7_copyOf_59c91_3 : decode cJ7_copyOf_59c91 3 = .ok (.if_icmp .ne 11, 3) := by decide +kernel
theorem dJ7_copyOf_59c91_6 : decode cJ7_copyOf_59c91 6 = .ok (.aload_n 0, 1) := by decide +kernel
theorem dJ7_copyOf_59c91_7 : decode cJ7_copyOf_59c91 7 = .ok (.invokevirtual 316, 3) := by decide +kernel
theorem dJ7_copyOf_59c91_10 : decode cJ7_copyOf_59c91 10 = .ok (.checkcast 317, 3) := by decide +kernel
theorem dJ7_copyOf_59c91_13 : decode cJ7_copyOf_59c91 13 = .ok (.areturn, 1) := by decide +kernel
theorem dJ7_copyOf_59c91_14 : decode cJ7_copyOf_59c91 14 = .ok (.iload_n 1, 1) := by decide +kernel
theorem dJ7_copyOf_59c91_15 : decode cJ7_copyOf_59c91 15 = .ok (.newarray .int, 2) := by decide +kernel
theorem dJ7_copyOf_59c91_17 : decode cJ7_copyOf_59c91 17 = .ok (.astore_n 2, 1) := by decide +kernel
theorem dJ7_copyOf_59c91_18 : decode cJ7_copyOf_59c91 18 = .ok (.aload_n 0, 1) := by decide +kernel
theorem dJ7_copyOf_59c91_19 : decode cJ7_copyOf_59c91 19 = .ok (.iconst 0, 1) := by decide +kernel
theorem dJ7_copyOf_59c91_20 : decode cJ7_copyOf_59c91 20 = .ok (.aload_n 2, 1) := by decide +kernel
theorem dJ7_copyOf_59c91_21 : decode cJ7_copyOf_59c91 21 = .ok (.iconst 0, 1) := by decide +kernel
theorem dJ7_copyOf_59c91_22 : decode cJ7_copyOf_59c91 22 = .ok (.aload_n 0, 1) := by decide +kernel
theorem dJ7_copyOf_59c91_23 : decode cJ7_copyOf_59c91 23 = .ok (.arraylength, 1) := by decide +kernel
theorem dJ7_copyOf_59c91_24 : decode cJ7_copyOf_59c91 24 = .ok (.iload_n 1, 1) := by decide +kernel
theorem dJ7_copyOf_59c91_25 : decode cJ7_copyOf_59c91 25 = .ok (.invokestatic 304, 3) := by decide +kernel
theorem dJ7_copyOf_59c91_28 : decode cJ7_copyOf_59c91 28 = .ok (.invokestatic 150, 3) := by decide +kernel
theorem dJ7_copyOf_59c91_31 : decode cJ7_copyOf_59c91 31 = .ok (.aload_n 2, 1) := by decide +kernel
theorem dJ7_copyOf_59c91_32 : decode cJ7_copyOf_59c91 32 = .ok (.areturn, 1) := by decide +kernel
theorem t_copyOf {Γ : jg_G} (h : jg_H) (q N k : Nat) (f : Nat → Int32) (hq : q < h.2) (hc : h.1 q = .inr (0, N, .inl f)) (hN : N < 100000) (hk : k < 100000) (hn : h.2 < 1000000) : jc Γ mJ7_copyOf_59c91 2 1 k [some (.ref q), some (.int (nI k)), none] h (.inl (some (.ref h.2))) (va_up h.1 h.2 (.inr (0, k, .inl (fun i => if i < k ∧ i < N then f i else 0))), h.2 + 1) := by
  refine jc_of ?_
  refine jg_iload_n dJ7_copyOf_59c91_0 rfl ?_
  refine jg_aload_n dJ7_copyOf_59c91_1 rfl ?_
  refine jg_alen (by decide) dJ7_copyOf_59c91_2 hq hc rfl ?_
  refine jg_icmp_ne (x := nI k) (y := nI N) (tgt := 14) dJ7_copyOf_59c91_3 (by decide) (fun c => ?_) (fun c => ?_)
  · refine jg_iload_n dJ7_copyOf_59c91_14 rfl ?_
    refine jg_newa (at9 := .int) (ki := 0) (N := k) (by decide) rfl ka_int dJ7_copyOf_59c91_15 (nI_pos (by omega)) (nI_clamp (by omega)) (by omega) hn (Nat.le_refl _) (Nat.le_refl _) ?_
    refine jg_astore_n (L' := [some (.ref q), some (.int (nI k)), some (.ref h.2)]) dJ7_copyOf_59c91_17 (by decide) rfl ?_
    refine jg_aload_n dJ7_copyOf_59c91_18 rfl ?_
    refine jg_iconst (v := nI 0) dJ7_copyOf_59c91_19 (by decide) ?_
    refine jg_aload_n dJ7_copyOf_59c91_20 rfl ?_
    refine jg_iconst (v := nI 0) dJ7_copyOf_59c91_21 (by decide) ?_
    refine jg_aload_n dJ7_copyOf_59c91_22 rfl ?_
    have hc2 : va_up h.1 h.2 (.inr (0, k, .inl (fun _ => 0))) q = .inr (0, N, .inl f) := by rw [va_up_ne _ _ (by omega)]; exact hc
    refine jg_alen (q := q) (by decide) dJ7_copyOf_59c91_23 (by show q < h.2 + 1; omega) hc2 rfl ?_
    refine jg_iload_n dJ7_copyOf_59c91_24 rfl ?_
    refine jg_mmin (x := nI N) (y := nI k) (jg_m7 8 rfl rfl) jw_min.1 jw_min.2 dJ7_copyOf_59c91_25 (by decide) (Nat.le_of_ble_eq_true rfl) ?_
    have em : (if nI k < nI N then nI k else nI N) = nI (if k < N then k else N) := by
      by_cases hh : k < N
      · rw [if_pos hh, if_pos (nI_lt hh (by omega))]
      · rw [if_neg hh, if_neg (nI_nlt (by omega) (by omega))]
    have hm1 : (if k < N then k else N) ≤ N := by split <;> omega
    have hm2 : (if k < N then k else N) ≤ k := by split <;> omega
    rw [em]
    refine jg_copy (S := []) (q0 := q) (q1 := h.2) (jg_m7 9 rfl rfl) dJ7_copyOf_59c91_28 (by show q < h.2 + 1; omega) (Nat.lt_succ_self _) hc2 (va_up_self _ _ _) (by decide) (by decide) (nI_pos (by omega)) (by rw [nI_clamp (show (if k < N then k else N) < 2 ^ 31 by omega)]; show 0 + _ ≤ _; omega) (by rw [nI_clamp (show (if k < N then k else N) < 2 ^ 31 by omega)]; show 0 + _ ≤ _; omega) (by decide) (Nat.le_of_ble_eq_true rfl) ?_
    refine jg_aload_n dJ7_copyOf_59c91_31 rfl ?_
    refine jg_areturn dJ7_copyOf_59c91_32 rfl (Or.inr ⟨_, rfl⟩) ⟨rfl, ?_⟩
    show (va_up (va_up _ _ _) _ _, _) = _
    rw [mk_uu, nI_clamp (show (if k < N then k else N) < 2 ^ 31 by omega)]
    refine congrArg (fun z => (va_up h.1 h.2 (.inr (0, k, .inl z)), h.2 + 1)) (funext fun i => ?_)
    show (if 0 ≤ i ∧ i < 0 + (if k < N then k else N) then f (0 + (i - 0)) else 0) = _
    by_cases hi : i < k ∧ i < N
    · rw [if_pos hi, if_pos ⟨Nat.zero_le _, by split <;> omega⟩, show 0 + (i - 0) = i by omega]
    · rw [if_neg hi, if_neg (by intro h9; apply hi; have := h9.2; omega)]
  · have hkN : k = N := (nI_eq (by omega) (by omega)).mp c
    subst hkN
    refine jg_aload_n dJ7_copyOf_59c91_6 rfl ?_
    refine jg_clone (idx := 316) rfl (jg_m7 1 rfl rfl) (jg_m7 2 rfl rfl) (jg_m7 3 rfl rfl) (jg_m7 4 rfl rfl) (jg_m7 5 rfl rfl) (by decide) dJ7_copyOf_59c91_7 hq hc hn (Nat.le_refl _) (Nat.le_refl _) (by decide) (Nat.le_of_ble_eq_true rfl) ?_
    refine mk_sw (ceq_i (f' := fun i => if i < k ∧ i < k then f i else 0) (fun i hi => (if_pos ⟨hi, hi⟩).symm)) ?_
    refine jg_castI (q := h.2) (N := k) (jg_m7 7 rfl rfl) dJ7_copyOf_59c91_10 (Nat.lt_succ_self _) (va_up_self _ _ _) ?_
    exact jg_areturn dJ7_copyOf_59c91_13 rfl (Or.inr ⟨_, rfl⟩) ⟨rfl, rfl⟩
