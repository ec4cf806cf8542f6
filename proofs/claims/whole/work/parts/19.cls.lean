/-! THE CLASS's HEAP (by program wip/whole/clsrows.py): tags by number (an object's class, an array's kind and length), numbers c, those references that may change e; all other references are told by the place -/
abbrev cT : Type := Nat → Nat ⊕ (Nat × Nat)
abbrev cS : Type := (Nat → Nat → Int32) × (Nat → Nat → Option Nat)
def vr (o : Option Nat) : Value := match o with
  | none => .null
  | some q => .ref q
def ct_f (k cl : Nat) (c : Nat → Int32) (e : Nat → Option Nat) : List Value := match cl with
  | 0 => [.int (c 0), .ref (k + 1), .ref (k + 2), .ref (k + 3), .ref (k + 4), .ref (k + 5)]
  | 1 => [.int (c 0), .int (c 1), .int (c 2), .int (c 3), .int (c 4), .int (c 5), .int (c 6), .int (c 7), .int (c 8)]
  | 2 => [.int (c 0), .ref (k + 1), .ref (k + 11), .ref (k + 27), .ref (k + 121), .ref (k + 17), .ref (k + 131), .ref (k + 167), .ref (k + 168), .ref (k + 169)]
  | 3 => [.ref (k + 1), .ref (k + 7), .ref (k + 8), .int (c 3), .int (c 4), vr (e 5), .int (c 6), .ref (k + 9), .int (c 8), .int (c 9)]
  | 4 => [.ref (k + 1), .ref (k + 2), .ref (k + 3), .int (c 3), .ref (k + 4), .ref (k + 5), .ref (k + 6), .int (c 7), .ref (k + 7), .ref (k + 33), .ref (k + 34), .ref (k + 35)]
  | 5 => [.ref (k + 1), .int (c 1), .ref (k + 12), .int (c 3), .int (c 4), .int (c 5), .ref (k + 93), .int (c 7)]
  | 6 => [.int (c 0), .int (c 1), .int (c 2), .ref (k + 1), .ref (k + 2), .ref (k + 3), .int (c 6), .ref (k + 4), .ref (k + 5), .ref (k + 6), .ref (k + 7), .ref (k + 8), .ref (k + 9), .int (c 13)]
  | 7 => [.int (c 0), .ref (k + 1), .ref (k + 2), .int (c 3), .int (c 4), .ref (k + 3), .ref (k + 4), .ref (k + 5), .int (c 8), .ref (k + 6), .ref (k + 7), .int (c 11)]
  | 8 => [.ref (k + 1), .ref (k + 2), .ref (k + 3), .ref (k + 4), .ref (k + 5), .ref (k + 6), .int (c 6), .ref (k + 7), .ref (k + 8), .ref (k + 9), .int (c 10), .int (c 11), .int (c 12), .int (c 13)]
  | 9 => [.int (c 0), .int (c 1), .int (c 2), .int (c 3), .int (c 4), .int (c 5), .int (c 6), .int (c 7), vr (e 8), .int (c 9), .int (c 10), .int (c 11), .int (c 12), .int (c 13), .int (c 14), .int (c 15), .int (c 16), .int (c 17), .int (c 18)]
  | 10 => [.ref (k + 1), .ref (k + 2), .ref (k + 3), .ref (k + 4), .int (c 4), .ref (k + 5)]
  | 11 => [.ref (k + 1), .int (c 1), .ref (k + 2), .ref (k + 10), vr (e 4)]
  | _ => []
def ct_a (k kd : Nat) (c : Nat → Int32) (e : Nat → Option Nat) : (Nat → Int32) ⊕ (Nat → Int64) ⊕ (Nat → Option Nat) := if kd < 4 then .inl c else if kd = 4 then .inr (.inr e) else .inr (.inr (fun i => some (k + 1 + i)))
def ct_h (g : Nat → jg_C) (τ : cT) (s : cS) : Nat → jg_C := fun k => match τ k with
  | .inl cl => .inl (cl, ct_f k cl (s.1 k) (s.2 k))
  | .inr (kd, len) => if kd < 8 then .inr (kd, len, ct_a k kd (s.1 k) (s.2 k)) else g k
/-- where the parts of a Board lie -/
def lt (o : Nat) : Nat ⊕ (Nat × Nat) :=
  if o ≤ 0 then .inl 2 else if o ≤ 1 then .inl 8 else if o ≤ 4 then .inr (0, 24) else if o ≤ 5 then .inr (0, 25) else if o ≤ 7 then .inr (0, 40) else if o ≤ 10 then .inr (0, 6) else if o ≤ 11 then .inl 10 else if o ≤ 15 then .inr (0, 200) else if o ≤ 16 then .inr (0, 24) else if o ≤ 17 then .inl 3 else if o ≤ 18 then .inl 0 else if o ≤ 23 then .inr (0, 0) else if o ≤ 24 then .inr (4, 20) else if o ≤ 25 then .inr (0, 20) else if o ≤ 26 then .inr (2, 30) else if o ≤ 27 then .inl 5 else if o ≤ 28 then .inr (5, 10) else if o ≤ 38 then .inl 1 else if o ≤ 39 then .inr (6, 80) else if o ≤ 119 then .inl 9 else if o ≤ 120 then .inr (0, 4) else if o ≤ 121 then .inl 6 else if o ≤ 124 then .inr (0, 30) else if o ≤ 130 then .inr (0, 20) else if o ≤ 131 then .inl 4 else if o ≤ 134 then .inr (0, 6) else if o ≤ 137 then .inr (0, 4) else if o ≤ 138 then .inr (7, 25) else if o ≤ 163 then .inr (0, 24) else if o ≤ 164 then .inr (0, 4) else if o ≤ 166 then .inr (0, 16) else if o ≤ 167 then .inr (0, 12) else .inr (0, 24)
def Bd (τ : cT) (n b : Nat) : Prop := b + 170 ≤ n ∧ ∀ o, o < 170 → τ (b + o) = lt o
def Ob (τ : cT) (n q cl : Nat) : Prop := q < n ∧ τ q = .inl cl
def Ar (τ : cT) (n q kd len : Nat) : Prop := q < n ∧ τ q = .inr (kd, len)
theorem Bd.ob {τ : cT} {n b : Nat} (h : Bd τ n b) (o : Nat) (ho : o < 170) {cl : Nat} (hl : lt o = .inl cl) : Ob τ n (b + o) cl := ⟨by have := h.1; omega, (h.2 o ho).trans hl⟩
theorem Bd.ob0 {τ : cT} {n b : Nat} (h : Bd τ n b) : Ob τ n b 2 := ⟨by have := h.1; omega, h.2 0 (by decide)⟩
theorem Bd.ar {τ : cT} {n b : Nat} (h : Bd τ n b) (o : Nat) (ho : o < 170) {kd len : Nat} (hl : lt o = .inr (kd, len)) : Ar τ n (b + o) kd len := ⟨by have := h.1; omega, (h.2 o ho).trans hl⟩
theorem lt_berth : ∀ i, i < 10 → lt (29 + i) = .inl 1 := by decide
theorem lt_ship : ∀ i, i < 80 → lt (40 + i) = .inl 9 := by decide
theorem lt_way : ∀ i, i < 25 → lt (139 + i) = .inr (0, 24) := by decide
theorem Bd.berth {τ : cT} {n b : Nat} (h : Bd τ n b) {i : Nat} (hi : i < 10) : Ob τ n (b + 28 + 1 + i) 1 := by
  have := h.ob (29 + i) (by omega) (lt_berth i hi)
  rw [show b + 28 + 1 + i = b + (29 + i) by omega]; exact this
theorem Bd.ship {τ : cT} {n b : Nat} (h : Bd τ n b) {i : Nat} (hi : i < 80) : Ob τ n (b + 39 + 1 + i) 9 := by
  have := h.ob (40 + i) (by omega) (lt_ship i hi)
  rw [show b + 39 + 1 + i = b + (40 + i) by omega]; exact this
theorem Bd.way {τ : cT} {n b : Nat} (h : Bd τ n b) {i : Nat} (hi : i < 25) : Ar τ n (b + 138 + 1 + i) 0 24 := by
  have := h.ar (139 + i) (by omega) (lt_way i hi)
  rw [show b + 138 + 1 + i = b + (139 + i) by omega]; exact this
/-- a text that was read: its lines and its five rows -/
def tl (τ : cT) (q : Nat) : Nat := match τ q with
  | .inr (_, len) => len
  | _ => 0
def isA (t : Nat ⊕ (Nat × Nat)) : Bool := match t with
  | .inr (0, _) => true
  | _ => false
def acb (τ : cT) (n p : Nat) : Bool := decide (p + 6 ≤ n) && decide (τ p = .inl 0) && isA (τ (p + 1)) && isA (τ (p + 2)) && isA (τ (p + 3)) && isA (τ (p + 4)) && isA (τ (p + 5))
theorem isA_tl {τ : cT} {q : Nat} (h : isA (τ q) = true) : τ q = .inr (0, tl τ q) := by
  unfold tl
  revert h
  cases τ q with
  | inl c => intro h; cases h
  | inr x =>
    obtain ⟨k, len⟩ := x
    cases k with
    | zero => intro _; rfl
    | succ k => intro h; cases h
theorem acb_all {τ : cT} {n p : Nat} (h : acb τ n p = true) : p + 6 ≤ n ∧ τ p = .inl 0 ∧ isA (τ (p + 1)) = true ∧ isA (τ (p + 2)) = true ∧ isA (τ (p + 3)) = true ∧ isA (τ (p + 4)) = true ∧ isA (τ (p + 5)) = true := by
  simp only [acb, Bool.and_eq_true, decide_eq_true_eq] at h
  obtain ⟨⟨⟨⟨⟨⟨a1, a2⟩, a3⟩, a4⟩, a5⟩, a6⟩, a7⟩ := h
  exact ⟨a1, a2, a3, a4, a5, a6, a7⟩
theorem acb_ob {τ : cT} {n p : Nat} (h : acb τ n p = true) : Ob τ n p 0 := ⟨by have := (acb_all h).1; omega, (acb_all h).2.1⟩
theorem acb_a1 {τ : cT} {n p : Nat} (h : acb τ n p = true) : Ar τ n (p + 1) 0 (tl τ (p + 1)) := ⟨by have := (acb_all h).1; omega, isA_tl (acb_all h).2.2.1⟩
theorem acb_a2 {τ : cT} {n p : Nat} (h : acb τ n p = true) : Ar τ n (p + 2) 0 (tl τ (p + 2)) := ⟨by have := (acb_all h).1; omega, isA_tl (acb_all h).2.2.2.1⟩
theorem acb_a3 {τ : cT} {n p : Nat} (h : acb τ n p = true) : Ar τ n (p + 3) 0 (tl τ (p + 3)) := ⟨by have := (acb_all h).1; omega, isA_tl (acb_all h).2.2.2.2.1⟩
theorem acb_a4 {τ : cT} {n p : Nat} (h : acb τ n p = true) : Ar τ n (p + 4) 0 (tl τ (p + 4)) := ⟨by have := (acb_all h).1; omega, isA_tl (acb_all h).2.2.2.2.2.1⟩
theorem acb_a5 {τ : cT} {n p : Nat} (h : acb τ n p = true) : Ar τ n (p + 5) 0 (tl τ (p + 5)) := ⟨by have := (acb_all h).1; omega, isA_tl (acb_all h).2.2.2.2.2.2⟩
theorem Bd.noLines {τ : cT} {n b : Nat} (h : Bd τ n b) : acb τ n (b + 18) = true := by
  have h0 := h.1
  have e1 := h.2 18 (by decide)
  have e2 := h.2 19 (by decide)
  have e3 := h.2 20 (by decide)
  have e4 := h.2 21 (by decide)
  have e5 := h.2 22 (by decide)
  have e6 := h.2 23 (by decide)
  simp only [acb, Bool.and_eq_true, decide_eq_true_eq]
  refine ⟨⟨⟨⟨⟨⟨by omega, e1⟩, ?_⟩, ?_⟩, ?_⟩, ?_⟩, ?_⟩
  · rw [show b + 18 + 1 = b + 19 from rfl, e2]; rfl
  · rw [show b + 18 + 2 = b + 20 from rfl, e3]; rfl
  · rw [show b + 18 + 3 = b + 21 from rfl, e4]; rfl
  · rw [show b + 18 + 4 = b + 22 from rfl, e5]; rfl
  · rw [show b + 18 + 5 = b + 23 from rfl, e6]; rfl
/-- the Reader and the tape lie ahead of the Board -/
def rt (o : Nat) : Nat ⊕ (Nat × Nat) := if o ≤ 0 then .inl 11 else if o ≤ 1 then .inr (1, 400) else if o ≤ 2 then .inl 7 else if o ≤ 4 then .inr (0, 401) else if o ≤ 7 then .inr (0, 20) else .inr (0, 400)
def Sh (τ : cT) (n o : Nat) : Prop := Bd τ n (o + 10) ∧ ∀ k, k < 10 → τ (o + k) = rt k
theorem Sh.ob {τ : cT} {n o : Nat} (h : Sh τ n o) (k : Nat) (hk : k < 10) {cl : Nat} (hl : rt k = .inl cl) : Ob τ n (o + k) cl := ⟨by have := h.1.1; omega, (h.2 k hk).trans hl⟩
theorem Sh.ob0 {τ : cT} {n o : Nat} (h : Sh τ n o) : Ob τ n o 11 := ⟨by have := h.1.1; omega, h.2 0 (by decide)⟩
theorem Sh.ar {τ : cT} {n o : Nat} (h : Sh τ n o) (k : Nat) (hk : k < 10) {kd len : Nat} (hl : rt k = .inr (kd, len)) : Ar τ n (o + k) kd len := ⟨by have := h.1.1; omega, (h.2 k hk).trans hl⟩
/-- numbers and references are written -/
def cp (s : cS) (q k : Nat) (x : Int32) : cS := (va_up s.1 q (upd (s.1 q) k x), s.2)
def cq (s : cS) (q k : Nat) (x : Option Nat) : cS := (s.1, va_up s.2 q (va_up (s.2 q) k x))
def cg (s : cS) (q : Nat) (i : Int32) : Int32 := s.1 q i.toNatClampNeg
def ca (s : cS) (q : Nat) (i x : Int32) : cS := cp s q i.toNatClampNeg x
theorem ct_o {g : Nat → jg_C} {τ : cT} {n q cl : Nat} {s : cS} (h : Ob τ n q cl) : ct_h g τ s q = .inl (cl, ct_f q cl (s.1 q) (s.2 q)) := by
  unfold ct_h; rw [h.2]
theorem ct_r {g : Nat → jg_C} {τ : cT} {n q kd len : Nat} {s : cS} (h : Ar τ n q kd len) (hk : kd < 8) : ct_h g τ s q = .inr (kd, len, ct_a q kd (s.1 q) (s.2 q)) := by
  unfold ct_h; rw [h.2]; exact if_pos hk
theorem ct_ri {g : Nat → jg_C} {τ : cT} {n q kd len : Nat} {s : cS} (h : Ar τ n q kd len) (hk : kd < 4) : ct_h g τ s q = .inr (kd, len, .inl (s.1 q)) := by
  rw [ct_r h (by omega)]; unfold ct_a; rw [if_pos hk]
theorem ct_ne {g : Nat → jg_C} {τ : cT} {s s' : cS} {q : Nat} {x : jg_C} (h1 : ∀ a, a ≠ q → s'.1 a = s.1 a) (h2 : ∀ a, a ≠ q → s'.2 a = s.2 a) (hx : ct_h g τ s' q = x) : va_up (ct_h g τ s) q x = ct_h g τ s' := by
  funext a
  by_cases e : a = q
  · subst e; rw [va_up_self, hx]
  · rw [va_up_ne _ _ e]
    unfold ct_h
    rw [h1 a e, h2 a e]
theorem cp_1 {s : cS} {q k : Nat} {x : Int32} (a : Nat) (h : a ≠ q) : (cp s q k x).1 a = s.1 a := va_up_ne _ _ h
theorem cp_q {s : cS} {q k : Nat} {x : Int32} : (cp s q k x).1 q = upd (s.1 q) k x := va_up_self _ _ _
theorem cq_1 {s : cS} {q k : Nat} {x : Option Nat} (a : Nat) (h : a ≠ q) : (cq s q k x).2 a = s.2 a := va_up_ne _ _ h
theorem cq_q {s : cS} {q k : Nat} {x : Option Nat} : (cq s q k x).2 q = va_up (s.2 q) k x := va_up_self _ _ _
section CLR
variable {Γ : jg_G} {g : Nat → jg_C} {M M' : jg_Md} {d d' pc : Nat} {L L' : List (Option Value)} {S : List Value} {Q : jg_Q} {τ : cT} {n q : Nat} {s s' : cS} {v : Option Value} {h' : jg_H} {a b : Nat}
theorem vp_iL {i : Int32} {n : Nat} (h : iL i n) : vp_in i n := fun q => by
  rcases q with q | q
  · exact h.1 q
  · exact absurd h.2 (Nat.not_lt.mpr q)
theorem cs_get {idx ci k : Nat} {t : FieldType} {fin : Bool} {w : Value} (hF : jg_F M.1.cls idx ci k t fin) (hd : decode M.2.1 pc = .ok (.getfield idx, 3)) (ho : Ob τ n q ci) (hv : (ct_f q ci (s.1 q) (s.2 q))[k]? = some w) (kk : jg Γ M d a b (pc + 3) L (w :: S) (ct_h g τ s, n) Q) : jg Γ M d a b pc L (.ref q :: S) (ct_h g τ s, n) Q := jg_get hF hd (show q < n from ho.1) (ct_o ho) hv kk
theorem cs_put {idx ci k : Nat} {t : FieldType} {x : Int32} (hF : jg_F M.1.cls idx ci k t false) (hd : decode M.2.1 pc = .ok (.putfield idx, 3)) (ho : Ob τ n q ci) (hl : k < (ct_f q ci (s.1 q) (s.2 q)).length) (hn : narrow t (.int x) = .int x) (hfit : fits t (.int x) = true) (hset : (ct_f q ci (s.1 q) (s.2 q)).set k (.int x) = ct_f q ci (upd (s.1 q) k x) (s.2 q)) (kk : jg Γ M d a b (pc + 3) L S (ct_h g τ (cp s q k x), n) Q) : jg Γ M d a b pc L (.int x :: .ref q :: S) (ct_h g τ s, n) Q :=
  jg_put hF hd (show q < n from ho.1) (ct_o ho) hl hn hfit (by
    have e : va_up (ct_h g τ s) q (.inl (ci, (ct_f q ci (s.1 q) (s.2 q)).set k (.int x))) = ct_h g τ (cp s q k x) := ct_ne cp_1 (fun _ _ => rfl) (by rw [ct_o ho, cp_q, hset]; rfl)
    rw [← e] at kk
    exact kk)
theorem cs_putr {idx ci k y : Nat} {t : FieldType} (hF : jg_F M.1.cls idx ci k t false) (hd : decode M.2.1 pc = .ok (.putfield idx, 3)) (ho : Ob τ n q ci) (hl : k < (ct_f q ci (s.1 q) (s.2 q)).length) (hn : narrow t (.ref (jg_a Γ y)) = .ref (jg_a Γ y)) (hfit : fits t (.ref (jg_a Γ y)) = true) (hset : (ct_f q ci (s.1 q) (s.2 q)).set k (.ref y) = ct_f q ci (s.1 q) (va_up (s.2 q) k (some y))) (kk : jg Γ M d a b (pc + 3) L S (ct_h g τ (cq s q k (some y)), n) Q) : jg Γ M d a b pc L (.ref y :: .ref q :: S) (ct_h g τ s, n) Q :=
  jg_put hF hd (show q < n from ho.1) (ct_o ho) hl hn hfit (by
    have e : va_up (ct_h g τ s) q (.inl (ci, (ct_f q ci (s.1 q) (s.2 q)).set k (.ref y))) = ct_h g τ (cq s q k (some y)) := ct_ne (fun _ _ => rfl) cq_1 (by rw [ct_o ho, cq_q, hset]; rfl)
    rw [← e] at kk
    exact kk)
theorem cs_lda {len : Nat} {i : Int32} (hd : decode M.2.1 pc = .ok (.iaload, 1)) (ha : Ar τ n q 0 len) (hi : iL i len) (kk : jg Γ M d a b (pc + 1) L (.int (cg s q i) :: S) (ct_h g τ s, n) Q) : jg Γ M d a b pc L (.int i :: .ref q :: S) (ct_h g τ s, n) Q := jg_iald hd (show q < n from ha.1) (ct_ri ha (by decide)) (vp_iL hi) kk
theorem cs_ldb {len : Nat} {i : Int32} (hd : decode M.2.1 pc = .ok (.baload, 1)) (ha : Ar τ n q 1 len) (hi : iL i len) (kk : jg Γ M d a b (pc + 1) L (.int (cg s q i) :: S) (ct_h g τ s, n) Q) : jg Γ M d a b pc L (.int i :: .ref q :: S) (ct_h g τ s, n) Q := jg_bald hd (show q < n from ha.1) (ct_ri ha (by decide)) (vp_iL hi) kk
theorem cs_ldz {len : Nat} {i : Int32} (hd : decode M.2.1 pc = .ok (.baload, 1)) (ha : Ar τ n q 2 len) (hi : iL i len) (kk : jg Γ M d a b (pc + 1) L (.int (cg s q i) :: S) (ct_h g τ s, n) Q) : jg Γ M d a b pc L (.int i :: .ref q :: S) (ct_h g τ s, n) Q := jg_zald hd (show q < n from ha.1) (ct_ri ha (by decide)) (vp_iL hi) kk
theorem ca_up {kd len : Nat} {i x : Int32} (ha : Ar τ n q kd len) (hk : kd < 4) : va_up (ct_h g τ s) q (.inr (kd, len, .inl (upd (s.1 q) i.toNatClampNeg x))) = ct_h g τ (ca s q i x) := ct_ne (s' := ca s q i x) cp_1 (fun _ _ => rfl) (by rw [ct_ri ha hk]; unfold ca; rw [cp_q])
theorem cs_sta {len : Nat} {i x : Int32} (hd : decode M.2.1 pc = .ok (.iastore, 1)) (ha : Ar τ n q 0 len) (hi : iL i len) (kk : jg Γ M d a b (pc + 1) L S (ct_h g τ (ca s q i x), n) Q) : jg Γ M d a b pc L (.int x :: .int i :: .ref q :: S) (ct_h g τ s, n) Q := jg_iast hd (show q < n from ha.1) (ct_ri ha (by decide)) (vp_iL hi) (by rw [← ca_up ha (by decide)] at kk; exact kk)
theorem cs_stb {len : Nat} {i x : Int32} (hd : decode M.2.1 pc = .ok (.bastore, 1)) (ha : Ar τ n q 1 len) (hi : iL i len) (kk : jg Γ M d a b (pc + 1) L S (ct_h g τ (ca s q i (vp_nar .byte x)), n) Q) : jg Γ M d a b pc L (.int x :: .int i :: .ref q :: S) (ct_h g τ s, n) Q := jg_bast hd (show q < n from ha.1) (ct_ri ha (by decide)) (vp_iL hi) (by rw [← ca_up ha (by decide)] at kk; exact kk)
theorem cs_stz {len : Nat} {i x : Int32} (hd : decode M.2.1 pc = .ok (.bastore, 1)) (ha : Ar τ n q 2 len) (hi : iL i len) (kk : jg Γ M d a b (pc + 1) L S (ct_h g τ (ca s q i (vp_nar .boolean x)), n) Q) : jg Γ M d a b pc L (.int x :: .int i :: .ref q :: S) (ct_h g τ s, n) Q := jg_zast hd (show q < n from ha.1) (ct_ri ha (by decide)) (vp_iL hi) (by rw [← ca_up ha (by decide)] at kk; exact kk)
theorem cs_ldr {kd len : Nat} {i : Int32} (hkd : kd = 5 ∨ kd = 6 ∨ kd = 7) (hd : decode M.2.1 pc = .ok (.aaload, 1)) (ha : Ar τ n q kd len) (hi : iL i len) (kk : jg Γ M d a b (pc + 1) L (.ref (q + 1 + i.toNatClampNeg) :: S) (ct_h g τ s, n) Q) : jg Γ M d a b pc L (.int i :: .ref q :: S) (ct_h g τ s, n) Q :=
  jg_aald (ki := kd) (f := fun i => some (q + 1 + i)) (Or.inr hkd) hd (show q < n from ha.1) (show ct_h g τ s q = _ by rw [ct_r ha (by omega)]; unfold ct_a; rw [if_neg (by omega), if_neg (by omega)]) (vp_iL hi) rfl kk
theorem cs_ldt {len y : Nat} {i : Int32} (hd : decode M.2.1 pc = .ok (.aaload, 1)) (ha : Ar τ n q 4 len) (hi : iL i len) (hy : s.2 q i.toNatClampNeg = some y) (kk : jg Γ M d a b (pc + 1) L (.ref y :: S) (ct_h g τ s, n) Q) : jg Γ M d a b pc L (.int i :: .ref q :: S) (ct_h g τ s, n) Q :=
  jg_aald (ki := 4) (f := s.2 q) (Or.inl rfl) hd (show q < n from ha.1) (show ct_h g τ s q = _ by rw [ct_r ha (by decide)]; rfl) (vp_iL hi) hy kk
theorem cs_stt {len y : Nat} {i : Int32} (hd : decode M.2.1 pc = .ok (.aastore, 1)) (ha : Ar τ n q 4 len) (hi : iL i len) (hy : Ob τ n y 0) (kk : jg Γ M d a b (pc + 1) L S (ct_h g τ (cq s q i.toNatClampNeg (some y)), n) Q) : jg Γ M d a b pc L (.ref y :: .int i :: .ref q :: S) (ct_h g τ s, n) Q :=
  jg_aast (ki := 4) (ci := 0) (f := s.2 q) rfl rfl (Or.inl rfl) hd (show q < n from ha.1) (show ct_h g τ s q = _ by rw [ct_r ha (by decide)]; rfl) (show y < n from hy.1) (ct_o hy) (vp_iL hi) (by
    have e : va_up (ct_h g τ s) q (.inr (4, len, .inr (.inr (va_up (s.2 q) i.toNatClampNeg (some y))))) = ct_h g τ (cq s q i.toNatClampNeg (some y)) := ct_ne (fun _ _ => rfl) cq_1 (by rw [ct_r ha (by decide), cq_q]; rfl)
    rw [← e] at kk
    exact kk)
theorem cs_len {kd len : Nat} (hkd : kd < 8) (hd : decode M.2.1 pc = .ok (.arraylength, 1)) (ha : Ar τ n q kd len) (kk : jg Γ M d a b (pc + 1) L (.int (nI len) :: S) (ct_h g τ s, n) Q) : jg Γ M d a b pc L (.ref q :: S) (ct_h g τ s, n) Q := jg_alen hkd hd (show q < n from ha.1) (ct_r ha hkd) rfl kk
theorem cs_call {idx k ci : Nat} {As : List Value} {T9 : u_T} {N9 : Nat} (hc : jg_Vc M.1.cls idx M' k) (hd : decode M.2.1 pc = .ok (.invokevirtual idx, 3)) (ho : Ob τ n q ci) (hci : jg_cl[ci]? = some (M'.1.cls, T9, N9)) (hn : As.length = k) (hm : M'.2.2.1 ≤ 45) (hl : (jg_en (.ref q :: As)).length ≤ M'.2.2.1) (hent : jg_en (.ref q :: As) ++ List.replicate (M'.2.2.1 - (jg_en (.ref q :: As)).length) none = L') (hdd : d' + 1 ≤ d) (hS : (S.map fun v => v.category).sum ≤ 8)
    (K : jc Γ M' d' 0 0 L' (ct_h g τ s, n) (.inl v) h') (kk : jg Γ M d a b (pc + 3) L (v.toList ++ S) h' Q) : jg Γ M d a b pc L (As.reverse ++ .ref q :: S) (ct_h g τ s, n) Q :=
  jc_V hc hd hci (show q < n from ho.1) (ct_o ho) hn hm hl hent hdd (Nat.zero_le _) (Nat.zero_le _) hS K kk
theorem cs_callS {idx k : Nat} {As : List Value} {h : jg_H} (hc : jg_Sc M.1.cls idx M' k) (hd : decode M.2.1 pc = .ok (.invokestatic idx, 3)) (hn : As.length = k) (hm : M'.2.2.1 ≤ 45) (hl : (jg_en As).length ≤ M'.2.2.1) (hent : jg_en As ++ List.replicate (M'.2.2.1 - (jg_en As).length) none = L') (hdd : d' + 1 ≤ d) (hS : (S.map fun v => v.category).sum ≤ 8)
    (K : jc Γ M' d' 0 0 L' h (.inl v) h') (kk : jg Γ M d a b (pc + 3) L (v.toList ++ S) h' Q) : jg Γ M d a b pc L (As.reverse ++ S) h Q :=
  jc_S hc hd hn hm hl hent hdd (Nat.zero_le _) (Nat.zero_le _) hS K kk
def jg_Nc (own : String) (idx : Nat) (M : jg_Md) (n : Nat) : Prop := (∃ host, Cond.methodLinkNest own idx M.1 host ∈ jg_nest) ∧ Cond.static M.1 ∈ jg_ws ∧ Cond.initialized M.1.cls ∈ jg_ws ∧ Cond.code M.1 M.2.1 M.2.2.1 M.2.2.2 ∈ jg_ws ∧ (M.1.cls ≠ "java/lang/invoke/MethodHandle" ∧ M.1.cls ≠ "java/lang/invoke/VarHandle") ∧ (parseMethodDescriptor M.1.desc).map (fun d => d.parameters.length) = some n ∧ plainName M.1.cls = true
theorem cs_callN {idx k : Nat} {As : List Value} {h : jg_H} (hc : jg_Nc M.1.cls idx M' k) (hd : decode M.2.1 pc = .ok (.invokestatic idx, 3)) (hn : As.length = k) (hm : M'.2.2.1 ≤ 45) (hl : (jg_en As).length ≤ M'.2.2.1) (hent : jg_en As ++ List.replicate (M'.2.2.1 - (jg_en As).length) none = L') (hdd : d' + 1 ≤ d) (hS : (S.map fun v => v.category).sum ≤ 8)
    (K : jc Γ M' d' 0 0 L' h (.inl v) h') (kk : jg Γ M d a b (pc + 3) L (v.toList ++ S) h' Q) : jg Γ M d a b pc L (As.reverse ++ S) h Q := by
  obtain ⟨⟨host, c1⟩, c2, c3, c4, c5, c6, c7⟩ := hc
  exact jg_callSN c1 c2 c3 c4 c5 c6 c7 hd hn hm hl hent hdd (Nat.zero_le _) (Nat.zero_le _) hS (K (jq (.inl v) h') ⟨rfl, rfl⟩) (fun v9 h9 e => by obtain ⟨e1, e2⟩ := e; cases e1; subst e2; exact kk) (fun E9 h9 e => nomatch e.1)
end CLR
theorem kw_X8_45 : jg_Nc RX8 45 mX11_copyRow 2 := ⟨⟨"SiltHarbour", by decide +kernel⟩, wt_X11_copyRow, wi_X11, wc_X11_copyRow, by decide, by decide +kernel, by decide +kernel⟩
theorem kw_X10_33 : jg_Nc RX10 33 mX11_copyRow 2 := ⟨⟨"SiltHarbour", by decide +kernel⟩, wt_X11_copyRow, wi_X11, wc_X11_copyRow, by decide, by decide +kernel, by decide +kernel⟩
theorem kw_X5_51 : jg_Nc RX5 51 mX11_copyRow 2 := ⟨⟨"SiltHarbour", by decide +kernel⟩, wt_X11_copyRow, wi_X11, wc_X11_copyRow, by decide, by decide +kernel, by decide +kernel⟩
theorem kw_X6_49 : jg_Nc RX6 49 mX11_copyRow 2 := ⟨⟨"SiltHarbour", by decide +kernel⟩, wt_X11_copyRow, wi_X11, wc_X11_copyRow, by decide, by decide +kernel, by decide +kernel⟩
theorem kw_X3_39 : jg_Nc RX3 39 mX11_copyRow 2 := ⟨⟨"SiltHarbour", by decide +kernel⟩, wt_X11_copyRow, wi_X11, wc_X11_copyRow, by decide, by decide +kernel, by decide +kernel⟩
theorem kw_X4_44 : jg_Nc RX4 44 mX11_copyRow 2 := ⟨⟨"SiltHarbour", by decide +kernel⟩, wt_X11_copyRow, wi_X11, wc_X11_copyRow, by decide, by decide +kernel, by decide +kernel⟩
theorem kw_X2_305 : jg_Nc RX2 305 mX11_capped 1 := ⟨⟨"SiltHarbour", by decide +kernel⟩, wt_X11_capped, wi_X11, wc_X11_capped, by decide, by decide +kernel, by decide +kernel⟩
theorem kw_X6_59 : jg_Nc RX6 59 mX11_capped 1 := ⟨⟨"SiltHarbour", by decide +kernel⟩, wt_X11_capped, wi_X11, wc_X11_capped, by decide, by decide +kernel, by decide +kernel⟩
