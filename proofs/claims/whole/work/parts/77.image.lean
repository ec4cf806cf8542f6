/-! THE PURE LAYER: the image -/
section IMG
variable {F : Nat} {x : Nat → Int32} {τ τ' : cT} {n n' a b m k i : Nat} {c c' : cS} {s : rs_S} {v v' : Nat → Int32} {S S' : Nat → Nat → Bool}
def f8 (S : Nat → Nat → Bool) : Nat → Nat → Bool := s1 (s1 (s1 (s1 (sr (sr (sr (s1 (sr (sr (sr (sr (sr (sr S 2 24) 3 24) 4 24) 5 25) 6 40) 7 40) 1 6) 8 6) 9 6) 10 6) 1 10) 1 11) 1 12) 1 13
def f10 (S : Nat → Nat → Bool) : Nat → Nat → Bool := sr (s1 (sr (sr (sr (sr S 12 200) 13 200) 14 200) 15 200) 11 4) 16 24
def f6 (S : Nat → Nat → Bool) : Nat → Nat → Bool := s1 (sr (sr (sr (sr (sr (sr (s1 (sr (sr (sr (s1 (s1 (s1 S 121 0) 121 1) 121 2) 122 30) 123 30) 124 30) 121 6) 125 20) 126 20) 127 20) 128 20) 129 20) 130 20) 121 13
def f4 (S : Nat → Nat → Bool) : Nat → Nat → Bool := s1 (sr (sr (sr S 132 6) 133 6) 134 6) 131 3
def sF (m k : Nat) : Nat → Nat → Bool := f4 (sL (f6 (sP (f10 (f8 (s1 (fun _ _ => false) 0 0))) m k)))
def sub (S S' : Nat → Nat → Bool) : Prop := ∀ o j, S o j = true → S' o j = true
theorem sub.a1 {o j : Nat} (h : sub S S') : sub (s1 S o j) (s1 S' o j) := fun o' j' q => by
  unfold s1 at *
  rw [Bool.or_eq_true] at *
  exact q.imp (h o' j') id
theorem sub.ar {o l : Nat} (h : sub S S') : sub (sr S o l) (sr S' o l) := fun o' j' q => by
  unfold sr at *
  rw [Bool.or_eq_true] at *
  exact q.imp (h o' j') id
theorem sub.lb (h : sub S S') : sub S (sB S' m) := fun o' j' q => by
  unfold sB
  rw [Bool.or_eq_true]
  exact Or.inl (h o' j' q)
theorem sub.ls (h : sub S S') : sub S (sS S' m) := fun o' j' q => by
  unfold sS
  rw [Bool.or_eq_true]
  exact Or.inl (h o' j' q)
theorem sub.rfl' : sub S S := fun _ _ h => h
theorem sub.i1 {o j : Nat} (h : sub S S') : sub S (s1 S' o j) := fun o' j' q => by
  unfold s1
  rw [Bool.or_eq_true]
  exact Or.inl (h o' j' q)
theorem sub.ir {o l : Nat} (h : sub S S') : sub S (sr S' o l) := fun o' j' q => by
  unfold sr
  rw [Bool.or_eq_true]
  exact Or.inl (h o' j' q)
theorem sub.p (h : sub S S') : sub (sP S 0 0) (sP S' m k) := by
  unfold sP
  have h1 : sub (sB (s1 S 27 1) 0) (sB (s1 S' 27 1) m) := by rw [sB_0]; exact h.a1.lb
  have h2 : sub (sS (s1 (sB (s1 S 27 1) 0) 27 3) 0) (sS (s1 (sB (s1 S' 27 1) m) 27 3) k) := by rw [sS_0]; exact h1.a1.ls
  exact h2.a1.a1.ar.a1
theorem sub.f (h : sub S S') : sub (f4 (sL (f6 S))) (f4 (sL (f6 S'))) := by
  unfold f4 sL f6 sD
  exact h.a1.a1.a1.ar.ar.ar.a1.ar.ar.ar.ar.ar.ar.a1.a1.ar.a1.a1.ar.a1.a1.ar.ar.ar.a1
theorem sF_0 : sub (sF 0 0) (sF m k) := (sub.p sub.rfl').f
theorem sF_pl : ∀ q, q < 54 → ∀ r, r < 54 → (match wk (54 * q + r) with | some (o, j) => sF 0 0 o j | none => true) = true := by decide +kernel
theorem sF_wk {q o j : Nat} (h : wk q = some (o, j)) : sF m k o j = true := by
  have hq : q < 2812 := by
    by_cases e : q < 2812
    · exact e
    · rw [wk_le (by omega)] at h; cases h
  have := sF_pl (q / 54) (by omega) (q % 54) (by omega)
  rw [show 54 * (q / 54) + q % 54 = q by omega, h] at this
  exact sF_0 o j this
theorem sF_ber {f : Nat} (hi : i < m) (hf : f < 8) : sF m k (29 + i) f = true := by
  have h0 : sub (sB (s1 (f10 (f8 (s1 (fun _ _ => false) 0 0))) 27 1) m) (sF m k) := by
    unfold sF f4 sL f6 sD sP
    exact (((((((((((((((((((((((((((((((((((sub.rfl').i1).ls).i1).i1).ir).i1).i1).i1).i1).ir).ir).ir).i1).ir).ir).ir).ir).ir).ir).i1).i1).ir).i1).i1).ir).i1).i1).ir).ir).ir).i1))))
  refine h0 _ _ ?_
  unfold sB
  rw [Bool.or_eq_true]
  right
  simp only [Bool.and_eq_true, decide_eq_true_eq]
  omega
theorem sF_shp {f : Nat} (hi : i < k) (hf : f < 19) (h8 : f ≠ 8) : sF m k (40 + i) f = true := by
  have h0 : sub (sS (s1 (sB (s1 (f10 (f8 (s1 (fun _ _ => false) 0 0))) 27 1) m) 27 3) k) (sF m k) := by
    unfold sF f4 sL f6 sD sP
    exact (((((((((((((((((((((((((((((((((sub.rfl').i1).i1).ir).i1).i1).i1).i1).ir).ir).ir).i1).ir).ir).ir).ir).ir).ir).i1).i1).ir).i1).i1).ir).i1).i1).ir).ir).ir).i1))))
  refine h0 _ _ ?_
  unfold sS
  rw [Bool.or_eq_true]
  right
  simp only [Bool.and_eq_true, decide_eq_true_eq]
  omega
theorem sF_few : ∀ j, j < 24 → sF 0 0 16 j = true ∧ (j < 4 → sF 0 0 120 j = true) ∧ (j < 20 → sF 0 0 25 j = true) := by decide +kernel
theorem sF_no {o j : Nat} (hm : m ≤ 10) (hk : k ≤ 80) (h1 : 18 ≤ o) (h2 : o < 24) : sF m k o j = false := by
  cases e : sF m k o j with
  | false => rfl
  | true =>
    exfalso
    unfold sF f4 sL f6 sD sP f10 f8 s1 sr sB sS at e
    simp only [Bool.or_eq_true, Bool.and_eq_true, decide_eq_true_eq, Bool.false_eq_true, false_or] at e
    omega
theorem mix_0 (c : cS) (a b : Nat) : mix c a b (fun _ _ => false) c.2 = c := by
  refine Prod.ext (funext fun q => funext fun j => ?_) rfl
  show (if b ≤ q ∧ false = true then _ else c.1 q j) = c.1 q j
  rw [if_neg (by simp)]
theorem low_0 : low (s1 (fun _ _ => false) 0 0) := low_1 (fun o j h => by cases h) (by decide)
theorem o_copyB {p : Nat} (hF : 81 ≤ F) (h : RB τ n c a v) (hf : far a b) (h28 : acb τ n 28 = true) (hp : c.2 (a + 17) 5 = some p) (hpa : acb τ n p = true) : o_X2_copyFrom F τ n b a c = some (mix c a b (sF (N (v 999)) (N (v 1211))) (eL (eS c.2 a b (N (v 1211))) a b (N (v 2811)) p)) := by
  have n9 := h.n999
  have n12 := h.n1211
  have n28 := h.n2811
  have e0 : cp c b 0 (c.1 a 0) = mix c a b (s1 (fun _ _ => false) 0 0) c.2 := by
    have := mix_1 (c0 := c) (a := a) (b := b) (o := 0) (j := 0) (S := fun _ _ => false) (e := c.2)
    rw [mix_0] at this
    exact this
  have zs : ∀ i, i < N (v 1211) → zb (c.1 (a + (40 + i)) 3) ∧ zb (c.1 (a + (40 + i)) 17) ∧ ∃ p, c.2 (a + (40 + i)) 8 = some p ∧ acb τ n p = true := fun i hi => by
    obtain ⟨t, ht, e6⟩ := h.rg.fo (show i < 80 by omega)
    have s3 := h.shp i hi 3 6 rfl
    have bk := h.bak i hi
    rw [show a + (40 + i) = a + 40 + i by omega]
    refine ⟨?_, ?_, ?_⟩
    · rw [s3, e6]
      match t, ht with
      | 0, _ => exact Or.inl rfl
      | 1, _ => exact Or.inr rfl
      | t + 2, h => exact absurd h (by omega)
    · rcases bk with ⟨_, _, e⟩ | ⟨_, _, e⟩
      · rw [e]; exact Or.inl rfl
      · rw [e]; exact Or.inr rfl
    · rcases h.law i hi with ⟨_, e⟩ | ⟨t, ht, _, e⟩
      · exact ⟨28, e, h28⟩
      · obtain ⟨_, q, q1, q2, _⟩ := h.txt t ht
        exact ⟨q, by rw [e]; exact q1, q2⟩
  unfold o_X2_copyFrom
  obtain ⟨a8, l8⟩ := cf_X8 (τ := τ) (n := n) (c0 := c) (e := c.2) hf low_0
  obtain ⟨a10, l10⟩ := cf_X10 (τ := τ) (n := n) (c0 := c) (e := c.2) hf l8
  obtain ⟨a5, l5⟩ := cf_X5 (F := F) (τ := τ) (n := n) (c0 := c) (e := c.2) hF hf l10 ((h.pl 999 27 1 rfl).trans n9.1) n9.2 ((h.pl 1211 27 3 rfl).trans n12.1) n12.2 zs
  obtain ⟨a6, l6⟩ := cf_X6 (τ := τ) (n := n) (c0 := c) (e := eS c.2 a b (N (v 1211))) hf l5
  obtain ⟨a3, l3⟩ := cf_X3 (F := F) (τ := τ) (n := n) (p := p) (c0 := c) (e := eS c.2 a b (N (v 1211))) (by omega) hf l6 ((h.pl 2811 17 3 rfl).trans n28.1) n28.2 (fun i hi => by
      rw [eS_a hf n12.2 (by decide)]
      obtain ⟨_, q, q1, q2, _⟩ := h.txt i hi
      exact ⟨q, q1, q2⟩) (by
      rw [h.pl 2661 17 4 rfl]
      have := h.rg.nat (k := 2661) (hi := 1) rfl
      rw [this.1]
      have t2 := this.2
      generalize N (v 2661) = t at t2
      match t, t2 with
      | 0, _ => exact Or.inl rfl
      | 1, _ => exact Or.inr rfl
      | t + 2, h => exact absurd h (by omega)) (by rw [eS_a hf n12.2 (by decide)]; exact hp) hpa (fun i hi => by
      rw [h.pl _ _ _ (wk_p3 hi)]
      have := h.rg.nat (k := 1091 + 4 * i + 3) (hi := 1) (by rw [rg_p hi (by decide)]; rfl)
      rw [this.1]
      have t2 := this.2
      generalize N (v (1091 + 4 * i + 3)) = t at t2
      match t, t2 with
      | 0, _ => exact Or.inl rfl
      | 1, _ => exact Or.inr rfl
      | t + 2, h => exact absurd h (by omega))
  obtain ⟨a4, l4⟩ := cf_X4 (τ := τ) (n := n) (c0 := c) (e := eL (eS c.2 a b (N (v 1211))) a b (N (v 2811)) p) hf l3
  rw [e0, a8, Option.bind_some, a10, Option.bind_some, a5, Option.bind_some, a6, Option.bind_some, a3, Option.bind_some, a4, Option.bind_some]
  rfl
/-- what the copy holds -/
theorem RB.copied {p : Nat} (h : RB τ n c a v) (hf : far a b) (hp : c.2 (a + 17) 5 = some p) (hA : As τ n c (mix c a b (sF (N (v 999)) (N (v 1211))) (eL (eS c.2 a b (N (v 1211))) a b (N (v 2811)) p))) (hv : ∀ k, k < 21334 → v' k = v k) : RB τ n (mix c a b (sF (N (v 999)) (N (v 1211))) (eL (eS c.2 a b (N (v 1211))) a b (N (v 2811)) p)) b v' := by
  have n9 := h.n999.2
  have n12 := h.n1211.2
  have n28 := h.n2811.2
  generalize ec : mix c a b (sF (N (v 999)) (N (v 1211))) (eL (eS c.2 a b (N (v 1211))) a b (N (v 2811)) p) = c' at *
  have m1 : ∀ o j, sF (N (v 999)) (N (v 1211)) o j = true → c'.1 (b + o) j = c.1 (a + o) j := fun o j q => by rw [← ec]; exact mix_b q
  have m8 : ∀ i, i < N (v 1211) → c'.2 (b + 40 + i) 8 = c.2 (a + 40 + i) 8 := fun i hi => by
    rw [← ec]
    show eL (eS c.2 a b (N (v 1211))) a b (N (v 2811)) p (b + 40 + i) 8 = _
    unfold eL
    rw [va_up_ne _ _ (by omega)]
    unfold eT
    rw [if_neg (by omega)]
    unfold eS
    rw [if_pos (by omega), va_up_self, show a + (b + 40 + i - b) = a + 40 + i by omega]
  have m24 : ∀ t, t < N (v 2811) → c'.2 (b + 24) t = c.2 (a + 24) t := fun t ht => by
    rw [← ec]
    show eL (eS c.2 a b (N (v 1211))) a b (N (v 2811)) p (b + 24) t = _
    unfold eL
    rw [va_up_ne _ _ (by omega)]
    unfold eT
    rw [if_pos rfl]
    show (if t < N (v 2811) then eS c.2 a b (N (v 1211)) (a + 24) t else _) = _
    rw [if_pos ht, eS_a hf n12 (by decide)]
  have m5 : c'.2 (b + 17) 5 = some p := by
    rw [← ec]
    show eL (eS c.2 a b (N (v 1211))) a b (N (v 2811)) p (b + 17) 5 = _
    unfold eL
    rw [va_up_self, va_up_self]
  have hg : Rg v' := fun q => by
    by_cases e : q < 21334
    · rw [hv q e]; exact h.rg q
    · exact rg_any (rg_hi (by omega))
  refine RB.mk hg (h.cr.same h.rg (fun q hq => hv q (by unfold crp at hq; omega))) ?_ ?_ ?_ ?_ ?_ ?_ ?_ ?_ ?_
  · intro q o j hq
    have hq2 : q < 2812 := by
      by_cases e : q < 2812
      · exact e
      · rw [wk_le (by omega)] at hq; cases hq
    rw [m1 o j (sF_wk hq), hv q (by omega)]
    exact h.pl q o j hq
  · intro i hi f hf8
    rw [hv 999 (by decide)] at hi
    have : bf f < 8 := by unfold bf; split <;> (try split) <;> omega
    rw [show b + 29 + i = b + (29 + i) by omega, m1 _ _ (sF_ber hi hf8), hv _ (by omega), ← Nat.add_assoc]
    exact h.ber i hi f hf8
  · intro i hi f g hg
    rw [hv 1211 (by decide)] at hi
    have hl := sf_lt hg
    have f8 : f ≠ 8 := fun e => by subst e; cases hg
    rw [show b + 40 + i = b + (40 + i) by omega, m1 _ _ (sF_shp hi hl.2 f8), hv _ (by omega), ← Nat.add_assoc]
    exact h.shp i hi f g hg
  · intro i hi
    rw [hv 1211 (by decide)] at hi
    rw [show b + 40 + i = b + (40 + i) by omega, m1 _ _ (sF_shp hi (by decide) (by decide)), m1 _ _ (sF_shp hi (by decide) (by decide)), hv _ (by omega), ← Nat.add_assoc]
    exact h.bak i hi
  · intro i hi
    rw [hv 1211 (by decide)] at hi
    rw [hv (1212 + 18 * i + 17) (by omega), hv 2811 (by decide), m8 i hi]
    rcases h.law i hi with q | ⟨t, q1, q2, q3⟩
    · exact Or.inl q
    · exact Or.inr ⟨t, q1, q2, by rw [q3, m24 t q1]⟩
  · intro t ht
    rw [hv 2811 (by decide)] at ht
    obtain ⟨q1, p2, q2, q3, q4⟩ := h.txt t ht
    rw [m1 25 t (sF_0 _ _ ((sF_few t (by omega)).2.2 (by omega))), m24 t ht, hv _ (by omega)]
    exact ⟨q1, p2, q2, q3, q4.same (fun _ _ => rfl) (hA p2 q3) (fun q k0 k1 => hv _ (by omega))⟩
  · obtain ⟨p2, q2, q3, q4⟩ := h.prp
    have e : p2 = p := Option.some.inj (q2.symm.trans hp)
    subst e
    rw [hv 2661 (by decide)]
    exact ⟨p2, m5, q3, fun e => (q4 e).same (fun _ _ => rfl) (hA p2 q3) (fun q k0 k1 => hv _ (by omega))⟩
  · intro q hq
    rw [m1 16 q (sF_0 _ _ (sF_few q hq).1), hv 0 (by decide), hv 198 (by decide), ls_same (v := v) _ (fun i hi j hj => hv _ (by have := h.n198.2; omega))]
    exact h.snd q hq
  · have e8 : ∀ e, bz8 v' e = bz8 v e := fun e => by unfold bz8; rw [hv 0 (by decide), hv _ (by omega)]
    simp only [e8]
    rw [m1 120 0 (sF_0 _ _ ((sF_few 0 (by decide)).2.1 (by decide))), m1 120 1 (sF_0 _ _ ((sF_few 1 (by decide)).2.1 (by decide))), m1 120 2 (sF_0 _ _ ((sF_few 2 (by decide)).2.1 (by decide))), m1 120 3 (sF_0 _ _ ((sF_few 3 (by decide)).2.1 (by decide)))]
    exact h.bus
/-- no text lies where the copy writes -/
theorem cp_as {e : Nat → Nat → Option Nat} (hb : Bd τ n b) (hm : m ≤ 10) (hk : k ≤ 80) : As τ n c (mix c a b (sF m k) e) := fun p hp j hj => by
  funext t
  show (if b ≤ p + j ∧ sF m k (p + j - b) t = true then _ else c.1 (p + j) t) = c.1 (p + j) t
  rw [if_neg]
  rintro ⟨q1, q2⟩
  have hA := acb_all hp
  have o170 : p + j - b < 170 := by
    unfold sF f4 sL f6 sD sP f10 f8 s1 sr sB sS at q2
    simp only [Bool.or_eq_true, Bool.and_eq_true, decide_eq_true_eq, Bool.false_eq_true, false_or] at q2
    omega
  have tg : τ (p + j) = lt (p + j - b) := by rw [← hb.2 _ o170, show b + (p + j - b) = p + j by omega]
  by_cases e : b ≤ p
  · have tp : τ p = lt (p - b) := by rw [← hb.2 (p - b) (by omega), show b + (p - b) = p by omega]
    rw [hA.2.1] at tp
    have key : ∀ o, o < 170 → o ≠ 18 → Sum.inl 0 ≠ lt o := by decide +kernel
    by_cases e2 : p - b = 18
    · rw [sF_no hm hk (by omega) (by omega)] at q2; cases q2
    · exact key _ (by omega) e2 tp
  · have tb : τ b = lt 0 := hb.2 0 (by decide)
    obtain ⟨d, hd, hd6, ed⟩ : ∃ d, 0 < d ∧ d < 6 ∧ b = p + d := ⟨b - p, by omega, by omega, by omega⟩
    rw [ed] at tb
    match d, hd, hd6, tb with
    | 1, _, _, tb => rw [tb] at hA; exact absurd hA.2.2.1 (by decide)
    | 2, _, _, tb => rw [tb] at hA; exact absurd hA.2.2.2.1 (by decide)
    | 3, _, _, tb => rw [tb] at hA; exact absurd hA.2.2.2.2.1 (by decide)
    | 4, _, _, tb => rw [tb] at hA; exact absurd hA.2.2.2.2.2.1 (by decide)
    | 5, _, _, tb => rw [tb] at hA; exact absurd hA.2.2.2.2.2.2 (by decide)
    | 0, h, _, _ => exact absurd h (by omega)
    | d + 6, _, h, _ => exact absurd h (by omega)
theorem mix_o {e : Nat → Nat → Option Nat} {q : Nat} (hm : m ≤ 10) (hk : k ≤ 80) (h : q < b ∨ b + 170 ≤ q) : (mix c a b (sF m k) e).1 q = c.1 q := by
  funext t
  show (if b ≤ q ∧ sF m k (q - b) t = true then _ else c.1 q t) = c.1 q t
  rw [if_neg]
  rintro ⟨q1, q2⟩
  unfold sF f4 sL f6 sD sP f10 f8 s1 sr sB sS at q2
  simp only [Bool.or_eq_true, Bool.and_eq_true, decide_eq_true_eq, Bool.false_eq_true, false_or] at q2
  omega
theorem eL_o {e : Nat → Nat → Option Nat} {p t q : Nat} (hk : k ≤ 80) (h : q < b ∨ b + 170 ≤ q) : eL (eS e a b k) a b t p q = e q := by
  unfold eL
  rw [va_up_ne _ _ (by omega)]
  unfold eT
  rw [if_neg (by omega)]
  unfold eS
  rw [if_neg (by omega)]
theorem acb_28 (hI : LI τ n) : acb τ n 28 = true := hI.1.1.noLines
theorem st35 (hF : 30000 ≤ F) (hI : LI τ n) (h : Rel τ n c s) : stp Rel F 35 x τ n c s := by
  show ∃ v c' s', o_X11_again F τ n 0 c = some (v, c') ∧ o_X12_again F s = some (v, s') ∧ Rel τ n c' s'
  unfold o_X11_again
  rcases h.i with ⟨i1, i2⟩ | ⟨y, i0, i1, i2, i3, i4⟩
  · rw [i1, o_again0 i2]
    exact ⟨_, _, _, rfl, rfl, h.pn _⟩
  · obtain ⟨p, p1, p2, p3⟩ := i4.prp
    have n12 := i4.n1211.2
    have n9 := i4.n999.2
    have fr : far y 10 := Or.inr (by omega)
    have cp := o_copyB (F := F) (b := 10) (by omega) i4 fr (acb_28 hI) p1 p2
    have as := cp_as (a := y) (c := c) (e := eL (eS c.2 y 10 (N (s.2.2 1 1211))) y 10 (N (s.2.2 1 2811)) p) hI.1.1 n9 n12
    have rb := i4.copied (b := 10) (v' := fun k => if k < 21334 then s.2.2 1 k else s.2.1 k) fr p1 as (fun k hk => if_pos hk)
    rw [i1, o_again1 (by omega) i3]
    show ∃ v c' s', (if bdb τ n y = true then (o_X2_copyFrom F τ n (0 + 10) y c).bind fun x2 => some (nI 1, x2) else none) = some (v, c') ∧ _
    rw [if_pos (Bd_bdb i2), show (0 + 10 : Nat) = 10 from rfl, cp, Option.bind_some]
    refine ⟨_, _, _, rfl, rfl, ?_⟩
    generalize ec : mix c y 10 (sF (N (s.2.2 1 999)) (N (s.2.2 1 1211))) (eL (eS c.2 y 10 (N (s.2.2 1 1211))) y 10 (N (s.2.2 1 2811)) p) = c' at *
    have o1 : ∀ q, q < 10 ∨ 180 ≤ q → c'.1 q = c.1 q := fun q hq => by rw [← ec]; exact mix_o n9 n12 (by omega)
    have o2 : ∀ q, q < 10 ∨ 180 ≤ q → c'.2 q = c.2 q := fun q hq => by rw [← ec]; exact eL_o n12 (by omega)
    refine Rel.mk rb ?_ ?_ ?_
    · have := as 28 (acb_28 hI) 0 (by decide)
      rw [show 28 + 0 = 28 from rfl] at this
      rw [this]
      exact h.z
    · obtain ⟨⟨t, t1, t2, t3⟩, t4, t5⟩ := h.t
      refine ⟨⟨t, t1, by rw [o1 0 (by omega)]; exact t2, by show (pN s 0 (nI 0)).1 8 = _; rw [pN_n (by decide)]; exact t3⟩, fun i hi => by rw [o1 1 (by omega)]; exact t4 i hi, by rw [o1 2 (by omega)]; show _ = (pN s 0 (nI 0)).1 13; rw [pN_n (by decide)]; exact t5⟩
    · refine Or.inr ⟨y, i0, by rw [o2 0 (by omega)]; exact i1, i2, by show (pN s 0 (nI 0)).1 3 = _; rw [pN_n (by decide)]; exact i3, ?_⟩
      exact i4.frame ext_id ⟨fun o ho j _ _ _ => by rw [o1 _ (by omega)], fun i hi => by rw [o2 _ (by omega)], fun a ha => by rw [o2 _ (by omega)], by rw [o2 _ (by omega)]⟩ as (fun _ _ => Or.inr rfl) i4.rg
theorem far_10 {y : Nat} (h : 192 ≤ y) : far 10 y := Or.inl (by omega)
/-- the now Board is copied to y -/
theorem Rel.kept {y p : Nat} {s' : rs_S} (h : Rel τ n c s) (hI : LI τ n) (hy : 192 ≤ y) (hB : Bd τ n y) (h4 : c.2 0 4 = some y) (p1 : c.2 (10 + 17) 5 = some p) (e1 : s'.1 = va_up (pN s 0 (nI 0)).1 3 (nI 1)) (e2 : s'.2.1 = s.2.1) (e3 : s'.2.2 = va_up s.2.2 1 (fun k => if k < 21334 then s.2.1 k else s.2.2 1 k)) : Rel τ n (mix c 10 y (sF (N (s.2.1 999)) (N (s.2.1 1211))) (eL (eS c.2 10 y (N (s.2.1 1211))) 10 y (N (s.2.1 2811)) p)) s' := by
  have n12 := h.b.n1211.2
  have n9 := h.b.n999.2
  have as := cp_as (a := 10) (c := c) (e := eL (eS c.2 10 y (N (s.2.1 1211))) 10 y (N (s.2.1 2811)) p) hB n9 n12
  have rb := h.b.copied (b := y) (v' := fun k => if k < 21334 then s.2.1 k else s.2.2 1 k) (far_10 hy) p1 as (fun k hk => if_pos hk)
  generalize ec : mix c 10 y (sF (N (s.2.1 999)) (N (s.2.1 1211))) (eL (eS c.2 10 y (N (s.2.1 1211))) 10 y (N (s.2.1 2811)) p) = c' at *
  have o1 : ∀ q, q < 180 → c'.1 q = c.1 q := fun q hq => by rw [← ec]; exact mix_o n9 n12 (by omega)
  have o2 : ∀ q, q < 180 → c'.2 q = c.2 q := fun q hq => by rw [← ec]; exact eL_o n12 (by omega)
  refine Rel.mk ?_ ?_ ?_ ?_
  · rw [e2]
    exact h.b.frame ext_id ⟨fun o ho j _ _ _ => by rw [o1 _ (by omega)], fun i hi => by rw [o2 _ (by omega)], fun a ha => by rw [o2 _ (by omega)], by rw [o2 _ (by omega)]⟩ as (fun _ _ => Or.inr rfl) h.b.rg
  · rw [o1 28 (by omega)]; exact h.z
  · obtain ⟨⟨t, t1, t2, t3⟩, t4, t5⟩ := h.t
    refine ⟨⟨t, t1, by rw [o1 0 (by omega)]; exact t2, by rw [e1, va_up_ne _ _ (by decide), pN_n (by decide)]; exact t3⟩, fun i hi => by rw [o1 1 (by omega), e3, va_up_ne _ _ (by decide)]; exact t4 i hi, by rw [o1 2 (by omega), e1, va_up_ne _ _ (by decide), pN_n (by decide)]; exact t5⟩
  · refine Or.inr ⟨y, hy, by rw [o2 0 (by omega)]; exact h4, hB, by rw [e1, va_up_self], ?_⟩
    rw [e3, va_up_self]
    exact rb
theorem st34 (hF : 30000 ≤ F) (hI : LI τ n) (h : Rel τ n c s) : stp Rel F 34 x τ n c s := by
  show ∃ q c' s', o_X11_keep F τ n 0 c = some (q, c') ∧ o_X12_keep F s = some s' ∧ Rel (if q = true then tB τ n else τ) (if q = true then n + 170 else n) c' s'
  unfold o_X11_keep
  rw [o_keep (by omega)]
  rcases h.i with ⟨i1, i2⟩ | ⟨y, i0, i1, i2, i3, i4⟩
  · rw [i1]
    have h192 := hI.2.1
    have he : ext τ n (tB τ n) (n + 170) := ⟨by omega, fun k hk => by show (if n ≤ k ∧ k < n + 170 then _ else τ k) = τ k; rw [if_neg (by omega)]⟩
    have hB : Bd (tB τ n) (n + 170) n := ⟨Nat.le_refl _, fun o ho => by
      show (if n ≤ n + o ∧ n + o < n + 170 then lt (n + o - n) else _) = _
      rw [if_pos (by omega), Nat.add_sub_cancel_left]⟩
    have hI' : acb (tB τ n) (n + 170) 28 = true := (acb_up he (acb_28 hI)).1
    generalize ec1 : cq (iB c n) 0 4 (some n) = c1
    have c1a : ∀ q, q < n → c1.1 q = c.1 q := fun q hq => by
      rw [← ec1]
      show (if n ≤ q ∧ q < n + 170 then _ else c.1 q) = c.1 q
      rw [if_neg (by omega)]
    have c1b : ∀ q, 0 < q → q < n → c1.2 q = c.2 q := fun q h0 hq => by
      rw [← ec1, cq_1 _ (by omega)]
      show (if n ≤ q ∧ q < n + 170 then _ else c.2 q) = c.2 q
      rw [if_neg (by omega)]
    have c14 : c1.2 0 4 = some n := by rw [← ec1, cq_q, va_up_self]
    have as1 : As τ n c c1 := fun p hp j hj => c1a _ (by have := (acb_all hp).1; omega)
    have rb1 : RB (tB τ n) (n + 170) c1 10 s.2.1 := h.b.frame he ⟨fun o ho j _ _ _ => by rw [c1a _ (by omega)], fun i hi => by have := h.b.n1211.2; rw [c1b _ (by omega) (by omega)], fun a ha => by rw [c1b _ (by omega) (by omega)], by rw [c1b _ (by omega) (by omega)]⟩ as1 (fun _ _ => Or.inr rfl) h.b.rg
    obtain ⟨p, p1, p2, p3⟩ := rb1.prp
    have cp := o_copyB (F := F) (b := n) (by omega) rb1 (far_10 h192) hI' p1 p2
    refine ⟨true, mix c1 10 n (sF (N (s.2.1 999)) (N (s.2.1 1211))) (eL (eS c1.2 10 n (N (s.2.1 1211))) 10 n (N (s.2.1 2811)) p), _, ?_, rfl, ?_⟩
    · show (o_X2_copyFrom F (tB τ n) (n + 170) n (0 + 10) c1).map (fun y => (true, y)) = some (true, _)
      rw [show (0 + 10 : Nat) = 10 from rfl, cp]
      rfl
    · rw [if_pos rfl, if_pos rfl]
      have n12 := h.b.n1211.2
      have n9 := h.b.n999.2
      have as := cp_as (a := 10) (c := c1) (e := eL (eS c1.2 10 n (N (s.2.1 1211))) 10 n (N (s.2.1 2811)) p) hB n9 n12
      have rb := rb1.copied (b := n) (v' := fun k => if k < 21334 then s.2.1 k else s.2.2 1 k) (far_10 h192) p1 as (fun k hk => if_pos hk)
      generalize ec : mix c1 10 n (sF (N (s.2.1 999)) (N (s.2.1 1211))) (eL (eS c1.2 10 n (N (s.2.1 1211))) 10 n (N (s.2.1 2811)) p) = c' at *
      have o1 : ∀ q, q < 180 → c'.1 q = c1.1 q := fun q hq => by rw [← ec]; exact mix_o n9 n12 (by omega)
      have o2 : ∀ q, q < 180 → c'.2 q = c1.2 q := fun q hq => by rw [← ec]; exact eL_o n12 (by omega)
      refine Rel.mk ?_ ?_ ?_ ?_
      · exact rb1.frame ext_id ⟨fun o ho j _ _ _ => by rw [o1 _ (by omega)], fun i hi => by rw [o2 _ (by omega)], fun a ha => by rw [o2 _ (by omega)], by rw [o2 _ (by omega)]⟩ as (fun _ _ => Or.inr rfl) rb1.rg
      · rw [o1 28 (by omega), c1a 28 (by omega)]; exact h.z
      · obtain ⟨⟨t, t1, t2, t3⟩, t4, t5⟩ := h.t
        refine ⟨⟨t, t1, by rw [o1 0 (by omega), c1a 0 (by omega)]; exact t2, ?_⟩, fun i hi => ?_, ?_⟩
        · show va_up (pN s 0 (nI 0)).1 3 (nI 1) 8 = _
          rw [va_up_ne _ _ (by decide), pN_n (by decide)]; exact t3
        · show c'.1 1 i = va_up s.2.2 1 (fun k => if k < 21334 then s.2.1 k else s.2.2 1 k) 4 i
          rw [o1 1 (by omega), c1a 1 (by omega), va_up_ne _ _ (by decide)]; exact t4 i hi
        · show c'.1 2 0 = va_up (pN s 0 (nI 0)).1 3 (nI 1) 13
          rw [o1 2 (by omega), c1a 2 (by omega), va_up_ne _ _ (by decide), pN_n (by decide)]; exact t5
      · refine Or.inr ⟨n, h192, by rw [o2 0 (by omega)]; exact c14, hB, ?_, ?_⟩
        · show va_up (pN s 0 (nI 0)).1 3 (nI 1) 3 = _
          rw [va_up_self]
        · show RB (tB τ n) (n + 170) c' n (va_up s.2.2 1 (fun k => if k < 21334 then s.2.1 k else s.2.2 1 k) 1)
          rw [va_up_self]
          exact rb
  · rw [i1]
    obtain ⟨p, p1, p2, p3⟩ := h.b.prp
    have cp := o_copyB (F := F) (b := y) (by omega) h.b (far_10 i0) (acb_28 hI) p1 p2
    refine ⟨false, mix c 10 y (sF (N (s.2.1 999)) (N (s.2.1 1211))) (eL (eS c.2 10 y (N (s.2.1 1211))) 10 y (N (s.2.1 2811)) p), _, ?_, rfl, ?_⟩
    · show (if bdb τ n y = true then ((o_X2_copyFrom F τ n y (0 + 10) c).map (fun z => (false, z))) else none) = some (false, _)
      rw [if_pos (Bd_bdb i2), show (0 + 10 : Nat) = 10 from rfl, cp]
      rfl
    · rw [if_neg (by decide), if_neg (by decide)]
      exact h.kept hI i0 i2 i1 p1 rfl rfl rfl
end IMG
