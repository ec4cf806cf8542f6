/-! THE PURE LAYER: the turn of ships that wait -/
def kf (k : Nat) : Nat := if k = 0 then 8 else if k = 1 then 2 else if k = 2 then 3 else 1
theorem kf_lt (k : Nat) : kf k < 18 := by unfold kf; split <;> (try split) <;> (try split) <;> omega
def ky (v : Nat → Int32) (k s : Nat) : Nat := N (v (1212 + 18 * s + kf k))
/-- i's key is before j's -/
def bef (v : Nat → Int32) (k d i j : Nat) : Prop := (d = 0 ∧ ky v k i < ky v k j) ∨ (d ≠ 0 ∧ ky v k j < ky v k i)
def ahd (v : Nat → Int32) (k d i j : Nat) : Prop := bef v k d i j ∨ (ky v k i = ky v k j ∧ i < j)
theorem ahd_irr {v : Nat → Int32} {k d i : Nat} : ¬ ahd v k d i i := by unfold ahd bef; omega
theorem ahd_tr {v : Nat → Int32} {k d i j l : Nat} (h : ahd v k d i j) (h' : ahd v k d j l) : ahd v k d i l := by unfold ahd bef at *; omega
theorem ahd_tot {v : Nat → Int32} {k d i j : Nat} (h : i ≠ j) : ahd v k d i j ∨ ahd v k d j i := by unfold ahd bef; omega
theorem ahd_as {v : Nat → Int32} {k d i j : Nat} (h : ahd v k d i j) : ¬ ahd v k d j i := by unfold ahd bef at *; omega
def wtg (v : Nat → Int32) (t : Nat) : Prop := v (1212 + 18 * t + 9) = 0
section ORD
variable {F : Nat} {τ : cT} {n k d i j m : Nat} {c : cS} {s : rs_S} {v : Nat → Int32}
theorem Rg.key (r : Rg v) (hi : i < 80) : v (1212 + 18 * i + kf k) = nI (ky v k i) ∧ ky v k i ≤ 30000 := by
  unfold ky kf
  split
  · have := r.nat (k := 1212 + 18 * i + 8) (hi := 30000) (rg_s hi (by decide)); exact ⟨this.1, by omega⟩
  · split
    · have := r.nat (k := 1212 + 18 * i + 2) (hi := 20000) (rg_s hi (by decide)); exact ⟨this.1, by omega⟩
    · split
      · have := r.nat (k := 1212 + 18 * i + 3) (hi := 900) (rg_s hi (by decide)); exact ⟨this.1, by omega⟩
      · have := r.nat (k := 1212 + 18 * i + 1) (hi := 5) (rg_s hi (by decide)); exact ⟨this.1, by omega⟩
theorem o_turnV (h : RX τ n c 10 v) (hi : i < N (v 1211)) (hk : k < 4) (hd : d < 2) : o_X9_turnValue τ n (10 + 39 + 1 + i) c (nI (k + 4 * d)) = some (if d = 0 then nI (ky v k i) else -nI (ky v k i)) := by
  have hm := h.n1211.2
  have kv : o_X9_keyValue τ n (10 + 39 + 1 + i) c (nI k) = some (nI (ky v k i)) := by
    have e := (h.rg.key (k := k) (show i < 80 by omega)).1
    unfold o_X9_keyValue
    rw [← e]
    match k, hk with
    | 0, _ => rw [if_neg (by decide), if_neg (by decide), if_neg (by decide)]; exact congrArg some (h.shp i hi 9 8 rfl)
    | 1, _ => rw [if_pos rfl]; exact congrArg some (h.shp i hi 1 2 rfl)
    | 2, _ => rw [if_neg (by decide), if_pos rfl]; exact congrArg some (h.shp i hi 2 3 rfl)
    | 3, _ => rw [if_neg (by decide), if_neg (by decide), if_pos rfl]; exact congrArg some (h.shp i hi 0 1 rfl)
    | k + 4, h => exact absurd h (by omega)
  unfold o_X9_turnValue
  match d, hd with
  | 0, _ =>
    rw [if_pos ((nI_ltI (by omega) (by decide)).mpr (by omega)), show k + 4 * 0 = k by omega, kv]
    rfl
  | 1, _ =>
    rw [if_neg (nI_ngt (by omega) (by decide) (by omega)), nI_sub (by omega), show k + 4 * 1 - 4 = k by omega, kv]
    rfl
  | d + 2, h => exact absurd h (by omega)
theorem neg_lt {a b : Nat} (ha : a ≤ 30000) (hb : b ≤ 30000) : (-nI a < -nI b) ↔ b < a := by
  rw [Int32.lt_iff_toInt_lt, Int32.toInt_neg, Int32.toInt_neg, nI_toInt (by omega), nI_toInt (by omega)]
  rw [Int.bmod_eq_of_le (by omega) (by omega), Int.bmod_eq_of_le (by omega) (by omega)]
  omega
theorem neg_eq {a b : Nat} (ha : a ≤ 30000) (hb : b ≤ 30000) : (-nI a = -nI b) ↔ a = b := by
  rw [← Int32.toInt_inj, Int32.toInt_neg, Int32.toInt_neg, nI_toInt (by omega), nI_toInt (by omega)]
  rw [Int.bmod_eq_of_le (by omega) (by omega), Int.bmod_eq_of_le (by omega) (by omega)]
  omega
theorem o_ahead (h : RX τ n c 10 v) (hi : i < N (v 1211)) (hj : j < N (v 1211)) (hk : k < 4) (hd : d < 2) : o_X5_isAhead τ n 10 c (nI i) (nI j) (nI (k + 4 * d)) = some (ifc (ahd v k d i j) (nI 1) (nI 0)) := by
  have hm := h.n1211.2
  have b1 := (h.rg.key (k := k) (show i < 80 by omega)).2
  have b2 := (h.rg.key (k := k) (show j < 80 by omega)).2
  unfold o_X5_isAhead
  rw [if_pos (iL_t (show i < 80 by omega) (by decide)), nI_clamp (show i < 2 ^ 31 by omega), o_turnV h hi hk hd]
  simp only [Option.bind_some]
  rw [if_pos (iL_t (show j < 80 by omega) (by decide)), nI_clamp (show j < 2 ^ 31 by omega), o_turnV h hj hk hd]
  simp only [Option.bind_some]
  generalize hA : ky v k i = A at *
  generalize hB : ky v k j = B at *
  have fin : ∀ (P Q : Prop) [Decidable P] [Decidable Q], (P ↔ bef v k d i j) → (Q ↔ A = B) → (if P then some (nI 1) else (if Q then (if nI j ≤ nI i then some (nI 0) else some (nI 1)) else some (nI 0))) = some (ifc (ahd v k d i j) (nI 1) (nI 0)) := fun P Q _ _ hP hQ => by
    by_cases p : P
    · rw [if_pos p, ifc_pos (show ahd v k d i j from Or.inl (hP.mp p))]
    · rw [if_neg p]
      have np : ¬ bef v k d i j := fun e => p (hP.mpr e)
      by_cases q : Q
      · rw [if_pos q]
        by_cases e : j ≤ i
        · rw [if_pos (nI_yes (by omega) (by omega) e), ifc_neg (show ¬ ahd v k d i j from fun a => by rcases a with a | a; exact np a; omega)]
        · rw [if_neg (nI_no (by omega) (by omega) (by omega)), ifc_pos (show ahd v k d i j from Or.inr ⟨by rw [hA, hB]; exact hQ.mp q, by omega⟩)]
      · rw [if_neg q, ifc_neg (show ¬ ahd v k d i j from fun a => by rcases a with a | a; exact np a; exact q (hQ.mpr (by rw [← hA, ← hB]; exact a.1)))]
  match d, hd with
  | 0, _ =>
    rw [if_pos (show (0 : Nat) = 0 from rfl), if_pos (show (0 : Nat) = 0 from rfl)]
    refine fin _ _ ?_ ?_
    · rw [nI_ltI (by omega) (by omega)]; unfold bef; rw [hA, hB]; omega
    · exact nI_eq (by omega) (by omega)
  | 1, _ =>
    rw [if_neg (show ¬ (1 : Nat) = 0 by decide), if_neg (show ¬ (1 : Nat) = 0 by decide)]
    refine fin _ _ ?_ ?_
    · rw [neg_lt b1 b2]; unfold bef; rw [hA, hB]; omega
    · exact neg_eq b1 b2
  | d + 2, h => exact absurd h (by omega)
theorem o_keyOf (h : Rg s.2.1) (hi : i < 80) (hk : k < 4) : o_X12_keyOf s (nI i) (nI k) = some (nI (ky s.2.1 k i)) := by
  have e := (h.key (k := k) hi).1
  rw [← e]
  unfold o_X12_keyOf
  match k, hk with
  | 0, _ => rw [if_pos nI_0, o_of hi (by decide)]; rfl
  | 1, _ => rw [if_neg (by decide), if_pos rfl, o_of hi (by decide)]; rfl
  | 2, _ => rw [if_neg (by decide), if_neg (by decide), if_pos rfl, o_of hi (by decide)]; rfl
  | 3, _ => rw [if_neg (by decide), if_neg (by decide), if_neg (by decide), o_of hi (by decide)]; rfl
  | k + 4, h => exact absurd h (by omega)
/-- only the row of turns and its length differ -/
def Sl (s s' : rs_S) : Prop := s'.2.1 = s.2.1 ∧ (∀ j, j ≠ 6 → s'.1 j = s.1 j) ∧ ∀ k, k ≠ 3 → s'.2.2 k = s.2.2 k
theorem Sl.refl (s : rs_S) : Sl s s := ⟨rfl, fun _ _ => rfl, fun _ _ => rfl⟩
theorem Sl.trans {s s' s'' : rs_S} (h : Sl s s') (h' : Sl s' s'') : Sl s s'' := ⟨h'.1.trans h.1, fun j a => (h'.2.1 j a).trans (h.2.1 j a), fun k a => (h'.2.2 k a).trans (h.2.2 k a)⟩
theorem Sl.r3 (s : rs_S) (i y : Int32) : Sl s (pR s 3 i y) := ⟨rfl, fun _ _ => rfl, fun k h => va_up_ne _ _ h⟩
theorem Sl.n6 (s : rs_S) (y : Int32) : Sl s (pN s 6 y) := ⟨rfl, fun j h => pN_n h, fun _ _ => rfl⟩
theorem row3 (s : rs_S) {k : Nat} (hk : k < 2 ^ 31) (x : Int32) : (pR s 3 (nI k) x).2.2 3 = upd (s.2.2 3) k x := by
  show va_up s.2.2 3 (upd (s.2.2 3) (nI k).toNatClampNeg x) 3 = _
  rw [va_up_self, nI_clamp hk]
/-- the row is moved up until t may stand there -/
theorem ins_loop {t w : Nat} {R : Nat → Nat} (hk : k < 4) (hd : d < 2) (ht : t < 80) (hw : w < 80) (hR : ∀ j, j < w → R j < 80) : ∀ (p f : Nat) (s : rs_S), Rg s.2.1 → p ≤ w → p < f → (∀ j, j < p → s.2.2 3 j = nI (R j)) → (∀ j, p ≤ j → j < w → s.2.2 3 (j + 1) = nI (R j)) → (∀ j, p ≤ j → j < w → bef s.2.1 k d t (R j)) → ∃ a s', a ≤ p ∧ o_X12_lines_65 F (nI k) (nI d) (nI t) f (nI p) s = some (nI a, s') ∧ Sl s s' ∧ s'.1 6 = s.1 6 ∧ (∀ j, j < a → s'.2.2 3 j = nI (R j)) ∧ (∀ j, a ≤ j → j < w → s'.2.2 3 (j + 1) = nI (R j)) ∧ (∀ j, a ≤ j → j < w → bef s.2.1 k d t (R j)) ∧ (0 < a → ¬ bef s.2.1 k d t (R (a - 1))) := by
  intro p
  induction p with
  | zero =>
    intro f s r hp hf h1 h2 h3
    obtain ⟨f, rfl⟩ : ∃ x, f = x + 1 := ⟨f - 1, by omega⟩
    rw [o_X12_lines_65, if_pos (show nI 0 ≤ 0 from Int32.le_refl _)]
    exact ⟨0, s, Nat.le_refl _, rfl, Sl.refl s, rfl, h1, h2, h3, fun h => absurd h (by omega)⟩
  | succ p ih =>
    intro f s r hp hf h1 h2 h3
    obtain ⟨f, rfl⟩ : ∃ x, f = x + 1 := ⟨f - 1, by omega⟩
    have b1 := (r.key (k := k) ht).2
    have hRp := hR p (by omega)
    have b2 := (r.key (k := k) hRp).2
    have e1 : gR s 3 (nI (p + 1) - nI 1) = nI (R p) := by rw [nI_sub (by omega), gR_n _ _ (by omega)]; exact h1 p (by omega)
    have stop : (¬ bef s.2.1 k d t (R p)) → ∃ a s', a ≤ p + 1 ∧ some (nI (p + 1), s) = some (nI a, s') ∧ Sl s s' ∧ s'.1 6 = s.1 6 ∧ (∀ j, j < a → s'.2.2 3 j = nI (R j)) ∧ (∀ j, a ≤ j → j < w → s'.2.2 3 (j + 1) = nI (R j)) ∧ (∀ j, a ≤ j → j < w → bef s.2.1 k d t (R j)) ∧ (0 < a → ¬ bef s.2.1 k d t (R (a - 1))) := fun nb => ⟨p + 1, s, Nat.le_refl _, rfl, Sl.refl s, rfl, h1, h2, h3, fun _ => nb⟩
    have go : bef s.2.1 k d t (R p) → ∃ a s', a ≤ p + 1 ∧ o_X12_lines_65 F (nI k) (nI d) (nI t) f (nI (p + 1) + (-1)) (pR s 3 (nI (p + 1)) (nI (R p))) = some (nI a, s') ∧ Sl s s' ∧ s'.1 6 = s.1 6 ∧ (∀ j, j < a → s'.2.2 3 j = nI (R j)) ∧ (∀ j, a ≤ j → j < w → s'.2.2 3 (j + 1) = nI (R j)) ∧ (∀ j, a ≤ j → j < w → bef s.2.1 k d t (R j)) ∧ (0 < a → ¬ bef s.2.1 k d t (R (a - 1))) := fun nb => by
      rw [nI_neg1 (by omega), show p + 1 - 1 = p by omega]
      obtain ⟨a, s', a1, a2, a3, a4, a5, a6, a7, a8⟩ := ih f (pR s 3 (nI (p + 1)) (nI (R p))) r (by omega) (by omega) (fun j hj => by rw [row3 _ (by omega), upd_n (by omega)]; exact h1 j (by omega)) (fun j j1 j2 => by
        rw [row3 _ (by omega)]
        by_cases e : j = p
        · subst e; rw [upd_s]
        · rw [upd_n (by omega)]; exact h2 j (by omega) j2) (fun j j1 j2 => by
        by_cases e : j = p
        · subst e; exact nb
        · exact h3 j (by omega) j2)
      exact ⟨a, s', by omega, a2, (Sl.r3 _ _ _).trans a3, a4, a5, a6, a7, a8⟩
    rw [o_X12_lines_65, if_neg (show ¬ nI (p + 1) ≤ 0 from nI_no (y := 0) (by omega) (by decide) (by omega)), o_keyOf r ht hk, e1, o_keyOf r hRp hk, nI_sub (show 1 ≤ p + 1 by omega)]
    simp only [Option.bind_some, if_pos (iL_t (show p + 1 - 1 < 80 by omega) (show 80 < 2 ^ 31 by decide)), if_pos (iL_t (show p + 1 < 80 by omega) (show 80 < 2 ^ 31 by decide))]
    match d, hd with
    | 0, _ =>
      rw [if_pos nI_0]
      by_cases q : ky s.2.1 k t < ky s.2.1 k (R p)
      · rw [if_neg (nI_no (by omega) (by omega) q)]
        exact go (Or.inl ⟨rfl, q⟩)
      · rw [if_pos (nI_yes (by omega) (by omega) (by omega))]
        exact stop (by unfold bef; omega)
    | 1, _ =>
      rw [if_neg (by decide)]
      by_cases q : ky s.2.1 k (R p) < ky s.2.1 k t
      · rw [if_neg (nI_no (by omega) (by omega) q)]
        exact go (Or.inr ⟨by decide, q⟩)
      · rw [if_pos (nI_yes (by omega) (by omega) (by omega))]
        exact stop (by unfold bef; omega)
    | d + 2, h => exact absurd h (by omega)
/-- the waiting ships below m, in turn -/
def SR (v : Nat → Int32) (k d m w : Nat) (R : Nat → Nat) : Prop := w ≤ m ∧ (∀ j, j < w → R j < m ∧ wtg v (R j)) ∧ (∀ i j, i < j → j < w → ahd v k d (R i) (R j)) ∧ ∀ t, t < m → wtg v t → ∃ j, j < w ∧ R j = t
theorem lin_loop (hk : k < 4) (hd : d < 2) (hF : 81 < F) (v : Nat → Int32) (hM : v 1211 = nI (N (v 1211))) (hM8 : N (v 1211) ≤ 80) (r : Rg v) : ∀ (q t f w : Nat) (R : Nat → Nat) (s : rs_S), s.2.1 = v → t + q = N (v 1211) → q < f → s.1 6 = nI w → (∀ j, j < w → s.2.2 3 j = nI (R j)) → SR v k d t w R → ∃ s' w' R', o_X12_lines_32 F (nI k) (nI d) f (nI t) s = some s' ∧ Sl s s' ∧ s'.1 6 = nI w' ∧ (∀ j, j < w' → s'.2.2 3 j = nI (R' j)) ∧ SR v k d (N (v 1211)) w' R' := by
  intro q
  induction q with
  | zero =>
    intro t f w R s hs ht hf h6 h3 hR
    obtain ⟨f, rfl⟩ : ∃ x, f = x + 1 := ⟨f - 1, by omega⟩
    rw [o_X12_lines_32, show gW s (nI 1211) = nI (N (v 1211)) by rw [gW_n _ (by decide), hs]; exact hM, if_pos (nI_yes (by omega) (by omega) (by omega))]
    have : t = N (v 1211) := by omega
    subst this
    exact ⟨s, w, R, rfl, Sl.refl s, h6, h3, hR⟩
  | succ q ih =>
    intro t f w R s hs ht hf h6 h3 hR
    obtain ⟨f, rfl⟩ : ∃ x, f = x + 1 := ⟨f - 1, by omega⟩
    obtain ⟨w1, w2, w3, w4⟩ := hR
    rw [o_X12_lines_32, show gW s (nI 1211) = nI (N (v 1211)) by rw [gW_n _ (by decide), hs]; exact hM, if_neg (nI_no (by omega) (by omega) (by omega)), o_of (show t < 80 by omega) (by decide), hs, nI_add]
    simp only [Option.bind_some]
    by_cases wt : v (1212 + 18 * t + 9) = 0
    · rw [if_pos wt, h6]
      have rs : Rg s.2.1 := by rw [hs]; exact r
      obtain ⟨a, s1, a1, a2, a3, a4, a5, a6, a7, a8⟩ := ins_loop (F := F) (t := t) (w := w) (R := R) hk hd (by omega) (by omega) (fun j hj => by have := (w2 j hj).1; omega) w F s rs (Nat.le_refl _) (by omega) h3 (fun j j1 j2 => absurd j1 (by omega)) (fun j j1 j2 => absurd j1 (by omega))
      rw [hs] at a7 a8
      rw [a2]
      simp only [Option.bind_some]
      rw [if_pos (iL_t (show a < 80 by omega) (by decide)), show (pR s1 3 (nI a) (nI t)).1 6 = nI w from a4.trans h6, nI_add]
      have R'l : ∀ j, j < a → (fun j => if j < a then R j else if j = a then t else R (j - 1)) j = R j := fun j hj => if_pos hj
      obtain ⟨s', w', R', b1, b2, b3⟩ := ih (t + 1) f (w + 1) (fun j => if j < a then R j else if j = a then t else R (j - 1)) (pN (pR s1 3 (nI a) (nI t)) 6 (nI (w + 1))) (a3.1.trans hs) (by omega) (by omega) (pN_s _ _ _) (fun j hj => by
        show (pR s1 3 (nI a) (nI t)).2.2 3 j = nI (if j < a then R j else if j = a then t else R (j - 1))
        rw [row3 _ (by omega)]
        by_cases e1 : j < a
        · rw [upd_n (by omega), if_pos e1]; exact a5 j e1
        · by_cases e2 : j = a
          · subst e2; rw [upd_s, if_neg (by omega), if_pos rfl]
          · rw [upd_n e2, if_neg e1, if_neg e2]
            have := a6 (j - 1) (by omega) (by omega)
            rw [show j - 1 + 1 = j by omega] at this
            exact this) (by
        have ab : ∀ j, j < a → ahd v k d (R j) t := fun j hj => by
          have nb := a8 (by omega)
          have h1 : ahd v k d (R (a - 1)) t := by
            have := (w2 (a - 1) (by omega)).1
            unfold ahd bef at *
            omega
          by_cases e : j = a - 1
          · subst e; exact h1
          · exact ahd_tr (w3 j (a - 1) (by omega) (by omega)) h1
        have ba : ∀ j, a ≤ j → j < w → ahd v k d t (R j) := fun j j1 j2 => Or.inl (a7 j j1 j2)
        refine ⟨by omega, fun j hj => ?_, fun i j hij hj => ?_, fun u hu hw => ?_⟩
        · show (if j < a then R j else if j = a then t else R (j - 1)) < t + 1 ∧ wtg v (if j < a then R j else if j = a then t else R (j - 1))
          by_cases e1 : j < a
          · rw [if_pos e1]; have := w2 j (by omega); exact ⟨by omega, this.2⟩
          · rw [if_neg e1]
            by_cases e2 : j = a
            · rw [if_pos e2]; exact ⟨by omega, wt⟩
            · rw [if_neg e2]; have := w2 (j - 1) (by omega); exact ⟨by omega, this.2⟩
        · show ahd v k d (if i < a then R i else if i = a then t else R (i - 1)) (if j < a then R j else if j = a then t else R (j - 1))
          by_cases e1 : i < a
          · rw [if_pos e1]
            by_cases e2 : j < a
            · rw [if_pos e2]; exact w3 i j hij (by omega)
            · rw [if_neg e2]
              by_cases e3 : j = a
              · rw [if_pos e3]; exact ab i e1
              · rw [if_neg e3]; exact w3 i (j - 1) (by omega) (by omega)
          · rw [if_neg e1, if_neg (show ¬ j < a by omega), if_neg (show ¬ j = a by omega)]
            by_cases e2 : i = a
            · rw [if_pos e2]; exact ba (j - 1) (by omega) (by omega)
            · rw [if_neg e2]; exact w3 (i - 1) (j - 1) (by omega) (by omega)
        · by_cases e : u = t
          · subst e
            exact ⟨a, by omega, by show (if a < a then R a else if a = a then u else R (a - 1)) = u; rw [if_neg (by omega), if_pos rfl]⟩
          · obtain ⟨j, j1, j2⟩ := w4 u (by omega) hw
            by_cases e1 : j < a
            · exact ⟨j, by omega, by show (if j < a then R j else _) = u; rw [if_pos e1]; exact j2⟩
            · exact ⟨j + 1, by omega, by show (if j + 1 < a then R (j + 1) else if j + 1 = a then t else R (j + 1 - 1)) = u; rw [if_neg (by omega), if_neg (by omega)]; exact j2⟩)
      exact ⟨s', w', R', b1, ((a3.trans (Sl.r3 _ _ _)).trans (Sl.n6 _ _)).trans b2, b3⟩
    · rw [if_neg wt]
      refine ih (t + 1) f w R s hs (by omega) (by omega) h6 h3 ⟨by omega, fun j hj => ?_, w3, fun u hu hw => ?_⟩
      · have := w2 j hj; exact ⟨by omega, this.2⟩
      · exact w4 u (by
          by_cases e : u = t
          · subst e; exact absurd hw wt
          · omega) hw
theorem o_lines (hF : 81 < F) (hk : k < 4) (hd : d < 2) (r : Rg s.2.1) (hl : o_X12_lastOf F s (nI 4) (nI 0) = some (nI (2 * k + d))) : ∃ s' w R, o_X12_lines F s = some s' ∧ Sl s s' ∧ s'.1 6 = nI w ∧ (∀ j, j < w → s'.2.2 3 j = nI (R j)) ∧ SR s.2.1 k d (N (s.2.1 1211)) w R := by
  have hM := r.nat (k := 1211) (hi := 80) rfl
  obtain ⟨s', w', R', b1, b2, b3⟩ := lin_loop (F := F) (d := d) hk hd hF s.2.1 hM.1 (by omega) r _ 0 F 0 (fun _ => 0) (pN s 6 (nI 0)) rfl (Nat.zero_add _) (by omega) (pN_s _ _ _) (fun j hj => absurd hj (by omega)) ⟨Nat.le_refl _, fun j hj => absurd hj (by omega), fun i j _ hj => absurd hj (by omega), fun t ht => absurd ht (by omega)⟩
  refine ⟨s', w', R', ?_, (Sl.n6 _ _).trans b2, b3⟩
  unfold o_X12_lines
  rw [hl]
  simp only [Option.bind_some]
  have e1 : irm (nI (2 * k + d)) (nI 2) = nI d := by
    unfold irm
    rw [pk_rem (by omega) (by decide) (by decide), show (2 * k + d) % 2 = d by omega]
  have e2 : nI (2 * k + d) / nI 2 = nI k := by rw [pk_div (by omega) (by decide) (by decide), show (2 * k + d) / 2 = k by omega]
  rw [e1, e2]
  match d, hd with
  | 0, _ => rw [if_neg (by decide), b1]; rfl
  | 1, _ => rw [if_pos rfl, b1]; rfl
  | d + 2, h => exact absurd h (by omega)
end ORD
