/-! THE PURE LAYER: all things of a text; what both sides see in the next one -/
section FND
variable {F : Nat} {τ : cT} {n : Nat} {T : Nat → Int32} {L k q j a P b : Nat} {B : Nat → Nat} {c c0 : cS} {s : rs_S}
/-- behind the thing before -/
def pv (T : Nat → Int32) (L : Nat) (B : Nat → Nat) : Nat → Nat
  | 0 => 0
  | i + 1 => te T L (B i)
def FT (T : Nat → Int32) (L : Nat) (c0 : cS) (c : cS) (q : Nat) (j : Nat) (B : Nat → Nat) : Prop :=
  (∀ a, a ≠ 2 → a ≠ 3 → a ≠ 4 → c.1 a = c0.1 a) ∧
  (∀ i, i ≠ 3 → c.1 2 i = c0.1 2 i) ∧
  (c.2 = c0.2) ∧
  (c.1 2 3 = nI j) ∧
  (j ≤ q) ∧
  (∀ i, i < j → c.1 4 i = nI (B i) ∧ B i < L ∧ tko T L (B i) (c.1 3 i)) ∧
  (∀ i, i < j → nb T L (pv T L B i) = B i) ∧
  (nb T L (pv T L B j) = nb T L q)
theorem FT.mk {T : Nat → Int32} {L : Nat} {c0 : cS} {c : cS} {q : Nat} {j : Nat} {B : Nat → Nat} (h0 : ∀ a, a ≠ 2 → a ≠ 3 → a ≠ 4 → c.1 a = c0.1 a) (h1 : ∀ i, i ≠ 3 → c.1 2 i = c0.1 2 i) (h2 : c.2 = c0.2) (h3 : c.1 2 3 = nI j) (h4 : j ≤ q) (h5 : ∀ i, i < j → c.1 4 i = nI (B i) ∧ B i < L ∧ tko T L (B i) (c.1 3 i)) (h6 : ∀ i, i < j → nb T L (pv T L B i) = B i) (h7 : nb T L (pv T L B j) = nb T L q) : FT T L c0 c q j B := by
  unfold FT
  exact ⟨h0, h1, h2, h3, h4, h5, h6, h7⟩
theorem FT.fr {T : Nat → Int32} {L : Nat} {c0 : cS} {c : cS} {q : Nat} {j : Nat} {B : Nat → Nat} (h : FT T L c0 c q j B) : ∀ a, a ≠ 2 → a ≠ 3 → a ≠ 4 → c.1 a = c0.1 a := (show _ from by unfold FT at h; exact h.1)
theorem FT.f2 {T : Nat → Int32} {L : Nat} {c0 : cS} {c : cS} {q : Nat} {j : Nat} {B : Nat → Nat} (h : FT T L c0 c q j B) : ∀ i, i ≠ 3 → c.1 2 i = c0.1 2 i := (show _ from by unfold FT at h; exact h.2.1)
theorem FT.c2 {T : Nat → Int32} {L : Nat} {c0 : cS} {c : cS} {q : Nat} {j : Nat} {B : Nat → Nat} (h : FT T L c0 c q j B) : c.2 = c0.2 := (show _ from by unfold FT at h; exact h.2.2.1)
theorem FT.sz {T : Nat → Int32} {L : Nat} {c0 : cS} {c : cS} {q : Nat} {j : Nat} {B : Nat → Nat} (h : FT T L c0 c q j B) : c.1 2 3 = nI j := (show _ from by unfold FT at h; exact h.2.2.2.1)
theorem FT.jq {T : Nat → Int32} {L : Nat} {c0 : cS} {c : cS} {q : Nat} {j : Nat} {B : Nat → Nat} (h : FT T L c0 c q j B) : j ≤ q := (show _ from by unfold FT at h; exact h.2.2.2.2.1)
theorem FT.bg {T : Nat → Int32} {L : Nat} {c0 : cS} {c : cS} {q : Nat} {j : Nat} {B : Nat → Nat} (h : FT T L c0 c q j B) : ∀ i, i < j → c.1 4 i = nI (B i) ∧ B i < L ∧ tko T L (B i) (c.1 3 i) := (show _ from by unfold FT at h; exact h.2.2.2.2.2.1)
theorem FT.ln {T : Nat → Int32} {L : Nat} {c0 : cS} {c : cS} {q : Nat} {j : Nat} {B : Nat → Nat} (h : FT T L c0 c q j B) : ∀ i, i < j → nb T L (pv T L B i) = B i := (show _ from by unfold FT at h; exact h.2.2.2.2.2.2.1)
theorem FT.lq {T : Nat → Int32} {L : Nat} {c0 : cS} {c : cS} {q : Nat} {j : Nat} {B : Nat → Nat} (h : FT T L c0 c q j B) : nb T L (pv T L B j) = nb T L q := (show _ from by unfold FT at h; exact h.2.2.2.2.2.2.2)
theorem o_addT {x : Int32} (hj : j < 401) (h : c.1 2 3 = nI j) : o_X7_addThing τ n 0 c x (nI q) = some (cp (cp (cp c 3 j x) 4 j (nI q)) 2 3 (nI (j + 1))) := by
  unfold o_X7_addThing
  simp only [Nat.zero_add]
  rw [h, if_neg (nI_no (by decide) (by omega) hj), if_pos (iL_t hj (by decide)), ca_n _ _ (by omega), cp_1 2 (by decide), h, if_pos (iL_t hj (by decide)), ca_n _ _ (by omega), Option.bind_some, cp_1 2 (by decide), cp_1 2 (by decide), h, nI_add]
theorem FT.add {x : Int32} (h : FT T L c0 c q j B) (hL : L ≤ 400) (hq : q < L) (hs : ¬ T q = nI 32) (ht : tko T L q x) : FT T L c0 (cp (cp (cp c 3 j x) 4 j (nI q)) 2 3 (nI (j + 1))) (te T L q) (j + 1) (upn B j q) := by
  have tl := te_le (T := T) hq
  have jq := h.jq
  have pe : ∀ i, i ≤ j → pv T L (upn B j q) i = pv T L B i := fun i hi => by
    cases i with
    | zero => rfl
    | succ i => show te T L (upn B j q i) = te T L (B i); rw [upn_n (by omega)]
  refine FT.mk (fun a h1 h2 h3 => ?_) (fun i hi => ?_) h.c2 ?_ (by omega) (fun i hi => ?_) (fun i hi => ?_) ?_
  · rw [cp_1 _ h1, cp_1 _ h3, cp_1 _ h2]; exact h.fr a h1 h2 h3
  · rw [cp_q, upd_n hi, cp_1 2 (by decide), cp_1 2 (by decide)]; exact h.f2 i hi
  · rw [cp_q, upd_s]
  · rw [cp_1 4 (by decide), cp_q, cp_1 4 (by decide), cp_1 3 (by decide), cp_1 3 (by decide), cp_q]
    by_cases e : i = j
    · subst e; rw [upd_s, upd_s, upn_s]; exact ⟨rfl, hq, ht⟩
    · rw [upd_n e, upd_n e, upn_n e]; exact h.bg i (by omega)
  · rw [pe i (by omega)]
    by_cases e : i = j
    · subst e; rw [upn_s, h.lq]; exact nb_id (Or.inr hs)
    · rw [upn_n e]; exact h.ln i (by omega)
  · show nb T L (te T L (upn B j q j)) = _
    rw [upn_s]
theorem fth_loop (hF : 401 < F) (hL : L ≤ 400) (hc : ∀ i, i < 400 → c0.1 1 i = T i) : ∀ (r q j f : Nat) (B : Nat → Nat) (c : cS), L - q ≤ r → q ≤ L → r < f → FT T L c0 c q j B → ∃ c' j' B', o_X7_findThings_7 F τ n 0 1 (nI L) f (nI q) c = some c' ∧ FT T L c0 c' L j' B' := by
  intro r
  induction r with
  | zero =>
    intro q j f B c hr hq hf h
    obtain ⟨f, rfl⟩ : ∃ x, f = x + 1 := ⟨f - 1, by omega⟩
    have : q = L := by omega
    subst this
    rw [o_X7_findThings_7, if_pos (Int32.le_refl _)]
    exact ⟨c, j, B, rfl, h⟩
  | succ r ih =>
    intro q j f B c hr hq hf h
    obtain ⟨f, rfl⟩ : ∃ x, f = x + 1 := ⟨f - 1, by omega⟩
    rcases Nat.lt_or_ge q L with g | g
    · have hc' : ∀ i, i < 400 → c.1 1 i = T i := fun i hi => by rw [h.fr 1 (by decide) (by decide) (by decide)]; exact hc i hi
      have tl := te_le (T := T) g
      have jq := h.jq
      have f17' := f17 (F := F) (τ := τ) (n := n) hc' hL g (L - (q + 1)) (q + 1) F (by omega) (by omega)
      rw [show ru (fun j => gon (T q) (T j)) (L - (q + 1)) (q + 1) = te T L q from rfl] at f17'
      rw [o_X7_findThings_7, if_neg (nI_no (by omega) (by omega) g), nI_add, f17', Option.bind_some, if_pos (iL_t (show q < 400 by omega) (by decide)), cg_n _ _ (by omega), hc' q (by omega)]
      by_cases sp : T q = nI 32
      · rw [if_pos sp]
        have e1 : te T L q = q + 1 := te_s (fun g => by rw [sp] at g; exact absurd g (by decide)) (fun g => by rw [sp] at g; exact absurd g (by decide))
        rw [e1]
        exact ih (q + 1) j f B c (by omega) (by omega) (by omega) (FT.mk h.fr h.f2 h.c2 h.sz (by omega) h.bg h.ln (by rw [h.lq]; exact nb_sp g sp))
      · obtain ⟨x, x1, x2⟩ := o_tho (F := F) (τ := τ) (n := n) hF hc' hL g
        rw [if_neg sp, x1, Option.bind_some, o_addT (by omega) h.sz, Option.bind_some]
        exact ih (te T L q) (j + 1) f _ _ (by omega) tl.2 (by omega) (h.add hL g sp x2)
    · have : q = L := by omega
      subst this
      rw [o_X7_findThings_7, if_pos (Int32.le_refl _)]
      exact ⟨c, j, B, rfl, h⟩
/-- the things of a text -/
def TK (T : Nat → Int32) (L : Nat) (k : Nat) (B : Nat → Nat) (c : cS) : Prop :=
  (L ≤ 400) ∧
  (k ≤ L) ∧
  (c.1 2 3 = nI (k + 1)) ∧
  (∀ i, i ≤ k → c.1 4 i = nI (B i)) ∧
  (B k = L) ∧
  (c.1 3 k = -2) ∧
  (∀ i, i < k → B i < L ∧ tko T L (B i) (c.1 3 i)) ∧
  (nb T L 0 = B 0) ∧
  (∀ i, i < k → nb T L (te T L (B i)) = B (i + 1))
theorem TK.mk {T : Nat → Int32} {L : Nat} {k : Nat} {B : Nat → Nat} {c : cS} (h0 : L ≤ 400) (h1 : k ≤ L) (h2 : c.1 2 3 = nI (k + 1)) (h3 : ∀ i, i ≤ k → c.1 4 i = nI (B i)) (h4 : B k = L) (h5 : c.1 3 k = -2) (h6 : ∀ i, i < k → B i < L ∧ tko T L (B i) (c.1 3 i)) (h7 : nb T L 0 = B 0) (h8 : ∀ i, i < k → nb T L (te T L (B i)) = B (i + 1)) : TK T L k B c := by
  unfold TK
  exact ⟨h0, h1, h2, h3, h4, h5, h6, h7, h8⟩
theorem TK.L4 {T : Nat → Int32} {L : Nat} {k : Nat} {B : Nat → Nat} {c : cS} (h : TK T L k B c) : L ≤ 400 := (show _ from by unfold TK at h; exact h.1)
theorem TK.k4 {T : Nat → Int32} {L : Nat} {k : Nat} {B : Nat → Nat} {c : cS} (h : TK T L k B c) : k ≤ L := (show _ from by unfold TK at h; exact h.2.1)
theorem TK.sz {T : Nat → Int32} {L : Nat} {k : Nat} {B : Nat → Nat} {c : cS} (h : TK T L k B c) : c.1 2 3 = nI (k + 1) := (show _ from by unfold TK at h; exact h.2.2.1)
theorem TK.bg {T : Nat → Int32} {L : Nat} {k : Nat} {B : Nat → Nat} {c : cS} (h : TK T L k B c) : ∀ i, i ≤ k → c.1 4 i = nI (B i) := (show _ from by unfold TK at h; exact h.2.2.2.1)
theorem TK.bk {T : Nat → Int32} {L : Nat} {k : Nat} {B : Nat → Nat} {c : cS} (h : TK T L k B c) : B k = L := (show _ from by unfold TK at h; exact h.2.2.2.2.1)
theorem TK.tk {T : Nat → Int32} {L : Nat} {k : Nat} {B : Nat → Nat} {c : cS} (h : TK T L k B c) : c.1 3 k = -2 := (show _ from by unfold TK at h; exact h.2.2.2.2.2.1)
theorem TK.tt {T : Nat → Int32} {L : Nat} {k : Nat} {B : Nat → Nat} {c : cS} (h : TK T L k B c) : ∀ i, i < k → B i < L ∧ tko T L (B i) (c.1 3 i) := (show _ from by unfold TK at h; exact h.2.2.2.2.2.2.1)
theorem TK.b0 {T : Nat → Int32} {L : Nat} {k : Nat} {B : Nat → Nat} {c : cS} (h : TK T L k B c) : nb T L 0 = B 0 := (show _ from by unfold TK at h; exact h.2.2.2.2.2.2.2.1)
theorem TK.nx {T : Nat → Int32} {L : Nat} {k : Nat} {B : Nat → Nat} {c : cS} (h : TK T L k B c) : ∀ i, i < k → nb T L (te T L (B i)) = B (i + 1) := (show _ from by unfold TK at h; exact h.2.2.2.2.2.2.2.2)
theorem TK.same {c' : cS} (h : TK T L k B c) (h2 : c'.1 2 3 = c.1 2 3) (h3 : c'.1 3 = c.1 3) (h4 : c'.1 4 = c.1 4) : TK T L k B c' := TK.mk h.L4 h.k4 (by rw [h2]; exact h.sz) (by rw [h4]; exact h.bg) h.bk (by rw [h3]; exact h.tk) (by rw [h3]; exact h.tt) h.b0 h.nx
theorem o_find (hF : 401 < F) (hL : L ≤ 400) (hc : ∀ i, i < 400 → c.1 1 i = T i) : ∃ c' k B, o_X7_findThings F τ n 0 1 c (nI L) = some c' ∧ TK T L k B c' ∧ (∀ a, a ≠ 2 → a ≠ 3 → a ≠ 4 → c'.1 a = c.1 a) ∧ (∀ i, i ≠ 3 → c'.1 2 i = c.1 2 i) ∧ c'.2 = c.2 := by
  obtain ⟨c1, k, B, a1, a2⟩ := fth_loop (F := F) (τ := τ) (n := n) (c0 := c) hF hL hc L 0 0 F (fun _ => 0) (cp c 2 3 (nI 0)) (by omega) (by omega) (by omega) (FT.mk (fun a h1 _ _ => cp_1 _ h1) (fun i hi => by rw [cp_q, upd_n hi]) rfl (by rw [cp_q, upd_s]) (Nat.le_refl _) (fun i hi => by omega) (fun i hi => by omega) rfl)
  have kq := a2.jq
  unfold o_X7_findThings
  simp only [Nat.zero_add]
  rw [a1, Option.bind_some, o_addT (by omega) a2.sz, Option.bind_some]
  have pe : ∀ i, i ≤ k → pv T L (upn B k L) i = pv T L B i := fun i hi => by
    cases i with
    | zero => rfl
    | succ i => show te T L (upn B k L i) = te T L (B i); rw [upn_n (by omega)]
  have nL : nb T L L = L := nb_id (Or.inl rfl)
  have lnk : ∀ i, i ≤ k → nb T L (pv T L (upn B k L) i) = upn B k L i := fun i hi => by
    rw [pe i hi]
    by_cases e : i = k
    · subst e; rw [upn_s, a2.lq, nL]
    · rw [upn_n e]; exact a2.ln i (by omega)
  refine ⟨_, k, upn B k L, rfl, TK.mk hL kq ?_ (fun i hi => ?_) upn_s ?_ (fun i hi => ?_) (lnk 0 (Nat.zero_le _)) (fun i hi => lnk (i + 1) hi), fun a h1 h2 h3 => ?_, fun i hi => ?_, a2.c2⟩
  · rw [cp_q, upd_s]
  · rw [cp_1 4 (by decide), cp_q, cp_1 4 (by decide)]
    by_cases e : i = k
    · subst e; rw [upd_s, upn_s]
    · rw [upd_n e, upn_n e]; exact (a2.bg i (by omega)).1
  · rw [cp_1 3 (by decide), cp_1 3 (by decide), cp_q, upd_s]
  · rw [cp_1 3 (by decide), cp_1 3 (by decide), cp_q, upd_n (by omega), upn_n (by omega)]
    exact (a2.bg i hi).2
  · rw [cp_1 _ h1, cp_1 _ h3, cp_1 _ h2]; exact a2.fr a h1 h2 h3
  · rw [cp_q, upd_n hi, cp_1 2 (by decide), cp_1 2 (by decide)]; exact a2.f2 i hi
theorem TK.bl (h : TK T L k B c) (ha : a ≤ k) : B a ≤ L := by
  by_cases e : a = k
  · subst e; rw [h.bk]; exact Nat.le_refl _
  · exact Nat.le_of_lt (h.tt a (by omega)).1
/-- the class sees a thing -/
theorem TK.thing (h : TK T L k B c) (ha : a ≤ k) (h4 : c.1 2 4 = nI a) : o_X7_thing τ n 0 c = some (c.1 3 a) := by
  have := h.k4
  have := h.L4
  unfold o_X7_thing
  simp only [Nat.zero_add]
  rw [h.sz, h4, if_neg (nI_no (by omega) (by omega) (by omega)), if_pos (iL_t (show a < 401 by omega) (by decide)), cg_n _ _ (by omega)]
/-- of what kind a thing is -/
theorem TK.kind (h : TK T L k B c) (ha : a ≤ k) : (a = k ∧ c.1 3 a = -2) ∨ (a < k ∧ bw 97 122 (T (B a)) = true ∧ te T L (B a) = wd T L (B a) ∧ WS T (B a) (wd T L (B a) - B a) (c.1 3 a)) ∨ (a < k ∧ ¬ bw 97 122 (T (B a)) = true ∧ bw 48 57 (T (B a)) = true ∧ te T L (B a) = dg T L (B a) ∧ B a < dg T L (B a) ∧ ((dg T L (B a) - B a ≤ 6 ∧ ∃ v, v < 1000000 ∧ vl T (B a) (dg T L (B a) - B a) = nI v ∧ c.1 3 a = nI (1000 + v)) ∨ (6 < dg T L (B a) - B a ∧ c.1 3 a = -1))) ∨ (a < k ∧ ¬ bw 97 122 (T (B a)) = true ∧ ¬ bw 48 57 (T (B a)) = true ∧ te T L (B a) = B a + 1 ∧ (((T (B a) = nI 59 ∨ T (B a) = nI 40 ∨ T (B a) = nI 41 ∨ T (B a) = nI 60 ∨ T (B a) = nI 62) ∧ c.1 3 a = T (B a)) ∨ (¬ (T (B a) = nI 59 ∨ T (B a) = nI 40 ∨ T (B a) = nI 41 ∨ T (B a) = nI 60 ∨ T (B a) = nI 62) ∧ c.1 3 a = -1))) := by
  by_cases e : a = k
  · subst e; exact Or.inl ⟨rfl, h.tk⟩
  · have hk : a < k := by omega
    obtain ⟨h1, t1, t2, t3⟩ := h.tt a hk
    by_cases g : bw 97 122 (T (B a)) = true
    · exact Or.inr (Or.inl ⟨hk, g, te_l h1 g, t1 g⟩)
    · by_cases gd : bw 48 57 (T (B a)) = true
      · refine Or.inr (Or.inr (Or.inl ⟨hk, g, gd, te_d h1 gd, ?_, ?_⟩))
        · rw [← te_d h1 gd]; exact (te_le (T := T) h1).1
        · by_cases g6 : dg T L (B a) - B a ≤ 6
          · obtain ⟨v, v1, v2⟩ := vl_n (T := T) (b := B a) (dg T L (B a) - B a) (fun j hj => ru_in (p := fun j => bw 48 57 (T j)) (L - B a) (B a) (B a + j) (by omega) (by show _ < dg T L (B a); omega)) g6
            have v3 : v < 1000000 := Nat.lt_of_lt_of_le v2 (Nat.le_trans (Nat.pow_le_pow_right (by decide) g6) (by decide))
            refine Or.inl ⟨g6, v, v3, v1, ?_⟩
            rw [t2 gd, if_pos g6, v1, nI_add]
          · exact Or.inr ⟨by omega, by rw [t2 gd, if_neg g6]⟩
      · exact Or.inr (Or.inr (Or.inr ⟨hk, g, gd, te_s g gd, t3 g gd⟩))
theorem sl_pos {i : Nat} (h1 : 14 ≤ i) (h2 : i < 41) : 1 ≤ sl i ∧ 200 ≤ cd i ∧ cd i < 407 := by
  have := cf1 i h2 h1
  omega
theorem wd_0 (h : ¬ bw 97 122 (T q) = true) : wd T L q = q := ru_n h
/-- a word is seen by both -/
theorem TK.eqw (h : TK T L k B c) (ha : a ≤ k) {i : Nat} (h1 : 14 ≤ i) (h2 : i < 41) : (c.1 3 a = nI (cd i) ↔ eqw T (B a) (wd T L (B a) - B a) i) ∧ (c.1 3 a = nI (cd i) → a < k ∧ te T L (B a) = wd T L (B a)) := by
  have hs := sl_pos h1 h2
  have no : wd T L (B a) = B a → ¬ Jvm.Pilot.CSiltHarbourLaw_law_r9505_4d54d6.eqw T (B a) (wd T L (B a) - B a) i := fun e g => by
    have := g.1
    omega
  rcases h.kind ha with ⟨k1, k2⟩ | ⟨k1, k2, k3, k4⟩ | ⟨k1, k2, k3, k4, k5, k6⟩ | ⟨k1, k2, k3, k4, k5⟩
  · subst k1
    have e : wd T L (B a) = B a := by
      rw [h.bk]; unfold wd; rw [Nat.sub_self, ru]
    have ne : ¬ c.1 3 a = nI (cd i) := by
      rw [k2]
      exact fun g => nI_pos (show cd i < 2 ^ 31 by omega) (by rw [← g]; decide)
    exact ⟨⟨fun g => absurd g ne, fun g => absurd g (no e)⟩, fun g => absurd g ne⟩
  · exact ⟨k4.1 i h1 h2, fun _ => ⟨k1, k3⟩⟩
  · have ne : ¬ c.1 3 a = nI (cd i) := by
      rcases k6 with ⟨_, v, v1, v2, v3⟩ | ⟨_, v3⟩
      · rw [v3]; exact nI_inj (by omega) (by omega) (by omega)
      · rw [v3]; exact fun g => nI_nm1 (show cd i < 2 ^ 31 by omega) g.symm
    exact ⟨⟨fun g => absurd g ne, fun g => absurd g (no (wd_0 k2))⟩, fun g => absurd g ne⟩
  · have ne : ¬ c.1 3 a = nI (cd i) := by
      rcases k5 with ⟨g, v3⟩ | ⟨_, v3⟩
      · rw [v3]
        rcases g with g | g | g | g | g <;> (rw [g]; exact nI_inj (by decide) (by omega) (by omega))
      · rw [v3]; exact fun g => nI_nm1 (show cd i < 2 ^ 31 by omega) g.symm
    exact ⟨⟨fun g => absurd g ne, fun g => absurd g (no (wd_0 k2))⟩, fun g => absurd g ne⟩
theorem TK.pas {i : Nat} (hF : 401 < F) (h : TK T L k B c) (ht : Tx s T L) (ha : a ≤ k) (hP : P ≤ L) (hq : nb T L P = B a) (h1 : 14 ≤ i) (h2 : i < 41) : (c.1 3 a = nI (cd i) → a < k ∧ o_X12_passes F (ps s P b) i = some (nI 1, ps s (te T L (B a)) (B a))) ∧ (¬ c.1 3 a = nI (cd i) → o_X12_passes F (ps s P b) i = some (nI 0, ps s (B a) (B a))) := by
  have e := h.eqw ha h1 h2
  have p := o_pas (F := F) (b := b) (i := i) hF ht h2 hP hq
  exact ⟨fun g => ⟨(e.2 g).1, by rw [(e.2 g).2]; exact p.1 (e.1.mp g)⟩, fun g => p.2 (fun g2 => g (e.1.mpr g2))⟩
theorem TK.isW {i : Nat} (hF : 401 < F) (h : TK T L k B c) (ht : Tx s T L) (ha : a ≤ k) (h1 : 14 ≤ i) (h2 : i < 41) : o_X12_isWord F (ps s (wd T L (B a)) (B a)) i = some (ifc (c.1 3 a = nI (cd i)) (nI 1) (nI 0)) := by
  have w := wd_le (T := T) (h.bl ha)
  rw [o_isW hF ht h2 w.1 w.2]
  exact congrArg some (ifc_iff (h.eqw ha h1 h2).1.symm)
theorem TK.sgn {ch : Nat} (hF : 401 < F) (h : TK T L k B c) (ht : Tx s T L) (ha : a ≤ k) (hP : P ≤ L) (hq : nb T L P = B a) (hch : ch = 59 ∨ ch = 40 ∨ ch = 41 ∨ ch = 60 ∨ ch = 62) : (c.1 3 a = nI ch → a < k ∧ te T L (B a) = B a + 1 ∧ B a < L ∧ T (B a) = nI ch ∧ o_X12_sign F (ps s P b) (nI ch) = some (nI 1, ps s (te T L (B a)) (B a))) ∧ (¬ c.1 3 a = nI ch → ¬ (B a < L ∧ T (B a) = nI ch) ∧ o_X12_sign F (ps s P b) (nI ch) = some (nI 0, ps s (B a) (B a))) := by
  have p := o_sgn (F := F) (b := b) (ch := ch) hF ht hP hq
  have hc9 : ch < 97 := by omega
  have nl : T (B a) = nI ch → ¬ bw 97 122 (T (B a)) = true := fun e g => by
    rw [e] at g
    exact (bw_t.mp g).1 ((nI_ltI (by omega) (by decide)).mpr hc9)
  have nd : T (B a) = nI ch → ¬ bw 48 57 (T (B a)) = true := fun e g => by
    rw [e] at g
    obtain ⟨g1, g2⟩ := bw_t.mp g
    rcases hch with g | g | g | g | g <;> subst g <;> first | exact g1 (by decide) | exact g2 (by decide)
  have key : c.1 3 a = nI ch → a < k ∧ te T L (B a) = B a + 1 ∧ T (B a) = nI ch := fun e => by
    rcases h.kind ha with ⟨k1, k2⟩ | ⟨k1, k2, k3, k4⟩ | ⟨k1, k2, k3, k4, k5, k6⟩ | ⟨k1, k2, k3, k4, k5⟩
    · rw [k2] at e
      exact absurd (show (nI ch) < 0 by rw [← e]; decide) (nI_pos (by omega))
    · rcases k4.2 with g | ⟨i, i1, i2, g⟩
      · rw [g] at e; exact absurd e.symm (nI_nm1 (by omega))
      · have := sl_pos i1 i2
        rw [g] at e; exact absurd e (nI_inj (by omega) (by omega) (by omega))
    · rcases k6 with ⟨_, v, v1, v2, v3⟩ | ⟨_, v3⟩
      · rw [v3] at e; exact absurd e (nI_inj (by omega) (by omega) (by omega))
      · rw [v3] at e; exact absurd e.symm (nI_nm1 (by omega))
    · rcases k5 with ⟨_, v3⟩ | ⟨_, v3⟩
      · exact ⟨k1, k4, by rw [← v3]; exact e⟩
      · rw [v3] at e; exact absurd e.symm (nI_nm1 (by omega))
  refine ⟨fun e => ?_, fun e => ?_⟩
  · obtain ⟨g1, g2, g3⟩ := key e
    have g4 := (h.tt a g1).1
    exact ⟨g1, g2, g4, g3, by rw [g2]; exact p.1 ⟨g4, g3⟩⟩
  · have no : ¬ (B a < L ∧ T (B a) = nI ch) := fun g => by
      rcases h.kind ha with ⟨k1, k2⟩ | ⟨k1, k2, k3, k4⟩ | ⟨k1, k2, k3, k4, k5, k6⟩ | ⟨k1, k2, k3, k4, k5⟩
      · subst k1; have := h.bk; omega
      · exact nl g.2 k2
      · exact nd g.2 k3
      · rcases k5 with ⟨_, v3⟩ | ⟨v2, v3⟩
        · exact e (v3.trans g.2)
        · refine v2 ?_
          rw [g.2]
          rcases hch with g | g | g | g | g
          · exact Or.inl (by rw [g])
          · exact Or.inr (Or.inl (by rw [g]))
          · exact Or.inr (Or.inr (Or.inl (by rw [g])))
          · exact Or.inr (Or.inr (Or.inr (Or.inl (by rw [g]))))
          · exact Or.inr (Or.inr (Or.inr (Or.inr (by rw [g]))))
    exact ⟨no, p.2 no⟩
theorem TK.num {hi : Nat} (hF : 401 < F) (h : TK T L k B c) (ht : Tx s T L) (ha : a ≤ k) (hP : P ≤ L) (hq : nb T L P = B a) (hhi : hi < 2 ^ 31) : (∃ v, v < 1000000 ∧ c.1 3 a = nI (1000 + v) ∧ a < k ∧ o_X12_number F (ps s P b) (nI hi) = some (if v ≤ hi then nI v else -1, ps s (te T L (B a)) (B a))) ∨ ((c.1 3 a - nI 1000) < 0 ∧ ∃ e, e ≤ L ∧ o_X12_number F (ps s P b) (nI hi) = some (-1, ps s e (B a))) := by
  have p := o_num (F := F) (b := b) (a1 := nI hi) hF ht hP hq rfl
  have dl := dg_le (T := T) (h.bl ha)
  have z : dg T L (B a) = B a → o_X12_number F (ps s P b) (nI hi) = some (-1, ps s (dg T L (B a)) (B a)) := fun e => by rw [p, if_pos e]
  have neg : ∀ v, v < 1000 → (nI v - nI 1000 : Int32) < 0 := fun v hv => by
    rw [Int32.lt_iff_toInt_lt, Int32.toInt_sub, nI_toInt (by omega), nI_toInt (by omega), Int.bmod_eq_of_le (by omega) (by omega), show ((0 : Int32)).toInt = 0 by decide]
    omega
  rcases h.kind ha with ⟨k1, k2⟩ | ⟨k1, k2, k3, k4⟩ | ⟨k1, k2, k3, k4, k5, k6⟩ | ⟨k1, k2, k3, k4, k5⟩
  · refine Or.inr ⟨by rw [k2]; decide, _, dl.2, z ?_⟩
    subst k1
    rw [h.bk]; unfold dg; rw [Nat.sub_self, ru]
  · refine Or.inr ⟨?_, _, dl.2, z (ru_n (fun g => by have g : bw 48 57 (T (B a)) = true := g; rw [ld k2] at g; cases g))⟩
    rcases k4.2 with g | ⟨i, i1, i2, g⟩
    · rw [g]; decide
    · have := sl_pos i1 i2
      rw [g]; exact neg _ (by omega)
  · rcases k6 with ⟨g6, v, v1, v2, v3⟩ | ⟨g6, v3⟩
    · refine Or.inl ⟨v, v1, v3, k1, ?_⟩
      rw [p, if_neg (by omega), if_neg (by omega), v2, k4]
      by_cases g : v ≤ hi
      · rw [if_pos (nI_yes (by omega) hhi g), if_pos g]
      · rw [if_neg (nI_no (by omega) hhi (by omega)), if_neg g]
    · exact Or.inr ⟨by rw [v3]; decide, _, dl.2, by rw [p, if_neg (by omega), if_pos g6]⟩
  · refine Or.inr ⟨?_, _, dl.2, z (ru_n k3)⟩
    rcases k5 with ⟨g, v3⟩ | ⟨_, v3⟩
    · rw [v3]
      rcases g with g | g | g | g | g <;> (rw [g]; decide)
    · rw [v3]; decide
end FND
