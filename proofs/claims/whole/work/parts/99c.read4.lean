/-! THE PURE LAYER: conditions, read by both -/
section CND
variable {F : Nat} {τ : cT} {n : Nat} {T : Nat → Int32} {L k a m d hb : Nat} {B : Nat → Nat} {c c' c'' : cS} {s s' s'' : rs_S}
theorem w_wrd {t : Int32} (hW : ∀ i, 14 ≤ i → i < 41 → o_X12_isWord F s i = some (ifc (t = nI (cd i)) (nI 1) (nI 0))) : (∃ f, f < 7 ∧ t = nI (300 + f) ∧ o_X12_wordOf F s = some (nI f)) ∨ ((∀ f, f < 7 → ¬ t = nI (300 + f)) ∧ o_X12_wordOf F s = some (-1)) := by
  unfold o_X12_wordOf
  rw [hW 29 (by decide) (by decide), Option.bind_some]
  by_cases h0 : t = nI (cd 29)
  · rw [ifc_pos h0, if_neg n10]; exact Or.inl ⟨0, by decide, h0, rfl⟩
  rw [ifc_neg h0, if_pos nI_0]
  rw [hW 30 (by decide) (by decide), Option.bind_some]
  by_cases h1 : t = nI (cd 30)
  · rw [ifc_pos h1, if_neg n10]; exact Or.inl ⟨1, by decide, h1, rfl⟩
  rw [ifc_neg h1, if_pos nI_0]
  rw [hW 31 (by decide) (by decide), Option.bind_some]
  by_cases h2 : t = nI (cd 31)
  · rw [ifc_pos h2, if_neg n10]; exact Or.inl ⟨2, by decide, h2, rfl⟩
  rw [ifc_neg h2, if_pos nI_0]
  rw [hW 32 (by decide) (by decide), Option.bind_some]
  by_cases h3 : t = nI (cd 32)
  · rw [ifc_pos h3, if_neg n10]; exact Or.inl ⟨3, by decide, h3, rfl⟩
  rw [ifc_neg h3, if_pos nI_0]
  rw [hW 33 (by decide) (by decide), Option.bind_some]
  by_cases h4 : t = nI (cd 33)
  · rw [ifc_pos h4, if_neg n10]; exact Or.inl ⟨4, by decide, h4, rfl⟩
  rw [ifc_neg h4, if_pos nI_0]
  rw [hW 34 (by decide) (by decide), Option.bind_some]
  by_cases h5 : t = nI (cd 34)
  · rw [ifc_pos h5, if_neg n10]; exact Or.inl ⟨5, by decide, h5, rfl⟩
  rw [ifc_neg h5, if_pos nI_0]
  rw [hW 35 (by decide) (by decide), Option.bind_some]
  by_cases h6 : t = nI (cd 35)
  · rw [ifc_pos h6, if_neg n10]; exact Or.inl ⟨6, by decide, h6, rfl⟩
  rw [ifc_neg h6, if_pos nI_0]
  refine Or.inr ⟨fun f hf => ?_, rfl⟩
  match f, hf with
  | 0, _ => exact h0
  | 1, _ => exact h1
  | 2, _ => exact h2
  | 3, _ => exact h3
  | 4, _ => exact h4
  | 5, _ => exact h5
  | 6, _ => exact h6
  | f + 7, hf => exact absurd hf (by omega)
theorem w_fct {t : Int32} (hW : ∀ i, 14 ≤ i → i < 41 → o_X12_isWord F s i = some (ifc (t = nI (cd i)) (nI 1) (nI 0))) : (∃ f, f < 5 ∧ t = nI (307 + f) ∧ o_X12_factOf F s = some (nI f)) ∨ ((∀ f, f < 5 → ¬ t = nI (307 + f)) ∧ o_X12_factOf F s = some (-1)) := by
  unfold o_X12_factOf
  rw [hW 23 (by decide) (by decide), Option.bind_some]
  by_cases h0 : t = nI (cd 23)
  · rw [ifc_pos h0, if_neg n10]; exact Or.inl ⟨0, by decide, h0, rfl⟩
  rw [ifc_neg h0, if_pos nI_0]
  rw [hW 24 (by decide) (by decide), Option.bind_some]
  by_cases h1 : t = nI (cd 24)
  · rw [ifc_pos h1, if_neg n10]; exact Or.inl ⟨1, by decide, h1, rfl⟩
  rw [ifc_neg h1, if_pos nI_0]
  rw [hW 36 (by decide) (by decide), Option.bind_some]
  by_cases h2 : t = nI (cd 36)
  · rw [ifc_pos h2, if_neg n10]; exact Or.inl ⟨2, by decide, h2, rfl⟩
  rw [ifc_neg h2, if_pos nI_0]
  rw [hW 37 (by decide) (by decide), Option.bind_some]
  by_cases h3 : t = nI (cd 37)
  · rw [ifc_pos h3, if_neg n10]; exact Or.inl ⟨3, by decide, h3, rfl⟩
  rw [ifc_neg h3, if_pos nI_0]
  rw [hW 38 (by decide) (by decide), Option.bind_some]
  by_cases h4 : t = nI (cd 38)
  · rw [ifc_pos h4, if_neg n10]; exact Or.inl ⟨4, by decide, h4, rfl⟩
  rw [ifc_neg h4, if_pos nI_0]
  refine Or.inr ⟨fun f hf => ?_, rfl⟩
  match f, hf with
  | 0, _ => exact h0
  | 1, _ => exact h1
  | 2, _ => exact h2
  | 3, _ => exact h3
  | 4, _ => exact h4
  | f + 5, hf => exact absurd hf (by omega)
theorem w_srt {t : Int32} (hW : ∀ i, 14 ≤ i → i < 41 → o_X12_isWord F s i = some (ifc (t = nI (cd i)) (nI 1) (nI 0))) : (∃ f, f < 8 ∧ t = nI (200 + f) ∧ o_X12_sortOf F s = some (nI f)) ∨ ((∀ f, f < 8 → ¬ t = nI (200 + f)) ∧ o_X12_sortOf F s = some (-1)) := by
  unfold o_X12_sortOf
  rw [hW 14 (by decide) (by decide), Option.bind_some]
  by_cases h0 : t = nI (cd 14)
  · rw [ifc_pos h0, if_neg n10]; exact Or.inl ⟨0, by decide, h0, rfl⟩
  rw [ifc_neg h0, if_pos nI_0]
  rw [hW 15 (by decide) (by decide), Option.bind_some]
  by_cases h1 : t = nI (cd 15)
  · rw [ifc_pos h1, if_neg n10]; exact Or.inl ⟨1, by decide, h1, rfl⟩
  rw [ifc_neg h1, if_pos nI_0]
  rw [hW 16 (by decide) (by decide), Option.bind_some]
  by_cases h2 : t = nI (cd 16)
  · rw [ifc_pos h2, if_neg n10]; exact Or.inl ⟨2, by decide, h2, rfl⟩
  rw [ifc_neg h2, if_pos nI_0]
  rw [hW 17 (by decide) (by decide), Option.bind_some]
  by_cases h3 : t = nI (cd 17)
  · rw [ifc_pos h3, if_neg n10]; exact Or.inl ⟨3, by decide, h3, rfl⟩
  rw [ifc_neg h3, if_pos nI_0]
  rw [hW 18 (by decide) (by decide), Option.bind_some]
  by_cases h4 : t = nI (cd 18)
  · rw [ifc_pos h4, if_neg n10]; exact Or.inl ⟨4, by decide, h4, rfl⟩
  rw [ifc_neg h4, if_pos nI_0]
  rw [hW 19 (by decide) (by decide), Option.bind_some]
  by_cases h5 : t = nI (cd 19)
  · rw [ifc_pos h5, if_neg n10]; exact Or.inl ⟨5, by decide, h5, rfl⟩
  rw [ifc_neg h5, if_pos nI_0]
  rw [hW 20 (by decide) (by decide), Option.bind_some]
  by_cases h6 : t = nI (cd 20)
  · rw [ifc_pos h6, if_neg n10]; exact Or.inl ⟨6, by decide, h6, rfl⟩
  rw [ifc_neg h6, if_pos nI_0]
  rw [hW 21 (by decide) (by decide), Option.bind_some]
  by_cases h7 : t = nI (cd 21)
  · rw [ifc_pos h7, if_neg n10]; exact Or.inl ⟨7, by decide, h7, rfl⟩
  rw [ifc_neg h7, if_pos nI_0]
  refine Or.inr ⟨fun f hf => ?_, rfl⟩
  match f, hf with
  | 0, _ => exact h0
  | 1, _ => exact h1
  | 2, _ => exact h2
  | 3, _ => exact h3
  | 4, _ => exact h4
  | 5, _ => exact h5
  | 6, _ => exact h6
  | 7, _ => exact h7
  | f + 8, hf => exact absurd hf (by omega)/-- both read at the same place, with as many steps -/
def RJ (T : Nat → Int32) (L : Nat) (k : Nat) (B : Nat → Nat) (c : cS) (s : rs_S) (a : Nat) (m : Nat) : Prop :=
  (TK T L k B c) ∧
  (Tx s T L) ∧
  (c.1 2 4 = nI a) ∧
  (a ≤ k) ∧
  (∃ P b, P ≤ L ∧ s.1 9 = nI P ∧ s.1 11 = nI b ∧ nb T L P = B a) ∧
  (c.1 2 11 = nI m) ∧
  (s.1 15 = nI m) ∧
  (m ≤ a) ∧
  (∀ j, j < m → stc (c.1 8 j) (s.2.1 (21416 + 2 * j)) ∧ c.1 9 j = s.2.1 (21417 + 2 * j) ∧ ((∃ f, f < 7 ∧ c.1 8 j = nI (12 + f)) → c.1 9 j = nI 0))
theorem RJ.mk {T : Nat → Int32} {L : Nat} {k : Nat} {B : Nat → Nat} {c : cS} {s : rs_S} {a : Nat} {m : Nat} (h0 : TK T L k B c) (h1 : Tx s T L) (h2 : c.1 2 4 = nI a) (h3 : a ≤ k) (h4 : ∃ P b, P ≤ L ∧ s.1 9 = nI P ∧ s.1 11 = nI b ∧ nb T L P = B a) (h5 : c.1 2 11 = nI m) (h6 : s.1 15 = nI m) (h7 : m ≤ a) (h8 : ∀ j, j < m → stc (c.1 8 j) (s.2.1 (21416 + 2 * j)) ∧ c.1 9 j = s.2.1 (21417 + 2 * j) ∧ ((∃ f, f < 7 ∧ c.1 8 j = nI (12 + f)) → c.1 9 j = nI 0)) : RJ T L k B c s a m := by
  unfold RJ
  exact ⟨h0, h1, h2, h3, h4, h5, h6, h7, h8⟩
theorem RJ.tk {T : Nat → Int32} {L : Nat} {k : Nat} {B : Nat → Nat} {c : cS} {s : rs_S} {a : Nat} {m : Nat} (h : RJ T L k B c s a m) : TK T L k B c := (show _ from by unfold RJ at h; exact h.1)
theorem RJ.tx {T : Nat → Int32} {L : Nat} {k : Nat} {B : Nat → Nat} {c : cS} {s : rs_S} {a : Nat} {m : Nat} (h : RJ T L k B c s a m) : Tx s T L := (show _ from by unfold RJ at h; exact h.2.1)
theorem RJ.ta {T : Nat → Int32} {L : Nat} {k : Nat} {B : Nat → Nat} {c : cS} {s : rs_S} {a : Nat} {m : Nat} (h : RJ T L k B c s a m) : c.1 2 4 = nI a := (show _ from by unfold RJ at h; exact h.2.2.1)
theorem RJ.ak {T : Nat → Int32} {L : Nat} {k : Nat} {B : Nat → Nat} {c : cS} {s : rs_S} {a : Nat} {m : Nat} (h : RJ T L k B c s a m) : a ≤ k := (show _ from by unfold RJ at h; exact h.2.2.2.1)
theorem RJ.pt {T : Nat → Int32} {L : Nat} {k : Nat} {B : Nat → Nat} {c : cS} {s : rs_S} {a : Nat} {m : Nat} (h : RJ T L k B c s a m) : ∃ P b, P ≤ L ∧ s.1 9 = nI P ∧ s.1 11 = nI b ∧ nb T L P = B a := (show _ from by unfold RJ at h; exact h.2.2.2.2.1)
theorem RJ.st {T : Nat → Int32} {L : Nat} {k : Nat} {B : Nat → Nat} {c : cS} {s : rs_S} {a : Nat} {m : Nat} (h : RJ T L k B c s a m) : c.1 2 11 = nI m := (show _ from by unfold RJ at h; exact h.2.2.2.2.2.1)
theorem RJ.s5 {T : Nat → Int32} {L : Nat} {k : Nat} {B : Nat → Nat} {c : cS} {s : rs_S} {a : Nat} {m : Nat} (h : RJ T L k B c s a m) : s.1 15 = nI m := (show _ from by unfold RJ at h; exact h.2.2.2.2.2.2.1)
theorem RJ.ma {T : Nat → Int32} {L : Nat} {k : Nat} {B : Nat → Nat} {c : cS} {s : rs_S} {a : Nat} {m : Nat} (h : RJ T L k B c s a m) : m ≤ a := (show _ from by unfold RJ at h; exact h.2.2.2.2.2.2.2.1)
theorem RJ.sp {T : Nat → Int32} {L : Nat} {k : Nat} {B : Nat → Nat} {c : cS} {s : rs_S} {a : Nat} {m : Nat} (h : RJ T L k B c s a m) : ∀ j, j < m → stc (c.1 8 j) (s.2.1 (21416 + 2 * j)) ∧ c.1 9 j = s.2.1 (21417 + 2 * j) ∧ ((∃ f, f < 7 ∧ c.1 8 j = nI (12 + f)) → c.1 9 j = nI 0) := (show _ from by unfold RJ at h; exact h.2.2.2.2.2.2.2.2)
/-- what stays -/
def RFm (c c' : cS) (s s' : rs_S) (m : Nat) : Prop := (∀ q, q ≠ 2 → q ≠ 8 → q ≠ 9 → c'.1 q = c.1 q) ∧ (∀ j, j ≠ 4 → j ≠ 11 → c'.1 2 j = c.1 2 j) ∧ c'.2 = c.2 ∧ (∀ j, j < m → c'.1 8 j = c.1 8 j ∧ c'.1 9 j = c.1 9 j) ∧ (∀ q, q < 21416 + 2 * m → s'.2.1 q = s.2.1 q) ∧ s'.2.2 = s.2.2 ∧ ∀ j, j ≠ 9 → j ≠ 11 → j ≠ 12 → j ≠ 15 → s'.1 j = s.1 j
theorem RFm.refl : RFm c c s s m := ⟨fun _ _ _ _ => rfl, fun _ _ _ => rfl, rfl, fun _ _ => ⟨rfl, rfl⟩, fun _ _ => rfl, rfl, fun _ _ _ _ _ => rfl⟩
theorem RFm.trans {m' : Nat} (h : RFm c c' s s' m) (h' : RFm c' c'' s' s'' m') (hm : m ≤ m') : RFm c c'' s s'' m := by
  obtain ⟨a1, a2, a3, a4, a5, a6, a7⟩ := h
  obtain ⟨b1, b2, b3, b4, b5, b6, b7⟩ := h'
  exact ⟨fun q h1 h2 h3 => (b1 q h1 h2 h3).trans (a1 q h1 h2 h3), fun j h1 h2 => (b2 j h1 h2).trans (a2 j h1 h2), b3.trans a3, fun j hj => ⟨(b4 j (by omega)).1.trans (a4 j hj).1, (b4 j (by omega)).2.trans (a4 j hj).2⟩, fun q hq => (b5 q (by omega)).trans (a5 q hq), b6.trans a6, fun j h1 h2 h3 h4 => (b7 j h1 h2 h3 h4).trans (a7 j h1 h2 h3 h4)⟩
theorem RFm.cat {y : Int32} : RFm c (cp c 2 4 y) s s m := ⟨fun q h1 _ _ => cp_1 _ h1, fun j h1 _ => by rw [cp_q, upd_n h1], rfl, fun j _ => ⟨by rw [cp_1 8 (by decide)], by rw [cp_1 9 (by decide)]⟩, fun _ _ => rfl, rfl, fun _ _ _ _ _ => rfl⟩
theorem RFm.ps {P b : Nat} (h : RFm c c' s s' m) : RFm c c' s (ps s' P b) m := ⟨h.1, h.2.1, h.2.2.1, h.2.2.2.1, h.2.2.2.2.1, h.2.2.2.2.2.1, fun j h1 h2 h3 h4 => (ps_n h1 h2).trans (h.2.2.2.2.2.2 j h1 h2 h3 h4)⟩
theorem RFm.d12 {y : Int32} (h : RFm c c' s s' m) : RFm c c' s (pN s' 12 y) m := ⟨h.1, h.2.1, h.2.2.1, h.2.2.2.1, h.2.2.2.2.1, h.2.2.2.2.2.1, fun j h1 h2 h3 h4 => (pN_n h3).trans (h.2.2.2.2.2.2 j h1 h2 h3 h4)⟩
theorem ps_ps {P b P' b' : Nat} : Jvm.Pilot.CSiltHarbourLaw_law_r9505_4d54d6.ps (Jvm.Pilot.CSiltHarbourLaw_law_r9505_4d54d6.ps s P b) P' b' = Jvm.Pilot.CSiltHarbourLaw_law_r9505_4d54d6.ps s P' b' := by
  show pN (pN (Jvm.Pilot.CSiltHarbourLaw_law_r9505_4d54d6.ps s P b) 9 (nI P')) 11 (nI b') = _
  rw [ps_p9, ps_p11]
theorem Tx.ps {P b : Nat} (h : Tx s T L) : Tx (ps s P b) T L := ⟨by rw [ps_n (by decide) (by decide)]; exact h.1, h.2⟩
theorem Tx.d12 {y : Int32} (h : Tx s T L) : Tx (pN s 12 y) T L := ⟨by rw [pN_n (by decide)]; exact h.1, h.2⟩
theorem TK.cat {y : Int32} (h : TK T L k B c) : TK T L k B (cp c 2 4 y) := h.same (by rw [cp_q, upd_n (by decide)]) (cp_1 _ (by decide)) (cp_1 _ (by decide))
theorem RJ.b3 {y : Int32} : (cp c 2 4 y).1 3 = c.1 3 := cp_1 _ (by decide)
/-- to another thing -/
theorem RJ.move {P b a' : Nat} (h : RJ T L k B c s a m) (ha : a' ≤ k) (hm : m ≤ a') (hP : P ≤ L) (hn : nb T L P = B a') : RJ T L k B (cp c 2 4 (nI a')) (ps s P b) a' m := by
  refine RJ.mk h.tk.cat h.tx.ps (by rw [cp_q, upd_s]) ha ⟨P, b, hP, ps_9, ps_11, hn⟩ ?_ ?_ hm (fun j hj => ?_)
  · rw [cp_q, upd_n (by decide)]; exact h.st
  · rw [ps_n (by decide) (by decide)]; exact h.s5
  · rw [cp_1 8 (by decide), cp_1 9 (by decide)]; exact h.sp j hj
theorem RJ.nbB (h : RJ T L k B c s a m) : nb T L (B a) = B a := by
  obtain ⟨P, b, p1, p2, p3, p4⟩ := h.pt
  have p5 := nb_le (T := T) p1
  rw [p4] at p5
  rcases Nat.lt_or_ge (B a) L with g | g
  · refine nb_id (Or.inr ?_)
    rw [← p4]
    exact nb_ns p1 (by rw [p4]; exact g)
  · exact nb_id (Or.inl (by omega))
theorem RJ.stay {b : Nat} (h : RJ T L k B c s a m) : RJ T L k B c (ps s (B a) b) a m := by
  refine RJ.mk h.tk h.tx.ps h.ta h.ak ⟨B a, b, h.tk.bl h.ak, ps_9, ps_11, h.nbB⟩ h.st ?_ h.ma h.sp
  rw [ps_n (by decide) (by decide)]; exact h.s5
theorem RJ.next {b : Nat} (h : RJ T L k B c s a m) (hk : a < k) : RJ T L k B (cp c 2 4 (nI (a + 1))) (ps s (te T L (B a)) b) (a + 1) m := h.move hk (by have := h.ma; omega) (te_le (h.tk.tt a hk).1).2 (h.tk.nx a hk)
theorem RJ.d12 {y : Int32} (h : RJ T L k B c s a m) : RJ T L k B c (pN s 12 y) a m := by
  obtain ⟨P, b, p1, p2, p3, p4⟩ := h.pt
  exact RJ.mk h.tk h.tx.d12 h.ta h.ak ⟨P, b, p1, by rw [pN_n (by decide)]; exact p2, by rw [pN_n (by decide)]; exact p3, p4⟩ h.st (by rw [pN_n (by decide)]; exact h.s5) h.ma h.sp
theorem RJ.thing (h : RJ T L k B c s a m) : o_X7_thing τ n 0 c = some (c.1 3 a) := h.tk.thing h.ak h.ta
theorem RJ.pas {i : Nat} (hF : 401 < F) (h : RJ T L k B c s a m) (h1 : 14 ≤ i) (h2 : i < 41) : (c.1 3 a = nI (cd i) → a < k ∧ o_X12_passes F s i = some (nI 1, ps s (te T L (B a)) (B a))) ∧ (¬ c.1 3 a = nI (cd i) → o_X12_passes F s i = some (nI 0, ps s (B a) (B a))) := by
  obtain ⟨P, b, p1, p2, p3, p4⟩ := h.pt
  have e := h.tk.pas (F := F) (b := b) (s := s) hF h.tx h.ak p1 p4 h1 h2
  rw [ps_id p2 p3] at e
  exact e
theorem RJ.wrd (hF : 401 < F) (h : RJ T L k B c s a m) : o_X12_word F s = some (ps s (wd T L (B a)) (B a)) := by
  obtain ⟨P, b, p1, p2, p3, p4⟩ := h.pt
  have e := o_word (F := F) (b := b) (s := s) hF h.tx p1
  rw [ps_id p2 p3, p4] at e
  exact e
theorem RJ.blk (hF : 401 < F) (h : RJ T L k B c s a m) : o_X12_blanks F s = some (ps s (B a) (B a)) := by
  obtain ⟨P, b, p1, p2, p3, p4⟩ := h.pt
  have e := o_blanks (F := F) (b := b) (s := s) hF h.tx p1
  rw [ps_id p2 p3, p4] at e
  exact e
theorem RJ.sgn {ch : Nat} (hF : 401 < F) (h : RJ T L k B c s a m) (hch : ch = 59 ∨ ch = 40 ∨ ch = 41 ∨ ch = 60 ∨ ch = 62) : (c.1 3 a = nI ch → a < k ∧ o_X12_sign F s (nI ch) = some (nI 1, ps s (te T L (B a)) (B a))) ∧ (¬ c.1 3 a = nI ch → o_X12_sign F s (nI ch) = some (nI 0, ps s (B a) (B a))) := by
  obtain ⟨P, b, p1, p2, p3, p4⟩ := h.pt
  have e := h.tk.sgn (F := F) (b := b) (s := s) hF h.tx h.ak p1 p4 hch
  rw [ps_id p2 p3] at e
  exact ⟨fun g => ⟨(e.1 g).1, (e.1 g).2.2.2.2⟩, fun g => (e.2 g).2⟩
theorem RJ.num {hi : Nat} (hF : 401 < F) (h : RJ T L k B c s a m) (hhi : hi < 2 ^ 31) : (∃ v, v < 1000000 ∧ c.1 3 a = nI (1000 + v) ∧ a < k ∧ o_X12_number F s (nI hi) = some (if v ≤ hi then nI v else -1, ps s (te T L (B a)) (B a))) ∨ ((c.1 3 a - nI 1000) < 0 ∧ ∃ e, e ≤ L ∧ o_X12_number F s (nI hi) = some (-1, ps s e (B a))) := by
  obtain ⟨P, b, p1, p2, p3, p4⟩ := h.pt
  have e := h.tk.num (F := F) (b := b) (s := s) hF h.tx h.ak p1 p4 hhi
  rw [ps_id p2 p3] at e
  exact e
/-- a step more -/
def cs8 (c : cS) (m : Nat) (x y : Int32) : cS := cp (cp (cp c 8 m x) 9 m y) 2 11 (nI (m + 1))
theorem o_addS {x y : Int32} (hm : m < 400) (h : c.1 2 11 = nI m) : o_X7_addStep τ n 0 c x y = some (cs8 c m x y) := by
  unfold o_X7_addStep
  simp only [Nat.zero_add]
  rw [h, if_neg (nI_no (by decide) (by omega) hm), if_pos (iL_t hm (by decide)), ca_n _ _ (by omega), cp_1 2 (by decide), h, if_pos (iL_t hm (by decide)), ca_n _ _ (by omega), Option.bind_some, cp_1 2 (by decide), cp_1 2 (by decide), h, nI_add]
  rfl
theorem o_addR {x y : Int32} (hm : m < 400) (h15 : s.1 15 = nI m) : o_X12_adds s x y = some (adS s m x y) := by
  unfold o_X12_adds
  rw [o_actAt, Option.bind_some, h15, nI_add, nI_mul, nI_add, nI_add, show 2812 + 882 * 21 + 82 + 2 * m = 21416 + 2 * m by omega, show 21416 + 2 * m + 1 = 21417 + 2 * m by omega, if_pos (iL_t (show 21416 + 2 * m < 22216 by omega) (by decide)), if_pos (iL_t (show 21417 + 2 * m < 22216 by omega) (by decide)), show (pW (pW s (nI (21416 + 2 * m)) x) (nI (21417 + 2 * m)) y).1 15 = nI m from h15, nI_add]
  rfl
theorem cs8_8 {x y : Int32} : (cs8 c m x y).1 8 = upd (c.1 8) m x := by unfold cs8; rw [cp_1 8 (by decide), cp_1 8 (by decide), cp_q]
theorem cs8_9 {x y : Int32} : (cs8 c m x y).1 9 = upd (c.1 9) m y := by unfold cs8; rw [cp_1 9 (by decide), cp_q, cp_1 9 (by decide)]
theorem cs8_o {x y : Int32} {q : Nat} (h1 : q ≠ 2) (h2 : q ≠ 8) (h3 : q ≠ 9) : (cs8 c m x y).1 q = c.1 q := by unfold cs8; rw [cp_1 _ h1, cp_1 _ h3, cp_1 _ h2]
theorem cs8_2 {x y : Int32} {j : Nat} (h : j ≠ 11) : (cs8 c m x y).1 2 j = c.1 2 j := by unfold cs8; rw [cp_q, upd_n h, cp_1 2 (by decide), cp_1 2 (by decide)]
theorem cs8_m {x y : Int32} : (cs8 c m x y).1 2 11 = nI (m + 1) := by unfold cs8; rw [cp_q, upd_s]
theorem adS_w {x y : Int32} (hm : m < 400) : (adS s m x y).2.1 = upd (upd s.2.1 (21416 + 2 * m) x) (21417 + 2 * m) y := by
  show upd (upd s.2.1 (nI (21416 + 2 * m)).toNatClampNeg x) (nI (21417 + 2 * m)).toNatClampNeg y = _
  rw [nI_clamp (by omega), nI_clamp (by omega)]
theorem adS_n {x y : Int32} {j : Nat} (h : j ≠ 15) : (adS s m x y).1 j = s.1 j := by unfold adS; rw [pN_n h]; rfl
theorem adS_m {x y : Int32} : (adS s m x y).1 15 = nI (m + 1) := by unfold adS; rw [pN_s]
theorem RJ.step {x x' y : Int32} (h : RJ T L k B c s a m) (hm : m + 1 ≤ a) (hs : stc x x') (hl : (∃ f, f < 7 ∧ x = nI (12 + f)) → y = nI 0) : RJ T L k B (cs8 c m x y) (adS s m x' y) a (m + 1) := by
  have h4 := h.tk.L4
  have hk := h.tk.k4
  have ha := h.ak
  obtain ⟨P, b, p1, p2, p3, p4⟩ := h.pt
  refine RJ.mk (h.tk.same (cs8_2 (by decide)) (cs8_o (by decide) (by decide) (by decide)) (cs8_o (by decide) (by decide) (by decide))) ⟨by rw [adS_n (by decide)]; exact h.tx.1, h.tx.2⟩ (by rw [cs8_2 (by decide)]; exact h.ta) ha ⟨P, b, p1, by rw [adS_n (by decide)]; exact p2, by rw [adS_n (by decide)]; exact p3, p4⟩ cs8_m adS_m hm (fun j hj => ?_)
  rw [cs8_8, cs8_9, adS_w (by omega)]
  by_cases e : j = m
  · subst e
    rw [upd_s, upd_s, upd_s, upd_n (by omega), upd_s]
    exact ⟨hs, rfl, hl⟩
  · rw [upd_n e, upd_n e, upd_n (by omega), upd_n (by omega), upd_n (by omega), upd_n (by omega)]
    exact h.sp j (by omega)
theorem RFm.step {x x' y : Int32} (hm : m < 400) : RFm c (cs8 c m x y) s (adS s m x' y) m := by
  refine ⟨fun q h1 h2 h3 => cs8_o h1 h2 h3, fun j _ h2 => cs8_2 h2, rfl, fun j hj => ?_, fun q hq => ?_, rfl, fun j _ _ _ h4 => adS_n h4⟩
  · rw [cs8_8, cs8_9, upd_n (by omega), upd_n (by omega)]; exact ⟨rfl, rfl⟩
  · rw [adS_w hm, upd_n (by omega), upd_n (by omega)]
theorem hgt_a {f : Nat → Int32} {i r1 h : Nat} : ∀ r2, hgt f i (r1 + r2) h = (hgt f i r1 h).bind (fun g => hgt f (i + r1) r2 g) := by
  intro r2
  induction r2 with
  | zero =>
    show hgt f i r1 h = (hgt f i r1 h).bind (fun g => some g)
    rw [Option.bind_fun_some]
  | succ r2 ih =>
    rw [← Nat.add_assoc, hgt_s, ih, Option.bind_assoc, ← Nat.add_assoc i r1 r2]
    rfl
theorem hgt_cg {f f' : Nat → Int32} {i h : Nat} : ∀ r, (∀ j, i ≤ j → j < i + r → f' j = f j) → hgt f' i r h = hgt f i r h := by
  intro r
  induction r with
  | zero => intro _; rfl
  | succ r ih =>
    intro e
    rw [hgt_s, hgt_s, ih (fun j h1 h2 => e j h1 (by omega)), e (i + r) (by omega) (by omega)]
theorem hgt_1 {f : Nat → Int32} {i h : Nat} : hgt f i 1 h = hs1 (f i) h := by
  show hgt f i (0 + 1) h = _
  rw [hgt_s]
  rfl
theorem hs_f {v g : Nat} (hv : v < 24) (hg : g < 20) : hs1 (nI v) g = some (g + 1) := by
  unfold hs1
  rw [if_neg (nI_inj (by omega) (by decide) (by omega)), if_neg (fun e => by rcases e with e | e <;> exact nI_inj (by omega) (by decide) (by omega) e), if_pos hg]
theorem hs_n {g : Nat} (hg : 1 ≤ g) : hs1 (nI 24) g = some g := by unfold hs1; rw [if_pos rfl, if_pos hg]
theorem hs_a {v g : Nat} (hv : v = 25 ∨ v = 26) : hs1 (nI v) (g + 2) = some (g + 1) := by
  unfold hs1
  rw [if_neg (nI_inj (by omega) (by decide) (by omega)), if_pos (by rcases hv with e | e <;> subst e; exact Or.inl rfl; exact Or.inr rfl), if_pos (by omega)]
  rfl
/-- where both stopped -/
def FL (k : Nat) (B : Nat → Nat) (c : cS) (s : rs_S) : Prop := ∃ a, a ≤ k ∧ c.1 2 4 = nI a ∧ s.1 11 = nI (B a)
/-- both read it, or both stop at the same place -/
def RR (T : Nat → Int32) (L k : Nat) (B : Nat → Nat) (hb : Nat) (c : cS) (s : rs_S) (a m : Nat) (x : Option (Int32 × cS)) (y : Option (Int32 × rs_S)) : Prop := ∃ c' s', RFm c c' s s' m ∧ ((x = some (nI 1, c') ∧ y = some (nI 1, s') ∧ s'.1 12 = s.1 12 ∧ ∃ a' m', RJ T L k B c' s' a' m' ∧ a + m' ≤ a' + m ∧ m < m' ∧ ∀ h, h + hb ≤ 20 → hgt (c'.1 8) m (m' - m) h = some (h + 1)) ∨ (x = some (nI 0, c') ∧ y = some (nI 0, s') ∧ FL k B c' s'))
/-- again and again behind a word -/
theorem lp_loop {G : Nat → cS → Option (cS ⊕ (Int32 × cS))} {G' : Nat → rs_S → Option (rs_S ⊕ (Int32 × rs_S))} {I : cS → Option (Int32 × cS)} {I' : rs_S → Option (Int32 × rs_S)} {i z z' : Nat} (hF : 401 < F) (h1 : 14 ≤ i) (h2 : i < 41) (hz : z = 25 ∨ z = 26) (hz' : stc (nI z) (nI z'))
    (hG : ∀ f s, G (f + 1) s = if (s.1 2 3) ≤ (s.1 2 4) then (some (.inl s)) else (if iL (s.1 2 4) 401 then (if (cg s 3 (s.1 2 4)) = (nI (cd i)) then ((I (cp s 2 4 ((s.1 2 4) + (nI 1)))).bind fun x6 => (if x6.1 = 0 then (some (.inr (nI 0, x6.2))) else ((o_X7_addStep τ n 0 x6.2 (nI z) (nI 0)).bind fun x8 => (G f x8)))) else (some (.inl s))) else none))
    (hG' : ∀ f s, G' (f + 1) s = (o_X12_passes F s i).bind fun x3 => (if x3.1 = 0 then (some (.inl x3.2)) else ((I' x3.2).bind fun x5 => (if x5.1 = 0 then (some (.inr (nI 0, x5.2))) else ((o_X12_adds x5.2 (nI z') (nI 0)).bind fun x7 => (G' f x7))))))
    (hI : ∀ c s a m, RJ T L k B c s a m → s.1 12 = nI d → RR T L k B hb c s a m (I c) (I' s)) : ∀ (r f : Nat) (c1 : cS) (s1 : rs_S) (a1 m1 : Nat), k - a1 ≤ r → r < f → RFm c c1 s s1 m → s1.1 12 = nI d → RJ T L k B c1 s1 a1 m1 → a + m1 ≤ a1 + m → m < m1 → (∀ h, h + (hb + 1) ≤ 20 → hgt (c1.1 8) m (m1 - m) h = some (h + 1)) → ∃ c' s', RFm c c' s s' m ∧ ((G f c1 = some (.inl c') ∧ G' f s1 = some (.inl s') ∧ s'.1 12 = nI d ∧ ∃ a' m', RJ T L k B c' s' a' m' ∧ a + m' ≤ a' + m ∧ m < m' ∧ ∀ h, h + (hb + 1) ≤ 20 → hgt (c'.1 8) m (m' - m) h = some (h + 1)) ∨ (G f c1 = some (.inr (nI 0, c')) ∧ G' f s1 = some (.inr (nI 0, s')) ∧ FL k B c' s')) := by
  intro r
  induction r with
  | zero =>
    intro f c1 s1 a1 m1 hr hf hfr hd h ham hmm hh
    obtain ⟨f, rfl⟩ : ∃ x, f = x + 1 := ⟨f - 1, by omega⟩
    have hk := h.tk.k4
    have h4 := h.tk.L4
    have ak := h.ak
    have p := h.pas (F := F) hF h1 h2
    have ne : ¬ c1.1 3 a1 = nI (cd i) := fun g => by have := (p.1 g).1; omega
    refine ⟨c1, ps s1 (B a1) (B a1), hfr.ps, Or.inl ⟨?_, ?_, by rw [ps_n (by decide) (by decide)]; exact hd, a1, m1, h.stay, ham, hmm, hh⟩⟩
    · rw [hG, h.tk.sz, h.ta, if_neg (nI_no (by omega) (by omega) (by omega)), if_pos (iL_t (show a1 < 401 by omega) (by decide)), cg_n _ _ (by omega), if_neg ne]
    · rw [hG', p.2 ne, Option.bind_some, if_pos nI_0]
  | succ r ih =>
    intro f c1 s1 a1 m1 hr hf hfr hd h ham hmm hh
    obtain ⟨f, rfl⟩ : ∃ x, f = x + 1 := ⟨f - 1, by omega⟩
    have hk := h.tk.k4
    have h4 := h.tk.L4
    have ak := h.ak
    have p := h.pas (F := F) hF h1 h2
    by_cases g : c1.1 3 a1 = nI (cd i)
    · obtain ⟨g1, g2⟩ := p.1 g
      have h' := h.next (b := B a1) g1
      have ma := h.ma
      obtain ⟨c3, s3, e1, e2⟩ := hI _ _ _ _ h' (by rw [ps_n (by decide) (by decide)]; exact hd)
      have fr2 : RFm c1 (cp c1 2 4 (nI (a1 + 1))) s1 (ps s1 (te T L (B a1)) (B a1)) m1 := RFm.cat.ps
      have fr3 := (hfr.trans fr2 (by omega)).trans e1 (by omega)
      have G1 : G (f + 1) c1 = (I (cp c1 2 4 (nI (a1 + 1)))).bind fun x6 => (if x6.1 = 0 then (some (.inr (nI 0, x6.2))) else ((o_X7_addStep τ n 0 x6.2 (nI z) (nI 0)).bind fun x8 => (G f x8))) := by
        rw [hG, h.tk.sz, h.ta, if_neg (nI_no (by omega) (by omega) (by omega)), if_pos (iL_t (show a1 < 401 by omega) (by decide)), cg_n _ _ (by omega), if_pos g, nI_add]
      have G2 : G' (f + 1) s1 = (I' (ps s1 (te T L (B a1)) (B a1))).bind fun x5 => (if x5.1 = 0 then (some (.inr (nI 0, x5.2))) else ((o_X12_adds x5.2 (nI z') (nI 0)).bind fun x7 => (G' f x7))) := by
        rw [hG', g2, Option.bind_some, if_neg n10]
      rcases e2 with ⟨q1, q2, q3, a3, m3, j3, q4, q5, q6⟩ | ⟨q1, q2, q3⟩
      · have m4 : m3 < 400 := by have := j3.ma; have := j3.ak; omega
        have j4 := j3.step (x := nI z) (x' := nI z') (y := nI 0) (by omega) hz' (fun _ => rfl)
        have fr4 : RFm c3 (cs8 c3 m3 (nI z) (nI 0)) s3 (adS s3 m3 (nI z') (nI 0)) m3 := RFm.step m4
        have hd4 : (adS s3 m3 (nI z') (nI 0)).1 12 = nI d := by rw [adS_n (by decide), q3, ps_n (by decide) (by decide)]; exact hd
        have hg4 : ∀ h, h + (hb + 1) ≤ 20 → hgt ((cs8 c3 m3 (nI z) (nI 0)).1 8) m (m3 + 1 - m) h = some (h + 1) := fun h hh1 => by
          rw [show m3 + 1 - m = (m1 - m) + ((m3 - m1) + 1) by omega, hgt_a, hgt_cg (f := c1.1 8) (m1 - m) (fun j q1 q2 => by rw [cs8_8, upd_n (by omega), (e1.2.2.2.1 j (by omega)).1, cp_1 8 (by decide)]), hh h hh1, Option.bind_some, hgt_a, show m + (m1 - m) = m1 by omega, hgt_cg (f := c3.1 8) (m3 - m1) (fun j q1 q2 => by rw [cs8_8, upd_n (by omega)]), q6 (h + 1) (by omega), Option.bind_some, hgt_1, show m1 + (m3 - m1) = m3 by omega, cs8_8, upd_s]
          exact hs_a hz
        obtain ⟨c5, s5, u1, u2⟩ := ih f _ _ a3 (m3 + 1) (by have := j3.ak; omega) (by omega) (fr3.trans fr4 (by omega)) hd4 j4 (by omega) (by omega) hg4
        refine ⟨c5, s5, u1, ?_⟩
        rw [G1, G2, q1, q2, Option.bind_some, Option.bind_some, if_neg n10, if_neg n10, o_addS m4 j3.st, o_addR m4 j3.s5, Option.bind_some, Option.bind_some]
        exact u2
      · refine ⟨c3, s3, fr3, Or.inr ⟨?_, ?_, q3⟩⟩
        · rw [G1, q1, Option.bind_some, if_pos nI_0]
        · rw [G2, q2, Option.bind_some, if_pos nI_0]
    · refine ⟨c1, ps s1 (B a1) (B a1), hfr.ps, Or.inl ⟨?_, ?_, by rw [ps_n (by decide) (by decide)]; exact hd, a1, m1, h.stay, ham, hmm, hh⟩⟩
      · rw [hG, h.tk.sz, h.ta, if_neg (nI_no (by omega) (by omega) (by omega)), if_pos (iL_t (show a1 < 401 by omega) (by decide)), cg_n _ _ (by omega), if_neg g]
      · rw [hG', p.2 g, Option.bind_some, if_pos nI_0]
/-- one, and others behind a word -/
theorem RR.many {G : Nat → cS → Option (cS ⊕ (Int32 × cS))} {G' : Nat → rs_S → Option (rs_S ⊕ (Int32 × rs_S))} {I : cS → Option (Int32 × cS)} {I' : rs_S → Option (Int32 × rs_S)} {i z z' : Nat} (hF : 401 < F) (h1 : 14 ≤ i) (h2 : i < 41) (hz : z = 25 ∨ z = 26) (hz' : stc (nI z) (nI z'))
    (hG : ∀ f s, G (f + 1) s = if (s.1 2 3) ≤ (s.1 2 4) then (some (.inl s)) else (if iL (s.1 2 4) 401 then (if (cg s 3 (s.1 2 4)) = (nI (cd i)) then ((I (cp s 2 4 ((s.1 2 4) + (nI 1)))).bind fun x6 => (if x6.1 = 0 then (some (.inr (nI 0, x6.2))) else ((o_X7_addStep τ n 0 x6.2 (nI z) (nI 0)).bind fun x8 => (G f x8)))) else (some (.inl s))) else none))
    (hG' : ∀ f s, G' (f + 1) s = (o_X12_passes F s i).bind fun x3 => (if x3.1 = 0 then (some (.inl x3.2)) else ((I' x3.2).bind fun x5 => (if x5.1 = 0 then (some (.inr (nI 0, x5.2))) else ((o_X12_adds x5.2 (nI z') (nI 0)).bind fun x7 => (G' f x7))))))
    (hI : ∀ c s a m, RJ T L k B c s a m → s.1 12 = nI d → RR T L k B hb c s a m (I c) (I' s)) (h : RJ T L k B c s a m) (hd : s.1 12 = nI d) : RR T L k B (hb + 1) c s a m ((I c).bind fun x1 => (if x1.1 = 0 then (some (nI 0, x1.2)) else ((G F x1.2).bind fun x9 => (Sum.elim (fun y10 => some (nI 1, y10)) (fun z11 => some z11) x9)))) ((I' s).bind fun x1 => (if x1.1 = 0 then (some (nI 0, x1.2)) else ((G' F x1.2).bind fun x8 => (Sum.elim (fun y9 => some (nI 1, y9)) (fun z10 => some z10) x8)))) := by
  have hk := h.tk.k4
  have h4 := h.tk.L4
  obtain ⟨c1, s1, e1, e2⟩ := hI c s a m h hd
  rcases e2 with ⟨q1, q2, q3, a1, m1, j1, q4, q5, q6⟩ | ⟨q1, q2, q3⟩
  · obtain ⟨c2, s2, u1, u2⟩ := lp_loop (c := c) (s := s) (a := a) (m := m) hF h1 h2 hz hz' hG hG' hI k F c1 s1 a1 m1 (by omega) (by omega) e1 (q3.trans hd) j1 q4 q5 (fun h hh => q6 h (by omega))
    refine ⟨c2, s2, u1, ?_⟩
    rw [q1, q2, Option.bind_some, Option.bind_some, if_neg n10, if_neg n10]
    rcases u2 with ⟨v1, v2, v3, v4⟩ | ⟨v1, v2, v3⟩
    · rw [v1, v2]
      exact Or.inl ⟨rfl, rfl, v3.trans hd.symm, v4⟩
    · rw [v1, v2]
      exact Or.inr ⟨rfl, rfl, v3⟩
  · refine ⟨c1, s1, e1, Or.inr ⟨?_, ?_, q3⟩⟩
    · rw [q1, Option.bind_some, if_pos nI_0]
    · rw [q2, Option.bind_some, if_pos nI_0]
theorem RR.all {rA : cS → Int32 → Option (Int32 × cS)} {rA' : rs_S → Option (Int32 × rs_S)} (hF : 401 < F) (hI : ∀ c s a m, RJ T L k B c s a m → s.1 12 = nI d → RR T L k B hb c s a m (rA c (nI d)) (rA' s)) (h : RJ T L k B c s a m) (hd : s.1 12 = nI d) : RR T L k B (hb + 1) c s a m (o_X7_readAll F τ n 0 rA c (nI d)) (o_X12_readAllOf F rA' s) :=
  RR.many (F := F) (τ := τ) (n := n) (d := d) (G := o_X7_readAll_10 F τ n 0 rA (nI d)) (G' := o_X12_readAllOf_9 F rA') (I := fun c => rA c (nI d)) (I' := rA') (i := 39) (z := 25) (z' := 301) hF (by decide) (by decide) (Or.inl rfl) (Or.inr (Or.inr (Or.inr ⟨1, by decide, rfl, rfl⟩))) (fun f s => rfl) (fun f s => rfl) hI h hd
theorem RR.any {rA : cS → Int32 → Option (Int32 × cS)} {rA' : rs_S → Option (Int32 × rs_S)} (hF : 401 < F) (hI : ∀ c s a m, RJ T L k B c s a m → s.1 12 = nI d → RR T L k B hb c s a m (rA c (nI d)) (rA' s)) (h : RJ T L k B c s a m) (hd : s.1 12 = nI d) : RR T L k B (hb + 1 + 1) c s a m (o_X7_readAny F τ n 0 rA c (nI d)) (o_X12_readCond F rA' s) :=
  RR.many (F := F) (τ := τ) (n := n) (d := d) (G := o_X7_readAny_10 F τ n 0 rA (nI d)) (G' := o_X12_readCond_9 F rA') (I := fun c => o_X7_readAll F τ n 0 rA c (nI d)) (I' := o_X12_readAllOf F rA') (i := 40) (z := 26) (z' := 302) hF (by decide) (by decide) (Or.inr rfl) (Or.inr (Or.inr (Or.inr ⟨2, by decide, rfl, rfl⟩))) (fun f s => rfl) (fun f s => rfl) (fun c s a m h hd => RR.all hF hI h hd) h hd
end CND
