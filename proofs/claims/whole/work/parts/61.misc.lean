/-! THE PURE LAYER: small things -/
theorem ao_same {v v' : Nat → Int32} {t : Int32} : ∀ m, (∀ i, v' (2812 + 882 * i) = v (2812 + 882 * i)) → ao v' t m = ao v t m := by
  intro m
  induction m with
  | zero => intro _; rfl
  | succ m ih =>
    intro h
    rw [ao, ao, ih h, h m]
    cases e : ao v t m with
    | none => rfl
    | some j => simp only [h j]
theorem o_sets {s : rs_S} {m f : Nat} {y : Int32} (hm : m < 80) (hf : f < 18) : o_X12_sets s (nI m) (nI f) y = some (pW s (nI (1212 + 18 * m + f)) y) := by
  unfold o_X12_sets o_X12_shipAt
  simp only [Option.bind_some, nI_mul, nI_add]
  rw [if_pos (iL_t (show 1212 + 18 * m + f < 22216 by omega) (by decide))]
theorem cp_2 {s : cS} {q k : Nat} {x : Int32} : (cp s q k x).2 = s.2 := rfl
theorem wk_ns {k : Nat} (h1 : 1212 ≤ k) (h2 : k < 2652) : wk k = none := by
  cases e : wk k with
  | none => rfl
  | some p => exact absurd ⟨h1, h2⟩ (wk_bsu (o := p.1) (j := p.2) e).2.1
theorem i_1 {y : Int32} {a : Nat} (q1 : ¬ y < nI 1) (q2 : ¬ nI a < y) (ha : a < 2 ^ 31) : ∃ k, 1 ≤ k ∧ k ≤ a ∧ y = nI k := by
  have q3 : ¬ y < nI 0 := fun q => q1 (Int32.lt_trans q (by decide))
  obtain ⟨k, hk, rfl⟩ := i_in q3 q2 ha
  exact ⟨k, by
    by_cases q : 1 ≤ k
    · exact q
    · exact absurd (nI_lt (show k < 1 by omega) (by decide)) q1, hk, rfl⟩
theorem bz_z (y : Int32) : ∃ k, k ≤ 1 ∧ bz y = nI k := by
  unfold bz
  split
  · exact ⟨0, by decide, rfl⟩
  · exact ⟨1, by decide, rfl⟩
theorem pN_s (s : rs_S) (k : Nat) (x : Int32) : (pN s k x).1 k = x := by show va_up s.1 k x k = x; exact va_up_self _ _ _
