/-! THE PURE LAYER: the relation at first; the simple calls keep it -/
def ok0 (k : Nat) : Bool := decide ((rg k).1 ≤ (v0 k).toInt) && decide ((v0 k).toInt ≤ (rg k).2)
theorem ok0_2 : ∀ a, a < 54 → ∀ b, b < 54 → ok0 (54 * a + b) = true := by decide +kernel
theorem rg_hi {k : Nat} (h : 2812 ≤ k) : rg k = (-2147483648, 2147483647) := by
  unfold rg
  repeat rw [if_neg (by omega)]
theorem v0_z {k : Nat} (h : 49 ≤ k) (h1 : k ≠ 1080) (h2 : k ≠ 1081) : v0 k = 0 := by
  unfold v0
  rw [if_neg (by omega), if_neg h1, if_neg h2]
theorem Rg0 : Rg v0 := by
  intro k
  by_cases q : k < 2812
  · have h1 := ok0_2 (k / 54) (by omega) (k % 54) (by omega)
    rw [show 54 * (k / 54) + k % 54 = k by omega] at h1
    simp only [ok0, Bool.and_eq_true, decide_eq_true_eq] at h1
    exact h1
  · exact rg_any (rg_hi (by omega))
theorem Cr0 : Cr v0 := by
  have z : ∀ k, 49 ≤ k → k ≠ 1080 → k ≠ 1081 → N (v0 k) = 0 := fun k h1 h2 h3 => by rw [v0_z h1 h2 h3]; rfl
  refine Cr.mk ?_ ?_ ?_ ?_ ?_ ?_ ?_ ?_ ?_ ?_ ?_ ?_
  · intro i hi; rw [v0_z (by omega) (by omega) (by omega)]; decide
  · intro i hi; rw [z 999 (by decide) (by decide) (by decide)] at hi; omega
  · intro i hi; rw [z 999 (by decide) (by decide) (by decide)] at hi; omega
  · intro i hi; rw [z 1211 (by decide) (by decide) (by decide)] at hi; omega
  · intro i hi; rw [z 1211 (by decide) (by decide) (by decide)] at hi; omega
  · intro i hi; rw [z 198 (by decide) (by decide) (by decide)] at hi; omega
  · rw [z 1090 (by decide) (by decide) (by decide)]
    refine ⟨fun h => ?_, fun ⟨p, h, _⟩ => by omega⟩
    rw [v0_z (by decide) (by decide) (by decide)] at h
    exact absurd h (by decide)
  · rw [z 1211 (by decide) (by decide) (by decide)]; rfl
  · intro p _ hp; exact ⟨v0_z (by omega) (by omega) (by omega), v0_z (by omega) (by omega) (by omega), v0_z (by omega) (by omega) (by omega)⟩
  · intro p _ hp; exact ⟨v0_z (by omega) (by omega) (by omega), v0_z (by omega) (by omega) (by omega), v0_z (by omega) (by omega) (by omega)⟩
  · intro p _ hp; exact ⟨v0_z (by omega) (by omega) (by omega), v0_z (by omega) (by omega) (by omega), v0_z (by omega) (by omega) (by omega)⟩
  · intro b hb; rw [v0_z (by omega) (by omega) (by omega)]; decide
theorem iB_at2 {s : cS} {n o : Nat} (ho : o < 170) : (iB s n).2 (n + o) = inrB n o := by
  show (if n ≤ n + o ∧ n + o < n + 170 then inrB n (n + o - n) else s.2 (n + o)) = _
  rw [if_pos (by omega), Nat.add_sub_cancel_left]
theorem RB0 {τ : cT} {m n : Nat} {s : cS} (hB : Bd τ m n) : RB τ m (iB s n) n v0 := by
  have z : ∀ k, 49 ≤ k → k ≠ 1080 → k ≠ 1081 → N (v0 k) = 0 := fun k h1 h2 h3 => by rw [v0_z h1 h2 h3]; rfl
  refine RB.mk Rg0 Cr0 Pl0 ?_ ?_ ?_ ?_ ?_ ?_ ?_ ?_
  · intro i hi; rw [z 999 (by decide) (by decide) (by decide)] at hi; omega
  · intro i hi; rw [z 1211 (by decide) (by decide) (by decide)] at hi; omega
  · intro i hi; rw [z 1211 (by decide) (by decide) (by decide)] at hi; omega
  · intro i hi; rw [z 1211 (by decide) (by decide) (by decide)] at hi; omega
  · intro i hi; rw [z 2811 (by decide) (by decide) (by decide)] at hi; omega
  · refine ⟨n + 18, by rw [iB_at2 (by decide)]; rfl, hB.noLines, fun h => ?_⟩
    rw [v0_z (by decide) (by decide) (by decide)] at h
    exact absurd h (by decide)
  · intro k hk
    rw [iB_at (by decide), z 198 (by decide) (by decide) (by decide)]
    show (if k < 24 then (-1 : Int32) else 0) = eC none
    rw [if_pos hk]
    rfl
  · have e : ∀ e, bz8 v0 e = 0 := fun e => v0_z (by omega) (by omega) (by omega)
    simp only [e]
    rw [iB_at (by decide)]
    exact ⟨rfl, rfl, rfl, rfl, fun _ _ _ => trivial⟩
theorem Rel0 : Rel (tB (tS 0) 10) 192 (iB (iS 0) 10) s00 := by
  have hB : Bd (tB (tS 0) 10) 192 10 := ⟨by decide, fun o ho => by
    show (if 10 ≤ 10 + o ∧ 10 + o < 10 + 170 then lt (10 + o - 10) else _) = _
    rw [if_pos (by omega), Nat.add_sub_cancel_left]⟩
  refine Rel.mk (RB0 hB) (by rw [show (28 : Nat) = 10 + 18 from rfl, iB_at (by decide)]; rfl) ⟨⟨0, by decide, rfl, rfl⟩, fun _ _ => rfl, rfl⟩ (Or.inl ⟨rfl, rfl⟩)
