/-! THE PURE LAYER: worth, best -/
section WORTH
variable {F : Nat} {x : Nat → Int32} {τ : cT} {n m y i k S : Nat} {c : cS} {s : rs_S} {v : Nat → Int32} {st : Int32}
/-- what the standing works bring, from i on -/
def sbs (v : Nat → Int32) (S : Nat) : Nat → Nat → Int32
  | _, 0 => 0
  | i, r + 1 => (if S.testBit i then v (2787 + 4 * i + 1) else 0) + sbs v S (i + 1) r
theorem sbs_out (hk : k < i) : ∀ r i, k < i → sbs v (S ||| 2 ^ k) i r = sbs v S i r := by
  intro r
  induction r with
  | zero => intro i _; rfl
  | succ r ih =>
    intro i hi
    rw [sbs, sbs, ih (i + 1) (by omega), Nat.testBit_or, Nat.testBit_two_pow_of_ne (by omega), Bool.or_false]
theorem sbs_or (hS : S.testBit k = false) : ∀ r i, i ≤ k → k < i + r → sbs v (S ||| 2 ^ k) i r = sbs v S i r + v (2787 + 4 * k + 1) := by
  intro r
  induction r with
  | zero => intro i h1 h2; omega
  | succ r ih =>
    intro i h1 h2
    rw [sbs, sbs]
    by_cases e : i = k
    · subst e
      rw [sbs_out (Nat.lt_succ_self i) r (i + 1) (by omega), Nat.testBit_or, Nat.testBit_two_pow_self, Bool.or_true, if_pos rfl, hS, if_neg (by decide), Int32.zero_add, Int32.add_comm]
    · rw [ih (i + 1) (by omega) (by omega), Nat.testBit_or, Nat.testBit_two_pow_of_ne (by omega), Bool.or_false, Int32.add_assoc]
theorem bit_ni {S i : Nat} (hS : S < 64) (hi : i < 32) : ((nI S >>> (nI i &&& 31)) &&& nI 1 = nI 1) ↔ S.testBit i = true := by
  rw [nI_shr (by omega) hi, nI_and, Nat.and_one_is_mod, Nat.testBit_eq_decide_div_mod_eq, decide_eq_true_iff]
  have hd : S / 2 ^ i % 2 < 2 := Nat.mod_lt _ (by decide)
  rw [nI_eq (by omega) (by decide)]
theorem bit_01 (z w : Int32) : (z >>> w) &&& nI 1 = nI 0 ∨ (z >>> w) &&& nI 1 = nI 1 := by
  obtain ⟨j, hj, e⟩ := pk_andE (z >>> w) (m := nI 1) 1 rfl
  rw [e]
  match j, hj with
  | 0, _ => exact Or.inl rfl
  | 1, _ => exact Or.inr rfl
  | j + 2, h => exact absurd h (by omega)
/-- the works: the class's rows and the reference's -/
def RW (c : cS) (v : Nat → Int32) (m : Nat) : Prop := m ≤ 6 ∧ c.1 141 3 = nI m ∧ v 2786 = nI m ∧ ∀ k, k < 6 → c.1 142 k = v (2787 + 4 * k) ∧ c.1 143 k = v (2787 + 4 * k + 1) ∧ c.1 144 k = v (2787 + 4 * k + 2)
theorem RB.rw_ (h : RB τ n c 10 v) : RW c v (N (v 2786)) := ⟨h.n2786.2, (h.pl 2786 131 3 rfl).trans h.n2786.1, h.n2786.1, fun k hk => ⟨h.pl _ _ _ (wk_w (j := 0) hk (by decide)), h.pl _ _ _ (wk_w (j := 1) hk (by decide)), h.pl _ _ _ (wk_w (j := 2) hk (by decide))⟩⟩
theorem w18 (hR : RW c v m) (hS : S < 64) {l2 l5 : Int32} : ∀ (r i f : Nat) (l3 : Int32), i + r = m → r < f → o_X4_worthOf_18 F τ n 10 l2 (nI S) l5 c f l3 (nI i) = some (l3 + sbs v S i r) := by
  obtain ⟨m6, e1, e2, e3⟩ := hR
  intro r
  induction r with
  | zero =>
    intro i f l3 hi hf
    obtain ⟨f, rfl⟩ : ∃ x, f = x + 1 := ⟨f - 1, by omega⟩
    rw [o_X4_worthOf_18, show (10 + 131 : Nat) = 141 from rfl, e1, if_pos (nI_yes (by omega) (by omega) (by omega)), sbs, Int32.add_zero]
  | succ r ih =>
    intro i f l3 hi hf
    obtain ⟨f, rfl⟩ : ∃ x, f = x + 1 := ⟨f - 1, by omega⟩
    rw [o_X4_worthOf_18, show (10 + 131 : Nat) = 141 from rfl, e1, if_neg (nI_no (by omega) (by omega) (by omega)), sbs, nI_add, if_pos (iL_t (show i < 6 by omega) (by decide)), cg_n _ _ (by omega), show (10 + 133 : Nat) = 143 from rfl, (e3 i (by omega)).2.1]
    by_cases b : S.testBit i = true
    · rw [if_pos ((bit_ni hS (by omega)).mpr b), ih (i + 1) f _ (by omega) (by omega), if_pos b, Int32.add_assoc]
    · rw [if_neg (fun g => b ((bit_ni hS (by omega)).mp g)), ih (i + 1) f _ (by omega) (by omega), if_neg b, Int32.zero_add]
/-- what stands was built in a year before, or in this one below i -/
def Inw (v : Nat → Int32) (m S y i : Nat) : Prop := S < 64 ∧ ∀ k, k < m → S.testBit k = true → (∃ z, z < y ∧ v (2787 + 4 * k + 2) = nI z) ∨ (v (2787 + 4 * k + 2) = nI y ∧ k < i)
theorem w57 (hR : RW c s.2.1 m) (hy : y < 30) : ∀ (r i f f' S : Nat) (l3 : Int32), i + r = m → r < f → r < f' → Inw s.2.1 m S y i → ∃ S' M, o_X4_worthOf_57 F τ n 10 st (nI y) c f l3 (nI S) (nI i) = some (M, nI S') ∧ o_X12_worthOf_23 F st (nI y) s f' l3 (sbs s.2.1 S 0 m) (nI i) = some (M, sbs s.2.1 S' 0 m) ∧ Inw s.2.1 m S' y m := by
  obtain ⟨m6, e1, e2, e3⟩ := hR
  intro r
  induction r with
  | zero =>
    intro i f f' S l3 hi hf hf' hN
    obtain ⟨f, rfl⟩ : ∃ x, f = x + 1 := ⟨f - 1, by omega⟩
    obtain ⟨f', rfl⟩ : ∃ x, f' = x + 1 := ⟨f' - 1, by omega⟩
    have : i = m := by omega
    subst this
    refine ⟨S, l3, ?_, ?_, hN⟩
    · rw [o_X4_worthOf_57, show (10 + 131 : Nat) = 141 from rfl, e1, if_pos (nI_yes (by omega) (by omega) (by omega))]
    · rw [o_X12_worthOf_23, gW_n _ (by decide), e2, if_pos (nI_yes (by omega) (by omega) (by omega))]
  | succ r ih =>
    intro i f f' S l3 hi hf hf' hN
    obtain ⟨f, rfl⟩ : ∃ x, f = x + 1 := ⟨f - 1, by omega⟩
    obtain ⟨f', rfl⟩ : ∃ x, f' = x + 1 := ⟨f' - 1, by omega⟩
    obtain ⟨c1, c2, c3⟩ := e3 i (by omega)
    have skip : Inw s.2.1 m S y (i + 1) := ⟨hN.1, fun k hk hb => (hN.2 k hk hb).imp id (fun g => ⟨g.1, by omega⟩)⟩
    rw [o_X4_worthOf_57, show (10 + 131 : Nat) = 141 from rfl, e1, if_neg (nI_no (by omega) (by omega) (by omega)), o_X12_worthOf_23, gW_n _ (show 2786 < 2 ^ 31 by decide), e2, if_neg (nI_no (by omega) (by omega) (by omega)), nI_mul, nI_add, nI_add, nI_add, nI_add, if_pos (iL_t (show i < 6 by omega) (by decide)), if_pos (iL_t (show 2787 + 4 * i + 2 < 22216 by omega) (by decide)), if_pos (iL_t (show 2787 + 4 * i < 22216 by omega) (by decide)), if_pos (iL_t (show 2787 + 4 * i + 1 < 22216 by omega) (by decide)), gW_n _ (show 2787 + 4 * i + 2 < 2 ^ 31 by omega), gW_n _ (show 2787 + 4 * i < 2 ^ 31 by omega), gW_n _ (show 2787 + 4 * i + 1 < 2 ^ 31 by omega), cg_n _ _ (by omega), cg_n _ _ (by omega), show (10 + 134 : Nat) = 144 from rfl, show (10 + 132 : Nat) = 142 from rfl, c1, c3]
    rcases bit_01 st (nI i &&& 31) with b | b
    · rw [b, if_neg (show ¬ nI 0 = nI 1 by decide), if_pos (show nI 0 = 0 from nI_0)]
      exact ih (i + 1) f f' S l3 (by omega) (by omega) (by omega) skip
    · rw [b, if_pos (show nI 1 = nI 1 from rfl), if_neg (show ¬ nI 1 = 0 by decide)]
      by_cases q1 : s.2.1 (2787 + 4 * i + 2) = nI y
      · rw [if_pos q1, if_pos q1]
        by_cases q2 : l3 < s.2.1 (2787 + 4 * i)
        · rw [if_pos q2, if_neg (fun g => i_nlt.mpr g q2)]
          exact ih (i + 1) f f' S l3 (by omega) (by omega) (by omega) skip
        · rw [if_neg q2, if_pos (i_nlt.mp q2), nI_shl (by omega), Nat.one_mul, nI_or]
          have nb : S.testBit i = false := by
            cases g : S.testBit i with
            | false => rfl
            | true =>
              rcases hN.2 i (by omega) g with ⟨z, z1, z2⟩ | ⟨_, z2⟩
              · rw [q1] at z2
                exact absurd z2 (nI_inj (by omega) (by omega) (by omega))
              · omega
          rw [← sbs_or nb m 0 (by omega) (by omega)]
          refine ih (i + 1) f f' (S ||| 2 ^ i) _ (by omega) (by omega) (by omega) ⟨?_, fun k hk hb => ?_⟩
          · exact Nat.or_lt_two_pow (n := 6) hN.1 (Nat.pow_lt_pow_right (by decide) (by omega))
          · rw [Nat.testBit_or, Bool.or_eq_true] at hb
            rcases hb with hb | hb
            · exact (hN.2 k hk hb).imp id (fun g => ⟨g.1, by omega⟩)
            · by_cases e : k = i
              · subst e; exact Or.inr ⟨q1, by omega⟩
              · rw [Nat.testBit_two_pow_of_ne (by omega)] at hb; cases hb
      · rw [if_neg q1, if_neg q1]
        exact ih (i + 1) f f' S l3 (by omega) (by omega) (by omega) skip
theorem w8 (hF : 31 < F) (hR : RW c s.2.1 m) : ∀ (r y f f' S : Nat) (l3 : Int32), y + r = 30 → r < f → r < f' → Inw s.2.1 m S y 0 → ∃ M, o_X4_worthOf_8 F τ n 10 st c f l3 (nI S) (nI y) = some M ∧ o_X12_worthOf_8 F st s f' l3 (sbs s.2.1 S 0 m) (nI y) = some M := by
  have m6 := hR.1
  intro r
  induction r with
  | zero =>
    intro y f f' S l3 hi hf hf' hN
    obtain ⟨f, rfl⟩ : ∃ x, f = x + 1 := ⟨f - 1, by omega⟩
    obtain ⟨f', rfl⟩ : ∃ x, f' = x + 1 := ⟨f' - 1, by omega⟩
    rw [o_X4_worthOf_8, o_X12_worthOf_8, if_pos (nI_yes (by omega) (by omega) (by omega)), if_pos (nI_yes (by omega) (by omega) (by omega))]
    exact ⟨l3, rfl, rfl⟩
  | succ r ih =>
    intro y f f' S l3 hi hf hf' hN
    obtain ⟨f, rfl⟩ : ∃ x, f = x + 1 := ⟨f - 1, by omega⟩
    obtain ⟨f', rfl⟩ : ∃ x, f' = x + 1 := ⟨f' - 1, by omega⟩
    rw [o_X4_worthOf_8, o_X12_worthOf_8, if_neg (nI_no (by omega) (by omega) (by omega)), if_neg (nI_no (by omega) (by omega) (by omega)), w18 hR hN.1 m 0 F l3 (by omega) (by omega)]
    simp only [Option.bind_some]
    obtain ⟨S', M, a1, a2, a3⟩ := w57 (F := F) (τ := τ) (n := n) (st := st) hR (show y < 30 by omega) m 0 F F S (l3 + sbs s.2.1 S 0 m) (by omega) (by omega) (by omega) hN
    rw [a1, a2]
    simp only [Option.bind_some]
    rw [nI_add]
    refine ih (y + 1) f f' S' M (by omega) (by omega) (by omega) ⟨a3.1, fun k hk hb => ?_⟩
    rcases a3.2 k hk hb with ⟨z, z1, z2⟩ | ⟨z1, z2⟩
    · exact Or.inl ⟨z, by omega, z2⟩
    · exact Or.inl ⟨y, by omega, z1⟩
theorem sbs_0 : ∀ r i, sbs v 0 i r = 0 := by
  intro r
  induction r with
  | zero => intro i; rfl
  | succ r ih => intro i; rw [sbs, ih, Nat.zero_testBit, if_neg (by decide), Int32.add_zero]
theorem o_worth {y : Int32} (hF : 31 < F) (hR : RW c s.2.1 m) : ∃ M, o_X4_worthOf F τ n 10 c y st = some M ∧ o_X12_worthOf F s y st = some M := by
  obtain ⟨M, a1, a2⟩ := w8 (F := F) (τ := τ) (n := n) (st := st) hF hR 30 0 F F 0 y rfl (by omega) (by omega) ⟨by decide, fun k hk hb => by rw [Nat.zero_testBit] at hb; cases hb⟩
  rw [sbs_0] at a2
  unfold o_X4_worthOf o_X12_worthOf
  refine ⟨M, ?_, ?_⟩
  · rw [a1]; rfl
  · have a2' : o_X12_worthOf_8 F st s F y (nI 0) (nI 0) = some M := a2
    rw [a2']; rfl
theorem best_loop {y : Int32} (hF : 31 < F) (hR : RW c s.2.1 m) : ∀ (r i f f' : Nat) (l2 : Int32), i + r = 2 ^ m → r < f → r < f' → ∃ z, o_X4_bestSet_12 F τ n 10 y c f l2 ((o_X12_worthOf F s y l2).getD 0) (nI i) = some z ∧ o_X12_best_34 F y s f' l2 (nI i) = some z := by
  obtain ⟨m6, e1, e2, e3⟩ := hR
  have p64 : 2 ^ m ≤ 64 := show 2 ^ m ≤ 2 ^ 6 from Nat.pow_le_pow_right (by decide) m6
  intro r
  induction r with
  | zero =>
    intro i f f' l2 hi hf hf'
    obtain ⟨f, rfl⟩ : ∃ x, f = x + 1 := ⟨f - 1, by omega⟩
    obtain ⟨f', rfl⟩ : ∃ x, f' = x + 1 := ⟨f' - 1, by omega⟩
    rw [o_X4_bestSet_12, o_X12_best_34, gW_n _ (by decide), e2, show (10 + 131 : Nat) = 141 from rfl, e1, nI_shl (by omega), Nat.one_mul, if_pos (nI_yes (by omega) (by omega) (by omega)), if_pos (nI_yes (by omega) (by omega) (by omega))]
    exact ⟨l2, rfl, rfl⟩
  | succ r ih =>
    intro i f f' l2 hi hf hf'
    obtain ⟨f, rfl⟩ : ∃ x, f = x + 1 := ⟨f - 1, by omega⟩
    obtain ⟨f', rfl⟩ : ∃ x, f' = x + 1 := ⟨f' - 1, by omega⟩
    obtain ⟨M, a1, a2⟩ := o_worth (F := F) (τ := τ) (n := n) (c := c) (s := s) (st := nI i) (y := y) hF ⟨m6, e1, e2, e3⟩
    obtain ⟨L, b1, b2⟩ := o_worth (F := F) (τ := τ) (n := n) (c := c) (s := s) (st := l2) (y := y) hF ⟨m6, e1, e2, e3⟩
    obtain ⟨g1, h1⟩ : ∃ b, o_bitCount () (nI i) = some b := ⟨_, rfl⟩
    obtain ⟨g2, h2⟩ : ∃ b, o_bitCount () l2 = some b := ⟨_, rfl⟩
    have i1 := ih (i + 1) f f' l2 (by omega) (by omega) (by omega)
    have i2 := ih (i + 1) f f' (nI i) (by omega) (by omega) (by omega)
    rw [b2] at i1
    rw [a2] at i2
    rw [o_X4_bestSet_12, o_X12_best_34, gW_n _ (by decide), e2, show (10 + 131 : Nat) = 141 from rfl, e1, nI_shl (by omega), Nat.one_mul, if_neg (nI_no (by omega) (by omega) (by omega)), if_neg (nI_no (by omega) (by omega) (by omega)), a1, a2, b2, h1, h2, nI_add]
    simp only [Option.bind_some, Option.getD_some] at i1 i2 ⊢
    by_cases q1 : L < M
    · rw [if_pos q1, if_pos q1]; exact i2
    · rw [if_neg q1, if_neg q1]
      by_cases q2 : M = L
      · rw [if_pos q2, if_pos q2]
        by_cases q3 : g2 ≤ g1
        · rw [if_pos q3, if_pos q3]; exact i1
        · rw [if_neg q3, if_neg q3]; exact i2
      · rw [if_neg q2, if_neg q2]; exact i1
theorem st31 (hF : 30000 ≤ F) (h : Rel τ n c s) : stp Rel F 31 x τ n c s := by
  show (∃ v s', o_X11_worth F τ n 0 c (x 1) (x 2) = some (.inl v) ∧ o_X12_worth F s (x 1) (x 2) = some (v, s') ∧ s'.1 0 = nI 0 ∧ Rel τ n c s') ∨ _
  unfold o_X11_worth o_X12_worth
  rcases rng (x 1) (nI 0) (nI 1000000) with ⟨w1, r1, p1, q1⟩ | ⟨w1, r1⟩
  · simp only [w1, r1, Option.bind_some, z1, if_false, nA1, Sum.elim_inl]
    obtain ⟨M, a1, a2⟩ := o_worth (F := F) (τ := τ) (n := n) (c := c) (s := pN s 0 (nI 0)) (st := x 2) (y := x 1) (by omega) h.b.rw_
    rw [show (0 + 10 : Nat) = 10 from rfl, a1, a2]
    exact Or.inl ⟨_, _, rfl, rfl, pN0 _ _, h.pn _⟩
  · simp only [w1, r1, Option.bind_some, z0, if_true, nA0, Sum.elim_inr]
    exact Or.inr ⟨_, _, trivial, rfl, pN0 _ _, h.pn2 _ _⟩
theorem st32 (hF : 30000 ≤ F) (h : Rel τ n c s) : stp Rel F 32 x τ n c s := by
  show (∃ v s', o_X11_best F τ n 0 c (x 1) = some (.inl v) ∧ o_X12_best F s (x 1) = some (v, s') ∧ s'.1 0 = nI 0 ∧ Rel τ n c s') ∨ _
  unfold o_X11_best o_X12_best
  rcases rng (x 1) (nI 0) (nI 1000000) with ⟨w1, r1, p1, q1⟩ | ⟨w1, r1⟩
  · simp only [w1, r1, Option.bind_some, z1, if_false, nA1, Sum.elim_inl]
    have rw_ := h.b.rw_
    have p64 : 2 ^ N (s.2.1 2786) ≤ 64 := show 2 ^ N (s.2.1 2786) ≤ 2 ^ 6 from Nat.pow_le_pow_right (by decide) rw_.1
    have p1 : 1 ≤ 2 ^ N (s.2.1 2786) := Nat.one_le_two_pow
    obtain ⟨M, a1, a2⟩ := o_worth (F := F) (τ := τ) (n := n) (c := c) (s := pN s 0 (nI 0)) (st := nI 0) (y := x 1) (by omega) rw_
    obtain ⟨z, b1, b2⟩ := best_loop (F := F) (τ := τ) (n := n) (c := c) (s := pN s 0 (nI 0)) (y := x 1) (by omega) rw_ (2 ^ N (s.2.1 2786) - 1) 1 F F (nI 0) (by omega) (by omega) (by omega)
    rw [a2] at b1
    unfold o_X4_bestSet
    rw [show (0 + 10 : Nat) = 10 from rfl, a1]
    simp only [Option.bind_some]
    rw [show M = (some M).getD 0 from rfl, b1, b2]
    exact Or.inl ⟨_, _, rfl, rfl, pN0 _ _, h.pn _⟩
  · simp only [w1, r1, Option.bind_some, z0, if_true, nA0, Sum.elim_inr]
    exact Or.inr ⟨_, _, trivial, rfl, pN0 _ _, h.pn2 _ _⟩
end WORTH
