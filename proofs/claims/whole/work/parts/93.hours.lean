/-! THE PURE LAYER: hours -/
section HOURS
variable {F : Nat} {x : Nat → Int32} {τ : cT} {n k i m H C hh : Nat} {c c' c0 c1 : cS} {s s' s0 : rs_S} {v v' : Nat → Int32} {D : Nat → Int32}
theorem irm_z {a b : Nat} (ha : a < 2 ^ 31) (h0 : 0 < b) (hb : b < 2 ^ 31) (h : a % b = 0) : irm (nI a) (nI b) = 0 := by rw [irm_n ha h0 hb, h]; rfl
theorem irm_nz {a b : Nat} (ha : a < 2 ^ 31) (h0 : 0 < b) (hb : b < 2 ^ 31) (h : a % b ≠ 0) : ¬ irm (nI a) (nI b) = 0 := by
  have := Nat.mod_lt a h0
  rw [irm_n ha h0 hb]
  exact nI_inj (b := 0) (by omega) (by decide) h
theorem o_tail (hF : 30000 ≤ F) (hI : LI τ n) (h : PG τ n c0 s0 c s H) (hH : 1 ≤ H) (hO : ∀ i, i < 20 → (s0.2.1 (2666 + 6 * i + 4)).toInt ≤ 1200000 * (((H : Int) - 1) / 2400)) : ∃ c' s', (if (irm (c.1 10 0) (nI 24)) = 0 then ((o_X8_endDay F τ n 10 c (((c.1 10 0) / (nI 24)) - (nI 1))).bind fun x16 => (if (irm (x16.1 10 0) (nI 2400)) = 0 then ((o_X6_endYear F τ n 10 x16 (((x16.1 10 0) / (nI 2400)) - (nI 1))).bind fun x18 => (some x18)) else (some x16))) else (if (irm (c.1 10 0) (nI 2400)) = 0 then ((o_X6_endYear F τ n 10 c (((c.1 10 0) / (nI 2400)) - (nI 1))).bind fun x15 => (some x15)) else (some c))) = some c' ∧ ((o_X12_hour s).bind fun x37 => (if (irm x37 (nI 24)) = 0 then ((o_X12_dayEnds F s).bind fun x42 => ((o_X12_hour x42).bind fun x43 => (if (irm x43 (nI 2400)) = 0 then ((o_X12_yearEnds F x42).bind fun x45 => (some x45)) else (some x42)))) else ((o_X12_hour s).bind fun x39 => (if (irm x39 (nI 2400)) = 0 then ((o_X12_yearEnds F s).bind fun x41 => (some x41)) else (some s))))) = some s' ∧ RB τ n c' 10 s'.2.1 ∧ Nw c0 c' ∧ (∀ j, j = 0 ∨ j = 3 ∨ j = 8 ∨ j = 13 → s'.1 j = s0.1 j) ∧ (∀ j, j = 1 ∨ j = 4 → s'.2.2 j = s0.2.2 j) ∧ s'.2.1 0 = nI H := by
  have hh := h.hh
  have hr : ∀ s : rs_S, o_X12_hour s = some (s.2.1 0) := fun s => by unfold o_X12_hour; rw [gW_n _ (by decide)]
  have e : c.1 10 0 = nI H := (h.rb.pl 0 0 0 rfl).trans h.h0
  rw [hr s, Option.bind_some (s.2.1 0), h.h0, e]
  by_cases q : H % 24 = 0
  · rw [if_pos (irm_z (by omega) (by decide) (by decide) q), if_pos (irm_z (by omega) (by decide) (by decide) q)]
    obtain ⟨c1, s1, a1, a2, a3⟩ := o_days (F := F) (by omega) hI h
    rw [h.h0] at a1
    have e1 : c1.1 10 0 = nI H := (a3.rb.pl 0 0 0 rfl).trans a3.h0
    rw [a1, a2, Option.bind_some c1, Option.bind_some s1, hr s1, Option.bind_some (s1.2.1 0), a3.h0, e1]
    by_cases q2 : H % 2400 = 0
    · obtain ⟨c2, s2, b1, b2, b3, b4, b5, b6, b7⟩ := o_years (F := F) (K := H / 2400) (by omega) hI a3.rb (by rw [a3.h0, show 2400 * (H / 2400) = H by omega]) (by omega) (by omega) (fun i hi => by
        have := hO i hi
        rw [a3.bo _ (by omega) (by omega)]
        omega)
      rw [a3.h0] at b1
      rw [if_pos (irm_z (by omega) (by decide) (by decide) q2), if_pos (irm_z (by omega) (by decide) (by decide) q2), b1, b2, Option.bind_some, Option.bind_some]
      exact ⟨c2, s2, rfl, rfl, b3, a3.nw.trans b4, fun j hj => by rw [b5]; exact a3.f1 j hj, fun j hj => by rw [b6]; exact a3.r1 j hj, b7.trans a3.h0⟩
    · rw [if_neg (irm_nz (by omega) (by decide) (by decide) q2), if_neg (irm_nz (by omega) (by decide) (by decide) q2)]
      exact ⟨c1, s1, rfl, rfl, a3.rb, a3.nw, a3.f1, a3.r1, a3.h0⟩
  · rw [if_neg (irm_nz (by omega) (by decide) (by decide) q), if_neg (irm_nz (by omega) (by decide) (by decide) q), Option.bind_some]
    have q2 : H % 2400 ≠ 0 := by omega
    rw [if_neg (irm_nz (by omega) (by decide) (by decide) q2), if_neg (irm_nz (by omega) (by decide) (by decide) q2)]
    exact ⟨c, s, rfl, rfl, h.rb, h.nw, h.f1, h.r1, h.h0⟩
theorem o_rest (hF : 30000 ≤ F) (hI : LI τ n) (h : PH τ n c0 s0 c s H D) (hm : N (s.2.1 1211) = m) (hH : 1 ≤ H) (hl : ∀ j, j < 10 → (s0.2.1 (1000 + 8 * j + 4)).toInt + 500 ≤ 500 * (H : Int)) (hO : ∀ i, i < 20 → (s0.2.1 (2666 + 6 * i + 4)).toInt ≤ 1200000 * (((H : Int) - 1) / 2400)) : ∃ c' s', ((o_X5_unload F τ n 10 c).bind fun x10 => ((o_X5_cart F τ n 10 x10).bind fun x11 => ((o_X5_weigh F τ n 10 x11).bind fun x12 => (if (irm (x12.1 10 0) (nI 24)) = 0 then ((o_X8_endDay F τ n 10 x12 (((x12.1 10 0) / (nI 24)) - (nI 1))).bind fun x16 => (if (irm (x16.1 10 0) (nI 2400)) = 0 then ((o_X6_endYear F τ n 10 x16 (((x16.1 10 0) / (nI 2400)) - (nI 1))).bind fun x18 => (some x18)) else (some x16))) else (if (irm (x12.1 10 0) (nI 2400)) = 0 then ((o_X6_endYear F τ n 10 x12 (((x12.1 10 0) / (nI 2400)) - (nI 1))).bind fun x15 => (some x15)) else (some x12)))))) = some c' ∧ ((o_X12_anHour_150 F (nI m) F (nI 0) s).bind fun x26 => ((o_X12_anHour_179 F F (nI 0) x26).bind fun x29 => ((o_X12_anHour_203 F F (nI 0) x29).bind fun x36 => ((o_X12_hour x36).bind fun x37 => (if (irm x37 (nI 24)) = 0 then ((o_X12_dayEnds F x36).bind fun x42 => ((o_X12_hour x42).bind fun x43 => (if (irm x43 (nI 2400)) = 0 then ((o_X12_yearEnds F x42).bind fun x45 => (some x45)) else (some x42)))) else ((o_X12_hour x36).bind fun x39 => (if (irm x39 (nI 2400)) = 0 then ((o_X12_yearEnds F x36).bind fun x41 => (some x41)) else (some x36)))))))) = some s' ∧ RB τ n c' 10 s'.2.1 ∧ Nw c0 c' ∧ (∀ j, j = 0 ∨ j = 3 ∨ j = 8 ∨ j = 13 → s'.1 j = s0.1 j) ∧ (∀ j, j = 1 ∨ j = 4 → s'.2.2 j = s0.2.2 j) ∧ s'.2.1 0 = nI H := by
  obtain ⟨c1, s1, a1, a2, a3⟩ := o_unloads hF hI h hl
  obtain ⟨c2, s2, b1, b2, b3⟩ := o_carts hF hI a3
  obtain ⟨c3, s3, d1, d2, d3⟩ := o_weighs hF hI b3
  rw [hm] at a2
  rw [a1, Option.bind_some, b1, Option.bind_some, d1, Option.bind_some, a2, Option.bind_some, b2, Option.bind_some, d2, Option.bind_some]
  exact o_tail hF hI d3 hH hO
end HOURS
