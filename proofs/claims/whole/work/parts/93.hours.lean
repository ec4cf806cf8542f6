/-! THE PURE LAYER: hours -/
section HOURS
variable {F : Nat} {x : Nat → Int32} {τ : cT} {n k i m H C hh : Nat} {c c' c0 c1 : cS} {s s' s0 : rs_S} {v v' : Nat → Int32} {D : Nat → Int32}
theorem irm_z {a b : Nat} (ha : a < 2 ^ 31) (h0 : 0 < b) (hb : b < 2 ^ 31) (h : a % b = 0) : irm (nI a) (nI b) = 0 := by rw [irm_n ha h0 hb, h]; rfl
theorem irm_nz {a b : Nat} (ha : a < 2 ^ 31) (h0 : 0 < b) (hb : b < 2 ^ 31) (h : a % b ≠ 0) : ¬ irm (nI a) (nI b) = 0 := by
  have := Nat.mod_lt a h0
  rw [irm_n ha h0 hb]
  exact nI_inj (b := 0) (by omega) (by decide) h
theorem o_tail (hF : 30000 ≤ F) (hI : LI τ n) (h : PG τ n c0 s0 c s H) (hH : 1 ≤ H) (hO : ∀ i, i < 20 → (s0.2.1 (2666 + 6 * i + 4)).toInt ≤ 1200000 * (((H : Int) - 1) / 2400)) : ∃ c' s', (if (irm (c.1 10 0) (nI 24)) = 0 then ((o_X8_endDay F τ n 10 c (((c.1 10 0) / (nI 24)) - (nI 1))).bind fun x16 => (if (irm (x16.1 10 0) (nI 2400)) = 0 then ((o_X6_endYear F τ n 10 x16 (((x16.1 10 0) / (nI 2400)) - (nI 1))).bind fun x18 => (some x18)) else (some x16))) else (if (irm (c.1 10 0) (nI 2400)) = 0 then ((o_X6_endYear F τ n 10 c (((c.1 10 0) / (nI 2400)) - (nI 1))).bind fun x15 => (some x15)) else (some c))) = some c' ∧ ((o_X12_hour s).bind fun x37 => (if (irm x37 (nI 24)) = 0 then ((o_X12_dayEnds F s).bind fun x42 => ((o_X12_hour x42).bind fun x43 => (if (irm x43 (nI 2400)) = 0 then ((o_X12_yearEnds F x42).bind fun x45 => (some x45)) else (some x42)))) else ((o_X12_hour s).bind fun x39 => (if (irm x39 (nI 2400)) = 0 then ((o_X12_yearEnds F s).bind fun x41 => (some x41)) else (some s))))) = some s' ∧ RB τ n c' 10 s'.2.1 ∧ Nw c0 c' ∧ (∀ j, j = 0 ∨ j = 3 ∨ j = 8 ∨ j = 13 → s'.1 j = s0.1 j) ∧ (∀ j, j = 1 ∨ j = 4 → s'.2.2 j = s0.2.2 j) ∧ s'.2.1 0 = nI H := by
  have hh := h.hh
  have hr : ∀ s : rs_S, o_X12_hour s = some (s.2.1 0) := fun s => by unfold o_X12_hour; rw [gW_n _ (by decide)]
  have e : c.1 10 0 = nI H := (h.rb.pl 0 0 0 rfl).trans h.h0
  rw [hr s, Option.bind_some (s.2.1 0), h.h0, e]
  by_cases q : H % 24 = 0
  · rw [if_pos (irm_z (by omega) (by decide) (by decide) q), if_pos (irm_z (by omega) (by decide) (by decide) q)]
    obtain ⟨c1, s1, a1, a2, a3⟩ := o_days (F := F) (by omega) hI h
    rw [h.h0] at a1
    have e1 : c1.1 10 0 = nI H := (a3.rb.pl 0 0 0 rfl).trans a3.h0
    rw [a1, a2, Option.bind_some c1, Option.bind_some s1, hr s1, Option.bind_some (s1.2.1 0), a3.h0, e1]
    by_cases q2 : H % 2400 = 0
    · obtain ⟨c2, s2, b1, b2, b3, b4, b5, b6, b7⟩ := o_years (F := F) (K := H / 2400) (by omega) hI a3.rb (by rw [a3.h0, show 2400 * (H / 2400) = H by omega]) (by omega) (by omega) (fun i hi => by
        have := hO i hi
        rw [a3.bo _ (by omega) (by omega)]
        omega)
      rw [a3.h0] at b1
      rw [if_pos (irm_z (by omega) (by decide) (by decide) q2), if_pos (irm_z (by omega) (by decide) (by decide) q2), b1, b2, Option.bind_some, Option.bind_some]
      exact ⟨c2, s2, rfl, rfl, b3, a3.nw.trans b4, fun j hj => by rw [b5]; exact a3.f1 j hj, fun j hj => by rw [b6]; exact a3.r1 j hj, b7.trans a3.h0⟩
    · rw [if_neg (irm_nz (by omega) (by decide) (by decide) q2), if_neg (irm_nz (by omega) (by decide) (by decide) q2)]
      exact ⟨c1, s1, rfl, rfl, a3.rb, a3.nw, a3.f1, a3.r1, a3.h0⟩
  · rw [if_neg (irm_nz (by omega) (by decide) (by decide) q), if_neg (irm_nz (by omega) (by decide) (by decide) q), Option.bind_some]
    have q2 : H % 2400 ≠ 0 := by omega
    rw [if_neg (irm_nz (by omega) (by decide) (by decide) q2), if_neg (irm_nz (by omega) (by decide) (by decide) q2)]
    exact ⟨c, s, rfl, rfl, h.rb, h.nw, h.f1, h.r1, h.h0⟩
theorem o_rest (hF : 30000 ≤ F) (hI : LI τ n) (h : PH τ n c0 s0 c s H D) (hm : N (s.2.1 1211) = m) (hH : 1 ≤ H) (hl : ∀ j, j < 10 → (s0.2.1 (1000 + 8 * j + 4)).toInt + 500 ≤ 500 * (H : Int)) (hO : ∀ i, i < 20 → (s0.2.1 (2666 + 6 * i + 4)).toInt ≤ 1200000 * (((H : Int) - 1) / 2400)) : ∃ c' s', ((o_X5_unload F τ n 10 c).bind fun x10 => ((o_X5_cart F τ n 10 x10).bind fun x11 => ((o_X5_weigh F τ n 10 x11).bind fun x12 => (if (irm (x12.1 10 0) (nI 24)) = 0 then ((o_X8_endDay F τ n 10 x12 (((x12.1 10 0) / (nI 24)) - (nI 1))).bind fun x16 => (if (irm (x16.1 10 0) (nI 2400)) = 0 then ((o_X6_endYear F τ n 10 x16 (((x16.1 10 0) / (nI 2400)) - (nI 1))).bind fun x18 => (some x18)) else (some x16))) else (if (irm (x12.1 10 0) (nI 2400)) = 0 then ((o_X6_endYear F τ n 10 x12 (((x12.1 10 0) / (nI 2400)) - (nI 1))).bind fun x15 => (some x15)) else (some x12)))))) = some c' ∧ ((o_X12_anHour_150 F (nI m) F (nI 0) s).bind fun x26 => ((o_X12_anHour_179 F F (nI 0) x26).bind fun x29 => ((o_X12_anHour_203 F F (nI 0) x29).bind fun x36 => ((o_X12_hour x36).bind fun x37 => (if (irm x37 (nI 24)) = 0 then ((o_X12_dayEnds F x36).bind fun x42 => ((o_X12_hour x42).bind fun x43 => (if (irm x43 (nI 2400)) = 0 then ((o_X12_yearEnds F x42).bind fun x45 => (some x45)) else (some x42)))) else ((o_X12_hour x36).bind fun x39 => (if (irm x39 (nI 2400)) = 0 then ((o_X12_yearEnds F x36).bind fun x41 => (some x41)) else (some x36)))))))) = some s' ∧ RB τ n c' 10 s'.2.1 ∧ Nw c0 c' ∧ (∀ j, j = 0 ∨ j = 3 ∨ j = 8 ∨ j = 13 → s'.1 j = s0.1 j) ∧ (∀ j, j = 1 ∨ j = 4 → s'.2.2 j = s0.2.2 j) ∧ s'.2.1 0 = nI H := by
  obtain ⟨c1, s1, a1, a2, a3⟩ := o_unloads hF hI h hl
  obtain ⟨c2, s2, b1, b2, b3⟩ := o_carts hF hI a3
  obtain ⟨c3, s3, d1, d2, d3⟩ := o_weighs hF hI b3
  rw [hm] at a2
  rw [a1, Option.bind_some, b1, Option.bind_some, d1, Option.bind_some, a2, Option.bind_some, b2, Option.bind_some, d2, Option.bind_some]
  exact o_tail hF hI d3 hH hO
/-- today's act when the hour has just been told -/
theorem RB.tickQ (h : RB τ n c 10 v) (hI : LI τ n) (eh : N (v 0) = hh) (hlt : hh < 30000) : RQ τ n (cp c 10 0 (nI (hh + 1))) (vtk v hh) := by
  have T := (h.tick hI eh hlt).x.q
  have e : ∀ q, q ≠ 130 → (csh4 (cp c 10 0 (nI (hh + 1)))).1 q = (cp c 10 0 (nI (hh + 1))).1 q := fun q hq => csh4_o hq
  have nw : Nw (csh4 (cp c 10 0 (nI (hh + 1)))) (cp c 10 0 (nI (hh + 1))) := ⟨fun q hq => (e q (by omega)).symm, fun _ _ => rfl⟩
  have as := nw.as hI
  refine RQ.mk ((congrFun (e 10 (by decide)) 0).symm.trans T.p0) ((congrFun (e 27 (by decide)) 3).symm.trans T.p11) T.n2811 (fun a ha => ?_)
  obtain ⟨t1, p, t2, t3, t4⟩ := T.txt a ha
  exact ⟨(congrFun (e 35 (by decide)) a).symm.trans t1, p, t2, t3, t4.same (fun _ _ => rfl) (fun j hj => as p t3 j hj) (fun _ _ _ => rfl)⟩
theorem an_hour (hF : 30000 ≤ F) (hI : LI τ n) (h : RB τ n c 10 s.2.1) (hz : c.1 28 0 = nI 0) (eh : N (s.2.1 0) = hh) (hlt : hh < 30000) : ∃ c' s', o_X2_passHour F τ n 10 c = some c' ∧ o_X12_anHour F s = some s' ∧ RB τ n c' 10 s'.2.1 ∧ Nw c c' ∧ (∀ j, j = 0 ∨ j = 3 ∨ j = 8 ∨ j = 13 → s'.1 j = s.1 j) ∧ (∀ j, j = 1 ∨ j = 4 → s'.2.2 j = s.2.2 j) ∧ s'.2.1 0 = nI (hh + 1) := by
  have e0 : s.2.1 0 = nI hh := by rw [← eh]; exact h.n0.1
  have c10 : c.1 10 0 = nI hh := (h.pl 0 0 0 rfl).trans e0
  have T := h.tick hI eh hlt
  have Q := h.tickQ hI eh hlt
  have mB : hh % 8 < 8 := Nat.mod_lt _ (by decide)
  generalize hc1 : cp c 10 0 (nI (hh + 1)) = c1 at T Q
  have hz1 : c1.1 28 0 = nI 0 := by rw [← hc1, cp_1 _ (by decide)]; exact hz
  have nw1 : Nw c (csh4 c1) := by
    refine ⟨fun q hq => ?_, fun q hq => by rw [← hc1]; rfl⟩
    rw [csh4_o (by omega), ← hc1, cp_1 _ (by omega)]
  have z4 : (csh4 c1).1 28 0 = nI 0 := by rw [csh4_o (by decide)]; exact hz1
  -- the reference's start
  have gA : gW s (nI 0) + nI 1 = nI (hh + 1) := by rw [gW_n _ (by decide), e0, nI_add]
  generalize hsB : pW (pW s (nI 0) (nI (hh + 1))) (nI (1082 + hh % 8)) (nI 0) = sB
  have vB : sB.2.1 = vtk s.2.1 hh := by rw [← hsB, pW_21, pW_21, nI_clamp (by decide), nI_clamp (by omega)]; rfl
  rw [← vB] at T Q
  obtain ⟨s0, l1, l2, l3, l4, l5⟩ := o_looks (F := F) (s := sB) (by omega) T.rg
  have e00 : s0.2.1 0 = nI (hh + 1) := by rw [l2, vB]; exact vtk_0
  rw [← l2] at T Q l5
  have n12 := T.n1211
  generalize hm : N (s0.2.1 1211) = m at n12
  have P0 : PH τ n (csh4 c1) s0 (csh4 c1) s0 (hh + 1) (dp s0.2.1) := PH.mk T Nw.refl z4 (fun _ _ => rfl) (fun _ _ => rfl) e00 (by omega) (fun _ _ => rfl) (fun _ _ => rfl) l5 (fun _ _ => rfl) rfl
  -- arrive
  have a1 := o_arrive (F := F) (H := hh + 1) (by omega) T hI
  obtain ⟨s2, a2, a3, a4, a5⟩ := o_arrR (F := F) (H := hh + 1) (by omega) T e00
  have a6 := T.arrived (H := hh + 1) hI
  rw [hm] at a1 a2 a3 a6
  rw [← a3] at a6
  have vo : ∀ q, (q < 1212 ∨ 2652 ≤ q) → s2.2.1 q = s0.2.1 q := fun q hq => by rw [a3]; exact vW_o _ (fun k hk => by have := n12.2; omega)
  have P2 : PH τ n (csh4 c1) s0 (cW (csh4 c1) 10 (wB s0.2.1 (hh + 1)) m) s2 (hh + 1) (dp s0.2.1) := by
    refine P0.step a6 ⟨fun q hq => ?_, fun q hq => by rw [cW_2]⟩ (fun j _ => by rw [a4]) (fun j _ => by rw [a5]) (vo 0 (by omega)) (fun q hq => vo q (by omega)) (fun j hj => vo _ (by omega)) (by rw [a5]) (cW_2 _)
    funext j
    rw [cW_1, if_neg (by have := n12.2; omega)]
  have m2 : N (s2.2.1 1211) = m := by rw [vo 1211 (by omega)]; exact hm
  generalize cW (csh4 c1) 10 (wB s0.2.1 (hh + 1)) m = c2 at a1 a6 P2
  -- the act and the clearance
  obtain ⟨p, p1, p2, p3, _⟩ := Q.lawNow (F := F) hI hz1 (by omega)
  obtain ⟨C, hC, C1⟩ := Q.clr hI hz1
  have C2 := Q.lastC (F := F) (kd := 5) (w := nI 5) hI hz1 (by omega) (by decide) (by decide)
  rw [C1, ← p2] at C2
  have p4 : p = ap (csh4 c1) 10 (ao s0.2.1 (s0.2.1 0 / nI 24) (N (s0.2.1 2811))) := p2
  -- leave
  obtain ⟨c3, s3, b1, b2, b3, b4⟩ := o_leaves hF hI e00 hC C1 P2
  rw [m2] at b1 b2 b4
  have h3 := o_has (F := F) (x := 3) (by omega) P2.rb.x
  rw [m2] at h3
  -- come in
  obtain ⟨c4, s31, s4, d1, d2, d3, d4, d5⟩ := o_comesAll hF hI e00 hC C1 p4 b3
  rw [b4] at d2 d3 d5
  have h4 := o_has (F := F) (x := 0) (by omega) b3.rb.x
  rw [b4] at h4
  -- the rest
  have oldC := h.cr
  obtain ⟨c5, s5, r1, r2, r3, r4, r5, r6, r7⟩ := o_rest hF hI d4 d5 (by omega) (fun j hj => by
    have := oldC.ld j hj
    rw [e0, nI_toInt (by omega)] at this
    rw [l2, vB, vtk_o (by omega) (by omega)]
    omega) (fun i hi => by
    have := oldC.oe i hi
    rw [e0, nI_toInt (by omega)] at this
    rw [l2, vB, vtk_o (by omega) (by omega)]
    omega)
  refine ⟨c5, s5, ?_, ?_, r3, nw1.trans r4, fun j hj => ?_, fun j hj => ?_, r7⟩
  · unfold o_X2_passHour
    rw [c10, nI_add, hc1, p1, Option.bind_some p, if_pos p3, C2, Option.bind_some (nI C), o_nextP (by omega), Option.bind_some (csh4 c1), show (csh4 c1).1 10 0 = nI (hh + 1) from (T.pl 0 0 0 rfl).trans e00, a1, Option.bind_some c2, h3]
    rcases b1 with ⟨q1, q2⟩ | ⟨q1, q2⟩
    · rw [ifc_pos q1, Option.bind_some (nI 1), if_neg (show ¬ (nI 1 : Int32) = 0 by decide), q2, Option.bind_some c3, h4]
      rcases d3 with ⟨q3, x, q4, q5⟩ | ⟨q3, q4⟩
      · rw [ifc_pos q3, Option.bind_some (nI 1), if_neg (show ¬ (nI 1 : Int32) = 0 by decide), q4, Option.bind_some x, q5, Option.bind_some c4]
        exact r1
      · rw [ifc_neg q3, Option.bind_some (nI 0), if_pos (show (nI 0 : Int32) = 0 from nI_0)]
        rw [← q4]; exact r1
    · rw [ifc_neg q1, Option.bind_some (nI 0), if_pos (show (nI 0 : Int32) = 0 from nI_0), ← q2, h4]
      rcases d3 with ⟨q3, x, q4, q5⟩ | ⟨q3, q4⟩
      · rw [ifc_pos q3, Option.bind_some (nI 1), if_neg (show ¬ (nI 1 : Int32) = 0 by decide), q4, Option.bind_some x, q5, Option.bind_some c4]
        exact r1
      · rw [ifc_neg q3, Option.bind_some (nI 0), if_pos (show (nI 0 : Int32) = 0 from nI_0)]
        rw [← q4]; exact r1
  · unfold o_X12_anHour
    have eh1 : o_X12_hour (pW s (nI 0) (nI (hh + 1))) = some (nI (hh + 1)) := by unfold o_X12_hour; rw [gW_pWs]
    rw [gA, eh1, Option.bind_some, nI_add (hh + 1) 7, irm_n (by omega) (by decide) (by decide), show (hh + 1 + 7) % 8 = hh % 8 by omega, nI_add 1082, if_pos (iL_t (show 1082 + hh % 8 < 22216 by omega) (by decide)), hsB, l1, Option.bind_some, gW_n s0 (show 1211 < 2 ^ 31 by decide), n12.1, a2, Option.bind_some, b2, Option.bind_some, d1, Option.bind_some, d2, Option.bind_some]
    exact r2
  · rw [r5 j hj, l3, ← hsB]; rfl
  · rw [r6 j hj, l4 j (by omega), ← hsB]; rfl
theorem hr_loop (hF : 30000 ≤ F) (hI : LI τ n) : ∀ (r i f f' : Nat) (c : cS) (s : rs_S), i + r = m → m ≤ 120 → r < f → r < f' → Rel τ n c s → ∃ c' s', o_X11_hours_12 F τ n 0 (nI m) f (nI i) c = some c' ∧ o_X12_hours_32 F (nI m) f' (nI i) s = some s' ∧ Rel τ n c' s' ∧ s'.1 0 = s.1 0 := by
  intro r
  induction r with
  | zero =>
    intro i f f' c s hi hm hf hf' h
    obtain ⟨f, rfl⟩ : ∃ x, f = x + 1 := ⟨f - 1, by omega⟩
    obtain ⟨f', rfl⟩ : ∃ x, f' = x + 1 := ⟨f' - 1, by omega⟩
    rw [o_X11_hours_12, o_X12_hours_32, if_pos (nI_yes (by omega) (by omega) (by omega)), if_pos (nI_yes (by omega) (by omega) (by omega))]
    exact ⟨c, s, rfl, rfl, h, rfl⟩
  | succ r ih =>
    intro i f f' c s hi hm hf hf' h
    obtain ⟨f, rfl⟩ : ∃ x, f = x + 1 := ⟨f - 1, by omega⟩
    obtain ⟨f', rfl⟩ : ∃ x, f' = x + 1 := ⟨f' - 1, by omega⟩
    have n0 := h.b.n0
    generalize eh : N (s.2.1 0) = hh at n0
    have e1 : c.1 (0 + 10) 0 = nI hh := (h.b.pl 0 0 0 rfl).trans n0.1
    have e2 : o_X12_hour s = some (nI hh) := by unfold o_X12_hour; rw [gW_n _ (by decide), n0.1]
    rw [o_X11_hours_12, o_X12_hours_32, if_neg (nI_no (by omega) (by omega) (by omega)), if_neg (nI_no (by omega) (by omega) (by omega)), e1, e2, Option.bind_some]
    by_cases q : 30000 ≤ hh
    · rw [if_pos (nI_yes (by omega) (by omega) q), if_pos (nI_yes (by omega) (by omega) q)]
      exact ⟨c, s, rfl, rfl, h, rfl⟩
    · obtain ⟨c1, s1, a1, a2, a3, a4, a5, a6, a7⟩ := an_hour hF hI h.b h.z eh (by omega)
      rw [if_neg (nI_no (by omega) (by omega) (by omega)), if_neg (nI_no (by omega) (by omega) (by omega)), show (0 + 10 : Nat) = 10 from rfl, a1, a2, Option.bind_some, Option.bind_some, nI_add i 1]
      have R : Rel τ n c1 s1 := h.now hI a4 a3 (fun j hj => a5 j (by omega)) a6
      obtain ⟨c2, s2, b1, b2, b3, b4⟩ := ih (i + 1) f f' c1 s1 (by omega) hm (by omega) (by omega) R
      exact ⟨c2, s2, b1, b2, b3, b4.trans (a5 0 (by omega))⟩
/-- kind 14 -/
theorem st14 (hF : 30000 ≤ F) (hI : LI τ n) (h : Rel τ n c s) : stp Rel F 14 x τ n c s := by
  show (∃ v c' s', o_X11_hours F τ n 0 c (x 1) = some (.inl (v, c')) ∧ o_X12_hours F s (x 1) = some (v, s') ∧ s'.1 0 = nI 0 ∧ Rel τ n c' s') ∨ _
  by_cases q : ¬ x 1 < 0 ∧ ¬ nI 120 < x 1
  · obtain ⟨m, m1, m2⟩ := nI_of q.1
    have m3 : m ≤ 120 := by
      have := q.2
      rw [m2] at this
      rcases Nat.lt_or_ge 120 m with g | g
      · exact absurd ((nI_ltI (by decide) m1).mpr g) this
      · exact g
    obtain ⟨c1, s1, a1, a2, a3, a4⟩ := hr_loop (F := F) (m := m) hF hI m 0 F F c (pN s 0 (nI 0)) (by omega) m3 (by omega) (by omega) (h.pn (nI 0))
    refine Or.inl ⟨s1.2.1 0, c1, s1, ?_, ?_, by rw [a4]; exact pN0 s (nI 0), a3⟩
    · unfold o_X11_hours o_X11_within o_X11_needArgument
      rw [if_neg (show ¬ x 1 < nI 0 from q.1), if_neg q.2, Option.bind_some, if_neg (show ¬ (nI 1 : Int32) = 0 by decide), Option.bind_some]
      show (o_X11_hours_12 F τ n 0 (x 1) F (nI 0) c).bind _ = _
      rw [m2, a1, Option.bind_some, show c1.1 (0 + 10) 0 = s1.2.1 0 from a3.b.pl 0 0 0 rfl]
    · unfold o_X12_hours o_X12_in
      rw [if_neg (show ¬ x 1 < nI 0 from q.1), if_neg q.2, Option.bind_some, if_neg (show ¬ (nI 1 : Int32) = 0 by decide), m2, a2, Option.bind_some]
      unfold o_X12_hour
      rw [Option.bind_some, gW_n _ (by decide)]
  · have w : (if x 1 < nI 0 then some (nI 0) else if nI 120 < x 1 then some (nI 0) else some (nI 1)) = some (nI 0) := by
      by_cases g : x 1 < nI 0
      · rw [if_pos g]
      · rw [if_neg g]
        by_cases g2 : nI 120 < x 1
        · rw [if_pos g2]
        · exact absurd ⟨g, g2⟩ q
    refine Or.inr ⟨c, nI 0, pN (pN s 0 (nI 0)) 0 (nI 1), ?_, ?_, pN0 _ _, h.pn2 _ _⟩
    · unfold o_X11_hours o_X11_within o_X11_needArgument
      rw [w, Option.bind_some, if_pos (show (nI 0 : Int32) = 0 from nI_0), Option.bind_some]
      rfl
    · unfold o_X12_hours o_X12_in
      rw [w, Option.bind_some, if_pos (show (nI 0 : Int32) = 0 from nI_0)]
end HOURS
