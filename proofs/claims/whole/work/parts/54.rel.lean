/-! THE PURE LAYER: the relation of states -/
/-- a number of the row as a natural one -/
abbrev N (x : Int32) : Nat := x.toNatClampNeg
theorem N_nI {k : Nat} (h : k < 2 ^ 31) : N (nI k) = k := nI_clamp h
theorem toInt_N {x : Int32} (h : 0 ≤ x.toInt) : (N x : Int) = x.toInt := by
  show ((x.toInt).toNat : Int) = x.toInt
  exact Int.toNat_of_nonneg h
theorem nI_N {x : Int32} (h : 0 ≤ x.toInt) : x = nI (N x) := by
  have h1 : ¬ x < 0 := by rw [Int32.lt_iff_toInt_lt]; simpa using h
  obtain ⟨k, hk, rfl⟩ := nI_of h1
  rw [N_nI hk]
theorem toInt_lo (x : Int32) : -2147483648 ≤ x.toInt := Int32.le_toInt x
theorem toInt_hi (x : Int32) : x.toInt ≤ 2147483647 := Int32.toInt_le x
/-- what the numbers of a berth, a ship, a bond may be -/
def rgb (f : Nat) : Int × Int := if f = 0 then (0, 23) else if f = 1 then (0, 900) else if f = 2 then (0, 500) else if f = 3 then (0, 50000) else if f = 4 then (0, 15000000) else if f = 6 then (-1, 79) else (-2147483648, 2147483647)
def rgs (f : Nat) : Int × Int := if f = 0 then (0, 29) else if f = 1 then (0, 5) else if f = 2 then (0, 20000) else if f = 3 then (0, 900) else if f = 4 ∨ f = 5 then (0, 80) else if f = 6 then (0, 1) else if f = 7 then (0, 1000000) else if f = 8 then (0, 30000) else if f = 9 then (0, 4) else if f = 10 then (-1, 9) else if f = 11 then (0, 20000) else if f = 13 then (-1, 30000) else if f = 14 then (0, 2000000000) else if f = 15 then (-1, 2000000000) else if f = 17 then (-1, 19) else (-2147483648, 2147483647)
def rgo (f : Nat) : Int × Int := if f = 0 then (0, 1000000) else if f = 1 then (0, 2000) else if f = 2 then (0, 9) else if f = 4 then (0, 15600000) else (-2147483648, 2147483647)
/-- what a number of the row may be, by its place -/
def rg (k : Nat) : Int × Int :=
  if k = 0 then (0, 30000) else if k < 49 then (0, 200) else if k < 73 then (-2147483648, 2147483647) else if k < 98 then (-20, 60) else if k = 98 then (0, 40) else if k < 179 then (-2147483648, 2147483647)
  else if k = 179 then (0, 6) else if k < 198 then (if (k - 180) % 3 = 0 then (-2147483648, 2147483647) else (-1, 23)) else if k = 198 then (0, 200) else if k < 999 then (if (k - 199) % 4 = 2 then (0, 250) else (-2147483648, 2147483647))
  else if k = 999 then (0, 10) else if k < 1080 then rgb ((k - 1000) % 8) else if k = 1080 then (0, 20) else if k = 1081 then (0, 100) else if k < 1090 then (-2147483648, 2147483647) else if k = 1090 then (0, 30)
  else if k < 1211 then (if (k - 1091) % 4 = 2 then (0, 2000000000) else if (k - 1091) % 4 = 3 then (0, 1) else (-2147483648, 2147483647)) else if k = 1211 then (0, 80) else if k < 2652 then rgs ((k - 1212) % 18)
  else if k = 2652 then (0, 2000000000) else if k < 2660 then (-2147483648, 2147483647) else if k < 2662 then (0, 1) else if k < 2665 then (-2147483648, 2147483647) else if k = 2665 then (0, 20) else if k < 2786 then rgo ((k - 2666) % 6) else if k = 2786 then (0, 6)
  else if k = 2811 then (0, 20) else (-2147483648, 2147483647)
def Ok (k : Nat) (x : Int32) : Prop := (rg k).1 ≤ x.toInt ∧ x.toInt ≤ (rg k).2
def Rg (v : Nat → Int32) : Prop := ∀ k, Ok k (v k)
theorem Rg.put {v : Nat → Int32} {k : Nat} {x : Int32} (h : Rg v) (hx : Ok k x) : Rg (upd v k x) := by
  intro j
  by_cases e : j = k
  · subst e; rw [upd_s]; exact hx
  · rw [upd_n e]; exact h j
theorem rg_b {i f : Nat} (hi : i < 10) (hf : f < 8) : rg (1000 + 8 * i + f) = rgb f := by
  unfold rg
  rw [if_neg (by omega), if_neg (by omega), if_neg (by omega), if_neg (by omega), if_neg (by omega), if_neg (by omega), if_neg (by omega), if_neg (by omega), if_neg (by omega), if_neg (by omega), if_neg (by omega), if_pos (by omega), show (1000 + 8 * i + f - 1000) % 8 = f by omega]
theorem rg_p {i f : Nat} (hi : i < 30) (hf : f < 4) : rg (1091 + 4 * i + f) = if f = 2 then (0, 2000000000) else if f = 3 then (0, 1) else (-2147483648, 2147483647) := by
  unfold rg
  rw [if_neg (by omega), if_neg (by omega), if_neg (by omega), if_neg (by omega), if_neg (by omega), if_neg (by omega), if_neg (by omega), if_neg (by omega), if_neg (by omega), if_neg (by omega), if_neg (by omega), if_neg (by omega), if_neg (by omega), if_neg (by omega), if_neg (by omega), if_neg (by omega), if_pos (by omega), show (1091 + 4 * i + f - 1091) % 4 = f by omega]
theorem rg_s {i f : Nat} (hi : i < 80) (hf : f < 18) : rg (1212 + 18 * i + f) = rgs f := by
  unfold rg
  rw [if_neg (by omega), if_neg (by omega), if_neg (by omega), if_neg (by omega), if_neg (by omega), if_neg (by omega), if_neg (by omega), if_neg (by omega), if_neg (by omega), if_neg (by omega), if_neg (by omega), if_neg (by omega), if_neg (by omega), if_neg (by omega), if_neg (by omega), if_neg (by omega), if_neg (by omega), if_neg (by omega), if_pos (by omega), show (1212 + 18 * i + f - 1212) % 18 = f by omega]
theorem rg_o {i f : Nat} (hi : i < 20) (hf : f < 6) : rg (2666 + 6 * i + f) = rgo f := by
  unfold rg
  rw [if_neg (by omega), if_neg (by omega), if_neg (by omega), if_neg (by omega), if_neg (by omega), if_neg (by omega), if_neg (by omega), if_neg (by omega), if_neg (by omega), if_neg (by omega), if_neg (by omega), if_neg (by omega), if_neg (by omega), if_neg (by omega), if_neg (by omega), if_neg (by omega), if_neg (by omega), if_neg (by omega), if_neg (by omega), if_neg (by omega), if_neg (by omega), if_neg (by omega), if_neg (by omega), if_neg (by omega), if_pos (by omega), show (2666 + 6 * i + f - 2666) % 6 = f by omega]
theorem rg_any {k : Nat} {x : Int32} (h : rg k = (-2147483648, 2147483647)) : Ok k x := by
  unfold Ok; rw [h]; exact ⟨toInt_lo x, toInt_hi x⟩
theorem ok_n {k j : Nat} {lo hi : Int} (h : rg k = (lo, hi)) (h1 : lo ≤ (j : Int)) (h2 : (j : Int) ≤ hi) (hj : j < 2 ^ 31) : Ok k (nI j) := by
  unfold Ok; rw [h, nI_toInt hj]; exact ⟨h1, h2⟩
theorem ok_m {k : Nat} {hi : Int} (h : rg k = (-1, hi)) (h2 : -1 ≤ hi) : Ok k (-1) := by
  unfold Ok; rw [h, show ((-1 : Int32)).toInt = -1 by decide]; exact ⟨Int.le_refl _, h2⟩
/-- a number in a range from 0 is a natural one -/
theorem Rg.nat {v : Nat → Int32} (h : Rg v) {k : Nat} {hi : Int} (e : rg k = (0, hi)) : v k = nI (N (v k)) ∧ (N (v k) : Int) ≤ hi := by
  have := h k
  unfold Ok at this
  rw [e] at this
  exact ⟨nI_N this.1, by rw [toInt_N this.1]; exact this.2⟩
/-- or -1 -/
theorem Rg.opt {v : Nat → Int32} (h : Rg v) {k : Nat} {hi : Int} (e : rg k = (-1, hi)) : v k = -1 ∨ (v k = nI (N (v k)) ∧ (N (v k) : Int) ≤ hi) := by
  have := h k
  unfold Ok at this
  rw [e] at this
  by_cases q : 0 ≤ (v k).toInt
  · exact Or.inr ⟨nI_N q, by rw [toInt_N q]; exact this.2⟩
  · refine Or.inl (Int32.toInt_inj.mp ?_)
    rw [show ((-1 : Int32)).toInt = -1 by decide]
    omega
/-- the sum of the ships' touches -/
def tcs (v : Nat → Int32) : Nat → Int32
  | 0 => 0
  | i + 1 => tcs v i + v (1212 + 18 * i + 16)
/-- what binds numbers of the row together -/
def Cr (v : Nat → Int32) : Prop :=
  (∀ i, i < 10 → (v (1000 + 8 * i + 4)).toInt ≤ 500 * (v 0).toInt) ∧
  (∀ i, i < N (v 999) → 1 ≤ N (v (1000 + 8 * i + 2))) ∧
  (∀ i, i < N (v 999) → v (1000 + 8 * i + 6) = -1 ∨ ∃ k, k < N (v 1211) ∧ v (1000 + 8 * i + 6) = nI k ∧ v (1212 + 18 * k + 10) = nI i ∧ 1 ≤ N (v (1212 + 18 * k + 9)) ∧ N (v (1212 + 18 * k + 9)) ≤ 3) ∧
  (∀ k, k < N (v 1211) → 1 ≤ N (v (1212 + 18 * k + 9)) → N (v (1212 + 18 * k + 9)) ≤ 3 → ∃ i, i < N (v 999) ∧ v (1212 + 18 * k + 10) = nI i ∧ v (1000 + 8 * i + 6) = nI k) ∧
  (∀ k, k < N (v 1211) → N (v (1212 + 18 * k)) < N (v 1090)) ∧
  (∀ i, i < N (v 198) → ¬ v 0 < v (199 + 4 * i + 3)) ∧
  (v 2660 = nI 1 ↔ ∃ p, p < N (v 1090) ∧ 0 < (v (1091 + 4 * p + 2)).toInt) ∧
  (v 2655 = tcs v (N (v 1211))) ∧
  (∀ p, N (v 1090) ≤ p → p < 30 → v (1091 + 4 * p) = 0 ∧ v (1091 + 4 * p + 1) = 0 ∧ v (1091 + 4 * p + 2) = 0) ∧
  (∀ k, N (v 1211) ≤ k → k < 80 → v (1212 + 18 * k + 9) = 0 ∧ v (1212 + 18 * k + 14) = 0 ∧ v (1212 + 18 * k + 16) = 0) ∧
  (∀ i, N (v 999) ≤ i → i < 10 → v (1000 + 8 * i + 4) = 0 ∧ v (1000 + 8 * i + 5) = 0 ∧ v (1000 + 8 * i + 7) = 0) ∧
  (∀ b, b < 20 → (v (2666 + 6 * b + 4)).toInt ≤ 1200000 * ((v 0).toInt / 2400))
theorem Cr.mk {v : Nat → Int32} (h0 : ∀ i, i < 10 → (v (1000 + 8 * i + 4)).toInt ≤ 500 * (v 0).toInt) (h1 : ∀ i, i < N (v 999) → 1 ≤ N (v (1000 + 8 * i + 2))) (h2 : ∀ i, i < N (v 999) → v (1000 + 8 * i + 6) = -1 ∨ ∃ k, k < N (v 1211) ∧ v (1000 + 8 * i + 6) = nI k ∧ v (1212 + 18 * k + 10) = nI i ∧ 1 ≤ N (v (1212 + 18 * k + 9)) ∧ N (v (1212 + 18 * k + 9)) ≤ 3) (h3 : ∀ k, k < N (v 1211) → 1 ≤ N (v (1212 + 18 * k + 9)) → N (v (1212 + 18 * k + 9)) ≤ 3 → ∃ i, i < N (v 999) ∧ v (1212 + 18 * k + 10) = nI i ∧ v (1000 + 8 * i + 6) = nI k) (h4 : ∀ k, k < N (v 1211) → N (v (1212 + 18 * k)) < N (v 1090)) (h5 : ∀ i, i < N (v 198) → ¬ v 0 < v (199 + 4 * i + 3)) (h6 : v 2660 = nI 1 ↔ ∃ p, p < N (v 1090) ∧ 0 < (v (1091 + 4 * p + 2)).toInt) (h7 : v 2655 = tcs v (N (v 1211))) (h8 : ∀ p, N (v 1090) ≤ p → p < 30 → v (1091 + 4 * p) = 0 ∧ v (1091 + 4 * p + 1) = 0 ∧ v (1091 + 4 * p + 2) = 0) (h9 : ∀ k, N (v 1211) ≤ k → k < 80 → v (1212 + 18 * k + 9) = 0 ∧ v (1212 + 18 * k + 14) = 0 ∧ v (1212 + 18 * k + 16) = 0) (h10 : ∀ i, N (v 999) ≤ i → i < 10 → v (1000 + 8 * i + 4) = 0 ∧ v (1000 + 8 * i + 5) = 0 ∧ v (1000 + 8 * i + 7) = 0) (h11 : ∀ b, b < 20 → (v (2666 + 6 * b + 4)).toInt ≤ 1200000 * ((v 0).toInt / 2400)) : Cr v := by
  unfold Cr
  exact ⟨h0, h1, h2, h3, h4, h5, h6, h7, h8, h9, h10, h11⟩
theorem Cr.ld {v : Nat → Int32} (h : Cr v) : ∀ i, i < 10 → (v (1000 + 8 * i + 4)).toInt ≤ 500 * (v 0).toInt := (show _ from by unfold Cr at h; exact h.1)
theorem Cr.cr {v : Nat → Int32} (h : Cr v) : ∀ i, i < N (v 999) → 1 ≤ N (v (1000 + 8 * i + 2)) := (show _ from by unfold Cr at h; exact h.2.1)
theorem Cr.hs {v : Nat → Int32} (h : Cr v) : ∀ i, i < N (v 999) → v (1000 + 8 * i + 6) = -1 ∨ ∃ k, k < N (v 1211) ∧ v (1000 + 8 * i + 6) = nI k ∧ v (1212 + 18 * k + 10) = nI i ∧ 1 ≤ N (v (1212 + 18 * k + 9)) ∧ N (v (1212 + 18 * k + 9)) ≤ 3 := (show _ from by unfold Cr at h; exact h.2.2.1)
theorem Cr.sh {v : Nat → Int32} (h : Cr v) : ∀ k, k < N (v 1211) → 1 ≤ N (v (1212 + 18 * k + 9)) → N (v (1212 + 18 * k + 9)) ≤ 3 → ∃ i, i < N (v 999) ∧ v (1212 + 18 * k + 10) = nI i ∧ v (1000 + 8 * i + 6) = nI k := (show _ from by unfold Cr at h; exact h.2.2.2.1)
theorem Cr.ow {v : Nat → Int32} (h : Cr v) : ∀ k, k < N (v 1211) → N (v (1212 + 18 * k)) < N (v 1090) := (show _ from by unfold Cr at h; exact h.2.2.2.2.1)
theorem Cr.sd {v : Nat → Int32} (h : Cr v) : ∀ i, i < N (v 198) → ¬ v 0 < v (199 + 4 * i + 3) := (show _ from by unfold Cr at h; exact h.2.2.2.2.2.1)
theorem Cr.ev {v : Nat → Int32} (h : Cr v) : v 2660 = nI 1 ↔ ∃ p, p < N (v 1090) ∧ 0 < (v (1091 + 4 * p + 2)).toInt := (show _ from by unfold Cr at h; exact h.2.2.2.2.2.2.1)
theorem Cr.tc {v : Nat → Int32} (h : Cr v) : v 2655 = tcs v (N (v 1211)) := (show _ from by unfold Cr at h; exact h.2.2.2.2.2.2.2.1)
theorem Cr.zp {v : Nat → Int32} (h : Cr v) : ∀ p, N (v 1090) ≤ p → p < 30 → v (1091 + 4 * p) = 0 ∧ v (1091 + 4 * p + 1) = 0 ∧ v (1091 + 4 * p + 2) = 0 := (show _ from by unfold Cr at h; exact h.2.2.2.2.2.2.2.2.1)
theorem Cr.zs {v : Nat → Int32} (h : Cr v) : ∀ k, N (v 1211) ≤ k → k < 80 → v (1212 + 18 * k + 9) = 0 ∧ v (1212 + 18 * k + 14) = 0 ∧ v (1212 + 18 * k + 16) = 0 := (show _ from by unfold Cr at h; exact h.2.2.2.2.2.2.2.2.2.1)
theorem Cr.zb {v : Nat → Int32} (h : Cr v) : ∀ i, N (v 999) ≤ i → i < 10 → v (1000 + 8 * i + 4) = 0 ∧ v (1000 + 8 * i + 5) = 0 ∧ v (1000 + 8 * i + 7) = 0 := (show _ from by unfold Cr at h; exact h.2.2.2.2.2.2.2.2.2.2.1)
theorem Cr.oe {v : Nat → Int32} (h : Cr v) : ∀ b, b < 20 → (v (2666 + 6 * b + 4)).toInt ≤ 1200000 * ((v 0).toInt / 2400) := (show _ from by unfold Cr at h; exact h.2.2.2.2.2.2.2.2.2.2.2)
/-- places that Cr speaks of -/
def crp (v : Nat → Int32) (k : Nat) : Prop := k = 0 ∨ k = 198 ∨ (199 ≤ k ∧ k < 999 ∧ (k - 199) % 4 = 3 ∧ (k - 199) / 4 < N (v 198)) ∨ k = 999 ∨ (1000 ≤ k ∧ k < 1080 ∧ (((k - 1000) / 8 < N (v 999) ∧ ((k - 1000) % 8 = 2 ∨ (k - 1000) % 8 = 6)) ∨ (k - 1000) % 8 = 4 ∨ (k - 1000) % 8 = 5 ∨ (k - 1000) % 8 = 7)) ∨ k = 1090 ∨ (1091 ≤ k ∧ k < 1211 ∧ (k - 1091) % 4 < 3) ∨ k = 1211 ∨ (1212 ≤ k ∧ k < 2652 ∧ (((k - 1212) / 18 < N (v 1211) ∧ ((k - 1212) % 18 = 0 ∨ (k - 1212) % 18 = 10)) ∨ (k - 1212) % 18 = 9 ∨ (k - 1212) % 18 = 14 ∨ (k - 1212) % 18 = 16)) ∨ k = 2655 ∨ k = 2660 ∨ (2666 ≤ k ∧ k < 2786 ∧ (k - 2666) % 6 = 4)
theorem crp_0 {v : Nat → Int32} : crp v 0 := Or.inl (rfl)
theorem crp_198 {v : Nat → Int32} : crp v 198 := Or.inr (Or.inl (rfl))
theorem crp_999 {v : Nat → Int32} : crp v 999 := Or.inr (Or.inr (Or.inr (Or.inl (rfl))))
theorem crp_1090 {v : Nat → Int32} : crp v 1090 := Or.inr (Or.inr (Or.inr (Or.inr (Or.inr (Or.inl (rfl))))))
theorem crp_1211 {v : Nat → Int32} : crp v 1211 := Or.inr (Or.inr (Or.inr (Or.inr (Or.inr (Or.inr (Or.inr (Or.inl (rfl))))))))
theorem crp_2655 {v : Nat → Int32} : crp v 2655 := Or.inr (Or.inr (Or.inr (Or.inr (Or.inr (Or.inr (Or.inr (Or.inr (Or.inr (Or.inl (rfl))))))))))
theorem crp_2660 {v : Nat → Int32} : crp v 2660 := Or.inr (Or.inr (Or.inr (Or.inr (Or.inr (Or.inr (Or.inr (Or.inr (Or.inr (Or.inr (Or.inl (rfl)))))))))))
theorem crp_d {v : Nat → Int32} {i : Nat} (hi : i < 200) (h : i < N (v 198)) : crp v (199 + 4 * i + 3) := Or.inr (Or.inr (Or.inl (⟨by omega, by omega, by omega, by omega⟩)))
theorem crp_b {v : Nat → Int32} {i f : Nat} (hi : i < 10) (hf : f < 8) (h : (i < N (v 999) ∧ (f = 2 ∨ f = 6)) ∨ f = 4 ∨ f = 5 ∨ f = 7) : crp v (1000 + 8 * i + f) := Or.inr (Or.inr (Or.inr (Or.inr (Or.inl (⟨by omega, by omega, by omega⟩)))))
theorem crp_p {v : Nat → Int32} {i f : Nat} (hi : i < 30) (hf : f < 3) : crp v (1091 + 4 * i + f) := Or.inr (Or.inr (Or.inr (Or.inr (Or.inr (Or.inr (Or.inl (⟨by omega, by omega, by omega⟩)))))))
theorem crp_s {v : Nat → Int32} {i f : Nat} (hi : i < 80) (hf : f < 18) (h : (i < N (v 1211) ∧ (f = 0 ∨ f = 10)) ∨ f = 9 ∨ f = 14 ∨ f = 16) : crp v (1212 + 18 * i + f) := Or.inr (Or.inr (Or.inr (Or.inr (Or.inr (Or.inr (Or.inr (Or.inr (Or.inl (⟨by omega, by omega, by omega⟩)))))))))
theorem crp_o {v : Nat → Int32} {b : Nat} (hb : b < 20) : crp v (2666 + 6 * b + 4) := Or.inr (Or.inr (Or.inr (Or.inr (Or.inr (Or.inr (Or.inr (Or.inr (Or.inr (Or.inr (Or.inr (⟨by omega, by omega, by omega⟩)))))))))))
theorem tcs_same {v v' : Nat → Int32} : ∀ m, (∀ i, i < m → v' (1212 + 18 * i + 16) = v (1212 + 18 * i + 16)) → tcs v' m = tcs v m := by
  intro m
  induction m with
  | zero => intro _; rfl
  | succ m ih => intro h; rw [tcs, tcs, ih (fun i hi => h i (by omega)), h m (by omega)]
theorem Cr.same {v v' : Nat → Int32} (h : Cr v) (hr : Rg v) (e : ∀ k, crp v k → v' k = v k) : Cr v' := by
  have e0 : v' 0 = v 0 := e 0 crp_0
  have e1 : v' 198 = v 198 := e 198 crp_198
  have e2 : v' 999 = v 999 := e 999 crp_999
  have e3 : v' 1090 = v 1090 := e 1090 crp_1090
  have e4 : v' 1211 = v 1211 := e 1211 crp_1211
  have e5 : v' 2655 = v 2655 := e 2655 crp_2655
  have e6 : v' 2660 = v 2660 := e 2660 crp_2660
  have n1 : N (v 198) ≤ 200 := by have := (hr.nat (k := 198) (hi := 200) rfl).2; omega
  have n2 : N (v 999) ≤ 10 := by have := (hr.nat (k := 999) (hi := 10) rfl).2; omega
  have n3 : N (v 1090) ≤ 30 := by have := (hr.nat (k := 1090) (hi := 30) rfl).2; omega
  have n4 : N (v 1211) ≤ 80 := by have := (hr.nat (k := 1211) (hi := 80) rfl).2; omega
  have eb : ∀ i f, i < 10 → f < 8 → ((i < N (v 999) ∧ (f = 2 ∨ f = 6)) ∨ f = 4 ∨ f = 5 ∨ f = 7) → v' (1000 + 8 * i + f) = v (1000 + 8 * i + f) := fun i f hi hf q => e _ (crp_b hi hf q)
  have es : ∀ i f, i < 80 → f < 18 → ((i < N (v 1211) ∧ (f = 0 ∨ f = 10)) ∨ f = 9 ∨ f = 14 ∨ f = 16) → v' (1212 + 18 * i + f) = v (1212 + 18 * i + f) := fun i f hi hf q => e _ (crp_s hi hf q)
  have ep : ∀ i f, i < 30 → f < 3 → v' (1091 + 4 * i + f) = v (1091 + 4 * i + f) := fun i f hi hf => e _ (crp_p hi hf)
  have ed : ∀ i, i < 200 → i < N (v 198) → v' (199 + 4 * i + 3) = v (199 + 4 * i + 3) := fun i hi q => e _ (crp_d hi q)
  refine Cr.mk ?_ ?_ ?_ ?_ ?_ ?_ ?_ ?_ ?_ ?_ ?_ ?_
  · intro i hi; rw [eb i 4 hi (by decide) (by omega), e0]; exact h.ld i hi
  · intro i hi; rw [e2] at hi; rw [eb i 2 (by omega) (by decide) (by omega)]; exact h.cr i hi
  · intro i hi
    rw [e2] at hi
    rw [eb i 6 (by omega) (by decide) (by omega), e4]
    rcases h.hs i hi with q | ⟨k, q1, q2, q3, q4, q5⟩
    · exact Or.inl q
    · refine Or.inr ⟨k, q1, q2, ?_, ?_, ?_⟩
      · rw [es k 10 (by omega) (by decide) (by omega)]; exact q3
      · rw [es k 9 (by omega) (by decide) (by omega)]; exact q4
      · rw [es k 9 (by omega) (by decide) (by omega)]; exact q5
  · intro k hk
    rw [e4] at hk
    rw [es k 9 (by omega) (by decide) (by omega), es k 10 (by omega) (by decide) (by omega), e2]
    intro q1 q2
    obtain ⟨i, p1, p2, p3⟩ := h.sh k hk q1 q2
    exact ⟨i, p1, p2, by rw [eb i 6 (by omega) (by decide) (by omega)]; exact p3⟩
  · intro k hk
    rw [e4] at hk
    rw [show v' (1212 + 18 * k) = v (1212 + 18 * k) from es k 0 (by omega) (by decide) (by omega), e3]
    exact h.ow k hk
  · intro i hi; rw [e1] at hi; rw [ed i (by omega) hi, e0]; exact h.sd i hi
  · rw [e6, e3]
    refine h.ev.trans ⟨fun ⟨p, q1, q2⟩ => ⟨p, q1, ?_⟩, fun ⟨p, q1, q2⟩ => ⟨p, q1, ?_⟩⟩
    · rw [ep p 2 (by omega) (by decide)]; exact q2
    · rw [ep p 2 (by omega) (by decide)] at q2; exact q2
  · rw [e5, e4, tcs_same _ (fun i hi => es i 16 (by omega) (by decide) (by omega))]; exact h.tc
  · intro p q1 q2
    rw [e3] at q1
    rw [show v' (1091 + 4 * p) = v (1091 + 4 * p) from ep p 0 q2 (by decide), ep p 1 q2 (by decide), ep p 2 q2 (by decide)]
    exact h.zp p q1 q2
  · intro k q1 q2
    rw [e4] at q1
    rw [es k 9 q2 (by decide) (by omega), es k 14 q2 (by decide) (by omega), es k 16 q2 (by decide) (by omega)]
    exact h.zs k q1 q2
  · intro i q1 q2
    rw [e2] at q1
    rw [eb i 4 q2 (by decide) (by omega), eb i 5 q2 (by decide) (by omega), eb i 7 q2 (by decide) (by omega)]
    exact h.zb i q1 q2
  · intro b hb
    rw [e (2666 + 6 * b + 4) (crp_o hb), e0]
    exact h.oe b hb
theorem Cr.free {v : Nat → Int32} {k : Nat} {x : Int32} (h : Cr v) (hr : Rg v) (hk : ¬ crp v k) : Cr (upd v k x) := h.same hr (fun j hj => upd_n (fun e => hk (e ▸ hj)))
/-- steps of a condition: the class's number of a step and the reference's -/
def stc (x y : Int32) : Prop := (∃ f, f < 7 ∧ x = nI (12 + f) ∧ y = nI f) ∨ (∃ f, f < 5 ∧ x = nI (7 + f) ∧ y = nI (100 + f)) ∨ (∃ f, f < 5 ∧ x = nI (19 + f) ∧ y = nI (200 + f)) ∨ ∃ f, f < 3 ∧ x = nI (24 + f) ∧ y = nI (300 + f)
/-- how many answers wait behind so many steps (of the class) from a place on; none: too few, or too many -/
def hgt (f : Nat → Int32) (i : Nat) : Nat → Nat → Option Nat
  | 0, h => some h
  | r + 1, h => (hgt f i r h).bind fun g => if f (i + r) = nI 24 then (if 1 ≤ g then some g else none) else if f (i + r) = nI 25 ∨ f (i + r) = nI 26 then (if 2 ≤ g then some (g - 1) else none) else (if g < 20 then some (g + 1) else none)
/-- where the steps of a line begin -/
def bgn (f : Nat → Int32) (i : Nat) : Nat := match i with
  | 0 => 0
  | i + 1 => N (f i)
/-- the class's text at p and the reference's text in the slot a -/
def RAct (τ : cT) (c : cS) (p : Nat) (v : Nat → Int32) (a : Nat) : Prop :=
  (N (v (2812 + 882 * a + 1)) ≤ 20) ∧
  (v (2812 + 882 * a + 1) = nI (N (v (2812 + 882 * a + 1)))) ∧
  (c.1 p 0 = v (2812 + 882 * a + 1)) ∧
  (tl τ (p + 1) = N (v (2812 + 882 * a + 1))) ∧
  (tl τ (p + 2) = N (v (2812 + 882 * a + 1))) ∧
  (tl τ (p + 3) = N (v (2812 + 882 * a + 1))) ∧
  (tl τ (p + 4) ≤ 400) ∧
  (tl τ (p + 5) = tl τ (p + 4)) ∧
  (∀ i, i < N (v (2812 + 882 * a + 1)) → c.1 (p + 1) i = v (2812 + 882 * a + 2 + 4 * i) ∧ ∃ k, k < 8 ∧ c.1 (p + 1) i = nI k) ∧
  (∀ i, i < N (v (2812 + 882 * a + 1)) → c.1 (p + 1) i ≠ nI 4 → c.1 (p + 2) i = v (2812 + 882 * a + 2 + 4 * i + 1) ∧ ∃ k, k < 1000000 ∧ c.1 (p + 2) i = nI k) ∧
  (∀ i, i < N (v (2812 + 882 * a + 1)) → c.1 (p + 1) i = nI 4 → ∃ k d, k < 4 ∧ d < 2 ∧ c.1 (p + 2) i = nI (k + 4 * d) ∧ v (2812 + 882 * a + 2 + 4 * i + 1) = nI (2 * k + d)) ∧
  (∀ i, i < N (v (2812 + 882 * a + 1)) → c.1 (p + 1) i = nI 2 ∨ c.1 (p + 1) i = nI 6 → N (c.1 (p + 2) i) ≤ 100) ∧
  (∀ i, i < N (v (2812 + 882 * a + 1)) → c.1 (p + 1) i = nI 5 → N (c.1 (p + 2) i) ≤ 50) ∧
  (∀ i, i < N (v (2812 + 882 * a + 1)) → c.1 (p + 3) i = v (2812 + 882 * a + 2 + 4 * i + 3) ∧ c.1 (p + 3) i = nI (N (c.1 (p + 3) i)) ∧ bgn (c.1 (p + 3)) i ≤ N (c.1 (p + 3) i) ∧ N (c.1 (p + 3) i) ≤ tl τ (p + 4) ∧ v (2812 + 882 * a + 2 + 4 * i + 2) = nI (bgn (c.1 (p + 3)) i)) ∧
  (∀ j, j < tl τ (p + 4) → stc (c.1 (p + 4) j) (v (2812 + 882 * a + 82 + 2 * j)) ∧ c.1 (p + 5) j = v (2812 + 882 * a + 82 + 2 * j + 1) ∧ ((∃ f, f < 7 ∧ c.1 (p + 4) j = nI (12 + f)) → c.1 (p + 5) j = nI 0)) ∧
  (∀ i, i < N (v (2812 + 882 * a + 1)) → bgn (c.1 (p + 3)) i < N (c.1 (p + 3) i) → hgt (c.1 (p + 4)) (bgn (c.1 (p + 3)) i) (N (c.1 (p + 3) i) - bgn (c.1 (p + 3)) i) 0 = some 1)
theorem RAct.mk {τ : cT} {c : cS} {p : Nat} {v : Nat → Int32} {a : Nat} (h0 : N (v (2812 + 882 * a + 1)) ≤ 20) (h1 : v (2812 + 882 * a + 1) = nI (N (v (2812 + 882 * a + 1)))) (h2 : c.1 p 0 = v (2812 + 882 * a + 1)) (h3 : tl τ (p + 1) = N (v (2812 + 882 * a + 1))) (h4 : tl τ (p + 2) = N (v (2812 + 882 * a + 1))) (h5 : tl τ (p + 3) = N (v (2812 + 882 * a + 1))) (h6 : tl τ (p + 4) ≤ 400) (h7 : tl τ (p + 5) = tl τ (p + 4)) (h8 : ∀ i, i < N (v (2812 + 882 * a + 1)) → c.1 (p + 1) i = v (2812 + 882 * a + 2 + 4 * i) ∧ ∃ k, k < 8 ∧ c.1 (p + 1) i = nI k) (h9 : ∀ i, i < N (v (2812 + 882 * a + 1)) → c.1 (p + 1) i ≠ nI 4 → c.1 (p + 2) i = v (2812 + 882 * a + 2 + 4 * i + 1) ∧ ∃ k, k < 1000000 ∧ c.1 (p + 2) i = nI k) (h10 : ∀ i, i < N (v (2812 + 882 * a + 1)) → c.1 (p + 1) i = nI 4 → ∃ k d, k < 4 ∧ d < 2 ∧ c.1 (p + 2) i = nI (k + 4 * d) ∧ v (2812 + 882 * a + 2 + 4 * i + 1) = nI (2 * k + d)) (h11 : ∀ i, i < N (v (2812 + 882 * a + 1)) → c.1 (p + 1) i = nI 2 ∨ c.1 (p + 1) i = nI 6 → N (c.1 (p + 2) i) ≤ 100) (h12 : ∀ i, i < N (v (2812 + 882 * a + 1)) → c.1 (p + 1) i = nI 5 → N (c.1 (p + 2) i) ≤ 50) (h13 : ∀ i, i < N (v (2812 + 882 * a + 1)) → c.1 (p + 3) i = v (2812 + 882 * a + 2 + 4 * i + 3) ∧ c.1 (p + 3) i = nI (N (c.1 (p + 3) i)) ∧ bgn (c.1 (p + 3)) i ≤ N (c.1 (p + 3) i) ∧ N (c.1 (p + 3) i) ≤ tl τ (p + 4) ∧ v (2812 + 882 * a + 2 + 4 * i + 2) = nI (bgn (c.1 (p + 3)) i)) (h14 : ∀ j, j < tl τ (p + 4) → stc (c.1 (p + 4) j) (v (2812 + 882 * a + 82 + 2 * j)) ∧ c.1 (p + 5) j = v (2812 + 882 * a + 82 + 2 * j + 1) ∧ ((∃ f, f < 7 ∧ c.1 (p + 4) j = nI (12 + f)) → c.1 (p + 5) j = nI 0)) (h15 : ∀ i, i < N (v (2812 + 882 * a + 1)) → bgn (c.1 (p + 3)) i < N (c.1 (p + 3) i) → hgt (c.1 (p + 4)) (bgn (c.1 (p + 3)) i) (N (c.1 (p + 3) i) - bgn (c.1 (p + 3)) i) 0 = some 1) : RAct τ c p v a := by
  unfold RAct
  exact ⟨h0, h1, h2, h3, h4, h5, h6, h7, h8, h9, h10, h11, h12, h13, h14, h15⟩
theorem RAct.ln {τ : cT} {c : cS} {p : Nat} {v : Nat → Int32} {a : Nat} (h : RAct τ c p v a) : N (v (2812 + 882 * a + 1)) ≤ 20 := (show _ from by unfold RAct at h; exact h.1)
theorem RAct.l0 {τ : cT} {c : cS} {p : Nat} {v : Nat → Int32} {a : Nat} (h : RAct τ c p v a) : v (2812 + 882 * a + 1) = nI (N (v (2812 + 882 * a + 1))) := (show _ from by unfold RAct at h; exact h.2.1)
theorem RAct.lc {τ : cT} {c : cS} {p : Nat} {v : Nat → Int32} {a : Nat} (h : RAct τ c p v a) : c.1 p 0 = v (2812 + 882 * a + 1) := (show _ from by unfold RAct at h; exact h.2.2.1)
theorem RAct.t1 {τ : cT} {c : cS} {p : Nat} {v : Nat → Int32} {a : Nat} (h : RAct τ c p v a) : tl τ (p + 1) = N (v (2812 + 882 * a + 1)) := (show _ from by unfold RAct at h; exact h.2.2.2.1)
theorem RAct.t2 {τ : cT} {c : cS} {p : Nat} {v : Nat → Int32} {a : Nat} (h : RAct τ c p v a) : tl τ (p + 2) = N (v (2812 + 882 * a + 1)) := (show _ from by unfold RAct at h; exact h.2.2.2.2.1)
theorem RAct.t3 {τ : cT} {c : cS} {p : Nat} {v : Nat → Int32} {a : Nat} (h : RAct τ c p v a) : tl τ (p + 3) = N (v (2812 + 882 * a + 1)) := (show _ from by unfold RAct at h; exact h.2.2.2.2.2.1)
theorem RAct.t4 {τ : cT} {c : cS} {p : Nat} {v : Nat → Int32} {a : Nat} (h : RAct τ c p v a) : tl τ (p + 4) ≤ 400 := (show _ from by unfold RAct at h; exact h.2.2.2.2.2.2.1)
theorem RAct.t5 {τ : cT} {c : cS} {p : Nat} {v : Nat → Int32} {a : Nat} (h : RAct τ c p v a) : tl τ (p + 5) = tl τ (p + 4) := (show _ from by unfold RAct at h; exact h.2.2.2.2.2.2.2.1)
theorem RAct.kd {τ : cT} {c : cS} {p : Nat} {v : Nat → Int32} {a : Nat} (h : RAct τ c p v a) : ∀ i, i < N (v (2812 + 882 * a + 1)) → c.1 (p + 1) i = v (2812 + 882 * a + 2 + 4 * i) ∧ ∃ k, k < 8 ∧ c.1 (p + 1) i = nI k := (show _ from by unfold RAct at h; exact h.2.2.2.2.2.2.2.2.1)
theorem RAct.nm {τ : cT} {c : cS} {p : Nat} {v : Nat → Int32} {a : Nat} (h : RAct τ c p v a) : ∀ i, i < N (v (2812 + 882 * a + 1)) → c.1 (p + 1) i ≠ nI 4 → c.1 (p + 2) i = v (2812 + 882 * a + 2 + 4 * i + 1) ∧ ∃ k, k < 1000000 ∧ c.1 (p + 2) i = nI k := (show _ from by unfold RAct at h; exact h.2.2.2.2.2.2.2.2.2.1)
theorem RAct.n4 {τ : cT} {c : cS} {p : Nat} {v : Nat → Int32} {a : Nat} (h : RAct τ c p v a) : ∀ i, i < N (v (2812 + 882 * a + 1)) → c.1 (p + 1) i = nI 4 → ∃ k d, k < 4 ∧ d < 2 ∧ c.1 (p + 2) i = nI (k + 4 * d) ∧ v (2812 + 882 * a + 2 + 4 * i + 1) = nI (2 * k + d) := (show _ from by unfold RAct at h; exact h.2.2.2.2.2.2.2.2.2.2.1)
theorem RAct.n2 {τ : cT} {c : cS} {p : Nat} {v : Nat → Int32} {a : Nat} (h : RAct τ c p v a) : ∀ i, i < N (v (2812 + 882 * a + 1)) → c.1 (p + 1) i = nI 2 ∨ c.1 (p + 1) i = nI 6 → N (c.1 (p + 2) i) ≤ 100 := (show _ from by unfold RAct at h; exact h.2.2.2.2.2.2.2.2.2.2.2.1)
theorem RAct.n5 {τ : cT} {c : cS} {p : Nat} {v : Nat → Int32} {a : Nat} (h : RAct τ c p v a) : ∀ i, i < N (v (2812 + 882 * a + 1)) → c.1 (p + 1) i = nI 5 → N (c.1 (p + 2) i) ≤ 50 := (show _ from by unfold RAct at h; exact h.2.2.2.2.2.2.2.2.2.2.2.2.1)
theorem RAct.en {τ : cT} {c : cS} {p : Nat} {v : Nat → Int32} {a : Nat} (h : RAct τ c p v a) : ∀ i, i < N (v (2812 + 882 * a + 1)) → c.1 (p + 3) i = v (2812 + 882 * a + 2 + 4 * i + 3) ∧ c.1 (p + 3) i = nI (N (c.1 (p + 3) i)) ∧ bgn (c.1 (p + 3)) i ≤ N (c.1 (p + 3) i) ∧ N (c.1 (p + 3) i) ≤ tl τ (p + 4) ∧ v (2812 + 882 * a + 2 + 4 * i + 2) = nI (bgn (c.1 (p + 3)) i) := (show _ from by unfold RAct at h; exact h.2.2.2.2.2.2.2.2.2.2.2.2.2.1)
theorem RAct.st {τ : cT} {c : cS} {p : Nat} {v : Nat → Int32} {a : Nat} (h : RAct τ c p v a) : ∀ j, j < tl τ (p + 4) → stc (c.1 (p + 4) j) (v (2812 + 882 * a + 82 + 2 * j)) ∧ c.1 (p + 5) j = v (2812 + 882 * a + 82 + 2 * j + 1) ∧ ((∃ f, f < 7 ∧ c.1 (p + 4) j = nI (12 + f)) → c.1 (p + 5) j = nI 0) := (show _ from by unfold RAct at h; exact h.2.2.2.2.2.2.2.2.2.2.2.2.2.2.1)
theorem RAct.wf {τ : cT} {c : cS} {p : Nat} {v : Nat → Int32} {a : Nat} (h : RAct τ c p v a) : ∀ i, i < N (v (2812 + 882 * a + 1)) → bgn (c.1 (p + 3)) i < N (c.1 (p + 3) i) → hgt (c.1 (p + 4)) (bgn (c.1 (p + 3)) i) (N (c.1 (p + 3) i) - bgn (c.1 (p + 3)) i) 0 = some 1 := (show _ from by unfold RAct at h; exact h.2.2.2.2.2.2.2.2.2.2.2.2.2.2.2)
/-- it speaks of p's six cells and of the slot's numbers behind its day -/
theorem RAct.same {τ τ' : cT} {c c' : cS} {p : Nat} {v v' : Nat → Int32} {a a' : Nat} (h : RAct τ c p v a) (ht : ∀ j, j < 6 → τ' (p + j) = τ (p + j)) (hc : ∀ j, j < 6 → c'.1 (p + j) = c.1 (p + j)) (hv : ∀ k, 0 < k → k < 882 → v' (2812 + 882 * a' + k) = v (2812 + 882 * a + k)) : RAct τ' c' p v' a' := by
  have ht' : ∀ j, j < 6 → tl τ' (p + j) = tl τ (p + j) := fun j hj => by unfold tl; rw [ht j hj]
  have hc0 : c'.1 p = c.1 p := hc 0 (by decide)
  have w1 : v' (2812 + 882 * a' + 1) = v (2812 + 882 * a + 1) := hv 1 (by decide) (by decide)
  have wi : ∀ i f, i < 20 → f < 4 → v' (2812 + 882 * a' + 2 + 4 * i + f) = v (2812 + 882 * a + 2 + 4 * i + f) := fun i f hi hf => by
    have := hv (2 + 4 * i + f) (by omega) (by omega)
    rw [show 2812 + 882 * a' + 2 + 4 * i + f = 2812 + 882 * a' + (2 + 4 * i + f) by omega, show 2812 + 882 * a + 2 + 4 * i + f = 2812 + 882 * a + (2 + 4 * i + f) by omega]
    exact this
  have wj : ∀ i f, i < 400 → f < 2 → v' (2812 + 882 * a' + 82 + 2 * i + f) = v (2812 + 882 * a + 82 + 2 * i + f) := fun i f hi hf => by
    have := hv (82 + 2 * i + f) (by omega) (by omega)
    rw [show 2812 + 882 * a' + 82 + 2 * i + f = 2812 + 882 * a' + (82 + 2 * i + f) by omega, show 2812 + 882 * a + 82 + 2 * i + f = 2812 + 882 * a + (82 + 2 * i + f) by omega]
    exact this
  have l9 := h.ln
  refine RAct.mk (by rw [w1]; exact h.ln) (by rw [w1]; exact h.l0) (by rw [w1, hc0]; exact h.lc) (by rw [w1, ht' 1 (by decide)]; exact h.t1) (by rw [w1, ht' 2 (by decide)]; exact h.t2) (by rw [w1, ht' 3 (by decide)]; exact h.t3) (by rw [ht' 4 (by decide)]; exact h.t4) (by rw [ht' 5 (by decide), ht' 4 (by decide)]; exact h.t5) ?_ ?_ ?_ ?_ ?_ ?_ ?_ ?_
  · intro i hi
    rw [w1] at hi
    rw [hc 1 (by decide), show v' (2812 + 882 * a' + 2 + 4 * i) = v (2812 + 882 * a + 2 + 4 * i) from wi i 0 (by omega) (by decide)]
    exact h.kd i hi
  · intro i hi
    rw [w1] at hi
    rw [hc 1 (by decide), hc 2 (by decide), wi i 1 (by omega) (by decide)]
    exact h.nm i hi
  · intro i hi
    rw [w1] at hi
    rw [hc 1 (by decide), hc 2 (by decide), wi i 1 (by omega) (by decide)]
    exact h.n4 i hi
  · intro i hi
    rw [w1] at hi
    rw [hc 1 (by decide), hc 2 (by decide)]
    exact h.n2 i hi
  · intro i hi
    rw [w1] at hi
    rw [hc 1 (by decide), hc 2 (by decide)]
    exact h.n5 i hi
  · intro i hi
    rw [w1] at hi
    rw [hc 3 (by decide), wi i 3 (by omega) (by decide), wi i 2 (by omega) (by decide), ht' 4 (by decide)]
    exact h.en i hi
  · intro j hj
    rw [ht' 4 (by decide)] at hj
    have := h.t4
    rw [hc 4 (by decide), hc 5 (by decide), wj j 1 (by omega) (by decide), show v' (2812 + 882 * a' + 82 + 2 * j) = v (2812 + 882 * a + 82 + 2 * j) from wj j 0 (by omega) (by decide)]
    exact h.st j hj
  · intro i hi
    rw [w1] at hi
    rw [hc 3 (by decide), hc 4 (by decide)]
    exact h.wf i hi
