/-! THE PURE LAYER: ship (by program wip/whole/shipdec.py) -/
def vsh (v : Nat → Int32) (m : Nat) (a1 a2 a3 a4 a5 a6 a7 a8 z : Int32) : Nat → Int32 := (upd (upd (upd (upd (upd (upd (upd (upd (upd (upd (upd (upd (upd (upd (upd (upd v 1211 (nI (m + 1))) (1212 + 18 * m + 0) a1) (1212 + 18 * m + 1) a2) (1212 + 18 * m + 2) a3) (1212 + 18 * m + 3) a4) (1212 + 18 * m + 4) a5) (1212 + 18 * m + 5) a6) (1212 + 18 * m + 6) a7) (1212 + 18 * m + 7) a8) (1212 + 18 * m + 8) (v 0)) (1212 + 18 * m + 10) (-1)) (1212 + 18 * m + 11) a3) (1212 + 18 * m + 12) (-1)) (1212 + 18 * m + 13) (-1)) (1212 + 18 * m + 15) (-1)) (1212 + 18 * m + 17) z)
theorem vsh_o {v : Nat → Int32} {m k : Nat} {a1 a2 a3 a4 a5 a6 a7 a8 z : Int32} (h : k ≠ 1211) (h0 : k ≠ 1212 + 18 * m + 0) (h1 : k ≠ 1212 + 18 * m + 1) (h2 : k ≠ 1212 + 18 * m + 2) (h3 : k ≠ 1212 + 18 * m + 3) (h4 : k ≠ 1212 + 18 * m + 4) (h5 : k ≠ 1212 + 18 * m + 5) (h6 : k ≠ 1212 + 18 * m + 6) (h7 : k ≠ 1212 + 18 * m + 7) (h8 : k ≠ 1212 + 18 * m + 8) (h10 : k ≠ 1212 + 18 * m + 10) (h11 : k ≠ 1212 + 18 * m + 11) (h12 : k ≠ 1212 + 18 * m + 12) (h13 : k ≠ 1212 + 18 * m + 13) (h15 : k ≠ 1212 + 18 * m + 15) (h17 : k ≠ 1212 + 18 * m + 17) : vsh v m a1 a2 a3 a4 a5 a6 a7 a8 z k = v k := by
  unfold vsh
  rw [upd_n h17, upd_n h15, upd_n h13, upd_n h12, upd_n h11, upd_n h10, upd_n h8, upd_n h7, upd_n h6, upd_n h5, upd_n h4, upd_n h3, upd_n h2, upd_n h1, upd_n h0, upd_n h]
theorem vsh_n {v : Nat → Int32} {m : Nat} {a1 a2 a3 a4 a5 a6 a7 a8 z : Int32} : vsh v m a1 a2 a3 a4 a5 a6 a7 a8 z 1211 = nI (m + 1) := by
  unfold vsh
  rw [upd_n (by omega), upd_n (by omega), upd_n (by omega), upd_n (by omega), upd_n (by omega), upd_n (by omega), upd_n (by omega), upd_n (by omega), upd_n (by omega), upd_n (by omega), upd_n (by omega), upd_n (by omega), upd_n (by omega), upd_n (by omega), upd_n (by omega), upd_s]
theorem vsh_0 {v : Nat → Int32} {m : Nat} {a1 a2 a3 a4 a5 a6 a7 a8 z : Int32} : vsh v m a1 a2 a3 a4 a5 a6 a7 a8 z (1212 + 18 * m + 0) = a1 := by
  unfold vsh
  rw [upd_n (by omega), upd_n (by omega), upd_n (by omega), upd_n (by omega), upd_n (by omega), upd_n (by omega), upd_n (by omega), upd_n (by omega), upd_n (by omega), upd_n (by omega), upd_n (by omega), upd_n (by omega), upd_n (by omega), upd_n (by omega), upd_s]
theorem vsh_1 {v : Nat → Int32} {m : Nat} {a1 a2 a3 a4 a5 a6 a7 a8 z : Int32} : vsh v m a1 a2 a3 a4 a5 a6 a7 a8 z (1212 + 18 * m + 1) = a2 := by
  unfold vsh
  rw [upd_n (by omega), upd_n (by omega), upd_n (by omega), upd_n (by omega), upd_n (by omega), upd_n (by omega), upd_n (by omega), upd_n (by omega), upd_n (by omega), upd_n (by omega), upd_n (by omega), upd_n (by omega), upd_n (by omega), upd_s]
theorem vsh_2 {v : Nat → Int32} {m : Nat} {a1 a2 a3 a4 a5 a6 a7 a8 z : Int32} : vsh v m a1 a2 a3 a4 a5 a6 a7 a8 z (1212 + 18 * m + 2) = a3 := by
  unfold vsh
  rw [upd_n (by omega), upd_n (by omega), upd_n (by omega), upd_n (by omega), upd_n (by omega), upd_n (by omega), upd_n (by omega), upd_n (by omega), upd_n (by omega), upd_n (by omega), upd_n (by omega), upd_n (by omega), upd_s]
theorem vsh_3 {v : Nat → Int32} {m : Nat} {a1 a2 a3 a4 a5 a6 a7 a8 z : Int32} : vsh v m a1 a2 a3 a4 a5 a6 a7 a8 z (1212 + 18 * m + 3) = a4 := by
  unfold vsh
  rw [upd_n (by omega), upd_n (by omega), upd_n (by omega), upd_n (by omega), upd_n (by omega), upd_n (by omega), upd_n (by omega), upd_n (by omega), upd_n (by omega), upd_n (by omega), upd_n (by omega), upd_s]
theorem vsh_4 {v : Nat → Int32} {m : Nat} {a1 a2 a3 a4 a5 a6 a7 a8 z : Int32} : vsh v m a1 a2 a3 a4 a5 a6 a7 a8 z (1212 + 18 * m + 4) = a5 := by
  unfold vsh
  rw [upd_n (by omega), upd_n (by omega), upd_n (by omega), upd_n (by omega), upd_n (by omega), upd_n (by omega), upd_n (by omega), upd_n (by omega), upd_n (by omega), upd_n (by omega), upd_s]
theorem vsh_5 {v : Nat → Int32} {m : Nat} {a1 a2 a3 a4 a5 a6 a7 a8 z : Int32} : vsh v m a1 a2 a3 a4 a5 a6 a7 a8 z (1212 + 18 * m + 5) = a6 := by
  unfold vsh
  rw [upd_n (by omega), upd_n (by omega), upd_n (by omega), upd_n (by omega), upd_n (by omega), upd_n (by omega), upd_n (by omega), upd_n (by omega), upd_n (by omega), upd_s]
theorem vsh_6 {v : Nat → Int32} {m : Nat} {a1 a2 a3 a4 a5 a6 a7 a8 z : Int32} : vsh v m a1 a2 a3 a4 a5 a6 a7 a8 z (1212 + 18 * m + 6) = a7 := by
  unfold vsh
  rw [upd_n (by omega), upd_n (by omega), upd_n (by omega), upd_n (by omega), upd_n (by omega), upd_n (by omega), upd_n (by omega), upd_n (by omega), upd_s]
theorem vsh_7 {v : Nat → Int32} {m : Nat} {a1 a2 a3 a4 a5 a6 a7 a8 z : Int32} : vsh v m a1 a2 a3 a4 a5 a6 a7 a8 z (1212 + 18 * m + 7) = a8 := by
  unfold vsh
  rw [upd_n (by omega), upd_n (by omega), upd_n (by omega), upd_n (by omega), upd_n (by omega), upd_n (by omega), upd_n (by omega), upd_s]
theorem vsh_8 {v : Nat → Int32} {m : Nat} {a1 a2 a3 a4 a5 a6 a7 a8 z : Int32} : vsh v m a1 a2 a3 a4 a5 a6 a7 a8 z (1212 + 18 * m + 8) = (v 0) := by
  unfold vsh
  rw [upd_n (by omega), upd_n (by omega), upd_n (by omega), upd_n (by omega), upd_n (by omega), upd_n (by omega), upd_s]
theorem vsh_10 {v : Nat → Int32} {m : Nat} {a1 a2 a3 a4 a5 a6 a7 a8 z : Int32} : vsh v m a1 a2 a3 a4 a5 a6 a7 a8 z (1212 + 18 * m + 10) = (-1) := by
  unfold vsh
  rw [upd_n (by omega), upd_n (by omega), upd_n (by omega), upd_n (by omega), upd_n (by omega), upd_s]
theorem vsh_11 {v : Nat → Int32} {m : Nat} {a1 a2 a3 a4 a5 a6 a7 a8 z : Int32} : vsh v m a1 a2 a3 a4 a5 a6 a7 a8 z (1212 + 18 * m + 11) = a3 := by
  unfold vsh
  rw [upd_n (by omega), upd_n (by omega), upd_n (by omega), upd_n (by omega), upd_s]
theorem vsh_12 {v : Nat → Int32} {m : Nat} {a1 a2 a3 a4 a5 a6 a7 a8 z : Int32} : vsh v m a1 a2 a3 a4 a5 a6 a7 a8 z (1212 + 18 * m + 12) = (-1) := by
  unfold vsh
  rw [upd_n (by omega), upd_n (by omega), upd_n (by omega), upd_s]
theorem vsh_13 {v : Nat → Int32} {m : Nat} {a1 a2 a3 a4 a5 a6 a7 a8 z : Int32} : vsh v m a1 a2 a3 a4 a5 a6 a7 a8 z (1212 + 18 * m + 13) = (-1) := by
  unfold vsh
  rw [upd_n (by omega), upd_n (by omega), upd_s]
theorem vsh_15 {v : Nat → Int32} {m : Nat} {a1 a2 a3 a4 a5 a6 a7 a8 z : Int32} : vsh v m a1 a2 a3 a4 a5 a6 a7 a8 z (1212 + 18 * m + 15) = (-1) := by
  unfold vsh
  rw [upd_n (by omega), upd_s]
theorem vsh_17 {v : Nat → Int32} {m : Nat} {a1 a2 a3 a4 a5 a6 a7 a8 z : Int32} : vsh v m a1 a2 a3 a4 a5 a6 a7 a8 z (1212 + 18 * m + 17) = z := by
  unfold vsh
  rw [upd_s]
def csa (c : cS) (q : Nat) (a1 a2 a3 a4 a5 a6 a7 a8 : Int32) : cS := (cp (cp (cp (cp (cp (cp (cp (cp c q 0 a2) q 1 a3) q 2 a4) q 3 a7) q 4 a5) q 5 a6) q 6 a1) q 7 a8)
def csh (c : cS) (q p : Nat) (a1 a2 a3 a4 a5 a6 a7 a8 h : Int32) : cS := (cp (cp (cp (cp (cp (cp (cp (cp (cp (cp (cq (csa c q a1 a2 a3 a4 a5 a6 a7 a8) q 8 (some p)) q 9 h) q 10 (nI 0)) q 11 (-1)) q 12 a3) q 13 (-1)) q 14 (-1)) q 15 (nI 0)) q 16 (nI 0)) q 17 (nI 0)) q 18 (nI 0))
theorem csa_o {c : cS} {q a : Nat} {a1 a2 a3 a4 a5 a6 a7 a8 : Int32} (h : a ≠ q) : (csa c q a1 a2 a3 a4 a5 a6 a7 a8).1 a = c.1 a := by
  unfold csa
  rw [cp_1 _ h, cp_1 _ h, cp_1 _ h, cp_1 _ h, cp_1 _ h, cp_1 _ h, cp_1 _ h, cp_1 _ h]
theorem csh_o {c : cS} {q p a : Nat} {a1 a2 a3 a4 a5 a6 a7 a8 h : Int32} (e : a ≠ q) : (csh c q p a1 a2 a3 a4 a5 a6 a7 a8 h).1 a = c.1 a := by
  unfold csh
  rw [cp_1 _ e, cp_1 _ e, cp_1 _ e, cp_1 _ e, cp_1 _ e, cp_1 _ e, cp_1 _ e, cp_1 _ e, cp_1 _ e, cp_1 _ e]
  exact csa_o e
theorem csh_2 {c : cS} {q p a : Nat} {a1 a2 a3 a4 a5 a6 a7 a8 h : Int32} (e : a ≠ q) : (csh c q p a1 a2 a3 a4 a5 a6 a7 a8 h).2 a = c.2 a := cq_1 _ e
theorem csh_8 {c : cS} {q p : Nat} {a1 a2 a3 a4 a5 a6 a7 a8 h : Int32} : (csh c q p a1 a2 a3 a4 a5 a6 a7 a8 h).2 q 8 = some p := by
  show (cq (csa c q a1 a2 a3 a4 a5 a6 a7 a8) q 8 (some p)).2 q 8 = some p
  rw [cq_q, va_up_self]
theorem csh_f0 {c : cS} {q p : Nat} {a1 a2 a3 a4 a5 a6 a7 a8 h : Int32} : (csh c q p a1 a2 a3 a4 a5 a6 a7 a8 h).1 q 0 = a2 := by
  unfold csh csa cq
  simp only [cp_q]
  rfl
theorem csh_f1 {c : cS} {q p : Nat} {a1 a2 a3 a4 a5 a6 a7 a8 h : Int32} : (csh c q p a1 a2 a3 a4 a5 a6 a7 a8 h).1 q 1 = a3 := by
  unfold csh csa cq
  simp only [cp_q]
  rfl
theorem csh_f2 {c : cS} {q p : Nat} {a1 a2 a3 a4 a5 a6 a7 a8 h : Int32} : (csh c q p a1 a2 a3 a4 a5 a6 a7 a8 h).1 q 2 = a4 := by
  unfold csh csa cq
  simp only [cp_q]
  rfl
theorem csh_f3 {c : cS} {q p : Nat} {a1 a2 a3 a4 a5 a6 a7 a8 h : Int32} : (csh c q p a1 a2 a3 a4 a5 a6 a7 a8 h).1 q 3 = a7 := by
  unfold csh csa cq
  simp only [cp_q]
  rfl
theorem csh_f4 {c : cS} {q p : Nat} {a1 a2 a3 a4 a5 a6 a7 a8 h : Int32} : (csh c q p a1 a2 a3 a4 a5 a6 a7 a8 h).1 q 4 = a5 := by
  unfold csh csa cq
  simp only [cp_q]
  rfl
theorem csh_f5 {c : cS} {q p : Nat} {a1 a2 a3 a4 a5 a6 a7 a8 h : Int32} : (csh c q p a1 a2 a3 a4 a5 a6 a7 a8 h).1 q 5 = a6 := by
  unfold csh csa cq
  simp only [cp_q]
  rfl
theorem csh_f6 {c : cS} {q p : Nat} {a1 a2 a3 a4 a5 a6 a7 a8 h : Int32} : (csh c q p a1 a2 a3 a4 a5 a6 a7 a8 h).1 q 6 = a1 := by
  unfold csh csa cq
  simp only [cp_q]
  rfl
theorem csh_f7 {c : cS} {q p : Nat} {a1 a2 a3 a4 a5 a6 a7 a8 h : Int32} : (csh c q p a1 a2 a3 a4 a5 a6 a7 a8 h).1 q 7 = a8 := by
  unfold csh csa cq
  simp only [cp_q]
  rfl
theorem csh_f9 {c : cS} {q p : Nat} {a1 a2 a3 a4 a5 a6 a7 a8 h : Int32} : (csh c q p a1 a2 a3 a4 a5 a6 a7 a8 h).1 q 9 = h := by
  unfold csh csa cq
  simp only [cp_q]
  rfl
theorem csh_f10 {c : cS} {q p : Nat} {a1 a2 a3 a4 a5 a6 a7 a8 h : Int32} : (csh c q p a1 a2 a3 a4 a5 a6 a7 a8 h).1 q 10 = nI 0 := by
  unfold csh csa cq
  simp only [cp_q]
  rfl
theorem csh_f11 {c : cS} {q p : Nat} {a1 a2 a3 a4 a5 a6 a7 a8 h : Int32} : (csh c q p a1 a2 a3 a4 a5 a6 a7 a8 h).1 q 11 = -1 := by
  unfold csh csa cq
  simp only [cp_q]
  rfl
theorem csh_f12 {c : cS} {q p : Nat} {a1 a2 a3 a4 a5 a6 a7 a8 h : Int32} : (csh c q p a1 a2 a3 a4 a5 a6 a7 a8 h).1 q 12 = a3 := by
  unfold csh csa cq
  simp only [cp_q]
  rfl
theorem csh_f13 {c : cS} {q p : Nat} {a1 a2 a3 a4 a5 a6 a7 a8 h : Int32} : (csh c q p a1 a2 a3 a4 a5 a6 a7 a8 h).1 q 13 = -1 := by
  unfold csh csa cq
  simp only [cp_q]
  rfl
theorem csh_f14 {c : cS} {q p : Nat} {a1 a2 a3 a4 a5 a6 a7 a8 h : Int32} : (csh c q p a1 a2 a3 a4 a5 a6 a7 a8 h).1 q 14 = -1 := by
  unfold csh csa cq
  simp only [cp_q]
  rfl
theorem csh_f15 {c : cS} {q p : Nat} {a1 a2 a3 a4 a5 a6 a7 a8 h : Int32} : (csh c q p a1 a2 a3 a4 a5 a6 a7 a8 h).1 q 15 = nI 0 := by
  unfold csh csa cq
  simp only [cp_q]
  rfl
theorem csh_f16 {c : cS} {q p : Nat} {a1 a2 a3 a4 a5 a6 a7 a8 h : Int32} : (csh c q p a1 a2 a3 a4 a5 a6 a7 a8 h).1 q 16 = nI 0 := by
  unfold csh csa cq
  simp only [cp_q]
  rfl
theorem csh_f17 {c : cS} {q p : Nat} {a1 a2 a3 a4 a5 a6 a7 a8 h : Int32} : (csh c q p a1 a2 a3 a4 a5 a6 a7 a8 h).1 q 17 = nI 0 := by
  unfold csh csa cq
  simp only [cp_q]
  rfl
theorem csh_f18 {c : cS} {q p : Nat} {a1 a2 a3 a4 a5 a6 a7 a8 h : Int32} : (csh c q p a1 a2 a3 a4 a5 a6 a7 a8 h).1 q 18 = nI 0 := by
  unfold csh csa cq
  simp only [cp_q]
  rfl
section ST
variable {F : Nat} {x : Nat → Int32} {τ : cT} {n : Nat} {c : cS} {s : rs_S}
theorem RB.shipped {v : Nat → Int32} {k1 k2 k3 k4 k5 k6 k7 k8 : Nat} (h : RB τ n c 10 v) (hI : LI τ n) (hm : N (v 1211) < 80) (h1 : k1 < N (v 1090)) (h2 : k2 ≤ 5) (h3 : k3 ≤ 20000) (h4 : k4 ≤ 900) (h5 : k5 ≤ 80) (h6 : k6 ≤ 80) (h7 : k7 ≤ 1) (h8 : k8 ≤ 1000000) : RB τ n (cp (csh c (50 + N (v 1211)) (ap c 10 (ao v (v 0 / nI 24) (N (v 2811)))) (nI k1) (nI k2) (nI k3) (nI k4) (nI k5) (nI k6) (nI k7) (nI k8) (v 0)) 37 3 (nI (N (v 1211) + 1))) 10 (vsh v (N (v 1211)) (nI k1) (nI k2) (nI k3) (nI k4) (nI k5) (nI k6) (nI k7) (nI k8) (eC (ao v (v 0 / nI 24) (N (v 2811))))) := by
  have C := h.cr
  have r := h.rg
  have rb := r.b
  obtain ⟨z9, z14, z16⟩ := C.zs _ (Nat.le_refl _) hm
  have hsh := h.shp
  have hbk := h.bak
  have hlw := h.law
  have hp1 := h.pl
  have hs1 := C.hs
  have hs2 := C.sh
  have how := C.ow
  have htc := C.tc
  have htx := h.txt
  generalize em : N (v 1211) = m at *
  generalize ez : ao v (v 0 / nI 24) (N (v 2811)) = z
  generalize ev : vsh v m (nI k1) (nI k2) (nI k3) (nI k4) (nI k5) (nI k6) (nI k7) (nI k8) (eC z) = v'
  generalize ec : cp (csh c (50 + m) (ap c 10 z) (nI k1) (nI k2) (nI k3) (nI k4) (nI k5) (nI k6) (nI k7) (nI k8) (v 0)) 37 3 (nI (m + 1)) = c'
  have hu : ∀ k, k < 1211 ∨ 2652 ≤ k → v' k = v k := fun k hk => by rw [← ev]; exact vsh_o (by omega) (by omega) (by omega) (by omega) (by omega) (by omega) (by omega) (by omega) (by omega) (by omega) (by omega) (by omega) (by omega) (by omega) (by omega) (by omega)
  have hi : ∀ i f, i ≠ m → f < 18 → v' (1212 + 18 * i + f) = v (1212 + 18 * i + f) := fun i f h0 hf => by rw [← ev]; exact vsh_o (by omega) (by omega) (by omega) (by omega) (by omega) (by omega) (by omega) (by omega) (by omega) (by omega) (by omega) (by omega) (by omega) (by omega) (by omega) (by omega)
  have u9 : v' (1212 + 18 * m + 9) = 0 := by rw [← z9, ← ev]; exact vsh_o (by omega) (by omega) (by omega) (by omega) (by omega) (by omega) (by omega) (by omega) (by omega) (by omega) (by omega) (by omega) (by omega) (by omega) (by omega) (by omega)
  have u14 : v' (1212 + 18 * m + 14) = 0 := by rw [← z14, ← ev]; exact vsh_o (by omega) (by omega) (by omega) (by omega) (by omega) (by omega) (by omega) (by omega) (by omega) (by omega) (by omega) (by omega) (by omega) (by omega) (by omega) (by omega)
  have u16 : v' (1212 + 18 * m + 16) = 0 := by rw [← z16, ← ev]; exact vsh_o (by omega) (by omega) (by omega) (by omega) (by omega) (by omega) (by omega) (by omega) (by omega) (by omega) (by omega) (by omega) (by omega) (by omega) (by omega) (by omega)
  have u0 : v' (1212 + 18 * m) = nI k1 := by rw [← ev]; exact vsh_0
  have u17 : v' (1212 + 18 * m + 17) = eC z := by rw [← ev]; exact vsh_17
  have un0 : v' 1211 = nI (m + 1) := by rw [← ev]; exact vsh_n
  have un : N (v' 1211) = m + 1 := by rw [un0, N_nI (by omega)]
  have hc : ∀ o, o ≠ 27 → o ≠ 40 + m → c'.1 (10 + o) = c.1 (10 + o) := fun o o1 o2 => by rw [← ec, cp_1 _ (by omega), csh_o (by omega)]
  have hc2 : ∀ q, q ≠ 50 + m → c'.2 q = c.2 q := fun q hq => by rw [← ec, cp_2]; exact csh_2 hq
  have hw : Nw c c' := ⟨fun q hq => by rw [← ec, cp_1 _ (by omega), csh_o (by omega)], fun q hq => hc2 q (by omega)⟩
  have hzl : ∀ j, z = some j → j < N (v 2811) := fun j hj => ao_lt (ez.trans hj)
  have hh := h.n0
  refine RB.mk ?_ ?_ ?_ (h.ber_s (fun k _ _ => hu k (by omega)) (fun o _ _ j _ => by rw [hc o (by omega) (by omega)])) ?_ ?_ ?_ (h.txt_s (fun k _ _ => hu k (by omega)) (hc 25 (by omega) (by omega)) (hc2 34 (by omega)) (hw.as hI)) (h.prp_s (fun k _ _ => hu k (by omega)) (hu _ (by omega)) (hc2 27 (by omega)) (hw.as hI)) (h.snd_s (hu _ (by omega)) (fun k _ _ => hu k (by omega)) (hc 16 (by omega) (by omega))) (h.bus_s (hu _ (by omega)) (fun k _ _ => hu k (by omega)) (hc 120 (by omega) (by omega)))
  · rw [← ev]
    have p0 := r.put (ok_n (k := 1211) (j := m + 1) (lo := 0) (hi := 80) rfl (by omega) (by omega) (by omega))
    have p1 := p0.put (ok_n (j := k1) (rg_s (f := 0) hm (by decide)) (by show (0 : Int) ≤ _; omega) (show (k1 : Int) ≤ 29 by omega) (by omega))
    have p2 := p1.put (ok_n (j := k2) (rg_s (f := 1) hm (by decide)) (by show (0 : Int) ≤ _; omega) (show (k2 : Int) ≤ 5 by omega) (by omega))
    have p3 := p2.put (ok_n (j := k3) (rg_s (f := 2) hm (by decide)) (by show (0 : Int) ≤ _; omega) (show (k3 : Int) ≤ 20000 by omega) (by omega))
    have p4 := p3.put (ok_n (j := k4) (rg_s (f := 3) hm (by decide)) (by show (0 : Int) ≤ _; omega) (show (k4 : Int) ≤ 900 by omega) (by omega))
    have p5 := p4.put (ok_n (j := k5) (rg_s (f := 4) hm (by decide)) (by show (0 : Int) ≤ _; omega) (show (k5 : Int) ≤ 80 by omega) (by omega))
    have p6 := p5.put (ok_n (j := k6) (rg_s (f := 5) hm (by decide)) (by show (0 : Int) ≤ _; omega) (show (k6 : Int) ≤ 80 by omega) (by omega))
    have p7 := p6.put (ok_n (j := k7) (rg_s (f := 6) hm (by decide)) (by show (0 : Int) ≤ _; omega) (show (k7 : Int) ≤ 1 by omega) (by omega))
    have p8 := p7.put (ok_n (j := k8) (rg_s (f := 7) hm (by decide)) (by show (0 : Int) ≤ _; omega) (show (k8 : Int) ≤ 1000000 by omega) (by omega))
    have p9 := p8.put (k := 1212 + 18 * m + 8) (x := v 0) (by rw [hh.1]; exact ok_n (rg_s (f := 8) hm (by decide)) (by show (0 : Int) ≤ _; omega) (show ((N (v 0) : Nat) : Int) ≤ 30000 by omega) (by omega))
    have p10 := p9.put (ok_m (k := 1212 + 18 * m + 10) (rg_s (f := 10) hm (by decide)) (by decide))
    have p11 := p10.put (ok_n (j := k3) (rg_s (f := 11) hm (by decide)) (by show (0 : Int) ≤ _; omega) (show (k3 : Int) ≤ 20000 by omega) (by omega))
    have p12 := p11.put (k := 1212 + 18 * m + 12) (x := -1) (rg_any (rg_s (f := 12) hm (by decide)))
    have p13 := p12.put (ok_m (k := 1212 + 18 * m + 13) (rg_s (f := 13) hm (by decide)) (by decide))
    have p14 := p13.put (ok_m (k := 1212 + 18 * m + 15) (rg_s (f := 15) hm (by decide)) (by decide))
    have p15 := p14.put (k := 1212 + 18 * m + 17) (x := eC z) (by
      cases z with
      | none => exact ok_m (rg_s (f := 17) hm (by decide)) (by decide)
      | some j => have := hzl j rfl; exact ok_n (rg_s (f := 17) hm (by decide)) (by show (-1 : Int) ≤ _; omega) (show (j : Int) ≤ 19 by omega) (by omega))
    exact p15
  · refine Cr.mk (C.ld_s (hu _ (by omega)) (fun k _ _ => hu k (by omega))) (C.cr_s r (fun k _ _ => hu k (by omega))) ?_ ?_ ?_ (C.sd_s r (hu _ (by omega)) (fun k _ _ => hu k (by omega))) (C.ev_s r (hu _ (by omega)) (fun k _ _ => hu k (by omega))) ?_ (C.zp_s (fun k _ _ => hu k (by omega))) ?_ (C.zb_s (fun k _ _ => hu k (by omega))) (C.oe_s (hu _ (by omega)) (fun k _ _ => hu k (by omega)))
    · intro i hi9
      rw [hu 999 (by omega)] at hi9
      rw [hu (1000 + 8 * i + 6) (by omega), un]
      rcases hs1 i hi9 with q | ⟨k, q1, q2, q3, q4, q5⟩
      · exact Or.inl q
      · exact Or.inr ⟨k, by omega, q2, by rw [hi k 10 (by omega) (by decide)]; exact q3, by rw [hi k 9 (by omega) (by decide)]; exact q4, by rw [hi k 9 (by omega) (by decide)]; exact q5⟩
    · intro k hk
      rw [un] at hk
      by_cases e : k = m
      · subst e
        rw [u9]
        intro q1 _
        exact absurd q1 (by decide)
      · rw [hi k 9 e (by decide), hi k 10 e (by decide), hu 999 (by omega)]
        intro q1 q2
        obtain ⟨i, p1, p2, p3⟩ := hs2 k (by omega) q1 q2
        exact ⟨i, p1, p2, by rw [hu _ (by omega)]; exact p3⟩
    · intro k hk
      rw [un] at hk
      rw [hu 1090 (by omega)]
      by_cases e : k = m
      · subst e; rw [u0, N_nI (by omega)]; exact h1
      · rw [show v' (1212 + 18 * k) = v (1212 + 18 * k) from hi k 0 e (by decide)]; exact how k (by omega)
    · rw [un, hu 2655 (by omega), tcs, u16, htc, tcs_same (v := v) m (fun i hi9 => hi i 16 (by omega) (by decide)), Int32.add_zero]
    · intro k q1 q2
      rw [un] at q1
      rw [hi k 9 (by omega) (by decide), hi k 14 (by omega) (by decide), hi k 16 (by omega) (by decide)]
      exact C.zs k (by rw [em]; omega) q2
  · intro k o j hk
    have w := wk_bsu hk
    have w2 := wk_no hk
    by_cases e : k = 1211
    · subst e
      cases (show wk 1211 = some (27, 3) from rfl).symm.trans hk
      rw [un0, ← ec, cp_q, upd_s]
    · rw [hu k (by omega), ← hp1 k o j hk]
      by_cases e2 : o = 27
      · subst e2
        have e3 : j ≠ 3 := fun e3 => e (by
          subst e3
          have := (wk_back hk).1
          exact this.symm)
        rw [← ec, show 10 + 27 = 37 from rfl, cp_q, upd_n e3, csh_o (by omega)]
      · rw [hc o e2 (by omega)]
  · intro i hi9 f g hg
    rw [un] at hi9
    have hs := sf_lt hg
    by_cases e : i = m
    · subst e
      rw [show 10 + 40 + i = 50 + i by omega, ← ec, cp_1 _ (by omega)]
      match f, hs.2, hg with
      | 0, _, hg => cases hg; rw [csh_f0]; exact (by rw [← ev]; exact vsh_1.symm)
      | 1, _, hg => cases hg; rw [csh_f1]; exact (by rw [← ev]; exact vsh_2.symm)
      | 2, _, hg => cases hg; rw [csh_f2]; exact (by rw [← ev]; exact vsh_3.symm)
      | 3, _, hg => cases hg; rw [csh_f3]; exact (by rw [← ev]; exact vsh_6.symm)
      | 4, _, hg => cases hg; rw [csh_f4]; exact (by rw [← ev]; exact vsh_4.symm)
      | 5, _, hg => cases hg; rw [csh_f5]; exact (by rw [← ev]; exact vsh_5.symm)
      | 6, _, hg => cases hg; rw [csh_f6]; exact (by rw [← ev]; exact vsh_0.symm)
      | 7, _, hg => cases hg; rw [csh_f7]; exact (by rw [← ev]; exact vsh_7.symm)
      | 8, _, hg => cases hg
      | 9, _, hg => cases hg; rw [csh_f9]; exact (by rw [← ev]; exact vsh_8.symm)
      | 10, _, hg => cases hg; rw [csh_f10]; exact u9.symm
      | 11, _, hg => cases hg; rw [csh_f11]; exact (by rw [← ev]; exact vsh_10.symm)
      | 12, _, hg => cases hg; rw [csh_f12]; exact (by rw [← ev]; exact vsh_11.symm)
      | 13, _, hg => cases hg; rw [csh_f13]; exact (by rw [← ev]; exact vsh_12.symm)
      | 14, _, hg => cases hg; rw [csh_f14]; exact (by rw [← ev]; exact vsh_13.symm)
      | 15, _, hg => cases hg; rw [csh_f15]; exact u14.symm
      | 16, _, hg => cases hg
      | 17, _, hg => cases hg
      | 18, _, hg => cases hg; rw [csh_f18]; exact u16.symm
      | f + 19, h, _ => exact absurd h (by omega)
    · rw [show 10 + 40 + i = 10 + (40 + i) by omega, hc (40 + i) (by omega) (by omega), hi i g e hs.1, ← Nat.add_assoc]
      exact hsh i (by omega) f g hg
  · intro i hi9
    rw [un] at hi9
    by_cases e : i = m
    · subst e
      rw [show 10 + 40 + i = 50 + i by omega, ← ec, cp_1 _ (by omega), csh_f16, csh_f17]
      exact Or.inl ⟨by rw [← ev]; exact vsh_15, rfl, rfl⟩
    · rw [show 10 + 40 + i = 10 + (40 + i) by omega, hc (40 + i) (by omega) (by omega), hi i 15 e (by decide), ← Nat.add_assoc]
      exact hbk i (by omega)
  · intro i hi9
    rw [un] at hi9
    rw [hu 2811 (by omega)]
    by_cases e : i = m
    · subst e
      have h8 : c'.2 (10 + 40 + i) 8 = some (ap c 10 z) := by rw [show 10 + 40 + i = 50 + i by omega, ← ec, cp_2]; exact csh_8
      rw [u17, h8]
      cases z with
      | none => exact Or.inl ⟨rfl, rfl⟩
      | some j =>
        obtain ⟨_, p, e2, _⟩ := htx j (hzl j rfl)
        refine Or.inr ⟨j, hzl j rfl, rfl, ?_⟩
        rw [hc2 _ (by omega), e2]
        show some ((c.2 (10 + 24) j).getD 0) = some p
        rw [e2]
        rfl
    · rw [hi i 17 e (by decide), hc2 _ (by omega), hc2 _ (by omega)]
      exact hlw i (by omega)

theorem e_ship {a1 a2 a3 a4 a5 a6 a7 a8 : Int32} (hF : 21 ≤ F) (hI : LI τ n) (h : Rel τ n c s) (h7 : ∃ k, k ≤ 1 ∧ a7 = nI k) :
    (∃ k1 k2 k3 k4 k5 k6 k7 k8, N (s.2.1 1211) < 80 ∧ k1 < N (s.2.1 1090) ∧ k2 ≤ 5 ∧ k3 ≤ 20000 ∧ k4 ≤ 900 ∧ k5 ≤ 80 ∧ k6 ≤ 80 ∧ k7 ≤ 1 ∧ k8 ≤ 1000000 ∧
      o_X11_ship F τ n 0 c a1 a2 a3 a4 a5 a6 a7 a8 = some (.inl (nI (N (s.2.1 1211)), cp (csh c (50 + N (s.2.1 1211)) (ap c 10 (ao s.2.1 (s.2.1 0 / nI 24) (N (s.2.1 2811)))) (nI k1) (nI k2) (nI k3) (nI k4) (nI k5) (nI k6) (nI k7) (nI k8) (s.2.1 0)) 37 3 (nI (N (s.2.1 1211) + 1)))) ∧
      ∃ s', o_X12_ship F s a1 a2 a3 a4 a5 a6 a7 a8 = some (nI (N (s.2.1 1211)), s') ∧ s'.1 = (pN s 0 (nI 0)).1 ∧ s'.2.2 = s.2.2 ∧ s'.2.1 = vsh s.2.1 (N (s.2.1 1211)) (nI k1) (nI k2) (nI k3) (nI k4) (nI k5) (nI k6) (nI k7) (nI k8) (eC (ao s.2.1 (s.2.1 0 / nI 24) (N (s.2.1 2811))))) ∨
    (o_X11_ship F τ n 0 c a1 a2 a3 a4 a5 a6 a7 a8 = some (.inr (0, c)) ∧ o_X12_ship F s a1 a2 a3 a4 a5 a6 a7 a8 = some (nI 0, pN (pN s 0 (nI 0)) 0 (nI 1))) ∨
    (o_X11_ship F τ n 0 c a1 a2 a3 a4 a5 a6 a7 a8 = some (.inr (1, c)) ∧ o_X12_ship F s a1 a2 a3 a4 a5 a6 a7 a8 = some (nI 0, pN (pN s 0 (nI 0)) 0 (nI 2))) ∨
    (o_X11_ship F τ n 0 c a1 a2 a3 a4 a5 a6 a7 a8 = some (.inr (3, c)) ∧ o_X12_ship F s a1 a2 a3 a4 a5 a6 a7 a8 = some (nI 0, pN (pN s 0 (nI 0)) 0 (nI 3))) := by
  have n1 := h.b.n1211
  have n2 := h.b.n1090
  have n3 := h.b.n2811
  have n0 := h.b.n0
  have e0 : c.1 (0 + 131) 6 = nI (N (s.2.1 1090)) := (h.b.pl 1090 121 6 rfl).trans n2.1
  have e1 : c.1 (0 + 37) 3 = nI (N (s.2.1 1211)) := (h.b.pl 1211 27 3 rfl).trans n1.1
  have eg : gW (pN s 0 (nI 0)) (nI 1090) = nI (N (s.2.1 1090)) := by rw [gW_pN, gW_n _ (by decide)]; exact n2.1
  have eg2 : gW (pN s 0 (nI 0)) (nI 1211) = nI (N (s.2.1 1211)) := by rw [gW_pN, gW_n _ (by decide)]; exact n1.1
  unfold o_X11_ship o_X12_ship o_X12_noPayer
  rw [e0, eg]
  rcases ix a1 (N (s.2.1 1090)) (by omega) with ⟨k1, hk1, rfl, w1, r1⟩ | ⟨w1, r1⟩
  · simp only [w1, r1, Option.bind_some, Sum.elim_inl, z0, z1, if_true, if_false, tI0]
    rcases rng a2 (nI 0) (nI 5) with ⟨w2, r2, p2, q2⟩ | ⟨w2, r2⟩
    · rcases rng a3 (nI 1) (nI 20000) with ⟨w3, r3, p3, q3⟩ | ⟨w3, r3⟩
      · rcases rng a4 (nI 1) (nI 900) with ⟨w4, r4, p4, q4⟩ | ⟨w4, r4⟩
        · rcases rng a5 (nI 1) (nI 80) with ⟨w5, r5, p5, q5⟩ | ⟨w5, r5⟩
          · rcases rng a6 (nI 1) (nI 80) with ⟨w6, r6, p6, q6⟩ | ⟨w6, r6⟩
            · rcases rng a8 (nI 0) (nI 1000000) with ⟨w8, r8, p8, q8⟩ | ⟨w8, r8⟩
              · simp only [w2, w3, w4, w5, w6, w8, r2, r3, r4, r5, r6, r8, Option.bind_some, z1, if_false, nA1, Sum.elim_inl, eg2, e1]
                by_cases hq : N (s.2.1 1211) = 80
                · right; right; right
                  rw [hq, nR_out (by decide), if_pos rfl]
                  exact ⟨rfl, rfl⟩
                · left
                  have hm : N (s.2.1 1211) < 80 := by omega
                  obtain ⟨k2, hk2, rfl⟩ := i_in p2 q2 (by decide)
                  obtain ⟨k3, _, hk3, rfl⟩ := i_1 p3 q3 (by decide)
                  obtain ⟨k4, _, hk4, rfl⟩ := i_1 p4 q4 (by decide)
                  obtain ⟨k5, _, hk5, rfl⟩ := i_1 p5 q5 (by decide)
                  obtain ⟨k6, _, hk6, rfl⟩ := i_1 p6 q6 (by decide)
                  obtain ⟨k8, hk8, rfl⟩ := i_in p8 q8 (by decide)
                  obtain ⟨k7, hk7, rfl⟩ := h7
                  refine ⟨k1, k2, k3, k4, k5, k6, k7, k8, hm, hk1, hk2, hk3, hk4, hk5, hk6, hk7, hk8, ?_, ?_⟩
                  · rw [nR_in (nI_lt hm (by decide))]
                    simp only [Option.bind_some, Sum.elim_inl]
                    rw [if_pos (iL_t hm (by decide)), nI_clamp (by omega), show 0 + 49 + 1 + N (s.2.1 1211) = 50 + N (s.2.1 1211) by omega]
                    unfold o_X9_build
                    have z7 : zb (nI k7) := by
                      match k7, hk7 with
                      | 0, _ => exact Or.inl rfl
                      | 1, _ => exact Or.inr rfl
                      | k + 2, h => exact absurd h (by omega)
                    rw [if_pos z7]
                    simp only [Option.bind_some]
                    have eca : cp (cp (cp (cp (cp (cp (cp (cp c (50 + N (s.2.1 1211)) 0 (nI k2)) (50 + N (s.2.1 1211)) 1 (nI k3)) (50 + N (s.2.1 1211)) 2 (nI k4)) (50 + N (s.2.1 1211)) 3 (nI k7)) (50 + N (s.2.1 1211)) 4 (nI k5)) (50 + N (s.2.1 1211)) 5 (nI k6)) (50 + N (s.2.1 1211)) 6 (nI k1)) (50 + N (s.2.1 1211)) 7 (nI k8) = csa c (50 + N (s.2.1 1211)) (nI k1) (nI k2) (nI k3) (nI k4) (nI k5) (nI k6) (nI k7) (nI k8) := rfl
                    rw [eca]
                    have ea : o_X2_actOfToday F τ n (0 + 10) (csa c (50 + N (s.2.1 1211)) (nI k1) (nI k2) (nI k3) (nI k4) (nI k5) (nI k6) (nI k7) (nI k8)) = some (ap c 10 (ao s.2.1 (s.2.1 0 / nI 24) (N (s.2.1 2811)))) := by
                      have := o_actOfToday (F := F) (τ := τ) (n := n) (b := 10) (m := N (s.2.1 2811)) (v := s.2.1) (c := csa c (50 + N (s.2.1 1211)) (nI k1) (nI k2) (nI k3) (nI k4) (nI k5) (nI k6) (nI k7) (nI k8)) hF hI.1.1 (by rw [csa_o (by omega)]; exact h.b.pl 0 0 0 rfl) (by rw [csa_o (by omega)]; exact (h.b.pl 2811 17 3 rfl).trans n3.1) (fun i hi => by rw [csa_o (by omega)]; exact (h.b.txt i hi).1) (fun i hi => by
                        obtain ⟨_, p, e2, e3, _⟩ := h.b.txt i hi
                        exact ⟨p, e2, e3⟩) n3.2
                      exact this
                    have ab : acb τ n (ap c 10 (ao s.2.1 (s.2.1 0 / nI 24) (N (s.2.1 2811)))) = true := ap_acb hI.1.1 (fun i hi => by
                      obtain ⟨_, p, e2, e3, _⟩ := h.b.txt i hi
                      exact ⟨p, e2, e3⟩)
                    rw [ea]
                    simp only [Option.bind_some]
                    rw [if_pos ab]
                    unfold o_X9_come
                    simp only [Option.bind_some]
                    rw [show (csa c (50 + N (s.2.1 1211)) (nI k1) (nI k2) (nI k3) (nI k4) (nI k5) (nI k6) (nI k7) (nI k8)).1 (0 + 10) 0 = s.2.1 0 by rw [csa_o (by omega)]; exact h.b.pl 0 0 0 rfl]
                    have ek : (cp (cp (cp (cq (csa c (50 + N (s.2.1 1211)) (nI k1) (nI k2) (nI k3) (nI k4) (nI k5) (nI k6) (nI k7) (nI k8)) (50 + N (s.2.1 1211)) 8 (some (ap c 10 (ao s.2.1 (s.2.1 0 / nI 24) (N (s.2.1 2811)))))) (50 + N (s.2.1 1211)) 9 (s.2.1 0)) (50 + N (s.2.1 1211)) 10 (nI 0)) (50 + N (s.2.1 1211)) 11 (-1)).1 (50 + N (s.2.1 1211)) 1 = nI k3 := by
                      unfold csa cq
                      simp only [cp_q]
                      rfl
                    rw [ek]
                    have es : (csh c (50 + N (s.2.1 1211)) (ap c 10 (ao s.2.1 (s.2.1 0 / nI 24) (N (s.2.1 2811)))) (nI k1) (nI k2) (nI k3) (nI k4) (nI k5) (nI k6) (nI k7) (nI k8) (s.2.1 0)).1 (0 + 37) 3 = nI (N (s.2.1 1211)) := by rw [csh_o (by omega)]; exact e1
                    unfold csh at es
                    rw [es, nI_add, cp_q, upd_s, show nI (N (s.2.1 1211) + 1) - nI 1 = nI (N (s.2.1 1211)) from nI_pred _]
                    rfl
                  · rw [if_neg (nI_inj (by omega) (by decide) hq)]
                    simp only [o_sets hm (show 0 < 18 by decide), o_sets hm (show 1 < 18 by decide), o_sets hm (show 2 < 18 by decide), o_sets hm (show 3 < 18 by decide), o_sets hm (show 4 < 18 by decide), o_sets hm (show 5 < 18 by decide), o_sets hm (show 6 < 18 by decide), o_sets hm (show 7 < 18 by decide), o_sets hm (show 8 < 18 by decide), o_sets hm (show 10 < 18 by decide), o_sets hm (show 11 < 18 by decide), o_sets hm (show 12 < 18 by decide), o_sets hm (show 13 < 18 by decide), o_sets hm (show 15 < 18 by decide), o_sets hm (show 17 < 18 by decide), Option.bind_some, nI_add]
                    have fin : ∀ (s1 : rs_S) (y : Int32), y = nI k7 → s1.1 = (pN s 0 (nI 0)).1 → s1.2.2 = s.2.2 → s1.2.1 = (upd (upd (upd (upd (upd (upd (upd s.2.1 1211 (nI (N (s.2.1 1211) + 1))) (1212 + 18 * N (s.2.1 1211) + 0) (nI k1)) (1212 + 18 * N (s.2.1 1211) + 1) (nI k2)) (1212 + 18 * N (s.2.1 1211) + 2) (nI k3)) (1212 + 18 * N (s.2.1 1211) + 3) (nI k4)) (1212 + 18 * N (s.2.1 1211) + 4) (nI k5)) (1212 + 18 * N (s.2.1 1211) + 5) (nI k6)) → ∃ s', ((o_X12_hour (pW (pW s1 (nI (1212 + 18 * N (s.2.1 1211) + 6)) y) (nI (1212 + 18 * N (s.2.1 1211) + 7)) (nI k8))).bind fun x26 => (o_X12_today (pW (pW (pW (pW (pW (pW (pW (pW s1 (nI (1212 + 18 * N (s.2.1 1211) + 6)) y) (nI (1212 + 18 * N (s.2.1 1211) + 7)) (nI k8)) (nI (1212 + 18 * N (s.2.1 1211) + 8)) x26) (nI (1212 + 18 * N (s.2.1 1211) + 10)) (-1)) (nI (1212 + 18 * N (s.2.1 1211) + 11)) (nI k3)) (nI (1212 + 18 * N (s.2.1 1211) + 12)) (-1)) (nI (1212 + 18 * N (s.2.1 1211) + 13)) (-1)) (nI (1212 + 18 * N (s.2.1 1211) + 15)) (-1))).bind fun x33 => (o_X12_actOf F (pW (pW (pW (pW (pW (pW (pW (pW s1 (nI (1212 + 18 * N (s.2.1 1211) + 6)) y) (nI (1212 + 18 * N (s.2.1 1211) + 7)) (nI k8)) (nI (1212 + 18 * N (s.2.1 1211) + 8)) x26) (nI (1212 + 18 * N (s.2.1 1211) + 10)) (-1)) (nI (1212 + 18 * N (s.2.1 1211) + 11)) (nI k3)) (nI (1212 + 18 * N (s.2.1 1211) + 12)) (-1)) (nI (1212 + 18 * N (s.2.1 1211) + 13)) (-1)) (nI (1212 + 18 * N (s.2.1 1211) + 15)) (-1)) x33).bind fun x34 => some (nI (N (s.2.1 1211)), pW (pW (pW (pW (pW (pW (pW (pW (pW s1 (nI (1212 + 18 * N (s.2.1 1211) + 6)) y) (nI (1212 + 18 * N (s.2.1 1211) + 7)) (nI k8)) (nI (1212 + 18 * N (s.2.1 1211) + 8)) x26) (nI (1212 + 18 * N (s.2.1 1211) + 10)) (-1)) (nI (1212 + 18 * N (s.2.1 1211) + 11)) (nI k3)) (nI (1212 + 18 * N (s.2.1 1211) + 12)) (-1)) (nI (1212 + 18 * N (s.2.1 1211) + 13)) (-1)) (nI (1212 + 18 * N (s.2.1 1211) + 15)) (-1)) (nI (1212 + 18 * N (s.2.1 1211) + 17)) x34)) = some (nI (N (s.2.1 1211)), s') ∧ s'.1 = (pN s 0 (nI 0)).1 ∧ s'.2.2 = s.2.2 ∧ s'.2.1 = vsh s.2.1 (N (s.2.1 1211)) (nI k1) (nI k2) (nI k3) (nI k4) (nI k5) (nI k6) (nI k7) (nI k8) (eC (ao s.2.1 (s.2.1 0 / nI 24) (N (s.2.1 2811)))) := by
                      intro s1 y hy g1 g2 g3
                      subst hy
                      have q : ∀ (s2 : rs_S) (k f : Nat) (y : Int32), f < 18 → k < 1211 ∨ 2652 ≤ k → (pW s2 (nI (1212 + 18 * N (s.2.1 1211) + f)) y).2.1 k = s2.2.1 k := fun s2 k f y hf hk => by rw [pW_21, nI_clamp (by omega), upd_n (by omega)]
                      have qk : ∀ k, k < 1211 ∨ 2652 ≤ k → s1.2.1 k = s.2.1 k := fun k hk => by rw [g3, upd_n (by omega), upd_n (by omega), upd_n (by omega), upd_n (by omega), upd_n (by omega), upd_n (by omega), upd_n (by omega)]
                      unfold o_X12_hour o_X12_today
                      simp only [Option.bind_some]
                      rw [gW_n _ (by decide), gW_n _ (by decide)]
                      rw [q _ 0 7 _ (by decide) (by omega), q _ 0 6 _ (by decide) (by omega), qk 0 (by omega)]
                      rw [q _ 0 15 _ (by decide) (by omega), q _ 0 13 _ (by decide) (by omega), q _ 0 12 _ (by decide) (by omega), q _ 0 11 _ (by decide) (by omega), q _ 0 10 _ (by decide) (by omega), q _ 0 8 _ (by decide) (by omega), q _ 0 7 _ (by decide) (by omega), q _ 0 6 _ (by decide) (by omega), qk 0 (by omega)]
                      have g9 : ∀ k, k < 1211 ∨ 2652 ≤ k → (pW (pW (pW (pW (pW (pW (pW (pW s1 (nI (1212 + 18 * N (s.2.1 1211) + 6)) (nI k7)) (nI (1212 + 18 * N (s.2.1 1211) + 7)) (nI k8)) (nI (1212 + 18 * N (s.2.1 1211) + 8)) (s.2.1 0)) (nI (1212 + 18 * N (s.2.1 1211) + 10)) (-1)) (nI (1212 + 18 * N (s.2.1 1211) + 11)) (nI k3)) (nI (1212 + 18 * N (s.2.1 1211) + 12)) (-1)) (nI (1212 + 18 * N (s.2.1 1211) + 13)) (-1)) (nI (1212 + 18 * N (s.2.1 1211) + 15)) (-1)).2.1 k = s.2.1 k := fun k hk => by
                        rw [q _ k 15 _ (by decide) hk, q _ k 13 _ (by decide) hk, q _ k 12 _ (by decide) hk, q _ k 11 _ (by decide) hk, q _ k 10 _ (by decide) hk, q _ k 8 _ (by decide) hk, q _ k 7 _ (by decide) hk, q _ k 6 _ (by decide) hk, qk k hk]
                      have g8 : ∀ t m, ao (pW (pW (pW (pW (pW (pW (pW (pW s1 (nI (1212 + 18 * N (s.2.1 1211) + 6)) (nI k7)) (nI (1212 + 18 * N (s.2.1 1211) + 7)) (nI k8)) (nI (1212 + 18 * N (s.2.1 1211) + 8)) (s.2.1 0)) (nI (1212 + 18 * N (s.2.1 1211) + 10)) (-1)) (nI (1212 + 18 * N (s.2.1 1211) + 11)) (nI k3)) (nI (1212 + 18 * N (s.2.1 1211) + 12)) (-1)) (nI (1212 + 18 * N (s.2.1 1211) + 13)) (-1)) (nI (1212 + 18 * N (s.2.1 1211) + 15)) (-1)).2.1 t m = ao s.2.1 t m := fun t m => ao_same m (fun i => g9 _ (by omega))
                      rw [o_actOf (m := N (s.2.1 2811)) hF (by rw [g9 2811 (by omega)]; exact n3.1) n3.2, g8]
                      simp only [Option.bind_some]
                      refine ⟨_, rfl, g1, g2, ?_⟩
                      simp only [pW_21]
                      rw [nI_clamp (show 1212 + 18 * N (s.2.1 1211) + 6 < 2 ^ 31 by omega), nI_clamp (show 1212 + 18 * N (s.2.1 1211) + 7 < 2 ^ 31 by omega), nI_clamp (show 1212 + 18 * N (s.2.1 1211) + 8 < 2 ^ 31 by omega), nI_clamp (show 1212 + 18 * N (s.2.1 1211) + 10 < 2 ^ 31 by omega), nI_clamp (show 1212 + 18 * N (s.2.1 1211) + 11 < 2 ^ 31 by omega), nI_clamp (show 1212 + 18 * N (s.2.1 1211) + 12 < 2 ^ 31 by omega), nI_clamp (show 1212 + 18 * N (s.2.1 1211) + 13 < 2 ^ 31 by omega), nI_clamp (show 1212 + 18 * N (s.2.1 1211) + 15 < 2 ^ 31 by omega), nI_clamp (show 1212 + 18 * N (s.2.1 1211) + 17 < 2 ^ 31 by omega), g3]
                      rfl
                    have s6 : ∀ (s0 : rs_S), s0 = pW (pW (pW (pW (pW (pW (pW (pN s 0 (nI 0)) (nI 1211) (nI (N (s.2.1 1211) + 1))) (nI (1212 + 18 * N (s.2.1 1211) + 0)) (nI k1)) (nI (1212 + 18 * N (s.2.1 1211) + 1)) (nI k2)) (nI (1212 + 18 * N (s.2.1 1211) + 2)) (nI k3)) (nI (1212 + 18 * N (s.2.1 1211) + 3)) (nI k4)) (nI (1212 + 18 * N (s.2.1 1211) + 4)) (nI k5)) (nI (1212 + 18 * N (s.2.1 1211) + 5)) (nI k6) → s0.2.1 = (upd (upd (upd (upd (upd (upd (upd s.2.1 1211 (nI (N (s.2.1 1211) + 1))) (1212 + 18 * N (s.2.1 1211) + 0) (nI k1)) (1212 + 18 * N (s.2.1 1211) + 1) (nI k2)) (1212 + 18 * N (s.2.1 1211) + 2) (nI k3)) (1212 + 18 * N (s.2.1 1211) + 3) (nI k4)) (1212 + 18 * N (s.2.1 1211) + 4) (nI k5)) (1212 + 18 * N (s.2.1 1211) + 5) (nI k6)) := by
                      intro s0 e
                      subst e
                      simp only [pW_21]
                      rw [nI_clamp (show 1211 < 2 ^ 31 by decide), nI_clamp (show 1212 + 18 * N (s.2.1 1211) + 0 < 2 ^ 31 by omega), nI_clamp (show 1212 + 18 * N (s.2.1 1211) + 1 < 2 ^ 31 by omega), nI_clamp (show 1212 + 18 * N (s.2.1 1211) + 2 < 2 ^ 31 by omega), nI_clamp (show 1212 + 18 * N (s.2.1 1211) + 3 < 2 ^ 31 by omega), nI_clamp (show 1212 + 18 * N (s.2.1 1211) + 4 < 2 ^ 31 by omega), nI_clamp (show 1212 + 18 * N (s.2.1 1211) + 5 < 2 ^ 31 by omega)]
                      rfl
                    by_cases h0 : k7 = 0
                    · subst h0
                      rw [if_pos nI_0]
                      exact fin _ (nI 0) rfl rfl rfl (s6 _ rfl)
                    · have h1 : k7 = 1 := by omega
                      subst h1
                      rw [if_neg (by decide)]
                      exact fin _ (nI 1) rfl rfl rfl (s6 _ rfl)
              · right; right; left; simp only [w2, w3, w4, w5, w6, w8, r2, r3, r4, r5, r6, r8, Option.bind_some, z0, z1, if_true, if_false, nA0, nA1, Sum.elim_inl, Sum.elim_inr, and_self]
            · right; right; left; simp only [w2, w3, w4, w5, w6, r2, r3, r4, r5, r6, Option.bind_some, z0, z1, if_true, if_false, nA0, nA1, Sum.elim_inl, Sum.elim_inr, and_self]
          · right; right; left; simp only [w2, w3, w4, w5, r2, r3, r4, r5, Option.bind_some, z0, z1, if_true, if_false, nA0, nA1, Sum.elim_inl, Sum.elim_inr, and_self]
        · right; right; left; simp only [w2, w3, w4, r2, r3, r4, Option.bind_some, z0, z1, if_true, if_false, nA0, nA1, Sum.elim_inl, Sum.elim_inr, and_self]
      · right; right; left; simp only [w2, w3, r2, r3, Option.bind_some, z0, z1, if_true, if_false, nA0, Sum.elim_inr, and_self]
    · right; right; left; simp only [w2, r2, Option.bind_some, z0, if_true, nA0, Sum.elim_inr, and_self]
  · right; left; simp only [w1, r1, Option.bind_some, z0, z1, if_true, if_false, tI1, Sum.elim_inr, and_self]
theorem st13 (hF : 30000 ≤ F) (hI : LI τ n) (h : Rel τ n c s) : stp Rel F 13 x τ n c s := by
  rcases e_ship (F := F) (τ := τ) (n := n) (c := c) (s := s) (a1 := x 1) (a2 := x 2) (a3 := x 3) (a4 := x 4) (a5 := x 5) (a6 := x 6) (a7 := bz (x 7)) (a8 := x 8) (by omega) hI h (bz_z _) with ⟨k1, k2, k3, k4, k5, k6, k7, k8, hm, h1, h2, h3, h4, h5, h6, h7, h8, a, s', b, g1, g2, g3⟩ | ⟨a, b⟩ | ⟨a, b⟩ | ⟨a, b⟩
  · refine Or.inl ⟨_, _, _, a, b, by rw [g1]; exact pN0 _ _, ?_⟩
    refine h.now hI ⟨fun q hq => by rw [cp_1 _ (by omega), csh_o (by omega)], fun q hq => by rw [cp_2]; exact csh_2 (by omega)⟩ ?_ (fun j hj => by rw [g1, pN_n (by omega)]) (fun j hj => by rw [g2])
    rw [g3]
    exact h.b.shipped hI hm h1 h2 h3 h4 h5 h6 h7 h8
  · exact Or.inr (Or.inl ⟨_, _, _, a, b, pN0 _ _, h.pn2 _ _⟩)
  · exact Or.inr (Or.inr (Or.inl ⟨_, _, _, a, b, pN0 _ _, h.pn2 _ _⟩))
  · exact Or.inr (Or.inr (Or.inr ⟨_, _, _, a, b, pN0 _ _, h.pn2 _ _⟩))
end ST
