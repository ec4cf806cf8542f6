/-! READING A TEXT, act, propose, another, keep (by program wip/whole/mk3.py) -/
def lnA (s : cS) (o : Nat) : Nat := (s.1 (o + 2) 8).toNatClampNeg
def stA (s : cS) (o : Nat) : Nat := (s.1 (o + 2) 11).toNatClampNeg
def tA (τ : cT) (n k m : Nat) : cT := fun j => if j = n then .inl 0 else if n < j ∧ j ≤ n + 3 then .inr (0, k) else if n + 3 < j ∧ j ≤ n + 5 then .inr (0, m) else τ j
def iA (s : cS) (n o k m : Nat) : cS := (fun j => if j = n then (fun _ => s.1 (o + 2) 8) else if n < j ∧ j ≤ n + 3 then (fun i => if i < k ∧ i < 20 then s.1 (o + 5 + (j - n - 1)) i else 0) else if n + 3 < j ∧ j ≤ n + 5 then (fun i => if i < m ∧ i < 400 then s.1 (o + 5 + (j - n - 1)) i else 0) else s.1 j, s.2)
theorem tA_0 {τ : cT} {n k m : Nat} : tA τ n k m n = .inl 0 := if_pos rfl
theorem tA_3 {τ : cT} {n k m j : Nat} (h : n < j ∧ j ≤ n + 3) : tA τ n k m j = .inr (0, k) := by unfold tA; rw [if_neg (by omega), if_pos h]
theorem tA_5 {τ : cT} {n k m j : Nat} (h : n + 3 < j ∧ j ≤ n + 5) : tA τ n k m j = .inr (0, m) := by unfold tA; rw [if_neg (by omega), if_neg (by omega), if_pos h]
theorem tA_o {τ : cT} {n k m j : Nat} (h : ¬ (n ≤ j ∧ j ≤ n + 5)) : tA τ n k m j = τ j := by unfold tA; rw [if_neg (by omega), if_neg (by omega), if_neg (by omega)]
theorem tA_ext {τ : cT} {n k m : Nat} : ext τ n (tA τ n k m) (n + 6) := ⟨Nat.le_add_right _ _, fun j hj => tA_o (by omega)⟩
theorem tA_acb {τ : cT} {n k m : Nat} : acb (tA τ n k m) (n + 6) n = true := by
  simp only [acb, Bool.and_eq_true, decide_eq_true_eq]
  refine ⟨⟨⟨⟨⟨⟨Nat.le_refl _, tA_0⟩, ?_⟩, ?_⟩, ?_⟩, ?_⟩, ?_⟩
  · rw [tA_3 (by omega)]; rfl
  · rw [tA_3 (by omega)]; rfl
  · rw [tA_3 (by omega)]; rfl
  · rw [tA_5 (by omega)]; rfl
  · rw [tA_5 (by omega)]; rfl
theorem iA_0 {s : cS} {n o k m : Nat} : (iA s n o k m).1 n = fun _ => s.1 (o + 2) 8 := if_pos rfl
theorem iA_3 {s : cS} {n o k m j : Nat} (h : n < j ∧ j ≤ n + 3) : (iA s n o k m).1 j = fun i => if i < k ∧ i < 20 then s.1 (o + 5 + (j - n - 1)) i else 0 := by
  show (if j = n then _ else if n < j ∧ j ≤ n + 3 then _ else _) = _
  rw [if_neg (by omega), if_pos h]
theorem iA_5 {s : cS} {n o k m j : Nat} (h : n + 3 < j ∧ j ≤ n + 5) : (iA s n o k m).1 j = fun i => if i < m ∧ i < 400 then s.1 (o + 5 + (j - n - 1)) i else 0 := by
  show (if j = n then _ else if n < j ∧ j ≤ n + 3 then _ else if n + 3 < j ∧ j ≤ n + 5 then _ else _) = _
  rw [if_neg (by omega), if_neg (by omega), if_pos h]
theorem iA_o {s : cS} {n o k m j : Nat} (h : ¬ (n ≤ j ∧ j ≤ n + 5)) : (iA s n o k m).1 j = s.1 j := by
  show (if j = n then _ else if n < j ∧ j ≤ n + 3 then _ else if n + 3 < j ∧ j ≤ n + 5 then _ else _) = _
  rw [if_neg (by omega), if_neg (by omega), if_neg (by omega)]
def cAc (s : cS) (n o k m : Nat) : List jg_C := [.inl (0, [.int (s.1 (o + 2) 8), .ref (n + 1), .ref (n + 2), .ref (n + 3), .ref (n + 4), .ref (n + 5)]), .inr (0, k, .inl (fun i => if i < k ∧ i < 20 then s.1 (o + 5) i else 0)), .inr (0, k, .inl (fun i => if i < k ∧ i < 20 then s.1 (o + 6) i else 0)), .inr (0, k, .inl (fun i => if i < k ∧ i < 20 then s.1 (o + 7) i else 0)), .inr (0, m, .inl (fun i => if i < m ∧ i < 400 then s.1 (o + 8) i else 0)), .inr (0, m, .inl (fun i => if i < m ∧ i < 400 then s.1 (o + 9) i else 0))]
theorem ac_new {g : Nat → jg_C} {τ : cT} {s : cS} {n o k m : Nat} : apx (ct_h g τ s) n (cAc s n o k m) = ct_h g (tA τ n k m) (iA s n o k m) := by
  funext j
  by_cases h : n ≤ j ∧ j ≤ n + 5
  · obtain ⟨i, rfl⟩ : ∃ i, j = n + i := ⟨j - n, by omega⟩
    have hi : i < 6 := by omega
    match i, hi with
    | 0, _ =>
      rw [app_at (show (cAc s n o k m)[0]? = some _ from rfl), ct_cel (show tA τ n k m (n + 0) = .inl 0 from tA_0) (fun _ _ h => nomatch h), show (iA s n o k m).1 (n + 0) = _ from iA_0]; rfl
    | 1, _ =>
      rw [app_at (show (cAc s n o k m)[1]? = some _ from rfl), ct_cel (tA_3 (by omega)) (fun _ _ h => by cases h; decide), iA_3 (by omega), show o + 5 + (n + 1 - n - 1) = o + 5 by omega]; rfl
    | 2, _ =>
      rw [app_at (show (cAc s n o k m)[2]? = some _ from rfl), ct_cel (tA_3 (by omega)) (fun _ _ h => by cases h; decide), iA_3 (by omega), show o + 5 + (n + 2 - n - 1) = o + 6 by omega]; rfl
    | 3, _ =>
      rw [app_at (show (cAc s n o k m)[3]? = some _ from rfl), ct_cel (tA_3 (by omega)) (fun _ _ h => by cases h; decide), iA_3 (by omega), show o + 5 + (n + 3 - n - 1) = o + 7 by omega]; rfl
    | 4, _ =>
      rw [app_at (show (cAc s n o k m)[4]? = some _ from rfl), ct_cel (tA_5 (by omega)) (fun _ _ h => by cases h; decide), iA_5 (by omega), show o + 5 + (n + 4 - n - 1) = o + 8 by omega]; rfl
    | 5, _ =>
      rw [app_at (show (cAc s n o k m)[5]? = some _ from rfl), ct_cel (tA_5 (by omega)) (fun _ _ h => by cases h; decide), iA_5 (by omega), show o + 5 + (n + 5 - n - 1) = o + 9 by omega]; rfl
    | k + 6, hk => exact absurd hk (by omega)
  · have e1 : apx (ct_h g τ s) n (cAc s n o k m) j = ct_h g τ s j := by
      unfold apx
      by_cases h2 : n ≤ j
      · rw [if_pos h2, List.getElem?_eq_none (by show 6 ≤ _; omega)]; rfl
      · rw [if_neg h2]
    rw [e1]
    exact (ct_alike (tA_o h) (iA_o h) rfl).symm
def tQ (τ : cT) (n : Nat) (q : Option (Nat × Nat)) : cT := match q with
  | none => τ
  | some q => tA τ n q.1 q.2
def nQ (n : Nat) (q : Option (Nat × Nat)) : Nat := match q with
  | none => n
  | some _ => n + 6
theorem dX7_read_0 : decode cX7_read 0 = .ok (.aload_n 0, 1) := by decide +kernel
theorem dX7_read_1 : decode cX7_read 1 = .ok (.aload_n 1, 1) := by decide +kernel
theorem dX7_read_2 : decode cX7_read 2 = .ok (.iload_n 2, 1) := by decide +kernel
theorem dX7_read_3 : decode cX7_read 3 = .ok (.aload_n 1, 1) := by decide +kernel
theorem dX7_read_4 : decode cX7_read 4 = .ok (.arraylength, 1) := by decide +kernel
theorem dX7_read_5 : decode cX7_read 5 = .ok (.invokestatic 37, 3) := by decide +kernel
theorem dX7_read_8 : decode cX7_read 8 = .ok (.invokevirtual 43, 3) := by decide +kernel
theorem dX7_read_11 : decode cX7_read 11 = .ok (.aload_n 0, 1) := by decide +kernel
theorem dX7_read_12 : decode cX7_read 12 = .ok (.iconst 0, 1) := by decide +kernel
theorem dX7_read_13 : decode cX7_read 13 = .ok (.putfield 47, 3) := by decide +kernel
theorem dX7_read_16 : decode cX7_read 16 = .ok (.aload_n 0, 1) := by decide +kernel
theorem dX7_read_17 : decode cX7_read 17 = .ok (.iconst 0, 1) := by decide +kernel
theorem dX7_read_18 : decode cX7_read 18 = .ok (.putfield 50, 3) := by decide +kernel
theorem dX7_read_21 : decode cX7_read 21 = .ok (.aload_n 0, 1) := by decide +kernel
theorem dX7_read_22 : decode cX7_read 22 = .ok (.iconst 0, 1) := by decide +kernel
theorem dX7_read_23 : decode cX7_read 23 = .ok (.putfield 53, 3) := by decide +kernel
theorem dX7_read_26 : decode cX7_read 26 = .ok (.aload_n 0, 1) := by decide +kernel
theorem dX7_read_27 : decode cX7_read 27 = .ok (.invokevirtual 56, 3) := by decide +kernel
theorem dX7_read_30 : decode cX7_read 30 = .ok (.bipush (-2), 2) := by decide +kernel
theorem dX7_read_32 : decode cX7_read 32 = .ok (.if_icmp .eq 7, 3) := by decide +kernel
theorem dX7_read_35 : decode cX7_read 35 = .ok (.iconst 1, 1) := by decide +kernel
theorem dX7_read_36 : decode cX7_read 36 = .ok (.goto 4, 3) := by decide +kernel
theorem dX7_read_39 : decode cX7_read 39 = .ok (.iconst 0, 1) := by decide +kernel
theorem dX7_read_40 : decode cX7_read 40 = .ok (.istore_n 3, 1) := by decide +kernel
theorem dX7_read_41 : decode cX7_read 41 = .ok (.iconst 1, 1) := by decide +kernel
theorem dX7_read_42 : decode cX7_read 42 = .ok (.istore 4, 2) := by decide +kernel
theorem dX7_read_44 : decode cX7_read 44 = .ok (.iconst 0, 1) := by decide +kernel
theorem dX7_read_45 : decode cX7_read 45 = .ok (.istore 5, 2) := by decide +kernel
theorem dX7_read_47 : decode cX7_read 47 = .ok (.iload 5, 2) := by decide +kernel
theorem dX7_read_49 : decode cX7_read 49 = .ok (.bipush 20, 2) := by decide +kernel
theorem dX7_read_51 : decode cX7_read 51 = .ok (.if_icmp .ge 83, 3) := by decide +kernel
theorem dX7_read_54 : decode cX7_read 54 = .ok (.iload 4, 2) := by decide +kernel
theorem dX7_read_56 : decode cX7_read 56 = .ok (.ifCond .eq 78, 3) := by decide +kernel
theorem dX7_read_59 : decode cX7_read 59 = .ok (.iload_n 3, 1) := by decide +kernel
theorem dX7_read_60 : decode cX7_read 60 = .ok (.ifCond .eq 74, 3) := by decide +kernel
theorem dX7_read_63 : decode cX7_read 63 = .ok (.aload_n 0, 1) := by decide +kernel
theorem dX7_read_64 : decode cX7_read 64 = .ok (.invokevirtual 60, 3) := by decide +kernel
theorem dX7_read_67 : decode cX7_read 67 = .ok (.istore 4, 2) := by decide +kernel
theorem dX7_read_69 : decode cX7_read 69 = .ok (.aload_n 0, 1) := by decide +kernel
theorem dX7_read_70 : decode cX7_read 70 = .ok (.invokevirtual 56, 3) := by decide +kernel
theorem dX7_read_73 : decode cX7_read 73 = .ok (.bipush (-2), 2) := by decide +kernel
theorem dX7_read_75 : decode cX7_read 75 = .ok (.if_icmp .eq 7, 3) := by decide +kernel
theorem dX7_read_78 : decode cX7_read 78 = .ok (.iconst 1, 1) := by decide +kernel
theorem dX7_read_79 : decode cX7_read 79 = .ok (.goto 4, 3) := by decide +kernel
theorem dX7_read_82 : decode cX7_read 82 = .ok (.iconst 0, 1) := by decide +kernel
theorem dX7_read_83 : decode cX7_read 83 = .ok (.istore_n 3, 1) := by decide +kernel
theorem dX7_read_84 : decode cX7_read 84 = .ok (.iload 4, 2) := by decide +kernel
theorem dX7_read_86 : decode cX7_read 86 = .ok (.ifCond .eq 42, 3) := by decide +kernel
theorem dX7_read_89 : decode cX7_read 89 = .ok (.iload_n 3, 1) := by decide +kernel
theorem dX7_read_90 : decode cX7_read 90 = .ok (.ifCond .eq 38, 3) := by decide +kernel
theorem dX7_read_93 : decode cX7_read 93 = .ok (.aload_n 0, 1) := by decide +kernel
theorem dX7_read_94 : decode cX7_read 94 = .ok (.invokevirtual 56, 3) := by decide +kernel
theorem dX7_read_97 : decode cX7_read 97 = .ok (.bipush 59, 2) := by decide +kernel
theorem dX7_read_99 : decode cX7_read 99 = .ok (.if_icmp .ne 7, 3) := by decide +kernel
theorem dX7_read_102 : decode cX7_read 102 = .ok (.iconst 1, 1) := by decide +kernel
theorem dX7_read_103 : decode cX7_read 103 = .ok (.goto 4, 3) := by decide +kernel
theorem dX7_read_106 : decode cX7_read 106 = .ok (.iconst 0, 1) := by decide +kernel
theorem dX7_read_107 : decode cX7_read 107 = .ok (.istore 4, 2) := by decide +kernel
theorem dX7_read_109 : decode cX7_read 109 = .ok (.aload_n 0, 1) := by decide +kernel
theorem dX7_read_110 : decode cX7_read 110 = .ok (.dup, 1) := by decide +kernel
theorem dX7_read_111 : decode cX7_read 111 = .ok (.getfield 47, 3) := by decide +kernel
theorem dX7_read_114 : decode cX7_read 114 = .ok (.iload 4, 2) := by decide +kernel
theorem dX7_read_116 : decode cX7_read 116 = .ok (.ifCond .eq 7, 3) := by decide +kernel
theorem dX7_read_119 : decode cX7_read 119 = .ok (.iconst 1, 1) := by decide +kernel
theorem dX7_read_120 : decode cX7_read 120 = .ok (.goto 4, 3) := by decide +kernel
theorem dX7_read_123 : decode cX7_read 123 = .ok (.iconst 0, 1) := by decide +kernel
theorem dX7_read_124 : decode cX7_read 124 = .ok (.iadd, 1) := by decide +kernel
theorem dX7_read_125 : decode cX7_read 125 = .ok (.putfield 47, 3) := by decide +kernel
theorem dX7_read_128 : decode cX7_read 128 = .ok (.iinc 5 1, 3) := by decide +kernel
theorem dX7_read_131 : decode cX7_read 131 = .ok (.goto (-84), 3) := by decide +kernel
theorem dX7_read_134 : decode cX7_read 134 = .ok (.iload 4, 2) := by decide +kernel
theorem dX7_read_136 : decode cX7_read 136 = .ok (.ifCond .eq 7, 3) := by decide +kernel
theorem dX7_read_139 : decode cX7_read 139 = .ok (.iload_n 3, 1) := by decide +kernel
theorem dX7_read_140 : decode cX7_read 140 = .ok (.ifCond .eq 27, 3) := by decide +kernel
theorem dX7_read_143 : decode cX7_read 143 = .ok (.aload_n 0, 1) := by decide +kernel
theorem dX7_read_144 : decode cX7_read 144 = .ok (.aload_n 0, 1) := by decide +kernel
theorem dX7_read_145 : decode cX7_read 145 = .ok (.getfield 19, 3) := by decide +kernel
theorem dX7_read_148 : decode cX7_read 148 = .ok (.aload_n 0, 1) := by decide +kernel
theorem dX7_read_149 : decode cX7_read 149 = .ok (.getfield 47, 3) := by decide +kernel
theorem dX7_read_152 : decode cX7_read 152 = .ok (.aload_n 0, 1) := by decide +kernel
theorem dX7_read_153 : decode cX7_read 153 = .ok (.getfield 64, 3) := by decide +kernel
theorem dX7_read_156 : decode cX7_read 156 = .ok (.iconst 1, 1) := by decide +kernel
theorem dX7_read_157 : decode cX7_read 157 = .ok (.isub, 1) := by decide +kernel
theorem dX7_read_158 : decode cX7_read 158 = .ok (.invokestatic 37, 3) := by decide +kernel
theorem dX7_read_161 : decode cX7_read 161 = .ok (.iaload, 1) := by decide +kernel
theorem dX7_read_162 : decode cX7_read 162 = .ok (.putfield 9, 3) := by decide +kernel
theorem dX7_read_165 : decode cX7_read 165 = .ok (.aconst_null, 1) := by decide +kernel
theorem dX7_read_166 : decode cX7_read 166 = .ok (.areturn, 1) := by decide +kernel
theorem dX7_read_167 : decode cX7_read 167 = .ok (.aload_n 0, 1) := by decide +kernel
theorem dX7_read_168 : decode cX7_read 168 = .ok (.iconst (-1), 1) := by decide +kernel
theorem dX7_read_169 : decode cX7_read 169 = .ok (.putfield 9, 3) := by decide +kernel
theorem dX7_read_172 : decode cX7_read 172 = .ok (.new 67, 3) := by decide +kernel
theorem dX7_read_175 : decode cX7_read 175 = .ok (.dup, 1) := by decide +kernel
theorem dX7_read_176 : decode cX7_read 176 = .ok (.aload_n 0, 1) := by decide +kernel
theorem dX7_read_177 : decode cX7_read 177 = .ok (.getfield 50, 3) := by decide +kernel
theorem dX7_read_180 : decode cX7_read 180 = .ok (.aload_n 0, 1) := by decide +kernel
theorem dX7_read_181 : decode cX7_read 181 = .ok (.getfield 22, 3) := by decide +kernel
theorem dX7_read_184 : decode cX7_read 184 = .ok (.aload_n 0, 1) := by decide +kernel
theorem dX7_read_185 : decode cX7_read 185 = .ok (.getfield 50, 3) := by decide +kernel
theorem dX7_read_188 : decode cX7_read 188 = .ok (.invokestatic 69, 3) := by decide +kernel
theorem dX7_read_191 : decode cX7_read 191 = .ok (.aload_n 0, 1) := by decide +kernel
theorem dX7_read_192 : decode cX7_read 192 = .ok (.getfield 25, 3) := by decide +kernel
theorem dX7_read_195 : decode cX7_read 195 = .ok (.aload_n 0, 1) := by decide +kernel
theorem dX7_read_196 : decode cX7_read 196 = .ok (.getfield 50, 3) := by decide +kernel
theorem dX7_read_199 : decode cX7_read 199 = .ok (.invokestatic 69, 3) := by decide +kernel
theorem dX7_read_202 : decode cX7_read 202 = .ok (.aload_n 0, 1) := by decide +kernel
theorem dX7_read_203 : decode cX7_read 203 = .ok (.getfield 28, 3) := by decide +kernel
theorem dX7_read_206 : decode cX7_read 206 = .ok (.aload_n 0, 1) := by decide +kernel
theorem dX7_read_207 : decode cX7_read 207 = .ok (.getfield 50, 3) := by decide +kernel
theorem dX7_read_210 : decode cX7_read 210 = .ok (.invokestatic 69, 3) := by decide +kernel
theorem dX7_read_213 : decode cX7_read 213 = .ok (.aload_n 0, 1) := by decide +kernel
theorem dX7_read_214 : decode cX7_read 214 = .ok (.getfield 31, 3) := by decide +kernel
theorem dX7_read_217 : decode cX7_read 217 = .ok (.aload_n 0, 1) := by decide +kernel
theorem dX7_read_218 : decode cX7_read 218 = .ok (.getfield 53, 3) := by decide +kernel
theorem dX7_read_221 : decode cX7_read 221 = .ok (.invokestatic 69, 3) := by decide +kernel
theorem dX7_read_224 : decode cX7_read 224 = .ok (.aload_n 0, 1) := by decide +kernel
theorem dX7_read_225 : decode cX7_read 225 = .ok (.getfield 34, 3) := by decide +kernel
theorem dX7_read_228 : decode cX7_read 228 = .ok (.aload_n 0, 1) := by decide +kernel
theorem dX7_read_229 : decode cX7_read 229 = .ok (.getfield 53, 3) := by decide +kernel
theorem dX7_read_232 : decode cX7_read 232 = .ok (.invokestatic 69, 3) := by decide +kernel
theorem dX7_read_235 : decode cX7_read 235 = .ok (.invokespecial 75, 3) := by decide +kernel
theorem dX7_read_238 : decode cX7_read 238 = .ok (.areturn, 1) := by decide +kernel
set_option maxHeartbeats 4000000 in
theorem t_rdEnd {Γ : jg_G} {g : Nat → jg_C} (τ : cT) (n o : Nat) (s : cS) (hO : Sh τ n o) (h1 : iL (s.1 (o + 2) 8) 21) (h2 : iL (s.1 (o + 2) 11) 401) (hn : n + 6 ≤ 1000000) : jg Γ mX7_read 46 6 866 172 [some (.ref (o + 2)), none, none, none, none, none] [] (ct_h g τ s, n) (jq (.inl (some (.ref n))) (ct_h g (tA τ n (lnA s o) (stA s o)) (iA s n o (lnA s o) (stA s o)), n + 6)) := by
  have hb := hO.1.1
  obtain ⟨k, ek, hk, ek2⟩ := iL_nI h1
  obtain ⟨m, em, hm, em2⟩ := iL_nI h2
  unfold lnA stA
  rw [ek2, em2]
  refine jg_new (ci := 0) (N := 6) (fs := [.int 0, .null, .null, .null, .null, .null]) jc_X0 kc_X7_67 kn_X0 wi_X0 (mk_df0 Γ) dX7_read_172 (by show n < 1000000; omega) (by decide) (by decide) ?_
  refine jg_hs (S' := [.ref n]) (h' := (apx (ct_h g τ s) n [.inl (0, [.int 0, .null, .null, .null, .null, .null])], n + 1)) rfl (congrArg (fun z => (z, n + 1)) mk_one) ?_
  refine jg_dup dX7_read_175 rfl ?_
  refine jg_aload_n dX7_read_176 rfl ?_
  refine jg_get (q := o + 2) (v := .int (nI k)) fl_X7_50 dX7_read_177 (by show o + 2 < n + 1; omega) ((app_lt (show o + 2 < n by omega)).trans (ct_o (hO.ob 2 (by decide) rfl))) (by show some (Value.int (s.1 (o + 2) 8)) = _; rw [ek]) ?_
  refine jg_aload_n dX7_read_180 rfl ?_
  refine jg_get (q := o + 2) (v := .ref (o + 5)) fl_X7_22 dX7_read_181 (by show o + 2 < n + 1; omega) ((app_lt (show o + 2 < n by omega)).trans (ct_o (hO.ob 2 (by decide) rfl))) rfl ?_
  refine jg_aload_n dX7_read_184 rfl ?_
  refine jg_get (q := o + 2) (v := .int (nI k)) fl_X7_50 dX7_read_185 (by show o + 2 < n + 1; omega) ((app_lt (show o + 2 < n by omega)).trans (ct_o (hO.ob 2 (by decide) rfl))) (by show some (Value.int (s.1 (o + 2) 8)) = _; rw [ek]) ?_
  refine jc_S (As := [.ref (o + 5), .int (nI k)]) (a' := 1) (b' := k) ks_X7_69 dX7_read_188 rfl (by decide) (Nat.le_of_ble_eq_true rfl) rfl (by decide) (by decide) (by omega) (Nat.le_of_ble_eq_true rfl) (t_copyOf _ (o + 5) 20 k (s.1 (o + 5)) (by show o + 5 < n + 1; omega) ((app_lt (show o + 5 < n by omega)).trans (ct_ri (hO.ar 5 (by decide) rfl) (by decide))) (by decide) (by omega) (by show n + 1 < 1000000; omega)) ?_
  refine jg_hs (S' := [.ref (n + 1), .int (nI k), .ref n, .ref n]) (h' := (apx (ct_h g τ s) n [.inl (0, [.int 0, .null, .null, .null, .null, .null]), .inr (0, k, .inl (fun i => if i < k ∧ i < 20 then s.1 (o + 5) i else 0))], n + 2)) rfl (mk_push rfl rfl) ?_
  refine jg_aload_n dX7_read_191 rfl ?_
  refine jg_get (q := o + 2) (v := .ref (o + 6)) fl_X7_25 dX7_read_192 (by show o + 2 < n + 2; omega) ((app_lt (show o + 2 < n by omega)).trans (ct_o (hO.ob 2 (by decide) rfl))) rfl ?_
  refine jg_aload_n dX7_read_195 rfl ?_
  refine jg_get (q := o + 2) (v := .int (nI k)) fl_X7_50 dX7_read_196 (by show o + 2 < n + 2; omega) ((app_lt (show o + 2 < n by omega)).trans (ct_o (hO.ob 2 (by decide) rfl))) (by show some (Value.int (s.1 (o + 2) 8)) = _; rw [ek]) ?_
  refine jc_S (As := [.ref (o + 6), .int (nI k)]) (a' := 1) (b' := k) ks_X7_69 dX7_read_199 rfl (by decide) (Nat.le_of_ble_eq_true rfl) rfl (by decide) (by decide) (by omega) (Nat.le_of_ble_eq_true rfl) (t_copyOf _ (o + 6) 20 k (s.1 (o + 6)) (by show o + 6 < n + 2; omega) ((app_lt (show o + 6 < n by omega)).trans (ct_ri (hO.ar 6 (by decide) rfl) (by decide))) (by decide) (by omega) (by show n + 2 < 1000000; omega)) ?_
  refine jg_hs (S' := [.ref (n + 2), .ref (n + 1), .int (nI k), .ref n, .ref n]) (h' := (apx (ct_h g τ s) n [.inl (0, [.int 0, .null, .null, .null, .null, .null]), .inr (0, k, .inl (fun i => if i < k ∧ i < 20 then s.1 (o + 5) i else 0)), .inr (0, k, .inl (fun i => if i < k ∧ i < 20 then s.1 (o + 6) i else 0))], n + 3)) rfl (mk_push rfl rfl) ?_
  refine jg_aload_n dX7_read_202 rfl ?_
  refine jg_get (q := o + 2) (v := .ref (o + 7)) fl_X7_28 dX7_read_203 (by show o + 2 < n + 3; omega) ((app_lt (show o + 2 < n by omega)).trans (ct_o (hO.ob 2 (by decide) rfl))) rfl ?_
  refine jg_aload_n dX7_read_206 rfl ?_
  refine jg_get (q := o + 2) (v := .int (nI k)) fl_X7_50 dX7_read_207 (by show o + 2 < n + 3; omega) ((app_lt (show o + 2 < n by omega)).trans (ct_o (hO.ob 2 (by decide) rfl))) (by show some (Value.int (s.1 (o + 2) 8)) = _; rw [ek]) ?_
  refine jc_S (As := [.ref (o + 7), .int (nI k)]) (a' := 1) (b' := k) ks_X7_69 dX7_read_210 rfl (by decide) (Nat.le_of_ble_eq_true rfl) rfl (by decide) (by decide) (by omega) (Nat.le_of_ble_eq_true rfl) (t_copyOf _ (o + 7) 20 k (s.1 (o + 7)) (by show o + 7 < n + 3; omega) ((app_lt (show o + 7 < n by omega)).trans (ct_ri (hO.ar 7 (by decide) rfl) (by decide))) (by decide) (by omega) (by show n + 3 < 1000000; omega)) ?_
  refine jg_hs (S' := [.ref (n + 3), .ref (n + 2), .ref (n + 1), .int (nI k), .ref n, .ref n]) (h' := (apx (ct_h g τ s) n [.inl (0, [.int 0, .null, .null, .null, .null, .null]), .inr (0, k, .inl (fun i => if i < k ∧ i < 20 then s.1 (o + 5) i else 0)), .inr (0, k, .inl (fun i => if i < k ∧ i < 20 then s.1 (o + 6) i else 0)), .inr (0, k, .inl (fun i => if i < k ∧ i < 20 then s.1 (o + 7) i else 0))], n + 4)) rfl (mk_push rfl rfl) ?_
  refine jg_aload_n dX7_read_213 rfl ?_
  refine jg_get (q := o + 2) (v := .ref (o + 8)) fl_X7_31 dX7_read_214 (by show o + 2 < n + 4; omega) ((app_lt (show o + 2 < n by omega)).trans (ct_o (hO.ob 2 (by decide) rfl))) rfl ?_
  refine jg_aload_n dX7_read_217 rfl ?_
  refine jg_get (q := o + 2) (v := .int (nI m)) fl_X7_53 dX7_read_218 (by show o + 2 < n + 4; omega) ((app_lt (show o + 2 < n by omega)).trans (ct_o (hO.ob 2 (by decide) rfl))) (by show some (Value.int (s.1 (o + 2) 11)) = _; rw [em]) ?_
  refine jc_S (As := [.ref (o + 8), .int (nI m)]) (a' := 1) (b' := m) ks_X7_69 dX7_read_221 rfl (by decide) (Nat.le_of_ble_eq_true rfl) rfl (by decide) (by decide) (by omega) (Nat.le_of_ble_eq_true rfl) (t_copyOf _ (o + 8) 400 m (s.1 (o + 8)) (by show o + 8 < n + 4; omega) ((app_lt (show o + 8 < n by omega)).trans (ct_ri (hO.ar 8 (by decide) rfl) (by decide))) (by decide) (by omega) (by show n + 4 < 1000000; omega)) ?_
  refine jg_hs (S' := [.ref (n + 4), .ref (n + 3), .ref (n + 2), .ref (n + 1), .int (nI k), .ref n, .ref n]) (h' := (apx (ct_h g τ s) n [.inl (0, [.int 0, .null, .null, .null, .null, .null]), .inr (0, k, .inl (fun i => if i < k ∧ i < 20 then s.1 (o + 5) i else 0)), .inr (0, k, .inl (fun i => if i < k ∧ i < 20 then s.1 (o + 6) i else 0)), .inr (0, k, .inl (fun i => if i < k ∧ i < 20 then s.1 (o + 7) i else 0)), .inr (0, m, .inl (fun i => if i < m ∧ i < 400 then s.1 (o + 8) i else 0))], n + 5)) rfl (mk_push rfl rfl) ?_
  refine jg_aload_n dX7_read_224 rfl ?_
  refine jg_get (q := o + 2) (v := .ref (o + 9)) fl_X7_34 dX7_read_225 (by show o + 2 < n + 5; omega) ((app_lt (show o + 2 < n by omega)).trans (ct_o (hO.ob 2 (by decide) rfl))) rfl ?_
  refine jg_aload_n dX7_read_228 rfl ?_
  refine jg_get (q := o + 2) (v := .int (nI m)) fl_X7_53 dX7_read_229 (by show o + 2 < n + 5; omega) ((app_lt (show o + 2 < n by omega)).trans (ct_o (hO.ob 2 (by decide) rfl))) (by show some (Value.int (s.1 (o + 2) 11)) = _; rw [em]) ?_
  refine jc_S (As := [.ref (o + 9), .int (nI m)]) (a' := 1) (b' := m) ks_X7_69 dX7_read_232 rfl (by decide) (Nat.le_of_ble_eq_true rfl) rfl (by decide) (by decide) (by omega) (Nat.le_of_ble_eq_true rfl) (t_copyOf _ (o + 9) 400 m (s.1 (o + 9)) (by show o + 9 < n + 5; omega) ((app_lt (show o + 9 < n by omega)).trans (ct_ri (hO.ar 9 (by decide) rfl) (by decide))) (by decide) (by omega) (by show n + 5 < 1000000; omega)) ?_
  refine jg_hs (S' := [.ref (n + 5), .ref (n + 4), .ref (n + 3), .ref (n + 2), .ref (n + 1), .int (nI k), .ref n, .ref n]) (h' := (apx (ct_h g τ s) n [.inl (0, [.int 0, .null, .null, .null, .null, .null]), .inr (0, k, .inl (fun i => if i < k ∧ i < 20 then s.1 (o + 5) i else 0)), .inr (0, k, .inl (fun i => if i < k ∧ i < 20 then s.1 (o + 6) i else 0)), .inr (0, k, .inl (fun i => if i < k ∧ i < 20 then s.1 (o + 7) i else 0)), .inr (0, m, .inl (fun i => if i < m ∧ i < 400 then s.1 (o + 8) i else 0)), .inr (0, m, .inl (fun i => if i < m ∧ i < 400 then s.1 (o + 9) i else 0))], n + 6)) rfl (mk_push rfl rfl) ?_
  refine jc_I (q := n) (As := [.int (nI k), .ref (n + 1), .ref (n + 2), .ref (n + 3), .ref (n + 4), .ref (n + 5)]) (a' := 0) (b' := 0) ki_X7_75 dX7_read_235 rfl (by decide) (Nat.le_of_ble_eq_true rfl) rfl (by decide) (Nat.zero_le _) (Nat.zero_le _) (Nat.le_of_ble_eq_true rfl) (t_X0_init _ n (nI k) (n + 1) (n + 2) (n + 3) (n + 4) (n + 5) (by show n < n + 6; omega) (app_at (i := 0) rfl)) ?_
  refine jg_hs (S' := [.ref n]) (h' := (ct_h g (tA τ n k m) (iA s n o k m), n + 6)) rfl ?_ ?_
  · rw [← ac_new]; exact mk_set (i := 0) (ltb rfl) (by show _ :: _ = _; unfold cAc; rw [ek])
  exact jg_areturn dX7_read_238 rfl (Or.inl ⟨_, rfl⟩) ⟨rfl, rfl⟩
noncomputable def o_X7_read_47 (F : Nat) (τ : cT) (n : Nat) (o : Nat) (a1 : Nat)  : Nat → Int32 → Int32 → Int32 → cS → Option (Int32 × Int32 × cS)
  | 0, _, _, _, _ => none
  | f + 1, l3, l4, l5, s => if (nI 20) ≤ l5 then (some (l3, l4, s)) else (if l4 = 0 then (some (l3, l4, s)) else (if l3 = 0 then (some (l3, l4, s)) else ((o_X7_readLine F τ n o s).bind fun x8 => ((o_X7_thing τ n o x8.2).bind fun x9 => (if x9 = (-2) then (if x8.1 = 0 then (o_X7_read_47 F τ n o a1 f (nI 0) x8.1 (l5 + nI 1) x8.2) else (o_X7_read_47 F τ n o a1 f (nI 0) x8.1 (l5 + nI 1) x8.2)) else (if x8.1 = 0 then (o_X7_read_47 F τ n o a1 f (nI 1) x8.1 (l5 + nI 1) x8.2) else ((o_X7_thing τ n o x8.2).bind fun x13 => (if x13 = (nI 59) then (o_X7_read_47 F τ n o a1 f (nI 1) (nI 1) (l5 + nI 1) (cp x8.2 (o + 2) 4 ((x8.2.1 (o + 2) 4) + (nI 1)))) else (o_X7_read_47 F τ n o a1 f (nI 1) (nI 0) (l5 + nI 1) (cp x8.2 (o + 2) 4 ((x8.2.1 (o + 2) 4) + (nI 0))))))))))))
set_option maxHeartbeats 4000000 in
theorem t_X7_read_47 {Γ : jg_G} {g : Nat → jg_C} {a9 b9 : Nat} (F : Nat) (τ : cT) (n : Nat) (o : Nat) (a1 : Nat)  (hO : Sh τ n o) (h1 : Ar τ n a1 1 400) (Q : jg_Q) {x : Int32 × Int32 × cS} (K1 : jg Γ mX7_read 46 a9 b9 134 [some (.ref (o + 2)), none, none, some (.int x.1), some (.int x.2.1), none] [] (ct_h g τ x.2.2, n) Q)  : ∀ (f : Nat) (l3 : Int32) (l4 : Int32) (l5 : Int32) (s : cS), o_X7_read_47 F τ n o a1 f l3 l4 l5 s = some x → jg Γ mX7_read 46 a9 b9 47 [some (.ref (o + 2)), none, none, some (.int l3), some (.int l4), some (.int l5)] [] (ct_h g τ s, n) Q := by
  intro f
  induction f with
  | zero => intro l3 l4 l5 s h; rw [o_X7_read_47] at h; cases h
  | succ f ih =>
   intro l3 l4 l5 s h
   rw [o_X7_read_47] at h
   refine jg_iload dX7_read_47 rfl ?_
   refine jg_bipush (v := nI 20) dX7_read_49 (by decide) ?_
   refine jg_icmp_ge (x := l5) (y := (nI 20)) (tgt := 134) dX7_read_51 (by decide) (fun c5 => ?_) (fun c5 => ?_)
   · replace h := it_t c5 h
     refine jg_fg (L' := [some (.ref (o + 2)), none, none, some (.int l3), some (.int l4), none]) (by repeat (first | exact trivial | refine ⟨rfl, ?_⟩ | show jg_le _ _)) ?_
     obtain rfl := Option.some.inj h
     exact K1
   · replace h := it_f c5 h
     refine jg_iload dX7_read_54 rfl ?_
     refine jg_if_eq (x := l4) (tgt := 134) dX7_read_56 (by decide) (fun c6 => ?_) (fun c6 => ?_)
     · replace h := it_t c6 h
       refine jg_fg (L' := [some (.ref (o + 2)), none, none, some (.int l3), some (.int l4), none]) (by repeat (first | exact trivial | refine ⟨rfl, ?_⟩ | show jg_le _ _)) ?_
       obtain rfl := Option.some.inj h
       exact K1
     · replace h := it_f c6 h
       refine jg_iload_n dX7_read_59 rfl ?_
       refine jg_if_eq (x := l3) (tgt := 134) dX7_read_60 (by decide) (fun c7 => ?_) (fun c7 => ?_)
       · replace h := it_t c7 h
         refine jg_fg (L' := [some (.ref (o + 2)), none, none, some (.int l3), some (.int l4), none]) (by repeat (first | exact trivial | refine ⟨rfl, ?_⟩ | show jg_le _ _)) ?_
         obtain rfl := Option.some.inj h
         exact K1
       · replace h := it_f c7 h
         refine jg_aload_n dX7_read_63 rfl ?_
         obtain ⟨x8, e_x8, h⟩ := bd_some h
         refine cs_call (q := (o + 2)) (As := []) kv_X7_60 dX7_read_64 (hO.ob 2 (by decide) rfl) rfl rfl (by decide) (Nat.le_of_ble_eq_true rfl) rfl (by decide) (Nat.le_of_ble_eq_true rfl) (t_X7_readLine F τ n o s hO e_x8) ?_
         refine jg_istore (L' := [some (.ref (o + 2)), none, none, some (.int l3), some (.int x8.1), some (.int l5)]) dX7_read_67 (by decide) rfl ?_
         refine jg_aload_n dX7_read_69 rfl ?_
         obtain ⟨x9, e_x9, h⟩ := bd_some h
         refine cs_call (q := (o + 2)) (As := []) kv_X7_56 dX7_read_70 (hO.ob 2 (by decide) rfl) rfl rfl (by decide) (Nat.le_of_ble_eq_true rfl) rfl (by decide) (Nat.le_of_ble_eq_true rfl) (t_X7_thing τ n o x8.2 hO e_x9) ?_
         refine jg_bipush (v := (-2)) dX7_read_73 (by decide) ?_
         refine jg_icmp_eq (x := x9) (y := (-2)) (tgt := 82) dX7_read_75 (by decide) (fun c10 => ?_) (fun c10 => ?_)
         · replace h := it_t c10 h
           refine jg_iconst (v := nI 0) dX7_read_82 (by decide) ?_
           refine jg_istore_n (L' := [some (.ref (o + 2)), none, none, some (.int (nI 0)), some (.int x8.1), some (.int l5)]) dX7_read_83 (by decide) rfl ?_
           refine jg_iload dX7_read_84 rfl ?_
           refine jg_if_eq (x := x8.1) (tgt := 128) dX7_read_86 (by decide) (fun c11 => ?_) (fun c11 => ?_)
           · replace h := it_t c11 h
             refine jg_iinc (x := l5) (v := l5 + nI 1) (L' := [some (.ref (o + 2)), none, none, some (.int (nI 0)), some (.int x8.1), some (.int (l5 + nI 1))]) dX7_read_128 rfl (ic_k _ (by decide)) (by decide) rfl ?_
             refine jg_goto (tgt := 47) dX7_read_131 (by decide) ?_
             refine jg_fg (L' := [some (.ref (o + 2)), none, none, some (.int (nI 0)), some (.int x8.1), some (.int (l5 + nI 1))]) (by repeat (first | exact trivial | refine ⟨rfl, ?_⟩ | show jg_le _ _)) ?_
             exact ih (nI 0) x8.1 (l5 + nI 1) x8.2 h
           · replace h := it_f c11 h
             refine jg_iload_n dX7_read_89 rfl ?_
             refine jg_if_eq (x := (nI 0)) (tgt := 128) dX7_read_90 (by decide) (fun _ => ?_) (fun q9 => absurd q9 (by decide))
             refine jg_iinc (x := l5) (v := l5 + nI 1) (L' := [some (.ref (o + 2)), none, none, some (.int (nI 0)), some (.int x8.1), some (.int (l5 + nI 1))]) dX7_read_128 rfl (ic_k _ (by decide)) (by decide) rfl ?_
             refine jg_goto (tgt := 47) dX7_read_131 (by decide) ?_
             refine jg_fg (L' := [some (.ref (o + 2)), none, none, some (.int (nI 0)), some (.int x8.1), some (.int (l5 + nI 1))]) (by repeat (first | exact trivial | refine ⟨rfl, ?_⟩ | show jg_le _ _)) ?_
             exact ih (nI 0) x8.1 (l5 + nI 1) x8.2 h
         · replace h := it_f c10 h
           refine jg_iconst (v := nI 1) dX7_read_78 (by decide) ?_
           refine jg_goto (tgt := 83) dX7_read_79 (by decide) ?_
           refine jg_istore_n (L' := [some (.ref (o + 2)), none, none, some (.int (nI 1)), some (.int x8.1), some (.int l5)]) dX7_read_83 (by decide) rfl ?_
           refine jg_iload dX7_read_84 rfl ?_
           refine jg_if_eq (x := x8.1) (tgt := 128) dX7_read_86 (by decide) (fun c12 => ?_) (fun c12 => ?_)
           · replace h := it_t c12 h
             refine jg_iinc (x := l5) (v := l5 + nI 1) (L' := [some (.ref (o + 2)), none, none, some (.int (nI 1)), some (.int x8.1), some (.int (l5 + nI 1))]) dX7_read_128 rfl (ic_k _ (by decide)) (by decide) rfl ?_
             refine jg_goto (tgt := 47) dX7_read_131 (by decide) ?_
             refine jg_fg (L' := [some (.ref (o + 2)), none, none, some (.int (nI 1)), some (.int x8.1), some (.int (l5 + nI 1))]) (by repeat (first | exact trivial | refine ⟨rfl, ?_⟩ | show jg_le _ _)) ?_
             exact ih (nI 1) x8.1 (l5 + nI 1) x8.2 h
           · replace h := it_f c12 h
             refine jg_iload_n dX7_read_89 rfl ?_
             refine jg_if_eq (x := (nI 1)) (tgt := 128) dX7_read_90 (by decide) (fun q9 => absurd q9 (by decide)) (fun _ => ?_)
             refine jg_aload_n dX7_read_93 rfl ?_
             obtain ⟨x13, e_x13, h⟩ := bd_some h
             refine cs_call (q := (o + 2)) (As := []) kv_X7_56 dX7_read_94 (hO.ob 2 (by decide) rfl) rfl rfl (by decide) (Nat.le_of_ble_eq_true rfl) rfl (by decide) (Nat.le_of_ble_eq_true rfl) (t_X7_thing τ n o x8.2 hO e_x13) ?_
             refine jg_bipush (v := nI 59) dX7_read_97 (by decide) ?_
             refine jg_icmp_ne (x := x13) (y := (nI 59)) (tgt := 106) dX7_read_99 (by decide) (fun c14 => ?_) (fun c14 => ?_)
             · replace h := it_f c14 h
               refine jg_iconst (v := nI 0) dX7_read_106 (by decide) ?_
               refine jg_istore (L' := [some (.ref (o + 2)), none, none, some (.int (nI 1)), some (.int (nI 0)), some (.int l5)]) dX7_read_107 (by decide) rfl ?_
               refine jg_aload_n dX7_read_109 rfl ?_
               refine jg_dup dX7_read_110 rfl ?_
               refine cs_get (s := x8.2) (w := .int (x8.2.1 (o + 2) 4)) fl_X7_47 dX7_read_111 (hO.ob 2 (by decide) rfl) rfl ?_
               refine jg_iload dX7_read_114 rfl ?_
               refine jg_if_eq (x := (nI 0)) (tgt := 123) dX7_read_116 (by decide) (fun _ => ?_) (fun q9 => absurd q9 (by decide))
               refine jg_iconst (v := nI 0) dX7_read_123 (by decide) ?_
               refine jg_iadd (x := (x8.2.1 (o + 2) 4)) (y := (nI 0)) dX7_read_124  ?_
               refine cs_put (s := x8.2) (k := 4) (x := ((x8.2.1 (o + 2) 4) + (nI 0))) fl_X7_47 dX7_read_125 (hO.ob 2 (by decide) rfl) (ltb rfl) (rfl) rfl rfl ?_
               refine jg_iinc (x := l5) (v := l5 + nI 1) (L' := [some (.ref (o + 2)), none, none, some (.int (nI 1)), some (.int (nI 0)), some (.int (l5 + nI 1))]) dX7_read_128 rfl (ic_k _ (by decide)) (by decide) rfl ?_
               refine jg_goto (tgt := 47) dX7_read_131 (by decide) ?_
               refine jg_fg (L' := [some (.ref (o + 2)), none, none, some (.int (nI 1)), some (.int (nI 0)), some (.int (l5 + nI 1))]) (by repeat (first | exact trivial | refine ⟨rfl, ?_⟩ | show jg_le _ _)) ?_
               exact ih (nI 1) (nI 0) (l5 + nI 1) (cp x8.2 (o + 2) 4 ((x8.2.1 (o + 2) 4) + (nI 0))) h
             · replace h := it_t c14 h
               refine jg_iconst (v := nI 1) dX7_read_102 (by decide) ?_
               refine jg_goto (tgt := 107) dX7_read_103 (by decide) ?_
               refine jg_istore (L' := [some (.ref (o + 2)), none, none, some (.int (nI 1)), some (.int (nI 1)), some (.int l5)]) dX7_read_107 (by decide) rfl ?_
               refine jg_aload_n dX7_read_109 rfl ?_
               refine jg_dup dX7_read_110 rfl ?_
               refine cs_get (s := x8.2) (w := .int (x8.2.1 (o + 2) 4)) fl_X7_47 dX7_read_111 (hO.ob 2 (by decide) rfl) rfl ?_
               refine jg_iload dX7_read_114 rfl ?_
               refine jg_if_eq (x := (nI 1)) (tgt := 123) dX7_read_116 (by decide) (fun q9 => absurd q9 (by decide)) (fun _ => ?_)
               refine jg_iconst (v := nI 1) dX7_read_119 (by decide) ?_
               refine jg_goto (tgt := 124) dX7_read_120 (by decide) ?_
               refine jg_iadd (x := (x8.2.1 (o + 2) 4)) (y := (nI 1)) dX7_read_124  ?_
               refine cs_put (s := x8.2) (k := 4) (x := ((x8.2.1 (o + 2) 4) + (nI 1))) fl_X7_47 dX7_read_125 (hO.ob 2 (by decide) rfl) (ltb rfl) (rfl) rfl rfl ?_
               refine jg_iinc (x := l5) (v := l5 + nI 1) (L' := [some (.ref (o + 2)), none, none, some (.int (nI 1)), some (.int (nI 1)), some (.int (l5 + nI 1))]) dX7_read_128 rfl (ic_k _ (by decide)) (by decide) rfl ?_
               refine jg_goto (tgt := 47) dX7_read_131 (by decide) ?_
               refine jg_fg (L' := [some (.ref (o + 2)), none, none, some (.int (nI 1)), some (.int (nI 1)), some (.int (l5 + nI 1))]) (by repeat (first | exact trivial | refine ⟨rfl, ?_⟩ | show jg_le _ _)) ?_
               exact ih (nI 1) (nI 1) (l5 + nI 1) (cp x8.2 (o + 2) 4 ((x8.2.1 (o + 2) 4) + (nI 1))) h
noncomputable def o_X7_read (F : Nat) (τ : cT) (n : Nat) (o : Nat) (a1 : Nat) (s : cS) (a2 : Int32) : Option (Bool × cS) := (o_X7_findThings F τ n o a1 s (mni a2 (nI 400))).bind fun x1 => ((some (cp (cp (cp x1 (o + 2) 4 (nI 0)) (o + 2) 8 (nI 0)) (o + 2) 11 (nI 0))).bind fun x2 => ((o_X7_thing τ n o x2).bind fun x3 => (if x3 = (-2) then ((o_X7_read_47 F τ n o a1 F (nI 0) (nI 1) (nI 0) x2).bind fun x15 => (if x15.2.1 = 0 then (if iL (mni (x15.2.2.1 (o + 2) 4) ((x15.2.2.1 (o + 2) 3) - (nI 1))) 401 then ((some (cp x15.2.2 (o + 2) 0 (cg x15.2.2 (o + 4) (mni (x15.2.2.1 (o + 2) 4) ((x15.2.2.1 (o + 2) 3) - (nI 1)))))).bind fun x18 => (some (false, x18))) else none) else (if x15.1 = 0 then (if iL ((cp x15.2.2 (o + 2) 0 (-1)).1 (o + 2) 8) 21 then (if iL ((cp x15.2.2 (o + 2) 0 (-1)).1 (o + 2) 11) 401 then (some (true, cp x15.2.2 (o + 2) 0 (-1))) else none) else none) else (if iL (mni (x15.2.2.1 (o + 2) 4) ((x15.2.2.1 (o + 2) 3) - (nI 1))) 401 then ((some (cp x15.2.2 (o + 2) 0 (cg x15.2.2 (o + 4) (mni (x15.2.2.1 (o + 2) 4) ((x15.2.2.1 (o + 2) 3) - (nI 1)))))).bind fun x21 => (some (false, x21))) else none)))) else ((o_X7_read_47 F τ n o a1 F (nI 1) (nI 1) (nI 0) x2).bind fun x22 => (if x22.2.1 = 0 then (if iL (mni (x22.2.2.1 (o + 2) 4) ((x22.2.2.1 (o + 2) 3) - (nI 1))) 401 then ((some (cp x22.2.2 (o + 2) 0 (cg x22.2.2 (o + 4) (mni (x22.2.2.1 (o + 2) 4) ((x22.2.2.1 (o + 2) 3) - (nI 1)))))).bind fun x25 => (some (false, x25))) else none) else (if x22.1 = 0 then (if iL ((cp x22.2.2 (o + 2) 0 (-1)).1 (o + 2) 8) 21 then (if iL ((cp x22.2.2 (o + 2) 0 (-1)).1 (o + 2) 11) 401 then (some (true, cp x22.2.2 (o + 2) 0 (-1))) else none) else none) else (if iL (mni (x22.2.2.1 (o + 2) 4) ((x22.2.2.1 (o + 2) 3) - (nI 1))) 401 then ((some (cp x22.2.2 (o + 2) 0 (cg x22.2.2 (o + 4) (mni (x22.2.2.1 (o + 2) 4) ((x22.2.2.1 (o + 2) 3) - (nI 1)))))).bind fun x28 => (some (false, x28))) else none)))))))
set_option maxHeartbeats 4000000 in
theorem t_X7_read {Γ : jg_G} {g : Nat → jg_C} (F : Nat) (τ : cT) (n : Nat) (o : Nat) (a1 : Nat) (s : cS) (a2 : Int32) (hO : Sh τ n o) (h1 : Ar τ n a1 1 400) {x : cS} (h : o_X7_read F τ n o a1 s a2 = some (false, x)) : jc Γ mX7_read 46 0 0 [some (.ref (o + 2)), some (.ref a1), some (.int a2), none, none, none] (ct_h g τ s, n) (.inl (some .null)) (ct_h g τ x, n) := by
  refine jc_of ?_
  rw [o_X7_read] at h
  refine jg_aload_n dX7_read_0 rfl ?_
  refine jg_aload_n dX7_read_1 rfl ?_
  refine jg_iload_n dX7_read_2 rfl ?_
  refine jg_aload_n dX7_read_3 rfl ?_
  refine cs_len (s := s) (q := a1) (by decide) dX7_read_4 h1 ?_
  refine jg_mmin (x := a2) (y := (nI 400)) km_X7_37 jw_min.1 jw_min.2 dX7_read_5 (by decide) (Nat.le_of_ble_eq_true rfl) ?_
  obtain ⟨x1, e_x1, h⟩ := bd_some h
  refine cs_call (q := (o + 2)) (As := [.ref a1, .int (mni a2 (nI 400))]) kv_X7_43 dX7_read_8 (hO.ob 2 (by decide) rfl) rfl rfl (by decide) (Nat.le_of_ble_eq_true rfl) rfl (by decide) (Nat.le_of_ble_eq_true rfl) (t_X7_findThings F τ n o a1 s (mni a2 (nI 400)) hO h1 e_x1) ?_
  refine jg_aload_n dX7_read_11 rfl ?_
  refine jg_iconst (v := nI 0) dX7_read_12 (by decide) ?_
  refine cs_put (s := x1) (k := 4) (x := (nI 0)) fl_X7_47 dX7_read_13 (hO.ob 2 (by decide) rfl) (ltb rfl) (rfl) rfl rfl ?_
  refine jg_aload_n dX7_read_16 rfl ?_
  refine jg_iconst (v := nI 0) dX7_read_17 (by decide) ?_
  refine cs_put (s := (cp x1 (o + 2) 4 (nI 0))) (k := 8) (x := (nI 0)) fl_X7_50 dX7_read_18 (hO.ob 2 (by decide) rfl) (ltb rfl) (rfl) rfl rfl ?_
  refine jg_aload_n dX7_read_21 rfl ?_
  refine jg_iconst (v := nI 0) dX7_read_22 (by decide) ?_
  refine cs_put (s := (cp (cp x1 (o + 2) 4 (nI 0)) (o + 2) 8 (nI 0))) (k := 11) (x := (nI 0)) fl_X7_53 dX7_read_23 (hO.ob 2 (by decide) rfl) (ltb rfl) (rfl) rfl rfl ?_
  obtain ⟨x2, e_x2, h⟩ := bd_some h
  refine cs_sub (Option.some.inj e_x2) ?_
  refine jg_aload_n dX7_read_26 rfl ?_
  obtain ⟨x3, e_x3, h⟩ := bd_some h
  refine cs_call (q := (o + 2)) (As := []) kv_X7_56 dX7_read_27 (hO.ob 2 (by decide) rfl) rfl rfl (by decide) (Nat.le_of_ble_eq_true rfl) rfl (by decide) (Nat.le_of_ble_eq_true rfl) (t_X7_thing τ n o x2 hO e_x3) ?_
  refine jg_bipush (v := (-2)) dX7_read_30 (by decide) ?_
  refine jg_icmp_eq (x := x3) (y := (-2)) (tgt := 39) dX7_read_32 (by decide) (fun c4 => ?_) (fun c4 => ?_)
  · replace h := it_t c4 h
    refine jg_iconst (v := nI 0) dX7_read_39 (by decide) ?_
    refine jg_istore_n (L' := [some (.ref (o + 2)), some (.ref a1), some (.int a2), some (.int (nI 0)), none, none]) dX7_read_40 (by decide) rfl ?_
    refine jg_iconst (v := nI 1) dX7_read_41 (by decide) ?_
    refine jg_istore (L' := [some (.ref (o + 2)), some (.ref a1), some (.int a2), some (.int (nI 0)), some (.int (nI 1)), none]) dX7_read_42 (by decide) rfl ?_
    refine jg_iconst (v := nI 0) dX7_read_44 (by decide) ?_
    refine jg_istore (L' := [some (.ref (o + 2)), some (.ref a1), some (.int a2), some (.int (nI 0)), some (.int (nI 1)), some (.int (nI 0))]) dX7_read_45 (by decide) rfl ?_
    obtain ⟨x15, e_x15, h⟩ := bd_some h
    refine jg_fg (L' := [some (.ref (o + 2)), none, none, some (.int (nI 0)), some (.int (nI 1)), some (.int (nI 0))]) (by repeat (first | exact trivial | refine ⟨rfl, ?_⟩ | show jg_le _ _)) ?_
    refine t_X7_read_47  F τ n o a1 hO h1 _ (x := x15) ?_ F (nI 0) (nI 1) (nI 0) x2 e_x15
    refine jg_iload dX7_read_134 rfl ?_
    refine jg_if_eq (x := x15.2.1) (tgt := 143) dX7_read_136 (by decide) (fun c16 => ?_) (fun c16 => ?_)
    · replace h := it_t c16 h
      refine jg_aload_n dX7_read_143 rfl ?_
      refine jg_aload_n dX7_read_144 rfl ?_
      refine cs_get (s := x15.2.2) (w := .ref (o + 4)) fl_X7_19 dX7_read_145 (hO.ob 2 (by decide) rfl) rfl ?_
      refine jg_aload_n dX7_read_148 rfl ?_
      refine cs_get (s := x15.2.2) (w := .int (x15.2.2.1 (o + 2) 4)) fl_X7_47 dX7_read_149 (hO.ob 2 (by decide) rfl) rfl ?_
      refine jg_aload_n dX7_read_152 rfl ?_
      refine cs_get (s := x15.2.2) (w := .int (x15.2.2.1 (o + 2) 3)) fl_X7_64 dX7_read_153 (hO.ob 2 (by decide) rfl) rfl ?_
      refine jg_iconst (v := nI 1) dX7_read_156 (by decide) ?_
      refine jg_isub (x := (x15.2.2.1 (o + 2) 3)) (y := (nI 1)) dX7_read_157  ?_
      refine jg_mmin (x := (x15.2.2.1 (o + 2) 4)) (y := ((x15.2.2.1 (o + 2) 3) - (nI 1))) km_X7_37 jw_min.1 jw_min.2 dX7_read_158 (by decide) (Nat.le_of_ble_eq_true rfl) ?_
      obtain ⟨q17, h⟩ := gd_some h
      refine cs_lda (s := x15.2.2) (q := (o + 4)) (i := (mni (x15.2.2.1 (o + 2) 4) ((x15.2.2.1 (o + 2) 3) - (nI 1)))) dX7_read_161 (hO.ar 4 (by decide) rfl) q17 ?_
      refine cs_put (s := x15.2.2) (k := 0) (x := (cg x15.2.2 (o + 4) (mni (x15.2.2.1 (o + 2) 4) ((x15.2.2.1 (o + 2) 3) - (nI 1))))) fl_X7_9 dX7_read_162 (hO.ob 2 (by decide) rfl) (ltb rfl) (rfl) rfl rfl ?_
      obtain ⟨x18, e_x18, h⟩ := bd_some h
      refine cs_sub (Option.some.inj e_x18) ?_
      refine jg_null dX7_read_165 ?_
      obtain rfl := (Prod.mk.inj (Option.some.inj h)).2
      exact jg_areturnN dX7_read_166 rfl (Or.inl ⟨_, rfl⟩) ⟨rfl, rfl⟩
    · replace h := it_f c16 h
      refine jg_iload_n dX7_read_139 rfl ?_
      refine jg_if_eq (x := x15.1) (tgt := 167) dX7_read_140 (by decide) (fun c19 => ?_) (fun c19 => ?_)
      · replace h := it_t c19 h
        refine jg_aload_n dX7_read_167 rfl ?_
        refine jg_iconst (v := (-1)) dX7_read_168 (by decide) ?_
        refine cs_put (s := x15.2.2) (k := 0) (x := (-1)) fl_X7_9 dX7_read_169 (hO.ob 2 (by decide) rfl) (ltb rfl) (rfl) rfl rfl ?_
        obtain ⟨q1, h⟩ := gd_some h
        obtain ⟨q2, h⟩ := gd_some h
        cases h
      · replace h := it_f c19 h
        refine jg_aload_n dX7_read_143 rfl ?_
        refine jg_aload_n dX7_read_144 rfl ?_
        refine cs_get (s := x15.2.2) (w := .ref (o + 4)) fl_X7_19 dX7_read_145 (hO.ob 2 (by decide) rfl) rfl ?_
        refine jg_aload_n dX7_read_148 rfl ?_
        refine cs_get (s := x15.2.2) (w := .int (x15.2.2.1 (o + 2) 4)) fl_X7_47 dX7_read_149 (hO.ob 2 (by decide) rfl) rfl ?_
        refine jg_aload_n dX7_read_152 rfl ?_
        refine cs_get (s := x15.2.2) (w := .int (x15.2.2.1 (o + 2) 3)) fl_X7_64 dX7_read_153 (hO.ob 2 (by decide) rfl) rfl ?_
        refine jg_iconst (v := nI 1) dX7_read_156 (by decide) ?_
        refine jg_isub (x := (x15.2.2.1 (o + 2) 3)) (y := (nI 1)) dX7_read_157  ?_
        refine jg_mmin (x := (x15.2.2.1 (o + 2) 4)) (y := ((x15.2.2.1 (o + 2) 3) - (nI 1))) km_X7_37 jw_min.1 jw_min.2 dX7_read_158 (by decide) (Nat.le_of_ble_eq_true rfl) ?_
        obtain ⟨q20, h⟩ := gd_some h
        refine cs_lda (s := x15.2.2) (q := (o + 4)) (i := (mni (x15.2.2.1 (o + 2) 4) ((x15.2.2.1 (o + 2) 3) - (nI 1)))) dX7_read_161 (hO.ar 4 (by decide) rfl) q20 ?_
        refine cs_put (s := x15.2.2) (k := 0) (x := (cg x15.2.2 (o + 4) (mni (x15.2.2.1 (o + 2) 4) ((x15.2.2.1 (o + 2) 3) - (nI 1))))) fl_X7_9 dX7_read_162 (hO.ob 2 (by decide) rfl) (ltb rfl) (rfl) rfl rfl ?_
        obtain ⟨x21, e_x21, h⟩ := bd_some h
        refine cs_sub (Option.some.inj e_x21) ?_
        refine jg_null dX7_read_165 ?_
        obtain rfl := (Prod.mk.inj (Option.some.inj h)).2
        exact jg_areturnN dX7_read_166 rfl (Or.inl ⟨_, rfl⟩) ⟨rfl, rfl⟩
  · replace h := it_f c4 h
    refine jg_iconst (v := nI 1) dX7_read_35 (by decide) ?_
    refine jg_goto (tgt := 40) dX7_read_36 (by decide) ?_
    refine jg_istore_n (L' := [some (.ref (o + 2)), some (.ref a1), some (.int a2), some (.int (nI 1)), none, none]) dX7_read_40 (by decide) rfl ?_
    refine jg_iconst (v := nI 1) dX7_read_41 (by decide) ?_
    refine jg_istore (L' := [some (.ref (o + 2)), some (.ref a1), some (.int a2), some (.int (nI 1)), some (.int (nI 1)), none]) dX7_read_42 (by decide) rfl ?_
    refine jg_iconst (v := nI 0) dX7_read_44 (by decide) ?_
    refine jg_istore (L' := [some (.ref (o + 2)), some (.ref a1), some (.int a2), some (.int (nI 1)), some (.int (nI 1)), some (.int (nI 0))]) dX7_read_45 (by decide) rfl ?_
    obtain ⟨x22, e_x22, h⟩ := bd_some h
    refine jg_fg (L' := [some (.ref (o + 2)), none, none, some (.int (nI 1)), some (.int (nI 1)), some (.int (nI 0))]) (by repeat (first | exact trivial | refine ⟨rfl, ?_⟩ | show jg_le _ _)) ?_
    refine t_X7_read_47  F τ n o a1 hO h1 _ (x := x22) ?_ F (nI 1) (nI 1) (nI 0) x2 e_x22
    refine jg_iload dX7_read_134 rfl ?_
    refine jg_if_eq (x := x22.2.1) (tgt := 143) dX7_read_136 (by decide) (fun c23 => ?_) (fun c23 => ?_)
    · replace h := it_t c23 h
      refine jg_aload_n dX7_read_143 rfl ?_
      refine jg_aload_n dX7_read_144 rfl ?_
      refine cs_get (s := x22.2.2) (w := .ref (o + 4)) fl_X7_19 dX7_read_145 (hO.ob 2 (by decide) rfl) rfl ?_
      refine jg_aload_n dX7_read_148 rfl ?_
      refine cs_get (s := x22.2.2) (w := .int (x22.2.2.1 (o + 2) 4)) fl_X7_47 dX7_read_149 (hO.ob 2 (by decide) rfl) rfl ?_
      refine jg_aload_n dX7_read_152 rfl ?_
      refine cs_get (s := x22.2.2) (w := .int (x22.2.2.1 (o + 2) 3)) fl_X7_64 dX7_read_153 (hO.ob 2 (by decide) rfl) rfl ?_
      refine jg_iconst (v := nI 1) dX7_read_156 (by decide) ?_
      refine jg_isub (x := (x22.2.2.1 (o + 2) 3)) (y := (nI 1)) dX7_read_157  ?_
      refine jg_mmin (x := (x22.2.2.1 (o + 2) 4)) (y := ((x22.2.2.1 (o + 2) 3) - (nI 1))) km_X7_37 jw_min.1 jw_min.2 dX7_read_158 (by decide) (Nat.le_of_ble_eq_true rfl) ?_
      obtain ⟨q24, h⟩ := gd_some h
      refine cs_lda (s := x22.2.2) (q := (o + 4)) (i := (mni (x22.2.2.1 (o + 2) 4) ((x22.2.2.1 (o + 2) 3) - (nI 1)))) dX7_read_161 (hO.ar 4 (by decide) rfl) q24 ?_
      refine cs_put (s := x22.2.2) (k := 0) (x := (cg x22.2.2 (o + 4) (mni (x22.2.2.1 (o + 2) 4) ((x22.2.2.1 (o + 2) 3) - (nI 1))))) fl_X7_9 dX7_read_162 (hO.ob 2 (by decide) rfl) (ltb rfl) (rfl) rfl rfl ?_
      obtain ⟨x25, e_x25, h⟩ := bd_some h
      refine cs_sub (Option.some.inj e_x25) ?_
      refine jg_null dX7_read_165 ?_
      obtain rfl := (Prod.mk.inj (Option.some.inj h)).2
      exact jg_areturnN dX7_read_166 rfl (Or.inl ⟨_, rfl⟩) ⟨rfl, rfl⟩
    · replace h := it_f c23 h
      refine jg_iload_n dX7_read_139 rfl ?_
      refine jg_if_eq (x := x22.1) (tgt := 167) dX7_read_140 (by decide) (fun c26 => ?_) (fun c26 => ?_)
      · replace h := it_t c26 h
        refine jg_aload_n dX7_read_167 rfl ?_
        refine jg_iconst (v := (-1)) dX7_read_168 (by decide) ?_
        refine cs_put (s := x22.2.2) (k := 0) (x := (-1)) fl_X7_9 dX7_read_169 (hO.ob 2 (by decide) rfl) (ltb rfl) (rfl) rfl rfl ?_
        obtain ⟨q1, h⟩ := gd_some h
        obtain ⟨q2, h⟩ := gd_some h
        cases h
      · replace h := it_f c26 h
        refine jg_aload_n dX7_read_143 rfl ?_
        refine jg_aload_n dX7_read_144 rfl ?_
        refine cs_get (s := x22.2.2) (w := .ref (o + 4)) fl_X7_19 dX7_read_145 (hO.ob 2 (by decide) rfl) rfl ?_
        refine jg_aload_n dX7_read_148 rfl ?_
        refine cs_get (s := x22.2.2) (w := .int (x22.2.2.1 (o + 2) 4)) fl_X7_47 dX7_read_149 (hO.ob 2 (by decide) rfl) rfl ?_
        refine jg_aload_n dX7_read_152 rfl ?_
        refine cs_get (s := x22.2.2) (w := .int (x22.2.2.1 (o + 2) 3)) fl_X7_64 dX7_read_153 (hO.ob 2 (by decide) rfl) rfl ?_
        refine jg_iconst (v := nI 1) dX7_read_156 (by decide) ?_
        refine jg_isub (x := (x22.2.2.1 (o + 2) 3)) (y := (nI 1)) dX7_read_157  ?_
        refine jg_mmin (x := (x22.2.2.1 (o + 2) 4)) (y := ((x22.2.2.1 (o + 2) 3) - (nI 1))) km_X7_37 jw_min.1 jw_min.2 dX7_read_158 (by decide) (Nat.le_of_ble_eq_true rfl) ?_
        obtain ⟨q27, h⟩ := gd_some h
        refine cs_lda (s := x22.2.2) (q := (o + 4)) (i := (mni (x22.2.2.1 (o + 2) 4) ((x22.2.2.1 (o + 2) 3) - (nI 1)))) dX7_read_161 (hO.ar 4 (by decide) rfl) q27 ?_
        refine cs_put (s := x22.2.2) (k := 0) (x := (cg x22.2.2 (o + 4) (mni (x22.2.2.1 (o + 2) 4) ((x22.2.2.1 (o + 2) 3) - (nI 1))))) fl_X7_9 dX7_read_162 (hO.ob 2 (by decide) rfl) (ltb rfl) (rfl) rfl rfl ?_
        obtain ⟨x28, e_x28, h⟩ := bd_some h
        refine cs_sub (Option.some.inj e_x28) ?_
        refine jg_null dX7_read_165 ?_
        obtain rfl := (Prod.mk.inj (Option.some.inj h)).2
        exact jg_areturnN dX7_read_166 rfl (Or.inl ⟨_, rfl⟩) ⟨rfl, rfl⟩
set_option maxHeartbeats 4000000 in
theorem m_X7_read {Γ : jg_G} {g : Nat → jg_C} (F : Nat) (τ : cT) (n : Nat) (o : Nat) (a1 : Nat) (s : cS) (a2 : Int32) (hO : Sh τ n o) (h1 : Ar τ n a1 1 400) (hn : n + 6 ≤ 1000000) {x : cS} (h : o_X7_read F τ n o a1 s a2 = some (true, x)) : jc Γ mX7_read 46 6 866 [some (.ref (o + 2)), some (.ref a1), some (.int a2), none, none, none] (ct_h g τ s, n) (.inl (some (.ref n))) (ct_h g (tA τ n (lnA x o) (stA x o)) (iA x n o (lnA x o) (stA x o)), n + 6) := by
  refine jc_of ?_
  rw [o_X7_read] at h
  refine jg_aload_n dX7_read_0 rfl ?_
  refine jg_aload_n dX7_read_1 rfl ?_
  refine jg_iload_n dX7_read_2 rfl ?_
  refine jg_aload_n dX7_read_3 rfl ?_
  refine cs_len (s := s) (q := a1) (by decide) dX7_read_4 h1 ?_
  refine jg_mmin (x := a2) (y := (nI 400)) km_X7_37 jw_min.1 jw_min.2 dX7_read_5 (by decide) (Nat.le_of_ble_eq_true rfl) ?_
  obtain ⟨x1, e_x1, h⟩ := bd_some h
  refine cs_call (q := (o + 2)) (As := [.ref a1, .int (mni a2 (nI 400))]) kv_X7_43 dX7_read_8 (hO.ob 2 (by decide) rfl) rfl rfl (by decide) (Nat.le_of_ble_eq_true rfl) rfl (by decide) (Nat.le_of_ble_eq_true rfl) (t_X7_findThings F τ n o a1 s (mni a2 (nI 400)) hO h1 e_x1) ?_
  refine jg_aload_n dX7_read_11 rfl ?_
  refine jg_iconst (v := nI 0) dX7_read_12 (by decide) ?_
  refine cs_put (s := x1) (k := 4) (x := (nI 0)) fl_X7_47 dX7_read_13 (hO.ob 2 (by decide) rfl) (ltb rfl) (rfl) rfl rfl ?_
  refine jg_aload_n dX7_read_16 rfl ?_
  refine jg_iconst (v := nI 0) dX7_read_17 (by decide) ?_
  refine cs_put (s := (cp x1 (o + 2) 4 (nI 0))) (k := 8) (x := (nI 0)) fl_X7_50 dX7_read_18 (hO.ob 2 (by decide) rfl) (ltb rfl) (rfl) rfl rfl ?_
  refine jg_aload_n dX7_read_21 rfl ?_
  refine jg_iconst (v := nI 0) dX7_read_22 (by decide) ?_
  refine cs_put (s := (cp (cp x1 (o + 2) 4 (nI 0)) (o + 2) 8 (nI 0))) (k := 11) (x := (nI 0)) fl_X7_53 dX7_read_23 (hO.ob 2 (by decide) rfl) (ltb rfl) (rfl) rfl rfl ?_
  obtain ⟨x2, e_x2, h⟩ := bd_some h
  refine cs_sub (Option.some.inj e_x2) ?_
  refine jg_aload_n dX7_read_26 rfl ?_
  obtain ⟨x3, e_x3, h⟩ := bd_some h
  refine cs_call (q := (o + 2)) (As := []) kv_X7_56 dX7_read_27 (hO.ob 2 (by decide) rfl) rfl rfl (by decide) (Nat.le_of_ble_eq_true rfl) rfl (by decide) (Nat.le_of_ble_eq_true rfl) (t_X7_thing τ n o x2 hO e_x3) ?_
  refine jg_bipush (v := (-2)) dX7_read_30 (by decide) ?_
  refine jg_icmp_eq (x := x3) (y := (-2)) (tgt := 39) dX7_read_32 (by decide) (fun c4 => ?_) (fun c4 => ?_)
  · replace h := it_t c4 h
    refine jg_iconst (v := nI 0) dX7_read_39 (by decide) ?_
    refine jg_istore_n (L' := [some (.ref (o + 2)), some (.ref a1), some (.int a2), some (.int (nI 0)), none, none]) dX7_read_40 (by decide) rfl ?_
    refine jg_iconst (v := nI 1) dX7_read_41 (by decide) ?_
    refine jg_istore (L' := [some (.ref (o + 2)), some (.ref a1), some (.int a2), some (.int (nI 0)), some (.int (nI 1)), none]) dX7_read_42 (by decide) rfl ?_
    refine jg_iconst (v := nI 0) dX7_read_44 (by decide) ?_
    refine jg_istore (L' := [some (.ref (o + 2)), some (.ref a1), some (.int a2), some (.int (nI 0)), some (.int (nI 1)), some (.int (nI 0))]) dX7_read_45 (by decide) rfl ?_
    obtain ⟨x5, e_x5, h⟩ := bd_some h
    refine jg_fg (L' := [some (.ref (o + 2)), none, none, some (.int (nI 0)), some (.int (nI 1)), some (.int (nI 0))]) (by repeat (first | exact trivial | refine ⟨rfl, ?_⟩ | show jg_le _ _)) ?_
    refine t_X7_read_47  F τ n o a1 hO h1 _ (x := x5) ?_ F (nI 0) (nI 1) (nI 0) x2 e_x5
    refine jg_iload dX7_read_134 rfl ?_
    refine jg_if_eq (x := x5.2.1) (tgt := 143) dX7_read_136 (by decide) (fun c6 => ?_) (fun c6 => ?_)
    · replace h := it_t c6 h
      refine jg_aload_n dX7_read_143 rfl ?_
      refine jg_aload_n dX7_read_144 rfl ?_
      refine cs_get (s := x5.2.2) (w := .ref (o + 4)) fl_X7_19 dX7_read_145 (hO.ob 2 (by decide) rfl) rfl ?_
      refine jg_aload_n dX7_read_148 rfl ?_
      refine cs_get (s := x5.2.2) (w := .int (x5.2.2.1 (o + 2) 4)) fl_X7_47 dX7_read_149 (hO.ob 2 (by decide) rfl) rfl ?_
      refine jg_aload_n dX7_read_152 rfl ?_
      refine cs_get (s := x5.2.2) (w := .int (x5.2.2.1 (o + 2) 3)) fl_X7_64 dX7_read_153 (hO.ob 2 (by decide) rfl) rfl ?_
      refine jg_iconst (v := nI 1) dX7_read_156 (by decide) ?_
      refine jg_isub (x := (x5.2.2.1 (o + 2) 3)) (y := (nI 1)) dX7_read_157  ?_
      refine jg_mmin (x := (x5.2.2.1 (o + 2) 4)) (y := ((x5.2.2.1 (o + 2) 3) - (nI 1))) km_X7_37 jw_min.1 jw_min.2 dX7_read_158 (by decide) (Nat.le_of_ble_eq_true rfl) ?_
      obtain ⟨q7, h⟩ := gd_some h
      refine cs_lda (s := x5.2.2) (q := (o + 4)) (i := (mni (x5.2.2.1 (o + 2) 4) ((x5.2.2.1 (o + 2) 3) - (nI 1)))) dX7_read_161 (hO.ar 4 (by decide) rfl) q7 ?_
      refine cs_put (s := x5.2.2) (k := 0) (x := (cg x5.2.2 (o + 4) (mni (x5.2.2.1 (o + 2) 4) ((x5.2.2.1 (o + 2) 3) - (nI 1))))) fl_X7_9 dX7_read_162 (hO.ob 2 (by decide) rfl) (ltb rfl) (rfl) rfl rfl ?_
      obtain ⟨x8, e_x8, h⟩ := bd_some h
      refine cs_sub (Option.some.inj e_x8) ?_
      refine jg_null dX7_read_165 ?_
      cases h
    · replace h := it_f c6 h
      refine jg_iload_n dX7_read_139 rfl ?_
      refine jg_if_eq (x := x5.1) (tgt := 167) dX7_read_140 (by decide) (fun c9 => ?_) (fun c9 => ?_)
      · replace h := it_t c9 h
        refine jg_aload_n dX7_read_167 rfl ?_
        refine jg_iconst (v := (-1)) dX7_read_168 (by decide) ?_
        refine cs_put (s := x5.2.2) (k := 0) (x := (-1)) fl_X7_9 dX7_read_169 (hO.ob 2 (by decide) rfl) (ltb rfl) (rfl) rfl rfl ?_
        obtain ⟨q1, h⟩ := gd_some h
        obtain ⟨q2, h⟩ := gd_some h
        obtain rfl := (Prod.mk.inj (Option.some.inj h)).2
        refine jg_fg (L' := [some (.ref (o + 2)), none, none, none, none, none]) (by repeat (first | exact trivial | refine ⟨rfl, ?_⟩ | show jg_le _ _)) ?_
        exact t_rdEnd τ n o (cp x5.2.2 (o + 2) 0 (-1)) hO q1 q2 (by omega)
      · replace h := it_f c9 h
        refine jg_aload_n dX7_read_143 rfl ?_
        refine jg_aload_n dX7_read_144 rfl ?_
        refine cs_get (s := x5.2.2) (w := .ref (o + 4)) fl_X7_19 dX7_read_145 (hO.ob 2 (by decide) rfl) rfl ?_
        refine jg_aload_n dX7_read_148 rfl ?_
        refine cs_get (s := x5.2.2) (w := .int (x5.2.2.1 (o + 2) 4)) fl_X7_47 dX7_read_149 (hO.ob 2 (by decide) rfl) rfl ?_
        refine jg_aload_n dX7_read_152 rfl ?_
        refine cs_get (s := x5.2.2) (w := .int (x5.2.2.1 (o + 2) 3)) fl_X7_64 dX7_read_153 (hO.ob 2 (by decide) rfl) rfl ?_
        refine jg_iconst (v := nI 1) dX7_read_156 (by decide) ?_
        refine jg_isub (x := (x5.2.2.1 (o + 2) 3)) (y := (nI 1)) dX7_read_157  ?_
        refine jg_mmin (x := (x5.2.2.1 (o + 2) 4)) (y := ((x5.2.2.1 (o + 2) 3) - (nI 1))) km_X7_37 jw_min.1 jw_min.2 dX7_read_158 (by decide) (Nat.le_of_ble_eq_true rfl) ?_
        obtain ⟨q10, h⟩ := gd_some h
        refine cs_lda (s := x5.2.2) (q := (o + 4)) (i := (mni (x5.2.2.1 (o + 2) 4) ((x5.2.2.1 (o + 2) 3) - (nI 1)))) dX7_read_161 (hO.ar 4 (by decide) rfl) q10 ?_
        refine cs_put (s := x5.2.2) (k := 0) (x := (cg x5.2.2 (o + 4) (mni (x5.2.2.1 (o + 2) 4) ((x5.2.2.1 (o + 2) 3) - (nI 1))))) fl_X7_9 dX7_read_162 (hO.ob 2 (by decide) rfl) (ltb rfl) (rfl) rfl rfl ?_
        obtain ⟨x11, e_x11, h⟩ := bd_some h
        refine cs_sub (Option.some.inj e_x11) ?_
        refine jg_null dX7_read_165 ?_
        cases h
  · replace h := it_f c4 h
    refine jg_iconst (v := nI 1) dX7_read_35 (by decide) ?_
    refine jg_goto (tgt := 40) dX7_read_36 (by decide) ?_
    refine jg_istore_n (L' := [some (.ref (o + 2)), some (.ref a1), some (.int a2), some (.int (nI 1)), none, none]) dX7_read_40 (by decide) rfl ?_
    refine jg_iconst (v := nI 1) dX7_read_41 (by decide) ?_
    refine jg_istore (L' := [some (.ref (o + 2)), some (.ref a1), some (.int a2), some (.int (nI 1)), some (.int (nI 1)), none]) dX7_read_42 (by decide) rfl ?_
    refine jg_iconst (v := nI 0) dX7_read_44 (by decide) ?_
    refine jg_istore (L' := [some (.ref (o + 2)), some (.ref a1), some (.int a2), some (.int (nI 1)), some (.int (nI 1)), some (.int (nI 0))]) dX7_read_45 (by decide) rfl ?_
    obtain ⟨x12, e_x12, h⟩ := bd_some h
    refine jg_fg (L' := [some (.ref (o + 2)), none, none, some (.int (nI 1)), some (.int (nI 1)), some (.int (nI 0))]) (by repeat (first | exact trivial | refine ⟨rfl, ?_⟩ | show jg_le _ _)) ?_
    refine t_X7_read_47  F τ n o a1 hO h1 _ (x := x12) ?_ F (nI 1) (nI 1) (nI 0) x2 e_x12
    refine jg_iload dX7_read_134 rfl ?_
    refine jg_if_eq (x := x12.2.1) (tgt := 143) dX7_read_136 (by decide) (fun c13 => ?_) (fun c13 => ?_)
    · replace h := it_t c13 h
      refine jg_aload_n dX7_read_143 rfl ?_
      refine jg_aload_n dX7_read_144 rfl ?_
      refine cs_get (s := x12.2.2) (w := .ref (o + 4)) fl_X7_19 dX7_read_145 (hO.ob 2 (by decide) rfl) rfl ?_
      refine jg_aload_n dX7_read_148 rfl ?_
      refine cs_get (s := x12.2.2) (w := .int (x12.2.2.1 (o + 2) 4)) fl_X7_47 dX7_read_149 (hO.ob 2 (by decide) rfl) rfl ?_
      refine jg_aload_n dX7_read_152 rfl ?_
      refine cs_get (s := x12.2.2) (w := .int (x12.2.2.1 (o + 2) 3)) fl_X7_64 dX7_read_153 (hO.ob 2 (by decide) rfl) rfl ?_
      refine jg_iconst (v := nI 1) dX7_read_156 (by decide) ?_
      refine jg_isub (x := (x12.2.2.1 (o + 2) 3)) (y := (nI 1)) dX7_read_157  ?_
      refine jg_mmin (x := (x12.2.2.1 (o + 2) 4)) (y := ((x12.2.2.1 (o + 2) 3) - (nI 1))) km_X7_37 jw_min.1 jw_min.2 dX7_read_158 (by decide) (Nat.le_of_ble_eq_true rfl) ?_
      obtain ⟨q14, h⟩ := gd_some h
      refine cs_lda (s := x12.2.2) (q := (o + 4)) (i := (mni (x12.2.2.1 (o + 2) 4) ((x12.2.2.1 (o + 2) 3) - (nI 1)))) dX7_read_161 (hO.ar 4 (by decide) rfl) q14 ?_
      refine cs_put (s := x12.2.2) (k := 0) (x := (cg x12.2.2 (o + 4) (mni (x12.2.2.1 (o + 2) 4) ((x12.2.2.1 (o + 2) 3) - (nI 1))))) fl_X7_9 dX7_read_162 (hO.ob 2 (by decide) rfl) (ltb rfl) (rfl) rfl rfl ?_
      obtain ⟨x15, e_x15, h⟩ := bd_some h
      refine cs_sub (Option.some.inj e_x15) ?_
      refine jg_null dX7_read_165 ?_
      cases h
    · replace h := it_f c13 h
      refine jg_iload_n dX7_read_139 rfl ?_
      refine jg_if_eq (x := x12.1) (tgt := 167) dX7_read_140 (by decide) (fun c16 => ?_) (fun c16 => ?_)
      · replace h := it_t c16 h
        refine jg_aload_n dX7_read_167 rfl ?_
        refine jg_iconst (v := (-1)) dX7_read_168 (by decide) ?_
        refine cs_put (s := x12.2.2) (k := 0) (x := (-1)) fl_X7_9 dX7_read_169 (hO.ob 2 (by decide) rfl) (ltb rfl) (rfl) rfl rfl ?_
        obtain ⟨q1, h⟩ := gd_some h
        obtain ⟨q2, h⟩ := gd_some h
        obtain rfl := (Prod.mk.inj (Option.some.inj h)).2
        refine jg_fg (L' := [some (.ref (o + 2)), none, none, none, none, none]) (by repeat (first | exact trivial | refine ⟨rfl, ?_⟩ | show jg_le _ _)) ?_
        exact t_rdEnd τ n o (cp x12.2.2 (o + 2) 0 (-1)) hO q1 q2 (by omega)
      · replace h := it_f c16 h
        refine jg_aload_n dX7_read_143 rfl ?_
        refine jg_aload_n dX7_read_144 rfl ?_
        refine cs_get (s := x12.2.2) (w := .ref (o + 4)) fl_X7_19 dX7_read_145 (hO.ob 2 (by decide) rfl) rfl ?_
        refine jg_aload_n dX7_read_148 rfl ?_
        refine cs_get (s := x12.2.2) (w := .int (x12.2.2.1 (o + 2) 4)) fl_X7_47 dX7_read_149 (hO.ob 2 (by decide) rfl) rfl ?_
        refine jg_aload_n dX7_read_152 rfl ?_
        refine cs_get (s := x12.2.2) (w := .int (x12.2.2.1 (o + 2) 3)) fl_X7_64 dX7_read_153 (hO.ob 2 (by decide) rfl) rfl ?_
        refine jg_iconst (v := nI 1) dX7_read_156 (by decide) ?_
        refine jg_isub (x := (x12.2.2.1 (o + 2) 3)) (y := (nI 1)) dX7_read_157  ?_
        refine jg_mmin (x := (x12.2.2.1 (o + 2) 4)) (y := ((x12.2.2.1 (o + 2) 3) - (nI 1))) km_X7_37 jw_min.1 jw_min.2 dX7_read_158 (by decide) (Nat.le_of_ble_eq_true rfl) ?_
        obtain ⟨q17, h⟩ := gd_some h
        refine cs_lda (s := x12.2.2) (q := (o + 4)) (i := (mni (x12.2.2.1 (o + 2) 4) ((x12.2.2.1 (o + 2) 3) - (nI 1)))) dX7_read_161 (hO.ar 4 (by decide) rfl) q17 ?_
        refine cs_put (s := x12.2.2) (k := 0) (x := (cg x12.2.2 (o + 4) (mni (x12.2.2.1 (o + 2) 4) ((x12.2.2.1 (o + 2) 3) - (nI 1))))) fl_X7_9 dX7_read_162 (hO.ob 2 (by decide) rfl) (ltb rfl) (rfl) rfl rfl ?_
        obtain ⟨x18, e_x18, h⟩ := bd_some h
        refine cs_sub (Option.some.inj e_x18) ?_
        refine jg_null dX7_read_165 ?_
        cases h
theorem dX11_act_34 : decode cX11_act 34 = .ok (.astore_n 3, 1) := by decide +kernel
theorem dX11_act_35 : decode cX11_act 35 = .ok (.aload_n 3, 1) := by decide +kernel
theorem dX11_act_36 : decode cX11_act 36 = .ok (.ifnonnull 14, 3) := by decide +kernel
theorem dX11_act_50 : decode cX11_act 50 = .ok (.aload_n 0, 1) := by decide +kernel
theorem dX11_act_51 : decode cX11_act 51 = .ok (.getfield 27, 3) := by decide +kernel
theorem dX11_act_54 : decode cX11_act 54 = .ok (.getfield 141, 3) := by decide +kernel
theorem dX11_act_57 : decode cX11_act 57 = .ok (.invokevirtual 276, 3) := by decide +kernel
theorem dX11_act_60 : decode cX11_act 60 = .ok (.ifCond .ne 7, 3) := by decide +kernel
theorem dX11_act_63 : decode cX11_act 63 = .ok (.iconst 1, 1) := by decide +kernel
theorem dX11_act_64 : decode cX11_act 64 = .ok (.goto 4, 3) := by decide +kernel
theorem dX11_act_67 : decode cX11_act 67 = .ok (.iconst 0, 1) := by decide +kernel
theorem dX11_act_68 : decode cX11_act 68 = .ok (.invokestatic 52, 3) := by decide +kernel
theorem dX11_act_71 : decode cX11_act 71 = .ok (.aload_n 0, 1) := by decide +kernel
theorem dX11_act_72 : decode cX11_act 72 = .ok (.getfield 27, 3) := by decide +kernel
theorem dX11_act_75 : decode cX11_act 75 = .ok (.getfield 280, 3) := by decide +kernel
theorem dX11_act_78 : decode cX11_act 78 = .ok (.getfield 284, 3) := by decide +kernel
theorem dX11_act_81 : decode cX11_act 81 = .ok (.bipush 20, 2) := by decide +kernel
theorem dX11_act_83 : decode cX11_act 83 = .ok (.invokestatic 82, 3) := by decide +kernel
theorem dX11_act_86 : decode cX11_act 86 = .ok (.aload_n 0, 1) := by decide +kernel
theorem dX11_act_87 : decode cX11_act 87 = .ok (.getfield 27, 3) := by decide +kernel
theorem dX11_act_90 : decode cX11_act 90 = .ok (.getfield 280, 3) := by decide +kernel
theorem dX11_act_93 : decode cX11_act 93 = .ok (.aload_n 3, 1) := by decide +kernel
theorem dX11_act_94 : decode cX11_act 94 = .ok (.iload_n 1, 1) := by decide +kernel
theorem dX11_act_95 : decode cX11_act 95 = .ok (.invokevirtual 289, 3) := by decide +kernel
theorem dX11_act_98 : decode cX11_act 98 = .ok (.aload_n 3, 1) := by decide +kernel
theorem dX11_act_99 : decode cX11_act 99 = .ok (.getfield 293, 3) := by decide +kernel
theorem dX11_act_102 : decode cX11_act 102 = .ok (.ireturn, 1) := by decide +kernel
noncomputable def o_X11_act_34 (F : Nat) (τ : cT) (n : Nat) (o : Nat) (p : Nat) (s : cS) (a1 : Int32) : Option ((Int32 × cS) ⊕ (Nat × cS)) := (o_X6_everPaid F τ n (o + 10) s).bind fun x1 => (if x1 = 0 then ((o_X11_needState τ n s (nI 1)).bind fun x10 => (Sum.elim (fun y11 => (o_X11_needRoom τ n s (s.1 (o + 27) 3) (nI 20)).bind fun x13 => (Sum.elim (fun y14 => (o_X3_pass τ n (o + 10) p s a1).bind fun x16 => (some (.inl (x16.1 p 0, x16)))) (fun z15 => some (.inr (z15, s))) x13)) (fun z12 => some (.inr (z12, s))) x10)) else ((o_X11_needState τ n s (nI 0)).bind fun x3 => (Sum.elim (fun y4 => (o_X11_needRoom τ n s (s.1 (o + 27) 3) (nI 20)).bind fun x6 => (Sum.elim (fun y7 => (o_X3_pass τ n (o + 10) p s a1).bind fun x9 => (some (.inl (x9.1 p 0, x9)))) (fun z8 => some (.inr (z8, s))) x6)) (fun z5 => some (.inr (z5, s))) x3)))
set_option maxHeartbeats 4000000 in
theorem t_X11_act_34 {Γ : jg_G} {g : Nat → jg_C} (F : Nat) (τ : cT) (n : Nat) (o : Nat) (p : Nat) (s : cS) (a1 : Int32) (hO : Sh τ n o) (hp : acb τ n p = true) {x : Int32 × cS} (h : o_X11_act_34 F τ n o p s a1 = some (.inl x)) : jg Γ mX11_act 50 0 0 34 [some (.ref o), some (.int a1), none, none] [.ref p] (ct_h g τ s, n) (jq (.inl (some (.int x.1))) (ct_h g τ x.2, n)) := by
  rw [o_X11_act_34] at h
  refine jg_astore_n (L' := [some (.ref o), some (.int a1), none, some (.ref p)]) dX11_act_34 (by decide) rfl ?_
  refine jg_aload_n dX11_act_35 rfl ?_
  refine jg_ifnonnull (tgt := 50) dX11_act_36 (by decide) ?_
  refine jg_aload_n dX11_act_50 rfl ?_
  refine cs_get (s := s) (w := .ref (o + 10)) fl_X11_27 dX11_act_51 hO.ob0 rfl ?_
  refine cs_get (s := s) (w := .ref (o + 131)) fl_X11_141 dX11_act_54 hO.1.ob0 rfl ?_
  obtain ⟨x1, e_x1, h⟩ := bd_some h
  refine cs_call (q := (o + 131)) (As := []) kv_X11_276 dX11_act_57 (hO.1.ob 121 (by decide) rfl) rfl rfl (by decide) (Nat.le_of_ble_eq_true rfl) rfl (by decide) (Nat.le_of_ble_eq_true rfl) (t_X6_everPaid F τ n (o + 10) s hO.1 e_x1) ?_
  refine jg_if_ne (x := x1) (tgt := 67) dX11_act_60 (by decide) (fun c2 => ?_) (fun c2 => ?_)
  · replace h := it_f c2 h
    refine jg_iconst (v := nI 0) dX11_act_67 (by decide) ?_
    obtain ⟨x3, e_x3, h⟩ := bd_some h
    rcases x3 with y4 | z5
    · replace h := se_l h
      refine cs_callS (As := [.int (nI 0)]) ks_X11_52 dX11_act_68 rfl (by decide) (Nat.le_of_ble_eq_true rfl) rfl (by decide) (Nat.le_of_ble_eq_true rfl) (t_X11_needState τ n s (nI 0) e_x3) ?_
      refine jg_aload_n dX11_act_71 rfl ?_
      refine cs_get (s := s) (w := .ref (o + 10)) fl_X11_27 dX11_act_72 hO.ob0 rfl ?_
      refine cs_get (s := s) (w := .ref (o + 27)) fl_X11_280 dX11_act_75 hO.1.ob0 rfl ?_
      refine cs_get (s := s) (w := .int (s.1 (o + 27) 3)) fl_X11_284 dX11_act_78 (hO.1.ob 17 (by decide) rfl) rfl ?_
      refine jg_bipush (v := nI 20) dX11_act_81 (by decide) ?_
      obtain ⟨x6, e_x6, h⟩ := bd_some h
      rcases x6 with y7 | z8
      · replace h := se_l h
        refine cs_callS (As := [.int (s.1 (o + 27) 3), .int (nI 20)]) ks_X11_82 dX11_act_83 rfl (by decide) (Nat.le_of_ble_eq_true rfl) rfl (by decide) (Nat.le_of_ble_eq_true rfl) (t_X11_needRoom τ n s (s.1 (o + 27) 3) (nI 20) e_x6) ?_
        refine jg_aload_n dX11_act_86 rfl ?_
        refine cs_get (s := s) (w := .ref (o + 10)) fl_X11_27 dX11_act_87 hO.ob0 rfl ?_
        refine cs_get (s := s) (w := .ref (o + 27)) fl_X11_280 dX11_act_90 hO.1.ob0 rfl ?_
        refine jg_aload_n dX11_act_93 rfl ?_
        refine jg_iload_n dX11_act_94 rfl ?_
        obtain ⟨x9, e_x9, h⟩ := bd_some h
        refine cs_call (q := (o + 27)) (As := [.ref p, .int a1]) kv_X11_289 dX11_act_95 (hO.1.ob 17 (by decide) rfl) rfl rfl (by decide) (Nat.le_of_ble_eq_true rfl) rfl (by decide) (Nat.le_of_ble_eq_true rfl) (t_X3_pass τ n (o + 10) p s a1 hO.1 hp e_x9) ?_
        refine jg_aload_n dX11_act_98 rfl ?_
        refine cs_get (s := x9) (w := .int (x9.1 p 0)) fl_X11_293 dX11_act_99 (acb_ob hp) rfl ?_
        obtain rfl := Sum.inl.inj (Option.some.inj h)
        exact jg_ireturn dX11_act_102 rfl ⟨rfl, rfl⟩
      · replace h := se_r h
        cases h
    · replace h := se_r h
      cases h
  · replace h := it_t c2 h
    refine jg_iconst (v := nI 1) dX11_act_63 (by decide) ?_
    refine jg_goto (tgt := 68) dX11_act_64 (by decide) ?_
    obtain ⟨x10, e_x10, h⟩ := bd_some h
    rcases x10 with y11 | z12
    · replace h := se_l h
      refine cs_callS (As := [.int (nI 1)]) ks_X11_52 dX11_act_68 rfl (by decide) (Nat.le_of_ble_eq_true rfl) rfl (by decide) (Nat.le_of_ble_eq_true rfl) (t_X11_needState τ n s (nI 1) e_x10) ?_
      refine jg_aload_n dX11_act_71 rfl ?_
      refine cs_get (s := s) (w := .ref (o + 10)) fl_X11_27 dX11_act_72 hO.ob0 rfl ?_
      refine cs_get (s := s) (w := .ref (o + 27)) fl_X11_280 dX11_act_75 hO.1.ob0 rfl ?_
      refine cs_get (s := s) (w := .int (s.1 (o + 27) 3)) fl_X11_284 dX11_act_78 (hO.1.ob 17 (by decide) rfl) rfl ?_
      refine jg_bipush (v := nI 20) dX11_act_81 (by decide) ?_
      obtain ⟨x13, e_x13, h⟩ := bd_some h
      rcases x13 with y14 | z15
      · replace h := se_l h
        refine cs_callS (As := [.int (s.1 (o + 27) 3), .int (nI 20)]) ks_X11_82 dX11_act_83 rfl (by decide) (Nat.le_of_ble_eq_true rfl) rfl (by decide) (Nat.le_of_ble_eq_true rfl) (t_X11_needRoom τ n s (s.1 (o + 27) 3) (nI 20) e_x13) ?_
        refine jg_aload_n dX11_act_86 rfl ?_
        refine cs_get (s := s) (w := .ref (o + 10)) fl_X11_27 dX11_act_87 hO.ob0 rfl ?_
        refine cs_get (s := s) (w := .ref (o + 27)) fl_X11_280 dX11_act_90 hO.1.ob0 rfl ?_
        refine jg_aload_n dX11_act_93 rfl ?_
        refine jg_iload_n dX11_act_94 rfl ?_
        obtain ⟨x16, e_x16, h⟩ := bd_some h
        refine cs_call (q := (o + 27)) (As := [.ref p, .int a1]) kv_X11_289 dX11_act_95 (hO.1.ob 17 (by decide) rfl) rfl rfl (by decide) (Nat.le_of_ble_eq_true rfl) rfl (by decide) (Nat.le_of_ble_eq_true rfl) (t_X3_pass τ n (o + 10) p s a1 hO.1 hp e_x16) ?_
        refine jg_aload_n dX11_act_98 rfl ?_
        refine cs_get (s := x16) (w := .int (x16.1 p 0)) fl_X11_293 dX11_act_99 (acb_ob hp) rfl ?_
        obtain rfl := Sum.inl.inj (Option.some.inj h)
        exact jg_ireturn dX11_act_102 rfl ⟨rfl, rfl⟩
      · replace h := se_r h
        cases h
    · replace h := se_r h
      cases h
set_option maxHeartbeats 4000000 in
theorem x_X11_act_34 {Γ : jg_G} {g : Nat → jg_C} (F : Nat) (τ : cT) (n : Nat) (o : Nat) (p : Nat) (s : cS) (a1 : Int32) (hO : Sh τ n o) (hp : acb τ n p = true) (hn : n < 1000000) (hT : τ n = .inr (8, 0)) {z : Nat × cS} (h : o_X11_act_34 F τ n o p s a1 = some (.inr z)) : jg Γ mX11_act 50 1 6 34 [some (.ref o), some (.int a1), none, none] [.ref p] (ct_h g τ s, n) (jq (.inr (exn z.1)) (ct_h (gx g n) τ z.2, n + 1)) := by
  rw [o_X11_act_34] at h
  refine jg_astore_n (L' := [some (.ref o), some (.int a1), none, some (.ref p)]) dX11_act_34 (by decide) rfl ?_
  refine jg_aload_n dX11_act_35 rfl ?_
  refine jg_ifnonnull (tgt := 50) dX11_act_36 (by decide) ?_
  refine jg_aload_n dX11_act_50 rfl ?_
  refine cs_get (s := s) (w := .ref (o + 10)) fl_X11_27 dX11_act_51 hO.ob0 rfl ?_
  refine cs_get (s := s) (w := .ref (o + 131)) fl_X11_141 dX11_act_54 hO.1.ob0 rfl ?_
  obtain ⟨x1, e_x1, h⟩ := bd_some h
  refine cs_call (q := (o + 131)) (As := []) kv_X11_276 dX11_act_57 (hO.1.ob 121 (by decide) rfl) rfl rfl (by decide) (Nat.le_of_ble_eq_true rfl) rfl (by decide) (Nat.le_of_ble_eq_true rfl) (t_X6_everPaid F τ n (o + 10) s hO.1 e_x1) ?_
  refine jg_if_ne (x := x1) (tgt := 67) dX11_act_60 (by decide) (fun c2 => ?_) (fun c2 => ?_)
  · replace h := it_f c2 h
    refine jg_iconst (v := nI 0) dX11_act_67 (by decide) ?_
    obtain ⟨x3, e_x3, h⟩ := bd_some h
    rcases x3 with y4 | z5
    · replace h := se_l h
      refine cs_callS (As := [.int (nI 0)]) ks_X11_52 dX11_act_68 rfl (by decide) (Nat.le_of_ble_eq_true rfl) rfl (by decide) (Nat.le_of_ble_eq_true rfl) (t_X11_needState τ n s (nI 0) e_x3) ?_
      refine jg_aload_n dX11_act_71 rfl ?_
      refine cs_get (s := s) (w := .ref (o + 10)) fl_X11_27 dX11_act_72 hO.ob0 rfl ?_
      refine cs_get (s := s) (w := .ref (o + 27)) fl_X11_280 dX11_act_75 hO.1.ob0 rfl ?_
      refine cs_get (s := s) (w := .int (s.1 (o + 27) 3)) fl_X11_284 dX11_act_78 (hO.1.ob 17 (by decide) rfl) rfl ?_
      refine jg_bipush (v := nI 20) dX11_act_81 (by decide) ?_
      obtain ⟨x6, e_x6, h⟩ := bd_some h
      rcases x6 with y7 | z8
      · replace h := se_l h
        refine cs_callS (As := [.int (s.1 (o + 27) 3), .int (nI 20)]) ks_X11_82 dX11_act_83 rfl (by decide) (Nat.le_of_ble_eq_true rfl) rfl (by decide) (Nat.le_of_ble_eq_true rfl) (t_X11_needRoom τ n s (s.1 (o + 27) 3) (nI 20) e_x6) ?_
        refine jg_aload_n dX11_act_86 rfl ?_
        refine cs_get (s := s) (w := .ref (o + 10)) fl_X11_27 dX11_act_87 hO.ob0 rfl ?_
        refine cs_get (s := s) (w := .ref (o + 27)) fl_X11_280 dX11_act_90 hO.1.ob0 rfl ?_
        refine jg_aload_n dX11_act_93 rfl ?_
        refine jg_iload_n dX11_act_94 rfl ?_
        obtain ⟨x9, e_x9, h⟩ := bd_some h
        refine cs_call (q := (o + 27)) (As := [.ref p, .int a1]) kv_X11_289 dX11_act_95 (hO.1.ob 17 (by decide) rfl) rfl rfl (by decide) (Nat.le_of_ble_eq_true rfl) rfl (by decide) (Nat.le_of_ble_eq_true rfl) (t_X3_pass τ n (o + 10) p s a1 hO.1 hp e_x9) ?_
        refine jg_aload_n dX11_act_98 rfl ?_
        refine cs_get (s := x9) (w := .int (x9.1 p 0)) fl_X11_293 dX11_act_99 (acb_ob hp) rfl ?_
        cases h
      · replace h := se_r h
        obtain rfl := Sum.inr.inj (Option.some.inj h)
        exact jc_SX (As := [.int (s.1 (o + 27) 3), .int (nI 20)]) ks_X11_82 dX11_act_83 rfl (by decide) (Nat.le_of_ble_eq_true rfl) rfl (by decide) (Nat.le_refl _) (Nat.le_refl _) (Nat.le_of_ble_eq_true rfl) (x_X11_needRoom τ n s (s.1 (o + 27) 3) (nI 20) hn hT e_x6) ⟨rfl, rfl⟩
    · replace h := se_r h
      obtain rfl := Sum.inr.inj (Option.some.inj h)
      exact jc_SX (As := [.int (nI 0)]) ks_X11_52 dX11_act_68 rfl (by decide) (Nat.le_of_ble_eq_true rfl) rfl (by decide) (Nat.le_refl _) (Nat.le_refl _) (Nat.le_of_ble_eq_true rfl) (x_X11_needState τ n s (nI 0) hn hT e_x3) ⟨rfl, rfl⟩
  · replace h := it_t c2 h
    refine jg_iconst (v := nI 1) dX11_act_63 (by decide) ?_
    refine jg_goto (tgt := 68) dX11_act_64 (by decide) ?_
    obtain ⟨x10, e_x10, h⟩ := bd_some h
    rcases x10 with y11 | z12
    · replace h := se_l h
      refine cs_callS (As := [.int (nI 1)]) ks_X11_52 dX11_act_68 rfl (by decide) (Nat.le_of_ble_eq_true rfl) rfl (by decide) (Nat.le_of_ble_eq_true rfl) (t_X11_needState τ n s (nI 1) e_x10) ?_
      refine jg_aload_n dX11_act_71 rfl ?_
      refine cs_get (s := s) (w := .ref (o + 10)) fl_X11_27 dX11_act_72 hO.ob0 rfl ?_
      refine cs_get (s := s) (w := .ref (o + 27)) fl_X11_280 dX11_act_75 hO.1.ob0 rfl ?_
      refine cs_get (s := s) (w := .int (s.1 (o + 27) 3)) fl_X11_284 dX11_act_78 (hO.1.ob 17 (by decide) rfl) rfl ?_
      refine jg_bipush (v := nI 20) dX11_act_81 (by decide) ?_
      obtain ⟨x13, e_x13, h⟩ := bd_some h
      rcases x13 with y14 | z15
      · replace h := se_l h
        refine cs_callS (As := [.int (s.1 (o + 27) 3), .int (nI 20)]) ks_X11_82 dX11_act_83 rfl (by decide) (Nat.le_of_ble_eq_true rfl) rfl (by decide) (Nat.le_of_ble_eq_true rfl) (t_X11_needRoom τ n s (s.1 (o + 27) 3) (nI 20) e_x13) ?_
        refine jg_aload_n dX11_act_86 rfl ?_
        refine cs_get (s := s) (w := .ref (o + 10)) fl_X11_27 dX11_act_87 hO.ob0 rfl ?_
        refine cs_get (s := s) (w := .ref (o + 27)) fl_X11_280 dX11_act_90 hO.1.ob0 rfl ?_
        refine jg_aload_n dX11_act_93 rfl ?_
        refine jg_iload_n dX11_act_94 rfl ?_
        obtain ⟨x16, e_x16, h⟩ := bd_some h
        refine cs_call (q := (o + 27)) (As := [.ref p, .int a1]) kv_X11_289 dX11_act_95 (hO.1.ob 17 (by decide) rfl) rfl rfl (by decide) (Nat.le_of_ble_eq_true rfl) rfl (by decide) (Nat.le_of_ble_eq_true rfl) (t_X3_pass τ n (o + 10) p s a1 hO.1 hp e_x16) ?_
        refine jg_aload_n dX11_act_98 rfl ?_
        refine cs_get (s := x16) (w := .int (x16.1 p 0)) fl_X11_293 dX11_act_99 (acb_ob hp) rfl ?_
        cases h
      · replace h := se_r h
        obtain rfl := Sum.inr.inj (Option.some.inj h)
        exact jc_SX (As := [.int (s.1 (o + 27) 3), .int (nI 20)]) ks_X11_82 dX11_act_83 rfl (by decide) (Nat.le_of_ble_eq_true rfl) rfl (by decide) (Nat.le_refl _) (Nat.le_refl _) (Nat.le_of_ble_eq_true rfl) (x_X11_needRoom τ n s (s.1 (o + 27) 3) (nI 20) hn hT e_x13) ⟨rfl, rfl⟩
    · replace h := se_r h
      obtain rfl := Sum.inr.inj (Option.some.inj h)
      exact jc_SX (As := [.int (nI 1)]) ks_X11_52 dX11_act_68 rfl (by decide) (Nat.le_of_ble_eq_true rfl) rfl (by decide) (Nat.le_refl _) (Nat.le_refl _) (Nat.le_of_ble_eq_true rfl) (x_X11_needState τ n s (nI 1) hn hT e_x10) ⟨rfl, rfl⟩
theorem dX11_propose_34 : decode cX11_propose 34 = .ok (.astore_n 3, 1) := by decide +kernel
theorem dX11_propose_35 : decode cX11_propose 35 = .ok (.aload_n 3, 1) := by decide +kernel
theorem dX11_propose_36 : decode cX11_propose 36 = .ok (.ifnonnull 14, 3) := by decide +kernel
theorem dX11_propose_50 : decode cX11_propose 50 = .ok (.aload_n 0, 1) := by decide +kernel
theorem dX11_propose_51 : decode cX11_propose 51 = .ok (.getfield 27, 3) := by decide +kernel
theorem dX11_propose_54 : decode cX11_propose 54 = .ok (.getfield 280, 3) := by decide +kernel
theorem dX11_propose_57 : decode cX11_propose 57 = .ok (.getfield 298, 3) := by decide +kernel
theorem dX11_propose_60 : decode cX11_propose 60 = .ok (.ifCond .ne 7, 3) := by decide +kernel
theorem dX11_propose_63 : decode cX11_propose 63 = .ok (.iconst 1, 1) := by decide +kernel
theorem dX11_propose_64 : decode cX11_propose 64 = .ok (.goto 4, 3) := by decide +kernel
theorem dX11_propose_67 : decode cX11_propose 67 = .ok (.iconst 0, 1) := by decide +kernel
theorem dX11_propose_68 : decode cX11_propose 68 = .ok (.invokestatic 52, 3) := by decide +kernel
theorem dX11_propose_71 : decode cX11_propose 71 = .ok (.aload_n 0, 1) := by decide +kernel
theorem dX11_propose_72 : decode cX11_propose 72 = .ok (.getfield 27, 3) := by decide +kernel
theorem dX11_propose_75 : decode cX11_propose 75 = .ok (.getfield 280, 3) := by decide +kernel
theorem dX11_propose_78 : decode cX11_propose 78 = .ok (.getfield 284, 3) := by decide +kernel
theorem dX11_propose_81 : decode cX11_propose 81 = .ok (.bipush 20, 2) := by decide +kernel
theorem dX11_propose_83 : decode cX11_propose 83 = .ok (.invokestatic 82, 3) := by decide +kernel
theorem dX11_propose_86 : decode cX11_propose 86 = .ok (.aload_n 0, 1) := by decide +kernel
theorem dX11_propose_87 : decode cX11_propose 87 = .ok (.getfield 27, 3) := by decide +kernel
theorem dX11_propose_90 : decode cX11_propose 90 = .ok (.getfield 280, 3) := by decide +kernel
theorem dX11_propose_93 : decode cX11_propose 93 = .ok (.aload_n 3, 1) := by decide +kernel
theorem dX11_propose_94 : decode cX11_propose 94 = .ok (.iload_n 1, 1) := by decide +kernel
theorem dX11_propose_95 : decode cX11_propose 95 = .ok (.invokevirtual 302, 3) := by decide +kernel
theorem dX11_propose_98 : decode cX11_propose 98 = .ok (.aload_n 3, 1) := by decide +kernel
theorem dX11_propose_99 : decode cX11_propose 99 = .ok (.getfield 293, 3) := by decide +kernel
theorem dX11_propose_102 : decode cX11_propose 102 = .ok (.ireturn, 1) := by decide +kernel
noncomputable def o_X11_propose_34 (F : Nat) (τ : cT) (n : Nat) (o : Nat) (p : Nat) (s : cS) (a1 : Int32) : Option ((Int32 × cS) ⊕ (Nat × cS)) := if (s.1 (o + 27) 4) = 0 then ((o_X11_needState τ n s (nI 1)).bind fun x9 => (Sum.elim (fun y10 => (o_X11_needRoom τ n s (s.1 (o + 27) 3) (nI 20)).bind fun x12 => (Sum.elim (fun y13 => (o_X3_beginVote F τ n (o + 10) p s a1).bind fun x15 => (some (.inl (x15.1 p 0, x15)))) (fun z14 => some (.inr (z14, s))) x12)) (fun z11 => some (.inr (z11, s))) x9)) else ((o_X11_needState τ n s (nI 0)).bind fun x2 => (Sum.elim (fun y3 => (o_X11_needRoom τ n s (s.1 (o + 27) 3) (nI 20)).bind fun x5 => (Sum.elim (fun y6 => (o_X3_beginVote F τ n (o + 10) p s a1).bind fun x8 => (some (.inl (x8.1 p 0, x8)))) (fun z7 => some (.inr (z7, s))) x5)) (fun z4 => some (.inr (z4, s))) x2))
set_option maxHeartbeats 4000000 in
theorem t_X11_propose_34 {Γ : jg_G} {g : Nat → jg_C} (F : Nat) (τ : cT) (n : Nat) (o : Nat) (p : Nat) (s : cS) (a1 : Int32) (hO : Sh τ n o) (hp : acb τ n p = true) {x : Int32 × cS} (h : o_X11_propose_34 F τ n o p s a1 = some (.inl x)) : jg Γ mX11_propose 50 0 0 34 [some (.ref o), some (.int a1), none, none] [.ref p] (ct_h g τ s, n) (jq (.inl (some (.int x.1))) (ct_h g τ x.2, n)) := by
  rw [o_X11_propose_34] at h
  refine jg_astore_n (L' := [some (.ref o), some (.int a1), none, some (.ref p)]) dX11_propose_34 (by decide) rfl ?_
  refine jg_aload_n dX11_propose_35 rfl ?_
  refine jg_ifnonnull (tgt := 50) dX11_propose_36 (by decide) ?_
  refine jg_aload_n dX11_propose_50 rfl ?_
  refine cs_get (s := s) (w := .ref (o + 10)) fl_X11_27 dX11_propose_51 hO.ob0 rfl ?_
  refine cs_get (s := s) (w := .ref (o + 27)) fl_X11_280 dX11_propose_54 hO.1.ob0 rfl ?_
  refine cs_get (s := s) (w := .int (s.1 (o + 27) 4)) fl_X11_298 dX11_propose_57 (hO.1.ob 17 (by decide) rfl) rfl ?_
  refine jg_if_ne (x := (s.1 (o + 27) 4)) (tgt := 67) dX11_propose_60 (by decide) (fun c1 => ?_) (fun c1 => ?_)
  · replace h := it_f c1 h
    refine jg_iconst (v := nI 0) dX11_propose_67 (by decide) ?_
    obtain ⟨x2, e_x2, h⟩ := bd_some h
    rcases x2 with y3 | z4
    · replace h := se_l h
      refine cs_callS (As := [.int (nI 0)]) ks_X11_52 dX11_propose_68 rfl (by decide) (Nat.le_of_ble_eq_true rfl) rfl (by decide) (Nat.le_of_ble_eq_true rfl) (t_X11_needState τ n s (nI 0) e_x2) ?_
      refine jg_aload_n dX11_propose_71 rfl ?_
      refine cs_get (s := s) (w := .ref (o + 10)) fl_X11_27 dX11_propose_72 hO.ob0 rfl ?_
      refine cs_get (s := s) (w := .ref (o + 27)) fl_X11_280 dX11_propose_75 hO.1.ob0 rfl ?_
      refine cs_get (s := s) (w := .int (s.1 (o + 27) 3)) fl_X11_284 dX11_propose_78 (hO.1.ob 17 (by decide) rfl) rfl ?_
      refine jg_bipush (v := nI 20) dX11_propose_81 (by decide) ?_
      obtain ⟨x5, e_x5, h⟩ := bd_some h
      rcases x5 with y6 | z7
      · replace h := se_l h
        refine cs_callS (As := [.int (s.1 (o + 27) 3), .int (nI 20)]) ks_X11_82 dX11_propose_83 rfl (by decide) (Nat.le_of_ble_eq_true rfl) rfl (by decide) (Nat.le_of_ble_eq_true rfl) (t_X11_needRoom τ n s (s.1 (o + 27) 3) (nI 20) e_x5) ?_
        refine jg_aload_n dX11_propose_86 rfl ?_
        refine cs_get (s := s) (w := .ref (o + 10)) fl_X11_27 dX11_propose_87 hO.ob0 rfl ?_
        refine cs_get (s := s) (w := .ref (o + 27)) fl_X11_280 dX11_propose_90 hO.1.ob0 rfl ?_
        refine jg_aload_n dX11_propose_93 rfl ?_
        refine jg_iload_n dX11_propose_94 rfl ?_
        obtain ⟨x8, e_x8, h⟩ := bd_some h
        refine cs_call (q := (o + 27)) (As := [.ref p, .int a1]) kv_X11_302 dX11_propose_95 (hO.1.ob 17 (by decide) rfl) rfl rfl (by decide) (Nat.le_of_ble_eq_true rfl) rfl (by decide) (Nat.le_of_ble_eq_true rfl) (t_X3_beginVote F τ n (o + 10) p s a1 hO.1 hp e_x8) ?_
        refine jg_aload_n dX11_propose_98 rfl ?_
        refine cs_get (s := x8) (w := .int (x8.1 p 0)) fl_X11_293 dX11_propose_99 (acb_ob hp) rfl ?_
        obtain rfl := Sum.inl.inj (Option.some.inj h)
        exact jg_ireturn dX11_propose_102 rfl ⟨rfl, rfl⟩
      · replace h := se_r h
        cases h
    · replace h := se_r h
      cases h
  · replace h := it_t c1 h
    refine jg_iconst (v := nI 1) dX11_propose_63 (by decide) ?_
    refine jg_goto (tgt := 68) dX11_propose_64 (by decide) ?_
    obtain ⟨x9, e_x9, h⟩ := bd_some h
    rcases x9 with y10 | z11
    · replace h := se_l h
      refine cs_callS (As := [.int (nI 1)]) ks_X11_52 dX11_propose_68 rfl (by decide) (Nat.le_of_ble_eq_true rfl) rfl (by decide) (Nat.le_of_ble_eq_true rfl) (t_X11_needState τ n s (nI 1) e_x9) ?_
      refine jg_aload_n dX11_propose_71 rfl ?_
      refine cs_get (s := s) (w := .ref (o + 10)) fl_X11_27 dX11_propose_72 hO.ob0 rfl ?_
      refine cs_get (s := s) (w := .ref (o + 27)) fl_X11_280 dX11_propose_75 hO.1.ob0 rfl ?_
      refine cs_get (s := s) (w := .int (s.1 (o + 27) 3)) fl_X11_284 dX11_propose_78 (hO.1.ob 17 (by decide) rfl) rfl ?_
      refine jg_bipush (v := nI 20) dX11_propose_81 (by decide) ?_
      obtain ⟨x12, e_x12, h⟩ := bd_some h
      rcases x12 with y13 | z14
      · replace h := se_l h
        refine cs_callS (As := [.int (s.1 (o + 27) 3), .int (nI 20)]) ks_X11_82 dX11_propose_83 rfl (by decide) (Nat.le_of_ble_eq_true rfl) rfl (by decide) (Nat.le_of_ble_eq_true rfl) (t_X11_needRoom τ n s (s.1 (o + 27) 3) (nI 20) e_x12) ?_
        refine jg_aload_n dX11_propose_86 rfl ?_
        refine cs_get (s := s) (w := .ref (o + 10)) fl_X11_27 dX11_propose_87 hO.ob0 rfl ?_
        refine cs_get (s := s) (w := .ref (o + 27)) fl_X11_280 dX11_propose_90 hO.1.ob0 rfl ?_
        refine jg_aload_n dX11_propose_93 rfl ?_
        refine jg_iload_n dX11_propose_94 rfl ?_
        obtain ⟨x15, e_x15, h⟩ := bd_some h
        refine cs_call (q := (o + 27)) (As := [.ref p, .int a1]) kv_X11_302 dX11_propose_95 (hO.1.ob 17 (by decide) rfl) rfl rfl (by decide) (Nat.le_of_ble_eq_true rfl) rfl (by decide) (Nat.le_of_ble_eq_true rfl) (t_X3_beginVote F τ n (o + 10) p s a1 hO.1 hp e_x15) ?_
        refine jg_aload_n dX11_propose_98 rfl ?_
        refine cs_get (s := x15) (w := .int (x15.1 p 0)) fl_X11_293 dX11_propose_99 (acb_ob hp) rfl ?_
        obtain rfl := Sum.inl.inj (Option.some.inj h)
        exact jg_ireturn dX11_propose_102 rfl ⟨rfl, rfl⟩
      · replace h := se_r h
        cases h
    · replace h := se_r h
      cases h
set_option maxHeartbeats 4000000 in
theorem x_X11_propose_34 {Γ : jg_G} {g : Nat → jg_C} (F : Nat) (τ : cT) (n : Nat) (o : Nat) (p : Nat) (s : cS) (a1 : Int32) (hO : Sh τ n o) (hp : acb τ n p = true) (hn : n < 1000000) (hT : τ n = .inr (8, 0)) {z : Nat × cS} (h : o_X11_propose_34 F τ n o p s a1 = some (.inr z)) : jg Γ mX11_propose 50 1 6 34 [some (.ref o), some (.int a1), none, none] [.ref p] (ct_h g τ s, n) (jq (.inr (exn z.1)) (ct_h (gx g n) τ z.2, n + 1)) := by
  rw [o_X11_propose_34] at h
  refine jg_astore_n (L' := [some (.ref o), some (.int a1), none, some (.ref p)]) dX11_propose_34 (by decide) rfl ?_
  refine jg_aload_n dX11_propose_35 rfl ?_
  refine jg_ifnonnull (tgt := 50) dX11_propose_36 (by decide) ?_
  refine jg_aload_n dX11_propose_50 rfl ?_
  refine cs_get (s := s) (w := .ref (o + 10)) fl_X11_27 dX11_propose_51 hO.ob0 rfl ?_
  refine cs_get (s := s) (w := .ref (o + 27)) fl_X11_280 dX11_propose_54 hO.1.ob0 rfl ?_
  refine cs_get (s := s) (w := .int (s.1 (o + 27) 4)) fl_X11_298 dX11_propose_57 (hO.1.ob 17 (by decide) rfl) rfl ?_
  refine jg_if_ne (x := (s.1 (o + 27) 4)) (tgt := 67) dX11_propose_60 (by decide) (fun c1 => ?_) (fun c1 => ?_)
  · replace h := it_f c1 h
    refine jg_iconst (v := nI 0) dX11_propose_67 (by decide) ?_
    obtain ⟨x2, e_x2, h⟩ := bd_some h
    rcases x2 with y3 | z4
    · replace h := se_l h
      refine cs_callS (As := [.int (nI 0)]) ks_X11_52 dX11_propose_68 rfl (by decide) (Nat.le_of_ble_eq_true rfl) rfl (by decide) (Nat.le_of_ble_eq_true rfl) (t_X11_needState τ n s (nI 0) e_x2) ?_
      refine jg_aload_n dX11_propose_71 rfl ?_
      refine cs_get (s := s) (w := .ref (o + 10)) fl_X11_27 dX11_propose_72 hO.ob0 rfl ?_
      refine cs_get (s := s) (w := .ref (o + 27)) fl_X11_280 dX11_propose_75 hO.1.ob0 rfl ?_
      refine cs_get (s := s) (w := .int (s.1 (o + 27) 3)) fl_X11_284 dX11_propose_78 (hO.1.ob 17 (by decide) rfl) rfl ?_
      refine jg_bipush (v := nI 20) dX11_propose_81 (by decide) ?_
      obtain ⟨x5, e_x5, h⟩ := bd_some h
      rcases x5 with y6 | z7
      · replace h := se_l h
        refine cs_callS (As := [.int (s.1 (o + 27) 3), .int (nI 20)]) ks_X11_82 dX11_propose_83 rfl (by decide) (Nat.le_of_ble_eq_true rfl) rfl (by decide) (Nat.le_of_ble_eq_true rfl) (t_X11_needRoom τ n s (s.1 (o + 27) 3) (nI 20) e_x5) ?_
        refine jg_aload_n dX11_propose_86 rfl ?_
        refine cs_get (s := s) (w := .ref (o + 10)) fl_X11_27 dX11_propose_87 hO.ob0 rfl ?_
        refine cs_get (s := s) (w := .ref (o + 27)) fl_X11_280 dX11_propose_90 hO.1.ob0 rfl ?_
        refine jg_aload_n dX11_propose_93 rfl ?_
        refine jg_iload_n dX11_propose_94 rfl ?_
        obtain ⟨x8, e_x8, h⟩ := bd_some h
        refine cs_call (q := (o + 27)) (As := [.ref p, .int a1]) kv_X11_302 dX11_propose_95 (hO.1.ob 17 (by decide) rfl) rfl rfl (by decide) (Nat.le_of_ble_eq_true rfl) rfl (by decide) (Nat.le_of_ble_eq_true rfl) (t_X3_beginVote F τ n (o + 10) p s a1 hO.1 hp e_x8) ?_
        refine jg_aload_n dX11_propose_98 rfl ?_
        refine cs_get (s := x8) (w := .int (x8.1 p 0)) fl_X11_293 dX11_propose_99 (acb_ob hp) rfl ?_
        cases h
      · replace h := se_r h
        obtain rfl := Sum.inr.inj (Option.some.inj h)
        exact jc_SX (As := [.int (s.1 (o + 27) 3), .int (nI 20)]) ks_X11_82 dX11_propose_83 rfl (by decide) (Nat.le_of_ble_eq_true rfl) rfl (by decide) (Nat.le_refl _) (Nat.le_refl _) (Nat.le_of_ble_eq_true rfl) (x_X11_needRoom τ n s (s.1 (o + 27) 3) (nI 20) hn hT e_x5) ⟨rfl, rfl⟩
    · replace h := se_r h
      obtain rfl := Sum.inr.inj (Option.some.inj h)
      exact jc_SX (As := [.int (nI 0)]) ks_X11_52 dX11_propose_68 rfl (by decide) (Nat.le_of_ble_eq_true rfl) rfl (by decide) (Nat.le_refl _) (Nat.le_refl _) (Nat.le_of_ble_eq_true rfl) (x_X11_needState τ n s (nI 0) hn hT e_x2) ⟨rfl, rfl⟩
  · replace h := it_t c1 h
    refine jg_iconst (v := nI 1) dX11_propose_63 (by decide) ?_
    refine jg_goto (tgt := 68) dX11_propose_64 (by decide) ?_
    obtain ⟨x9, e_x9, h⟩ := bd_some h
    rcases x9 with y10 | z11
    · replace h := se_l h
      refine cs_callS (As := [.int (nI 1)]) ks_X11_52 dX11_propose_68 rfl (by decide) (Nat.le_of_ble_eq_true rfl) rfl (by decide) (Nat.le_of_ble_eq_true rfl) (t_X11_needState τ n s (nI 1) e_x9) ?_
      refine jg_aload_n dX11_propose_71 rfl ?_
      refine cs_get (s := s) (w := .ref (o + 10)) fl_X11_27 dX11_propose_72 hO.ob0 rfl ?_
      refine cs_get (s := s) (w := .ref (o + 27)) fl_X11_280 dX11_propose_75 hO.1.ob0 rfl ?_
      refine cs_get (s := s) (w := .int (s.1 (o + 27) 3)) fl_X11_284 dX11_propose_78 (hO.1.ob 17 (by decide) rfl) rfl ?_
      refine jg_bipush (v := nI 20) dX11_propose_81 (by decide) ?_
      obtain ⟨x12, e_x12, h⟩ := bd_some h
      rcases x12 with y13 | z14
      · replace h := se_l h
        refine cs_callS (As := [.int (s.1 (o + 27) 3), .int (nI 20)]) ks_X11_82 dX11_propose_83 rfl (by decide) (Nat.le_of_ble_eq_true rfl) rfl (by decide) (Nat.le_of_ble_eq_true rfl) (t_X11_needRoom τ n s (s.1 (o + 27) 3) (nI 20) e_x12) ?_
        refine jg_aload_n dX11_propose_86 rfl ?_
        refine cs_get (s := s) (w := .ref (o + 10)) fl_X11_27 dX11_propose_87 hO.ob0 rfl ?_
        refine cs_get (s := s) (w := .ref (o + 27)) fl_X11_280 dX11_propose_90 hO.1.ob0 rfl ?_
        refine jg_aload_n dX11_propose_93 rfl ?_
        refine jg_iload_n dX11_propose_94 rfl ?_
        obtain ⟨x15, e_x15, h⟩ := bd_some h
        refine cs_call (q := (o + 27)) (As := [.ref p, .int a1]) kv_X11_302 dX11_propose_95 (hO.1.ob 17 (by decide) rfl) rfl rfl (by decide) (Nat.le_of_ble_eq_true rfl) rfl (by decide) (Nat.le_of_ble_eq_true rfl) (t_X3_beginVote F τ n (o + 10) p s a1 hO.1 hp e_x15) ?_
        refine jg_aload_n dX11_propose_98 rfl ?_
        refine cs_get (s := x15) (w := .int (x15.1 p 0)) fl_X11_293 dX11_propose_99 (acb_ob hp) rfl ?_
        cases h
      · replace h := se_r h
        obtain rfl := Sum.inr.inj (Option.some.inj h)
        exact jc_SX (As := [.int (s.1 (o + 27) 3), .int (nI 20)]) ks_X11_82 dX11_propose_83 rfl (by decide) (Nat.le_of_ble_eq_true rfl) rfl (by decide) (Nat.le_refl _) (Nat.le_refl _) (Nat.le_of_ble_eq_true rfl) (x_X11_needRoom τ n s (s.1 (o + 27) 3) (nI 20) hn hT e_x12) ⟨rfl, rfl⟩
    · replace h := se_r h
      obtain rfl := Sum.inr.inj (Option.some.inj h)
      exact jc_SX (As := [.int (nI 1)]) ks_X11_52 dX11_propose_68 rfl (by decide) (Nat.le_of_ble_eq_true rfl) rfl (by decide) (Nat.le_refl _) (Nat.le_refl _) (Nat.le_of_ble_eq_true rfl) (x_X11_needState τ n s (nI 1) hn hT e_x9) ⟨rfl, rfl⟩
theorem dX11_another_15 : decode cX11_another 15 = .ok (.astore_n 3, 1) := by decide +kernel
theorem dX11_another_16 : decode cX11_another 16 = .ok (.aload_n 3, 1) := by decide +kernel
theorem dX11_another_17 : decode cX11_another 17 = .ok (.ifnonnull 14, 3) := by decide +kernel
theorem dX11_another_31 : decode cX11_another 31 = .ok (.aload_n 0, 1) := by decide +kernel
theorem dX11_another_32 : decode cX11_another 32 = .ok (.getfield 27, 3) := by decide +kernel
theorem dX11_another_35 : decode cX11_another 35 = .ok (.aload_n 3, 1) := by decide +kernel
theorem dX11_another_36 : decode cX11_another 36 = .ok (.iload_n 1, 1) := by decide +kernel
theorem dX11_another_37 : decode cX11_another 37 = .ok (.iload_n 2, 1) := by decide +kernel
theorem dX11_another_38 : decode cX11_another 38 = .ok (.invokevirtual 408, 3) := by decide +kernel
theorem dX11_another_41 : decode cX11_another 41 = .ok (.ireturn, 1) := by decide +kernel
noncomputable def o_X11_another_15 (F : Nat) (τ : cT) (n : Nat) (o : Nat) (p : Nat) (s : cS) (a1 : Int32) (a2 : Int32) : Option ((Int32 × cS) ⊕ (Nat × cS)) := (o_X2_underAnother F τ n (o + 10) p s a1 a2).bind fun x1 => (some (.inl (x1.1, x1.2)))
set_option maxHeartbeats 4000000 in
theorem t_X11_another_15 {Γ : jg_G} {g : Nat → jg_C} (F : Nat) (τ : cT) (n : Nat) (o : Nat) (p : Nat) (s : cS) (a1 : Int32) (a2 : Int32) (hO : Sh τ n o) (hp : acb τ n p = true) {x : Int32 × cS} (h : o_X11_another_15 F τ n o p s a1 a2 = some (.inl x)) : jg Γ mX11_another 50 0 0 15 [some (.ref o), some (.int a1), some (.int a2), none] [.ref p] (ct_h g τ s, n) (jq (.inl (some (.int x.1))) (ct_h g τ x.2, n)) := by
  rw [o_X11_another_15] at h
  refine jg_astore_n (L' := [some (.ref o), some (.int a1), some (.int a2), some (.ref p)]) dX11_another_15 (by decide) rfl ?_
  refine jg_aload_n dX11_another_16 rfl ?_
  refine jg_ifnonnull (tgt := 31) dX11_another_17 (by decide) ?_
  refine jg_aload_n dX11_another_31 rfl ?_
  refine cs_get (s := s) (w := .ref (o + 10)) fl_X11_27 dX11_another_32 hO.ob0 rfl ?_
  refine jg_aload_n dX11_another_35 rfl ?_
  refine jg_iload_n dX11_another_36 rfl ?_
  refine jg_iload_n dX11_another_37 rfl ?_
  obtain ⟨x1, e_x1, h⟩ := bd_some h
  refine cs_call (q := (o + 10)) (As := [.ref p, .int a1, .int a2]) kv_X11_408 dX11_another_38 hO.1.ob0 rfl rfl (by decide) (Nat.le_of_ble_eq_true rfl) rfl (by decide) (Nat.le_of_ble_eq_true rfl) (t_X2_underAnother F τ n (o + 10) p s a1 a2 hO.1 hp e_x1) ?_
  obtain rfl := Sum.inl.inj (Option.some.inj h)
  exact jg_ireturn dX11_another_41 rfl ⟨rfl, rfl⟩
set_option maxHeartbeats 4000000 in
theorem x_X11_another_15 {Γ : jg_G} {g : Nat → jg_C} (F : Nat) (τ : cT) (n : Nat) (o : Nat) (p : Nat) (s : cS) (a1 : Int32) (a2 : Int32) (hO : Sh τ n o) (hp : acb τ n p = true) (hn : n < 1000000) (hT : τ n = .inr (8, 0)) {z : Nat × cS} (h : o_X11_another_15 F τ n o p s a1 a2 = some (.inr z)) : jg Γ mX11_another 50 1 6 15 [some (.ref o), some (.int a1), some (.int a2), none] [.ref p] (ct_h g τ s, n) (jq (.inr (exn z.1)) (ct_h (gx g n) τ z.2, n + 1)) := by
  rw [o_X11_another_15] at h
  refine jg_astore_n (L' := [some (.ref o), some (.int a1), some (.int a2), some (.ref p)]) dX11_another_15 (by decide) rfl ?_
  refine jg_aload_n dX11_another_16 rfl ?_
  refine jg_ifnonnull (tgt := 31) dX11_another_17 (by decide) ?_
  refine jg_aload_n dX11_another_31 rfl ?_
  refine cs_get (s := s) (w := .ref (o + 10)) fl_X11_27 dX11_another_32 hO.ob0 rfl ?_
  refine jg_aload_n dX11_another_35 rfl ?_
  refine jg_iload_n dX11_another_36 rfl ?_
  refine jg_iload_n dX11_another_37 rfl ?_
  obtain ⟨x1, e_x1, h⟩ := bd_some h
  refine cs_call (q := (o + 10)) (As := [.ref p, .int a1, .int a2]) kv_X11_408 dX11_another_38 hO.1.ob0 rfl rfl (by decide) (Nat.le_of_ble_eq_true rfl) rfl (by decide) (Nat.le_of_ble_eq_true rfl) (t_X2_underAnother F τ n (o + 10) p s a1 a2 hO.1 hp e_x1) ?_
  cases h
theorem dX11_act_0 : decode cX11_act 0 = .ok (.aload_n 0, 1) := by decide +kernel
theorem dX11_act_1 : decode cX11_act 1 = .ok (.invokevirtual 264, 3) := by decide +kernel
theorem dX11_act_4 : decode cX11_act 4 = .ok (.istore_n 2, 1) := by decide +kernel
theorem dX11_act_5 : decode cX11_act 5 = .ok (.iload_n 1, 1) := by decide +kernel
theorem dX11_act_6 : decode cX11_act 6 = .ok (.aload_n 0, 1) := by decide +kernel
theorem dX11_act_7 : decode cX11_act 7 = .ok (.getfield 27, 3) := by decide +kernel
theorem dX11_act_10 : decode cX11_act 10 = .ok (.invokevirtual 71, 3) := by decide +kernel
theorem dX11_act_13 : decode cX11_act 13 = .ok (.sipush 1250, 3) := by decide +kernel
theorem dX11_act_16 : decode cX11_act 16 = .ok (.invokestatic 41, 3) := by decide +kernel
theorem dX11_act_19 : decode cX11_act 19 = .ok (.invokestatic 45, 3) := by decide +kernel
theorem dX11_act_22 : decode cX11_act 22 = .ok (.aload_n 0, 1) := by decide +kernel
theorem dX11_act_23 : decode cX11_act 23 = .ok (.getfield 20, 3) := by decide +kernel
theorem dX11_act_26 : decode cX11_act 26 = .ok (.aload_n 0, 1) := by decide +kernel
theorem dX11_act_27 : decode cX11_act 27 = .ok (.getfield 9, 3) := by decide +kernel
theorem dX11_act_30 : decode cX11_act 30 = .ok (.iload_n 2, 1) := by decide +kernel
theorem dX11_act_31 : decode cX11_act 31 = .ok (.invokevirtual 267, 3) := by decide +kernel
theorem dX11_act_39 : decode cX11_act 39 = .ok (.new 271, 3) := by decide +kernel
theorem dX11_act_42 : decode cX11_act 42 = .ok (.dup, 1) := by decide +kernel
theorem dX11_act_43 : decode cX11_act 43 = .ok (.ldc_w 273, 3) := by decide +kernel
theorem dX11_act_46 : decode cX11_act 46 = .ok (.invokespecial 275, 3) := by decide +kernel
theorem dX11_act_49 : decode cX11_act 49 = .ok (.athrow, 1) := by decide +kernel
noncomputable def o_X11_act (F : Nat) (τ : cT) (n : Nat) (o : Nat) (s : cS) (a1 : Int32) : Option (Option (Nat × Nat) × ((Int32 × cS) ⊕ (Nat × cS))) := (o_X11_useTape τ n o s).bind fun x1 => ((o_X2_today τ n (o + 10) x1.2).bind fun x2 => ((o_X11_within τ n x1.2 a1 x2 (nI 1250)).bind fun x3 => ((o_X11_needArgument τ n x1.2 x3).bind fun x4 => (Sum.elim (fun y5 => (o_X7_read F τ n o (o + 1) x1.2 x1.1).bind fun x7 => ((fun (x7b : Bool) (x7s : cS) => if x7b = true then ((o_X11_act_34 F (tA τ n (lnA x7s o) (stA x7s o)) (n + 6) o n (iA x7s n o (lnA x7s o) (stA x7s o)) a1).map (fun y => (some ((lnA x7s o), (stA x7s o)), y))) else (some (none, .inr (1, x7s)))) x7.1 x7.2)) (fun z6 => some (none, .inr (z6, x1.2))) x4))))
set_option maxHeartbeats 4000000 in
theorem t_X11_act {Γ : jg_G} {g : Nat → jg_C} (F : Nat) (τ : cT) (n : Nat) (o : Nat) (s : cS) (a1 : Int32) (hO : Sh τ n o) (hn9 : n + 7 ≤ 1000000) {q : Option (Nat × Nat)} {x : Int32 × cS} (h : o_X11_act F τ n o s a1 = some (q, .inl x)) : jc Γ mX11_act 50 6 866 [some (.ref o), some (.int a1), none, none] (ct_h g τ s, n) (.inl (some (.int x.1))) (ct_h g (tQ τ n q) x.2, nQ n q) := by
  refine jc_of ?_
  rw [o_X11_act] at h
  refine jg_aload_n dX11_act_0 rfl ?_
  obtain ⟨x1, e_x1, h⟩ := bd_some h
  refine cs_call (q := o) (As := []) kv_X11_264 dX11_act_1 hO.ob0 rfl rfl (by decide) (Nat.le_of_ble_eq_true rfl) rfl (by decide) (Nat.le_of_ble_eq_true rfl) (t_X11_useTape τ n o s hO e_x1) ?_
  refine jg_istore_n (L' := [some (.ref o), some (.int a1), some (.int x1.1), none]) dX11_act_4 (by decide) rfl ?_
  refine jg_iload_n dX11_act_5 rfl ?_
  refine jg_aload_n dX11_act_6 rfl ?_
  refine cs_get (s := x1.2) (w := .ref (o + 10)) fl_X11_27 dX11_act_7 hO.ob0 rfl ?_
  obtain ⟨x2, e_x2, h⟩ := bd_some h
  refine cs_call (q := (o + 10)) (As := []) kv_X11_71 dX11_act_10 hO.1.ob0 rfl rfl (by decide) (Nat.le_of_ble_eq_true rfl) rfl (by decide) (Nat.le_of_ble_eq_true rfl) (t_X2_today τ n (o + 10) x1.2 hO.1 e_x2) ?_
  refine jg_sipush (v := nI 1250) dX11_act_13 (by decide) ?_
  obtain ⟨x3, e_x3, h⟩ := bd_some h
  refine cs_callS (As := [.int a1, .int x2, .int (nI 1250)]) ks_X11_41 dX11_act_16 rfl (by decide) (Nat.le_of_ble_eq_true rfl) rfl (by decide) (Nat.le_of_ble_eq_true rfl) (t_X11_within τ n x1.2 a1 x2 (nI 1250) e_x3) ?_
  obtain ⟨x4, e_x4, h⟩ := bd_some h
  rcases x4 with y5 | z6
  · replace h := se_l h
    refine cs_callS (As := [.int x3]) ks_X11_45 dX11_act_19 rfl (by decide) (Nat.le_of_ble_eq_true rfl) rfl (by decide) (Nat.le_of_ble_eq_true rfl) (t_X11_needArgument τ n x1.2 x3 e_x4) ?_
    refine jg_aload_n dX11_act_22 rfl ?_
    refine cs_get (s := x1.2) (w := .ref (o + 2)) fl_X11_20 dX11_act_23 hO.ob0 rfl ?_
    refine jg_aload_n dX11_act_26 rfl ?_
    refine cs_get (s := x1.2) (w := .ref (o + 1)) fl_X11_9 dX11_act_27 hO.ob0 rfl ?_
    refine jg_iload_n dX11_act_30 rfl ?_
    obtain ⟨x7, e_x7, h⟩ := bd_some h
    obtain ⟨x7b, x7s⟩ := x7
    cases x7b
    · replace h := it_f Bool.false_ne_true h
      refine cs_call (q := (o + 2)) (As := [.ref (o + 1), .int x1.1]) kv_X11_267 dX11_act_31 (hO.ob 2 (by decide) rfl) rfl rfl (by decide) (Nat.le_of_ble_eq_true rfl) rfl (by decide) (Nat.le_of_ble_eq_true rfl) (t_X7_read F τ n o (o + 1) x1.2 x1.1 hO (hO.ar 1 (by decide) rfl) e_x7) ?_
      refine jg_astore_nN (L' := [some (.ref o), some (.int a1), some (.int x1.1), some (.null)]) dX11_act_34 (by decide) rfl ?_
      refine jg_aload_nN dX11_act_35 rfl ?_
      refine jg_ifnonnullN dX11_act_36 ?_
      cases h
    · replace h := it_t rfl h
      obtain ⟨y9, ey, ez⟩ := Option.map_eq_some_iff.mp h
      cases ez
      refine jc_V (q := o + 2) (As := [.ref (o + 1), .int x1.1]) (a' := 6) (b' := 866) kv_X11_267 dX11_act_31 rfl (hO.ob 2 (by decide) rfl).1 (ct_o (hO.ob 2 (by decide) rfl)) rfl (by decide) (Nat.le_of_ble_eq_true rfl) rfl (by decide) (Nat.le_of_ble_eq_true rfl) (Nat.le_of_ble_eq_true rfl) (Nat.le_of_ble_eq_true rfl) (m_X7_read F τ n o (o + 1) x1.2 x1.1 hO (hO.ar 1 (by decide) rfl) (by omega) e_x7) ?_
      refine jg_fg (L' := [some (.ref o), some (.int a1), none, none]) (by repeat (first | exact trivial | refine ⟨rfl, ?_⟩ | show jg_le _ _)) ?_
      exact t_X11_act_34 F (tA τ n (lnA x7s o) (stA x7s o)) (n + 6) o n (iA x7s n o (lnA x7s o) (stA x7s o)) a1 (tA_ext.Sh hO) tA_acb ey
  · replace h := se_r h
    cases h
set_option maxHeartbeats 4000000 in
theorem x_X11_act {Γ : jg_G} {g : Nat → jg_C} (F : Nat) (τ : cT) (n : Nat) (o : Nat) (s : cS) (a1 : Int32) (hO : Sh τ n o) (hn9 : n + 7 ≤ 1000000) (hT9 : ∀ j, n ≤ j → τ j = .inr (8, 0)) {q : Option (Nat × Nat)} {z : Nat × cS} (h : o_X11_act F τ n o s a1 = some (q, .inr z)) : jc Γ mX11_act 50 7 872 [some (.ref o), some (.int a1), none, none] (ct_h g τ s, n) (.inr (exn z.1)) (ct_h (gx g (nQ n q)) (tQ τ n q) z.2, nQ n q + 1) := by
  have hT := hT9 n (Nat.le_refl _)
  have hn : n < 1000000 := by omega
  refine jc_of ?_
  rw [o_X11_act] at h
  refine jg_aload_n dX11_act_0 rfl ?_
  obtain ⟨x1, e_x1, h⟩ := bd_some h
  refine cs_call (q := o) (As := []) kv_X11_264 dX11_act_1 hO.ob0 rfl rfl (by decide) (Nat.le_of_ble_eq_true rfl) rfl (by decide) (Nat.le_of_ble_eq_true rfl) (t_X11_useTape τ n o s hO e_x1) ?_
  refine jg_istore_n (L' := [some (.ref o), some (.int a1), some (.int x1.1), none]) dX11_act_4 (by decide) rfl ?_
  refine jg_iload_n dX11_act_5 rfl ?_
  refine jg_aload_n dX11_act_6 rfl ?_
  refine cs_get (s := x1.2) (w := .ref (o + 10)) fl_X11_27 dX11_act_7 hO.ob0 rfl ?_
  obtain ⟨x2, e_x2, h⟩ := bd_some h
  refine cs_call (q := (o + 10)) (As := []) kv_X11_71 dX11_act_10 hO.1.ob0 rfl rfl (by decide) (Nat.le_of_ble_eq_true rfl) rfl (by decide) (Nat.le_of_ble_eq_true rfl) (t_X2_today τ n (o + 10) x1.2 hO.1 e_x2) ?_
  refine jg_sipush (v := nI 1250) dX11_act_13 (by decide) ?_
  obtain ⟨x3, e_x3, h⟩ := bd_some h
  refine cs_callS (As := [.int a1, .int x2, .int (nI 1250)]) ks_X11_41 dX11_act_16 rfl (by decide) (Nat.le_of_ble_eq_true rfl) rfl (by decide) (Nat.le_of_ble_eq_true rfl) (t_X11_within τ n x1.2 a1 x2 (nI 1250) e_x3) ?_
  obtain ⟨x4, e_x4, h⟩ := bd_some h
  rcases x4 with y5 | z6
  · replace h := se_l h
    refine cs_callS (As := [.int x3]) ks_X11_45 dX11_act_19 rfl (by decide) (Nat.le_of_ble_eq_true rfl) rfl (by decide) (Nat.le_of_ble_eq_true rfl) (t_X11_needArgument τ n x1.2 x3 e_x4) ?_
    refine jg_aload_n dX11_act_22 rfl ?_
    refine cs_get (s := x1.2) (w := .ref (o + 2)) fl_X11_20 dX11_act_23 hO.ob0 rfl ?_
    refine jg_aload_n dX11_act_26 rfl ?_
    refine cs_get (s := x1.2) (w := .ref (o + 1)) fl_X11_9 dX11_act_27 hO.ob0 rfl ?_
    refine jg_iload_n dX11_act_30 rfl ?_
    obtain ⟨x7, e_x7, h⟩ := bd_some h
    obtain ⟨x7b, x7s⟩ := x7
    cases x7b
    · replace h := it_f Bool.false_ne_true h
      refine cs_call (q := (o + 2)) (As := [.ref (o + 1), .int x1.1]) kv_X11_267 dX11_act_31 (hO.ob 2 (by decide) rfl) rfl rfl (by decide) (Nat.le_of_ble_eq_true rfl) rfl (by decide) (Nat.le_of_ble_eq_true rfl) (t_X7_read F τ n o (o + 1) x1.2 x1.1 hO (hO.ar 1 (by decide) rfl) e_x7) ?_
      refine jg_astore_nN (L' := [some (.ref o), some (.int a1), some (.int x1.1), some (.null)]) dX11_act_34 (by decide) rfl ?_
      refine jg_aload_nN dX11_act_35 rfl ?_
      refine jg_ifnonnullN dX11_act_36 ?_
      cases h
      exact jg_thrW (i := 10) rfl ex_IAE rfl dX11_act_39 dX11_act_42 dX11_act_43 dX11_act_46 dX11_act_49 (Nat.le_of_ble_eq_true rfl) (Nat.le_of_ble_eq_true rfl) (by decide) (Nat.le_of_ble_eq_true rfl) hn ⟨rfl, gx_e hT⟩
    · replace h := it_t rfl h
      obtain ⟨y9, ey, ez⟩ := Option.map_eq_some_iff.mp h
      cases ez
      refine jc_V (q := o + 2) (As := [.ref (o + 1), .int x1.1]) (a' := 6) (b' := 866) kv_X11_267 dX11_act_31 rfl (hO.ob 2 (by decide) rfl).1 (ct_o (hO.ob 2 (by decide) rfl)) rfl (by decide) (Nat.le_of_ble_eq_true rfl) rfl (by decide) (Nat.le_of_ble_eq_true rfl) (Nat.le_of_ble_eq_true rfl) (Nat.le_of_ble_eq_true rfl) (m_X7_read F τ n o (o + 1) x1.2 x1.1 hO (hO.ar 1 (by decide) rfl) (by omega) e_x7) ?_
      refine jg_fg (L' := [some (.ref o), some (.int a1), none, none]) (by repeat (first | exact trivial | refine ⟨rfl, ?_⟩ | show jg_le _ _)) ?_
      exact x_X11_act_34 F (tA τ n (lnA x7s o) (stA x7s o)) (n + 6) o n (iA x7s n o (lnA x7s o) (stA x7s o)) a1 (tA_ext.Sh hO) tA_acb (by omega) (by rw [tA_o (by omega)]; exact hT9 _ (by omega)) ey
  · replace h := se_r h
    cases h
    exact jc_SX (As := [.int x3]) ks_X11_45 dX11_act_19 rfl (by decide) (Nat.le_of_ble_eq_true rfl) rfl (by decide) (Nat.le_of_ble_eq_true rfl) (Nat.le_of_ble_eq_true rfl) (Nat.le_of_ble_eq_true rfl) (x_X11_needArgument τ n x1.2 x3 hn hT e_x4) ⟨rfl, rfl⟩
theorem dX11_propose_0 : decode cX11_propose 0 = .ok (.aload_n 0, 1) := by decide +kernel
theorem dX11_propose_1 : decode cX11_propose 1 = .ok (.invokevirtual 264, 3) := by decide +kernel
theorem dX11_propose_4 : decode cX11_propose 4 = .ok (.istore_n 2, 1) := by decide +kernel
theorem dX11_propose_5 : decode cX11_propose 5 = .ok (.iload_n 1, 1) := by decide +kernel
theorem dX11_propose_6 : decode cX11_propose 6 = .ok (.aload_n 0, 1) := by decide +kernel
theorem dX11_propose_7 : decode cX11_propose 7 = .ok (.getfield 27, 3) := by decide +kernel
theorem dX11_propose_10 : decode cX11_propose 10 = .ok (.invokevirtual 71, 3) := by decide +kernel
theorem dX11_propose_13 : decode cX11_propose 13 = .ok (.sipush 1250, 3) := by decide +kernel
theorem dX11_propose_16 : decode cX11_propose 16 = .ok (.invokestatic 41, 3) := by decide +kernel
theorem dX11_propose_19 : decode cX11_propose 19 = .ok (.invokestatic 45, 3) := by decide +kernel
theorem dX11_propose_22 : decode cX11_propose 22 = .ok (.aload_n 0, 1) := by decide +kernel
theorem dX11_propose_23 : decode cX11_propose 23 = .ok (.getfield 20, 3) := by decide +kernel
theorem dX11_propose_26 : decode cX11_propose 26 = .ok (.aload_n 0, 1) := by decide +kernel
theorem dX11_propose_27 : decode cX11_propose 27 = .ok (.getfield 9, 3) := by decide +kernel
theorem dX11_propose_30 : decode cX11_propose 30 = .ok (.iload_n 2, 1) := by decide +kernel
theorem dX11_propose_31 : decode cX11_propose 31 = .ok (.invokevirtual 267, 3) := by decide +kernel
theorem dX11_propose_39 : decode cX11_propose 39 = .ok (.new 271, 3) := by decide +kernel
theorem dX11_propose_42 : decode cX11_propose 42 = .ok (.dup, 1) := by decide +kernel
theorem dX11_propose_43 : decode cX11_propose 43 = .ok (.ldc_w 273, 3) := by decide +kernel
theorem dX11_propose_46 : decode cX11_propose 46 = .ok (.invokespecial 275, 3) := by decide +kernel
theorem dX11_propose_49 : decode cX11_propose 49 = .ok (.athrow, 1) := by decide +kernel
noncomputable def o_X11_propose (F : Nat) (τ : cT) (n : Nat) (o : Nat) (s : cS) (a1 : Int32) : Option (Option (Nat × Nat) × ((Int32 × cS) ⊕ (Nat × cS))) := (o_X11_useTape τ n o s).bind fun x1 => ((o_X2_today τ n (o + 10) x1.2).bind fun x2 => ((o_X11_within τ n x1.2 a1 x2 (nI 1250)).bind fun x3 => ((o_X11_needArgument τ n x1.2 x3).bind fun x4 => (Sum.elim (fun y5 => (o_X7_read F τ n o (o + 1) x1.2 x1.1).bind fun x7 => ((fun (x7b : Bool) (x7s : cS) => if x7b = true then ((o_X11_propose_34 F (tA τ n (lnA x7s o) (stA x7s o)) (n + 6) o n (iA x7s n o (lnA x7s o) (stA x7s o)) a1).map (fun y => (some ((lnA x7s o), (stA x7s o)), y))) else (some (none, .inr (1, x7s)))) x7.1 x7.2)) (fun z6 => some (none, .inr (z6, x1.2))) x4))))
set_option maxHeartbeats 4000000 in
theorem t_X11_propose {Γ : jg_G} {g : Nat → jg_C} (F : Nat) (τ : cT) (n : Nat) (o : Nat) (s : cS) (a1 : Int32) (hO : Sh τ n o) (hn9 : n + 7 ≤ 1000000) {q : Option (Nat × Nat)} {x : Int32 × cS} (h : o_X11_propose F τ n o s a1 = some (q, .inl x)) : jc Γ mX11_propose 50 6 866 [some (.ref o), some (.int a1), none, none] (ct_h g τ s, n) (.inl (some (.int x.1))) (ct_h g (tQ τ n q) x.2, nQ n q) := by
  refine jc_of ?_
  rw [o_X11_propose] at h
  refine jg_aload_n dX11_propose_0 rfl ?_
  obtain ⟨x1, e_x1, h⟩ := bd_some h
  refine cs_call (q := o) (As := []) kv_X11_264 dX11_propose_1 hO.ob0 rfl rfl (by decide) (Nat.le_of_ble_eq_true rfl) rfl (by decide) (Nat.le_of_ble_eq_true rfl) (t_X11_useTape τ n o s hO e_x1) ?_
  refine jg_istore_n (L' := [some (.ref o), some (.int a1), some (.int x1.1), none]) dX11_propose_4 (by decide) rfl ?_
  refine jg_iload_n dX11_propose_5 rfl ?_
  refine jg_aload_n dX11_propose_6 rfl ?_
  refine cs_get (s := x1.2) (w := .ref (o + 10)) fl_X11_27 dX11_propose_7 hO.ob0 rfl ?_
  obtain ⟨x2, e_x2, h⟩ := bd_some h
  refine cs_call (q := (o + 10)) (As := []) kv_X11_71 dX11_propose_10 hO.1.ob0 rfl rfl (by decide) (Nat.le_of_ble_eq_true rfl) rfl (by decide) (Nat.le_of_ble_eq_true rfl) (t_X2_today τ n (o + 10) x1.2 hO.1 e_x2) ?_
  refine jg_sipush (v := nI 1250) dX11_propose_13 (by decide) ?_
  obtain ⟨x3, e_x3, h⟩ := bd_some h
  refine cs_callS (As := [.int a1, .int x2, .int (nI 1250)]) ks_X11_41 dX11_propose_16 rfl (by decide) (Nat.le_of_ble_eq_true rfl) rfl (by decide) (Nat.le_of_ble_eq_true rfl) (t_X11_within τ n x1.2 a1 x2 (nI 1250) e_x3) ?_
  obtain ⟨x4, e_x4, h⟩ := bd_some h
  rcases x4 with y5 | z6
  · replace h := se_l h
    refine cs_callS (As := [.int x3]) ks_X11_45 dX11_propose_19 rfl (by decide) (Nat.le_of_ble_eq_true rfl) rfl (by decide) (Nat.le_of_ble_eq_true rfl) (t_X11_needArgument τ n x1.2 x3 e_x4) ?_
    refine jg_aload_n dX11_propose_22 rfl ?_
    refine cs_get (s := x1.2) (w := .ref (o + 2)) fl_X11_20 dX11_propose_23 hO.ob0 rfl ?_
    refine jg_aload_n dX11_propose_26 rfl ?_
    refine cs_get (s := x1.2) (w := .ref (o + 1)) fl_X11_9 dX11_propose_27 hO.ob0 rfl ?_
    refine jg_iload_n dX11_propose_30 rfl ?_
    obtain ⟨x7, e_x7, h⟩ := bd_some h
    obtain ⟨x7b, x7s⟩ := x7
    cases x7b
    · replace h := it_f Bool.false_ne_true h
      refine cs_call (q := (o + 2)) (As := [.ref (o + 1), .int x1.1]) kv_X11_267 dX11_propose_31 (hO.ob 2 (by decide) rfl) rfl rfl (by decide) (Nat.le_of_ble_eq_true rfl) rfl (by decide) (Nat.le_of_ble_eq_true rfl) (t_X7_read F τ n o (o + 1) x1.2 x1.1 hO (hO.ar 1 (by decide) rfl) e_x7) ?_
      refine jg_astore_nN (L' := [some (.ref o), some (.int a1), some (.int x1.1), some (.null)]) dX11_propose_34 (by decide) rfl ?_
      refine jg_aload_nN dX11_propose_35 rfl ?_
      refine jg_ifnonnullN dX11_propose_36 ?_
      cases h
    · replace h := it_t rfl h
      obtain ⟨y9, ey, ez⟩ := Option.map_eq_some_iff.mp h
      cases ez
      refine jc_V (q := o + 2) (As := [.ref (o + 1), .int x1.1]) (a' := 6) (b' := 866) kv_X11_267 dX11_propose_31 rfl (hO.ob 2 (by decide) rfl).1 (ct_o (hO.ob 2 (by decide) rfl)) rfl (by decide) (Nat.le_of_ble_eq_true rfl) rfl (by decide) (Nat.le_of_ble_eq_true rfl) (Nat.le_of_ble_eq_true rfl) (Nat.le_of_ble_eq_true rfl) (m_X7_read F τ n o (o + 1) x1.2 x1.1 hO (hO.ar 1 (by decide) rfl) (by omega) e_x7) ?_
      refine jg_fg (L' := [some (.ref o), some (.int a1), none, none]) (by repeat (first | exact trivial | refine ⟨rfl, ?_⟩ | show jg_le _ _)) ?_
      exact t_X11_propose_34 F (tA τ n (lnA x7s o) (stA x7s o)) (n + 6) o n (iA x7s n o (lnA x7s o) (stA x7s o)) a1 (tA_ext.Sh hO) tA_acb ey
  · replace h := se_r h
    cases h
set_option maxHeartbeats 4000000 in
theorem x_X11_propose {Γ : jg_G} {g : Nat → jg_C} (F : Nat) (τ : cT) (n : Nat) (o : Nat) (s : cS) (a1 : Int32) (hO : Sh τ n o) (hn9 : n + 7 ≤ 1000000) (hT9 : ∀ j, n ≤ j → τ j = .inr (8, 0)) {q : Option (Nat × Nat)} {z : Nat × cS} (h : o_X11_propose F τ n o s a1 = some (q, .inr z)) : jc Γ mX11_propose 50 7 872 [some (.ref o), some (.int a1), none, none] (ct_h g τ s, n) (.inr (exn z.1)) (ct_h (gx g (nQ n q)) (tQ τ n q) z.2, nQ n q + 1) := by
  have hT := hT9 n (Nat.le_refl _)
  have hn : n < 1000000 := by omega
  refine jc_of ?_
  rw [o_X11_propose] at h
  refine jg_aload_n dX11_propose_0 rfl ?_
  obtain ⟨x1, e_x1, h⟩ := bd_some h
  refine cs_call (q := o) (As := []) kv_X11_264 dX11_propose_1 hO.ob0 rfl rfl (by decide) (Nat.le_of_ble_eq_true rfl) rfl (by decide) (Nat.le_of_ble_eq_true rfl) (t_X11_useTape τ n o s hO e_x1) ?_
  refine jg_istore_n (L' := [some (.ref o), some (.int a1), some (.int x1.1), none]) dX11_propose_4 (by decide) rfl ?_
  refine jg_iload_n dX11_propose_5 rfl ?_
  refine jg_aload_n dX11_propose_6 rfl ?_
  refine cs_get (s := x1.2) (w := .ref (o + 10)) fl_X11_27 dX11_propose_7 hO.ob0 rfl ?_
  obtain ⟨x2, e_x2, h⟩ := bd_some h
  refine cs_call (q := (o + 10)) (As := []) kv_X11_71 dX11_propose_10 hO.1.ob0 rfl rfl (by decide) (Nat.le_of_ble_eq_true rfl) rfl (by decide) (Nat.le_of_ble_eq_true rfl) (t_X2_today τ n (o + 10) x1.2 hO.1 e_x2) ?_
  refine jg_sipush (v := nI 1250) dX11_propose_13 (by decide) ?_
  obtain ⟨x3, e_x3, h⟩ := bd_some h
  refine cs_callS (As := [.int a1, .int x2, .int (nI 1250)]) ks_X11_41 dX11_propose_16 rfl (by decide) (Nat.le_of_ble_eq_true rfl) rfl (by decide) (Nat.le_of_ble_eq_true rfl) (t_X11_within τ n x1.2 a1 x2 (nI 1250) e_x3) ?_
  obtain ⟨x4, e_x4, h⟩ := bd_some h
  rcases x4 with y5 | z6
  · replace h := se_l h
    refine cs_callS (As := [.int x3]) ks_X11_45 dX11_propose_19 rfl (by decide) (Nat.le_of_ble_eq_true rfl) rfl (by decide) (Nat.le_of_ble_eq_true rfl) (t_X11_needArgument τ n x1.2 x3 e_x4) ?_
    refine jg_aload_n dX11_propose_22 rfl ?_
    refine cs_get (s := x1.2) (w := .ref (o + 2)) fl_X11_20 dX11_propose_23 hO.ob0 rfl ?_
    refine jg_aload_n dX11_propose_26 rfl ?_
    refine cs_get (s := x1.2) (w := .ref (o + 1)) fl_X11_9 dX11_propose_27 hO.ob0 rfl ?_
    refine jg_iload_n dX11_propose_30 rfl ?_
    obtain ⟨x7, e_x7, h⟩ := bd_some h
    obtain ⟨x7b, x7s⟩ := x7
    cases x7b
    · replace h := it_f Bool.false_ne_true h
      refine cs_call (q := (o + 2)) (As := [.ref (o + 1), .int x1.1]) kv_X11_267 dX11_propose_31 (hO.ob 2 (by decide) rfl) rfl rfl (by decide) (Nat.le_of_ble_eq_true rfl) rfl (by decide) (Nat.le_of_ble_eq_true rfl) (t_X7_read F τ n o (o + 1) x1.2 x1.1 hO (hO.ar 1 (by decide) rfl) e_x7) ?_
      refine jg_astore_nN (L' := [some (.ref o), some (.int a1), some (.int x1.1), some (.null)]) dX11_propose_34 (by decide) rfl ?_
      refine jg_aload_nN dX11_propose_35 rfl ?_
      refine jg_ifnonnullN dX11_propose_36 ?_
      cases h
      exact jg_thrW (i := 10) rfl ex_IAE rfl dX11_propose_39 dX11_propose_42 dX11_propose_43 dX11_propose_46 dX11_propose_49 (Nat.le_of_ble_eq_true rfl) (Nat.le_of_ble_eq_true rfl) (by decide) (Nat.le_of_ble_eq_true rfl) hn ⟨rfl, gx_e hT⟩
    · replace h := it_t rfl h
      obtain ⟨y9, ey, ez⟩ := Option.map_eq_some_iff.mp h
      cases ez
      refine jc_V (q := o + 2) (As := [.ref (o + 1), .int x1.1]) (a' := 6) (b' := 866) kv_X11_267 dX11_propose_31 rfl (hO.ob 2 (by decide) rfl).1 (ct_o (hO.ob 2 (by decide) rfl)) rfl (by decide) (Nat.le_of_ble_eq_true rfl) rfl (by decide) (Nat.le_of_ble_eq_true rfl) (Nat.le_of_ble_eq_true rfl) (Nat.le_of_ble_eq_true rfl) (m_X7_read F τ n o (o + 1) x1.2 x1.1 hO (hO.ar 1 (by decide) rfl) (by omega) e_x7) ?_
      refine jg_fg (L' := [some (.ref o), some (.int a1), none, none]) (by repeat (first | exact trivial | refine ⟨rfl, ?_⟩ | show jg_le _ _)) ?_
      exact x_X11_propose_34 F (tA τ n (lnA x7s o) (stA x7s o)) (n + 6) o n (iA x7s n o (lnA x7s o) (stA x7s o)) a1 (tA_ext.Sh hO) tA_acb (by omega) (by rw [tA_o (by omega)]; exact hT9 _ (by omega)) ey
  · replace h := se_r h
    cases h
    exact jc_SX (As := [.int x3]) ks_X11_45 dX11_propose_19 rfl (by decide) (Nat.le_of_ble_eq_true rfl) rfl (by decide) (Nat.le_of_ble_eq_true rfl) (Nat.le_of_ble_eq_true rfl) (Nat.le_of_ble_eq_true rfl) (x_X11_needArgument τ n x1.2 x3 hn hT e_x4) ⟨rfl, rfl⟩
theorem dX11_another_0 : decode cX11_another 0 = .ok (.aload_n 0, 1) := by decide +kernel
theorem dX11_another_1 : decode cX11_another 1 = .ok (.getfield 20, 3) := by decide +kernel
theorem dX11_another_4 : decode cX11_another 4 = .ok (.aload_n 0, 1) := by decide +kernel
theorem dX11_another_5 : decode cX11_another 5 = .ok (.getfield 9, 3) := by decide +kernel
theorem dX11_another_8 : decode cX11_another 8 = .ok (.aload_n 0, 1) := by decide +kernel
theorem dX11_another_9 : decode cX11_another 9 = .ok (.invokevirtual 264, 3) := by decide +kernel
theorem dX11_another_12 : decode cX11_another 12 = .ok (.invokevirtual 267, 3) := by decide +kernel
theorem dX11_another_20 : decode cX11_another 20 = .ok (.new 271, 3) := by decide +kernel
theorem dX11_another_23 : decode cX11_another 23 = .ok (.dup, 1) := by decide +kernel
theorem dX11_another_24 : decode cX11_another 24 = .ok (.ldc_w 273, 3) := by decide +kernel
theorem dX11_another_27 : decode cX11_another 27 = .ok (.invokespecial 275, 3) := by decide +kernel
theorem dX11_another_30 : decode cX11_another 30 = .ok (.athrow, 1) := by decide +kernel
noncomputable def o_X11_another (F : Nat) (τ : cT) (n : Nat) (o : Nat) (s : cS) (a1 : Int32) (a2 : Int32) : Option (Option (Nat × Nat) × ((Int32 × cS) ⊕ (Nat × cS))) := (o_X11_useTape τ n o s).bind fun x1 => ((o_X7_read F τ n o (o + 1) x1.2 x1.1).bind fun x2 => ((fun (x2b : Bool) (x2s : cS) => if x2b = true then ((o_X11_another_15 F (tA τ n (lnA x2s o) (stA x2s o)) (n + 6) o n (iA x2s n o (lnA x2s o) (stA x2s o)) a1 a2).map (fun y => (some ((lnA x2s o), (stA x2s o)), y))) else (some (none, .inr (1, x2s)))) x2.1 x2.2))
set_option maxHeartbeats 4000000 in
theorem t_X11_another {Γ : jg_G} {g : Nat → jg_C} (F : Nat) (τ : cT) (n : Nat) (o : Nat) (s : cS) (a1 : Int32) (a2 : Int32) (hO : Sh τ n o) (hn9 : n + 7 ≤ 1000000) {q : Option (Nat × Nat)} {x : Int32 × cS} (h : o_X11_another F τ n o s a1 a2 = some (q, .inl x)) : jc Γ mX11_another 50 6 866 [some (.ref o), some (.int a1), some (.int a2), none] (ct_h g τ s, n) (.inl (some (.int x.1))) (ct_h g (tQ τ n q) x.2, nQ n q) := by
  refine jc_of ?_
  rw [o_X11_another] at h
  refine jg_aload_n dX11_another_0 rfl ?_
  refine cs_get (s := s) (w := .ref (o + 2)) fl_X11_20 dX11_another_1 hO.ob0 rfl ?_
  refine jg_aload_n dX11_another_4 rfl ?_
  refine cs_get (s := s) (w := .ref (o + 1)) fl_X11_9 dX11_another_5 hO.ob0 rfl ?_
  refine jg_aload_n dX11_another_8 rfl ?_
  obtain ⟨x1, e_x1, h⟩ := bd_some h
  refine cs_call (q := o) (As := []) kv_X11_264 dX11_another_9 hO.ob0 rfl rfl (by decide) (Nat.le_of_ble_eq_true rfl) rfl (by decide) (Nat.le_of_ble_eq_true rfl) (t_X11_useTape τ n o s hO e_x1) ?_
  obtain ⟨x2, e_x2, h⟩ := bd_some h
  obtain ⟨x2b, x2s⟩ := x2
  cases x2b
  · replace h := it_f Bool.false_ne_true h
    refine cs_call (q := (o + 2)) (As := [.ref (o + 1), .int x1.1]) kv_X11_267 dX11_another_12 (hO.ob 2 (by decide) rfl) rfl rfl (by decide) (Nat.le_of_ble_eq_true rfl) rfl (by decide) (Nat.le_of_ble_eq_true rfl) (t_X7_read F τ n o (o + 1) x1.2 x1.1 hO (hO.ar 1 (by decide) rfl) e_x2) ?_
    refine jg_astore_nN (L' := [some (.ref o), some (.int a1), some (.int a2), some (.null)]) dX11_another_15 (by decide) rfl ?_
    refine jg_aload_nN dX11_another_16 rfl ?_
    refine jg_ifnonnullN dX11_another_17 ?_
    cases h
  · replace h := it_t rfl h
    obtain ⟨y9, ey, ez⟩ := Option.map_eq_some_iff.mp h
    cases ez
    refine jc_V (q := o + 2) (As := [.ref (o + 1), .int x1.1]) (a' := 6) (b' := 866) kv_X11_267 dX11_another_12 rfl (hO.ob 2 (by decide) rfl).1 (ct_o (hO.ob 2 (by decide) rfl)) rfl (by decide) (Nat.le_of_ble_eq_true rfl) rfl (by decide) (Nat.le_of_ble_eq_true rfl) (Nat.le_of_ble_eq_true rfl) (Nat.le_of_ble_eq_true rfl) (m_X7_read F τ n o (o + 1) x1.2 x1.1 hO (hO.ar 1 (by decide) rfl) (by omega) e_x2) ?_
    refine jg_fg (L' := [some (.ref o), some (.int a1), some (.int a2), none]) (by repeat (first | exact trivial | refine ⟨rfl, ?_⟩ | show jg_le _ _)) ?_
    exact t_X11_another_15 F (tA τ n (lnA x2s o) (stA x2s o)) (n + 6) o n (iA x2s n o (lnA x2s o) (stA x2s o)) a1 a2 (tA_ext.Sh hO) tA_acb ey
set_option maxHeartbeats 4000000 in
theorem x_X11_another {Γ : jg_G} {g : Nat → jg_C} (F : Nat) (τ : cT) (n : Nat) (o : Nat) (s : cS) (a1 : Int32) (a2 : Int32) (hO : Sh τ n o) (hn9 : n + 7 ≤ 1000000) (hT9 : ∀ j, n ≤ j → τ j = .inr (8, 0)) {q : Option (Nat × Nat)} {z : Nat × cS} (h : o_X11_another F τ n o s a1 a2 = some (q, .inr z)) : jc Γ mX11_another 50 7 872 [some (.ref o), some (.int a1), some (.int a2), none] (ct_h g τ s, n) (.inr (exn z.1)) (ct_h (gx g (nQ n q)) (tQ τ n q) z.2, nQ n q + 1) := by
  have hT := hT9 n (Nat.le_refl _)
  have hn : n < 1000000 := by omega
  refine jc_of ?_
  rw [o_X11_another] at h
  refine jg_aload_n dX11_another_0 rfl ?_
  refine cs_get (s := s) (w := .ref (o + 2)) fl_X11_20 dX11_another_1 hO.ob0 rfl ?_
  refine jg_aload_n dX11_another_4 rfl ?_
  refine cs_get (s := s) (w := .ref (o + 1)) fl_X11_9 dX11_another_5 hO.ob0 rfl ?_
  refine jg_aload_n dX11_another_8 rfl ?_
  obtain ⟨x1, e_x1, h⟩ := bd_some h
  refine cs_call (q := o) (As := []) kv_X11_264 dX11_another_9 hO.ob0 rfl rfl (by decide) (Nat.le_of_ble_eq_true rfl) rfl (by decide) (Nat.le_of_ble_eq_true rfl) (t_X11_useTape τ n o s hO e_x1) ?_
  obtain ⟨x2, e_x2, h⟩ := bd_some h
  obtain ⟨x2b, x2s⟩ := x2
  cases x2b
  · replace h := it_f Bool.false_ne_true h
    refine cs_call (q := (o + 2)) (As := [.ref (o + 1), .int x1.1]) kv_X11_267 dX11_another_12 (hO.ob 2 (by decide) rfl) rfl rfl (by decide) (Nat.le_of_ble_eq_true rfl) rfl (by decide) (Nat.le_of_ble_eq_true rfl) (t_X7_read F τ n o (o + 1) x1.2 x1.1 hO (hO.ar 1 (by decide) rfl) e_x2) ?_
    refine jg_astore_nN (L' := [some (.ref o), some (.int a1), some (.int a2), some (.null)]) dX11_another_15 (by decide) rfl ?_
    refine jg_aload_nN dX11_another_16 rfl ?_
    refine jg_ifnonnullN dX11_another_17 ?_
    cases h
    exact jg_thrW (i := 10) rfl ex_IAE rfl dX11_another_20 dX11_another_23 dX11_another_24 dX11_another_27 dX11_another_30 (Nat.le_of_ble_eq_true rfl) (Nat.le_of_ble_eq_true rfl) (by decide) (Nat.le_of_ble_eq_true rfl) hn ⟨rfl, gx_e hT⟩
  · replace h := it_t rfl h
    obtain ⟨y9, ey, ez⟩ := Option.map_eq_some_iff.mp h
    cases ez
    refine jc_V (q := o + 2) (As := [.ref (o + 1), .int x1.1]) (a' := 6) (b' := 866) kv_X11_267 dX11_another_12 rfl (hO.ob 2 (by decide) rfl).1 (ct_o (hO.ob 2 (by decide) rfl)) rfl (by decide) (Nat.le_of_ble_eq_true rfl) rfl (by decide) (Nat.le_of_ble_eq_true rfl) (Nat.le_of_ble_eq_true rfl) (Nat.le_of_ble_eq_true rfl) (m_X7_read F τ n o (o + 1) x1.2 x1.1 hO (hO.ar 1 (by decide) rfl) (by omega) e_x2) ?_
    refine jg_fg (L' := [some (.ref o), some (.int a1), some (.int a2), none]) (by repeat (first | exact trivial | refine ⟨rfl, ?_⟩ | show jg_le _ _)) ?_
    exact x_X11_another_15 F (tA τ n (lnA x2s o) (stA x2s o)) (n + 6) o n (iA x2s n o (lnA x2s o) (stA x2s o)) a1 a2 (tA_ext.Sh hO) tA_acb (by omega) (by rw [tA_o (by omega)]; exact hT9 _ (by omega)) ey
theorem dX11_keep_0 : decode cX11_keep 0 = .ok (.aload_n 0, 1) := by decide +kernel
theorem dX11_keep_1 : decode cX11_keep 1 = .ok (.getfield 31, 3) := by decide +kernel
theorem dX11_keep_4 : decode cX11_keep 4 = .ok (.ifnonnull 14, 3) := by decide +kernel
theorem dX11_keep_7 : decode cX11_keep 7 = .ok (.aload_n 0, 1) := by decide +kernel
theorem dX11_keep_8 : decode cX11_keep 8 = .ok (.new 24, 3) := by decide +kernel
theorem dX11_keep_11 : decode cX11_keep 11 = .ok (.dup, 1) := by decide +kernel
theorem dX11_keep_12 : decode cX11_keep 12 = .ok (.invokespecial 26, 3) := by decide +kernel
theorem dX11_keep_15 : decode cX11_keep 15 = .ok (.putfield 31, 3) := by decide +kernel
theorem dX11_keep_18 : decode cX11_keep 18 = .ok (.aload_n 0, 1) := by decide +kernel
theorem dX11_keep_19 : decode cX11_keep 19 = .ok (.getfield 31, 3) := by decide +kernel
theorem dX11_keep_22 : decode cX11_keep 22 = .ok (.aload_n 0, 1) := by decide +kernel
theorem dX11_keep_23 : decode cX11_keep 23 = .ok (.getfield 27, 3) := by decide +kernel
theorem dX11_keep_26 : decode cX11_keep 26 = .ok (.invokevirtual 412, 3) := by decide +kernel
theorem dX11_keep_29 : decode cX11_keep 29 = .ok (.return_, 1) := by decide +kernel
noncomputable def o_X11_keep (F : Nat) (τ : cT) (n o : Nat) (s : cS) : Option (Bool × cS) := Option.elim (s.2 o 4) ((o_X2_copyFrom F (tB τ n) (n + 170) n (o + 10) (cq (iB s n) o 4 (some n))).map (fun y => (true, y))) (fun y => if bdb τ n y = true then ((o_X2_copyFrom F τ n y (o + 10) s).map (fun z => (false, z))) else none)
set_option maxHeartbeats 4000000 in
theorem t_X11_keep {Γ : jg_G} {g : Nat → jg_C} (F : Nat) (τ : cT) (n o : Nat) (s : cS) (hO : Sh τ n o) {x : cS} (h : o_X11_keep F τ n o s = some (false, x)) : jc Γ mX11_keep 4 0 0 [some (.ref o)] (ct_h g τ s, n) (.inl none) (ct_h g τ x, n) := by
  refine jc_of ?_
  rw [o_X11_keep] at h
  refine jg_aload_n dX11_keep_0 rfl ?_
  rcases e : s.2 o 4 with _ | y
  · rw [e] at h
    replace h := oe_n h
    obtain ⟨y9, ey, ez⟩ := Option.map_eq_some_iff.mp h
    cases ez
  · rw [e] at h
    replace h := oe_s h
    obtain ⟨qb, h⟩ := gd_some h
    obtain ⟨y9, ey, ez⟩ := Option.map_eq_some_iff.mp h
    cases ez
    refine cs_get (s := s) (w := .ref y) fl_X11_31 dX11_keep_1 hO.ob0 (by show some (vr (s.2 o 4)) = _; rw [e]; rfl) ?_
    refine jg_ifnonnull (tgt := 18) dX11_keep_4 (by decide) ?_
    refine jg_aload_n dX11_keep_18 rfl ?_
    refine cs_get (s := s) (w := .ref y) fl_X11_31 dX11_keep_19 hO.ob0 (by show some (vr (s.2 o 4)) = _; rw [e]; rfl) ?_
    refine jg_aload_n dX11_keep_22 rfl ?_
    refine cs_get (s := s) (w := .ref (o + 10)) fl_X11_27 dX11_keep_23 hO.ob0 rfl ?_
    refine cs_call (q := y) (As := [.ref (o + 10)]) kv_X11_412 dX11_keep_26 (bdb_Bd qb).ob0 rfl rfl (by decide) (Nat.le_of_ble_eq_true rfl) rfl (by decide) (Nat.le_of_ble_eq_true rfl) (t_X2_copyFrom F τ n y (o + 10) s (bdb_Bd qb) hO.1 ey) ?_
    exact jg_return dX11_keep_29 rfl ⟨rfl, rfl⟩
set_option maxHeartbeats 4000000 in
theorem m_X11_keep {Γ : jg_G} {g : Nat → jg_C} (F : Nat) (τ : cT) (n o : Nat) (s : cS) (hO : Sh τ n o) (hn : n + 170 ≤ 1000000) {x : cS} (h : o_X11_keep F τ n o s = some (true, x)) : jc Γ mX11_keep 4 170 3834 [some (.ref o)] (ct_h g τ s, n) (.inl none) (ct_h g (tB τ n) x, n + 170) := by
  refine jc_of ?_
  rw [o_X11_keep] at h
  refine jg_aload_n dX11_keep_0 rfl ?_
  rcases e : s.2 o 4 with _ | y
  · rw [e] at h
    replace h := oe_n h
    obtain ⟨y9, ey, ez⟩ := Option.map_eq_some_iff.mp h
    cases ez
    have hO2 : Sh (tB τ n) (n + 170) o := tB_ext.Sh hO
    refine cs_get (s := s) (w := .null) fl_X11_31 dX11_keep_1 hO.ob0 (by show some (vr (s.2 o 4)) = _; rw [e]; rfl) ?_
    refine jg_ifnonnullN dX11_keep_4 ?_
    refine jg_aload_n dX11_keep_7 rfl ?_
    refine jg_new (ci := 2) (N := 10) (fs := [.int 0, .null, .null, .null, .null, .null, .null, .null, .null, .null]) jc_X2 kc_X11_24 kn_X2 wi_X2 (mk_df2 Γ) dX11_keep_8 (by show n < 1000000; omega) (by decide) (by decide) ?_
    refine jg_hs (S' := [.ref n, .ref o]) (h' := (apx (ct_h g τ s) n [.inl (2, [.int 0, .null, .null, .null, .null, .null, .null, .null, .null, .null])], n + 1)) rfl (congrArg (fun z => (z, n + 1)) mk_one) ?_
    refine jg_dup dX11_keep_11 rfl ?_
    refine jc_I (q := n) (As := []) (a' := 169) (b' := 3824) ki_X11_26 dX11_keep_12 rfl (by decide) (Nat.le_of_ble_eq_true rfl) rfl (by decide) (Nat.le_of_ble_eq_true rfl) (Nat.le_of_ble_eq_true rfl) (Nat.le_of_ble_eq_true rfl) (t_X2_init (ct_h g τ s) n hn) ?_
    refine jg_hs (S' := [.ref n, .ref o]) (h' := (ct_h g (tB τ n) (iB s n), n + 170)) rfl (congrArg (fun z => (z, n + 170)) bd_new) ?_
    refine cs_putr (s := iB s n) (y := n) fl_X11_31 dX11_keep_15 hO2.ob0 (ltb rfl) rfl rfl rfl ?_
    refine jg_aload_n dX11_keep_18 rfl ?_
    refine cs_get (s := cq (iB s n) o 4 (some n)) (w := .ref n) fl_X11_31 dX11_keep_19 hO2.ob0 (by show some (vr ((cq (iB s n) o 4 (some n)).2 o 4)) = _; rw [cq_q, va_up_self]; rfl) ?_
    refine jg_aload_n dX11_keep_22 rfl ?_
    refine cs_get (s := cq (iB s n) o 4 (some n)) (w := .ref (o + 10)) fl_X11_27 dX11_keep_23 hO2.ob0 rfl ?_
    refine cs_call (q := n) (As := [.ref (o + 10)]) kv_X11_412 dX11_keep_26 tB_Bd.ob0 rfl rfl (by decide) (Nat.le_of_ble_eq_true rfl) rfl (by decide) (Nat.le_of_ble_eq_true rfl) (t_X2_copyFrom F (tB τ n) (n + 170) n (o + 10) _ tB_Bd hO2.1 ey) ?_
    exact jg_return dX11_keep_29 rfl ⟨rfl, rfl⟩
  · rw [e] at h
    replace h := oe_s h
    obtain ⟨qb, h⟩ := gd_some h
    obtain ⟨y9, ey, ez⟩ := Option.map_eq_some_iff.mp h
    cases ez
