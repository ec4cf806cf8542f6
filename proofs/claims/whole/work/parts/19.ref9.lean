/-! THE REFERENCE: dredgers and the day's end (by program wip/whole/ref9.py) -/
/-- a bed is dug as long as its heap is below 0 -/
def ra_dgl (c : Nat) : Nat → (Nat → Int32) → (Nat → Int32)
  | 0, w => w
  | m + 1, w => if w (49 + c) < 0 then ra_dgl c m (upd (upd w (1 + c) (w (1 + c) + nI 1)) (49 + c) ((upd w (1 + c) (w (1 + c) + nI 1)) (49 + c) + nI 50)) else w

theorem dX12_digs_89 : decode cX12_digs 89 = .ok (.aload_n 0, 1) := by decide +kernel
theorem dX12_digs_90 : decode cX12_digs 90 = .ok (.getfield 13, 3) := by decide +kernel
theorem dX12_digs_93 : decode cX12_digs 93 = .ok (.bipush 49, 2) := by decide +kernel
theorem dX12_digs_95 : decode cX12_digs 95 = .ok (.iload_n 2, 1) := by decide +kernel
theorem dX12_digs_96 : decode cX12_digs 96 = .ok (.iadd, 1) := by decide +kernel
theorem dX12_digs_97 : decode cX12_digs 97 = .ok (.iaload, 1) := by decide +kernel
theorem dX12_digs_98 : decode cX12_digs 98 = .ok (.ifCond .ge 25, 3) := by decide +kernel
theorem dX12_digs_101 : decode cX12_digs 101 = .ok (.iload_n 3, 1) := by decide +kernel
theorem dX12_digs_102 : decode cX12_digs 102 = .ok (.aload_n 0, 1) := by decide +kernel
theorem dX12_digs_103 : decode cX12_digs 103 = .ok (.getfield 13, 3) := by decide +kernel
theorem dX12_digs_106 : decode cX12_digs 106 = .ok (.bipush 49, 2) := by decide +kernel
theorem dX12_digs_108 : decode cX12_digs 108 = .ok (.iload_n 2, 1) := by decide +kernel
theorem dX12_digs_109 : decode cX12_digs 109 = .ok (.iadd, 1) := by decide +kernel
theorem dX12_digs_110 : decode cX12_digs 110 = .ok (.iaload, 1) := by decide +kernel
theorem dX12_digs_111 : decode cX12_digs 111 = .ok (.iadd, 1) := by decide +kernel
theorem dX12_digs_112 : decode cX12_digs 112 = .ok (.istore_n 3, 1) := by decide +kernel
theorem dX12_digs_113 : decode cX12_digs 113 = .ok (.aload_n 0, 1) := by decide +kernel
theorem dX12_digs_114 : decode cX12_digs 114 = .ok (.getfield 13, 3) := by decide +kernel
theorem dX12_digs_117 : decode cX12_digs 117 = .ok (.bipush 49, 2) := by decide +kernel
theorem dX12_digs_119 : decode cX12_digs 119 = .ok (.iload_n 2, 1) := by decide +kernel
theorem dX12_digs_120 : decode cX12_digs 120 = .ok (.iadd, 1) := by decide +kernel
theorem dX12_digs_121 : decode cX12_digs 121 = .ok (.iconst 0, 1) := by decide +kernel
theorem dX12_digs_122 : decode cX12_digs 122 = .ok (.iastore, 1) := by decide +kernel
theorem dX12_digs_123 : decode cX12_digs 123 = .ok (.aload_n 0, 1) := by decide +kernel
theorem dX12_digs_124 : decode cX12_digs 124 = .ok (.getfield 13, 3) := by decide +kernel
theorem dX12_digs_127 : decode cX12_digs 127 = .ok (.iload_n 1, 1) := by decide +kernel
theorem dX12_digs_128 : decode cX12_digs 128 = .ok (.iconst 2, 1) := by decide +kernel
theorem dX12_digs_129 : decode cX12_digs 129 = .ok (.iadd, 1) := by decide +kernel
theorem dX12_digs_130 : decode cX12_digs 130 = .ok (.iaload, 1) := by decide +kernel
theorem dX12_digs_131 : decode cX12_digs 131 = .ok (.ifCond .ge 18, 3) := by decide +kernel
theorem dX12_digs_134 : decode cX12_digs 134 = .ok (.aload_n 0, 1) := by decide +kernel
theorem dX12_digs_135 : decode cX12_digs 135 = .ok (.getfield 13, 3) := by decide +kernel
theorem dX12_digs_138 : decode cX12_digs 138 = .ok (.sipush 2658, 3) := by decide +kernel
theorem dX12_digs_141 : decode cX12_digs 141 = .ok (.dup2, 1) := by decide +kernel
theorem dX12_digs_142 : decode cX12_digs 142 = .ok (.iaload, 1) := by decide +kernel
theorem dX12_digs_143 : decode cX12_digs 143 = .ok (.iload_n 3, 1) := by decide +kernel
theorem dX12_digs_144 : decode cX12_digs 144 = .ok (.iadd, 1) := by decide +kernel
theorem dX12_digs_145 : decode cX12_digs 145 = .ok (.iastore, 1) := by decide +kernel
theorem dX12_digs_146 : decode cX12_digs 146 = .ok (.goto 23, 3) := by decide +kernel
theorem dX12_digs_169 : decode cX12_digs 169 = .ok (.return_, 1) := by decide +kernel
def o_r_dig_b0 (s : rs_S) (k c : Nat) (x : Int32) : Option Value × rs_S := (if 0 ≤ ((s.2.1) (49 + c)) then (none, (s.1, upd (s.2.1) (2658) ((((s.2.1) (2658)) + (x))), s.2.2)) else (none, (s.1, upd (upd (s.2.1) (49 + c) (nI (0))) (2658) ((((upd (s.2.1) (49 + c) (nI (0))) (2658)) + (((x) + ((s.2.1) (49 + c)))))), s.2.2)))
set_option maxHeartbeats 2000000 in
theorem r_dig_b0 {Γ : jg_G} {g : Nat → jg_C} {n r : Nat} (hr : r + 11 ≤ n) (s : rs_S) (k c : Nat) (x : Int32) (hk : k < 22000) (hc : c < 24) (hl : s.2.1 (k + 2) = -1) (hkc : k + 2 ≠ 49 + c) (Q : jg_Q) (hq : Q (.inl (o_r_dig_b0 s k c x).1) (rs_h g r (o_r_dig_b0 s k c x).2, n)) : jg Γ mX12_digs 0 0 0 89 [some (.ref (r)), some (.int (nI (k))), some (.int (nI (c))), some (.int (x))] [] (rs_h g r s, n) Q := by
  refine jg_aload_n dX12_digs_89 rfl ?_
  refine rs_ga fl_X12_13 dX12_digs_90 hr rfl ?_
  refine jn_bipush (k := 49) dX12_digs_93 (by decide) ?_
  refine jg_iload_n dX12_digs_95 rfl ?_
  refine jn_iadd (x := 49) (y := c) dX12_digs_96  ?_
  refine rs_lw (i := 49 + c) dX12_digs_97 hr (by omega) ?_
  refine jg_if_ge (x := ((s.2.1) (49 + c))) (tgt := 123) dX12_digs_98 (by decide) (fun c_1 => ?_) (fun c_1 => ?_)
  · skip
    refine jg_aload_n dX12_digs_123 rfl ?_
    refine rs_ga fl_X12_13 dX12_digs_124 hr rfl ?_
    refine jg_iload_n dX12_digs_127 rfl ?_
    refine jn_iconst (k := 2) dX12_digs_128 (by decide) ?_
    refine jn_iadd (x := k) (y := 2) dX12_digs_129  ?_
    refine rs_lwN (i := k + 2) (x := (-1)) (by first | exact hl | (simp only [upd]; rw [if_neg (by omega)]; exact hl)) dX12_digs_130 hr (by omega) ?_
    refine jg_if_ge (x := (-1)) (tgt := 149) dX12_digs_131 (by decide) (fun q9 => absurd q9 (by decide)) (fun _ => ?_)
    refine jg_aload_n dX12_digs_134 rfl ?_
    refine rs_ga fl_X12_13 dX12_digs_135 hr rfl ?_
    refine jn_sipush (k := 2658) dX12_digs_138 (by decide) ?_
    refine jg_dup2 dX12_digs_141 rfl rfl ?_
    refine rs_lw (i := 2658) dX12_digs_142 hr (by omega) ?_
    refine jg_iload_n dX12_digs_143 rfl ?_
    refine jg_iadd (x := ((s.2.1) (2658))) (y := (x)) dX12_digs_144  ?_
    refine rs_sw (i := 2658) (x := ((((s.2.1) (2658)) + (x)))) dX12_digs_145 hr (by omega) ?_
    refine jg_goto (tgt := 169) dX12_digs_146 (by decide) ?_
    exact jg_return dX12_digs_169 rfl (by simp only [o_r_dig_b0, if_pos c_1] at hq; exact hq)
  · skip
    refine jg_iload_n dX12_digs_101 rfl ?_
    refine jg_aload_n dX12_digs_102 rfl ?_
    refine rs_ga fl_X12_13 dX12_digs_103 hr rfl ?_
    refine jn_bipush (k := 49) dX12_digs_106 (by decide) ?_
    refine jg_iload_n dX12_digs_108 rfl ?_
    refine jn_iadd (x := 49) (y := c) dX12_digs_109  ?_
    refine rs_lw (i := 49 + c) dX12_digs_110 hr (by omega) ?_
    refine jg_iadd (x := (x)) (y := ((s.2.1) (49 + c))) dX12_digs_111  ?_
    refine jg_istore_n (L' := [some (.ref (r)), some (.int (nI (k))), some (.int (nI (c))), some (.int (((x) + ((s.2.1) (49 + c)))))]) dX12_digs_112 (by decide) rfl ?_
    refine jg_aload_n dX12_digs_113 rfl ?_
    refine rs_ga fl_X12_13 dX12_digs_114 hr rfl ?_
    refine jn_bipush (k := 49) dX12_digs_117 (by decide) ?_
    refine jg_iload_n dX12_digs_119 rfl ?_
    refine jn_iadd (x := 49) (y := c) dX12_digs_120  ?_
    refine jn_iconst (k := 0) dX12_digs_121 (by decide) ?_
    refine rs_sw (i := 49 + c) (x := (nI (0))) dX12_digs_122 hr (by omega) ?_
    refine jg_aload_n dX12_digs_123 rfl ?_
    refine rs_ga fl_X12_13 dX12_digs_124 hr rfl ?_
    refine jg_iload_n dX12_digs_127 rfl ?_
    refine jn_iconst (k := 2) dX12_digs_128 (by decide) ?_
    refine jn_iadd (x := k) (y := 2) dX12_digs_129  ?_
    refine rs_lwN (i := k + 2) (x := (-1)) (by first | exact hl | (simp only [upd]; rw [if_neg (by omega)]; exact hl)) dX12_digs_130 hr (by omega) ?_
    refine jg_if_ge (x := (-1)) (tgt := 149) dX12_digs_131 (by decide) (fun q9 => absurd q9 (by decide)) (fun _ => ?_)
    refine jg_aload_n dX12_digs_134 rfl ?_
    refine rs_ga fl_X12_13 dX12_digs_135 hr rfl ?_
    refine jn_sipush (k := 2658) dX12_digs_138 (by decide) ?_
    refine jg_dup2 dX12_digs_141 rfl rfl ?_
    refine rs_lw (i := 2658) dX12_digs_142 hr (by omega) ?_
    refine jg_iload_n dX12_digs_143 rfl ?_
    refine jg_iadd (x := ((upd (s.2.1) (49 + c) (nI (0))) (2658))) (y := (((x) + ((s.2.1) (49 + c))))) dX12_digs_144  ?_
    refine rs_sw (i := 2658) (x := ((((upd (s.2.1) (49 + c) (nI (0))) (2658)) + (((x) + ((s.2.1) (49 + c))))))) dX12_digs_145 hr (by omega) ?_
    refine jg_goto (tgt := 169) dX12_digs_146 (by decide) ?_
    exact jg_return dX12_digs_169 rfl (by simp only [o_r_dig_b0, if_neg c_1] at hq; exact hq)
theorem dX12_digs_149 : decode cX12_digs 149 = .ok (.aload_n 0, 1) := by decide +kernel
theorem dX12_digs_150 : decode cX12_digs 150 = .ok (.getfield 13, 3) := by decide +kernel
theorem dX12_digs_153 : decode cX12_digs 153 = .ok (.bipush 49, 2) := by decide +kernel
theorem dX12_digs_155 : decode cX12_digs 155 = .ok (.aload_n 0, 1) := by decide +kernel
theorem dX12_digs_156 : decode cX12_digs 156 = .ok (.getfield 13, 3) := by decide +kernel
theorem dX12_digs_159 : decode cX12_digs 159 = .ok (.iload_n 1, 1) := by decide +kernel
theorem dX12_digs_160 : decode cX12_digs 160 = .ok (.iconst 2, 1) := by decide +kernel
theorem dX12_digs_161 : decode cX12_digs 161 = .ok (.iadd, 1) := by decide +kernel
theorem dX12_digs_162 : decode cX12_digs 162 = .ok (.iaload, 1) := by decide +kernel
theorem dX12_digs_163 : decode cX12_digs 163 = .ok (.iadd, 1) := by decide +kernel
theorem dX12_digs_164 : decode cX12_digs 164 = .ok (.dup2, 1) := by decide +kernel
theorem dX12_digs_165 : decode cX12_digs 165 = .ok (.iaload, 1) := by decide +kernel
theorem dX12_digs_166 : decode cX12_digs 166 = .ok (.iload_n 3, 1) := by decide +kernel
theorem dX12_digs_167 : decode cX12_digs 167 = .ok (.iadd, 1) := by decide +kernel
theorem dX12_digs_168 : decode cX12_digs 168 = .ok (.iastore, 1) := by decide +kernel
def o_r_dig_b1 (s : rs_S) (k c l : Nat) (x : Int32) : Option Value × rs_S := (if 0 ≤ ((s.2.1) (49 + c)) then (none, (s.1, upd (s.2.1) (49 + l) ((((s.2.1) (49 + l)) + (x))), s.2.2)) else (none, (s.1, upd (upd (s.2.1) (49 + c) (nI (0))) (49 + l) ((((upd (s.2.1) (49 + c) (nI (0))) (49 + l)) + (((x) + ((s.2.1) (49 + c)))))), s.2.2)))
set_option maxHeartbeats 2000000 in
theorem r_dig_b1 {Γ : jg_G} {g : Nat → jg_C} {n r : Nat} (hr : r + 11 ≤ n) (s : rs_S) (k c l : Nat) (x : Int32) (hk : k < 22000) (hc : c < 24) (hlt : l < 24) (hl : s.2.1 (k + 2) = nI l) (hkc : k + 2 ≠ 49 + c) (Q : jg_Q) (hq : Q (.inl (o_r_dig_b1 s k c l x).1) (rs_h g r (o_r_dig_b1 s k c l x).2, n)) : jg Γ mX12_digs 0 0 0 89 [some (.ref (r)), some (.int (nI (k))), some (.int (nI (c))), some (.int (x))] [] (rs_h g r s, n) Q := by
  refine jg_aload_n dX12_digs_89 rfl ?_
  refine rs_ga fl_X12_13 dX12_digs_90 hr rfl ?_
  refine jn_bipush (k := 49) dX12_digs_93 (by decide) ?_
  refine jg_iload_n dX12_digs_95 rfl ?_
  refine jn_iadd (x := 49) (y := c) dX12_digs_96  ?_
  refine rs_lw (i := 49 + c) dX12_digs_97 hr (by omega) ?_
  refine jg_if_ge (x := ((s.2.1) (49 + c))) (tgt := 123) dX12_digs_98 (by decide) (fun c_1 => ?_) (fun c_1 => ?_)
  · skip
    refine jg_aload_n dX12_digs_123 rfl ?_
    refine rs_ga fl_X12_13 dX12_digs_124 hr rfl ?_
    refine jg_iload_n dX12_digs_127 rfl ?_
    refine jn_iconst (k := 2) dX12_digs_128 (by decide) ?_
    refine jn_iadd (x := k) (y := 2) dX12_digs_129  ?_
    refine rs_lwN (i := k + 2) (x := (nI (l))) (by first | exact hl | (simp only [upd]; rw [if_neg (by omega)]; exact hl)) dX12_digs_130 hr (by omega) ?_
    refine jg_if_ge (x := (nI (l))) (tgt := 149) dX12_digs_131 (by decide) (fun _ => ?_) (fun q9 => absurd (nI_pos' (by omega)) q9)
    refine jg_aload_n dX12_digs_149 rfl ?_
    refine rs_ga fl_X12_13 dX12_digs_150 hr rfl ?_
    refine jn_bipush (k := 49) dX12_digs_153 (by decide) ?_
    refine jg_aload_n dX12_digs_155 rfl ?_
    refine rs_ga fl_X12_13 dX12_digs_156 hr rfl ?_
    refine jg_iload_n dX12_digs_159 rfl ?_
    refine jn_iconst (k := 2) dX12_digs_160 (by decide) ?_
    refine jn_iadd (x := k) (y := 2) dX12_digs_161  ?_
    refine rs_lwN (i := k + 2) (x := (nI (l))) (by first | exact hl | (simp only [upd]; rw [if_neg (by omega)]; exact hl)) dX12_digs_162 hr (by omega) ?_
    refine jn_iadd (x := 49) (y := l) dX12_digs_163  ?_
    refine jg_dup2 dX12_digs_164 rfl rfl ?_
    refine rs_lw (i := 49 + l) dX12_digs_165 hr (by omega) ?_
    refine jg_iload_n dX12_digs_166 rfl ?_
    refine jg_iadd (x := ((s.2.1) (49 + l))) (y := (x)) dX12_digs_167  ?_
    refine rs_sw (i := 49 + l) (x := ((((s.2.1) (49 + l)) + (x)))) dX12_digs_168 hr (by omega) ?_
    exact jg_return dX12_digs_169 rfl (by simp only [o_r_dig_b1, if_pos c_1] at hq; exact hq)
  · skip
    refine jg_iload_n dX12_digs_101 rfl ?_
    refine jg_aload_n dX12_digs_102 rfl ?_
    refine rs_ga fl_X12_13 dX12_digs_103 hr rfl ?_
    refine jn_bipush (k := 49) dX12_digs_106 (by decide) ?_
    refine jg_iload_n dX12_digs_108 rfl ?_
    refine jn_iadd (x := 49) (y := c) dX12_digs_109  ?_
    refine rs_lw (i := 49 + c) dX12_digs_110 hr (by omega) ?_
    refine jg_iadd (x := (x)) (y := ((s.2.1) (49 + c))) dX12_digs_111  ?_
    refine jg_istore_n (L' := [some (.ref (r)), some (.int (nI (k))), some (.int (nI (c))), some (.int (((x) + ((s.2.1) (49 + c)))))]) dX12_digs_112 (by decide) rfl ?_
    refine jg_aload_n dX12_digs_113 rfl ?_
    refine rs_ga fl_X12_13 dX12_digs_114 hr rfl ?_
    refine jn_bipush (k := 49) dX12_digs_117 (by decide) ?_
    refine jg_iload_n dX12_digs_119 rfl ?_
    refine jn_iadd (x := 49) (y := c) dX12_digs_120  ?_
    refine jn_iconst (k := 0) dX12_digs_121 (by decide) ?_
    refine rs_sw (i := 49 + c) (x := (nI (0))) dX12_digs_122 hr (by omega) ?_
    refine jg_aload_n dX12_digs_123 rfl ?_
    refine rs_ga fl_X12_13 dX12_digs_124 hr rfl ?_
    refine jg_iload_n dX12_digs_127 rfl ?_
    refine jn_iconst (k := 2) dX12_digs_128 (by decide) ?_
    refine jn_iadd (x := k) (y := 2) dX12_digs_129  ?_
    refine rs_lwN (i := k + 2) (x := (nI (l))) (by first | exact hl | (simp only [upd]; rw [if_neg (by omega)]; exact hl)) dX12_digs_130 hr (by omega) ?_
    refine jg_if_ge (x := (nI (l))) (tgt := 149) dX12_digs_131 (by decide) (fun _ => ?_) (fun q9 => absurd (nI_pos' (by omega)) q9)
    refine jg_aload_n dX12_digs_149 rfl ?_
    refine rs_ga fl_X12_13 dX12_digs_150 hr rfl ?_
    refine jn_bipush (k := 49) dX12_digs_153 (by decide) ?_
    refine jg_aload_n dX12_digs_155 rfl ?_
    refine rs_ga fl_X12_13 dX12_digs_156 hr rfl ?_
    refine jg_iload_n dX12_digs_159 rfl ?_
    refine jn_iconst (k := 2) dX12_digs_160 (by decide) ?_
    refine jn_iadd (x := k) (y := 2) dX12_digs_161  ?_
    refine rs_lwN (i := k + 2) (x := (nI (l))) (by first | exact hl | (simp only [upd]; rw [if_neg (by omega)]; exact hl)) dX12_digs_162 hr (by omega) ?_
    refine jn_iadd (x := 49) (y := l) dX12_digs_163  ?_
    refine jg_dup2 dX12_digs_164 rfl rfl ?_
    refine rs_lw (i := 49 + l) dX12_digs_165 hr (by omega) ?_
    refine jg_iload_n dX12_digs_166 rfl ?_
    refine jg_iadd (x := ((upd (s.2.1) (49 + c) (nI (0))) (49 + l))) (y := (((x) + ((s.2.1) (49 + c))))) dX12_digs_167  ?_
    refine rs_sw (i := 49 + l) (x := ((((upd (s.2.1) (49 + c) (nI (0))) (49 + l)) + (((x) + ((s.2.1) (49 + c))))))) dX12_digs_168 hr (by omega) ?_
    exact jg_return dX12_digs_169 rfl (by simp only [o_r_dig_b1, if_neg c_1] at hq; exact hq)
theorem dX12_digs_34 : decode cX12_digs 34 = .ok (.aload_n 0, 1) := by decide +kernel
theorem dX12_digs_35 : decode cX12_digs 35 = .ok (.getfield 13, 3) := by decide +kernel
theorem dX12_digs_38 : decode cX12_digs 38 = .ok (.bipush 49, 2) := by decide +kernel
theorem dX12_digs_40 : decode cX12_digs 40 = .ok (.iload_n 2, 1) := by decide +kernel
theorem dX12_digs_41 : decode cX12_digs 41 = .ok (.iadd, 1) := by decide +kernel
theorem dX12_digs_42 : decode cX12_digs 42 = .ok (.iaload, 1) := by decide +kernel
theorem dX12_digs_43 : decode cX12_digs 43 = .ok (.ifCond .ge 46, 3) := by decide +kernel
theorem dX12_digs_46 : decode cX12_digs 46 = .ok (.aload_n 0, 1) := by decide +kernel
theorem dX12_digs_47 : decode cX12_digs 47 = .ok (.getfield 13, 3) := by decide +kernel
theorem dX12_digs_50 : decode cX12_digs 50 = .ok (.iconst 1, 1) := by decide +kernel
theorem dX12_digs_51 : decode cX12_digs 51 = .ok (.iload_n 2, 1) := by decide +kernel
theorem dX12_digs_52 : decode cX12_digs 52 = .ok (.iadd, 1) := by decide +kernel
theorem dX12_digs_53 : decode cX12_digs 53 = .ok (.iaload, 1) := by decide +kernel
theorem dX12_digs_54 : decode cX12_digs 54 = .ok (.sipush 200, 3) := by decide +kernel
theorem dX12_digs_57 : decode cX12_digs 57 = .ok (.if_icmp .ge 32, 3) := by decide +kernel
theorem dX12_digs_60 : decode cX12_digs 60 = .ok (.aload_n 0, 1) := by decide +kernel
theorem dX12_digs_61 : decode cX12_digs 61 = .ok (.getfield 13, 3) := by decide +kernel
theorem dX12_digs_64 : decode cX12_digs 64 = .ok (.iconst 1, 1) := by decide +kernel
theorem dX12_digs_65 : decode cX12_digs 65 = .ok (.iload_n 2, 1) := by decide +kernel
theorem dX12_digs_66 : decode cX12_digs 66 = .ok (.iadd, 1) := by decide +kernel
theorem dX12_digs_67 : decode cX12_digs 67 = .ok (.dup2, 1) := by decide +kernel
theorem dX12_digs_68 : decode cX12_digs 68 = .ok (.iaload, 1) := by decide +kernel
theorem dX12_digs_69 : decode cX12_digs 69 = .ok (.iconst 1, 1) := by decide +kernel
theorem dX12_digs_70 : decode cX12_digs 70 = .ok (.iadd, 1) := by decide +kernel
theorem dX12_digs_71 : decode cX12_digs 71 = .ok (.iastore, 1) := by decide +kernel
theorem dX12_digs_72 : decode cX12_digs 72 = .ok (.aload_n 0, 1) := by decide +kernel
theorem dX12_digs_73 : decode cX12_digs 73 = .ok (.getfield 13, 3) := by decide +kernel
theorem dX12_digs_76 : decode cX12_digs 76 = .ok (.bipush 49, 2) := by decide +kernel
theorem dX12_digs_78 : decode cX12_digs 78 = .ok (.iload_n 2, 1) := by decide +kernel
theorem dX12_digs_79 : decode cX12_digs 79 = .ok (.iadd, 1) := by decide +kernel
theorem dX12_digs_80 : decode cX12_digs 80 = .ok (.dup2, 1) := by decide +kernel
theorem dX12_digs_81 : decode cX12_digs 81 = .ok (.iaload, 1) := by decide +kernel
theorem dX12_digs_82 : decode cX12_digs 82 = .ok (.bipush 50, 2) := by decide +kernel
theorem dX12_digs_84 : decode cX12_digs 84 = .ok (.iadd, 1) := by decide +kernel
theorem dX12_digs_85 : decode cX12_digs 85 = .ok (.iastore, 1) := by decide +kernel
theorem dX12_digs_86 : decode cX12_digs 86 = .ok (.goto (-52), 3) := by decide +kernel
theorem upd_bed {w : Nat → Int32} {c : Nat} {x y : Int32} (h : 1 + c ≠ 49 + c) : upd (upd w (1 + c) x) (49 + c) y (1 + c) = x := by rw [pk_un h, pk_us]
set_option maxHeartbeats 2000000 in
theorem r_digs_l {Γ : jg_G} {g : Nat → jg_C} {n r : Nat} (hr : r + 11 ≤ n) (s : rs_S) (k c : Nat) (x : Int32) (hc : c < 24) (Q : jg_Q) : ∀ (m : Nat) (w : Nat → Int32), m ≤ 200 → w (1 + c) = nI (200 - m) → jg Γ mX12_digs 0 0 0 89 [some (.ref (r)), some (.int (nI (k))), some (.int (nI (c))), some (.int (x))] [] (rs_h g r (s.1, ra_dgl c m w, s.2.2), n) Q → jg Γ mX12_digs 0 0 0 34 [some (.ref (r)), some (.int (nI (k))), some (.int (nI (c))), some (.int (x))] [] (rs_h g r (s.1, w, s.2.2), n) Q := by
  intro m
  induction m with
  | zero =>
    intro w hm hb hq
    refine jg_aload_n dX12_digs_34 rfl ?_
    refine rs_ga fl_X12_13 dX12_digs_35 hr rfl ?_
    refine jn_bipush (k := 49) dX12_digs_38 (by decide) ?_
    refine jg_iload_n dX12_digs_40 rfl ?_
    refine jn_iadd (x := 49) (y := c) dX12_digs_41  ?_
    refine rs_lw (i := 49 + c) dX12_digs_42 hr (by omega) ?_
    refine jg_if_ge (x := ((w) (49 + c))) (tgt := 89) dX12_digs_43 (by decide) (fun c_1 => ?_) (fun c_1 => ?_)
    · skip
      exact hq
    · skip
      refine jg_aload_n dX12_digs_46 rfl ?_
      refine rs_ga fl_X12_13 dX12_digs_47 hr rfl ?_
      refine jn_iconst (k := 1) dX12_digs_50 (by decide) ?_
      refine jg_iload_n dX12_digs_51 rfl ?_
      refine jn_iadd (x := 1) (y := c) dX12_digs_52  ?_
      refine rs_lwN (i := 1 + c) (x := (nI (200))) (hb) dX12_digs_53 hr (by omega) ?_
      refine jn_sipush (k := 200) dX12_digs_54 (by decide) ?_
      refine jn_icmp_ge (x := 200) (y := 200) (tgt := 89) dX12_digs_57 (by decide) (by omega) (by omega) (fun _ => ?_) (fun q9 => absurd q9 (by decide))
      exact hq
  | succ m ih =>
    intro w hm hb hq
    rw [show 200 - (m + 1) = 199 - m by omega] at hb
    replace ih := fun w9 h9 k9 => ih w9 (by omega) h9 k9
    refine jg_aload_n dX12_digs_34 rfl ?_
    refine rs_ga fl_X12_13 dX12_digs_35 hr rfl ?_
    refine jn_bipush (k := 49) dX12_digs_38 (by decide) ?_
    refine jg_iload_n dX12_digs_40 rfl ?_
    refine jn_iadd (x := 49) (y := c) dX12_digs_41  ?_
    refine rs_lw (i := 49 + c) dX12_digs_42 hr (by omega) ?_
    refine jg_if_ge (x := ((w) (49 + c))) (tgt := 89) dX12_digs_43 (by decide) (fun c_1 => ?_) (fun c_1 => ?_)
    · skip
      simp only [ra_dgl, if_neg (Int32.not_lt.mpr c_1)] at hq; exact hq
    · skip
      refine jg_aload_n dX12_digs_46 rfl ?_
      refine rs_ga fl_X12_13 dX12_digs_47 hr rfl ?_
      refine jn_iconst (k := 1) dX12_digs_50 (by decide) ?_
      refine jg_iload_n dX12_digs_51 rfl ?_
      refine jn_iadd (x := 1) (y := c) dX12_digs_52  ?_
      refine rs_lwN (i := 1 + c) (x := (nI (199 - m))) (hb) dX12_digs_53 hr (by omega) ?_
      refine jn_sipush (k := 200) dX12_digs_54 (by decide) ?_
      refine jn_icmp_ge (x := 199 - m) (y := 200) (tgt := 89) dX12_digs_57 (by decide) (by omega) (by omega) (fun c_2 => ?_) (fun c_2 => ?_)
      · skip
        exact absurd c_2 (by omega)
      · skip
        refine jg_aload_n dX12_digs_60 rfl ?_
        refine rs_ga fl_X12_13 dX12_digs_61 hr rfl ?_
        refine jn_iconst (k := 1) dX12_digs_64 (by decide) ?_
        refine jg_iload_n dX12_digs_65 rfl ?_
        refine jn_iadd (x := 1) (y := c) dX12_digs_66  ?_
        refine jg_dup2 dX12_digs_67 rfl rfl ?_
        refine rs_lw (i := 1 + c) dX12_digs_68 hr (by omega) ?_
        refine jn_iconst (k := 1) dX12_digs_69 (by decide) ?_
        refine jg_iadd (x := ((w) (1 + c))) (y := (nI (1))) dX12_digs_70  ?_
        refine rs_sw (i := 1 + c) (x := ((((w) (1 + c)) + (nI (1))))) dX12_digs_71 hr (by omega) ?_
        refine jg_aload_n dX12_digs_72 rfl ?_
        refine rs_ga fl_X12_13 dX12_digs_73 hr rfl ?_
        refine jn_bipush (k := 49) dX12_digs_76 (by decide) ?_
        refine jg_iload_n dX12_digs_78 rfl ?_
        refine jn_iadd (x := 49) (y := c) dX12_digs_79  ?_
        refine jg_dup2 dX12_digs_80 rfl rfl ?_
        refine rs_lw (i := 49 + c) dX12_digs_81 hr (by omega) ?_
        refine jn_bipush (k := 50) dX12_digs_82 (by decide) ?_
        refine jg_iadd (x := ((upd (w) (1 + c) ((((w) (1 + c)) + (nI (1))))) (49 + c))) (y := (nI (50))) dX12_digs_84  ?_
        refine rs_sw (i := 49 + c) (x := ((((upd (w) (1 + c) ((((w) (1 + c)) + (nI (1))))) (49 + c)) + (nI (50))))) dX12_digs_85 hr (by omega) ?_
        refine jg_goto (tgt := 34) dX12_digs_86 (by decide) ?_
        refine ih _ ?_ ?_
        · rw [upd_bed (by omega), hb, nI_add]; exact congrArg nI (by omega)
        · simp only [ra_dgl, if_pos (Int32.not_le.mp c_1)] at hq; exact hq
theorem ra_dgl_ne {c : Nat} : ∀ (m : Nat) (w : Nat → Int32) (j : Nat), j ≠ 1 + c → j ≠ 49 + c → ra_dgl c m w j = w j
  | 0, w, j, _, _ => rfl
  | m + 1, w, j, h1, h2 => by
    unfold ra_dgl
    split
    · rw [ra_dgl_ne m _ j h1 h2, pk_un h2, pk_un h1]
    · rfl
def sz (w : Nat → Int32) : rs_S := ((fun _ => 0), w, (fun _ _ => 0))
/-- one dredger -/
def ra_dig (w : Nat → Int32) (k : Nat) : Nat → Int32 :=
  if w (k + 1) < 0 then w else if w (k + 2) < 0 then (o_r_dig_b0 (sz (ra_dgl (wn w (k + 1)) (200 - wn w (1 + wn w (k + 1))) (upd w (49 + wn w (k + 1)) (w (49 + wn w (k + 1)) - w k)))) k (wn w (k + 1)) (w k)).2.2.1
  else (o_r_dig_b1 (sz (ra_dgl (wn w (k + 1)) (200 - wn w (1 + wn w (k + 1))) (upd w (49 + wn w (k + 1)) (w (49 + wn w (k + 1)) - w k)))) k (wn w (k + 1)) (wn w (k + 2)) (w k)).2.2.1
theorem o_b0 (s : rs_S) (k c : Nat) (x : Int32) : o_r_dig_b0 s k c x = (none, (s.1, (o_r_dig_b0 (sz s.2.1) k c x).2.2.1, s.2.2)) := by
  unfold o_r_dig_b0 sz
  dsimp only
  split <;> rfl
theorem o_b1 (s : rs_S) (k c l : Nat) (x : Int32) : o_r_dig_b1 s k c l x = (none, (s.1, (o_r_dig_b1 (sz s.2.1) k c l x).2.2.1, s.2.2)) := by
  unfold o_r_dig_b1 sz
  dsimp only
  split <;> rfl
/-- a cell's number, or none -/
def wc (w : Nat → Int32) (i : Nat) : Prop := w i = -1 ∨ wb w i 23

theorem dX12_digs_0 : decode cX12_digs 0 = .ok (.aload_n 0, 1) := by decide +kernel
theorem dX12_digs_1 : decode cX12_digs 1 = .ok (.getfield 13, 3) := by decide +kernel
theorem dX12_digs_4 : decode cX12_digs 4 = .ok (.iload_n 1, 1) := by decide +kernel
theorem dX12_digs_5 : decode cX12_digs 5 = .ok (.iconst 1, 1) := by decide +kernel
theorem dX12_digs_6 : decode cX12_digs 6 = .ok (.iadd, 1) := by decide +kernel
theorem dX12_digs_7 : decode cX12_digs 7 = .ok (.iaload, 1) := by decide +kernel
theorem dX12_digs_8 : decode cX12_digs 8 = .ok (.istore_n 2, 1) := by decide +kernel
theorem dX12_digs_9 : decode cX12_digs 9 = .ok (.iload_n 2, 1) := by decide +kernel
theorem dX12_digs_10 : decode cX12_digs 10 = .ok (.ifCond .ge 4, 3) := by decide +kernel
theorem dX12_digs_13 : decode cX12_digs 13 = .ok (.return_, 1) := by decide +kernel
theorem dX12_digs_14 : decode cX12_digs 14 = .ok (.aload_n 0, 1) := by decide +kernel
theorem dX12_digs_15 : decode cX12_digs 15 = .ok (.getfield 13, 3) := by decide +kernel
theorem dX12_digs_18 : decode cX12_digs 18 = .ok (.iload_n 1, 1) := by decide +kernel
theorem dX12_digs_19 : decode cX12_digs 19 = .ok (.iaload, 1) := by decide +kernel
theorem dX12_digs_20 : decode cX12_digs 20 = .ok (.istore_n 3, 1) := by decide +kernel
theorem dX12_digs_21 : decode cX12_digs 21 = .ok (.aload_n 0, 1) := by decide +kernel
theorem dX12_digs_22 : decode cX12_digs 22 = .ok (.getfield 13, 3) := by decide +kernel
theorem dX12_digs_25 : decode cX12_digs 25 = .ok (.bipush 49, 2) := by decide +kernel
theorem dX12_digs_27 : decode cX12_digs 27 = .ok (.iload_n 2, 1) := by decide +kernel
theorem dX12_digs_28 : decode cX12_digs 28 = .ok (.iadd, 1) := by decide +kernel
theorem dX12_digs_29 : decode cX12_digs 29 = .ok (.dup2, 1) := by decide +kernel
theorem dX12_digs_30 : decode cX12_digs 30 = .ok (.iaload, 1) := by decide +kernel
theorem dX12_digs_31 : decode cX12_digs 31 = .ok (.iload_n 3, 1) := by decide +kernel
theorem dX12_digs_32 : decode cX12_digs 32 = .ok (.isub, 1) := by decide +kernel
theorem dX12_digs_33 : decode cX12_digs 33 = .ok (.iastore, 1) := by decide +kernel
set_option maxHeartbeats 2000000 in
theorem r_digs {Γ : jg_G} {g : Nat → jg_C} {n r : Nat} (hr : r + 11 ≤ n) (s : rs_S) (k : Nat) (hk : 179 < k) (hk2 : k < 198) (hp : wc s.2.1 (k + 1)) (hl : wc s.2.1 (k + 2)) (hbed : ∀ c, c < 24 → wb s.2.1 (1 + c) 200) : jc Γ mX12_digs 0 0 0 [some (.ref (r)), some (.int (nI (k))), none, none] (rs_h g r s, n) (.inl none) (rs_h g r (s.1, ra_dig s.2.1 k, s.2.2), n) := by
  refine jc_of ?_
  rcases hp with hw | hw
  · skip
    refine jg_aload_n dX12_digs_0 rfl ?_
    refine rs_ga fl_X12_13 dX12_digs_1 hr rfl ?_
    refine jg_iload_n dX12_digs_4 rfl ?_
    refine jn_iconst (k := 1) dX12_digs_5 (by decide) ?_
    refine jn_iadd (x := k) (y := 1) dX12_digs_6  ?_
    refine rs_lwN (i := k + 1) (x := (-1)) (hw) dX12_digs_7 hr (by omega) ?_
    refine jg_istore_n (L' := [some (.ref (r)), some (.int (nI (k))), some (.int (-1)), none]) dX12_digs_8 (by decide) rfl ?_
    refine jg_iload_n dX12_digs_9 rfl ?_
    refine jg_if_ge (x := (-1)) (tgt := 14) dX12_digs_10 (by decide) (fun q9 => absurd q9 (by decide)) (fun _ => ?_)
    exact jg_return dX12_digs_13 rfl ⟨rfl, by simp only [ra_dig, hw]; rfl⟩
  · have hw2 := hw.2
    have hneg : ¬ s.2.1 (k + 1) < 0 := by rw [hw.1]; exact nI_pos (by omega)
    replace hbed := hbed (wn s.2.1 (k + 1)) (by omega)
    refine jg_aload_n dX12_digs_0 rfl ?_
    refine rs_ga fl_X12_13 dX12_digs_1 hr rfl ?_
    refine jg_iload_n dX12_digs_4 rfl ?_
    refine jn_iconst (k := 1) dX12_digs_5 (by decide) ?_
    refine jn_iadd (x := k) (y := 1) dX12_digs_6  ?_
    refine rs_lwN (i := k + 1) (x := (nI (wn s.2.1 (k + 1)))) (hw.1) dX12_digs_7 hr (by omega) ?_
    refine jg_istore_n (L' := [some (.ref (r)), some (.int (nI (k))), some (.int (nI (wn s.2.1 (k + 1)))), none]) dX12_digs_8 (by decide) rfl ?_
    refine jg_iload_n dX12_digs_9 rfl ?_
    refine jg_if_ge (x := (nI (wn s.2.1 (k + 1)))) (tgt := 14) dX12_digs_10 (by decide) (fun _ => ?_) (fun q9 => absurd (nI_pos' (by omega)) q9)
    refine jg_aload_n dX12_digs_14 rfl ?_
    refine rs_ga fl_X12_13 dX12_digs_15 hr rfl ?_
    refine jg_iload_n dX12_digs_18 rfl ?_
    refine rs_lw (i := k) dX12_digs_19 hr (by omega) ?_
    refine jg_istore_n (L' := [some (.ref (r)), some (.int (nI (k))), some (.int (nI (wn s.2.1 (k + 1)))), some (.int ((s.2.1) (k)))]) dX12_digs_20 (by decide) rfl ?_
    refine jg_aload_n dX12_digs_21 rfl ?_
    refine rs_ga fl_X12_13 dX12_digs_22 hr rfl ?_
    refine jn_bipush (k := 49) dX12_digs_25 (by decide) ?_
    refine jg_iload_n dX12_digs_27 rfl ?_
    refine jn_iadd (x := 49) (y := wn s.2.1 (k + 1)) dX12_digs_28  ?_
    refine jg_dup2 dX12_digs_29 rfl rfl ?_
    refine rs_lw (i := 49 + wn s.2.1 (k + 1)) dX12_digs_30 hr (by omega) ?_
    refine jg_iload_n dX12_digs_31 rfl ?_
    refine jg_isub (x := ((s.2.1) (49 + wn s.2.1 (k + 1)))) (y := ((s.2.1) (k))) dX12_digs_32  ?_
    refine rs_sw (i := 49 + wn s.2.1 (k + 1)) (x := ((((s.2.1) (49 + wn s.2.1 (k + 1))) - ((s.2.1) (k))))) dX12_digs_33 hr (by omega) ?_
    have hm : wn s.2.1 (1 + wn s.2.1 (k + 1)) ≤ 200 := hbed.2
    refine r_digs_l hr s k (wn s.2.1 (k + 1)) (s.2.1 k) (by omega) _ (200 - wn s.2.1 (1 + wn s.2.1 (k + 1))) _ (by omega) (by rw [pk_un (by omega), hbed.1]; exact congrArg nI (by omega)) ?_
    rcases hl with hl | hl
    · refine r_dig_b0 hr (s.1, _, s.2.2) k (wn s.2.1 (k + 1)) (s.2.1 k) (by omega) (by omega) (by dsimp only; rw [ra_dgl_ne _ _ _ (by omega) (by omega), pk_un (by omega)]; exact hl) (by omega) _ ?_
      rw [o_b0]
      refine ⟨rfl, ?_⟩
      simp only [ra_dig]
      rw [if_neg hneg, if_pos (by rw [hl]; decide)]
    · refine r_dig_b1 hr (s.1, _, s.2.2) k (wn s.2.1 (k + 1)) (wn s.2.1 (k + 2)) (s.2.1 k) (by omega) (by omega) (by have := hl.2; omega) (by dsimp only; rw [ra_dgl_ne _ _ _ (by omega) (by omega), pk_un (by omega)]; exact hl.1) (by omega) _ ?_
      rw [o_b1]
      refine ⟨rfl, ?_⟩
      simp only [ra_dig]
      rw [if_neg hneg, if_neg (by rw [hl.1]; exact nI_pos (by have := hl.2; omega))]
