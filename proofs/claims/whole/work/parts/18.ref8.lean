/-! THE REFERENCE: unloading, silt, dredgers, the day's end (by program wip/whole/ref8.py) -/
/-- fewer locals are known -/
def jg_le : List (Option Value) → List (Option Value) → Prop
  | [], _ => True
  | none :: l, _ :: m => jg_le l m
  | some v :: l, some w :: m => v = w ∧ jg_le l m
  | _, _ => False
theorem jg_le_at : ∀ {l m : List (Option Value)}, jg_le l m → ∀ (i : Nat) (v : Value), l[i]? = some (some v) → m[i]? = some (some v)
  | [], _, _, i, v, h => by simp at h
  | none :: l, x :: m, hl, i, v, h => by
    cases i with
    | zero => simp at h
    | succ i => simpa using jg_le_at (l := l) (m := m) hl i v (by simpa using h)
  | some u :: l, some w :: m, hl, i, v, h => by
    obtain ⟨rfl, hl⟩ := hl
    cases i with
    | zero => simpa using h
    | succ i => simpa using jg_le_at (l := l) (m := m) hl i v (by simpa using h)
  | none :: l, [], hl, i, v, h => by simp [jg_le] at hl
  | some u :: l, [], hl, i, v, h => by simp [jg_le] at hl
  | some u :: l, none :: m, hl, i, v, h => by simp [jg_le] at hl
theorem jg_fg {Γ : jg_G} {M : jg_Md} {d a b pc : Nat} {L L' : List (Option Value)} {S : List Value} {h : jg_H} {Q : jg_Q} (hl : jg_le L' L) (k : jg Γ M d a b pc L' S h Q) : jg Γ M d a b pc L S h Q := by
  intro p e R s m args below meth c H ls locs cells slots mc ms hE h1 h2 h3 h4 hf hz hR hL
  exact k p e R s m args below meth c H ls locs cells slots mc ms hE h1 h2 h3 h4 hf hz hR ⟨hL.1, hL.2.1, fun i v hv => hL.2.2 i v (jg_le_at hl i v hv)⟩
/-- one below, -1 below 0 -/
def cm (m : Nat) : Int32 := match m with
  | 0 => -1
  | k + 1 => nI k
theorem cm_dec (k : Nat) : nI k + Int32.ofInt (-1) = cm k := by
  cases k with
  | zero => decide
  | succ j => exact pk_m1 j
/-- silt: what is carried and the world behind a cells from above -/
def ra_silt (c0 : Int32) (w0 : Nat → Int32) : Nat → Int32 × (Nat → Int32)
  | 0 => (c0, w0)
  | a + 1 => (((ra_silt c0 w0 a).1) - ((((ra_silt c0 w0 a).1) * (if ((nI (5)) + (if (nI (0)) < (((ra_silt c0 w0 a).2 (1 + (23 - a))) - ((ra_silt c0 w0 a).2 (25 + (23 - a)))) then (((ra_silt c0 w0 a).2 (1 + (23 - a))) - ((ra_silt c0 w0 a).2 (25 + (23 - a)))) else (nI (0)))) < (nI (60)) then ((nI (5)) + (if (nI (0)) < (((ra_silt c0 w0 a).2 (1 + (23 - a))) - ((ra_silt c0 w0 a).2 (25 + (23 - a)))) then (((ra_silt c0 w0 a).2 (1 + (23 - a))) - ((ra_silt c0 w0 a).2 (25 + (23 - a)))) else (nI (0)))) else (nI (60)))) / (nI (100))),
    upd (ra_silt c0 w0 a).2 (49 + (23 - a)) (((ra_silt c0 w0 a).2 (49 + (23 - a))) + ((((ra_silt c0 w0 a).1) * (if ((nI (5)) + (if (nI (0)) < (((ra_silt c0 w0 a).2 (1 + (23 - a))) - ((ra_silt c0 w0 a).2 (25 + (23 - a)))) then (((ra_silt c0 w0 a).2 (1 + (23 - a))) - ((ra_silt c0 w0 a).2 (25 + (23 - a)))) else (nI (0)))) < (nI (60)) then ((nI (5)) + (if (nI (0)) < (((ra_silt c0 w0 a).2 (1 + (23 - a))) - ((ra_silt c0 w0 a).2 (25 + (23 - a)))) then (((ra_silt c0 w0 a).2 (1 + (23 - a))) - ((ra_silt c0 w0 a).2 (25 + (23 - a)))) else (nI (0)))) else (nI (60)))) / (nI (100)))))

theorem dX12_unloads_0 : decode cX12_unloads 0 = .ok (.aload_n 0, 1) := by decide +kernel
theorem dX12_unloads_1 : decode cX12_unloads 1 = .ok (.iload_n 1, 1) := by decide +kernel
theorem dX12_unloads_2 : decode cX12_unloads 2 = .ok (.bipush 10, 2) := by decide +kernel
theorem dX12_unloads_4 : decode cX12_unloads 4 = .ok (.invokevirtual 137, 3) := by decide +kernel
theorem dX12_unloads_7 : decode cX12_unloads 7 = .ok (.istore_n 2, 1) := by decide +kernel
theorem dX12_unloads_8 : decode cX12_unloads 8 = .ok (.aload_n 0, 1) := by decide +kernel
theorem dX12_unloads_9 : decode cX12_unloads 9 = .ok (.iload_n 2, 1) := by decide +kernel
theorem dX12_unloads_10 : decode cX12_unloads 10 = .ok (.iconst 2, 1) := by decide +kernel
theorem dX12_unloads_11 : decode cX12_unloads 11 = .ok (.invokevirtual 140, 3) := by decide +kernel
theorem dX12_unloads_14 : decode cX12_unloads 14 = .ok (.aload_n 0, 1) := by decide +kernel
theorem dX12_unloads_15 : decode cX12_unloads 15 = .ok (.iload_n 1, 1) := by decide +kernel
theorem dX12_unloads_16 : decode cX12_unloads 16 = .ok (.bipush 11, 2) := by decide +kernel
theorem dX12_unloads_18 : decode cX12_unloads 18 = .ok (.invokevirtual 137, 3) := by decide +kernel
theorem dX12_unloads_21 : decode cX12_unloads 21 = .ok (.invokestatic 91, 3) := by decide +kernel
theorem dX12_unloads_24 : decode cX12_unloads 24 = .ok (.istore_n 3, 1) := by decide +kernel
theorem dX12_unloads_25 : decode cX12_unloads 25 = .ok (.aload_n 0, 1) := by decide +kernel
theorem dX12_unloads_26 : decode cX12_unloads 26 = .ok (.iload_n 1, 1) := by decide +kernel
theorem dX12_unloads_27 : decode cX12_unloads 27 = .ok (.bipush 11, 2) := by decide +kernel
theorem dX12_unloads_29 : decode cX12_unloads 29 = .ok (.aload_n 0, 1) := by decide +kernel
theorem dX12_unloads_30 : decode cX12_unloads 30 = .ok (.iload_n 1, 1) := by decide +kernel
theorem dX12_unloads_31 : decode cX12_unloads 31 = .ok (.bipush 11, 2) := by decide +kernel
theorem dX12_unloads_33 : decode cX12_unloads 33 = .ok (.invokevirtual 137, 3) := by decide +kernel
theorem dX12_unloads_36 : decode cX12_unloads 36 = .ok (.iload_n 3, 1) := by decide +kernel
theorem dX12_unloads_37 : decode cX12_unloads 37 = .ok (.isub, 1) := by decide +kernel
theorem dX12_unloads_38 : decode cX12_unloads 38 = .ok (.invokevirtual 111, 3) := by decide +kernel
theorem dX12_unloads_41 : decode cX12_unloads 41 = .ok (.aload_n 0, 1) := by decide +kernel
theorem dX12_unloads_42 : decode cX12_unloads 42 = .ok (.getfield 13, 3) := by decide +kernel
theorem dX12_unloads_45 : decode cX12_unloads 45 = .ok (.iload_n 2, 1) := by decide +kernel
theorem dX12_unloads_46 : decode cX12_unloads 46 = .ok (.iconst 4, 1) := by decide +kernel
theorem dX12_unloads_47 : decode cX12_unloads 47 = .ok (.invokestatic 100, 3) := by decide +kernel
theorem dX12_unloads_50 : decode cX12_unloads 50 = .ok (.dup2, 1) := by decide +kernel
theorem dX12_unloads_51 : decode cX12_unloads 51 = .ok (.iaload, 1) := by decide +kernel
theorem dX12_unloads_52 : decode cX12_unloads 52 = .ok (.iload_n 3, 1) := by decide +kernel
theorem dX12_unloads_53 : decode cX12_unloads 53 = .ok (.iadd, 1) := by decide +kernel
theorem dX12_unloads_54 : decode cX12_unloads 54 = .ok (.iastore, 1) := by decide +kernel
theorem dX12_unloads_55 : decode cX12_unloads 55 = .ok (.aload_n 0, 1) := by decide +kernel
theorem dX12_unloads_56 : decode cX12_unloads 56 = .ok (.getfield 13, 3) := by decide +kernel
theorem dX12_unloads_59 : decode cX12_unloads 59 = .ok (.iload_n 2, 1) := by decide +kernel
theorem dX12_unloads_60 : decode cX12_unloads 60 = .ok (.bipush 7, 2) := by decide +kernel
theorem dX12_unloads_62 : decode cX12_unloads 62 = .ok (.invokestatic 100, 3) := by decide +kernel
theorem dX12_unloads_65 : decode cX12_unloads 65 = .ok (.dup2, 1) := by decide +kernel
theorem dX12_unloads_66 : decode cX12_unloads 66 = .ok (.iaload, 1) := by decide +kernel
theorem dX12_unloads_67 : decode cX12_unloads 67 = .ok (.iload_n 3, 1) := by decide +kernel
theorem dX12_unloads_68 : decode cX12_unloads 68 = .ok (.iadd, 1) := by decide +kernel
theorem dX12_unloads_69 : decode cX12_unloads 69 = .ok (.iastore, 1) := by decide +kernel
theorem dX12_unloads_70 : decode cX12_unloads 70 = .ok (.aload_n 0, 1) := by decide +kernel
theorem dX12_unloads_71 : decode cX12_unloads 71 = .ok (.iload_n 1, 1) := by decide +kernel
theorem dX12_unloads_72 : decode cX12_unloads 72 = .ok (.bipush 11, 2) := by decide +kernel
theorem dX12_unloads_74 : decode cX12_unloads 74 = .ok (.invokevirtual 137, 3) := by decide +kernel
theorem dX12_unloads_77 : decode cX12_unloads 77 = .ok (.ifCond .ne 11, 3) := by decide +kernel
theorem dX12_unloads_80 : decode cX12_unloads 80 = .ok (.aload_n 0, 1) := by decide +kernel
theorem dX12_unloads_81 : decode cX12_unloads 81 = .ok (.iload_n 1, 1) := by decide +kernel
theorem dX12_unloads_82 : decode cX12_unloads 82 = .ok (.bipush 9, 2) := by decide +kernel
theorem dX12_unloads_84 : decode cX12_unloads 84 = .ok (.iconst 3, 1) := by decide +kernel
theorem dX12_unloads_85 : decode cX12_unloads 85 = .ok (.invokevirtual 111, 3) := by decide +kernel
theorem dX12_unloads_88 : decode cX12_unloads 88 = .ok (.return_, 1) := by decide +kernel
def o_r_unloads (s : rs_S) (k b : Nat) : Option Value × rs_S := (if ((upd (upd (upd (s.2.1) (1212 + (18) * (k) + 11) ((((s.2.1) (1212 + (18) * (k) + 11)) - ((if ((s.2.1) (1212 + (18) * (k) + 11)) < ((s.2.1) (1000 + (8) * (b) + 2)) then ((s.2.1) (1212 + (18) * (k) + 11)) else ((s.2.1) (1000 + (8) * (b) + 2))))))) (1000 + (8) * (b) + 4) ((((upd (s.2.1) (1212 + (18) * (k) + 11) ((((s.2.1) (1212 + (18) * (k) + 11)) - ((if ((s.2.1) (1212 + (18) * (k) + 11)) < ((s.2.1) (1000 + (8) * (b) + 2)) then ((s.2.1) (1212 + (18) * (k) + 11)) else ((s.2.1) (1000 + (8) * (b) + 2))))))) (1000 + (8) * (b) + 4)) + ((if ((s.2.1) (1212 + (18) * (k) + 11)) < ((s.2.1) (1000 + (8) * (b) + 2)) then ((s.2.1) (1212 + (18) * (k) + 11)) else ((s.2.1) (1000 + (8) * (b) + 2))))))) (1000 + (8) * (b) + 7) ((((upd (upd (s.2.1) (1212 + (18) * (k) + 11) ((((s.2.1) (1212 + (18) * (k) + 11)) - ((if ((s.2.1) (1212 + (18) * (k) + 11)) < ((s.2.1) (1000 + (8) * (b) + 2)) then ((s.2.1) (1212 + (18) * (k) + 11)) else ((s.2.1) (1000 + (8) * (b) + 2))))))) (1000 + (8) * (b) + 4) ((((upd (s.2.1) (1212 + (18) * (k) + 11) ((((s.2.1) (1212 + (18) * (k) + 11)) - ((if ((s.2.1) (1212 + (18) * (k) + 11)) < ((s.2.1) (1000 + (8) * (b) + 2)) then ((s.2.1) (1212 + (18) * (k) + 11)) else ((s.2.1) (1000 + (8) * (b) + 2))))))) (1000 + (8) * (b) + 4)) + ((if ((s.2.1) (1212 + (18) * (k) + 11)) < ((s.2.1) (1000 + (8) * (b) + 2)) then ((s.2.1) (1212 + (18) * (k) + 11)) else ((s.2.1) (1000 + (8) * (b) + 2))))))) (1000 + (8) * (b) + 7)) + ((if ((s.2.1) (1212 + (18) * (k) + 11)) < ((s.2.1) (1000 + (8) * (b) + 2)) then ((s.2.1) (1212 + (18) * (k) + 11)) else ((s.2.1) (1000 + (8) * (b) + 2))))))) (1212 + (18) * (k) + 11)) = 0 then (none, (s.1, upd (upd (upd (upd (s.2.1) (1212 + (18) * (k) + 11) ((((s.2.1) (1212 + (18) * (k) + 11)) - ((if ((s.2.1) (1212 + (18) * (k) + 11)) < ((s.2.1) (1000 + (8) * (b) + 2)) then ((s.2.1) (1212 + (18) * (k) + 11)) else ((s.2.1) (1000 + (8) * (b) + 2))))))) (1000 + (8) * (b) + 4) ((((upd (s.2.1) (1212 + (18) * (k) + 11) ((((s.2.1) (1212 + (18) * (k) + 11)) - ((if ((s.2.1) (1212 + (18) * (k) + 11)) < ((s.2.1) (1000 + (8) * (b) + 2)) then ((s.2.1) (1212 + (18) * (k) + 11)) else ((s.2.1) (1000 + (8) * (b) + 2))))))) (1000 + (8) * (b) + 4)) + ((if ((s.2.1) (1212 + (18) * (k) + 11)) < ((s.2.1) (1000 + (8) * (b) + 2)) then ((s.2.1) (1212 + (18) * (k) + 11)) else ((s.2.1) (1000 + (8) * (b) + 2))))))) (1000 + (8) * (b) + 7) ((((upd (upd (s.2.1) (1212 + (18) * (k) + 11) ((((s.2.1) (1212 + (18) * (k) + 11)) - ((if ((s.2.1) (1212 + (18) * (k) + 11)) < ((s.2.1) (1000 + (8) * (b) + 2)) then ((s.2.1) (1212 + (18) * (k) + 11)) else ((s.2.1) (1000 + (8) * (b) + 2))))))) (1000 + (8) * (b) + 4) ((((upd (s.2.1) (1212 + (18) * (k) + 11) ((((s.2.1) (1212 + (18) * (k) + 11)) - ((if ((s.2.1) (1212 + (18) * (k) + 11)) < ((s.2.1) (1000 + (8) * (b) + 2)) then ((s.2.1) (1212 + (18) * (k) + 11)) else ((s.2.1) (1000 + (8) * (b) + 2))))))) (1000 + (8) * (b) + 4)) + ((if ((s.2.1) (1212 + (18) * (k) + 11)) < ((s.2.1) (1000 + (8) * (b) + 2)) then ((s.2.1) (1212 + (18) * (k) + 11)) else ((s.2.1) (1000 + (8) * (b) + 2))))))) (1000 + (8) * (b) + 7)) + ((if ((s.2.1) (1212 + (18) * (k) + 11)) < ((s.2.1) (1000 + (8) * (b) + 2)) then ((s.2.1) (1212 + (18) * (k) + 11)) else ((s.2.1) (1000 + (8) * (b) + 2))))))) (1212 + (18) * (k) + 9) (nI (3)), s.2.2)) else (none, (s.1, upd (upd (upd (s.2.1) (1212 + (18) * (k) + 11) ((((s.2.1) (1212 + (18) * (k) + 11)) - ((if ((s.2.1) (1212 + (18) * (k) + 11)) < ((s.2.1) (1000 + (8) * (b) + 2)) then ((s.2.1) (1212 + (18) * (k) + 11)) else ((s.2.1) (1000 + (8) * (b) + 2))))))) (1000 + (8) * (b) + 4) ((((upd (s.2.1) (1212 + (18) * (k) + 11) ((((s.2.1) (1212 + (18) * (k) + 11)) - ((if ((s.2.1) (1212 + (18) * (k) + 11)) < ((s.2.1) (1000 + (8) * (b) + 2)) then ((s.2.1) (1212 + (18) * (k) + 11)) else ((s.2.1) (1000 + (8) * (b) + 2))))))) (1000 + (8) * (b) + 4)) + ((if ((s.2.1) (1212 + (18) * (k) + 11)) < ((s.2.1) (1000 + (8) * (b) + 2)) then ((s.2.1) (1212 + (18) * (k) + 11)) else ((s.2.1) (1000 + (8) * (b) + 2))))))) (1000 + (8) * (b) + 7) ((((upd (upd (s.2.1) (1212 + (18) * (k) + 11) ((((s.2.1) (1212 + (18) * (k) + 11)) - ((if ((s.2.1) (1212 + (18) * (k) + 11)) < ((s.2.1) (1000 + (8) * (b) + 2)) then ((s.2.1) (1212 + (18) * (k) + 11)) else ((s.2.1) (1000 + (8) * (b) + 2))))))) (1000 + (8) * (b) + 4) ((((upd (s.2.1) (1212 + (18) * (k) + 11) ((((s.2.1) (1212 + (18) * (k) + 11)) - ((if ((s.2.1) (1212 + (18) * (k) + 11)) < ((s.2.1) (1000 + (8) * (b) + 2)) then ((s.2.1) (1212 + (18) * (k) + 11)) else ((s.2.1) (1000 + (8) * (b) + 2))))))) (1000 + (8) * (b) + 4)) + ((if ((s.2.1) (1212 + (18) * (k) + 11)) < ((s.2.1) (1000 + (8) * (b) + 2)) then ((s.2.1) (1212 + (18) * (k) + 11)) else ((s.2.1) (1000 + (8) * (b) + 2))))))) (1000 + (8) * (b) + 7)) + ((if ((s.2.1) (1212 + (18) * (k) + 11)) < ((s.2.1) (1000 + (8) * (b) + 2)) then ((s.2.1) (1212 + (18) * (k) + 11)) else ((s.2.1) (1000 + (8) * (b) + 2)))))), s.2.2)))
set_option maxHeartbeats 2000000 in
theorem r_unloads {Γ : jg_G} {g : Nat → jg_C} {n r : Nat} (hr : r + 11 ≤ n) (s : rs_S) (k b : Nat) (hx : s.2.1 (1212 + (18) * (k) + 10) = nI b) (hk : k < 80) (hb : b < 10) : jc Γ mX12_unloads 2 0 0 [some (.ref (r)), some (.int (nI (k))), none, none] (rs_h g r s, n) (.inl (o_r_unloads s k b).1) (rs_h g r (o_r_unloads s k b).2, n) := by
  refine jc_of ?_
  refine jg_aload_n dX12_unloads_0 rfl ?_
  refine jg_iload_n dX12_unloads_1 rfl ?_
  refine jn_bipush (k := 10) dX12_unloads_2 (by decide) ?_
  refine rs_call (As := [.int (nI (k)), .int (nI (10))]) kv_X12_137 dX12_unloads_4 hr rfl rfl (by decide) (Nat.le_of_ble_eq_true rfl) rfl (by decide) (Nat.le_of_ble_eq_true rfl) (r_of hr s (k) (10) (nI (b)) (hx) (by omega)) ?_
  refine jg_istore_n (L' := [some (.ref (r)), some (.int (nI (k))), some (.int (nI (b))), none]) dX12_unloads_7 (by decide) rfl ?_
  refine jg_aload_n dX12_unloads_8 rfl ?_
  refine jg_iload_n dX12_unloads_9 rfl ?_
  refine jn_iconst (k := 2) dX12_unloads_10 (by decide) ?_
  refine rs_call (As := [.int (nI (b)), .int (nI (2))]) kv_X12_140 dX12_unloads_11 hr rfl rfl (by decide) (Nat.le_of_ble_eq_true rfl) rfl (by decide) (Nat.le_of_ble_eq_true rfl) (r_berthOf hr s (b) (2) ((s.2.1) (1000 + (8) * (b) + 2)) (rfl) (by omega)) ?_
  refine jg_aload_n dX12_unloads_14 rfl ?_
  refine jg_iload_n dX12_unloads_15 rfl ?_
  refine jn_bipush (k := 11) dX12_unloads_16 (by decide) ?_
  refine rs_call (As := [.int (nI (k)), .int (nI (11))]) kv_X12_137 dX12_unloads_18 hr rfl rfl (by decide) (Nat.le_of_ble_eq_true rfl) rfl (by decide) (Nat.le_of_ble_eq_true rfl) (r_of hr s (k) (11) ((s.2.1) (1212 + (18) * (k) + 11)) (rfl) (by omega)) ?_
  refine jg_mmin (x := ((s.2.1) (1000 + (8) * (b) + 2))) (y := ((s.2.1) (1212 + (18) * (k) + 11))) km_X12_91 jw_min.1 jw_min.2 dX12_unloads_21 (by decide) (Nat.le_of_ble_eq_true rfl) ?_
  refine jg_istore_n (L' := [some (.ref (r)), some (.int (nI (k))), some (.int (nI (b))), some (.int ((if ((s.2.1) (1212 + (18) * (k) + 11)) < ((s.2.1) (1000 + (8) * (b) + 2)) then ((s.2.1) (1212 + (18) * (k) + 11)) else ((s.2.1) (1000 + (8) * (b) + 2)))))]) dX12_unloads_24 (by decide) rfl ?_
  refine jg_aload_n dX12_unloads_25 rfl ?_
  refine jg_iload_n dX12_unloads_26 rfl ?_
  refine jn_bipush (k := 11) dX12_unloads_27 (by decide) ?_
  refine jg_aload_n dX12_unloads_29 rfl ?_
  refine jg_iload_n dX12_unloads_30 rfl ?_
  refine jn_bipush (k := 11) dX12_unloads_31 (by decide) ?_
  refine rs_call (As := [.int (nI (k)), .int (nI (11))]) kv_X12_137 dX12_unloads_33 hr rfl rfl (by decide) (Nat.le_of_ble_eq_true rfl) rfl (by decide) (Nat.le_of_ble_eq_true rfl) (r_of hr s (k) (11) ((s.2.1) (1212 + (18) * (k) + 11)) (rfl) (by omega)) ?_
  refine jg_iload_n dX12_unloads_36 rfl ?_
  refine jg_isub (x := ((s.2.1) (1212 + (18) * (k) + 11))) (y := ((if ((s.2.1) (1212 + (18) * (k) + 11)) < ((s.2.1) (1000 + (8) * (b) + 2)) then ((s.2.1) (1212 + (18) * (k) + 11)) else ((s.2.1) (1000 + (8) * (b) + 2))))) dX12_unloads_37  ?_
  refine rs_call (As := [.int (nI (k)), .int (nI (11)), .int ((((s.2.1) (1212 + (18) * (k) + 11)) - ((if ((s.2.1) (1212 + (18) * (k) + 11)) < ((s.2.1) (1000 + (8) * (b) + 2)) then ((s.2.1) (1212 + (18) * (k) + 11)) else ((s.2.1) (1000 + (8) * (b) + 2))))))]) kv_X12_111 dX12_unloads_38 hr rfl rfl (by decide) (Nat.le_of_ble_eq_true rfl) rfl (by decide) (Nat.le_of_ble_eq_true rfl) (r_sets hr s (k) (11) ((((s.2.1) (1212 + (18) * (k) + 11)) - ((if ((s.2.1) (1212 + (18) * (k) + 11)) < ((s.2.1) (1000 + (8) * (b) + 2)) then ((s.2.1) (1212 + (18) * (k) + 11)) else ((s.2.1) (1000 + (8) * (b) + 2)))))) (by omega)) ?_
  refine jg_aload_n dX12_unloads_41 rfl ?_
  refine rs_ga fl_X12_13 dX12_unloads_42 hr rfl ?_
  refine jg_iload_n dX12_unloads_45 rfl ?_
  refine jn_iconst (k := 4) dX12_unloads_46 (by decide) ?_
  refine rs_callS (As := [.int (nI (b)), .int (nI (4))]) ks_X12_100 dX12_unloads_47 rfl (by decide) (Nat.le_of_ble_eq_true rfl) rfl (by decide) (Nat.le_of_ble_eq_true rfl) (r_berthAt (b) (4)) ?_
  refine jg_dup2 dX12_unloads_50 rfl rfl ?_
  refine rs_lw (i := 1000 + (8) * (b) + 4) dX12_unloads_51 hr (by omega) ?_
  refine jg_iload_n dX12_unloads_52 rfl ?_
  refine jg_iadd (x := ((upd (s.2.1) (1212 + (18) * (k) + 11) ((((s.2.1) (1212 + (18) * (k) + 11)) - ((if ((s.2.1) (1212 + (18) * (k) + 11)) < ((s.2.1) (1000 + (8) * (b) + 2)) then ((s.2.1) (1212 + (18) * (k) + 11)) else ((s.2.1) (1000 + (8) * (b) + 2))))))) (1000 + (8) * (b) + 4))) (y := ((if ((s.2.1) (1212 + (18) * (k) + 11)) < ((s.2.1) (1000 + (8) * (b) + 2)) then ((s.2.1) (1212 + (18) * (k) + 11)) else ((s.2.1) (1000 + (8) * (b) + 2))))) dX12_unloads_53  ?_
  refine rs_sw (i := 1000 + (8) * (b) + 4) (x := ((((upd (s.2.1) (1212 + (18) * (k) + 11) ((((s.2.1) (1212 + (18) * (k) + 11)) - ((if ((s.2.1) (1212 + (18) * (k) + 11)) < ((s.2.1) (1000 + (8) * (b) + 2)) then ((s.2.1) (1212 + (18) * (k) + 11)) else ((s.2.1) (1000 + (8) * (b) + 2))))))) (1000 + (8) * (b) + 4)) + ((if ((s.2.1) (1212 + (18) * (k) + 11)) < ((s.2.1) (1000 + (8) * (b) + 2)) then ((s.2.1) (1212 + (18) * (k) + 11)) else ((s.2.1) (1000 + (8) * (b) + 2))))))) dX12_unloads_54 hr (by omega) ?_
  refine jg_aload_n dX12_unloads_55 rfl ?_
  refine rs_ga fl_X12_13 dX12_unloads_56 hr rfl ?_
  refine jg_iload_n dX12_unloads_59 rfl ?_
  refine jn_bipush (k := 7) dX12_unloads_60 (by decide) ?_
  refine rs_callS (As := [.int (nI (b)), .int (nI (7))]) ks_X12_100 dX12_unloads_62 rfl (by decide) (Nat.le_of_ble_eq_true rfl) rfl (by decide) (Nat.le_of_ble_eq_true rfl) (r_berthAt (b) (7)) ?_
  refine jg_dup2 dX12_unloads_65 rfl rfl ?_
  refine rs_lw (i := 1000 + (8) * (b) + 7) dX12_unloads_66 hr (by omega) ?_
  refine jg_iload_n dX12_unloads_67 rfl ?_
  refine jg_iadd (x := ((upd (upd (s.2.1) (1212 + (18) * (k) + 11) ((((s.2.1) (1212 + (18) * (k) + 11)) - ((if ((s.2.1) (1212 + (18) * (k) + 11)) < ((s.2.1) (1000 + (8) * (b) + 2)) then ((s.2.1) (1212 + (18) * (k) + 11)) else ((s.2.1) (1000 + (8) * (b) + 2))))))) (1000 + (8) * (b) + 4) ((((upd (s.2.1) (1212 + (18) * (k) + 11) ((((s.2.1) (1212 + (18) * (k) + 11)) - ((if ((s.2.1) (1212 + (18) * (k) + 11)) < ((s.2.1) (1000 + (8) * (b) + 2)) then ((s.2.1) (1212 + (18) * (k) + 11)) else ((s.2.1) (1000 + (8) * (b) + 2))))))) (1000 + (8) * (b) + 4)) + ((if ((s.2.1) (1212 + (18) * (k) + 11)) < ((s.2.1) (1000 + (8) * (b) + 2)) then ((s.2.1) (1212 + (18) * (k) + 11)) else ((s.2.1) (1000 + (8) * (b) + 2))))))) (1000 + (8) * (b) + 7))) (y := ((if ((s.2.1) (1212 + (18) * (k) + 11)) < ((s.2.1) (1000 + (8) * (b) + 2)) then ((s.2.1) (1212 + (18) * (k) + 11)) else ((s.2.1) (1000 + (8) * (b) + 2))))) dX12_unloads_68  ?_
  refine rs_sw (i := 1000 + (8) * (b) + 7) (x := ((((upd (upd (s.2.1) (1212 + (18) * (k) + 11) ((((s.2.1) (1212 + (18) * (k) + 11)) - ((if ((s.2.1) (1212 + (18) * (k) + 11)) < ((s.2.1) (1000 + (8) * (b) + 2)) then ((s.2.1) (1212 + (18) * (k) + 11)) else ((s.2.1) (1000 + (8) * (b) + 2))))))) (1000 + (8) * (b) + 4) ((((upd (s.2.1) (1212 + (18) * (k) + 11) ((((s.2.1) (1212 + (18) * (k) + 11)) - ((if ((s.2.1) (1212 + (18) * (k) + 11)) < ((s.2.1) (1000 + (8) * (b) + 2)) then ((s.2.1) (1212 + (18) * (k) + 11)) else ((s.2.1) (1000 + (8) * (b) + 2))))))) (1000 + (8) * (b) + 4)) + ((if ((s.2.1) (1212 + (18) * (k) + 11)) < ((s.2.1) (1000 + (8) * (b) + 2)) then ((s.2.1) (1212 + (18) * (k) + 11)) else ((s.2.1) (1000 + (8) * (b) + 2))))))) (1000 + (8) * (b) + 7)) + ((if ((s.2.1) (1212 + (18) * (k) + 11)) < ((s.2.1) (1000 + (8) * (b) + 2)) then ((s.2.1) (1212 + (18) * (k) + 11)) else ((s.2.1) (1000 + (8) * (b) + 2))))))) dX12_unloads_69 hr (by omega) ?_
  refine jg_aload_n dX12_unloads_70 rfl ?_
  refine jg_iload_n dX12_unloads_71 rfl ?_
  refine jn_bipush (k := 11) dX12_unloads_72 (by decide) ?_
  refine rs_call (As := [.int (nI (k)), .int (nI (11))]) kv_X12_137 dX12_unloads_74 hr rfl rfl (by decide) (Nat.le_of_ble_eq_true rfl) rfl (by decide) (Nat.le_of_ble_eq_true rfl) (r_of hr (s.1, upd (upd (upd (s.2.1) (1212 + (18) * (k) + 11) ((((s.2.1) (1212 + (18) * (k) + 11)) - ((if ((s.2.1) (1212 + (18) * (k) + 11)) < ((s.2.1) (1000 + (8) * (b) + 2)) then ((s.2.1) (1212 + (18) * (k) + 11)) else ((s.2.1) (1000 + (8) * (b) + 2))))))) (1000 + (8) * (b) + 4) ((((upd (s.2.1) (1212 + (18) * (k) + 11) ((((s.2.1) (1212 + (18) * (k) + 11)) - ((if ((s.2.1) (1212 + (18) * (k) + 11)) < ((s.2.1) (1000 + (8) * (b) + 2)) then ((s.2.1) (1212 + (18) * (k) + 11)) else ((s.2.1) (1000 + (8) * (b) + 2))))))) (1000 + (8) * (b) + 4)) + ((if ((s.2.1) (1212 + (18) * (k) + 11)) < ((s.2.1) (1000 + (8) * (b) + 2)) then ((s.2.1) (1212 + (18) * (k) + 11)) else ((s.2.1) (1000 + (8) * (b) + 2))))))) (1000 + (8) * (b) + 7) ((((upd (upd (s.2.1) (1212 + (18) * (k) + 11) ((((s.2.1) (1212 + (18) * (k) + 11)) - ((if ((s.2.1) (1212 + (18) * (k) + 11)) < ((s.2.1) (1000 + (8) * (b) + 2)) then ((s.2.1) (1212 + (18) * (k) + 11)) else ((s.2.1) (1000 + (8) * (b) + 2))))))) (1000 + (8) * (b) + 4) ((((upd (s.2.1) (1212 + (18) * (k) + 11) ((((s.2.1) (1212 + (18) * (k) + 11)) - ((if ((s.2.1) (1212 + (18) * (k) + 11)) < ((s.2.1) (1000 + (8) * (b) + 2)) then ((s.2.1) (1212 + (18) * (k) + 11)) else ((s.2.1) (1000 + (8) * (b) + 2))))))) (1000 + (8) * (b) + 4)) + ((if ((s.2.1) (1212 + (18) * (k) + 11)) < ((s.2.1) (1000 + (8) * (b) + 2)) then ((s.2.1) (1212 + (18) * (k) + 11)) else ((s.2.1) (1000 + (8) * (b) + 2))))))) (1000 + (8) * (b) + 7)) + ((if ((s.2.1) (1212 + (18) * (k) + 11)) < ((s.2.1) (1000 + (8) * (b) + 2)) then ((s.2.1) (1212 + (18) * (k) + 11)) else ((s.2.1) (1000 + (8) * (b) + 2)))))), s.2.2) (k) (11) ((upd (upd (upd (s.2.1) (1212 + (18) * (k) + 11) ((((s.2.1) (1212 + (18) * (k) + 11)) - ((if ((s.2.1) (1212 + (18) * (k) + 11)) < ((s.2.1) (1000 + (8) * (b) + 2)) then ((s.2.1) (1212 + (18) * (k) + 11)) else ((s.2.1) (1000 + (8) * (b) + 2))))))) (1000 + (8) * (b) + 4) ((((upd (s.2.1) (1212 + (18) * (k) + 11) ((((s.2.1) (1212 + (18) * (k) + 11)) - ((if ((s.2.1) (1212 + (18) * (k) + 11)) < ((s.2.1) (1000 + (8) * (b) + 2)) then ((s.2.1) (1212 + (18) * (k) + 11)) else ((s.2.1) (1000 + (8) * (b) + 2))))))) (1000 + (8) * (b) + 4)) + ((if ((s.2.1) (1212 + (18) * (k) + 11)) < ((s.2.1) (1000 + (8) * (b) + 2)) then ((s.2.1) (1212 + (18) * (k) + 11)) else ((s.2.1) (1000 + (8) * (b) + 2))))))) (1000 + (8) * (b) + 7) ((((upd (upd (s.2.1) (1212 + (18) * (k) + 11) ((((s.2.1) (1212 + (18) * (k) + 11)) - ((if ((s.2.1) (1212 + (18) * (k) + 11)) < ((s.2.1) (1000 + (8) * (b) + 2)) then ((s.2.1) (1212 + (18) * (k) + 11)) else ((s.2.1) (1000 + (8) * (b) + 2))))))) (1000 + (8) * (b) + 4) ((((upd (s.2.1) (1212 + (18) * (k) + 11) ((((s.2.1) (1212 + (18) * (k) + 11)) - ((if ((s.2.1) (1212 + (18) * (k) + 11)) < ((s.2.1) (1000 + (8) * (b) + 2)) then ((s.2.1) (1212 + (18) * (k) + 11)) else ((s.2.1) (1000 + (8) * (b) + 2))))))) (1000 + (8) * (b) + 4)) + ((if ((s.2.1) (1212 + (18) * (k) + 11)) < ((s.2.1) (1000 + (8) * (b) + 2)) then ((s.2.1) (1212 + (18) * (k) + 11)) else ((s.2.1) (1000 + (8) * (b) + 2))))))) (1000 + (8) * (b) + 7)) + ((if ((s.2.1) (1212 + (18) * (k) + 11)) < ((s.2.1) (1000 + (8) * (b) + 2)) then ((s.2.1) (1212 + (18) * (k) + 11)) else ((s.2.1) (1000 + (8) * (b) + 2))))))) (1212 + (18) * (k) + 11)) (rfl) (by omega)) ?_
  refine jg_if_ne (x := ((upd (upd (upd (s.2.1) (1212 + (18) * (k) + 11) ((((s.2.1) (1212 + (18) * (k) + 11)) - ((if ((s.2.1) (1212 + (18) * (k) + 11)) < ((s.2.1) (1000 + (8) * (b) + 2)) then ((s.2.1) (1212 + (18) * (k) + 11)) else ((s.2.1) (1000 + (8) * (b) + 2))))))) (1000 + (8) * (b) + 4) ((((upd (s.2.1) (1212 + (18) * (k) + 11) ((((s.2.1) (1212 + (18) * (k) + 11)) - ((if ((s.2.1) (1212 + (18) * (k) + 11)) < ((s.2.1) (1000 + (8) * (b) + 2)) then ((s.2.1) (1212 + (18) * (k) + 11)) else ((s.2.1) (1000 + (8) * (b) + 2))))))) (1000 + (8) * (b) + 4)) + ((if ((s.2.1) (1212 + (18) * (k) + 11)) < ((s.2.1) (1000 + (8) * (b) + 2)) then ((s.2.1) (1212 + (18) * (k) + 11)) else ((s.2.1) (1000 + (8) * (b) + 2))))))) (1000 + (8) * (b) + 7) ((((upd (upd (s.2.1) (1212 + (18) * (k) + 11) ((((s.2.1) (1212 + (18) * (k) + 11)) - ((if ((s.2.1) (1212 + (18) * (k) + 11)) < ((s.2.1) (1000 + (8) * (b) + 2)) then ((s.2.1) (1212 + (18) * (k) + 11)) else ((s.2.1) (1000 + (8) * (b) + 2))))))) (1000 + (8) * (b) + 4) ((((upd (s.2.1) (1212 + (18) * (k) + 11) ((((s.2.1) (1212 + (18) * (k) + 11)) - ((if ((s.2.1) (1212 + (18) * (k) + 11)) < ((s.2.1) (1000 + (8) * (b) + 2)) then ((s.2.1) (1212 + (18) * (k) + 11)) else ((s.2.1) (1000 + (8) * (b) + 2))))))) (1000 + (8) * (b) + 4)) + ((if ((s.2.1) (1212 + (18) * (k) + 11)) < ((s.2.1) (1000 + (8) * (b) + 2)) then ((s.2.1) (1212 + (18) * (k) + 11)) else ((s.2.1) (1000 + (8) * (b) + 2))))))) (1000 + (8) * (b) + 7)) + ((if ((s.2.1) (1212 + (18) * (k) + 11)) < ((s.2.1) (1000 + (8) * (b) + 2)) then ((s.2.1) (1212 + (18) * (k) + 11)) else ((s.2.1) (1000 + (8) * (b) + 2))))))) (1212 + (18) * (k) + 11))) (tgt := 88) dX12_unloads_77 (by decide) (fun c_1 => ?_) (fun c_1 => ?_)
  · skip
    exact jg_return dX12_unloads_88 rfl ⟨by simp only [o_r_unloads, if_neg c_1], by simp only [o_r_unloads, if_neg c_1]⟩
  · skip
    refine jg_aload_n dX12_unloads_80 rfl ?_
    refine jg_iload_n dX12_unloads_81 rfl ?_
    refine jn_bipush (k := 9) dX12_unloads_82 (by decide) ?_
    refine jn_iconst (k := 3) dX12_unloads_84 (by decide) ?_
    refine rs_call (As := [.int (nI (k)), .int (nI (9)), .int (nI (3))]) kv_X12_111 dX12_unloads_85 hr rfl rfl (by decide) (Nat.le_of_ble_eq_true rfl) rfl (by decide) (Nat.le_of_ble_eq_true rfl) (r_sets hr (s.1, upd (upd (upd (s.2.1) (1212 + (18) * (k) + 11) ((((s.2.1) (1212 + (18) * (k) + 11)) - ((if ((s.2.1) (1212 + (18) * (k) + 11)) < ((s.2.1) (1000 + (8) * (b) + 2)) then ((s.2.1) (1212 + (18) * (k) + 11)) else ((s.2.1) (1000 + (8) * (b) + 2))))))) (1000 + (8) * (b) + 4) ((((upd (s.2.1) (1212 + (18) * (k) + 11) ((((s.2.1) (1212 + (18) * (k) + 11)) - ((if ((s.2.1) (1212 + (18) * (k) + 11)) < ((s.2.1) (1000 + (8) * (b) + 2)) then ((s.2.1) (1212 + (18) * (k) + 11)) else ((s.2.1) (1000 + (8) * (b) + 2))))))) (1000 + (8) * (b) + 4)) + ((if ((s.2.1) (1212 + (18) * (k) + 11)) < ((s.2.1) (1000 + (8) * (b) + 2)) then ((s.2.1) (1212 + (18) * (k) + 11)) else ((s.2.1) (1000 + (8) * (b) + 2))))))) (1000 + (8) * (b) + 7) ((((upd (upd (s.2.1) (1212 + (18) * (k) + 11) ((((s.2.1) (1212 + (18) * (k) + 11)) - ((if ((s.2.1) (1212 + (18) * (k) + 11)) < ((s.2.1) (1000 + (8) * (b) + 2)) then ((s.2.1) (1212 + (18) * (k) + 11)) else ((s.2.1) (1000 + (8) * (b) + 2))))))) (1000 + (8) * (b) + 4) ((((upd (s.2.1) (1212 + (18) * (k) + 11) ((((s.2.1) (1212 + (18) * (k) + 11)) - ((if ((s.2.1) (1212 + (18) * (k) + 11)) < ((s.2.1) (1000 + (8) * (b) + 2)) then ((s.2.1) (1212 + (18) * (k) + 11)) else ((s.2.1) (1000 + (8) * (b) + 2))))))) (1000 + (8) * (b) + 4)) + ((if ((s.2.1) (1212 + (18) * (k) + 11)) < ((s.2.1) (1000 + (8) * (b) + 2)) then ((s.2.1) (1212 + (18) * (k) + 11)) else ((s.2.1) (1000 + (8) * (b) + 2))))))) (1000 + (8) * (b) + 7)) + ((if ((s.2.1) (1212 + (18) * (k) + 11)) < ((s.2.1) (1000 + (8) * (b) + 2)) then ((s.2.1) (1212 + (18) * (k) + 11)) else ((s.2.1) (1000 + (8) * (b) + 2)))))), s.2.2) (k) (9) (nI (3)) (by omega)) ?_
    exact jg_return dX12_unloads_88 rfl ⟨by simp only [o_r_unloads, if_pos c_1], by simp only [o_r_unloads, if_pos c_1]⟩
theorem dX12_settles_26 : decode cX12_settles 26 = .ok (.iload_n 2, 1) := by decide +kernel
theorem dX12_settles_27 : decode cX12_settles 27 = .ok (.ifCond .lt 61, 3) := by decide +kernel
theorem dX12_settles_30 : decode cX12_settles 30 = .ok (.iload_n 1, 1) := by decide +kernel
theorem dX12_settles_31 : decode cX12_settles 31 = .ok (.bipush 60, 2) := by decide +kernel
theorem dX12_settles_33 : decode cX12_settles 33 = .ok (.iconst 5, 1) := by decide +kernel
theorem dX12_settles_34 : decode cX12_settles 34 = .ok (.iconst 0, 1) := by decide +kernel
theorem dX12_settles_35 : decode cX12_settles 35 = .ok (.aload_n 0, 1) := by decide +kernel
theorem dX12_settles_36 : decode cX12_settles 36 = .ok (.getfield 13, 3) := by decide +kernel
theorem dX12_settles_39 : decode cX12_settles 39 = .ok (.iconst 1, 1) := by decide +kernel
theorem dX12_settles_40 : decode cX12_settles 40 = .ok (.iload_n 2, 1) := by decide +kernel
theorem dX12_settles_41 : decode cX12_settles 41 = .ok (.iadd, 1) := by decide +kernel
theorem dX12_settles_42 : decode cX12_settles 42 = .ok (.iaload, 1) := by decide +kernel
theorem dX12_settles_43 : decode cX12_settles 43 = .ok (.aload_n 0, 1) := by decide +kernel
theorem dX12_settles_44 : decode cX12_settles 44 = .ok (.getfield 13, 3) := by decide +kernel
theorem dX12_settles_47 : decode cX12_settles 47 = .ok (.bipush 25, 2) := by decide +kernel
theorem dX12_settles_49 : decode cX12_settles 49 = .ok (.iload_n 2, 1) := by decide +kernel
theorem dX12_settles_50 : decode cX12_settles 50 = .ok (.iadd, 1) := by decide +kernel
theorem dX12_settles_51 : decode cX12_settles 51 = .ok (.iaload, 1) := by decide +kernel
theorem dX12_settles_52 : decode cX12_settles 52 = .ok (.isub, 1) := by decide +kernel
theorem dX12_settles_53 : decode cX12_settles 53 = .ok (.invokestatic 88, 3) := by decide +kernel
theorem dX12_settles_56 : decode cX12_settles 56 = .ok (.iadd, 1) := by decide +kernel
theorem dX12_settles_57 : decode cX12_settles 57 = .ok (.invokestatic 91, 3) := by decide +kernel
theorem dX12_settles_60 : decode cX12_settles 60 = .ok (.imul, 1) := by decide +kernel
theorem dX12_settles_61 : decode cX12_settles 61 = .ok (.bipush 100, 2) := by decide +kernel
theorem dX12_settles_63 : decode cX12_settles 63 = .ok (.idiv, 1) := by decide +kernel
theorem dX12_settles_64 : decode cX12_settles 64 = .ok (.istore_n 3, 1) := by decide +kernel
theorem dX12_settles_65 : decode cX12_settles 65 = .ok (.aload_n 0, 1) := by decide +kernel
theorem dX12_settles_66 : decode cX12_settles 66 = .ok (.getfield 13, 3) := by decide +kernel
theorem dX12_settles_69 : decode cX12_settles 69 = .ok (.bipush 49, 2) := by decide +kernel
theorem dX12_settles_71 : decode cX12_settles 71 = .ok (.iload_n 2, 1) := by decide +kernel
theorem dX12_settles_72 : decode cX12_settles 72 = .ok (.iadd, 1) := by decide +kernel
theorem dX12_settles_73 : decode cX12_settles 73 = .ok (.dup2, 1) := by decide +kernel
theorem dX12_settles_74 : decode cX12_settles 74 = .ok (.iaload, 1) := by decide +kernel
theorem dX12_settles_75 : decode cX12_settles 75 = .ok (.iload_n 3, 1) := by decide +kernel
theorem dX12_settles_76 : decode cX12_settles 76 = .ok (.iadd, 1) := by decide +kernel
theorem dX12_settles_77 : decode cX12_settles 77 = .ok (.iastore, 1) := by decide +kernel
theorem dX12_settles_78 : decode cX12_settles 78 = .ok (.iload_n 1, 1) := by decide +kernel
theorem dX12_settles_79 : decode cX12_settles 79 = .ok (.iload_n 3, 1) := by decide +kernel
theorem dX12_settles_80 : decode cX12_settles 80 = .ok (.isub, 1) := by decide +kernel
theorem dX12_settles_81 : decode cX12_settles 81 = .ok (.istore_n 1, 1) := by decide +kernel
theorem dX12_settles_82 : decode cX12_settles 82 = .ok (.iinc 2 (-1), 3) := by decide +kernel
theorem dX12_settles_85 : decode cX12_settles 85 = .ok (.goto (-59), 3) := by decide +kernel
theorem dX12_settles_88 : decode cX12_settles 88 = .ok (.aload_n 0, 1) := by decide +kernel
theorem dX12_settles_89 : decode cX12_settles 89 = .ok (.getfield 13, 3) := by decide +kernel
theorem dX12_settles_92 : decode cX12_settles 92 = .ok (.sipush 2657, 3) := by decide +kernel
theorem dX12_settles_95 : decode cX12_settles 95 = .ok (.dup2, 1) := by decide +kernel
theorem dX12_settles_96 : decode cX12_settles 96 = .ok (.iaload, 1) := by decide +kernel
theorem dX12_settles_97 : decode cX12_settles 97 = .ok (.iload_n 1, 1) := by decide +kernel
theorem dX12_settles_98 : decode cX12_settles 98 = .ok (.iadd, 1) := by decide +kernel
theorem dX12_settles_99 : decode cX12_settles 99 = .ok (.iastore, 1) := by decide +kernel
theorem dX12_settles_100 : decode cX12_settles 100 = .ok (.return_, 1) := by decide +kernel
set_option maxHeartbeats 2000000 in
theorem r_settles_l {Γ : jg_G} {g : Nat → jg_C} {n r : Nat} (hr : r + 11 ≤ n) (s : rs_S) (c0 : Int32) (w0 : Nat → Int32) : ∀ a, a ≤ 24 → jg Γ mX12_settles 2 0 0 26 [some (.ref (r)), some (.int ((ra_silt c0 w0 (a)).1)), some (.int (cm (24 - (a)))), none] [] (rs_h g r (s.1, (ra_silt c0 w0 (a)).2, s.2.2), n) (jq (.inl none) (rs_h g r (s.1, upd (ra_silt c0 w0 24).2 2657 ((ra_silt c0 w0 24).2 2657 + (ra_silt c0 w0 24).1), s.2.2), n)) := by
  refine jd_down (c := 24) (P := fun a => jg Γ mX12_settles 2 0 0 26 [some (.ref (r)), some (.int ((ra_silt c0 w0 (a)).1)), some (.int (cm (24 - (a)))), none] [] (rs_h g r (s.1, (ra_silt c0 w0 (a)).2, s.2.2), n) (jq (.inl none) (rs_h g r (s.1, upd (ra_silt c0 w0 24).2 2657 ((ra_silt c0 w0 24).2 2657 + (ra_silt c0 w0 24).1), s.2.2), n))) ?_
  intro a ha ih
  by_cases hlt : a < 24
  · rw [show cm (24 - a) = nI (23 - a) by rw [show 24 - a = (23 - a) + 1 by omega]; rfl]
    refine jg_iload_n dX12_settles_26 rfl ?_
    refine jg_if_lt (x := (nI (23 - a))) (tgt := 88) dX12_settles_27 (by decide) (fun q9 => absurd q9 (nI_pos (by omega))) (fun _ => ?_)
    refine jg_iload_n dX12_settles_30 rfl ?_
    refine jn_bipush (k := 60) dX12_settles_31 (by decide) ?_
    refine jn_iconst (k := 5) dX12_settles_33 (by decide) ?_
    refine jn_iconst (k := 0) dX12_settles_34 (by decide) ?_
    refine jg_aload_n dX12_settles_35 rfl ?_
    refine rs_ga fl_X12_13 dX12_settles_36 hr rfl ?_
    refine jn_iconst (k := 1) dX12_settles_39 (by decide) ?_
    refine jg_iload_n dX12_settles_40 rfl ?_
    refine jn_iadd (x := 1) (y := 23 - a) dX12_settles_41  ?_
    refine rs_lw (i := 1 + (23 - a)) dX12_settles_42 hr (by omega) ?_
    refine jg_aload_n dX12_settles_43 rfl ?_
    refine rs_ga fl_X12_13 dX12_settles_44 hr rfl ?_
    refine jn_bipush (k := 25) dX12_settles_47 (by decide) ?_
    refine jg_iload_n dX12_settles_49 rfl ?_
    refine jn_iadd (x := 25) (y := 23 - a) dX12_settles_50  ?_
    refine rs_lw (i := 25 + (23 - a)) dX12_settles_51 hr (by omega) ?_
    refine jg_isub (x := (((ra_silt c0 w0 (a)).2) (1 + (23 - a)))) (y := (((ra_silt c0 w0 (a)).2) (25 + (23 - a)))) dX12_settles_52  ?_
    refine jg_mmax (x := (nI (0))) (y := (((((ra_silt c0 w0 (a)).2) (1 + (23 - a))) - (((ra_silt c0 w0 (a)).2) (25 + (23 - a)))))) km_X12_88 jw_max.1 jw_max.2 dX12_settles_53 (by decide) (Nat.le_of_ble_eq_true rfl) ?_
    refine jg_iadd (x := (nI (5))) (y := ((if (nI (0)) < (((((ra_silt c0 w0 (a)).2) (1 + (23 - a))) - (((ra_silt c0 w0 (a)).2) (25 + (23 - a))))) then (((((ra_silt c0 w0 (a)).2) (1 + (23 - a))) - (((ra_silt c0 w0 (a)).2) (25 + (23 - a))))) else (nI (0))))) dX12_settles_56  ?_
    refine jg_mmin (x := (nI (60))) (y := (((nI (5)) + ((if (nI (0)) < (((((ra_silt c0 w0 (a)).2) (1 + (23 - a))) - (((ra_silt c0 w0 (a)).2) (25 + (23 - a))))) then (((((ra_silt c0 w0 (a)).2) (1 + (23 - a))) - (((ra_silt c0 w0 (a)).2) (25 + (23 - a))))) else (nI (0))))))) km_X12_91 jw_min.1 jw_min.2 dX12_settles_57 (by decide) (Nat.le_of_ble_eq_true rfl) ?_
    refine jg_imul (x := ((ra_silt c0 w0 (a)).1)) (y := ((if (((nI (5)) + ((if (nI (0)) < (((((ra_silt c0 w0 (a)).2) (1 + (23 - a))) - (((ra_silt c0 w0 (a)).2) (25 + (23 - a))))) then (((((ra_silt c0 w0 (a)).2) (1 + (23 - a))) - (((ra_silt c0 w0 (a)).2) (25 + (23 - a))))) else (nI (0)))))) < (nI (60)) then (((nI (5)) + ((if (nI (0)) < (((((ra_silt c0 w0 (a)).2) (1 + (23 - a))) - (((ra_silt c0 w0 (a)).2) (25 + (23 - a))))) then (((((ra_silt c0 w0 (a)).2) (1 + (23 - a))) - (((ra_silt c0 w0 (a)).2) (25 + (23 - a))))) else (nI (0)))))) else (nI (60))))) dX12_settles_60  ?_
    refine jn_bipush (k := 100) dX12_settles_61 (by decide) ?_
    refine jg_idiv (x := ((((ra_silt c0 w0 (a)).1) * ((if (((nI (5)) + ((if (nI (0)) < (((((ra_silt c0 w0 (a)).2) (1 + (23 - a))) - (((ra_silt c0 w0 (a)).2) (25 + (23 - a))))) then (((((ra_silt c0 w0 (a)).2) (1 + (23 - a))) - (((ra_silt c0 w0 (a)).2) (25 + (23 - a))))) else (nI (0)))))) < (nI (60)) then (((nI (5)) + ((if (nI (0)) < (((((ra_silt c0 w0 (a)).2) (1 + (23 - a))) - (((ra_silt c0 w0 (a)).2) (25 + (23 - a))))) then (((((ra_silt c0 w0 (a)).2) (1 + (23 - a))) - (((ra_silt c0 w0 (a)).2) (25 + (23 - a))))) else (nI (0)))))) else (nI (60))))))) (y := (nI (100))) dX12_settles_63 (by decide) ?_
    refine jg_istore_n (L' := [some (.ref (r)), some (.int ((ra_silt c0 w0 (a)).1)), some (.int (nI (23 - a))), some (.int ((((((ra_silt c0 w0 (a)).1) * ((if (((nI (5)) + ((if (nI (0)) < (((((ra_silt c0 w0 (a)).2) (1 + (23 - a))) - (((ra_silt c0 w0 (a)).2) (25 + (23 - a))))) then (((((ra_silt c0 w0 (a)).2) (1 + (23 - a))) - (((ra_silt c0 w0 (a)).2) (25 + (23 - a))))) else (nI (0)))))) < (nI (60)) then (((nI (5)) + ((if (nI (0)) < (((((ra_silt c0 w0 (a)).2) (1 + (23 - a))) - (((ra_silt c0 w0 (a)).2) (25 + (23 - a))))) then (((((ra_silt c0 w0 (a)).2) (1 + (23 - a))) - (((ra_silt c0 w0 (a)).2) (25 + (23 - a))))) else (nI (0)))))) else (nI (60)))))) / (nI (100)))))]) dX12_settles_64 (by decide) rfl ?_
    refine jg_aload_n dX12_settles_65 rfl ?_
    refine rs_ga fl_X12_13 dX12_settles_66 hr rfl ?_
    refine jn_bipush (k := 49) dX12_settles_69 (by decide) ?_
    refine jg_iload_n dX12_settles_71 rfl ?_
    refine jn_iadd (x := 49) (y := 23 - a) dX12_settles_72  ?_
    refine jg_dup2 dX12_settles_73 rfl rfl ?_
    refine rs_lw (i := 49 + (23 - a)) dX12_settles_74 hr (by omega) ?_
    refine jg_iload_n dX12_settles_75 rfl ?_
    refine jg_iadd (x := (((ra_silt c0 w0 (a)).2) (49 + (23 - a)))) (y := ((((((ra_silt c0 w0 (a)).1) * ((if (((nI (5)) + ((if (nI (0)) < (((((ra_silt c0 w0 (a)).2) (1 + (23 - a))) - (((ra_silt c0 w0 (a)).2) (25 + (23 - a))))) then (((((ra_silt c0 w0 (a)).2) (1 + (23 - a))) - (((ra_silt c0 w0 (a)).2) (25 + (23 - a))))) else (nI (0)))))) < (nI (60)) then (((nI (5)) + ((if (nI (0)) < (((((ra_silt c0 w0 (a)).2) (1 + (23 - a))) - (((ra_silt c0 w0 (a)).2) (25 + (23 - a))))) then (((((ra_silt c0 w0 (a)).2) (1 + (23 - a))) - (((ra_silt c0 w0 (a)).2) (25 + (23 - a))))) else (nI (0)))))) else (nI (60)))))) / (nI (100))))) dX12_settles_76  ?_
    refine rs_sw (i := 49 + (23 - a)) (x := (((((ra_silt c0 w0 (a)).2) (49 + (23 - a))) + ((((((ra_silt c0 w0 (a)).1) * ((if (((nI (5)) + ((if (nI (0)) < (((((ra_silt c0 w0 (a)).2) (1 + (23 - a))) - (((ra_silt c0 w0 (a)).2) (25 + (23 - a))))) then (((((ra_silt c0 w0 (a)).2) (1 + (23 - a))) - (((ra_silt c0 w0 (a)).2) (25 + (23 - a))))) else (nI (0)))))) < (nI (60)) then (((nI (5)) + ((if (nI (0)) < (((((ra_silt c0 w0 (a)).2) (1 + (23 - a))) - (((ra_silt c0 w0 (a)).2) (25 + (23 - a))))) then (((((ra_silt c0 w0 (a)).2) (1 + (23 - a))) - (((ra_silt c0 w0 (a)).2) (25 + (23 - a))))) else (nI (0)))))) else (nI (60)))))) / (nI (100))))))) dX12_settles_77 hr (by omega) ?_
    refine jg_iload_n dX12_settles_78 rfl ?_
    refine jg_iload_n dX12_settles_79 rfl ?_
    refine jg_isub (x := ((ra_silt c0 w0 (a)).1)) (y := ((((((ra_silt c0 w0 (a)).1) * ((if (((nI (5)) + ((if (nI (0)) < (((((ra_silt c0 w0 (a)).2) (1 + (23 - a))) - (((ra_silt c0 w0 (a)).2) (25 + (23 - a))))) then (((((ra_silt c0 w0 (a)).2) (1 + (23 - a))) - (((ra_silt c0 w0 (a)).2) (25 + (23 - a))))) else (nI (0)))))) < (nI (60)) then (((nI (5)) + ((if (nI (0)) < (((((ra_silt c0 w0 (a)).2) (1 + (23 - a))) - (((ra_silt c0 w0 (a)).2) (25 + (23 - a))))) then (((((ra_silt c0 w0 (a)).2) (1 + (23 - a))) - (((ra_silt c0 w0 (a)).2) (25 + (23 - a))))) else (nI (0)))))) else (nI (60)))))) / (nI (100))))) dX12_settles_80  ?_
    refine jg_istore_n (L' := [some (.ref (r)), some (.int ((((ra_silt c0 w0 (a)).1) - ((((((ra_silt c0 w0 (a)).1) * ((if (((nI (5)) + ((if (nI (0)) < (((((ra_silt c0 w0 (a)).2) (1 + (23 - a))) - (((ra_silt c0 w0 (a)).2) (25 + (23 - a))))) then (((((ra_silt c0 w0 (a)).2) (1 + (23 - a))) - (((ra_silt c0 w0 (a)).2) (25 + (23 - a))))) else (nI (0)))))) < (nI (60)) then (((nI (5)) + ((if (nI (0)) < (((((ra_silt c0 w0 (a)).2) (1 + (23 - a))) - (((ra_silt c0 w0 (a)).2) (25 + (23 - a))))) then (((((ra_silt c0 w0 (a)).2) (1 + (23 - a))) - (((ra_silt c0 w0 (a)).2) (25 + (23 - a))))) else (nI (0)))))) else (nI (60)))))) / (nI (100))))))), some (.int (nI (23 - a))), some (.int ((((((ra_silt c0 w0 (a)).1) * ((if (((nI (5)) + ((if (nI (0)) < (((((ra_silt c0 w0 (a)).2) (1 + (23 - a))) - (((ra_silt c0 w0 (a)).2) (25 + (23 - a))))) then (((((ra_silt c0 w0 (a)).2) (1 + (23 - a))) - (((ra_silt c0 w0 (a)).2) (25 + (23 - a))))) else (nI (0)))))) < (nI (60)) then (((nI (5)) + ((if (nI (0)) < (((((ra_silt c0 w0 (a)).2) (1 + (23 - a))) - (((ra_silt c0 w0 (a)).2) (25 + (23 - a))))) then (((((ra_silt c0 w0 (a)).2) (1 + (23 - a))) - (((ra_silt c0 w0 (a)).2) (25 + (23 - a))))) else (nI (0)))))) else (nI (60)))))) / (nI (100)))))]) dX12_settles_81 (by decide) rfl ?_
    refine jg_iinc (x := (nI (23 - a))) (v := (cm (23 - a))) (L' := [some (.ref (r)), some (.int ((((ra_silt c0 w0 (a)).1) - ((((((ra_silt c0 w0 (a)).1) * ((if (((nI (5)) + ((if (nI (0)) < (((((ra_silt c0 w0 (a)).2) (1 + (23 - a))) - (((ra_silt c0 w0 (a)).2) (25 + (23 - a))))) then (((((ra_silt c0 w0 (a)).2) (1 + (23 - a))) - (((ra_silt c0 w0 (a)).2) (25 + (23 - a))))) else (nI (0)))))) < (nI (60)) then (((nI (5)) + ((if (nI (0)) < (((((ra_silt c0 w0 (a)).2) (1 + (23 - a))) - (((ra_silt c0 w0 (a)).2) (25 + (23 - a))))) then (((((ra_silt c0 w0 (a)).2) (1 + (23 - a))) - (((ra_silt c0 w0 (a)).2) (25 + (23 - a))))) else (nI (0)))))) else (nI (60)))))) / (nI (100))))))), some (.int (cm (23 - a))), some (.int ((((((ra_silt c0 w0 (a)).1) * ((if (((nI (5)) + ((if (nI (0)) < (((((ra_silt c0 w0 (a)).2) (1 + (23 - a))) - (((ra_silt c0 w0 (a)).2) (25 + (23 - a))))) then (((((ra_silt c0 w0 (a)).2) (1 + (23 - a))) - (((ra_silt c0 w0 (a)).2) (25 + (23 - a))))) else (nI (0)))))) < (nI (60)) then (((nI (5)) + ((if (nI (0)) < (((((ra_silt c0 w0 (a)).2) (1 + (23 - a))) - (((ra_silt c0 w0 (a)).2) (25 + (23 - a))))) then (((((ra_silt c0 w0 (a)).2) (1 + (23 - a))) - (((ra_silt c0 w0 (a)).2) (25 + (23 - a))))) else (nI (0)))))) else (nI (60)))))) / (nI (100)))))]) dX12_settles_82 rfl (cm_dec _) (by decide) rfl ?_
    refine jg_goto (tgt := 26) dX12_settles_85 (by decide) ?_
    refine jg_fg (L' := [some (.ref (r)), some (.int ((((ra_silt c0 w0 (a)).1) - ((((((ra_silt c0 w0 (a)).1) * ((if (((nI (5)) + ((if (nI (0)) < (((((ra_silt c0 w0 (a)).2) (1 + (23 - a))) - (((ra_silt c0 w0 (a)).2) (25 + (23 - a))))) then (((((ra_silt c0 w0 (a)).2) (1 + (23 - a))) - (((ra_silt c0 w0 (a)).2) (25 + (23 - a))))) else (nI (0)))))) < (nI (60)) then (((nI (5)) + ((if (nI (0)) < (((((ra_silt c0 w0 (a)).2) (1 + (23 - a))) - (((ra_silt c0 w0 (a)).2) (25 + (23 - a))))) then (((((ra_silt c0 w0 (a)).2) (1 + (23 - a))) - (((ra_silt c0 w0 (a)).2) (25 + (23 - a))))) else (nI (0)))))) else (nI (60)))))) / (nI (100))))))), some (.int (cm (23 - a))), none]) (by repeat (first | exact trivial | refine ⟨rfl, ?_⟩ | show jg_le _ _)) ?_
    exact jg_at_eq (ih hlt) rfl (by rw [show 24 - (a + 1) = 23 - a by omega]; rfl) rfl rfl
  · obtain rfl : a = 24 := by omega
    refine jg_iload_n dX12_settles_26 rfl ?_
    refine jg_if_lt (x := (-1)) (tgt := 88) dX12_settles_27 (by decide) (fun _ => ?_) (fun q9 => absurd (by decide) q9)
    refine jg_aload_n dX12_settles_88 rfl ?_
    refine rs_ga fl_X12_13 dX12_settles_89 hr rfl ?_
    refine jn_sipush (k := 2657) dX12_settles_92 (by decide) ?_
    refine jg_dup2 dX12_settles_95 rfl rfl ?_
    refine rs_lw (i := 2657) dX12_settles_96 hr (by omega) ?_
    refine jg_iload_n dX12_settles_97 rfl ?_
    refine jg_iadd (x := (((ra_silt c0 w0 (24)).2) (2657))) (y := ((ra_silt c0 w0 (24)).1)) dX12_settles_98  ?_
    refine rs_sw (i := 2657) (x := (((((ra_silt c0 w0 (24)).2) (2657)) + ((ra_silt c0 w0 (24)).1)))) dX12_settles_99 hr (by omega) ?_
    exact jg_return dX12_settles_100 rfl ⟨rfl, rfl⟩
/-- the silt of the day that ended -/
def ra_settle (w : Nat → Int32) : Nat → Int32 := upd (ra_silt (ra_runOf w (nI (((wn w 0) / 24) - (1))) (wn w 98)) (upd w 2656 (w 2656 + (ra_runOf w (nI (((wn w 0) / 24) - (1))) (wn w 98)))) 24).2 2657 ((ra_silt (ra_runOf w (nI (((wn w 0) / 24) - (1))) (wn w 98)) (upd w 2656 (w 2656 + (ra_runOf w (nI (((wn w 0) / 24) - (1))) (wn w 98)))) 24).2 2657 + (ra_silt (ra_runOf w (nI (((wn w 0) / 24) - (1))) (wn w 98)) (upd w 2656 (w 2656 + (ra_runOf w (nI (((wn w 0) / 24) - (1))) (wn w 98)))) 24).1)
theorem dX12_settles_0 : decode cX12_settles 0 = .ok (.aload_n 0, 1) := by decide +kernel
theorem dX12_settles_1 : decode cX12_settles 1 = .ok (.aload_n 0, 1) := by decide +kernel
theorem dX12_settles_2 : decode cX12_settles 2 = .ok (.invokevirtual 77, 3) := by decide +kernel
theorem dX12_settles_5 : decode cX12_settles 5 = .ok (.iconst 1, 1) := by decide +kernel
theorem dX12_settles_6 : decode cX12_settles 6 = .ok (.isub, 1) := by decide +kernel
theorem dX12_settles_7 : decode cX12_settles 7 = .ok (.invokevirtual 84, 3) := by decide +kernel
theorem dX12_settles_10 : decode cX12_settles 10 = .ok (.istore_n 1, 1) := by decide +kernel
theorem dX12_settles_11 : decode cX12_settles 11 = .ok (.aload_n 0, 1) := by decide +kernel
theorem dX12_settles_12 : decode cX12_settles 12 = .ok (.getfield 13, 3) := by decide +kernel
theorem dX12_settles_15 : decode cX12_settles 15 = .ok (.sipush 2656, 3) := by decide +kernel
theorem dX12_settles_18 : decode cX12_settles 18 = .ok (.dup2, 1) := by decide +kernel
theorem dX12_settles_19 : decode cX12_settles 19 = .ok (.iaload, 1) := by decide +kernel
theorem dX12_settles_20 : decode cX12_settles 20 = .ok (.iload_n 1, 1) := by decide +kernel
theorem dX12_settles_21 : decode cX12_settles 21 = .ok (.iadd, 1) := by decide +kernel
theorem dX12_settles_22 : decode cX12_settles 22 = .ok (.iastore, 1) := by decide +kernel
theorem dX12_settles_23 : decode cX12_settles 23 = .ok (.bipush 23, 2) := by decide +kernel
theorem dX12_settles_25 : decode cX12_settles 25 = .ok (.istore_n 2, 1) := by decide +kernel
set_option maxHeartbeats 1000000 in
theorem r_settles {Γ : jg_G} {g : Nat → jg_C} {n r : Nat} (hr : r + 11 ≤ n) (s : rs_S)  (hh : wb s.2.1 0 30000) (hc : wb s.2.1 98 40) (h24 : 24 ≤ wn s.2.1 0) : jc Γ mX12_settles 2 0 0 [some (.ref (r)), none, none, none] (rs_h g r s, n) (.inl none) (rs_h g r (s.1, ra_settle s.2.1, s.2.2), n) := by
  refine jc_of ?_
  have hh_2 := hh.2
  refine jg_aload_n dX12_settles_0 rfl ?_
  refine jg_aload_n dX12_settles_1 rfl ?_
  refine rs_call (As := []) kv_X12_77 dX12_settles_2 hr rfl rfl (by decide) (Nat.le_of_ble_eq_true rfl) rfl (by decide) (Nat.le_of_ble_eq_true rfl) (r_today hr s (wn s.2.1 0) (by first | exact hh.1 | (simp only [upd]; (repeat rw [if_neg (by omega)]); exact hh.1)) (by omega)) ?_
  refine jn_iconst (k := 1) dX12_settles_5 (by decide) ?_
  refine jn_isub (x := (wn s.2.1 0) / 24) (y := 1) dX12_settles_6 (by omega) ?_
  refine rs_call (As := [.int (nI (((wn s.2.1 0) / 24) - (1)))]) kv_X12_84 dX12_settles_7 hr rfl rfl (by decide) (Nat.le_of_ble_eq_true rfl) rfl (by decide) (Nat.le_of_ble_eq_true rfl) (r_runOf hr s (nI (((wn s.2.1 0) / 24) - (1))) (by first | exact hc | (simp only [upd]; (repeat rw [if_neg (by omega)]); exact hc))) ?_
  refine jg_istore_n (L' := [some (.ref (r)), some (.int (ra_runOf (s.2.1) (nI (((wn s.2.1 0) / 24) - (1))) (wn s.2.1 98))), none, none]) dX12_settles_10 (by decide) rfl ?_
  refine jg_aload_n dX12_settles_11 rfl ?_
  refine rs_ga fl_X12_13 dX12_settles_12 hr rfl ?_
  refine jn_sipush (k := 2656) dX12_settles_15 (by decide) ?_
  refine jg_dup2 dX12_settles_18 rfl rfl ?_
  refine rs_lw (i := 2656) dX12_settles_19 hr (by omega) ?_
  refine jg_iload_n dX12_settles_20 rfl ?_
  refine jg_iadd (x := ((s.2.1) (2656))) (y := (ra_runOf (s.2.1) (nI (((wn s.2.1 0) / 24) - (1))) (wn s.2.1 98))) dX12_settles_21  ?_
  refine rs_sw (i := 2656) (x := ((((s.2.1) (2656)) + (ra_runOf (s.2.1) (nI (((wn s.2.1 0) / 24) - (1))) (wn s.2.1 98))))) dX12_settles_22 hr (by omega) ?_
  refine jn_bipush (k := 23) dX12_settles_23 (by decide) ?_
  refine jg_istore_n (L' := [some (.ref (r)), some (.int (ra_runOf (s.2.1) (nI (((wn s.2.1 0) / 24) - (1))) (wn s.2.1 98))), some (.int (nI (23))), none]) dX12_settles_25 (by decide) rfl ?_
  exact r_settles_l hr (s.1, s.2.1, s.2.2) (ra_runOf s.2.1 (nI (((wn s.2.1 0) / 24) - (1))) (wn s.2.1 98)) (upd s.2.1 2656 (s.2.1 2656 + (ra_runOf s.2.1 (nI (((wn s.2.1 0) / 24) - (1))) (wn s.2.1 98)))) 0 (Nat.zero_le _)
