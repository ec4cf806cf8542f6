/-! THE LAW's ENTRY, AND THE CLAIM OUT OF THE PURE LAYER (by program wip/whole/startdec.py) -/
theorem bf1 {A : Array Value} {s : State} {a b : Cond} (h : (Cond.and a b).before A s = true) : a.before A s = true := by
  rw [Cond.before_and, Bool.and_eq_true] at h; exact h.1
theorem bf2 {A : Array Value} {s : State} {a b : Cond} (h : (Cond.and a b).before A s = true) : b.before A s = true := by
  rw [Cond.before_and, Bool.and_eq_true] at h; exact h.2
theorem jt_m1 {w : Cond} (i : Nat) (h : tables_1_1[i]? = some w) : w ∈ lw_tbl := List.mem_append_right _ (List.mem_append_left _ (List.mem_of_getElem? h))
theorem jt_m2 {w : Cond} (i : Nat) (h : tables_1_2[i]? = some w) : w ∈ lw_tbl := List.mem_append_right _ (List.mem_append_right _ (List.mem_append_left _ (List.mem_of_getElem? h)))
theorem jt_m3 {w : Cond} (i : Nat) (h : tables_1_3[i]? = some w) : w ∈ lw_tbl := List.mem_append_right _ (List.mem_append_right _ (List.mem_append_right _ (List.mem_append_left _ (List.mem_of_getElem? h))))
theorem jt_m4 {w : Cond} (i : Nat) (h : tables_1_4[i]? = some w) : w ∈ lw_tbl := List.mem_append_right _ (List.mem_append_right _ (List.mem_append_right _ (List.mem_append_right _ (List.mem_append_left _ (List.mem_of_getElem? h)))))
theorem jt_m5 {w : Cond} (i : Nat) (h : tables_1_5[i]? = some w) : w ∈ lw_tbl := List.mem_append_right _ (List.mem_append_right _ (List.mem_append_right _ (List.mem_append_right _ (List.mem_append_right _ (List.mem_append_left _ (List.mem_of_getElem? h))))))
theorem jt_m6 {w : Cond} (i : Nat) (h : tables_1_6[i]? = some w) : w ∈ lw_tbl := List.mem_append_right _ (List.mem_append_right _ (List.mem_append_right _ (List.mem_append_right _ (List.mem_append_right _ (List.mem_append_right _ (List.mem_append_left _ (List.mem_of_getElem? h)))))))
theorem jt_m7 {w : Cond} (i : Nat) (h : tables_1_7[i]? = some w) : w ∈ lw_tbl := List.mem_append_right _ (List.mem_append_right _ (List.mem_append_right _ (List.mem_append_right _ (List.mem_append_right _ (List.mem_append_right _ (List.mem_append_right _ (List.mem_append_left _ (List.mem_of_getElem? h))))))))
theorem jt_m8 {w : Cond} (i : Nat) (h : tables_1_8[i]? = some w) : w ∈ lw_tbl := List.mem_append_right _ (List.mem_append_right _ (List.mem_append_right _ (List.mem_append_right _ (List.mem_append_right _ (List.mem_append_right _ (List.mem_append_right _ (List.mem_append_right _ (List.mem_append_left _ (List.mem_of_getElem? h)))))))))
theorem jt_m9 {w : Cond} (i : Nat) (h : tables_1_9[i]? = some w) : w ∈ lw_tbl := List.mem_append_right _ (List.mem_append_right _ (List.mem_append_right _ (List.mem_append_right _ (List.mem_append_right _ (List.mem_append_right _ (List.mem_append_right _ (List.mem_append_right _ (List.mem_append_right _ (List.mem_append_left _ (List.mem_of_getElem? h))))))))))
theorem jt_m10 {w : Cond} (i : Nat) (h : tables_1_10[i]? = some w) : w ∈ lw_tbl := List.mem_append_right _ (List.mem_append_right _ (List.mem_append_right _ (List.mem_append_right _ (List.mem_append_right _ (List.mem_append_right _ (List.mem_append_right _ (List.mem_append_right _ (List.mem_append_right _ (List.mem_append_right _ (List.mem_of_getElem? h))))))))))
/-- a text: its reference, its bytes -/
theorem sx_one {A : Array Value} {s : State} {F : Nat → Prop} {own tx : String} {k : Nat} (bs : List Int32) (hr : (Cond.stringRef own k tx).before A s = true) (hex : (Cond.exactly (.string own k) "java/lang/String").before A s = true) (hco : (Cond.eq (.field (.string own k) "java/lang/String" "coder" "B") (.int 0)).before A s = true) (harr : (Cond.arrayOf (.field (.string own k) "java/lang/String" "value" "[B") .byte).before A s = true) (hlen : (Cond.eq (.length (.field (.string own k) "java/lang/String" "value" "[B")) (.int (Int32.ofNat bs.length))).before A s = true) (hel : ∀ j : Nat, j < bs.length → (Cond.eq (.elem (.field (.string own k) "java/lang/String" "value" "[B") (.int (Int32.ofNat j))) (.int (bs.getD j 0))).before A s = true) (hb : bs.length < 2 ^ 31) (hF : ∀ a : Nat, a < s.heap.size → ¬ F a) :
    ∃ a t : Nat, vk_R own k tx a s ∧ va_O "java/lang/String" a F s s.heap ∧ va_OF "java/lang/String" "coder" "B" (.int 0) a F s s.heap ∧ va_OF "java/lang/String" "value" "[B" (.ref t) a F s s.heap ∧ va_T .byte t bs.length (fun j => .int (bs.getD j 0)) F s s.heap := by
  obtain ⟨a, c, cA, kA, q1, -⟩ := Cond.exactly_spec (args := A) (first := s) (o := none) (s := s) (idx := []) (t := .string own k) (cls := "java/lang/String") hex
  obtain ⟨t, ht, hT⟩ := va_Tof (A := F) (f := fun j => .int (bs.getD j 0)) hb harr (Cond.eq_int hlen rfl) (fun j hj => Cond.eq_int (hel j hj) rfl) hF
  exact ⟨a, t, vk_R.of hr q1, va_Oof hex q1 hF, vk_OFof q1 (Cond.eq_int hco rfl) hF, vk_OFof q1 ht hF, hT⟩
def sx_P (s : State) (F : Nat → Prop) (i a t : Nat) : Prop := ∀ q : String × Nat × String, jg_str[i]? = some q → vk_R q.1 q.2.1 q.2.2 a s ∧ va_O "java/lang/String" a F s s.heap ∧ va_OF "java/lang/String" "coder" "B" (.int 0) a F s s.heap ∧ va_OF "java/lang/String" "value" "[B" (.ref t) a F s s.heap ∧ va_T .byte t ((jg_byt.getD i []).length) (fun j => .int ((jg_byt.getD i []).getD j 0)) F s s.heap
set_option maxRecDepth 20000 in
theorem sx_0 {A : Array Value} {s : State} {F : Nat → Prop} (hts : ∀ w ∈ lw_tbl, w.before A s = true) (hn : narrow_1.before A s = true) (hF : ∀ a : Nat, a < s.heap.size → ¬ F a) : ∃ a t, sx_P s F 0 a t := by
  obtain ⟨a, t, h⟩ := sx_one (A := A) (F := F) (own := "SiltHarbour") (k := 461) (tx := "there is no such one") (jg_byt.getD 0 []) (hts _ (jt_m4 163 rfl)) (bf1 (bf2 (bf1 (bf2 (bf2 (bf2 (bf1 (bf1 (bf1 hn))))))))) (bf1 (bf2 (bf2 (bf1 (bf2 (bf2 (bf2 (bf1 (bf1 (bf1 hn)))))))))) (bf2 (bf2 (bf2 (bf1 (bf2 (bf2 (bf2 (bf1 (bf1 (bf1 hn)))))))))) (bf1 (bf1 (bf2 (bf2 (bf2 (bf2 (bf1 (bf1 (bf1 hn))))))))) (fun j hj => by
    match j, hj with
    | 0, _ => exact (bf1 (bf2 (bf1 (bf2 (bf2 (bf2 (bf2 (bf1 (bf1 (bf1 hn))))))))))
    | 1, _ => exact (bf2 (bf2 (bf1 (bf2 (bf2 (bf2 (bf2 (bf1 (bf1 (bf1 hn))))))))))
    | 2, _ => exact (bf1 (bf1 (bf2 (bf2 (bf2 (bf2 (bf2 (bf1 (bf1 (bf1 hn))))))))))
    | 3, _ => exact (bf2 (bf1 (bf2 (bf2 (bf2 (bf2 (bf2 (bf1 (bf1 (bf1 hn))))))))))
    | 4, _ => exact (bf1 (bf2 (bf2 (bf2 (bf2 (bf2 (bf2 (bf1 (bf1 (bf1 hn))))))))))
    | 5, _ => exact (bf2 (bf2 (bf2 (bf2 (bf2 (bf2 (bf2 (bf1 (bf1 (bf1 hn))))))))))
    | 6, _ => exact (bf1 (bf1 (bf1 (bf1 (bf1 (bf1 (bf2 (bf1 (bf1 hn)))))))))
    | 7, _ => exact (bf1 (bf2 (bf1 (bf1 (bf1 (bf1 (bf1 (bf2 (bf1 (bf1 hn))))))))))
    | 8, _ => exact (bf2 (bf2 (bf1 (bf1 (bf1 (bf1 (bf1 (bf2 (bf1 (bf1 hn))))))))))
    | 9, _ => exact (bf1 (bf2 (bf1 (bf1 (bf1 (bf1 (bf2 (bf1 (bf1 hn)))))))))
    | 10, _ => exact (bf1 (bf2 (bf2 (bf1 (bf1 (bf1 (bf1 (bf2 (bf1 (bf1 hn))))))))))
    | 11, _ => exact (bf2 (bf2 (bf2 (bf1 (bf1 (bf1 (bf1 (bf2 (bf1 (bf1 hn))))))))))
    | 12, _ => exact (bf1 (bf1 (bf2 (bf1 (bf1 (bf1 (bf2 (bf1 (bf1 hn)))))))))
    | 13, _ => exact (bf1 (bf2 (bf1 (bf2 (bf1 (bf1 (bf1 (bf2 (bf1 (bf1 hn))))))))))
    | 14, _ => exact (bf2 (bf2 (bf1 (bf2 (bf1 (bf1 (bf1 (bf2 (bf1 (bf1 hn))))))))))
    | 15, _ => exact (bf1 (bf1 (bf2 (bf2 (bf1 (bf1 (bf1 (bf2 (bf1 (bf1 hn))))))))))
    | 16, _ => exact (bf2 (bf1 (bf2 (bf2 (bf1 (bf1 (bf1 (bf2 (bf1 (bf1 hn))))))))))
    | 17, _ => exact (bf1 (bf2 (bf2 (bf2 (bf1 (bf1 (bf1 (bf2 (bf1 (bf1 hn))))))))))
    | 18, _ => exact (bf2 (bf2 (bf2 (bf2 (bf1 (bf1 (bf1 (bf2 (bf1 (bf1 hn))))))))))
    | 19, _ => exact (bf1 (bf1 (bf1 (bf2 (bf1 (bf1 (bf2 (bf1 (bf1 hn)))))))))
    | z + 20, hz => exact absurd hz (Nat.not_lt.mpr (Nat.le_add_left _ _))) (by decide) hF
  exact ⟨a, t, fun q hq => by cases hq; exact h⟩
set_option maxRecDepth 20000 in
theorem sx_1 {A : Array Value} {s : State} {F : Nat → Prop} (hts : ∀ w ∈ lw_tbl, w.before A s = true) (hn : narrow_1.before A s = true) (hF : ∀ a : Nat, a < s.heap.size → ¬ F a) : ∃ a t, sx_P s F 1 a t := by
  obtain ⟨a, t, h⟩ := sx_one (A := A) (F := F) (own := "SiltHarbour") (k := 464) (tx := "a number is none") (jg_byt.getD 1 []) (hts _ (jt_m4 204 rfl)) (bf1 (bf2 (bf1 (bf1 (bf2 (bf1 (bf1 (bf2 (bf1 (bf1 hn)))))))))) (bf2 (bf2 (bf1 (bf1 (bf2 (bf1 (bf1 (bf2 (bf1 (bf1 hn)))))))))) (bf1 (bf2 (bf1 (bf2 (bf1 (bf1 (bf2 (bf1 (bf1 hn))))))))) (bf1 (bf2 (bf2 (bf1 (bf2 (bf1 (bf1 (bf2 (bf1 (bf1 hn)))))))))) (fun j hj => by
    match j, hj with
    | 0, _ => exact (bf2 (bf2 (bf2 (bf1 (bf2 (bf1 (bf1 (bf2 (bf1 (bf1 hn))))))))))
    | 1, _ => exact (bf1 (bf1 (bf2 (bf2 (bf1 (bf1 (bf2 (bf1 (bf1 hn)))))))))
    | 2, _ => exact (bf1 (bf2 (bf1 (bf2 (bf2 (bf1 (bf1 (bf2 (bf1 (bf1 hn))))))))))
    | 3, _ => exact (bf2 (bf2 (bf1 (bf2 (bf2 (bf1 (bf1 (bf2 (bf1 (bf1 hn))))))))))
    | 4, _ => exact (bf1 (bf1 (bf2 (bf2 (bf2 (bf1 (bf1 (bf2 (bf1 (bf1 hn))))))))))
    | 5, _ => exact (bf2 (bf1 (bf2 (bf2 (bf2 (bf1 (bf1 (bf2 (bf1 (bf1 hn))))))))))
    | 6, _ => exact (bf1 (bf2 (bf2 (bf2 (bf2 (bf1 (bf1 (bf2 (bf1 (bf1 hn))))))))))
    | 7, _ => exact (bf2 (bf2 (bf2 (bf2 (bf2 (bf1 (bf1 (bf2 (bf1 (bf1 hn))))))))))
    | 8, _ => exact (bf1 (bf1 (bf1 (bf1 (bf2 (bf1 (bf2 (bf1 (bf1 hn)))))))))
    | 9, _ => exact (bf1 (bf2 (bf1 (bf1 (bf1 (bf2 (bf1 (bf2 (bf1 (bf1 hn))))))))))
    | 10, _ => exact (bf2 (bf2 (bf1 (bf1 (bf1 (bf2 (bf1 (bf2 (bf1 (bf1 hn))))))))))
    | 11, _ => exact (bf1 (bf2 (bf1 (bf1 (bf2 (bf1 (bf2 (bf1 (bf1 hn)))))))))
    | 12, _ => exact (bf1 (bf2 (bf2 (bf1 (bf1 (bf2 (bf1 (bf2 (bf1 (bf1 hn))))))))))
    | 13, _ => exact (bf2 (bf2 (bf2 (bf1 (bf1 (bf2 (bf1 (bf2 (bf1 (bf1 hn))))))))))
    | 14, _ => exact (bf1 (bf1 (bf2 (bf1 (bf2 (bf1 (bf2 (bf1 (bf1 hn)))))))))
    | 15, _ => exact (bf1 (bf2 (bf1 (bf2 (bf1 (bf2 (bf1 (bf2 (bf1 (bf1 hn))))))))))
    | z + 16, hz => exact absurd hz (Nat.not_lt.mpr (Nat.le_add_left _ _))) (by decide) hF
  exact ⟨a, t, fun q hq => by cases hq; exact h⟩
set_option maxRecDepth 20000 in
theorem sx_2 {A : Array Value} {s : State} {F : Nat → Prop} (hts : ∀ w ∈ lw_tbl, w.before A s = true) (hn : narrow_1.before A s = true) (hF : ∀ a : Nat, a < s.heap.size → ¬ F a) : ∃ a t, sx_P s F 2 a t := by
  obtain ⟨a, t, h⟩ := sx_one (A := A) (F := F) (own := "SiltHarbour") (k := 468) (tx := "the call is not for now") (jg_byt.getD 2 []) (hts _ (jt_m4 223 rfl)) (bf2 (bf2 (bf1 (bf2 (bf1 (bf2 (bf1 (bf2 (bf1 (bf1 hn)))))))))) (bf1 (bf1 (bf2 (bf2 (bf1 (bf2 (bf1 (bf2 (bf1 (bf1 hn)))))))))) (bf2 (bf1 (bf2 (bf2 (bf1 (bf2 (bf1 (bf2 (bf1 (bf1 hn)))))))))) (bf1 (bf2 (bf2 (bf2 (bf1 (bf2 (bf1 (bf2 (bf1 (bf1 hn)))))))))) (fun j hj => by
    match j, hj with
    | 0, _ => exact (bf2 (bf2 (bf2 (bf2 (bf1 (bf2 (bf1 (bf2 (bf1 (bf1 hn))))))))))
    | 1, _ => exact (bf1 (bf1 (bf1 (bf2 (bf2 (bf1 (bf2 (bf1 (bf1 hn)))))))))
    | 2, _ => exact (bf1 (bf2 (bf1 (bf1 (bf2 (bf2 (bf1 (bf2 (bf1 (bf1 hn))))))))))
    | 3, _ => exact (bf2 (bf2 (bf1 (bf1 (bf2 (bf2 (bf1 (bf2 (bf1 (bf1 hn))))))))))
    | 4, _ => exact (bf1 (bf2 (bf1 (bf2 (bf2 (bf1 (bf2 (bf1 (bf1 hn)))))))))
    | 5, _ => exact (bf1 (bf2 (bf2 (bf1 (bf2 (bf2 (bf1 (bf2 (bf1 (bf1 hn))))))))))
    | 6, _ => exact (bf2 (bf2 (bf2 (bf1 (bf2 (bf2 (bf1 (bf2 (bf1 (bf1 hn))))))))))
    | 7, _ => exact (bf1 (bf1 (bf2 (bf2 (bf2 (bf1 (bf2 (bf1 (bf1 hn)))))))))
    | 8, _ => exact (bf1 (bf2 (bf1 (bf2 (bf2 (bf2 (bf1 (bf2 (bf1 (bf1 hn))))))))))
    | 9, _ => exact (bf2 (bf2 (bf1 (bf2 (bf2 (bf2 (bf1 (bf2 (bf1 (bf1 hn))))))))))
    | 10, _ => exact (bf1 (bf1 (bf2 (bf2 (bf2 (bf2 (bf1 (bf2 (bf1 (bf1 hn))))))))))
    | 11, _ => exact (bf2 (bf1 (bf2 (bf2 (bf2 (bf2 (bf1 (bf2 (bf1 (bf1 hn))))))))))
    | 12, _ => exact (bf1 (bf2 (bf2 (bf2 (bf2 (bf2 (bf1 (bf2 (bf1 (bf1 hn))))))))))
    | 13, _ => exact (bf2 (bf2 (bf2 (bf2 (bf2 (bf2 (bf1 (bf2 (bf1 (bf1 hn))))))))))
    | 14, _ => exact (bf1 (bf1 (bf1 (bf1 (bf1 (bf2 (bf2 (bf1 (bf1 hn)))))))))
    | 15, _ => exact (bf1 (bf2 (bf1 (bf1 (bf1 (bf1 (bf2 (bf2 (bf1 (bf1 hn))))))))))
    | 16, _ => exact (bf2 (bf2 (bf1 (bf1 (bf1 (bf1 (bf2 (bf2 (bf1 (bf1 hn))))))))))
    | 17, _ => exact (bf1 (bf2 (bf1 (bf1 (bf1 (bf2 (bf2 (bf1 (bf1 hn)))))))))
    | 18, _ => exact (bf1 (bf2 (bf2 (bf1 (bf1 (bf1 (bf2 (bf2 (bf1 (bf1 hn))))))))))
    | 19, _ => exact (bf2 (bf2 (bf2 (bf1 (bf1 (bf1 (bf2 (bf2 (bf1 (bf1 hn))))))))))
    | 20, _ => exact (bf1 (bf1 (bf2 (bf1 (bf1 (bf2 (bf2 (bf1 (bf1 hn)))))))))
    | 21, _ => exact (bf1 (bf2 (bf1 (bf2 (bf1 (bf1 (bf2 (bf2 (bf1 (bf1 hn))))))))))
    | 22, _ => exact (bf2 (bf2 (bf1 (bf2 (bf1 (bf1 (bf2 (bf2 (bf1 (bf1 hn))))))))))
    | z + 23, hz => exact absurd hz (Nat.not_lt.mpr (Nat.le_add_left _ _))) (by decide) hF
  exact ⟨a, t, fun q hq => by cases hq; exact h⟩
set_option maxRecDepth 20000 in
theorem sx_3 {A : Array Value} {s : State} {F : Nat → Prop} (hts : ∀ w ∈ lw_tbl, w.before A s = true) (hn : narrow_1.before A s = true) (hF : ∀ a : Nat, a < s.heap.size → ¬ F a) : ∃ a t, sx_P s F 3 a t := by
  obtain ⟨a, t, h⟩ := sx_one (A := A) (F := F) (own := "SiltHarbour") (k := 473) (tx := "there are as many as there may be") (jg_byt.getD 3 []) (hts _ (jt_m5 28 rfl)) (bf1 (bf1 (bf2 (bf2 (bf1 (bf1 (bf2 (bf2 (bf1 (bf1 hn)))))))))) (bf2 (bf1 (bf2 (bf2 (bf1 (bf1 (bf2 (bf2 (bf1 (bf1 hn)))))))))) (bf1 (bf2 (bf2 (bf2 (bf1 (bf1 (bf2 (bf2 (bf1 (bf1 hn)))))))))) (bf2 (bf2 (bf2 (bf2 (bf1 (bf1 (bf2 (bf2 (bf1 (bf1 hn)))))))))) (fun j hj => by
    match j, hj with
    | 0, _ => exact (bf1 (bf1 (bf1 (bf2 (bf1 (bf2 (bf2 (bf1 (bf1 hn)))))))))
    | 1, _ => exact (bf1 (bf2 (bf1 (bf1 (bf2 (bf1 (bf2 (bf2 (bf1 (bf1 hn))))))))))
    | 2, _ => exact (bf2 (bf2 (bf1 (bf1 (bf2 (bf1 (bf2 (bf2 (bf1 (bf1 hn))))))))))
    | 3, _ => exact (bf1 (bf2 (bf1 (bf2 (bf1 (bf2 (bf2 (bf1 (bf1 hn)))))))))
    | 4, _ => exact (bf1 (bf2 (bf2 (bf1 (bf2 (bf1 (bf2 (bf2 (bf1 (bf1 hn))))))))))
    | 5, _ => exact (bf2 (bf2 (bf2 (bf1 (bf2 (bf1 (bf2 (bf2 (bf1 (bf1 hn))))))))))
    | 6, _ => exact (bf1 (bf1 (bf2 (bf2 (bf1 (bf2 (bf2 (bf1 (bf1 hn)))))))))
    | 7, _ => exact (bf1 (bf2 (bf1 (bf2 (bf2 (bf1 (bf2 (bf2 (bf1 (bf1 hn))))))))))
    | 8, _ => exact (bf2 (bf2 (bf1 (bf2 (bf2 (bf1 (bf2 (bf2 (bf1 (bf1 hn))))))))))
    | 9, _ => exact (bf1 (bf1 (bf2 (bf2 (bf2 (bf1 (bf2 (bf2 (bf1 (bf1 hn))))))))))
    | 10, _ => exact (bf2 (bf1 (bf2 (bf2 (bf2 (bf1 (bf2 (bf2 (bf1 (bf1 hn))))))))))
    | 11, _ => exact (bf1 (bf2 (bf2 (bf2 (bf2 (bf1 (bf2 (bf2 (bf1 (bf1 hn))))))))))
    | 12, _ => exact (bf2 (bf2 (bf2 (bf2 (bf2 (bf1 (bf2 (bf2 (bf1 (bf1 hn))))))))))
    | 13, _ => exact (bf1 (bf1 (bf1 (bf1 (bf2 (bf2 (bf2 (bf1 (bf1 hn)))))))))
    | 14, _ => exact (bf1 (bf2 (bf1 (bf1 (bf1 (bf2 (bf2 (bf2 (bf1 (bf1 hn))))))))))
    | 15, _ => exact (bf2 (bf2 (bf1 (bf1 (bf1 (bf2 (bf2 (bf2 (bf1 (bf1 hn))))))))))
    | 16, _ => exact (bf1 (bf2 (bf1 (bf1 (bf2 (bf2 (bf2 (bf1 (bf1 hn)))))))))
    | 17, _ => exact (bf1 (bf2 (bf2 (bf1 (bf1 (bf2 (bf2 (bf2 (bf1 (bf1 hn))))))))))
    | 18, _ => exact (bf2 (bf2 (bf2 (bf1 (bf1 (bf2 (bf2 (bf2 (bf1 (bf1 hn))))))))))
    | 19, _ => exact (bf1 (bf1 (bf2 (bf1 (bf2 (bf2 (bf2 (bf1 (bf1 hn)))))))))
    | 20, _ => exact (bf1 (bf2 (bf1 (bf2 (bf1 (bf2 (bf2 (bf2 (bf1 (bf1 hn))))))))))
    | 21, _ => exact (bf2 (bf2 (bf1 (bf2 (bf1 (bf2 (bf2 (bf2 (bf1 (bf1 hn))))))))))
    | 22, _ => exact (bf1 (bf1 (bf2 (bf2 (bf1 (bf2 (bf2 (bf2 (bf1 (bf1 hn))))))))))
    | 23, _ => exact (bf2 (bf1 (bf2 (bf2 (bf1 (bf2 (bf2 (bf2 (bf1 (bf1 hn))))))))))
    | 24, _ => exact (bf1 (bf2 (bf2 (bf2 (bf1 (bf2 (bf2 (bf2 (bf1 (bf1 hn))))))))))
    | 25, _ => exact (bf2 (bf2 (bf2 (bf2 (bf1 (bf2 (bf2 (bf2 (bf1 (bf1 hn))))))))))
    | 26, _ => exact (bf1 (bf1 (bf1 (bf2 (bf2 (bf2 (bf2 (bf1 (bf1 hn)))))))))
    | 27, _ => exact (bf1 (bf2 (bf1 (bf1 (bf2 (bf2 (bf2 (bf2 (bf1 (bf1 hn))))))))))
    | 28, _ => exact (bf2 (bf2 (bf1 (bf1 (bf2 (bf2 (bf2 (bf2 (bf1 (bf1 hn))))))))))
    | 29, _ => exact (bf1 (bf1 (bf2 (bf1 (bf2 (bf2 (bf2 (bf2 (bf1 (bf1 hn))))))))))
    | 30, _ => exact (bf2 (bf1 (bf2 (bf1 (bf2 (bf2 (bf2 (bf2 (bf1 (bf1 hn))))))))))
    | 31, _ => exact (bf1 (bf2 (bf2 (bf1 (bf2 (bf2 (bf2 (bf2 (bf1 (bf1 hn))))))))))
    | 32, _ => exact (bf2 (bf2 (bf2 (bf1 (bf2 (bf2 (bf2 (bf2 (bf1 (bf1 hn))))))))))
    | z + 33, hz => exact absurd hz (Nat.not_lt.mpr (Nat.le_add_left _ _))) (by decide) hF
  exact ⟨a, t, fun q hq => by cases hq; exact h⟩
set_option maxRecDepth 20000 in
theorem sx_4 {A : Array Value} {s : State} {F : Nat → Prop} (hts : ∀ w ∈ lw_tbl, w.before A s = true) (hn : narrow_1.before A s = true) (hF : ∀ a : Nat, a < s.heap.size → ¬ F a) : ∃ a t, sx_P s F 4 a t := by
  obtain ⟨a, t, h⟩ := sx_one (A := A) (F := F) (own := "SiltHarbour") (k := 107) (tx := "a cell has no such number") (jg_byt.getD 4 []) (hts _ (jt_m5 78 rfl)) (bf1 (bf1 (bf2 (bf2 (bf2 (bf2 (bf2 (bf1 (bf1 hn))))))))) (bf1 (bf2 (bf1 (bf2 (bf2 (bf2 (bf2 (bf2 (bf1 (bf1 hn)))))))))) (bf2 (bf2 (bf1 (bf2 (bf2 (bf2 (bf2 (bf2 (bf1 (bf1 hn)))))))))) (bf1 (bf1 (bf2 (bf2 (bf2 (bf2 (bf2 (bf2 (bf1 (bf1 hn)))))))))) (fun j hj => by
    match j, hj with
    | 0, _ => exact (bf2 (bf1 (bf2 (bf2 (bf2 (bf2 (bf2 (bf2 (bf1 (bf1 hn))))))))))
    | 1, _ => exact (bf1 (bf2 (bf2 (bf2 (bf2 (bf2 (bf2 (bf2 (bf1 (bf1 hn))))))))))
    | 2, _ => exact (bf2 (bf2 (bf2 (bf2 (bf2 (bf2 (bf2 (bf2 (bf1 (bf1 hn))))))))))
    | 3, _ => exact (bf1 (bf1 (bf1 (bf1 (bf1 (bf1 (bf1 (bf2 (bf1 hn)))))))))
    | 4, _ => exact (bf1 (bf2 (bf1 (bf1 (bf1 (bf1 (bf1 (bf1 (bf2 (bf1 hn))))))))))
    | 5, _ => exact (bf2 (bf2 (bf1 (bf1 (bf1 (bf1 (bf1 (bf1 (bf2 (bf1 hn))))))))))
    | 6, _ => exact (bf1 (bf2 (bf1 (bf1 (bf1 (bf1 (bf1 (bf2 (bf1 hn)))))))))
    | 7, _ => exact (bf1 (bf2 (bf2 (bf1 (bf1 (bf1 (bf1 (bf1 (bf2 (bf1 hn))))))))))
    | 8, _ => exact (bf2 (bf2 (bf2 (bf1 (bf1 (bf1 (bf1 (bf1 (bf2 (bf1 hn))))))))))
    | 9, _ => exact (bf1 (bf1 (bf2 (bf1 (bf1 (bf1 (bf1 (bf2 (bf1 hn)))))))))
    | 10, _ => exact (bf1 (bf2 (bf1 (bf2 (bf1 (bf1 (bf1 (bf1 (bf2 (bf1 hn))))))))))
    | 11, _ => exact (bf2 (bf2 (bf1 (bf2 (bf1 (bf1 (bf1 (bf1 (bf2 (bf1 hn))))))))))
    | 12, _ => exact (bf1 (bf1 (bf2 (bf2 (bf1 (bf1 (bf1 (bf1 (bf2 (bf1 hn))))))))))
    | 13, _ => exact (bf2 (bf1 (bf2 (bf2 (bf1 (bf1 (bf1 (bf1 (bf2 (bf1 hn))))))))))
    | 14, _ => exact (bf1 (bf2 (bf2 (bf2 (bf1 (bf1 (bf1 (bf1 (bf2 (bf1 hn))))))))))
    | 15, _ => exact (bf2 (bf2 (bf2 (bf2 (bf1 (bf1 (bf1 (bf1 (bf2 (bf1 hn))))))))))
    | 16, _ => exact (bf1 (bf1 (bf1 (bf2 (bf1 (bf1 (bf1 (bf2 (bf1 hn)))))))))
    | 17, _ => exact (bf1 (bf2 (bf1 (bf1 (bf2 (bf1 (bf1 (bf1 (bf2 (bf1 hn))))))))))
    | 18, _ => exact (bf2 (bf2 (bf1 (bf1 (bf2 (bf1 (bf1 (bf1 (bf2 (bf1 hn))))))))))
    | 19, _ => exact (bf1 (bf2 (bf1 (bf2 (bf1 (bf1 (bf1 (bf2 (bf1 hn)))))))))
    | 20, _ => exact (bf1 (bf2 (bf2 (bf1 (bf2 (bf1 (bf1 (bf1 (bf2 (bf1 hn))))))))))
    | 21, _ => exact (bf2 (bf2 (bf2 (bf1 (bf2 (bf1 (bf1 (bf1 (bf2 (bf1 hn))))))))))
    | 22, _ => exact (bf1 (bf1 (bf2 (bf2 (bf1 (bf1 (bf1 (bf2 (bf1 hn)))))))))
    | 23, _ => exact (bf1 (bf2 (bf1 (bf2 (bf2 (bf1 (bf1 (bf1 (bf2 (bf1 hn))))))))))
    | 24, _ => exact (bf2 (bf2 (bf1 (bf2 (bf2 (bf1 (bf1 (bf1 (bf2 (bf1 hn))))))))))
    | z + 25, hz => exact absurd hz (Nat.not_lt.mpr (Nat.le_add_left _ _))) (by decide) hF
  exact ⟨a, t, fun q hq => by cases hq; exact h⟩
set_option maxRecDepth 20000 in
theorem sx_5 {A : Array Value} {s : State} {F : Nat → Prop} (hts : ∀ w ∈ lw_tbl, w.before A s = true) (hn : narrow_1.before A s = true) (hF : ∀ a : Nat, a < s.heap.size → ¬ F a) : ∃ a t, sx_P s F 5 a t := by
  obtain ⟨a, t, h⟩ := sx_one (A := A) (F := F) (own := "SiltHarbour") (k := 232) (tx := "a ship has no such number") (jg_byt.getD 5 []) (hts _ (jt_m6 77 rfl)) (bf1 (bf1 (bf2 (bf2 (bf2 (bf1 (bf1 (bf1 (bf2 (bf1 hn)))))))))) (bf2 (bf1 (bf2 (bf2 (bf2 (bf1 (bf1 (bf1 (bf2 (bf1 hn)))))))))) (bf1 (bf2 (bf2 (bf2 (bf2 (bf1 (bf1 (bf1 (bf2 (bf1 hn)))))))))) (bf2 (bf2 (bf2 (bf2 (bf2 (bf1 (bf1 (bf1 (bf2 (bf1 hn)))))))))) (fun j hj => by
    match j, hj with
    | 0, _ => exact (bf1 (bf1 (bf1 (bf1 (bf2 (bf1 (bf1 (bf2 (bf1 hn)))))))))
    | 1, _ => exact (bf1 (bf2 (bf1 (bf1 (bf1 (bf2 (bf1 (bf1 (bf2 (bf1 hn))))))))))
    | 2, _ => exact (bf2 (bf2 (bf1 (bf1 (bf1 (bf2 (bf1 (bf1 (bf2 (bf1 hn))))))))))
    | 3, _ => exact (bf1 (bf2 (bf1 (bf1 (bf2 (bf1 (bf1 (bf2 (bf1 hn)))))))))
    | 4, _ => exact (bf1 (bf2 (bf2 (bf1 (bf1 (bf2 (bf1 (bf1 (bf2 (bf1 hn))))))))))
    | 5, _ => exact (bf2 (bf2 (bf2 (bf1 (bf1 (bf2 (bf1 (bf1 (bf2 (bf1 hn))))))))))
    | 6, _ => exact (bf1 (bf1 (bf2 (bf1 (bf2 (bf1 (bf1 (bf2 (bf1 hn)))))))))
    | 7, _ => exact (bf1 (bf2 (bf1 (bf2 (bf1 (bf2 (bf1 (bf1 (bf2 (bf1 hn))))))))))
    | 8, _ => exact (bf2 (bf2 (bf1 (bf2 (bf1 (bf2 (bf1 (bf1 (bf2 (bf1 hn))))))))))
    | 9, _ => exact (bf1 (bf1 (bf2 (bf2 (bf1 (bf2 (bf1 (bf1 (bf2 (bf1 hn))))))))))
    | 10, _ => exact (bf2 (bf1 (bf2 (bf2 (bf1 (bf2 (bf1 (bf1 (bf2 (bf1 hn))))))))))
    | 11, _ => exact (bf1 (bf2 (bf2 (bf2 (bf1 (bf2 (bf1 (bf1 (bf2 (bf1 hn))))))))))
    | 12, _ => exact (bf2 (bf2 (bf2 (bf2 (bf1 (bf2 (bf1 (bf1 (bf2 (bf1 hn))))))))))
    | 13, _ => exact (bf1 (bf1 (bf1 (bf2 (bf2 (bf1 (bf1 (bf2 (bf1 hn)))))))))
    | 14, _ => exact (bf1 (bf2 (bf1 (bf1 (bf2 (bf2 (bf1 (bf1 (bf2 (bf1 hn))))))))))
    | 15, _ => exact (bf2 (bf2 (bf1 (bf1 (bf2 (bf2 (bf1 (bf1 (bf2 (bf1 hn))))))))))
    | 16, _ => exact (bf1 (bf2 (bf1 (bf2 (bf2 (bf1 (bf1 (bf2 (bf1 hn)))))))))
    | 17, _ => exact (bf1 (bf2 (bf2 (bf1 (bf2 (bf2 (bf1 (bf1 (bf2 (bf1 hn))))))))))
    | 18, _ => exact (bf2 (bf2 (bf2 (bf1 (bf2 (bf2 (bf1 (bf1 (bf2 (bf1 hn))))))))))
    | 19, _ => exact (bf1 (bf1 (bf2 (bf2 (bf2 (bf1 (bf1 (bf2 (bf1 hn)))))))))
    | 20, _ => exact (bf1 (bf2 (bf1 (bf2 (bf2 (bf2 (bf1 (bf1 (bf2 (bf1 hn))))))))))
    | 21, _ => exact (bf2 (bf2 (bf1 (bf2 (bf2 (bf2 (bf1 (bf1 (bf2 (bf1 hn))))))))))
    | 22, _ => exact (bf1 (bf1 (bf2 (bf2 (bf2 (bf2 (bf1 (bf1 (bf2 (bf1 hn))))))))))
    | 23, _ => exact (bf2 (bf1 (bf2 (bf2 (bf2 (bf2 (bf1 (bf1 (bf2 (bf1 hn))))))))))
    | 24, _ => exact (bf1 (bf2 (bf2 (bf2 (bf2 (bf2 (bf1 (bf1 (bf2 (bf1 hn))))))))))
    | z + 25, hz => exact absurd hz (Nat.not_lt.mpr (Nat.le_add_left _ _))) (by decide) hF
  exact ⟨a, t, fun q hq => by cases hq; exact h⟩
set_option maxRecDepth 20000 in
theorem sx_6 {A : Array Value} {s : State} {F : Nat → Prop} (hts : ∀ w ∈ lw_tbl, w.before A s = true) (hn : narrow_1.before A s = true) (hF : ∀ a : Nat, a < s.heap.size → ¬ F a) : ∃ a t, sx_P s F 6 a t := by
  obtain ⟨a, t, h⟩ := sx_one (A := A) (F := F) (own := "SiltHarbour") (k := 258) (tx := "a berth has no such number") (jg_byt.getD 6 []) (hts _ (jt_m6 86 rfl)) (bf2 (bf2 (bf2 (bf2 (bf2 (bf2 (bf1 (bf1 (bf2 (bf1 hn)))))))))) (bf1 (bf1 (bf1 (bf1 (bf1 (bf2 (bf1 (bf2 (bf1 hn))))))))) (bf1 (bf2 (bf1 (bf1 (bf1 (bf1 (bf2 (bf1 (bf2 (bf1 hn)))))))))) (bf2 (bf2 (bf1 (bf1 (bf1 (bf1 (bf2 (bf1 (bf2 (bf1 hn)))))))))) (fun j hj => by
    match j, hj with
    | 0, _ => exact (bf1 (bf2 (bf1 (bf1 (bf1 (bf2 (bf1 (bf2 (bf1 hn)))))))))
    | 1, _ => exact (bf1 (bf2 (bf2 (bf1 (bf1 (bf1 (bf2 (bf1 (bf2 (bf1 hn))))))))))
    | 2, _ => exact (bf2 (bf2 (bf2 (bf1 (bf1 (bf1 (bf2 (bf1 (bf2 (bf1 hn))))))))))
    | 3, _ => exact (bf1 (bf1 (bf2 (bf1 (bf1 (bf2 (bf1 (bf2 (bf1 hn)))))))))
    | 4, _ => exact (bf1 (bf2 (bf1 (bf2 (bf1 (bf1 (bf2 (bf1 (bf2 (bf1 hn))))))))))
    | 5, _ => exact (bf2 (bf2 (bf1 (bf2 (bf1 (bf1 (bf2 (bf1 (bf2 (bf1 hn))))))))))
    | 6, _ => exact (bf1 (bf1 (bf2 (bf2 (bf1 (bf1 (bf2 (bf1 (bf2 (bf1 hn))))))))))
    | 7, _ => exact (bf2 (bf1 (bf2 (bf2 (bf1 (bf1 (bf2 (bf1 (bf2 (bf1 hn))))))))))
    | 8, _ => exact (bf1 (bf2 (bf2 (bf2 (bf1 (bf1 (bf2 (bf1 (bf2 (bf1 hn))))))))))
    | 9, _ => exact (bf2 (bf2 (bf2 (bf2 (bf1 (bf1 (bf2 (bf1 (bf2 (bf1 hn))))))))))
    | 10, _ => exact (bf1 (bf1 (bf1 (bf2 (bf1 (bf2 (bf1 (bf2 (bf1 hn)))))))))
    | 11, _ => exact (bf1 (bf2 (bf1 (bf1 (bf2 (bf1 (bf2 (bf1 (bf2 (bf1 hn))))))))))
    | 12, _ => exact (bf2 (bf2 (bf1 (bf1 (bf2 (bf1 (bf2 (bf1 (bf2 (bf1 hn))))))))))
    | 13, _ => exact (bf1 (bf2 (bf1 (bf2 (bf1 (bf2 (bf1 (bf2 (bf1 hn)))))))))
    | 14, _ => exact (bf1 (bf2 (bf2 (bf1 (bf2 (bf1 (bf2 (bf1 (bf2 (bf1 hn))))))))))
    | 15, _ => exact (bf2 (bf2 (bf2 (bf1 (bf2 (bf1 (bf2 (bf1 (bf2 (bf1 hn))))))))))
    | 16, _ => exact (bf1 (bf1 (bf2 (bf2 (bf1 (bf2 (bf1 (bf2 (bf1 hn)))))))))
    | 17, _ => exact (bf1 (bf2 (bf1 (bf2 (bf2 (bf1 (bf2 (bf1 (bf2 (bf1 hn))))))))))
    | 18, _ => exact (bf2 (bf2 (bf1 (bf2 (bf2 (bf1 (bf2 (bf1 (bf2 (bf1 hn))))))))))
    | 19, _ => exact (bf1 (bf1 (bf2 (bf2 (bf2 (bf1 (bf2 (bf1 (bf2 (bf1 hn))))))))))
    | 20, _ => exact (bf2 (bf1 (bf2 (bf2 (bf2 (bf1 (bf2 (bf1 (bf2 (bf1 hn))))))))))
    | 21, _ => exact (bf1 (bf2 (bf2 (bf2 (bf2 (bf1 (bf2 (bf1 (bf2 (bf1 hn))))))))))
    | 22, _ => exact (bf2 (bf2 (bf2 (bf2 (bf2 (bf1 (bf2 (bf1 (bf2 (bf1 hn))))))))))
    | 23, _ => exact (bf1 (bf1 (bf1 (bf1 (bf2 (bf2 (bf1 (bf2 (bf1 hn)))))))))
    | 24, _ => exact (bf1 (bf2 (bf1 (bf1 (bf1 (bf2 (bf2 (bf1 (bf2 (bf1 hn))))))))))
    | 25, _ => exact (bf2 (bf2 (bf1 (bf1 (bf1 (bf2 (bf2 (bf1 (bf2 (bf1 hn))))))))))
    | z + 26, hz => exact absurd hz (Nat.not_lt.mpr (Nat.le_add_left _ _))) (by decide) hF
  exact ⟨a, t, fun q hq => by cases hq; exact h⟩
set_option maxRecDepth 20000 in
theorem sx_7 {A : Array Value} {s : State} {F : Nat → Prop} (hts : ∀ w ∈ lw_tbl, w.before A s = true) (hn : narrow_1.before A s = true) (hF : ∀ a : Nat, a < s.heap.size → ¬ F a) : ∃ a t, sx_P s F 7 a t := by
  obtain ⟨a, t, h⟩ := sx_one (A := A) (F := F) (own := "SiltHarbour$Reader") (k := 103) (tx := "ton     ship    back    vote    turn    clear   pass    borrow  ") (jg_byt.getD 7 []) (hts _ (jt_m6 133 rfl)) (bf1 (bf2 (bf1 (bf1 (bf2 (bf2 (bf1 (bf2 (bf1 hn))))))))) (bf1 (bf2 (bf2 (bf1 (bf1 (bf2 (bf2 (bf1 (bf2 (bf1 hn)))))))))) (bf2 (bf2 (bf2 (bf1 (bf1 (bf2 (bf2 (bf1 (bf2 (bf1 hn)))))))))) (bf1 (bf1 (bf2 (bf1 (bf2 (bf2 (bf1 (bf2 (bf1 hn))))))))) (fun j hj => by
    match j, hj with
    | 0, _ => exact (bf1 (bf2 (bf1 (bf2 (bf1 (bf2 (bf2 (bf1 (bf2 (bf1 hn))))))))))
    | 1, _ => exact (bf2 (bf2 (bf1 (bf2 (bf1 (bf2 (bf2 (bf1 (bf2 (bf1 hn))))))))))
    | 2, _ => exact (bf1 (bf1 (bf2 (bf2 (bf1 (bf2 (bf2 (bf1 (bf2 (bf1 hn))))))))))
    | 3, _ => exact (bf2 (bf1 (bf2 (bf2 (bf1 (bf2 (bf2 (bf1 (bf2 (bf1 hn))))))))))
    | 4, _ => exact (bf1 (bf2 (bf2 (bf2 (bf1 (bf2 (bf2 (bf1 (bf2 (bf1 hn))))))))))
    | 5, _ => exact (bf2 (bf2 (bf2 (bf2 (bf1 (bf2 (bf2 (bf1 (bf2 (bf1 hn))))))))))
    | 6, _ => exact (bf1 (bf1 (bf1 (bf2 (bf2 (bf2 (bf1 (bf2 (bf1 hn)))))))))
    | 7, _ => exact (bf1 (bf2 (bf1 (bf1 (bf2 (bf2 (bf2 (bf1 (bf2 (bf1 hn))))))))))
    | 8, _ => exact (bf2 (bf2 (bf1 (bf1 (bf2 (bf2 (bf2 (bf1 (bf2 (bf1 hn))))))))))
    | 9, _ => exact (bf1 (bf1 (bf2 (bf1 (bf2 (bf2 (bf2 (bf1 (bf2 (bf1 hn))))))))))
    | 10, _ => exact (bf2 (bf1 (bf2 (bf1 (bf2 (bf2 (bf2 (bf1 (bf2 (bf1 hn))))))))))
    | 11, _ => exact (bf1 (bf2 (bf2 (bf1 (bf2 (bf2 (bf2 (bf1 (bf2 (bf1 hn))))))))))
    | 12, _ => exact (bf2 (bf2 (bf2 (bf1 (bf2 (bf2 (bf2 (bf1 (bf2 (bf1 hn))))))))))
    | 13, _ => exact (bf1 (bf1 (bf2 (bf2 (bf2 (bf2 (bf1 (bf2 (bf1 hn)))))))))
    | 14, _ => exact (bf1 (bf2 (bf1 (bf2 (bf2 (bf2 (bf2 (bf1 (bf2 (bf1 hn))))))))))
    | 15, _ => exact (bf2 (bf2 (bf1 (bf2 (bf2 (bf2 (bf2 (bf1 (bf2 (bf1 hn))))))))))
    | 16, _ => exact (bf1 (bf1 (bf2 (bf2 (bf2 (bf2 (bf2 (bf1 (bf2 (bf1 hn))))))))))
    | 17, _ => exact (bf2 (bf1 (bf2 (bf2 (bf2 (bf2 (bf2 (bf1 (bf2 (bf1 hn))))))))))
    | 18, _ => exact (bf1 (bf2 (bf2 (bf2 (bf2 (bf2 (bf2 (bf1 (bf2 (bf1 hn))))))))))
    | 19, _ => exact (bf2 (bf2 (bf2 (bf2 (bf2 (bf2 (bf2 (bf1 (bf2 (bf1 hn))))))))))
    | 20, _ => exact (bf1 (bf1 (bf1 (bf1 (bf1 (bf1 (bf2 (bf2 (bf1 hn)))))))))
    | 21, _ => exact (bf1 (bf2 (bf1 (bf1 (bf1 (bf1 (bf1 (bf2 (bf2 (bf1 hn))))))))))
    | 22, _ => exact (bf2 (bf2 (bf1 (bf1 (bf1 (bf1 (bf1 (bf2 (bf2 (bf1 hn))))))))))
    | 23, _ => exact (bf1 (bf2 (bf1 (bf1 (bf1 (bf1 (bf2 (bf2 (bf1 hn)))))))))
    | 24, _ => exact (bf1 (bf2 (bf2 (bf1 (bf1 (bf1 (bf1 (bf2 (bf2 (bf1 hn))))))))))
    | 25, _ => exact (bf2 (bf2 (bf2 (bf1 (bf1 (bf1 (bf1 (bf2 (bf2 (bf1 hn))))))))))
    | 26, _ => exact (bf1 (bf1 (bf2 (bf1 (bf1 (bf1 (bf2 (bf2 (bf1 hn)))))))))
    | 27, _ => exact (bf1 (bf2 (bf1 (bf2 (bf1 (bf1 (bf1 (bf2 (bf2 (bf1 hn))))))))))
    | 28, _ => exact (bf2 (bf2 (bf1 (bf2 (bf1 (bf1 (bf1 (bf2 (bf2 (bf1 hn))))))))))
    | 29, _ => exact (bf1 (bf1 (bf2 (bf2 (bf1 (bf1 (bf1 (bf2 (bf2 (bf1 hn))))))))))
    | 30, _ => exact (bf2 (bf1 (bf2 (bf2 (bf1 (bf1 (bf1 (bf2 (bf2 (bf1 hn))))))))))
    | 31, _ => exact (bf1 (bf2 (bf2 (bf2 (bf1 (bf1 (bf1 (bf2 (bf2 (bf1 hn))))))))))
    | 32, _ => exact (bf2 (bf2 (bf2 (bf2 (bf1 (bf1 (bf1 (bf2 (bf2 (bf1 hn))))))))))
    | 33, _ => exact (bf1 (bf1 (bf1 (bf2 (bf1 (bf1 (bf2 (bf2 (bf1 hn)))))))))
    | 34, _ => exact (bf1 (bf2 (bf1 (bf1 (bf2 (bf1 (bf1 (bf2 (bf2 (bf1 hn))))))))))
    | 35, _ => exact (bf2 (bf2 (bf1 (bf1 (bf2 (bf1 (bf1 (bf2 (bf2 (bf1 hn))))))))))
    | 36, _ => exact (bf1 (bf2 (bf1 (bf2 (bf1 (bf1 (bf2 (bf2 (bf1 hn)))))))))
    | 37, _ => exact (bf1 (bf2 (bf2 (bf1 (bf2 (bf1 (bf1 (bf2 (bf2 (bf1 hn))))))))))
    | 38, _ => exact (bf2 (bf2 (bf2 (bf1 (bf2 (bf1 (bf1 (bf2 (bf2 (bf1 hn))))))))))
    | 39, _ => exact (bf1 (bf1 (bf2 (bf2 (bf1 (bf1 (bf2 (bf2 (bf1 hn)))))))))
    | 40, _ => exact (bf1 (bf2 (bf1 (bf2 (bf2 (bf1 (bf1 (bf2 (bf2 (bf1 hn))))))))))
    | 41, _ => exact (bf2 (bf2 (bf1 (bf2 (bf2 (bf1 (bf1 (bf2 (bf2 (bf1 hn))))))))))
    | 42, _ => exact (bf1 (bf1 (bf2 (bf2 (bf2 (bf1 (bf1 (bf2 (bf2 (bf1 hn))))))))))
    | 43, _ => exact (bf2 (bf1 (bf2 (bf2 (bf2 (bf1 (bf1 (bf2 (bf2 (bf1 hn))))))))))
    | 44, _ => exact (bf1 (bf2 (bf2 (bf2 (bf2 (bf1 (bf1 (bf2 (bf2 (bf1 hn))))))))))
    | 45, _ => exact (bf2 (bf2 (bf2 (bf2 (bf2 (bf1 (bf1 (bf2 (bf2 (bf1 hn))))))))))
    | 46, _ => exact (bf1 (bf1 (bf1 (bf1 (bf2 (bf1 (bf2 (bf2 (bf1 hn)))))))))
    | 47, _ => exact (bf1 (bf2 (bf1 (bf1 (bf1 (bf2 (bf1 (bf2 (bf2 (bf1 hn))))))))))
    | 48, _ => exact (bf2 (bf2 (bf1 (bf1 (bf1 (bf2 (bf1 (bf2 (bf2 (bf1 hn))))))))))
    | 49, _ => exact (bf1 (bf2 (bf1 (bf1 (bf2 (bf1 (bf2 (bf2 (bf1 hn)))))))))
    | 50, _ => exact (bf1 (bf2 (bf2 (bf1 (bf1 (bf2 (bf1 (bf2 (bf2 (bf1 hn))))))))))
    | 51, _ => exact (bf2 (bf2 (bf2 (bf1 (bf1 (bf2 (bf1 (bf2 (bf2 (bf1 hn))))))))))
    | 52, _ => exact (bf1 (bf1 (bf2 (bf1 (bf2 (bf1 (bf2 (bf2 (bf1 hn)))))))))
    | 53, _ => exact (bf1 (bf2 (bf1 (bf2 (bf1 (bf2 (bf1 (bf2 (bf2 (bf1 hn))))))))))
    | 54, _ => exact (bf2 (bf2 (bf1 (bf2 (bf1 (bf2 (bf1 (bf2 (bf2 (bf1 hn))))))))))
    | 55, _ => exact (bf1 (bf1 (bf2 (bf2 (bf1 (bf2 (bf1 (bf2 (bf2 (bf1 hn))))))))))
    | 56, _ => exact (bf2 (bf1 (bf2 (bf2 (bf1 (bf2 (bf1 (bf2 (bf2 (bf1 hn))))))))))
    | 57, _ => exact (bf1 (bf2 (bf2 (bf2 (bf1 (bf2 (bf1 (bf2 (bf2 (bf1 hn))))))))))
    | 58, _ => exact (bf2 (bf2 (bf2 (bf2 (bf1 (bf2 (bf1 (bf2 (bf2 (bf1 hn))))))))))
    | 59, _ => exact (bf1 (bf1 (bf1 (bf2 (bf2 (bf1 (bf2 (bf2 (bf1 hn)))))))))
    | 60, _ => exact (bf1 (bf2 (bf1 (bf1 (bf2 (bf2 (bf1 (bf2 (bf2 (bf1 hn))))))))))
    | 61, _ => exact (bf2 (bf2 (bf1 (bf1 (bf2 (bf2 (bf1 (bf2 (bf2 (bf1 hn))))))))))
    | 62, _ => exact (bf1 (bf2 (bf1 (bf2 (bf2 (bf1 (bf2 (bf2 (bf1 hn)))))))))
    | 63, _ => exact (bf1 (bf2 (bf2 (bf1 (bf2 (bf2 (bf1 (bf2 (bf2 (bf1 hn))))))))))
    | z + 64, hz => exact absurd hz (Nat.not_lt.mpr (Nat.le_add_left _ _))) (by decide) hF
  exact ⟨a, t, fun q hq => by cases hq; exact h⟩
set_option maxRecDepth 20000 in
theorem sx_8 {A : Array Value} {s : State} {F : Nat → Prop} (hts : ∀ w ∈ lw_tbl, w.before A s = true) (hn : narrow_1.before A s = true) (hF : ∀ a : Nat, a < s.heap.size → ¬ F a) : ∃ a t, sx_P s F 8 a t := by
  obtain ⟨a, t, h⟩ := sx_one (A := A) (F := F) (own := "SiltHarbour$Reader") (k := 109) (tx := "coal    grain   timber  cotton  ore     mail    foreign tons    long    stay    paid    last    ") (jg_byt.getD 8 []) (hts _ (jt_m6 185 rfl)) (bf2 (bf2 (bf2 (bf1 (bf2 (bf2 (bf1 (bf2 (bf2 (bf1 hn)))))))))) (bf1 (bf1 (bf2 (bf2 (bf2 (bf1 (bf2 (bf2 (bf1 hn))))))))) (bf1 (bf2 (bf1 (bf2 (bf2 (bf2 (bf1 (bf2 (bf2 (bf1 hn)))))))))) (bf2 (bf2 (bf1 (bf2 (bf2 (bf2 (bf1 (bf2 (bf2 (bf1 hn)))))))))) (fun j hj => by
    match j, hj with
    | 0, _ => exact (bf1 (bf1 (bf2 (bf2 (bf2 (bf2 (bf1 (bf2 (bf2 (bf1 hn))))))))))
    | 1, _ => exact (bf2 (bf1 (bf2 (bf2 (bf2 (bf2 (bf1 (bf2 (bf2 (bf1 hn))))))))))
    | 2, _ => exact (bf1 (bf2 (bf2 (bf2 (bf2 (bf2 (bf1 (bf2 (bf2 (bf1 hn))))))))))
    | 3, _ => exact (bf2 (bf2 (bf2 (bf2 (bf2 (bf2 (bf1 (bf2 (bf2 (bf1 hn))))))))))
    | 4, _ => exact (bf1 (bf1 (bf1 (bf1 (bf1 (bf2 (bf2 (bf2 (bf1 hn)))))))))
    | 5, _ => exact (bf1 (bf2 (bf1 (bf1 (bf1 (bf1 (bf2 (bf2 (bf2 (bf1 hn))))))))))
    | 6, _ => exact (bf2 (bf2 (bf1 (bf1 (bf1 (bf1 (bf2 (bf2 (bf2 (bf1 hn))))))))))
    | 7, _ => exact (bf1 (bf2 (bf1 (bf1 (bf1 (bf2 (bf2 (bf2 (bf1 hn)))))))))
    | 8, _ => exact (bf1 (bf2 (bf2 (bf1 (bf1 (bf1 (bf2 (bf2 (bf2 (bf1 hn))))))))))
    | 9, _ => exact (bf2 (bf2 (bf2 (bf1 (bf1 (bf1 (bf2 (bf2 (bf2 (bf1 hn))))))))))
    | 10, _ => exact (bf1 (bf1 (bf2 (bf1 (bf1 (bf2 (bf2 (bf2 (bf1 hn)))))))))
    | 11, _ => exact (bf1 (bf2 (bf1 (bf2 (bf1 (bf1 (bf2 (bf2 (bf2 (bf1 hn))))))))))
    | 12, _ => exact (bf2 (bf2 (bf1 (bf2 (bf1 (bf1 (bf2 (bf2 (bf2 (bf1 hn))))))))))
    | 13, _ => exact (bf1 (bf1 (bf2 (bf2 (bf1 (bf1 (bf2 (bf2 (bf2 (bf1 hn))))))))))
    | 14, _ => exact (bf2 (bf1 (bf2 (bf2 (bf1 (bf1 (bf2 (bf2 (bf2 (bf1 hn))))))))))
    | 15, _ => exact (bf1 (bf2 (bf2 (bf2 (bf1 (bf1 (bf2 (bf2 (bf2 (bf1 hn))))))))))
    | 16, _ => exact (bf2 (bf2 (bf2 (bf2 (bf1 (bf1 (bf2 (bf2 (bf2 (bf1 hn))))))))))
    | 17, _ => exact (bf1 (bf1 (bf1 (bf2 (bf1 (bf2 (bf2 (bf2 (bf1 hn)))))))))
    | 18, _ => exact (bf1 (bf2 (bf1 (bf1 (bf2 (bf1 (bf2 (bf2 (bf2 (bf1 hn))))))))))
    | 19, _ => exact (bf2 (bf2 (bf1 (bf1 (bf2 (bf1 (bf2 (bf2 (bf2 (bf1 hn))))))))))
    | 20, _ => exact (bf1 (bf2 (bf1 (bf2 (bf1 (bf2 (bf2 (bf2 (bf1 hn)))))))))
    | 21, _ => exact (bf1 (bf2 (bf2 (bf1 (bf2 (bf1 (bf2 (bf2 (bf2 (bf1 hn))))))))))
    | 22, _ => exact (bf2 (bf2 (bf2 (bf1 (bf2 (bf1 (bf2 (bf2 (bf2 (bf1 hn))))))))))
    | 23, _ => exact (bf1 (bf1 (bf2 (bf2 (bf1 (bf2 (bf2 (bf2 (bf1 hn)))))))))
    | 24, _ => exact (bf1 (bf2 (bf1 (bf2 (bf2 (bf1 (bf2 (bf2 (bf2 (bf1 hn))))))))))
    | 25, _ => exact (bf2 (bf2 (bf1 (bf2 (bf2 (bf1 (bf2 (bf2 (bf2 (bf1 hn))))))))))
    | 26, _ => exact (bf1 (bf1 (bf2 (bf2 (bf2 (bf1 (bf2 (bf2 (bf2 (bf1 hn))))))))))
    | 27, _ => exact (bf2 (bf1 (bf2 (bf2 (bf2 (bf1 (bf2 (bf2 (bf2 (bf1 hn))))))))))
    | 28, _ => exact (bf1 (bf2 (bf2 (bf2 (bf2 (bf1 (bf2 (bf2 (bf2 (bf1 hn))))))))))
    | 29, _ => exact (bf2 (bf2 (bf2 (bf2 (bf2 (bf1 (bf2 (bf2 (bf2 (bf1 hn))))))))))
    | 30, _ => exact (bf1 (bf1 (bf1 (bf1 (bf2 (bf2 (bf2 (bf2 (bf1 hn)))))))))
    | 31, _ => exact (bf1 (bf2 (bf1 (bf1 (bf1 (bf2 (bf2 (bf2 (bf2 (bf1 hn))))))))))
    | 32, _ => exact (bf2 (bf2 (bf1 (bf1 (bf1 (bf2 (bf2 (bf2 (bf2 (bf1 hn))))))))))
    | 33, _ => exact (bf1 (bf2 (bf1 (bf1 (bf2 (bf2 (bf2 (bf2 (bf1 hn)))))))))
    | 34, _ => exact (bf1 (bf2 (bf2 (bf1 (bf1 (bf2 (bf2 (bf2 (bf2 (bf1 hn))))))))))
    | 35, _ => exact (bf2 (bf2 (bf2 (bf1 (bf1 (bf2 (bf2 (bf2 (bf2 (bf1 hn))))))))))
    | 36, _ => exact (bf1 (bf1 (bf2 (bf1 (bf2 (bf2 (bf2 (bf2 (bf1 hn)))))))))
    | 37, _ => exact (bf1 (bf2 (bf1 (bf2 (bf1 (bf2 (bf2 (bf2 (bf2 (bf1 hn))))))))))
    | 38, _ => exact (bf2 (bf2 (bf1 (bf2 (bf1 (bf2 (bf2 (bf2 (bf2 (bf1 hn))))))))))
    | 39, _ => exact (bf1 (bf1 (bf2 (bf2 (bf1 (bf2 (bf2 (bf2 (bf2 (bf1 hn))))))))))
    | 40, _ => exact (bf2 (bf1 (bf2 (bf2 (bf1 (bf2 (bf2 (bf2 (bf2 (bf1 hn))))))))))
    | 41, _ => exact (bf1 (bf2 (bf2 (bf2 (bf1 (bf2 (bf2 (bf2 (bf2 (bf1 hn))))))))))
    | 42, _ => exact (bf2 (bf2 (bf2 (bf2 (bf1 (bf2 (bf2 (bf2 (bf2 (bf1 hn))))))))))
    | 43, _ => exact (bf1 (bf1 (bf1 (bf2 (bf2 (bf2 (bf2 (bf2 (bf1 hn)))))))))
    | 44, _ => exact (bf1 (bf2 (bf1 (bf1 (bf2 (bf2 (bf2 (bf2 (bf2 (bf1 hn))))))))))
    | 45, _ => exact (bf2 (bf2 (bf1 (bf1 (bf2 (bf2 (bf2 (bf2 (bf2 (bf1 hn))))))))))
    | 46, _ => exact (bf1 (bf1 (bf2 (bf1 (bf2 (bf2 (bf2 (bf2 (bf2 (bf1 hn))))))))))
    | 47, _ => exact (bf2 (bf1 (bf2 (bf1 (bf2 (bf2 (bf2 (bf2 (bf2 (bf1 hn))))))))))
    | 48, _ => exact (bf1 (bf2 (bf2 (bf1 (bf2 (bf2 (bf2 (bf2 (bf2 (bf1 hn))))))))))
    | 49, _ => exact (bf2 (bf2 (bf2 (bf1 (bf2 (bf2 (bf2 (bf2 (bf2 (bf1 hn))))))))))
    | 50, _ => exact (bf1 (bf1 (bf2 (bf2 (bf2 (bf2 (bf2 (bf2 (bf1 hn)))))))))
    | 51, _ => exact (bf1 (bf2 (bf1 (bf2 (bf2 (bf2 (bf2 (bf2 (bf2 (bf1 hn))))))))))
    | 52, _ => exact (bf2 (bf2 (bf1 (bf2 (bf2 (bf2 (bf2 (bf2 (bf2 (bf1 hn))))))))))
    | 53, _ => exact (bf1 (bf1 (bf2 (bf2 (bf2 (bf2 (bf2 (bf2 (bf2 (bf1 hn))))))))))
    | 54, _ => exact (bf2 (bf1 (bf2 (bf2 (bf2 (bf2 (bf2 (bf2 (bf2 (bf1 hn))))))))))
    | 55, _ => exact (bf1 (bf2 (bf2 (bf2 (bf2 (bf2 (bf2 (bf2 (bf2 (bf1 hn))))))))))
    | 56, _ => exact (bf2 (bf2 (bf2 (bf2 (bf2 (bf2 (bf2 (bf2 (bf2 (bf1 hn))))))))))
    | 57, _ => exact (bf1 (bf1 (bf1 (bf1 (bf1 (bf1 (bf1 (bf1 (bf2 hn)))))))))
    | 58, _ => exact (bf1 (bf2 (bf1 (bf1 (bf1 (bf1 (bf1 (bf1 (bf1 (bf2 hn))))))))))
    | 59, _ => exact (bf2 (bf2 (bf1 (bf1 (bf1 (bf1 (bf1 (bf1 (bf1 (bf2 hn))))))))))
    | 60, _ => exact (bf1 (bf2 (bf1 (bf1 (bf1 (bf1 (bf1 (bf1 (bf2 hn)))))))))
    | 61, _ => exact (bf1 (bf2 (bf2 (bf1 (bf1 (bf1 (bf1 (bf1 (bf1 (bf2 hn))))))))))
    | 62, _ => exact (bf2 (bf2 (bf2 (bf1 (bf1 (bf1 (bf1 (bf1 (bf1 (bf2 hn))))))))))
    | 63, _ => exact (bf1 (bf1 (bf2 (bf1 (bf1 (bf1 (bf1 (bf1 (bf2 hn)))))))))
    | 64, _ => exact (bf1 (bf2 (bf1 (bf2 (bf1 (bf1 (bf1 (bf1 (bf1 (bf2 hn))))))))))
    | 65, _ => exact (bf2 (bf2 (bf1 (bf2 (bf1 (bf1 (bf1 (bf1 (bf1 (bf2 hn))))))))))
    | 66, _ => exact (bf1 (bf1 (bf2 (bf2 (bf1 (bf1 (bf1 (bf1 (bf1 (bf2 hn))))))))))
    | 67, _ => exact (bf2 (bf1 (bf2 (bf2 (bf1 (bf1 (bf1 (bf1 (bf1 (bf2 hn))))))))))
    | 68, _ => exact (bf1 (bf2 (bf2 (bf2 (bf1 (bf1 (bf1 (bf1 (bf1 (bf2 hn))))))))))
    | 69, _ => exact (bf2 (bf2 (bf2 (bf2 (bf1 (bf1 (bf1 (bf1 (bf1 (bf2 hn))))))))))
    | 70, _ => exact (bf1 (bf1 (bf1 (bf2 (bf1 (bf1 (bf1 (bf1 (bf2 hn)))))))))
    | 71, _ => exact (bf1 (bf2 (bf1 (bf1 (bf2 (bf1 (bf1 (bf1 (bf1 (bf2 hn))))))))))
    | 72, _ => exact (bf2 (bf2 (bf1 (bf1 (bf2 (bf1 (bf1 (bf1 (bf1 (bf2 hn))))))))))
    | 73, _ => exact (bf1 (bf2 (bf1 (bf2 (bf1 (bf1 (bf1 (bf1 (bf2 hn)))))))))
    | 74, _ => exact (bf1 (bf2 (bf2 (bf1 (bf2 (bf1 (bf1 (bf1 (bf1 (bf2 hn))))))))))
    | 75, _ => exact (bf2 (bf2 (bf2 (bf1 (bf2 (bf1 (bf1 (bf1 (bf1 (bf2 hn))))))))))
    | 76, _ => exact (bf1 (bf1 (bf2 (bf2 (bf1 (bf1 (bf1 (bf1 (bf2 hn)))))))))
    | 77, _ => exact (bf1 (bf2 (bf1 (bf2 (bf2 (bf1 (bf1 (bf1 (bf1 (bf2 hn))))))))))
    | 78, _ => exact (bf2 (bf2 (bf1 (bf2 (bf2 (bf1 (bf1 (bf1 (bf1 (bf2 hn))))))))))
    | 79, _ => exact (bf1 (bf1 (bf2 (bf2 (bf2 (bf1 (bf1 (bf1 (bf1 (bf2 hn))))))))))
    | 80, _ => exact (bf2 (bf1 (bf2 (bf2 (bf2 (bf1 (bf1 (bf1 (bf1 (bf2 hn))))))))))
    | 81, _ => exact (bf1 (bf2 (bf2 (bf2 (bf2 (bf1 (bf1 (bf1 (bf1 (bf2 hn))))))))))
    | 82, _ => exact (bf2 (bf2 (bf2 (bf2 (bf2 (bf1 (bf1 (bf1 (bf1 (bf2 hn))))))))))
    | 83, _ => exact (bf1 (bf1 (bf1 (bf1 (bf2 (bf1 (bf1 (bf1 (bf2 hn)))))))))
    | 84, _ => exact (bf1 (bf2 (bf1 (bf1 (bf1 (bf2 (bf1 (bf1 (bf1 (bf2 hn))))))))))
    | 85, _ => exact (bf2 (bf2 (bf1 (bf1 (bf1 (bf2 (bf1 (bf1 (bf1 (bf2 hn))))))))))
    | 86, _ => exact (bf1 (bf2 (bf1 (bf1 (bf2 (bf1 (bf1 (bf1 (bf2 hn)))))))))
    | 87, _ => exact (bf1 (bf2 (bf2 (bf1 (bf1 (bf2 (bf1 (bf1 (bf1 (bf2 hn))))))))))
    | 88, _ => exact (bf2 (bf2 (bf2 (bf1 (bf1 (bf2 (bf1 (bf1 (bf1 (bf2 hn))))))))))
    | 89, _ => exact (bf1 (bf1 (bf2 (bf1 (bf2 (bf1 (bf1 (bf1 (bf2 hn)))))))))
    | 90, _ => exact (bf1 (bf2 (bf1 (bf2 (bf1 (bf2 (bf1 (bf1 (bf1 (bf2 hn))))))))))
    | 91, _ => exact (bf2 (bf2 (bf1 (bf2 (bf1 (bf2 (bf1 (bf1 (bf1 (bf2 hn))))))))))
    | 92, _ => exact (bf1 (bf1 (bf2 (bf2 (bf1 (bf2 (bf1 (bf1 (bf1 (bf2 hn))))))))))
    | 93, _ => exact (bf2 (bf1 (bf2 (bf2 (bf1 (bf2 (bf1 (bf1 (bf1 (bf2 hn))))))))))
    | 94, _ => exact (bf1 (bf2 (bf2 (bf2 (bf1 (bf2 (bf1 (bf1 (bf1 (bf2 hn))))))))))
    | 95, _ => exact (bf2 (bf2 (bf2 (bf2 (bf1 (bf2 (bf1 (bf1 (bf1 (bf2 hn))))))))))
    | z + 96, hz => exact absurd hz (Nat.not_lt.mpr (Nat.le_add_left _ _))) (by decide) hF
  exact ⟨a, t, fun q hq => by cases hq; exact h⟩
set_option maxRecDepth 20000 in
theorem sx_9 {A : Array Value} {s : State} {F : Nat → Prop} (hts : ∀ w ∈ lw_tbl, w.before A s = true) (hn : narrow_1.before A s = true) (hF : ∀ a : Nat, a < s.heap.size → ¬ F a) : ∃ a t, sx_P s F 9 a t := by
  obtain ⟨a, t, h⟩ := sx_one (A := A) (F := F) (own := "SiltHarbour$Reader") (k := 111) (tx := "come    good    if      or      and     not     down    ") (jg_byt.getD 9 []) (hts _ (jt_m6 186 rfl)) (bf1 (bf1 (bf1 (bf2 (bf2 (bf1 (bf1 (bf1 (bf2 hn))))))))) (bf1 (bf2 (bf1 (bf1 (bf2 (bf2 (bf1 (bf1 (bf1 (bf2 hn)))))))))) (bf2 (bf2 (bf1 (bf1 (bf2 (bf2 (bf1 (bf1 (bf1 (bf2 hn)))))))))) (bf1 (bf2 (bf1 (bf2 (bf2 (bf1 (bf1 (bf1 (bf2 hn))))))))) (fun j hj => by
    match j, hj with
    | 0, _ => exact (bf1 (bf2 (bf2 (bf1 (bf2 (bf2 (bf1 (bf1 (bf1 (bf2 hn))))))))))
    | 1, _ => exact (bf2 (bf2 (bf2 (bf1 (bf2 (bf2 (bf1 (bf1 (bf1 (bf2 hn))))))))))
    | 2, _ => exact (bf1 (bf1 (bf2 (bf2 (bf2 (bf1 (bf1 (bf1 (bf2 hn)))))))))
    | 3, _ => exact (bf1 (bf2 (bf1 (bf2 (bf2 (bf2 (bf1 (bf1 (bf1 (bf2 hn))))))))))
    | 4, _ => exact (bf2 (bf2 (bf1 (bf2 (bf2 (bf2 (bf1 (bf1 (bf1 (bf2 hn))))))))))
    | 5, _ => exact (bf1 (bf1 (bf2 (bf2 (bf2 (bf2 (bf1 (bf1 (bf1 (bf2 hn))))))))))
    | 6, _ => exact (bf2 (bf1 (bf2 (bf2 (bf2 (bf2 (bf1 (bf1 (bf1 (bf2 hn))))))))))
    | 7, _ => exact (bf1 (bf2 (bf2 (bf2 (bf2 (bf2 (bf1 (bf1 (bf1 (bf2 hn))))))))))
    | 8, _ => exact (bf2 (bf2 (bf2 (bf2 (bf2 (bf2 (bf1 (bf1 (bf1 (bf2 hn))))))))))
    | 9, _ => exact (bf1 (bf1 (bf1 (bf1 (bf1 (bf2 (bf1 (bf1 (bf2 hn)))))))))
    | 10, _ => exact (bf1 (bf2 (bf1 (bf1 (bf1 (bf1 (bf2 (bf1 (bf1 (bf2 hn))))))))))
    | 11, _ => exact (bf2 (bf2 (bf1 (bf1 (bf1 (bf1 (bf2 (bf1 (bf1 (bf2 hn))))))))))
    | 12, _ => exact (bf1 (bf2 (bf1 (bf1 (bf1 (bf2 (bf1 (bf1 (bf2 hn)))))))))
    | 13, _ => exact (bf1 (bf2 (bf2 (bf1 (bf1 (bf1 (bf2 (bf1 (bf1 (bf2 hn))))))))))
    | 14, _ => exact (bf2 (bf2 (bf2 (bf1 (bf1 (bf1 (bf2 (bf1 (bf1 (bf2 hn))))))))))
    | 15, _ => exact (bf1 (bf1 (bf2 (bf1 (bf1 (bf2 (bf1 (bf1 (bf2 hn)))))))))
    | 16, _ => exact (bf1 (bf2 (bf1 (bf2 (bf1 (bf1 (bf2 (bf1 (bf1 (bf2 hn))))))))))
    | 17, _ => exact (bf2 (bf2 (bf1 (bf2 (bf1 (bf1 (bf2 (bf1 (bf1 (bf2 hn))))))))))
    | 18, _ => exact (bf1 (bf1 (bf2 (bf2 (bf1 (bf1 (bf2 (bf1 (bf1 (bf2 hn))))))))))
    | 19, _ => exact (bf2 (bf1 (bf2 (bf2 (bf1 (bf1 (bf2 (bf1 (bf1 (bf2 hn))))))))))
    | 20, _ => exact (bf1 (bf2 (bf2 (bf2 (bf1 (bf1 (bf2 (bf1 (bf1 (bf2 hn))))))))))
    | 21, _ => exact (bf2 (bf2 (bf2 (bf2 (bf1 (bf1 (bf2 (bf1 (bf1 (bf2 hn))))))))))
    | 22, _ => exact (bf1 (bf1 (bf1 (bf2 (bf1 (bf2 (bf1 (bf1 (bf2 hn)))))))))
    | 23, _ => exact (bf1 (bf2 (bf1 (bf1 (bf2 (bf1 (bf2 (bf1 (bf1 (bf2 hn))))))))))
    | 24, _ => exact (bf2 (bf2 (bf1 (bf1 (bf2 (bf1 (bf2 (bf1 (bf1 (bf2 hn))))))))))
    | 25, _ => exact (bf1 (bf2 (bf1 (bf2 (bf1 (bf2 (bf1 (bf1 (bf2 hn)))))))))
    | 26, _ => exact (bf1 (bf2 (bf2 (bf1 (bf2 (bf1 (bf2 (bf1 (bf1 (bf2 hn))))))))))
    | 27, _ => exact (bf2 (bf2 (bf2 (bf1 (bf2 (bf1 (bf2 (bf1 (bf1 (bf2 hn))))))))))
    | 28, _ => exact (bf1 (bf1 (bf2 (bf2 (bf1 (bf2 (bf1 (bf1 (bf2 hn)))))))))
    | 29, _ => exact (bf1 (bf2 (bf1 (bf2 (bf2 (bf1 (bf2 (bf1 (bf1 (bf2 hn))))))))))
    | 30, _ => exact (bf2 (bf2 (bf1 (bf2 (bf2 (bf1 (bf2 (bf1 (bf1 (bf2 hn))))))))))
    | 31, _ => exact (bf1 (bf1 (bf2 (bf2 (bf2 (bf1 (bf2 (bf1 (bf1 (bf2 hn))))))))))
    | 32, _ => exact (bf2 (bf1 (bf2 (bf2 (bf2 (bf1 (bf2 (bf1 (bf1 (bf2 hn))))))))))
    | 33, _ => exact (bf1 (bf2 (bf2 (bf2 (bf2 (bf1 (bf2 (bf1 (bf1 (bf2 hn))))))))))
    | 34, _ => exact (bf2 (bf2 (bf2 (bf2 (bf2 (bf1 (bf2 (bf1 (bf1 (bf2 hn))))))))))
    | 35, _ => exact (bf1 (bf1 (bf1 (bf1 (bf2 (bf2 (bf1 (bf1 (bf2 hn)))))))))
    | 36, _ => exact (bf1 (bf2 (bf1 (bf1 (bf1 (bf2 (bf2 (bf1 (bf1 (bf2 hn))))))))))
    | 37, _ => exact (bf2 (bf2 (bf1 (bf1 (bf1 (bf2 (bf2 (bf1 (bf1 (bf2 hn))))))))))
    | 38, _ => exact (bf1 (bf2 (bf1 (bf1 (bf2 (bf2 (bf1 (bf1 (bf2 hn)))))))))
    | 39, _ => exact (bf1 (bf2 (bf2 (bf1 (bf1 (bf2 (bf2 (bf1 (bf1 (bf2 hn))))))))))
    | 40, _ => exact (bf2 (bf2 (bf2 (bf1 (bf1 (bf2 (bf2 (bf1 (bf1 (bf2 hn))))))))))
    | 41, _ => exact (bf1 (bf1 (bf2 (bf1 (bf2 (bf2 (bf1 (bf1 (bf2 hn)))))))))
    | 42, _ => exact (bf1 (bf2 (bf1 (bf2 (bf1 (bf2 (bf2 (bf1 (bf1 (bf2 hn))))))))))
    | 43, _ => exact (bf2 (bf2 (bf1 (bf2 (bf1 (bf2 (bf2 (bf1 (bf1 (bf2 hn))))))))))
    | 44, _ => exact (bf1 (bf1 (bf2 (bf2 (bf1 (bf2 (bf2 (bf1 (bf1 (bf2 hn))))))))))
    | 45, _ => exact (bf2 (bf1 (bf2 (bf2 (bf1 (bf2 (bf2 (bf1 (bf1 (bf2 hn))))))))))
    | 46, _ => exact (bf1 (bf2 (bf2 (bf2 (bf1 (bf2 (bf2 (bf1 (bf1 (bf2 hn))))))))))
    | 47, _ => exact (bf2 (bf2 (bf2 (bf2 (bf1 (bf2 (bf2 (bf1 (bf1 (bf2 hn))))))))))
    | 48, _ => exact (bf1 (bf1 (bf1 (bf2 (bf2 (bf2 (bf1 (bf1 (bf2 hn)))))))))
    | 49, _ => exact (bf1 (bf2 (bf1 (bf1 (bf2 (bf2 (bf2 (bf1 (bf1 (bf2 hn))))))))))
    | 50, _ => exact (bf2 (bf2 (bf1 (bf1 (bf2 (bf2 (bf2 (bf1 (bf1 (bf2 hn))))))))))
    | 51, _ => exact (bf1 (bf2 (bf1 (bf2 (bf2 (bf2 (bf1 (bf1 (bf2 hn)))))))))
    | 52, _ => exact (bf1 (bf2 (bf2 (bf1 (bf2 (bf2 (bf2 (bf1 (bf1 (bf2 hn))))))))))
    | 53, _ => exact (bf2 (bf2 (bf2 (bf1 (bf2 (bf2 (bf2 (bf1 (bf1 (bf2 hn))))))))))
    | 54, _ => exact (bf1 (bf1 (bf2 (bf2 (bf2 (bf2 (bf1 (bf1 (bf2 hn)))))))))
    | 55, _ => exact (bf1 (bf2 (bf1 (bf2 (bf2 (bf2 (bf2 (bf1 (bf1 (bf2 hn))))))))))
    | z + 56, hz => exact absurd hz (Nat.not_lt.mpr (Nat.le_add_left _ _))) (by decide) hF
  exact ⟨a, t, fun q hq => by cases hq; exact h⟩
set_option maxRecDepth 20000 in
theorem sx_10 {A : Array Value} {s : State} {F : Nat → Prop} (hts : ∀ w ∈ lw_tbl, w.before A s = true) (hn : narrow_1.before A s = true) (hF : ∀ a : Nat, a < s.heap.size → ¬ F a) : ∃ a t, sx_P s F 10 a t := by
  obtain ⟨a, t, h⟩ := sx_one (A := A) (F := F) (own := "SiltHarbour") (k := 273) (tx := "the text is wrong") (jg_byt.getD 10 []) (hts _ (jt_m7 11 rfl)) (bf2 (bf2 (bf1 (bf2 (bf2 (bf2 (bf2 (bf1 (bf1 (bf2 hn)))))))))) (bf1 (bf1 (bf2 (bf2 (bf2 (bf2 (bf2 (bf1 (bf1 (bf2 hn)))))))))) (bf2 (bf1 (bf2 (bf2 (bf2 (bf2 (bf2 (bf1 (bf1 (bf2 hn)))))))))) (bf1 (bf2 (bf2 (bf2 (bf2 (bf2 (bf2 (bf1 (bf1 (bf2 hn)))))))))) (fun j hj => by
    match j, hj with
    | 0, _ => exact (bf2 (bf2 (bf2 (bf2 (bf2 (bf2 (bf2 (bf1 (bf1 (bf2 hn))))))))))
    | 1, _ => exact (bf1 (bf1 (bf1 (bf1 (bf1 (bf1 (bf2 (bf1 (bf2 hn)))))))))
    | 2, _ => exact (bf1 (bf2 (bf1 (bf1 (bf1 (bf1 (bf1 (bf2 (bf1 (bf2 hn))))))))))
    | 3, _ => exact (bf2 (bf2 (bf1 (bf1 (bf1 (bf1 (bf1 (bf2 (bf1 (bf2 hn))))))))))
    | 4, _ => exact (bf1 (bf2 (bf1 (bf1 (bf1 (bf1 (bf2 (bf1 (bf2 hn)))))))))
    | 5, _ => exact (bf1 (bf2 (bf2 (bf1 (bf1 (bf1 (bf1 (bf2 (bf1 (bf2 hn))))))))))
    | 6, _ => exact (bf2 (bf2 (bf2 (bf1 (bf1 (bf1 (bf1 (bf2 (bf1 (bf2 hn))))))))))
    | 7, _ => exact (bf1 (bf1 (bf2 (bf1 (bf1 (bf1 (bf2 (bf1 (bf2 hn)))))))))
    | 8, _ => exact (bf1 (bf2 (bf1 (bf2 (bf1 (bf1 (bf1 (bf2 (bf1 (bf2 hn))))))))))
    | 9, _ => exact (bf2 (bf2 (bf1 (bf2 (bf1 (bf1 (bf1 (bf2 (bf1 (bf2 hn))))))))))
    | 10, _ => exact (bf1 (bf1 (bf2 (bf2 (bf1 (bf1 (bf1 (bf2 (bf1 (bf2 hn))))))))))
    | 11, _ => exact (bf2 (bf1 (bf2 (bf2 (bf1 (bf1 (bf1 (bf2 (bf1 (bf2 hn))))))))))
    | 12, _ => exact (bf1 (bf2 (bf2 (bf2 (bf1 (bf1 (bf1 (bf2 (bf1 (bf2 hn))))))))))
    | 13, _ => exact (bf2 (bf2 (bf2 (bf2 (bf1 (bf1 (bf1 (bf2 (bf1 (bf2 hn))))))))))
    | 14, _ => exact (bf1 (bf1 (bf1 (bf2 (bf1 (bf1 (bf2 (bf1 (bf2 hn)))))))))
    | 15, _ => exact (bf1 (bf2 (bf1 (bf1 (bf2 (bf1 (bf1 (bf2 (bf1 (bf2 hn))))))))))
    | 16, _ => exact (bf2 (bf2 (bf1 (bf1 (bf2 (bf1 (bf1 (bf2 (bf1 (bf2 hn))))))))))
    | z + 17, hz => exact absurd hz (Nat.not_lt.mpr (Nat.le_add_left _ _))) (by decide) hF
  exact ⟨a, t, fun q hq => by cases hq; exact h⟩
set_option maxRecDepth 20000 in
theorem sx_11 {A : Array Value} {s : State} {F : Nat → Prop} (hts : ∀ w ∈ lw_tbl, w.before A s = true) (hn : narrow_1.before A s = true) (hF : ∀ a : Nat, a < s.heap.size → ¬ F a) : ∃ a t, sx_P s F 11 a t := by
  obtain ⟨a, t, h⟩ := sx_one (A := A) (F := F) (own := "SiltHarbour") (k := 333) (tx := "no such judgement") (jg_byt.getD 11 []) (hts _ (jt_m7 79 rfl)) (bf1 (bf2 (bf1 (bf2 (bf1 (bf1 (bf2 (bf1 (bf2 hn))))))))) (bf1 (bf2 (bf2 (bf1 (bf2 (bf1 (bf1 (bf2 (bf1 (bf2 hn)))))))))) (bf2 (bf2 (bf2 (bf1 (bf2 (bf1 (bf1 (bf2 (bf1 (bf2 hn)))))))))) (bf1 (bf1 (bf2 (bf2 (bf1 (bf1 (bf2 (bf1 (bf2 hn))))))))) (fun j hj => by
    match j, hj with
    | 0, _ => exact (bf1 (bf2 (bf1 (bf2 (bf2 (bf1 (bf1 (bf2 (bf1 (bf2 hn))))))))))
    | 1, _ => exact (bf2 (bf2 (bf1 (bf2 (bf2 (bf1 (bf1 (bf2 (bf1 (bf2 hn))))))))))
    | 2, _ => exact (bf1 (bf1 (bf2 (bf2 (bf2 (bf1 (bf1 (bf2 (bf1 (bf2 hn))))))))))
    | 3, _ => exact (bf2 (bf1 (bf2 (bf2 (bf2 (bf1 (bf1 (bf2 (bf1 (bf2 hn))))))))))
    | 4, _ => exact (bf1 (bf2 (bf2 (bf2 (bf2 (bf1 (bf1 (bf2 (bf1 (bf2 hn))))))))))
    | 5, _ => exact (bf2 (bf2 (bf2 (bf2 (bf2 (bf1 (bf1 (bf2 (bf1 (bf2 hn))))))))))
    | 6, _ => exact (bf1 (bf1 (bf1 (bf1 (bf2 (bf1 (bf2 (bf1 (bf2 hn)))))))))
    | 7, _ => exact (bf1 (bf2 (bf1 (bf1 (bf1 (bf2 (bf1 (bf2 (bf1 (bf2 hn))))))))))
    | 8, _ => exact (bf2 (bf2 (bf1 (bf1 (bf1 (bf2 (bf1 (bf2 (bf1 (bf2 hn))))))))))
    | 9, _ => exact (bf1 (bf2 (bf1 (bf1 (bf2 (bf1 (bf2 (bf1 (bf2 hn)))))))))
    | 10, _ => exact (bf1 (bf2 (bf2 (bf1 (bf1 (bf2 (bf1 (bf2 (bf1 (bf2 hn))))))))))
    | 11, _ => exact (bf2 (bf2 (bf2 (bf1 (bf1 (bf2 (bf1 (bf2 (bf1 (bf2 hn))))))))))
    | 12, _ => exact (bf1 (bf1 (bf2 (bf1 (bf2 (bf1 (bf2 (bf1 (bf2 hn)))))))))
    | 13, _ => exact (bf1 (bf2 (bf1 (bf2 (bf1 (bf2 (bf1 (bf2 (bf1 (bf2 hn))))))))))
    | 14, _ => exact (bf2 (bf2 (bf1 (bf2 (bf1 (bf2 (bf1 (bf2 (bf1 (bf2 hn))))))))))
    | 15, _ => exact (bf1 (bf1 (bf2 (bf2 (bf1 (bf2 (bf1 (bf2 (bf1 (bf2 hn))))))))))
    | 16, _ => exact (bf2 (bf1 (bf2 (bf2 (bf1 (bf2 (bf1 (bf2 (bf1 (bf2 hn))))))))))
    | z + 17, hz => exact absurd hz (Nat.not_lt.mpr (Nat.le_add_left _ _))) (by decide) hF
  exact ⟨a, t, fun q hq => by cases hq; exact h⟩
set_option maxRecDepth 20000 in
theorem sx_12 {A : Array Value} {s : State} {F : Nat → Prop} (hts : ∀ w ∈ lw_tbl, w.before A s = true) (hn : narrow_1.before A s = true) (hF : ∀ a : Nat, a < s.heap.size → ¬ F a) : ∃ a t, sx_P s F 12 a t := by
  obtain ⟨a, t, h⟩ := sx_one (A := A) (F := F) (own := "SiltHarbour") (k := 350) (tx := "a payer has no such number") (jg_byt.getD 12 []) (hts _ (jt_m7 108 rfl)) (bf1 (bf2 (bf2 (bf2 (bf1 (bf2 (bf1 (bf2 (bf1 (bf2 hn)))))))))) (bf2 (bf2 (bf2 (bf2 (bf1 (bf2 (bf1 (bf2 (bf1 (bf2 hn)))))))))) (bf1 (bf1 (bf1 (bf2 (bf2 (bf1 (bf2 (bf1 (bf2 hn))))))))) (bf1 (bf2 (bf1 (bf1 (bf2 (bf2 (bf1 (bf2 (bf1 (bf2 hn)))))))))) (fun j hj => by
    match j, hj with
    | 0, _ => exact (bf2 (bf2 (bf1 (bf1 (bf2 (bf2 (bf1 (bf2 (bf1 (bf2 hn))))))))))
    | 1, _ => exact (bf1 (bf2 (bf1 (bf2 (bf2 (bf1 (bf2 (bf1 (bf2 hn)))))))))
    | 2, _ => exact (bf1 (bf2 (bf2 (bf1 (bf2 (bf2 (bf1 (bf2 (bf1 (bf2 hn))))))))))
    | 3, _ => exact (bf2 (bf2 (bf2 (bf1 (bf2 (bf2 (bf1 (bf2 (bf1 (bf2 hn))))))))))
    | 4, _ => exact (bf1 (bf1 (bf2 (bf2 (bf2 (bf1 (bf2 (bf1 (bf2 hn)))))))))
    | 5, _ => exact (bf1 (bf2 (bf1 (bf2 (bf2 (bf2 (bf1 (bf2 (bf1 (bf2 hn))))))))))
    | 6, _ => exact (bf2 (bf2 (bf1 (bf2 (bf2 (bf2 (bf1 (bf2 (bf1 (bf2 hn))))))))))
    | 7, _ => exact (bf1 (bf1 (bf2 (bf2 (bf2 (bf2 (bf1 (bf2 (bf1 (bf2 hn))))))))))
    | 8, _ => exact (bf2 (bf1 (bf2 (bf2 (bf2 (bf2 (bf1 (bf2 (bf1 (bf2 hn))))))))))
    | 9, _ => exact (bf1 (bf2 (bf2 (bf2 (bf2 (bf2 (bf1 (bf2 (bf1 (bf2 hn))))))))))
    | 10, _ => exact (bf2 (bf2 (bf2 (bf2 (bf2 (bf2 (bf1 (bf2 (bf1 (bf2 hn))))))))))
    | 11, _ => exact (bf1 (bf1 (bf1 (bf1 (bf1 (bf2 (bf2 (bf1 (bf2 hn)))))))))
    | 12, _ => exact (bf1 (bf2 (bf1 (bf1 (bf1 (bf1 (bf2 (bf2 (bf1 (bf2 hn))))))))))
    | 13, _ => exact (bf2 (bf2 (bf1 (bf1 (bf1 (bf1 (bf2 (bf2 (bf1 (bf2 hn))))))))))
    | 14, _ => exact (bf1 (bf2 (bf1 (bf1 (bf1 (bf2 (bf2 (bf1 (bf2 hn)))))))))
    | 15, _ => exact (bf1 (bf2 (bf2 (bf1 (bf1 (bf1 (bf2 (bf2 (bf1 (bf2 hn))))))))))
    | 16, _ => exact (bf2 (bf2 (bf2 (bf1 (bf1 (bf1 (bf2 (bf2 (bf1 (bf2 hn))))))))))
    | 17, _ => exact (bf1 (bf1 (bf2 (bf1 (bf1 (bf2 (bf2 (bf1 (bf2 hn)))))))))
    | 18, _ => exact (bf1 (bf2 (bf1 (bf2 (bf1 (bf1 (bf2 (bf2 (bf1 (bf2 hn))))))))))
    | 19, _ => exact (bf2 (bf2 (bf1 (bf2 (bf1 (bf1 (bf2 (bf2 (bf1 (bf2 hn))))))))))
    | 20, _ => exact (bf1 (bf1 (bf2 (bf2 (bf1 (bf1 (bf2 (bf2 (bf1 (bf2 hn))))))))))
    | 21, _ => exact (bf2 (bf1 (bf2 (bf2 (bf1 (bf1 (bf2 (bf2 (bf1 (bf2 hn))))))))))
    | 22, _ => exact (bf1 (bf2 (bf2 (bf2 (bf1 (bf1 (bf2 (bf2 (bf1 (bf2 hn))))))))))
    | 23, _ => exact (bf2 (bf2 (bf2 (bf2 (bf1 (bf1 (bf2 (bf2 (bf1 (bf2 hn))))))))))
    | 24, _ => exact (bf1 (bf1 (bf1 (bf2 (bf1 (bf2 (bf2 (bf1 (bf2 hn)))))))))
    | 25, _ => exact (bf1 (bf2 (bf1 (bf1 (bf2 (bf1 (bf2 (bf2 (bf1 (bf2 hn))))))))))
    | z + 26, hz => exact absurd hz (Nat.not_lt.mpr (Nat.le_add_left _ _))) (by decide) hF
  exact ⟨a, t, fun q hq => by cases hq; exact h⟩
set_option maxRecDepth 20000 in
theorem sx_13 {A : Array Value} {s : State} {F : Nat → Prop} (hts : ∀ w ∈ lw_tbl, w.before A s = true) (hn : narrow_1.before A s = true) (hF : ∀ a : Nat, a < s.heap.size → ¬ F a) : ∃ a t, sx_P s F 13 a t := by
  obtain ⟨a, t, h⟩ := sx_one (A := A) (F := F) (own := "SiltHarbour") (k := 386) (tx := "a bond has no such number") (jg_byt.getD 13 []) (hts _ (jt_m7 140 rfl)) (bf2 (bf2 (bf1 (bf1 (bf2 (bf1 (bf2 (bf2 (bf1 (bf2 hn)))))))))) (bf1 (bf2 (bf1 (bf2 (bf1 (bf2 (bf2 (bf1 (bf2 hn))))))))) (bf1 (bf2 (bf2 (bf1 (bf2 (bf1 (bf2 (bf2 (bf1 (bf2 hn)))))))))) (bf2 (bf2 (bf2 (bf1 (bf2 (bf1 (bf2 (bf2 (bf1 (bf2 hn)))))))))) (fun j hj => by
    match j, hj with
    | 0, _ => exact (bf1 (bf1 (bf2 (bf2 (bf1 (bf2 (bf2 (bf1 (bf2 hn)))))))))
    | 1, _ => exact (bf1 (bf2 (bf1 (bf2 (bf2 (bf1 (bf2 (bf2 (bf1 (bf2 hn))))))))))
    | 2, _ => exact (bf2 (bf2 (bf1 (bf2 (bf2 (bf1 (bf2 (bf2 (bf1 (bf2 hn))))))))))
    | 3, _ => exact (bf1 (bf1 (bf2 (bf2 (bf2 (bf1 (bf2 (bf2 (bf1 (bf2 hn))))))))))
    | 4, _ => exact (bf2 (bf1 (bf2 (bf2 (bf2 (bf1 (bf2 (bf2 (bf1 (bf2 hn))))))))))
    | 5, _ => exact (bf1 (bf2 (bf2 (bf2 (bf2 (bf1 (bf2 (bf2 (bf1 (bf2 hn))))))))))
    | 6, _ => exact (bf2 (bf2 (bf2 (bf2 (bf2 (bf1 (bf2 (bf2 (bf1 (bf2 hn))))))))))
    | 7, _ => exact (bf1 (bf1 (bf1 (bf1 (bf2 (bf2 (bf2 (bf1 (bf2 hn)))))))))
    | 8, _ => exact (bf1 (bf2 (bf1 (bf1 (bf1 (bf2 (bf2 (bf2 (bf1 (bf2 hn))))))))))
    | 9, _ => exact (bf2 (bf2 (bf1 (bf1 (bf1 (bf2 (bf2 (bf2 (bf1 (bf2 hn))))))))))
    | 10, _ => exact (bf1 (bf2 (bf1 (bf1 (bf2 (bf2 (bf2 (bf1 (bf2 hn)))))))))
    | 11, _ => exact (bf1 (bf2 (bf2 (bf1 (bf1 (bf2 (bf2 (bf2 (bf1 (bf2 hn))))))))))
    | 12, _ => exact (bf2 (bf2 (bf2 (bf1 (bf1 (bf2 (bf2 (bf2 (bf1 (bf2 hn))))))))))
    | 13, _ => exact (bf1 (bf1 (bf2 (bf1 (bf2 (bf2 (bf2 (bf1 (bf2 hn)))))))))
    | 14, _ => exact (bf1 (bf2 (bf1 (bf2 (bf1 (bf2 (bf2 (bf2 (bf1 (bf2 hn))))))))))
    | 15, _ => exact (bf2 (bf2 (bf1 (bf2 (bf1 (bf2 (bf2 (bf2 (bf1 (bf2 hn))))))))))
    | 16, _ => exact (bf1 (bf1 (bf2 (bf2 (bf1 (bf2 (bf2 (bf2 (bf1 (bf2 hn))))))))))
    | 17, _ => exact (bf2 (bf1 (bf2 (bf2 (bf1 (bf2 (bf2 (bf2 (bf1 (bf2 hn))))))))))
    | 18, _ => exact (bf1 (bf2 (bf2 (bf2 (bf1 (bf2 (bf2 (bf2 (bf1 (bf2 hn))))))))))
    | 19, _ => exact (bf2 (bf2 (bf2 (bf2 (bf1 (bf2 (bf2 (bf2 (bf1 (bf2 hn))))))))))
    | 20, _ => exact (bf1 (bf1 (bf1 (bf2 (bf2 (bf2 (bf2 (bf1 (bf2 hn)))))))))
    | 21, _ => exact (bf1 (bf2 (bf1 (bf1 (bf2 (bf2 (bf2 (bf2 (bf1 (bf2 hn))))))))))
    | 22, _ => exact (bf2 (bf2 (bf1 (bf1 (bf2 (bf2 (bf2 (bf2 (bf1 (bf2 hn))))))))))
    | 23, _ => exact (bf1 (bf1 (bf2 (bf1 (bf2 (bf2 (bf2 (bf2 (bf1 (bf2 hn))))))))))
    | 24, _ => exact (bf2 (bf1 (bf2 (bf1 (bf2 (bf2 (bf2 (bf2 (bf1 (bf2 hn))))))))))
    | z + 25, hz => exact absurd hz (Nat.not_lt.mpr (Nat.le_add_left _ _))) (by decide) hF
  exact ⟨a, t, fun q hq => by cases hq; exact h⟩
set_option maxRecDepth 20000 in
theorem sx_14 {A : Array Value} {s : State} {F : Nat → Prop} (hts : ∀ w ∈ lw_tbl, w.before A s = true) (hn : narrow_1.before A s = true) (hF : ∀ a : Nat, a < s.heap.size → ¬ F a) : ∃ a t, sx_P s F 14 a t := by
  obtain ⟨a, t, h⟩ := sx_one (A := A) (F := F) (own := "SiltHarbourModel") (k := 311) (tx := "ton") (jg_byt.getD 14 []) (hts _ (jt_m9 111 rfl)) (bf1 (bf2 (bf2 (bf1 (bf2 (bf2 (bf2 (bf2 (bf1 (bf2 hn)))))))))) (bf2 (bf2 (bf2 (bf1 (bf2 (bf2 (bf2 (bf2 (bf1 (bf2 hn)))))))))) (bf1 (bf1 (bf2 (bf2 (bf2 (bf2 (bf2 (bf1 (bf2 hn))))))))) (bf1 (bf2 (bf1 (bf2 (bf2 (bf2 (bf2 (bf2 (bf1 (bf2 hn)))))))))) (fun j hj => by
    match j, hj with
    | 0, _ => exact (bf2 (bf2 (bf1 (bf2 (bf2 (bf2 (bf2 (bf2 (bf1 (bf2 hn))))))))))
    | 1, _ => exact (bf1 (bf1 (bf2 (bf2 (bf2 (bf2 (bf2 (bf2 (bf1 (bf2 hn))))))))))
    | 2, _ => exact (bf2 (bf1 (bf2 (bf2 (bf2 (bf2 (bf2 (bf2 (bf1 (bf2 hn))))))))))
    | z + 3, hz => exact absurd hz (Nat.not_lt.mpr (Nat.le_add_left _ _))) (by decide) hF
  exact ⟨a, t, fun q hq => by cases hq; exact h⟩
set_option maxRecDepth 20000 in
theorem sx_15 {A : Array Value} {s : State} {F : Nat → Prop} (hts : ∀ w ∈ lw_tbl, w.before A s = true) (hn : narrow_1.before A s = true) (hF : ∀ a : Nat, a < s.heap.size → ¬ F a) : ∃ a t, sx_P s F 15 a t := by
  obtain ⟨a, t, h⟩ := sx_one (A := A) (F := F) (own := "SiltHarbourModel") (k := 313) (tx := "ship") (jg_byt.getD 15 []) (hts _ (jt_m9 118 rfl)) (bf1 (bf2 (bf2 (bf2 (bf2 (bf2 (bf2 (bf2 (bf1 (bf2 hn)))))))))) (bf2 (bf2 (bf2 (bf2 (bf2 (bf2 (bf2 (bf2 (bf1 (bf2 hn)))))))))) (bf1 (bf1 (bf1 (bf1 (bf1 (bf1 (bf1 (bf2 (bf2 hn))))))))) (bf1 (bf2 (bf1 (bf1 (bf1 (bf1 (bf1 (bf1 (bf2 (bf2 hn)))))))))) (fun j hj => by
    match j, hj with
    | 0, _ => exact (bf2 (bf2 (bf1 (bf1 (bf1 (bf1 (bf1 (bf1 (bf2 (bf2 hn))))))))))
    | 1, _ => exact (bf1 (bf2 (bf1 (bf1 (bf1 (bf1 (bf1 (bf2 (bf2 hn)))))))))
    | 2, _ => exact (bf1 (bf2 (bf2 (bf1 (bf1 (bf1 (bf1 (bf1 (bf2 (bf2 hn))))))))))
    | 3, _ => exact (bf2 (bf2 (bf2 (bf1 (bf1 (bf1 (bf1 (bf1 (bf2 (bf2 hn))))))))))
    | z + 4, hz => exact absurd hz (Nat.not_lt.mpr (Nat.le_add_left _ _))) (by decide) hF
  exact ⟨a, t, fun q hq => by cases hq; exact h⟩
set_option maxRecDepth 20000 in
theorem sx_16 {A : Array Value} {s : State} {F : Nat → Prop} (hts : ∀ w ∈ lw_tbl, w.before A s = true) (hn : narrow_1.before A s = true) (hF : ∀ a : Nat, a < s.heap.size → ¬ F a) : ∃ a t, sx_P s F 16 a t := by
  obtain ⟨a, t, h⟩ := sx_one (A := A) (F := F) (own := "SiltHarbourModel") (k := 315) (tx := "back") (jg_byt.getD 16 []) (hts _ (jt_m9 119 rfl)) (bf1 (bf1 (bf2 (bf1 (bf1 (bf1 (bf1 (bf2 (bf2 hn))))))))) (bf1 (bf2 (bf1 (bf2 (bf1 (bf1 (bf1 (bf1 (bf2 (bf2 hn)))))))))) (bf2 (bf2 (bf1 (bf2 (bf1 (bf1 (bf1 (bf1 (bf2 (bf2 hn)))))))))) (bf1 (bf1 (bf2 (bf2 (bf1 (bf1 (bf1 (bf1 (bf2 (bf2 hn)))))))))) (fun j hj => by
    match j, hj with
    | 0, _ => exact (bf2 (bf1 (bf2 (bf2 (bf1 (bf1 (bf1 (bf1 (bf2 (bf2 hn))))))))))
    | 1, _ => exact (bf1 (bf2 (bf2 (bf2 (bf1 (bf1 (bf1 (bf1 (bf2 (bf2 hn))))))))))
    | 2, _ => exact (bf2 (bf2 (bf2 (bf2 (bf1 (bf1 (bf1 (bf1 (bf2 (bf2 hn))))))))))
    | 3, _ => exact (bf1 (bf1 (bf1 (bf2 (bf1 (bf1 (bf1 (bf2 (bf2 hn)))))))))
    | z + 4, hz => exact absurd hz (Nat.not_lt.mpr (Nat.le_add_left _ _))) (by decide) hF
  exact ⟨a, t, fun q hq => by cases hq; exact h⟩
set_option maxRecDepth 20000 in
theorem sx_17 {A : Array Value} {s : State} {F : Nat → Prop} (hts : ∀ w ∈ lw_tbl, w.before A s = true) (hn : narrow_1.before A s = true) (hF : ∀ a : Nat, a < s.heap.size → ¬ F a) : ∃ a t, sx_P s F 17 a t := by
  obtain ⟨a, t, h⟩ := sx_one (A := A) (F := F) (own := "SiltHarbourModel") (k := 317) (tx := "vote") (jg_byt.getD 17 []) (hts _ (jt_m9 120 rfl)) (bf1 (bf2 (bf1 (bf1 (bf2 (bf1 (bf1 (bf1 (bf2 (bf2 hn)))))))))) (bf2 (bf2 (bf1 (bf1 (bf2 (bf1 (bf1 (bf1 (bf2 (bf2 hn)))))))))) (bf1 (bf2 (bf1 (bf2 (bf1 (bf1 (bf1 (bf2 (bf2 hn))))))))) (bf1 (bf2 (bf2 (bf1 (bf2 (bf1 (bf1 (bf1 (bf2 (bf2 hn)))))))))) (fun j hj => by
    match j, hj with
    | 0, _ => exact (bf2 (bf2 (bf2 (bf1 (bf2 (bf1 (bf1 (bf1 (bf2 (bf2 hn))))))))))
    | 1, _ => exact (bf1 (bf1 (bf2 (bf2 (bf1 (bf1 (bf1 (bf2 (bf2 hn)))))))))
    | 2, _ => exact (bf1 (bf2 (bf1 (bf2 (bf2 (bf1 (bf1 (bf1 (bf2 (bf2 hn))))))))))
    | 3, _ => exact (bf2 (bf2 (bf1 (bf2 (bf2 (bf1 (bf1 (bf1 (bf2 (bf2 hn))))))))))
    | z + 4, hz => exact absurd hz (Nat.not_lt.mpr (Nat.le_add_left _ _))) (by decide) hF
  exact ⟨a, t, fun q hq => by cases hq; exact h⟩
set_option maxRecDepth 20000 in
theorem sx_18 {A : Array Value} {s : State} {F : Nat → Prop} (hts : ∀ w ∈ lw_tbl, w.before A s = true) (hn : narrow_1.before A s = true) (hF : ∀ a : Nat, a < s.heap.size → ¬ F a) : ∃ a t, sx_P s F 18 a t := by
  obtain ⟨a, t, h⟩ := sx_one (A := A) (F := F) (own := "SiltHarbourModel") (k := 319) (tx := "turn") (jg_byt.getD 18 []) (hts _ (jt_m9 121 rfl)) (bf1 (bf1 (bf2 (bf2 (bf2 (bf1 (bf1 (bf1 (bf2 (bf2 hn)))))))))) (bf2 (bf1 (bf2 (bf2 (bf2 (bf1 (bf1 (bf1 (bf2 (bf2 hn)))))))))) (bf1 (bf2 (bf2 (bf2 (bf2 (bf1 (bf1 (bf1 (bf2 (bf2 hn)))))))))) (bf2 (bf2 (bf2 (bf2 (bf2 (bf1 (bf1 (bf1 (bf2 (bf2 hn)))))))))) (fun j hj => by
    match j, hj with
    | 0, _ => exact (bf1 (bf1 (bf1 (bf1 (bf2 (bf1 (bf1 (bf2 (bf2 hn)))))))))
    | 1, _ => exact (bf1 (bf2 (bf1 (bf1 (bf1 (bf2 (bf1 (bf1 (bf2 (bf2 hn))))))))))
    | 2, _ => exact (bf2 (bf2 (bf1 (bf1 (bf1 (bf2 (bf1 (bf1 (bf2 (bf2 hn))))))))))
    | 3, _ => exact (bf1 (bf2 (bf1 (bf1 (bf2 (bf1 (bf1 (bf2 (bf2 hn)))))))))
    | z + 4, hz => exact absurd hz (Nat.not_lt.mpr (Nat.le_add_left _ _))) (by decide) hF
  exact ⟨a, t, fun q hq => by cases hq; exact h⟩
set_option maxRecDepth 20000 in
theorem sx_19 {A : Array Value} {s : State} {F : Nat → Prop} (hts : ∀ w ∈ lw_tbl, w.before A s = true) (hn : narrow_1.before A s = true) (hF : ∀ a : Nat, a < s.heap.size → ¬ F a) : ∃ a t, sx_P s F 19 a t := by
  obtain ⟨a, t, h⟩ := sx_one (A := A) (F := F) (own := "SiltHarbourModel") (k := 321) (tx := "clear") (jg_byt.getD 19 []) (hts _ (jt_m9 122 rfl)) (bf1 (bf2 (bf2 (bf1 (bf1 (bf2 (bf1 (bf1 (bf2 (bf2 hn)))))))))) (bf2 (bf2 (bf2 (bf1 (bf1 (bf2 (bf1 (bf1 (bf2 (bf2 hn)))))))))) (bf1 (bf1 (bf2 (bf1 (bf2 (bf1 (bf1 (bf2 (bf2 hn))))))))) (bf1 (bf2 (bf1 (bf2 (bf1 (bf2 (bf1 (bf1 (bf2 (bf2 hn)))))))))) (fun j hj => by
    match j, hj with
    | 0, _ => exact (bf2 (bf2 (bf1 (bf2 (bf1 (bf2 (bf1 (bf1 (bf2 (bf2 hn))))))))))
    | 1, _ => exact (bf1 (bf1 (bf2 (bf2 (bf1 (bf2 (bf1 (bf1 (bf2 (bf2 hn))))))))))
    | 2, _ => exact (bf2 (bf1 (bf2 (bf2 (bf1 (bf2 (bf1 (bf1 (bf2 (bf2 hn))))))))))
    | 3, _ => exact (bf1 (bf2 (bf2 (bf2 (bf1 (bf2 (bf1 (bf1 (bf2 (bf2 hn))))))))))
    | 4, _ => exact (bf2 (bf2 (bf2 (bf2 (bf1 (bf2 (bf1 (bf1 (bf2 (bf2 hn))))))))))
    | z + 5, hz => exact absurd hz (Nat.not_lt.mpr (Nat.le_add_left _ _))) (by decide) hF
  exact ⟨a, t, fun q hq => by cases hq; exact h⟩
set_option maxRecDepth 20000 in
theorem sx_20 {A : Array Value} {s : State} {F : Nat → Prop} (hts : ∀ w ∈ lw_tbl, w.before A s = true) (hn : narrow_1.before A s = true) (hF : ∀ a : Nat, a < s.heap.size → ¬ F a) : ∃ a t, sx_P s F 20 a t := by
  obtain ⟨a, t, h⟩ := sx_one (A := A) (F := F) (own := "SiltHarbourModel") (k := 323) (tx := "pass") (jg_byt.getD 20 []) (hts _ (jt_m9 123 rfl)) (bf1 (bf1 (bf1 (bf2 (bf2 (bf1 (bf1 (bf2 (bf2 hn))))))))) (bf1 (bf2 (bf1 (bf1 (bf2 (bf2 (bf1 (bf1 (bf2 (bf2 hn)))))))))) (bf2 (bf2 (bf1 (bf1 (bf2 (bf2 (bf1 (bf1 (bf2 (bf2 hn)))))))))) (bf1 (bf2 (bf1 (bf2 (bf2 (bf1 (bf1 (bf2 (bf2 hn))))))))) (fun j hj => by
    match j, hj with
    | 0, _ => exact (bf1 (bf2 (bf2 (bf1 (bf2 (bf2 (bf1 (bf1 (bf2 (bf2 hn))))))))))
    | 1, _ => exact (bf2 (bf2 (bf2 (bf1 (bf2 (bf2 (bf1 (bf1 (bf2 (bf2 hn))))))))))
    | 2, _ => exact (bf1 (bf1 (bf2 (bf2 (bf2 (bf1 (bf1 (bf2 (bf2 hn)))))))))
    | 3, _ => exact (bf1 (bf2 (bf1 (bf2 (bf2 (bf2 (bf1 (bf1 (bf2 (bf2 hn))))))))))
    | z + 4, hz => exact absurd hz (Nat.not_lt.mpr (Nat.le_add_left _ _))) (by decide) hF
  exact ⟨a, t, fun q hq => by cases hq; exact h⟩
set_option maxRecDepth 20000 in
theorem sx_21 {A : Array Value} {s : State} {F : Nat → Prop} (hts : ∀ w ∈ lw_tbl, w.before A s = true) (hn : narrow_1.before A s = true) (hF : ∀ a : Nat, a < s.heap.size → ¬ F a) : ∃ a t, sx_P s F 21 a t := by
  obtain ⟨a, t, h⟩ := sx_one (A := A) (F := F) (own := "SiltHarbourModel") (k := 325) (tx := "borrow") (jg_byt.getD 21 []) (hts _ (jt_m9 124 rfl)) (bf2 (bf2 (bf1 (bf2 (bf2 (bf2 (bf1 (bf1 (bf2 (bf2 hn)))))))))) (bf1 (bf1 (bf2 (bf2 (bf2 (bf2 (bf1 (bf1 (bf2 (bf2 hn)))))))))) (bf2 (bf1 (bf2 (bf2 (bf2 (bf2 (bf1 (bf1 (bf2 (bf2 hn)))))))))) (bf1 (bf2 (bf2 (bf2 (bf2 (bf2 (bf1 (bf1 (bf2 (bf2 hn)))))))))) (fun j hj => by
    match j, hj with
    | 0, _ => exact (bf2 (bf2 (bf2 (bf2 (bf2 (bf2 (bf1 (bf1 (bf2 (bf2 hn))))))))))
    | 1, _ => exact (bf1 (bf1 (bf1 (bf1 (bf1 (bf2 (bf1 (bf2 (bf2 hn)))))))))
    | 2, _ => exact (bf1 (bf2 (bf1 (bf1 (bf1 (bf1 (bf2 (bf1 (bf2 (bf2 hn))))))))))
    | 3, _ => exact (bf2 (bf2 (bf1 (bf1 (bf1 (bf1 (bf2 (bf1 (bf2 (bf2 hn))))))))))
    | 4, _ => exact (bf1 (bf2 (bf1 (bf1 (bf1 (bf2 (bf1 (bf2 (bf2 hn)))))))))
    | 5, _ => exact (bf1 (bf2 (bf2 (bf1 (bf1 (bf1 (bf2 (bf1 (bf2 (bf2 hn))))))))))
    | z + 6, hz => exact absurd hz (Nat.not_lt.mpr (Nat.le_add_left _ _))) (by decide) hF
  exact ⟨a, t, fun q hq => by cases hq; exact h⟩
set_option maxRecDepth 20000 in
theorem sx_22 {A : Array Value} {s : State} {F : Nat → Prop} (hts : ∀ w ∈ lw_tbl, w.before A s = true) (hn : narrow_1.before A s = true) (hF : ∀ a : Nat, a < s.heap.size → ¬ F a) : ∃ a t, sx_P s F 22 a t := by
  obtain ⟨a, t, h⟩ := sx_one (A := A) (F := F) (own := "SiltHarbourModel") (k := 327) (tx := "come") (jg_byt.getD 22 []) (hts _ (jt_m9 129 rfl)) (bf2 (bf2 (bf2 (bf1 (bf1 (bf1 (bf2 (bf1 (bf2 (bf2 hn)))))))))) (bf1 (bf1 (bf2 (bf1 (bf1 (bf2 (bf1 (bf2 (bf2 hn))))))))) (bf1 (bf2 (bf1 (bf2 (bf1 (bf1 (bf2 (bf1 (bf2 (bf2 hn)))))))))) (bf2 (bf2 (bf1 (bf2 (bf1 (bf1 (bf2 (bf1 (bf2 (bf2 hn)))))))))) (fun j hj => by
    match j, hj with
    | 0, _ => exact (bf1 (bf1 (bf2 (bf2 (bf1 (bf1 (bf2 (bf1 (bf2 (bf2 hn))))))))))
    | 1, _ => exact (bf2 (bf1 (bf2 (bf2 (bf1 (bf1 (bf2 (bf1 (bf2 (bf2 hn))))))))))
    | 2, _ => exact (bf1 (bf2 (bf2 (bf2 (bf1 (bf1 (bf2 (bf1 (bf2 (bf2 hn))))))))))
    | 3, _ => exact (bf2 (bf2 (bf2 (bf2 (bf1 (bf1 (bf2 (bf1 (bf2 (bf2 hn))))))))))
    | z + 4, hz => exact absurd hz (Nat.not_lt.mpr (Nat.le_add_left _ _))) (by decide) hF
  exact ⟨a, t, fun q hq => by cases hq; exact h⟩
set_option maxRecDepth 20000 in
theorem sx_23 {A : Array Value} {s : State} {F : Nat → Prop} (hts : ∀ w ∈ lw_tbl, w.before A s = true) (hn : narrow_1.before A s = true) (hF : ∀ a : Nat, a < s.heap.size → ¬ F a) : ∃ a t, sx_P s F 23 a t := by
  obtain ⟨a, t, h⟩ := sx_one (A := A) (F := F) (own := "SiltHarbourModel") (k := 262) (tx := "tons") (jg_byt.getD 23 []) (hts _ (jt_m9 130 rfl)) (bf1 (bf1 (bf1 (bf2 (bf1 (bf2 (bf1 (bf2 (bf2 hn))))))))) (bf1 (bf2 (bf1 (bf1 (bf2 (bf1 (bf2 (bf1 (bf2 (bf2 hn)))))))))) (bf2 (bf2 (bf1 (bf1 (bf2 (bf1 (bf2 (bf1 (bf2 (bf2 hn)))))))))) (bf1 (bf2 (bf1 (bf2 (bf1 (bf2 (bf1 (bf2 (bf2 hn))))))))) (fun j hj => by
    match j, hj with
    | 0, _ => exact (bf1 (bf2 (bf2 (bf1 (bf2 (bf1 (bf2 (bf1 (bf2 (bf2 hn))))))))))
    | 1, _ => exact (bf2 (bf2 (bf2 (bf1 (bf2 (bf1 (bf2 (bf1 (bf2 (bf2 hn))))))))))
    | 2, _ => exact (bf1 (bf1 (bf2 (bf2 (bf1 (bf2 (bf1 (bf2 (bf2 hn)))))))))
    | 3, _ => exact (bf1 (bf2 (bf1 (bf2 (bf2 (bf1 (bf2 (bf1 (bf2 (bf2 hn))))))))))
    | z + 4, hz => exact absurd hz (Nat.not_lt.mpr (Nat.le_add_left _ _))) (by decide) hF
  exact ⟨a, t, fun q hq => by cases hq; exact h⟩
set_option maxRecDepth 20000 in
theorem sx_24 {A : Array Value} {s : State} {F : Nat → Prop} (hts : ∀ w ∈ lw_tbl, w.before A s = true) (hn : narrow_1.before A s = true) (hF : ∀ a : Nat, a < s.heap.size → ¬ F a) : ∃ a t, sx_P s F 24 a t := by
  obtain ⟨a, t, h⟩ := sx_one (A := A) (F := F) (own := "SiltHarbourModel") (k := 264) (tx := "long") (jg_byt.getD 24 []) (hts _ (jt_m9 131 rfl)) (bf2 (bf2 (bf1 (bf2 (bf2 (bf1 (bf2 (bf1 (bf2 (bf2 hn)))))))))) (bf1 (bf1 (bf2 (bf2 (bf2 (bf1 (bf2 (bf1 (bf2 (bf2 hn)))))))))) (bf2 (bf1 (bf2 (bf2 (bf2 (bf1 (bf2 (bf1 (bf2 (bf2 hn)))))))))) (bf1 (bf2 (bf2 (bf2 (bf2 (bf1 (bf2 (bf1 (bf2 (bf2 hn)))))))))) (fun j hj => by
    match j, hj with
    | 0, _ => exact (bf2 (bf2 (bf2 (bf2 (bf2 (bf1 (bf2 (bf1 (bf2 (bf2 hn))))))))))
    | 1, _ => exact (bf1 (bf1 (bf1 (bf1 (bf2 (bf2 (bf1 (bf2 (bf2 hn)))))))))
    | 2, _ => exact (bf1 (bf2 (bf1 (bf1 (bf1 (bf2 (bf2 (bf1 (bf2 (bf2 hn))))))))))
    | 3, _ => exact (bf2 (bf2 (bf1 (bf1 (bf1 (bf2 (bf2 (bf1 (bf2 (bf2 hn))))))))))
    | z + 4, hz => exact absurd hz (Nat.not_lt.mpr (Nat.le_add_left _ _))) (by decide) hF
  exact ⟨a, t, fun q hq => by cases hq; exact h⟩
set_option maxRecDepth 20000 in
theorem sx_25 {A : Array Value} {s : State} {F : Nat → Prop} (hts : ∀ w ∈ lw_tbl, w.before A s = true) (hn : narrow_1.before A s = true) (hF : ∀ a : Nat, a < s.heap.size → ¬ F a) : ∃ a t, sx_P s F 25 a t := by
  obtain ⟨a, t, h⟩ := sx_one (A := A) (F := F) (own := "SiltHarbourModel") (k := 329) (tx := "good") (jg_byt.getD 25 []) (hts _ (jt_m9 132 rfl)) (bf1 (bf2 (bf1 (bf1 (bf2 (bf2 (bf1 (bf2 (bf2 hn))))))))) (bf1 (bf2 (bf2 (bf1 (bf1 (bf2 (bf2 (bf1 (bf2 (bf2 hn)))))))))) (bf2 (bf2 (bf2 (bf1 (bf1 (bf2 (bf2 (bf1 (bf2 (bf2 hn)))))))))) (bf1 (bf1 (bf2 (bf1 (bf2 (bf2 (bf1 (bf2 (bf2 hn))))))))) (fun j hj => by
    match j, hj with
    | 0, _ => exact (bf1 (bf2 (bf1 (bf2 (bf1 (bf2 (bf2 (bf1 (bf2 (bf2 hn))))))))))
    | 1, _ => exact (bf2 (bf2 (bf1 (bf2 (bf1 (bf2 (bf2 (bf1 (bf2 (bf2 hn))))))))))
    | 2, _ => exact (bf1 (bf1 (bf2 (bf2 (bf1 (bf2 (bf2 (bf1 (bf2 (bf2 hn))))))))))
    | 3, _ => exact (bf2 (bf1 (bf2 (bf2 (bf1 (bf2 (bf2 (bf1 (bf2 (bf2 hn))))))))))
    | z + 4, hz => exact absurd hz (Nat.not_lt.mpr (Nat.le_add_left _ _))) (by decide) hF
  exact ⟨a, t, fun q hq => by cases hq; exact h⟩
set_option maxRecDepth 20000 in
theorem sx_26 {A : Array Value} {s : State} {F : Nat → Prop} (hts : ∀ w ∈ lw_tbl, w.before A s = true) (hn : narrow_1.before A s = true) (hF : ∀ a : Nat, a < s.heap.size → ¬ F a) : ∃ a t, sx_P s F 26 a t := by
  obtain ⟨a, t, h⟩ := sx_one (A := A) (F := F) (own := "SiltHarbourModel") (k := 331) (tx := "down") (jg_byt.getD 26 []) (hts _ (jt_m9 133 rfl)) (bf1 (bf2 (bf2 (bf2 (bf1 (bf2 (bf2 (bf1 (bf2 (bf2 hn)))))))))) (bf2 (bf2 (bf2 (bf2 (bf1 (bf2 (bf2 (bf1 (bf2 (bf2 hn)))))))))) (bf1 (bf1 (bf1 (bf2 (bf2 (bf2 (bf1 (bf2 (bf2 hn))))))))) (bf1 (bf2 (bf1 (bf1 (bf2 (bf2 (bf2 (bf1 (bf2 (bf2 hn)))))))))) (fun j hj => by
    match j, hj with
    | 0, _ => exact (bf2 (bf2 (bf1 (bf1 (bf2 (bf2 (bf2 (bf1 (bf2 (bf2 hn))))))))))
    | 1, _ => exact (bf1 (bf1 (bf2 (bf1 (bf2 (bf2 (bf2 (bf1 (bf2 (bf2 hn))))))))))
    | 2, _ => exact (bf2 (bf1 (bf2 (bf1 (bf2 (bf2 (bf2 (bf1 (bf2 (bf2 hn))))))))))
    | 3, _ => exact (bf1 (bf2 (bf2 (bf1 (bf2 (bf2 (bf2 (bf1 (bf2 (bf2 hn))))))))))
    | z + 4, hz => exact absurd hz (Nat.not_lt.mpr (Nat.le_add_left _ _))) (by decide) hF
  exact ⟨a, t, fun q hq => by cases hq; exact h⟩
set_option maxRecDepth 20000 in
theorem sx_27 {A : Array Value} {s : State} {F : Nat → Prop} (hts : ∀ w ∈ lw_tbl, w.before A s = true) (hn : narrow_1.before A s = true) (hF : ∀ a : Nat, a < s.heap.size → ¬ F a) : ∃ a t, sx_P s F 27 a t := by
  obtain ⟨a, t, h⟩ := sx_one (A := A) (F := F) (own := "SiltHarbourModel") (k := 339) (tx := "if") (jg_byt.getD 27 []) (hts _ (jt_m9 143 rfl)) (bf2 (bf2 (bf2 (bf1 (bf2 (bf2 (bf2 (bf1 (bf2 (bf2 hn)))))))))) (bf1 (bf1 (bf2 (bf2 (bf2 (bf2 (bf1 (bf2 (bf2 hn))))))))) (bf1 (bf2 (bf1 (bf2 (bf2 (bf2 (bf2 (bf1 (bf2 (bf2 hn)))))))))) (bf2 (bf2 (bf1 (bf2 (bf2 (bf2 (bf2 (bf1 (bf2 (bf2 hn)))))))))) (fun j hj => by
    match j, hj with
    | 0, _ => exact (bf1 (bf1 (bf2 (bf2 (bf2 (bf2 (bf2 (bf1 (bf2 (bf2 hn))))))))))
    | 1, _ => exact (bf2 (bf1 (bf2 (bf2 (bf2 (bf2 (bf2 (bf1 (bf2 (bf2 hn))))))))))
    | z + 2, hz => exact absurd hz (Nat.not_lt.mpr (Nat.le_add_left _ _))) (by decide) hF
  exact ⟨a, t, fun q hq => by cases hq; exact h⟩
set_option maxRecDepth 20000 in
theorem sx_28 {A : Array Value} {s : State} {F : Nat → Prop} (hts : ∀ w ∈ lw_tbl, w.before A s = true) (hn : narrow_1.before A s = true) (hF : ∀ a : Nat, a < s.heap.size → ¬ F a) : ∃ a t, sx_P s F 28 a t := by
  obtain ⟨a, t, h⟩ := sx_one (A := A) (F := F) (own := "SiltHarbourModel") (k := 282) (tx := "not") (jg_byt.getD 28 []) (hts _ (jt_m9 160 rfl)) (bf1 (bf2 (bf2 (bf2 (bf2 (bf2 (bf2 (bf1 (bf2 (bf2 hn)))))))))) (bf2 (bf2 (bf2 (bf2 (bf2 (bf2 (bf2 (bf1 (bf2 (bf2 hn)))))))))) (bf1 (bf1 (bf1 (bf1 (bf1 (bf1 (bf2 (bf2 (bf2 hn))))))))) (bf1 (bf2 (bf1 (bf1 (bf1 (bf1 (bf1 (bf2 (bf2 (bf2 hn)))))))))) (fun j hj => by
    match j, hj with
    | 0, _ => exact (bf2 (bf2 (bf1 (bf1 (bf1 (bf1 (bf1 (bf2 (bf2 (bf2 hn))))))))))
    | 1, _ => exact (bf1 (bf2 (bf1 (bf1 (bf1 (bf1 (bf2 (bf2 (bf2 hn)))))))))
    | 2, _ => exact (bf1 (bf2 (bf2 (bf1 (bf1 (bf1 (bf1 (bf2 (bf2 (bf2 hn))))))))))
    | z + 3, hz => exact absurd hz (Nat.not_lt.mpr (Nat.le_add_left _ _))) (by decide) hF
  exact ⟨a, t, fun q hq => by cases hq; exact h⟩
set_option maxRecDepth 20000 in
theorem sx_29 {A : Array Value} {s : State} {F : Nat → Prop} (hts : ∀ w ∈ lw_tbl, w.before A s = true) (hn : narrow_1.before A s = true) (hF : ∀ a : Nat, a < s.heap.size → ¬ F a) : ∃ a t, sx_P s F 29 a t := by
  obtain ⟨a, t, h⟩ := sx_one (A := A) (F := F) (own := "SiltHarbourModel") (k := 248) (tx := "coal") (jg_byt.getD 29 []) (hts _ (jt_m9 169 rfl)) (bf2 (bf2 (bf2 (bf1 (bf1 (bf1 (bf1 (bf2 (bf2 (bf2 hn)))))))))) (bf1 (bf1 (bf2 (bf1 (bf1 (bf1 (bf2 (bf2 (bf2 hn))))))))) (bf1 (bf2 (bf1 (bf2 (bf1 (bf1 (bf1 (bf2 (bf2 (bf2 hn)))))))))) (bf2 (bf2 (bf1 (bf2 (bf1 (bf1 (bf1 (bf2 (bf2 (bf2 hn)))))))))) (fun j hj => by
    match j, hj with
    | 0, _ => exact (bf1 (bf1 (bf2 (bf2 (bf1 (bf1 (bf1 (bf2 (bf2 (bf2 hn))))))))))
    | 1, _ => exact (bf2 (bf1 (bf2 (bf2 (bf1 (bf1 (bf1 (bf2 (bf2 (bf2 hn))))))))))
    | 2, _ => exact (bf1 (bf2 (bf2 (bf2 (bf1 (bf1 (bf1 (bf2 (bf2 (bf2 hn))))))))))
    | 3, _ => exact (bf2 (bf2 (bf2 (bf2 (bf1 (bf1 (bf1 (bf2 (bf2 (bf2 hn))))))))))
    | z + 4, hz => exact absurd hz (Nat.not_lt.mpr (Nat.le_add_left _ _))) (by decide) hF
  exact ⟨a, t, fun q hq => by cases hq; exact h⟩
set_option maxRecDepth 20000 in
theorem sx_30 {A : Array Value} {s : State} {F : Nat → Prop} (hts : ∀ w ∈ lw_tbl, w.before A s = true) (hn : narrow_1.before A s = true) (hF : ∀ a : Nat, a < s.heap.size → ¬ F a) : ∃ a t, sx_P s F 30 a t := by
  obtain ⟨a, t, h⟩ := sx_one (A := A) (F := F) (own := "SiltHarbourModel") (k := 250) (tx := "grain") (jg_byt.getD 30 []) (hts _ (jt_m9 170 rfl)) (bf1 (bf1 (bf1 (bf2 (bf1 (bf1 (bf2 (bf2 (bf2 hn))))))))) (bf1 (bf2 (bf1 (bf1 (bf2 (bf1 (bf1 (bf2 (bf2 (bf2 hn)))))))))) (bf2 (bf2 (bf1 (bf1 (bf2 (bf1 (bf1 (bf2 (bf2 (bf2 hn)))))))))) (bf1 (bf2 (bf1 (bf2 (bf1 (bf1 (bf2 (bf2 (bf2 hn))))))))) (fun j hj => by
    match j, hj with
    | 0, _ => exact (bf1 (bf2 (bf2 (bf1 (bf2 (bf1 (bf1 (bf2 (bf2 (bf2 hn))))))))))
    | 1, _ => exact (bf2 (bf2 (bf2 (bf1 (bf2 (bf1 (bf1 (bf2 (bf2 (bf2 hn))))))))))
    | 2, _ => exact (bf1 (bf1 (bf2 (bf2 (bf1 (bf1 (bf2 (bf2 (bf2 hn)))))))))
    | 3, _ => exact (bf1 (bf2 (bf1 (bf2 (bf2 (bf1 (bf1 (bf2 (bf2 (bf2 hn))))))))))
    | 4, _ => exact (bf2 (bf2 (bf1 (bf2 (bf2 (bf1 (bf1 (bf2 (bf2 (bf2 hn))))))))))
    | z + 5, hz => exact absurd hz (Nat.not_lt.mpr (Nat.le_add_left _ _))) (by decide) hF
  exact ⟨a, t, fun q hq => by cases hq; exact h⟩
set_option maxRecDepth 20000 in
theorem sx_31 {A : Array Value} {s : State} {F : Nat → Prop} (hts : ∀ w ∈ lw_tbl, w.before A s = true) (hn : narrow_1.before A s = true) (hF : ∀ a : Nat, a < s.heap.size → ¬ F a) : ∃ a t, sx_P s F 31 a t := by
  obtain ⟨a, t, h⟩ := sx_one (A := A) (F := F) (own := "SiltHarbourModel") (k := 252) (tx := "timber") (jg_byt.getD 31 []) (hts _ (jt_m9 171 rfl)) (bf1 (bf1 (bf2 (bf2 (bf2 (bf1 (bf1 (bf2 (bf2 (bf2 hn)))))))))) (bf2 (bf1 (bf2 (bf2 (bf2 (bf1 (bf1 (bf2 (bf2 (bf2 hn)))))))))) (bf1 (bf2 (bf2 (bf2 (bf2 (bf1 (bf1 (bf2 (bf2 (bf2 hn)))))))))) (bf2 (bf2 (bf2 (bf2 (bf2 (bf1 (bf1 (bf2 (bf2 (bf2 hn)))))))))) (fun j hj => by
    match j, hj with
    | 0, _ => exact (bf1 (bf1 (bf1 (bf1 (bf2 (bf1 (bf2 (bf2 (bf2 hn)))))))))
    | 1, _ => exact (bf1 (bf2 (bf1 (bf1 (bf1 (bf2 (bf1 (bf2 (bf2 (bf2 hn))))))))))
    | 2, _ => exact (bf2 (bf2 (bf1 (bf1 (bf1 (bf2 (bf1 (bf2 (bf2 (bf2 hn))))))))))
    | 3, _ => exact (bf1 (bf2 (bf1 (bf1 (bf2 (bf1 (bf2 (bf2 (bf2 hn)))))))))
    | 4, _ => exact (bf1 (bf2 (bf2 (bf1 (bf1 (bf2 (bf1 (bf2 (bf2 (bf2 hn))))))))))
    | 5, _ => exact (bf2 (bf2 (bf2 (bf1 (bf1 (bf2 (bf1 (bf2 (bf2 (bf2 hn))))))))))
    | z + 6, hz => exact absurd hz (Nat.not_lt.mpr (Nat.le_add_left _ _))) (by decide) hF
  exact ⟨a, t, fun q hq => by cases hq; exact h⟩
set_option maxRecDepth 20000 in
theorem sx_32 {A : Array Value} {s : State} {F : Nat → Prop} (hts : ∀ w ∈ lw_tbl, w.before A s = true) (hn : narrow_1.before A s = true) (hF : ∀ a : Nat, a < s.heap.size → ¬ F a) : ∃ a t, sx_P s F 32 a t := by
  obtain ⟨a, t, h⟩ := sx_one (A := A) (F := F) (own := "SiltHarbourModel") (k := 254) (tx := "cotton") (jg_byt.getD 32 []) (hts _ (jt_m9 172 rfl)) (bf1 (bf1 (bf2 (bf1 (bf2 (bf1 (bf2 (bf2 (bf2 hn))))))))) (bf1 (bf2 (bf1 (bf2 (bf1 (bf2 (bf1 (bf2 (bf2 (bf2 hn)))))))))) (bf2 (bf2 (bf1 (bf2 (bf1 (bf2 (bf1 (bf2 (bf2 (bf2 hn)))))))))) (bf1 (bf1 (bf2 (bf2 (bf1 (bf2 (bf1 (bf2 (bf2 (bf2 hn)))))))))) (fun j hj => by
    match j, hj with
    | 0, _ => exact (bf2 (bf1 (bf2 (bf2 (bf1 (bf2 (bf1 (bf2 (bf2 (bf2 hn))))))))))
    | 1, _ => exact (bf1 (bf2 (bf2 (bf2 (bf1 (bf2 (bf1 (bf2 (bf2 (bf2 hn))))))))))
    | 2, _ => exact (bf2 (bf2 (bf2 (bf2 (bf1 (bf2 (bf1 (bf2 (bf2 (bf2 hn))))))))))
    | 3, _ => exact (bf1 (bf1 (bf1 (bf2 (bf2 (bf1 (bf2 (bf2 (bf2 hn)))))))))
    | 4, _ => exact (bf1 (bf2 (bf1 (bf1 (bf2 (bf2 (bf1 (bf2 (bf2 (bf2 hn))))))))))
    | 5, _ => exact (bf2 (bf2 (bf1 (bf1 (bf2 (bf2 (bf1 (bf2 (bf2 (bf2 hn))))))))))
    | z + 6, hz => exact absurd hz (Nat.not_lt.mpr (Nat.le_add_left _ _))) (by decide) hF
  exact ⟨a, t, fun q hq => by cases hq; exact h⟩
set_option maxRecDepth 20000 in
theorem sx_33 {A : Array Value} {s : State} {F : Nat → Prop} (hts : ∀ w ∈ lw_tbl, w.before A s = true) (hn : narrow_1.before A s = true) (hF : ∀ a : Nat, a < s.heap.size → ¬ F a) : ∃ a t, sx_P s F 33 a t := by
  obtain ⟨a, t, h⟩ := sx_one (A := A) (F := F) (own := "SiltHarbourModel") (k := 256) (tx := "ore") (jg_byt.getD 33 []) (hts _ (jt_m9 173 rfl)) (bf1 (bf2 (bf1 (bf2 (bf2 (bf1 (bf2 (bf2 (bf2 hn))))))))) (bf1 (bf2 (bf2 (bf1 (bf2 (bf2 (bf1 (bf2 (bf2 (bf2 hn)))))))))) (bf2 (bf2 (bf2 (bf1 (bf2 (bf2 (bf1 (bf2 (bf2 (bf2 hn)))))))))) (bf1 (bf1 (bf2 (bf2 (bf2 (bf1 (bf2 (bf2 (bf2 hn))))))))) (fun j hj => by
    match j, hj with
    | 0, _ => exact (bf1 (bf2 (bf1 (bf2 (bf2 (bf2 (bf1 (bf2 (bf2 (bf2 hn))))))))))
    | 1, _ => exact (bf2 (bf2 (bf1 (bf2 (bf2 (bf2 (bf1 (bf2 (bf2 (bf2 hn))))))))))
    | 2, _ => exact (bf1 (bf1 (bf2 (bf2 (bf2 (bf2 (bf1 (bf2 (bf2 (bf2 hn))))))))))
    | z + 3, hz => exact absurd hz (Nat.not_lt.mpr (Nat.le_add_left _ _))) (by decide) hF
  exact ⟨a, t, fun q hq => by cases hq; exact h⟩
set_option maxRecDepth 20000 in
theorem sx_34 {A : Array Value} {s : State} {F : Nat → Prop} (hts : ∀ w ∈ lw_tbl, w.before A s = true) (hn : narrow_1.before A s = true) (hF : ∀ a : Nat, a < s.heap.size → ¬ F a) : ∃ a t, sx_P s F 34 a t := by
  obtain ⟨a, t, h⟩ := sx_one (A := A) (F := F) (own := "SiltHarbourModel") (k := 258) (tx := "mail") (jg_byt.getD 34 []) (hts _ (jt_m9 174 rfl)) (bf2 (bf1 (bf2 (bf2 (bf2 (bf2 (bf1 (bf2 (bf2 (bf2 hn)))))))))) (bf1 (bf2 (bf2 (bf2 (bf2 (bf2 (bf1 (bf2 (bf2 (bf2 hn)))))))))) (bf2 (bf2 (bf2 (bf2 (bf2 (bf2 (bf1 (bf2 (bf2 (bf2 hn)))))))))) (bf1 (bf1 (bf1 (bf1 (bf1 (bf2 (bf2 (bf2 (bf2 hn))))))))) (fun j hj => by
    match j, hj with
    | 0, _ => exact (bf1 (bf2 (bf1 (bf1 (bf1 (bf1 (bf2 (bf2 (bf2 (bf2 hn))))))))))
    | 1, _ => exact (bf2 (bf2 (bf1 (bf1 (bf1 (bf1 (bf2 (bf2 (bf2 (bf2 hn))))))))))
    | 2, _ => exact (bf1 (bf2 (bf1 (bf1 (bf1 (bf2 (bf2 (bf2 (bf2 hn)))))))))
    | 3, _ => exact (bf1 (bf2 (bf2 (bf1 (bf1 (bf1 (bf2 (bf2 (bf2 (bf2 hn))))))))))
    | z + 4, hz => exact absurd hz (Nat.not_lt.mpr (Nat.le_add_left _ _))) (by decide) hF
  exact ⟨a, t, fun q hq => by cases hq; exact h⟩
set_option maxRecDepth 20000 in
theorem sx_35 {A : Array Value} {s : State} {F : Nat → Prop} (hts : ∀ w ∈ lw_tbl, w.before A s = true) (hn : narrow_1.before A s = true) (hF : ∀ a : Nat, a < s.heap.size → ¬ F a) : ∃ a t, sx_P s F 35 a t := by
  obtain ⟨a, t, h⟩ := sx_one (A := A) (F := F) (own := "SiltHarbourModel") (k := 260) (tx := "foreign") (jg_byt.getD 35 []) (hts _ (jt_m9 175 rfl)) (bf2 (bf2 (bf2 (bf1 (bf1 (bf1 (bf2 (bf2 (bf2 (bf2 hn)))))))))) (bf1 (bf1 (bf2 (bf1 (bf1 (bf2 (bf2 (bf2 (bf2 hn))))))))) (bf1 (bf2 (bf1 (bf2 (bf1 (bf1 (bf2 (bf2 (bf2 (bf2 hn)))))))))) (bf2 (bf2 (bf1 (bf2 (bf1 (bf1 (bf2 (bf2 (bf2 (bf2 hn)))))))))) (fun j hj => by
    match j, hj with
    | 0, _ => exact (bf1 (bf1 (bf2 (bf2 (bf1 (bf1 (bf2 (bf2 (bf2 (bf2 hn))))))))))
    | 1, _ => exact (bf2 (bf1 (bf2 (bf2 (bf1 (bf1 (bf2 (bf2 (bf2 (bf2 hn))))))))))
    | 2, _ => exact (bf1 (bf2 (bf2 (bf2 (bf1 (bf1 (bf2 (bf2 (bf2 (bf2 hn))))))))))
    | 3, _ => exact (bf2 (bf2 (bf2 (bf2 (bf1 (bf1 (bf2 (bf2 (bf2 (bf2 hn))))))))))
    | 4, _ => exact (bf1 (bf1 (bf1 (bf2 (bf1 (bf2 (bf2 (bf2 (bf2 hn)))))))))
    | 5, _ => exact (bf1 (bf2 (bf1 (bf1 (bf2 (bf1 (bf2 (bf2 (bf2 (bf2 hn))))))))))
    | 6, _ => exact (bf2 (bf2 (bf1 (bf1 (bf2 (bf1 (bf2 (bf2 (bf2 (bf2 hn))))))))))
    | z + 7, hz => exact absurd hz (Nat.not_lt.mpr (Nat.le_add_left _ _))) (by decide) hF
  exact ⟨a, t, fun q hq => by cases hq; exact h⟩
set_option maxRecDepth 20000 in
theorem sx_36 {A : Array Value} {s : State} {F : Nat → Prop} (hts : ∀ w ∈ lw_tbl, w.before A s = true) (hn : narrow_1.before A s = true) (hF : ∀ a : Nat, a < s.heap.size → ¬ F a) : ∃ a t, sx_P s F 36 a t := by
  obtain ⟨a, t, h⟩ := sx_one (A := A) (F := F) (own := "SiltHarbourModel") (k := 266) (tx := "stay") (jg_byt.getD 36 []) (hts _ (jt_m9 180 rfl)) (bf1 (bf2 (bf1 (bf2 (bf1 (bf2 (bf2 (bf2 (bf2 hn))))))))) (bf1 (bf2 (bf2 (bf1 (bf2 (bf1 (bf2 (bf2 (bf2 (bf2 hn)))))))))) (bf2 (bf2 (bf2 (bf1 (bf2 (bf1 (bf2 (bf2 (bf2 (bf2 hn)))))))))) (bf1 (bf1 (bf2 (bf2 (bf1 (bf2 (bf2 (bf2 (bf2 hn))))))))) (fun j hj => by
    match j, hj with
    | 0, _ => exact (bf1 (bf2 (bf1 (bf2 (bf2 (bf1 (bf2 (bf2 (bf2 (bf2 hn))))))))))
    | 1, _ => exact (bf2 (bf2 (bf1 (bf2 (bf2 (bf1 (bf2 (bf2 (bf2 (bf2 hn))))))))))
    | 2, _ => exact (bf1 (bf1 (bf2 (bf2 (bf2 (bf1 (bf2 (bf2 (bf2 (bf2 hn))))))))))
    | 3, _ => exact (bf2 (bf1 (bf2 (bf2 (bf2 (bf1 (bf2 (bf2 (bf2 (bf2 hn))))))))))
    | z + 4, hz => exact absurd hz (Nat.not_lt.mpr (Nat.le_add_left _ _))) (by decide) hF
  exact ⟨a, t, fun q hq => by cases hq; exact h⟩
set_option maxRecDepth 20000 in
theorem sx_37 {A : Array Value} {s : State} {F : Nat → Prop} (hts : ∀ w ∈ lw_tbl, w.before A s = true) (hn : narrow_1.before A s = true) (hF : ∀ a : Nat, a < s.heap.size → ¬ F a) : ∃ a t, sx_P s F 37 a t := by
  obtain ⟨a, t, h⟩ := sx_one (A := A) (F := F) (own := "SiltHarbourModel") (k := 268) (tx := "paid") (jg_byt.getD 37 []) (hts _ (jt_m9 181 rfl)) (bf1 (bf2 (bf2 (bf2 (bf2 (bf1 (bf2 (bf2 (bf2 (bf2 hn)))))))))) (bf2 (bf2 (bf2 (bf2 (bf2 (bf1 (bf2 (bf2 (bf2 (bf2 hn)))))))))) (bf1 (bf1 (bf1 (bf1 (bf2 (bf2 (bf2 (bf2 (bf2 hn))))))))) (bf1 (bf2 (bf1 (bf1 (bf1 (bf2 (bf2 (bf2 (bf2 (bf2 hn)))))))))) (fun j hj => by
    match j, hj with
    | 0, _ => exact (bf2 (bf2 (bf1 (bf1 (bf1 (bf2 (bf2 (bf2 (bf2 (bf2 hn))))))))))
    | 1, _ => exact (bf1 (bf2 (bf1 (bf1 (bf2 (bf2 (bf2 (bf2 (bf2 hn)))))))))
    | 2, _ => exact (bf1 (bf2 (bf2 (bf1 (bf1 (bf2 (bf2 (bf2 (bf2 (bf2 hn))))))))))
    | 3, _ => exact (bf2 (bf2 (bf2 (bf1 (bf1 (bf2 (bf2 (bf2 (bf2 (bf2 hn))))))))))
    | z + 4, hz => exact absurd hz (Nat.not_lt.mpr (Nat.le_add_left _ _))) (by decide) hF
  exact ⟨a, t, fun q hq => by cases hq; exact h⟩
set_option maxRecDepth 20000 in
theorem sx_38 {A : Array Value} {s : State} {F : Nat → Prop} (hts : ∀ w ∈ lw_tbl, w.before A s = true) (hn : narrow_1.before A s = true) (hF : ∀ a : Nat, a < s.heap.size → ¬ F a) : ∃ a t, sx_P s F 38 a t := by
  obtain ⟨a, t, h⟩ := sx_one (A := A) (F := F) (own := "SiltHarbourModel") (k := 270) (tx := "last") (jg_byt.getD 38 []) (hts _ (jt_m9 182 rfl)) (bf1 (bf1 (bf2 (bf1 (bf2 (bf2 (bf2 (bf2 (bf2 hn))))))))) (bf1 (bf2 (bf1 (bf2 (bf1 (bf2 (bf2 (bf2 (bf2 (bf2 hn)))))))))) (bf2 (bf2 (bf1 (bf2 (bf1 (bf2 (bf2 (bf2 (bf2 (bf2 hn)))))))))) (bf1 (bf1 (bf2 (bf2 (bf1 (bf2 (bf2 (bf2 (bf2 (bf2 hn)))))))))) (fun j hj => by
    match j, hj with
    | 0, _ => exact (bf2 (bf1 (bf2 (bf2 (bf1 (bf2 (bf2 (bf2 (bf2 (bf2 hn))))))))))
    | 1, _ => exact (bf1 (bf2 (bf2 (bf2 (bf1 (bf2 (bf2 (bf2 (bf2 (bf2 hn))))))))))
    | 2, _ => exact (bf2 (bf2 (bf2 (bf2 (bf1 (bf2 (bf2 (bf2 (bf2 (bf2 hn))))))))))
    | 3, _ => exact (bf1 (bf1 (bf1 (bf2 (bf2 (bf2 (bf2 (bf2 (bf2 hn)))))))))
    | z + 4, hz => exact absurd hz (Nat.not_lt.mpr (Nat.le_add_left _ _))) (by decide) hF
  exact ⟨a, t, fun q hq => by cases hq; exact h⟩
set_option maxRecDepth 20000 in
theorem sx_39 {A : Array Value} {s : State} {F : Nat → Prop} (hts : ∀ w ∈ lw_tbl, w.before A s = true) (hn : narrow_1.before A s = true) (hF : ∀ a : Nat, a < s.heap.size → ¬ F a) : ∃ a t, sx_P s F 39 a t := by
  obtain ⟨a, t, h⟩ := sx_one (A := A) (F := F) (own := "SiltHarbourModel") (k := 304) (tx := "and") (jg_byt.getD 39 []) (hts _ (jt_m9 183 rfl)) (bf1 (bf2 (bf1 (bf1 (bf2 (bf2 (bf2 (bf2 (bf2 (bf2 hn)))))))))) (bf2 (bf2 (bf1 (bf1 (bf2 (bf2 (bf2 (bf2 (bf2 (bf2 hn)))))))))) (bf1 (bf1 (bf2 (bf1 (bf2 (bf2 (bf2 (bf2 (bf2 (bf2 hn)))))))))) (bf2 (bf1 (bf2 (bf1 (bf2 (bf2 (bf2 (bf2 (bf2 (bf2 hn)))))))))) (fun j hj => by
    match j, hj with
    | 0, _ => exact (bf1 (bf2 (bf2 (bf1 (bf2 (bf2 (bf2 (bf2 (bf2 (bf2 hn))))))))))
    | 1, _ => exact (bf2 (bf2 (bf2 (bf1 (bf2 (bf2 (bf2 (bf2 (bf2 (bf2 hn))))))))))
    | 2, _ => exact (bf1 (bf1 (bf2 (bf2 (bf2 (bf2 (bf2 (bf2 (bf2 hn)))))))))
    | z + 3, hz => exact absurd hz (Nat.not_lt.mpr (Nat.le_add_left _ _))) (by decide) hF
  exact ⟨a, t, fun q hq => by cases hq; exact h⟩
set_option maxRecDepth 20000 in
theorem sx_40 {A : Array Value} {s : State} {F : Nat → Prop} (hts : ∀ w ∈ lw_tbl, w.before A s = true) (hn : narrow_1.before A s = true) (hF : ∀ a : Nat, a < s.heap.size → ¬ F a) : ∃ a t, sx_P s F 40 a t := by
  obtain ⟨a, t, h⟩ := sx_one (A := A) (F := F) (own := "SiltHarbourModel") (k := 309) (tx := "or") (jg_byt.getD 40 []) (hts _ (jt_m9 184 rfl)) (bf1 (bf2 (bf1 (bf2 (bf2 (bf2 (bf2 (bf2 (bf2 (bf2 hn)))))))))) (bf2 (bf2 (bf1 (bf2 (bf2 (bf2 (bf2 (bf2 (bf2 (bf2 hn)))))))))) (bf1 (bf1 (bf2 (bf2 (bf2 (bf2 (bf2 (bf2 (bf2 (bf2 hn)))))))))) (bf2 (bf1 (bf2 (bf2 (bf2 (bf2 (bf2 (bf2 (bf2 (bf2 hn)))))))))) (fun j hj => by
    match j, hj with
    | 0, _ => exact (bf1 (bf2 (bf2 (bf2 (bf2 (bf2 (bf2 (bf2 (bf2 (bf2 hn))))))))))
    | 1, _ => exact (bf2 (bf2 (bf2 (bf2 (bf2 (bf2 (bf2 (bf2 (bf2 (bf2 hn))))))))))
    | z + 2, hz => exact absurd hz (Nat.not_lt.mpr (Nat.le_add_left _ _))) (by decide) hF
  exact ⟨a, t, fun q hq => by cases hq; exact h⟩
theorem sx_all {A : Array Value} {s : State} {F : Nat → Prop} (hts : ∀ w ∈ lw_tbl, w.before A s = true) (hn : narrow_1.before A s = true) (hF : ∀ a : Nat, a < s.heap.size → ¬ F a) : ∃ xa xt : Nat → Nat, ∀ i, i < 41 → sx_P s F i (xa i) (xt i) := by
  have h : ∀ i : Nat, ∃ a t : Nat, i < 41 → sx_P s F i a t := by
    intro i
    by_cases hi : i < 41
    · match i, hi with
      | 0, _ => obtain ⟨a, t, h⟩ := sx_0 hts hn hF; exact ⟨a, t, fun _ => h⟩
      | 1, _ => obtain ⟨a, t, h⟩ := sx_1 hts hn hF; exact ⟨a, t, fun _ => h⟩
      | 2, _ => obtain ⟨a, t, h⟩ := sx_2 hts hn hF; exact ⟨a, t, fun _ => h⟩
      | 3, _ => obtain ⟨a, t, h⟩ := sx_3 hts hn hF; exact ⟨a, t, fun _ => h⟩
      | 4, _ => obtain ⟨a, t, h⟩ := sx_4 hts hn hF; exact ⟨a, t, fun _ => h⟩
      | 5, _ => obtain ⟨a, t, h⟩ := sx_5 hts hn hF; exact ⟨a, t, fun _ => h⟩
      | 6, _ => obtain ⟨a, t, h⟩ := sx_6 hts hn hF; exact ⟨a, t, fun _ => h⟩
      | 7, _ => obtain ⟨a, t, h⟩ := sx_7 hts hn hF; exact ⟨a, t, fun _ => h⟩
      | 8, _ => obtain ⟨a, t, h⟩ := sx_8 hts hn hF; exact ⟨a, t, fun _ => h⟩
      | 9, _ => obtain ⟨a, t, h⟩ := sx_9 hts hn hF; exact ⟨a, t, fun _ => h⟩
      | 10, _ => obtain ⟨a, t, h⟩ := sx_10 hts hn hF; exact ⟨a, t, fun _ => h⟩
      | 11, _ => obtain ⟨a, t, h⟩ := sx_11 hts hn hF; exact ⟨a, t, fun _ => h⟩
      | 12, _ => obtain ⟨a, t, h⟩ := sx_12 hts hn hF; exact ⟨a, t, fun _ => h⟩
      | 13, _ => obtain ⟨a, t, h⟩ := sx_13 hts hn hF; exact ⟨a, t, fun _ => h⟩
      | 14, _ => obtain ⟨a, t, h⟩ := sx_14 hts hn hF; exact ⟨a, t, fun _ => h⟩
      | 15, _ => obtain ⟨a, t, h⟩ := sx_15 hts hn hF; exact ⟨a, t, fun _ => h⟩
      | 16, _ => obtain ⟨a, t, h⟩ := sx_16 hts hn hF; exact ⟨a, t, fun _ => h⟩
      | 17, _ => obtain ⟨a, t, h⟩ := sx_17 hts hn hF; exact ⟨a, t, fun _ => h⟩
      | 18, _ => obtain ⟨a, t, h⟩ := sx_18 hts hn hF; exact ⟨a, t, fun _ => h⟩
      | 19, _ => obtain ⟨a, t, h⟩ := sx_19 hts hn hF; exact ⟨a, t, fun _ => h⟩
      | 20, _ => obtain ⟨a, t, h⟩ := sx_20 hts hn hF; exact ⟨a, t, fun _ => h⟩
      | 21, _ => obtain ⟨a, t, h⟩ := sx_21 hts hn hF; exact ⟨a, t, fun _ => h⟩
      | 22, _ => obtain ⟨a, t, h⟩ := sx_22 hts hn hF; exact ⟨a, t, fun _ => h⟩
      | 23, _ => obtain ⟨a, t, h⟩ := sx_23 hts hn hF; exact ⟨a, t, fun _ => h⟩
      | 24, _ => obtain ⟨a, t, h⟩ := sx_24 hts hn hF; exact ⟨a, t, fun _ => h⟩
      | 25, _ => obtain ⟨a, t, h⟩ := sx_25 hts hn hF; exact ⟨a, t, fun _ => h⟩
      | 26, _ => obtain ⟨a, t, h⟩ := sx_26 hts hn hF; exact ⟨a, t, fun _ => h⟩
      | 27, _ => obtain ⟨a, t, h⟩ := sx_27 hts hn hF; exact ⟨a, t, fun _ => h⟩
      | 28, _ => obtain ⟨a, t, h⟩ := sx_28 hts hn hF; exact ⟨a, t, fun _ => h⟩
      | 29, _ => obtain ⟨a, t, h⟩ := sx_29 hts hn hF; exact ⟨a, t, fun _ => h⟩
      | 30, _ => obtain ⟨a, t, h⟩ := sx_30 hts hn hF; exact ⟨a, t, fun _ => h⟩
      | 31, _ => obtain ⟨a, t, h⟩ := sx_31 hts hn hF; exact ⟨a, t, fun _ => h⟩
      | 32, _ => obtain ⟨a, t, h⟩ := sx_32 hts hn hF; exact ⟨a, t, fun _ => h⟩
      | 33, _ => obtain ⟨a, t, h⟩ := sx_33 hts hn hF; exact ⟨a, t, fun _ => h⟩
      | 34, _ => obtain ⟨a, t, h⟩ := sx_34 hts hn hF; exact ⟨a, t, fun _ => h⟩
      | 35, _ => obtain ⟨a, t, h⟩ := sx_35 hts hn hF; exact ⟨a, t, fun _ => h⟩
      | 36, _ => obtain ⟨a, t, h⟩ := sx_36 hts hn hF; exact ⟨a, t, fun _ => h⟩
      | 37, _ => obtain ⟨a, t, h⟩ := sx_37 hts hn hF; exact ⟨a, t, fun _ => h⟩
      | 38, _ => obtain ⟨a, t, h⟩ := sx_38 hts hn hF; exact ⟨a, t, fun _ => h⟩
      | 39, _ => obtain ⟨a, t, h⟩ := sx_39 hts hn hF; exact ⟨a, t, fun _ => h⟩
      | 40, _ => obtain ⟨a, t, h⟩ := sx_40 hts hn hF; exact ⟨a, t, fun _ => h⟩
      | z + 41, hz => exact absurd hz (by omega)
    · exact ⟨0, 0, fun h => absurd h hi⟩
  obtain ⟨xa, h2⟩ := Classical.axiomOfChoice h
  obtain ⟨xt, h3⟩ := Classical.axiomOfChoice h2
  exact ⟨xa, xt, h3⟩
theorem nc_all {A : Array Value} {s : State} (hn : narrow_1.before A s = true) : jh_N s := by
  intro i j hi hj hne
  match i, j, hi, hj, hne with
  | 0, 0, _, _, h => exact absurd rfl h
  | 0, 1, _, _, _ => exact va_Nc.of (bf1 (bf1 (bf1 (bf2 (bf2 (bf1 (bf1 (bf1 (bf1 hn)))))))))
  | 0, 2, _, _, _ => exact va_Nc.of (bf1 (bf2 (bf2 (bf1 (bf1 (bf1 (bf2 (bf1 (bf1 (bf1 hn))))))))))
  | 0, 3, _, _, _ => exact va_Nc.of (bf2 (bf2 (bf1 (bf2 (bf2 (bf1 (bf2 (bf1 (bf1 (bf1 hn))))))))))
  | 0, 4, _, _, _ => exact va_Nc.of (bf2 (bf2 (bf2 (bf2 (bf1 (bf2 (bf2 (bf1 (bf1 (bf1 hn))))))))))
  | 1, 0, _, _, _ => exact va_Nc.of (bf1 (bf1 (bf2 (bf2 (bf2 (bf1 (bf1 (bf1 (bf1 (bf1 hn))))))))))
  | 1, 1, _, _, h => exact absurd rfl h
  | 1, 2, _, _, _ => exact va_Nc.of (bf2 (bf2 (bf2 (bf1 (bf1 (bf1 (bf2 (bf1 (bf1 (bf1 hn))))))))))
  | 1, 3, _, _, _ => exact va_Nc.of (bf1 (bf1 (bf2 (bf2 (bf2 (bf1 (bf2 (bf1 (bf1 (bf1 hn))))))))))
  | 1, 4, _, _, _ => exact va_Nc.of (bf1 (bf1 (bf1 (bf2 (bf2 (bf2 (bf1 (bf1 (bf1 hn)))))))))
  | 2, 0, _, _, _ => exact va_Nc.of (bf2 (bf1 (bf2 (bf2 (bf2 (bf1 (bf1 (bf1 (bf1 (bf1 hn))))))))))
  | 2, 1, _, _, _ => exact va_Nc.of (bf1 (bf2 (bf1 (bf1 (bf2 (bf2 (bf1 (bf1 (bf1 (bf1 hn))))))))))
  | 2, 2, _, _, h => exact absurd rfl h
  | 2, 3, _, _, _ => exact va_Nc.of (bf2 (bf1 (bf2 (bf2 (bf2 (bf1 (bf2 (bf1 (bf1 (bf1 hn))))))))))
  | 2, 4, _, _, _ => exact va_Nc.of (bf1 (bf2 (bf1 (bf1 (bf2 (bf2 (bf2 (bf1 (bf1 (bf1 hn))))))))))
  | 3, 0, _, _, _ => exact va_Nc.of (bf1 (bf2 (bf2 (bf2 (bf2 (bf1 (bf1 (bf1 (bf1 (bf1 hn))))))))))
  | 3, 1, _, _, _ => exact va_Nc.of (bf2 (bf2 (bf1 (bf1 (bf2 (bf2 (bf1 (bf1 (bf1 (bf1 hn))))))))))
  | 3, 2, _, _, _ => exact va_Nc.of (bf1 (bf1 (bf2 (bf1 (bf1 (bf2 (bf1 (bf1 (bf1 hn)))))))))
  | 3, 3, _, _, h => exact absurd rfl h
  | 3, 4, _, _, _ => exact va_Nc.of (bf2 (bf2 (bf1 (bf1 (bf2 (bf2 (bf2 (bf1 (bf1 (bf1 hn))))))))))
  | 4, 0, _, _, _ => exact va_Nc.of (bf2 (bf2 (bf2 (bf2 (bf2 (bf1 (bf1 (bf1 (bf1 (bf1 hn))))))))))
  | 4, 1, _, _, _ => exact va_Nc.of (bf1 (bf2 (bf1 (bf2 (bf2 (bf1 (bf1 (bf1 (bf1 hn)))))))))
  | 4, 2, _, _, _ => exact va_Nc.of (bf1 (bf2 (bf1 (bf2 (bf1 (bf1 (bf2 (bf1 (bf1 (bf1 hn))))))))))
  | 4, 3, _, _, _ => exact va_Nc.of (bf1 (bf2 (bf2 (bf2 (bf2 (bf1 (bf2 (bf1 (bf1 (bf1 hn))))))))))
  | 4, 4, _, _, h => exact absurd rfl h
  | x + 5, _, h, _, _ => exact absurd h (by omega)
  | 0, y + 5, _, h, _ => exact absurd h (by omega)
  | 1, y + 5, _, h, _ => exact absurd h (by omega)
  | 2, y + 5, _, h, _ => exact absurd h (by omega)
  | 3, y + 5, _, h, _ => exact absurd h (by omega)
  | 4, y + 5, _, h, _ => exact absurd h (by omega)
theorem kn_all {A : Array Value} {s : State} (hws : ∀ w ∈ jg_ws, w.before A s = true) : ∃ (dC : Nat → ClassId) (dI : Nat → Nat → Nat), ∀ (k : Nat) (q : vw_C), jg_cl[k]? = some q → u_Kn s q.1 q.2.1 q.2.2 (dC k) (dI k) := by
  have h : ∀ k : Nat, ∃ (c : ClassId) (f : Nat → Nat), ∀ q : vw_C, jg_cl[k]? = some q → u_Kn s q.1 q.2.1 q.2.2 c f := by
    intro k
    match k with
    | 0 => obtain ⟨c, f, h⟩ := u_known (C := RX0) (T := TX0) (N := 6) (n := 6) hws jl_X0 (hws _ kn_X0); exact ⟨c, f, fun q hq => by cases hq; exact h⟩
    | 1 => obtain ⟨c, f, h⟩ := u_known (C := RX1) (T := TX1) (N := 9) (n := 9) hws jl_X1 (hws _ kn_X1); exact ⟨c, f, fun q hq => by cases hq; exact h⟩
    | 2 => obtain ⟨c, f, h⟩ := u_known (C := RX2) (T := TX2) (N := 10) (n := 10) hws jl_X2 (hws _ kn_X2); exact ⟨c, f, fun q hq => by cases hq; exact h⟩
    | 3 => obtain ⟨c, f, h⟩ := u_known (C := RX3) (T := TX3) (N := 10) (n := 10) hws jl_X3 (hws _ kn_X3); exact ⟨c, f, fun q hq => by cases hq; exact h⟩
    | 4 => obtain ⟨c, f, h⟩ := u_known (C := RX4) (T := TX4) (N := 12) (n := 12) hws jl_X4 (hws _ kn_X4); exact ⟨c, f, fun q hq => by cases hq; exact h⟩
    | 5 => obtain ⟨c, f, h⟩ := u_known (C := RX5) (T := TX5) (N := 8) (n := 8) hws jl_X5 (hws _ kn_X5); exact ⟨c, f, fun q hq => by cases hq; exact h⟩
    | 6 => obtain ⟨c, f, h⟩ := u_known (C := RX6) (T := TX6) (N := 14) (n := 14) hws jl_X6 (hws _ kn_X6); exact ⟨c, f, fun q hq => by cases hq; exact h⟩
    | 7 => obtain ⟨c, f, h⟩ := u_known (C := RX7) (T := TX7) (N := 12) (n := 12) hws jl_X7 (hws _ kn_X7); exact ⟨c, f, fun q hq => by cases hq; exact h⟩
    | 8 => obtain ⟨c, f, h⟩ := u_known (C := RX8) (T := TX8) (N := 14) (n := 14) hws jl_X8 (hws _ kn_X8); exact ⟨c, f, fun q hq => by cases hq; exact h⟩
    | 9 => obtain ⟨c, f, h⟩ := u_known (C := RX9) (T := TX9) (N := 19) (n := 19) hws jl_X9 (hws _ kn_X9); exact ⟨c, f, fun q hq => by cases hq; exact h⟩
    | 10 => obtain ⟨c, f, h⟩ := u_known (C := RX10) (T := TX10) (N := 6) (n := 6) hws jl_X10 (hws _ kn_X10); exact ⟨c, f, fun q hq => by cases hq; exact h⟩
    | 11 => obtain ⟨c, f, h⟩ := u_known (C := RX11) (T := TX11) (N := 5) (n := 5) hws jl_X11 (hws _ kn_X11); exact ⟨c, f, fun q hq => by cases hq; exact h⟩
    | 12 => obtain ⟨c, f, h⟩ := u_known (C := RX12) (T := TX12) (N := 23) (n := 23) hws jl_X12 (hws _ kn_X12); exact ⟨c, f, fun q hq => by cases hq; exact h⟩
    | k + 13 => exact ⟨0, fun _ => 0, fun q hq => by simp at hq⟩
  obtain ⟨dC, h2⟩ := Classical.axiomOfChoice h
  obtain ⟨dI, h3⟩ := Classical.axiomOfChoice h2
  exact ⟨dC, dI, h3⟩
theorem ar_prim {A : Array Value} {s : State} {ty : FieldType} (h : (Cond.arrayClass ty).before A s = true) : ∃ c : ClassId, ArrOfT s c ty ∧ s.vm.findClass ("[" ++ ty.toString) = some c := by
  obtain ⟨c, k, comp, h1, h2, h3⟩ := Cond.arrayClass_spec h
  exact ⟨c, fun n z => ⟨fun k9 e => (by cases e), k, h2, comp, h3⟩, h1⟩
theorem ar_obj {A : Array Value} {s : State} {C : String} (h : (Cond.arrayOver (.object C)).before A s = true) : ∃ c : ClassId, ArrOfT s c (.object C) ∧ va_RA s c (.object C) := by
  obtain ⟨comp, c, k, h1, -, h2, h3, h4⟩ := Cond.arrayOver_spec h
  exact ⟨c, fun n z => ⟨fun k9 e => (by cases e), k, h2, comp, h3⟩, k, comp, h2, h3, h1, h4⟩
theorem ar_arr {A : Array Value} {s : State} (h : (Cond.arrayOver (.array .int)).before A s = true) : ∃ c : ClassId, ArrOfT s c (.array .int) ∧ va_RA s c (.array .int) := by
  obtain ⟨comp, c, k, h1, h2, h3, h4⟩ := Cond.arrayOver_specA h
  exact ⟨c, fun n z => ⟨fun k9 e => (by cases e), k, h2, comp, h3⟩, h4⟩
theorem cd_all {A : Array Value} {s : State} (hts : ∀ w ∈ lw_tbl, w.before A s = true) : ∀ w ∈ jg_cd, va_Nw w s := by
  intro w hw
  have ho := jg_cd_tab w hw
  simp only [jg_cd, List.mem_cons, List.not_mem_nil, or_false] at hw
  rcases hw with rfl | rfl | rfl | rfl | rfl | rfl | rfl | rfl | rfl | rfl | rfl | rfl | rfl | rfl | rfl | rfl | rfl | rfl | rfl | rfl | rfl | rfl | rfl | rfl | rfl | rfl | rfl | rfl | rfl | rfl | rfl | rfl
  · exact va_Nw.of ho (hts _ (jt_m4 122 rfl))
  · exact va_Nw.of ho (hts _ (jt_m4 123 rfl))
  · exact va_Nw.of ho (hts _ (jt_m4 124 rfl))
  · exact va_Nw.of ho (hts _ (jt_m4 125 rfl))
  · exact va_Nw.of ho (hts _ (jt_m4 126 rfl))
  · exact va_Nw.of ho (hts _ (jt_m4 127 rfl))
  · exact va_Nw.of ho (hts _ (jt_m4 128 rfl))
  · exact va_Nw.of ho (hts _ (jt_m4 197 rfl))
  · exact va_Nw.of ho (hts _ (jt_m4 216 rfl))
  · exact va_Nw.of ho (hts _ (jt_m5 21 rfl))
  · exact va_Nw.of ho (hts _ (jt_m5 71 rfl))
  · exact va_Nw.of ho (hts _ (jt_m7 6 rfl))
  · exact va_Nw.of ho (hts _ (jt_m10 46 rfl))
  · exact va_Nw.of ho (hts _ (jt_m10 47 rfl))
  · exact va_Nw.of ho (hts _ (jt_m10 48 rfl))
  · exact va_Nw.of ho (hts _ (jt_m10 49 rfl))
  · exact va_Nw.of ho (hts _ (jt_m10 50 rfl))
  · exact va_Nw.of ho (hts _ (jt_m10 51 rfl))
  · exact va_Nw.of ho (hts _ (jt_m10 52 rfl))
  · exact va_Nw.of ho (hts _ (jt_m10 53 rfl))
  · exact va_Nw.of ho (hts _ (jt_m10 54 rfl))
  · exact va_Nw.of ho (hts _ (jt_m10 55 rfl))
  · exact va_Nw.of ho (hts _ (jt_m10 56 rfl))
  · exact va_Nw.of ho (hts _ (jt_m10 57 rfl))
  · exact va_Nw.of ho (hts _ (jt_m10 58 rfl))
  · exact va_Nw.of ho (hts _ (jt_m10 59 rfl))
  · exact va_Nw.of ho (hts _ (jt_m10 60 rfl))
  · exact va_Nw.of ho (hts _ (jt_m10 61 rfl))
  · exact va_Nw.of ho (hts _ (jt_m10 62 rfl))
  · exact va_Nw.of ho (hts _ (jt_m10 63 rfl))
  · exact va_Nw.of ho (hts _ (jt_m10 64 rfl))
  · exact va_Nw.of ho (hts _ (jt_m10 65 rfl))
theorem ns_all {A : Array Value} {s : State} (hts : ∀ w ∈ lw_tbl, w.before A s = true) : ∀ w ∈ jg_nest, va_Nw w s := by
  intro w hw
  simp only [jg_nest, List.mem_cons, List.not_mem_nil, or_false] at hw
  rcases hw with rfl | rfl | rfl | rfl | rfl | rfl | rfl | rfl | rfl
  · exact va_Nw.of rfl (hts _ (jt_m2 18 rfl))
  · exact va_Nw.of rfl (hts _ (jt_m4 16 rfl))
  · exact va_Nw.of rfl (hts _ (jt_m4 27 rfl))
  · exact va_Nw.of rfl (hts _ (jt_m4 44 rfl))
  · exact va_Nw.of rfl (hts _ (jt_m4 49 rfl))
  · exact va_Nw.of rfl (hts _ (jt_m4 54 rfl))
  · exact va_Nw.of rfl (hts _ (jt_m4 59 rfl))
  · exact va_Nw.of rfl (hts _ (jt_m5 215 rfl))
  · exact va_Nw.of rfl (hts _ (jt_m5 234 rfl))
/-- the world at the law's entry -/
theorem st_world {A : Array Value} {s : State} (l : Launch) (b : Nat) (hst : l.stackTraces = false) (hts : ∀ w ∈ lw_tbl, w.before A s = true) (hn : narrow_1.before A s = true) : ∃ Γ : jg_G, jg_l Γ = l ∧ jg_H0 Γ = s.heap ∧ jg_x Γ 500 = b ∧ jg_U Γ s := by
  have hws : ∀ w ∈ jg_ws, w.before A s = true := fun w hw => hts w (List.mem_filter.mp hw).1
  have hF : ∀ a : Nat, a < s.heap.size → ¬ (fun q : Nat => s.heap.size ≤ q) a := fun a ha => Nat.not_le.mpr ha
  obtain ⟨dC, dI, hK⟩ := kn_all hws
  obtain ⟨c0, p0⟩ := ar_prim (hws _ ka_int)
  obtain ⟨c1, p1⟩ := ar_prim (hws _ ka_byte)
  obtain ⟨c2, p2⟩ := ar_prim (hws _ ka_boolean)
  obtain ⟨c3, p3⟩ := ar_prim (hws _ ka_long)
  obtain ⟨c4, p4⟩ := ar_obj (C := RX0) (hts _ (jt_m1 213 rfl))
  obtain ⟨c5, p5⟩ := ar_obj (C := RX1) (hts _ (jt_m2 16 rfl))
  obtain ⟨c6, p6⟩ := ar_obj (C := RX9) (hts _ (jt_m2 72 rfl))
  obtain ⟨c7, p7⟩ := ar_arr (hts _ (jt_m3 44 rfl))
  obtain ⟨xa, xt, hx⟩ := sx_all hts hn hF
  obtain ⟨vs, hv1, hv2⟩ := Cond.isRef_spec (bf2 (bf2 (bf2 (bf1 (bf1 (bf1 (bf1 (bf1 (bf1 (bf1 hn))))))))))
  have hvs : ∃ y : Nat, va_Z "jdk/internal/util/Preconditions" "SIOOBE_FORMATTER" "Ljava/util/function/BiFunction;" .null (fun q => s.heap.size ≤ q) s s.heap ∨ va_Z "jdk/internal/util/Preconditions" "SIOOBE_FORMATTER" "Ljava/util/function/BiFunction;" (.ref y) (fun q => s.heap.size ≤ q) s s.heap := by
    have hz := va_Zof (A := fun q : Nat => s.heap.size ≤ q) (hts _ (jt_m6 162 rfl)) (hts _ (jt_m1 26 rfl)) hv1 hF
    cases vs with
    | null => exact ⟨0, Or.inl hz⟩
    | ref y => exact ⟨y, Or.inr hz⟩
    | int _ => cases hv2
    | long _ => cases hv2
    | float _ => cases hv2
    | double _ => cases hv2
    | _ => cases hv2
  obtain ⟨y, hy⟩ := hvs
  refine ⟨(l, (dC, dI), (fun k => if k = 0 then c0 else if k = 1 then c1 else if k = 2 then c2 else if k = 3 then c3 else if k = 4 then c4 else if k = 5 then c5 else if k = 6 then c6 else c7), s.heap, (fun k => if k < 41 then xa k else if k < 300 then xt (k - 100) else if k = 300 then y else b)), rfl, rfl, rfl, ?_⟩
  have e1 : ∀ i, i < 41 → (if i < 41 then xa i else if i < 300 then xt (i - 100) else if i = 300 then y else b) = xa i := fun i hi => if_pos hi
  have e2 : ∀ i, i < 41 → (if 100 + i < 41 then xa (100 + i) else if 100 + i < 300 then xt (100 + i - 100) else if 100 + i = 300 then y else b) = xt i := fun i hi => by rw [if_neg (by omega), if_pos (by omega), Nat.add_sub_cancel_left]
  refine ⟨hst, ⟨hK, ?_⟩, vx_Zqof (hts _ (jt_m4 147 rfl)) (hts _ (jt_m1 15 rfl)) (bf2 (bf2 (bf1 (bf1 (bf1 (bf1 (bf1 (bf1 (bf1 (bf1 hn)))))))))) hF, vx_Zqof (hts _ (jt_m4 149 rfl)) (hts _ (jt_m1 15 rfl)) (bf1 (bf2 (bf1 (bf1 (bf1 (bf1 (bf1 (bf1 (bf1 hn))))))))) hF, ?_, ns_all hts, va_AO.of (hts _ (jt_m1 213 rfl)), va_AO.of (hts _ (jt_m2 16 rfl)), va_AO.of (hts _ (jt_m2 72 rfl)), cd_all hts, ?_, va_Zof (hts _ (jt_m6 146 rfl)) (hts _ (jt_m1 24 rfl)) (Cond.eq_int (bf1 (bf2 (bf2 (bf1 (bf1 (bf1 (bf1 (bf1 (bf1 (bf1 hn)))))))))) rfl) hF, hy, (hts _ (jt_m3 44 rfl))⟩
  · intro k q hq
    match k, hq with
    | 0, hq => cases hq; exact p0
    | 1, hq => cases hq; exact p1
    | 2, hq => cases hq; exact p2
    | 3, hq => cases hq; exact p3
    | 4, hq => cases hq; exact p4
    | 5, hq => cases hq; exact p5
    | 6, hq => cases hq; exact p6
    | 7, hq => cases hq; exact p7
    | k + 8, hq => simp at hq
  · intro i q hq
    have hi : i < 41 := (List.getElem?_eq_some_iff.mp hq).1
    have h1 := (hx i hi q hq).1
    show vk_R q.1 q.2.1 q.2.2 (if i < 41 then xa i else _) s
    rw [if_pos hi]
    exact h1
  · intro i hi
    obtain ⟨q, hq⟩ : ∃ q, jg_str[i]? = some q := ⟨_, List.getElem?_eq_getElem (show i < jg_str.length from hi)⟩
    obtain ⟨h1, h2, h3, h4, h5⟩ := hx i hi q hq
    show va_O _ (if i < 41 then xa i else _) _ _ _ ∧ va_OF _ _ _ _ (if i < 41 then xa i else _) _ _ _ ∧ va_OF _ _ _ (.ref (if 100 + i < 41 then xa (100 + i) else if 100 + i < 300 then xt (100 + i - 100) else if 100 + i = 300 then y else b)) (if i < 41 then xa i else _) _ _ _ ∧ va_T _ (if 100 + i < 41 then xa (100 + i) else if 100 + i < 300 then xt (100 + i - 100) else if 100 + i = 300 then y else b) _ _ _ _ _
    rw [e2 i hi, if_pos hi]
    exact ⟨h2, h3, h4, h5⟩
-- the skeleton, with what the flags say of stack traces handed down
def R_law : String := "SiltHarbourLaw"
def lw_P (b : Addr) (xs : List Int32) (args : Array Value) (s : State) : Prop := args = #[.ref b] ∧ s.IntsAt b xs ∧ xs.length ≤ 4608 ∧ (Jvm.Cond.and given_1 narrow_1).before args s = true
def lw_Q (_ : Array Value) (s : State) (o : Outcome) (t : State) : Prop := o = .returned (some (.int 1)) ∧ Framed s o t [] 190264 8525314
def lw_Z (below : List Frame) (a : Array Value) (s : State) : State → Prop := fun t => ∃ o, t.status = .running ∧ Ended t below o ∧ lw_Q a s o t
/-- the law's own end, with 1 on the stack, nothing written that was there before, its room as the claim has it -/
theorem lw_ret {p : Program} {l : Launch} {e : Env} {s : State} {m : MethodId} {below : List Frame} {meth : Method} {c : Code} {b : Nat} (hx : p.tables.exec = Jvm.exec) (hb : c.code = code) (hr : meth.sig.returnType = ret) (hlocks : meth.locks = false) {pc : Nat} {H : Heap} {ls : Array Slot} (hdg : decode code pc = .ok (.ireturn, 1)) : W p l e room_1 s m #[Value.ref b] below meth c H [] 190264 8525314 (lw_Z below #[Value.ref b] s) (F0 m pc ls [.int 1]) := by
  intro T hT X
  obtain ⟨fs, hret, hrun, hended, hW, hframe⟩ := X.leave (v := some (.int 1)) (hlocks := hlocks) (fun h => by rw [hr] at h; cases h)
  have hmeth' : T.vm.method? m = some meth := X.method'
  refine ⟨T.setFrames fs, ?_, .returned (some (.int 1)), hrun, hended, rfl, ⟨_, rfl⟩, hW, hframe⟩
  jvm_step X.here [X.here.top, hx, hb, hdg, hmeth', hr, ret, narrow_b1]
  (try refine ⟨rfl, ?_⟩); (try refine ⟨rfl, ?_⟩)
  first | (intro acts; rw [hret _ acts rfl rfl rfl]) | rw [hret _ _ rfl rfl rfl]
  exact Steps.refl _
/-- what holds at the law's entry: the machine, the code, the tables' words (any of lw_tbl by 'hts w (by decide +kernel)'), the script of L ints xs at the cell b, what the Statement gives of the start (any of its parts by flat_of_before) -/
def lw_At (p : Program) (s : State) (m : MethodId) (meth : Method) (c : Code) (b L : Nat) (xs : Nat → Int32) : Prop :=
  p.tables.exec = Jvm.exec ∧ c.code = code ∧ meth.sig.returnType = ret ∧ c.maxLocals = 7 ∧ s.vm.findClass R_law = some m.cls ∧ (∀ w ∈ lw_tbl, w.before #[Value.ref b] s = true) ∧ va_X b L xs s s.heap ∧ b < s.heap.size ∧ meth.locks = false ∧ (Jvm.Cond.and given_1 narrow_1).before #[Value.ref b] s = true ∧ c.exceptionTable.isEmpty = true ∧ meth.name = "law"
/-- WHAT THE PURE LAYER OWES: a relation of states that holds at first and that every call keeps, with answers alike -/
def PureOK : Prop := ∃ (Rel : cT → Nat → cS → rs_S → Prop) (F : Nat) (s0 : rs_S), o_X12_i92 F iM = some s0 ∧ Rel (tB (tS 0) 10) 192 (iB (iS 0) 10) s0 ∧ ∀ (k : Nat) (x : Nat → Int32) (τ : cT) (n : Nat) (c : cS) (s : rs_S), k < 37 → LI τ n → n + 200 ≤ 1000000 → Rel τ n c s → stp Rel F k x τ n c s
theorem whole_start (hp : PureOK) {p : Program} {e : Env} {s : State} {m : MethodId} {below : List Frame} {meth : Method} {c : Code} (l : Launch) (hst : l.stackTraces = false) {b L : Nat} {xs : Nat → Int32} (hL : L ≤ 4608) (C0 : lw_At p s m meth c b L xs) : W p l e room_1 s m #[Value.ref b] below meth c s.heap [] 0 0 (lw_Z below #[Value.ref b] s) (entryFrame m ([Value.ref b] : List Value).toArray 7) := by
  obtain ⟨hx, hb, hr, hml, hown, hts, hX, hbl, hlocks, hgv, hexc, hnm⟩ := id C0
  obtain ⟨Rel, F, s0, h0, hR0, hstep⟩ := hp
  obtain ⟨Γ, g1, g2, g3, hU⟩ := st_world (A := #[Value.ref b]) l b hst hts (bf2 hgv)
  have hws : ∀ w ∈ jg_ws, w.before #[Value.ref b] s = true := fun w hw => hts w (List.mem_filter.mp hw).1
  have hz : jg_z Γ = s.heap.size := by unfold jg_z; rw [g2]
  have hl := lv_entry ([.ref b]) (n := 7) (Nat.le_of_ble_eq_true rfl)
  rw [lg_entry_eq]
  generalize (lg_sl ([.ref b]) ++ List.replicate (7 - (lg_sl ([.ref b])).length) Slot.unset).toArray = ls at hl ⊢
  have hl : lv_has ls 7 [(0, .ref b)] := hl
  have hempty : c.exceptionTable.toList.map (fun h => (h.startPc, h.endPc, h.handlerPc, h.catchType)) = [] := by
    rw [Array.isEmpty_iff.mp hexc]; rfl
  have K := law_all (Γ := Γ) (X := (L, xs)) F (fun _ => .inl (99, [])) hL hstep h0 hR0 p e room_1 s m #[Value.ref b] below meth c s.heap ls [] 0 0 (192 + 170 * 512) (53331 + 3834 * 512)
    ⟨hx, hb, hr, hml, hown, hws, hlocks, hnm, by decide, by decide, hU, ⟨hempty, nc_all (bf2 hgv), by rw [g3, g2]; exact hX, by rw [g3, hz]; exact hbl⟩, Nat.le_of_eq hz, fun q hq => by rw [g2]⟩ (by omega) (by omega) (by decide) (by decide) (fun _ h => nomatch h) (Nat.le_refl _) ⟨by rw [hz]; rfl, by decide, fun q hq => by rw [g2], fun k hk => absurd hk (Nat.not_lt_zero _)⟩
    ⟨hl.1, hl.2.1, fun i v hv => by
      match i, hv with
      | 0, hv =>
        cases hv
        have h9 := hl.2.2 (0, .ref b) List.mem_cons_self
        show ls[0]? = some (.val (.ref (jg_a Γ 1000500)))
        rw [show jg_a Γ 1000500 = jg_x Γ 500 from rfl, g3]
        exact h9
      | 1, hv => cases hv
      | 2, hv => cases hv
      | 3, hv => cases hv
      | 4, hv => cases hv
      | 5, hv => cases hv
      | 6, hv => cases hv
      | i + 7, hv => simp at hv⟩
  rw [g1] at K
  intro T hT X
  obtain ⟨t, a1, o, a2, a3, a4⟩ := K T hT X
  refine ⟨t, a1, o, a2, a3, ?_⟩
  rcases a4 with ⟨⟨v, h9, q1, q2, -⟩, L9, ⟨f1, f2, f3⟩, f4⟩ | ⟨q, e1, E, ce, Lx, ⟨h9, q2, -⟩, -⟩
  · have q3 : v = some (.int 1) := Sum.inl.inj q2
    subst q3
    refine ⟨q1, f1, f2, ?_⟩
    have f5 : s.sameButNew ({ t with vm := s.vm } : State) [] (192 + 170 * 512) (53331 + 3834 * 512) := State.sameButNew.drop_fresh (L := []) (J := L9) (by rw [List.nil_append]; exact f3) (fun x hx9 => by rw [← hz]; exact f4 x hx9)
    exact f5.mono (by decide) (by decide)
  · exact nomatch q2
set_option maxHeartbeats 4000000 in
theorem lw_walk (hp : PureOK) (l : Launch) (hst : l.stackTraces = false) (b : Addr) (xs : List Int32) : MetFree l x (headSpec (Jvm.Cond.code x code maxLocals ret :: tables_1) room_1) (lw_P b xs) (fun _ _ _ _ _ => True) lw_Q := by
  refine MetFree.of_bodyS (code := code) (maxLocals := maxLocals) (ret := ret) (by decide) ?_ ?_
  · intro args s m h hn
    obtain ⟨meth, c, h1, h2, h3, h4, h5, h6, -, -⟩ := Cond.code_spec hn (atoms_spec (ws := Jvm.Cond.code x code maxLocals ret :: tables_1) h _ List.mem_cons_self)
    exact ⟨meth, c, h1, h2, h3, h4, h5, h6⟩
  · intro p e s m args below meth c s₁ B hml0 hP _
    obtain ⟨rfl, hx, hbd, hgv⟩ := hP
    obtain ⟨scr, harrAt, hlist, hof, hsmall⟩ := hx
    obtain ⟨hcb, hkn, -, -⟩ := State.arrayAt?_spec harrAt
    have hown : s.vm.findClass R_law = some m.cls := findClass_of_methodNamed B.named
    have hts0 : ∀ c ∈ (Jvm.Cond.code x code maxLocals ret :: tables_1), c.before #[Value.ref b] s = true := atoms_spec (ws := Jvm.Cond.code x code maxLocals ret :: tables_1) B.pre
    have hts : ∀ w ∈ lw_tbl, w.before #[Value.ref b] s = true := k2_hts_sels lw_privs (fun w hw => hts0 w (List.mem_cons_of_mem _ hw)) lw_privs_ok
    have hml : c.maxLocals = 7 := B.maxLocals_eq (hts0 _ List.mem_cons_self)
    have X₀ : Stand p l e room_1 s m #[Value.ref b] below meth c s₁ [] 0 0 := Stand.of_body B
    have hh0 : s₁.heap = s.heap := by rw [B.state]; rfl
    have hsz : scr.slots.size = xs.length := by rw [← Array.length_toList, hlist, List.length_map]
    have hval : ∀ j : Nat, j < xs.length → scr.slots[j]? = some (.int (xs.getD j 0)) := fun j hj => by
      rw [← Array.getElem?_toList, hlist]
      simp [hj]
    have hbl : b < s.heap.size := (Array.getElem?_eq_some_iff.mp hcb).1
    have hX : va_X b xs.length (fun j => xs.getD j 0) s s.heap := ⟨scr, hcb, hof, hkn, hsz, hval⟩
    have K : W p l e room_1 s m #[Value.ref b] below meth c s₁.heap [] 0 0 (lw_Z below #[Value.ref b] s) (entryFrame m ([Value.ref b] : List Value).toArray 7) := by
      rw [hh0]
      exact whole_start hp l hst hbd ⟨B.exec, B.bytes, B.returns, hml, hown, hts, hX, hbl, B.notSynchronized, hgv, B.noHandlers (hts0 _ List.mem_cons_self), (name_of_methodNamed B.named B.method).1⟩
    obtain ⟨t, a1, o, b1, b2, b3⟩ := K s₁ rfl X₀
    exact ⟨t, o, a1, b1, b2, b3⟩
theorem lw_pre_spec {args : Array Value} {s : State} (h : (Jvm.Cond.and given_1 narrow_1).before args s = true) (hr : rest_1_c.before args s = true) : ∃ (b : Addr) (xs : List Int32), lw_P b xs args s := by
  have hs := flat_of_before _ h
  have hq := flat_of_before _ hr
  have hc : (Cond.count 1).before args s = true := hs _ (by decide +kernel)
  have harr : (Cond.arrayOf (.arg 0) .int).before args s = true := hs _ (by decide +kernel)
  have hle : (Cond.le (.length (.arg 0)) (.int 4608)).before args s = true := hs _ (by decide +kernel)
  have hlen : (Cond.isInt (.length (.arg 0))).before args s = true := hq _ (by decide +kernel)
  have hall : (Cond.all (.arg 0) (.isInt (.elem (.arg 0) (.index 0)))).before args s = true := hq _ (by decide +kernel)
  obtain ⟨b, xs, hb, hx⟩ := State.ints_of_pre rfl harr hlen hall
  have hsm : xs.length < 2 ^ 31 := hx.choose_spec.2.2.2
  have hev : (Term.length (.arg 0)).eval args s none [] s = some (.int xs.length.toInt32) := hx.length_eval hb
  have hv := Cond.le_ints hev (show (Term.int 4608).eval args s none [] s = some (.int 4608) from rfl)
  have hd : xs.length.toInt32 ≤ 4608 := by
    simpa [Cond.before, Cond.holds, hv] using hle
  have hN : xs.length ≤ 4608 := (Int32.ofNat_le_ofNat hsm (by decide)).mp (show Int32.ofNat xs.length ≤ Int32.ofNat 4608 from hd)
  exact ⟨b, xs, Cond.one_arg hc (show args[0]? = some (.ref b) from hb), hx, hN, h⟩
theorem lw_comes (hp : PureOK) (l : Launch) (hst : l.stackTraces = false) : Comes l x (Jvm.Cond.code x code maxLocals ret :: tables_1) room_1 (fun tb e args s => Calls_1 tb e args s ∧ rest_1 tb e args s ∧ Pre_1 tb e args s)
    (fun _ _ args s o t => lw_Q args s o t) := by
  intro p e ha hc hk s m args below hf hfit hheap happ hpre
  obtain ⟨b, xs, hP⟩ := lw_pre_spec hpre.2.2 hpre.2.1
  obtain ⟨k, o, h1, h2, h3, hQ⟩ := lw_walk hp l hst b xs p e ha hc hk s m args below hf ((Spec.applies_iff_loose hf).mp happ).1 hP trivial
  exact ⟨k, o, h1, h2, h3, hQ⟩
theorem lw_frame {s t : State} {o : Outcome} {args : Array Value} (h : Framed s o t [] 190264 8525314) :
    Framed s o t (fieldLocs frame_1_writes args s ++ arrayLocs frame_1_arrays args s ++ staticLocs frame_1_statics s) 190264 8525314 := h
theorem lw_limb (hp : PureOK) (L : Cond) (hL : ∀ (args : Array Value) (s t : State), L.after args s (.returned (some (.int 1))) t = true) :
    ArmFor flags0 classFile x code maxLocals ret World_1 tables_1 room_1 Calls_1 rest_1 Pre_1
      (fun tb e a s o t => postC L tb e a s o t ∧ Framed s o t (fieldLocs frame_1_writes a s ++ arrayLocs frame_1_arrays a s ++ staticLocs frame_1_statics s) 190264 8525314) := by
  intro l hfl _ _ p e ha hc hk s m args below hf hfit hheap happ hpre
  obtain ⟨k, o, h1, h2, h3, rfl, hF⟩ := lw_comes hp l (by unfold Launch.stackTraces; rw [hfl]; decide) p e ha hc hk s m args below hf hfit hheap happ hpre
  exact ⟨k, _, h1, h2, h3, hL args s _, lw_frame hF⟩
theorem claim_of (hp : PureOK) : Claimed_1_1 ∧ Claimed_1_2 := ⟨lw_limb hp limb_1_1 (fun args s t => by simp [limb_1_1, Cond.after, Cond.holds, Cond.value]), lw_limb hp limb_1_2 (fun args s t => Cond.after_iff.mpr (by
  first | (rw [show limb_1_2 = Cond.eq .result (.int 1) from rfl, Cond.eq_ints (x := 1) (y := 1) rfl rfl]; simp; done) | (simp [limb_1_2, Cond.value, Term.eval]; done)))⟩

