/-! THE LAW, its loop, over a relation that every call keeps (by program wip/whole/ldec2.py) -/
/-- what a call of the kind k with the numbers x must do: answers alike, and states that are related again -/
def stp (Rel : cT → Nat → cS → rs_S → Prop) (F k : Nat) (x : Nat → Int32) (τ : cT) (n : Nat) (c : cS) (s : rs_S) : Prop := match k with
  | 0 => ∃ v c' s', o_X11_feed F τ n 0 c (x 1) (x 2) (x 3) (x 4) (x 5) = some (v, c') ∧ o_X12_feed F s (x 1) (x 2) (x 3) (x 4) (x 5) = some (v, s') ∧ Rel τ n c' s'
  | 1 => ∃ v c' s', o_X11_end τ n 0 c (x 1) = some (v, c') ∧ o_X12_end s (x 1) = some (v, s') ∧ Rel τ n c' s'
  | 2 => (∃ c' s', o_X11_river F τ n 0 c (x 1) (x 2) (x 3) (x 4) = some (.inl c') ∧ o_X12_river F s (x 1) (x 2) (x 3) (x 4) = some s' ∧ s'.1 0 = nI 0 ∧ Rel τ n c' s') ∨ (∃ c', ∃ s', o_X11_river F τ n 0 c (x 1) (x 2) (x 3) (x 4) = some (.inr (0, c')) ∧ o_X12_river F s (x 1) (x 2) (x 3) (x 4) = some s' ∧ s'.1 0 = nI 1 ∧ Rel τ (n + 1) c' s') ∨ (∃ c', ∃ s', o_X11_river F τ n 0 c (x 1) (x 2) (x 3) (x 4) = some (.inr (1, c')) ∧ o_X12_river F s (x 1) (x 2) (x 3) (x 4) = some s' ∧ s'.1 0 = nI 2 ∧ Rel τ (n + 1) c' s') ∨ (∃ c', ∃ s', o_X11_river F τ n 0 c (x 1) (x 2) (x 3) (x 4) = some (.inr (2, c')) ∧ o_X12_river F s (x 1) (x 2) (x 3) (x 4) = some s' ∧ s'.1 0 = nI 3 ∧ Rel τ (n + 1) c' s')
  | 3 => (∃ c' s', o_X11_tide τ n 0 c (x 1) (x 2) = some (.inl c') ∧ o_X12_tide s (x 1) (x 2) = some s' ∧ s'.1 0 = nI 0 ∧ Rel τ n c' s') ∨ (∃ c', ∃ s', o_X11_tide τ n 0 c (x 1) (x 2) = some (.inr (1, c')) ∧ o_X12_tide s (x 1) (x 2) = some s' ∧ s'.1 0 = nI 1 ∧ Rel τ (n + 1) c' s')
  | 4 => (∃ v c' s', o_X11_run τ n 0 c (x 1) (x 2) = some (.inl (v, c')) ∧ o_X12_run s (x 1) (x 2) = some (v, s') ∧ s'.1 0 = nI 0 ∧ Rel τ n c' s') ∨ (∃ c', ∃ v s', o_X11_run τ n 0 c (x 1) (x 2) = some (.inr (1, c')) ∧ o_X12_run s (x 1) (x 2) = some (v, s') ∧ s'.1 0 = nI 1 ∧ Rel τ (n + 1) c' s')
  | 5 => (∃ v c' s', o_X11_dredger τ n 0 c (x 1) = some (.inl (v, c')) ∧ o_X12_dredger s (x 1) = some (v, s') ∧ s'.1 0 = nI 0 ∧ Rel τ n c' s') ∨ (∃ c', ∃ v s', o_X11_dredger τ n 0 c (x 1) = some (.inr (1, c')) ∧ o_X12_dredger s (x 1) = some (v, s') ∧ s'.1 0 = nI 1 ∧ Rel τ (n + 1) c' s') ∨ (∃ c', ∃ v s', o_X11_dredger τ n 0 c (x 1) = some (.inr (3, c')) ∧ o_X12_dredger s (x 1) = some (v, s') ∧ s'.1 0 = nI 2 ∧ Rel τ (n + 1) c' s')
  | 6 => (∃ v c' s', o_X11_station τ n 0 c (x 1) (x 2) (x 3) = some (.inl (v, c')) ∧ o_X12_station s (x 1) (x 2) (x 3) = some (v, s') ∧ s'.1 0 = nI 0 ∧ Rel τ n c' s') ∨ (∃ c', ∃ v s', o_X11_station τ n 0 c (x 1) (x 2) (x 3) = some (.inr (0, c')) ∧ o_X12_station s (x 1) (x 2) (x 3) = some (v, s') ∧ s'.1 0 = nI 1 ∧ Rel τ (n + 1) c' s')
  | 7 => (∃ v s', o_X11_cell F τ n 0 c (x 1) (x 2) = some (.inl v) ∧ o_X12_cell F s (x 1) (x 2) = some (v, s') ∧ s'.1 0 = nI 0 ∧ Rel τ n c s') ∨ (∃ v s', o_X11_cell F τ n 0 c (x 1) (x 2) = some (.inr 0) ∧ o_X12_cell F s (x 1) (x 2) = some (v, s') ∧ s'.1 0 = nI 1 ∧ Rel τ (n + 1) c s') ∨ (∃ v s', o_X11_cell F τ n 0 c (x 1) (x 2) = some (.inr 4) ∧ o_X12_cell F s (x 1) (x 2) = some (v, s') ∧ s'.1 0 = nI 2 ∧ Rel τ (n + 1) c s')
  | 8 => (∃ v c' s', o_X11_sound F τ n 0 c (x 1) (x 2) (x 3) = some (.inl (v, c')) ∧ o_X12_sound s (x 1) (x 2) (x 3) = some (v, s') ∧ s'.1 0 = nI 0 ∧ Rel τ n c' s') ∨ (∃ c', ∃ v s', o_X11_sound F τ n 0 c (x 1) (x 2) (x 3) = some (.inr (0, c')) ∧ o_X12_sound s (x 1) (x 2) (x 3) = some (v, s') ∧ s'.1 0 = nI 1 ∧ Rel τ (n + 1) c' s') ∨ (∃ c', ∃ v s', o_X11_sound F τ n 0 c (x 1) (x 2) (x 3) = some (.inr (1, c')) ∧ o_X12_sound s (x 1) (x 2) (x 3) = some (v, s') ∧ s'.1 0 = nI 2 ∧ Rel τ (n + 1) c' s')
  | 9 => (∃ v s', o_X11_known F τ n 0 c (x 1) (x 2) = some (.inl v) ∧ o_X12_known F s (x 1) (x 2) = some (v, s') ∧ s'.1 0 = nI 0 ∧ Rel τ n c s') ∨ (∃ v s', o_X11_known F τ n 0 c (x 1) (x 2) = some (.inr 0) ∧ o_X12_known F s (x 1) (x 2) = some (v, s') ∧ s'.1 0 = nI 1 ∧ Rel τ (n + 1) c s')
  | 10 => (∃ v c' s', o_X11_berth τ n 0 c (x 1) (x 2) (x 3) (x 4) = some (.inl (v, c')) ∧ o_X12_berth s (x 1) (x 2) (x 3) (x 4) = some (v, s') ∧ s'.1 0 = nI 0 ∧ Rel τ n c' s') ∨ (∃ c', ∃ v s', o_X11_berth τ n 0 c (x 1) (x 2) (x 3) (x 4) = some (.inr (0, c')) ∧ o_X12_berth s (x 1) (x 2) (x 3) (x 4) = some (v, s') ∧ s'.1 0 = nI 1 ∧ Rel τ (n + 1) c' s') ∨ (∃ c', ∃ v s', o_X11_berth τ n 0 c (x 1) (x 2) (x 3) (x 4) = some (.inr (1, c')) ∧ o_X12_berth s (x 1) (x 2) (x 3) (x 4) = some (v, s') ∧ s'.1 0 = nI 2 ∧ Rel τ (n + 1) c' s') ∨ (∃ c', ∃ v s', o_X11_berth τ n 0 c (x 1) (x 2) (x 3) (x 4) = some (.inr (3, c')) ∧ o_X12_berth s (x 1) (x 2) (x 3) (x 4) = some (v, s') ∧ s'.1 0 = nI 3 ∧ Rel τ (n + 1) c' s')
  | 11 => (∃ c' s', o_X11_hands τ n 0 c (x 1) (x 2) = some (.inl c') ∧ o_X12_hands s (x 1) (x 2) = some s' ∧ s'.1 0 = nI 0 ∧ Rel τ n c' s') ∨ (∃ c', ∃ s', o_X11_hands τ n 0 c (x 1) (x 2) = some (.inr (1, c')) ∧ o_X12_hands s (x 1) (x 2) = some s' ∧ s'.1 0 = nI 1 ∧ Rel τ (n + 1) c' s')
  | 12 => (∃ v c' s', o_X11_payer τ n 0 c = some (.inl (v, c')) ∧ o_X12_payer s = some (v, s') ∧ s'.1 0 = nI 0 ∧ Rel τ n c' s') ∨ (∃ c', ∃ v s', o_X11_payer τ n 0 c = some (.inr (3, c')) ∧ o_X12_payer s = some (v, s') ∧ s'.1 0 = nI 1 ∧ Rel τ (n + 1) c' s')
  | 13 => (∃ v c' s', o_X11_ship F τ n 0 c (x 1) (x 2) (x 3) (x 4) (x 5) (x 6) (bz (x 7)) (x 8) = some (.inl (v, c')) ∧ o_X12_ship F s (x 1) (x 2) (x 3) (x 4) (x 5) (x 6) (bz (x 7)) (x 8) = some (v, s') ∧ s'.1 0 = nI 0 ∧ Rel τ n c' s') ∨ (∃ c', ∃ v s', o_X11_ship F τ n 0 c (x 1) (x 2) (x 3) (x 4) (x 5) (x 6) (bz (x 7)) (x 8) = some (.inr (0, c')) ∧ o_X12_ship F s (x 1) (x 2) (x 3) (x 4) (x 5) (x 6) (bz (x 7)) (x 8) = some (v, s') ∧ s'.1 0 = nI 1 ∧ Rel τ (n + 1) c' s') ∨ (∃ c', ∃ v s', o_X11_ship F τ n 0 c (x 1) (x 2) (x 3) (x 4) (x 5) (x 6) (bz (x 7)) (x 8) = some (.inr (1, c')) ∧ o_X12_ship F s (x 1) (x 2) (x 3) (x 4) (x 5) (x 6) (bz (x 7)) (x 8) = some (v, s') ∧ s'.1 0 = nI 2 ∧ Rel τ (n + 1) c' s') ∨ (∃ c', ∃ v s', o_X11_ship F τ n 0 c (x 1) (x 2) (x 3) (x 4) (x 5) (x 6) (bz (x 7)) (x 8) = some (.inr (3, c')) ∧ o_X12_ship F s (x 1) (x 2) (x 3) (x 4) (x 5) (x 6) (bz (x 7)) (x 8) = some (v, s') ∧ s'.1 0 = nI 3 ∧ Rel τ (n + 1) c' s')
  | 14 => (∃ v c' s', o_X11_hours F τ n 0 c (x 1) = some (.inl (v, c')) ∧ o_X12_hours F s (x 1) = some (v, s') ∧ s'.1 0 = nI 0 ∧ Rel τ n c' s') ∨ (∃ c', ∃ v s', o_X11_hours F τ n 0 c (x 1) = some (.inr (1, c')) ∧ o_X12_hours F s (x 1) = some (v, s') ∧ s'.1 0 = nI 1 ∧ Rel τ (n + 1) c' s')
  | 15 => (∃ v c' s', o_X11_led F τ n 0 c (x 1) (x 2) = some (.inl (v, c')) ∧ o_X12_led F s (x 1) (x 2) = some (v, s') ∧ s'.1 0 = nI 0 ∧ Rel τ n c' s') ∨ (∃ c', ∃ v s', o_X11_led F τ n 0 c (x 1) (x 2) = some (.inr (0, c')) ∧ o_X12_led F s (x 1) (x 2) = some (v, s') ∧ s'.1 0 = nI 1 ∧ Rel τ (n + 1) c' s') ∨ (∃ c', ∃ v s', o_X11_led F τ n 0 c (x 1) (x 2) = some (.inr (4, c')) ∧ o_X12_led F s (x 1) (x 2) = some (v, s') ∧ s'.1 0 = nI 2 ∧ Rel τ (n + 1) c' s')
  | 16 => (∃ v s', o_X11_quay τ n 0 c (x 1) (x 2) = some (.inl v) ∧ o_X12_quay s (x 1) (x 2) = some (v, s') ∧ s'.1 0 = nI 0 ∧ Rel τ n c s') ∨ (∃ v s', o_X11_quay τ n 0 c (x 1) (x 2) = some (.inr 0) ∧ o_X12_quay s (x 1) (x 2) = some (v, s') ∧ s'.1 0 = nI 1 ∧ Rel τ (n + 1) c s') ∨ (∃ v s', o_X11_quay τ n 0 c (x 1) (x 2) = some (.inr 4) ∧ o_X12_quay s (x 1) (x 2) = some (v, s') ∧ s'.1 0 = nI 2 ∧ Rel τ (n + 1) c s')
  | 17 => (∃ v c' s', o_X11_window F τ n 0 c (x 1) (x 2) (bz (x 3)) = some (.inl (v, c')) ∧ o_X12_window F s (x 1) (x 2) (bz (x 3)) = some (v, s') ∧ s'.1 0 = nI 0 ∧ Rel τ n c' s') ∨ (∃ c', ∃ v s', o_X11_window F τ n 0 c (x 1) (x 2) (bz (x 3)) = some (.inr (0, c')) ∧ o_X12_window F s (x 1) (x 2) (bz (x 3)) = some (v, s') ∧ s'.1 0 = nI 1 ∧ Rel τ (n + 1) c' s')
  | 18 => (∃ q, ∃ v c' s', o_X11_act F τ n 0 c (x 1) = some (q, .inl (v, c')) ∧ o_X12_act F s (x 1) = some (v, s') ∧ s'.1 0 = nI 0 ∧ Rel (tQ τ n q) (nQ n q) c' s') ∨ (∃ q, ∃ c', ∃ v s', o_X11_act F τ n 0 c (x 1) = some (q, .inr (1, c')) ∧ o_X12_act F s (x 1) = some (v, s') ∧ s'.1 0 = nI 1 ∧ Rel (tQ τ n q) (nQ n q + 1) c' s') ∨ (∃ q, ∃ c', ∃ v s', o_X11_act F τ n 0 c (x 1) = some (q, .inr (2, c')) ∧ o_X12_act F s (x 1) = some (v, s') ∧ s'.1 0 = nI 2 ∧ Rel (tQ τ n q) (nQ n q + 1) c' s') ∨ (∃ q, ∃ c', ∃ v s', o_X11_act F τ n 0 c (x 1) = some (q, .inr (3, c')) ∧ o_X12_act F s (x 1) = some (v, s') ∧ s'.1 0 = nI 3 ∧ Rel (tQ τ n q) (nQ n q + 1) c' s')
  | 19 => (∃ q, ∃ v c' s', o_X11_propose F τ n 0 c (x 1) = some (q, .inl (v, c')) ∧ o_X12_propose F s (x 1) = some (v, s') ∧ s'.1 0 = nI 0 ∧ Rel (tQ τ n q) (nQ n q) c' s') ∨ (∃ q, ∃ c', ∃ v s', o_X11_propose F τ n 0 c (x 1) = some (q, .inr (1, c')) ∧ o_X12_propose F s (x 1) = some (v, s') ∧ s'.1 0 = nI 1 ∧ Rel (tQ τ n q) (nQ n q + 1) c' s') ∨ (∃ q, ∃ c', ∃ v s', o_X11_propose F τ n 0 c (x 1) = some (q, .inr (2, c')) ∧ o_X12_propose F s (x 1) = some (v, s') ∧ s'.1 0 = nI 2 ∧ Rel (tQ τ n q) (nQ n q + 1) c' s') ∨ (∃ q, ∃ c', ∃ v s', o_X11_propose F τ n 0 c (x 1) = some (q, .inr (3, c')) ∧ o_X12_propose F s (x 1) = some (v, s') ∧ s'.1 0 = nI 3 ∧ Rel (tQ τ n q) (nQ n q + 1) c' s')
  | 20 => ∃ v s', o_X11_fault τ n 0 c = some v ∧ o_X12_fault s = some (v, s') ∧ Rel τ n c s'
  | 21 => (∃ v c' s', o_X11_vote F τ n 0 c (x 1) (bz (x 2)) = some (.inl (v, c')) ∧ o_X12_vote F s (x 1) (bz (x 2)) = some (v, s') ∧ s'.1 0 = nI 0 ∧ Rel τ n c' s') ∨ (∃ c', ∃ v s', o_X11_vote F τ n 0 c (x 1) (bz (x 2)) = some (.inr (0, c')) ∧ o_X12_vote F s (x 1) (bz (x 2)) = some (v, s') ∧ s'.1 0 = nI 1 ∧ Rel τ (n + 1) c' s') ∨ (∃ c', ∃ v s', o_X11_vote F τ n 0 c (x 1) (bz (x 2)) = some (.inr (2, c')) ∧ o_X12_vote F s (x 1) (bz (x 2)) = some (v, s') ∧ s'.1 0 = nI 2 ∧ Rel τ (n + 1) c' s')
  | 22 => (∃ v c' s', o_X11_close F τ n 0 c = some (.inl (v, c')) ∧ o_X12_close F s = some (v, s') ∧ s'.1 0 = nI 0 ∧ Rel τ n c' s') ∨ (∃ c', ∃ v s', o_X11_close F τ n 0 c = some (.inr (2, c')) ∧ o_X12_close F s = some (v, s') ∧ s'.1 0 = nI 1 ∧ Rel τ (n + 1) c' s')
  | 23 => (∃ v c' s', o_X11_judge F τ n 0 c (x 1) (x 2) = some (.inl (v, c')) ∧ o_X12_judge F s (x 1) (x 2) = some (v, s') ∧ s'.1 0 = nI 0 ∧ Rel τ n c' s') ∨ (∃ c', ∃ v s', o_X11_judge F τ n 0 c (x 1) (x 2) = some (.inr (0, c')) ∧ o_X12_judge F s (x 1) (x 2) = some (v, s') ∧ s'.1 0 = nI 1 ∧ Rel τ (n + 1) c' s') ∨ (∃ c', ∃ v s', o_X11_judge F τ n 0 c (x 1) (x 2) = some (.inr (4, c')) ∧ o_X12_judge F s (x 1) (x 2) = some (v, s') ∧ s'.1 0 = nI 2 ∧ Rel τ (n + 1) c' s')
  | 24 => (∃ v c' s', o_X11_back F τ n 0 c (x 1) = some (.inl (v, c')) ∧ o_X12_back F s (x 1) = some (v, s') ∧ s'.1 0 = nI 0 ∧ Rel τ n c' s') ∨ (∃ c', ∃ v s', o_X11_back F τ n 0 c (x 1) = some (.inr (0, c')) ∧ o_X12_back F s (x 1) = some (v, s') ∧ s'.1 0 = nI 1 ∧ Rel τ (n + 1) c' s')
  | 25 => (∃ v c' s', o_X11_pays F τ n 0 c (x 1) (x 2) = some (.inl (v, c')) ∧ o_X12_pays F s (x 1) (x 2) = some (v, s') ∧ s'.1 0 = nI 0 ∧ Rel τ n c' s') ∨ (∃ c', ∃ v s', o_X11_pays F τ n 0 c (x 1) (x 2) = some (.inr (0, c')) ∧ o_X12_pays F s (x 1) (x 2) = some (v, s') ∧ s'.1 0 = nI 1 ∧ Rel τ (n + 1) c' s') ∨ (∃ c', ∃ v s', o_X11_pays F τ n 0 c (x 1) (x 2) = some (.inr (4, c')) ∧ o_X12_pays F s (x 1) (x 2) = some (v, s') ∧ s'.1 0 = nI 2 ∧ Rel τ (n + 1) c' s')
  | 26 => (∃ v c' s', o_X11_cash τ n 0 c (x 1) = some (.inl (v, c')) ∧ o_X12_cash s (x 1) = some (v, s') ∧ s'.1 0 = nI 0 ∧ Rel τ n c' s') ∨ (∃ c', ∃ v s', o_X11_cash τ n 0 c (x 1) = some (.inr (1, c')) ∧ o_X12_cash s (x 1) = some (v, s') ∧ s'.1 0 = nI 1 ∧ Rel τ (n + 1) c' s')
  | 27 => (∃ v c' s', o_X11_bond F τ n 0 c (x 1) (x 2) (x 3) (x 4) = some (.inl (v, c')) ∧ o_X12_bond F s (x 1) (x 2) (x 3) (x 4) = some (v, s') ∧ s'.1 0 = nI 0 ∧ Rel τ n c' s') ∨ (∃ c', ∃ v s', o_X11_bond F τ n 0 c (x 1) (x 2) (x 3) (x 4) = some (.inr (1, c')) ∧ o_X12_bond F s (x 1) (x 2) (x 3) (x 4) = some (v, s') ∧ s'.1 0 = nI 1 ∧ Rel τ (n + 1) c' s') ∨ (∃ c', ∃ v s', o_X11_bond F τ n 0 c (x 1) (x 2) (x 3) (x 4) = some (.inr (3, c')) ∧ o_X12_bond F s (x 1) (x 2) (x 3) (x 4) = some (v, s') ∧ s'.1 0 = nI 2 ∧ Rel τ (n + 1) c' s')
  | 28 => (∃ v s', o_X11_owes τ n 0 c (x 1) (x 2) = some (.inl v) ∧ o_X12_owes s (x 1) (x 2) = some (v, s') ∧ s'.1 0 = nI 0 ∧ Rel τ n c s') ∨ (∃ v s', o_X11_owes τ n 0 c (x 1) (x 2) = some (.inr 0) ∧ o_X12_owes s (x 1) (x 2) = some (v, s') ∧ s'.1 0 = nI 1 ∧ Rel τ (n + 1) c s') ∨ (∃ v s', o_X11_owes τ n 0 c (x 1) (x 2) = some (.inr 4) ∧ o_X12_owes s (x 1) (x 2) = some (v, s') ∧ s'.1 0 = nI 2 ∧ Rel τ (n + 1) c s')
  | 29 => ∃ v c' s', o_X11_bring F τ n 0 c = some (v, c') ∧ o_X12_bring F s = some (v, s') ∧ Rel τ n c' s'
  | 30 => (∃ v c' s', o_X11_work τ n 0 c (x 1) (x 2) (x 3) (x 4) = some (.inl (v, c')) ∧ o_X12_work s (x 1) (x 2) (x 3) (x 4) = some (v, s') ∧ s'.1 0 = nI 0 ∧ Rel τ n c' s') ∨ (∃ c', ∃ v s', o_X11_work τ n 0 c (x 1) (x 2) (x 3) (x 4) = some (.inr (1, c')) ∧ o_X12_work s (x 1) (x 2) (x 3) (x 4) = some (v, s') ∧ s'.1 0 = nI 1 ∧ Rel τ (n + 1) c' s')
  | 31 => (∃ v s', o_X11_worth F τ n 0 c (x 1) (x 2) = some (.inl v) ∧ o_X12_worth F s (x 1) (x 2) = some (v, s') ∧ s'.1 0 = nI 0 ∧ Rel τ n c s') ∨ (∃ v s', o_X11_worth F τ n 0 c (x 1) (x 2) = some (.inr 1) ∧ o_X12_worth F s (x 1) (x 2) = some (v, s') ∧ s'.1 0 = nI 1 ∧ Rel τ (n + 1) c s')
  | 32 => (∃ v s', o_X11_best F τ n 0 c (x 1) = some (.inl v) ∧ o_X12_best F s (x 1) = some (v, s') ∧ s'.1 0 = nI 0 ∧ Rel τ n c s') ∨ (∃ v s', o_X11_best F τ n 0 c (x 1) = some (.inr 1) ∧ o_X12_best F s (x 1) = some (v, s') ∧ s'.1 0 = nI 1 ∧ Rel τ (n + 1) c s')
  | 33 => (∃ q, ∃ v c' s', o_X11_another F τ n 0 c (x 1) (bz (x 2)) = some (q, .inl (v, c')) ∧ o_X12_another F s (x 1) (bz (x 2)) = some (v, s') ∧ s'.1 0 = nI 0 ∧ Rel (tQ τ n q) (nQ n q) c' s') ∨ (∃ q, ∃ c', ∃ v s', o_X11_another F τ n 0 c (x 1) (bz (x 2)) = some (q, .inr (1, c')) ∧ o_X12_another F s (x 1) (bz (x 2)) = some (v, s') ∧ s'.1 0 = nI 1 ∧ Rel (tQ τ n q) (nQ n q + 1) c' s')
  | 34 => ∃ q c' s', o_X11_keep F τ n 0 c = some (q, c') ∧ o_X12_keep F s = some s' ∧ Rel (if q = true then tB τ n else τ) (if q = true then n + 170 else n) c' s'
  | 35 => ∃ v c' s', o_X11_again F τ n 0 c = some (v, c') ∧ o_X12_again F s = some (v, s') ∧ Rel τ n c' s'
  | 36 => ∃ v s', o_X11_count F τ n 0 c (x 1) = some v ∧ o_X12_count F s (x 1) = some (v, s') ∧ Rel τ n c s'
  | _ => True
theorem LI.up {τ : cT} {n : Nat} (h : LI τ n) : LI τ (n + 1) := ⟨(show ext τ n τ (n + 1) from ⟨Nat.le_succ _, fun _ _ => rfl⟩).Sh h.1, Nat.le_succ_of_le h.2.1, fun j hj => h.2.2.1 j (by omega), h.2.2.2⟩
theorem LI.tB {τ : cT} {n : Nat} (h : LI τ n) : LI (tB τ n) (n + 170) := ⟨tB_ext.Sh h.1, by have := h.2.1; omega, fun j hj => by
    show (if _ then _ else _) = _
    rw [if_neg (by omega)]; exact h.2.2.1 j (by omega), fun j h1 h2 => by
    have := h.2.1
    show (if _ then _ else _) = _
    rw [if_neg (by omega)]; exact h.2.2.2 j h1 h2⟩
theorem LI.tQ {τ : cT} {n : Nat} (h : LI τ n) (q : Option (Nat × Nat)) : LI (tQ τ n q) (nQ n q) := by
  cases q with
  | none => exact h
  | some q => exact ⟨tA_ext.Sh h.1, by show 192 ≤ n + 6; have := h.2.1; omega, fun j hj => by
      have hj' : n + 6 ≤ j := hj
      show tA τ n q.1 q.2 j = _
      rw [tA_o (by omega)]; exact h.2.2.1 j (by omega), fun j h1 h2 => by
      have := h.2.1
      show tA τ n q.1 q.2 j = _
      rw [tA_o (by omega)]; exact h.2.2.2 j h1 h2⟩
theorem nQ_6 {n : Nat} {q : Option (Nat × Nat)} : nQ n q ≤ n + 6 := by
  cases q with
  | none => exact Nat.le_add_right _ _
  | some q => exact Nat.le_refl _
theorem dL_law_0 : decode cL_law 0 = .ok (.new 8, 3) := by decide +kernel
theorem dL_law_3 : decode cL_law 3 = .ok (.dup, 1) := by decide +kernel
theorem dL_law_4 : decode cL_law 4 = .ok (.invokespecial 121, 3) := by decide +kernel
theorem dL_law_7 : decode cL_law 7 = .ok (.astore_n 1, 1) := by decide +kernel
theorem dL_law_8 : decode cL_law 8 = .ok (.new 122, 3) := by decide +kernel
theorem dL_law_11 : decode cL_law 11 = .ok (.dup, 1) := by decide +kernel
theorem dL_law_12 : decode cL_law 12 = .ok (.invokespecial 124, 3) := by decide +kernel
theorem dL_law_15 : decode cL_law 15 = .ok (.astore_n 2, 1) := by decide +kernel
theorem dL_law_16 : decode cL_law 16 = .ok (.iconst 1, 1) := by decide +kernel
theorem dL_law_17 : decode cL_law 17 = .ok (.newarray .long, 2) := by decide +kernel
theorem dL_law_19 : decode cL_law 19 = .ok (.astore_n 3, 1) := by decide +kernel
theorem dL_law_20 : decode cL_law 20 = .ok (.iconst 0, 1) := by decide +kernel
theorem dL_law_21 : decode cL_law 21 = .ok (.istore 4, 2) := by decide +kernel
theorem dL_law_23 : decode cL_law 23 = .ok (.iload 4, 2) := by decide +kernel
theorem dL_law_25 : decode cL_law 25 = .ok (.aload_n 0, 1) := by decide +kernel
theorem dL_law_26 : decode cL_law 26 = .ok (.arraylength, 1) := by decide +kernel
theorem dL_law_27 : decode cL_law 27 = .ok (.bipush 9, 2) := by decide +kernel
theorem dL_law_29 : decode cL_law 29 = .ok (.isub, 1) := by decide +kernel
theorem dL_law_30 : decode cL_law 30 = .ok (.if_icmp .gt 2489, 3) := by decide +kernel
theorem dL_law_33 : decode cL_law 33 = .ok (.aload_n 0, 1) := by decide +kernel
theorem dL_law_34 : decode cL_law 34 = .ok (.iload 4, 2) := by decide +kernel
theorem dL_law_36 : decode cL_law 36 = .ok (.iaload, 1) := by decide +kernel
theorem dL_law_37 : decode cL_law 37 = .ok (.bipush 63, 2) := by decide +kernel
theorem dL_law_39 : decode cL_law 39 = .ok (.iand, 1) := by decide +kernel
theorem dL_law_40 : decode cL_law 40 = .ok (.tableswitch 2473 0 36 #[164, 237, 262, 334, 382, 450, 506, 593, 661, 741, 809, 901, 949, 993, 1155, 1211, 1279, 1347, 1443, 1499, 1555, 1568, 1652, 1703, 1771, 1827, 1895, 1951, 2043, 2111, 2124, 2216, 2284, 2340, 2424, 2435, 2448], 164) := by decide +kernel
theorem dL_law_2513 : decode cL_law 2513 = .ok (.iinc 4 9, 3) := by decide +kernel
theorem dL_law_2516 : decode cL_law 2516 = .ok (.goto (-2493), 3) := by decide +kernel
theorem dL_law_2519 : decode cL_law 2519 = .ok (.iconst 1, 1) := by decide +kernel
theorem dL_law_2520 : decode cL_law 2520 = .ok (.ireturn, 1) := by decide +kernel
section LOOP
variable {Γ : jg_G} {X : Nat × (Nat → Int32)} {Q : jg_Q} {Rel : cT → Nat → cS → rs_S → Prop}
/-- from behind a call the law goes on -/
def lk (Γ : jg_G) (X : Nat × (Nat → Int32)) (Rel : cT → Nat → cS → rs_S → Prop) (Q : jg_Q) (i r n0 : Nat) : Prop := ∀ (g : Nat → jg_C) (f : Nat → Int64) (τ : cT) (n : Nat) (c : cS) (s : rs_S), LI τ n → n ≤ n0 + 170 → Rel τ n c s → jh Γ mL_law ([], X) 100 (170 * r) (3834 * r) 2513 (LL i) [] (lh g f τ c s n) Q
set_option maxHeartbeats 1000000 in
theorem ls0 {g : Nat → jg_C} {f : Nat → Int64} {F i r n : Nat} {τ : cT} {c : cS} {s : rs_S} (hI : LI τ n) (hn : n + 200 ≤ 1000000) (hi : i + 9 ≤ X.1) (hX : X.1 ≤ 4608) (K : lk Γ X Rel Q i r n) (h : stp Rel F 0 (fun j => X.2 (i + j)) τ n c s) : jh Γ mL_law ([], X) 100 (170 * (r + 1)) (3834 * (r + 1)) 204 (LL i) [] (lh g f τ c s n) Q := by
  obtain ⟨v, c', s', h1, h2, hR⟩ := h
  exact lc0 F i τ n c s hI hi hX h1 h2 rfl (jh_less (by omega) (by omega) (K _ _ _ _ _ _ hI (by omega) hR))
set_option maxHeartbeats 1000000 in
theorem ls1 {g : Nat → jg_C} {f : Nat → Int64} {F i r n : Nat} {τ : cT} {c : cS} {s : rs_S} (hI : LI τ n) (hn : n + 200 ≤ 1000000) (hi : i + 9 ≤ X.1) (hX : X.1 ≤ 4608) (K : lk Γ X Rel Q i r n) (h : stp Rel F 1 (fun j => X.2 (i + j)) τ n c s) : jh Γ mL_law ([], X) 100 (170 * (r + 1)) (3834 * (r + 1)) 277 (LL i) [] (lh g f τ c s n) Q := by
  obtain ⟨v, c', s', h1, h2, hR⟩ := h
  exact lc1 F i τ n c s hI hi hX h1 h2 rfl (jh_less (by omega) (by omega) (K _ _ _ _ _ _ hI (by omega) hR))
set_option maxHeartbeats 1000000 in
theorem ls2 {g : Nat → jg_C} {f : Nat → Int64} {F i r n : Nat} {τ : cT} {c : cS} {s : rs_S} (hI : LI τ n) (hn : n + 200 ≤ 1000000) (hi : i + 9 ≤ X.1) (hX : X.1 ≤ 4608) (K : lk Γ X Rel Q i r n) (h : stp Rel F 2 (fun j => X.2 (i + j)) τ n c s) : jh Γ mL_law ([], X) 100 (170 * (r + 1)) (3834 * (r + 1)) 302 (LL i) [] (lh g f τ c s n) Q := by
  rcases h with ⟨c', s', h1, h2, h3, hR⟩ | ⟨c', s', h1, h2, h3, hR⟩ | ⟨c', s', h1, h2, h3, hR⟩ | ⟨c', s', h1, h2, h3, hR⟩
  · exact lc2 F i τ n c s hI hi hX (by omega) (by omega) h1 h2 h3 (jh_less (by omega) (by omega) (K _ _ _ _ _ _ hI (by omega) hR))
  · exact lc2x0 F i τ n c s hI hi hX (by omega) (by omega) (by omega) h1 hI.up h2 h3 (jh_less (by omega) (by omega) (K _ _ _ _ _ _ hI.up (by omega) hR))
  · exact lc2x1 F i τ n c s hI hi hX (by omega) (by omega) (by omega) h1 hI.up h2 h3 (jh_less (by omega) (by omega) (K _ _ _ _ _ _ hI.up (by omega) hR))
  · exact lc2x2 F i τ n c s hI hi hX (by omega) (by omega) (by omega) h1 hI.up h2 h3 (jh_less (by omega) (by omega) (K _ _ _ _ _ _ hI.up (by omega) hR))
set_option maxHeartbeats 1000000 in
theorem ls3 {g : Nat → jg_C} {f : Nat → Int64} {F i r n : Nat} {τ : cT} {c : cS} {s : rs_S} (hI : LI τ n) (hn : n + 200 ≤ 1000000) (hi : i + 9 ≤ X.1) (hX : X.1 ≤ 4608) (K : lk Γ X Rel Q i r n) (h : stp Rel F 3 (fun j => X.2 (i + j)) τ n c s) : jh Γ mL_law ([], X) 100 (170 * (r + 1)) (3834 * (r + 1)) 374 (LL i) [] (lh g f τ c s n) Q := by
  rcases h with ⟨c', s', h1, h2, h3, hR⟩ | ⟨c', s', h1, h2, h3, hR⟩
  · exact lc3 F i τ n c s hI hi hX (by omega) (by omega) h1 h2 h3 (jh_less (by omega) (by omega) (K _ _ _ _ _ _ hI (by omega) hR))
  · exact lc3x1 F i τ n c s hI hi hX (by omega) (by omega) (by omega) h1 hI.up h2 h3 (jh_less (by omega) (by omega) (K _ _ _ _ _ _ hI.up (by omega) hR))
set_option maxHeartbeats 1000000 in
theorem ls4 {g : Nat → jg_C} {f : Nat → Int64} {F i r n : Nat} {τ : cT} {c : cS} {s : rs_S} (hI : LI τ n) (hn : n + 200 ≤ 1000000) (hi : i + 9 ≤ X.1) (hX : X.1 ≤ 4608) (K : lk Γ X Rel Q i r n) (h : stp Rel F 4 (fun j => X.2 (i + j)) τ n c s) : jh Γ mL_law ([], X) 100 (170 * (r + 1)) (3834 * (r + 1)) 422 (LL i) [] (lh g f τ c s n) Q := by
  rcases h with ⟨v, c', s', h1, h2, h3, hR⟩ | ⟨c', v, s', h1, h2, h3, hR⟩
  · exact lc4 F i τ n c s hI hi hX (by omega) (by omega) h1 h2 h3 rfl (jh_less (by omega) (by omega) (K _ _ _ _ _ _ hI (by omega) hR))
  · exact lc4x1 F i τ n c s hI hi hX (by omega) (by omega) (by omega) h1 hI.up h2 h3 (jh_less (by omega) (by omega) (K _ _ _ _ _ _ hI.up (by omega) hR))
set_option maxHeartbeats 1000000 in
theorem ls5 {g : Nat → jg_C} {f : Nat → Int64} {F i r n : Nat} {τ : cT} {c : cS} {s : rs_S} (hI : LI τ n) (hn : n + 200 ≤ 1000000) (hi : i + 9 ≤ X.1) (hX : X.1 ≤ 4608) (K : lk Γ X Rel Q i r n) (h : stp Rel F 5 (fun j => X.2 (i + j)) τ n c s) : jh Γ mL_law ([], X) 100 (170 * (r + 1)) (3834 * (r + 1)) 490 (LL i) [] (lh g f τ c s n) Q := by
  rcases h with ⟨v, c', s', h1, h2, h3, hR⟩ | ⟨c', v, s', h1, h2, h3, hR⟩ | ⟨c', v, s', h1, h2, h3, hR⟩
  · exact lc5 F i τ n c s hI hi hX (by omega) (by omega) h1 h2 h3 rfl (jh_less (by omega) (by omega) (K _ _ _ _ _ _ hI (by omega) hR))
  · exact lc5x1 F i τ n c s hI hi hX (by omega) (by omega) (by omega) h1 hI.up h2 h3 (jh_less (by omega) (by omega) (K _ _ _ _ _ _ hI.up (by omega) hR))
  · exact lc5x3 F i τ n c s hI hi hX (by omega) (by omega) (by omega) h1 hI.up h2 h3 (jh_less (by omega) (by omega) (K _ _ _ _ _ _ hI.up (by omega) hR))
set_option maxHeartbeats 1000000 in
theorem ls6 {g : Nat → jg_C} {f : Nat → Int64} {F i r n : Nat} {τ : cT} {c : cS} {s : rs_S} (hI : LI τ n) (hn : n + 200 ≤ 1000000) (hi : i + 9 ≤ X.1) (hX : X.1 ≤ 4608) (K : lk Γ X Rel Q i r n) (h : stp Rel F 6 (fun j => X.2 (i + j)) τ n c s) : jh Γ mL_law ([], X) 100 (170 * (r + 1)) (3834 * (r + 1)) 546 (LL i) [] (lh g f τ c s n) Q := by
  rcases h with ⟨v, c', s', h1, h2, h3, hR⟩ | ⟨c', v, s', h1, h2, h3, hR⟩
  · exact lc6 F i τ n c s hI hi hX (by omega) (by omega) h1 h2 h3 rfl (jh_less (by omega) (by omega) (K _ _ _ _ _ _ hI (by omega) hR))
  · exact lc6x0 F i τ n c s hI hi hX (by omega) (by omega) (by omega) h1 hI.up h2 h3 (jh_less (by omega) (by omega) (K _ _ _ _ _ _ hI.up (by omega) hR))
set_option maxHeartbeats 1000000 in
theorem ls7 {g : Nat → jg_C} {f : Nat → Int64} {F i r n : Nat} {τ : cT} {c : cS} {s : rs_S} (hI : LI τ n) (hn : n + 200 ≤ 1000000) (hi : i + 9 ≤ X.1) (hX : X.1 ≤ 4608) (K : lk Γ X Rel Q i r n) (h : stp Rel F 7 (fun j => X.2 (i + j)) τ n c s) : jh Γ mL_law ([], X) 100 (170 * (r + 1)) (3834 * (r + 1)) 633 (LL i) [] (lh g f τ c s n) Q := by
  rcases h with ⟨v, s', h1, h2, h3, hR⟩ | ⟨v, s', h1, h2, h3, hR⟩ | ⟨v, s', h1, h2, h3, hR⟩
  · exact lc7 F i τ n c s hI hi hX (by omega) (by omega) h1 h2 h3 rfl (jh_less (by omega) (by omega) (K _ _ _ _ _ _ hI (by omega) hR))
  · exact lc7x0 F i τ n c s hI hi hX (by omega) (by omega) (by omega) h1 hI.up h2 h3 (jh_less (by omega) (by omega) (K _ _ _ _ _ _ hI.up (by omega) hR))
  · exact lc7x4 F i τ n c s hI hi hX (by omega) (by omega) (by omega) h1 hI.up h2 h3 (jh_less (by omega) (by omega) (K _ _ _ _ _ _ hI.up (by omega) hR))
set_option maxHeartbeats 1000000 in
theorem ls8 {g : Nat → jg_C} {f : Nat → Int64} {F i r n : Nat} {τ : cT} {c : cS} {s : rs_S} (hI : LI τ n) (hn : n + 200 ≤ 1000000) (hi : i + 9 ≤ X.1) (hX : X.1 ≤ 4608) (K : lk Γ X Rel Q i r n) (h : stp Rel F 8 (fun j => X.2 (i + j)) τ n c s) : jh Γ mL_law ([], X) 100 (170 * (r + 1)) (3834 * (r + 1)) 701 (LL i) [] (lh g f τ c s n) Q := by
  rcases h with ⟨v, c', s', h1, h2, h3, hR⟩ | ⟨c', v, s', h1, h2, h3, hR⟩ | ⟨c', v, s', h1, h2, h3, hR⟩
  · exact lc8 F i τ n c s hI hi hX (by omega) (by omega) h1 h2 h3 rfl (jh_less (by omega) (by omega) (K _ _ _ _ _ _ hI (by omega) hR))
  · exact lc8x0 F i τ n c s hI hi hX (by omega) (by omega) (by omega) h1 hI.up h2 h3 (jh_less (by omega) (by omega) (K _ _ _ _ _ _ hI.up (by omega) hR))
  · exact lc8x1 F i τ n c s hI hi hX (by omega) (by omega) (by omega) h1 hI.up h2 h3 (jh_less (by omega) (by omega) (K _ _ _ _ _ _ hI.up (by omega) hR))
set_option maxHeartbeats 1000000 in
theorem ls9 {g : Nat → jg_C} {f : Nat → Int64} {F i r n : Nat} {τ : cT} {c : cS} {s : rs_S} (hI : LI τ n) (hn : n + 200 ≤ 1000000) (hi : i + 9 ≤ X.1) (hX : X.1 ≤ 4608) (K : lk Γ X Rel Q i r n) (h : stp Rel F 9 (fun j => X.2 (i + j)) τ n c s) : jh Γ mL_law ([], X) 100 (170 * (r + 1)) (3834 * (r + 1)) 781 (LL i) [] (lh g f τ c s n) Q := by
  rcases h with ⟨v, s', h1, h2, h3, hR⟩ | ⟨v, s', h1, h2, h3, hR⟩
  · exact lc9 F i τ n c s hI hi hX (by omega) (by omega) h1 h2 h3 rfl (jh_less (by omega) (by omega) (K _ _ _ _ _ _ hI (by omega) hR))
  · exact lc9x0 F i τ n c s hI hi hX (by omega) (by omega) (by omega) h1 hI.up h2 h3 (jh_less (by omega) (by omega) (K _ _ _ _ _ _ hI.up (by omega) hR))
set_option maxHeartbeats 1000000 in
theorem ls10 {g : Nat → jg_C} {f : Nat → Int64} {F i r n : Nat} {τ : cT} {c : cS} {s : rs_S} (hI : LI τ n) (hn : n + 200 ≤ 1000000) (hi : i + 9 ≤ X.1) (hX : X.1 ≤ 4608) (K : lk Γ X Rel Q i r n) (h : stp Rel F 10 (fun j => X.2 (i + j)) τ n c s) : jh Γ mL_law ([], X) 100 (170 * (r + 1)) (3834 * (r + 1)) 849 (LL i) [] (lh g f τ c s n) Q := by
  rcases h with ⟨v, c', s', h1, h2, h3, hR⟩ | ⟨c', v, s', h1, h2, h3, hR⟩ | ⟨c', v, s', h1, h2, h3, hR⟩ | ⟨c', v, s', h1, h2, h3, hR⟩
  · exact lc10 F i τ n c s hI hi hX (by omega) (by omega) h1 h2 h3 rfl (jh_less (by omega) (by omega) (K _ _ _ _ _ _ hI (by omega) hR))
  · exact lc10x0 F i τ n c s hI hi hX (by omega) (by omega) (by omega) h1 hI.up h2 h3 (jh_less (by omega) (by omega) (K _ _ _ _ _ _ hI.up (by omega) hR))
  · exact lc10x1 F i τ n c s hI hi hX (by omega) (by omega) (by omega) h1 hI.up h2 h3 (jh_less (by omega) (by omega) (K _ _ _ _ _ _ hI.up (by omega) hR))
  · exact lc10x3 F i τ n c s hI hi hX (by omega) (by omega) (by omega) h1 hI.up h2 h3 (jh_less (by omega) (by omega) (K _ _ _ _ _ _ hI.up (by omega) hR))
set_option maxHeartbeats 1000000 in
theorem ls11 {g : Nat → jg_C} {f : Nat → Int64} {F i r n : Nat} {τ : cT} {c : cS} {s : rs_S} (hI : LI τ n) (hn : n + 200 ≤ 1000000) (hi : i + 9 ≤ X.1) (hX : X.1 ≤ 4608) (K : lk Γ X Rel Q i r n) (h : stp Rel F 11 (fun j => X.2 (i + j)) τ n c s) : jh Γ mL_law ([], X) 100 (170 * (r + 1)) (3834 * (r + 1)) 941 (LL i) [] (lh g f τ c s n) Q := by
  rcases h with ⟨c', s', h1, h2, h3, hR⟩ | ⟨c', s', h1, h2, h3, hR⟩
  · exact lc11 F i τ n c s hI hi hX (by omega) (by omega) h1 h2 h3 (jh_less (by omega) (by omega) (K _ _ _ _ _ _ hI (by omega) hR))
  · exact lc11x1 F i τ n c s hI hi hX (by omega) (by omega) (by omega) h1 hI.up h2 h3 (jh_less (by omega) (by omega) (K _ _ _ _ _ _ hI.up (by omega) hR))
set_option maxHeartbeats 1000000 in
theorem ls12 {g : Nat → jg_C} {f : Nat → Int64} {F i r n : Nat} {τ : cT} {c : cS} {s : rs_S} (hI : LI τ n) (hn : n + 200 ≤ 1000000) (hi : i + 9 ≤ X.1) (hX : X.1 ≤ 4608) (K : lk Γ X Rel Q i r n) (h : stp Rel F 12 (fun j => X.2 (i + j)) τ n c s) : jh Γ mL_law ([], X) 100 (170 * (r + 1)) (3834 * (r + 1)) 989 (LL i) [] (lh g f τ c s n) Q := by
  rcases h with ⟨v, c', s', h1, h2, h3, hR⟩ | ⟨c', v, s', h1, h2, h3, hR⟩
  · exact lc12 F i τ n c s hI hi hX (by omega) (by omega) h1 h2 h3 rfl (jh_less (by omega) (by omega) (K _ _ _ _ _ _ hI (by omega) hR))
  · exact lc12x3 F i τ n c s hI hi hX (by omega) (by omega) (by omega) h1 hI.up h2 h3 (jh_less (by omega) (by omega) (K _ _ _ _ _ _ hI.up (by omega) hR))
set_option maxHeartbeats 1000000 in
theorem ls13 {g : Nat → jg_C} {f : Nat → Int64} {F i r n : Nat} {τ : cT} {c : cS} {s : rs_S} (hI : LI τ n) (hn : n + 200 ≤ 1000000) (hi : i + 9 ≤ X.1) (hX : X.1 ≤ 4608) (K : lk Γ X Rel Q i r n) (h : stp Rel F 13 (fun j => X.2 (i + j)) τ n c s) : jh Γ mL_law ([], X) 100 (170 * (r + 1)) (3834 * (r + 1)) 1033 (LL i) [] (lh g f τ c s n) Q := by
  rcases h with ⟨v, c', s', h1, h2, h3, hR⟩ | ⟨c', v, s', h1, h2, h3, hR⟩ | ⟨c', v, s', h1, h2, h3, hR⟩ | ⟨c', v, s', h1, h2, h3, hR⟩
  · exact lc13 F i τ n c s hI hi hX (by omega) (by omega) h1 h2 h3 rfl (jh_less (by omega) (by omega) (K _ _ _ _ _ _ hI (by omega) hR))
  · exact lc13x0 F i τ n c s hI hi hX (by omega) (by omega) (by omega) h1 hI.up h2 h3 (jh_less (by omega) (by omega) (K _ _ _ _ _ _ hI.up (by omega) hR))
  · exact lc13x1 F i τ n c s hI hi hX (by omega) (by omega) (by omega) h1 hI.up h2 h3 (jh_less (by omega) (by omega) (K _ _ _ _ _ _ hI.up (by omega) hR))
  · exact lc13x3 F i τ n c s hI hi hX (by omega) (by omega) (by omega) h1 hI.up h2 h3 (jh_less (by omega) (by omega) (K _ _ _ _ _ _ hI.up (by omega) hR))
set_option maxHeartbeats 1000000 in
theorem ls14 {g : Nat → jg_C} {f : Nat → Int64} {F i r n : Nat} {τ : cT} {c : cS} {s : rs_S} (hI : LI τ n) (hn : n + 200 ≤ 1000000) (hi : i + 9 ≤ X.1) (hX : X.1 ≤ 4608) (K : lk Γ X Rel Q i r n) (h : stp Rel F 14 (fun j => X.2 (i + j)) τ n c s) : jh Γ mL_law ([], X) 100 (170 * (r + 1)) (3834 * (r + 1)) 1195 (LL i) [] (lh g f τ c s n) Q := by
  rcases h with ⟨v, c', s', h1, h2, h3, hR⟩ | ⟨c', v, s', h1, h2, h3, hR⟩
  · exact lc14 F i τ n c s hI hi hX (by omega) (by omega) h1 h2 h3 rfl (jh_less (by omega) (by omega) (K _ _ _ _ _ _ hI (by omega) hR))
  · exact lc14x1 F i τ n c s hI hi hX (by omega) (by omega) (by omega) h1 hI.up h2 h3 (jh_less (by omega) (by omega) (K _ _ _ _ _ _ hI.up (by omega) hR))
set_option maxHeartbeats 1000000 in
theorem ls15 {g : Nat → jg_C} {f : Nat → Int64} {F i r n : Nat} {τ : cT} {c : cS} {s : rs_S} (hI : LI τ n) (hn : n + 200 ≤ 1000000) (hi : i + 9 ≤ X.1) (hX : X.1 ≤ 4608) (K : lk Γ X Rel Q i r n) (h : stp Rel F 15 (fun j => X.2 (i + j)) τ n c s) : jh Γ mL_law ([], X) 100 (170 * (r + 1)) (3834 * (r + 1)) 1251 (LL i) [] (lh g f τ c s n) Q := by
  rcases h with ⟨v, c', s', h1, h2, h3, hR⟩ | ⟨c', v, s', h1, h2, h3, hR⟩ | ⟨c', v, s', h1, h2, h3, hR⟩
  · exact lc15 F i τ n c s hI hi hX (by omega) (by omega) h1 h2 h3 rfl (jh_less (by omega) (by omega) (K _ _ _ _ _ _ hI (by omega) hR))
  · exact lc15x0 F i τ n c s hI hi hX (by omega) (by omega) (by omega) h1 hI.up h2 h3 (jh_less (by omega) (by omega) (K _ _ _ _ _ _ hI.up (by omega) hR))
  · exact lc15x4 F i τ n c s hI hi hX (by omega) (by omega) (by omega) h1 hI.up h2 h3 (jh_less (by omega) (by omega) (K _ _ _ _ _ _ hI.up (by omega) hR))
set_option maxHeartbeats 1000000 in
theorem ls16 {g : Nat → jg_C} {f : Nat → Int64} {F i r n : Nat} {τ : cT} {c : cS} {s : rs_S} (hI : LI τ n) (hn : n + 200 ≤ 1000000) (hi : i + 9 ≤ X.1) (hX : X.1 ≤ 4608) (K : lk Γ X Rel Q i r n) (h : stp Rel F 16 (fun j => X.2 (i + j)) τ n c s) : jh Γ mL_law ([], X) 100 (170 * (r + 1)) (3834 * (r + 1)) 1319 (LL i) [] (lh g f τ c s n) Q := by
  rcases h with ⟨v, s', h1, h2, h3, hR⟩ | ⟨v, s', h1, h2, h3, hR⟩ | ⟨v, s', h1, h2, h3, hR⟩
  · exact lc16 F i τ n c s hI hi hX (by omega) (by omega) h1 h2 h3 rfl (jh_less (by omega) (by omega) (K _ _ _ _ _ _ hI (by omega) hR))
  · exact lc16x0 F i τ n c s hI hi hX (by omega) (by omega) (by omega) h1 hI.up h2 h3 (jh_less (by omega) (by omega) (K _ _ _ _ _ _ hI.up (by omega) hR))
  · exact lc16x4 F i τ n c s hI hi hX (by omega) (by omega) (by omega) h1 hI.up h2 h3 (jh_less (by omega) (by omega) (K _ _ _ _ _ _ hI.up (by omega) hR))
set_option maxHeartbeats 1000000 in
theorem ls17 {g : Nat → jg_C} {f : Nat → Int64} {F i r n : Nat} {τ : cT} {c : cS} {s : rs_S} (hI : LI τ n) (hn : n + 200 ≤ 1000000) (hi : i + 9 ≤ X.1) (hX : X.1 ≤ 4608) (K : lk Γ X Rel Q i r n) (h : stp Rel F 17 (fun j => X.2 (i + j)) τ n c s) : jh Γ mL_law ([], X) 100 (170 * (r + 1)) (3834 * (r + 1)) 1387 (LL i) [] (lh g f τ c s n) Q := by
  rcases h with ⟨v, c', s', h1, h2, h3, hR⟩ | ⟨c', v, s', h1, h2, h3, hR⟩
  · exact lc17 F i τ n c s hI hi hX (by omega) (by omega) h1 h2 h3 rfl (jh_less (by omega) (by omega) (K _ _ _ _ _ _ hI (by omega) hR))
  · exact lc17x0 F i τ n c s hI hi hX (by omega) (by omega) (by omega) h1 hI.up h2 h3 (jh_less (by omega) (by omega) (K _ _ _ _ _ _ hI.up (by omega) hR))
set_option maxHeartbeats 1000000 in
theorem ls18 {g : Nat → jg_C} {f : Nat → Int64} {F i r n : Nat} {τ : cT} {c : cS} {s : rs_S} (hI : LI τ n) (hn : n + 200 ≤ 1000000) (hi : i + 9 ≤ X.1) (hX : X.1 ≤ 4608) (K : lk Γ X Rel Q i r n) (h : stp Rel F 18 (fun j => X.2 (i + j)) τ n c s) : jh Γ mL_law ([], X) 100 (170 * (r + 1)) (3834 * (r + 1)) 1483 (LL i) [] (lh g f τ c s n) Q := by
  rcases h with ⟨q, v, c', s', h1, h2, h3, hR⟩ | ⟨q, c', v, s', h1, h2, h3, hR⟩ | ⟨q, c', v, s', h1, h2, h3, hR⟩ | ⟨q, c', v, s', h1, h2, h3, hR⟩
  · exact lc18 F i τ n c s hI hi hX (by omega) (by omega) (by omega) h1 (hI.tQ q) h2 h3 rfl (jh_less (by omega) (by omega) (K _ _ _ _ _ _ (hI.tQ q) (by have := nQ_6 (n := n) (q := q); omega) hR))
  · exact lc18x1 F i τ n c s hI hi hX (by omega) (by omega) (by omega) h1 (hI.tQ q).up h2 h3 (jh_less (by omega) (by omega) (K _ _ _ _ _ _ (hI.tQ q).up (by have := nQ_6 (n := n) (q := q); omega) hR))
  · exact lc18x2 F i τ n c s hI hi hX (by omega) (by omega) (by omega) h1 (hI.tQ q).up h2 h3 (jh_less (by omega) (by omega) (K _ _ _ _ _ _ (hI.tQ q).up (by have := nQ_6 (n := n) (q := q); omega) hR))
  · exact lc18x3 F i τ n c s hI hi hX (by omega) (by omega) (by omega) h1 (hI.tQ q).up h2 h3 (jh_less (by omega) (by omega) (K _ _ _ _ _ _ (hI.tQ q).up (by have := nQ_6 (n := n) (q := q); omega) hR))
set_option maxHeartbeats 1000000 in
theorem ls19 {g : Nat → jg_C} {f : Nat → Int64} {F i r n : Nat} {τ : cT} {c : cS} {s : rs_S} (hI : LI τ n) (hn : n + 200 ≤ 1000000) (hi : i + 9 ≤ X.1) (hX : X.1 ≤ 4608) (K : lk Γ X Rel Q i r n) (h : stp Rel F 19 (fun j => X.2 (i + j)) τ n c s) : jh Γ mL_law ([], X) 100 (170 * (r + 1)) (3834 * (r + 1)) 1539 (LL i) [] (lh g f τ c s n) Q := by
  rcases h with ⟨q, v, c', s', h1, h2, h3, hR⟩ | ⟨q, c', v, s', h1, h2, h3, hR⟩ | ⟨q, c', v, s', h1, h2, h3, hR⟩ | ⟨q, c', v, s', h1, h2, h3, hR⟩
  · exact lc19 F i τ n c s hI hi hX (by omega) (by omega) (by omega) h1 (hI.tQ q) h2 h3 rfl (jh_less (by omega) (by omega) (K _ _ _ _ _ _ (hI.tQ q) (by have := nQ_6 (n := n) (q := q); omega) hR))
  · exact lc19x1 F i τ n c s hI hi hX (by omega) (by omega) (by omega) h1 (hI.tQ q).up h2 h3 (jh_less (by omega) (by omega) (K _ _ _ _ _ _ (hI.tQ q).up (by have := nQ_6 (n := n) (q := q); omega) hR))
  · exact lc19x2 F i τ n c s hI hi hX (by omega) (by omega) (by omega) h1 (hI.tQ q).up h2 h3 (jh_less (by omega) (by omega) (K _ _ _ _ _ _ (hI.tQ q).up (by have := nQ_6 (n := n) (q := q); omega) hR))
  · exact lc19x3 F i τ n c s hI hi hX (by omega) (by omega) (by omega) h1 (hI.tQ q).up h2 h3 (jh_less (by omega) (by omega) (K _ _ _ _ _ _ (hI.tQ q).up (by have := nQ_6 (n := n) (q := q); omega) hR))
set_option maxHeartbeats 1000000 in
theorem ls20 {g : Nat → jg_C} {f : Nat → Int64} {F i r n : Nat} {τ : cT} {c : cS} {s : rs_S} (hI : LI τ n) (hn : n + 200 ≤ 1000000) (hi : i + 9 ≤ X.1) (hX : X.1 ≤ 4608) (K : lk Γ X Rel Q i r n) (h : stp Rel F 20 (fun j => X.2 (i + j)) τ n c s) : jh Γ mL_law ([], X) 100 (170 * (r + 1)) (3834 * (r + 1)) 1595 (LL i) [] (lh g f τ c s n) Q := by
  obtain ⟨v, s', h1, h2, hR⟩ := h
  exact lc20 F i τ n c s hI hi hX h1 h2 rfl (jh_less (by omega) (by omega) (K _ _ _ _ _ _ hI (by omega) hR))
set_option maxHeartbeats 1000000 in
theorem ls21 {g : Nat → jg_C} {f : Nat → Int64} {F i r n : Nat} {τ : cT} {c : cS} {s : rs_S} (hI : LI τ n) (hn : n + 200 ≤ 1000000) (hi : i + 9 ≤ X.1) (hX : X.1 ≤ 4608) (K : lk Γ X Rel Q i r n) (h : stp Rel F 21 (fun j => X.2 (i + j)) τ n c s) : jh Γ mL_law ([], X) 100 (170 * (r + 1)) (3834 * (r + 1)) 1608 (LL i) [] (lh g f τ c s n) Q := by
  rcases h with ⟨v, c', s', h1, h2, h3, hR⟩ | ⟨c', v, s', h1, h2, h3, hR⟩ | ⟨c', v, s', h1, h2, h3, hR⟩
  · exact lc21 F i τ n c s hI hi hX (by omega) (by omega) h1 h2 h3 rfl (jh_less (by omega) (by omega) (K _ _ _ _ _ _ hI (by omega) hR))
  · exact lc21x0 F i τ n c s hI hi hX (by omega) (by omega) (by omega) h1 hI.up h2 h3 (jh_less (by omega) (by omega) (K _ _ _ _ _ _ hI.up (by omega) hR))
  · exact lc21x2 F i τ n c s hI hi hX (by omega) (by omega) (by omega) h1 hI.up h2 h3 (jh_less (by omega) (by omega) (K _ _ _ _ _ _ hI.up (by omega) hR))
set_option maxHeartbeats 1000000 in
theorem ls22 {g : Nat → jg_C} {f : Nat → Int64} {F i r n : Nat} {τ : cT} {c : cS} {s : rs_S} (hI : LI τ n) (hn : n + 200 ≤ 1000000) (hi : i + 9 ≤ X.1) (hX : X.1 ≤ 4608) (K : lk Γ X Rel Q i r n) (h : stp Rel F 22 (fun j => X.2 (i + j)) τ n c s) : jh Γ mL_law ([], X) 100 (170 * (r + 1)) (3834 * (r + 1)) 1692 (LL i) [] (lh g f τ c s n) Q := by
  rcases h with ⟨v, c', s', h1, h2, h3, hR⟩ | ⟨c', v, s', h1, h2, h3, hR⟩
  · exact lc22 F i τ n c s hI hi hX (by omega) (by omega) h1 h2 h3 rfl (jh_less (by omega) (by omega) (K _ _ _ _ _ _ hI (by omega) hR))
  · exact lc22x2 F i τ n c s hI hi hX (by omega) (by omega) (by omega) h1 hI.up h2 h3 (jh_less (by omega) (by omega) (K _ _ _ _ _ _ hI.up (by omega) hR))
set_option maxHeartbeats 1000000 in
theorem ls23 {g : Nat → jg_C} {f : Nat → Int64} {F i r n : Nat} {τ : cT} {c : cS} {s : rs_S} (hI : LI τ n) (hn : n + 200 ≤ 1000000) (hi : i + 9 ≤ X.1) (hX : X.1 ≤ 4608) (K : lk Γ X Rel Q i r n) (h : stp Rel F 23 (fun j => X.2 (i + j)) τ n c s) : jh Γ mL_law ([], X) 100 (170 * (r + 1)) (3834 * (r + 1)) 1743 (LL i) [] (lh g f τ c s n) Q := by
  rcases h with ⟨v, c', s', h1, h2, h3, hR⟩ | ⟨c', v, s', h1, h2, h3, hR⟩ | ⟨c', v, s', h1, h2, h3, hR⟩
  · exact lc23 F i τ n c s hI hi hX (by omega) (by omega) h1 h2 h3 rfl (jh_less (by omega) (by omega) (K _ _ _ _ _ _ hI (by omega) hR))
  · exact lc23x0 F i τ n c s hI hi hX (by omega) (by omega) (by omega) h1 hI.up h2 h3 (jh_less (by omega) (by omega) (K _ _ _ _ _ _ hI.up (by omega) hR))
  · exact lc23x4 F i τ n c s hI hi hX (by omega) (by omega) (by omega) h1 hI.up h2 h3 (jh_less (by omega) (by omega) (K _ _ _ _ _ _ hI.up (by omega) hR))
set_option maxHeartbeats 1000000 in
theorem ls24 {g : Nat → jg_C} {f : Nat → Int64} {F i r n : Nat} {τ : cT} {c : cS} {s : rs_S} (hI : LI τ n) (hn : n + 200 ≤ 1000000) (hi : i + 9 ≤ X.1) (hX : X.1 ≤ 4608) (K : lk Γ X Rel Q i r n) (h : stp Rel F 24 (fun j => X.2 (i + j)) τ n c s) : jh Γ mL_law ([], X) 100 (170 * (r + 1)) (3834 * (r + 1)) 1811 (LL i) [] (lh g f τ c s n) Q := by
  rcases h with ⟨v, c', s', h1, h2, h3, hR⟩ | ⟨c', v, s', h1, h2, h3, hR⟩
  · exact lc24 F i τ n c s hI hi hX (by omega) (by omega) h1 h2 h3 rfl (jh_less (by omega) (by omega) (K _ _ _ _ _ _ hI (by omega) hR))
  · exact lc24x0 F i τ n c s hI hi hX (by omega) (by omega) (by omega) h1 hI.up h2 h3 (jh_less (by omega) (by omega) (K _ _ _ _ _ _ hI.up (by omega) hR))
set_option maxHeartbeats 1000000 in
theorem ls25 {g : Nat → jg_C} {f : Nat → Int64} {F i r n : Nat} {τ : cT} {c : cS} {s : rs_S} (hI : LI τ n) (hn : n + 200 ≤ 1000000) (hi : i + 9 ≤ X.1) (hX : X.1 ≤ 4608) (K : lk Γ X Rel Q i r n) (h : stp Rel F 25 (fun j => X.2 (i + j)) τ n c s) : jh Γ mL_law ([], X) 100 (170 * (r + 1)) (3834 * (r + 1)) 1867 (LL i) [] (lh g f τ c s n) Q := by
  rcases h with ⟨v, c', s', h1, h2, h3, hR⟩ | ⟨c', v, s', h1, h2, h3, hR⟩ | ⟨c', v, s', h1, h2, h3, hR⟩
  · exact lc25 F i τ n c s hI hi hX (by omega) (by omega) h1 h2 h3 rfl (jh_less (by omega) (by omega) (K _ _ _ _ _ _ hI (by omega) hR))
  · exact lc25x0 F i τ n c s hI hi hX (by omega) (by omega) (by omega) h1 hI.up h2 h3 (jh_less (by omega) (by omega) (K _ _ _ _ _ _ hI.up (by omega) hR))
  · exact lc25x4 F i τ n c s hI hi hX (by omega) (by omega) (by omega) h1 hI.up h2 h3 (jh_less (by omega) (by omega) (K _ _ _ _ _ _ hI.up (by omega) hR))
set_option maxHeartbeats 1000000 in
theorem ls26 {g : Nat → jg_C} {f : Nat → Int64} {F i r n : Nat} {τ : cT} {c : cS} {s : rs_S} (hI : LI τ n) (hn : n + 200 ≤ 1000000) (hi : i + 9 ≤ X.1) (hX : X.1 ≤ 4608) (K : lk Γ X Rel Q i r n) (h : stp Rel F 26 (fun j => X.2 (i + j)) τ n c s) : jh Γ mL_law ([], X) 100 (170 * (r + 1)) (3834 * (r + 1)) 1935 (LL i) [] (lh g f τ c s n) Q := by
  rcases h with ⟨v, c', s', h1, h2, h3, hR⟩ | ⟨c', v, s', h1, h2, h3, hR⟩
  · exact lc26 F i τ n c s hI hi hX (by omega) (by omega) h1 h2 h3 rfl (jh_less (by omega) (by omega) (K _ _ _ _ _ _ hI (by omega) hR))
  · exact lc26x1 F i τ n c s hI hi hX (by omega) (by omega) (by omega) h1 hI.up h2 h3 (jh_less (by omega) (by omega) (K _ _ _ _ _ _ hI.up (by omega) hR))
set_option maxHeartbeats 1000000 in
theorem ls27 {g : Nat → jg_C} {f : Nat → Int64} {F i r n : Nat} {τ : cT} {c : cS} {s : rs_S} (hI : LI τ n) (hn : n + 200 ≤ 1000000) (hi : i + 9 ≤ X.1) (hX : X.1 ≤ 4608) (K : lk Γ X Rel Q i r n) (h : stp Rel F 27 (fun j => X.2 (i + j)) τ n c s) : jh Γ mL_law ([], X) 100 (170 * (r + 1)) (3834 * (r + 1)) 1991 (LL i) [] (lh g f τ c s n) Q := by
  rcases h with ⟨v, c', s', h1, h2, h3, hR⟩ | ⟨c', v, s', h1, h2, h3, hR⟩ | ⟨c', v, s', h1, h2, h3, hR⟩
  · exact lc27 F i τ n c s hI hi hX (by omega) (by omega) h1 h2 h3 rfl (jh_less (by omega) (by omega) (K _ _ _ _ _ _ hI (by omega) hR))
  · exact lc27x1 F i τ n c s hI hi hX (by omega) (by omega) (by omega) h1 hI.up h2 h3 (jh_less (by omega) (by omega) (K _ _ _ _ _ _ hI.up (by omega) hR))
  · exact lc27x3 F i τ n c s hI hi hX (by omega) (by omega) (by omega) h1 hI.up h2 h3 (jh_less (by omega) (by omega) (K _ _ _ _ _ _ hI.up (by omega) hR))
set_option maxHeartbeats 1000000 in
theorem ls28 {g : Nat → jg_C} {f : Nat → Int64} {F i r n : Nat} {τ : cT} {c : cS} {s : rs_S} (hI : LI τ n) (hn : n + 200 ≤ 1000000) (hi : i + 9 ≤ X.1) (hX : X.1 ≤ 4608) (K : lk Γ X Rel Q i r n) (h : stp Rel F 28 (fun j => X.2 (i + j)) τ n c s) : jh Γ mL_law ([], X) 100 (170 * (r + 1)) (3834 * (r + 1)) 2083 (LL i) [] (lh g f τ c s n) Q := by
  rcases h with ⟨v, s', h1, h2, h3, hR⟩ | ⟨v, s', h1, h2, h3, hR⟩ | ⟨v, s', h1, h2, h3, hR⟩
  · exact lc28 F i τ n c s hI hi hX (by omega) (by omega) h1 h2 h3 rfl (jh_less (by omega) (by omega) (K _ _ _ _ _ _ hI (by omega) hR))
  · exact lc28x0 F i τ n c s hI hi hX (by omega) (by omega) (by omega) h1 hI.up h2 h3 (jh_less (by omega) (by omega) (K _ _ _ _ _ _ hI.up (by omega) hR))
  · exact lc28x4 F i τ n c s hI hi hX (by omega) (by omega) (by omega) h1 hI.up h2 h3 (jh_less (by omega) (by omega) (K _ _ _ _ _ _ hI.up (by omega) hR))
set_option maxHeartbeats 1000000 in
theorem ls29 {g : Nat → jg_C} {f : Nat → Int64} {F i r n : Nat} {τ : cT} {c : cS} {s : rs_S} (hI : LI τ n) (hn : n + 200 ≤ 1000000) (hi : i + 9 ≤ X.1) (hX : X.1 ≤ 4608) (K : lk Γ X Rel Q i r n) (h : stp Rel F 29 (fun j => X.2 (i + j)) τ n c s) : jh Γ mL_law ([], X) 100 (170 * (r + 1)) (3834 * (r + 1)) 2151 (LL i) [] (lh g f τ c s n) Q := by
  obtain ⟨v, c', s', h1, h2, hR⟩ := h
  exact lc29 F i τ n c s hI hi hX h1 h2 rfl (jh_less (by omega) (by omega) (K _ _ _ _ _ _ hI (by omega) hR))
set_option maxHeartbeats 1000000 in
theorem ls30 {g : Nat → jg_C} {f : Nat → Int64} {F i r n : Nat} {τ : cT} {c : cS} {s : rs_S} (hI : LI τ n) (hn : n + 200 ≤ 1000000) (hi : i + 9 ≤ X.1) (hX : X.1 ≤ 4608) (K : lk Γ X Rel Q i r n) (h : stp Rel F 30 (fun j => X.2 (i + j)) τ n c s) : jh Γ mL_law ([], X) 100 (170 * (r + 1)) (3834 * (r + 1)) 2164 (LL i) [] (lh g f τ c s n) Q := by
  rcases h with ⟨v, c', s', h1, h2, h3, hR⟩ | ⟨c', v, s', h1, h2, h3, hR⟩
  · exact lc30 F i τ n c s hI hi hX (by omega) (by omega) h1 h2 h3 rfl (jh_less (by omega) (by omega) (K _ _ _ _ _ _ hI (by omega) hR))
  · exact lc30x1 F i τ n c s hI hi hX (by omega) (by omega) (by omega) h1 hI.up h2 h3 (jh_less (by omega) (by omega) (K _ _ _ _ _ _ hI.up (by omega) hR))
set_option maxHeartbeats 1000000 in
theorem ls31 {g : Nat → jg_C} {f : Nat → Int64} {F i r n : Nat} {τ : cT} {c : cS} {s : rs_S} (hI : LI τ n) (hn : n + 200 ≤ 1000000) (hi : i + 9 ≤ X.1) (hX : X.1 ≤ 4608) (K : lk Γ X Rel Q i r n) (h : stp Rel F 31 (fun j => X.2 (i + j)) τ n c s) : jh Γ mL_law ([], X) 100 (170 * (r + 1)) (3834 * (r + 1)) 2256 (LL i) [] (lh g f τ c s n) Q := by
  rcases h with ⟨v, s', h1, h2, h3, hR⟩ | ⟨v, s', h1, h2, h3, hR⟩
  · exact lc31 F i τ n c s hI hi hX (by omega) (by omega) h1 h2 h3 rfl (jh_less (by omega) (by omega) (K _ _ _ _ _ _ hI (by omega) hR))
  · exact lc31x1 F i τ n c s hI hi hX (by omega) (by omega) (by omega) h1 hI.up h2 h3 (jh_less (by omega) (by omega) (K _ _ _ _ _ _ hI.up (by omega) hR))
set_option maxHeartbeats 1000000 in
theorem ls32 {g : Nat → jg_C} {f : Nat → Int64} {F i r n : Nat} {τ : cT} {c : cS} {s : rs_S} (hI : LI τ n) (hn : n + 200 ≤ 1000000) (hi : i + 9 ≤ X.1) (hX : X.1 ≤ 4608) (K : lk Γ X Rel Q i r n) (h : stp Rel F 32 (fun j => X.2 (i + j)) τ n c s) : jh Γ mL_law ([], X) 100 (170 * (r + 1)) (3834 * (r + 1)) 2324 (LL i) [] (lh g f τ c s n) Q := by
  rcases h with ⟨v, s', h1, h2, h3, hR⟩ | ⟨v, s', h1, h2, h3, hR⟩
  · exact lc32 F i τ n c s hI hi hX (by omega) (by omega) h1 h2 h3 rfl (jh_less (by omega) (by omega) (K _ _ _ _ _ _ hI (by omega) hR))
  · exact lc32x1 F i τ n c s hI hi hX (by omega) (by omega) (by omega) h1 hI.up h2 h3 (jh_less (by omega) (by omega) (K _ _ _ _ _ _ hI.up (by omega) hR))
set_option maxHeartbeats 1000000 in
theorem ls33 {g : Nat → jg_C} {f : Nat → Int64} {F i r n : Nat} {τ : cT} {c : cS} {s : rs_S} (hI : LI τ n) (hn : n + 200 ≤ 1000000) (hi : i + 9 ≤ X.1) (hX : X.1 ≤ 4608) (K : lk Γ X Rel Q i r n) (h : stp Rel F 33 (fun j => X.2 (i + j)) τ n c s) : jh Γ mL_law ([], X) 100 (170 * (r + 1)) (3834 * (r + 1)) 2380 (LL i) [] (lh g f τ c s n) Q := by
  rcases h with ⟨q, v, c', s', h1, h2, h3, hR⟩ | ⟨q, c', v, s', h1, h2, h3, hR⟩
  · exact lc33 F i τ n c s hI hi hX (by omega) (by omega) (by omega) h1 (hI.tQ q) h2 h3 rfl (jh_less (by omega) (by omega) (K _ _ _ _ _ _ (hI.tQ q) (by have := nQ_6 (n := n) (q := q); omega) hR))
  · exact lc33x1 F i τ n c s hI hi hX (by omega) (by omega) (by omega) h1 (hI.tQ q).up h2 h3 (jh_less (by omega) (by omega) (K _ _ _ _ _ _ (hI.tQ q).up (by have := nQ_6 (n := n) (q := q); omega) hR))
set_option maxHeartbeats 1000000 in
theorem ls34 {g : Nat → jg_C} {f : Nat → Int64} {F i r n : Nat} {τ : cT} {c : cS} {s : rs_S} (hI : LI τ n) (hn : n + 200 ≤ 1000000) (hi : i + 9 ≤ X.1) (hX : X.1 ≤ 4608) (K : lk Γ X Rel Q i r n) (h : stp Rel F 34 (fun j => X.2 (i + j)) τ n c s) : jh Γ mL_law ([], X) 100 (170 * (r + 1)) (3834 * (r + 1)) 2464 (LL i) [] (lh g f τ c s n) Q := by
  obtain ⟨q, c', s', h1, h2, hR⟩ := h
  cases q with
  | false => exact lc34 F i τ n c s hI (Nat.zero_le _) (Nat.zero_le _) h1 h2 (jh_less (by omega) (by omega) (K _ _ _ _ _ _ hI (by omega) hR))
  | true => exact lc34m F i τ n c s hI (by omega) hI.tB (by omega) (by omega) h1 h2 (jh_less (by omega) (by omega) (K _ _ _ _ _ _ hI.tB (by omega) hR))
set_option maxHeartbeats 1000000 in
theorem ls35 {g : Nat → jg_C} {f : Nat → Int64} {F i r n : Nat} {τ : cT} {c : cS} {s : rs_S} (hI : LI τ n) (hn : n + 200 ≤ 1000000) (hi : i + 9 ≤ X.1) (hX : X.1 ≤ 4608) (K : lk Γ X Rel Q i r n) (h : stp Rel F 35 (fun j => X.2 (i + j)) τ n c s) : jh Γ mL_law ([], X) 100 (170 * (r + 1)) (3834 * (r + 1)) 2475 (LL i) [] (lh g f τ c s n) Q := by
  obtain ⟨v, c', s', h1, h2, hR⟩ := h
  exact lc35 F i τ n c s hI hi hX h1 h2 rfl (jh_less (by omega) (by omega) (K _ _ _ _ _ _ hI (by omega) hR))
set_option maxHeartbeats 1000000 in
theorem ls36 {g : Nat → jg_C} {f : Nat → Int64} {F i r n : Nat} {τ : cT} {c : cS} {s : rs_S} (hI : LI τ n) (hn : n + 200 ≤ 1000000) (hi : i + 9 ≤ X.1) (hX : X.1 ≤ 4608) (K : lk Γ X Rel Q i r n) (h : stp Rel F 36 (fun j => X.2 (i + j)) τ n c s) : jh Γ mL_law ([], X) 100 (170 * (r + 1)) (3834 * (r + 1)) 2488 (LL i) [] (lh g f τ c s n) Q := by
  obtain ⟨v, s', h1, h2, hR⟩ := h
  exact lc36 F i τ n c s hI hi hX h1 h2 rfl (jh_less (by omega) (by omega) (K _ _ _ _ _ _ hI (by omega) hR))
theorem le_len {i L : Nat} (hi : i ≤ 100000) (hL : L ≤ 100000) : nI L - nI 9 < nI i ↔ L < i + 9 := by
  rw [Int32.lt_iff_toInt_lt, Int32.toInt_sub, nI_toInt (by omega), nI_toInt (by omega), nI_toInt (by omega), Int.bmod_eq_of_le (by omega) (by omega)]
  omega
set_option maxHeartbeats 4000000 in
theorem law_loop (F : Nat) (hX : X.1 ≤ 4608) (hQ : ∀ h, Q (.inl (some (.int 1))) h) (hstep : ∀ (k : Nat) (x : Nat → Int32) (τ : cT) (n : Nat) (c : cS) (s : rs_S), k < 37 → LI τ n → n + 200 ≤ 1000000 → Rel τ n c s → stp Rel F k x τ n c s) : ∀ (r i n : Nat) (g : Nat → jg_C) (f : Nat → Int64) (τ : cT) (c : cS) (s : rs_S), i + 9 * r ≤ X.1 → X.1 < i + 9 * (r + 1) → LI τ n → n + 200 * (r + 1) ≤ 1000000 → Rel τ n c s → jh Γ mL_law ([], X) 100 (170 * r) (3834 * r) 23 (LL i) [] (lh g f τ c s n) Q := by
  intro r
  induction r with
  | zero =>
    intro i n g f τ c s h1 h2 hI hn hR
    refine jh_iload dL_law_23 rfl ?_
    refine jh_aload_n dL_law_25 rfl ?_
    refine jh_slen dL_law_26 ?_
    refine jh_bipush (v := nI 9) dL_law_27 (by decide) ?_
    refine jh_isub dL_law_29 ?_
    refine jh_icmp_gt (x := nI i) (y := nI X.1 - nI 9) (tgt := 2519) dL_law_30 (by decide) (fun _ => ?_) (fun e => absurd ((le_len (by omega) (by omega)).mpr (by omega)) e)
    refine jh_iconst (v := 1) dL_law_2519 (by decide) ?_
    exact jh_zreturn dL_law_2520 rfl rfl (hQ _)
  | succ r ih =>
    intro i n g f τ c s h1 h2 hI hn hR
    have hi : i + 9 ≤ X.1 := by omega
    have K : lk Γ X Rel Q i r n := by
      intro g f τ n' c s hI' hn' hR'
      refine jh_iinc (x := nI i) (v := nI (i + 9)) (L' := LL (i + 9)) dL_law_2513 rfl (by rw [show Int32.ofInt 9 = nI 9 by decide, nI_add]) (by decide) rfl ?_
      refine jh_goto (tgt := 23) dL_law_2516 (by decide) ?_
      exact ih (i + 9) n' g f τ c s (by omega) (by omega) hI' (by omega) hR'
    have hs : ∀ k, k < 37 → stp Rel F k (fun j => X.2 (i + j)) τ n c s := fun k hk => hstep k _ τ n c s hk hI (by omega) hR
    have hn2 : n + 200 ≤ 1000000 := by omega
    refine jh_iload dL_law_23 rfl ?_
    refine jh_aload_n dL_law_25 rfl ?_
    refine jh_slen dL_law_26 ?_
    refine jh_bipush (v := nI 9) dL_law_27 (by decide) ?_
    refine jh_isub dL_law_29 ?_
    refine jh_icmp_gt (x := nI i) (y := nI X.1 - nI 9) (tgt := 2519) dL_law_30 (by decide) (fun e => absurd ((le_len (by omega) (by omega)).mp e) (by omega)) (fun _ => ?_)
    refine jh_aload_n dL_law_33 rfl ?_
    refine jh_iload dL_law_34 rfl ?_
    refine jh_sld (i := nI i) dL_law_36 (vp_iL (iL_t (show i < X.1 by omega) (show X.1 < 2 ^ 31 by omega))) ?_
    refine jh_bipush (v := nI 63) dL_law_37 (by decide) ?_
    refine jh_iand dL_law_39 ?_
    generalize (([], X) : jh_T).2.2 (nI i).toNatClampNeg &&& nI 63 = v
    by_cases c0 : v = nI 0
    · exact jh_tableIn (off := 164) (tgt := 204) dL_law_40 (by rw [c0]; decide) (by rw [c0]; decide) (by rw [c0]; rfl) (by decide) (ls0 hI hn2 hi hX K (hs 0 (by decide)))
    by_cases c1 : v = nI 1
    · exact jh_tableIn (off := 237) (tgt := 277) dL_law_40 (by rw [c1]; decide) (by rw [c1]; decide) (by rw [c1]; rfl) (by decide) (ls1 hI hn2 hi hX K (hs 1 (by decide)))
    by_cases c2 : v = nI 2
    · exact jh_tableIn (off := 262) (tgt := 302) dL_law_40 (by rw [c2]; decide) (by rw [c2]; decide) (by rw [c2]; rfl) (by decide) (ls2 hI hn2 hi hX K (hs 2 (by decide)))
    by_cases c3 : v = nI 3
    · exact jh_tableIn (off := 334) (tgt := 374) dL_law_40 (by rw [c3]; decide) (by rw [c3]; decide) (by rw [c3]; rfl) (by decide) (ls3 hI hn2 hi hX K (hs 3 (by decide)))
    by_cases c4 : v = nI 4
    · exact jh_tableIn (off := 382) (tgt := 422) dL_law_40 (by rw [c4]; decide) (by rw [c4]; decide) (by rw [c4]; rfl) (by decide) (ls4 hI hn2 hi hX K (hs 4 (by decide)))
    by_cases c5 : v = nI 5
    · exact jh_tableIn (off := 450) (tgt := 490) dL_law_40 (by rw [c5]; decide) (by rw [c5]; decide) (by rw [c5]; rfl) (by decide) (ls5 hI hn2 hi hX K (hs 5 (by decide)))
    by_cases c6 : v = nI 6
    · exact jh_tableIn (off := 506) (tgt := 546) dL_law_40 (by rw [c6]; decide) (by rw [c6]; decide) (by rw [c6]; rfl) (by decide) (ls6 hI hn2 hi hX K (hs 6 (by decide)))
    by_cases c7 : v = nI 7
    · exact jh_tableIn (off := 593) (tgt := 633) dL_law_40 (by rw [c7]; decide) (by rw [c7]; decide) (by rw [c7]; rfl) (by decide) (ls7 hI hn2 hi hX K (hs 7 (by decide)))
    by_cases c8 : v = nI 8
    · exact jh_tableIn (off := 661) (tgt := 701) dL_law_40 (by rw [c8]; decide) (by rw [c8]; decide) (by rw [c8]; rfl) (by decide) (ls8 hI hn2 hi hX K (hs 8 (by decide)))
    by_cases c9 : v = nI 9
    · exact jh_tableIn (off := 741) (tgt := 781) dL_law_40 (by rw [c9]; decide) (by rw [c9]; decide) (by rw [c9]; rfl) (by decide) (ls9 hI hn2 hi hX K (hs 9 (by decide)))
    by_cases c10 : v = nI 10
    · exact jh_tableIn (off := 809) (tgt := 849) dL_law_40 (by rw [c10]; decide) (by rw [c10]; decide) (by rw [c10]; rfl) (by decide) (ls10 hI hn2 hi hX K (hs 10 (by decide)))
    by_cases c11 : v = nI 11
    · exact jh_tableIn (off := 901) (tgt := 941) dL_law_40 (by rw [c11]; decide) (by rw [c11]; decide) (by rw [c11]; rfl) (by decide) (ls11 hI hn2 hi hX K (hs 11 (by decide)))
    by_cases c12 : v = nI 12
    · exact jh_tableIn (off := 949) (tgt := 989) dL_law_40 (by rw [c12]; decide) (by rw [c12]; decide) (by rw [c12]; rfl) (by decide) (ls12 hI hn2 hi hX K (hs 12 (by decide)))
    by_cases c13 : v = nI 13
    · exact jh_tableIn (off := 993) (tgt := 1033) dL_law_40 (by rw [c13]; decide) (by rw [c13]; decide) (by rw [c13]; rfl) (by decide) (ls13 hI hn2 hi hX K (hs 13 (by decide)))
    by_cases c14 : v = nI 14
    · exact jh_tableIn (off := 1155) (tgt := 1195) dL_law_40 (by rw [c14]; decide) (by rw [c14]; decide) (by rw [c14]; rfl) (by decide) (ls14 hI hn2 hi hX K (hs 14 (by decide)))
    by_cases c15 : v = nI 15
    · exact jh_tableIn (off := 1211) (tgt := 1251) dL_law_40 (by rw [c15]; decide) (by rw [c15]; decide) (by rw [c15]; rfl) (by decide) (ls15 hI hn2 hi hX K (hs 15 (by decide)))
    by_cases c16 : v = nI 16
    · exact jh_tableIn (off := 1279) (tgt := 1319) dL_law_40 (by rw [c16]; decide) (by rw [c16]; decide) (by rw [c16]; rfl) (by decide) (ls16 hI hn2 hi hX K (hs 16 (by decide)))
    by_cases c17 : v = nI 17
    · exact jh_tableIn (off := 1347) (tgt := 1387) dL_law_40 (by rw [c17]; decide) (by rw [c17]; decide) (by rw [c17]; rfl) (by decide) (ls17 hI hn2 hi hX K (hs 17 (by decide)))
    by_cases c18 : v = nI 18
    · exact jh_tableIn (off := 1443) (tgt := 1483) dL_law_40 (by rw [c18]; decide) (by rw [c18]; decide) (by rw [c18]; rfl) (by decide) (ls18 hI hn2 hi hX K (hs 18 (by decide)))
    by_cases c19 : v = nI 19
    · exact jh_tableIn (off := 1499) (tgt := 1539) dL_law_40 (by rw [c19]; decide) (by rw [c19]; decide) (by rw [c19]; rfl) (by decide) (ls19 hI hn2 hi hX K (hs 19 (by decide)))
    by_cases c20 : v = nI 20
    · exact jh_tableIn (off := 1555) (tgt := 1595) dL_law_40 (by rw [c20]; decide) (by rw [c20]; decide) (by rw [c20]; rfl) (by decide) (ls20 hI hn2 hi hX K (hs 20 (by decide)))
    by_cases c21 : v = nI 21
    · exact jh_tableIn (off := 1568) (tgt := 1608) dL_law_40 (by rw [c21]; decide) (by rw [c21]; decide) (by rw [c21]; rfl) (by decide) (ls21 hI hn2 hi hX K (hs 21 (by decide)))
    by_cases c22 : v = nI 22
    · exact jh_tableIn (off := 1652) (tgt := 1692) dL_law_40 (by rw [c22]; decide) (by rw [c22]; decide) (by rw [c22]; rfl) (by decide) (ls22 hI hn2 hi hX K (hs 22 (by decide)))
    by_cases c23 : v = nI 23
    · exact jh_tableIn (off := 1703) (tgt := 1743) dL_law_40 (by rw [c23]; decide) (by rw [c23]; decide) (by rw [c23]; rfl) (by decide) (ls23 hI hn2 hi hX K (hs 23 (by decide)))
    by_cases c24 : v = nI 24
    · exact jh_tableIn (off := 1771) (tgt := 1811) dL_law_40 (by rw [c24]; decide) (by rw [c24]; decide) (by rw [c24]; rfl) (by decide) (ls24 hI hn2 hi hX K (hs 24 (by decide)))
    by_cases c25 : v = nI 25
    · exact jh_tableIn (off := 1827) (tgt := 1867) dL_law_40 (by rw [c25]; decide) (by rw [c25]; decide) (by rw [c25]; rfl) (by decide) (ls25 hI hn2 hi hX K (hs 25 (by decide)))
    by_cases c26 : v = nI 26
    · exact jh_tableIn (off := 1895) (tgt := 1935) dL_law_40 (by rw [c26]; decide) (by rw [c26]; decide) (by rw [c26]; rfl) (by decide) (ls26 hI hn2 hi hX K (hs 26 (by decide)))
    by_cases c27 : v = nI 27
    · exact jh_tableIn (off := 1951) (tgt := 1991) dL_law_40 (by rw [c27]; decide) (by rw [c27]; decide) (by rw [c27]; rfl) (by decide) (ls27 hI hn2 hi hX K (hs 27 (by decide)))
    by_cases c28 : v = nI 28
    · exact jh_tableIn (off := 2043) (tgt := 2083) dL_law_40 (by rw [c28]; decide) (by rw [c28]; decide) (by rw [c28]; rfl) (by decide) (ls28 hI hn2 hi hX K (hs 28 (by decide)))
    by_cases c29 : v = nI 29
    · exact jh_tableIn (off := 2111) (tgt := 2151) dL_law_40 (by rw [c29]; decide) (by rw [c29]; decide) (by rw [c29]; rfl) (by decide) (ls29 hI hn2 hi hX K (hs 29 (by decide)))
    by_cases c30 : v = nI 30
    · exact jh_tableIn (off := 2124) (tgt := 2164) dL_law_40 (by rw [c30]; decide) (by rw [c30]; decide) (by rw [c30]; rfl) (by decide) (ls30 hI hn2 hi hX K (hs 30 (by decide)))
    by_cases c31 : v = nI 31
    · exact jh_tableIn (off := 2216) (tgt := 2256) dL_law_40 (by rw [c31]; decide) (by rw [c31]; decide) (by rw [c31]; rfl) (by decide) (ls31 hI hn2 hi hX K (hs 31 (by decide)))
    by_cases c32 : v = nI 32
    · exact jh_tableIn (off := 2284) (tgt := 2324) dL_law_40 (by rw [c32]; decide) (by rw [c32]; decide) (by rw [c32]; rfl) (by decide) (ls32 hI hn2 hi hX K (hs 32 (by decide)))
    by_cases c33 : v = nI 33
    · exact jh_tableIn (off := 2340) (tgt := 2380) dL_law_40 (by rw [c33]; decide) (by rw [c33]; decide) (by rw [c33]; rfl) (by decide) (ls33 hI hn2 hi hX K (hs 33 (by decide)))
    by_cases c34 : v = nI 34
    · exact jh_tableIn (off := 2424) (tgt := 2464) dL_law_40 (by rw [c34]; decide) (by rw [c34]; decide) (by rw [c34]; rfl) (by decide) (ls34 hI hn2 hi hX K (hs 34 (by decide)))
    by_cases c35 : v = nI 35
    · exact jh_tableIn (off := 2435) (tgt := 2475) dL_law_40 (by rw [c35]; decide) (by rw [c35]; decide) (by rw [c35]; rfl) (by decide) (ls35 hI hn2 hi hX K (hs 35 (by decide)))
    by_cases c36 : v = nI 36
    · exact jh_tableIn (off := 2448) (tgt := 2488) dL_law_40 (by rw [c36]; decide) (by rw [c36]; decide) (by rw [c36]; rfl) (by decide) (ls36 hI hn2 hi hX K (hs 36 (by decide)))
    refine jh_tableOut (tgt := 2513) dL_law_40 (jt_outN 0 36 v (fun k h1 h2 => by rcases (show k = 0 ∨ k = 1 ∨ k = 2 ∨ k = 3 ∨ k = 4 ∨ k = 5 ∨ k = 6 ∨ k = 7 ∨ k = 8 ∨ k = 9 ∨ k = 10 ∨ k = 11 ∨ k = 12 ∨ k = 13 ∨ k = 14 ∨ k = 15 ∨ k = 16 ∨ k = 17 ∨ k = 18 ∨ k = 19 ∨ k = 20 ∨ k = 21 ∨ k = 22 ∨ k = 23 ∨ k = 24 ∨ k = 25 ∨ k = 26 ∨ k = 27 ∨ k = 28 ∨ k = 29 ∨ k = 30 ∨ k = 31 ∨ k = 32 ∨ k = 33 ∨ k = 34 ∨ k = 35 ∨ k = 36 by omega) with rfl | rfl | rfl | rfl | rfl | rfl | rfl | rfl | rfl | rfl | rfl | rfl | rfl | rfl | rfl | rfl | rfl | rfl | rfl | rfl | rfl | rfl | rfl | rfl | rfl | rfl | rfl | rfl | rfl | rfl | rfl | rfl | rfl | rfl | rfl | rfl | rfl <;> assumption)) (by decide) ?_
    exact jh_less (by omega) (by omega) (K g f τ n c s hI (by omega) hR)
end LOOP
set_option maxHeartbeats 4000000 in
theorem law_all {Γ : jg_G} {X : Nat × (Nat → Int32)} {Rel : cT → Nat → cS → rs_S → Prop} (F : Nat) (g : Nat → jg_C) (hX : X.1 ≤ 4608) (hstep : ∀ (k : Nat) (x : Nat → Int32) (τ : cT) (n : Nat) (c : cS) (s : rs_S), k < 37 → LI τ n → n + 200 ≤ 1000000 → Rel τ n c s → stp Rel F k x τ n c s) {s0 : rs_S} (h0 : o_X12_i92 F iM = some s0) (hR : Rel (tB (tS 0) 10) 192 (iB (iS 0) 10) s0) : jh Γ mL_law ([], X) 100 (192 + 170 * 512) (53331 + 3834 * 512) 0 [some (.ref 1000500), none, none, none, none, none, none] [] (g, 0) (fun r _ => r = .inl (some (.int 1))) := by
  refine jh_new (ci := 11) (N := 5) (fs := [.null, .int 0, .null, .null, .null]) jc_X11 kc_L_8 kn_X11 wi_X11 (mk_df11 Γ) dL_law_0 (by show 0 < 1000000; omega) (by omega) (by omega) ?_
  refine jh_hs (S' := [.ref 0]) (h' := (apx g 0 [.inl (11, [.null, .int 0, .null, .null, .null])], 0 + 1)) rfl (congrArg (fun z => (z, 1)) mk_one) ?_
  refine jh_dup dL_law_3 rfl ?_
  refine jh_callI (q := 0) (As := []) (a' := 179) (b' := 5908) ki_L_121 dL_law_4 rfl (by decide) (Nat.le_of_ble_eq_true rfl) rfl (by decide) (Nat.le_of_ble_eq_true rfl) (Nat.le_of_ble_eq_true rfl) (Nat.le_of_ble_eq_true rfl) (t_X11_init g 0 (by omega) (jq (.inl none) _) ⟨rfl, rfl⟩) (fun v9 h9 e9 => ?_) (fun E9 h9 e9 => nomatch e9.1)
  obtain ⟨e1, e2⟩ := e9
  cases e1
  subst e2
  refine jh_hs (S' := [.ref 0]) (h' := (ct_h g (tB (tS 0) 10) (iB (iS 0) 10), 180)) rfl (congrArg (fun z => (z, 180)) (sh_new (f := g) (q := 0))) ?_
  refine jh_astore_n (L' := [some (.ref 1000500), some (.ref 0), none, none, none, none, none]) dL_law_7 (by decide) rfl ?_
  refine jh_new (ci := 12) (N := 23) (fs := [.int 0, .null, .null, .int 0, .null, .null, .int 0, .null, .int 0, .int 0, .int 0, .int 0, .int 0, .int 0, .null, .int 0, .null, .null, .int 0, .int 0, .null, .null, .int 0]) jc_X12 kc_L_122 kn_X12 wi_X12 (mk_df12 Γ) dL_law_8 (by show 180 < 1000000; omega) (by omega) (by omega) ?_
  refine jh_hs (S' := [.ref 180]) (h' := (apx (ct_h g (tB (tS 0) 10) (iB (iS 0) 10)) 180 [.inl (12, [.int 0, .null, .null, .int 0, .null, .null, .int 0, .null, .int 0, .int 0, .int 0, .int 0, .int 0, .int 0, .null, .int 0, .null, .null, .int 0, .int 0, .null, .null, .int 0])], 180 + 1)) rfl (congrArg (fun z => (z, 181)) mk_one) ?_
  refine jh_dup dL_law_11 rfl ?_
  refine jh_callI (q := 180) (As := []) (a' := 10) (b' := 47394) ki_L_124 dL_law_12 rfl (by decide) (Nat.le_of_ble_eq_true rfl) rfl (by decide) (Nat.le_of_ble_eq_true rfl) (Nat.le_of_ble_eq_true rfl) (Nat.le_of_ble_eq_true rfl) (t_X12_init F (ct_h g (tB (tS 0) 10) (iB (iS 0) 10)) 180 (by omega) h0 (jq (.inl none) _) ⟨rfl, rfl⟩) (fun v9 h9 e9 => ?_) (fun E9 h9 e9 => nomatch e9.1)
  obtain ⟨e1, e2⟩ := e9
  cases e1
  subst e2
  refine jh_hs (S' := [.ref 180]) (h' := (rs_h (ct_h g (tB (tS 0) 10) (iB (iS 0) 10)) 180 s0, 191)) rfl rfl ?_
  refine jh_astore_n (L' := [some (.ref 1000500), some (.ref 0), some (.ref 180), none, none, none, none]) dL_law_15 (by decide) rfl ?_
  refine jh_iconst (v := nI 1) dL_law_16 (by decide) ?_
  refine jh_newl (N := 1) ka_long dL_law_17 (by decide) (by decide) (by decide) (by show 191 < 1000000; omega) (by omega) (by omega) ?_
  have hb : ∀ j, 180 ≤ j → tB (tS 0) 10 j = .inr (8, 0) := fun j hj => sh_base (q := 0) (by omega)
  refine jh_hs (S' := [.ref 191]) (h' := lh g (fun _ => 0) (tB (tS 0) 10) (iB (iS 0) 10) s0 192) rfl (congrArg (fun z => (z, 192)) (by
    show va_up (rs_h (ct_h g (tB (tS 0) 10) (iB (iS 0) 10)) 180 s0) 191 _ = _
    rw [rs_va (by decide), ct_g (hb 191 (by decide)), lh_ref (fun j h1 _ => hb j h1)])) ?_
  refine jh_astore_n (L' := [some (.ref 1000500), some (.ref 0), some (.ref 180), some (.ref 191), none, none, none]) dL_law_19 (by decide) rfl ?_
  refine jh_iconst (v := nI 0) dL_law_20 (by decide) ?_
  refine jh_istore (L' := LL 0) dL_law_21 (by decide) rfl ?_
  have hI : LI (tB (tS 0) 10) 192 := ⟨(show ext (tB (tS 0) 10) 180 (tB (tS 0) 10) 192 from ⟨by decide, fun _ _ => rfl⟩).Sh (sh_Sh (q := 0)), Nat.le_refl _, fun j hj => hb j (by omega), fun j h1 _ => hb j h1⟩
  exact jh_less (a := 170 * (X.1 / 9)) (b := 3834 * (X.1 / 9)) (by omega) (by omega) (law_loop F hX (fun _ => rfl) hstep (X.1 / 9) 0 192 g (fun _ => 0) _ _ s0 (by omega) (by omega) hI (by omega) hR)
