/-! THE END: every kind of call keeps the relation; the claim -/
section END
theorem pure_k {F : Nat} (hF : 30000 ≤ F) (k : Nat) (x : Nat → Int32) (τ : cT) (n : Nat) (c : cS) (s : rs_S) (hk : k < 37) (hI : LI τ n) (h : Rel τ n c s) : stp Rel F k x τ n c s := by
  match k, hk with
  | 0, _ => exact st0 hF hI h
  | 1, _ => exact st1 hI h
  | 2, _ => exact st2 hF hI h
  | 3, _ => exact st3 hI h
  | 4, _ => exact st4 hI h
  | 5, _ => exact st5 hI h
  | 6, _ => exact st6 hI h
  | 7, _ => exact st7 hF h
  | 8, _ => exact st8 hF hI h
  | 9, _ => exact st9 hF h
  | 10, _ => exact st10 hI h
  | 11, _ => exact st11 hI h
  | 12, _ => exact st12 hI h
  | 13, _ => exact st13 hF hI h
  | 14, _ => exact st14 hF hI h
  | 15, _ => exact st15 hF hI h
  | 16, _ => exact st16 h
  | 17, _ => exact st17 hF hI h
  | 18, _ => exact st18 hF hI h
  | 19, _ => exact st19 hF hI h
  | 20, _ => exact st20 h
  | 21, _ => exact st21 hF hI h
  | 22, _ => exact st22 hF hI h
  | 23, _ => exact st23 hF hI h
  | 24, _ => exact st24 hF hI h
  | 25, _ => exact st25 hF hI h
  | 26, _ => exact st26 hI h
  | 27, _ => exact st27 hF hI h
  | 28, _ => exact st28 h
  | 29, _ => exact st29 hF hI h
  | 30, _ => exact st30 hI h
  | 31, _ => exact st31 hF h
  | 32, _ => exact st32 hF h
  | 33, _ => exact st33 hF hI h
  | 34, _ => exact st34 hF hI h
  | 35, _ => exact st35 hF hI h
  | 36, _ => exact st36 hF hI h
  | k + 37, hk => exact absurd hk (by omega)
theorem pure_ok : PureOK := ⟨Rel, 30000, s00, o_i92 (by decide), Rel0, fun k x τ n c s hk hI _ h => pure_k (Nat.le_refl _) k x τ n c s hk hI h⟩
theorem i_vc : Claimed_1_1 ∧ Claimed_1_2 := claim_of pure_ok
end END
