/-! METHODS OF THE JDK (by program wip/whole/jdk.py) -/
theorem dJ3_checkIndex_8e157_0 : decode cJ3_checkIndex_8e157 0 = .ok (.iload_n 0, 1) := by decide +kernel
theorem dJ3_checkIndex_8e157_1 : decode cJ3_checkIndex_8e157 1 = .ok (.ifCond .lt 8, 3) := by decide +kernel
theorem dJ3_checkIndex_8e157_4 : decode cJ3_checkIndex_8e157 4 = .ok (.iload_n 0, 1) := by decide +kernel
theorem dJ3_checkIndex_8e157_5 : decode cJ3_checkIndex_8e157 5 = .ok (.iload_n 1, 1) := by decide +kernel
theorem dJ3_checkIndex_8e157_6 : decode cJ3_checkIndex_8e157 6 = .ok (.if_icmp .lt 10, 3) := by decide +kernel
theorem dJ3_checkIndex_8e157_9 : decode cJ3_checkIndex_8e157 9 = .ok (.aload_n 2, 1) := by decide +kernel
theorem dJ3_checkIndex_8e157_10 : decode cJ3_checkIndex_8e157 10 = .ok (.iload_n 0, 1) := by decide +kernel
theorem dJ3_checkIndex_8e157_11 : decode cJ3_checkIndex_8e157 11 = .ok (.iload_n 1, 1) := by decide +kernel
theorem dJ3_checkIndex_8e157_12 : decode cJ3_checkIndex_8e157 12 = .ok (.invokestatic 95, 3) := by decide +kernel
theorem dJ3_checkIndex_8e157_15 : decode cJ3_checkIndex_8e157 15 = .ok (.athrow, 1) := by decide +kernel
theorem dJ3_checkIndex_8e157_16 : decode cJ3_checkIndex_8e157 16 = .ok (.iload_n 0, 1) := by decide +kernel
theorem dJ3_checkIndex_8e157_17 : decode cJ3_checkIndex_8e157 17 = .ok (.ireturn, 1) := by decide +kernel
theorem dJ0_checkIndex_df160_0 : decode cJ0_checkIndex_df160 0 = .ok (.iload_n 0, 1) := by decide +kernel
theorem dJ0_checkIndex_df160_1 : decode cJ0_checkIndex_df160 1 = .ok (.iload_n 1, 1) := by decide +kernel
theorem dJ0_checkIndex_df160_2 : decode cJ0_checkIndex_df160 2 = .ok (.getstatic 1053, 3) := by decide +kernel
theorem dJ0_checkIndex_df160_5 : decode cJ0_checkIndex_df160 5 = .ok (.invokestatic 1059, 3) := by decide +kernel
theorem dJ0_checkIndex_df160_8 : decode cJ0_checkIndex_df160 8 = .ok (.pop, 1) := by decide +kernel
theorem dJ0_checkIndex_df160_9 : decode cJ0_checkIndex_df160 9 = .ok (.return_, 1) := by decide +kernel
theorem dJ0_coder_7d493_0 : decode cJ0_coder_7d493 0 = .ok (.getstatic 38, 3) := by decide +kernel
theorem dJ0_coder_7d493_3 : decode cJ0_coder_7d493 3 = .ok (.ifCond .eq 10, 3) := by decide +kernel
theorem dJ0_coder_7d493_6 : decode cJ0_coder_7d493 6 = .ok (.aload_n 0, 1) := by decide +kernel
theorem dJ0_coder_7d493_7 : decode cJ0_coder_7d493 7 = .ok (.getfield 15, 3) := by decide +kernel
theorem dJ0_coder_7d493_10 : decode cJ0_coder_7d493 10 = .ok (.goto 4, 3) := by decide +kernel
theorem dJ0_coder_7d493_13 : decode cJ0_coder_7d493 13 = .ok (.iconst 1, 1) := by decide +kernel
theorem dJ0_coder_7d493_14 : decode cJ0_coder_7d493 14 = .ok (.ireturn, 1) := by decide +kernel
theorem dJ0_isLatin1_aae02_0 : decode cJ0_isLatin1_aae02 0 = .ok (.getstatic 38, 3) := by decide +kernel
theorem dJ0_isLatin1_aae02_3 : decode cJ0_isLatin1_aae02 3 = .ok (.ifCond .eq 14, 3) := by decide +kernel
theorem dJ0_isLatin1_aae02_6 : decode cJ0_isLatin1_aae02 6 = .ok (.aload_n 0, 1) := by decide +kernel
theorem dJ0_isLatin1_aae02_7 : decode cJ0_isLatin1_aae02 7 = .ok (.getfield 15, 3) := by decide +kernel
theorem dJ0_isLatin1_aae02_10 : decode cJ0_isLatin1_aae02 10 = .ok (.ifCond .ne 7, 3) := by decide +kernel
theorem dJ0_isLatin1_aae02_13 : decode cJ0_isLatin1_aae02 13 = .ok (.iconst 1, 1) := by decide +kernel
theorem dJ0_isLatin1_aae02_14 : decode cJ0_isLatin1_aae02 14 = .ok (.goto 4, 3) := by decide +kernel
theorem dJ0_isLatin1_aae02_17 : decode cJ0_isLatin1_aae02 17 = .ok (.iconst 0, 1) := by decide +kernel
theorem dJ0_isLatin1_aae02_18 : decode cJ0_isLatin1_aae02 18 = .ok (.ireturn, 1) := by decide +kernel
theorem dJ0_length_8abf5_0 : decode cJ0_length_8abf5 0 = .ok (.aload_n 0, 1) := by decide +kernel
theorem dJ0_length_8abf5_1 : decode cJ0_length_8abf5 1 = .ok (.getfield 9, 3) := by decide +kernel
theorem dJ0_length_8abf5_4 : decode cJ0_length_8abf5 4 = .ok (.arraylength, 1) := by decide +kernel
theorem dJ0_length_8abf5_5 : decode cJ0_length_8abf5 5 = .ok (.aload_n 0, 1) := by decide +kernel
theorem dJ0_length_8abf5_6 : decode cJ0_length_8abf5 6 = .ok (.invokevirtual 335, 3) := by decide +kernel
theorem dJ0_length_8abf5_9 : decode cJ0_length_8abf5 9 = .ok (.ishr, 1) := by decide +kernel
theorem dJ0_length_8abf5_10 : decode cJ0_length_8abf5 10 = .ok (.ireturn, 1) := by decide +kernel
theorem dJ1_charAt_3b067_0 : decode cJ1_charAt_3b067 0 = .ok (.iload_n 1, 1) := by decide +kernel
theorem dJ1_charAt_3b067_1 : decode cJ1_charAt_3b067 1 = .ok (.aload_n 0, 1) := by decide +kernel
theorem dJ1_charAt_3b067_2 : decode cJ1_charAt_3b067 2 = .ok (.arraylength, 1) := by decide +kernel
theorem dJ1_charAt_3b067_3 : decode cJ1_charAt_3b067 3 = .ok (.invokestatic 9, 3) := by decide +kernel
theorem dJ1_charAt_3b067_6 : decode cJ1_charAt_3b067 6 = .ok (.aload_n 0, 1) := by decide +kernel
theorem dJ1_charAt_3b067_7 : decode cJ1_charAt_3b067 7 = .ok (.iload_n 1, 1) := by decide +kernel
theorem dJ1_charAt_3b067_8 : decode cJ1_charAt_3b067 8 = .ok (.baload, 1) := by decide +kernel
theorem dJ1_charAt_3b067_9 : decode cJ1_charAt_3b067 9 = .ok (.sipush 255, 3) := by decide +kernel
theorem dJ1_charAt_3b067_12 : decode cJ1_charAt_3b067 12 = .ok (.iand, 1) := by decide +kernel
theorem dJ1_charAt_3b067_13 : decode cJ1_charAt_3b067 13 = .ok (.i2c, 1) := by decide +kernel
theorem dJ1_charAt_3b067_14 : decode cJ1_charAt_3b067 14 = .ok (.ireturn, 1) := by decide +kernel
theorem dJ0_charAt_5068e_0 : decode cJ0_charAt_5068e 0 = .ok (.aload_n 0, 1) := by decide +kernel
theorem dJ0_charAt_5068e_1 : decode cJ0_charAt_5068e 1 = .ok (.invokevirtual 492, 3) := by decide +kernel
theorem dJ0_charAt_5068e_4 : decode cJ0_charAt_5068e 4 = .ok (.ifCond .eq 12, 3) := by decide +kernel
theorem dJ0_charAt_5068e_7 : decode cJ0_charAt_5068e 7 = .ok (.aload_n 0, 1) := by decide +kernel
theorem dJ0_charAt_5068e_8 : decode cJ0_charAt_5068e 8 = .ok (.getfield 9, 3) := by decide +kernel
theorem dJ0_charAt_5068e_11 : decode cJ0_charAt_5068e 11 = .ok (.iload_n 1, 1) := by decide +kernel
theorem dJ0_charAt_5068e_12 : decode cJ0_charAt_5068e 12 = .ok (.invokestatic 495, 3) := by decide +kernel
theorem dJ0_charAt_5068e_15 : decode cJ0_charAt_5068e 15 = .ok (.ireturn, 1) := by decide +kernel
theorem dJ0_charAt_5068e_16 : decode cJ0_charAt_5068e 16 = .ok (.aload_n 0, 1) := by decide +kernel
theorem dJ0_charAt_5068e_17 : decode cJ0_charAt_5068e 17 = .ok (.getfield 9, 3) := by decide +kernel
theorem dJ0_charAt_5068e_20 : decode cJ0_charAt_5068e 20 = .ok (.iload_n 1, 1) := by decide +kernel
theorem dJ0_charAt_5068e_21 : decode cJ0_charAt_5068e 21 = .ok (.invokestatic 498, 3) := by decide +kernel
theorem dJ0_charAt_5068e_24 : decode cJ0_charAt_5068e 24 = .ok (.ireturn, 1) := by decide +kernel
theorem t_J3_checkIndex {Γ : jg_G} {h : jg_H} (k n : Int32) (v : Value) (hk : ¬ k < 0) (hkn : k < n) : jc Γ mJ3_checkIndex_8e157 0 0 0 [some (.int k), some (.int n), some v] h (.inl (some (.int k))) h := by
  refine jc_of ?_
  refine jg_iload_n dJ3_checkIndex_8e157_0 rfl ?_
  refine jg_if_lt (tgt := 9) dJ3_checkIndex_8e157_1 (by decide) (fun q => absurd q hk) (fun _ => ?_)
  refine jg_iload_n dJ3_checkIndex_8e157_4 rfl ?_
  refine jg_iload_n dJ3_checkIndex_8e157_5 rfl ?_
  refine jg_icmp_lt (tgt := 16) dJ3_checkIndex_8e157_6 (by decide) (fun _ => ?_) (fun q => absurd hkn q)
  refine jg_iload_n dJ3_checkIndex_8e157_16 rfl ?_
  exact jg_ireturn dJ3_checkIndex_8e157_17 rfl ⟨rfl, rfl⟩
theorem t_J0_checkIndex {Γ : jg_G} {h : jg_H} (k n : Int32) (hk : ¬ k < 0) (hkn : k < n) : jc Γ mJ0_checkIndex_df160 1 0 0 [some (.int k), some (.int n)] h (.inl none) h := by
  refine jc_of ?_
  refine jg_iload_n dJ0_checkIndex_df160_0 rfl ?_
  refine jg_iload_n dJ0_checkIndex_df160_1 rfl ?_
  refine jg_ssio rfl dJ0_checkIndex_df160_2 ?_ ?_
  · refine jcs0 (As := [.int k, .int n, .null]) ks_J0_1059 dJ0_checkIndex_df160_5 rfl (by decide) (Nat.le_of_ble_eq_true rfl) rfl (by decide) (Nat.le_of_ble_eq_true rfl) (t_J3_checkIndex k n .null hk hkn) ?_
    refine jg_pop dJ0_checkIndex_df160_8 rfl ?_
    exact jg_return dJ0_checkIndex_df160_9 rfl ⟨rfl, rfl⟩
  · refine jcs0 (As := [.int k, .int n, .ref (1000000 + 300)]) ks_J0_1059 dJ0_checkIndex_df160_5 rfl (by decide) (Nat.le_of_ble_eq_true rfl) rfl (by decide) (Nat.le_of_ble_eq_true rfl) (t_J3_checkIndex k n _ hk hkn) ?_
    refine jg_pop dJ0_checkIndex_df160_8 rfl ?_
    exact jg_return dJ0_checkIndex_df160_9 rfl ⟨rfl, rfl⟩
theorem t_J0_coder {Γ : jg_G} {h : jg_H} {i : Nat} (hi : i < 41) : jc Γ mJ0_coder_7d493 0 0 0 [some (.ref (1000000 + i))] h (.inl (some (.int 0))) h := by
  refine jc_of ?_
  refine jg_scmp rfl dJ0_coder_7d493_0 ?_
  refine jg_if_eq (tgt := 13) dJ0_coder_7d493_3 (by decide) (fun q => absurd q (by decide)) (fun _ => ?_)
  refine jg_aload_n dJ0_coder_7d493_6 rfl ?_
  refine jg_scod hi rfl dJ0_coder_7d493_7 ?_
  refine jg_goto (tgt := 14) dJ0_coder_7d493_10 (by decide) ?_
  exact jg_zreturn dJ0_coder_7d493_14 rfl rfl ⟨rfl, rfl⟩
theorem t_J0_isLatin1 {Γ : jg_G} {h : jg_H} {i : Nat} (hi : i < 41) : jc Γ mJ0_isLatin1_aae02 0 0 0 [some (.ref (1000000 + i))] h (.inl (some (.int 1))) h := by
  refine jc_of ?_
  refine jg_scmp rfl dJ0_isLatin1_aae02_0 ?_
  refine jg_if_eq (tgt := 17) dJ0_isLatin1_aae02_3 (by decide) (fun q => absurd q (by decide)) (fun _ => ?_)
  refine jg_aload_n dJ0_isLatin1_aae02_6 rfl ?_
  refine jg_scod hi rfl dJ0_isLatin1_aae02_7 ?_
  refine jg_if_ne (tgt := 17) dJ0_isLatin1_aae02_10 (by decide) (fun q => absurd rfl q) (fun _ => ?_)
  refine jg_iconst (v := 1) dJ0_isLatin1_aae02_13 (by decide) ?_
  refine jg_goto (tgt := 18) dJ0_isLatin1_aae02_14 (by decide) ?_
  exact jg_zreturn dJ0_isLatin1_aae02_18 rfl rfl ⟨rfl, rfl⟩
theorem shr0 (x : Int32) : x >>> ((0 : Int32) &&& 31) = x := by
  apply Int32.toBitVec_inj.mp
  show (x.toBitVec.sshiftRight' _) = _
  simp
theorem t_J0_length {Γ : jg_G} {h : jg_H} {i : Nat} (hi : i < 41) : jc Γ mJ0_length_8abf5 1 0 0 [some (.ref (1000000 + i))] h (.inl (some (.int (nI (sl i))))) h := by
  refine jc_of ?_
  refine jg_aload_n dJ0_length_8abf5_0 rfl ?_
  refine jg_sval hi rfl dJ0_length_8abf5_1 ?_
  refine jg_slen hi dJ0_length_8abf5_4 ?_
  refine jg_aload_n dJ0_length_8abf5_5 rfl ?_
  refine jc_T (As := []) hi rfl kv_J0_335 dJ0_length_8abf5_6 rfl (by decide) (Nat.le_of_ble_eq_true rfl) rfl (by decide) (Nat.le_of_ble_eq_true rfl) (t_J0_coder hi) ?_
  refine jg_ishr dJ0_length_8abf5_9 ?_
  exact jg_ireturn dJ0_length_8abf5_10 rfl ⟨by rw [shr0], rfl⟩
theorem sch_ok : ∀ l ∈ jg_byt, ∀ x ∈ l, (((x &&& 255).toUInt32 % 65536).toInt32) = x ∧ narrow .char (.int x) = .int x := by decide +kernel
theorem sch_in {i k : Nat} (hi : i < 41) (hk : k < sl i) : ∃ l ∈ jg_byt, sch i k ∈ l := by
  have h41 : jg_byt.length = 41 := rfl
  refine ⟨jg_byt.getD i [], ?_, ?_⟩
  · rw [List.getD_eq_getElem?_getD, List.getElem?_eq_getElem (by omega)]; exact List.getElem_mem _
  · unfold sch sl at *
    generalize jg_byt.getD i [] = l at hk ⊢
    rw [List.getD_eq_getElem?_getD, List.getElem?_eq_getElem hk]; exact List.getElem_mem _
theorem t_J1_charAt {Γ : jg_G} {h : jg_H} {i : Nat} {k : Int32} (hi : i < 41) (hk : iL k (sl i)) : jc Γ mJ1_charAt_3b067 2 0 0 [some (.ref (1000000 + (100 + i))), some (.int k)] h (.inl (some (.int (sch i k.toNatClampNeg)))) h := by
  obtain ⟨l, hl1, hl2⟩ := sch_in hi hk.2
  have hok := sch_ok l hl1 _ hl2
  have hlen : sl i < 2 ^ 31 := by
    have : ∀ i, i < 41 → sl i < 200 := by decide +kernel
    have := this i hi
    omega
  have hlt : k < nI (sl i) := by
    obtain ⟨j, rfl, hj, -⟩ := iL_nI hk
    exact nI_lt hj hlen
  refine jc_of ?_
  refine jg_iload_n dJ1_charAt_3b067_0 rfl ?_
  refine jg_aload_n dJ1_charAt_3b067_1 rfl ?_
  refine jg_slen hi dJ1_charAt_3b067_2 ?_
  refine jcs0 (As := [.int k, .int (nI (sl i))]) ks_J1_9 dJ1_charAt_3b067_3 rfl (by decide) (Nat.le_of_ble_eq_true rfl) rfl (by decide) (Nat.le_of_ble_eq_true rfl) (t_J0_checkIndex k _ hk.1 hlt) ?_
  refine jg_aload_n dJ1_charAt_3b067_6 rfl ?_
  refine jg_iload_n dJ1_charAt_3b067_7 rfl ?_
  refine jg_sald hi hk dJ1_charAt_3b067_8 ?_
  refine jg_sipush (v := 255) dJ1_charAt_3b067_9 (by decide) ?_
  refine jg_iand dJ1_charAt_3b067_12 ?_
  refine jg_i2c dJ1_charAt_3b067_13 ?_
  rw [hok.1]
  exact jg_zreturn dJ1_charAt_3b067_14 rfl hok.2 ⟨rfl, rfl⟩
theorem t_J0_charAt {Γ : jg_G} {h : jg_H} {i : Nat} {k : Int32} (hi : i < 41) (hk : iL k (sl i)) : jc Γ mJ0_charAt_5068e 3 0 0 [some (.ref (1000000 + i)), some (.int k)] h (.inl (some (.int (sch i k.toNatClampNeg)))) h := by
  obtain ⟨l, hl1, hl2⟩ := sch_in hi hk.2
  have hok := sch_ok l hl1 _ hl2
  refine jc_of ?_
  refine jg_aload_n dJ0_charAt_5068e_0 rfl ?_
  refine jc_T (As := []) hi rfl kv_J0_492 dJ0_charAt_5068e_1 rfl (by decide) (Nat.le_of_ble_eq_true rfl) rfl (by decide) (Nat.le_of_ble_eq_true rfl) (t_J0_isLatin1 hi) ?_
  refine jg_if_eq (tgt := 16) dJ0_charAt_5068e_4 (by decide) (fun q => absurd q (by decide)) (fun _ => ?_)
  refine jg_aload_n dJ0_charAt_5068e_7 rfl ?_
  refine jg_sval hi rfl dJ0_charAt_5068e_8 ?_
  refine jg_iload_n dJ0_charAt_5068e_11 rfl ?_
  refine jcs0 (As := [.ref (1000000 + (100 + i)), .int k]) ks_J0_495 dJ0_charAt_5068e_12 rfl (by decide) (Nat.le_of_ble_eq_true rfl) rfl (by decide) (Nat.le_of_ble_eq_true rfl) (t_J1_charAt hi hk) ?_
  exact jg_zreturn dJ0_charAt_5068e_15 rfl hok.2 ⟨rfl, rfl⟩
theorem dJ6_bitCount_0f7a4_0 : decode cJ6_bitCount_0f7a4 0 = .ok (.iload_n 0, 1) := by decide +kernel
theorem dJ6_bitCount_0f7a4_1 : decode cJ6_bitCount_0f7a4 1 = .ok (.iload_n 0, 1) := by decide +kernel
theorem dJ6_bitCount_0f7a4_2 : decode cJ6_bitCount_0f7a4 2 = .ok (.iconst 1, 1) := by decide +kernel
theorem dJ6_bitCount_0f7a4_3 : decode cJ6_bitCount_0f7a4 3 = .ok (.iushr, 1) := by decide +kernel
theorem dJ6_bitCount_0f7a4_4 : decode cJ6_bitCount_0f7a4 4 = .ok (.ldc_w 265, 3) := by decide +kernel
theorem dJ6_bitCount_0f7a4_7 : decode cJ6_bitCount_0f7a4 7 = .ok (.iand, 1) := by decide +kernel
theorem dJ6_bitCount_0f7a4_8 : decode cJ6_bitCount_0f7a4 8 = .ok (.isub, 1) := by decide +kernel
theorem dJ6_bitCount_0f7a4_9 : decode cJ6_bitCount_0f7a4 9 = .ok (.istore_n 0, 1) := by decide +kernel
theorem dJ6_bitCount_0f7a4_10 : decode cJ6_bitCount_0f7a4 10 = .ok (.iload_n 0, 1) := by decide +kernel
theorem dJ6_bitCount_0f7a4_11 : decode cJ6_bitCount_0f7a4 11 = .ok (.ldc_w 266, 3) := by decide +kernel
theorem dJ6_bitCount_0f7a4_14 : decode cJ6_bitCount_0f7a4 14 = .ok (.iand, 1) := by decide +kernel
theorem dJ6_bitCount_0f7a4_15 : decode cJ6_bitCount_0f7a4 15 = .ok (.iload_n 0, 1) := by decide +kernel
theorem dJ6_bitCount_0f7a4_16 : decode cJ6_bitCount_0f7a4 16 = .ok (.iconst 2, 1) := by decide +kernel
theorem dJ6_bitCount_0f7a4_17 : decode cJ6_bitCount_0f7a4 17 = .ok (.iushr, 1) := by decide +kernel
theorem dJ6_bitCount_0f7a4_18 : decode cJ6_bitCount_0f7a4 18 = .ok (.ldc_w 266, 3) := by decide +kernel
theorem dJ6_bitCount_0f7a4_21 : decode cJ6_bitCount_0f7a4 21 = .ok (.iand, 1) := by decide +kernel
theorem dJ6_bitCount_0f7a4_22 : decode cJ6_bitCount_0f7a4 22 = .ok (.iadd, 1) := by decide +kernel
theorem dJ6_bitCount_0f7a4_23 : decode cJ6_bitCount_0f7a4 23 = .ok (.istore_n 0, 1) := by decide +kernel
theorem dJ6_bitCount_0f7a4_24 : decode cJ6_bitCount_0f7a4 24 = .ok (.iload_n 0, 1) := by decide +kernel
theorem dJ6_bitCount_0f7a4_25 : decode cJ6_bitCount_0f7a4 25 = .ok (.iload_n 0, 1) := by decide +kernel
theorem dJ6_bitCount_0f7a4_26 : decode cJ6_bitCount_0f7a4 26 = .ok (.iconst 4, 1) := by decide +kernel
theorem dJ6_bitCount_0f7a4_27 : decode cJ6_bitCount_0f7a4 27 = .ok (.iushr, 1) := by decide +kernel
theorem dJ6_bitCount_0f7a4_28 : decode cJ6_bitCount_0f7a4 28 = .ok (.iadd, 1) := by decide +kernel
theorem dJ6_bitCount_0f7a4_29 : decode cJ6_bitCount_0f7a4 29 = .ok (.ldc_w 267, 3) := by decide +kernel
theorem dJ6_bitCount_0f7a4_32 : decode cJ6_bitCount_0f7a4 32 = .ok (.iand, 1) := by decide +kernel
theorem dJ6_bitCount_0f7a4_33 : decode cJ6_bitCount_0f7a4 33 = .ok (.istore_n 0, 1) := by decide +kernel
theorem dJ6_bitCount_0f7a4_34 : decode cJ6_bitCount_0f7a4 34 = .ok (.iload_n 0, 1) := by decide +kernel
theorem dJ6_bitCount_0f7a4_35 : decode cJ6_bitCount_0f7a4 35 = .ok (.iload_n 0, 1) := by decide +kernel
theorem dJ6_bitCount_0f7a4_36 : decode cJ6_bitCount_0f7a4 36 = .ok (.bipush 8, 2) := by decide +kernel
theorem dJ6_bitCount_0f7a4_38 : decode cJ6_bitCount_0f7a4 38 = .ok (.iushr, 1) := by decide +kernel
theorem dJ6_bitCount_0f7a4_39 : decode cJ6_bitCount_0f7a4 39 = .ok (.iadd, 1) := by decide +kernel
theorem dJ6_bitCount_0f7a4_40 : decode cJ6_bitCount_0f7a4 40 = .ok (.istore_n 0, 1) := by decide +kernel
theorem dJ6_bitCount_0f7a4_41 : decode cJ6_bitCount_0f7a4 41 = .ok (.iload_n 0, 1) := by decide +kernel
theorem dJ6_bitCount_0f7a4_42 : decode cJ6_bitCount_0f7a4 42 = .ok (.iload_n 0, 1) := by decide +kernel
theorem dJ6_bitCount_0f7a4_43 : decode cJ6_bitCount_0f7a4 43 = .ok (.bipush 16, 2) := by decide +kernel
theorem dJ6_bitCount_0f7a4_45 : decode cJ6_bitCount_0f7a4 45 = .ok (.iushr, 1) := by decide +kernel
theorem dJ6_bitCount_0f7a4_46 : decode cJ6_bitCount_0f7a4 46 = .ok (.iadd, 1) := by decide +kernel
theorem dJ6_bitCount_0f7a4_47 : decode cJ6_bitCount_0f7a4 47 = .ok (.istore_n 0, 1) := by decide +kernel
theorem dJ6_bitCount_0f7a4_48 : decode cJ6_bitCount_0f7a4 48 = .ok (.iload_n 0, 1) := by decide +kernel
theorem dJ6_bitCount_0f7a4_49 : decode cJ6_bitCount_0f7a4 49 = .ok (.bipush 63, 2) := by decide +kernel
theorem dJ6_bitCount_0f7a4_51 : decode cJ6_bitCount_0f7a4 51 = .ok (.iand, 1) := by decide +kernel
theorem dJ6_bitCount_0f7a4_52 : decode cJ6_bitCount_0f7a4 52 = .ok (.ireturn, 1) := by decide +kernel
noncomputable def o_bitCount (s : Unit) (a1 : Int32) : Option (Int32) := some ((((((((a1 - ((ush a1 (nI 1)) &&& (nI 1431655765))) &&& (nI 858993459)) + ((ush (a1 - ((ush a1 (nI 1)) &&& (nI 1431655765))) (nI 2)) &&& (nI 858993459))) + (ush (((a1 - ((ush a1 (nI 1)) &&& (nI 1431655765))) &&& (nI 858993459)) + ((ush (a1 - ((ush a1 (nI 1)) &&& (nI 1431655765))) (nI 2)) &&& (nI 858993459))) (nI 4))) &&& (nI 252645135)) + (ush (((((a1 - ((ush a1 (nI 1)) &&& (nI 1431655765))) &&& (nI 858993459)) + ((ush (a1 - ((ush a1 (nI 1)) &&& (nI 1431655765))) (nI 2)) &&& (nI 858993459))) + (ush (((a1 - ((ush a1 (nI 1)) &&& (nI 1431655765))) &&& (nI 858993459)) + ((ush (a1 - ((ush a1 (nI 1)) &&& (nI 1431655765))) (nI 2)) &&& (nI 858993459))) (nI 4))) &&& (nI 252645135)) (nI 8))) + (ush ((((((a1 - ((ush a1 (nI 1)) &&& (nI 1431655765))) &&& (nI 858993459)) + ((ush (a1 - ((ush a1 (nI 1)) &&& (nI 1431655765))) (nI 2)) &&& (nI 858993459))) + (ush (((a1 - ((ush a1 (nI 1)) &&& (nI 1431655765))) &&& (nI 858993459)) + ((ush (a1 - ((ush a1 (nI 1)) &&& (nI 1431655765))) (nI 2)) &&& (nI 858993459))) (nI 4))) &&& (nI 252645135)) + (ush (((((a1 - ((ush a1 (nI 1)) &&& (nI 1431655765))) &&& (nI 858993459)) + ((ush (a1 - ((ush a1 (nI 1)) &&& (nI 1431655765))) (nI 2)) &&& (nI 858993459))) + (ush (((a1 - ((ush a1 (nI 1)) &&& (nI 1431655765))) &&& (nI 858993459)) + ((ush (a1 - ((ush a1 (nI 1)) &&& (nI 1431655765))) (nI 2)) &&& (nI 858993459))) (nI 4))) &&& (nI 252645135)) (nI 8))) (nI 16))) &&& (nI 63))
set_option maxHeartbeats 4000000 in
theorem t_bitCount {Γ : jg_G} {h0 : jg_H} (s : Unit) (a1 : Int32)  {x : Int32} (h : o_bitCount s a1 = some x) : jc Γ mJ6_bitCount_0f7a4 0 0 0 [some (.int a1)] h0 (.inl (some (.int x))) h0 := by
  refine jc_of ?_
  rw [o_bitCount] at h
  refine jg_iload_n dJ6_bitCount_0f7a4_0 rfl ?_
  refine jg_iload_n dJ6_bitCount_0f7a4_1 rfl ?_
  refine jg_iconst (v := nI 1) dJ6_bitCount_0f7a4_2 (by decide) ?_
  refine jg_iushrR (x := a1) (y := (nI 1)) dJ6_bitCount_0f7a4_3 ?_
  refine jg_ldcw kk_J6_265 dJ6_bitCount_0f7a4_4 ?_
  rw [show (1431655765 : Int32) = nI 1431655765 from rfl]
  refine jg_iand (x := (ush a1 (nI 1))) (y := (nI 1431655765)) dJ6_bitCount_0f7a4_7  ?_
  refine jg_isub (x := a1) (y := ((ush a1 (nI 1)) &&& (nI 1431655765))) dJ6_bitCount_0f7a4_8  ?_
  refine jg_istore_n (L' := [some (.int (a1 - ((ush a1 (nI 1)) &&& (nI 1431655765))))]) dJ6_bitCount_0f7a4_9 (by decide) rfl ?_
  refine jg_iload_n dJ6_bitCount_0f7a4_10 rfl ?_
  refine jg_ldcw kk_J6_266 dJ6_bitCount_0f7a4_11 ?_
  rw [show (858993459 : Int32) = nI 858993459 from rfl]
  refine jg_iand (x := (a1 - ((ush a1 (nI 1)) &&& (nI 1431655765)))) (y := (nI 858993459)) dJ6_bitCount_0f7a4_14  ?_
  refine jg_iload_n dJ6_bitCount_0f7a4_15 rfl ?_
  refine jg_iconst (v := nI 2) dJ6_bitCount_0f7a4_16 (by decide) ?_
  refine jg_iushrR (x := (a1 - ((ush a1 (nI 1)) &&& (nI 1431655765)))) (y := (nI 2)) dJ6_bitCount_0f7a4_17 ?_
  refine jg_ldcw kk_J6_266 dJ6_bitCount_0f7a4_18 ?_
  rw [show (858993459 : Int32) = nI 858993459 from rfl]
  refine jg_iand (x := (ush (a1 - ((ush a1 (nI 1)) &&& (nI 1431655765))) (nI 2))) (y := (nI 858993459)) dJ6_bitCount_0f7a4_21  ?_
  refine jg_iadd (x := ((a1 - ((ush a1 (nI 1)) &&& (nI 1431655765))) &&& (nI 858993459))) (y := ((ush (a1 - ((ush a1 (nI 1)) &&& (nI 1431655765))) (nI 2)) &&& (nI 858993459))) dJ6_bitCount_0f7a4_22  ?_
  refine jg_istore_n (L' := [some (.int (((a1 - ((ush a1 (nI 1)) &&& (nI 1431655765))) &&& (nI 858993459)) + ((ush (a1 - ((ush a1 (nI 1)) &&& (nI 1431655765))) (nI 2)) &&& (nI 858993459))))]) dJ6_bitCount_0f7a4_23 (by decide) rfl ?_
  refine jg_iload_n dJ6_bitCount_0f7a4_24 rfl ?_
  refine jg_iload_n dJ6_bitCount_0f7a4_25 rfl ?_
  refine jg_iconst (v := nI 4) dJ6_bitCount_0f7a4_26 (by decide) ?_
  refine jg_iushrR (x := (((a1 - ((ush a1 (nI 1)) &&& (nI 1431655765))) &&& (nI 858993459)) + ((ush (a1 - ((ush a1 (nI 1)) &&& (nI 1431655765))) (nI 2)) &&& (nI 858993459)))) (y := (nI 4)) dJ6_bitCount_0f7a4_27 ?_
  refine jg_iadd (x := (((a1 - ((ush a1 (nI 1)) &&& (nI 1431655765))) &&& (nI 858993459)) + ((ush (a1 - ((ush a1 (nI 1)) &&& (nI 1431655765))) (nI 2)) &&& (nI 858993459)))) (y := (ush (((a1 - ((ush a1 (nI 1)) &&& (nI 1431655765))) &&& (nI 858993459)) + ((ush (a1 - ((ush a1 (nI 1)) &&& (nI 1431655765))) (nI 2)) &&& (nI 858993459))) (nI 4))) dJ6_bitCount_0f7a4_28  ?_
  refine jg_ldcw kk_J6_267 dJ6_bitCount_0f7a4_29 ?_
  rw [show (252645135 : Int32) = nI 252645135 from rfl]
  refine jg_iand (x := ((((a1 - ((ush a1 (nI 1)) &&& (nI 1431655765))) &&& (nI 858993459)) + ((ush (a1 - ((ush a1 (nI 1)) &&& (nI 1431655765))) (nI 2)) &&& (nI 858993459))) + (ush (((a1 - ((ush a1 (nI 1)) &&& (nI 1431655765))) &&& (nI 858993459)) + ((ush (a1 - ((ush a1 (nI 1)) &&& (nI 1431655765))) (nI 2)) &&& (nI 858993459))) (nI 4)))) (y := (nI 252645135)) dJ6_bitCount_0f7a4_32  ?_
  refine jg_istore_n (L' := [some (.int (((((a1 - ((ush a1 (nI 1)) &&& (nI 1431655765))) &&& (nI 858993459)) + ((ush (a1 - ((ush a1 (nI 1)) &&& (nI 1431655765))) (nI 2)) &&& (nI 858993459))) + (ush (((a1 - ((ush a1 (nI 1)) &&& (nI 1431655765))) &&& (nI 858993459)) + ((ush (a1 - ((ush a1 (nI 1)) &&& (nI 1431655765))) (nI 2)) &&& (nI 858993459))) (nI 4))) &&& (nI 252645135)))]) dJ6_bitCount_0f7a4_33 (by decide) rfl ?_
  refine jg_iload_n dJ6_bitCount_0f7a4_34 rfl ?_
  refine jg_iload_n dJ6_bitCount_0f7a4_35 rfl ?_
  refine jg_bipush (v := nI 8) dJ6_bitCount_0f7a4_36 (by decide) ?_
  refine jg_iushrR (x := (((((a1 - ((ush a1 (nI 1)) &&& (nI 1431655765))) &&& (nI 858993459)) + ((ush (a1 - ((ush a1 (nI 1)) &&& (nI 1431655765))) (nI 2)) &&& (nI 858993459))) + (ush (((a1 - ((ush a1 (nI 1)) &&& (nI 1431655765))) &&& (nI 858993459)) + ((ush (a1 - ((ush a1 (nI 1)) &&& (nI 1431655765))) (nI 2)) &&& (nI 858993459))) (nI 4))) &&& (nI 252645135))) (y := (nI 8)) dJ6_bitCount_0f7a4_38 ?_
  refine jg_iadd (x := (((((a1 - ((ush a1 (nI 1)) &&& (nI 1431655765))) &&& (nI 858993459)) + ((ush (a1 - ((ush a1 (nI 1)) &&& (nI 1431655765))) (nI 2)) &&& (nI 858993459))) + (ush (((a1 - ((ush a1 (nI 1)) &&& (nI 1431655765))) &&& (nI 858993459)) + ((ush (a1 - ((ush a1 (nI 1)) &&& (nI 1431655765))) (nI 2)) &&& (nI 858993459))) (nI 4))) &&& (nI 252645135))) (y := (ush (((((a1 - ((ush a1 (nI 1)) &&& (nI 1431655765))) &&& (nI 858993459)) + ((ush (a1 - ((ush a1 (nI 1)) &&& (nI 1431655765))) (nI 2)) &&& (nI 858993459))) + (ush (((a1 - ((ush a1 (nI 1)) &&& (nI 1431655765))) &&& (nI 858993459)) + ((ush (a1 - ((ush a1 (nI 1)) &&& (nI 1431655765))) (nI 2)) &&& (nI 858993459))) (nI 4))) &&& (nI 252645135)) (nI 8))) dJ6_bitCount_0f7a4_39  ?_
  refine jg_istore_n (L' := [some (.int ((((((a1 - ((ush a1 (nI 1)) &&& (nI 1431655765))) &&& (nI 858993459)) + ((ush (a1 - ((ush a1 (nI 1)) &&& (nI 1431655765))) (nI 2)) &&& (nI 858993459))) + (ush (((a1 - ((ush a1 (nI 1)) &&& (nI 1431655765))) &&& (nI 858993459)) + ((ush (a1 - ((ush a1 (nI 1)) &&& (nI 1431655765))) (nI 2)) &&& (nI 858993459))) (nI 4))) &&& (nI 252645135)) + (ush (((((a1 - ((ush a1 (nI 1)) &&& (nI 1431655765))) &&& (nI 858993459)) + ((ush (a1 - ((ush a1 (nI 1)) &&& (nI 1431655765))) (nI 2)) &&& (nI 858993459))) + (ush (((a1 - ((ush a1 (nI 1)) &&& (nI 1431655765))) &&& (nI 858993459)) + ((ush (a1 - ((ush a1 (nI 1)) &&& (nI 1431655765))) (nI 2)) &&& (nI 858993459))) (nI 4))) &&& (nI 252645135)) (nI 8))))]) dJ6_bitCount_0f7a4_40 (by decide) rfl ?_
  refine jg_iload_n dJ6_bitCount_0f7a4_41 rfl ?_
  refine jg_iload_n dJ6_bitCount_0f7a4_42 rfl ?_
  refine jg_bipush (v := nI 16) dJ6_bitCount_0f7a4_43 (by decide) ?_
  refine jg_iushrR (x := ((((((a1 - ((ush a1 (nI 1)) &&& (nI 1431655765))) &&& (nI 858993459)) + ((ush (a1 - ((ush a1 (nI 1)) &&& (nI 1431655765))) (nI 2)) &&& (nI 858993459))) + (ush (((a1 - ((ush a1 (nI 1)) &&& (nI 1431655765))) &&& (nI 858993459)) + ((ush (a1 - ((ush a1 (nI 1)) &&& (nI 1431655765))) (nI 2)) &&& (nI 858993459))) (nI 4))) &&& (nI 252645135)) + (ush (((((a1 - ((ush a1 (nI 1)) &&& (nI 1431655765))) &&& (nI 858993459)) + ((ush (a1 - ((ush a1 (nI 1)) &&& (nI 1431655765))) (nI 2)) &&& (nI 858993459))) + (ush (((a1 - ((ush a1 (nI 1)) &&& (nI 1431655765))) &&& (nI 858993459)) + ((ush (a1 - ((ush a1 (nI 1)) &&& (nI 1431655765))) (nI 2)) &&& (nI 858993459))) (nI 4))) &&& (nI 252645135)) (nI 8)))) (y := (nI 16)) dJ6_bitCount_0f7a4_45 ?_
  refine jg_iadd (x := ((((((a1 - ((ush a1 (nI 1)) &&& (nI 1431655765))) &&& (nI 858993459)) + ((ush (a1 - ((ush a1 (nI 1)) &&& (nI 1431655765))) (nI 2)) &&& (nI 858993459))) + (ush (((a1 - ((ush a1 (nI 1)) &&& (nI 1431655765))) &&& (nI 858993459)) + ((ush (a1 - ((ush a1 (nI 1)) &&& (nI 1431655765))) (nI 2)) &&& (nI 858993459))) (nI 4))) &&& (nI 252645135)) + (ush (((((a1 - ((ush a1 (nI 1)) &&& (nI 1431655765))) &&& (nI 858993459)) + ((ush (a1 - ((ush a1 (nI 1)) &&& (nI 1431655765))) (nI 2)) &&& (nI 858993459))) + (ush (((a1 - ((ush a1 (nI 1)) &&& (nI 1431655765))) &&& (nI 858993459)) + ((ush (a1 - ((ush a1 (nI 1)) &&& (nI 1431655765))) (nI 2)) &&& (nI 858993459))) (nI 4))) &&& (nI 252645135)) (nI 8)))) (y := (ush ((((((a1 - ((ush a1 (nI 1)) &&& (nI 1431655765))) &&& (nI 858993459)) + ((ush (a1 - ((ush a1 (nI 1)) &&& (nI 1431655765))) (nI 2)) &&& (nI 858993459))) + (ush (((a1 - ((ush a1 (nI 1)) &&& (nI 1431655765))) &&& (nI 858993459)) + ((ush (a1 - ((ush a1 (nI 1)) &&& (nI 1431655765))) (nI 2)) &&& (nI 858993459))) (nI 4))) &&& (nI 252645135)) + (ush (((((a1 - ((ush a1 (nI 1)) &&& (nI 1431655765))) &&& (nI 858993459)) + ((ush (a1 - ((ush a1 (nI 1)) &&& (nI 1431655765))) (nI 2)) &&& (nI 858993459))) + (ush (((a1 - ((ush a1 (nI 1)) &&& (nI 1431655765))) &&& (nI 858993459)) + ((ush (a1 - ((ush a1 (nI 1)) &&& (nI 1431655765))) (nI 2)) &&& (nI 858993459))) (nI 4))) &&& (nI 252645135)) (nI 8))) (nI 16))) dJ6_bitCount_0f7a4_46  ?_
  refine jg_istore_n (L' := [some (.int (((((((a1 - ((ush a1 (nI 1)) &&& (nI 1431655765))) &&& (nI 858993459)) + ((ush (a1 - ((ush a1 (nI 1)) &&& (nI 1431655765))) (nI 2)) &&& (nI 858993459))) + (ush (((a1 - ((ush a1 (nI 1)) &&& (nI 1431655765))) &&& (nI 858993459)) + ((ush (a1 - ((ush a1 (nI 1)) &&& (nI 1431655765))) (nI 2)) &&& (nI 858993459))) (nI 4))) &&& (nI 252645135)) + (ush (((((a1 - ((ush a1 (nI 1)) &&& (nI 1431655765))) &&& (nI 858993459)) + ((ush (a1 - ((ush a1 (nI 1)) &&& (nI 1431655765))) (nI 2)) &&& (nI 858993459))) + (ush (((a1 - ((ush a1 (nI 1)) &&& (nI 1431655765))) &&& (nI 858993459)) + ((ush (a1 - ((ush a1 (nI 1)) &&& (nI 1431655765))) (nI 2)) &&& (nI 858993459))) (nI 4))) &&& (nI 252645135)) (nI 8))) + (ush ((((((a1 - ((ush a1 (nI 1)) &&& (nI 1431655765))) &&& (nI 858993459)) + ((ush (a1 - ((ush a1 (nI 1)) &&& (nI 1431655765))) (nI 2)) &&& (nI 858993459))) + (ush (((a1 - ((ush a1 (nI 1)) &&& (nI 1431655765))) &&& (nI 858993459)) + ((ush (a1 - ((ush a1 (nI 1)) &&& (nI 1431655765))) (nI 2)) &&& (nI 858993459))) (nI 4))) &&& (nI 252645135)) + (ush (((((a1 - ((ush a1 (nI 1)) &&& (nI 1431655765))) &&& (nI 858993459)) + ((ush (a1 - ((ush a1 (nI 1)) &&& (nI 1431655765))) (nI 2)) &&& (nI 858993459))) + (ush (((a1 - ((ush a1 (nI 1)) &&& (nI 1431655765))) &&& (nI 858993459)) + ((ush (a1 - ((ush a1 (nI 1)) &&& (nI 1431655765))) (nI 2)) &&& (nI 858993459))) (nI 4))) &&& (nI 252645135)) (nI 8))) (nI 16))))]) dJ6_bitCount_0f7a4_47 (by decide) rfl ?_
  refine jg_iload_n dJ6_bitCount_0f7a4_48 rfl ?_
  refine jg_bipush (v := nI 63) dJ6_bitCount_0f7a4_49 (by decide) ?_
  refine jg_iand (x := (((((((a1 - ((ush a1 (nI 1)) &&& (nI 1431655765))) &&& (nI 858993459)) + ((ush (a1 - ((ush a1 (nI 1)) &&& (nI 1431655765))) (nI 2)) &&& (nI 858993459))) + (ush (((a1 - ((ush a1 (nI 1)) &&& (nI 1431655765))) &&& (nI 858993459)) + ((ush (a1 - ((ush a1 (nI 1)) &&& (nI 1431655765))) (nI 2)) &&& (nI 858993459))) (nI 4))) &&& (nI 252645135)) + (ush (((((a1 - ((ush a1 (nI 1)) &&& (nI 1431655765))) &&& (nI 858993459)) + ((ush (a1 - ((ush a1 (nI 1)) &&& (nI 1431655765))) (nI 2)) &&& (nI 858993459))) + (ush (((a1 - ((ush a1 (nI 1)) &&& (nI 1431655765))) &&& (nI 858993459)) + ((ush (a1 - ((ush a1 (nI 1)) &&& (nI 1431655765))) (nI 2)) &&& (nI 858993459))) (nI 4))) &&& (nI 252645135)) (nI 8))) + (ush ((((((a1 - ((ush a1 (nI 1)) &&& (nI 1431655765))) &&& (nI 858993459)) + ((ush (a1 - ((ush a1 (nI 1)) &&& (nI 1431655765))) (nI 2)) &&& (nI 858993459))) + (ush (((a1 - ((ush a1 (nI 1)) &&& (nI 1431655765))) &&& (nI 858993459)) + ((ush (a1 - ((ush a1 (nI 1)) &&& (nI 1431655765))) (nI 2)) &&& (nI 858993459))) (nI 4))) &&& (nI 252645135)) + (ush (((((a1 - ((ush a1 (nI 1)) &&& (nI 1431655765))) &&& (nI 858993459)) + ((ush (a1 - ((ush a1 (nI 1)) &&& (nI 1431655765))) (nI 2)) &&& (nI 858993459))) + (ush (((a1 - ((ush a1 (nI 1)) &&& (nI 1431655765))) &&& (nI 858993459)) + ((ush (a1 - ((ush a1 (nI 1)) &&& (nI 1431655765))) (nI 2)) &&& (nI 858993459))) (nI 4))) &&& (nI 252645135)) (nI 8))) (nI 16)))) (y := (nI 63)) dJ6_bitCount_0f7a4_51  ?_
  obtain rfl := Option.some.inj h
  exact jg_ireturn dJ6_bitCount_0f7a4_52 rfl ⟨rfl, rfl⟩
