/-! ===== J0 isLatin1 ===== -/
abbrev rm_J0_isLatin1_aae02 : Room := { frames := 0, cells := 0, slots := 0, locals := 0 }
set_option maxRecDepth 20000 in
theorem f_J0_isLatin1_aae02_b18_ok {X : Cx} {G : Gx} {z : Rs} {i : Nat} (hi : i < 11) (O : Ok X G cJ0_isLatin1_aae02 RJ0 1 wsJ0_isLatin1_aae02 (some .boolean) rm_J0_isLatin1_aae02) (N : Nat) (s0 : Int32) (h : Hp) (e : f_J0_isLatin1_aae02_b18 i N s0 h = some z) : V X G 1 (QI X G z) h 18 [] [.int s0] := by
  unfold f_J0_isLatin1_aae02_b18 at e
  exact v_zret O dJ0_isLatin1_aae02_18 e
set_option maxRecDepth 20000 in
theorem f_J0_isLatin1_aae02_b17_ok {X : Cx} {G : Gx} {z : Rs} {i : Nat} (hi : i < 11) (O : Ok X G cJ0_isLatin1_aae02 RJ0 1 wsJ0_isLatin1_aae02 (some .boolean) rm_J0_isLatin1_aae02) (N : Nat) (h : Hp) (e : f_J0_isLatin1_aae02_b17 i N h = some z) : V X G 1 (QI X G z) h 17 [] [] := by
  unfold f_J0_isLatin1_aae02_b17 at e
  refine v_iconst (v := 0) O dJ0_isLatin1_aae02_17 (by decide) ?_
  exact f_J0_isLatin1_aae02_b18_ok hi O N _ _ e
set_option maxRecDepth 20000 in
theorem f_J0_isLatin1_aae02_ok {l : Launch} {G : Gx} {N : Nat} {i : Nat} (hi : i < 11) {h : Hp} {z : Rs} (e : f_J0_isLatin1_aae02 i N h = some z) : CI l G yJ0_isLatin1_aae02 wsJ0_isLatin1_aae02 rm_J0_isLatin1_aae02 [.ref (gK G i)] h z := by
  refine m_bool _ (by decide) rfl [(0, .ref (gK G i))] rfl (Nat.le_of_ble_eq_true rfl) (fun X O => ?_)
  unfold f_J0_isLatin1_aae02 at e
  refine v_getCS O (by decide +kernel) dJ0_isLatin1_aae02_0 ?_
  refine v_if_eq O dJ0_isLatin1_aae02_3 17 (by decide) e (fun e => ?_) (fun e => ?_)
  · refine v_sub [] rfl ?_
    exact f_J0_isLatin1_aae02_b17_ok hi O N _ e
  · refine v_aload_n O dJ0_isLatin1_aae02_6 0 rfl rfl ?_
    refine v_getCoder O hi (by decide +kernel) dJ0_isLatin1_aae02_7 ?_
    refine v_if_ne O dJ0_isLatin1_aae02_10 17 (by decide) e (fun e => ?_) (fun e => ?_)
    · refine v_sub [] rfl ?_
      exact f_J0_isLatin1_aae02_b17_ok hi O N _ e
    · refine v_iconst (v := 1) O dJ0_isLatin1_aae02_13 (by decide) ?_
      refine v_goto O dJ0_isLatin1_aae02_14 18 (by decide) ?_
      refine v_sub [] rfl ?_
      exact f_J0_isLatin1_aae02_b18_ok hi O N _ _ e
/-! ===== J0 checkIndex ===== -/
abbrev rm_J0_checkIndex_df160 : Room := { frames := 1, cells := 0, slots := 0, locals := 22 }
theorem cw_J0_checkIndex_df160_J3_checkIndex_8e157 : CwO rm_J0_checkIndex_df160 yJ3_checkIndex_8e157 wsJ3_checkIndex_8e157 cJ3_checkIndex_8e157 3 (some .int) rm_J3_checkIndex_8e157 3 := ⟨⟨_, rfl⟩, rfl, rfl, by decide +kernel, by decide, by decide⟩
set_option maxRecDepth 20000 in
theorem f_J0_checkIndex_df160_ok {l : Launch} {G : Gx} {N : Nat} {a0 : Int32} {a1 : Int32} {h : Hp} {z : Rs} (e : f_J0_checkIndex_df160 N a0 a1 h = some z) : CV l G yJ0_checkIndex_df160 wsJ0_checkIndex_df160 rm_J0_checkIndex_df160 [.int a0, .int a1] h z := by
  refine m_void _ (by decide) rfl [(0, .int a0), (1, .int a1)] rfl (Nat.le_of_ble_eq_true rfl) (fun X O => ?_)
  unfold f_J0_checkIndex_df160 at e
  refine v_iload_n O dJ0_checkIndex_df160_0 0 rfl rfl ?_
  refine v_iload_n O dJ0_checkIndex_df160_1 1 rfl rfl ?_
  refine v_getQ O (by decide +kernel) dJ0_checkIndex_df160_2 (fun w hw => ?_)
  refine v_cSi O [.int a0, .int a1, w] [] gJ0_checkIndex_df160_J3_checkIndex_8e157 cw_J0_checkIndex_df160_J3_checkIndex_8e157 rfl rfl (Nat.le_of_ble_eq_true rfl) dJ0_checkIndex_df160_5 e (fun _ e9 => f_J3_checkIndex_8e157_ok hw e9) (fun r1 h2 e => ?_)
  refine v_pop O dJ0_checkIndex_df160_8 rfl ?_
  exact v_vret O dJ0_checkIndex_df160_9 e
/-! ===== J1 charAt ===== -/
abbrev rm_J1_charAt_3b067 : Room := { frames := 2, cells := 0, slots := 0, locals := 43 }
theorem cw_J1_charAt_3b067_J0_checkIndex_df160 : CwO rm_J1_charAt_3b067 yJ0_checkIndex_df160 wsJ0_checkIndex_df160 cJ0_checkIndex_df160 2 (none) rm_J0_checkIndex_df160 2 := ⟨⟨_, rfl⟩, rfl, rfl, by decide +kernel, by decide, by decide⟩
set_option maxRecDepth 20000 in
theorem f_J1_charAt_3b067_ok {l : Launch} {G : Gx} {N : Nat} {i : Nat} (hi : i < 11) {a1 : Int32} {h : Hp} {z : Rs} (e : f_J1_charAt_3b067 i N a1 h = some z) : CI l G yJ1_charAt_3b067 wsJ1_charAt_3b067 rm_J1_charAt_3b067 [.ref (gV G i), .int a1] h z := by
  refine m_ret _ (by decide) rfl [(0, .ref (gV G i)), (1, .int a1)] rfl (Nat.le_of_ble_eq_true rfl) (fun X O => ?_)
  unfold f_J1_charAt_3b067 at e
  refine v_iload_n O dJ1_charAt_3b067_0 1 rfl rfl ?_
  refine v_aload_n O dJ1_charAt_3b067_1 0 rfl rfl ?_
  refine v_lenS O hi dJ1_charAt_3b067_2 ?_
  refine v_cSv O [.int a1, .int (Int32.ofNat (stLen.getD i 0))] [] gJ1_charAt_3b067_J0_checkIndex_df160 cw_J1_charAt_3b067_J0_checkIndex_df160 rfl rfl (Nat.le_of_ble_eq_true rfl) dJ1_charAt_3b067_3 e (fun _ e9 => f_J0_checkIndex_df160_ok e9) (fun _ h1 e => ?_)
  refine v_aload_n O dJ1_charAt_3b067_6 0 rfl rfl ?_
  refine v_iload_n O dJ1_charAt_3b067_7 1 rfl rfl ?_
  refine v_tbS O hi dJ1_charAt_3b067_8 e (fun e => ?_)
  refine v_sipush (v := 255) O dJ1_charAt_3b067_9 (by decide) ?_
  refine v_iand O dJ1_charAt_3b067_12 ?_
  refine v_i2c O dJ1_charAt_3b067_13 ?_
  exact v_nret O (fun _ => rfl) dJ1_charAt_3b067_14 e
/-! ===== J0 charAt ===== -/
abbrev rm_J0_charAt_5068e : Room := { frames := 3, cells := 0, slots := 0, locals := 64 }
theorem cw_J0_charAt_5068e_J0_isLatin1_aae02 : CwO rm_J0_charAt_5068e yJ0_isLatin1_aae02 wsJ0_isLatin1_aae02 cJ0_isLatin1_aae02 1 (some .boolean) rm_J0_isLatin1_aae02 0 := ⟨⟨_, rfl⟩, rfl, rfl, by decide +kernel, by decide, by decide⟩
theorem cw_J0_charAt_5068e_J1_charAt_3b067 : CwO rm_J0_charAt_5068e yJ1_charAt_3b067 wsJ1_charAt_3b067 cJ1_charAt_3b067 2 (some .char) rm_J1_charAt_3b067 2 := ⟨⟨_, rfl⟩, rfl, rfl, by decide +kernel, by decide, by decide⟩
set_option maxRecDepth 20000 in
theorem f_J0_charAt_5068e_ok {l : Launch} {G : Gx} {N : Nat} {i : Nat} (hi : i < 11) {a0 : Int32} {h : Hp} {z : Rs} (e : f_J0_charAt_5068e i N a0 h = some z) : CI l G yJ0_charAt_5068e wsJ0_charAt_5068e rm_J0_charAt_5068e [.ref (gK G i), .int a0] h z := by
  refine m_ret _ (by decide) rfl [(0, .ref (gK G i)), (1, .int a0)] rfl (Nat.le_of_ble_eq_true rfl) (fun X O => ?_)
  unfold f_J0_charAt_5068e at e
  refine v_aload_n O dJ0_charAt_5068e_0 0 rfl rfl ?_
  refine v_cSti O hi [] [] gJ0_charAt_5068e_J0_isLatin1_aae02 cw_J0_charAt_5068e_J0_isLatin1_aae02 rfl rfl rfl (Nat.le_of_ble_eq_true rfl) dJ0_charAt_5068e_1 e (fun _ e9 => f_J0_isLatin1_aae02_ok hi e9) (fun r1 h2 e => ?_)
  refine v_if_eq O dJ0_charAt_5068e_4 16 (by decide) e (fun e => ?_) (fun e => ?_)
  · cases e
  · refine v_aload_n O dJ0_charAt_5068e_7 0 rfl rfl ?_
    refine v_getValue O hi (by decide +kernel) dJ0_charAt_5068e_8 ?_
    refine v_iload_n O dJ0_charAt_5068e_11 1 rfl rfl ?_
    refine v_cSi O [.ref (gV G i), .int a0] [] gJ0_charAt_5068e_J1_charAt_3b067 cw_J0_charAt_5068e_J1_charAt_3b067 rfl rfl (Nat.le_of_ble_eq_true rfl) dJ0_charAt_5068e_12 e (fun _ e9 => f_J1_charAt_3b067_ok hi e9) (fun r3 h4 e => ?_)
    exact v_nret O (fun _ => rfl) dJ0_charAt_5068e_15 e
/-! ===== J0 coder ===== -/
abbrev rm_J0_coder_7d493 : Room := { frames := 0, cells := 0, slots := 0, locals := 0 }
set_option maxRecDepth 20000 in
theorem f_J0_coder_7d493_b14_ok {X : Cx} {G : Gx} {z : Rs} {i : Nat} (hi : i < 11) (O : Ok X G cJ0_coder_7d493 RJ0 1 wsJ0_coder_7d493 (some .byte) rm_J0_coder_7d493) (N : Nat) (s0 : Int32) (h : Hp) (e : f_J0_coder_7d493_b14 i N s0 h = some z) : V X G 1 (QI X G z) h 14 [] [.int s0] := by
  unfold f_J0_coder_7d493_b14 at e
  exact v_nret O (fun _ => rfl) dJ0_coder_7d493_14 e
set_option maxRecDepth 20000 in
theorem f_J0_coder_7d493_ok {l : Launch} {G : Gx} {N : Nat} {i : Nat} (hi : i < 11) {h : Hp} {z : Rs} (e : f_J0_coder_7d493 i N h = some z) : CI l G yJ0_coder_7d493 wsJ0_coder_7d493 rm_J0_coder_7d493 [.ref (gK G i)] h z := by
  refine m_ret _ (by decide) rfl [(0, .ref (gK G i))] rfl (Nat.le_of_ble_eq_true rfl) (fun X O => ?_)
  unfold f_J0_coder_7d493 at e
  refine v_getCS O (by decide +kernel) dJ0_coder_7d493_0 ?_
  refine v_if_eq O dJ0_coder_7d493_3 13 (by decide) e (fun e => ?_) (fun e => ?_)
  · refine v_iconst (v := 1) O dJ0_coder_7d493_13 (by decide) ?_
    refine v_sub [] rfl ?_
    exact f_J0_coder_7d493_b14_ok hi O N _ _ e
  · refine v_aload_n O dJ0_coder_7d493_6 0 rfl rfl ?_
    refine v_getCoder O hi (by decide +kernel) dJ0_coder_7d493_7 ?_
    refine v_goto O dJ0_coder_7d493_10 14 (by decide) ?_
    refine v_sub [] rfl ?_
    exact f_J0_coder_7d493_b14_ok hi O N _ _ e
/-! ===== J0 length ===== -/
abbrev rm_J0_length_8abf5 : Room := { frames := 1, cells := 0, slots := 0, locals := 20 }
theorem cw_J0_length_8abf5_J0_coder_7d493 : CwO rm_J0_length_8abf5 yJ0_coder_7d493 wsJ0_coder_7d493 cJ0_coder_7d493 1 (some .byte) rm_J0_coder_7d493 0 := ⟨⟨_, rfl⟩, rfl, rfl, by decide +kernel, by decide, by decide⟩
set_option maxRecDepth 20000 in
theorem f_J0_length_8abf5_ok {l : Launch} {G : Gx} {N : Nat} {i : Nat} (hi : i < 11) {h : Hp} {z : Rs} (e : f_J0_length_8abf5 i N h = some z) : CI l G yJ0_length_8abf5 wsJ0_length_8abf5 rm_J0_length_8abf5 [.ref (gK G i)] h z := by
  refine m_int _ (by decide) rfl [(0, .ref (gK G i))] rfl (Nat.le_of_ble_eq_true rfl) (fun X O => ?_)
  unfold f_J0_length_8abf5 at e
  refine v_aload_n O dJ0_length_8abf5_0 0 rfl rfl ?_
  refine v_getValue O hi (by decide +kernel) dJ0_length_8abf5_1 ?_
  refine v_lenS O hi dJ0_length_8abf5_4 ?_
  refine v_aload_n O dJ0_length_8abf5_5 0 rfl rfl ?_
  refine v_cSti O hi [] [.int (Int32.ofNat (stLen.getD i 0))] gJ0_length_8abf5_J0_coder_7d493 cw_J0_length_8abf5_J0_coder_7d493 rfl rfl rfl (Nat.le_of_ble_eq_true rfl) dJ0_length_8abf5_6 e (fun _ e9 => f_J0_coder_7d493_ok hi e9) (fun r1 h2 e => ?_)
  refine v_ishr O dJ0_length_8abf5_9 ?_
  exact v_iret O dJ0_length_8abf5_10 e
/-! ===== J6 bitCount ===== -/
abbrev rm_J6_bitCount_0f7a4 : Room := { frames := 0, cells := 0, slots := 0, locals := 0 }
set_option maxRecDepth 20000 in
theorem f_J6_bitCount_0f7a4_ok {l : Launch} {G : Gx} {N : Nat} {a0 : Int32} {h : Hp} {z : Rs} (e : f_J6_bitCount_0f7a4 N a0 h = some z) : CI l G yJ6_bitCount_0f7a4 wsJ6_bitCount_0f7a4 rm_J6_bitCount_0f7a4 [.int a0] h z := by
  refine m_int _ (by decide) rfl [(0, .int a0)] rfl (Nat.le_of_ble_eq_true rfl) (fun X O => ?_)
  unfold f_J6_bitCount_0f7a4 at e
  refine v_iload_n O dJ6_bitCount_0f7a4_0 0 rfl rfl ?_
  refine v_iload_n O dJ6_bitCount_0f7a4_1 0 rfl rfl ?_
  refine v_iconst (v := 1) O dJ6_bitCount_0f7a4_2 (by decide) ?_
  refine v_iushr O dJ6_bitCount_0f7a4_3 ?_
  refine v_ldcw (v := 1431655765) O dJ6_bitCount_0f7a4_4 (by decide +kernel) ?_
  refine v_iand O dJ6_bitCount_0f7a4_7 ?_
  refine v_isub O dJ6_bitCount_0f7a4_8 ?_
  refine v_istore_n O dJ6_bitCount_0f7a4_9 rfl (by decide) (fun x1 => [(0, .int x1)]) (fun _ => rfl) e (fun x1 e => ?_)
  refine v_iload_n O dJ6_bitCount_0f7a4_10 0 rfl rfl ?_
  refine v_ldcw (v := 858993459) O dJ6_bitCount_0f7a4_11 (by decide +kernel) ?_
  refine v_iand O dJ6_bitCount_0f7a4_14 ?_
  refine v_iload_n O dJ6_bitCount_0f7a4_15 0 rfl rfl ?_
  refine v_iconst (v := 2) O dJ6_bitCount_0f7a4_16 (by decide) ?_
  refine v_iushr O dJ6_bitCount_0f7a4_17 ?_
  refine v_ldcw (v := 858993459) O dJ6_bitCount_0f7a4_18 (by decide +kernel) ?_
  refine v_iand O dJ6_bitCount_0f7a4_21 ?_
  refine v_iadd O dJ6_bitCount_0f7a4_22 ?_
  refine v_istore_n O dJ6_bitCount_0f7a4_23 rfl (by decide) (fun x2 => [(0, .int x2)]) (fun _ => rfl) e (fun x2 e => ?_)
  refine v_iload_n O dJ6_bitCount_0f7a4_24 0 rfl rfl ?_
  refine v_iload_n O dJ6_bitCount_0f7a4_25 0 rfl rfl ?_
  refine v_iconst (v := 4) O dJ6_bitCount_0f7a4_26 (by decide) ?_
  refine v_iushr O dJ6_bitCount_0f7a4_27 ?_
  refine v_iadd O dJ6_bitCount_0f7a4_28 ?_
  refine v_ldcw (v := 252645135) O dJ6_bitCount_0f7a4_29 (by decide +kernel) ?_
  refine v_iand O dJ6_bitCount_0f7a4_32 ?_
  refine v_istore_n O dJ6_bitCount_0f7a4_33 rfl (by decide) (fun x3 => [(0, .int x3)]) (fun _ => rfl) e (fun x3 e => ?_)
  refine v_iload_n O dJ6_bitCount_0f7a4_34 0 rfl rfl ?_
  refine v_iload_n O dJ6_bitCount_0f7a4_35 0 rfl rfl ?_
  refine v_bipush (v := 8) O dJ6_bitCount_0f7a4_36 (by decide) ?_
  refine v_iushr O dJ6_bitCount_0f7a4_38 ?_
  refine v_iadd O dJ6_bitCount_0f7a4_39 ?_
  refine v_istore_n O dJ6_bitCount_0f7a4_40 rfl (by decide) (fun x4 => [(0, .int x4)]) (fun _ => rfl) e (fun x4 e => ?_)
  refine v_iload_n O dJ6_bitCount_0f7a4_41 0 rfl rfl ?_
  refine v_iload_n O dJ6_bitCount_0f7a4_42 0 rfl rfl ?_
  refine v_bipush (v := 16) O dJ6_bitCount_0f7a4_43 (by decide) ?_
  refine v_iushr O dJ6_bitCount_0f7a4_45 ?_
  refine v_iadd O dJ6_bitCount_0f7a4_46 ?_
  refine v_istore_n O dJ6_bitCount_0f7a4_47 rfl (by decide) (fun x5 => [(0, .int x5)]) (fun _ => rfl) e (fun x5 e => ?_)
  refine v_iload_n O dJ6_bitCount_0f7a4_48 0 rfl rfl ?_
  refine v_bipush (v := 63) O dJ6_bitCount_0f7a4_49 (by decide) ?_
  refine v_iand O dJ6_bitCount_0f7a4_51 ?_
  exact v_iret O dJ6_bitCount_0f7a4_52 e
/-! ===== J6 numberOfTrailingZeros ===== -/
abbrev rm_J6_numberOfTrailingZeros_0f7a4 : Room := { frames := 0, cells := 0, slots := 0, locals := 0 }
set_option maxRecDepth 20000 in
theorem f_J6_numberOfTrailingZeros_0f7a4_b74_ok {X : Cx} {G : Gx} {z : Rs} (O : Ok X G cJ6_numberOfTrailingZeros_0f7a4 RJ6 2 wsJ6_numberOfTrailingZeros_0f7a4 (some .int) rm_J6_numberOfTrailingZeros_0f7a4) (N : Nat) (v0 : Int32) (v1 : Int32) (h : Hp) (e : f_J6_numberOfTrailingZeros_0f7a4_b74 N v0 v1 h = some z) : V X G 2 (QI X G z) h 74 [(0, .int v0), (1, .int v1)] [] := by
  unfold f_J6_numberOfTrailingZeros_0f7a4_b74 at e
  refine v_iload_n O dJ6_numberOfTrailingZeros_0f7a4_74 1 rfl rfl ?_
  refine v_iload_n O dJ6_numberOfTrailingZeros_0f7a4_75 0 rfl rfl ?_
  refine v_iconst (v := 1) O dJ6_numberOfTrailingZeros_0f7a4_76 (by decide) ?_
  refine v_iushr O dJ6_numberOfTrailingZeros_0f7a4_77 ?_
  refine v_iadd O dJ6_numberOfTrailingZeros_0f7a4_78 ?_
  exact v_iret O dJ6_numberOfTrailingZeros_0f7a4_79 e
set_option maxRecDepth 20000 in
theorem f_J6_numberOfTrailingZeros_0f7a4_b62_ok {X : Cx} {G : Gx} {z : Rs} (O : Ok X G cJ6_numberOfTrailingZeros_0f7a4 RJ6 2 wsJ6_numberOfTrailingZeros_0f7a4 (some .int) rm_J6_numberOfTrailingZeros_0f7a4) (N : Nat) (v0 : Int32) (v1 : Int32) (h : Hp) (e : f_J6_numberOfTrailingZeros_0f7a4_b62 N v0 v1 h = some z) : V X G 2 (QI X G z) h 62 [(0, .int v0), (1, .int v1)] [] := by
  unfold f_J6_numberOfTrailingZeros_0f7a4_b62 at e
  refine v_iload_n O dJ6_numberOfTrailingZeros_0f7a4_62 0 rfl rfl ?_
  refine v_iconst (v := 4) O dJ6_numberOfTrailingZeros_0f7a4_63 (by decide) ?_
  refine v_icmp_le O dJ6_numberOfTrailingZeros_0f7a4_64 74 (by decide) e (fun e => ?_) (fun e => ?_)
  · exact f_J6_numberOfTrailingZeros_0f7a4_b74_ok O N _ _ _ e
  · refine v_iinc (v := 2) O dJ6_numberOfTrailingZeros_0f7a4_67 1 rfl (by decide) (by decide) (fun x1 => [(1, .int x1), (0, .int v0)]) (fun _ => rfl) e (fun x1 e => ?_)
    refine v_iload_n O dJ6_numberOfTrailingZeros_0f7a4_70 1 rfl rfl ?_
    refine v_iconst (v := 2) O dJ6_numberOfTrailingZeros_0f7a4_71 (by decide) ?_
    refine v_iushr O dJ6_numberOfTrailingZeros_0f7a4_72 ?_
    refine v_istore_n O dJ6_numberOfTrailingZeros_0f7a4_73 rfl (by decide) (fun x2 => [(0, .int x2), (1, .int x1)]) (fun _ => rfl) e (fun x2 e => ?_)
    exact f_J6_numberOfTrailingZeros_0f7a4_b74_ok O N _ _ _ e
set_option maxRecDepth 20000 in
theorem f_J6_numberOfTrailingZeros_0f7a4_b49_ok {X : Cx} {G : Gx} {z : Rs} (O : Ok X G cJ6_numberOfTrailingZeros_0f7a4 RJ6 2 wsJ6_numberOfTrailingZeros_0f7a4 (some .int) rm_J6_numberOfTrailingZeros_0f7a4) (N : Nat) (v0 : Int32) (v1 : Int32) (h : Hp) (e : f_J6_numberOfTrailingZeros_0f7a4_b49 N v0 v1 h = some z) : V X G 2 (QI X G z) h 49 [(0, .int v0), (1, .int v1)] [] := by
  unfold f_J6_numberOfTrailingZeros_0f7a4_b49 at e
  refine v_iload_n O dJ6_numberOfTrailingZeros_0f7a4_49 0 rfl rfl ?_
  refine v_bipush (v := 16) O dJ6_numberOfTrailingZeros_0f7a4_50 (by decide) ?_
  refine v_icmp_le O dJ6_numberOfTrailingZeros_0f7a4_52 62 (by decide) e (fun e => ?_) (fun e => ?_)
  · exact f_J6_numberOfTrailingZeros_0f7a4_b62_ok O N _ _ _ e
  · refine v_iinc (v := 4) O dJ6_numberOfTrailingZeros_0f7a4_55 1 rfl (by decide) (by decide) (fun x1 => [(1, .int x1), (0, .int v0)]) (fun _ => rfl) e (fun x1 e => ?_)
    refine v_iload_n O dJ6_numberOfTrailingZeros_0f7a4_58 1 rfl rfl ?_
    refine v_iconst (v := 4) O dJ6_numberOfTrailingZeros_0f7a4_59 (by decide) ?_
    refine v_iushr O dJ6_numberOfTrailingZeros_0f7a4_60 ?_
    refine v_istore_n O dJ6_numberOfTrailingZeros_0f7a4_61 rfl (by decide) (fun x2 => [(0, .int x2), (1, .int x1)]) (fun _ => rfl) e (fun x2 e => ?_)
    exact f_J6_numberOfTrailingZeros_0f7a4_b62_ok O N _ _ _ e
set_option maxRecDepth 20000 in
theorem f_J6_numberOfTrailingZeros_0f7a4_b34_ok {X : Cx} {G : Gx} {z : Rs} (O : Ok X G cJ6_numberOfTrailingZeros_0f7a4 RJ6 2 wsJ6_numberOfTrailingZeros_0f7a4 (some .int) rm_J6_numberOfTrailingZeros_0f7a4) (N : Nat) (v0 : Int32) (v1 : Int32) (h : Hp) (e : f_J6_numberOfTrailingZeros_0f7a4_b34 N v0 v1 h = some z) : V X G 2 (QI X G z) h 34 [(0, .int v0), (1, .int v1)] [] := by
  unfold f_J6_numberOfTrailingZeros_0f7a4_b34 at e
  refine v_iload_n O dJ6_numberOfTrailingZeros_0f7a4_34 0 rfl rfl ?_
  refine v_sipush (v := 256) O dJ6_numberOfTrailingZeros_0f7a4_35 (by decide) ?_
  refine v_icmp_le O dJ6_numberOfTrailingZeros_0f7a4_38 49 (by decide) e (fun e => ?_) (fun e => ?_)
  · exact f_J6_numberOfTrailingZeros_0f7a4_b49_ok O N _ _ _ e
  · refine v_iinc (v := 8) O dJ6_numberOfTrailingZeros_0f7a4_41 1 rfl (by decide) (by decide) (fun x1 => [(1, .int x1), (0, .int v0)]) (fun _ => rfl) e (fun x1 e => ?_)
    refine v_iload_n O dJ6_numberOfTrailingZeros_0f7a4_44 1 rfl rfl ?_
    refine v_bipush (v := 8) O dJ6_numberOfTrailingZeros_0f7a4_45 (by decide) ?_
    refine v_iushr O dJ6_numberOfTrailingZeros_0f7a4_47 ?_
    refine v_istore_n O dJ6_numberOfTrailingZeros_0f7a4_48 rfl (by decide) (fun x2 => [(0, .int x2), (1, .int x1)]) (fun _ => rfl) e (fun x2 e => ?_)
    exact f_J6_numberOfTrailingZeros_0f7a4_b49_ok O N _ _ _ e
set_option maxRecDepth 20000 in
theorem f_J6_numberOfTrailingZeros_0f7a4_ok {l : Launch} {G : Gx} {N : Nat} {a0 : Int32} {h : Hp} {z : Rs} (e : f_J6_numberOfTrailingZeros_0f7a4 N a0 h = some z) : CI l G yJ6_numberOfTrailingZeros_0f7a4 wsJ6_numberOfTrailingZeros_0f7a4 rm_J6_numberOfTrailingZeros_0f7a4 [.int a0] h z := by
  refine m_int _ (by decide) rfl [(0, .int a0)] rfl (Nat.le_of_ble_eq_true rfl) (fun X O => ?_)
  unfold f_J6_numberOfTrailingZeros_0f7a4 at e
  refine v_iload_n O dJ6_numberOfTrailingZeros_0f7a4_0 0 rfl rfl ?_
  refine v_iconst (v := (-1)) O dJ6_numberOfTrailingZeros_0f7a4_1 (by decide) ?_
  refine v_ixor O dJ6_numberOfTrailingZeros_0f7a4_2 ?_
  refine v_iload_n O dJ6_numberOfTrailingZeros_0f7a4_3 0 rfl rfl ?_
  refine v_iconst (v := 1) O dJ6_numberOfTrailingZeros_0f7a4_4 (by decide) ?_
  refine v_isub O dJ6_numberOfTrailingZeros_0f7a4_5 ?_
  refine v_iand O dJ6_numberOfTrailingZeros_0f7a4_6 ?_
  refine v_istore_n O dJ6_numberOfTrailingZeros_0f7a4_7 rfl (by decide) (fun x1 => [(0, .int x1)]) (fun _ => rfl) e (fun x1 e => ?_)
  refine v_iload_n O dJ6_numberOfTrailingZeros_0f7a4_8 0 rfl rfl ?_
  refine v_if_gt O dJ6_numberOfTrailingZeros_0f7a4_9 17 (by decide) e (fun e => ?_) (fun e => ?_)
  · refine v_iconst (v := 1) O dJ6_numberOfTrailingZeros_0f7a4_17 (by decide) ?_
    refine v_istore_n O dJ6_numberOfTrailingZeros_0f7a4_18 rfl (by decide) (fun x2 => [(1, .int x2), (0, .int x1)]) (fun _ => rfl) e (fun x2 e => ?_)
    refine v_iload_n O dJ6_numberOfTrailingZeros_0f7a4_19 1 rfl rfl ?_
    refine v_ldcw (v := 65536) O dJ6_numberOfTrailingZeros_0f7a4_20 (by decide +kernel) ?_
    refine v_icmp_le O dJ6_numberOfTrailingZeros_0f7a4_23 34 (by decide) e (fun e => ?_) (fun e => ?_)
    · refine v_sub [1, 0] rfl ?_
      exact f_J6_numberOfTrailingZeros_0f7a4_b34_ok O N _ _ _ e
    · refine v_iinc (v := 16) O dJ6_numberOfTrailingZeros_0f7a4_26 0 rfl (by decide) (by decide) (fun x3 => [(1, .int x3), (0, .int x1)]) (fun _ => rfl) e (fun x3 e => ?_)
      refine v_iload_n O dJ6_numberOfTrailingZeros_0f7a4_29 1 rfl rfl ?_
      refine v_bipush (v := 16) O dJ6_numberOfTrailingZeros_0f7a4_30 (by decide) ?_
      refine v_iushr O dJ6_numberOfTrailingZeros_0f7a4_32 ?_
      refine v_istore_n O dJ6_numberOfTrailingZeros_0f7a4_33 rfl (by decide) (fun x4 => [(0, .int x4), (1, .int x3)]) (fun _ => rfl) e (fun x4 e => ?_)
      exact f_J6_numberOfTrailingZeros_0f7a4_b34_ok O N _ _ _ e
  · refine v_iload_n O dJ6_numberOfTrailingZeros_0f7a4_12 0 rfl rfl ?_
    refine v_bipush (v := 32) O dJ6_numberOfTrailingZeros_0f7a4_13 (by decide) ?_
    refine v_iand O dJ6_numberOfTrailingZeros_0f7a4_15 ?_
    exact v_iret O dJ6_numberOfTrailingZeros_0f7a4_16 e
/-! ===== J7 fill ===== -/
abbrev rm_J7_fill_53178 : Room := { frames := 0, cells := 0, slots := 0, locals := 0 }
set_option maxRecDepth 20000 in
theorem f_J7_fill_53178_11_b5_ok {X : Cx} {G : Gx} {z : Rs} (O : Ok X G cJ7_fill_53178 RJ7 4 wsJ7_fill_53178 (none) rm_J7_fill_53178) (N : Nat) (k5 : Int32 → Int32 → Int32 → Hp → Option Rs) (hk5 : ∀ (v1 : Int32) (v2 : Int32) (v3 : Int32) (h : Hp), k5 v1 v2 v3 h = some z → V X G 4 (QV X G z) h 5 [(0, .ref (G.1 11)), (1, .int v1), (2, .int v2), (3, .int v3)] []) (v1 : Int32) (v2 : Int32) (v3 : Int32) (h : Hp) (e : f_J7_fill_53178_11_b5 N k5 v1 v2 v3 h = some z) : V X G 4 (QV X G z) h 5 [(0, .ref (G.1 11)), (1, .int v1), (2, .int v2), (3, .int v3)] [] := by
  unfold f_J7_fill_53178_11_b5 at e
  refine v_iload_n O dJ7_fill_53178_5 2 rfl rfl ?_
  refine v_iload_n O dJ7_fill_53178_6 3 rfl rfl ?_
  refine v_icmp_ge O dJ7_fill_53178_7 20 (by decide) e (fun e => ?_) (fun e => ?_)
  · exact v_vret O dJ7_fill_53178_20 e
  · refine v_aload_n O dJ7_fill_53178_10 0 rfl rfl ?_
    refine v_iload_n O dJ7_fill_53178_11 2 rfl rfl ?_
    refine v_iload_n O dJ7_fill_53178_12 1 rfl rfl ?_
    refine v_iast O (g25 O (by decide)) (cg_11 G _) (cw_11 G _ _ _) dJ7_fill_53178_13 e (fun h1 e => ?_)
    refine v_iinc (v := 1) O dJ7_fill_53178_14 2 rfl (by decide) (by decide) (fun x2 => [(2, .int x2), (0, .ref (G.1 11)), (1, .int v1), (3, .int v3)]) (fun _ => rfl) e (fun x2 e => ?_)
    refine v_goto O dJ7_fill_53178_17 5 (by decide) ?_
    refine v_sub [1, 2, 0, 3] rfl ?_
    exact hk5 _ _ _ _ e
theorem f_J7_fill_53178_11_l5_ok {X : Cx} {G : Gx} {z : Rs} (O : Ok X G cJ7_fill_53178 RJ7 4 wsJ7_fill_53178 (none) rm_J7_fill_53178) (N : Nat) : ∀ (n : Nat) (v1 : Int32) (v2 : Int32) (v3 : Int32) (h : Hp), f_J7_fill_53178_11_l5 N n v1 v2 v3 h = some z → V X G 4 (QV X G z) h 5 [(0, .ref (G.1 11)), (1, .int v1), (2, .int v2), (3, .int v3)] [] := by
  intro n
  induction n with
  | zero => intro v1 v2 v3 h e; cases e
  | succ n ih => intro v1 v2 v3 h e; exact f_J7_fill_53178_11_b5_ok O N _ ih v1 v2 v3 h e
set_option maxRecDepth 20000 in
theorem f_J7_fill_53178_11_ok {l : Launch} {G : Gx} {N : Nat} {a1 : Int32} {h : Hp} {z : Rs} (e : f_J7_fill_53178_11 N a1 h = some z) : CV l G yJ7_fill_53178 wsJ7_fill_53178 rm_J7_fill_53178 [.ref (G.1 11), .int a1] h z := by
  refine m_void _ (by decide) rfl [(0, .ref (G.1 11)), (1, .int a1)] rfl (Nat.le_of_ble_eq_true rfl) (fun X O => ?_)
  unfold f_J7_fill_53178_11 at e
  refine v_iconst (v := 0) O dJ7_fill_53178_0 (by decide) ?_
  refine v_istore_n O dJ7_fill_53178_1 rfl (by decide) (fun x1 => [(2, .int x1), (0, .ref (G.1 11)), (1, .int a1)]) (fun _ => rfl) e (fun x1 e => ?_)
  refine v_aload_n O dJ7_fill_53178_2 1 rfl rfl ?_
  refine v_alen (v := 192) O (g25 O (by decide)) (cg_11 G _) (by decide) dJ7_fill_53178_3 ?_
  refine v_istore_n O dJ7_fill_53178_4 rfl (by decide) (fun x2 => [(3, .int x2), (2, .int x1), (0, .ref (G.1 11)), (1, .int a1)]) (fun _ => rfl) e (fun x2 e => ?_)
  refine v_sub [2, 3, 1, 0] rfl ?_
  exact f_J7_fill_53178_11_l5_ok O N N _ _ _ _ e
set_option maxRecDepth 20000 in
theorem f_J7_fill_53178_16_b5_ok {X : Cx} {G : Gx} {z : Rs} (O : Ok X G cJ7_fill_53178 RJ7 4 wsJ7_fill_53178 (none) rm_J7_fill_53178) (N : Nat) (k5 : Int32 → Int32 → Int32 → Hp → Option Rs) (hk5 : ∀ (v1 : Int32) (v2 : Int32) (v3 : Int32) (h : Hp), k5 v1 v2 v3 h = some z → V X G 4 (QV X G z) h 5 [(0, .ref (G.1 16)), (1, .int v1), (2, .int v2), (3, .int v3)] []) (v1 : Int32) (v2 : Int32) (v3 : Int32) (h : Hp) (e : f_J7_fill_53178_16_b5 N k5 v1 v2 v3 h = some z) : V X G 4 (QV X G z) h 5 [(0, .ref (G.1 16)), (1, .int v1), (2, .int v2), (3, .int v3)] [] := by
  unfold f_J7_fill_53178_16_b5 at e
  refine v_iload_n O dJ7_fill_53178_5 2 rfl rfl ?_
  refine v_iload_n O dJ7_fill_53178_6 3 rfl rfl ?_
  refine v_icmp_ge O dJ7_fill_53178_7 20 (by decide) e (fun e => ?_) (fun e => ?_)
  · exact v_vret O dJ7_fill_53178_20 e
  · refine v_aload_n O dJ7_fill_53178_10 0 rfl rfl ?_
    refine v_iload_n O dJ7_fill_53178_11 2 rfl rfl ?_
    refine v_iload_n O dJ7_fill_53178_12 1 rfl rfl ?_
    refine v_iast O (g25 O (by decide)) (cg_16 G _) (cw_16 G _ _ _) dJ7_fill_53178_13 e (fun h1 e => ?_)
    refine v_iinc (v := 1) O dJ7_fill_53178_14 2 rfl (by decide) (by decide) (fun x2 => [(2, .int x2), (0, .ref (G.1 16)), (1, .int v1), (3, .int v3)]) (fun _ => rfl) e (fun x2 e => ?_)
    refine v_goto O dJ7_fill_53178_17 5 (by decide) ?_
    refine v_sub [1, 2, 0, 3] rfl ?_
    exact hk5 _ _ _ _ e
theorem f_J7_fill_53178_16_l5_ok {X : Cx} {G : Gx} {z : Rs} (O : Ok X G cJ7_fill_53178 RJ7 4 wsJ7_fill_53178 (none) rm_J7_fill_53178) (N : Nat) : ∀ (n : Nat) (v1 : Int32) (v2 : Int32) (v3 : Int32) (h : Hp), f_J7_fill_53178_16_l5 N n v1 v2 v3 h = some z → V X G 4 (QV X G z) h 5 [(0, .ref (G.1 16)), (1, .int v1), (2, .int v2), (3, .int v3)] [] := by
  intro n
  induction n with
  | zero => intro v1 v2 v3 h e; cases e
  | succ n ih => intro v1 v2 v3 h e; exact f_J7_fill_53178_16_b5_ok O N _ ih v1 v2 v3 h e
set_option maxRecDepth 20000 in
theorem f_J7_fill_53178_16_ok {l : Launch} {G : Gx} {N : Nat} {a1 : Int32} {h : Hp} {z : Rs} (e : f_J7_fill_53178_16 N a1 h = some z) : CV l G yJ7_fill_53178 wsJ7_fill_53178 rm_J7_fill_53178 [.ref (G.1 16), .int a1] h z := by
  refine m_void _ (by decide) rfl [(0, .ref (G.1 16)), (1, .int a1)] rfl (Nat.le_of_ble_eq_true rfl) (fun X O => ?_)
  unfold f_J7_fill_53178_16 at e
  refine v_iconst (v := 0) O dJ7_fill_53178_0 (by decide) ?_
  refine v_istore_n O dJ7_fill_53178_1 rfl (by decide) (fun x1 => [(2, .int x1), (0, .ref (G.1 16)), (1, .int a1)]) (fun _ => rfl) e (fun x1 e => ?_)
  refine v_aload_n O dJ7_fill_53178_2 1 rfl rfl ?_
  refine v_alen (v := 4096) O (g25 O (by decide)) (cg_16 G _) (by decide) dJ7_fill_53178_3 ?_
  refine v_istore_n O dJ7_fill_53178_4 rfl (by decide) (fun x2 => [(3, .int x2), (2, .int x1), (0, .ref (G.1 16)), (1, .int a1)]) (fun _ => rfl) e (fun x2 e => ?_)
  refine v_sub [2, 3, 1, 0] rfl ?_
  exact f_J7_fill_53178_16_l5_ok O N N _ _ _ _ e
/-! ===== X4 depthOf ===== -/
abbrev rm_X4_depthOf : Room := { frames := 0, cells := 0, slots := 0, locals := 0 }
theorem fd_X4_depthOf_21 : FdO wsX4_depthOf RX4 21 RX4 TX4 8 4 5 := ⟨by decide +kernel, rfl, by decide, by decide +kernel⟩
theorem fd_X4_depthOf_32 : FdO wsX4_depthOf RX4 32 RX4 TX4 8 4 6 := ⟨by decide +kernel, rfl, by decide, by decide +kernel⟩
set_option maxRecDepth 20000 in
theorem f_X4_depthOf_b22_ok {X : Cx} {G : Gx} {z : Rs} (O : Ok X G cX4_depthOf RX4 2 wsX4_depthOf (some .int) rm_X4_depthOf) (N : Nat) (s0 : Int32) (h : Hp) (e : f_X4_depthOf_b22 N s0 h = some z) : V X G 2 (QI X G z) h 22 [] [.int s0] := by
  unfold f_X4_depthOf_b22 at e
  exact v_iret O dX4_depthOf_22 e
set_option maxRecDepth 20000 in
theorem f_X4_depthOf_b12_ok {X : Cx} {G : Gx} {z : Rs} (O : Ok X G cX4_depthOf RX4 2 wsX4_depthOf (some .int) rm_X4_depthOf) (N : Nat) (h : Hp) (e : f_X4_depthOf_b12 N h = some z) : V X G 2 (QI X G z) h 12 [] [] := by
  unfold f_X4_depthOf_b12 at e
  refine v_iconst (v := (-1)) O dX4_depthOf_12 (by decide) ?_
  refine v_goto O dX4_depthOf_13 22 (by decide) ?_
  exact f_X4_depthOf_b22_ok O N _ _ e
set_option maxRecDepth 20000 in
theorem f_X4_depthOf_ok {l : Launch} {G : Gx} {N : Nat} {a0 : Int32} {h : Hp} {z : Rs} (e : f_X4_depthOf N a0 h = some z) : CI l G yX4_depthOf wsX4_depthOf rm_X4_depthOf [.ref (G.1 15), .int a0] h z := by
  refine m_int _ (by decide) rfl [(0, .ref (G.1 15)), (1, .int a0)] rfl (Nat.le_of_ble_eq_true rfl) (fun X O => ?_)
  unfold f_X4_depthOf at e
  refine v_iload_n O dX4_depthOf_0 1 rfl rfl ?_
  refine v_if_lt O dX4_depthOf_1 12 (by decide) e (fun e => ?_) (fun e => ?_)
  · refine v_sub [] rfl ?_
    exact f_X4_depthOf_b12_ok O N _ e
  · refine v_iload_n O dX4_depthOf_4 1 rfl rfl ?_
    refine v_aload_n O dX4_depthOf_5 0 rfl rfl ?_
    refine v_get O fd_X4_depthOf_32 (g25 O (by decide)) (cg_15 G _) rfl dX4_depthOf_6 ?_
    refine v_icmp_lt O dX4_depthOf_9 16 (by decide) e (fun e => ?_) (fun e => ?_)
    · refine v_aload_n O dX4_depthOf_16 0 rfl rfl ?_
      refine v_get O fd_X4_depthOf_21 (g25 O (by decide)) (cg_15 G _) rfl dX4_depthOf_17 ?_
      refine v_iload_n O dX4_depthOf_20 1 rfl rfl ?_
      refine v_iald O (g25 O (by decide)) (cg_19 G _) dX4_depthOf_21 e (fun e => ?_)
      refine v_sub [] rfl ?_
      exact f_X4_depthOf_b22_ok O N _ _ e
    · refine v_sub [] rfl ?_
      exact f_X4_depthOf_b12_ok O N _ e
/-! ===== X7 bit ===== -/
abbrev rm_X7_bit : Room := { frames := 0, cells := 0, slots := 0, locals := 0 }
set_option maxRecDepth 20000 in
theorem f_X7_bit_ok {l : Launch} {G : Gx} {N : Nat} {a0 : Int32} {a1 : Int32} {h : Hp} {z : Rs} (e : f_X7_bit N a0 a1 h = some z) : CI l G yX7_bit wsX7_bit rm_X7_bit [.int a0, .int a1] h z := by
  refine m_int _ (by decide) rfl [(0, .int a0), (1, .int a1)] rfl (Nat.le_of_ble_eq_true rfl) (fun X O => ?_)
  unfold f_X7_bit at e
  refine v_iload_n O dX7_bit_0 0 rfl rfl ?_
  refine v_iload_n O dX7_bit_1 1 rfl rfl ?_
  refine v_ishr O dX7_bit_2 ?_
  refine v_iconst (v := 1) O dX7_bit_3 (by decide) ?_
  refine v_iand O dX7_bit_4 ?_
  exact v_iret O dX7_bit_5 e
/-! ===== X7 noKind ===== -/
abbrev rm_X7_noKind : Room := { frames := 0, cells := 0, slots := 0, locals := 0 }
set_option maxRecDepth 20000 in
theorem f_X7_noKind_b14_ok {X : Cx} {G : Gx} {z : Rs} (O : Ok X G cX7_noKind RX7 1 wsX7_noKind (some .boolean) rm_X7_noKind) (N : Nat) (s0 : Int32) (h : Hp) (e : f_X7_noKind_b14 N s0 h = some z) : V X G 1 (QI X G z) h 14 [] [.int s0] := by
  unfold f_X7_noKind_b14 at e
  exact v_zret O dX7_noKind_14 e
set_option maxRecDepth 20000 in
theorem f_X7_noKind_b9_ok {X : Cx} {G : Gx} {z : Rs} (O : Ok X G cX7_noKind RX7 1 wsX7_noKind (some .boolean) rm_X7_noKind) (N : Nat) (h : Hp) (e : f_X7_noKind_b9 N h = some z) : V X G 1 (QI X G z) h 9 [] [] := by
  unfold f_X7_noKind_b9 at e
  refine v_iconst (v := 1) O dX7_noKind_9 (by decide) ?_
  refine v_goto O dX7_noKind_10 14 (by decide) ?_
  exact f_X7_noKind_b14_ok O N _ _ e
set_option maxRecDepth 20000 in
theorem f_X7_noKind_ok {l : Launch} {G : Gx} {N : Nat} {a0 : Int32} {h : Hp} {z : Rs} (e : f_X7_noKind N a0 h = some z) : CI l G yX7_noKind wsX7_noKind rm_X7_noKind [.int a0] h z := by
  refine m_bool _ (by decide) rfl [(0, .int a0)] rfl (Nat.le_of_ble_eq_true rfl) (fun X O => ?_)
  unfold f_X7_noKind at e
  refine v_iload_n O dX7_noKind_0 0 rfl rfl ?_
  refine v_if_lt O dX7_noKind_1 9 (by decide) e (fun e => ?_) (fun e => ?_)
  · refine v_sub [] rfl ?_
    exact f_X7_noKind_b9_ok O N _ e
  · refine v_iload_n O dX7_noKind_4 0 rfl rfl ?_
    refine v_iconst (v := 3) O dX7_noKind_5 (by decide) ?_
    refine v_icmp_le O dX7_noKind_6 13 (by decide) e (fun e => ?_) (fun e => ?_)
    · refine v_iconst (v := 0) O dX7_noKind_13 (by decide) ?_
      refine v_sub [] rfl ?_
      exact f_X7_noKind_b14_ok O N _ _ e
    · refine v_sub [] rfl ?_
      exact f_X7_noKind_b9_ok O N _ e
/-! ===== X0 reached ===== -/
abbrev rm_X0_reached : Room := { frames := 1, cells := 0, slots := 0, locals := 21 }
theorem fd_X0_reached_11 : FdO wsX0_reached RX0 11 RX0 TX0 1 0 0 := ⟨by decide +kernel, rfl, by decide, by decide +kernel⟩
theorem cw_X0_reached_X7_bit : CwO rm_X0_reached yX7_bit wsX7_bit cX7_bit 2 (some .int) rm_X7_bit 2 := ⟨⟨_, rfl⟩, rfl, rfl, by decide +kernel, by decide, by decide⟩
theorem cw_X0_reached_X7_noKind : CwO rm_X0_reached yX7_noKind wsX7_noKind cX7_noKind 1 (some .boolean) rm_X7_noKind 1 := ⟨⟨_, rfl⟩, rfl, rfl, by decide +kernel, by decide, by decide⟩
theorem sn_X0_reached_X7_bit : Cond.static yX7_bit ∈ wsX0_reached ∧ Cond.initialized yX7_bit.cls ∈ wsX0_reached := ⟨by decide +kernel, by decide +kernel⟩
theorem sn_X0_reached_X7_noKind : Cond.static yX7_noKind ∈ wsX0_reached ∧ Cond.initialized yX7_noKind.cls ∈ wsX0_reached := ⟨by decide +kernel, by decide +kernel⟩
set_option maxRecDepth 20000 in
theorem f_X0_reached_b17_ok {X : Cx} {G : Gx} {z : Rs} (O : Ok X G cX0_reached RX0 10 wsX0_reached (some .int) rm_X0_reached) (N : Nat) (h : Hp) (e : f_X0_reached_b17 N h = some z) : V X G 10 (QI X G z) h 17 [] [] := by
  unfold f_X0_reached_b17 at e
  refine v_iconst (v := 0) O dX0_reached_17 (by decide) ?_
  exact v_iret O dX0_reached_18 e
set_option maxRecDepth 20000 in
theorem f_X0_reached_b118_ok {X : Cx} {G : Gx} {z : Rs} (O : Ok X G cX0_reached RX0 10 wsX0_reached (some .int) rm_X0_reached) (N : Nat) (k29 : Int32 → Int32 → Int32 → Int32 → Int32 → Int32 → Hp → Option Rs) (k60 : Int32 → Int32 → Int32 → Int32 → Int32 → Int32 → Int32 → Int32 → Int32 → Hp → Option Rs) (hk29 : ∀ (v1 : Int32) (v2 : Int32) (v3 : Int32) (v4 : Int32) (v5 : Int32) (v6 : Int32) (h : Hp), k29 v1 v2 v3 v4 v5 v6 h = some z → V X G 10 (QI X G z) h 29 [(0, .ref (G.1 10)), (1, .int v1), (2, .int v2), (3, .int v3), (4, .int v4), (5, .int v5), (6, .int v6)] []) (hk60 : ∀ (v1 : Int32) (v2 : Int32) (v3 : Int32) (v4 : Int32) (v5 : Int32) (v6 : Int32) (v7 : Int32) (v8 : Int32) (v9 : Int32) (h : Hp), k60 v1 v2 v3 v4 v5 v6 v7 v8 v9 h = some z → V X G 10 (QI X G z) h 60 [(0, .ref (G.1 10)), (1, .int v1), (2, .int v2), (3, .int v3), (4, .int v4), (5, .int v5), (6, .int v6), (7, .int v7), (8, .int v8), (9, .int v9)] []) (v1 : Int32) (v2 : Int32) (v3 : Int32) (v4 : Int32) (v5 : Int32) (v6 : Int32) (v7 : Int32) (v9 : Int32) (s0 : Int32) (h : Hp) (e : f_X0_reached_b118 N k29 k60 v1 v2 v3 v4 v5 v6 v7 v9 s0 h = some z) : V X G 10 (QI X G z) h 118 [(0, .ref (G.1 10)), (1, .int v1), (2, .int v2), (3, .int v3), (4, .int v4), (5, .int v5), (6, .int v6), (7, .int v7), (9, .int v9)] [.int s0] := by
  unfold f_X0_reached_b118 at e
  refine v_istore O dX0_reached_118 (by decide) (fun x1 => [(8, .int x1), (0, .ref (G.1 10)), (1, .int v1), (2, .int v2), (3, .int v3), (4, .int v4), (5, .int v5), (6, .int v6), (7, .int v7), (9, .int v9)]) (fun _ => rfl) e (fun x1 e => ?_)
  refine v_iinc (v := 1) O dX0_reached_120 9 rfl (by decide) (by decide) (fun x2 => [(9, .int x2), (8, .int x1), (0, .ref (G.1 10)), (1, .int v1), (2, .int v2), (3, .int v3), (4, .int v4), (5, .int v5), (6, .int v6), (7, .int v7)]) (fun _ => rfl) e (fun x2 e => ?_)
  refine v_goto O dX0_reached_123 60 (by decide) ?_
  refine v_sub [2, 3, 4, 5, 6, 7, 8, 9, 1, 0] rfl ?_
  exact hk60 _ _ _ _ _ _ _ _ _ _ e
set_option maxRecDepth 20000 in
theorem f_X0_reached_b126_ok {X : Cx} {G : Gx} {z : Rs} (O : Ok X G cX0_reached RX0 10 wsX0_reached (some .int) rm_X0_reached) (N : Nat) (k29 : Int32 → Int32 → Int32 → Int32 → Int32 → Int32 → Hp → Option Rs) (hk29 : ∀ (v1 : Int32) (v2 : Int32) (v3 : Int32) (v4 : Int32) (v5 : Int32) (v6 : Int32) (h : Hp), k29 v1 v2 v3 v4 v5 v6 h = some z → V X G 10 (QI X G z) h 29 [(0, .ref (G.1 10)), (1, .int v1), (2, .int v2), (3, .int v3), (4, .int v4), (5, .int v5), (6, .int v6)] []) (v1 : Int32) (v2 : Int32) (v3 : Int32) (v4 : Int32) (v5 : Int32) (v6 : Int32) (h : Hp) (e : f_X0_reached_b126 N k29 v1 v2 v3 v4 v5 v6 h = some z) : V X G 10 (QI X G z) h 126 [(0, .ref (G.1 10)), (1, .int v1), (2, .int v2), (3, .int v3), (4, .int v4), (5, .int v5), (6, .int v6)] [] := by
  unfold f_X0_reached_b126 at e
  refine v_iinc (v := 1) O dX0_reached_126 6 rfl (by decide) (by decide) (fun x1 => [(6, .int x1), (0, .ref (G.1 10)), (1, .int v1), (2, .int v2), (3, .int v3), (4, .int v4), (5, .int v5)]) (fun _ => rfl) e (fun x1 e => ?_)
  refine v_goto O dX0_reached_129 29 (by decide) ?_
  refine v_sub [1, 2, 3, 4, 5, 6, 0] rfl ?_
  exact hk29 _ _ _ _ _ _ _ e
set_option maxRecDepth 20000 in
theorem f_X0_reached_b60_ok {X : Cx} {G : Gx} {z : Rs} (O : Ok X G cX0_reached RX0 10 wsX0_reached (some .int) rm_X0_reached) (N : Nat) (k29 : Int32 → Int32 → Int32 → Int32 → Int32 → Int32 → Hp → Option Rs) (k60 : Int32 → Int32 → Int32 → Int32 → Int32 → Int32 → Int32 → Int32 → Int32 → Hp → Option Rs) (hk29 : ∀ (v1 : Int32) (v2 : Int32) (v3 : Int32) (v4 : Int32) (v5 : Int32) (v6 : Int32) (h : Hp), k29 v1 v2 v3 v4 v5 v6 h = some z → V X G 10 (QI X G z) h 29 [(0, .ref (G.1 10)), (1, .int v1), (2, .int v2), (3, .int v3), (4, .int v4), (5, .int v5), (6, .int v6)] []) (hk60 : ∀ (v1 : Int32) (v2 : Int32) (v3 : Int32) (v4 : Int32) (v5 : Int32) (v6 : Int32) (v7 : Int32) (v8 : Int32) (v9 : Int32) (h : Hp), k60 v1 v2 v3 v4 v5 v6 v7 v8 v9 h = some z → V X G 10 (QI X G z) h 60 [(0, .ref (G.1 10)), (1, .int v1), (2, .int v2), (3, .int v3), (4, .int v4), (5, .int v5), (6, .int v6), (7, .int v7), (8, .int v8), (9, .int v9)] []) (v1 : Int32) (v2 : Int32) (v3 : Int32) (v4 : Int32) (v5 : Int32) (v6 : Int32) (v7 : Int32) (v8 : Int32) (v9 : Int32) (h : Hp) (e : f_X0_reached_b60 N k29 k60 v1 v2 v3 v4 v5 v6 v7 v8 v9 h = some z) : V X G 10 (QI X G z) h 60 [(0, .ref (G.1 10)), (1, .int v1), (2, .int v2), (3, .int v3), (4, .int v4), (5, .int v5), (6, .int v6), (7, .int v7), (8, .int v8), (9, .int v9)] [] := by
  unfold f_X0_reached_b60 at e
  refine v_iload O dX0_reached_60 9 rfl ?_
  refine v_gets O 6 (by decide) (by decide +kernel) dX0_reached_62 ?_
  refine v_iload_n O dX0_reached_65 1 rfl rfl ?_
  refine v_ti O 6 4 (by decide) rfl dX0_reached_66 e (fun e => ?_)
  refine v_icmp_ge O dX0_reached_67 126 (by decide) e (fun e => ?_) (fun e => ?_)
  · refine v_sub [0, 1, 2, 3, 4, 5, 6] rfl ?_
    exact f_X0_reached_b126_ok O N k29 hk29 _ _ _ _ _ _ _ e
  · refine v_iload O dX0_reached_70 8 rfl ?_
    refine v_if_lt O dX0_reached_72 126 (by decide) e (fun e => ?_) (fun e => ?_)
    · refine v_sub [0, 1, 2, 3, 4, 5, 6] rfl ?_
      exact f_X0_reached_b126_ok O N k29 hk29 _ _ _ _ _ _ _ e
    · refine v_iload_n O dX0_reached_75 3 rfl rfl ?_
      refine v_iload O dX0_reached_76 8 rfl ?_
      refine v_cNi O [.int v3, .int v8] [] 1 rfl gX0_reached_X7_bit_n40 sn_X0_reached_X7_bit.1 sn_X0_reached_X7_bit.2 cw_X0_reached_X7_bit rfl rfl (Nat.le_of_ble_eq_true rfl) dX0_reached_78 e (fun _ e9 => f_X7_bit_ok e9) (fun r1 h2 e => ?_)
      refine v_if_ne O dX0_reached_81 126 (by decide) e (fun e => ?_) (fun e => ?_)
      · refine v_sub [0, 1, 2, 3, 4, 5, 6] rfl ?_
        exact f_X0_reached_b126_ok O N k29 hk29 _ _ _ _ _ _ _ e
      · refine v_iload O dX0_reached_84 5 rfl ?_
        refine v_iconst (v := 1) O dX0_reached_86 (by decide) ?_
        refine v_iload O dX0_reached_87 8 rfl ?_
        refine v_ishl O dX0_reached_89 ?_
        refine v_ior O dX0_reached_90 ?_
        refine v_istore O dX0_reached_91 (by decide) (fun x3 => [(5, .int x3), (0, .ref (G.1 10)), (1, .int v1), (2, .int v2), (3, .int v3), (4, .int v4), (6, .int v6), (7, .int v7), (8, .int v8), (9, .int v9)]) (fun _ => rfl) e (fun x3 e => ?_)
        refine v_iload O dX0_reached_93 5 rfl ?_
        refine v_iload O dX0_reached_95 8 rfl ?_
        refine v_cNi O [.int v4, .int v8] [] 1 rfl gX0_reached_X7_bit_n40 sn_X0_reached_X7_bit.1 sn_X0_reached_X7_bit.2 cw_X0_reached_X7_bit rfl rfl (Nat.le_of_ble_eq_true rfl) dX0_reached_97 e (fun _ e9 => f_X7_bit_ok e9) (fun r4 h5 e => ?_)
        refine v_iconst (v := 1) O dX0_reached_100 (by decide) ?_
        refine v_icmp_ne O dX0_reached_101 108 (by decide) e (fun e => ?_) (fun e => ?_)
        · refine v_aload_n O dX0_reached_108 1 rfl rfl ?_
          refine v_get O fd_X0_reached_11 (g25 O (by decide)) (cg_10 G _) rfl dX0_reached_109 ?_
          refine v_iload O dX0_reached_112 7 rfl ?_
          refine v_iload O dX0_reached_114 8 rfl ?_
          refine v_iadd O dX0_reached_116 ?_
          refine v_iald O (g25 O (by decide)) (cg_11 G _) dX0_reached_117 e (fun e => ?_)
          refine v_sub [1, 2, 3, 4, 5, 0, 6, 7, 9] rfl ?_
          exact f_X0_reached_b118_ok O N k29 k60 hk29 hk60 _ _ _ _ _ _ _ _ _ _ e
        · refine v_iconst (v := (-1)) O dX0_reached_104 (by decide) ?_
          refine v_goto O dX0_reached_105 118 (by decide) ?_
          refine v_sub [1, 2, 3, 4, 5, 0, 6, 7, 9] rfl ?_
          exact f_X0_reached_b118_ok O N k29 k60 hk29 hk60 _ _ _ _ _ _ _ _ _ _ e
theorem f_X0_reached_l60_ok {X : Cx} {G : Gx} {z : Rs} (O : Ok X G cX0_reached RX0 10 wsX0_reached (some .int) rm_X0_reached) (N : Nat) (k29 : Int32 → Int32 → Int32 → Int32 → Int32 → Int32 → Hp → Option Rs) (hk29 : ∀ (v1 : Int32) (v2 : Int32) (v3 : Int32) (v4 : Int32) (v5 : Int32) (v6 : Int32) (h : Hp), k29 v1 v2 v3 v4 v5 v6 h = some z → V X G 10 (QI X G z) h 29 [(0, .ref (G.1 10)), (1, .int v1), (2, .int v2), (3, .int v3), (4, .int v4), (5, .int v5), (6, .int v6)] []) : ∀ (n : Nat) (v1 : Int32) (v2 : Int32) (v3 : Int32) (v4 : Int32) (v5 : Int32) (v6 : Int32) (v7 : Int32) (v8 : Int32) (v9 : Int32) (h : Hp), f_X0_reached_l60 N k29 n v1 v2 v3 v4 v5 v6 v7 v8 v9 h = some z → V X G 10 (QI X G z) h 60 [(0, .ref (G.1 10)), (1, .int v1), (2, .int v2), (3, .int v3), (4, .int v4), (5, .int v5), (6, .int v6), (7, .int v7), (8, .int v8), (9, .int v9)] [] := by
  intro n
  induction n with
  | zero => intro v1 v2 v3 v4 v5 v6 v7 v8 v9 h e; cases e
  | succ n ih => intro v1 v2 v3 v4 v5 v6 v7 v8 v9 h e; exact f_X0_reached_b60_ok O N k29 _ hk29 ih v1 v2 v3 v4 v5 v6 v7 v8 v9 h e
set_option maxRecDepth 20000 in
theorem f_X0_reached_b29_ok {X : Cx} {G : Gx} {z : Rs} (O : Ok X G cX0_reached RX0 10 wsX0_reached (some .int) rm_X0_reached) (N : Nat) (k29 : Int32 → Int32 → Int32 → Int32 → Int32 → Int32 → Hp → Option Rs) (hk29 : ∀ (v1 : Int32) (v2 : Int32) (v3 : Int32) (v4 : Int32) (v5 : Int32) (v6 : Int32) (h : Hp), k29 v1 v2 v3 v4 v5 v6 h = some z → V X G 10 (QI X G z) h 29 [(0, .ref (G.1 10)), (1, .int v1), (2, .int v2), (3, .int v3), (4, .int v4), (5, .int v5), (6, .int v6)] []) (v1 : Int32) (v2 : Int32) (v3 : Int32) (v4 : Int32) (v5 : Int32) (v6 : Int32) (h : Hp) (e : f_X0_reached_b29 N k29 v1 v2 v3 v4 v5 v6 h = some z) : V X G 10 (QI X G z) h 29 [(0, .ref (G.1 10)), (1, .int v1), (2, .int v2), (3, .int v3), (4, .int v4), (5, .int v5), (6, .int v6)] [] := by
  unfold f_X0_reached_b29 at e
  refine v_iload O dX0_reached_29 6 rfl ?_
  refine v_gets O 5 (by decide) (by decide +kernel) dX0_reached_31 ?_
  refine v_iload_n O dX0_reached_34 1 rfl rfl ?_
  refine v_ti O 5 4 (by decide) rfl dX0_reached_35 e (fun e => ?_)
  refine v_icmp_ge O dX0_reached_36 132 (by decide) e (fun e => ?_) (fun e => ?_)
  · refine v_iload O dX0_reached_132 5 rfl ?_
    exact v_iret O dX0_reached_134 e
  · refine v_iload O dX0_reached_39 6 rfl ?_
    refine v_bipush (v := 12) O dX0_reached_41 (by decide) ?_
    refine v_imul O dX0_reached_43 ?_
    refine v_istore O dX0_reached_44 (by decide) (fun x1 => [(7, .int x1), (0, .ref (G.1 10)), (1, .int v1), (2, .int v2), (3, .int v3), (4, .int v4), (5, .int v5), (6, .int v6)]) (fun _ => rfl) e (fun x1 e => ?_)
    refine v_aload_n O dX0_reached_46 1 rfl rfl ?_
    refine v_get O fd_X0_reached_11 (g25 O (by decide)) (cg_10 G _) rfl dX0_reached_47 ?_
    refine v_iload O dX0_reached_50 0 rfl ?_
    refine v_iload_n O dX0_reached_52 3 rfl rfl ?_
    refine v_iadd O dX0_reached_53 ?_
    refine v_iald O (g25 O (by decide)) (cg_11 G _) dX0_reached_54 e (fun e => ?_)
    refine v_istore O dX0_reached_55 (by decide) (fun x2 => [(8, .int x2), (7, .int x1), (0, .ref (G.1 10)), (1, .int v1), (2, .int v2), (3, .int v3), (4, .int v4), (5, .int v5), (6, .int v6)]) (fun _ => rfl) e (fun x2 e => ?_)
    refine v_iconst (v := 0) O dX0_reached_57 (by decide) ?_
    refine v_istore O dX0_reached_58 (by decide) (fun x3 => [(9, .int x3), (8, .int x2), (7, .int x1), (0, .ref (G.1 10)), (1, .int v1), (2, .int v2), (3, .int v3), (4, .int v4), (5, .int v5), (6, .int v6)]) (fun _ => rfl) e (fun x3 e => ?_)
    refine v_sub [3, 4, 5, 6, 7, 8, 9, 2, 1, 0] rfl ?_
    exact f_X0_reached_l60_ok O N k29 hk29 N _ _ _ _ _ _ _ _ _ _ e
theorem f_X0_reached_l29_ok {X : Cx} {G : Gx} {z : Rs} (O : Ok X G cX0_reached RX0 10 wsX0_reached (some .int) rm_X0_reached) (N : Nat) : ∀ (n : Nat) (v1 : Int32) (v2 : Int32) (v3 : Int32) (v4 : Int32) (v5 : Int32) (v6 : Int32) (h : Hp), f_X0_reached_l29 N n v1 v2 v3 v4 v5 v6 h = some z → V X G 10 (QI X G z) h 29 [(0, .ref (G.1 10)), (1, .int v1), (2, .int v2), (3, .int v3), (4, .int v4), (5, .int v5), (6, .int v6)] [] := by
  intro n
  induction n with
  | zero => intro v1 v2 v3 v4 v5 v6 h e; cases e
  | succ n ih => intro v1 v2 v3 v4 v5 v6 h e; exact f_X0_reached_b29_ok O N _ ih v1 v2 v3 v4 v5 v6 h e
set_option maxRecDepth 20000 in
theorem f_X0_reached_ok {l : Launch} {G : Gx} {N : Nat} {a0 : Int32} {a1 : Int32} {a2 : Int32} {a3 : Int32} {h : Hp} {z : Rs} (e : f_X0_reached N a0 a1 a2 a3 h = some z) : CI l G yX0_reached wsX0_reached rm_X0_reached [.ref (G.1 10), .int a0, .int a1, .int a2, .int a3] h z := by
  refine m_int _ (by decide) rfl [(0, .ref (G.1 10)), (1, .int a0), (2, .int a1), (3, .int a2), (4, .int a3)] rfl (Nat.le_of_ble_eq_true rfl) (fun X O => ?_)
  unfold f_X0_reached at e
  refine v_iload_n O dX0_reached_0 1 rfl rfl ?_
  refine v_cNi O [.int a0] [] 0 rfl gX0_reached_X7_noKind_n27 sn_X0_reached_X7_noKind.1 sn_X0_reached_X7_noKind.2 cw_X0_reached_X7_noKind rfl rfl (Nat.le_of_ble_eq_true rfl) dX0_reached_1 e (fun _ e9 => f_X7_noKind_ok e9) (fun r1 h2 e => ?_)
  refine v_if_ne O dX0_reached_4 17 (by decide) e (fun e => ?_) (fun e => ?_)
  · refine v_sub [] rfl ?_
    exact f_X0_reached_b17_ok O N _ e
  · refine v_iload_n O dX0_reached_7 2 rfl rfl ?_
    refine v_if_lt O dX0_reached_8 17 (by decide) e (fun e => ?_) (fun e => ?_)
    · refine v_sub [] rfl ?_
      exact f_X0_reached_b17_ok O N _ e
    · refine v_iload_n O dX0_reached_11 2 rfl rfl ?_
      refine v_bipush (v := 12) O dX0_reached_12 (by decide) ?_
      refine v_icmp_lt O dX0_reached_14 19 (by decide) e (fun e => ?_) (fun e => ?_)
      · refine v_iconst (v := 0) O dX0_reached_19 (by decide) ?_
        refine v_istore O dX0_reached_20 (by decide) (fun x3 => [(5, .int x3), (0, .ref (G.1 10)), (1, .int a0), (2, .int a1), (3, .int a2), (4, .int a3)]) (fun _ => rfl) e (fun x3 e => ?_)
        refine v_gets O 4 (by decide) (by decide +kernel) dX0_reached_22 ?_
        refine v_iload_n O dX0_reached_25 2 rfl rfl ?_
        refine v_ti O 4 4 (by decide) rfl dX0_reached_26 e (fun e => ?_)
        refine v_istore O dX0_reached_27 (by decide) (fun x4 => [(6, .int x4), (5, .int x3), (0, .ref (G.1 10)), (1, .int a0), (2, .int a1), (3, .int a2), (4, .int a3)]) (fun _ => rfl) e (fun x4 e => ?_)
        refine v_sub [2, 3, 4, 5, 6, 1, 0] rfl ?_
        exact f_X0_reached_l29_ok O N N _ _ _ _ _ _ _ e
      · refine v_sub [] rfl ?_
        exact f_X0_reached_b17_ok O N _ e
/-! ===== X7 placeOf ===== -/
abbrev rm_X7_placeOf : Room := { frames := 0, cells := 0, slots := 0, locals := 0 }
set_option maxRecDepth 20000 in
theorem f_X7_placeOf_ok {l : Launch} {G : Gx} {N : Nat} {a0 : Int32} {a1 : Int32} {h : Hp} {z : Rs} (e : f_X7_placeOf N a0 a1 h = some z) : CI l G yX7_placeOf wsX7_placeOf rm_X7_placeOf [.int a0, .int a1] h z := by
  refine m_int _ (by decide) rfl [(0, .int a0), (1, .int a1)] rfl (Nat.le_of_ble_eq_true rfl) (fun X O => ?_)
  unfold f_X7_placeOf at e
  refine v_iload_n O dX7_placeOf_0 1 rfl rfl ?_
  refine v_iconst (v := 4) O dX7_placeOf_1 (by decide) ?_
  refine v_iload_n O dX7_placeOf_2 0 rfl rfl ?_
  refine v_imul O dX7_placeOf_3 ?_
  refine v_ishr O dX7_placeOf_4 ?_
  refine v_bipush (v := 15) O dX7_placeOf_5 (by decide) ?_
  refine v_iand O dX7_placeOf_7 ?_
  exact v_iret O dX7_placeOf_8 e
/-! ===== X5 taken ===== -/
abbrev rm_X5_taken : Room := { frames := 1, cells := 0, slots := 0, locals := 21 }
theorem fd_X5_taken_34 : FdO wsX5_taken RX5 34 RX5 TX5 9 5 4 := ⟨by decide +kernel, rfl, by decide, by decide +kernel⟩
theorem cw_X5_taken_X7_placeOf : CwO rm_X5_taken yX7_placeOf wsX7_placeOf cX7_placeOf 2 (some .int) rm_X7_placeOf 2 := ⟨⟨_, rfl⟩, rfl, rfl, by decide +kernel, by decide, by decide⟩
theorem sn_X5_taken_X7_placeOf : Cond.static yX7_placeOf ∈ wsX5_taken ∧ Cond.initialized yX7_placeOf.cls ∈ wsX5_taken := ⟨by decide +kernel, by decide +kernel⟩
set_option maxRecDepth 20000 in
theorem f_X5_taken_b4_ok_1 {X : Cx} {G : Gx} {z : Rs} (O : Ok X G cX5_taken RX5 4 wsX5_taken (some .int) rm_X5_taken) (N : Nat) (k4 : Int32 → Int32 → Int32 → Hp → Option Rs) (hk4 : ∀ (v1 : Int32) (v2 : Int32) (v3 : Int32) (h : Hp), k4 v1 v2 v3 h = some z → V X G 4 (QI X G z) h 4 [(0, .ref (G.1 1)), (1, .int v1), (2, .int v2), (3, .int v3)] []) (v1 : Int32) (v2 : Int32) (v3 : Int32) (h : Hp) (e : f_X5_taken_b4 1 N k4 v1 v2 v3 h = some z) : V X G 4 (QI X G z) h 4 [(0, .ref (G.1 1)), (1, .int v1), (2, .int v2), (3, .int v3)] [] := by
  unfold f_X5_taken_b4 at e
  refine v_iload_n O dX5_taken_4 3 rfl rfl ?_
  refine v_aload_n O dX5_taken_5 0 rfl rfl ?_
  refine v_get O fd_X5_taken_34 (g25 O (by decide)) (cg_1 G _) rfl dX5_taken_6 ?_
  refine v_icmp_ge O dX5_taken_9 28 (by decide) e (fun e => ?_) (fun e => ?_)
  · refine v_iload_n O dX5_taken_28 2 rfl rfl ?_
    exact v_iret O dX5_taken_29 e
  · refine v_iload_n O dX5_taken_12 2 rfl rfl ?_
    refine v_iconst (v := 1) O dX5_taken_13 (by decide) ?_
    refine v_iload_n O dX5_taken_14 3 rfl rfl ?_
    refine v_iload_n O dX5_taken_15 1 rfl rfl ?_
    refine v_cNi O [.int v3, .int v1] [.int 1, .int v2] 11 rfl gX5_taken_X7_placeOf_n53 sn_X5_taken_X7_placeOf.1 sn_X5_taken_X7_placeOf.2 cw_X5_taken_X7_placeOf rfl rfl (Nat.le_of_ble_eq_true rfl) dX5_taken_16 e (fun _ e9 => f_X7_placeOf_ok e9) (fun r1 h2 e => ?_)
    refine v_ishl O dX5_taken_19 ?_
    refine v_ior O dX5_taken_20 ?_
    refine v_istore_n O dX5_taken_21 rfl (by decide) (fun x3 => [(2, .int x3), (0, .ref (G.1 1)), (1, .int v1), (3, .int v3)]) (fun _ => rfl) e (fun x3 e => ?_)
    refine v_iinc (v := 1) O dX5_taken_22 3 rfl (by decide) (by decide) (fun x4 => [(3, .int x4), (2, .int x3), (0, .ref (G.1 1)), (1, .int v1)]) (fun _ => rfl) e (fun x4 e => ?_)
    refine v_goto O dX5_taken_25 4 (by decide) ?_
    refine v_sub [2, 3, 1, 0] rfl ?_
    exact hk4 _ _ _ _ e
theorem f_X5_taken_l4_ok_1 {X : Cx} {G : Gx} {z : Rs} (O : Ok X G cX5_taken RX5 4 wsX5_taken (some .int) rm_X5_taken) (N : Nat) : ∀ (n : Nat) (v1 : Int32) (v2 : Int32) (v3 : Int32) (h : Hp), f_X5_taken_l4 1 N n v1 v2 v3 h = some z → V X G 4 (QI X G z) h 4 [(0, .ref (G.1 1)), (1, .int v1), (2, .int v2), (3, .int v3)] [] := by
  intro n
  induction n with
  | zero => intro v1 v2 v3 h e; cases e
  | succ n ih => intro v1 v2 v3 h e; exact f_X5_taken_b4_ok_1 O N _ ih v1 v2 v3 h e
set_option maxRecDepth 20000 in
theorem f_X5_taken_ok_1 {l : Launch} {G : Gx} {N : Nat} {a0 : Int32} {h : Hp} {z : Rs} (e : f_X5_taken 1 N a0 h = some z) : CI l G yX5_taken wsX5_taken rm_X5_taken [.ref (G.1 1), .int a0] h z := by
  refine m_int _ (by decide) rfl [(0, .ref (G.1 1)), (1, .int a0)] rfl (Nat.le_of_ble_eq_true rfl) (fun X O => ?_)
  unfold f_X5_taken at e
  refine v_iconst (v := 0) O dX5_taken_0 (by decide) ?_
  refine v_istore_n O dX5_taken_1 rfl (by decide) (fun x1 => [(2, .int x1), (0, .ref (G.1 1)), (1, .int a0)]) (fun _ => rfl) e (fun x1 e => ?_)
  refine v_iconst (v := 0) O dX5_taken_2 (by decide) ?_
  refine v_istore_n O dX5_taken_3 rfl (by decide) (fun x2 => [(3, .int x2), (2, .int x1), (0, .ref (G.1 1)), (1, .int a0)]) (fun _ => rfl) e (fun x2 e => ?_)
  refine v_sub [2, 3, 1, 0] rfl ?_
  exact f_X5_taken_l4_ok_1 O N N _ _ _ _ e
set_option maxRecDepth 20000 in
theorem f_X5_taken_b4_ok_7 {X : Cx} {G : Gx} {z : Rs} (O : Ok X G cX5_taken RX5 4 wsX5_taken (some .int) rm_X5_taken) (N : Nat) (k4 : Int32 → Int32 → Int32 → Hp → Option Rs) (hk4 : ∀ (v1 : Int32) (v2 : Int32) (v3 : Int32) (h : Hp), k4 v1 v2 v3 h = some z → V X G 4 (QI X G z) h 4 [(0, .ref (G.1 7)), (1, .int v1), (2, .int v2), (3, .int v3)] []) (v1 : Int32) (v2 : Int32) (v3 : Int32) (h : Hp) (e : f_X5_taken_b4 7 N k4 v1 v2 v3 h = some z) : V X G 4 (QI X G z) h 4 [(0, .ref (G.1 7)), (1, .int v1), (2, .int v2), (3, .int v3)] [] := by
  unfold f_X5_taken_b4 at e
  refine v_iload_n O dX5_taken_4 3 rfl rfl ?_
  refine v_aload_n O dX5_taken_5 0 rfl rfl ?_
  refine v_get O fd_X5_taken_34 (g25 O (by decide)) (cg_7 G _) rfl dX5_taken_6 ?_
  refine v_icmp_ge O dX5_taken_9 28 (by decide) e (fun e => ?_) (fun e => ?_)
  · refine v_iload_n O dX5_taken_28 2 rfl rfl ?_
    exact v_iret O dX5_taken_29 e
  · refine v_iload_n O dX5_taken_12 2 rfl rfl ?_
    refine v_iconst (v := 1) O dX5_taken_13 (by decide) ?_
    refine v_iload_n O dX5_taken_14 3 rfl rfl ?_
    refine v_iload_n O dX5_taken_15 1 rfl rfl ?_
    refine v_cNi O [.int v3, .int v1] [.int 1, .int v2] 11 rfl gX5_taken_X7_placeOf_n53 sn_X5_taken_X7_placeOf.1 sn_X5_taken_X7_placeOf.2 cw_X5_taken_X7_placeOf rfl rfl (Nat.le_of_ble_eq_true rfl) dX5_taken_16 e (fun _ e9 => f_X7_placeOf_ok e9) (fun r1 h2 e => ?_)
    refine v_ishl O dX5_taken_19 ?_
    refine v_ior O dX5_taken_20 ?_
    refine v_istore_n O dX5_taken_21 rfl (by decide) (fun x3 => [(2, .int x3), (0, .ref (G.1 7)), (1, .int v1), (3, .int v3)]) (fun _ => rfl) e (fun x3 e => ?_)
    refine v_iinc (v := 1) O dX5_taken_22 3 rfl (by decide) (by decide) (fun x4 => [(3, .int x4), (2, .int x3), (0, .ref (G.1 7)), (1, .int v1)]) (fun _ => rfl) e (fun x4 e => ?_)
    refine v_goto O dX5_taken_25 4 (by decide) ?_
    refine v_sub [2, 3, 1, 0] rfl ?_
    exact hk4 _ _ _ _ e
theorem f_X5_taken_l4_ok_7 {X : Cx} {G : Gx} {z : Rs} (O : Ok X G cX5_taken RX5 4 wsX5_taken (some .int) rm_X5_taken) (N : Nat) : ∀ (n : Nat) (v1 : Int32) (v2 : Int32) (v3 : Int32) (h : Hp), f_X5_taken_l4 7 N n v1 v2 v3 h = some z → V X G 4 (QI X G z) h 4 [(0, .ref (G.1 7)), (1, .int v1), (2, .int v2), (3, .int v3)] [] := by
  intro n
  induction n with
  | zero => intro v1 v2 v3 h e; cases e
  | succ n ih => intro v1 v2 v3 h e; exact f_X5_taken_b4_ok_7 O N _ ih v1 v2 v3 h e
set_option maxRecDepth 20000 in
theorem f_X5_taken_ok_7 {l : Launch} {G : Gx} {N : Nat} {a0 : Int32} {h : Hp} {z : Rs} (e : f_X5_taken 7 N a0 h = some z) : CI l G yX5_taken wsX5_taken rm_X5_taken [.ref (G.1 7), .int a0] h z := by
  refine m_int _ (by decide) rfl [(0, .ref (G.1 7)), (1, .int a0)] rfl (Nat.le_of_ble_eq_true rfl) (fun X O => ?_)
  unfold f_X5_taken at e
  refine v_iconst (v := 0) O dX5_taken_0 (by decide) ?_
  refine v_istore_n O dX5_taken_1 rfl (by decide) (fun x1 => [(2, .int x1), (0, .ref (G.1 7)), (1, .int a0)]) (fun _ => rfl) e (fun x1 e => ?_)
  refine v_iconst (v := 0) O dX5_taken_2 (by decide) ?_
  refine v_istore_n O dX5_taken_3 rfl (by decide) (fun x2 => [(3, .int x2), (2, .int x1), (0, .ref (G.1 7)), (1, .int a0)]) (fun _ => rfl) e (fun x2 e => ?_)
  refine v_sub [2, 3, 1, 0] rfl ?_
  exact f_X5_taken_l4_ok_7 O N N _ _ _ _ e
/-! ===== X1 openTo ===== -/
abbrev rm_X1_openTo : Room := { frames := 2, cells := 0, slots := 0, locals := 50 }
theorem fd_X1_openTo_9 : FdO wsX1_openTo RX1 9 RX1 TX1 2 1 0 := ⟨by decide +kernel, rfl, by decide, by decide +kernel⟩
theorem fd_X1_openTo_15 : FdO wsX1_openTo RX1 15 RX1 TX1 2 1 1 := ⟨by decide +kernel, rfl, by decide, by decide +kernel⟩
theorem fd_X1_openTo_35 : FdO wsX1_openTo RX1 35 RX5 TX5 9 5 3 := ⟨by decide +kernel, rfl, by decide, by decide +kernel⟩
theorem fd_X1_openTo_41 : FdO wsX1_openTo RX1 41 RX5 TX5 9 5 8 := ⟨by decide +kernel, rfl, by decide, by decide +kernel⟩
theorem fd_X1_openTo_49 : FdO wsX1_openTo RX1 49 RX5 TX5 9 5 7 := ⟨by decide +kernel, rfl, by decide, by decide +kernel⟩
theorem cw_X1_openTo_X0_reached : CwO rm_X1_openTo yX0_reached wsX0_reached cX0_reached 10 (some .int) rm_X0_reached 4 := ⟨⟨_, rfl⟩, rfl, rfl, by decide +kernel, by decide, by decide⟩
theorem cw_X1_openTo_X5_taken : CwO rm_X1_openTo yX5_taken wsX5_taken cX5_taken 4 (some .int) rm_X5_taken 1 := ⟨⟨_, rfl⟩, rfl, rfl, by decide +kernel, by decide, by decide⟩
theorem cw_X1_openTo_X7_placeOf : CwO rm_X1_openTo yX7_placeOf wsX7_placeOf cX7_placeOf 2 (some .int) rm_X7_placeOf 2 := ⟨⟨_, rfl⟩, rfl, rfl, by decide +kernel, by decide, by decide⟩
theorem sn_X1_openTo_X7_placeOf : Cond.static yX7_placeOf ∈ wsX1_openTo ∧ Cond.initialized yX7_placeOf.cls ∈ wsX1_openTo := ⟨by decide +kernel, by decide +kernel⟩
set_option maxRecDepth 20000 in
theorem f_X1_openTo_b9_ok {X : Cx} {G : Gx} {z : Rs} (O : Ok X G cX1_openTo RX1 6 wsX1_openTo (some .int) rm_X1_openTo) (N : Nat) (h : Hp) (e : f_X1_openTo_b9 N h = some z) : V X G 6 (QI X G z) h 9 [] [] := by
  unfold f_X1_openTo_b9 at e
  refine v_iconst (v := 0) O dX1_openTo_9 (by decide) ?_
  exact v_iret O dX1_openTo_10 e
set_option maxRecDepth 20000 in
theorem f_X1_openTo_b39_ok {X : Cx} {G : Gx} {z : Rs} (O : Ok X G cX1_openTo RX1 6 wsX1_openTo (some .int) rm_X1_openTo) (N : Nat) (v1 : Int32) (v2 : Int32) (v4 : Int32) (h : Hp) (e : f_X1_openTo_b39 N v1 v2 v4 h = some z) : V X G 6 (QI X G z) h 39 [(0, .ref (G.1 12)), (1, .int v1), (2, .int v2), (4, .int v4)] [] := by
  unfold f_X1_openTo_b39 at e
  refine v_aload_n O dX1_openTo_39 0 rfl rfl ?_
  refine v_get O fd_X1_openTo_9 (g25 O (by decide)) (cg_12 G _) rfl dX1_openTo_40 ?_
  refine v_iload_n O dX1_openTo_43 2 rfl rfl ?_
  refine v_cVi O [.int v2] [] gX1_openTo_X5_taken cw_X1_openTo_X5_taken rfl rfl (g25 O (by decide)) (cg_1 G _) rfl rfl (Nat.le_of_ble_eq_true rfl) dX1_openTo_44 e (fun _ e9 => f_X5_taken_ok_1 e9) (fun r1 h2 e => ?_)
  refine v_istore O dX1_openTo_47 (by decide) (fun x3 => [(5, .int x3), (0, .ref (G.1 12)), (1, .int v1), (2, .int v2), (4, .int v4)]) (fun _ => rfl) e (fun x3 e => ?_)
  refine v_aload_n O dX1_openTo_49 1 rfl rfl ?_
  refine v_get O fd_X1_openTo_15 (g25 O (by decide)) (cg_12 G _) rfl dX1_openTo_50 ?_
  refine v_aload_n O dX1_openTo_53 1 rfl rfl ?_
  refine v_get O fd_X1_openTo_9 (g25 O (by decide)) (cg_12 G _) rfl dX1_openTo_54 ?_
  refine v_get O fd_X1_openTo_49 (g25 O (by decide)) (cg_1 G _) rfl dX1_openTo_57 ?_
  refine v_iload_n O dX1_openTo_60 2 rfl rfl ?_
  refine v_iald O (g25 O (by decide)) (cg_2 G _) dX1_openTo_61 e (fun e => ?_)
  refine v_iload_n O dX1_openTo_62 2 rfl rfl ?_
  refine v_iload_n O dX1_openTo_63 3 rfl rfl ?_
  refine v_cNi O [.int v1, .int v2] [.int (h2.1 2 (ix v1)), .ref (G.1 10)] 4 rfl gX1_openTo_X7_placeOf_n52 sn_X1_openTo_X7_placeOf.1 sn_X1_openTo_X7_placeOf.2 cw_X1_openTo_X7_placeOf rfl rfl (Nat.le_of_ble_eq_true rfl) dX1_openTo_64 e (fun _ e9 => f_X7_placeOf_ok e9) (fun r4 h5 e => ?_)
  refine v_iload O dX1_openTo_67 4 rfl ?_
  refine v_iload O dX1_openTo_69 0 rfl ?_
  refine v_cVi O [.int (h2.1 2 (ix v1)), .int r4, .int v4, .int x3] [] gX1_openTo_X0_reached cw_X1_openTo_X0_reached rfl rfl (g25 O (by decide)) (cg_10 G _) rfl rfl (Nat.le_of_ble_eq_true rfl) dX1_openTo_71 e (fun _ e9 => f_X0_reached_ok e9) (fun r6 h7 e => ?_)
  refine v_iload O dX1_openTo_74 0 rfl ?_
  refine v_iconst (v := (-1)) O dX1_openTo_76 (by decide) ?_
  refine v_ixor O dX1_openTo_77 ?_
  refine v_iand O dX1_openTo_78 ?_
  exact v_iret O dX1_openTo_79 e
set_option maxRecDepth 20000 in
theorem f_X1_openTo_ok {l : Launch} {G : Gx} {N : Nat} {a0 : Int32} {a1 : Int32} {a2 : Int32} {a3 : Int32} {h : Hp} {z : Rs} (e : f_X1_openTo N a0 a1 a2 a3 h = some z) : CI l G yX1_openTo wsX1_openTo rm_X1_openTo [.ref (G.1 12), .int a0, .int a1, .int a2, .int a3] h z := by
  refine m_int _ (by decide) rfl [(0, .ref (G.1 12)), (1, .int a0), (2, .int a1), (3, .int a2), (4, .int a3)] rfl (Nat.le_of_ble_eq_true rfl) (fun X O => ?_)
  unfold f_X1_openTo at e
  refine v_iload_n O dX1_openTo_0 1 rfl rfl ?_
  refine v_if_lt O dX1_openTo_1 9 (by decide) e (fun e => ?_) (fun e => ?_)
  · refine v_sub [] rfl ?_
    exact f_X1_openTo_b9_ok O N _ e
  · refine v_iload_n O dX1_openTo_4 1 rfl rfl ?_
    refine v_iconst (v := 4) O dX1_openTo_5 (by decide) ?_
    refine v_icmp_lt O dX1_openTo_6 11 (by decide) e (fun e => ?_) (fun e => ?_)
    · refine v_aload_n O dX1_openTo_11 0 rfl rfl ?_
      refine v_get O fd_X1_openTo_9 (g25 O (by decide)) (cg_12 G _) rfl dX1_openTo_12 ?_
      refine v_get O fd_X1_openTo_35 (g25 O (by decide)) (cg_1 G _) rfl dX1_openTo_15 ?_
      refine v_iconst (v := 1) O dX1_openTo_18 (by decide) ?_
      refine v_icmp_ne O dX1_openTo_19 39 (by decide) e (fun e => ?_) (fun e => ?_)
      · refine v_sub [0, 1, 2, 4] rfl ?_
        exact f_X1_openTo_b39_ok O N _ _ _ _ e
      · refine v_aload_n O dX1_openTo_22 0 rfl rfl ?_
        refine v_get O fd_X1_openTo_9 (g25 O (by decide)) (cg_12 G _) rfl dX1_openTo_23 ?_
        refine v_get O fd_X1_openTo_41 (g25 O (by decide)) (cg_1 G _) rfl dX1_openTo_26 ?_
        refine v_iload_n O dX1_openTo_29 1 rfl rfl ?_
        refine v_iald O (g25 O (by decide)) (cg_3 G _) dX1_openTo_30 e (fun e => ?_)
        refine v_iload_n O dX1_openTo_31 3 rfl rfl ?_
        refine v_iconst (v := 1) O dX1_openTo_32 (by decide) ?_
        refine v_iand O dX1_openTo_33 ?_
        refine v_icmp_eq O dX1_openTo_34 39 (by decide) e (fun e => ?_) (fun e => ?_)
        · refine v_sub [0, 1, 2, 4] rfl ?_
          exact f_X1_openTo_b39_ok O N _ _ _ _ e
        · refine v_iconst (v := 0) O dX1_openTo_37 (by decide) ?_
          exact v_iret O dX1_openTo_38 e
    · refine v_sub [] rfl ?_
      exact f_X1_openTo_b9_ok O N _ e
/-! ===== X4 add ===== -/
abbrev rm_X4_add : Room := { frames := 0, cells := 0, slots := 0, locals := 0 }
theorem fd_X4_add_15 : FdO wsX4_add RX4 15 RX4 TX4 8 4 3 := ⟨by decide +kernel, rfl, by decide, by decide +kernel⟩
theorem fd_X4_add_18 : FdO wsX4_add RX4 18 RX4 TX4 8 4 4 := ⟨by decide +kernel, rfl, by decide, by decide +kernel⟩
theorem fd_X4_add_21 : FdO wsX4_add RX4 21 RX4 TX4 8 4 5 := ⟨by decide +kernel, rfl, by decide, by decide +kernel⟩
theorem fd_X4_add_32 : FdO wsX4_add RX4 32 RX4 TX4 8 4 6 := ⟨by decide +kernel, rfl, by decide, by decide +kernel⟩
set_option maxRecDepth 20000 in
theorem f_X4_add_ok {l : Launch} {G : Gx} {N : Nat} {a0 : Int32} {a1 : Int32} {a2 : Int32} {h : Hp} {z : Rs} (e : f_X4_add N a0 a1 a2 h = some z) : CV l G yX4_add wsX4_add rm_X4_add [.ref (G.1 15), .int a0, .int a1, .int a2] h z := by
  refine m_void _ (by decide) rfl [(0, .ref (G.1 15)), (1, .int a0), (2, .int a1), (3, .int a2)] rfl (Nat.le_of_ble_eq_true rfl) (fun X O => ?_)
  unfold f_X4_add at e
  refine v_aload_n O dX4_add_0 0 rfl rfl ?_
  refine v_get O fd_X4_add_32 (g25 O (by decide)) (cg_15 G _) rfl dX4_add_1 ?_
  refine v_sipush (v := 23760) O dX4_add_4 (by decide) ?_
  refine v_icmp_lt O dX4_add_7 11 (by decide) e (fun e => ?_) (fun e => ?_)
  · refine v_aload_n O dX4_add_11 0 rfl rfl ?_
    refine v_get O fd_X4_add_15 (g25 O (by decide)) (cg_15 G _) rfl dX4_add_12 ?_
    refine v_aload_n O dX4_add_15 0 rfl rfl ?_
    refine v_get O fd_X4_add_32 (g25 O (by decide)) (cg_15 G _) rfl dX4_add_16 ?_
    refine v_iload_n O dX4_add_19 1 rfl rfl ?_
    refine v_iast O (g25 O (by decide)) (cg_17 G _) (cw_17 G _ _ _) dX4_add_20 e (fun h1 e => ?_)
    refine v_aload_n O dX4_add_21 0 rfl rfl ?_
    refine v_get O fd_X4_add_18 (g25 O (by decide)) (cg_15 G _) rfl dX4_add_22 ?_
    refine v_aload_n O dX4_add_25 0 rfl rfl ?_
    refine v_get O fd_X4_add_32 (g25 O (by decide)) (cg_15 G _) rfl dX4_add_26 ?_
    refine v_iload_n O dX4_add_29 2 rfl rfl ?_
    refine v_iast O (g25 O (by decide)) (cg_18 G _) (cw_18 G _ _ _) dX4_add_30 e (fun h2 e => ?_)
    refine v_aload_n O dX4_add_31 0 rfl rfl ?_
    refine v_get O fd_X4_add_21 (g25 O (by decide)) (cg_15 G _) rfl dX4_add_32 ?_
    refine v_aload_n O dX4_add_35 0 rfl rfl ?_
    refine v_get O fd_X4_add_32 (g25 O (by decide)) (cg_15 G _) rfl dX4_add_36 ?_
    refine v_iload_n O dX4_add_39 3 rfl rfl ?_
    refine v_iast O (g25 O (by decide)) (cg_19 G _) (cw_19 G _ _ _) dX4_add_40 e (fun h3 e => ?_)
    refine v_aload_n O dX4_add_41 0 rfl rfl ?_
    refine v_dup O dX4_add_42 rfl ?_
    refine v_get O fd_X4_add_32 (g25 O (by decide)) (cg_15 G _) rfl dX4_add_43 ?_
    refine v_iconst (v := 1) O dX4_add_46 (by decide) ?_
    refine v_iadd O dX4_add_47 ?_
    refine v_put O fd_X4_add_32 fp_X4_6 (g25 O (by decide)) (cg_15 G _) (Nat.le_of_ble_eq_true rfl) (cs_15_6 G _ _) dX4_add_48 e (fun h4 e => ?_)
    exact v_vret O dX4_add_51 e
  · exact v_vret O dX4_add_10 e
