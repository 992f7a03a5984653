theorem cw_L_law_X7_added : CwO room_1 yX7_added wsX7_added cX7_added 2 (some .int) rm_X7_added 1 := ⟨⟨_, rfl⟩, rfl, rfl, by decide +kernel, by decide, by decide⟩
theorem cw_L_law_X7_alike : CwO room_1 yX7_alike wsX7_alike cX7_alike 1 (some .int) rm_X7_alike 0 := ⟨⟨_, rfl⟩, rfl, rfl, by decide +kernel, by decide, by decide⟩
theorem cw_L_law_X7_as : CwO room_1 yX7_as wsX7_as cX7_as 3 (some .int) rm_X7_as 2 := ⟨⟨_, rfl⟩, rfl, rfl, by decide +kernel, by decide, by decide⟩
theorem cw_L_law_X7_attacked : CwO room_1 yX7_attacked wsX7_attacked cX7_attacked 1 (some .int) rm_X7_attacked 0 := ⟨⟨_, rfl⟩, rfl, rfl, by decide +kernel, by decide, by decide⟩
theorem cw_L_law_X7_back : CwO room_1 yX7_back wsX7_back cX7_back 2 (some .int) rm_X7_back 1 := ⟨⟨_, rfl⟩, rfl, rfl, by decide +kernel, by decide, by decide⟩
theorem cw_L_law_X7_board : CwO room_1 yX7_board wsX7_board cX7_board 1 (some .int) rm_X7_board 0 := ⟨⟨_, rfl⟩, rfl, rfl, by decide +kernel, by decide, by decide⟩
theorem cw_L_law_X7_burn : CwO room_1 yX7_burn wsX7_burn cX7_burn 2 (some .int) rm_X7_burn 0 := ⟨⟨_, rfl⟩, rfl, rfl, by decide +kernel, by decide, by decide⟩
theorem cw_L_law_X7_count : CwO room_1 yX7_count wsX7_count cX7_count 2 (some .int) rm_X7_count 1 := ⟨⟨_, rfl⟩, rfl, rfl, by decide +kernel, by decide, by decide⟩
theorem cw_L_law_X7_erase : CwO room_1 yX7_erase wsX7_erase cX7_erase 2 (some .int) rm_X7_erase 0 := ⟨⟨_, rfl⟩, rfl, rfl, by decide +kernel, by decide, by decide⟩
theorem cw_L_law_X7_farthest : CwO room_1 yX7_farthest wsX7_farthest cX7_farthest 3 (some .int) rm_X7_farthest 1 := ⟨⟨_, rfl⟩, rfl, rfl, by decide +kernel, by decide, by decide⟩
theorem cw_L_law_X7_fault : CwO room_1 yX7_fault wsX7_fault cX7_fault 1 (some .int) rm_X7_fault 0 := ⟨⟨_, rfl⟩, rfl, rfl, by decide +kernel, by decide, by decide⟩
theorem cw_L_law_X7_fewest : CwO room_1 yX7_fewest wsX7_fewest cX7_fewest 1 (some .int) rm_X7_fewest 0 := ⟨⟨_, rfl⟩, rfl, rfl, by decide +kernel, by decide, by decide⟩
theorem cw_L_law_X7_hop : CwO room_1 yX7_hop wsX7_hop cX7_hop 3 (some .int) rm_X7_hop 2 := ⟨⟨_, rfl⟩, rfl, rfl, by decide +kernel, by decide, by decide⟩
theorem cw_L_law_X7_judge : CwO room_1 yX7_judge wsX7_judge cX7_judge 4 (some .int) rm_X7_judge 0 := ⟨⟨_, rfl⟩, rfl, rfl, by decide +kernel, by decide, by decide⟩
theorem cw_L_law_X7_keep : CwO room_1 yX7_keep wsX7_keep cX7_keep 2 (some .int) rm_X7_keep 1 := ⟨⟨_, rfl⟩, rfl, rfl, by decide +kernel, by decide, by decide⟩
theorem cw_L_law_X7_left : CwO room_1 yX7_left wsX7_left cX7_left 3 (some .int) rm_X7_left 1 := ⟨⟨_, rfl⟩, rfl, rfl, by decide +kernel, by decide, by decide⟩
theorem cw_L_law_X7_man : CwO room_1 yX7_man wsX7_man cX7_man 3 (some .int) rm_X7_man 2 := ⟨⟨_, rfl⟩, rfl, rfl, by decide +kernel, by decide, by decide⟩
theorem cw_L_law_X7_many : CwO room_1 yX7_many wsX7_many cX7_many 2 (some .int) rm_X7_many 1 := ⟨⟨_, rfl⟩, rfl, rfl, by decide +kernel, by decide, by decide⟩
theorem cw_L_law_X7_may : CwO room_1 yX7_may wsX7_may cX7_may 2 (some .int) rm_X7_may 1 := ⟨⟨_, rfl⟩, rfl, rfl, by decide +kernel, by decide, by decide⟩
theorem cw_L_law_X7_net : CwO room_1 yX7_net wsX7_net cX7_net 3 (some .int) rm_X7_net 2 := ⟨⟨_, rfl⟩, rfl, rfl, by decide +kernel, by decide, by decide⟩
theorem cw_L_law_X7_part : CwO room_1 yX7_part wsX7_part cX7_part 3 (some .int) rm_X7_part 2 := ⟨⟨_, rfl⟩, rfl, rfl, by decide +kernel, by decide, by decide⟩
theorem cw_L_law_X7_ring : CwO room_1 yX7_ring wsX7_ring cX7_ring 5 (some .int) rm_X7_ring 3 := ⟨⟨_, rfl⟩, rfl, rfl, by decide +kernel, by decide, by decide⟩
theorem cw_L_law_X7_row : CwO room_1 yX7_row wsX7_row cX7_row 3 (some .int) rm_X7_row 2 := ⟨⟨_, rfl⟩, rfl, rfl, by decide +kernel, by decide, by decide⟩
theorem cw_L_law_X7_shape : CwO room_1 yX7_shape wsX7_shape cX7_shape 3 (some .int) rm_X7_shape 2 := ⟨⟨_, rfl⟩, rfl, rfl, by decide +kernel, by decide, by decide⟩
theorem cw_L_law_X7_square : CwO room_1 yX7_square wsX7_square cX7_square 3 (some .int) rm_X7_square 2 := ⟨⟨_, rfl⟩, rfl, rfl, by decide +kernel, by decide, by decide⟩
theorem cw_L_law_X7_turned : CwO room_1 yX7_turned wsX7_turned cX7_turned 4 (some .int) rm_X7_turned 1 := ⟨⟨_, rfl⟩, rfl, rfl, by decide +kernel, by decide, by decide⟩
theorem cw_L_law_X7_way : CwO room_1 yX7_way wsX7_way cX7_way 3 (some .int) rm_X7_way 2 := ⟨⟨_, rfl⟩, rfl, rfl, by decide +kernel, by decide, by decide⟩
theorem cw_L_law_X7_write : CwO room_1 yX7_write wsX7_write cX7_write 5 (some .int) rm_X7_write 2 := ⟨⟨_, rfl⟩, rfl, rfl, by decide +kernel, by decide, by decide⟩
theorem cw_L_law_X8_added : CwO room_1 yX8_added wsX8_added cX8_added 3 (some .int) rm_X8_added 1 := ⟨⟨_, rfl⟩, rfl, rfl, by decide +kernel, by decide, by decide⟩
theorem cw_L_law_X8_alike : CwO room_1 yX8_alike wsX8_alike cX8_alike 1 (some .int) rm_X8_alike 0 := ⟨⟨_, rfl⟩, rfl, rfl, by decide +kernel, by decide, by decide⟩
theorem cw_L_law_X8_as : CwO room_1 yX8_as wsX8_as cX8_as 5 (some .int) rm_X8_as 2 := ⟨⟨_, rfl⟩, rfl, rfl, by decide +kernel, by decide, by decide⟩
theorem cw_L_law_X8_attacked : CwO room_1 yX8_attacked wsX8_attacked cX8_attacked 1 (some .int) rm_X8_attacked 0 := ⟨⟨_, rfl⟩, rfl, rfl, by decide +kernel, by decide, by decide⟩
theorem cw_L_law_X8_back : CwO room_1 yX8_back wsX8_back cX8_back 3 (some .int) rm_X8_back 1 := ⟨⟨_, rfl⟩, rfl, rfl, by decide +kernel, by decide, by decide⟩
theorem cw_L_law_X8_board : CwO room_1 yX8_board wsX8_board cX8_board 2 (some .int) rm_X8_board 0 := ⟨⟨_, rfl⟩, rfl, rfl, by decide +kernel, by decide, by decide⟩
theorem cw_L_law_X8_burn : CwO room_1 yX8_burn wsX8_burn cX8_burn 2 (some .int) rm_X8_burn 0 := ⟨⟨_, rfl⟩, rfl, rfl, by decide +kernel, by decide, by decide⟩
theorem cw_L_law_X8_count : CwO room_1 yX8_count wsX8_count cX8_count 4 (some .int) rm_X8_count 1 := ⟨⟨_, rfl⟩, rfl, rfl, by decide +kernel, by decide, by decide⟩
theorem cw_L_law_X8_erase : CwO room_1 yX8_erase wsX8_erase cX8_erase 2 (some .int) rm_X8_erase 0 := ⟨⟨_, rfl⟩, rfl, rfl, by decide +kernel, by decide, by decide⟩
theorem cw_L_law_X8_farthest : CwO room_1 yX8_farthest wsX8_farthest cX8_farthest 5 (some .int) rm_X8_farthest 1 := ⟨⟨_, rfl⟩, rfl, rfl, by decide +kernel, by decide, by decide⟩
theorem cw_L_law_X8_fault : CwO room_1 yX8_fault wsX8_fault cX8_fault 1 (some .int) rm_X8_fault 0 := ⟨⟨_, rfl⟩, rfl, rfl, by decide +kernel, by decide, by decide⟩
theorem cw_L_law_X8_fewest : CwO room_1 yX8_fewest wsX8_fewest cX8_fewest 1 (some .int) rm_X8_fewest 0 := ⟨⟨_, rfl⟩, rfl, rfl, by decide +kernel, by decide, by decide⟩
theorem cw_L_law_X8_hop : CwO room_1 yX8_hop wsX8_hop cX8_hop 3 (some .int) rm_X8_hop 2 := ⟨⟨_, rfl⟩, rfl, rfl, by decide +kernel, by decide, by decide⟩
theorem cw_L_law_X8_judge : CwO room_1 yX8_judge wsX8_judge cX8_judge 2 (some .int) rm_X8_judge 0 := ⟨⟨_, rfl⟩, rfl, rfl, by decide +kernel, by decide, by decide⟩
theorem cw_L_law_X8_keep : CwO room_1 yX8_keep wsX8_keep cX8_keep 3 (some .int) rm_X8_keep 1 := ⟨⟨_, rfl⟩, rfl, rfl, by decide +kernel, by decide, by decide⟩
theorem cw_L_law_X8_left : CwO room_1 yX8_left wsX8_left cX8_left 4 (some .int) rm_X8_left 1 := ⟨⟨_, rfl⟩, rfl, rfl, by decide +kernel, by decide, by decide⟩
theorem cw_L_law_X8_man : CwO room_1 yX8_man wsX8_man cX8_man 3 (some .int) rm_X8_man 2 := ⟨⟨_, rfl⟩, rfl, rfl, by decide +kernel, by decide, by decide⟩
theorem cw_L_law_X8_many : CwO room_1 yX8_many wsX8_many cX8_many 4 (some .int) rm_X8_many 1 := ⟨⟨_, rfl⟩, rfl, rfl, by decide +kernel, by decide, by decide⟩
theorem cw_L_law_X8_may : CwO room_1 yX8_may wsX8_may cX8_may 2 (some .int) rm_X8_may 1 := ⟨⟨_, rfl⟩, rfl, rfl, by decide +kernel, by decide, by decide⟩
theorem cw_L_law_X8_net : CwO room_1 yX8_net wsX8_net cX8_net 3 (some .int) rm_X8_net 2 := ⟨⟨_, rfl⟩, rfl, rfl, by decide +kernel, by decide, by decide⟩
theorem cw_L_law_X8_part : CwO room_1 yX8_part wsX8_part cX8_part 3 (some .int) rm_X8_part 2 := ⟨⟨_, rfl⟩, rfl, rfl, by decide +kernel, by decide, by decide⟩
theorem cw_L_law_X8_ring : CwO room_1 yX8_ring wsX8_ring cX8_ring 4 (some .int) rm_X8_ring 3 := ⟨⟨_, rfl⟩, rfl, rfl, by decide +kernel, by decide, by decide⟩
theorem cw_L_law_X8_row : CwO room_1 yX8_row wsX8_row cX8_row 3 (some .int) rm_X8_row 2 := ⟨⟨_, rfl⟩, rfl, rfl, by decide +kernel, by decide, by decide⟩
theorem cw_L_law_X8_shape : CwO room_1 yX8_shape wsX8_shape cX8_shape 3 (some .int) rm_X8_shape 2 := ⟨⟨_, rfl⟩, rfl, rfl, by decide +kernel, by decide, by decide⟩
theorem cw_L_law_X8_square : CwO room_1 yX8_square wsX8_square cX8_square 6 (some .int) rm_X8_square 2 := ⟨⟨_, rfl⟩, rfl, rfl, by decide +kernel, by decide, by decide⟩
theorem cw_L_law_X8_turned : CwO room_1 yX8_turned wsX8_turned cX8_turned 12 (some .int) rm_X8_turned 1 := ⟨⟨_, rfl⟩, rfl, rfl, by decide +kernel, by decide, by decide⟩
theorem cw_L_law_X8_way : CwO room_1 yX8_way wsX8_way cX8_way 4 (some .int) rm_X8_way 2 := ⟨⟨_, rfl⟩, rfl, rfl, by decide +kernel, by decide, by decide⟩
theorem cw_L_law_X8_write : CwO room_1 yX8_write wsX8_write cX8_write 5 (some .int) rm_X8_write 2 := ⟨⟨_, rfl⟩, rfl, rfl, by decide +kernel, by decide, by decide⟩
set_option maxRecDepth 20000 in
set_option maxHeartbeats 4000000 in
theorem f_law_b874_ok {X : Cx} {G : Gx} {z : Rs} {b L : Nat} {xs : Nat → Int32} (hz : z.1 = 1) (hB : LX X G b L xs) (h41 : 41 ≤ gN G) (O : Ok X G cL_law RL 4 wsL_law (some .boolean) room_1) (N : Nat) (k18 : Int32 → Hp → Option Rs) (hk18 : ∀ (v3 : Int32) (h : Hp), k18 v3 h = some z → V X G 4 (QL X) h 18 [(0, .ref b), (1, .ref (G.1 0)), (2, .ref (G.1 25)), (3, .int v3)] []) (v3 : Int32) (h : Hp) (e : f_law_b874 L xs N k18 v3 h = some z) : V X G 4 (QL X) h 874 [(0, .ref b), (1, .ref (G.1 0)), (2, .ref (G.1 25)), (3, .int v3)] [] := by
  unfold f_law_b874 at e
  refine v_iinc (v := 4) O dL_law_874 3 rfl (by decide) (by decide) (fun x1 => [(3, .int x1), (0, .ref b), (1, .ref (G.1 0)), (2, .ref (G.1 25))]) (fun _ => rfl) e (fun x1 e => ?_)
  refine v_goto O dL_law_877 18 (by decide) ?_
  refine v_sub [1, 2, 3, 0] rfl ?_
  exact hk18 _ _ e
set_option maxRecDepth 20000 in
set_option maxHeartbeats 4000000 in
theorem f_law_b18_ok {X : Cx} {G : Gx} {z : Rs} {b L : Nat} {xs : Nat → Int32} (hz : z.1 = 1) (hB : LX X G b L xs) (h41 : 41 ≤ gN G) (O : Ok X G cL_law RL 4 wsL_law (some .boolean) room_1) (N : Nat) (k18 : Int32 → Hp → Option Rs) (hk18 : ∀ (v3 : Int32) (h : Hp), k18 v3 h = some z → V X G 4 (QL X) h 18 [(0, .ref b), (1, .ref (G.1 0)), (2, .ref (G.1 25)), (3, .int v3)] []) (v3 : Int32) (h : Hp) (e : f_law_b18 L xs N k18 v3 h = some z) : V X G 4 (QL X) h 18 [(0, .ref b), (1, .ref (G.1 0)), (2, .ref (G.1 25)), (3, .int v3)] [] := by
  unfold f_law_b18 at e
  refine v_iload_n O dL_law_18 3 rfl rfl ?_
  refine v_aload_n O dL_law_19 0 rfl rfl ?_
  refine v_slen O hB dL_law_20 ?_
  refine v_iconst (v := 4) O dL_law_21 (by decide) ?_
  refine v_isub O dL_law_22 ?_
  refine v_icmp_gt O dL_law_23 880 (by decide) e (fun e => ?_) (fun e => ?_)
  · refine v_iconst (v := 1) O dL_law_880 (by decide) ?_
    exact v_lret O hz hB dL_law_881 e
  · refine v_aload_n O dL_law_26 0 rfl rfl ?_
    refine v_iload_n O dL_law_27 3 rfl rfl ?_
    refine v_sld O hB dL_law_28 e (fun e => ?_)
    refine v_bipush (v := 31) O dL_law_29 (by decide) ?_
    refine v_iand O dL_law_31 ?_
    refine v_if (c := ((xs (ix v3)) &&& 31) = 0) e (fun c0 e => ?_) (fun c0 e => ?_)
    · refine v_tabIn O dL_law_32 c0 (by decide) (by decide) (by first | rfl | decide) 160 (by decide) ?_
      refine v_aload_n O dL_law_160 1 rfl rfl ?_
      refine v_aload_n O dL_law_161 0 rfl rfl ?_
      refine v_iload_n O dL_law_162 3 rfl rfl ?_
      refine v_iconst (v := 1) O dL_law_163 (by decide) ?_
      refine v_iadd O dL_law_164 ?_
      refine v_sld O hB dL_law_165 e (fun e => ?_)
      refine v_i2l O dL_law_166 ?_
      refine v_bipush (v := 32) O dL_law_167 (by decide) ?_
      refine v_lshl O dL_law_169 ?_
      refine v_aload_n O dL_law_170 0 rfl rfl ?_
      refine v_iload_n O dL_law_171 3 rfl rfl ?_
      refine v_iconst (v := 2) O dL_law_172 (by decide) ?_
      refine v_iadd O dL_law_173 ?_
      refine v_sld O hB dL_law_174 e (fun e => ?_)
      refine v_i2l O dL_law_175 ?_
      refine v_ldc2 (v := 4294967295) O dL_law_176 (by decide +kernel) ?_
      refine v_land O dL_law_179 ?_
      refine v_lor O dL_law_180 ?_
      refine v_aload_n O dL_law_181 0 rfl rfl ?_
      refine v_iload_n O dL_law_182 3 rfl rfl ?_
      refine v_iconst (v := 3) O dL_law_183 (by decide) ?_
      refine v_iadd O dL_law_184 ?_
      refine v_sld O hB dL_law_185 e (fun e => ?_)
      refine v_cVi O [.long ((((xs (ix (v3 + 1))).toInt64) <<< ((32 : Int32).toInt64 &&& 63)) ||| (((xs (ix (v3 + 2))).toInt64) &&& 4294967295)), .int (xs (ix (v3 + 3)))] [] gL_law_X7_write cw_L_law_X7_write rfl rfl (g41 h41 (by decide)) (cg_0 G _) rfl rfl (Nat.le_of_ble_eq_true rfl) dL_law_186 e (fun _ e9 => f_X7_write_ok e9) (fun r1 h2 e => ?_)
      refine v_aload_n O dL_law_189 2 rfl rfl ?_
      refine v_aload_n O dL_law_190 0 rfl rfl ?_
      refine v_iload_n O dL_law_191 3 rfl rfl ?_
      refine v_iconst (v := 1) O dL_law_192 (by decide) ?_
      refine v_iadd O dL_law_193 ?_
      refine v_sld O hB dL_law_194 e (fun e => ?_)
      refine v_i2l O dL_law_195 ?_
      refine v_bipush (v := 32) O dL_law_196 (by decide) ?_
      refine v_lshl O dL_law_198 ?_
      refine v_aload_n O dL_law_199 0 rfl rfl ?_
      refine v_iload_n O dL_law_200 3 rfl rfl ?_
      refine v_iconst (v := 2) O dL_law_201 (by decide) ?_
      refine v_iadd O dL_law_202 ?_
      refine v_sld O hB dL_law_203 e (fun e => ?_)
      refine v_i2l O dL_law_204 ?_
      refine v_ldc2 (v := 4294967295) O dL_law_205 (by decide +kernel) ?_
      refine v_land O dL_law_208 ?_
      refine v_lor O dL_law_209 ?_
      refine v_aload_n O dL_law_210 0 rfl rfl ?_
      refine v_iload_n O dL_law_211 3 rfl rfl ?_
      refine v_iconst (v := 3) O dL_law_212 (by decide) ?_
      refine v_iadd O dL_law_213 ?_
      refine v_sld O hB dL_law_214 e (fun e => ?_)
      refine v_cVi O [.long ((((xs (ix (v3 + 1))).toInt64) <<< ((32 : Int32).toInt64 &&& 63)) ||| (((xs (ix (v3 + 2))).toInt64) &&& 4294967295)), .int (xs (ix (v3 + 3)))] [.int r1] gL_law_X8_write cw_L_law_X8_write rfl rfl (g41 h41 (by decide)) (cg_25 G _) rfl rfl (Nat.le_of_ble_eq_true rfl) dL_law_215 e (fun _ e9 => f_X8_write_ok h41 e9) (fun r3 h4 e => ?_)
      refine v_icmp_eq O dL_law_218 874 (by decide) e (fun e => ?_) (fun e => ?_)
      · exact f_law_b874_ok hz hB h41 O N k18 hk18 _ _ e
      · refine v_iconst (v := 0) O dL_law_221 (by decide) ?_
        exact v_lret O hz hB dL_law_222 e
    refine v_if (c := ((xs (ix v3)) &&& 31) = 1) e (fun c1 e => ?_) (fun c1 e => ?_)
    · refine v_tabIn O dL_law_32 c1 (by decide) (by decide) (by first | rfl | decide) 223 (by decide) ?_
      refine v_aload_n O dL_law_223 1 rfl rfl ?_
      refine v_cVi O [] [] gL_law_X7_erase cw_L_law_X7_erase rfl rfl (g41 h41 (by decide)) (cg_0 G _) rfl rfl (Nat.le_of_ble_eq_true rfl) dL_law_224 e (fun _ e9 => f_X7_erase_ok e9) (fun r5 h6 e => ?_)
      refine v_aload_n O dL_law_227 2 rfl rfl ?_
      refine v_cVi O [] [.int r5] gL_law_X8_erase cw_L_law_X8_erase rfl rfl (g41 h41 (by decide)) (cg_25 G _) rfl rfl (Nat.le_of_ble_eq_true rfl) dL_law_228 e (fun _ e9 => f_X8_erase_ok h41 e9) (fun r7 h8 e => ?_)
      refine v_icmp_eq O dL_law_231 874 (by decide) e (fun e => ?_) (fun e => ?_)
      · exact f_law_b874_ok hz hB h41 O N k18 hk18 _ _ e
      · refine v_iconst (v := 0) O dL_law_234 (by decide) ?_
        exact v_lret O hz hB dL_law_235 e
    refine v_if (c := ((xs (ix v3)) &&& 31) = 2) e (fun c2 e => ?_) (fun c2 e => ?_)
    · refine v_tabIn O dL_law_32 c2 (by decide) (by decide) (by first | rfl | decide) 236 (by decide) ?_
      refine v_aload_n O dL_law_236 1 rfl rfl ?_
      refine v_cVi O [] [] gL_law_X7_fault cw_L_law_X7_fault rfl rfl (g41 h41 (by decide)) (cg_0 G _) rfl rfl (Nat.le_of_ble_eq_true rfl) dL_law_237 e (fun _ e9 => f_X7_fault_ok e9) (fun r9 h10 e => ?_)
      refine v_aload_n O dL_law_240 2 rfl rfl ?_
      refine v_cVi O [] [.int r9] gL_law_X8_fault cw_L_law_X8_fault rfl rfl (g41 h41 (by decide)) (cg_25 G _) rfl rfl (Nat.le_of_ble_eq_true rfl) dL_law_241 e (fun _ e9 => f_X8_fault_ok h41 e9) (fun r11 h12 e => ?_)
      refine v_icmp_eq O dL_law_244 874 (by decide) e (fun e => ?_) (fun e => ?_)
      · exact f_law_b874_ok hz hB h41 O N k18 hk18 _ _ e
      · refine v_iconst (v := 0) O dL_law_247 (by decide) ?_
        exact v_lret O hz hB dL_law_248 e
    refine v_if (c := ((xs (ix v3)) &&& 31) = 3) e (fun c3 e => ?_) (fun c3 e => ?_)
    · refine v_tabIn O dL_law_32 c3 (by decide) (by decide) (by first | rfl | decide) 249 (by decide) ?_
      refine v_aload_n O dL_law_249 1 rfl rfl ?_
      refine v_cVi O [] [] gL_law_X7_board cw_L_law_X7_board rfl rfl (g41 h41 (by decide)) (cg_0 G _) rfl rfl (Nat.le_of_ble_eq_true rfl) dL_law_250 e (fun _ e9 => f_X7_board_ok e9) (fun r13 h14 e => ?_)
      refine v_aload_n O dL_law_253 2 rfl rfl ?_
      refine v_cVi O [] [.int r13] gL_law_X8_board cw_L_law_X8_board rfl rfl (g41 h41 (by decide)) (cg_25 G _) rfl rfl (Nat.le_of_ble_eq_true rfl) dL_law_254 e (fun _ e9 => f_X8_board_ok h41 e9) (fun r15 h16 e => ?_)
      refine v_icmp_eq O dL_law_257 874 (by decide) e (fun e => ?_) (fun e => ?_)
      · exact f_law_b874_ok hz hB h41 O N k18 hk18 _ _ e
      · refine v_iconst (v := 0) O dL_law_260 (by decide) ?_
        exact v_lret O hz hB dL_law_261 e
    refine v_if (c := ((xs (ix v3)) &&& 31) = 4) e (fun c4 e => ?_) (fun c4 e => ?_)
    · refine v_tabIn O dL_law_32 c4 (by decide) (by decide) (by first | rfl | decide) 262 (by decide) ?_
      refine v_aload_n O dL_law_262 1 rfl rfl ?_
      refine v_aload_n O dL_law_263 0 rfl rfl ?_
      refine v_iload_n O dL_law_264 3 rfl rfl ?_
      refine v_iconst (v := 1) O dL_law_265 (by decide) ?_
      refine v_iadd O dL_law_266 ?_
      refine v_sld O hB dL_law_267 e (fun e => ?_)
      refine v_aload_n O dL_law_268 0 rfl rfl ?_
      refine v_iload_n O dL_law_269 3 rfl rfl ?_
      refine v_iconst (v := 2) O dL_law_270 (by decide) ?_
      refine v_iadd O dL_law_271 ?_
      refine v_sld O hB dL_law_272 e (fun e => ?_)
      refine v_cVi O [.int (xs (ix (v3 + 1))), .int (xs (ix (v3 + 2)))] [] gL_law_X7_square cw_L_law_X7_square rfl rfl (g41 h41 (by decide)) (cg_0 G _) rfl rfl (Nat.le_of_ble_eq_true rfl) dL_law_273 e (fun _ e9 => f_X7_square_ok e9) (fun r17 h18 e => ?_)
      refine v_aload_n O dL_law_276 2 rfl rfl ?_
      refine v_aload_n O dL_law_277 0 rfl rfl ?_
      refine v_iload_n O dL_law_278 3 rfl rfl ?_
      refine v_iconst (v := 1) O dL_law_279 (by decide) ?_
      refine v_iadd O dL_law_280 ?_
      refine v_sld O hB dL_law_281 e (fun e => ?_)
      refine v_aload_n O dL_law_282 0 rfl rfl ?_
      refine v_iload_n O dL_law_283 3 rfl rfl ?_
      refine v_iconst (v := 2) O dL_law_284 (by decide) ?_
      refine v_iadd O dL_law_285 ?_
      refine v_sld O hB dL_law_286 e (fun e => ?_)
      refine v_cVi O [.int (xs (ix (v3 + 1))), .int (xs (ix (v3 + 2)))] [.int r17] gL_law_X8_square cw_L_law_X8_square rfl rfl (g41 h41 (by decide)) (cg_25 G _) rfl rfl (Nat.le_of_ble_eq_true rfl) dL_law_287 e (fun _ e9 => f_X8_square_ok h41 e9) (fun r19 h20 e => ?_)
      refine v_icmp_eq O dL_law_290 874 (by decide) e (fun e => ?_) (fun e => ?_)
      · exact f_law_b874_ok hz hB h41 O N k18 hk18 _ _ e
      · refine v_iconst (v := 0) O dL_law_293 (by decide) ?_
        exact v_lret O hz hB dL_law_294 e
    refine v_if (c := ((xs (ix v3)) &&& 31) = 5) e (fun c5 e => ?_) (fun c5 e => ?_)
    · refine v_tabIn O dL_law_32 c5 (by decide) (by decide) (by first | rfl | decide) 295 (by decide) ?_
      refine v_aload_n O dL_law_295 1 rfl rfl ?_
      refine v_aload_n O dL_law_296 0 rfl rfl ?_
      refine v_iload_n O dL_law_297 3 rfl rfl ?_
      refine v_iconst (v := 1) O dL_law_298 (by decide) ?_
      refine v_iadd O dL_law_299 ?_
      refine v_sld O hB dL_law_300 e (fun e => ?_)
      refine v_aload_n O dL_law_301 0 rfl rfl ?_
      refine v_iload_n O dL_law_302 3 rfl rfl ?_
      refine v_iconst (v := 2) O dL_law_303 (by decide) ?_
      refine v_iadd O dL_law_304 ?_
      refine v_sld O hB dL_law_305 e (fun e => ?_)
      refine v_cVi O [.int (xs (ix (v3 + 1))), .int (xs (ix (v3 + 2)))] [] gL_law_X7_man cw_L_law_X7_man rfl rfl (g41 h41 (by decide)) (cg_0 G _) rfl rfl (Nat.le_of_ble_eq_true rfl) dL_law_306 e (fun _ e9 => f_X7_man_ok e9) (fun r21 h22 e => ?_)
      refine v_aload_n O dL_law_309 2 rfl rfl ?_
      refine v_aload_n O dL_law_310 0 rfl rfl ?_
      refine v_iload_n O dL_law_311 3 rfl rfl ?_
      refine v_iconst (v := 1) O dL_law_312 (by decide) ?_
      refine v_iadd O dL_law_313 ?_
      refine v_sld O hB dL_law_314 e (fun e => ?_)
      refine v_aload_n O dL_law_315 0 rfl rfl ?_
      refine v_iload_n O dL_law_316 3 rfl rfl ?_
      refine v_iconst (v := 2) O dL_law_317 (by decide) ?_
      refine v_iadd O dL_law_318 ?_
      refine v_sld O hB dL_law_319 e (fun e => ?_)
      refine v_cVi O [.int (xs (ix (v3 + 1))), .int (xs (ix (v3 + 2)))] [.int r21] gL_law_X8_man cw_L_law_X8_man rfl rfl (g41 h41 (by decide)) (cg_25 G _) rfl rfl (Nat.le_of_ble_eq_true rfl) dL_law_320 e (fun _ e9 => f_X8_man_ok h41 e9) (fun r23 h24 e => ?_)
      refine v_icmp_eq O dL_law_323 874 (by decide) e (fun e => ?_) (fun e => ?_)
      · exact f_law_b874_ok hz hB h41 O N k18 hk18 _ _ e
      · refine v_iconst (v := 0) O dL_law_326 (by decide) ?_
        exact v_lret O hz hB dL_law_327 e
    refine v_if (c := ((xs (ix v3)) &&& 31) = 6) e (fun c6 e => ?_) (fun c6 e => ?_)
    · refine v_tabIn O dL_law_32 c6 (by decide) (by decide) (by first | rfl | decide) 328 (by decide) ?_
      refine v_aload_n O dL_law_328 1 rfl rfl ?_
      refine v_aload_n O dL_law_329 0 rfl rfl ?_
      refine v_iload_n O dL_law_330 3 rfl rfl ?_
      refine v_iconst (v := 1) O dL_law_331 (by decide) ?_
      refine v_iadd O dL_law_332 ?_
      refine v_sld O hB dL_law_333 e (fun e => ?_)
      refine v_aload_n O dL_law_334 0 rfl rfl ?_
      refine v_iload_n O dL_law_335 3 rfl rfl ?_
      refine v_iconst (v := 2) O dL_law_336 (by decide) ?_
      refine v_iadd O dL_law_337 ?_
      refine v_sld O hB dL_law_338 e (fun e => ?_)
      refine v_cVi O [.int (xs (ix (v3 + 1))), .int (xs (ix (v3 + 2)))] [] gL_law_X7_as cw_L_law_X7_as rfl rfl (g41 h41 (by decide)) (cg_0 G _) rfl rfl (Nat.le_of_ble_eq_true rfl) dL_law_339 e (fun _ e9 => f_X7_as_ok e9) (fun r25 h26 e => ?_)
      refine v_aload_n O dL_law_342 2 rfl rfl ?_
      refine v_aload_n O dL_law_343 0 rfl rfl ?_
      refine v_iload_n O dL_law_344 3 rfl rfl ?_
      refine v_iconst (v := 1) O dL_law_345 (by decide) ?_
      refine v_iadd O dL_law_346 ?_
      refine v_sld O hB dL_law_347 e (fun e => ?_)
      refine v_aload_n O dL_law_348 0 rfl rfl ?_
      refine v_iload_n O dL_law_349 3 rfl rfl ?_
      refine v_iconst (v := 2) O dL_law_350 (by decide) ?_
      refine v_iadd O dL_law_351 ?_
      refine v_sld O hB dL_law_352 e (fun e => ?_)
      refine v_cVi O [.int (xs (ix (v3 + 1))), .int (xs (ix (v3 + 2)))] [.int r25] gL_law_X8_as cw_L_law_X8_as rfl rfl (g41 h41 (by decide)) (cg_25 G _) rfl rfl (Nat.le_of_ble_eq_true rfl) dL_law_353 e (fun _ e9 => f_X8_as_ok h41 e9) (fun r27 h28 e => ?_)
      refine v_icmp_eq O dL_law_356 874 (by decide) e (fun e => ?_) (fun e => ?_)
      · exact f_law_b874_ok hz hB h41 O N k18 hk18 _ _ e
      · refine v_iconst (v := 0) O dL_law_359 (by decide) ?_
        exact v_lret O hz hB dL_law_360 e
    refine v_if (c := ((xs (ix v3)) &&& 31) = 7) e (fun c7 e => ?_) (fun c7 e => ?_)
    · refine v_tabIn O dL_law_32 c7 (by decide) (by decide) (by first | rfl | decide) 361 (by decide) ?_
      refine v_aload_n O dL_law_361 1 rfl rfl ?_
      refine v_aload_n O dL_law_362 0 rfl rfl ?_
      refine v_iload_n O dL_law_363 3 rfl rfl ?_
      refine v_iconst (v := 1) O dL_law_364 (by decide) ?_
      refine v_iadd O dL_law_365 ?_
      refine v_sld O hB dL_law_366 e (fun e => ?_)
      refine v_cVi O [.int (xs (ix (v3 + 1)))] [] gL_law_X7_may cw_L_law_X7_may rfl rfl (g41 h41 (by decide)) (cg_0 G _) rfl rfl (Nat.le_of_ble_eq_true rfl) dL_law_367 e (fun _ e9 => f_X7_may_ok e9) (fun r29 h30 e => ?_)
      refine v_aload_n O dL_law_370 2 rfl rfl ?_
      refine v_aload_n O dL_law_371 0 rfl rfl ?_
      refine v_iload_n O dL_law_372 3 rfl rfl ?_
      refine v_iconst (v := 1) O dL_law_373 (by decide) ?_
      refine v_iadd O dL_law_374 ?_
      refine v_sld O hB dL_law_375 e (fun e => ?_)
      refine v_cVi O [.int (xs (ix (v3 + 1)))] [.int r29] gL_law_X8_may cw_L_law_X8_may rfl rfl (g41 h41 (by decide)) (cg_25 G _) rfl rfl (Nat.le_of_ble_eq_true rfl) dL_law_376 e (fun _ e9 => f_X8_may_ok h41 e9) (fun r31 h32 e => ?_)
      refine v_icmp_eq O dL_law_379 874 (by decide) e (fun e => ?_) (fun e => ?_)
      · exact f_law_b874_ok hz hB h41 O N k18 hk18 _ _ e
      · refine v_iconst (v := 0) O dL_law_382 (by decide) ?_
        exact v_lret O hz hB dL_law_383 e
    refine v_if (c := ((xs (ix v3)) &&& 31) = 8) e (fun c8 e => ?_) (fun c8 e => ?_)
    · refine v_tabIn O dL_law_32 c8 (by decide) (by decide) (by first | rfl | decide) 384 (by decide) ?_
      refine v_aload_n O dL_law_384 1 rfl rfl ?_
      refine v_aload_n O dL_law_385 0 rfl rfl ?_
      refine v_iload_n O dL_law_386 3 rfl rfl ?_
      refine v_iconst (v := 1) O dL_law_387 (by decide) ?_
      refine v_iadd O dL_law_388 ?_
      refine v_sld O hB dL_law_389 e (fun e => ?_)
      refine v_aload_n O dL_law_390 0 rfl rfl ?_
      refine v_iload_n O dL_law_391 3 rfl rfl ?_
      refine v_iconst (v := 2) O dL_law_392 (by decide) ?_
      refine v_iadd O dL_law_393 ?_
      refine v_sld O hB dL_law_394 e (fun e => ?_)
      refine v_cVi O [.int (xs (ix (v3 + 1))), .int (xs (ix (v3 + 2)))] [] gL_law_X7_hop cw_L_law_X7_hop rfl rfl (g41 h41 (by decide)) (cg_0 G _) rfl rfl (Nat.le_of_ble_eq_true rfl) dL_law_395 e (fun _ e9 => f_X7_hop_ok e9) (fun r33 h34 e => ?_)
      refine v_aload_n O dL_law_398 2 rfl rfl ?_
      refine v_aload_n O dL_law_399 0 rfl rfl ?_
      refine v_iload_n O dL_law_400 3 rfl rfl ?_
      refine v_iconst (v := 1) O dL_law_401 (by decide) ?_
      refine v_iadd O dL_law_402 ?_
      refine v_sld O hB dL_law_403 e (fun e => ?_)
      refine v_aload_n O dL_law_404 0 rfl rfl ?_
      refine v_iload_n O dL_law_405 3 rfl rfl ?_
      refine v_iconst (v := 2) O dL_law_406 (by decide) ?_
      refine v_iadd O dL_law_407 ?_
      refine v_sld O hB dL_law_408 e (fun e => ?_)
      refine v_cVi O [.int (xs (ix (v3 + 1))), .int (xs (ix (v3 + 2)))] [.int r33] gL_law_X8_hop cw_L_law_X8_hop rfl rfl (g41 h41 (by decide)) (cg_25 G _) rfl rfl (Nat.le_of_ble_eq_true rfl) dL_law_409 e (fun _ e9 => f_X8_hop_ok h41 e9) (fun r35 h36 e => ?_)
      refine v_icmp_eq O dL_law_412 874 (by decide) e (fun e => ?_) (fun e => ?_)
      · exact f_law_b874_ok hz hB h41 O N k18 hk18 _ _ e
      · refine v_iconst (v := 0) O dL_law_415 (by decide) ?_
        exact v_lret O hz hB dL_law_416 e
    refine v_if (c := ((xs (ix v3)) &&& 31) = 9) e (fun c9 e => ?_) (fun c9 e => ?_)
    · refine v_tabIn O dL_law_32 c9 (by decide) (by decide) (by first | rfl | decide) 417 (by decide) ?_
      refine v_aload_n O dL_law_417 1 rfl rfl ?_
      refine v_cVi O [] [] gL_law_X7_attacked cw_L_law_X7_attacked rfl rfl (g41 h41 (by decide)) (cg_0 G _) rfl rfl (Nat.le_of_ble_eq_true rfl) dL_law_418 e (fun _ e9 => f_X7_attacked_ok e9) (fun r37 h38 e => ?_)
      refine v_aload_n O dL_law_421 2 rfl rfl ?_
      refine v_cVi O [] [.int r37] gL_law_X8_attacked cw_L_law_X8_attacked rfl rfl (g41 h41 (by decide)) (cg_25 G _) rfl rfl (Nat.le_of_ble_eq_true rfl) dL_law_422 e (fun _ e9 => f_X8_attacked_ok h41 e9) (fun r39 h40 e => ?_)
      refine v_icmp_eq O dL_law_425 874 (by decide) e (fun e => ?_) (fun e => ?_)
      · exact f_law_b874_ok hz hB h41 O N k18 hk18 _ _ e
      · refine v_iconst (v := 0) O dL_law_428 (by decide) ?_
        exact v_lret O hz hB dL_law_429 e
    refine v_if (c := ((xs (ix v3)) &&& 31) = 10) e (fun c10 e => ?_) (fun c10 e => ?_)
    · refine v_tabIn O dL_law_32 c10 (by decide) (by decide) (by first | rfl | decide) 430 (by decide) ?_
      refine v_aload_n O dL_law_430 1 rfl rfl ?_
      refine v_aload_n O dL_law_431 0 rfl rfl ?_
      refine v_iload_n O dL_law_432 3 rfl rfl ?_
      refine v_iconst (v := 1) O dL_law_433 (by decide) ?_
      refine v_iadd O dL_law_434 ?_
      refine v_sld O hB dL_law_435 e (fun e => ?_)
      refine v_cVi O [.int (xs (ix (v3 + 1)))] [] gL_law_X7_keep cw_L_law_X7_keep rfl rfl (g41 h41 (by decide)) (cg_0 G _) rfl rfl (Nat.le_of_ble_eq_true rfl) dL_law_436 e (fun _ e9 => f_X7_keep_ok e9) (fun r41 h42 e => ?_)
      refine v_aload_n O dL_law_439 2 rfl rfl ?_
      refine v_aload_n O dL_law_440 0 rfl rfl ?_
      refine v_iload_n O dL_law_441 3 rfl rfl ?_
      refine v_iconst (v := 1) O dL_law_442 (by decide) ?_
      refine v_iadd O dL_law_443 ?_
      refine v_sld O hB dL_law_444 e (fun e => ?_)
      refine v_cVi O [.int (xs (ix (v3 + 1)))] [.int r41] gL_law_X8_keep cw_L_law_X8_keep rfl rfl (g41 h41 (by decide)) (cg_25 G _) rfl rfl (Nat.le_of_ble_eq_true rfl) dL_law_445 e (fun _ e9 => f_X8_keep_ok h41 e9) (fun r43 h44 e => ?_)
      refine v_icmp_eq O dL_law_448 874 (by decide) e (fun e => ?_) (fun e => ?_)
      · exact f_law_b874_ok hz hB h41 O N k18 hk18 _ _ e
      · refine v_iconst (v := 0) O dL_law_451 (by decide) ?_
        exact v_lret O hz hB dL_law_452 e
    refine v_if (c := ((xs (ix v3)) &&& 31) = 11) e (fun c11 e => ?_) (fun c11 e => ?_)
    · refine v_tabIn O dL_law_32 c11 (by decide) (by decide) (by first | rfl | decide) 453 (by decide) ?_
      refine v_aload_n O dL_law_453 1 rfl rfl ?_
      refine v_aload_n O dL_law_454 0 rfl rfl ?_
      refine v_iload_n O dL_law_455 3 rfl rfl ?_
      refine v_iconst (v := 1) O dL_law_456 (by decide) ?_
      refine v_iadd O dL_law_457 ?_
      refine v_sld O hB dL_law_458 e (fun e => ?_)
      refine v_cVi O [.int (xs (ix (v3 + 1)))] [] gL_law_X7_back cw_L_law_X7_back rfl rfl (g41 h41 (by decide)) (cg_0 G _) rfl rfl (Nat.le_of_ble_eq_true rfl) dL_law_459 e (fun _ e9 => f_X7_back_ok e9) (fun r45 h46 e => ?_)
      refine v_aload_n O dL_law_462 2 rfl rfl ?_
      refine v_aload_n O dL_law_463 0 rfl rfl ?_
      refine v_iload_n O dL_law_464 3 rfl rfl ?_
      refine v_iconst (v := 1) O dL_law_465 (by decide) ?_
      refine v_iadd O dL_law_466 ?_
      refine v_sld O hB dL_law_467 e (fun e => ?_)
      refine v_cVi O [.int (xs (ix (v3 + 1)))] [.int r45] gL_law_X8_back cw_L_law_X8_back rfl rfl (g41 h41 (by decide)) (cg_25 G _) rfl rfl (Nat.le_of_ble_eq_true rfl) dL_law_468 e (fun _ e9 => f_X8_back_ok h41 e9) (fun r47 h48 e => ?_)
      refine v_icmp_eq O dL_law_471 874 (by decide) e (fun e => ?_) (fun e => ?_)
      · exact f_law_b874_ok hz hB h41 O N k18 hk18 _ _ e
      · refine v_iconst (v := 0) O dL_law_474 (by decide) ?_
        exact v_lret O hz hB dL_law_475 e
    refine v_if (c := ((xs (ix v3)) &&& 31) = 12) e (fun c12 e => ?_) (fun c12 e => ?_)
    · refine v_tabIn O dL_law_32 c12 (by decide) (by decide) (by first | rfl | decide) 476 (by decide) ?_
      refine v_aload_n O dL_law_476 1 rfl rfl ?_
      refine v_aload_n O dL_law_477 0 rfl rfl ?_
      refine v_iload_n O dL_law_478 3 rfl rfl ?_
      refine v_iconst (v := 1) O dL_law_479 (by decide) ?_
      refine v_iadd O dL_law_480 ?_
      refine v_sld O hB dL_law_481 e (fun e => ?_)
      refine v_aload_n O dL_law_482 0 rfl rfl ?_
      refine v_iload_n O dL_law_483 3 rfl rfl ?_
      refine v_iconst (v := 2) O dL_law_484 (by decide) ?_
      refine v_iadd O dL_law_485 ?_
      refine v_sld O hB dL_law_486 e (fun e => ?_)
      refine v_cVi O [.int (xs (ix (v3 + 1))), .int (xs (ix (v3 + 2)))] [] gL_law_X7_net cw_L_law_X7_net rfl rfl (g41 h41 (by decide)) (cg_0 G _) rfl rfl (Nat.le_of_ble_eq_true rfl) dL_law_487 e (fun _ e9 => f_X7_net_ok e9) (fun r49 h50 e => ?_)
      refine v_aload_n O dL_law_490 2 rfl rfl ?_
      refine v_aload_n O dL_law_491 0 rfl rfl ?_
      refine v_iload_n O dL_law_492 3 rfl rfl ?_
      refine v_iconst (v := 1) O dL_law_493 (by decide) ?_
      refine v_iadd O dL_law_494 ?_
      refine v_sld O hB dL_law_495 e (fun e => ?_)
      refine v_aload_n O dL_law_496 0 rfl rfl ?_
      refine v_iload_n O dL_law_497 3 rfl rfl ?_
      refine v_iconst (v := 2) O dL_law_498 (by decide) ?_
      refine v_iadd O dL_law_499 ?_
      refine v_sld O hB dL_law_500 e (fun e => ?_)
      refine v_cVi O [.int (xs (ix (v3 + 1))), .int (xs (ix (v3 + 2)))] [.int r49] gL_law_X8_net cw_L_law_X8_net rfl rfl (g41 h41 (by decide)) (cg_25 G _) rfl rfl (Nat.le_of_ble_eq_true rfl) dL_law_501 e (fun _ e9 => f_X8_net_ok h41 e9) (fun r51 h52 e => ?_)
      refine v_icmp_eq O dL_law_504 874 (by decide) e (fun e => ?_) (fun e => ?_)
      · exact f_law_b874_ok hz hB h41 O N k18 hk18 _ _ e
      · refine v_iconst (v := 0) O dL_law_507 (by decide) ?_
        exact v_lret O hz hB dL_law_508 e
    refine v_if (c := ((xs (ix v3)) &&& 31) = 13) e (fun c13 e => ?_) (fun c13 e => ?_)
    · refine v_tabIn O dL_law_32 c13 (by decide) (by decide) (by first | rfl | decide) 509 (by decide) ?_
      refine v_aload_n O dL_law_509 1 rfl rfl ?_
      refine v_aload_n O dL_law_510 0 rfl rfl ?_
      refine v_iload_n O dL_law_511 3 rfl rfl ?_
      refine v_iconst (v := 1) O dL_law_512 (by decide) ?_
      refine v_iadd O dL_law_513 ?_
      refine v_sld O hB dL_law_514 e (fun e => ?_)
      refine v_aload_n O dL_law_515 0 rfl rfl ?_
      refine v_iload_n O dL_law_516 3 rfl rfl ?_
      refine v_iconst (v := 2) O dL_law_517 (by decide) ?_
      refine v_iadd O dL_law_518 ?_
      refine v_sld O hB dL_law_519 e (fun e => ?_)
      refine v_cVi O [.int (xs (ix (v3 + 1))), .int (xs (ix (v3 + 2)))] [] gL_law_X7_part cw_L_law_X7_part rfl rfl (g41 h41 (by decide)) (cg_0 G _) rfl rfl (Nat.le_of_ble_eq_true rfl) dL_law_520 e (fun _ e9 => f_X7_part_ok e9) (fun r53 h54 e => ?_)
      refine v_aload_n O dL_law_523 2 rfl rfl ?_
      refine v_aload_n O dL_law_524 0 rfl rfl ?_
      refine v_iload_n O dL_law_525 3 rfl rfl ?_
      refine v_iconst (v := 1) O dL_law_526 (by decide) ?_
      refine v_iadd O dL_law_527 ?_
      refine v_sld O hB dL_law_528 e (fun e => ?_)
      refine v_aload_n O dL_law_529 0 rfl rfl ?_
      refine v_iload_n O dL_law_530 3 rfl rfl ?_
      refine v_iconst (v := 2) O dL_law_531 (by decide) ?_
      refine v_iadd O dL_law_532 ?_
      refine v_sld O hB dL_law_533 e (fun e => ?_)
      refine v_cVi O [.int (xs (ix (v3 + 1))), .int (xs (ix (v3 + 2)))] [.int r53] gL_law_X8_part cw_L_law_X8_part rfl rfl (g41 h41 (by decide)) (cg_25 G _) rfl rfl (Nat.le_of_ble_eq_true rfl) dL_law_534 e (fun _ e9 => f_X8_part_ok h41 e9) (fun r55 h56 e => ?_)
      refine v_icmp_eq O dL_law_537 874 (by decide) e (fun e => ?_) (fun e => ?_)
      · exact f_law_b874_ok hz hB h41 O N k18 hk18 _ _ e
      · refine v_iconst (v := 0) O dL_law_540 (by decide) ?_
        exact v_lret O hz hB dL_law_541 e
    refine v_if (c := ((xs (ix v3)) &&& 31) = 14) e (fun c14 e => ?_) (fun c14 e => ?_)
    · refine v_tabIn O dL_law_32 c14 (by decide) (by decide) (by first | rfl | decide) 542 (by decide) ?_
      refine v_aload_n O dL_law_542 1 rfl rfl ?_
      refine v_aload_n O dL_law_543 0 rfl rfl ?_
      refine v_iload_n O dL_law_544 3 rfl rfl ?_
      refine v_iconst (v := 1) O dL_law_545 (by decide) ?_
      refine v_iadd O dL_law_546 ?_
      refine v_sld O hB dL_law_547 e (fun e => ?_)
      refine v_aload_n O dL_law_548 0 rfl rfl ?_
      refine v_iload_n O dL_law_549 3 rfl rfl ?_
      refine v_iconst (v := 2) O dL_law_550 (by decide) ?_
      refine v_iadd O dL_law_551 ?_
      refine v_sld O hB dL_law_552 e (fun e => ?_)
      refine v_cVi O [.int (xs (ix (v3 + 1))), .int (xs (ix (v3 + 2)))] [] gL_law_X7_shape cw_L_law_X7_shape rfl rfl (g41 h41 (by decide)) (cg_0 G _) rfl rfl (Nat.le_of_ble_eq_true rfl) dL_law_553 e (fun _ e9 => f_X7_shape_ok e9) (fun r57 h58 e => ?_)
      refine v_aload_n O dL_law_556 2 rfl rfl ?_
      refine v_aload_n O dL_law_557 0 rfl rfl ?_
      refine v_iload_n O dL_law_558 3 rfl rfl ?_
      refine v_iconst (v := 1) O dL_law_559 (by decide) ?_
      refine v_iadd O dL_law_560 ?_
      refine v_sld O hB dL_law_561 e (fun e => ?_)
      refine v_aload_n O dL_law_562 0 rfl rfl ?_
      refine v_iload_n O dL_law_563 3 rfl rfl ?_
      refine v_iconst (v := 2) O dL_law_564 (by decide) ?_
      refine v_iadd O dL_law_565 ?_
      refine v_sld O hB dL_law_566 e (fun e => ?_)
      refine v_cVi O [.int (xs (ix (v3 + 1))), .int (xs (ix (v3 + 2)))] [.int r57] gL_law_X8_shape cw_L_law_X8_shape rfl rfl (g41 h41 (by decide)) (cg_25 G _) rfl rfl (Nat.le_of_ble_eq_true rfl) dL_law_567 e (fun _ e9 => f_X8_shape_ok h41 e9) (fun r59 h60 e => ?_)
      refine v_icmp_eq O dL_law_570 874 (by decide) e (fun e => ?_) (fun e => ?_)
      · exact f_law_b874_ok hz hB h41 O N k18 hk18 _ _ e
      · refine v_iconst (v := 0) O dL_law_573 (by decide) ?_
        exact v_lret O hz hB dL_law_574 e
    refine v_if (c := ((xs (ix v3)) &&& 31) = 15) e (fun c15 e => ?_) (fun c15 e => ?_)
    · refine v_tabIn O dL_law_32 c15 (by decide) (by decide) (by first | rfl | decide) 575 (by decide) ?_
      refine v_aload_n O dL_law_575 1 rfl rfl ?_
      refine v_aload_n O dL_law_576 0 rfl rfl ?_
      refine v_iload_n O dL_law_577 3 rfl rfl ?_
      refine v_iconst (v := 1) O dL_law_578 (by decide) ?_
      refine v_iadd O dL_law_579 ?_
      refine v_sld O hB dL_law_580 e (fun e => ?_)
      refine v_aload_n O dL_law_581 0 rfl rfl ?_
      refine v_iload_n O dL_law_582 3 rfl rfl ?_
      refine v_iconst (v := 2) O dL_law_583 (by decide) ?_
      refine v_iadd O dL_law_584 ?_
      refine v_sld O hB dL_law_585 e (fun e => ?_)
      refine v_aload_n O dL_law_586 0 rfl rfl ?_
      refine v_iload_n O dL_law_587 3 rfl rfl ?_
      refine v_iconst (v := 3) O dL_law_588 (by decide) ?_
      refine v_iadd O dL_law_589 ?_
      refine v_sld O hB dL_law_590 e (fun e => ?_)
      refine v_cVi O [.int (xs (ix (v3 + 1))), .int (xs (ix (v3 + 2))), .int (xs (ix (v3 + 3)))] [] gL_law_X7_ring cw_L_law_X7_ring rfl rfl (g41 h41 (by decide)) (cg_0 G _) rfl rfl (Nat.le_of_ble_eq_true rfl) dL_law_591 e (fun _ e9 => f_X7_ring_ok e9) (fun r61 h62 e => ?_)
      refine v_aload_n O dL_law_594 2 rfl rfl ?_
      refine v_aload_n O dL_law_595 0 rfl rfl ?_
      refine v_iload_n O dL_law_596 3 rfl rfl ?_
      refine v_iconst (v := 1) O dL_law_597 (by decide) ?_
      refine v_iadd O dL_law_598 ?_
      refine v_sld O hB dL_law_599 e (fun e => ?_)
      refine v_aload_n O dL_law_600 0 rfl rfl ?_
      refine v_iload_n O dL_law_601 3 rfl rfl ?_
      refine v_iconst (v := 2) O dL_law_602 (by decide) ?_
      refine v_iadd O dL_law_603 ?_
      refine v_sld O hB dL_law_604 e (fun e => ?_)
      refine v_aload_n O dL_law_605 0 rfl rfl ?_
      refine v_iload_n O dL_law_606 3 rfl rfl ?_
      refine v_iconst (v := 3) O dL_law_607 (by decide) ?_
      refine v_iadd O dL_law_608 ?_
      refine v_sld O hB dL_law_609 e (fun e => ?_)
      refine v_cVi O [.int (xs (ix (v3 + 1))), .int (xs (ix (v3 + 2))), .int (xs (ix (v3 + 3)))] [.int r61] gL_law_X8_ring cw_L_law_X8_ring rfl rfl (g41 h41 (by decide)) (cg_25 G _) rfl rfl (Nat.le_of_ble_eq_true rfl) dL_law_610 e (fun _ e9 => f_X8_ring_ok h41 e9) (fun r63 h64 e => ?_)
      refine v_icmp_eq O dL_law_613 874 (by decide) e (fun e => ?_) (fun e => ?_)
      · exact f_law_b874_ok hz hB h41 O N k18 hk18 _ _ e
      · refine v_iconst (v := 0) O dL_law_616 (by decide) ?_
        exact v_lret O hz hB dL_law_617 e
    refine v_if (c := ((xs (ix v3)) &&& 31) = 16) e (fun c16 e => ?_) (fun c16 e => ?_)
    · refine v_tabIn O dL_law_32 c16 (by decide) (by decide) (by first | rfl | decide) 618 (by decide) ?_
      refine v_aload_n O dL_law_618 1 rfl rfl ?_
      refine v_aload_n O dL_law_619 0 rfl rfl ?_
      refine v_iload_n O dL_law_620 3 rfl rfl ?_
      refine v_iconst (v := 1) O dL_law_621 (by decide) ?_
      refine v_iadd O dL_law_622 ?_
      refine v_sld O hB dL_law_623 e (fun e => ?_)
      refine v_cVi O [.int (xs (ix (v3 + 1)))] [] gL_law_X7_turned cw_L_law_X7_turned rfl rfl (g41 h41 (by decide)) (cg_0 G _) rfl rfl (Nat.le_of_ble_eq_true rfl) dL_law_624 e (fun _ e9 => f_X7_turned_ok e9) (fun r65 h66 e => ?_)
      refine v_aload_n O dL_law_627 2 rfl rfl ?_
      refine v_aload_n O dL_law_628 0 rfl rfl ?_
      refine v_iload_n O dL_law_629 3 rfl rfl ?_
      refine v_iconst (v := 1) O dL_law_630 (by decide) ?_
      refine v_iadd O dL_law_631 ?_
      refine v_sld O hB dL_law_632 e (fun e => ?_)
      refine v_cVi O [.int (xs (ix (v3 + 1)))] [.int r65] gL_law_X8_turned cw_L_law_X8_turned rfl rfl (g41 h41 (by decide)) (cg_25 G _) rfl rfl (Nat.le_of_ble_eq_true rfl) dL_law_633 e (fun _ e9 => f_X8_turned_ok h41 e9) (fun r67 h68 e => ?_)
      refine v_icmp_eq O dL_law_636 874 (by decide) e (fun e => ?_) (fun e => ?_)
      · exact f_law_b874_ok hz hB h41 O N k18 hk18 _ _ e
      · refine v_iconst (v := 0) O dL_law_639 (by decide) ?_
        exact v_lret O hz hB dL_law_640 e
    refine v_if (c := ((xs (ix v3)) &&& 31) = 17) e (fun c17 e => ?_) (fun c17 e => ?_)
    · refine v_tabIn O dL_law_32 c17 (by decide) (by decide) (by first | rfl | decide) 641 (by decide) ?_
      refine v_aload_n O dL_law_641 1 rfl rfl ?_
      refine v_cVi O [] [] gL_law_X7_fewest cw_L_law_X7_fewest rfl rfl (g41 h41 (by decide)) (cg_0 G _) rfl rfl (Nat.le_of_ble_eq_true rfl) dL_law_642 e (fun _ e9 => f_X7_fewest_ok e9) (fun r69 h70 e => ?_)
      refine v_aload_n O dL_law_645 2 rfl rfl ?_
      refine v_cVi O [] [.int r69] gL_law_X8_fewest cw_L_law_X8_fewest rfl rfl (g41 h41 (by decide)) (cg_25 G _) rfl rfl (Nat.le_of_ble_eq_true rfl) dL_law_646 e (fun _ e9 => f_X8_fewest_ok h41 e9) (fun r71 h72 e => ?_)
      refine v_icmp_eq O dL_law_649 874 (by decide) e (fun e => ?_) (fun e => ?_)
      · exact f_law_b874_ok hz hB h41 O N k18 hk18 _ _ e
      · refine v_iconst (v := 0) O dL_law_652 (by decide) ?_
        exact v_lret O hz hB dL_law_653 e
    refine v_if (c := ((xs (ix v3)) &&& 31) = 18) e (fun c18 e => ?_) (fun c18 e => ?_)
    · refine v_tabIn O dL_law_32 c18 (by decide) (by decide) (by first | rfl | decide) 654 (by decide) ?_
      refine v_aload_n O dL_law_654 1 rfl rfl ?_
      refine v_aload_n O dL_law_655 0 rfl rfl ?_
      refine v_iload_n O dL_law_656 3 rfl rfl ?_
      refine v_iconst (v := 1) O dL_law_657 (by decide) ?_
      refine v_iadd O dL_law_658 ?_
      refine v_sld O hB dL_law_659 e (fun e => ?_)
      refine v_aload_n O dL_law_660 0 rfl rfl ?_
      refine v_iload_n O dL_law_661 3 rfl rfl ?_
      refine v_iconst (v := 2) O dL_law_662 (by decide) ?_
      refine v_iadd O dL_law_663 ?_
      refine v_sld O hB dL_law_664 e (fun e => ?_)
      refine v_cVi O [.int (xs (ix (v3 + 1))), .int (xs (ix (v3 + 2)))] [] gL_law_X7_way cw_L_law_X7_way rfl rfl (g41 h41 (by decide)) (cg_0 G _) rfl rfl (Nat.le_of_ble_eq_true rfl) dL_law_665 e (fun _ e9 => f_X7_way_ok e9) (fun r73 h74 e => ?_)
      refine v_aload_n O dL_law_668 2 rfl rfl ?_
      refine v_aload_n O dL_law_669 0 rfl rfl ?_
      refine v_iload_n O dL_law_670 3 rfl rfl ?_
      refine v_iconst (v := 1) O dL_law_671 (by decide) ?_
      refine v_iadd O dL_law_672 ?_
      refine v_sld O hB dL_law_673 e (fun e => ?_)
      refine v_aload_n O dL_law_674 0 rfl rfl ?_
      refine v_iload_n O dL_law_675 3 rfl rfl ?_
      refine v_iconst (v := 2) O dL_law_676 (by decide) ?_
      refine v_iadd O dL_law_677 ?_
      refine v_sld O hB dL_law_678 e (fun e => ?_)
      refine v_cVi O [.int (xs (ix (v3 + 1))), .int (xs (ix (v3 + 2)))] [.int r73] gL_law_X8_way cw_L_law_X8_way rfl rfl (g41 h41 (by decide)) (cg_25 G _) rfl rfl (Nat.le_of_ble_eq_true rfl) dL_law_679 e (fun _ e9 => f_X8_way_ok h41 e9) (fun r75 h76 e => ?_)
      refine v_icmp_eq O dL_law_682 874 (by decide) e (fun e => ?_) (fun e => ?_)
      · exact f_law_b874_ok hz hB h41 O N k18 hk18 _ _ e
      · refine v_iconst (v := 0) O dL_law_685 (by decide) ?_
        exact v_lret O hz hB dL_law_686 e
    refine v_if (c := ((xs (ix v3)) &&& 31) = 19) e (fun c19 e => ?_) (fun c19 e => ?_)
    · refine v_tabIn O dL_law_32 c19 (by decide) (by decide) (by first | rfl | decide) 687 (by decide) ?_
      refine v_aload_n O dL_law_687 1 rfl rfl ?_
      refine v_cVi O [] [] gL_law_X7_alike cw_L_law_X7_alike rfl rfl (g41 h41 (by decide)) (cg_0 G _) rfl rfl (Nat.le_of_ble_eq_true rfl) dL_law_688 e (fun _ e9 => f_X7_alike_ok e9) (fun r77 h78 e => ?_)
      refine v_aload_n O dL_law_691 2 rfl rfl ?_
      refine v_cVi O [] [.int r77] gL_law_X8_alike cw_L_law_X8_alike rfl rfl (g41 h41 (by decide)) (cg_25 G _) rfl rfl (Nat.le_of_ble_eq_true rfl) dL_law_692 e (fun _ e9 => f_X8_alike_ok h41 e9) (fun r79 h80 e => ?_)
      refine v_icmp_eq O dL_law_695 874 (by decide) e (fun e => ?_) (fun e => ?_)
      · exact f_law_b874_ok hz hB h41 O N k18 hk18 _ _ e
      · refine v_iconst (v := 0) O dL_law_698 (by decide) ?_
        exact v_lret O hz hB dL_law_699 e
    refine v_if (c := ((xs (ix v3)) &&& 31) = 20) e (fun c20 e => ?_) (fun c20 e => ?_)
    · refine v_tabIn O dL_law_32 c20 (by decide) (by decide) (by first | rfl | decide) 700 (by decide) ?_
      refine v_aload_n O dL_law_700 1 rfl rfl ?_
      refine v_aload_n O dL_law_701 0 rfl rfl ?_
      refine v_iload_n O dL_law_702 3 rfl rfl ?_
      refine v_iconst (v := 1) O dL_law_703 (by decide) ?_
      refine v_iadd O dL_law_704 ?_
      refine v_sld O hB dL_law_705 e (fun e => ?_)
      refine v_cVi O [.int (xs (ix (v3 + 1)))] [] gL_law_X7_many cw_L_law_X7_many rfl rfl (g41 h41 (by decide)) (cg_0 G _) rfl rfl (Nat.le_of_ble_eq_true rfl) dL_law_706 e (fun _ e9 => f_X7_many_ok e9) (fun r81 h82 e => ?_)
      refine v_aload_n O dL_law_709 2 rfl rfl ?_
      refine v_aload_n O dL_law_710 0 rfl rfl ?_
      refine v_iload_n O dL_law_711 3 rfl rfl ?_
      refine v_iconst (v := 1) O dL_law_712 (by decide) ?_
      refine v_iadd O dL_law_713 ?_
      refine v_sld O hB dL_law_714 e (fun e => ?_)
      refine v_cVi O [.int (xs (ix (v3 + 1)))] [.int r81] gL_law_X8_many cw_L_law_X8_many rfl rfl (g41 h41 (by decide)) (cg_25 G _) rfl rfl (Nat.le_of_ble_eq_true rfl) dL_law_715 e (fun _ e9 => f_X8_many_ok h41 e9) (fun r83 h84 e => ?_)
      refine v_icmp_eq O dL_law_718 874 (by decide) e (fun e => ?_) (fun e => ?_)
      · exact f_law_b874_ok hz hB h41 O N k18 hk18 _ _ e
      · refine v_iconst (v := 0) O dL_law_721 (by decide) ?_
        exact v_lret O hz hB dL_law_722 e
    refine v_if (c := ((xs (ix v3)) &&& 31) = 21) e (fun c21 e => ?_) (fun c21 e => ?_)
    · refine v_tabIn O dL_law_32 c21 (by decide) (by decide) (by first | rfl | decide) 723 (by decide) ?_
      refine v_aload_n O dL_law_723 1 rfl rfl ?_
      refine v_aload_n O dL_law_724 0 rfl rfl ?_
      refine v_iload_n O dL_law_725 3 rfl rfl ?_
      refine v_iconst (v := 1) O dL_law_726 (by decide) ?_
      refine v_iadd O dL_law_727 ?_
      refine v_sld O hB dL_law_728 e (fun e => ?_)
      refine v_cVi O [.int (xs (ix (v3 + 1)))] [] gL_law_X7_farthest cw_L_law_X7_farthest rfl rfl (g41 h41 (by decide)) (cg_0 G _) rfl rfl (Nat.le_of_ble_eq_true rfl) dL_law_729 e (fun _ e9 => f_X7_farthest_ok e9) (fun r85 h86 e => ?_)
      refine v_aload_n O dL_law_732 2 rfl rfl ?_
      refine v_aload_n O dL_law_733 0 rfl rfl ?_
      refine v_iload_n O dL_law_734 3 rfl rfl ?_
      refine v_iconst (v := 1) O dL_law_735 (by decide) ?_
      refine v_iadd O dL_law_736 ?_
      refine v_sld O hB dL_law_737 e (fun e => ?_)
      refine v_cVi O [.int (xs (ix (v3 + 1)))] [.int r85] gL_law_X8_farthest cw_L_law_X8_farthest rfl rfl (g41 h41 (by decide)) (cg_25 G _) rfl rfl (Nat.le_of_ble_eq_true rfl) dL_law_738 e (fun _ e9 => f_X8_farthest_ok h41 e9) (fun r87 h88 e => ?_)
      refine v_icmp_eq O dL_law_741 874 (by decide) e (fun e => ?_) (fun e => ?_)
      · exact f_law_b874_ok hz hB h41 O N k18 hk18 _ _ e
      · refine v_iconst (v := 0) O dL_law_744 (by decide) ?_
        exact v_lret O hz hB dL_law_745 e
    refine v_if (c := ((xs (ix v3)) &&& 31) = 22) e (fun c22 e => ?_) (fun c22 e => ?_)
    · refine v_tabIn O dL_law_32 c22 (by decide) (by decide) (by first | rfl | decide) 746 (by decide) ?_
      refine v_aload_n O dL_law_746 1 rfl rfl ?_
      refine v_aload_n O dL_law_747 0 rfl rfl ?_
      refine v_iload_n O dL_law_748 3 rfl rfl ?_
      refine v_iconst (v := 1) O dL_law_749 (by decide) ?_
      refine v_iadd O dL_law_750 ?_
      refine v_sld O hB dL_law_751 e (fun e => ?_)
      refine v_cVi O [.int (xs (ix (v3 + 1)))] [] gL_law_X7_left cw_L_law_X7_left rfl rfl (g41 h41 (by decide)) (cg_0 G _) rfl rfl (Nat.le_of_ble_eq_true rfl) dL_law_752 e (fun _ e9 => f_X7_left_ok e9) (fun r89 h90 e => ?_)
      refine v_aload_n O dL_law_755 2 rfl rfl ?_
      refine v_aload_n O dL_law_756 0 rfl rfl ?_
      refine v_iload_n O dL_law_757 3 rfl rfl ?_
      refine v_iconst (v := 1) O dL_law_758 (by decide) ?_
      refine v_iadd O dL_law_759 ?_
      refine v_sld O hB dL_law_760 e (fun e => ?_)
      refine v_cVi O [.int (xs (ix (v3 + 1)))] [.int r89] gL_law_X8_left cw_L_law_X8_left rfl rfl (g41 h41 (by decide)) (cg_25 G _) rfl rfl (Nat.le_of_ble_eq_true rfl) dL_law_761 e (fun _ e9 => f_X8_left_ok h41 e9) (fun r91 h92 e => ?_)
      refine v_icmp_eq O dL_law_764 874 (by decide) e (fun e => ?_) (fun e => ?_)
      · exact f_law_b874_ok hz hB h41 O N k18 hk18 _ _ e
      · refine v_iconst (v := 0) O dL_law_767 (by decide) ?_
        exact v_lret O hz hB dL_law_768 e
    refine v_if (c := ((xs (ix v3)) &&& 31) = 23) e (fun c23 e => ?_) (fun c23 e => ?_)
    · refine v_tabIn O dL_law_32 c23 (by decide) (by decide) (by first | rfl | decide) 769 (by decide) ?_
      refine v_aload_n O dL_law_769 1 rfl rfl ?_
      refine v_aload_n O dL_law_770 0 rfl rfl ?_
      refine v_iload_n O dL_law_771 3 rfl rfl ?_
      refine v_iconst (v := 1) O dL_law_772 (by decide) ?_
      refine v_iadd O dL_law_773 ?_
      refine v_sld O hB dL_law_774 e (fun e => ?_)
      refine v_cVi O [.int (xs (ix (v3 + 1)))] [] gL_law_X7_added cw_L_law_X7_added rfl rfl (g41 h41 (by decide)) (cg_0 G _) rfl rfl (Nat.le_of_ble_eq_true rfl) dL_law_775 e (fun _ e9 => f_X7_added_ok e9) (fun r93 h94 e => ?_)
      refine v_aload_n O dL_law_778 2 rfl rfl ?_
      refine v_aload_n O dL_law_779 0 rfl rfl ?_
      refine v_iload_n O dL_law_780 3 rfl rfl ?_
      refine v_iconst (v := 1) O dL_law_781 (by decide) ?_
      refine v_iadd O dL_law_782 ?_
      refine v_sld O hB dL_law_783 e (fun e => ?_)
      refine v_cVi O [.int (xs (ix (v3 + 1)))] [.int r93] gL_law_X8_added cw_L_law_X8_added rfl rfl (g41 h41 (by decide)) (cg_25 G _) rfl rfl (Nat.le_of_ble_eq_true rfl) dL_law_784 e (fun _ e9 => f_X8_added_ok h41 e9) (fun r95 h96 e => ?_)
      refine v_icmp_eq O dL_law_787 874 (by decide) e (fun e => ?_) (fun e => ?_)
      · exact f_law_b874_ok hz hB h41 O N k18 hk18 _ _ e
      · refine v_iconst (v := 0) O dL_law_790 (by decide) ?_
        exact v_lret O hz hB dL_law_791 e
    refine v_if (c := ((xs (ix v3)) &&& 31) = 24) e (fun c24 e => ?_) (fun c24 e => ?_)
    · refine v_tabIn O dL_law_32 c24 (by decide) (by decide) (by first | rfl | decide) 792 (by decide) ?_
      refine v_aload_n O dL_law_792 1 rfl rfl ?_
      refine v_aload_n O dL_law_793 0 rfl rfl ?_
      refine v_iload_n O dL_law_794 3 rfl rfl ?_
      refine v_iconst (v := 1) O dL_law_795 (by decide) ?_
      refine v_iadd O dL_law_796 ?_
      refine v_sld O hB dL_law_797 e (fun e => ?_)
      refine v_aload_n O dL_law_798 0 rfl rfl ?_
      refine v_iload_n O dL_law_799 3 rfl rfl ?_
      refine v_iconst (v := 2) O dL_law_800 (by decide) ?_
      refine v_iadd O dL_law_801 ?_
      refine v_sld O hB dL_law_802 e (fun e => ?_)
      refine v_cVi O [.int (xs (ix (v3 + 1))), .int (xs (ix (v3 + 2)))] [] gL_law_X7_row cw_L_law_X7_row rfl rfl (g41 h41 (by decide)) (cg_0 G _) rfl rfl (Nat.le_of_ble_eq_true rfl) dL_law_803 e (fun _ e9 => f_X7_row_ok e9) (fun r97 h98 e => ?_)
      refine v_aload_n O dL_law_806 2 rfl rfl ?_
      refine v_aload_n O dL_law_807 0 rfl rfl ?_
      refine v_iload_n O dL_law_808 3 rfl rfl ?_
      refine v_iconst (v := 1) O dL_law_809 (by decide) ?_
      refine v_iadd O dL_law_810 ?_
      refine v_sld O hB dL_law_811 e (fun e => ?_)
      refine v_aload_n O dL_law_812 0 rfl rfl ?_
      refine v_iload_n O dL_law_813 3 rfl rfl ?_
      refine v_iconst (v := 2) O dL_law_814 (by decide) ?_
      refine v_iadd O dL_law_815 ?_
      refine v_sld O hB dL_law_816 e (fun e => ?_)
      refine v_cVi O [.int (xs (ix (v3 + 1))), .int (xs (ix (v3 + 2)))] [.int r97] gL_law_X8_row cw_L_law_X8_row rfl rfl (g41 h41 (by decide)) (cg_25 G _) rfl rfl (Nat.le_of_ble_eq_true rfl) dL_law_817 e (fun _ e9 => f_X8_row_ok h41 e9) (fun r99 h100 e => ?_)
      refine v_icmp_eq O dL_law_820 874 (by decide) e (fun e => ?_) (fun e => ?_)
      · exact f_law_b874_ok hz hB h41 O N k18 hk18 _ _ e
      · refine v_iconst (v := 0) O dL_law_823 (by decide) ?_
        exact v_lret O hz hB dL_law_824 e
    refine v_if (c := ((xs (ix v3)) &&& 31) = 25) e (fun c25 e => ?_) (fun c25 e => ?_)
    · refine v_tabIn O dL_law_32 c25 (by decide) (by decide) (by first | rfl | decide) 825 (by decide) ?_
      refine v_aload_n O dL_law_825 1 rfl rfl ?_
      refine v_cVi O [] [] gL_law_X7_burn cw_L_law_X7_burn rfl rfl (g41 h41 (by decide)) (cg_0 G _) rfl rfl (Nat.le_of_ble_eq_true rfl) dL_law_826 e (fun _ e9 => f_X7_burn_ok e9) (fun r101 h102 e => ?_)
      refine v_aload_n O dL_law_829 2 rfl rfl ?_
      refine v_cVi O [] [.int r101] gL_law_X8_burn cw_L_law_X8_burn rfl rfl (g41 h41 (by decide)) (cg_25 G _) rfl rfl (Nat.le_of_ble_eq_true rfl) dL_law_830 e (fun _ e9 => f_X8_burn_ok h41 e9) (fun r103 h104 e => ?_)
      refine v_icmp_eq O dL_law_833 874 (by decide) e (fun e => ?_) (fun e => ?_)
      · exact f_law_b874_ok hz hB h41 O N k18 hk18 _ _ e
      · refine v_iconst (v := 0) O dL_law_836 (by decide) ?_
        exact v_lret O hz hB dL_law_837 e
    refine v_if (c := ((xs (ix v3)) &&& 31) = 26) e (fun c26 e => ?_) (fun c26 e => ?_)
    · refine v_tabIn O dL_law_32 c26 (by decide) (by decide) (by first | rfl | decide) 838 (by decide) ?_
      refine v_aload_n O dL_law_838 1 rfl rfl ?_
      refine v_cVi O [] [] gL_law_X7_judge cw_L_law_X7_judge rfl rfl (g41 h41 (by decide)) (cg_0 G _) rfl rfl (Nat.le_of_ble_eq_true rfl) dL_law_839 e (fun _ e9 => f_X7_judge_ok e9) (fun r105 h106 e => ?_)
      refine v_aload_n O dL_law_842 2 rfl rfl ?_
      refine v_cVi O [] [.int r105] gL_law_X8_judge cw_L_law_X8_judge rfl rfl (g41 h41 (by decide)) (cg_25 G _) rfl rfl (Nat.le_of_ble_eq_true rfl) dL_law_843 e (fun _ e9 => f_X8_judge_ok h41 e9) (fun r107 h108 e => ?_)
      refine v_icmp_eq O dL_law_846 874 (by decide) e (fun e => ?_) (fun e => ?_)
      · exact f_law_b874_ok hz hB h41 O N k18 hk18 _ _ e
      · refine v_iconst (v := 0) O dL_law_849 (by decide) ?_
        exact v_lret O hz hB dL_law_850 e
    refine v_if (c := ((xs (ix v3)) &&& 31) = 27) e (fun c27 e => ?_) (fun c27 e => ?_)
    · refine v_tabIn O dL_law_32 c27 (by decide) (by decide) (by first | rfl | decide) 851 (by decide) ?_
      refine v_aload_n O dL_law_851 1 rfl rfl ?_
      refine v_aload_n O dL_law_852 0 rfl rfl ?_
      refine v_iload_n O dL_law_853 3 rfl rfl ?_
      refine v_iconst (v := 1) O dL_law_854 (by decide) ?_
      refine v_iadd O dL_law_855 ?_
      refine v_sld O hB dL_law_856 e (fun e => ?_)
      refine v_cVi O [.int (xs (ix (v3 + 1)))] [] gL_law_X7_count cw_L_law_X7_count rfl rfl (g41 h41 (by decide)) (cg_0 G _) rfl rfl (Nat.le_of_ble_eq_true rfl) dL_law_857 e (fun _ e9 => f_X7_count_ok e9) (fun r109 h110 e => ?_)
      refine v_aload_n O dL_law_860 2 rfl rfl ?_
      refine v_aload_n O dL_law_861 0 rfl rfl ?_
      refine v_iload_n O dL_law_862 3 rfl rfl ?_
      refine v_iconst (v := 1) O dL_law_863 (by decide) ?_
      refine v_iadd O dL_law_864 ?_
      refine v_sld O hB dL_law_865 e (fun e => ?_)
      refine v_cVi O [.int (xs (ix (v3 + 1)))] [.int r109] gL_law_X8_count cw_L_law_X8_count rfl rfl (g41 h41 (by decide)) (cg_25 G _) rfl rfl (Nat.le_of_ble_eq_true rfl) dL_law_866 e (fun _ e9 => f_X8_count_ok h41 e9) (fun r111 h112 e => ?_)
      refine v_icmp_eq O dL_law_869 874 (by decide) e (fun e => ?_) (fun e => ?_)
      · exact f_law_b874_ok hz hB h41 O N k18 hk18 _ _ e
      · refine v_iconst (v := 0) O dL_law_872 (by decide) ?_
        exact v_lret O hz hB dL_law_873 e
    refine v_tabOut O dL_law_32 (by have q0 := lv_neT (a := 0) c0 rfl; have q1 := lv_neT (a := 1) c1 rfl; have q2 := lv_neT (a := 2) c2 rfl; have q3 := lv_neT (a := 3) c3 rfl; have q4 := lv_neT (a := 4) c4 rfl; have q5 := lv_neT (a := 5) c5 rfl; have q6 := lv_neT (a := 6) c6 rfl; have q7 := lv_neT (a := 7) c7 rfl; have q8 := lv_neT (a := 8) c8 rfl; have q9 := lv_neT (a := 9) c9 rfl; have q10 := lv_neT (a := 10) c10 rfl; have q11 := lv_neT (a := 11) c11 rfl; have q12 := lv_neT (a := 12) c12 rfl; have q13 := lv_neT (a := 13) c13 rfl; have q14 := lv_neT (a := 14) c14 rfl; have q15 := lv_neT (a := 15) c15 rfl; have q16 := lv_neT (a := 16) c16 rfl; have q17 := lv_neT (a := 17) c17 rfl; have q18 := lv_neT (a := 18) c18 rfl; have q19 := lv_neT (a := 19) c19 rfl; have q20 := lv_neT (a := 20) c20 rfl; have q21 := lv_neT (a := 21) c21 rfl; have q22 := lv_neT (a := 22) c22 rfl; have q23 := lv_neT (a := 23) c23 rfl; have q24 := lv_neT (a := 24) c24 rfl; have q25 := lv_neT (a := 25) c25 rfl; have q26 := lv_neT (a := 26) c26 rfl; have q27 := lv_neT (a := 27) c27 rfl; omega) 874 (by decide) ?_
    exact f_law_b874_ok hz hB h41 O N k18 hk18 _ _ e
theorem f_law_l18_ok {X : Cx} {G : Gx} {z : Rs} {b L : Nat} {xs : Nat → Int32} (hz : z.1 = 1) (hB : LX X G b L xs) (h41 : 41 ≤ gN G) (O : Ok X G cL_law RL 4 wsL_law (some .boolean) room_1) (N : Nat) : ∀ (n : Nat) (v3 : Int32) (h : Hp), f_law_l18 L xs N n v3 h = some z → V X G 4 (QL X) h 18 [(0, .ref b), (1, .ref (G.1 0)), (2, .ref (G.1 25)), (3, .int v3)] [] := by
  intro n
  induction n with
  | zero => intro v3 h e; cases e
  | succ n ih => intro v3 h e; exact f_law_b18_ok hz hB h41 O N _ ih v3 h e
theorem f_law_ok {X : Cx} {G : Gx} {z : Rs} {b L : Nat} {xs : Nat → Int32} (hz : z.1 = 1) (hB : LX X G b L xs) (h41 : 41 ≤ gN G) (O : Ok X G cL_law RL 4 wsL_law (some .boolean) room_1) (N : Nat) (h : Hp) (e : f_law L xs N h = some z) : V X G 4 (QL X) h 16 [(0, .ref b), (1, .ref (G.1 0)), (2, .ref (G.1 25))] [] := by
  unfold f_law at e
  refine v_iconst (v := 0) O dL_law_16 (by decide) ?_
  refine v_istore_n O dL_law_17 rfl (by decide) (fun x1 => [(3, .int x1), (0, .ref b), (1, .ref (G.1 0)), (2, .ref (G.1 25))]) (fun _ => rfl) e (fun x1 e => ?_)
  refine v_sub [1, 2, 3, 0] rfl ?_
  exact f_law_l18_ok hz hB h41 O N N _ _ e
