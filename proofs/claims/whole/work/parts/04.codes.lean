theorem pg_k0 : pg_c0.all (fun e => decide (decode code e.1 = .ok e.2)) = true := by decide +kernel
theorem pg_k1 : pg_c1.all (fun e => decide (decode prog_1_method_1_code e.1 = .ok e.2)) = true := by decide +kernel
theorem pg_k2 : pg_c2.all (fun e => decide (decode prog_7_method_1_code e.1 = .ok e.2)) = true := by decide +kernel
theorem pg_k3 : pg_c3.all (fun e => decide (decode prog_6_method_1_code e.1 = .ok e.2)) = true := by decide +kernel
theorem pg_k4 : pg_c4.all (fun e => decide (decode prog_2_method_1_code e.1 = .ok e.2)) = true := by decide +kernel
theorem pg_k5 : pg_c5.all (fun e => decide (decode prog_4_method_1_code e.1 = .ok e.2)) = true := by decide +kernel
theorem pg_k6 : pg_c6.all (fun e => decide (decode prog_5_method_1_code e.1 = .ok e.2)) = true := by decide +kernel
theorem pg_k7 : pg_c7.all (fun e => decide (decode prog_3_method_1_code e.1 = .ok e.2)) = true := by decide +kernel
theorem pg_k8 : pg_c8.all (fun e => decide (decode prog_1_method_2_code e.1 = .ok e.2)) = true := by decide +kernel
theorem pg_k9 : pg_c9.all (fun e => decide (decode prog_7_method_2_code e.1 = .ok e.2)) = true := by decide +kernel
theorem pg_k10 : pg_c10.all (fun e => decide (decode prog_1_method_3_code e.1 = .ok e.2)) = true := by decide +kernel
theorem pg_k11 : pg_c11.all (fun e => decide (decode prog_6_method_2_code e.1 = .ok e.2)) = true := by decide +kernel
theorem pg_k12 : pg_c12.all (fun e => decide (decode prog_7_method_4_code e.1 = .ok e.2)) = true := by decide +kernel
theorem pg_k13 : pg_c13.all (fun e => decide (decode prog_7_method_5_code e.1 = .ok e.2)) = true := by decide +kernel
theorem pg_k14 : pg_c14.all (fun e => decide (decode prog_1_method_4_code e.1 = .ok e.2)) = true := by decide +kernel
theorem pg_k15 : pg_c15.all (fun e => decide (decode prog_7_method_3_code e.1 = .ok e.2)) = true := by decide +kernel
theorem pg_k16 : pg_c16.all (fun e => decide (decode prog_1_method_5_code e.1 = .ok e.2)) = true := by decide +kernel
theorem pg_k17 : pg_c17.all (fun e => decide (decode prog_1_method_6_code e.1 = .ok e.2)) = true := by decide +kernel
theorem pg_k18 : pg_c18.all (fun e => decide (decode prog_6_method_5_code e.1 = .ok e.2)) = true := by decide +kernel
theorem pg_k19 : pg_c19.all (fun e => decide (decode prog_6_method_4_code e.1 = .ok e.2)) = true := by decide +kernel
theorem pg_k20 : pg_c20.all (fun e => decide (decode prog_6_method_3_code e.1 = .ok e.2)) = true := by decide +kernel
theorem pg_k21 : pg_c21.all (fun e => decide (decode prog_6_method_6_code e.1 = .ok e.2)) = true := by decide +kernel
theorem pg_k22 : pg_c22.all (fun e => decide (decode prog_6_method_7_code e.1 = .ok e.2)) = true := by decide +kernel
theorem pg_k23 : pg_c23.all (fun e => decide (decode prog_1_method_7_code e.1 = .ok e.2)) = true := by decide +kernel
theorem pg_k24 : pg_c24.all (fun e => decide (decode prog_1_method_8_code e.1 = .ok e.2)) = true := by decide +kernel
theorem pg_k25 : pg_c25.all (fun e => decide (decode prog_1_method_9_code e.1 = .ok e.2)) = true := by decide +kernel
theorem pg_k26 : pg_c26.all (fun e => decide (decode prog_4_method_2_code e.1 = .ok e.2)) = true := by decide +kernel
theorem pg_k27 : pg_c27.all (fun e => decide (decode prog_4_method_3_code e.1 = .ok e.2)) = true := by decide +kernel
theorem pg_k28 : pg_c28.all (fun e => decide (decode prog_4_method_6_code e.1 = .ok e.2)) = true := by decide +kernel
theorem pg_k29 : pg_c29.all (fun e => decide (decode prog_4_method_8_code e.1 = .ok e.2)) = true := by decide +kernel
theorem pg_k30 : pg_c30.all (fun e => decide (decode prog_5_method_2_code e.1 = .ok e.2)) = true := by decide +kernel
theorem pg_k31 : pg_c31.all (fun e => decide (decode prog_4_method_9_code e.1 = .ok e.2)) = true := by decide +kernel
theorem pg_k32 : pg_c32.all (fun e => decide (decode prog_3_method_2_code e.1 = .ok e.2)) = true := by decide +kernel
theorem pg_k33 : pg_c33.all (fun e => decide (decode prog_4_method_7_code e.1 = .ok e.2)) = true := by decide +kernel
theorem pg_k34 : pg_c34.all (fun e => decide (decode prog_7_method_13_code e.1 = .ok e.2)) = true := by decide +kernel
theorem pg_k35 : pg_c35.all (fun e => decide (decode prog_4_method_10_code e.1 = .ok e.2)) = true := by decide +kernel
theorem pg_k36 : pg_c36.all (fun e => decide (decode prog_7_method_9_code e.1 = .ok e.2)) = true := by decide +kernel
theorem pg_k37 : pg_c37.all (fun e => decide (decode prog_7_method_10_code e.1 = .ok e.2)) = true := by decide +kernel
theorem pg_k38 : pg_c38.all (fun e => decide (decode prog_7_method_8_code e.1 = .ok e.2)) = true := by decide +kernel
theorem pg_k39 : pg_c39.all (fun e => decide (decode prog_7_method_11_code e.1 = .ok e.2)) = true := by decide +kernel
theorem pg_k40 : pg_c40.all (fun e => decide (decode prog_7_method_12_code e.1 = .ok e.2)) = true := by decide +kernel
theorem pg_k41 : pg_c41.all (fun e => decide (decode prog_4_method_11_code e.1 = .ok e.2)) = true := by decide +kernel
theorem pg_k42 : pg_c42.all (fun e => decide (decode prog_7_method_6_code e.1 = .ok e.2)) = true := by decide +kernel
theorem pg_k43 : pg_c43.all (fun e => decide (decode prog_4_method_12_code e.1 = .ok e.2)) = true := by decide +kernel
theorem pg_k44 : pg_c44.all (fun e => decide (decode prog_4_method_13_code e.1 = .ok e.2)) = true := by decide +kernel
theorem pg_k45 : pg_c45.all (fun e => decide (decode prog_4_method_14_code e.1 = .ok e.2)) = true := by decide +kernel
theorem pg_k46 : pg_c46.all (fun e => decide (decode prog_4_method_15_code e.1 = .ok e.2)) = true := by decide +kernel
theorem pg_k47 : pg_c47.all (fun e => decide (decode prog_4_method_16_code e.1 = .ok e.2)) = true := by decide +kernel
theorem pg_k48 : pg_c48.all (fun e => decide (decode prog_4_method_5_code e.1 = .ok e.2)) = true := by decide +kernel
theorem pg_k49 : pg_c49.all (fun e => decide (decode prog_4_method_17_code e.1 = .ok e.2)) = true := by decide +kernel
theorem pg_k50 : pg_c50.all (fun e => decide (decode prog_4_method_4_code e.1 = .ok e.2)) = true := by decide +kernel
theorem pg_k51 : pg_c51.all (fun e => decide (decode prog_1_method_10_code e.1 = .ok e.2)) = true := by decide +kernel
theorem pg_k52 : pg_c52.all (fun e => decide (decode prog_1_method_11_code e.1 = .ok e.2)) = true := by decide +kernel
theorem pg_k53 : pg_c53.all (fun e => decide (decode prog_7_method_7_code e.1 = .ok e.2)) = true := by decide +kernel
theorem pg_k54 : pg_c54.all (fun e => decide (decode prog_9_method_1_code e.1 = .ok e.2)) = true := by decide +kernel
theorem pg_k55 : pg_c55.all (fun e => decide (decode prog_9_method_3_code e.1 = .ok e.2)) = true := by decide +kernel
theorem pg_k56 : pg_c56.all (fun e => decide (decode prog_9_method_5_code e.1 = .ok e.2)) = true := by decide +kernel
theorem pg_k57 : pg_c57.all (fun e => decide (decode prog_9_method_4_code e.1 = .ok e.2)) = true := by decide +kernel
theorem pg_k58 : pg_c58.all (fun e => decide (decode prog_9_method_6_code e.1 = .ok e.2)) = true := by decide +kernel
theorem pg_k59 : pg_c59.all (fun e => decide (decode prog_9_method_7_code e.1 = .ok e.2)) = true := by decide +kernel
theorem pg_k60 : pg_c60.all (fun e => decide (decode prog_9_method_10_code e.1 = .ok e.2)) = true := by decide +kernel
theorem pg_k61 : pg_c61.all (fun e => decide (decode prog_9_method_9_code e.1 = .ok e.2)) = true := by decide +kernel
theorem pg_k62 : pg_c62.all (fun e => decide (decode prog_9_method_8_code e.1 = .ok e.2)) = true := by decide +kernel
theorem pg_k63 : pg_c63.all (fun e => decide (decode prog_9_method_11_code e.1 = .ok e.2)) = true := by decide +kernel
theorem pg_k64 : pg_c64.all (fun e => decide (decode prog_9_method_12_code e.1 = .ok e.2)) = true := by decide +kernel
theorem pg_k65 : pg_c65.all (fun e => decide (decode prog_9_method_29_code e.1 = .ok e.2)) = true := by decide +kernel
theorem pg_k66 : pg_c66.all (fun e => decide (decode prog_9_method_27_code e.1 = .ok e.2)) = true := by decide +kernel
theorem pg_k67 : pg_c67.all (fun e => decide (decode prog_9_method_20_code e.1 = .ok e.2)) = true := by decide +kernel
theorem pg_k68 : pg_c68.all (fun e => decide (decode prog_9_method_22_code e.1 = .ok e.2)) = true := by decide +kernel
theorem pg_k69 : pg_c69.all (fun e => decide (decode prog_9_method_21_code e.1 = .ok e.2)) = true := by decide +kernel
theorem pg_k70 : pg_c70.all (fun e => decide (decode prog_9_method_18_code e.1 = .ok e.2)) = true := by decide +kernel
theorem pg_k71 : pg_c71.all (fun e => decide (decode prog_9_method_13_code e.1 = .ok e.2)) = true := by decide +kernel
theorem pg_k72 : pg_c72.all (fun e => decide (decode prog_9_method_14_code e.1 = .ok e.2)) = true := by decide +kernel
theorem pg_k73 : pg_c73.all (fun e => decide (decode prog_9_method_15_code e.1 = .ok e.2)) = true := by decide +kernel
theorem pg_k74 : pg_c74.all (fun e => decide (decode prog_9_method_16_code e.1 = .ok e.2)) = true := by decide +kernel
theorem pg_k75 : pg_c75.all (fun e => decide (decode prog_9_method_17_code e.1 = .ok e.2)) = true := by decide +kernel
theorem pg_k76 : pg_c76.all (fun e => decide (decode prog_9_method_19_code e.1 = .ok e.2)) = true := by decide +kernel
theorem pg_k77 : pg_c77.all (fun e => decide (decode prog_9_method_23_code e.1 = .ok e.2)) = true := by decide +kernel
theorem pg_k78 : pg_c78.all (fun e => decide (decode prog_9_method_25_code e.1 = .ok e.2)) = true := by decide +kernel
theorem pg_k79 : pg_c79.all (fun e => decide (decode prog_9_method_24_code e.1 = .ok e.2)) = true := by decide +kernel
theorem pg_k80 : pg_c80.all (fun e => decide (decode prog_9_method_26_code e.1 = .ok e.2)) = true := by decide +kernel
theorem pg_k81 : pg_c81.all (fun e => decide (decode prog_9_method_28_code e.1 = .ok e.2)) = true := by decide +kernel
theorem pg_k82 : pg_c82.all (fun e => decide (decode prog_9_method_30_code e.1 = .ok e.2)) = true := by decide +kernel
theorem pg_k83 : pg_c83.all (fun e => decide (decode prog_9_method_31_code e.1 = .ok e.2)) = true := by decide +kernel
set_option maxRecDepth 100000 in
theorem pg_bcs_ok : ∀ q ∈ pg_bcs, q.2.all (fun e => decide (decode q.1 e.1 = .ok e.2)) = true := List.forall_mem_cons.mpr ⟨pg_k0, List.forall_mem_cons.mpr ⟨pg_k1, List.forall_mem_cons.mpr ⟨pg_k2, List.forall_mem_cons.mpr ⟨pg_k3, List.forall_mem_cons.mpr ⟨pg_k4, List.forall_mem_cons.mpr ⟨pg_k5, List.forall_mem_cons.mpr ⟨pg_k6, List.forall_mem_cons.mpr ⟨pg_k7, List.forall_mem_cons.mpr ⟨pg_k8, List.forall_mem_cons.mpr ⟨pg_k9, List.forall_mem_cons.mpr ⟨pg_k10, List.forall_mem_cons.mpr ⟨pg_k11, List.forall_mem_cons.mpr ⟨pg_k12, List.forall_mem_cons.mpr ⟨pg_k13, List.forall_mem_cons.mpr ⟨pg_k14, List.forall_mem_cons.mpr ⟨pg_k15, List.forall_mem_cons.mpr ⟨pg_k16, List.forall_mem_cons.mpr ⟨pg_k17, List.forall_mem_cons.mpr ⟨pg_k18, List.forall_mem_cons.mpr ⟨pg_k19, List.forall_mem_cons.mpr ⟨pg_k20, List.forall_mem_cons.mpr ⟨pg_k21, List.forall_mem_cons.mpr ⟨pg_k22, List.forall_mem_cons.mpr ⟨pg_k23, List.forall_mem_cons.mpr ⟨pg_k24, List.forall_mem_cons.mpr ⟨pg_k25, List.forall_mem_cons.mpr ⟨pg_k26, List.forall_mem_cons.mpr ⟨pg_k27, List.forall_mem_cons.mpr ⟨pg_k28, List.forall_mem_cons.mpr ⟨pg_k29, List.forall_mem_cons.mpr ⟨pg_k30, List.forall_mem_cons.mpr ⟨pg_k31, List.forall_mem_cons.mpr ⟨pg_k32, List.forall_mem_cons.mpr ⟨pg_k33, List.forall_mem_cons.mpr ⟨pg_k34, List.forall_mem_cons.mpr ⟨pg_k35, List.forall_mem_cons.mpr ⟨pg_k36, List.forall_mem_cons.mpr ⟨pg_k37, List.forall_mem_cons.mpr ⟨pg_k38, List.forall_mem_cons.mpr ⟨pg_k39, List.forall_mem_cons.mpr ⟨pg_k40, List.forall_mem_cons.mpr ⟨pg_k41, List.forall_mem_cons.mpr ⟨pg_k42, List.forall_mem_cons.mpr ⟨pg_k43, List.forall_mem_cons.mpr ⟨pg_k44, List.forall_mem_cons.mpr ⟨pg_k45, List.forall_mem_cons.mpr ⟨pg_k46, List.forall_mem_cons.mpr ⟨pg_k47, List.forall_mem_cons.mpr ⟨pg_k48, List.forall_mem_cons.mpr ⟨pg_k49, List.forall_mem_cons.mpr ⟨pg_k50, List.forall_mem_cons.mpr ⟨pg_k51, List.forall_mem_cons.mpr ⟨pg_k52, List.forall_mem_cons.mpr ⟨pg_k53, List.forall_mem_cons.mpr ⟨pg_k54, List.forall_mem_cons.mpr ⟨pg_k55, List.forall_mem_cons.mpr ⟨pg_k56, List.forall_mem_cons.mpr ⟨pg_k57, List.forall_mem_cons.mpr ⟨pg_k58, List.forall_mem_cons.mpr ⟨pg_k59, List.forall_mem_cons.mpr ⟨pg_k60, List.forall_mem_cons.mpr ⟨pg_k61, List.forall_mem_cons.mpr ⟨pg_k62, List.forall_mem_cons.mpr ⟨pg_k63, List.forall_mem_cons.mpr ⟨pg_k64, List.forall_mem_cons.mpr ⟨pg_k65, List.forall_mem_cons.mpr ⟨pg_k66, List.forall_mem_cons.mpr ⟨pg_k67, List.forall_mem_cons.mpr ⟨pg_k68, List.forall_mem_cons.mpr ⟨pg_k69, List.forall_mem_cons.mpr ⟨pg_k70, List.forall_mem_cons.mpr ⟨pg_k71, List.forall_mem_cons.mpr ⟨pg_k72, List.forall_mem_cons.mpr ⟨pg_k73, List.forall_mem_cons.mpr ⟨pg_k74, List.forall_mem_cons.mpr ⟨pg_k75, List.forall_mem_cons.mpr ⟨pg_k76, List.forall_mem_cons.mpr ⟨pg_k77, List.forall_mem_cons.mpr ⟨pg_k78, List.forall_mem_cons.mpr ⟨pg_k79, List.forall_mem_cons.mpr ⟨pg_k80, List.forall_mem_cons.mpr ⟨pg_k81, List.forall_mem_cons.mpr ⟨pg_k82, List.forall_mem_cons.mpr ⟨pg_k83, fun _ h => absurd h List.not_mem_nil⟩⟩⟩⟩⟩⟩⟩⟩⟩⟩⟩⟩⟩⟩⟩⟩⟩⟩⟩⟩⟩⟩⟩⟩⟩⟩⟩⟩⟩⟩⟩⟩⟩⟩⟩⟩⟩⟩⟩⟩⟩⟩⟩⟩⟩⟩⟩⟩⟩⟩⟩⟩⟩⟩⟩⟩⟩⟩⟩⟩⟩⟩⟩⟩⟩⟩⟩⟩⟩⟩⟩⟩⟩⟩⟩⟩⟩⟩⟩⟩⟩⟩⟩⟩
set_option maxRecDepth 100000 in
theorem pg_w1 : lw_tbl[48]? = some (Cond.code (pg_y 1) (pg_b 1) (pg_l 1) (pg_r 1)) := rfl
set_option maxRecDepth 100000 in
theorem pg_w2 : lw_tbl[56]? = some (Cond.code (pg_y 2) (pg_b 2) (pg_l 2) (pg_r 2)) := rfl
set_option maxRecDepth 100000 in
theorem pg_w3 : lw_tbl[73]? = some (Cond.code (pg_y 3) (pg_b 3) (pg_l 3) (pg_r 3)) := rfl
set_option maxRecDepth 100000 in
theorem pg_w4 : lw_tbl[83]? = some (Cond.code (pg_y 4) (pg_b 4) (pg_l 4) (pg_r 4)) := rfl
set_option maxRecDepth 100000 in
theorem pg_w5 : lw_tbl[127]? = some (Cond.code (pg_y 5) (pg_b 5) (pg_l 5) (pg_r 5)) := rfl
set_option maxRecDepth 100000 in
theorem pg_w6 : lw_tbl[135]? = some (Cond.code (pg_y 6) (pg_b 6) (pg_l 6) (pg_r 6)) := rfl
set_option maxRecDepth 100000 in
theorem pg_w7 : lw_tbl[168]? = some (Cond.code (pg_y 7) (pg_b 7) (pg_l 7) (pg_r 7)) := rfl
set_option maxRecDepth 100000 in
theorem pg_w8 : lw_tbl[238]? = some (Cond.code (pg_y 8) (pg_b 8) (pg_l 8) (pg_r 8)) := rfl
set_option maxRecDepth 100000 in
theorem pg_w9 : lw_tbl[242]? = some (Cond.code (pg_y 9) (pg_b 9) (pg_l 9) (pg_r 9)) := rfl
set_option maxRecDepth 100000 in
theorem pg_w10 : lw_tbl[246]? = some (Cond.code (pg_y 10) (pg_b 10) (pg_l 10) (pg_r 10)) := rfl
set_option maxRecDepth 100000 in
theorem pg_w11 : lw_tbl[250]? = some (Cond.code (pg_y 11) (pg_b 11) (pg_l 11) (pg_r 11)) := rfl
set_option maxRecDepth 100000 in
theorem pg_w12 : lw_tbl[254]? = some (Cond.code (pg_y 12) (pg_b 12) (pg_l 12) (pg_r 12)) := rfl
set_option maxRecDepth 100000 in
theorem pg_w13 : lw_tbl[258]? = some (Cond.code (pg_y 13) (pg_b 13) (pg_l 13) (pg_r 13)) := rfl
set_option maxRecDepth 100000 in
theorem pg_w14 : lw_tbl[265]? = some (Cond.code (pg_y 14) (pg_b 14) (pg_l 14) (pg_r 14)) := rfl
set_option maxRecDepth 100000 in
theorem pg_w15 : lw_tbl[269]? = some (Cond.code (pg_y 15) (pg_b 15) (pg_l 15) (pg_r 15)) := rfl
set_option maxRecDepth 100000 in
theorem pg_w16 : lw_tbl[273]? = some (Cond.code (pg_y 16) (pg_b 16) (pg_l 16) (pg_r 16)) := rfl
set_option maxRecDepth 100000 in
theorem pg_w17 : lw_tbl[277]? = some (Cond.code (pg_y 17) (pg_b 17) (pg_l 17) (pg_r 17)) := rfl
set_option maxRecDepth 100000 in
theorem pg_w18 : lw_tbl[281]? = some (Cond.code (pg_y 18) (pg_b 18) (pg_l 18) (pg_r 18)) := rfl
set_option maxRecDepth 100000 in
theorem pg_w19 : lw_tbl[285]? = some (Cond.code (pg_y 19) (pg_b 19) (pg_l 19) (pg_r 19)) := rfl
set_option maxRecDepth 100000 in
theorem pg_w20 : lw_tbl[289]? = some (Cond.code (pg_y 20) (pg_b 20) (pg_l 20) (pg_r 20)) := rfl
set_option maxRecDepth 100000 in
theorem pg_w21 : lw_tbl[293]? = some (Cond.code (pg_y 21) (pg_b 21) (pg_l 21) (pg_r 21)) := rfl
set_option maxRecDepth 100000 in
theorem pg_w22 : lw_tbl[296]? = some (Cond.code (pg_y 22) (pg_b 22) (pg_l 22) (pg_r 22)) := rfl
set_option maxRecDepth 100000 in
theorem pg_w23 : lw_tbl[301]? = some (Cond.code (pg_y 23) (pg_b 23) (pg_l 23) (pg_r 23)) := rfl
set_option maxRecDepth 100000 in
theorem pg_w24 : lw_tbl[305]? = some (Cond.code (pg_y 24) (pg_b 24) (pg_l 24) (pg_r 24)) := rfl
set_option maxRecDepth 100000 in
theorem pg_w25 : lw_tbl[310]? = some (Cond.code (pg_y 25) (pg_b 25) (pg_l 25) (pg_r 25)) := rfl
set_option maxRecDepth 100000 in
theorem pg_w26 : lw_tbl[314]? = some (Cond.code (pg_y 26) (pg_b 26) (pg_l 26) (pg_r 26)) := rfl
set_option maxRecDepth 100000 in
theorem pg_w27 : lw_tbl[319]? = some (Cond.code (pg_y 27) (pg_b 27) (pg_l 27) (pg_r 27)) := rfl
set_option maxRecDepth 100000 in
theorem pg_w28 : lw_tbl[323]? = some (Cond.code (pg_y 28) (pg_b 28) (pg_l 28) (pg_r 28)) := rfl
set_option maxRecDepth 100000 in
theorem pg_w29 : lw_tbl[328]? = some (Cond.code (pg_y 29) (pg_b 29) (pg_l 29) (pg_r 29)) := rfl
set_option maxRecDepth 100000 in
theorem pg_w30 : lw_tbl[332]? = some (Cond.code (pg_y 30) (pg_b 30) (pg_l 30) (pg_r 30)) := rfl
set_option maxRecDepth 100000 in
theorem pg_w31 : lw_tbl[336]? = some (Cond.code (pg_y 31) (pg_b 31) (pg_l 31) (pg_r 31)) := rfl
set_option maxRecDepth 100000 in
theorem pg_w32 : lw_tbl[340]? = some (Cond.code (pg_y 32) (pg_b 32) (pg_l 32) (pg_r 32)) := rfl
set_option maxRecDepth 100000 in
theorem pg_w33 : lw_tbl[344]? = some (Cond.code (pg_y 33) (pg_b 33) (pg_l 33) (pg_r 33)) := rfl
set_option maxRecDepth 100000 in
theorem pg_w34 : lw_tbl[348]? = some (Cond.code (pg_y 34) (pg_b 34) (pg_l 34) (pg_r 34)) := rfl
set_option maxRecDepth 100000 in
theorem pg_w35 : lw_tbl[354]? = some (Cond.code (pg_y 35) (pg_b 35) (pg_l 35) (pg_r 35)) := rfl
set_option maxRecDepth 100000 in
theorem pg_w36 : lw_tbl[358]? = some (Cond.code (pg_y 36) (pg_b 36) (pg_l 36) (pg_r 36)) := rfl
set_option maxRecDepth 100000 in
theorem pg_w37 : lw_tbl[362]? = some (Cond.code (pg_y 37) (pg_b 37) (pg_l 37) (pg_r 37)) := rfl
set_option maxRecDepth 100000 in
theorem pg_w38 : lw_tbl[366]? = some (Cond.code (pg_y 38) (pg_b 38) (pg_l 38) (pg_r 38)) := rfl
set_option maxRecDepth 100000 in
theorem pg_w39 : lw_tbl[370]? = some (Cond.code (pg_y 39) (pg_b 39) (pg_l 39) (pg_r 39)) := rfl
set_option maxRecDepth 100000 in
theorem pg_w40 : lw_tbl[374]? = some (Cond.code (pg_y 40) (pg_b 40) (pg_l 40) (pg_r 40)) := rfl
set_option maxRecDepth 100000 in
theorem pg_w41 : lw_tbl[379]? = some (Cond.code (pg_y 41) (pg_b 41) (pg_l 41) (pg_r 41)) := rfl
set_option maxRecDepth 100000 in
theorem pg_w42 : lw_tbl[383]? = some (Cond.code (pg_y 42) (pg_b 42) (pg_l 42) (pg_r 42)) := rfl
set_option maxRecDepth 100000 in
theorem pg_w43 : lw_tbl[387]? = some (Cond.code (pg_y 43) (pg_b 43) (pg_l 43) (pg_r 43)) := rfl
set_option maxRecDepth 100000 in
theorem pg_w44 : lw_tbl[391]? = some (Cond.code (pg_y 44) (pg_b 44) (pg_l 44) (pg_r 44)) := rfl
set_option maxRecDepth 100000 in
theorem pg_w45 : lw_tbl[395]? = some (Cond.code (pg_y 45) (pg_b 45) (pg_l 45) (pg_r 45)) := rfl
set_option maxRecDepth 100000 in
theorem pg_w46 : lw_tbl[399]? = some (Cond.code (pg_y 46) (pg_b 46) (pg_l 46) (pg_r 46)) := rfl
set_option maxRecDepth 100000 in
theorem pg_w47 : lw_tbl[403]? = some (Cond.code (pg_y 47) (pg_b 47) (pg_l 47) (pg_r 47)) := rfl
set_option maxRecDepth 100000 in
theorem pg_w48 : lw_tbl[407]? = some (Cond.code (pg_y 48) (pg_b 48) (pg_l 48) (pg_r 48)) := rfl
set_option maxRecDepth 100000 in
theorem pg_w49 : lw_tbl[412]? = some (Cond.code (pg_y 49) (pg_b 49) (pg_l 49) (pg_r 49)) := rfl
set_option maxRecDepth 100000 in
theorem pg_w50 : lw_tbl[416]? = some (Cond.code (pg_y 50) (pg_b 50) (pg_l 50) (pg_r 50)) := rfl
set_option maxRecDepth 100000 in
theorem pg_w51 : lw_tbl[420]? = some (Cond.code (pg_y 51) (pg_b 51) (pg_l 51) (pg_r 51)) := rfl
set_option maxRecDepth 100000 in
theorem pg_w52 : lw_tbl[424]? = some (Cond.code (pg_y 52) (pg_b 52) (pg_l 52) (pg_r 52)) := rfl
set_option maxRecDepth 100000 in
theorem pg_w53 : lw_tbl[428]? = some (Cond.code (pg_y 53) (pg_b 53) (pg_l 53) (pg_r 53)) := rfl
set_option maxRecDepth 100000 in
theorem pg_w54 : lw_tbl[433]? = some (Cond.code (pg_y 54) (pg_b 54) (pg_l 54) (pg_r 54)) := rfl
set_option maxRecDepth 100000 in
theorem pg_w55 : lw_tbl[534]? = some (Cond.code (pg_y 55) (pg_b 55) (pg_l 55) (pg_r 55)) := rfl
set_option maxRecDepth 100000 in
theorem pg_w56 : lw_tbl[538]? = some (Cond.code (pg_y 56) (pg_b 56) (pg_l 56) (pg_r 56)) := rfl
set_option maxRecDepth 100000 in
theorem pg_w57 : lw_tbl[541]? = some (Cond.code (pg_y 57) (pg_b 57) (pg_l 57) (pg_r 57)) := rfl
set_option maxRecDepth 100000 in
theorem pg_w58 : lw_tbl[545]? = some (Cond.code (pg_y 58) (pg_b 58) (pg_l 58) (pg_r 58)) := rfl
set_option maxRecDepth 100000 in
theorem pg_w59 : lw_tbl[549]? = some (Cond.code (pg_y 59) (pg_b 59) (pg_l 59) (pg_r 59)) := rfl
set_option maxRecDepth 100000 in
theorem pg_w60 : lw_tbl[553]? = some (Cond.code (pg_y 60) (pg_b 60) (pg_l 60) (pg_r 60)) := rfl
set_option maxRecDepth 100000 in
theorem pg_w61 : lw_tbl[557]? = some (Cond.code (pg_y 61) (pg_b 61) (pg_l 61) (pg_r 61)) := rfl
set_option maxRecDepth 100000 in
theorem pg_w62 : lw_tbl[561]? = some (Cond.code (pg_y 62) (pg_b 62) (pg_l 62) (pg_r 62)) := rfl
set_option maxRecDepth 100000 in
theorem pg_w63 : lw_tbl[565]? = some (Cond.code (pg_y 63) (pg_b 63) (pg_l 63) (pg_r 63)) := rfl
set_option maxRecDepth 100000 in
theorem pg_w64 : lw_tbl[569]? = some (Cond.code (pg_y 64) (pg_b 64) (pg_l 64) (pg_r 64)) := rfl
set_option maxRecDepth 100000 in
theorem pg_w65 : lw_tbl[573]? = some (Cond.code (pg_y 65) (pg_b 65) (pg_l 65) (pg_r 65)) := rfl
set_option maxRecDepth 100000 in
theorem pg_w66 : lw_tbl[577]? = some (Cond.code (pg_y 66) (pg_b 66) (pg_l 66) (pg_r 66)) := rfl
set_option maxRecDepth 100000 in
theorem pg_w67 : lw_tbl[581]? = some (Cond.code (pg_y 67) (pg_b 67) (pg_l 67) (pg_r 67)) := rfl
set_option maxRecDepth 100000 in
theorem pg_w68 : lw_tbl[585]? = some (Cond.code (pg_y 68) (pg_b 68) (pg_l 68) (pg_r 68)) := rfl
set_option maxRecDepth 100000 in
theorem pg_w69 : lw_tbl[589]? = some (Cond.code (pg_y 69) (pg_b 69) (pg_l 69) (pg_r 69)) := rfl
set_option maxRecDepth 100000 in
theorem pg_w70 : lw_tbl[593]? = some (Cond.code (pg_y 70) (pg_b 70) (pg_l 70) (pg_r 70)) := rfl
set_option maxRecDepth 100000 in
theorem pg_w71 : lw_tbl[597]? = some (Cond.code (pg_y 71) (pg_b 71) (pg_l 71) (pg_r 71)) := rfl
set_option maxRecDepth 100000 in
theorem pg_w72 : lw_tbl[601]? = some (Cond.code (pg_y 72) (pg_b 72) (pg_l 72) (pg_r 72)) := rfl
set_option maxRecDepth 100000 in
theorem pg_w73 : lw_tbl[605]? = some (Cond.code (pg_y 73) (pg_b 73) (pg_l 73) (pg_r 73)) := rfl
set_option maxRecDepth 100000 in
theorem pg_w74 : lw_tbl[609]? = some (Cond.code (pg_y 74) (pg_b 74) (pg_l 74) (pg_r 74)) := rfl
set_option maxRecDepth 100000 in
theorem pg_w75 : lw_tbl[613]? = some (Cond.code (pg_y 75) (pg_b 75) (pg_l 75) (pg_r 75)) := rfl
set_option maxRecDepth 100000 in
theorem pg_w76 : lw_tbl[617]? = some (Cond.code (pg_y 76) (pg_b 76) (pg_l 76) (pg_r 76)) := rfl
set_option maxRecDepth 100000 in
theorem pg_w77 : lw_tbl[621]? = some (Cond.code (pg_y 77) (pg_b 77) (pg_l 77) (pg_r 77)) := rfl
set_option maxRecDepth 100000 in
theorem pg_w78 : lw_tbl[625]? = some (Cond.code (pg_y 78) (pg_b 78) (pg_l 78) (pg_r 78)) := rfl
set_option maxRecDepth 100000 in
theorem pg_w79 : lw_tbl[629]? = some (Cond.code (pg_y 79) (pg_b 79) (pg_l 79) (pg_r 79)) := rfl
set_option maxRecDepth 100000 in
theorem pg_w80 : lw_tbl[633]? = some (Cond.code (pg_y 80) (pg_b 80) (pg_l 80) (pg_r 80)) := rfl
set_option maxRecDepth 100000 in
theorem pg_w81 : lw_tbl[637]? = some (Cond.code (pg_y 81) (pg_b 81) (pg_l 81) (pg_r 81)) := rfl
set_option maxRecDepth 100000 in
theorem pg_w82 : lw_tbl[641]? = some (Cond.code (pg_y 82) (pg_b 82) (pg_l 82) (pg_r 82)) := rfl
set_option maxRecDepth 100000 in
theorem pg_w83 : lw_tbl[645]? = some (Cond.code (pg_y 83) (pg_b 83) (pg_l 83) (pg_r 83)) := rfl
theorem pg_wall : ∀ z : Nat, 0 < z → z < pg_n → Cond.code (pg_y z) (pg_b z) (pg_l z) (pg_r z) ∈ pg_TS
  | 0, h, _ => absurd h (by decide)
  | 1, _, _ => pg_in pg_w1 rfl
  | 2, _, _ => pg_in pg_w2 rfl
  | 3, _, _ => pg_in pg_w3 rfl
  | 4, _, _ => pg_in pg_w4 rfl
  | 5, _, _ => pg_in pg_w5 rfl
  | 6, _, _ => pg_in pg_w6 rfl
  | 7, _, _ => pg_in pg_w7 rfl
  | 8, _, _ => pg_in pg_w8 rfl
  | 9, _, _ => pg_in pg_w9 rfl
  | 10, _, _ => pg_in pg_w10 rfl
  | 11, _, _ => pg_in pg_w11 rfl
  | 12, _, _ => pg_in pg_w12 rfl
  | 13, _, _ => pg_in pg_w13 rfl
  | 14, _, _ => pg_in pg_w14 rfl
  | 15, _, _ => pg_in pg_w15 rfl
  | 16, _, _ => pg_in pg_w16 rfl
  | 17, _, _ => pg_in pg_w17 rfl
  | 18, _, _ => pg_in pg_w18 rfl
  | 19, _, _ => pg_in pg_w19 rfl
  | 20, _, _ => pg_in pg_w20 rfl
  | 21, _, _ => pg_in pg_w21 rfl
  | 22, _, _ => pg_in pg_w22 rfl
  | 23, _, _ => pg_in pg_w23 rfl
  | 24, _, _ => pg_in pg_w24 rfl
  | 25, _, _ => pg_in pg_w25 rfl
  | 26, _, _ => pg_in pg_w26 rfl
  | 27, _, _ => pg_in pg_w27 rfl
  | 28, _, _ => pg_in pg_w28 rfl
  | 29, _, _ => pg_in pg_w29 rfl
  | 30, _, _ => pg_in pg_w30 rfl
  | 31, _, _ => pg_in pg_w31 rfl
  | 32, _, _ => pg_in pg_w32 rfl
  | 33, _, _ => pg_in pg_w33 rfl
  | 34, _, _ => pg_in pg_w34 rfl
  | 35, _, _ => pg_in pg_w35 rfl
  | 36, _, _ => pg_in pg_w36 rfl
  | 37, _, _ => pg_in pg_w37 rfl
  | 38, _, _ => pg_in pg_w38 rfl
  | 39, _, _ => pg_in pg_w39 rfl
  | 40, _, _ => pg_in pg_w40 rfl
  | 41, _, _ => pg_in pg_w41 rfl
  | 42, _, _ => pg_in pg_w42 rfl
  | 43, _, _ => pg_in pg_w43 rfl
  | 44, _, _ => pg_in pg_w44 rfl
  | 45, _, _ => pg_in pg_w45 rfl
  | 46, _, _ => pg_in pg_w46 rfl
  | 47, _, _ => pg_in pg_w47 rfl
  | 48, _, _ => pg_in pg_w48 rfl
  | 49, _, _ => pg_in pg_w49 rfl
  | 50, _, _ => pg_in pg_w50 rfl
  | 51, _, _ => pg_in pg_w51 rfl
  | 52, _, _ => pg_in pg_w52 rfl
  | 53, _, _ => pg_in pg_w53 rfl
  | 54, _, _ => pg_in pg_w54 rfl
  | 55, _, _ => pg_in pg_w55 rfl
  | 56, _, _ => pg_in pg_w56 rfl
  | 57, _, _ => pg_in pg_w57 rfl
  | 58, _, _ => pg_in pg_w58 rfl
  | 59, _, _ => pg_in pg_w59 rfl
  | 60, _, _ => pg_in pg_w60 rfl
  | 61, _, _ => pg_in pg_w61 rfl
  | 62, _, _ => pg_in pg_w62 rfl
  | 63, _, _ => pg_in pg_w63 rfl
  | 64, _, _ => pg_in pg_w64 rfl
  | 65, _, _ => pg_in pg_w65 rfl
  | 66, _, _ => pg_in pg_w66 rfl
  | 67, _, _ => pg_in pg_w67 rfl
  | 68, _, _ => pg_in pg_w68 rfl
  | 69, _, _ => pg_in pg_w69 rfl
  | 70, _, _ => pg_in pg_w70 rfl
  | 71, _, _ => pg_in pg_w71 rfl
  | 72, _, _ => pg_in pg_w72 rfl
  | 73, _, _ => pg_in pg_w73 rfl
  | 74, _, _ => pg_in pg_w74 rfl
  | 75, _, _ => pg_in pg_w75 rfl
  | 76, _, _ => pg_in pg_w76 rfl
  | 77, _, _ => pg_in pg_w77 rfl
  | 78, _, _ => pg_in pg_w78 rfl
  | 79, _, _ => pg_in pg_w79 rfl
  | 80, _, _ => pg_in pg_w80 rfl
  | 81, _, _ => pg_in pg_w81 rfl
  | 82, _, _ => pg_in pg_w82 rfl
  | 83, _, _ => pg_in pg_w83 rfl
  | n + 84, _, h => absurd h (by unfold pg_n; omega)
theorem pg_mall : (List.range pg_n).all (fun z => decide (z = 0) || (plainName (pg_y z).cls && decide (pg_l z + 19 ≤ xm_K))) = true := by decide +kernel
theorem pg_m_ok {z : Nat} (h0 : 0 < z) (h : z < pg_n) : Cond.code (pg_y z) (pg_b z) (pg_l z) (pg_r z) ∈ pg_TS ∧ plainName (pg_y z).cls = true ∧ pg_l z + 19 ≤ xm_K := by
  have hc := List.all_eq_true.mp pg_mall z (List.mem_range.mpr h)
  rw [Bool.or_eq_true, decide_eq_true_eq] at hc
  have hc := hc.resolve_left (by omega)
  rw [Bool.and_eq_true, decide_eq_true_eq] at hc
  exact ⟨pg_wall z h0 h, hc⟩
theorem pg_code_ok {y pc : Nat} {x : Instr × Nat} (h : pg_code y pc = some x) : decode (pg_b y) pc = .ok x := by
  unfold pg_code at h
  unfold pg_b
  by_cases hy : y < pg_bcs.length
  · rw [List.getD_eq_getElem?_getD, List.getElem?_eq_getElem hy, Option.getD_some] at h ⊢
    have h1 := pg_bcs_ok _ (List.getElem_mem hy)
    have h2 := List.all_eq_true.mp h1 _ (pg_lk h)
    rw [decide_eq_true_eq] at h2
    exact h2
  · rw [pg_getD _ _ (by omega)] at h
    cases h
