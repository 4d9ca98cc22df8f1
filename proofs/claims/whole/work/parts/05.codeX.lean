/-! Rows of the code, laid by wip/whole/mk04.py: kc_method_pc, kf_ a field, ka_ a call, ki_ kL_ constants, kt_ a throw; kl_ locals, ko_ class, kn_ room, kr_ answer -/
-- 0: TermNet$Groups.knownGroups()I
theorem kl_0 : am_ml tn_G 0 = 3 := rfl
theorem ko_0 : am_oc tn_G 0 = 0 := rfl
theorem kn_0 : am_nc tn_G 0 = 0 := rfl
theorem kr_0 : am_rt tn_G 0 = 1 := rfl
theorem kc_0_0 : am_code tn_G 0 0 = some (.iconst 0, 1, 0) := am_code_of (M := tn_m0) rfl (by decide +kernel) rfl rfl
theorem kc_0_1 : am_code tn_G 0 1 = some (.istore_n 1, 1, 0) := am_code_of (M := tn_m0) rfl (by decide +kernel) rfl rfl
theorem kc_0_2 : am_code tn_G 0 2 = some (.iconst 0, 1, 0) := am_code_of (M := tn_m0) rfl (by decide +kernel) rfl rfl
theorem kc_0_3 : am_code tn_G 0 3 = some (.istore_n 2, 1, 0) := am_code_of (M := tn_m0) rfl (by decide +kernel) rfl rfl
theorem kc_0_4 : am_code tn_G 0 4 = some (.iload_n 2, 1, 0) := am_code_of (M := tn_m0) rfl (by decide +kernel) rfl rfl
theorem kc_0_5 : am_code tn_G 0 5 = some (.aload_n 0, 1, 0) := am_code_of (M := tn_m0) rfl (by decide +kernel) rfl rfl
theorem kc_0_6 : am_code tn_G 0 6 = some (.getfield 28, 3, 0) := am_code_of (M := tn_m0) rfl (by decide +kernel) rfl rfl
theorem kf_0_28 : am_fld tn_G 0 28 = some (0, 0) := by decide +kernel
theorem kc_0_9 : am_code tn_G 0 9 = some (.getfield 48, 3, 0) := am_code_of (M := tn_m0) rfl (by decide +kernel) rfl rfl
theorem kf_0_48 : am_fld tn_G 0 48 = some (1, 4) := by decide +kernel
theorem kc_0_12 : am_code tn_G 0 12 = some (.if_icmp .ge 32, 3, 44) := am_code_of (M := tn_m0) rfl (by decide +kernel) rfl (by decide +kernel)
theorem kc_0_15 : am_code tn_G 0 15 = some (.aload_n 0, 1, 0) := am_code_of (M := tn_m0) rfl (by decide +kernel) rfl rfl
theorem kc_0_16 : am_code tn_G 0 16 = some (.getfield 9, 3, 0) := am_code_of (M := tn_m0) rfl (by decide +kernel) rfl rfl
theorem kf_0_9 : am_fld tn_G 0 9 = some (0, 1) := by decide +kernel
theorem kc_0_19 : am_code tn_G 0 19 = some (.iload_n 2, 1, 0) := am_code_of (M := tn_m0) rfl (by decide +kernel) rfl rfl
theorem kc_0_20 : am_code tn_G 0 20 = some (.iaload, 1, 0) := am_code_of (M := tn_m0) rfl (by decide +kernel) rfl rfl
theorem kc_0_21 : am_code tn_G 0 21 = some (.iload_n 2, 1, 0) := am_code_of (M := tn_m0) rfl (by decide +kernel) rfl rfl
theorem kc_0_22 : am_code tn_G 0 22 = some (.if_icmp .ne 16, 3, 38) := am_code_of (M := tn_m0) rfl (by decide +kernel) rfl (by decide +kernel)
theorem kc_0_25 : am_code tn_G 0 25 = some (.aload_n 0, 1, 0) := am_code_of (M := tn_m0) rfl (by decide +kernel) rfl rfl
theorem kc_0_26 : am_code tn_G 0 26 = some (.getfield 18, 3, 0) := am_code_of (M := tn_m0) rfl (by decide +kernel) rfl rfl
theorem kf_0_18 : am_fld tn_G 0 18 = some (0, 3) := by decide +kernel
theorem kc_0_29 : am_code tn_G 0 29 = some (.iload_n 2, 1, 0) := am_code_of (M := tn_m0) rfl (by decide +kernel) rfl rfl
theorem kc_0_30 : am_code tn_G 0 30 = some (.iaload, 1, 0) := am_code_of (M := tn_m0) rfl (by decide +kernel) rfl rfl
theorem kc_0_31 : am_code tn_G 0 31 = some (.iconst (-1), 1, 0) := am_code_of (M := tn_m0) rfl (by decide +kernel) rfl rfl
theorem kc_0_32 : am_code tn_G 0 32 = some (.if_icmp .eq 6, 3, 38) := am_code_of (M := tn_m0) rfl (by decide +kernel) rfl (by decide +kernel)
theorem kc_0_35 : am_code tn_G 0 35 = some (.iinc 1 1, 3, 0) := am_code_of (M := tn_m0) rfl (by decide +kernel) rfl rfl
theorem kc_0_38 : am_code tn_G 0 38 = some (.iinc 2 1, 3, 0) := am_code_of (M := tn_m0) rfl (by decide +kernel) rfl rfl
theorem kc_0_41 : am_code tn_G 0 41 = some (.goto (-37), 3, 4) := am_code_of (M := tn_m0) rfl (by decide +kernel) rfl (by decide +kernel)
theorem kc_0_44 : am_code tn_G 0 44 = some (.iload_n 1, 1, 0) := am_code_of (M := tn_m0) rfl (by decide +kernel) rfl rfl
theorem kc_0_45 : am_code tn_G 0 45 = some (.ireturn, 1, 0) := am_code_of (M := tn_m0) rfl (by decide +kernel) rfl rfl
-- 1: TermNet$Groups.found(I)V
theorem kl_1 : am_ml tn_G 1 = 2 := rfl
theorem ko_1 : am_oc tn_G 1 = 0 := rfl
theorem kn_1 : am_nc tn_G 1 = 0 := rfl
theorem kr_1 : am_rt tn_G 1 = 0 := rfl
theorem kc_1_0 : am_code tn_G 1 0 = some (.aload_n 0, 1, 0) := am_code_of (M := tn_m1) rfl (by decide +kernel) rfl rfl
theorem kc_1_1 : am_code tn_G 1 1 = some (.getfield 9, 3, 0) := am_code_of (M := tn_m1) rfl (by decide +kernel) rfl rfl
theorem kf_1_9 : am_fld tn_G 1 9 = some (0, 1) := by decide +kernel
theorem kc_1_4 : am_code tn_G 1 4 = some (.iload_n 1, 1, 0) := am_code_of (M := tn_m1) rfl (by decide +kernel) rfl rfl
theorem kc_1_5 : am_code tn_G 1 5 = some (.iload_n 1, 1, 0) := am_code_of (M := tn_m1) rfl (by decide +kernel) rfl rfl
theorem kc_1_6 : am_code tn_G 1 6 = some (.iastore, 1, 0) := am_code_of (M := tn_m1) rfl (by decide +kernel) rfl rfl
theorem kc_1_7 : am_code tn_G 1 7 = some (.aload_n 0, 1, 0) := am_code_of (M := tn_m1) rfl (by decide +kernel) rfl rfl
theorem kc_1_8 : am_code tn_G 1 8 = some (.getfield 15, 3, 0) := am_code_of (M := tn_m1) rfl (by decide +kernel) rfl rfl
theorem kf_1_15 : am_fld tn_G 1 15 = some (0, 2) := by decide +kernel
theorem kc_1_11 : am_code tn_G 1 11 = some (.iload_n 1, 1, 0) := am_code_of (M := tn_m1) rfl (by decide +kernel) rfl rfl
theorem kc_1_12 : am_code tn_G 1 12 = some (.iload_n 1, 1, 0) := am_code_of (M := tn_m1) rfl (by decide +kernel) rfl rfl
theorem kc_1_13 : am_code tn_G 1 13 = some (.iastore, 1, 0) := am_code_of (M := tn_m1) rfl (by decide +kernel) rfl rfl
theorem kc_1_14 : am_code tn_G 1 14 = some (.aload_n 0, 1, 0) := am_code_of (M := tn_m1) rfl (by decide +kernel) rfl rfl
theorem kc_1_15 : am_code tn_G 1 15 = some (.getfield 18, 3, 0) := am_code_of (M := tn_m1) rfl (by decide +kernel) rfl rfl
theorem kf_1_18 : am_fld tn_G 1 18 = some (0, 3) := by decide +kernel
theorem kc_1_18 : am_code tn_G 1 18 = some (.iload_n 1, 1, 0) := am_code_of (M := tn_m1) rfl (by decide +kernel) rfl rfl
theorem kc_1_19 : am_code tn_G 1 19 = some (.aload_n 0, 1, 0) := am_code_of (M := tn_m1) rfl (by decide +kernel) rfl rfl
theorem kc_1_20 : am_code tn_G 1 20 = some (.getfield 28, 3, 0) := am_code_of (M := tn_m1) rfl (by decide +kernel) rfl rfl
theorem kf_1_28 : am_fld tn_G 1 28 = some (0, 0) := by decide +kernel
theorem kc_1_23 : am_code tn_G 1 23 = some (.getfield 32, 3, 0) := am_code_of (M := tn_m1) rfl (by decide +kernel) rfl rfl
theorem kf_1_32 : am_fld tn_G 1 32 = some (1, 1) := by decide +kernel
theorem kc_1_26 : am_code tn_G 1 26 = some (.iload_n 1, 1, 0) := am_code_of (M := tn_m1) rfl (by decide +kernel) rfl rfl
theorem kc_1_27 : am_code tn_G 1 27 = some (.iaload, 1, 0) := am_code_of (M := tn_m1) rfl (by decide +kernel) rfl rfl
theorem kc_1_28 : am_code tn_G 1 28 = some (.iconst (-1), 1, 0) := am_code_of (M := tn_m1) rfl (by decide +kernel) rfl rfl
theorem kc_1_29 : am_code tn_G 1 29 = some (.if_icmp .ne 7, 3, 36) := am_code_of (M := tn_m1) rfl (by decide +kernel) rfl (by decide +kernel)
theorem kc_1_32 : am_code tn_G 1 32 = some (.iconst (-1), 1, 0) := am_code_of (M := tn_m1) rfl (by decide +kernel) rfl rfl
theorem kc_1_33 : am_code tn_G 1 33 = some (.goto 4, 3, 37) := am_code_of (M := tn_m1) rfl (by decide +kernel) rfl (by decide +kernel)
theorem kc_1_36 : am_code tn_G 1 36 = some (.iload_n 1, 1, 0) := am_code_of (M := tn_m1) rfl (by decide +kernel) rfl rfl
theorem kc_1_37 : am_code tn_G 1 37 = some (.iastore, 1, 0) := am_code_of (M := tn_m1) rfl (by decide +kernel) rfl rfl
theorem kc_1_38 : am_code tn_G 1 38 = some (.return_, 1, 0) := am_code_of (M := tn_m1) rfl (by decide +kernel) rfl rfl
-- 2: TermNet$Groups.joinToTwin(I)V
theorem kl_2 : am_ml tn_G 2 = 3 := rfl
theorem ko_2 : am_oc tn_G 2 = 0 := rfl
theorem kn_2 : am_nc tn_G 2 = 0 := rfl
theorem kr_2 : am_rt tn_G 2 = 0 := rfl
theorem kc_2_0 : am_code tn_G 2 0 = some (.iconst 0, 1, 0) := am_code_of (M := tn_m2) rfl (by decide +kernel) rfl rfl
theorem kc_2_1 : am_code tn_G 2 1 = some (.istore_n 2, 1, 0) := am_code_of (M := tn_m2) rfl (by decide +kernel) rfl rfl
theorem kc_2_2 : am_code tn_G 2 2 = some (.iload_n 2, 1, 0) := am_code_of (M := tn_m2) rfl (by decide +kernel) rfl rfl
theorem kc_2_3 : am_code tn_G 2 3 = some (.iload_n 1, 1, 0) := am_code_of (M := tn_m2) rfl (by decide +kernel) rfl rfl
theorem kc_2_4 : am_code tn_G 2 4 = some (.if_icmp .ge 27, 3, 31) := am_code_of (M := tn_m2) rfl (by decide +kernel) rfl (by decide +kernel)
theorem kc_2_7 : am_code tn_G 2 7 = some (.aload_n 0, 1, 0) := am_code_of (M := tn_m2) rfl (by decide +kernel) rfl rfl
theorem kc_2_8 : am_code tn_G 2 8 = some (.iload_n 2, 1, 0) := am_code_of (M := tn_m2) rfl (by decide +kernel) rfl rfl
theorem kc_2_9 : am_code tn_G 2 9 = some (.iload_n 1, 1, 0) := am_code_of (M := tn_m2) rfl (by decide +kernel) rfl rfl
theorem kc_2_10 : am_code tn_G 2 10 = some (.invokevirtual 77, 3, 0) := am_code_of (M := tn_m2) rfl (by decide +kernel) rfl rfl
theorem ka_2_77 : am_cal tn_G 2 77 = some (0, 3, 2) := by decide +kernel
theorem kc_2_13 : am_code tn_G 2 13 = some (.ifCond .eq 12, 3, 25) := am_code_of (M := tn_m2) rfl (by decide +kernel) rfl (by decide +kernel)
theorem kc_2_16 : am_code tn_G 2 16 = some (.aload_n 0, 1, 0) := am_code_of (M := tn_m2) rfl (by decide +kernel) rfl rfl
theorem kc_2_17 : am_code tn_G 2 17 = some (.iload_n 2, 1, 0) := am_code_of (M := tn_m2) rfl (by decide +kernel) rfl rfl
theorem kc_2_18 : am_code tn_G 2 18 = some (.iload_n 1, 1, 0) := am_code_of (M := tn_m2) rfl (by decide +kernel) rfl rfl
theorem kc_2_19 : am_code tn_G 2 19 = some (.invokevirtual 70, 3, 0) := am_code_of (M := tn_m2) rfl (by decide +kernel) rfl rfl
theorem ka_2_70 : am_cal tn_G 2 70 = some (0, 4, 2) := by decide +kernel
theorem kc_2_22 : am_code tn_G 2 22 = some (.goto 9, 3, 31) := am_code_of (M := tn_m2) rfl (by decide +kernel) rfl (by decide +kernel)
theorem kc_2_25 : am_code tn_G 2 25 = some (.iinc 2 1, 3, 0) := am_code_of (M := tn_m2) rfl (by decide +kernel) rfl rfl
theorem kc_2_28 : am_code tn_G 2 28 = some (.goto (-26), 3, 2) := am_code_of (M := tn_m2) rfl (by decide +kernel) rfl (by decide +kernel)
theorem kc_2_31 : am_code tn_G 2 31 = some (.return_, 1, 0) := am_code_of (M := tn_m2) rfl (by decide +kernel) rfl rfl
-- 3: TermNet$Groups.areTwins(II)Z
theorem kl_3 : am_ml tn_G 3 = 4 := rfl
theorem ko_3 : am_oc tn_G 3 = 0 := rfl
theorem kn_3 : am_nc tn_G 3 = 0 := rfl
theorem kr_3 : am_rt tn_G 3 = 2 := rfl
theorem kc_3_0 : am_code tn_G 3 0 = some (.aload_n 0, 1, 0) := am_code_of (M := tn_m3) rfl (by decide +kernel) rfl rfl
theorem kc_3_1 : am_code tn_G 3 1 = some (.getfield 28, 3, 0) := am_code_of (M := tn_m3) rfl (by decide +kernel) rfl rfl
theorem kf_3_28 : am_fld tn_G 3 28 = some (0, 0) := by decide +kernel
theorem kc_3_4 : am_code tn_G 3 4 = some (.getfield 32, 3, 0) := am_code_of (M := tn_m3) rfl (by decide +kernel) rfl rfl
theorem kf_3_32 : am_fld tn_G 3 32 = some (1, 1) := by decide +kernel
theorem kc_3_7 : am_code tn_G 3 7 = some (.iload_n 1, 1, 0) := am_code_of (M := tn_m3) rfl (by decide +kernel) rfl rfl
theorem kc_3_8 : am_code tn_G 3 8 = some (.iaload, 1, 0) := am_code_of (M := tn_m3) rfl (by decide +kernel) rfl rfl
theorem kc_3_9 : am_code tn_G 3 9 = some (.iconst (-1), 1, 0) := am_code_of (M := tn_m3) rfl (by decide +kernel) rfl rfl
theorem kc_3_10 : am_code tn_G 3 10 = some (.if_icmp .eq 24, 3, 34) := am_code_of (M := tn_m3) rfl (by decide +kernel) rfl (by decide +kernel)
theorem kc_3_13 : am_code tn_G 3 13 = some (.aload_n 0, 1, 0) := am_code_of (M := tn_m3) rfl (by decide +kernel) rfl rfl
theorem kc_3_14 : am_code tn_G 3 14 = some (.getfield 28, 3, 0) := am_code_of (M := tn_m3) rfl (by decide +kernel) rfl rfl
theorem kc_3_17 : am_code tn_G 3 17 = some (.getfield 32, 3, 0) := am_code_of (M := tn_m3) rfl (by decide +kernel) rfl rfl
theorem kc_3_20 : am_code tn_G 3 20 = some (.iload_n 1, 1, 0) := am_code_of (M := tn_m3) rfl (by decide +kernel) rfl rfl
theorem kc_3_21 : am_code tn_G 3 21 = some (.iaload, 1, 0) := am_code_of (M := tn_m3) rfl (by decide +kernel) rfl rfl
theorem kc_3_22 : am_code tn_G 3 22 = some (.aload_n 0, 1, 0) := am_code_of (M := tn_m3) rfl (by decide +kernel) rfl rfl
theorem kc_3_23 : am_code tn_G 3 23 = some (.getfield 28, 3, 0) := am_code_of (M := tn_m3) rfl (by decide +kernel) rfl rfl
theorem kc_3_26 : am_code tn_G 3 26 = some (.getfield 32, 3, 0) := am_code_of (M := tn_m3) rfl (by decide +kernel) rfl rfl
theorem kc_3_29 : am_code tn_G 3 29 = some (.iload_n 2, 1, 0) := am_code_of (M := tn_m3) rfl (by decide +kernel) rfl rfl
theorem kc_3_30 : am_code tn_G 3 30 = some (.iaload, 1, 0) := am_code_of (M := tn_m3) rfl (by decide +kernel) rfl rfl
theorem kc_3_31 : am_code tn_G 3 31 = some (.if_icmp .eq 5, 3, 36) := am_code_of (M := tn_m3) rfl (by decide +kernel) rfl (by decide +kernel)
theorem kc_3_34 : am_code tn_G 3 34 = some (.iconst 0, 1, 0) := am_code_of (M := tn_m3) rfl (by decide +kernel) rfl rfl
theorem kc_3_35 : am_code tn_G 3 35 = some (.ireturn, 1, 0) := am_code_of (M := tn_m3) rfl (by decide +kernel) rfl rfl
theorem kc_3_36 : am_code tn_G 3 36 = some (.iconst 0, 1, 0) := am_code_of (M := tn_m3) rfl (by decide +kernel) rfl rfl
theorem kc_3_37 : am_code tn_G 3 37 = some (.istore_n 3, 1, 0) := am_code_of (M := tn_m3) rfl (by decide +kernel) rfl rfl
theorem kc_3_38 : am_code tn_G 3 38 = some (.iload_n 3, 1, 0) := am_code_of (M := tn_m3) rfl (by decide +kernel) rfl rfl
theorem kc_3_39 : am_code tn_G 3 39 = some (.aload_n 0, 1, 0) := am_code_of (M := tn_m3) rfl (by decide +kernel) rfl rfl
theorem kc_3_40 : am_code tn_G 3 40 = some (.getfield 28, 3, 0) := am_code_of (M := tn_m3) rfl (by decide +kernel) rfl rfl
theorem kc_3_43 : am_code tn_G 3 43 = some (.iload_n 1, 1, 0) := am_code_of (M := tn_m3) rfl (by decide +kernel) rfl rfl
theorem kc_3_44 : am_code tn_G 3 44 = some (.invokevirtual 41, 3, 0) := am_code_of (M := tn_m3) rfl (by decide +kernel) rfl rfl
theorem ka_3_41 : am_cal tn_G 3 41 = some (0, 21, 1) := by decide +kernel
theorem kc_3_47 : am_code tn_G 3 47 = some (.if_icmp .ge 42, 3, 89) := am_code_of (M := tn_m3) rfl (by decide +kernel) rfl (by decide +kernel)
theorem kc_3_50 : am_code tn_G 3 50 = some (.aload_n 0, 1, 0) := am_code_of (M := tn_m3) rfl (by decide +kernel) rfl rfl
theorem kc_3_51 : am_code tn_G 3 51 = some (.getfield 9, 3, 0) := am_code_of (M := tn_m3) rfl (by decide +kernel) rfl rfl
theorem kf_3_9 : am_fld tn_G 3 9 = some (0, 1) := by decide +kernel
theorem kc_3_54 : am_code tn_G 3 54 = some (.aload_n 0, 1, 0) := am_code_of (M := tn_m3) rfl (by decide +kernel) rfl rfl
theorem kc_3_55 : am_code tn_G 3 55 = some (.getfield 28, 3, 0) := am_code_of (M := tn_m3) rfl (by decide +kernel) rfl rfl
theorem kc_3_58 : am_code tn_G 3 58 = some (.iload_n 1, 1, 0) := am_code_of (M := tn_m3) rfl (by decide +kernel) rfl rfl
theorem kc_3_59 : am_code tn_G 3 59 = some (.iload_n 3, 1, 0) := am_code_of (M := tn_m3) rfl (by decide +kernel) rfl rfl
theorem kc_3_60 : am_code tn_G 3 60 = some (.invokevirtual 44, 3, 0) := am_code_of (M := tn_m3) rfl (by decide +kernel) rfl rfl
theorem ka_3_44 : am_cal tn_G 3 44 = some (0, 22, 2) := by decide +kernel
theorem kc_3_63 : am_code tn_G 3 63 = some (.iaload, 1, 0) := am_code_of (M := tn_m3) rfl (by decide +kernel) rfl rfl
theorem kc_3_64 : am_code tn_G 3 64 = some (.aload_n 0, 1, 0) := am_code_of (M := tn_m3) rfl (by decide +kernel) rfl rfl
theorem kc_3_65 : am_code tn_G 3 65 = some (.getfield 9, 3, 0) := am_code_of (M := tn_m3) rfl (by decide +kernel) rfl rfl
theorem kc_3_68 : am_code tn_G 3 68 = some (.aload_n 0, 1, 0) := am_code_of (M := tn_m3) rfl (by decide +kernel) rfl rfl
theorem kc_3_69 : am_code tn_G 3 69 = some (.getfield 28, 3, 0) := am_code_of (M := tn_m3) rfl (by decide +kernel) rfl rfl
theorem kc_3_72 : am_code tn_G 3 72 = some (.iload_n 2, 1, 0) := am_code_of (M := tn_m3) rfl (by decide +kernel) rfl rfl
theorem kc_3_73 : am_code tn_G 3 73 = some (.iload_n 3, 1, 0) := am_code_of (M := tn_m3) rfl (by decide +kernel) rfl rfl
theorem kc_3_74 : am_code tn_G 3 74 = some (.invokevirtual 44, 3, 0) := am_code_of (M := tn_m3) rfl (by decide +kernel) rfl rfl
theorem kc_3_77 : am_code tn_G 3 77 = some (.iaload, 1, 0) := am_code_of (M := tn_m3) rfl (by decide +kernel) rfl rfl
theorem kc_3_78 : am_code tn_G 3 78 = some (.if_icmp .eq 5, 3, 83) := am_code_of (M := tn_m3) rfl (by decide +kernel) rfl (by decide +kernel)
theorem kc_3_81 : am_code tn_G 3 81 = some (.iconst 0, 1, 0) := am_code_of (M := tn_m3) rfl (by decide +kernel) rfl rfl
theorem kc_3_82 : am_code tn_G 3 82 = some (.ireturn, 1, 0) := am_code_of (M := tn_m3) rfl (by decide +kernel) rfl rfl
theorem kc_3_83 : am_code tn_G 3 83 = some (.iinc 3 1, 3, 0) := am_code_of (M := tn_m3) rfl (by decide +kernel) rfl rfl
theorem kc_3_86 : am_code tn_G 3 86 = some (.goto (-48), 3, 38) := am_code_of (M := tn_m3) rfl (by decide +kernel) rfl (by decide +kernel)
theorem kc_3_89 : am_code tn_G 3 89 = some (.iconst 1, 1, 0) := am_code_of (M := tn_m3) rfl (by decide +kernel) rfl rfl
theorem kc_3_90 : am_code tn_G 3 90 = some (.ireturn, 1, 0) := am_code_of (M := tn_m3) rfl (by decide +kernel) rfl rfl
-- 4: TermNet$Groups.join(II)V
theorem kl_4 : am_ml tn_G 4 = 5 := rfl
theorem ko_4 : am_oc tn_G 4 = 0 := rfl
theorem kn_4 : am_nc tn_G 4 = 0 := rfl
theorem kr_4 : am_rt tn_G 4 = 0 := rfl
theorem kc_4_0 : am_code tn_G 4 0 = some (.aload_n 0, 1, 0) := am_code_of (M := tn_m4) rfl (by decide +kernel) rfl rfl
theorem kc_4_1 : am_code tn_G 4 1 = some (.getfield 9, 3, 0) := am_code_of (M := tn_m4) rfl (by decide +kernel) rfl rfl
theorem kf_4_9 : am_fld tn_G 4 9 = some (0, 1) := by decide +kernel
theorem kc_4_4 : am_code tn_G 4 4 = some (.iload_n 1, 1, 0) := am_code_of (M := tn_m4) rfl (by decide +kernel) rfl rfl
theorem kc_4_5 : am_code tn_G 4 5 = some (.iaload, 1, 0) := am_code_of (M := tn_m4) rfl (by decide +kernel) rfl rfl
theorem kc_4_6 : am_code tn_G 4 6 = some (.aload_n 0, 1, 0) := am_code_of (M := tn_m4) rfl (by decide +kernel) rfl rfl
theorem kc_4_7 : am_code tn_G 4 7 = some (.getfield 9, 3, 0) := am_code_of (M := tn_m4) rfl (by decide +kernel) rfl rfl
theorem kc_4_10 : am_code tn_G 4 10 = some (.iload_n 2, 1, 0) := am_code_of (M := tn_m4) rfl (by decide +kernel) rfl rfl
theorem kc_4_11 : am_code tn_G 4 11 = some (.iaload, 1, 0) := am_code_of (M := tn_m4) rfl (by decide +kernel) rfl rfl
theorem kc_4_12 : am_code tn_G 4 12 = some (.if_icmp .ne 4, 3, 16) := am_code_of (M := tn_m4) rfl (by decide +kernel) rfl (by decide +kernel)
theorem kc_4_15 : am_code tn_G 4 15 = some (.return_, 1, 0) := am_code_of (M := tn_m4) rfl (by decide +kernel) rfl rfl
theorem kc_4_16 : am_code tn_G 4 16 = some (.aload_n 0, 1, 0) := am_code_of (M := tn_m4) rfl (by decide +kernel) rfl rfl
theorem kc_4_17 : am_code tn_G 4 17 = some (.getfield 9, 3, 0) := am_code_of (M := tn_m4) rfl (by decide +kernel) rfl rfl
theorem kc_4_20 : am_code tn_G 4 20 = some (.iload_n 1, 1, 0) := am_code_of (M := tn_m4) rfl (by decide +kernel) rfl rfl
theorem kc_4_21 : am_code tn_G 4 21 = some (.iaload, 1, 0) := am_code_of (M := tn_m4) rfl (by decide +kernel) rfl rfl
theorem kc_4_22 : am_code tn_G 4 22 = some (.aload_n 0, 1, 0) := am_code_of (M := tn_m4) rfl (by decide +kernel) rfl rfl
theorem kc_4_23 : am_code tn_G 4 23 = some (.getfield 9, 3, 0) := am_code_of (M := tn_m4) rfl (by decide +kernel) rfl rfl
theorem kc_4_26 : am_code tn_G 4 26 = some (.iload_n 2, 1, 0) := am_code_of (M := tn_m4) rfl (by decide +kernel) rfl rfl
theorem kc_4_27 : am_code tn_G 4 27 = some (.iaload, 1, 0) := am_code_of (M := tn_m4) rfl (by decide +kernel) rfl rfl
theorem kc_4_28 : am_code tn_G 4 28 = some (.invokestatic 51, 3, 0) := am_code_of (M := tn_m4) rfl (by decide +kernel) rfl rfl
theorem ka_4_51 : am_cal tn_G 4 51 = some (4, 0, 0) := by decide +kernel
theorem kc_4_31 : am_code tn_G 4 31 = some (.istore_n 3, 1, 0) := am_code_of (M := tn_m4) rfl (by decide +kernel) rfl rfl
theorem kc_4_32 : am_code tn_G 4 32 = some (.aload_n 0, 1, 0) := am_code_of (M := tn_m4) rfl (by decide +kernel) rfl rfl
theorem kc_4_33 : am_code tn_G 4 33 = some (.getfield 9, 3, 0) := am_code_of (M := tn_m4) rfl (by decide +kernel) rfl rfl
theorem kc_4_36 : am_code tn_G 4 36 = some (.iload_n 1, 1, 0) := am_code_of (M := tn_m4) rfl (by decide +kernel) rfl rfl
theorem kc_4_37 : am_code tn_G 4 37 = some (.iaload, 1, 0) := am_code_of (M := tn_m4) rfl (by decide +kernel) rfl rfl
theorem kc_4_38 : am_code tn_G 4 38 = some (.aload_n 0, 1, 0) := am_code_of (M := tn_m4) rfl (by decide +kernel) rfl rfl
theorem kc_4_39 : am_code tn_G 4 39 = some (.getfield 9, 3, 0) := am_code_of (M := tn_m4) rfl (by decide +kernel) rfl rfl
theorem kc_4_42 : am_code tn_G 4 42 = some (.iload_n 2, 1, 0) := am_code_of (M := tn_m4) rfl (by decide +kernel) rfl rfl
theorem kc_4_43 : am_code tn_G 4 43 = some (.iaload, 1, 0) := am_code_of (M := tn_m4) rfl (by decide +kernel) rfl rfl
theorem kc_4_44 : am_code tn_G 4 44 = some (.invokestatic 56, 3, 0) := am_code_of (M := tn_m4) rfl (by decide +kernel) rfl rfl
theorem ka_4_56 : am_cal tn_G 4 56 = some (3, 0, 0) := by decide +kernel
theorem kc_4_47 : am_code tn_G 4 47 = some (.istore 4, 2, 0) := am_code_of (M := tn_m4) rfl (by decide +kernel) rfl rfl
theorem kc_4_49 : am_code tn_G 4 49 = some (.aload_n 0, 1, 0) := am_code_of (M := tn_m4) rfl (by decide +kernel) rfl rfl
theorem kc_4_50 : am_code tn_G 4 50 = some (.iload 4, 2, 0) := am_code_of (M := tn_m4) rfl (by decide +kernel) rfl rfl
theorem kc_4_52 : am_code tn_G 4 52 = some (.iload_n 3, 1, 0) := am_code_of (M := tn_m4) rfl (by decide +kernel) rfl rfl
theorem kc_4_53 : am_code tn_G 4 53 = some (.invokevirtual 59, 3, 0) := am_code_of (M := tn_m4) rfl (by decide +kernel) rfl rfl
theorem ka_4_59 : am_cal tn_G 4 59 = some (0, 5, 2) := by decide +kernel
theorem kc_4_56 : am_code tn_G 4 56 = some (.aload_n 0, 1, 0) := am_code_of (M := tn_m4) rfl (by decide +kernel) rfl rfl
theorem kc_4_57 : am_code tn_G 4 57 = some (.iload_n 3, 1, 0) := am_code_of (M := tn_m4) rfl (by decide +kernel) rfl rfl
theorem kc_4_58 : am_code tn_G 4 58 = some (.iload 4, 2, 0) := am_code_of (M := tn_m4) rfl (by decide +kernel) rfl rfl
theorem kc_4_60 : am_code tn_G 4 60 = some (.invokevirtual 63, 3, 0) := am_code_of (M := tn_m4) rfl (by decide +kernel) rfl rfl
theorem ka_4_63 : am_cal tn_G 4 63 = some (0, 6, 2) := by decide +kernel
theorem kc_4_63 : am_code tn_G 4 63 = some (.aload_n 0, 1, 0) := am_code_of (M := tn_m4) rfl (by decide +kernel) rfl rfl
theorem kc_4_64 : am_code tn_G 4 64 = some (.getfield 18, 3, 0) := am_code_of (M := tn_m4) rfl (by decide +kernel) rfl rfl
theorem kf_4_18 : am_fld tn_G 4 18 = some (0, 3) := by decide +kernel
theorem kc_4_67 : am_code tn_G 4 67 = some (.iload_n 3, 1, 0) := am_code_of (M := tn_m4) rfl (by decide +kernel) rfl rfl
theorem kc_4_68 : am_code tn_G 4 68 = some (.iaload, 1, 0) := am_code_of (M := tn_m4) rfl (by decide +kernel) rfl rfl
theorem kc_4_69 : am_code tn_G 4 69 = some (.iconst (-1), 1, 0) := am_code_of (M := tn_m4) rfl (by decide +kernel) rfl rfl
theorem kc_4_70 : am_code tn_G 4 70 = some (.if_icmp .ne 16, 3, 86) := am_code_of (M := tn_m4) rfl (by decide +kernel) rfl (by decide +kernel)
theorem kc_4_73 : am_code tn_G 4 73 = some (.aload_n 0, 1, 0) := am_code_of (M := tn_m4) rfl (by decide +kernel) rfl rfl
theorem kc_4_74 : am_code tn_G 4 74 = some (.getfield 18, 3, 0) := am_code_of (M := tn_m4) rfl (by decide +kernel) rfl rfl
theorem kc_4_77 : am_code tn_G 4 77 = some (.iload_n 3, 1, 0) := am_code_of (M := tn_m4) rfl (by decide +kernel) rfl rfl
theorem kc_4_78 : am_code tn_G 4 78 = some (.aload_n 0, 1, 0) := am_code_of (M := tn_m4) rfl (by decide +kernel) rfl rfl
theorem kc_4_79 : am_code tn_G 4 79 = some (.getfield 18, 3, 0) := am_code_of (M := tn_m4) rfl (by decide +kernel) rfl rfl
theorem kc_4_82 : am_code tn_G 4 82 = some (.iload 4, 2, 0) := am_code_of (M := tn_m4) rfl (by decide +kernel) rfl rfl
theorem kc_4_84 : am_code tn_G 4 84 = some (.iaload, 1, 0) := am_code_of (M := tn_m4) rfl (by decide +kernel) rfl rfl
theorem kc_4_85 : am_code tn_G 4 85 = some (.iastore, 1, 0) := am_code_of (M := tn_m4) rfl (by decide +kernel) rfl rfl
theorem kc_4_86 : am_code tn_G 4 86 = some (.aload_n 0, 1, 0) := am_code_of (M := tn_m4) rfl (by decide +kernel) rfl rfl
theorem kc_4_87 : am_code tn_G 4 87 = some (.getfield 21, 3, 0) := am_code_of (M := tn_m4) rfl (by decide +kernel) rfl rfl
theorem kf_4_21 : am_fld tn_G 4 21 = some (0, 4) := by decide +kernel
theorem kc_4_90 : am_code tn_G 4 90 = some (.aload_n 0, 1, 0) := am_code_of (M := tn_m4) rfl (by decide +kernel) rfl rfl
theorem kc_4_91 : am_code tn_G 4 91 = some (.getfield 24, 3, 0) := am_code_of (M := tn_m4) rfl (by decide +kernel) rfl rfl
theorem kf_4_24 : am_fld tn_G 4 24 = some (0, 5) := by decide +kernel
theorem kc_4_94 : am_code tn_G 4 94 = some (.iload 4, 2, 0) := am_code_of (M := tn_m4) rfl (by decide +kernel) rfl rfl
theorem kc_4_96 : am_code tn_G 4 96 = some (.iastore, 1, 0) := am_code_of (M := tn_m4) rfl (by decide +kernel) rfl rfl
theorem kc_4_97 : am_code tn_G 4 97 = some (.aload_n 0, 1, 0) := am_code_of (M := tn_m4) rfl (by decide +kernel) rfl rfl
theorem kc_4_98 : am_code tn_G 4 98 = some (.dup, 1, 0) := am_code_of (M := tn_m4) rfl (by decide +kernel) rfl rfl
theorem kc_4_99 : am_code tn_G 4 99 = some (.getfield 24, 3, 0) := am_code_of (M := tn_m4) rfl (by decide +kernel) rfl rfl
theorem kc_4_102 : am_code tn_G 4 102 = some (.iconst 1, 1, 0) := am_code_of (M := tn_m4) rfl (by decide +kernel) rfl rfl
theorem kc_4_103 : am_code tn_G 4 103 = some (.iadd, 1, 0) := am_code_of (M := tn_m4) rfl (by decide +kernel) rfl rfl
theorem kc_4_104 : am_code tn_G 4 104 = some (.putfield 24, 3, 0) := am_code_of (M := tn_m4) rfl (by decide +kernel) rfl rfl
theorem kc_4_107 : am_code tn_G 4 107 = some (.return_, 1, 0) := am_code_of (M := tn_m4) rfl (by decide +kernel) rfl rfl
-- 5: TermNet$Groups.leadRing(II)V
theorem kl_5 : am_ml tn_G 5 = 5 := rfl
theorem ko_5 : am_oc tn_G 5 = 0 := rfl
theorem kn_5 : am_nc tn_G 5 = 0 := rfl
theorem kr_5 : am_rt tn_G 5 = 0 := rfl
theorem kc_5_0 : am_code tn_G 5 0 = some (.iload_n 1, 1, 0) := am_code_of (M := tn_m5) rfl (by decide +kernel) rfl rfl
theorem kc_5_1 : am_code tn_G 5 1 = some (.istore_n 3, 1, 0) := am_code_of (M := tn_m5) rfl (by decide +kernel) rfl rfl
theorem kc_5_2 : am_code tn_G 5 2 = some (.iconst 0, 1, 0) := am_code_of (M := tn_m5) rfl (by decide +kernel) rfl rfl
theorem kc_5_3 : am_code tn_G 5 3 = some (.istore 4, 2, 0) := am_code_of (M := tn_m5) rfl (by decide +kernel) rfl rfl
theorem kc_5_5 : am_code tn_G 5 5 = some (.iload 4, 2, 0) := am_code_of (M := tn_m5) rfl (by decide +kernel) rfl rfl
theorem kc_5_7 : am_code tn_G 5 7 = some (.sipush 400, 3, 0) := am_code_of (M := tn_m5) rfl (by decide +kernel) rfl rfl
theorem kc_5_10 : am_code tn_G 5 10 = some (.if_icmp .ge 31, 3, 41) := am_code_of (M := tn_m5) rfl (by decide +kernel) rfl (by decide +kernel)
theorem kc_5_13 : am_code tn_G 5 13 = some (.aload_n 0, 1, 0) := am_code_of (M := tn_m5) rfl (by decide +kernel) rfl rfl
theorem kc_5_14 : am_code tn_G 5 14 = some (.getfield 9, 3, 0) := am_code_of (M := tn_m5) rfl (by decide +kernel) rfl rfl
theorem kf_5_9 : am_fld tn_G 5 9 = some (0, 1) := by decide +kernel
theorem kc_5_17 : am_code tn_G 5 17 = some (.iload_n 3, 1, 0) := am_code_of (M := tn_m5) rfl (by decide +kernel) rfl rfl
theorem kc_5_18 : am_code tn_G 5 18 = some (.iload_n 2, 1, 0) := am_code_of (M := tn_m5) rfl (by decide +kernel) rfl rfl
theorem kc_5_19 : am_code tn_G 5 19 = some (.iastore, 1, 0) := am_code_of (M := tn_m5) rfl (by decide +kernel) rfl rfl
theorem kc_5_20 : am_code tn_G 5 20 = some (.aload_n 0, 1, 0) := am_code_of (M := tn_m5) rfl (by decide +kernel) rfl rfl
theorem kc_5_21 : am_code tn_G 5 21 = some (.getfield 15, 3, 0) := am_code_of (M := tn_m5) rfl (by decide +kernel) rfl rfl
theorem kf_5_15 : am_fld tn_G 5 15 = some (0, 2) := by decide +kernel
theorem kc_5_24 : am_code tn_G 5 24 = some (.iload_n 3, 1, 0) := am_code_of (M := tn_m5) rfl (by decide +kernel) rfl rfl
theorem kc_5_25 : am_code tn_G 5 25 = some (.iaload, 1, 0) := am_code_of (M := tn_m5) rfl (by decide +kernel) rfl rfl
theorem kc_5_26 : am_code tn_G 5 26 = some (.istore_n 3, 1, 0) := am_code_of (M := tn_m5) rfl (by decide +kernel) rfl rfl
theorem kc_5_27 : am_code tn_G 5 27 = some (.iload_n 3, 1, 0) := am_code_of (M := tn_m5) rfl (by decide +kernel) rfl rfl
theorem kc_5_28 : am_code tn_G 5 28 = some (.iload_n 1, 1, 0) := am_code_of (M := tn_m5) rfl (by decide +kernel) rfl rfl
theorem kc_5_29 : am_code tn_G 5 29 = some (.if_icmp .ne 6, 3, 35) := am_code_of (M := tn_m5) rfl (by decide +kernel) rfl (by decide +kernel)
theorem kc_5_32 : am_code tn_G 5 32 = some (.goto 9, 3, 41) := am_code_of (M := tn_m5) rfl (by decide +kernel) rfl (by decide +kernel)
theorem kc_5_35 : am_code tn_G 5 35 = some (.iinc 4 1, 3, 0) := am_code_of (M := tn_m5) rfl (by decide +kernel) rfl rfl
theorem kc_5_38 : am_code tn_G 5 38 = some (.goto (-33), 3, 5) := am_code_of (M := tn_m5) rfl (by decide +kernel) rfl (by decide +kernel)
theorem kc_5_41 : am_code tn_G 5 41 = some (.return_, 1, 0) := am_code_of (M := tn_m5) rfl (by decide +kernel) rfl rfl
-- 6: TermNet$Groups.swapLinks(II)V
theorem kl_6 : am_ml tn_G 6 = 4 := rfl
theorem ko_6 : am_oc tn_G 6 = 0 := rfl
theorem kn_6 : am_nc tn_G 6 = 0 := rfl
theorem kr_6 : am_rt tn_G 6 = 0 := rfl
theorem kc_6_0 : am_code tn_G 6 0 = some (.aload_n 0, 1, 0) := am_code_of (M := tn_m6) rfl (by decide +kernel) rfl rfl
theorem kc_6_1 : am_code tn_G 6 1 = some (.getfield 15, 3, 0) := am_code_of (M := tn_m6) rfl (by decide +kernel) rfl rfl
theorem kf_6_15 : am_fld tn_G 6 15 = some (0, 2) := by decide +kernel
theorem kc_6_4 : am_code tn_G 6 4 = some (.iload_n 1, 1, 0) := am_code_of (M := tn_m6) rfl (by decide +kernel) rfl rfl
theorem kc_6_5 : am_code tn_G 6 5 = some (.iaload, 1, 0) := am_code_of (M := tn_m6) rfl (by decide +kernel) rfl rfl
theorem kc_6_6 : am_code tn_G 6 6 = some (.istore_n 3, 1, 0) := am_code_of (M := tn_m6) rfl (by decide +kernel) rfl rfl
theorem kc_6_7 : am_code tn_G 6 7 = some (.aload_n 0, 1, 0) := am_code_of (M := tn_m6) rfl (by decide +kernel) rfl rfl
theorem kc_6_8 : am_code tn_G 6 8 = some (.getfield 15, 3, 0) := am_code_of (M := tn_m6) rfl (by decide +kernel) rfl rfl
theorem kc_6_11 : am_code tn_G 6 11 = some (.iload_n 1, 1, 0) := am_code_of (M := tn_m6) rfl (by decide +kernel) rfl rfl
theorem kc_6_12 : am_code tn_G 6 12 = some (.aload_n 0, 1, 0) := am_code_of (M := tn_m6) rfl (by decide +kernel) rfl rfl
theorem kc_6_13 : am_code tn_G 6 13 = some (.getfield 15, 3, 0) := am_code_of (M := tn_m6) rfl (by decide +kernel) rfl rfl
theorem kc_6_16 : am_code tn_G 6 16 = some (.iload_n 2, 1, 0) := am_code_of (M := tn_m6) rfl (by decide +kernel) rfl rfl
theorem kc_6_17 : am_code tn_G 6 17 = some (.iaload, 1, 0) := am_code_of (M := tn_m6) rfl (by decide +kernel) rfl rfl
theorem kc_6_18 : am_code tn_G 6 18 = some (.iastore, 1, 0) := am_code_of (M := tn_m6) rfl (by decide +kernel) rfl rfl
theorem kc_6_19 : am_code tn_G 6 19 = some (.aload_n 0, 1, 0) := am_code_of (M := tn_m6) rfl (by decide +kernel) rfl rfl
theorem kc_6_20 : am_code tn_G 6 20 = some (.getfield 15, 3, 0) := am_code_of (M := tn_m6) rfl (by decide +kernel) rfl rfl
theorem kc_6_23 : am_code tn_G 6 23 = some (.iload_n 2, 1, 0) := am_code_of (M := tn_m6) rfl (by decide +kernel) rfl rfl
theorem kc_6_24 : am_code tn_G 6 24 = some (.iload_n 3, 1, 0) := am_code_of (M := tn_m6) rfl (by decide +kernel) rfl rfl
theorem kc_6_25 : am_code tn_G 6 25 = some (.iastore, 1, 0) := am_code_of (M := tn_m6) rfl (by decide +kernel) rfl rfl
theorem kc_6_26 : am_code tn_G 6 26 = some (.return_, 1, 0) := am_code_of (M := tn_m6) rfl (by decide +kernel) rfl rfl
-- 7: TermNet$Groups.settle(I)Z
theorem kl_7 : am_ml tn_G 7 = 3 := rfl
theorem ko_7 : am_oc tn_G 7 = 0 := rfl
theorem kn_7 : am_nc tn_G 7 = 0 := rfl
theorem kr_7 : am_rt tn_G 7 = 2 := rfl
theorem kc_7_0 : am_code tn_G 7 0 = some (.iload_n 1, 1, 0) := am_code_of (M := tn_m7) rfl (by decide +kernel) rfl rfl
theorem kc_7_1 : am_code tn_G 7 1 = some (.istore_n 2, 1, 0) := am_code_of (M := tn_m7) rfl (by decide +kernel) rfl rfl
theorem kc_7_2 : am_code tn_G 7 2 = some (.iload_n 2, 1, 0) := am_code_of (M := tn_m7) rfl (by decide +kernel) rfl rfl
theorem kc_7_3 : am_code tn_G 7 3 = some (.sipush 400, 3, 0) := am_code_of (M := tn_m7) rfl (by decide +kernel) rfl rfl
theorem kc_7_6 : am_code tn_G 7 6 = some (.if_icmp .ge 32, 3, 38) := am_code_of (M := tn_m7) rfl (by decide +kernel) rfl (by decide +kernel)
theorem kc_7_9 : am_code tn_G 7 9 = some (.iload_n 2, 1, 0) := am_code_of (M := tn_m7) rfl (by decide +kernel) rfl rfl
theorem kc_7_10 : am_code tn_G 7 10 = some (.aload_n 0, 1, 0) := am_code_of (M := tn_m7) rfl (by decide +kernel) rfl rfl
theorem kc_7_11 : am_code tn_G 7 11 = some (.getfield 24, 3, 0) := am_code_of (M := tn_m7) rfl (by decide +kernel) rfl rfl
theorem kf_7_24 : am_fld tn_G 7 24 = some (0, 5) := by decide +kernel
theorem kc_7_14 : am_code tn_G 7 14 = some (.if_icmp .ge 24, 3, 38) := am_code_of (M := tn_m7) rfl (by decide +kernel) rfl (by decide +kernel)
theorem kc_7_17 : am_code tn_G 7 17 = some (.aload_n 0, 1, 0) := am_code_of (M := tn_m7) rfl (by decide +kernel) rfl rfl
theorem kc_7_18 : am_code tn_G 7 18 = some (.aload_n 0, 1, 0) := am_code_of (M := tn_m7) rfl (by decide +kernel) rfl rfl
theorem kc_7_19 : am_code tn_G 7 19 = some (.getfield 21, 3, 0) := am_code_of (M := tn_m7) rfl (by decide +kernel) rfl rfl
theorem kf_7_21 : am_fld tn_G 7 21 = some (0, 4) := by decide +kernel
theorem kc_7_22 : am_code tn_G 7 22 = some (.iload_n 2, 1, 0) := am_code_of (M := tn_m7) rfl (by decide +kernel) rfl rfl
theorem kc_7_23 : am_code tn_G 7 23 = some (.iaload, 1, 0) := am_code_of (M := tn_m7) rfl (by decide +kernel) rfl rfl
theorem kc_7_24 : am_code tn_G 7 24 = some (.invokevirtual 66, 3, 0) := am_code_of (M := tn_m7) rfl (by decide +kernel) rfl rfl
theorem ka_7_66 : am_cal tn_G 7 66 = some (0, 8, 1) := by decide +kernel
theorem kc_7_27 : am_code tn_G 7 27 = some (.ifCond .ne 5, 3, 32) := am_code_of (M := tn_m7) rfl (by decide +kernel) rfl (by decide +kernel)
theorem kc_7_30 : am_code tn_G 7 30 = some (.iconst 0, 1, 0) := am_code_of (M := tn_m7) rfl (by decide +kernel) rfl rfl
theorem kc_7_31 : am_code tn_G 7 31 = some (.ireturn, 1, 0) := am_code_of (M := tn_m7) rfl (by decide +kernel) rfl rfl
theorem kc_7_32 : am_code tn_G 7 32 = some (.iinc 2 1, 3, 0) := am_code_of (M := tn_m7) rfl (by decide +kernel) rfl rfl
theorem kc_7_35 : am_code tn_G 7 35 = some (.goto (-33), 3, 2) := am_code_of (M := tn_m7) rfl (by decide +kernel) rfl (by decide +kernel)
theorem kc_7_38 : am_code tn_G 7 38 = some (.iconst 1, 1, 0) := am_code_of (M := tn_m7) rfl (by decide +kernel) rfl rfl
theorem kc_7_39 : am_code tn_G 7 39 = some (.ireturn, 1, 0) := am_code_of (M := tn_m7) rfl (by decide +kernel) rfl rfl
-- 8: TermNet$Groups.joinParts(I)Z
theorem kl_8 : am_ml tn_G 8 = 5 := rfl
theorem ko_8 : am_oc tn_G 8 = 0 := rfl
theorem kn_8 : am_nc tn_G 8 = 0 := rfl
theorem kr_8 : am_rt tn_G 8 = 2 := rfl
theorem kc_8_0 : am_code tn_G 8 0 = some (.aload_n 0, 1, 0) := am_code_of (M := tn_m8) rfl (by decide +kernel) rfl rfl
theorem kc_8_1 : am_code tn_G 8 1 = some (.getfield 18, 3, 0) := am_code_of (M := tn_m8) rfl (by decide +kernel) rfl rfl
theorem kf_8_18 : am_fld tn_G 8 18 = some (0, 3) := by decide +kernel
theorem kc_8_4 : am_code tn_G 8 4 = some (.iload_n 1, 1, 0) := am_code_of (M := tn_m8) rfl (by decide +kernel) rfl rfl
theorem kc_8_5 : am_code tn_G 8 5 = some (.iaload, 1, 0) := am_code_of (M := tn_m8) rfl (by decide +kernel) rfl rfl
theorem kc_8_6 : am_code tn_G 8 6 = some (.istore_n 2, 1, 0) := am_code_of (M := tn_m8) rfl (by decide +kernel) rfl rfl
theorem kc_8_7 : am_code tn_G 8 7 = some (.aload_n 0, 1, 0) := am_code_of (M := tn_m8) rfl (by decide +kernel) rfl rfl
theorem kc_8_8 : am_code tn_G 8 8 = some (.iload_n 1, 1, 0) := am_code_of (M := tn_m8) rfl (by decide +kernel) rfl rfl
theorem kc_8_9 : am_code tn_G 8 9 = some (.invokevirtual 37, 3, 0) := am_code_of (M := tn_m8) rfl (by decide +kernel) rfl rfl
theorem ka_8_37 : am_cal tn_G 8 37 = some (0, 9, 1) := by decide +kernel
theorem kc_8_12 : am_code tn_G 8 12 = some (.istore_n 3, 1, 0) := am_code_of (M := tn_m8) rfl (by decide +kernel) rfl rfl
theorem kc_8_13 : am_code tn_G 8 13 = some (.iload_n 2, 1, 0) := am_code_of (M := tn_m8) rfl (by decide +kernel) rfl rfl
theorem kc_8_14 : am_code tn_G 8 14 = some (.iconst (-1), 1, 0) := am_code_of (M := tn_m8) rfl (by decide +kernel) rfl rfl
theorem kc_8_15 : am_code tn_G 8 15 = some (.if_icmp .eq 8, 3, 23) := am_code_of (M := tn_m8) rfl (by decide +kernel) rfl (by decide +kernel)
theorem kc_8_18 : am_code tn_G 8 18 = some (.iload_n 2, 1, 0) := am_code_of (M := tn_m8) rfl (by decide +kernel) rfl rfl
theorem kc_8_19 : am_code tn_G 8 19 = some (.iload_n 3, 1, 0) := am_code_of (M := tn_m8) rfl (by decide +kernel) rfl rfl
theorem kc_8_20 : am_code tn_G 8 20 = some (.if_icmp .ne 5, 3, 25) := am_code_of (M := tn_m8) rfl (by decide +kernel) rfl (by decide +kernel)
theorem kc_8_23 : am_code tn_G 8 23 = some (.iconst 1, 1, 0) := am_code_of (M := tn_m8) rfl (by decide +kernel) rfl rfl
theorem kc_8_24 : am_code tn_G 8 24 = some (.ireturn, 1, 0) := am_code_of (M := tn_m8) rfl (by decide +kernel) rfl rfl
theorem kc_8_25 : am_code tn_G 8 25 = some (.aload_n 0, 1, 0) := am_code_of (M := tn_m8) rfl (by decide +kernel) rfl rfl
theorem kc_8_26 : am_code tn_G 8 26 = some (.getfield 28, 3, 0) := am_code_of (M := tn_m8) rfl (by decide +kernel) rfl rfl
theorem kf_8_28 : am_fld tn_G 8 28 = some (0, 0) := by decide +kernel
theorem kc_8_29 : am_code tn_G 8 29 = some (.getfield 32, 3, 0) := am_code_of (M := tn_m8) rfl (by decide +kernel) rfl rfl
theorem kf_8_32 : am_fld tn_G 8 32 = some (1, 1) := by decide +kernel
theorem kc_8_32 : am_code tn_G 8 32 = some (.iload_n 2, 1, 0) := am_code_of (M := tn_m8) rfl (by decide +kernel) rfl rfl
theorem kc_8_33 : am_code tn_G 8 33 = some (.iaload, 1, 0) := am_code_of (M := tn_m8) rfl (by decide +kernel) rfl rfl
theorem kc_8_34 : am_code tn_G 8 34 = some (.aload_n 0, 1, 0) := am_code_of (M := tn_m8) rfl (by decide +kernel) rfl rfl
theorem kc_8_35 : am_code tn_G 8 35 = some (.getfield 28, 3, 0) := am_code_of (M := tn_m8) rfl (by decide +kernel) rfl rfl
theorem kc_8_38 : am_code tn_G 8 38 = some (.getfield 32, 3, 0) := am_code_of (M := tn_m8) rfl (by decide +kernel) rfl rfl
theorem kc_8_41 : am_code tn_G 8 41 = some (.iload_n 3, 1, 0) := am_code_of (M := tn_m8) rfl (by decide +kernel) rfl rfl
theorem kc_8_42 : am_code tn_G 8 42 = some (.iaload, 1, 0) := am_code_of (M := tn_m8) rfl (by decide +kernel) rfl rfl
theorem kc_8_43 : am_code tn_G 8 43 = some (.if_icmp .eq 5, 3, 48) := am_code_of (M := tn_m8) rfl (by decide +kernel) rfl (by decide +kernel)
theorem kc_8_46 : am_code tn_G 8 46 = some (.iconst 0, 1, 0) := am_code_of (M := tn_m8) rfl (by decide +kernel) rfl rfl
theorem kc_8_47 : am_code tn_G 8 47 = some (.ireturn, 1, 0) := am_code_of (M := tn_m8) rfl (by decide +kernel) rfl rfl
theorem kc_8_48 : am_code tn_G 8 48 = some (.iconst 0, 1, 0) := am_code_of (M := tn_m8) rfl (by decide +kernel) rfl rfl
theorem kc_8_49 : am_code tn_G 8 49 = some (.istore 4, 2, 0) := am_code_of (M := tn_m8) rfl (by decide +kernel) rfl rfl
theorem kc_8_51 : am_code tn_G 8 51 = some (.iload 4, 2, 0) := am_code_of (M := tn_m8) rfl (by decide +kernel) rfl rfl
theorem kc_8_53 : am_code tn_G 8 53 = some (.aload_n 0, 1, 0) := am_code_of (M := tn_m8) rfl (by decide +kernel) rfl rfl
theorem kc_8_54 : am_code tn_G 8 54 = some (.getfield 28, 3, 0) := am_code_of (M := tn_m8) rfl (by decide +kernel) rfl rfl
theorem kc_8_57 : am_code tn_G 8 57 = some (.iload_n 2, 1, 0) := am_code_of (M := tn_m8) rfl (by decide +kernel) rfl rfl
theorem kc_8_58 : am_code tn_G 8 58 = some (.invokevirtual 41, 3, 0) := am_code_of (M := tn_m8) rfl (by decide +kernel) rfl rfl
theorem ka_8_41 : am_cal tn_G 8 41 = some (0, 21, 1) := by decide +kernel
theorem kc_8_61 : am_code tn_G 8 61 = some (.if_icmp .ge 33, 3, 94) := am_code_of (M := tn_m8) rfl (by decide +kernel) rfl (by decide +kernel)
theorem kc_8_64 : am_code tn_G 8 64 = some (.aload_n 0, 1, 0) := am_code_of (M := tn_m8) rfl (by decide +kernel) rfl rfl
theorem kc_8_65 : am_code tn_G 8 65 = some (.aload_n 0, 1, 0) := am_code_of (M := tn_m8) rfl (by decide +kernel) rfl rfl
theorem kc_8_66 : am_code tn_G 8 66 = some (.getfield 28, 3, 0) := am_code_of (M := tn_m8) rfl (by decide +kernel) rfl rfl
theorem kc_8_69 : am_code tn_G 8 69 = some (.iload_n 2, 1, 0) := am_code_of (M := tn_m8) rfl (by decide +kernel) rfl rfl
theorem kc_8_70 : am_code tn_G 8 70 = some (.iload 4, 2, 0) := am_code_of (M := tn_m8) rfl (by decide +kernel) rfl rfl
theorem kc_8_72 : am_code tn_G 8 72 = some (.invokevirtual 44, 3, 0) := am_code_of (M := tn_m8) rfl (by decide +kernel) rfl rfl
theorem ka_8_44 : am_cal tn_G 8 44 = some (0, 22, 2) := by decide +kernel
theorem kc_8_75 : am_code tn_G 8 75 = some (.aload_n 0, 1, 0) := am_code_of (M := tn_m8) rfl (by decide +kernel) rfl rfl
theorem kc_8_76 : am_code tn_G 8 76 = some (.getfield 28, 3, 0) := am_code_of (M := tn_m8) rfl (by decide +kernel) rfl rfl
theorem kc_8_79 : am_code tn_G 8 79 = some (.iload_n 3, 1, 0) := am_code_of (M := tn_m8) rfl (by decide +kernel) rfl rfl
theorem kc_8_80 : am_code tn_G 8 80 = some (.iload 4, 2, 0) := am_code_of (M := tn_m8) rfl (by decide +kernel) rfl rfl
theorem kc_8_82 : am_code tn_G 8 82 = some (.invokevirtual 44, 3, 0) := am_code_of (M := tn_m8) rfl (by decide +kernel) rfl rfl
theorem kc_8_85 : am_code tn_G 8 85 = some (.invokevirtual 70, 3, 0) := am_code_of (M := tn_m8) rfl (by decide +kernel) rfl rfl
theorem ka_8_70 : am_cal tn_G 8 70 = some (0, 4, 2) := by decide +kernel
theorem kc_8_88 : am_code tn_G 8 88 = some (.iinc 4 1, 3, 0) := am_code_of (M := tn_m8) rfl (by decide +kernel) rfl rfl
theorem kc_8_91 : am_code tn_G 8 91 = some (.goto (-40), 3, 51) := am_code_of (M := tn_m8) rfl (by decide +kernel) rfl (by decide +kernel)
theorem kc_8_94 : am_code tn_G 8 94 = some (.iconst 1, 1, 0) := am_code_of (M := tn_m8) rfl (by decide +kernel) rfl rfl
theorem kc_8_95 : am_code tn_G 8 95 = some (.ireturn, 1, 0) := am_code_of (M := tn_m8) rfl (by decide +kernel) rfl rfl
-- 9: TermNet$Groups.shapeOf(I)I
theorem kl_9 : am_ml tn_G 9 = 2 := rfl
theorem ko_9 : am_oc tn_G 9 = 0 := rfl
theorem kn_9 : am_nc tn_G 9 = 0 := rfl
theorem kr_9 : am_rt tn_G 9 = 1 := rfl
theorem kc_9_0 : am_code tn_G 9 0 = some (.aload_n 0, 1, 0) := am_code_of (M := tn_m9) rfl (by decide +kernel) rfl rfl
theorem kc_9_1 : am_code tn_G 9 1 = some (.getfield 18, 3, 0) := am_code_of (M := tn_m9) rfl (by decide +kernel) rfl rfl
theorem kf_9_18 : am_fld tn_G 9 18 = some (0, 3) := by decide +kernel
theorem kc_9_4 : am_code tn_G 9 4 = some (.aload_n 0, 1, 0) := am_code_of (M := tn_m9) rfl (by decide +kernel) rfl rfl
theorem kc_9_5 : am_code tn_G 9 5 = some (.getfield 9, 3, 0) := am_code_of (M := tn_m9) rfl (by decide +kernel) rfl rfl
theorem kf_9_9 : am_fld tn_G 9 9 = some (0, 1) := by decide +kernel
theorem kc_9_8 : am_code tn_G 9 8 = some (.iload_n 1, 1, 0) := am_code_of (M := tn_m9) rfl (by decide +kernel) rfl rfl
theorem kc_9_9 : am_code tn_G 9 9 = some (.iaload, 1, 0) := am_code_of (M := tn_m9) rfl (by decide +kernel) rfl rfl
theorem kc_9_10 : am_code tn_G 9 10 = some (.iaload, 1, 0) := am_code_of (M := tn_m9) rfl (by decide +kernel) rfl rfl
theorem kc_9_11 : am_code tn_G 9 11 = some (.ireturn, 1, 0) := am_code_of (M := tn_m9) rfl (by decide +kernel) rfl rfl
-- 10: TermNet$Groups.leaderOf(I)I
theorem kl_10 : am_ml tn_G 10 = 2 := rfl
theorem ko_10 : am_oc tn_G 10 = 0 := rfl
theorem kn_10 : am_nc tn_G 10 = 0 := rfl
theorem kr_10 : am_rt tn_G 10 = 1 := rfl
theorem kc_10_0 : am_code tn_G 10 0 = some (.aload_n 0, 1, 0) := am_code_of (M := tn_m10) rfl (by decide +kernel) rfl rfl
theorem kc_10_1 : am_code tn_G 10 1 = some (.getfield 9, 3, 0) := am_code_of (M := tn_m10) rfl (by decide +kernel) rfl rfl
theorem kf_10_9 : am_fld tn_G 10 9 = some (0, 1) := by decide +kernel
theorem kc_10_4 : am_code tn_G 10 4 = some (.iload_n 1, 1, 0) := am_code_of (M := tn_m10) rfl (by decide +kernel) rfl rfl
theorem kc_10_5 : am_code tn_G 10 5 = some (.iaload, 1, 0) := am_code_of (M := tn_m10) rfl (by decide +kernel) rfl rfl
theorem kc_10_6 : am_code tn_G 10 6 = some (.ireturn, 1, 0) := am_code_of (M := tn_m10) rfl (by decide +kernel) rfl rfl
-- 11: TermNet$Groups.partsOf(I)I
theorem kl_11 : am_ml tn_G 11 = 3 := rfl
theorem ko_11 : am_oc tn_G 11 = 0 := rfl
theorem kn_11 : am_nc tn_G 11 = 0 := rfl
theorem kr_11 : am_rt tn_G 11 = 1 := rfl
theorem kc_11_0 : am_code tn_G 11 0 = some (.aload_n 0, 1, 0) := am_code_of (M := tn_m11) rfl (by decide +kernel) rfl rfl
theorem kc_11_1 : am_code tn_G 11 1 = some (.iload_n 1, 1, 0) := am_code_of (M := tn_m11) rfl (by decide +kernel) rfl rfl
theorem kc_11_2 : am_code tn_G 11 2 = some (.invokevirtual 37, 3, 0) := am_code_of (M := tn_m11) rfl (by decide +kernel) rfl rfl
theorem ka_11_37 : am_cal tn_G 11 37 = some (0, 9, 1) := by decide +kernel
theorem kc_11_5 : am_code tn_G 11 5 = some (.istore_n 2, 1, 0) := am_code_of (M := tn_m11) rfl (by decide +kernel) rfl rfl
theorem kc_11_6 : am_code tn_G 11 6 = some (.iload_n 2, 1, 0) := am_code_of (M := tn_m11) rfl (by decide +kernel) rfl rfl
theorem kc_11_7 : am_code tn_G 11 7 = some (.iconst (-1), 1, 0) := am_code_of (M := tn_m11) rfl (by decide +kernel) rfl rfl
theorem kc_11_8 : am_code tn_G 11 8 = some (.if_icmp .ne 7, 3, 15) := am_code_of (M := tn_m11) rfl (by decide +kernel) rfl (by decide +kernel)
theorem kc_11_11 : am_code tn_G 11 11 = some (.iconst 0, 1, 0) := am_code_of (M := tn_m11) rfl (by decide +kernel) rfl rfl
theorem kc_11_12 : am_code tn_G 11 12 = some (.goto 11, 3, 23) := am_code_of (M := tn_m11) rfl (by decide +kernel) rfl (by decide +kernel)
theorem kc_11_15 : am_code tn_G 11 15 = some (.aload_n 0, 1, 0) := am_code_of (M := tn_m11) rfl (by decide +kernel) rfl rfl
theorem kc_11_16 : am_code tn_G 11 16 = some (.getfield 28, 3, 0) := am_code_of (M := tn_m11) rfl (by decide +kernel) rfl rfl
theorem kf_11_28 : am_fld tn_G 11 28 = some (0, 0) := by decide +kernel
theorem kc_11_19 : am_code tn_G 11 19 = some (.iload_n 2, 1, 0) := am_code_of (M := tn_m11) rfl (by decide +kernel) rfl rfl
theorem kc_11_20 : am_code tn_G 11 20 = some (.invokevirtual 41, 3, 0) := am_code_of (M := tn_m11) rfl (by decide +kernel) rfl rfl
theorem ka_11_41 : am_cal tn_G 11 41 = some (0, 21, 1) := by decide +kernel
theorem kc_11_23 : am_code tn_G 11 23 = some (.ireturn, 1, 0) := am_code_of (M := tn_m11) rfl (by decide +kernel) rfl rfl
-- 12: TermNet$Groups.partLeader(II)I
theorem kl_12 : am_ml tn_G 12 = 3 := rfl
theorem ko_12 : am_oc tn_G 12 = 0 := rfl
theorem kn_12 : am_nc tn_G 12 = 0 := rfl
theorem kr_12 : am_rt tn_G 12 = 1 := rfl
theorem kc_12_0 : am_code tn_G 12 0 = some (.aload_n 0, 1, 0) := am_code_of (M := tn_m12) rfl (by decide +kernel) rfl rfl
theorem kc_12_1 : am_code tn_G 12 1 = some (.getfield 9, 3, 0) := am_code_of (M := tn_m12) rfl (by decide +kernel) rfl rfl
theorem kf_12_9 : am_fld tn_G 12 9 = some (0, 1) := by decide +kernel
theorem kc_12_4 : am_code tn_G 12 4 = some (.aload_n 0, 1, 0) := am_code_of (M := tn_m12) rfl (by decide +kernel) rfl rfl
theorem kc_12_5 : am_code tn_G 12 5 = some (.getfield 28, 3, 0) := am_code_of (M := tn_m12) rfl (by decide +kernel) rfl rfl
theorem kf_12_28 : am_fld tn_G 12 28 = some (0, 0) := by decide +kernel
theorem kc_12_8 : am_code tn_G 12 8 = some (.aload_n 0, 1, 0) := am_code_of (M := tn_m12) rfl (by decide +kernel) rfl rfl
theorem kc_12_9 : am_code tn_G 12 9 = some (.iload_n 1, 1, 0) := am_code_of (M := tn_m12) rfl (by decide +kernel) rfl rfl
theorem kc_12_10 : am_code tn_G 12 10 = some (.invokevirtual 37, 3, 0) := am_code_of (M := tn_m12) rfl (by decide +kernel) rfl rfl
theorem ka_12_37 : am_cal tn_G 12 37 = some (0, 9, 1) := by decide +kernel
theorem kc_12_13 : am_code tn_G 12 13 = some (.iload_n 2, 1, 0) := am_code_of (M := tn_m12) rfl (by decide +kernel) rfl rfl
theorem kc_12_14 : am_code tn_G 12 14 = some (.invokevirtual 44, 3, 0) := am_code_of (M := tn_m12) rfl (by decide +kernel) rfl rfl
theorem ka_12_44 : am_cal tn_G 12 44 = some (0, 22, 2) := by decide +kernel
theorem kc_12_17 : am_code tn_G 12 17 = some (.iaload, 1, 0) := am_code_of (M := tn_m12) rfl (by decide +kernel) rfl rfl
theorem kc_12_18 : am_code tn_G 12 18 = some (.ireturn, 1, 0) := am_code_of (M := tn_m12) rfl (by decide +kernel) rfl rfl
-- 13: TermNet$Groups.undoTo(I)V
theorem kl_13 : am_ml tn_G 13 = 3 := rfl
theorem ko_13 : am_oc tn_G 13 = 0 := rfl
theorem kn_13 : am_nc tn_G 13 = 0 := rfl
theorem kr_13 : am_rt tn_G 13 = 0 := rfl
theorem kc_13_0 : am_code tn_G 13 0 = some (.aload_n 0, 1, 0) := am_code_of (M := tn_m13) rfl (by decide +kernel) rfl rfl
theorem kc_13_1 : am_code tn_G 13 1 = some (.getfield 24, 3, 0) := am_code_of (M := tn_m13) rfl (by decide +kernel) rfl rfl
theorem kf_13_24 : am_fld tn_G 13 24 = some (0, 5) := by decide +kernel
theorem kc_13_4 : am_code tn_G 13 4 = some (.iconst 1, 1, 0) := am_code_of (M := tn_m13) rfl (by decide +kernel) rfl rfl
theorem kc_13_5 : am_code tn_G 13 5 = some (.isub, 1, 0) := am_code_of (M := tn_m13) rfl (by decide +kernel) rfl rfl
theorem kc_13_6 : am_code tn_G 13 6 = some (.istore_n 2, 1, 0) := am_code_of (M := tn_m13) rfl (by decide +kernel) rfl rfl
theorem kc_13_7 : am_code tn_G 13 7 = some (.iload_n 2, 1, 0) := am_code_of (M := tn_m13) rfl (by decide +kernel) rfl rfl
theorem kc_13_8 : am_code tn_G 13 8 = some (.iload_n 1, 1, 0) := am_code_of (M := tn_m13) rfl (by decide +kernel) rfl rfl
theorem kc_13_9 : am_code tn_G 13 9 = some (.if_icmp .lt 19, 3, 28) := am_code_of (M := tn_m13) rfl (by decide +kernel) rfl (by decide +kernel)
theorem kc_13_12 : am_code tn_G 13 12 = some (.aload_n 0, 1, 0) := am_code_of (M := tn_m13) rfl (by decide +kernel) rfl rfl
theorem kc_13_13 : am_code tn_G 13 13 = some (.aload_n 0, 1, 0) := am_code_of (M := tn_m13) rfl (by decide +kernel) rfl rfl
theorem kc_13_14 : am_code tn_G 13 14 = some (.getfield 21, 3, 0) := am_code_of (M := tn_m13) rfl (by decide +kernel) rfl rfl
theorem kf_13_21 : am_fld tn_G 13 21 = some (0, 4) := by decide +kernel
theorem kc_13_17 : am_code tn_G 13 17 = some (.iload_n 2, 1, 0) := am_code_of (M := tn_m13) rfl (by decide +kernel) rfl rfl
theorem kc_13_18 : am_code tn_G 13 18 = some (.iaload, 1, 0) := am_code_of (M := tn_m13) rfl (by decide +kernel) rfl rfl
theorem kc_13_19 : am_code tn_G 13 19 = some (.invokevirtual 73, 3, 0) := am_code_of (M := tn_m13) rfl (by decide +kernel) rfl rfl
theorem ka_13_73 : am_cal tn_G 13 73 = some (0, 14, 1) := by decide +kernel
theorem kc_13_22 : am_code tn_G 13 22 = some (.iinc 2 (-1), 3, 0) := am_code_of (M := tn_m13) rfl (by decide +kernel) rfl rfl
theorem kc_13_25 : am_code tn_G 13 25 = some (.goto (-18), 3, 7) := am_code_of (M := tn_m13) rfl (by decide +kernel) rfl (by decide +kernel)
theorem kc_13_28 : am_code tn_G 13 28 = some (.aload_n 0, 1, 0) := am_code_of (M := tn_m13) rfl (by decide +kernel) rfl rfl
theorem kc_13_29 : am_code tn_G 13 29 = some (.iload_n 1, 1, 0) := am_code_of (M := tn_m13) rfl (by decide +kernel) rfl rfl
theorem kc_13_30 : am_code tn_G 13 30 = some (.putfield 24, 3, 0) := am_code_of (M := tn_m13) rfl (by decide +kernel) rfl rfl
theorem kc_13_33 : am_code tn_G 13 33 = some (.return_, 1, 0) := am_code_of (M := tn_m13) rfl (by decide +kernel) rfl rfl
-- 14: TermNet$Groups.undo(I)V
theorem kl_14 : am_ml tn_G 14 = 3 := rfl
theorem ko_14 : am_oc tn_G 14 = 0 := rfl
theorem kn_14 : am_nc tn_G 14 = 0 := rfl
theorem kr_14 : am_rt tn_G 14 = 0 := rfl
theorem kc_14_0 : am_code tn_G 14 0 = some (.aload_n 0, 1, 0) := am_code_of (M := tn_m14) rfl (by decide +kernel) rfl rfl
theorem kc_14_1 : am_code tn_G 14 1 = some (.getfield 9, 3, 0) := am_code_of (M := tn_m14) rfl (by decide +kernel) rfl rfl
theorem kf_14_9 : am_fld tn_G 14 9 = some (0, 1) := by decide +kernel
theorem kc_14_4 : am_code tn_G 14 4 = some (.iload_n 1, 1, 0) := am_code_of (M := tn_m14) rfl (by decide +kernel) rfl rfl
theorem kc_14_5 : am_code tn_G 14 5 = some (.iaload, 1, 0) := am_code_of (M := tn_m14) rfl (by decide +kernel) rfl rfl
theorem kc_14_6 : am_code tn_G 14 6 = some (.istore_n 2, 1, 0) := am_code_of (M := tn_m14) rfl (by decide +kernel) rfl rfl
theorem kc_14_7 : am_code tn_G 14 7 = some (.aload_n 0, 1, 0) := am_code_of (M := tn_m14) rfl (by decide +kernel) rfl rfl
theorem kc_14_8 : am_code tn_G 14 8 = some (.iload_n 2, 1, 0) := am_code_of (M := tn_m14) rfl (by decide +kernel) rfl rfl
theorem kc_14_9 : am_code tn_G 14 9 = some (.iload_n 1, 1, 0) := am_code_of (M := tn_m14) rfl (by decide +kernel) rfl rfl
theorem kc_14_10 : am_code tn_G 14 10 = some (.invokevirtual 63, 3, 0) := am_code_of (M := tn_m14) rfl (by decide +kernel) rfl rfl
theorem ka_14_63 : am_cal tn_G 14 63 = some (0, 6, 2) := by decide +kernel
theorem kc_14_13 : am_code tn_G 14 13 = some (.aload_n 0, 1, 0) := am_code_of (M := tn_m14) rfl (by decide +kernel) rfl rfl
theorem kc_14_14 : am_code tn_G 14 14 = some (.iload_n 1, 1, 0) := am_code_of (M := tn_m14) rfl (by decide +kernel) rfl rfl
theorem kc_14_15 : am_code tn_G 14 15 = some (.iload_n 1, 1, 0) := am_code_of (M := tn_m14) rfl (by decide +kernel) rfl rfl
theorem kc_14_16 : am_code tn_G 14 16 = some (.invokevirtual 59, 3, 0) := am_code_of (M := tn_m14) rfl (by decide +kernel) rfl rfl
theorem ka_14_59 : am_cal tn_G 14 59 = some (0, 5, 2) := by decide +kernel
theorem kc_14_19 : am_code tn_G 14 19 = some (.aload_n 0, 1, 0) := am_code_of (M := tn_m14) rfl (by decide +kernel) rfl rfl
theorem kc_14_20 : am_code tn_G 14 20 = some (.getfield 18, 3, 0) := am_code_of (M := tn_m14) rfl (by decide +kernel) rfl rfl
theorem kf_14_18 : am_fld tn_G 14 18 = some (0, 3) := by decide +kernel
theorem kc_14_23 : am_code tn_G 14 23 = some (.iload_n 2, 1, 0) := am_code_of (M := tn_m14) rfl (by decide +kernel) rfl rfl
theorem kc_14_24 : am_code tn_G 14 24 = some (.iaload, 1, 0) := am_code_of (M := tn_m14) rfl (by decide +kernel) rfl rfl
theorem kc_14_25 : am_code tn_G 14 25 = some (.aload_n 0, 1, 0) := am_code_of (M := tn_m14) rfl (by decide +kernel) rfl rfl
theorem kc_14_26 : am_code tn_G 14 26 = some (.getfield 18, 3, 0) := am_code_of (M := tn_m14) rfl (by decide +kernel) rfl rfl
theorem kc_14_29 : am_code tn_G 14 29 = some (.iload_n 1, 1, 0) := am_code_of (M := tn_m14) rfl (by decide +kernel) rfl rfl
theorem kc_14_30 : am_code tn_G 14 30 = some (.iaload, 1, 0) := am_code_of (M := tn_m14) rfl (by decide +kernel) rfl rfl
theorem kc_14_31 : am_code tn_G 14 31 = some (.if_icmp .ne 10, 3, 41) := am_code_of (M := tn_m14) rfl (by decide +kernel) rfl (by decide +kernel)
theorem kc_14_34 : am_code tn_G 14 34 = some (.aload_n 0, 1, 0) := am_code_of (M := tn_m14) rfl (by decide +kernel) rfl rfl
theorem kc_14_35 : am_code tn_G 14 35 = some (.getfield 18, 3, 0) := am_code_of (M := tn_m14) rfl (by decide +kernel) rfl rfl
theorem kc_14_38 : am_code tn_G 14 38 = some (.iload_n 2, 1, 0) := am_code_of (M := tn_m14) rfl (by decide +kernel) rfl rfl
theorem kc_14_39 : am_code tn_G 14 39 = some (.iconst (-1), 1, 0) := am_code_of (M := tn_m14) rfl (by decide +kernel) rfl rfl
theorem kc_14_40 : am_code tn_G 14 40 = some (.iastore, 1, 0) := am_code_of (M := tn_m14) rfl (by decide +kernel) rfl rfl
theorem kc_14_41 : am_code tn_G 14 41 = some (.return_, 1, 0) := am_code_of (M := tn_m14) rfl (by decide +kernel) rfl rfl
-- 15: TermNet$Groups.isKnown(I)Z
theorem kl_15 : am_ml tn_G 15 = 2 := rfl
theorem ko_15 : am_oc tn_G 15 = 0 := rfl
theorem kn_15 : am_nc tn_G 15 = 0 := rfl
theorem kr_15 : am_rt tn_G 15 = 2 := rfl
theorem kc_15_0 : am_code tn_G 15 0 = some (.aload_n 0, 1, 0) := am_code_of (M := tn_m15) rfl (by decide +kernel) rfl rfl
theorem kc_15_1 : am_code tn_G 15 1 = some (.iload_n 1, 1, 0) := am_code_of (M := tn_m15) rfl (by decide +kernel) rfl rfl
theorem kc_15_2 : am_code tn_G 15 2 = some (.invokevirtual 37, 3, 0) := am_code_of (M := tn_m15) rfl (by decide +kernel) rfl rfl
theorem ka_15_37 : am_cal tn_G 15 37 = some (0, 9, 1) := by decide +kernel
theorem kc_15_5 : am_code tn_G 15 5 = some (.iconst (-1), 1, 0) := am_code_of (M := tn_m15) rfl (by decide +kernel) rfl rfl
theorem kc_15_6 : am_code tn_G 15 6 = some (.if_icmp .eq 7, 3, 13) := am_code_of (M := tn_m15) rfl (by decide +kernel) rfl (by decide +kernel)
theorem kc_15_9 : am_code tn_G 15 9 = some (.iconst 1, 1, 0) := am_code_of (M := tn_m15) rfl (by decide +kernel) rfl rfl
theorem kc_15_10 : am_code tn_G 15 10 = some (.goto 4, 3, 14) := am_code_of (M := tn_m15) rfl (by decide +kernel) rfl (by decide +kernel)
theorem kc_15_13 : am_code tn_G 15 13 = some (.iconst 0, 1, 0) := am_code_of (M := tn_m15) rfl (by decide +kernel) rfl rfl
theorem kc_15_14 : am_code tn_G 15 14 = some (.ireturn, 1, 0) := am_code_of (M := tn_m15) rfl (by decide +kernel) rfl rfl
-- 16: TermNet$Told.addSign(I)I
theorem kl_16 : am_ml tn_G 16 = 2 := rfl
theorem ko_16 : am_oc tn_G 16 = 1 := rfl
theorem kn_16 : am_nc tn_G 16 = 0 := rfl
theorem kr_16 : am_rt tn_G 16 = 1 := rfl
theorem kc_16_0 : am_code tn_G 16 0 = some (.aload_n 0, 1, 0) := am_code_of (M := tn_m16) rfl (by decide +kernel) rfl rfl
theorem kc_16_1 : am_code tn_G 16 1 = some (.getfield 9, 3, 0) := am_code_of (M := tn_m16) rfl (by decide +kernel) rfl rfl
theorem kf_16_9 : am_fld tn_G 16 9 = some (1, 0) := by decide +kernel
theorem kc_16_4 : am_code tn_G 16 4 = some (.aload_n 0, 1, 0) := am_code_of (M := tn_m16) rfl (by decide +kernel) rfl rfl
theorem kc_16_5 : am_code tn_G 16 5 = some (.getfield 21, 3, 0) := am_code_of (M := tn_m16) rfl (by decide +kernel) rfl rfl
theorem kf_16_21 : am_fld tn_G 16 21 = some (1, 3) := by decide +kernel
theorem kc_16_8 : am_code tn_G 16 8 = some (.iload_n 1, 1, 0) := am_code_of (M := tn_m16) rfl (by decide +kernel) rfl rfl
theorem kc_16_9 : am_code tn_G 16 9 = some (.iastore, 1, 0) := am_code_of (M := tn_m16) rfl (by decide +kernel) rfl rfl
theorem kc_16_10 : am_code tn_G 16 10 = some (.aload_n 0, 1, 0) := am_code_of (M := tn_m16) rfl (by decide +kernel) rfl rfl
theorem kc_16_11 : am_code tn_G 16 11 = some (.dup, 1, 0) := am_code_of (M := tn_m16) rfl (by decide +kernel) rfl rfl
theorem kc_16_12 : am_code tn_G 16 12 = some (.getfield 21, 3, 0) := am_code_of (M := tn_m16) rfl (by decide +kernel) rfl rfl
theorem kc_16_15 : am_code tn_G 16 15 = some (.iconst 1, 1, 0) := am_code_of (M := tn_m16) rfl (by decide +kernel) rfl rfl
theorem kc_16_16 : am_code tn_G 16 16 = some (.iadd, 1, 0) := am_code_of (M := tn_m16) rfl (by decide +kernel) rfl rfl
theorem kc_16_17 : am_code tn_G 16 17 = some (.putfield 21, 3, 0) := am_code_of (M := tn_m16) rfl (by decide +kernel) rfl rfl
theorem kc_16_20 : am_code tn_G 16 20 = some (.aload_n 0, 1, 0) := am_code_of (M := tn_m16) rfl (by decide +kernel) rfl rfl
theorem kc_16_21 : am_code tn_G 16 21 = some (.getfield 21, 3, 0) := am_code_of (M := tn_m16) rfl (by decide +kernel) rfl rfl
theorem kc_16_24 : am_code tn_G 16 24 = some (.iconst 1, 1, 0) := am_code_of (M := tn_m16) rfl (by decide +kernel) rfl rfl
theorem kc_16_25 : am_code tn_G 16 25 = some (.isub, 1, 0) := am_code_of (M := tn_m16) rfl (by decide +kernel) rfl rfl
theorem kc_16_26 : am_code tn_G 16 26 = some (.ireturn, 1, 0) := am_code_of (M := tn_m16) rfl (by decide +kernel) rfl rfl
-- 17: TermNet$Told.addUnknown()I
theorem kl_17 : am_ml tn_G 17 = 1 := rfl
theorem ko_17 : am_oc tn_G 17 = 1 := rfl
theorem kn_17 : am_nc tn_G 17 = 0 := rfl
theorem kr_17 : am_rt tn_G 17 = 1 := rfl
theorem kc_17_0 : am_code tn_G 17 0 = some (.aload_n 0, 1, 0) := am_code_of (M := tn_m17) rfl (by decide +kernel) rfl rfl
theorem kc_17_1 : am_code tn_G 17 1 = some (.getfield 15, 3, 0) := am_code_of (M := tn_m17) rfl (by decide +kernel) rfl rfl
theorem kf_17_15 : am_fld tn_G 17 15 = some (1, 1) := by decide +kernel
theorem kc_17_4 : am_code tn_G 17 4 = some (.aload_n 0, 1, 0) := am_code_of (M := tn_m17) rfl (by decide +kernel) rfl rfl
theorem kc_17_5 : am_code tn_G 17 5 = some (.getfield 25, 3, 0) := am_code_of (M := tn_m17) rfl (by decide +kernel) rfl rfl
theorem kf_17_25 : am_fld tn_G 17 25 = some (1, 4) := by decide +kernel
theorem kc_17_8 : am_code tn_G 17 8 = some (.iconst (-1), 1, 0) := am_code_of (M := tn_m17) rfl (by decide +kernel) rfl rfl
theorem kc_17_9 : am_code tn_G 17 9 = some (.iastore, 1, 0) := am_code_of (M := tn_m17) rfl (by decide +kernel) rfl rfl
theorem kc_17_10 : am_code tn_G 17 10 = some (.aload_n 0, 1, 0) := am_code_of (M := tn_m17) rfl (by decide +kernel) rfl rfl
theorem kc_17_11 : am_code tn_G 17 11 = some (.dup, 1, 0) := am_code_of (M := tn_m17) rfl (by decide +kernel) rfl rfl
theorem kc_17_12 : am_code tn_G 17 12 = some (.getfield 25, 3, 0) := am_code_of (M := tn_m17) rfl (by decide +kernel) rfl rfl
theorem kc_17_15 : am_code tn_G 17 15 = some (.iconst 1, 1, 0) := am_code_of (M := tn_m17) rfl (by decide +kernel) rfl rfl
theorem kc_17_16 : am_code tn_G 17 16 = some (.iadd, 1, 0) := am_code_of (M := tn_m17) rfl (by decide +kernel) rfl rfl
theorem kc_17_17 : am_code tn_G 17 17 = some (.putfield 25, 3, 0) := am_code_of (M := tn_m17) rfl (by decide +kernel) rfl rfl
theorem kc_17_20 : am_code tn_G 17 20 = some (.aload_n 0, 1, 0) := am_code_of (M := tn_m17) rfl (by decide +kernel) rfl rfl
theorem kc_17_21 : am_code tn_G 17 21 = some (.getfield 25, 3, 0) := am_code_of (M := tn_m17) rfl (by decide +kernel) rfl rfl
theorem kc_17_24 : am_code tn_G 17 24 = some (.iconst 1, 1, 0) := am_code_of (M := tn_m17) rfl (by decide +kernel) rfl rfl
theorem kc_17_25 : am_code tn_G 17 25 = some (.isub, 1, 0) := am_code_of (M := tn_m17) rfl (by decide +kernel) rfl rfl
theorem kc_17_26 : am_code tn_G 17 26 = some (.ireturn, 1, 0) := am_code_of (M := tn_m17) rfl (by decide +kernel) rfl rfl
-- 18: TermNet$Told.canBeTerm(IIII)Z
theorem kl_18 : am_ml tn_G 18 = 6 := rfl
theorem ko_18 : am_oc tn_G 18 = 1 := rfl
theorem kn_18 : am_nc tn_G 18 = 0 := rfl
theorem kr_18 : am_rt tn_G 18 = 2 := rfl
theorem kc_18_0 : am_code tn_G 18 0 = some (.iload_n 1, 1, 0) := am_code_of (M := tn_m18) rfl (by decide +kernel) rfl rfl
theorem kc_18_1 : am_code tn_G 18 1 = some (.ifCond .lt 11, 3, 12) := am_code_of (M := tn_m18) rfl (by decide +kernel) rfl (by decide +kernel)
theorem kc_18_4 : am_code tn_G 18 4 = some (.iload_n 1, 1, 0) := am_code_of (M := tn_m18) rfl (by decide +kernel) rfl rfl
theorem kc_18_5 : am_code tn_G 18 5 = some (.aload_n 0, 1, 0) := am_code_of (M := tn_m18) rfl (by decide +kernel) rfl rfl
theorem kc_18_6 : am_code tn_G 18 6 = some (.getfield 21, 3, 0) := am_code_of (M := tn_m18) rfl (by decide +kernel) rfl rfl
theorem kf_18_21 : am_fld tn_G 18 21 = some (1, 3) := by decide +kernel
theorem kc_18_9 : am_code tn_G 18 9 = some (.if_icmp .lt 5, 3, 14) := am_code_of (M := tn_m18) rfl (by decide +kernel) rfl (by decide +kernel)
theorem kc_18_12 : am_code tn_G 18 12 = some (.iconst 0, 1, 0) := am_code_of (M := tn_m18) rfl (by decide +kernel) rfl rfl
theorem kc_18_13 : am_code tn_G 18 13 = some (.ireturn, 1, 0) := am_code_of (M := tn_m18) rfl (by decide +kernel) rfl rfl
theorem kc_18_14 : am_code tn_G 18 14 = some (.aload_n 0, 1, 0) := am_code_of (M := tn_m18) rfl (by decide +kernel) rfl rfl
theorem kc_18_15 : am_code tn_G 18 15 = some (.getfield 9, 3, 0) := am_code_of (M := tn_m18) rfl (by decide +kernel) rfl rfl
theorem kf_18_9 : am_fld tn_G 18 9 = some (1, 0) := by decide +kernel
theorem kc_18_18 : am_code tn_G 18 18 = some (.iload_n 1, 1, 0) := am_code_of (M := tn_m18) rfl (by decide +kernel) rfl rfl
theorem kc_18_19 : am_code tn_G 18 19 = some (.iaload, 1, 0) := am_code_of (M := tn_m18) rfl (by decide +kernel) rfl rfl
theorem kc_18_20 : am_code tn_G 18 20 = some (.istore 5, 2, 0) := am_code_of (M := tn_m18) rfl (by decide +kernel) rfl rfl
theorem kc_18_22 : am_code tn_G 18 22 = some (.iload 5, 2, 0) := am_code_of (M := tn_m18) rfl (by decide +kernel) rfl rfl
theorem kc_18_24 : am_code tn_G 18 24 = some (.iconst 1, 1, 0) := am_code_of (M := tn_m18) rfl (by decide +kernel) rfl rfl
theorem kc_18_25 : am_code tn_G 18 25 = some (.if_icmp .lt 11, 3, 36) := am_code_of (M := tn_m18) rfl (by decide +kernel) rfl (by decide +kernel)
theorem kc_18_28 : am_code tn_G 18 28 = some (.aload_n 0, 1, 0) := am_code_of (M := tn_m18) rfl (by decide +kernel) rfl rfl
theorem kc_18_29 : am_code tn_G 18 29 = some (.iload_n 2, 1, 0) := am_code_of (M := tn_m18) rfl (by decide +kernel) rfl rfl
theorem kc_18_30 : am_code tn_G 18 30 = some (.invokevirtual 28, 3, 0) := am_code_of (M := tn_m18) rfl (by decide +kernel) rfl rfl
theorem ka_18_28 : am_cal tn_G 18 28 = some (0, 19, 1) := by decide +kernel
theorem kc_18_33 : am_code tn_G 18 33 = some (.ifCond .eq 36, 3, 69) := am_code_of (M := tn_m18) rfl (by decide +kernel) rfl (by decide +kernel)
theorem kc_18_36 : am_code tn_G 18 36 = some (.iload 5, 2, 0) := am_code_of (M := tn_m18) rfl (by decide +kernel) rfl rfl
theorem kc_18_38 : am_code tn_G 18 38 = some (.iconst 2, 1, 0) := am_code_of (M := tn_m18) rfl (by decide +kernel) rfl rfl
theorem kc_18_39 : am_code tn_G 18 39 = some (.if_icmp .lt 11, 3, 50) := am_code_of (M := tn_m18) rfl (by decide +kernel) rfl (by decide +kernel)
theorem kc_18_42 : am_code tn_G 18 42 = some (.aload_n 0, 1, 0) := am_code_of (M := tn_m18) rfl (by decide +kernel) rfl rfl
theorem kc_18_43 : am_code tn_G 18 43 = some (.iload_n 3, 1, 0) := am_code_of (M := tn_m18) rfl (by decide +kernel) rfl rfl
theorem kc_18_44 : am_code tn_G 18 44 = some (.invokevirtual 28, 3, 0) := am_code_of (M := tn_m18) rfl (by decide +kernel) rfl rfl
theorem kc_18_47 : am_code tn_G 18 47 = some (.ifCond .eq 22, 3, 69) := am_code_of (M := tn_m18) rfl (by decide +kernel) rfl (by decide +kernel)
theorem kc_18_50 : am_code tn_G 18 50 = some (.iload 5, 2, 0) := am_code_of (M := tn_m18) rfl (by decide +kernel) rfl rfl
theorem kc_18_52 : am_code tn_G 18 52 = some (.iconst 3, 1, 0) := am_code_of (M := tn_m18) rfl (by decide +kernel) rfl rfl
theorem kc_18_53 : am_code tn_G 18 53 = some (.if_icmp .lt 12, 3, 65) := am_code_of (M := tn_m18) rfl (by decide +kernel) rfl (by decide +kernel)
theorem kc_18_56 : am_code tn_G 18 56 = some (.aload_n 0, 1, 0) := am_code_of (M := tn_m18) rfl (by decide +kernel) rfl rfl
theorem kc_18_57 : am_code tn_G 18 57 = some (.iload 4, 2, 0) := am_code_of (M := tn_m18) rfl (by decide +kernel) rfl rfl
theorem kc_18_59 : am_code tn_G 18 59 = some (.invokevirtual 28, 3, 0) := am_code_of (M := tn_m18) rfl (by decide +kernel) rfl rfl
theorem kc_18_62 : am_code tn_G 18 62 = some (.ifCond .eq 7, 3, 69) := am_code_of (M := tn_m18) rfl (by decide +kernel) rfl (by decide +kernel)
theorem kc_18_65 : am_code tn_G 18 65 = some (.iconst 1, 1, 0) := am_code_of (M := tn_m18) rfl (by decide +kernel) rfl rfl
theorem kc_18_66 : am_code tn_G 18 66 = some (.goto 4, 3, 70) := am_code_of (M := tn_m18) rfl (by decide +kernel) rfl (by decide +kernel)
theorem kc_18_69 : am_code tn_G 18 69 = some (.iconst 0, 1, 0) := am_code_of (M := tn_m18) rfl (by decide +kernel) rfl rfl
theorem kc_18_70 : am_code tn_G 18 70 = some (.ireturn, 1, 0) := am_code_of (M := tn_m18) rfl (by decide +kernel) rfl rfl
-- 19: TermNet$Told.isTerm(I)Z
theorem kl_19 : am_ml tn_G 19 = 2 := rfl
theorem ko_19 : am_oc tn_G 19 = 1 := rfl
theorem kn_19 : am_nc tn_G 19 = 0 := rfl
theorem kr_19 : am_rt tn_G 19 = 2 := rfl
theorem kc_19_0 : am_code tn_G 19 0 = some (.iload_n 1, 1, 0) := am_code_of (M := tn_m19) rfl (by decide +kernel) rfl rfl
theorem kc_19_1 : am_code tn_G 19 1 = some (.ifCond .lt 15, 3, 16) := am_code_of (M := tn_m19) rfl (by decide +kernel) rfl (by decide +kernel)
theorem kc_19_4 : am_code tn_G 19 4 = some (.iload_n 1, 1, 0) := am_code_of (M := tn_m19) rfl (by decide +kernel) rfl rfl
theorem kc_19_5 : am_code tn_G 19 5 = some (.aload_n 0, 1, 0) := am_code_of (M := tn_m19) rfl (by decide +kernel) rfl rfl
theorem kc_19_6 : am_code tn_G 19 6 = some (.getfield 25, 3, 0) := am_code_of (M := tn_m19) rfl (by decide +kernel) rfl rfl
theorem kf_19_25 : am_fld tn_G 19 25 = some (1, 4) := by decide +kernel
theorem kc_19_9 : am_code tn_G 19 9 = some (.if_icmp .ge 7, 3, 16) := am_code_of (M := tn_m19) rfl (by decide +kernel) rfl (by decide +kernel)
theorem kc_19_12 : am_code tn_G 19 12 = some (.iconst 1, 1, 0) := am_code_of (M := tn_m19) rfl (by decide +kernel) rfl rfl
theorem kc_19_13 : am_code tn_G 19 13 = some (.goto 4, 3, 17) := am_code_of (M := tn_m19) rfl (by decide +kernel) rfl (by decide +kernel)
theorem kc_19_16 : am_code tn_G 19 16 = some (.iconst 0, 1, 0) := am_code_of (M := tn_m19) rfl (by decide +kernel) rfl rfl
theorem kc_19_17 : am_code tn_G 19 17 = some (.ireturn, 1, 0) := am_code_of (M := tn_m19) rfl (by decide +kernel) rfl rfl
-- 20: TermNet$Told.addTerm(IIII)I
theorem kl_20 : am_ml tn_G 20 = 5 := rfl
theorem ko_20 : am_oc tn_G 20 = 1 := rfl
theorem kn_20 : am_nc tn_G 20 = 0 := rfl
theorem kr_20 : am_rt tn_G 20 = 1 := rfl
theorem kc_20_0 : am_code tn_G 20 0 = some (.aload_n 0, 1, 0) := am_code_of (M := tn_m20) rfl (by decide +kernel) rfl rfl
theorem kc_20_1 : am_code tn_G 20 1 = some (.getfield 15, 3, 0) := am_code_of (M := tn_m20) rfl (by decide +kernel) rfl rfl
theorem kf_20_15 : am_fld tn_G 20 15 = some (1, 1) := by decide +kernel
theorem kc_20_4 : am_code tn_G 20 4 = some (.aload_n 0, 1, 0) := am_code_of (M := tn_m20) rfl (by decide +kernel) rfl rfl
theorem kc_20_5 : am_code tn_G 20 5 = some (.getfield 25, 3, 0) := am_code_of (M := tn_m20) rfl (by decide +kernel) rfl rfl
theorem kf_20_25 : am_fld tn_G 20 25 = some (1, 4) := by decide +kernel
theorem kc_20_8 : am_code tn_G 20 8 = some (.iload_n 1, 1, 0) := am_code_of (M := tn_m20) rfl (by decide +kernel) rfl rfl
theorem kc_20_9 : am_code tn_G 20 9 = some (.iastore, 1, 0) := am_code_of (M := tn_m20) rfl (by decide +kernel) rfl rfl
theorem kc_20_10 : am_code tn_G 20 10 = some (.aload_n 0, 1, 0) := am_code_of (M := tn_m20) rfl (by decide +kernel) rfl rfl
theorem kc_20_11 : am_code tn_G 20 11 = some (.getfield 18, 3, 0) := am_code_of (M := tn_m20) rfl (by decide +kernel) rfl rfl
theorem kf_20_18 : am_fld tn_G 20 18 = some (1, 2) := by decide +kernel
theorem kc_20_14 : am_code tn_G 20 14 = some (.aload_n 0, 1, 0) := am_code_of (M := tn_m20) rfl (by decide +kernel) rfl rfl
theorem kc_20_15 : am_code tn_G 20 15 = some (.getfield 25, 3, 0) := am_code_of (M := tn_m20) rfl (by decide +kernel) rfl rfl
theorem kc_20_18 : am_code tn_G 20 18 = some (.iconst 3, 1, 0) := am_code_of (M := tn_m20) rfl (by decide +kernel) rfl rfl
theorem kc_20_19 : am_code tn_G 20 19 = some (.imul, 1, 0) := am_code_of (M := tn_m20) rfl (by decide +kernel) rfl rfl
theorem kc_20_20 : am_code tn_G 20 20 = some (.iload_n 2, 1, 0) := am_code_of (M := tn_m20) rfl (by decide +kernel) rfl rfl
theorem kc_20_21 : am_code tn_G 20 21 = some (.iastore, 1, 0) := am_code_of (M := tn_m20) rfl (by decide +kernel) rfl rfl
theorem kc_20_22 : am_code tn_G 20 22 = some (.aload_n 0, 1, 0) := am_code_of (M := tn_m20) rfl (by decide +kernel) rfl rfl
theorem kc_20_23 : am_code tn_G 20 23 = some (.getfield 18, 3, 0) := am_code_of (M := tn_m20) rfl (by decide +kernel) rfl rfl
theorem kc_20_26 : am_code tn_G 20 26 = some (.aload_n 0, 1, 0) := am_code_of (M := tn_m20) rfl (by decide +kernel) rfl rfl
theorem kc_20_27 : am_code tn_G 20 27 = some (.getfield 25, 3, 0) := am_code_of (M := tn_m20) rfl (by decide +kernel) rfl rfl
theorem kc_20_30 : am_code tn_G 20 30 = some (.iconst 3, 1, 0) := am_code_of (M := tn_m20) rfl (by decide +kernel) rfl rfl
theorem kc_20_31 : am_code tn_G 20 31 = some (.imul, 1, 0) := am_code_of (M := tn_m20) rfl (by decide +kernel) rfl rfl
theorem kc_20_32 : am_code tn_G 20 32 = some (.iconst 1, 1, 0) := am_code_of (M := tn_m20) rfl (by decide +kernel) rfl rfl
theorem kc_20_33 : am_code tn_G 20 33 = some (.iadd, 1, 0) := am_code_of (M := tn_m20) rfl (by decide +kernel) rfl rfl
theorem kc_20_34 : am_code tn_G 20 34 = some (.iload_n 3, 1, 0) := am_code_of (M := tn_m20) rfl (by decide +kernel) rfl rfl
theorem kc_20_35 : am_code tn_G 20 35 = some (.iastore, 1, 0) := am_code_of (M := tn_m20) rfl (by decide +kernel) rfl rfl
theorem kc_20_36 : am_code tn_G 20 36 = some (.aload_n 0, 1, 0) := am_code_of (M := tn_m20) rfl (by decide +kernel) rfl rfl
theorem kc_20_37 : am_code tn_G 20 37 = some (.getfield 18, 3, 0) := am_code_of (M := tn_m20) rfl (by decide +kernel) rfl rfl
theorem kc_20_40 : am_code tn_G 20 40 = some (.aload_n 0, 1, 0) := am_code_of (M := tn_m20) rfl (by decide +kernel) rfl rfl
theorem kc_20_41 : am_code tn_G 20 41 = some (.getfield 25, 3, 0) := am_code_of (M := tn_m20) rfl (by decide +kernel) rfl rfl
theorem kc_20_44 : am_code tn_G 20 44 = some (.iconst 3, 1, 0) := am_code_of (M := tn_m20) rfl (by decide +kernel) rfl rfl
theorem kc_20_45 : am_code tn_G 20 45 = some (.imul, 1, 0) := am_code_of (M := tn_m20) rfl (by decide +kernel) rfl rfl
theorem kc_20_46 : am_code tn_G 20 46 = some (.iconst 2, 1, 0) := am_code_of (M := tn_m20) rfl (by decide +kernel) rfl rfl
theorem kc_20_47 : am_code tn_G 20 47 = some (.iadd, 1, 0) := am_code_of (M := tn_m20) rfl (by decide +kernel) rfl rfl
theorem kc_20_48 : am_code tn_G 20 48 = some (.iload 4, 2, 0) := am_code_of (M := tn_m20) rfl (by decide +kernel) rfl rfl
theorem kc_20_50 : am_code tn_G 20 50 = some (.iastore, 1, 0) := am_code_of (M := tn_m20) rfl (by decide +kernel) rfl rfl
theorem kc_20_51 : am_code tn_G 20 51 = some (.aload_n 0, 1, 0) := am_code_of (M := tn_m20) rfl (by decide +kernel) rfl rfl
theorem kc_20_52 : am_code tn_G 20 52 = some (.dup, 1, 0) := am_code_of (M := tn_m20) rfl (by decide +kernel) rfl rfl
theorem kc_20_53 : am_code tn_G 20 53 = some (.getfield 25, 3, 0) := am_code_of (M := tn_m20) rfl (by decide +kernel) rfl rfl
theorem kc_20_56 : am_code tn_G 20 56 = some (.iconst 1, 1, 0) := am_code_of (M := tn_m20) rfl (by decide +kernel) rfl rfl
theorem kc_20_57 : am_code tn_G 20 57 = some (.iadd, 1, 0) := am_code_of (M := tn_m20) rfl (by decide +kernel) rfl rfl
theorem kc_20_58 : am_code tn_G 20 58 = some (.putfield 25, 3, 0) := am_code_of (M := tn_m20) rfl (by decide +kernel) rfl rfl
theorem kc_20_61 : am_code tn_G 20 61 = some (.aload_n 0, 1, 0) := am_code_of (M := tn_m20) rfl (by decide +kernel) rfl rfl
theorem kc_20_62 : am_code tn_G 20 62 = some (.getfield 25, 3, 0) := am_code_of (M := tn_m20) rfl (by decide +kernel) rfl rfl
theorem kc_20_65 : am_code tn_G 20 65 = some (.iconst 1, 1, 0) := am_code_of (M := tn_m20) rfl (by decide +kernel) rfl rfl
theorem kc_20_66 : am_code tn_G 20 66 = some (.isub, 1, 0) := am_code_of (M := tn_m20) rfl (by decide +kernel) rfl rfl
theorem kc_20_67 : am_code tn_G 20 67 = some (.ireturn, 1, 0) := am_code_of (M := tn_m20) rfl (by decide +kernel) rfl rfl
-- 21: TermNet$Told.partsOfTerm(I)I
theorem kl_21 : am_ml tn_G 21 = 2 := rfl
theorem ko_21 : am_oc tn_G 21 = 1 := rfl
theorem kn_21 : am_nc tn_G 21 = 0 := rfl
theorem kr_21 : am_rt tn_G 21 = 1 := rfl
theorem kc_21_0 : am_code tn_G 21 0 = some (.aload_n 0, 1, 0) := am_code_of (M := tn_m21) rfl (by decide +kernel) rfl rfl
theorem kc_21_1 : am_code tn_G 21 1 = some (.getfield 15, 3, 0) := am_code_of (M := tn_m21) rfl (by decide +kernel) rfl rfl
theorem kf_21_15 : am_fld tn_G 21 15 = some (1, 1) := by decide +kernel
theorem kc_21_4 : am_code tn_G 21 4 = some (.iload_n 1, 1, 0) := am_code_of (M := tn_m21) rfl (by decide +kernel) rfl rfl
theorem kc_21_5 : am_code tn_G 21 5 = some (.iaload, 1, 0) := am_code_of (M := tn_m21) rfl (by decide +kernel) rfl rfl
theorem kc_21_6 : am_code tn_G 21 6 = some (.iconst (-1), 1, 0) := am_code_of (M := tn_m21) rfl (by decide +kernel) rfl rfl
theorem kc_21_7 : am_code tn_G 21 7 = some (.if_icmp .ne 7, 3, 14) := am_code_of (M := tn_m21) rfl (by decide +kernel) rfl (by decide +kernel)
theorem kc_21_10 : am_code tn_G 21 10 = some (.iconst 0, 1, 0) := am_code_of (M := tn_m21) rfl (by decide +kernel) rfl rfl
theorem kc_21_11 : am_code tn_G 21 11 = some (.goto 14, 3, 25) := am_code_of (M := tn_m21) rfl (by decide +kernel) rfl (by decide +kernel)
theorem kc_21_14 : am_code tn_G 21 14 = some (.aload_n 0, 1, 0) := am_code_of (M := tn_m21) rfl (by decide +kernel) rfl rfl
theorem kc_21_15 : am_code tn_G 21 15 = some (.getfield 9, 3, 0) := am_code_of (M := tn_m21) rfl (by decide +kernel) rfl rfl
theorem kf_21_9 : am_fld tn_G 21 9 = some (1, 0) := by decide +kernel
theorem kc_21_18 : am_code tn_G 21 18 = some (.aload_n 0, 1, 0) := am_code_of (M := tn_m21) rfl (by decide +kernel) rfl rfl
theorem kc_21_19 : am_code tn_G 21 19 = some (.getfield 15, 3, 0) := am_code_of (M := tn_m21) rfl (by decide +kernel) rfl rfl
theorem kc_21_22 : am_code tn_G 21 22 = some (.iload_n 1, 1, 0) := am_code_of (M := tn_m21) rfl (by decide +kernel) rfl rfl
theorem kc_21_23 : am_code tn_G 21 23 = some (.iaload, 1, 0) := am_code_of (M := tn_m21) rfl (by decide +kernel) rfl rfl
theorem kc_21_24 : am_code tn_G 21 24 = some (.iaload, 1, 0) := am_code_of (M := tn_m21) rfl (by decide +kernel) rfl rfl
theorem kc_21_25 : am_code tn_G 21 25 = some (.ireturn, 1, 0) := am_code_of (M := tn_m21) rfl (by decide +kernel) rfl rfl
-- 22: TermNet$Told.partOfTerm(II)I
theorem kl_22 : am_ml tn_G 22 = 3 := rfl
theorem ko_22 : am_oc tn_G 22 = 1 := rfl
theorem kn_22 : am_nc tn_G 22 = 0 := rfl
theorem kr_22 : am_rt tn_G 22 = 1 := rfl
theorem kc_22_0 : am_code tn_G 22 0 = some (.aload_n 0, 1, 0) := am_code_of (M := tn_m22) rfl (by decide +kernel) rfl rfl
theorem kc_22_1 : am_code tn_G 22 1 = some (.getfield 18, 3, 0) := am_code_of (M := tn_m22) rfl (by decide +kernel) rfl rfl
theorem kf_22_18 : am_fld tn_G 22 18 = some (1, 2) := by decide +kernel
theorem kc_22_4 : am_code tn_G 22 4 = some (.iload_n 1, 1, 0) := am_code_of (M := tn_m22) rfl (by decide +kernel) rfl rfl
theorem kc_22_5 : am_code tn_G 22 5 = some (.iconst 3, 1, 0) := am_code_of (M := tn_m22) rfl (by decide +kernel) rfl rfl
theorem kc_22_6 : am_code tn_G 22 6 = some (.imul, 1, 0) := am_code_of (M := tn_m22) rfl (by decide +kernel) rfl rfl
theorem kc_22_7 : am_code tn_G 22 7 = some (.iload_n 2, 1, 0) := am_code_of (M := tn_m22) rfl (by decide +kernel) rfl rfl
theorem kc_22_8 : am_code tn_G 22 8 = some (.iadd, 1, 0) := am_code_of (M := tn_m22) rfl (by decide +kernel) rfl rfl
theorem kc_22_9 : am_code tn_G 22 9 = some (.iaload, 1, 0) := am_code_of (M := tn_m22) rfl (by decide +kernel) rfl rfl
theorem kc_22_10 : am_code tn_G 22 10 = some (.ireturn, 1, 0) := am_code_of (M := tn_m22) rfl (by decide +kernel) rfl rfl
-- 23: TermNet$Twins.joinAll(LTermNet$Walk;)V
theorem kl_23 : am_ml tn_G 23 = 4 := rfl
theorem ko_23 : am_oc tn_G 23 = 2 := rfl
theorem kn_23 : am_nc tn_G 23 = 0 := rfl
theorem kr_23 : am_rt tn_G 23 = 0 := rfl
theorem kc_23_0 : am_code tn_G 23 0 = some (.aload_n 0, 1, 0) := am_code_of (M := tn_m23) rfl (by decide +kernel) rfl rfl
theorem kc_23_1 : am_code tn_G 23 1 = some (.getfield 11, 3, 0) := am_code_of (M := tn_m23) rfl (by decide +kernel) rfl rfl
theorem kf_23_11 : am_fld tn_G 23 11 = some (2, 1) := by decide +kernel
theorem kc_23_4 : am_code tn_G 23 4 = some (.iconst (-1), 1, 0) := am_code_of (M := tn_m23) rfl (by decide +kernel) rfl rfl
theorem kc_23_5 : am_code tn_G 23 5 = some (.invokestatic 25, 3, 0) := am_code_of (M := tn_m23) rfl (by decide +kernel) rfl rfl
theorem ka_23_25 : am_cal tn_G 23 25 = some (2, 78, 2) := by decide +kernel
theorem kc_23_8 : am_code tn_G 23 8 = some (.iconst 0, 1, 0) := am_code_of (M := tn_m23) rfl (by decide +kernel) rfl rfl
theorem kc_23_9 : am_code tn_G 23 9 = some (.istore_n 2, 1, 0) := am_code_of (M := tn_m23) rfl (by decide +kernel) rfl rfl
theorem kc_23_10 : am_code tn_G 23 10 = some (.iload_n 2, 1, 0) := am_code_of (M := tn_m23) rfl (by decide +kernel) rfl rfl
theorem kc_23_11 : am_code tn_G 23 11 = some (.aload_n 1, 1, 0) := am_code_of (M := tn_m23) rfl (by decide +kernel) rfl rfl
theorem kc_23_12 : am_code tn_G 23 12 = some (.getfield 31, 3, 0) := am_code_of (M := tn_m23) rfl (by decide +kernel) rfl rfl
theorem kf_23_31 : am_fld tn_G 23 31 = some (3, 7) := by decide +kernel
theorem kc_23_15 : am_code tn_G 23 15 = some (.if_icmp .ge 62, 3, 77) := am_code_of (M := tn_m23) rfl (by decide +kernel) rfl (by decide +kernel)
theorem kc_23_18 : am_code tn_G 23 18 = some (.aload_n 1, 1, 0) := am_code_of (M := tn_m23) rfl (by decide +kernel) rfl rfl
theorem kc_23_19 : am_code tn_G 23 19 = some (.getfield 37, 3, 0) := am_code_of (M := tn_m23) rfl (by decide +kernel) rfl rfl
theorem kf_23_37 : am_fld tn_G 23 37 = some (3, 4) := by decide +kernel
theorem kc_23_22 : am_code tn_G 23 22 = some (.iload_n 2, 1, 0) := am_code_of (M := tn_m23) rfl (by decide +kernel) rfl rfl
theorem kc_23_23 : am_code tn_G 23 23 = some (.iaload, 1, 0) := am_code_of (M := tn_m23) rfl (by decide +kernel) rfl rfl
theorem kc_23_24 : am_code tn_G 23 24 = some (.istore_n 3, 1, 0) := am_code_of (M := tn_m23) rfl (by decide +kernel) rfl rfl
theorem kc_23_25 : am_code tn_G 23 25 = some (.aload_n 0, 1, 0) := am_code_of (M := tn_m23) rfl (by decide +kernel) rfl rfl
theorem kc_23_26 : am_code tn_G 23 26 = some (.getfield 18, 3, 0) := am_code_of (M := tn_m23) rfl (by decide +kernel) rfl rfl
theorem kf_23_18 : am_fld tn_G 23 18 = some (2, 3) := by decide +kernel
theorem kc_23_29 : am_code tn_G 23 29 = some (.iload_n 3, 1, 0) := am_code_of (M := tn_m23) rfl (by decide +kernel) rfl rfl
theorem kc_23_30 : am_code tn_G 23 30 = some (.aload_n 0, 1, 0) := am_code_of (M := tn_m23) rfl (by decide +kernel) rfl rfl
theorem kc_23_31 : am_code tn_G 23 31 = some (.iload_n 3, 1, 0) := am_code_of (M := tn_m23) rfl (by decide +kernel) rfl rfl
theorem kc_23_32 : am_code tn_G 23 32 = some (.invokevirtual 40, 3, 0) := am_code_of (M := tn_m23) rfl (by decide +kernel) rfl rfl
theorem ka_23_40 : am_cal tn_G 23 40 = some (0, 24, 1) := by decide +kernel
theorem kc_23_35 : am_code tn_G 23 35 = some (.iastore, 1, 0) := am_code_of (M := tn_m23) rfl (by decide +kernel) rfl rfl
theorem kc_23_36 : am_code tn_G 23 36 = some (.aload_n 0, 1, 0) := am_code_of (M := tn_m23) rfl (by decide +kernel) rfl rfl
theorem kc_23_37 : am_code tn_G 23 37 = some (.getfield 21, 3, 0) := am_code_of (M := tn_m23) rfl (by decide +kernel) rfl rfl
theorem kf_23_21 : am_fld tn_G 23 21 = some (2, 0) := by decide +kernel
theorem kc_23_40 : am_code tn_G 23 40 = some (.iload_n 3, 1, 0) := am_code_of (M := tn_m23) rfl (by decide +kernel) rfl rfl
theorem kc_23_41 : am_code tn_G 23 41 = some (.invokevirtual 44, 3, 0) := am_code_of (M := tn_m23) rfl (by decide +kernel) rfl rfl
theorem ka_23_44 : am_cal tn_G 23 44 = some (0, 15, 1) := by decide +kernel
theorem kc_23_44 : am_code tn_G 23 44 = some (.ifCond .eq 27, 3, 71) := am_code_of (M := tn_m23) rfl (by decide +kernel) rfl (by decide +kernel)
theorem kc_23_47 : am_code tn_G 23 47 = some (.aload_n 0, 1, 0) := am_code_of (M := tn_m23) rfl (by decide +kernel) rfl rfl
theorem kc_23_48 : am_code tn_G 23 48 = some (.aload_n 0, 1, 0) := am_code_of (M := tn_m23) rfl (by decide +kernel) rfl rfl
theorem kc_23_49 : am_code tn_G 23 49 = some (.getfield 21, 3, 0) := am_code_of (M := tn_m23) rfl (by decide +kernel) rfl rfl
theorem kc_23_52 : am_code tn_G 23 52 = some (.iload_n 3, 1, 0) := am_code_of (M := tn_m23) rfl (by decide +kernel) rfl rfl
theorem kc_23_53 : am_code tn_G 23 53 = some (.invokevirtual 50, 3, 0) := am_code_of (M := tn_m23) rfl (by decide +kernel) rfl rfl
theorem ka_23_50 : am_cal tn_G 23 50 = some (0, 9, 1) := by decide +kernel
theorem kc_23_56 : am_code tn_G 23 56 = some (.aload_n 0, 1, 0) := am_code_of (M := tn_m23) rfl (by decide +kernel) rfl rfl
theorem kc_23_57 : am_code tn_G 23 57 = some (.getfield 18, 3, 0) := am_code_of (M := tn_m23) rfl (by decide +kernel) rfl rfl
theorem kc_23_60 : am_code tn_G 23 60 = some (.iload_n 3, 1, 0) := am_code_of (M := tn_m23) rfl (by decide +kernel) rfl rfl
theorem kc_23_61 : am_code tn_G 23 61 = some (.iaload, 1, 0) := am_code_of (M := tn_m23) rfl (by decide +kernel) rfl rfl
theorem kc_23_62 : am_code tn_G 23 62 = some (.sipush 401, 3, 0) := am_code_of (M := tn_m23) rfl (by decide +kernel) rfl rfl
theorem kc_23_65 : am_code tn_G 23 65 = some (.invokestatic 53, 3, 0) := am_code_of (M := tn_m23) rfl (by decide +kernel) rfl rfl
theorem ka_23_53 : am_cal tn_G 23 53 = some (2, 77, 2) := by decide +kernel
theorem kc_23_68 : am_code tn_G 23 68 = some (.invokevirtual 59, 3, 0) := am_code_of (M := tn_m23) rfl (by decide +kernel) rfl rfl
theorem ka_23_59 : am_cal tn_G 23 59 = some (0, 25, 2) := by decide +kernel
theorem kc_23_71 : am_code tn_G 23 71 = some (.iinc 2 1, 3, 0) := am_code_of (M := tn_m23) rfl (by decide +kernel) rfl rfl
theorem kc_23_74 : am_code tn_G 23 74 = some (.goto (-64), 3, 10) := am_code_of (M := tn_m23) rfl (by decide +kernel) rfl (by decide +kernel)
theorem kc_23_77 : am_code tn_G 23 77 = some (.return_, 1, 0) := am_code_of (M := tn_m23) rfl (by decide +kernel) rfl rfl
-- 24: TermNet$Twins.printOf(I)I
theorem kl_24 : am_ml tn_G 24 = 4 := rfl
theorem ko_24 : am_oc tn_G 24 = 2 := rfl
theorem kn_24 : am_nc tn_G 24 = 0 := rfl
theorem kr_24 : am_rt tn_G 24 = 1 := rfl
theorem kc_24_0 : am_code tn_G 24 0 = some (.aload_n 0, 1, 0) := am_code_of (M := tn_m24) rfl (by decide +kernel) rfl rfl
theorem kc_24_1 : am_code tn_G 24 1 = some (.getfield 21, 3, 0) := am_code_of (M := tn_m24) rfl (by decide +kernel) rfl rfl
theorem kf_24_21 : am_fld tn_G 24 21 = some (2, 0) := by decide +kernel
theorem kc_24_4 : am_code tn_G 24 4 = some (.iload_n 1, 1, 0) := am_code_of (M := tn_m24) rfl (by decide +kernel) rfl rfl
theorem kc_24_5 : am_code tn_G 24 5 = some (.invokevirtual 44, 3, 0) := am_code_of (M := tn_m24) rfl (by decide +kernel) rfl rfl
theorem ka_24_44 : am_cal tn_G 24 44 = some (0, 15, 1) := by decide +kernel
theorem kc_24_8 : am_code tn_G 24 8 = some (.ifCond .ne 5, 3, 13) := am_code_of (M := tn_m24) rfl (by decide +kernel) rfl (by decide +kernel)
theorem kc_24_11 : am_code tn_G 24 11 = some (.iload_n 1, 1, 0) := am_code_of (M := tn_m24) rfl (by decide +kernel) rfl rfl
theorem kc_24_12 : am_code tn_G 24 12 = some (.ireturn, 1, 0) := am_code_of (M := tn_m24) rfl (by decide +kernel) rfl rfl
theorem kc_24_13 : am_code tn_G 24 13 = some (.iconst (-1), 1, 0) := am_code_of (M := tn_m24) rfl (by decide +kernel) rfl rfl
theorem kc_24_14 : am_code tn_G 24 14 = some (.aload_n 0, 1, 0) := am_code_of (M := tn_m24) rfl (by decide +kernel) rfl rfl
theorem kc_24_15 : am_code tn_G 24 15 = some (.getfield 21, 3, 0) := am_code_of (M := tn_m24) rfl (by decide +kernel) rfl rfl
theorem kc_24_18 : am_code tn_G 24 18 = some (.getfield 63, 3, 0) := am_code_of (M := tn_m24) rfl (by decide +kernel) rfl rfl
theorem kf_24_63 : am_fld tn_G 24 63 = some (0, 0) := by decide +kernel
theorem kc_24_21 : am_code tn_G 24 21 = some (.getfield 67, 3, 0) := am_code_of (M := tn_m24) rfl (by decide +kernel) rfl rfl
theorem kf_24_67 : am_fld tn_G 24 67 = some (1, 1) := by decide +kernel
theorem kc_24_24 : am_code tn_G 24 24 = some (.aload_n 0, 1, 0) := am_code_of (M := tn_m24) rfl (by decide +kernel) rfl rfl
theorem kc_24_25 : am_code tn_G 24 25 = some (.getfield 21, 3, 0) := am_code_of (M := tn_m24) rfl (by decide +kernel) rfl rfl
theorem kc_24_28 : am_code tn_G 24 28 = some (.iload_n 1, 1, 0) := am_code_of (M := tn_m24) rfl (by decide +kernel) rfl rfl
theorem kc_24_29 : am_code tn_G 24 29 = some (.invokevirtual 50, 3, 0) := am_code_of (M := tn_m24) rfl (by decide +kernel) rfl rfl
theorem ka_24_50 : am_cal tn_G 24 50 = some (0, 9, 1) := by decide +kernel
theorem kc_24_32 : am_code tn_G 24 32 = some (.iaload, 1, 0) := am_code_of (M := tn_m24) rfl (by decide +kernel) rfl rfl
theorem kc_24_33 : am_code tn_G 24 33 = some (.isub, 1, 0) := am_code_of (M := tn_m24) rfl (by decide +kernel) rfl rfl
theorem kc_24_34 : am_code tn_G 24 34 = some (.istore_n 2, 1, 0) := am_code_of (M := tn_m24) rfl (by decide +kernel) rfl rfl
theorem kc_24_35 : am_code tn_G 24 35 = some (.iconst 0, 1, 0) := am_code_of (M := tn_m24) rfl (by decide +kernel) rfl rfl
theorem kc_24_36 : am_code tn_G 24 36 = some (.istore_n 3, 1, 0) := am_code_of (M := tn_m24) rfl (by decide +kernel) rfl rfl
theorem kc_24_37 : am_code tn_G 24 37 = some (.iload_n 3, 1, 0) := am_code_of (M := tn_m24) rfl (by decide +kernel) rfl rfl
theorem kc_24_38 : am_code tn_G 24 38 = some (.aload_n 0, 1, 0) := am_code_of (M := tn_m24) rfl (by decide +kernel) rfl rfl
theorem kc_24_39 : am_code tn_G 24 39 = some (.getfield 21, 3, 0) := am_code_of (M := tn_m24) rfl (by decide +kernel) rfl rfl
theorem kc_24_42 : am_code tn_G 24 42 = some (.iload_n 1, 1, 0) := am_code_of (M := tn_m24) rfl (by decide +kernel) rfl rfl
theorem kc_24_43 : am_code tn_G 24 43 = some (.invokevirtual 72, 3, 0) := am_code_of (M := tn_m24) rfl (by decide +kernel) rfl rfl
theorem ka_24_72 : am_cal tn_G 24 72 = some (0, 11, 1) := by decide +kernel
theorem kc_24_46 : am_code tn_G 24 46 = some (.if_icmp .ge 29, 3, 75) := am_code_of (M := tn_m24) rfl (by decide +kernel) rfl (by decide +kernel)
theorem kc_24_49 : am_code tn_G 24 49 = some (.iload_n 2, 1, 0) := am_code_of (M := tn_m24) rfl (by decide +kernel) rfl rfl
theorem kc_24_50 : am_code tn_G 24 50 = some (.ldc 75, 2, 0) := am_code_of (M := tn_m24) rfl (by decide +kernel) rfl rfl
theorem ki_24_75 : am_ki tn_G 24 75 = some 1000003 := by decide +kernel
theorem kc_24_52 : am_code tn_G 24 52 = some (.imul, 1, 0) := am_code_of (M := tn_m24) rfl (by decide +kernel) rfl rfl
theorem kc_24_53 : am_code tn_G 24 53 = some (.aload_n 0, 1, 0) := am_code_of (M := tn_m24) rfl (by decide +kernel) rfl rfl
theorem kc_24_54 : am_code tn_G 24 54 = some (.getfield 18, 3, 0) := am_code_of (M := tn_m24) rfl (by decide +kernel) rfl rfl
theorem kf_24_18 : am_fld tn_G 24 18 = some (2, 3) := by decide +kernel
theorem kc_24_57 : am_code tn_G 24 57 = some (.aload_n 0, 1, 0) := am_code_of (M := tn_m24) rfl (by decide +kernel) rfl rfl
theorem kc_24_58 : am_code tn_G 24 58 = some (.getfield 21, 3, 0) := am_code_of (M := tn_m24) rfl (by decide +kernel) rfl rfl
theorem kc_24_61 : am_code tn_G 24 61 = some (.iload_n 1, 1, 0) := am_code_of (M := tn_m24) rfl (by decide +kernel) rfl rfl
theorem kc_24_62 : am_code tn_G 24 62 = some (.iload_n 3, 1, 0) := am_code_of (M := tn_m24) rfl (by decide +kernel) rfl rfl
theorem kc_24_63 : am_code tn_G 24 63 = some (.invokevirtual 76, 3, 0) := am_code_of (M := tn_m24) rfl (by decide +kernel) rfl rfl
theorem ka_24_76 : am_cal tn_G 24 76 = some (0, 12, 2) := by decide +kernel
theorem kc_24_66 : am_code tn_G 24 66 = some (.iaload, 1, 0) := am_code_of (M := tn_m24) rfl (by decide +kernel) rfl rfl
theorem kc_24_67 : am_code tn_G 24 67 = some (.iadd, 1, 0) := am_code_of (M := tn_m24) rfl (by decide +kernel) rfl rfl
theorem kc_24_68 : am_code tn_G 24 68 = some (.istore_n 2, 1, 0) := am_code_of (M := tn_m24) rfl (by decide +kernel) rfl rfl
theorem kc_24_69 : am_code tn_G 24 69 = some (.iinc 3 1, 3, 0) := am_code_of (M := tn_m24) rfl (by decide +kernel) rfl rfl
theorem kc_24_72 : am_code tn_G 24 72 = some (.goto (-35), 3, 37) := am_code_of (M := tn_m24) rfl (by decide +kernel) rfl (by decide +kernel)
theorem kc_24_75 : am_code tn_G 24 75 = some (.iload_n 2, 1, 0) := am_code_of (M := tn_m24) rfl (by decide +kernel) rfl rfl
theorem kc_24_76 : am_code tn_G 24 76 = some (.ireturn, 1, 0) := am_code_of (M := tn_m24) rfl (by decide +kernel) rfl rfl
-- 25: TermNet$Twins.joinOrKeep(II)V
theorem kl_25 : am_ml tn_G 25 = 5 := rfl
theorem ko_25 : am_oc tn_G 25 = 2 := rfl
theorem kn_25 : am_nc tn_G 25 = 0 := rfl
theorem kr_25 : am_rt tn_G 25 = 0 := rfl
theorem kc_25_0 : am_code tn_G 25 0 = some (.aload_n 0, 1, 0) := am_code_of (M := tn_m25) rfl (by decide +kernel) rfl rfl
theorem kc_25_1 : am_code tn_G 25 1 = some (.getfield 11, 3, 0) := am_code_of (M := tn_m25) rfl (by decide +kernel) rfl rfl
theorem kf_25_11 : am_fld tn_G 25 11 = some (2, 1) := by decide +kernel
theorem kc_25_4 : am_code tn_G 25 4 = some (.iload_n 2, 1, 0) := am_code_of (M := tn_m25) rfl (by decide +kernel) rfl rfl
theorem kc_25_5 : am_code tn_G 25 5 = some (.iaload, 1, 0) := am_code_of (M := tn_m25) rfl (by decide +kernel) rfl rfl
theorem kc_25_6 : am_code tn_G 25 6 = some (.istore_n 3, 1, 0) := am_code_of (M := tn_m25) rfl (by decide +kernel) rfl rfl
theorem kc_25_7 : am_code tn_G 25 7 = some (.iconst 0, 1, 0) := am_code_of (M := tn_m25) rfl (by decide +kernel) rfl rfl
theorem kc_25_8 : am_code tn_G 25 8 = some (.istore 4, 2, 0) := am_code_of (M := tn_m25) rfl (by decide +kernel) rfl rfl
theorem kc_25_10 : am_code tn_G 25 10 = some (.iload 4, 2, 0) := am_code_of (M := tn_m25) rfl (by decide +kernel) rfl rfl
theorem kc_25_12 : am_code tn_G 25 12 = some (.sipush 400, 3, 0) := am_code_of (M := tn_m25) rfl (by decide +kernel) rfl rfl
theorem kc_25_15 : am_code tn_G 25 15 = some (.if_icmp .ge 43, 3, 58) := am_code_of (M := tn_m25) rfl (by decide +kernel) rfl (by decide +kernel)
theorem kc_25_18 : am_code tn_G 25 18 = some (.iload_n 3, 1, 0) := am_code_of (M := tn_m25) rfl (by decide +kernel) rfl rfl
theorem kc_25_19 : am_code tn_G 25 19 = some (.iconst (-1), 1, 0) := am_code_of (M := tn_m25) rfl (by decide +kernel) rfl rfl
theorem kc_25_20 : am_code tn_G 25 20 = some (.if_icmp .eq 38, 3, 58) := am_code_of (M := tn_m25) rfl (by decide +kernel) rfl (by decide +kernel)
theorem kc_25_23 : am_code tn_G 25 23 = some (.aload_n 0, 1, 0) := am_code_of (M := tn_m25) rfl (by decide +kernel) rfl rfl
theorem kc_25_24 : am_code tn_G 25 24 = some (.getfield 21, 3, 0) := am_code_of (M := tn_m25) rfl (by decide +kernel) rfl rfl
theorem kf_25_21 : am_fld tn_G 25 21 = some (2, 0) := by decide +kernel
theorem kc_25_27 : am_code tn_G 25 27 = some (.iload_n 1, 1, 0) := am_code_of (M := tn_m25) rfl (by decide +kernel) rfl rfl
theorem kc_25_28 : am_code tn_G 25 28 = some (.iload_n 3, 1, 0) := am_code_of (M := tn_m25) rfl (by decide +kernel) rfl rfl
theorem kc_25_29 : am_code tn_G 25 29 = some (.invokevirtual 79, 3, 0) := am_code_of (M := tn_m25) rfl (by decide +kernel) rfl rfl
theorem ka_25_79 : am_cal tn_G 25 79 = some (0, 3, 2) := by decide +kernel
theorem kc_25_32 : am_code tn_G 25 32 = some (.ifCond .eq 13, 3, 45) := am_code_of (M := tn_m25) rfl (by decide +kernel) rfl (by decide +kernel)
theorem kc_25_35 : am_code tn_G 25 35 = some (.aload_n 0, 1, 0) := am_code_of (M := tn_m25) rfl (by decide +kernel) rfl rfl
theorem kc_25_36 : am_code tn_G 25 36 = some (.getfield 21, 3, 0) := am_code_of (M := tn_m25) rfl (by decide +kernel) rfl rfl
theorem kc_25_39 : am_code tn_G 25 39 = some (.iload_n 1, 1, 0) := am_code_of (M := tn_m25) rfl (by decide +kernel) rfl rfl
theorem kc_25_40 : am_code tn_G 25 40 = some (.iload_n 3, 1, 0) := am_code_of (M := tn_m25) rfl (by decide +kernel) rfl rfl
theorem kc_25_41 : am_code tn_G 25 41 = some (.invokevirtual 83, 3, 0) := am_code_of (M := tn_m25) rfl (by decide +kernel) rfl rfl
theorem ka_25_83 : am_cal tn_G 25 83 = some (0, 4, 2) := by decide +kernel
theorem kc_25_44 : am_code tn_G 25 44 = some (.return_, 1, 0) := am_code_of (M := tn_m25) rfl (by decide +kernel) rfl rfl
theorem kc_25_45 : am_code tn_G 25 45 = some (.aload_n 0, 1, 0) := am_code_of (M := tn_m25) rfl (by decide +kernel) rfl rfl
theorem kc_25_46 : am_code tn_G 25 46 = some (.getfield 15, 3, 0) := am_code_of (M := tn_m25) rfl (by decide +kernel) rfl rfl
theorem kf_25_15 : am_fld tn_G 25 15 = some (2, 2) := by decide +kernel
theorem kc_25_49 : am_code tn_G 25 49 = some (.iload_n 3, 1, 0) := am_code_of (M := tn_m25) rfl (by decide +kernel) rfl rfl
theorem kc_25_50 : am_code tn_G 25 50 = some (.iaload, 1, 0) := am_code_of (M := tn_m25) rfl (by decide +kernel) rfl rfl
theorem kc_25_51 : am_code tn_G 25 51 = some (.istore_n 3, 1, 0) := am_code_of (M := tn_m25) rfl (by decide +kernel) rfl rfl
theorem kc_25_52 : am_code tn_G 25 52 = some (.iinc 4 1, 3, 0) := am_code_of (M := tn_m25) rfl (by decide +kernel) rfl rfl
theorem kc_25_55 : am_code tn_G 25 55 = some (.goto (-45), 3, 10) := am_code_of (M := tn_m25) rfl (by decide +kernel) rfl (by decide +kernel)
theorem kc_25_58 : am_code tn_G 25 58 = some (.aload_n 0, 1, 0) := am_code_of (M := tn_m25) rfl (by decide +kernel) rfl rfl
theorem kc_25_59 : am_code tn_G 25 59 = some (.getfield 15, 3, 0) := am_code_of (M := tn_m25) rfl (by decide +kernel) rfl rfl
theorem kc_25_62 : am_code tn_G 25 62 = some (.iload_n 1, 1, 0) := am_code_of (M := tn_m25) rfl (by decide +kernel) rfl rfl
theorem kc_25_63 : am_code tn_G 25 63 = some (.aload_n 0, 1, 0) := am_code_of (M := tn_m25) rfl (by decide +kernel) rfl rfl
theorem kc_25_64 : am_code tn_G 25 64 = some (.getfield 11, 3, 0) := am_code_of (M := tn_m25) rfl (by decide +kernel) rfl rfl
theorem kc_25_67 : am_code tn_G 25 67 = some (.iload_n 2, 1, 0) := am_code_of (M := tn_m25) rfl (by decide +kernel) rfl rfl
theorem kc_25_68 : am_code tn_G 25 68 = some (.iaload, 1, 0) := am_code_of (M := tn_m25) rfl (by decide +kernel) rfl rfl
theorem kc_25_69 : am_code tn_G 25 69 = some (.iastore, 1, 0) := am_code_of (M := tn_m25) rfl (by decide +kernel) rfl rfl
theorem kc_25_70 : am_code tn_G 25 70 = some (.aload_n 0, 1, 0) := am_code_of (M := tn_m25) rfl (by decide +kernel) rfl rfl
theorem kc_25_71 : am_code tn_G 25 71 = some (.getfield 11, 3, 0) := am_code_of (M := tn_m25) rfl (by decide +kernel) rfl rfl
theorem kc_25_74 : am_code tn_G 25 74 = some (.iload_n 2, 1, 0) := am_code_of (M := tn_m25) rfl (by decide +kernel) rfl rfl
theorem kc_25_75 : am_code tn_G 25 75 = some (.iload_n 1, 1, 0) := am_code_of (M := tn_m25) rfl (by decide +kernel) rfl rfl
theorem kc_25_76 : am_code tn_G 25 76 = some (.iastore, 1, 0) := am_code_of (M := tn_m25) rfl (by decide +kernel) rfl rfl
theorem kc_25_77 : am_code tn_G 25 77 = some (.return_, 1, 0) := am_code_of (M := tn_m25) rfl (by decide +kernel) rfl rfl
-- 26: TermNet$Walk.overAll(I)Z
theorem kl_26 : am_ml tn_G 26 = 3 := rfl
theorem ko_26 : am_oc tn_G 26 = 3 := rfl
theorem kn_26 : am_nc tn_G 26 = 0 := rfl
theorem kr_26 : am_rt tn_G 26 = 2 := rfl
theorem kc_26_0 : am_code tn_G 26 0 = some (.aload_n 0, 1, 0) := am_code_of (M := tn_m26) rfl (by decide +kernel) rfl rfl
theorem kc_26_1 : am_code tn_G 26 1 = some (.invokevirtual 38, 3, 0) := am_code_of (M := tn_m26) rfl (by decide +kernel) rfl rfl
theorem ka_26_38 : am_cal tn_G 26 38 = some (0, 27, 0) := by decide +kernel
theorem kc_26_4 : am_code tn_G 26 4 = some (.iconst 0, 1, 0) := am_code_of (M := tn_m26) rfl (by decide +kernel) rfl rfl
theorem kc_26_5 : am_code tn_G 26 5 = some (.istore_n 2, 1, 0) := am_code_of (M := tn_m26) rfl (by decide +kernel) rfl rfl
theorem kc_26_6 : am_code tn_G 26 6 = some (.iload_n 2, 1, 0) := am_code_of (M := tn_m26) rfl (by decide +kernel) rfl rfl
theorem kc_26_7 : am_code tn_G 26 7 = some (.iload_n 1, 1, 0) := am_code_of (M := tn_m26) rfl (by decide +kernel) rfl rfl
theorem kc_26_8 : am_code tn_G 26 8 = some (.if_icmp .ge 26, 3, 34) := am_code_of (M := tn_m26) rfl (by decide +kernel) rfl (by decide +kernel)
theorem kc_26_11 : am_code tn_G 26 11 = some (.aload_n 0, 1, 0) := am_code_of (M := tn_m26) rfl (by decide +kernel) rfl rfl
theorem kc_26_12 : am_code tn_G 26 12 = some (.aload_n 0, 1, 0) := am_code_of (M := tn_m26) rfl (by decide +kernel) rfl rfl
theorem kc_26_13 : am_code tn_G 26 13 = some (.getfield 34, 3, 0) := am_code_of (M := tn_m26) rfl (by decide +kernel) rfl rfl
theorem kf_26_34 : am_fld tn_G 26 34 = some (3, 0) := by decide +kernel
theorem kc_26_16 : am_code tn_G 26 16 = some (.iload_n 2, 1, 0) := am_code_of (M := tn_m26) rfl (by decide +kernel) rfl rfl
theorem kc_26_17 : am_code tn_G 26 17 = some (.invokevirtual 41, 3, 0) := am_code_of (M := tn_m26) rfl (by decide +kernel) rfl rfl
theorem ka_26_41 : am_cal tn_G 26 41 = some (0, 10, 1) := by decide +kernel
theorem kc_26_20 : am_code tn_G 26 20 = some (.invokevirtual 47, 3, 0) := am_code_of (M := tn_m26) rfl (by decide +kernel) rfl rfl
theorem ka_26_47 : am_cal tn_G 26 47 = some (0, 28, 1) := by decide +kernel
theorem kc_26_23 : am_code tn_G 26 23 = some (.ifCond .ne 5, 3, 28) := am_code_of (M := tn_m26) rfl (by decide +kernel) rfl (by decide +kernel)
theorem kc_26_26 : am_code tn_G 26 26 = some (.iconst 0, 1, 0) := am_code_of (M := tn_m26) rfl (by decide +kernel) rfl rfl
theorem kc_26_27 : am_code tn_G 26 27 = some (.ireturn, 1, 0) := am_code_of (M := tn_m26) rfl (by decide +kernel) rfl rfl
theorem kc_26_28 : am_code tn_G 26 28 = some (.iinc 2 1, 3, 0) := am_code_of (M := tn_m26) rfl (by decide +kernel) rfl rfl
theorem kc_26_31 : am_code tn_G 26 31 = some (.goto (-25), 3, 6) := am_code_of (M := tn_m26) rfl (by decide +kernel) rfl (by decide +kernel)
theorem kc_26_34 : am_code tn_G 26 34 = some (.iconst 1, 1, 0) := am_code_of (M := tn_m26) rfl (by decide +kernel) rfl rfl
theorem kc_26_35 : am_code tn_G 26 35 = some (.ireturn, 1, 0) := am_code_of (M := tn_m26) rfl (by decide +kernel) rfl rfl
-- 27: TermNet$Walk.begin()V
theorem kl_27 : am_ml tn_G 27 = 1 := rfl
theorem ko_27 : am_oc tn_G 27 = 3 := rfl
theorem kn_27 : am_nc tn_G 27 = 0 := rfl
theorem kr_27 : am_rt tn_G 27 = 0 := rfl
theorem kc_27_0 : am_code tn_G 27 0 = some (.aload_n 0, 1, 0) := am_code_of (M := tn_m27) rfl (by decide +kernel) rfl rfl
theorem kc_27_1 : am_code tn_G 27 1 = some (.getfield 9, 3, 0) := am_code_of (M := tn_m27) rfl (by decide +kernel) rfl rfl
theorem kf_27_9 : am_fld tn_G 27 9 = some (3, 1) := by decide +kernel
theorem kc_27_4 : am_code tn_G 27 4 = some (.iconst 0, 1, 0) := am_code_of (M := tn_m27) rfl (by decide +kernel) rfl rfl
theorem kc_27_5 : am_code tn_G 27 5 = some (.invokestatic 82, 3, 0) := am_code_of (M := tn_m27) rfl (by decide +kernel) rfl rfl
theorem ka_27_82 : am_cal tn_G 27 82 = some (2, 78, 2) := by decide +kernel
theorem kc_27_8 : am_code tn_G 27 8 = some (.aload_n 0, 1, 0) := am_code_of (M := tn_m27) rfl (by decide +kernel) rfl rfl
theorem kc_27_9 : am_code tn_G 27 9 = some (.iconst 0, 1, 0) := am_code_of (M := tn_m27) rfl (by decide +kernel) rfl rfl
theorem kc_27_10 : am_code tn_G 27 10 = some (.putfield 27, 3, 0) := am_code_of (M := tn_m27) rfl (by decide +kernel) rfl rfl
theorem kf_27_27 : am_fld tn_G 27 27 = some (3, 6) := by decide +kernel
theorem kc_27_13 : am_code tn_G 27 13 = some (.aload_n 0, 1, 0) := am_code_of (M := tn_m27) rfl (by decide +kernel) rfl rfl
theorem kc_27_14 : am_code tn_G 27 14 = some (.iconst 0, 1, 0) := am_code_of (M := tn_m27) rfl (by decide +kernel) rfl rfl
theorem kc_27_15 : am_code tn_G 27 15 = some (.putfield 31, 3, 0) := am_code_of (M := tn_m27) rfl (by decide +kernel) rfl rfl
theorem kf_27_31 : am_fld tn_G 27 31 = some (3, 7) := by decide +kernel
theorem kc_27_18 : am_code tn_G 27 18 = some (.return_, 1, 0) := am_code_of (M := tn_m27) rfl (by decide +kernel) rfl rfl
-- 28: TermNet$Walk.reach(I)Z
theorem kl_28 : am_ml tn_G 28 = 4 := rfl
theorem ko_28 : am_oc tn_G 28 = 3 := rfl
theorem kn_28 : am_nc tn_G 28 = 0 := rfl
theorem kr_28 : am_rt tn_G 28 = 2 := rfl
theorem kc_28_0 : am_code tn_G 28 0 = some (.aload_n 0, 1, 0) := am_code_of (M := tn_m28) rfl (by decide +kernel) rfl rfl
theorem kc_28_1 : am_code tn_G 28 1 = some (.iload_n 1, 1, 0) := am_code_of (M := tn_m28) rfl (by decide +kernel) rfl rfl
theorem kc_28_2 : am_code tn_G 28 2 = some (.invokevirtual 88, 3, 0) := am_code_of (M := tn_m28) rfl (by decide +kernel) rfl rfl
theorem ka_28_88 : am_cal tn_G 28 88 = some (0, 29, 1) := by decide +kernel
theorem kc_28_5 : am_code tn_G 28 5 = some (.istore_n 2, 1, 0) := am_code_of (M := tn_m28) rfl (by decide +kernel) rfl rfl
theorem kc_28_6 : am_code tn_G 28 6 = some (.iconst 0, 1, 0) := am_code_of (M := tn_m28) rfl (by decide +kernel) rfl rfl
theorem kc_28_7 : am_code tn_G 28 7 = some (.istore_n 3, 1, 0) := am_code_of (M := tn_m28) rfl (by decide +kernel) rfl rfl
theorem kc_28_8 : am_code tn_G 28 8 = some (.iload_n 3, 1, 0) := am_code_of (M := tn_m28) rfl (by decide +kernel) rfl rfl
theorem kc_28_9 : am_code tn_G 28 9 = some (.sipush 1600, 3, 0) := am_code_of (M := tn_m28) rfl (by decide +kernel) rfl rfl
theorem kc_28_12 : am_code tn_G 28 12 = some (.if_icmp .ge 36, 3, 48) := am_code_of (M := tn_m28) rfl (by decide +kernel) rfl (by decide +kernel)
theorem kc_28_15 : am_code tn_G 28 15 = some (.iload_n 2, 1, 0) := am_code_of (M := tn_m28) rfl (by decide +kernel) rfl rfl
theorem kc_28_16 : am_code tn_G 28 16 = some (.ifCond .eq 32, 3, 48) := am_code_of (M := tn_m28) rfl (by decide +kernel) rfl (by decide +kernel)
theorem kc_28_19 : am_code tn_G 28 19 = some (.aload_n 0, 1, 0) := am_code_of (M := tn_m28) rfl (by decide +kernel) rfl rfl
theorem kc_28_20 : am_code tn_G 28 20 = some (.getfield 27, 3, 0) := am_code_of (M := tn_m28) rfl (by decide +kernel) rfl rfl
theorem kf_28_27 : am_fld tn_G 28 27 = some (3, 6) := by decide +kernel
theorem kc_28_23 : am_code tn_G 28 23 = some (.ifCond .le 25, 3, 48) := am_code_of (M := tn_m28) rfl (by decide +kernel) rfl (by decide +kernel)
theorem kc_28_26 : am_code tn_G 28 26 = some (.aload_n 0, 1, 0) := am_code_of (M := tn_m28) rfl (by decide +kernel) rfl rfl
theorem kc_28_27 : am_code tn_G 28 27 = some (.aload_n 0, 1, 0) := am_code_of (M := tn_m28) rfl (by decide +kernel) rfl rfl
theorem kc_28_28 : am_code tn_G 28 28 = some (.getfield 18, 3, 0) := am_code_of (M := tn_m28) rfl (by decide +kernel) rfl rfl
theorem kf_28_18 : am_fld tn_G 28 18 = some (3, 3) := by decide +kernel
theorem kc_28_31 : am_code tn_G 28 31 = some (.aload_n 0, 1, 0) := am_code_of (M := tn_m28) rfl (by decide +kernel) rfl rfl
theorem kc_28_32 : am_code tn_G 28 32 = some (.getfield 27, 3, 0) := am_code_of (M := tn_m28) rfl (by decide +kernel) rfl rfl
theorem kc_28_35 : am_code tn_G 28 35 = some (.iconst 1, 1, 0) := am_code_of (M := tn_m28) rfl (by decide +kernel) rfl rfl
theorem kc_28_36 : am_code tn_G 28 36 = some (.isub, 1, 0) := am_code_of (M := tn_m28) rfl (by decide +kernel) rfl rfl
theorem kc_28_37 : am_code tn_G 28 37 = some (.iaload, 1, 0) := am_code_of (M := tn_m28) rfl (by decide +kernel) rfl rfl
theorem kc_28_38 : am_code tn_G 28 38 = some (.invokevirtual 91, 3, 0) := am_code_of (M := tn_m28) rfl (by decide +kernel) rfl rfl
theorem ka_28_91 : am_cal tn_G 28 91 = some (0, 30, 1) := by decide +kernel
theorem kc_28_41 : am_code tn_G 28 41 = some (.istore_n 2, 1, 0) := am_code_of (M := tn_m28) rfl (by decide +kernel) rfl rfl
theorem kc_28_42 : am_code tn_G 28 42 = some (.iinc 3 1, 3, 0) := am_code_of (M := tn_m28) rfl (by decide +kernel) rfl rfl
theorem kc_28_45 : am_code tn_G 28 45 = some (.goto (-37), 3, 8) := am_code_of (M := tn_m28) rfl (by decide +kernel) rfl (by decide +kernel)
theorem kc_28_48 : am_code tn_G 28 48 = some (.iload_n 2, 1, 0) := am_code_of (M := tn_m28) rfl (by decide +kernel) rfl rfl
theorem kc_28_49 : am_code tn_G 28 49 = some (.ireturn, 1, 0) := am_code_of (M := tn_m28) rfl (by decide +kernel) rfl rfl
-- 29: TermNet$Walk.enter(I)Z
theorem kl_29 : am_ml tn_G 29 = 2 := rfl
theorem ko_29 : am_oc tn_G 29 = 3 := rfl
theorem kn_29 : am_nc tn_G 29 = 0 := rfl
theorem kr_29 : am_rt tn_G 29 = 2 := rfl
theorem kc_29_0 : am_code tn_G 29 0 = some (.aload_n 0, 1, 0) := am_code_of (M := tn_m29) rfl (by decide +kernel) rfl rfl
theorem kc_29_1 : am_code tn_G 29 1 = some (.getfield 9, 3, 0) := am_code_of (M := tn_m29) rfl (by decide +kernel) rfl rfl
theorem kf_29_9 : am_fld tn_G 29 9 = some (3, 1) := by decide +kernel
theorem kc_29_4 : am_code tn_G 29 4 = some (.iload_n 1, 1, 0) := am_code_of (M := tn_m29) rfl (by decide +kernel) rfl rfl
theorem kc_29_5 : am_code tn_G 29 5 = some (.iaload, 1, 0) := am_code_of (M := tn_m29) rfl (by decide +kernel) rfl rfl
theorem kc_29_6 : am_code tn_G 29 6 = some (.ifCond .ne 40, 3, 46) := am_code_of (M := tn_m29) rfl (by decide +kernel) rfl (by decide +kernel)
theorem kc_29_9 : am_code tn_G 29 9 = some (.aload_n 0, 1, 0) := am_code_of (M := tn_m29) rfl (by decide +kernel) rfl rfl
theorem kc_29_10 : am_code tn_G 29 10 = some (.getfield 9, 3, 0) := am_code_of (M := tn_m29) rfl (by decide +kernel) rfl rfl
theorem kc_29_13 : am_code tn_G 29 13 = some (.iload_n 1, 1, 0) := am_code_of (M := tn_m29) rfl (by decide +kernel) rfl rfl
theorem kc_29_14 : am_code tn_G 29 14 = some (.iconst 1, 1, 0) := am_code_of (M := tn_m29) rfl (by decide +kernel) rfl rfl
theorem kc_29_15 : am_code tn_G 29 15 = some (.iastore, 1, 0) := am_code_of (M := tn_m29) rfl (by decide +kernel) rfl rfl
theorem kc_29_16 : am_code tn_G 29 16 = some (.aload_n 0, 1, 0) := am_code_of (M := tn_m29) rfl (by decide +kernel) rfl rfl
theorem kc_29_17 : am_code tn_G 29 17 = some (.getfield 15, 3, 0) := am_code_of (M := tn_m29) rfl (by decide +kernel) rfl rfl
theorem kf_29_15 : am_fld tn_G 29 15 = some (3, 2) := by decide +kernel
theorem kc_29_20 : am_code tn_G 29 20 = some (.iload_n 1, 1, 0) := am_code_of (M := tn_m29) rfl (by decide +kernel) rfl rfl
theorem kc_29_21 : am_code tn_G 29 21 = some (.iconst 0, 1, 0) := am_code_of (M := tn_m29) rfl (by decide +kernel) rfl rfl
theorem kc_29_22 : am_code tn_G 29 22 = some (.iastore, 1, 0) := am_code_of (M := tn_m29) rfl (by decide +kernel) rfl rfl
theorem kc_29_23 : am_code tn_G 29 23 = some (.aload_n 0, 1, 0) := am_code_of (M := tn_m29) rfl (by decide +kernel) rfl rfl
theorem kc_29_24 : am_code tn_G 29 24 = some (.getfield 18, 3, 0) := am_code_of (M := tn_m29) rfl (by decide +kernel) rfl rfl
theorem kf_29_18 : am_fld tn_G 29 18 = some (3, 3) := by decide +kernel
theorem kc_29_27 : am_code tn_G 29 27 = some (.aload_n 0, 1, 0) := am_code_of (M := tn_m29) rfl (by decide +kernel) rfl rfl
theorem kc_29_28 : am_code tn_G 29 28 = some (.getfield 27, 3, 0) := am_code_of (M := tn_m29) rfl (by decide +kernel) rfl rfl
theorem kf_29_27 : am_fld tn_G 29 27 = some (3, 6) := by decide +kernel
theorem kc_29_31 : am_code tn_G 29 31 = some (.iload_n 1, 1, 0) := am_code_of (M := tn_m29) rfl (by decide +kernel) rfl rfl
theorem kc_29_32 : am_code tn_G 29 32 = some (.iastore, 1, 0) := am_code_of (M := tn_m29) rfl (by decide +kernel) rfl rfl
theorem kc_29_33 : am_code tn_G 29 33 = some (.aload_n 0, 1, 0) := am_code_of (M := tn_m29) rfl (by decide +kernel) rfl rfl
theorem kc_29_34 : am_code tn_G 29 34 = some (.dup, 1, 0) := am_code_of (M := tn_m29) rfl (by decide +kernel) rfl rfl
theorem kc_29_35 : am_code tn_G 29 35 = some (.getfield 27, 3, 0) := am_code_of (M := tn_m29) rfl (by decide +kernel) rfl rfl
theorem kc_29_38 : am_code tn_G 29 38 = some (.iconst 1, 1, 0) := am_code_of (M := tn_m29) rfl (by decide +kernel) rfl rfl
theorem kc_29_39 : am_code tn_G 29 39 = some (.iadd, 1, 0) := am_code_of (M := tn_m29) rfl (by decide +kernel) rfl rfl
theorem kc_29_40 : am_code tn_G 29 40 = some (.putfield 27, 3, 0) := am_code_of (M := tn_m29) rfl (by decide +kernel) rfl rfl
theorem kc_29_43 : am_code tn_G 29 43 = some (.goto 15, 3, 58) := am_code_of (M := tn_m29) rfl (by decide +kernel) rfl (by decide +kernel)
theorem kc_29_46 : am_code tn_G 29 46 = some (.aload_n 0, 1, 0) := am_code_of (M := tn_m29) rfl (by decide +kernel) rfl rfl
theorem kc_29_47 : am_code tn_G 29 47 = some (.getfield 9, 3, 0) := am_code_of (M := tn_m29) rfl (by decide +kernel) rfl rfl
theorem kc_29_50 : am_code tn_G 29 50 = some (.iload_n 1, 1, 0) := am_code_of (M := tn_m29) rfl (by decide +kernel) rfl rfl
theorem kc_29_51 : am_code tn_G 29 51 = some (.iaload, 1, 0) := am_code_of (M := tn_m29) rfl (by decide +kernel) rfl rfl
theorem kc_29_52 : am_code tn_G 29 52 = some (.iconst 1, 1, 0) := am_code_of (M := tn_m29) rfl (by decide +kernel) rfl rfl
theorem kc_29_53 : am_code tn_G 29 53 = some (.if_icmp .ne 5, 3, 58) := am_code_of (M := tn_m29) rfl (by decide +kernel) rfl (by decide +kernel)
theorem kc_29_56 : am_code tn_G 29 56 = some (.iconst 0, 1, 0) := am_code_of (M := tn_m29) rfl (by decide +kernel) rfl rfl
theorem kc_29_57 : am_code tn_G 29 57 = some (.ireturn, 1, 0) := am_code_of (M := tn_m29) rfl (by decide +kernel) rfl rfl
theorem kc_29_58 : am_code tn_G 29 58 = some (.iconst 1, 1, 0) := am_code_of (M := tn_m29) rfl (by decide +kernel) rfl rfl
theorem kc_29_59 : am_code tn_G 29 59 = some (.ireturn, 1, 0) := am_code_of (M := tn_m29) rfl (by decide +kernel) rfl rfl
-- 30: TermNet$Walk.goOn(I)Z
theorem kl_30 : am_ml tn_G 30 = 2 := rfl
theorem ko_30 : am_oc tn_G 30 = 3 := rfl
theorem kn_30 : am_nc tn_G 30 = 0 := rfl
theorem kr_30 : am_rt tn_G 30 = 2 := rfl
theorem kc_30_0 : am_code tn_G 30 0 = some (.aload_n 0, 1, 0) := am_code_of (M := tn_m30) rfl (by decide +kernel) rfl rfl
theorem kc_30_1 : am_code tn_G 30 1 = some (.getfield 15, 3, 0) := am_code_of (M := tn_m30) rfl (by decide +kernel) rfl rfl
theorem kf_30_15 : am_fld tn_G 30 15 = some (3, 2) := by decide +kernel
theorem kc_30_4 : am_code tn_G 30 4 = some (.iload_n 1, 1, 0) := am_code_of (M := tn_m30) rfl (by decide +kernel) rfl rfl
theorem kc_30_5 : am_code tn_G 30 5 = some (.iaload, 1, 0) := am_code_of (M := tn_m30) rfl (by decide +kernel) rfl rfl
theorem kc_30_6 : am_code tn_G 30 6 = some (.aload_n 0, 1, 0) := am_code_of (M := tn_m30) rfl (by decide +kernel) rfl rfl
theorem kc_30_7 : am_code tn_G 30 7 = some (.getfield 34, 3, 0) := am_code_of (M := tn_m30) rfl (by decide +kernel) rfl rfl
theorem kf_30_34 : am_fld tn_G 30 34 = some (3, 0) := by decide +kernel
theorem kc_30_10 : am_code tn_G 30 10 = some (.iload_n 1, 1, 0) := am_code_of (M := tn_m30) rfl (by decide +kernel) rfl rfl
theorem kc_30_11 : am_code tn_G 30 11 = some (.invokevirtual 58, 3, 0) := am_code_of (M := tn_m30) rfl (by decide +kernel) rfl rfl
theorem ka_30_58 : am_cal tn_G 30 58 = some (0, 11, 1) := by decide +kernel
theorem kc_30_14 : am_code tn_G 30 14 = some (.if_icmp .ge 34, 3, 48) := am_code_of (M := tn_m30) rfl (by decide +kernel) rfl (by decide +kernel)
theorem kc_30_17 : am_code tn_G 30 17 = some (.aload_n 0, 1, 0) := am_code_of (M := tn_m30) rfl (by decide +kernel) rfl rfl
theorem kc_30_18 : am_code tn_G 30 18 = some (.getfield 15, 3, 0) := am_code_of (M := tn_m30) rfl (by decide +kernel) rfl rfl
theorem kc_30_21 : am_code tn_G 30 21 = some (.iload_n 1, 1, 0) := am_code_of (M := tn_m30) rfl (by decide +kernel) rfl rfl
theorem kc_30_22 : am_code tn_G 30 22 = some (.dup2, 1, 0) := am_code_of (M := tn_m30) rfl (by decide +kernel) rfl rfl
theorem kc_30_23 : am_code tn_G 30 23 = some (.iaload, 1, 0) := am_code_of (M := tn_m30) rfl (by decide +kernel) rfl rfl
theorem kc_30_24 : am_code tn_G 30 24 = some (.iconst 1, 1, 0) := am_code_of (M := tn_m30) rfl (by decide +kernel) rfl rfl
theorem kc_30_25 : am_code tn_G 30 25 = some (.iadd, 1, 0) := am_code_of (M := tn_m30) rfl (by decide +kernel) rfl rfl
theorem kc_30_26 : am_code tn_G 30 26 = some (.iastore, 1, 0) := am_code_of (M := tn_m30) rfl (by decide +kernel) rfl rfl
theorem kc_30_27 : am_code tn_G 30 27 = some (.aload_n 0, 1, 0) := am_code_of (M := tn_m30) rfl (by decide +kernel) rfl rfl
theorem kc_30_28 : am_code tn_G 30 28 = some (.aload_n 0, 1, 0) := am_code_of (M := tn_m30) rfl (by decide +kernel) rfl rfl
theorem kc_30_29 : am_code tn_G 30 29 = some (.getfield 34, 3, 0) := am_code_of (M := tn_m30) rfl (by decide +kernel) rfl rfl
theorem kc_30_32 : am_code tn_G 30 32 = some (.iload_n 1, 1, 0) := am_code_of (M := tn_m30) rfl (by decide +kernel) rfl rfl
theorem kc_30_33 : am_code tn_G 30 33 = some (.aload_n 0, 1, 0) := am_code_of (M := tn_m30) rfl (by decide +kernel) rfl rfl
theorem kc_30_34 : am_code tn_G 30 34 = some (.getfield 15, 3, 0) := am_code_of (M := tn_m30) rfl (by decide +kernel) rfl rfl
theorem kc_30_37 : am_code tn_G 30 37 = some (.iload_n 1, 1, 0) := am_code_of (M := tn_m30) rfl (by decide +kernel) rfl rfl
theorem kc_30_38 : am_code tn_G 30 38 = some (.iaload, 1, 0) := am_code_of (M := tn_m30) rfl (by decide +kernel) rfl rfl
theorem kc_30_39 : am_code tn_G 30 39 = some (.iconst 1, 1, 0) := am_code_of (M := tn_m30) rfl (by decide +kernel) rfl rfl
theorem kc_30_40 : am_code tn_G 30 40 = some (.isub, 1, 0) := am_code_of (M := tn_m30) rfl (by decide +kernel) rfl rfl
theorem kc_30_41 : am_code tn_G 30 41 = some (.invokevirtual 61, 3, 0) := am_code_of (M := tn_m30) rfl (by decide +kernel) rfl rfl
theorem ka_30_61 : am_cal tn_G 30 61 = some (0, 12, 2) := by decide +kernel
theorem kc_30_44 : am_code tn_G 30 44 = some (.invokevirtual 88, 3, 0) := am_code_of (M := tn_m30) rfl (by decide +kernel) rfl rfl
theorem ka_30_88 : am_cal tn_G 30 88 = some (0, 29, 1) := by decide +kernel
theorem kc_30_47 : am_code tn_G 30 47 = some (.ireturn, 1, 0) := am_code_of (M := tn_m30) rfl (by decide +kernel) rfl rfl
theorem kc_30_48 : am_code tn_G 30 48 = some (.aload_n 0, 1, 0) := am_code_of (M := tn_m30) rfl (by decide +kernel) rfl rfl
theorem kc_30_49 : am_code tn_G 30 49 = some (.getfield 9, 3, 0) := am_code_of (M := tn_m30) rfl (by decide +kernel) rfl rfl
theorem kf_30_9 : am_fld tn_G 30 9 = some (3, 1) := by decide +kernel
theorem kc_30_52 : am_code tn_G 30 52 = some (.iload_n 1, 1, 0) := am_code_of (M := tn_m30) rfl (by decide +kernel) rfl rfl
theorem kc_30_53 : am_code tn_G 30 53 = some (.iconst 2, 1, 0) := am_code_of (M := tn_m30) rfl (by decide +kernel) rfl rfl
theorem kc_30_54 : am_code tn_G 30 54 = some (.iastore, 1, 0) := am_code_of (M := tn_m30) rfl (by decide +kernel) rfl rfl
theorem kc_30_55 : am_code tn_G 30 55 = some (.aload_n 0, 1, 0) := am_code_of (M := tn_m30) rfl (by decide +kernel) rfl rfl
theorem kc_30_56 : am_code tn_G 30 56 = some (.getfield 21, 3, 0) := am_code_of (M := tn_m30) rfl (by decide +kernel) rfl rfl
theorem kf_30_21 : am_fld tn_G 30 21 = some (3, 4) := by decide +kernel
theorem kc_30_59 : am_code tn_G 30 59 = some (.aload_n 0, 1, 0) := am_code_of (M := tn_m30) rfl (by decide +kernel) rfl rfl
theorem kc_30_60 : am_code tn_G 30 60 = some (.getfield 31, 3, 0) := am_code_of (M := tn_m30) rfl (by decide +kernel) rfl rfl
theorem kf_30_31 : am_fld tn_G 30 31 = some (3, 7) := by decide +kernel
theorem kc_30_63 : am_code tn_G 30 63 = some (.iload_n 1, 1, 0) := am_code_of (M := tn_m30) rfl (by decide +kernel) rfl rfl
theorem kc_30_64 : am_code tn_G 30 64 = some (.iastore, 1, 0) := am_code_of (M := tn_m30) rfl (by decide +kernel) rfl rfl
theorem kc_30_65 : am_code tn_G 30 65 = some (.aload_n 0, 1, 0) := am_code_of (M := tn_m30) rfl (by decide +kernel) rfl rfl
theorem kc_30_66 : am_code tn_G 30 66 = some (.dup, 1, 0) := am_code_of (M := tn_m30) rfl (by decide +kernel) rfl rfl
theorem kc_30_67 : am_code tn_G 30 67 = some (.getfield 31, 3, 0) := am_code_of (M := tn_m30) rfl (by decide +kernel) rfl rfl
theorem kc_30_70 : am_code tn_G 30 70 = some (.iconst 1, 1, 0) := am_code_of (M := tn_m30) rfl (by decide +kernel) rfl rfl
theorem kc_30_71 : am_code tn_G 30 71 = some (.iadd, 1, 0) := am_code_of (M := tn_m30) rfl (by decide +kernel) rfl rfl
theorem kc_30_72 : am_code tn_G 30 72 = some (.putfield 31, 3, 0) := am_code_of (M := tn_m30) rfl (by decide +kernel) rfl rfl
theorem kc_30_75 : am_code tn_G 30 75 = some (.aload_n 0, 1, 0) := am_code_of (M := tn_m30) rfl (by decide +kernel) rfl rfl
theorem kc_30_76 : am_code tn_G 30 76 = some (.dup, 1, 0) := am_code_of (M := tn_m30) rfl (by decide +kernel) rfl rfl
theorem kc_30_77 : am_code tn_G 30 77 = some (.getfield 27, 3, 0) := am_code_of (M := tn_m30) rfl (by decide +kernel) rfl rfl
theorem kf_30_27 : am_fld tn_G 30 27 = some (3, 6) := by decide +kernel
theorem kc_30_80 : am_code tn_G 30 80 = some (.iconst 1, 1, 0) := am_code_of (M := tn_m30) rfl (by decide +kernel) rfl rfl
theorem kc_30_81 : am_code tn_G 30 81 = some (.isub, 1, 0) := am_code_of (M := tn_m30) rfl (by decide +kernel) rfl rfl
theorem kc_30_82 : am_code tn_G 30 82 = some (.putfield 27, 3, 0) := am_code_of (M := tn_m30) rfl (by decide +kernel) rfl rfl
theorem kc_30_85 : am_code tn_G 30 85 = some (.iconst 1, 1, 0) := am_code_of (M := tn_m30) rfl (by decide +kernel) rfl rfl
theorem kc_30_86 : am_code tn_G 30 86 = some (.ireturn, 1, 0) := am_code_of (M := tn_m30) rfl (by decide +kernel) rfl rfl
-- 31: TermNet$Walk.sizeBelow(I)I
theorem kl_31 : am_ml tn_G 31 = 3 := rfl
theorem ko_31 : am_oc tn_G 31 = 3 := rfl
theorem kn_31 : am_nc tn_G 31 = 0 := rfl
theorem kr_31 : am_rt tn_G 31 = 1 := rfl
theorem kc_31_0 : am_code tn_G 31 0 = some (.aload_n 0, 1, 0) := am_code_of (M := tn_m31) rfl (by decide +kernel) rfl rfl
theorem kc_31_1 : am_code tn_G 31 1 = some (.iload_n 1, 1, 0) := am_code_of (M := tn_m31) rfl (by decide +kernel) rfl rfl
theorem kc_31_2 : am_code tn_G 31 2 = some (.invokevirtual 51, 3, 0) := am_code_of (M := tn_m31) rfl (by decide +kernel) rfl rfl
theorem ka_31_51 : am_cal tn_G 31 51 = some (0, 32, 1) := by decide +kernel
theorem kc_31_5 : am_code tn_G 31 5 = some (.iconst 0, 1, 0) := am_code_of (M := tn_m31) rfl (by decide +kernel) rfl rfl
theorem kc_31_6 : am_code tn_G 31 6 = some (.istore_n 2, 1, 0) := am_code_of (M := tn_m31) rfl (by decide +kernel) rfl rfl
theorem kc_31_7 : am_code tn_G 31 7 = some (.iload_n 2, 1, 0) := am_code_of (M := tn_m31) rfl (by decide +kernel) rfl rfl
theorem kc_31_8 : am_code tn_G 31 8 = some (.aload_n 0, 1, 0) := am_code_of (M := tn_m31) rfl (by decide +kernel) rfl rfl
theorem kc_31_9 : am_code tn_G 31 9 = some (.getfield 31, 3, 0) := am_code_of (M := tn_m31) rfl (by decide +kernel) rfl rfl
theorem kf_31_31 : am_fld tn_G 31 31 = some (3, 7) := by decide +kernel
theorem kc_31_12 : am_code tn_G 31 12 = some (.if_icmp .ge 30, 3, 42) := am_code_of (M := tn_m31) rfl (by decide +kernel) rfl (by decide +kernel)
theorem kc_31_15 : am_code tn_G 31 15 = some (.aload_n 0, 1, 0) := am_code_of (M := tn_m31) rfl (by decide +kernel) rfl rfl
theorem kc_31_16 : am_code tn_G 31 16 = some (.getfield 24, 3, 0) := am_code_of (M := tn_m31) rfl (by decide +kernel) rfl rfl
theorem kf_31_24 : am_fld tn_G 31 24 = some (3, 5) := by decide +kernel
theorem kc_31_19 : am_code tn_G 31 19 = some (.aload_n 0, 1, 0) := am_code_of (M := tn_m31) rfl (by decide +kernel) rfl rfl
theorem kc_31_20 : am_code tn_G 31 20 = some (.getfield 21, 3, 0) := am_code_of (M := tn_m31) rfl (by decide +kernel) rfl rfl
theorem kf_31_21 : am_fld tn_G 31 21 = some (3, 4) := by decide +kernel
theorem kc_31_23 : am_code tn_G 31 23 = some (.iload_n 2, 1, 0) := am_code_of (M := tn_m31) rfl (by decide +kernel) rfl rfl
theorem kc_31_24 : am_code tn_G 31 24 = some (.iaload, 1, 0) := am_code_of (M := tn_m31) rfl (by decide +kernel) rfl rfl
theorem kc_31_25 : am_code tn_G 31 25 = some (.aload_n 0, 1, 0) := am_code_of (M := tn_m31) rfl (by decide +kernel) rfl rfl
theorem kc_31_26 : am_code tn_G 31 26 = some (.aload_n 0, 1, 0) := am_code_of (M := tn_m31) rfl (by decide +kernel) rfl rfl
theorem kc_31_27 : am_code tn_G 31 27 = some (.getfield 21, 3, 0) := am_code_of (M := tn_m31) rfl (by decide +kernel) rfl rfl
theorem kc_31_30 : am_code tn_G 31 30 = some (.iload_n 2, 1, 0) := am_code_of (M := tn_m31) rfl (by decide +kernel) rfl rfl
theorem kc_31_31 : am_code tn_G 31 31 = some (.iaload, 1, 0) := am_code_of (M := tn_m31) rfl (by decide +kernel) rfl rfl
theorem kc_31_32 : am_code tn_G 31 32 = some (.invokevirtual 55, 3, 0) := am_code_of (M := tn_m31) rfl (by decide +kernel) rfl rfl
theorem ka_31_55 : am_cal tn_G 31 55 = some (0, 33, 1) := by decide +kernel
theorem kc_31_35 : am_code tn_G 31 35 = some (.iastore, 1, 0) := am_code_of (M := tn_m31) rfl (by decide +kernel) rfl rfl
theorem kc_31_36 : am_code tn_G 31 36 = some (.iinc 2 1, 3, 0) := am_code_of (M := tn_m31) rfl (by decide +kernel) rfl rfl
theorem kc_31_39 : am_code tn_G 31 39 = some (.goto (-32), 3, 7) := am_code_of (M := tn_m31) rfl (by decide +kernel) rfl (by decide +kernel)
theorem kc_31_42 : am_code tn_G 31 42 = some (.aload_n 0, 1, 0) := am_code_of (M := tn_m31) rfl (by decide +kernel) rfl rfl
theorem kc_31_43 : am_code tn_G 31 43 = some (.getfield 24, 3, 0) := am_code_of (M := tn_m31) rfl (by decide +kernel) rfl rfl
theorem kc_31_46 : am_code tn_G 31 46 = some (.aload_n 0, 1, 0) := am_code_of (M := tn_m31) rfl (by decide +kernel) rfl rfl
theorem kc_31_47 : am_code tn_G 31 47 = some (.getfield 34, 3, 0) := am_code_of (M := tn_m31) rfl (by decide +kernel) rfl rfl
theorem kf_31_34 : am_fld tn_G 31 34 = some (3, 0) := by decide +kernel
theorem kc_31_50 : am_code tn_G 31 50 = some (.iload_n 1, 1, 0) := am_code_of (M := tn_m31) rfl (by decide +kernel) rfl rfl
theorem kc_31_51 : am_code tn_G 31 51 = some (.invokevirtual 41, 3, 0) := am_code_of (M := tn_m31) rfl (by decide +kernel) rfl rfl
theorem ka_31_41 : am_cal tn_G 31 41 = some (0, 10, 1) := by decide +kernel
theorem kc_31_54 : am_code tn_G 31 54 = some (.iaload, 1, 0) := am_code_of (M := tn_m31) rfl (by decide +kernel) rfl rfl
theorem kc_31_55 : am_code tn_G 31 55 = some (.ireturn, 1, 0) := am_code_of (M := tn_m31) rfl (by decide +kernel) rfl rfl
-- 32: TermNet$Walk.overTree(I)V
theorem kl_32 : am_ml tn_G 32 = 2 := rfl
theorem ko_32 : am_oc tn_G 32 = 3 := rfl
theorem kn_32 : am_nc tn_G 32 = 0 := rfl
theorem kr_32 : am_rt tn_G 32 = 0 := rfl
theorem kc_32_0 : am_code tn_G 32 0 = some (.aload_n 0, 1, 0) := am_code_of (M := tn_m32) rfl (by decide +kernel) rfl rfl
theorem kc_32_1 : am_code tn_G 32 1 = some (.invokevirtual 38, 3, 0) := am_code_of (M := tn_m32) rfl (by decide +kernel) rfl rfl
theorem ka_32_38 : am_cal tn_G 32 38 = some (0, 27, 0) := by decide +kernel
theorem kc_32_4 : am_code tn_G 32 4 = some (.aload_n 0, 1, 0) := am_code_of (M := tn_m32) rfl (by decide +kernel) rfl rfl
theorem kc_32_5 : am_code tn_G 32 5 = some (.aload_n 0, 1, 0) := am_code_of (M := tn_m32) rfl (by decide +kernel) rfl rfl
theorem kc_32_6 : am_code tn_G 32 6 = some (.getfield 34, 3, 0) := am_code_of (M := tn_m32) rfl (by decide +kernel) rfl rfl
theorem kf_32_34 : am_fld tn_G 32 34 = some (3, 0) := by decide +kernel
theorem kc_32_9 : am_code tn_G 32 9 = some (.iload_n 1, 1, 0) := am_code_of (M := tn_m32) rfl (by decide +kernel) rfl rfl
theorem kc_32_10 : am_code tn_G 32 10 = some (.invokevirtual 41, 3, 0) := am_code_of (M := tn_m32) rfl (by decide +kernel) rfl rfl
theorem ka_32_41 : am_cal tn_G 32 41 = some (0, 10, 1) := by decide +kernel
theorem kc_32_13 : am_code tn_G 32 13 = some (.invokevirtual 47, 3, 0) := am_code_of (M := tn_m32) rfl (by decide +kernel) rfl rfl
theorem ka_32_47 : am_cal tn_G 32 47 = some (0, 28, 1) := by decide +kernel
theorem kc_32_16 : am_code tn_G 32 16 = some (.pop, 1, 0) := am_code_of (M := tn_m32) rfl (by decide +kernel) rfl rfl
theorem kc_32_17 : am_code tn_G 32 17 = some (.return_, 1, 0) := am_code_of (M := tn_m32) rfl (by decide +kernel) rfl rfl
-- 33: TermNet$Walk.sizeOver(I)I
theorem kl_33 : am_ml tn_G 33 = 5 := rfl
theorem ko_33 : am_oc tn_G 33 = 3 := rfl
theorem kn_33 : am_nc tn_G 33 = 0 := rfl
theorem kr_33 : am_rt tn_G 33 = 1 := rfl
theorem kc_33_0 : am_code tn_G 33 0 = some (.lconst 1, 1, 0) := am_code_of (M := tn_m33) rfl (by decide +kernel) rfl rfl
theorem kc_33_1 : am_code tn_G 33 1 = some (.lstore_n 2, 1, 0) := am_code_of (M := tn_m33) rfl (by decide +kernel) rfl rfl
theorem kc_33_2 : am_code tn_G 33 2 = some (.iconst 0, 1, 0) := am_code_of (M := tn_m33) rfl (by decide +kernel) rfl rfl
theorem kc_33_3 : am_code tn_G 33 3 = some (.istore 4, 2, 0) := am_code_of (M := tn_m33) rfl (by decide +kernel) rfl rfl
theorem kc_33_5 : am_code tn_G 33 5 = some (.iload 4, 2, 0) := am_code_of (M := tn_m33) rfl (by decide +kernel) rfl rfl
theorem kc_33_7 : am_code tn_G 33 7 = some (.aload_n 0, 1, 0) := am_code_of (M := tn_m33) rfl (by decide +kernel) rfl rfl
theorem kc_33_8 : am_code tn_G 33 8 = some (.getfield 34, 3, 0) := am_code_of (M := tn_m33) rfl (by decide +kernel) rfl rfl
theorem kf_33_34 : am_fld tn_G 33 34 = some (3, 0) := by decide +kernel
theorem kc_33_11 : am_code tn_G 33 11 = some (.iload_n 1, 1, 0) := am_code_of (M := tn_m33) rfl (by decide +kernel) rfl rfl
theorem kc_33_12 : am_code tn_G 33 12 = some (.invokevirtual 58, 3, 0) := am_code_of (M := tn_m33) rfl (by decide +kernel) rfl rfl
theorem ka_33_58 : am_cal tn_G 33 58 = some (0, 11, 1) := by decide +kernel
theorem kc_33_15 : am_code tn_G 33 15 = some (.if_icmp .ge 28, 3, 43) := am_code_of (M := tn_m33) rfl (by decide +kernel) rfl (by decide +kernel)
theorem kc_33_18 : am_code tn_G 33 18 = some (.lload_n 2, 1, 0) := am_code_of (M := tn_m33) rfl (by decide +kernel) rfl rfl
theorem kc_33_19 : am_code tn_G 33 19 = some (.aload_n 0, 1, 0) := am_code_of (M := tn_m33) rfl (by decide +kernel) rfl rfl
theorem kc_33_20 : am_code tn_G 33 20 = some (.getfield 24, 3, 0) := am_code_of (M := tn_m33) rfl (by decide +kernel) rfl rfl
theorem kf_33_24 : am_fld tn_G 33 24 = some (3, 5) := by decide +kernel
theorem kc_33_23 : am_code tn_G 33 23 = some (.aload_n 0, 1, 0) := am_code_of (M := tn_m33) rfl (by decide +kernel) rfl rfl
theorem kc_33_24 : am_code tn_G 33 24 = some (.getfield 34, 3, 0) := am_code_of (M := tn_m33) rfl (by decide +kernel) rfl rfl
theorem kc_33_27 : am_code tn_G 33 27 = some (.iload_n 1, 1, 0) := am_code_of (M := tn_m33) rfl (by decide +kernel) rfl rfl
theorem kc_33_28 : am_code tn_G 33 28 = some (.iload 4, 2, 0) := am_code_of (M := tn_m33) rfl (by decide +kernel) rfl rfl
theorem kc_33_30 : am_code tn_G 33 30 = some (.invokevirtual 61, 3, 0) := am_code_of (M := tn_m33) rfl (by decide +kernel) rfl rfl
theorem ka_33_61 : am_cal tn_G 33 61 = some (0, 12, 2) := by decide +kernel
theorem kc_33_33 : am_code tn_G 33 33 = some (.iaload, 1, 0) := am_code_of (M := tn_m33) rfl (by decide +kernel) rfl rfl
theorem kc_33_34 : am_code tn_G 33 34 = some (.i2l, 1, 0) := am_code_of (M := tn_m33) rfl (by decide +kernel) rfl rfl
theorem kc_33_35 : am_code tn_G 33 35 = some (.ladd, 1, 0) := am_code_of (M := tn_m33) rfl (by decide +kernel) rfl rfl
theorem kc_33_36 : am_code tn_G 33 36 = some (.lstore_n 2, 1, 0) := am_code_of (M := tn_m33) rfl (by decide +kernel) rfl rfl
theorem kc_33_37 : am_code tn_G 33 37 = some (.iinc 4 1, 3, 0) := am_code_of (M := tn_m33) rfl (by decide +kernel) rfl rfl
theorem kc_33_40 : am_code tn_G 33 40 = some (.goto (-35), 3, 5) := am_code_of (M := tn_m33) rfl (by decide +kernel) rfl (by decide +kernel)
theorem kc_33_43 : am_code tn_G 33 43 = some (.lload_n 2, 1, 0) := am_code_of (M := tn_m33) rfl (by decide +kernel) rfl rfl
theorem kc_33_44 : am_code tn_G 33 44 = some (.ldc2_w 65, 3, 0) := am_code_of (M := tn_m33) rfl (by decide +kernel) rfl rfl
theorem kL_33_65 : am_kl tn_G 33 65 = some 1000000000 := by decide +kernel
theorem kc_33_47 : am_code tn_G 33 47 = some (.invokestatic 67, 3, 0) := am_code_of (M := tn_m33) rfl (by decide +kernel) rfl rfl
theorem ka_33_67 : am_cal tn_G 33 67 = some (5, 0, 0) := by decide +kernel
theorem kc_33_50 : am_code tn_G 33 50 = some (.l2i, 1, 0) := am_code_of (M := tn_m33) rfl (by decide +kernel) rfl rfl
theorem kc_33_51 : am_code tn_G 33 51 = some (.ireturn, 1, 0) := am_code_of (M := tn_m33) rfl (by decide +kernel) rfl rfl
-- 34: TermNet$Walk.depthBelow(I)I
theorem kl_34 : am_ml tn_G 34 = 3 := rfl
theorem ko_34 : am_oc tn_G 34 = 3 := rfl
theorem kn_34 : am_nc tn_G 34 = 0 := rfl
theorem kr_34 : am_rt tn_G 34 = 1 := rfl
theorem kc_34_0 : am_code tn_G 34 0 = some (.aload_n 0, 1, 0) := am_code_of (M := tn_m34) rfl (by decide +kernel) rfl rfl
theorem kc_34_1 : am_code tn_G 34 1 = some (.iload_n 1, 1, 0) := am_code_of (M := tn_m34) rfl (by decide +kernel) rfl rfl
theorem kc_34_2 : am_code tn_G 34 2 = some (.invokevirtual 51, 3, 0) := am_code_of (M := tn_m34) rfl (by decide +kernel) rfl rfl
theorem ka_34_51 : am_cal tn_G 34 51 = some (0, 32, 1) := by decide +kernel
theorem kc_34_5 : am_code tn_G 34 5 = some (.iconst 0, 1, 0) := am_code_of (M := tn_m34) rfl (by decide +kernel) rfl rfl
theorem kc_34_6 : am_code tn_G 34 6 = some (.istore_n 2, 1, 0) := am_code_of (M := tn_m34) rfl (by decide +kernel) rfl rfl
theorem kc_34_7 : am_code tn_G 34 7 = some (.iload_n 2, 1, 0) := am_code_of (M := tn_m34) rfl (by decide +kernel) rfl rfl
theorem kc_34_8 : am_code tn_G 34 8 = some (.aload_n 0, 1, 0) := am_code_of (M := tn_m34) rfl (by decide +kernel) rfl rfl
theorem kc_34_9 : am_code tn_G 34 9 = some (.getfield 31, 3, 0) := am_code_of (M := tn_m34) rfl (by decide +kernel) rfl rfl
theorem kf_34_31 : am_fld tn_G 34 31 = some (3, 7) := by decide +kernel
theorem kc_34_12 : am_code tn_G 34 12 = some (.if_icmp .ge 30, 3, 42) := am_code_of (M := tn_m34) rfl (by decide +kernel) rfl (by decide +kernel)
theorem kc_34_15 : am_code tn_G 34 15 = some (.aload_n 0, 1, 0) := am_code_of (M := tn_m34) rfl (by decide +kernel) rfl rfl
theorem kc_34_16 : am_code tn_G 34 16 = some (.getfield 24, 3, 0) := am_code_of (M := tn_m34) rfl (by decide +kernel) rfl rfl
theorem kf_34_24 : am_fld tn_G 34 24 = some (3, 5) := by decide +kernel
theorem kc_34_19 : am_code tn_G 34 19 = some (.aload_n 0, 1, 0) := am_code_of (M := tn_m34) rfl (by decide +kernel) rfl rfl
theorem kc_34_20 : am_code tn_G 34 20 = some (.getfield 21, 3, 0) := am_code_of (M := tn_m34) rfl (by decide +kernel) rfl rfl
theorem kf_34_21 : am_fld tn_G 34 21 = some (3, 4) := by decide +kernel
theorem kc_34_23 : am_code tn_G 34 23 = some (.iload_n 2, 1, 0) := am_code_of (M := tn_m34) rfl (by decide +kernel) rfl rfl
theorem kc_34_24 : am_code tn_G 34 24 = some (.iaload, 1, 0) := am_code_of (M := tn_m34) rfl (by decide +kernel) rfl rfl
theorem kc_34_25 : am_code tn_G 34 25 = some (.aload_n 0, 1, 0) := am_code_of (M := tn_m34) rfl (by decide +kernel) rfl rfl
theorem kc_34_26 : am_code tn_G 34 26 = some (.aload_n 0, 1, 0) := am_code_of (M := tn_m34) rfl (by decide +kernel) rfl rfl
theorem kc_34_27 : am_code tn_G 34 27 = some (.getfield 21, 3, 0) := am_code_of (M := tn_m34) rfl (by decide +kernel) rfl rfl
theorem kc_34_30 : am_code tn_G 34 30 = some (.iload_n 2, 1, 0) := am_code_of (M := tn_m34) rfl (by decide +kernel) rfl rfl
theorem kc_34_31 : am_code tn_G 34 31 = some (.iaload, 1, 0) := am_code_of (M := tn_m34) rfl (by decide +kernel) rfl rfl
theorem kc_34_32 : am_code tn_G 34 32 = some (.invokevirtual 73, 3, 0) := am_code_of (M := tn_m34) rfl (by decide +kernel) rfl rfl
theorem ka_34_73 : am_cal tn_G 34 73 = some (0, 35, 1) := by decide +kernel
theorem kc_34_35 : am_code tn_G 34 35 = some (.iastore, 1, 0) := am_code_of (M := tn_m34) rfl (by decide +kernel) rfl rfl
theorem kc_34_36 : am_code tn_G 34 36 = some (.iinc 2 1, 3, 0) := am_code_of (M := tn_m34) rfl (by decide +kernel) rfl rfl
theorem kc_34_39 : am_code tn_G 34 39 = some (.goto (-32), 3, 7) := am_code_of (M := tn_m34) rfl (by decide +kernel) rfl (by decide +kernel)
theorem kc_34_42 : am_code tn_G 34 42 = some (.aload_n 0, 1, 0) := am_code_of (M := tn_m34) rfl (by decide +kernel) rfl rfl
theorem kc_34_43 : am_code tn_G 34 43 = some (.getfield 24, 3, 0) := am_code_of (M := tn_m34) rfl (by decide +kernel) rfl rfl
theorem kc_34_46 : am_code tn_G 34 46 = some (.aload_n 0, 1, 0) := am_code_of (M := tn_m34) rfl (by decide +kernel) rfl rfl
theorem kc_34_47 : am_code tn_G 34 47 = some (.getfield 34, 3, 0) := am_code_of (M := tn_m34) rfl (by decide +kernel) rfl rfl
theorem kf_34_34 : am_fld tn_G 34 34 = some (3, 0) := by decide +kernel
theorem kc_34_50 : am_code tn_G 34 50 = some (.iload_n 1, 1, 0) := am_code_of (M := tn_m34) rfl (by decide +kernel) rfl rfl
theorem kc_34_51 : am_code tn_G 34 51 = some (.invokevirtual 41, 3, 0) := am_code_of (M := tn_m34) rfl (by decide +kernel) rfl rfl
theorem ka_34_41 : am_cal tn_G 34 41 = some (0, 10, 1) := by decide +kernel
theorem kc_34_54 : am_code tn_G 34 54 = some (.iaload, 1, 0) := am_code_of (M := tn_m34) rfl (by decide +kernel) rfl rfl
theorem kc_34_55 : am_code tn_G 34 55 = some (.ireturn, 1, 0) := am_code_of (M := tn_m34) rfl (by decide +kernel) rfl rfl
-- 35: TermNet$Walk.depthOver(I)I
theorem kl_35 : am_ml tn_G 35 = 4 := rfl
theorem ko_35 : am_oc tn_G 35 = 3 := rfl
theorem kn_35 : am_nc tn_G 35 = 0 := rfl
theorem kr_35 : am_rt tn_G 35 = 1 := rfl
theorem kc_35_0 : am_code tn_G 35 0 = some (.iconst 0, 1, 0) := am_code_of (M := tn_m35) rfl (by decide +kernel) rfl rfl
theorem kc_35_1 : am_code tn_G 35 1 = some (.istore_n 2, 1, 0) := am_code_of (M := tn_m35) rfl (by decide +kernel) rfl rfl
theorem kc_35_2 : am_code tn_G 35 2 = some (.iconst 0, 1, 0) := am_code_of (M := tn_m35) rfl (by decide +kernel) rfl rfl
theorem kc_35_3 : am_code tn_G 35 3 = some (.istore_n 3, 1, 0) := am_code_of (M := tn_m35) rfl (by decide +kernel) rfl rfl
theorem kc_35_4 : am_code tn_G 35 4 = some (.iload_n 3, 1, 0) := am_code_of (M := tn_m35) rfl (by decide +kernel) rfl rfl
theorem kc_35_5 : am_code tn_G 35 5 = some (.aload_n 0, 1, 0) := am_code_of (M := tn_m35) rfl (by decide +kernel) rfl rfl
theorem kc_35_6 : am_code tn_G 35 6 = some (.getfield 34, 3, 0) := am_code_of (M := tn_m35) rfl (by decide +kernel) rfl rfl
theorem kf_35_34 : am_fld tn_G 35 34 = some (3, 0) := by decide +kernel
theorem kc_35_9 : am_code tn_G 35 9 = some (.iload_n 1, 1, 0) := am_code_of (M := tn_m35) rfl (by decide +kernel) rfl rfl
theorem kc_35_10 : am_code tn_G 35 10 = some (.invokevirtual 58, 3, 0) := am_code_of (M := tn_m35) rfl (by decide +kernel) rfl rfl
theorem ka_35_58 : am_cal tn_G 35 58 = some (0, 11, 1) := by decide +kernel
theorem kc_35_13 : am_code tn_G 35 13 = some (.if_icmp .ge 28, 3, 41) := am_code_of (M := tn_m35) rfl (by decide +kernel) rfl (by decide +kernel)
theorem kc_35_16 : am_code tn_G 35 16 = some (.iload_n 2, 1, 0) := am_code_of (M := tn_m35) rfl (by decide +kernel) rfl rfl
theorem kc_35_17 : am_code tn_G 35 17 = some (.aload_n 0, 1, 0) := am_code_of (M := tn_m35) rfl (by decide +kernel) rfl rfl
theorem kc_35_18 : am_code tn_G 35 18 = some (.getfield 24, 3, 0) := am_code_of (M := tn_m35) rfl (by decide +kernel) rfl rfl
theorem kf_35_24 : am_fld tn_G 35 24 = some (3, 5) := by decide +kernel
theorem kc_35_21 : am_code tn_G 35 21 = some (.aload_n 0, 1, 0) := am_code_of (M := tn_m35) rfl (by decide +kernel) rfl rfl
theorem kc_35_22 : am_code tn_G 35 22 = some (.getfield 34, 3, 0) := am_code_of (M := tn_m35) rfl (by decide +kernel) rfl rfl
theorem kc_35_25 : am_code tn_G 35 25 = some (.iload_n 1, 1, 0) := am_code_of (M := tn_m35) rfl (by decide +kernel) rfl rfl
theorem kc_35_26 : am_code tn_G 35 26 = some (.iload_n 3, 1, 0) := am_code_of (M := tn_m35) rfl (by decide +kernel) rfl rfl
theorem kc_35_27 : am_code tn_G 35 27 = some (.invokevirtual 61, 3, 0) := am_code_of (M := tn_m35) rfl (by decide +kernel) rfl rfl
theorem ka_35_61 : am_cal tn_G 35 61 = some (0, 12, 2) := by decide +kernel
theorem kc_35_30 : am_code tn_G 35 30 = some (.iaload, 1, 0) := am_code_of (M := tn_m35) rfl (by decide +kernel) rfl rfl
theorem kc_35_31 : am_code tn_G 35 31 = some (.invokestatic 76, 3, 0) := am_code_of (M := tn_m35) rfl (by decide +kernel) rfl rfl
theorem ka_35_76 : am_cal tn_G 35 76 = some (3, 0, 0) := by decide +kernel
theorem kc_35_34 : am_code tn_G 35 34 = some (.istore_n 2, 1, 0) := am_code_of (M := tn_m35) rfl (by decide +kernel) rfl rfl
theorem kc_35_35 : am_code tn_G 35 35 = some (.iinc 3 1, 3, 0) := am_code_of (M := tn_m35) rfl (by decide +kernel) rfl rfl
theorem kc_35_38 : am_code tn_G 35 38 = some (.goto (-34), 3, 4) := am_code_of (M := tn_m35) rfl (by decide +kernel) rfl (by decide +kernel)
theorem kc_35_41 : am_code tn_G 35 41 = some (.iload_n 2, 1, 0) := am_code_of (M := tn_m35) rfl (by decide +kernel) rfl rfl
theorem kc_35_42 : am_code tn_G 35 42 = some (.iconst 1, 1, 0) := am_code_of (M := tn_m35) rfl (by decide +kernel) rfl rfl
theorem kc_35_43 : am_code tn_G 35 43 = some (.iadd, 1, 0) := am_code_of (M := tn_m35) rfl (by decide +kernel) rfl rfl
theorem kc_35_44 : am_code tn_G 35 44 = some (.ireturn, 1, 0) := am_code_of (M := tn_m35) rfl (by decide +kernel) rfl rfl
-- 36: TermNet$Walk.findsBelow(II)Z
theorem kl_36 : am_ml tn_G 36 = 3 := rfl
theorem ko_36 : am_oc tn_G 36 = 3 := rfl
theorem kn_36 : am_nc tn_G 36 = 0 := rfl
theorem kr_36 : am_rt tn_G 36 = 2 := rfl
theorem kc_36_0 : am_code tn_G 36 0 = some (.aload_n 0, 1, 0) := am_code_of (M := tn_m36) rfl (by decide +kernel) rfl rfl
theorem kc_36_1 : am_code tn_G 36 1 = some (.iload_n 2, 1, 0) := am_code_of (M := tn_m36) rfl (by decide +kernel) rfl rfl
theorem kc_36_2 : am_code tn_G 36 2 = some (.invokevirtual 51, 3, 0) := am_code_of (M := tn_m36) rfl (by decide +kernel) rfl rfl
theorem ka_36_51 : am_cal tn_G 36 51 = some (0, 32, 1) := by decide +kernel
theorem kc_36_5 : am_code tn_G 36 5 = some (.aload_n 0, 1, 0) := am_code_of (M := tn_m36) rfl (by decide +kernel) rfl rfl
theorem kc_36_6 : am_code tn_G 36 6 = some (.getfield 9, 3, 0) := am_code_of (M := tn_m36) rfl (by decide +kernel) rfl rfl
theorem kf_36_9 : am_fld tn_G 36 9 = some (3, 1) := by decide +kernel
theorem kc_36_9 : am_code tn_G 36 9 = some (.aload_n 0, 1, 0) := am_code_of (M := tn_m36) rfl (by decide +kernel) rfl rfl
theorem kc_36_10 : am_code tn_G 36 10 = some (.getfield 34, 3, 0) := am_code_of (M := tn_m36) rfl (by decide +kernel) rfl rfl
theorem kf_36_34 : am_fld tn_G 36 34 = some (3, 0) := by decide +kernel
theorem kc_36_13 : am_code tn_G 36 13 = some (.iload_n 1, 1, 0) := am_code_of (M := tn_m36) rfl (by decide +kernel) rfl rfl
theorem kc_36_14 : am_code tn_G 36 14 = some (.invokevirtual 41, 3, 0) := am_code_of (M := tn_m36) rfl (by decide +kernel) rfl rfl
theorem ka_36_41 : am_cal tn_G 36 41 = some (0, 10, 1) := by decide +kernel
theorem kc_36_17 : am_code tn_G 36 17 = some (.iaload, 1, 0) := am_code_of (M := tn_m36) rfl (by decide +kernel) rfl rfl
theorem kc_36_18 : am_code tn_G 36 18 = some (.iconst 2, 1, 0) := am_code_of (M := tn_m36) rfl (by decide +kernel) rfl rfl
theorem kc_36_19 : am_code tn_G 36 19 = some (.if_icmp .ne 7, 3, 26) := am_code_of (M := tn_m36) rfl (by decide +kernel) rfl (by decide +kernel)
theorem kc_36_22 : am_code tn_G 36 22 = some (.iconst 1, 1, 0) := am_code_of (M := tn_m36) rfl (by decide +kernel) rfl rfl
theorem kc_36_23 : am_code tn_G 36 23 = some (.goto 4, 3, 27) := am_code_of (M := tn_m36) rfl (by decide +kernel) rfl (by decide +kernel)
theorem kc_36_26 : am_code tn_G 36 26 = some (.iconst 0, 1, 0) := am_code_of (M := tn_m36) rfl (by decide +kernel) rfl rfl
theorem kc_36_27 : am_code tn_G 36 27 = some (.ireturn, 1, 0) := am_code_of (M := tn_m36) rfl (by decide +kernel) rfl rfl
-- 37: TermNet$Walk.unknownsBelow(I)I
theorem kl_37 : am_ml tn_G 37 = 4 := rfl
theorem ko_37 : am_oc tn_G 37 = 3 := rfl
theorem kn_37 : am_nc tn_G 37 = 0 := rfl
theorem kr_37 : am_rt tn_G 37 = 1 := rfl
theorem kc_37_0 : am_code tn_G 37 0 = some (.aload_n 0, 1, 0) := am_code_of (M := tn_m37) rfl (by decide +kernel) rfl rfl
theorem kc_37_1 : am_code tn_G 37 1 = some (.iload_n 1, 1, 0) := am_code_of (M := tn_m37) rfl (by decide +kernel) rfl rfl
theorem kc_37_2 : am_code tn_G 37 2 = some (.invokevirtual 51, 3, 0) := am_code_of (M := tn_m37) rfl (by decide +kernel) rfl rfl
theorem ka_37_51 : am_cal tn_G 37 51 = some (0, 32, 1) := by decide +kernel
theorem kc_37_5 : am_code tn_G 37 5 = some (.iconst 0, 1, 0) := am_code_of (M := tn_m37) rfl (by decide +kernel) rfl rfl
theorem kc_37_6 : am_code tn_G 37 6 = some (.istore_n 2, 1, 0) := am_code_of (M := tn_m37) rfl (by decide +kernel) rfl rfl
theorem kc_37_7 : am_code tn_G 37 7 = some (.iconst 0, 1, 0) := am_code_of (M := tn_m37) rfl (by decide +kernel) rfl rfl
theorem kc_37_8 : am_code tn_G 37 8 = some (.istore_n 3, 1, 0) := am_code_of (M := tn_m37) rfl (by decide +kernel) rfl rfl
theorem kc_37_9 : am_code tn_G 37 9 = some (.iload_n 3, 1, 0) := am_code_of (M := tn_m37) rfl (by decide +kernel) rfl rfl
theorem kc_37_10 : am_code tn_G 37 10 = some (.aload_n 0, 1, 0) := am_code_of (M := tn_m37) rfl (by decide +kernel) rfl rfl
theorem kc_37_11 : am_code tn_G 37 11 = some (.getfield 31, 3, 0) := am_code_of (M := tn_m37) rfl (by decide +kernel) rfl rfl
theorem kf_37_31 : am_fld tn_G 37 31 = some (3, 7) := by decide +kernel
theorem kc_37_14 : am_code tn_G 37 14 = some (.if_icmp .ge 28, 3, 42) := am_code_of (M := tn_m37) rfl (by decide +kernel) rfl (by decide +kernel)
theorem kc_37_17 : am_code tn_G 37 17 = some (.aload_n 0, 1, 0) := am_code_of (M := tn_m37) rfl (by decide +kernel) rfl rfl
theorem kc_37_18 : am_code tn_G 37 18 = some (.getfield 34, 3, 0) := am_code_of (M := tn_m37) rfl (by decide +kernel) rfl rfl
theorem kf_37_34 : am_fld tn_G 37 34 = some (3, 0) := by decide +kernel
theorem kc_37_21 : am_code tn_G 37 21 = some (.aload_n 0, 1, 0) := am_code_of (M := tn_m37) rfl (by decide +kernel) rfl rfl
theorem kc_37_22 : am_code tn_G 37 22 = some (.getfield 21, 3, 0) := am_code_of (M := tn_m37) rfl (by decide +kernel) rfl rfl
theorem kf_37_21 : am_fld tn_G 37 21 = some (3, 4) := by decide +kernel
theorem kc_37_25 : am_code tn_G 37 25 = some (.iload_n 3, 1, 0) := am_code_of (M := tn_m37) rfl (by decide +kernel) rfl rfl
theorem kc_37_26 : am_code tn_G 37 26 = some (.iaload, 1, 0) := am_code_of (M := tn_m37) rfl (by decide +kernel) rfl rfl
theorem kc_37_27 : am_code tn_G 37 27 = some (.invokevirtual 79, 3, 0) := am_code_of (M := tn_m37) rfl (by decide +kernel) rfl rfl
theorem ka_37_79 : am_cal tn_G 37 79 = some (0, 15, 1) := by decide +kernel
theorem kc_37_30 : am_code tn_G 37 30 = some (.ifCond .ne 6, 3, 36) := am_code_of (M := tn_m37) rfl (by decide +kernel) rfl (by decide +kernel)
theorem kc_37_33 : am_code tn_G 37 33 = some (.iinc 2 1, 3, 0) := am_code_of (M := tn_m37) rfl (by decide +kernel) rfl rfl
theorem kc_37_36 : am_code tn_G 37 36 = some (.iinc 3 1, 3, 0) := am_code_of (M := tn_m37) rfl (by decide +kernel) rfl rfl
theorem kc_37_39 : am_code tn_G 37 39 = some (.goto (-30), 3, 9) := am_code_of (M := tn_m37) rfl (by decide +kernel) rfl (by decide +kernel)
theorem kc_37_42 : am_code tn_G 37 42 = some (.iload_n 2, 1, 0) := am_code_of (M := tn_m37) rfl (by decide +kernel) rfl rfl
theorem kc_37_43 : am_code tn_G 37 43 = some (.ireturn, 1, 0) := am_code_of (M := tn_m37) rfl (by decide +kernel) rfl rfl
-- 38: TermNet.count(I)I
theorem kl_38 : am_ml tn_G 38 = 2 := rfl
theorem ko_38 : am_oc tn_G 38 = 4 := rfl
theorem kn_38 : am_nc tn_G 38 = 0 := rfl
theorem kr_38 : am_rt tn_G 38 = 1 := rfl
theorem kc_38_0 : am_code tn_G 38 0 = some (.iload_n 1, 1, 0) := am_code_of (M := tn_m38) rfl (by decide +kernel) rfl rfl
theorem kc_38_1 : am_code tn_G 38 1 = some (.tableswitch 89 0 5 #[39, 47, 55, 60, 65, 81], 39, 90) := am_code_of (M := tn_m38) rfl (by decide +kernel) rfl (by decide +kernel)
theorem kc_38_40 : am_code tn_G 38 40 = some (.aload_n 0, 1, 0) := am_code_of (M := tn_m38) rfl (by decide +kernel) rfl rfl
theorem kc_38_41 : am_code tn_G 38 41 = some (.getfield 10, 3, 0) := am_code_of (M := tn_m38) rfl (by decide +kernel) rfl rfl
theorem kf_38_10 : am_fld tn_G 38 10 = some (4, 0) := by decide +kernel
theorem kc_38_44 : am_code tn_G 38 44 = some (.getfield 65, 3, 0) := am_code_of (M := tn_m38) rfl (by decide +kernel) rfl rfl
theorem kf_38_65 : am_fld tn_G 38 65 = some (1, 3) := by decide +kernel
theorem kc_38_47 : am_code tn_G 38 47 = some (.ireturn, 1, 0) := am_code_of (M := tn_m38) rfl (by decide +kernel) rfl rfl
theorem kc_38_48 : am_code tn_G 38 48 = some (.aload_n 0, 1, 0) := am_code_of (M := tn_m38) rfl (by decide +kernel) rfl rfl
theorem kc_38_49 : am_code tn_G 38 49 = some (.getfield 10, 3, 0) := am_code_of (M := tn_m38) rfl (by decide +kernel) rfl rfl
theorem kc_38_52 : am_code tn_G 38 52 = some (.getfield 115, 3, 0) := am_code_of (M := tn_m38) rfl (by decide +kernel) rfl rfl
theorem kf_38_115 : am_fld tn_G 38 115 = some (1, 4) := by decide +kernel
theorem kc_38_55 : am_code tn_G 38 55 = some (.ireturn, 1, 0) := am_code_of (M := tn_m38) rfl (by decide +kernel) rfl rfl
theorem kc_38_56 : am_code tn_G 38 56 = some (.aload_n 0, 1, 0) := am_code_of (M := tn_m38) rfl (by decide +kernel) rfl rfl
theorem kc_38_57 : am_code tn_G 38 57 = some (.getfield 51, 3, 0) := am_code_of (M := tn_m38) rfl (by decide +kernel) rfl rfl
theorem kf_38_51 : am_fld tn_G 38 51 = some (4, 7) := by decide +kernel
theorem kc_38_60 : am_code tn_G 38 60 = some (.ireturn, 1, 0) := am_code_of (M := tn_m38) rfl (by decide +kernel) rfl rfl
theorem kc_38_61 : am_code tn_G 38 61 = some (.aload_n 0, 1, 0) := am_code_of (M := tn_m38) rfl (by decide +kernel) rfl rfl
theorem kc_38_62 : am_code tn_G 38 62 = some (.getfield 55, 3, 0) := am_code_of (M := tn_m38) rfl (by decide +kernel) rfl rfl
theorem kf_38_55 : am_fld tn_G 38 55 = some (4, 8) := by decide +kernel
theorem kc_38_65 : am_code tn_G 38 65 = some (.ireturn, 1, 0) := am_code_of (M := tn_m38) rfl (by decide +kernel) rfl rfl
theorem kc_38_66 : am_code tn_G 38 66 = some (.aload_n 0, 1, 0) := am_code_of (M := tn_m38) rfl (by decide +kernel) rfl rfl
theorem kc_38_67 : am_code tn_G 38 67 = some (.getfield 10, 3, 0) := am_code_of (M := tn_m38) rfl (by decide +kernel) rfl rfl
theorem kc_38_70 : am_code tn_G 38 70 = some (.getfield 115, 3, 0) := am_code_of (M := tn_m38) rfl (by decide +kernel) rfl rfl
theorem kc_38_73 : am_code tn_G 38 73 = some (.aload_n 0, 1, 0) := am_code_of (M := tn_m38) rfl (by decide +kernel) rfl rfl
theorem kc_38_74 : am_code tn_G 38 74 = some (.getfield 21, 3, 0) := am_code_of (M := tn_m38) rfl (by decide +kernel) rfl rfl
theorem kf_38_21 : am_fld tn_G 38 21 = some (4, 1) := by decide +kernel
theorem kc_38_77 : am_code tn_G 38 77 = some (.getfield 104, 3, 0) := am_code_of (M := tn_m38) rfl (by decide +kernel) rfl rfl
theorem kf_38_104 : am_fld tn_G 38 104 = some (0, 5) := by decide +kernel
theorem kc_38_80 : am_code tn_G 38 80 = some (.isub, 1, 0) := am_code_of (M := tn_m38) rfl (by decide +kernel) rfl rfl
theorem kc_38_81 : am_code tn_G 38 81 = some (.ireturn, 1, 0) := am_code_of (M := tn_m38) rfl (by decide +kernel) rfl rfl
theorem kc_38_82 : am_code tn_G 38 82 = some (.aload_n 0, 1, 0) := am_code_of (M := tn_m38) rfl (by decide +kernel) rfl rfl
theorem kc_38_83 : am_code tn_G 38 83 = some (.getfield 21, 3, 0) := am_code_of (M := tn_m38) rfl (by decide +kernel) rfl rfl
theorem kc_38_86 : am_code tn_G 38 86 = some (.invokevirtual 169, 3, 0) := am_code_of (M := tn_m38) rfl (by decide +kernel) rfl rfl
theorem ka_38_169 : am_cal tn_G 38 169 = some (0, 0, 0) := by decide +kernel
theorem kc_38_89 : am_code tn_G 38 89 = some (.ireturn, 1, 0) := am_code_of (M := tn_m38) rfl (by decide +kernel) rfl rfl
theorem kc_38_90 : am_code tn_G 38 90 = some (.iconst (-1), 1, 0) := am_code_of (M := tn_m38) rfl (by decide +kernel) rfl rfl
theorem kc_38_91 : am_code tn_G 38 91 = some (.ireturn, 1, 0) := am_code_of (M := tn_m38) rfl (by decide +kernel) rfl rfl
-- 39: TermNet.sign(I)I
theorem kl_39 : am_ml tn_G 39 = 2 := rfl
theorem ko_39 : am_oc tn_G 39 = 4 := rfl
theorem kn_39 : am_nc tn_G 39 = 1 := rfl
theorem kr_39 : am_rt tn_G 39 = 1 := rfl
theorem kc_39_0 : am_code tn_G 39 0 = some (.iload_n 1, 1, 0) := am_code_of (M := tn_m39) rfl (by decide +kernel) rfl rfl
theorem kc_39_1 : am_code tn_G 39 1 = some (.ifCond .lt 8, 3, 9) := am_code_of (M := tn_m39) rfl (by decide +kernel) rfl (by decide +kernel)
theorem kc_39_4 : am_code tn_G 39 4 = some (.iload_n 1, 1, 0) := am_code_of (M := tn_m39) rfl (by decide +kernel) rfl rfl
theorem kc_39_5 : am_code tn_G 39 5 = some (.iconst 3, 1, 0) := am_code_of (M := tn_m39) rfl (by decide +kernel) rfl rfl
theorem kc_39_6 : am_code tn_G 39 6 = some (.if_icmp .le 13, 3, 19) := am_code_of (M := tn_m39) rfl (by decide +kernel) rfl (by decide +kernel)
theorem kc_39_9 : am_code tn_G 39 9 = some (.new 58, 3, 0) := am_code_of (M := tn_m39) rfl (by decide +kernel) rfl rfl
theorem kt_39_9 : am_th tn_G 39 9 = some "java/lang/IllegalArgumentException" := by decide +kernel
theorem kc_39_19 : am_code tn_G 39 19 = some (.aload_n 0, 1, 0) := am_code_of (M := tn_m39) rfl (by decide +kernel) rfl rfl
theorem kc_39_20 : am_code tn_G 39 20 = some (.getfield 10, 3, 0) := am_code_of (M := tn_m39) rfl (by decide +kernel) rfl rfl
theorem kf_39_10 : am_fld tn_G 39 10 = some (4, 0) := by decide +kernel
theorem kc_39_23 : am_code tn_G 39 23 = some (.getfield 65, 3, 0) := am_code_of (M := tn_m39) rfl (by decide +kernel) rfl rfl
theorem kf_39_65 : am_fld tn_G 39 65 = some (1, 3) := by decide +kernel
theorem kc_39_26 : am_code tn_G 39 26 = some (.bipush 40, 2, 0) := am_code_of (M := tn_m39) rfl (by decide +kernel) rfl rfl
theorem kc_39_28 : am_code tn_G 39 28 = some (.if_icmp .ne 13, 3, 41) := am_code_of (M := tn_m39) rfl (by decide +kernel) rfl (by decide +kernel)
theorem kc_39_31 : am_code tn_G 39 31 = some (.new 68, 3, 0) := am_code_of (M := tn_m39) rfl (by decide +kernel) rfl rfl
theorem kt_39_31 : am_th tn_G 39 31 = some "java/lang/IndexOutOfBoundsException" := by decide +kernel
theorem kc_39_41 : am_code tn_G 39 41 = some (.aload_n 0, 1, 0) := am_code_of (M := tn_m39) rfl (by decide +kernel) rfl rfl
theorem kc_39_42 : am_code tn_G 39 42 = some (.getfield 10, 3, 0) := am_code_of (M := tn_m39) rfl (by decide +kernel) rfl rfl
theorem kc_39_45 : am_code tn_G 39 45 = some (.iload_n 1, 1, 0) := am_code_of (M := tn_m39) rfl (by decide +kernel) rfl rfl
theorem kc_39_46 : am_code tn_G 39 46 = some (.invokevirtual 73, 3, 0) := am_code_of (M := tn_m39) rfl (by decide +kernel) rfl rfl
theorem ka_39_73 : am_cal tn_G 39 73 = some (0, 16, 1) := by decide +kernel
theorem kc_39_49 : am_code tn_G 39 49 = some (.ireturn, 1, 0) := am_code_of (M := tn_m39) rfl (by decide +kernel) rfl rfl
-- 40: TermNet.unknown()I
theorem kl_40 : am_ml tn_G 40 = 2 := rfl
theorem ko_40 : am_oc tn_G 40 = 4 := rfl
theorem kn_40 : am_nc tn_G 40 = 1 := rfl
theorem kr_40 : am_rt tn_G 40 = 1 := rfl
theorem kc_40_0 : am_code tn_G 40 0 = some (.aload_n 0, 1, 0) := am_code_of (M := tn_m40) rfl (by decide +kernel) rfl rfl
theorem kc_40_1 : am_code tn_G 40 1 = some (.invokevirtual 77, 3, 0) := am_code_of (M := tn_m40) rfl (by decide +kernel) rfl rfl
theorem ka_40_77 : am_cal tn_G 40 77 = some (0, 41, 0) := by decide +kernel
theorem kc_40_4 : am_code tn_G 40 4 = some (.aload_n 0, 1, 0) := am_code_of (M := tn_m40) rfl (by decide +kernel) rfl rfl
theorem kc_40_5 : am_code tn_G 40 5 = some (.getfield 10, 3, 0) := am_code_of (M := tn_m40) rfl (by decide +kernel) rfl rfl
theorem kf_40_10 : am_fld tn_G 40 10 = some (4, 0) := by decide +kernel
theorem kc_40_8 : am_code tn_G 40 8 = some (.invokevirtual 80, 3, 0) := am_code_of (M := tn_m40) rfl (by decide +kernel) rfl rfl
theorem ka_40_80 : am_cal tn_G 40 80 = some (0, 17, 0) := by decide +kernel
theorem kc_40_11 : am_code tn_G 40 11 = some (.istore_n 1, 1, 0) := am_code_of (M := tn_m40) rfl (by decide +kernel) rfl rfl
theorem kc_40_12 : am_code tn_G 40 12 = some (.aload_n 0, 1, 0) := am_code_of (M := tn_m40) rfl (by decide +kernel) rfl rfl
theorem kc_40_13 : am_code tn_G 40 13 = some (.getfield 21, 3, 0) := am_code_of (M := tn_m40) rfl (by decide +kernel) rfl rfl
theorem kf_40_21 : am_fld tn_G 40 21 = some (4, 1) := by decide +kernel
theorem kc_40_16 : am_code tn_G 40 16 = some (.iload_n 1, 1, 0) := am_code_of (M := tn_m40) rfl (by decide +kernel) rfl rfl
theorem kc_40_17 : am_code tn_G 40 17 = some (.invokevirtual 84, 3, 0) := am_code_of (M := tn_m40) rfl (by decide +kernel) rfl rfl
theorem ka_40_84 : am_cal tn_G 40 84 = some (0, 1, 1) := by decide +kernel
theorem kc_40_20 : am_code tn_G 40 20 = some (.iload_n 1, 1, 0) := am_code_of (M := tn_m40) rfl (by decide +kernel) rfl rfl
theorem kc_40_21 : am_code tn_G 40 21 = some (.ireturn, 1, 0) := am_code_of (M := tn_m40) rfl (by decide +kernel) rfl rfl
-- 41: TermNet.refuseWhenFull()V
theorem kl_41 : am_ml tn_G 41 = 1 := rfl
theorem ko_41 : am_oc tn_G 41 = 4 := rfl
theorem kn_41 : am_nc tn_G 41 = 1 := rfl
theorem kr_41 : am_rt tn_G 41 = 0 := rfl
theorem kc_41_0 : am_code tn_G 41 0 = some (.aload_n 0, 1, 0) := am_code_of (M := tn_m41) rfl (by decide +kernel) rfl rfl
theorem kc_41_1 : am_code tn_G 41 1 = some (.getfield 10, 3, 0) := am_code_of (M := tn_m41) rfl (by decide +kernel) rfl rfl
theorem kf_41_10 : am_fld tn_G 41 10 = some (4, 0) := by decide +kernel
theorem kc_41_4 : am_code tn_G 41 4 = some (.getfield 115, 3, 0) := am_code_of (M := tn_m41) rfl (by decide +kernel) rfl rfl
theorem kf_41_115 : am_fld tn_G 41 115 = some (1, 4) := by decide +kernel
theorem kc_41_7 : am_code tn_G 41 7 = some (.sipush 400, 3, 0) := am_code_of (M := tn_m41) rfl (by decide +kernel) rfl rfl
theorem kc_41_10 : am_code tn_G 41 10 = some (.if_icmp .ne 13, 3, 23) := am_code_of (M := tn_m41) rfl (by decide +kernel) rfl (by decide +kernel)
theorem kc_41_13 : am_code tn_G 41 13 = some (.new 68, 3, 0) := am_code_of (M := tn_m41) rfl (by decide +kernel) rfl rfl
theorem kt_41_13 : am_th tn_G 41 13 = some "java/lang/IndexOutOfBoundsException" := by decide +kernel
theorem kc_41_23 : am_code tn_G 41 23 = some (.return_, 1, 0) := am_code_of (M := tn_m41) rfl (by decide +kernel) rfl rfl
-- 42: TermNet.term(IIII)I
theorem kl_42 : am_ml tn_G 42 = 6 := rfl
theorem ko_42 : am_oc tn_G 42 = 4 := rfl
theorem kn_42 : am_nc tn_G 42 = 1 := rfl
theorem kr_42 : am_rt tn_G 42 = 1 := rfl
theorem kc_42_0 : am_code tn_G 42 0 = some (.aload_n 0, 1, 0) := am_code_of (M := tn_m42) rfl (by decide +kernel) rfl rfl
theorem kc_42_1 : am_code tn_G 42 1 = some (.getfield 10, 3, 0) := am_code_of (M := tn_m42) rfl (by decide +kernel) rfl rfl
theorem kf_42_10 : am_fld tn_G 42 10 = some (4, 0) := by decide +kernel
theorem kc_42_4 : am_code tn_G 42 4 = some (.iload_n 1, 1, 0) := am_code_of (M := tn_m42) rfl (by decide +kernel) rfl rfl
theorem kc_42_5 : am_code tn_G 42 5 = some (.iload_n 2, 1, 0) := am_code_of (M := tn_m42) rfl (by decide +kernel) rfl rfl
theorem kc_42_6 : am_code tn_G 42 6 = some (.iload_n 3, 1, 0) := am_code_of (M := tn_m42) rfl (by decide +kernel) rfl rfl
theorem kc_42_7 : am_code tn_G 42 7 = some (.iload 4, 2, 0) := am_code_of (M := tn_m42) rfl (by decide +kernel) rfl rfl
theorem kc_42_9 : am_code tn_G 42 9 = some (.invokevirtual 88, 3, 0) := am_code_of (M := tn_m42) rfl (by decide +kernel) rfl rfl
theorem ka_42_88 : am_cal tn_G 42 88 = some (0, 18, 4) := by decide +kernel
theorem kc_42_12 : am_code tn_G 42 12 = some (.ifCond .ne 13, 3, 25) := am_code_of (M := tn_m42) rfl (by decide +kernel) rfl (by decide +kernel)
theorem kc_42_15 : am_code tn_G 42 15 = some (.new 58, 3, 0) := am_code_of (M := tn_m42) rfl (by decide +kernel) rfl rfl
theorem kt_42_15 : am_th tn_G 42 15 = some "java/lang/IllegalArgumentException" := by decide +kernel
theorem kc_42_25 : am_code tn_G 42 25 = some (.aload_n 0, 1, 0) := am_code_of (M := tn_m42) rfl (by decide +kernel) rfl rfl
theorem kc_42_26 : am_code tn_G 42 26 = some (.invokevirtual 77, 3, 0) := am_code_of (M := tn_m42) rfl (by decide +kernel) rfl rfl
theorem ka_42_77 : am_cal tn_G 42 77 = some (0, 41, 0) := by decide +kernel
theorem kc_42_29 : am_code tn_G 42 29 = some (.aload_n 0, 1, 0) := am_code_of (M := tn_m42) rfl (by decide +kernel) rfl rfl
theorem kc_42_30 : am_code tn_G 42 30 = some (.getfield 10, 3, 0) := am_code_of (M := tn_m42) rfl (by decide +kernel) rfl rfl
theorem kc_42_33 : am_code tn_G 42 33 = some (.iload_n 1, 1, 0) := am_code_of (M := tn_m42) rfl (by decide +kernel) rfl rfl
theorem kc_42_34 : am_code tn_G 42 34 = some (.iload_n 2, 1, 0) := am_code_of (M := tn_m42) rfl (by decide +kernel) rfl rfl
theorem kc_42_35 : am_code tn_G 42 35 = some (.iload_n 3, 1, 0) := am_code_of (M := tn_m42) rfl (by decide +kernel) rfl rfl
theorem kc_42_36 : am_code tn_G 42 36 = some (.iload 4, 2, 0) := am_code_of (M := tn_m42) rfl (by decide +kernel) rfl rfl
theorem kc_42_38 : am_code tn_G 42 38 = some (.invokevirtual 94, 3, 0) := am_code_of (M := tn_m42) rfl (by decide +kernel) rfl rfl
theorem ka_42_94 : am_cal tn_G 42 94 = some (0, 20, 4) := by decide +kernel
theorem kc_42_41 : am_code tn_G 42 41 = some (.istore 5, 2, 0) := am_code_of (M := tn_m42) rfl (by decide +kernel) rfl rfl
theorem kc_42_43 : am_code tn_G 42 43 = some (.aload_n 0, 1, 0) := am_code_of (M := tn_m42) rfl (by decide +kernel) rfl rfl
theorem kc_42_44 : am_code tn_G 42 44 = some (.getfield 21, 3, 0) := am_code_of (M := tn_m42) rfl (by decide +kernel) rfl rfl
theorem kf_42_21 : am_fld tn_G 42 21 = some (4, 1) := by decide +kernel
theorem kc_42_47 : am_code tn_G 42 47 = some (.iload 5, 2, 0) := am_code_of (M := tn_m42) rfl (by decide +kernel) rfl rfl
theorem kc_42_49 : am_code tn_G 42 49 = some (.invokevirtual 84, 3, 0) := am_code_of (M := tn_m42) rfl (by decide +kernel) rfl rfl
theorem ka_42_84 : am_cal tn_G 42 84 = some (0, 1, 1) := by decide +kernel
theorem kc_42_52 : am_code tn_G 42 52 = some (.aload_n 0, 1, 0) := am_code_of (M := tn_m42) rfl (by decide +kernel) rfl rfl
theorem kc_42_53 : am_code tn_G 42 53 = some (.getfield 21, 3, 0) := am_code_of (M := tn_m42) rfl (by decide +kernel) rfl rfl
theorem kc_42_56 : am_code tn_G 42 56 = some (.iload 5, 2, 0) := am_code_of (M := tn_m42) rfl (by decide +kernel) rfl rfl
theorem kc_42_58 : am_code tn_G 42 58 = some (.invokevirtual 98, 3, 0) := am_code_of (M := tn_m42) rfl (by decide +kernel) rfl rfl
theorem ka_42_98 : am_cal tn_G 42 98 = some (0, 2, 1) := by decide +kernel
theorem kc_42_61 : am_code tn_G 42 61 = some (.iload 5, 2, 0) := am_code_of (M := tn_m42) rfl (by decide +kernel) rfl rfl
theorem kc_42_63 : am_code tn_G 42 63 = some (.ireturn, 1, 0) := am_code_of (M := tn_m42) rfl (by decide +kernel) rfl rfl
-- 43: TermNet.equal(II)Z
theorem kl_43 : am_ml tn_G 43 = 4 := rfl
theorem ko_43 : am_oc tn_G 43 = 4 := rfl
theorem kn_43 : am_nc tn_G 43 = 2 := rfl
theorem kr_43 : am_rt tn_G 43 = 2 := rfl
theorem kc_43_0 : am_code tn_G 43 0 = some (.aload_n 0, 1, 0) := am_code_of (M := tn_m43) rfl (by decide +kernel) rfl rfl
theorem kc_43_1 : am_code tn_G 43 1 = some (.iload_n 1, 1, 0) := am_code_of (M := tn_m43) rfl (by decide +kernel) rfl rfl
theorem kc_43_2 : am_code tn_G 43 2 = some (.invokevirtual 101, 3, 0) := am_code_of (M := tn_m43) rfl (by decide +kernel) rfl rfl
theorem ka_43_101 : am_cal tn_G 43 101 = some (0, 44, 1) := by decide +kernel
theorem kc_43_5 : am_code tn_G 43 5 = some (.aload_n 0, 1, 0) := am_code_of (M := tn_m43) rfl (by decide +kernel) rfl rfl
theorem kc_43_6 : am_code tn_G 43 6 = some (.iload_n 2, 1, 0) := am_code_of (M := tn_m43) rfl (by decide +kernel) rfl rfl
theorem kc_43_7 : am_code tn_G 43 7 = some (.invokevirtual 101, 3, 0) := am_code_of (M := tn_m43) rfl (by decide +kernel) rfl rfl
theorem kc_43_10 : am_code tn_G 43 10 = some (.aload_n 0, 1, 0) := am_code_of (M := tn_m43) rfl (by decide +kernel) rfl rfl
theorem kc_43_11 : am_code tn_G 43 11 = some (.getfield 21, 3, 0) := am_code_of (M := tn_m43) rfl (by decide +kernel) rfl rfl
theorem kf_43_21 : am_fld tn_G 43 21 = some (4, 1) := by decide +kernel
theorem kc_43_14 : am_code tn_G 43 14 = some (.getfield 104, 3, 0) := am_code_of (M := tn_m43) rfl (by decide +kernel) rfl rfl
theorem kf_43_104 : am_fld tn_G 43 104 = some (0, 5) := by decide +kernel
theorem kc_43_17 : am_code tn_G 43 17 = some (.istore_n 3, 1, 0) := am_code_of (M := tn_m43) rfl (by decide +kernel) rfl rfl
theorem kc_43_18 : am_code tn_G 43 18 = some (.aload_n 0, 1, 0) := am_code_of (M := tn_m43) rfl (by decide +kernel) rfl rfl
theorem kc_43_19 : am_code tn_G 43 19 = some (.getfield 21, 3, 0) := am_code_of (M := tn_m43) rfl (by decide +kernel) rfl rfl
theorem kc_43_22 : am_code tn_G 43 22 = some (.iload_n 1, 1, 0) := am_code_of (M := tn_m43) rfl (by decide +kernel) rfl rfl
theorem kc_43_23 : am_code tn_G 43 23 = some (.iload_n 2, 1, 0) := am_code_of (M := tn_m43) rfl (by decide +kernel) rfl rfl
theorem kc_43_24 : am_code tn_G 43 24 = some (.invokevirtual 107, 3, 0) := am_code_of (M := tn_m43) rfl (by decide +kernel) rfl rfl
theorem ka_43_107 : am_cal tn_G 43 107 = some (0, 4, 2) := by decide +kernel
theorem kc_43_27 : am_code tn_G 43 27 = some (.aload_n 0, 1, 0) := am_code_of (M := tn_m43) rfl (by decide +kernel) rfl rfl
theorem kc_43_28 : am_code tn_G 43 28 = some (.getfield 21, 3, 0) := am_code_of (M := tn_m43) rfl (by decide +kernel) rfl rfl
theorem kc_43_31 : am_code tn_G 43 31 = some (.iload_n 3, 1, 0) := am_code_of (M := tn_m43) rfl (by decide +kernel) rfl rfl
theorem kc_43_32 : am_code tn_G 43 32 = some (.invokevirtual 111, 3, 0) := am_code_of (M := tn_m43) rfl (by decide +kernel) rfl rfl
theorem ka_43_111 : am_cal tn_G 43 111 = some (0, 7, 1) := by decide +kernel
theorem kc_43_35 : am_code tn_G 43 35 = some (.ifCond .eq 20, 3, 55) := am_code_of (M := tn_m43) rfl (by decide +kernel) rfl (by decide +kernel)
theorem kc_43_38 : am_code tn_G 43 38 = some (.aload_n 0, 1, 0) := am_code_of (M := tn_m43) rfl (by decide +kernel) rfl rfl
theorem kc_43_39 : am_code tn_G 43 39 = some (.getfield 30, 3, 0) := am_code_of (M := tn_m43) rfl (by decide +kernel) rfl rfl
theorem kf_43_30 : am_fld tn_G 43 30 = some (4, 2) := by decide +kernel
theorem kc_43_42 : am_code tn_G 43 42 = some (.aload_n 0, 1, 0) := am_code_of (M := tn_m43) rfl (by decide +kernel) rfl rfl
theorem kc_43_43 : am_code tn_G 43 43 = some (.getfield 10, 3, 0) := am_code_of (M := tn_m43) rfl (by decide +kernel) rfl rfl
theorem kf_43_10 : am_fld tn_G 43 10 = some (4, 0) := by decide +kernel
theorem kc_43_46 : am_code tn_G 43 46 = some (.getfield 115, 3, 0) := am_code_of (M := tn_m43) rfl (by decide +kernel) rfl rfl
theorem kf_43_115 : am_fld tn_G 43 115 = some (1, 4) := by decide +kernel
theorem kc_43_49 : am_code tn_G 43 49 = some (.invokevirtual 118, 3, 0) := am_code_of (M := tn_m43) rfl (by decide +kernel) rfl rfl
theorem ka_43_118 : am_cal tn_G 43 118 = some (0, 26, 1) := by decide +kernel
theorem kc_43_52 : am_code tn_G 43 52 = some (.ifCond .ne 13, 3, 65) := am_code_of (M := tn_m43) rfl (by decide +kernel) rfl (by decide +kernel)
theorem kc_43_55 : am_code tn_G 43 55 = some (.aload_n 0, 1, 0) := am_code_of (M := tn_m43) rfl (by decide +kernel) rfl rfl
theorem kc_43_56 : am_code tn_G 43 56 = some (.getfield 21, 3, 0) := am_code_of (M := tn_m43) rfl (by decide +kernel) rfl rfl
theorem kc_43_59 : am_code tn_G 43 59 = some (.iload_n 3, 1, 0) := am_code_of (M := tn_m43) rfl (by decide +kernel) rfl rfl
theorem kc_43_60 : am_code tn_G 43 60 = some (.invokevirtual 121, 3, 0) := am_code_of (M := tn_m43) rfl (by decide +kernel) rfl rfl
theorem ka_43_121 : am_cal tn_G 43 121 = some (0, 13, 1) := by decide +kernel
theorem kc_43_63 : am_code tn_G 43 63 = some (.iconst 0, 1, 0) := am_code_of (M := tn_m43) rfl (by decide +kernel) rfl rfl
theorem kc_43_64 : am_code tn_G 43 64 = some (.ireturn, 1, 0) := am_code_of (M := tn_m43) rfl (by decide +kernel) rfl rfl
theorem kc_43_65 : am_code tn_G 43 65 = some (.aload_n 0, 1, 0) := am_code_of (M := tn_m43) rfl (by decide +kernel) rfl rfl
theorem kc_43_66 : am_code tn_G 43 66 = some (.getfield 37, 3, 0) := am_code_of (M := tn_m43) rfl (by decide +kernel) rfl rfl
theorem kf_43_37 : am_fld tn_G 43 37 = some (4, 3) := by decide +kernel
theorem kc_43_69 : am_code tn_G 43 69 = some (.aload_n 0, 1, 0) := am_code_of (M := tn_m43) rfl (by decide +kernel) rfl rfl
theorem kc_43_70 : am_code tn_G 43 70 = some (.getfield 30, 3, 0) := am_code_of (M := tn_m43) rfl (by decide +kernel) rfl rfl
theorem kc_43_73 : am_code tn_G 43 73 = some (.invokevirtual 124, 3, 0) := am_code_of (M := tn_m43) rfl (by decide +kernel) rfl rfl
theorem ka_43_124 : am_cal tn_G 43 124 = some (0, 23, 1) := by decide +kernel
theorem kc_43_76 : am_code tn_G 43 76 = some (.aload_n 0, 1, 0) := am_code_of (M := tn_m43) rfl (by decide +kernel) rfl rfl
theorem kc_43_77 : am_code tn_G 43 77 = some (.dup, 1, 0) := am_code_of (M := tn_m43) rfl (by decide +kernel) rfl rfl
theorem kc_43_78 : am_code tn_G 43 78 = some (.getfield 55, 3, 0) := am_code_of (M := tn_m43) rfl (by decide +kernel) rfl rfl
theorem kf_43_55 : am_fld tn_G 43 55 = some (4, 8) := by decide +kernel
theorem kc_43_81 : am_code tn_G 43 81 = some (.iconst 1, 1, 0) := am_code_of (M := tn_m43) rfl (by decide +kernel) rfl rfl
theorem kc_43_82 : am_code tn_G 43 82 = some (.iadd, 1, 0) := am_code_of (M := tn_m43) rfl (by decide +kernel) rfl rfl
theorem kc_43_83 : am_code tn_G 43 83 = some (.putfield 55, 3, 0) := am_code_of (M := tn_m43) rfl (by decide +kernel) rfl rfl
theorem kc_43_86 : am_code tn_G 43 86 = some (.iconst 1, 1, 0) := am_code_of (M := tn_m43) rfl (by decide +kernel) rfl rfl
theorem kc_43_87 : am_code tn_G 43 87 = some (.ireturn, 1, 0) := am_code_of (M := tn_m43) rfl (by decide +kernel) rfl rfl
-- 44: TermNet.refuseUnlessTerm(I)V
theorem kl_44 : am_ml tn_G 44 = 2 := rfl
theorem ko_44 : am_oc tn_G 44 = 4 := rfl
theorem kn_44 : am_nc tn_G 44 = 1 := rfl
theorem kr_44 : am_rt tn_G 44 = 0 := rfl
theorem kc_44_0 : am_code tn_G 44 0 = some (.aload_n 0, 1, 0) := am_code_of (M := tn_m44) rfl (by decide +kernel) rfl rfl
theorem kc_44_1 : am_code tn_G 44 1 = some (.getfield 10, 3, 0) := am_code_of (M := tn_m44) rfl (by decide +kernel) rfl rfl
theorem kf_44_10 : am_fld tn_G 44 10 = some (4, 0) := by decide +kernel
theorem kc_44_4 : am_code tn_G 44 4 = some (.iload_n 1, 1, 0) := am_code_of (M := tn_m44) rfl (by decide +kernel) rfl rfl
theorem kc_44_5 : am_code tn_G 44 5 = some (.invokevirtual 172, 3, 0) := am_code_of (M := tn_m44) rfl (by decide +kernel) rfl rfl
theorem ka_44_172 : am_cal tn_G 44 172 = some (0, 19, 1) := by decide +kernel
theorem kc_44_8 : am_code tn_G 44 8 = some (.ifCond .ne 13, 3, 21) := am_code_of (M := tn_m44) rfl (by decide +kernel) rfl (by decide +kernel)
theorem kc_44_11 : am_code tn_G 44 11 = some (.new 58, 3, 0) := am_code_of (M := tn_m44) rfl (by decide +kernel) rfl rfl
theorem kt_44_11 : am_th tn_G 44 11 = some "java/lang/IllegalArgumentException" := by decide +kernel
theorem kc_44_21 : am_code tn_G 44 21 = some (.return_, 1, 0) := am_code_of (M := tn_m44) rfl (by decide +kernel) rfl rfl
-- 45: TermNet.same(II)Z
theorem kl_45 : am_ml tn_G 45 = 3 := rfl
theorem ko_45 : am_oc tn_G 45 = 4 := rfl
theorem kn_45 : am_nc tn_G 45 = 2 := rfl
theorem kr_45 : am_rt tn_G 45 = 2 := rfl
theorem kc_45_0 : am_code tn_G 45 0 = some (.aload_n 0, 1, 0) := am_code_of (M := tn_m45) rfl (by decide +kernel) rfl rfl
theorem kc_45_1 : am_code tn_G 45 1 = some (.iload_n 1, 1, 0) := am_code_of (M := tn_m45) rfl (by decide +kernel) rfl rfl
theorem kc_45_2 : am_code tn_G 45 2 = some (.invokevirtual 101, 3, 0) := am_code_of (M := tn_m45) rfl (by decide +kernel) rfl rfl
theorem ka_45_101 : am_cal tn_G 45 101 = some (0, 44, 1) := by decide +kernel
theorem kc_45_5 : am_code tn_G 45 5 = some (.aload_n 0, 1, 0) := am_code_of (M := tn_m45) rfl (by decide +kernel) rfl rfl
theorem kc_45_6 : am_code tn_G 45 6 = some (.iload_n 2, 1, 0) := am_code_of (M := tn_m45) rfl (by decide +kernel) rfl rfl
theorem kc_45_7 : am_code tn_G 45 7 = some (.invokevirtual 101, 3, 0) := am_code_of (M := tn_m45) rfl (by decide +kernel) rfl rfl
theorem kc_45_10 : am_code tn_G 45 10 = some (.aload_n 0, 1, 0) := am_code_of (M := tn_m45) rfl (by decide +kernel) rfl rfl
theorem kc_45_11 : am_code tn_G 45 11 = some (.getfield 21, 3, 0) := am_code_of (M := tn_m45) rfl (by decide +kernel) rfl rfl
theorem kf_45_21 : am_fld tn_G 45 21 = some (4, 1) := by decide +kernel
theorem kc_45_14 : am_code tn_G 45 14 = some (.iload_n 1, 1, 0) := am_code_of (M := tn_m45) rfl (by decide +kernel) rfl rfl
theorem kc_45_15 : am_code tn_G 45 15 = some (.invokevirtual 128, 3, 0) := am_code_of (M := tn_m45) rfl (by decide +kernel) rfl rfl
theorem ka_45_128 : am_cal tn_G 45 128 = some (0, 10, 1) := by decide +kernel
theorem kc_45_18 : am_code tn_G 45 18 = some (.aload_n 0, 1, 0) := am_code_of (M := tn_m45) rfl (by decide +kernel) rfl rfl
theorem kc_45_19 : am_code tn_G 45 19 = some (.getfield 21, 3, 0) := am_code_of (M := tn_m45) rfl (by decide +kernel) rfl rfl
theorem kc_45_22 : am_code tn_G 45 22 = some (.iload_n 2, 1, 0) := am_code_of (M := tn_m45) rfl (by decide +kernel) rfl rfl
theorem kc_45_23 : am_code tn_G 45 23 = some (.invokevirtual 128, 3, 0) := am_code_of (M := tn_m45) rfl (by decide +kernel) rfl rfl
theorem kc_45_26 : am_code tn_G 45 26 = some (.if_icmp .ne 7, 3, 33) := am_code_of (M := tn_m45) rfl (by decide +kernel) rfl (by decide +kernel)
theorem kc_45_29 : am_code tn_G 45 29 = some (.iconst 1, 1, 0) := am_code_of (M := tn_m45) rfl (by decide +kernel) rfl rfl
theorem kc_45_30 : am_code tn_G 45 30 = some (.goto 4, 3, 34) := am_code_of (M := tn_m45) rfl (by decide +kernel) rfl (by decide +kernel)
theorem kc_45_33 : am_code tn_G 45 33 = some (.iconst 0, 1, 0) := am_code_of (M := tn_m45) rfl (by decide +kernel) rfl rfl
theorem kc_45_34 : am_code tn_G 45 34 = some (.ireturn, 1, 0) := am_code_of (M := tn_m45) rfl (by decide +kernel) rfl rfl
-- 46: TermNet.top(I)I
theorem kl_46 : am_ml tn_G 46 = 2 := rfl
theorem ko_46 : am_oc tn_G 46 = 4 := rfl
theorem kn_46 : am_nc tn_G 46 = 1 := rfl
theorem kr_46 : am_rt tn_G 46 = 1 := rfl
theorem kc_46_0 : am_code tn_G 46 0 = some (.aload_n 0, 1, 0) := am_code_of (M := tn_m46) rfl (by decide +kernel) rfl rfl
theorem kc_46_1 : am_code tn_G 46 1 = some (.iload_n 1, 1, 0) := am_code_of (M := tn_m46) rfl (by decide +kernel) rfl rfl
theorem kc_46_2 : am_code tn_G 46 2 = some (.invokevirtual 101, 3, 0) := am_code_of (M := tn_m46) rfl (by decide +kernel) rfl rfl
theorem ka_46_101 : am_cal tn_G 46 101 = some (0, 44, 1) := by decide +kernel
theorem kc_46_5 : am_code tn_G 46 5 = some (.aload_n 0, 1, 0) := am_code_of (M := tn_m46) rfl (by decide +kernel) rfl rfl
theorem kc_46_6 : am_code tn_G 46 6 = some (.getfield 21, 3, 0) := am_code_of (M := tn_m46) rfl (by decide +kernel) rfl rfl
theorem kf_46_21 : am_fld tn_G 46 21 = some (4, 1) := by decide +kernel
theorem kc_46_9 : am_code tn_G 46 9 = some (.iload_n 1, 1, 0) := am_code_of (M := tn_m46) rfl (by decide +kernel) rfl rfl
theorem kc_46_10 : am_code tn_G 46 10 = some (.invokevirtual 131, 3, 0) := am_code_of (M := tn_m46) rfl (by decide +kernel) rfl rfl
theorem ka_46_131 : am_cal tn_G 46 131 = some (0, 15, 1) := by decide +kernel
theorem kc_46_13 : am_code tn_G 46 13 = some (.ifCond .eq 22, 3, 35) := am_code_of (M := tn_m46) rfl (by decide +kernel) rfl (by decide +kernel)
theorem kc_46_16 : am_code tn_G 46 16 = some (.aload_n 0, 1, 0) := am_code_of (M := tn_m46) rfl (by decide +kernel) rfl rfl
theorem kc_46_17 : am_code tn_G 46 17 = some (.getfield 10, 3, 0) := am_code_of (M := tn_m46) rfl (by decide +kernel) rfl rfl
theorem kf_46_10 : am_fld tn_G 46 10 = some (4, 0) := by decide +kernel
theorem kc_46_20 : am_code tn_G 46 20 = some (.getfield 134, 3, 0) := am_code_of (M := tn_m46) rfl (by decide +kernel) rfl rfl
theorem kf_46_134 : am_fld tn_G 46 134 = some (1, 1) := by decide +kernel
theorem kc_46_23 : am_code tn_G 46 23 = some (.aload_n 0, 1, 0) := am_code_of (M := tn_m46) rfl (by decide +kernel) rfl rfl
theorem kc_46_24 : am_code tn_G 46 24 = some (.getfield 21, 3, 0) := am_code_of (M := tn_m46) rfl (by decide +kernel) rfl rfl
theorem kc_46_27 : am_code tn_G 46 27 = some (.iload_n 1, 1, 0) := am_code_of (M := tn_m46) rfl (by decide +kernel) rfl rfl
theorem kc_46_28 : am_code tn_G 46 28 = some (.invokevirtual 137, 3, 0) := am_code_of (M := tn_m46) rfl (by decide +kernel) rfl rfl
theorem ka_46_137 : am_cal tn_G 46 137 = some (0, 9, 1) := by decide +kernel
theorem kc_46_31 : am_code tn_G 46 31 = some (.iaload, 1, 0) := am_code_of (M := tn_m46) rfl (by decide +kernel) rfl rfl
theorem kc_46_32 : am_code tn_G 46 32 = some (.goto 4, 3, 36) := am_code_of (M := tn_m46) rfl (by decide +kernel) rfl (by decide +kernel)
theorem kc_46_35 : am_code tn_G 46 35 = some (.iconst (-1), 1, 0) := am_code_of (M := tn_m46) rfl (by decide +kernel) rfl rfl
theorem kc_46_36 : am_code tn_G 46 36 = some (.ireturn, 1, 0) := am_code_of (M := tn_m46) rfl (by decide +kernel) rfl rfl
-- 47: TermNet.part(II)I
theorem kl_47 : am_ml tn_G 47 = 3 := rfl
theorem ko_47 : am_oc tn_G 47 = 4 := rfl
theorem kn_47 : am_nc tn_G 47 = 2 := rfl
theorem kr_47 : am_rt tn_G 47 = 1 := rfl
theorem kc_47_0 : am_code tn_G 47 0 = some (.aload_n 0, 1, 0) := am_code_of (M := tn_m47) rfl (by decide +kernel) rfl rfl
theorem kc_47_1 : am_code tn_G 47 1 = some (.iload_n 1, 1, 0) := am_code_of (M := tn_m47) rfl (by decide +kernel) rfl rfl
theorem kc_47_2 : am_code tn_G 47 2 = some (.invokevirtual 101, 3, 0) := am_code_of (M := tn_m47) rfl (by decide +kernel) rfl rfl
theorem ka_47_101 : am_cal tn_G 47 101 = some (0, 44, 1) := by decide +kernel
theorem kc_47_5 : am_code tn_G 47 5 = some (.iload_n 2, 1, 0) := am_code_of (M := tn_m47) rfl (by decide +kernel) rfl rfl
theorem kc_47_6 : am_code tn_G 47 6 = some (.ifCond .lt 15, 3, 21) := am_code_of (M := tn_m47) rfl (by decide +kernel) rfl (by decide +kernel)
theorem kc_47_9 : am_code tn_G 47 9 = some (.iload_n 2, 1, 0) := am_code_of (M := tn_m47) rfl (by decide +kernel) rfl rfl
theorem kc_47_10 : am_code tn_G 47 10 = some (.aload_n 0, 1, 0) := am_code_of (M := tn_m47) rfl (by decide +kernel) rfl rfl
theorem kc_47_11 : am_code tn_G 47 11 = some (.getfield 21, 3, 0) := am_code_of (M := tn_m47) rfl (by decide +kernel) rfl rfl
theorem kf_47_21 : am_fld tn_G 47 21 = some (4, 1) := by decide +kernel
theorem kc_47_14 : am_code tn_G 47 14 = some (.iload_n 1, 1, 0) := am_code_of (M := tn_m47) rfl (by decide +kernel) rfl rfl
theorem kc_47_15 : am_code tn_G 47 15 = some (.invokevirtual 140, 3, 0) := am_code_of (M := tn_m47) rfl (by decide +kernel) rfl rfl
theorem ka_47_140 : am_cal tn_G 47 140 = some (0, 11, 1) := by decide +kernel
theorem kc_47_18 : am_code tn_G 47 18 = some (.if_icmp .lt 13, 3, 31) := am_code_of (M := tn_m47) rfl (by decide +kernel) rfl (by decide +kernel)
theorem kc_47_21 : am_code tn_G 47 21 = some (.new 143, 3, 0) := am_code_of (M := tn_m47) rfl (by decide +kernel) rfl rfl
theorem kt_47_21 : am_th tn_G 47 21 = some "java/util/NoSuchElementException" := by decide +kernel
theorem kc_47_31 : am_code tn_G 47 31 = some (.aload_n 0, 1, 0) := am_code_of (M := tn_m47) rfl (by decide +kernel) rfl rfl
theorem kc_47_32 : am_code tn_G 47 32 = some (.getfield 21, 3, 0) := am_code_of (M := tn_m47) rfl (by decide +kernel) rfl rfl
theorem kc_47_35 : am_code tn_G 47 35 = some (.iload_n 1, 1, 0) := am_code_of (M := tn_m47) rfl (by decide +kernel) rfl rfl
theorem kc_47_36 : am_code tn_G 47 36 = some (.iload_n 2, 1, 0) := am_code_of (M := tn_m47) rfl (by decide +kernel) rfl rfl
theorem kc_47_37 : am_code tn_G 47 37 = some (.invokevirtual 148, 3, 0) := am_code_of (M := tn_m47) rfl (by decide +kernel) rfl rfl
theorem ka_47_148 : am_cal tn_G 47 148 = some (0, 12, 2) := by decide +kernel
theorem kc_47_40 : am_code tn_G 47 40 = some (.ireturn, 1, 0) := am_code_of (M := tn_m47) rfl (by decide +kernel) rfl rfl
-- 48: TermNet.least(I)I
theorem kl_48 : am_ml tn_G 48 = 2 := rfl
theorem ko_48 : am_oc tn_G 48 = 4 := rfl
theorem kn_48 : am_nc tn_G 48 = 1 := rfl
theorem kr_48 : am_rt tn_G 48 = 1 := rfl
theorem kc_48_0 : am_code tn_G 48 0 = some (.aload_n 0, 1, 0) := am_code_of (M := tn_m48) rfl (by decide +kernel) rfl rfl
theorem kc_48_1 : am_code tn_G 48 1 = some (.iload_n 1, 1, 0) := am_code_of (M := tn_m48) rfl (by decide +kernel) rfl rfl
theorem kc_48_2 : am_code tn_G 48 2 = some (.invokevirtual 101, 3, 0) := am_code_of (M := tn_m48) rfl (by decide +kernel) rfl rfl
theorem ka_48_101 : am_cal tn_G 48 101 = some (0, 44, 1) := by decide +kernel
theorem kc_48_5 : am_code tn_G 48 5 = some (.aload_n 0, 1, 0) := am_code_of (M := tn_m48) rfl (by decide +kernel) rfl rfl
theorem kc_48_6 : am_code tn_G 48 6 = some (.getfield 21, 3, 0) := am_code_of (M := tn_m48) rfl (by decide +kernel) rfl rfl
theorem kf_48_21 : am_fld tn_G 48 21 = some (4, 1) := by decide +kernel
theorem kc_48_9 : am_code tn_G 48 9 = some (.iload_n 1, 1, 0) := am_code_of (M := tn_m48) rfl (by decide +kernel) rfl rfl
theorem kc_48_10 : am_code tn_G 48 10 = some (.invokevirtual 128, 3, 0) := am_code_of (M := tn_m48) rfl (by decide +kernel) rfl rfl
theorem ka_48_128 : am_cal tn_G 48 128 = some (0, 10, 1) := by decide +kernel
theorem kc_48_13 : am_code tn_G 48 13 = some (.ireturn, 1, 0) := am_code_of (M := tn_m48) rfl (by decide +kernel) rfl rfl
-- 49: TermNet.size(I)I
theorem kl_49 : am_ml tn_G 49 = 2 := rfl
theorem ko_49 : am_oc tn_G 49 = 4 := rfl
theorem kn_49 : am_nc tn_G 49 = 1 := rfl
theorem kr_49 : am_rt tn_G 49 = 1 := rfl
theorem kc_49_0 : am_code tn_G 49 0 = some (.aload_n 0, 1, 0) := am_code_of (M := tn_m49) rfl (by decide +kernel) rfl rfl
theorem kc_49_1 : am_code tn_G 49 1 = some (.iload_n 1, 1, 0) := am_code_of (M := tn_m49) rfl (by decide +kernel) rfl rfl
theorem kc_49_2 : am_code tn_G 49 2 = some (.invokevirtual 101, 3, 0) := am_code_of (M := tn_m49) rfl (by decide +kernel) rfl rfl
theorem ka_49_101 : am_cal tn_G 49 101 = some (0, 44, 1) := by decide +kernel
theorem kc_49_5 : am_code tn_G 49 5 = some (.aload_n 0, 1, 0) := am_code_of (M := tn_m49) rfl (by decide +kernel) rfl rfl
theorem kc_49_6 : am_code tn_G 49 6 = some (.getfield 30, 3, 0) := am_code_of (M := tn_m49) rfl (by decide +kernel) rfl rfl
theorem kf_49_30 : am_fld tn_G 49 30 = some (4, 2) := by decide +kernel
theorem kc_49_9 : am_code tn_G 49 9 = some (.iload_n 1, 1, 0) := am_code_of (M := tn_m49) rfl (by decide +kernel) rfl rfl
theorem kc_49_10 : am_code tn_G 49 10 = some (.invokevirtual 152, 3, 0) := am_code_of (M := tn_m49) rfl (by decide +kernel) rfl rfl
theorem ka_49_152 : am_cal tn_G 49 152 = some (0, 31, 1) := by decide +kernel
theorem kc_49_13 : am_code tn_G 49 13 = some (.ireturn, 1, 0) := am_code_of (M := tn_m49) rfl (by decide +kernel) rfl rfl
-- 50: TermNet.depth(I)I
theorem kl_50 : am_ml tn_G 50 = 2 := rfl
theorem ko_50 : am_oc tn_G 50 = 4 := rfl
theorem kn_50 : am_nc tn_G 50 = 1 := rfl
theorem kr_50 : am_rt tn_G 50 = 1 := rfl
theorem kc_50_0 : am_code tn_G 50 0 = some (.aload_n 0, 1, 0) := am_code_of (M := tn_m50) rfl (by decide +kernel) rfl rfl
theorem kc_50_1 : am_code tn_G 50 1 = some (.iload_n 1, 1, 0) := am_code_of (M := tn_m50) rfl (by decide +kernel) rfl rfl
theorem kc_50_2 : am_code tn_G 50 2 = some (.invokevirtual 101, 3, 0) := am_code_of (M := tn_m50) rfl (by decide +kernel) rfl rfl
theorem ka_50_101 : am_cal tn_G 50 101 = some (0, 44, 1) := by decide +kernel
theorem kc_50_5 : am_code tn_G 50 5 = some (.aload_n 0, 1, 0) := am_code_of (M := tn_m50) rfl (by decide +kernel) rfl rfl
theorem kc_50_6 : am_code tn_G 50 6 = some (.getfield 30, 3, 0) := am_code_of (M := tn_m50) rfl (by decide +kernel) rfl rfl
theorem kf_50_30 : am_fld tn_G 50 30 = some (4, 2) := by decide +kernel
theorem kc_50_9 : am_code tn_G 50 9 = some (.iload_n 1, 1, 0) := am_code_of (M := tn_m50) rfl (by decide +kernel) rfl rfl
theorem kc_50_10 : am_code tn_G 50 10 = some (.invokevirtual 155, 3, 0) := am_code_of (M := tn_m50) rfl (by decide +kernel) rfl rfl
theorem ka_50_155 : am_cal tn_G 50 155 = some (0, 34, 1) := by decide +kernel
theorem kc_50_13 : am_code tn_G 50 13 = some (.ireturn, 1, 0) := am_code_of (M := tn_m50) rfl (by decide +kernel) rfl rfl
-- 51: TermNet.inside(II)Z
theorem kl_51 : am_ml tn_G 51 = 3 := rfl
theorem ko_51 : am_oc tn_G 51 = 4 := rfl
theorem kn_51 : am_nc tn_G 51 = 2 := rfl
theorem kr_51 : am_rt tn_G 51 = 2 := rfl
theorem kc_51_0 : am_code tn_G 51 0 = some (.aload_n 0, 1, 0) := am_code_of (M := tn_m51) rfl (by decide +kernel) rfl rfl
theorem kc_51_1 : am_code tn_G 51 1 = some (.iload_n 1, 1, 0) := am_code_of (M := tn_m51) rfl (by decide +kernel) rfl rfl
theorem kc_51_2 : am_code tn_G 51 2 = some (.invokevirtual 101, 3, 0) := am_code_of (M := tn_m51) rfl (by decide +kernel) rfl rfl
theorem ka_51_101 : am_cal tn_G 51 101 = some (0, 44, 1) := by decide +kernel
theorem kc_51_5 : am_code tn_G 51 5 = some (.aload_n 0, 1, 0) := am_code_of (M := tn_m51) rfl (by decide +kernel) rfl rfl
theorem kc_51_6 : am_code tn_G 51 6 = some (.iload_n 2, 1, 0) := am_code_of (M := tn_m51) rfl (by decide +kernel) rfl rfl
theorem kc_51_7 : am_code tn_G 51 7 = some (.invokevirtual 101, 3, 0) := am_code_of (M := tn_m51) rfl (by decide +kernel) rfl rfl
theorem kc_51_10 : am_code tn_G 51 10 = some (.aload_n 0, 1, 0) := am_code_of (M := tn_m51) rfl (by decide +kernel) rfl rfl
theorem kc_51_11 : am_code tn_G 51 11 = some (.getfield 21, 3, 0) := am_code_of (M := tn_m51) rfl (by decide +kernel) rfl rfl
theorem kf_51_21 : am_fld tn_G 51 21 = some (4, 1) := by decide +kernel
theorem kc_51_14 : am_code tn_G 51 14 = some (.iload_n 1, 1, 0) := am_code_of (M := tn_m51) rfl (by decide +kernel) rfl rfl
theorem kc_51_15 : am_code tn_G 51 15 = some (.invokevirtual 131, 3, 0) := am_code_of (M := tn_m51) rfl (by decide +kernel) rfl rfl
theorem ka_51_131 : am_cal tn_G 51 131 = some (0, 15, 1) := by decide +kernel
theorem kc_51_18 : am_code tn_G 51 18 = some (.ifCond .ne 19, 3, 37) := am_code_of (M := tn_m51) rfl (by decide +kernel) rfl (by decide +kernel)
theorem kc_51_21 : am_code tn_G 51 21 = some (.aload_n 0, 1, 0) := am_code_of (M := tn_m51) rfl (by decide +kernel) rfl rfl
theorem kc_51_22 : am_code tn_G 51 22 = some (.getfield 30, 3, 0) := am_code_of (M := tn_m51) rfl (by decide +kernel) rfl rfl
theorem kf_51_30 : am_fld tn_G 51 30 = some (4, 2) := by decide +kernel
theorem kc_51_25 : am_code tn_G 51 25 = some (.iload_n 1, 1, 0) := am_code_of (M := tn_m51) rfl (by decide +kernel) rfl rfl
theorem kc_51_26 : am_code tn_G 51 26 = some (.iload_n 2, 1, 0) := am_code_of (M := tn_m51) rfl (by decide +kernel) rfl rfl
theorem kc_51_27 : am_code tn_G 51 27 = some (.invokevirtual 158, 3, 0) := am_code_of (M := tn_m51) rfl (by decide +kernel) rfl rfl
theorem ka_51_158 : am_cal tn_G 51 158 = some (0, 36, 2) := by decide +kernel
theorem kc_51_30 : am_code tn_G 51 30 = some (.ifCond .eq 7, 3, 37) := am_code_of (M := tn_m51) rfl (by decide +kernel) rfl (by decide +kernel)
theorem kc_51_33 : am_code tn_G 51 33 = some (.iconst 1, 1, 0) := am_code_of (M := tn_m51) rfl (by decide +kernel) rfl rfl
theorem kc_51_34 : am_code tn_G 51 34 = some (.goto 4, 3, 38) := am_code_of (M := tn_m51) rfl (by decide +kernel) rfl (by decide +kernel)
theorem kc_51_37 : am_code tn_G 51 37 = some (.iconst 0, 1, 0) := am_code_of (M := tn_m51) rfl (by decide +kernel) rfl rfl
theorem kc_51_38 : am_code tn_G 51 38 = some (.ireturn, 1, 0) := am_code_of (M := tn_m51) rfl (by decide +kernel) rfl rfl
-- 52: TermNet.unknowns(I)I
theorem kl_52 : am_ml tn_G 52 = 2 := rfl
theorem ko_52 : am_oc tn_G 52 = 4 := rfl
theorem kn_52 : am_nc tn_G 52 = 1 := rfl
theorem kr_52 : am_rt tn_G 52 = 1 := rfl
theorem kc_52_0 : am_code tn_G 52 0 = some (.aload_n 0, 1, 0) := am_code_of (M := tn_m52) rfl (by decide +kernel) rfl rfl
theorem kc_52_1 : am_code tn_G 52 1 = some (.iload_n 1, 1, 0) := am_code_of (M := tn_m52) rfl (by decide +kernel) rfl rfl
theorem kc_52_2 : am_code tn_G 52 2 = some (.invokevirtual 101, 3, 0) := am_code_of (M := tn_m52) rfl (by decide +kernel) rfl rfl
theorem ka_52_101 : am_cal tn_G 52 101 = some (0, 44, 1) := by decide +kernel
theorem kc_52_5 : am_code tn_G 52 5 = some (.aload_n 0, 1, 0) := am_code_of (M := tn_m52) rfl (by decide +kernel) rfl rfl
theorem kc_52_6 : am_code tn_G 52 6 = some (.getfield 30, 3, 0) := am_code_of (M := tn_m52) rfl (by decide +kernel) rfl rfl
theorem kf_52_30 : am_fld tn_G 52 30 = some (4, 2) := by decide +kernel
theorem kc_52_9 : am_code tn_G 52 9 = some (.iload_n 1, 1, 0) := am_code_of (M := tn_m52) rfl (by decide +kernel) rfl rfl
theorem kc_52_10 : am_code tn_G 52 10 = some (.invokevirtual 162, 3, 0) := am_code_of (M := tn_m52) rfl (by decide +kernel) rfl rfl
theorem ka_52_162 : am_cal tn_G 52 162 = some (0, 37, 1) := by decide +kernel
theorem kc_52_13 : am_code tn_G 52 13 = some (.ireturn, 1, 0) := am_code_of (M := tn_m52) rfl (by decide +kernel) rfl rfl
-- 53: TermNet.mark()I
theorem kl_53 : am_ml tn_G 53 = 1 := rfl
theorem ko_53 : am_oc tn_G 53 = 4 := rfl
theorem kn_53 : am_nc tn_G 53 = 1 := rfl
theorem kr_53 : am_rt tn_G 53 = 1 := rfl
theorem kc_53_0 : am_code tn_G 53 0 = some (.aload_n 0, 1, 0) := am_code_of (M := tn_m53) rfl (by decide +kernel) rfl rfl
theorem kc_53_1 : am_code tn_G 53 1 = some (.getfield 51, 3, 0) := am_code_of (M := tn_m53) rfl (by decide +kernel) rfl rfl
theorem kf_53_51 : am_fld tn_G 53 51 = some (4, 7) := by decide +kernel
theorem kc_53_4 : am_code tn_G 53 4 = some (.bipush 20, 2, 0) := am_code_of (M := tn_m53) rfl (by decide +kernel) rfl rfl
theorem kc_53_6 : am_code tn_G 53 6 = some (.if_icmp .ne 13, 3, 19) := am_code_of (M := tn_m53) rfl (by decide +kernel) rfl (by decide +kernel)
theorem kc_53_9 : am_code tn_G 53 9 = some (.new 68, 3, 0) := am_code_of (M := tn_m53) rfl (by decide +kernel) rfl rfl
theorem kt_53_9 : am_th tn_G 53 9 = some "java/lang/IndexOutOfBoundsException" := by decide +kernel
theorem kc_53_19 : am_code tn_G 53 19 = some (.aload_n 0, 1, 0) := am_code_of (M := tn_m53) rfl (by decide +kernel) rfl rfl
theorem kc_53_20 : am_code tn_G 53 20 = some (.getfield 41, 3, 0) := am_code_of (M := tn_m53) rfl (by decide +kernel) rfl rfl
theorem kf_53_41 : am_fld tn_G 53 41 = some (4, 4) := by decide +kernel
theorem kc_53_23 : am_code tn_G 53 23 = some (.aload_n 0, 1, 0) := am_code_of (M := tn_m53) rfl (by decide +kernel) rfl rfl
theorem kc_53_24 : am_code tn_G 53 24 = some (.getfield 51, 3, 0) := am_code_of (M := tn_m53) rfl (by decide +kernel) rfl rfl
theorem kc_53_27 : am_code tn_G 53 27 = some (.aload_n 0, 1, 0) := am_code_of (M := tn_m53) rfl (by decide +kernel) rfl rfl
theorem kc_53_28 : am_code tn_G 53 28 = some (.getfield 10, 3, 0) := am_code_of (M := tn_m53) rfl (by decide +kernel) rfl rfl
theorem kf_53_10 : am_fld tn_G 53 10 = some (4, 0) := by decide +kernel
theorem kc_53_31 : am_code tn_G 53 31 = some (.getfield 115, 3, 0) := am_code_of (M := tn_m53) rfl (by decide +kernel) rfl rfl
theorem kf_53_115 : am_fld tn_G 53 115 = some (1, 4) := by decide +kernel
theorem kc_53_34 : am_code tn_G 53 34 = some (.iastore, 1, 0) := am_code_of (M := tn_m53) rfl (by decide +kernel) rfl rfl
theorem kc_53_35 : am_code tn_G 53 35 = some (.aload_n 0, 1, 0) := am_code_of (M := tn_m53) rfl (by decide +kernel) rfl rfl
theorem kc_53_36 : am_code tn_G 53 36 = some (.getfield 45, 3, 0) := am_code_of (M := tn_m53) rfl (by decide +kernel) rfl rfl
theorem kf_53_45 : am_fld tn_G 53 45 = some (4, 5) := by decide +kernel
theorem kc_53_39 : am_code tn_G 53 39 = some (.aload_n 0, 1, 0) := am_code_of (M := tn_m53) rfl (by decide +kernel) rfl rfl
theorem kc_53_40 : am_code tn_G 53 40 = some (.getfield 51, 3, 0) := am_code_of (M := tn_m53) rfl (by decide +kernel) rfl rfl
theorem kc_53_43 : am_code tn_G 53 43 = some (.aload_n 0, 1, 0) := am_code_of (M := tn_m53) rfl (by decide +kernel) rfl rfl
theorem kc_53_44 : am_code tn_G 53 44 = some (.getfield 21, 3, 0) := am_code_of (M := tn_m53) rfl (by decide +kernel) rfl rfl
theorem kf_53_21 : am_fld tn_G 53 21 = some (4, 1) := by decide +kernel
theorem kc_53_47 : am_code tn_G 53 47 = some (.getfield 104, 3, 0) := am_code_of (M := tn_m53) rfl (by decide +kernel) rfl rfl
theorem kf_53_104 : am_fld tn_G 53 104 = some (0, 5) := by decide +kernel
theorem kc_53_50 : am_code tn_G 53 50 = some (.iastore, 1, 0) := am_code_of (M := tn_m53) rfl (by decide +kernel) rfl rfl
theorem kc_53_51 : am_code tn_G 53 51 = some (.aload_n 0, 1, 0) := am_code_of (M := tn_m53) rfl (by decide +kernel) rfl rfl
theorem kc_53_52 : am_code tn_G 53 52 = some (.getfield 48, 3, 0) := am_code_of (M := tn_m53) rfl (by decide +kernel) rfl rfl
theorem kf_53_48 : am_fld tn_G 53 48 = some (4, 6) := by decide +kernel
theorem kc_53_55 : am_code tn_G 53 55 = some (.aload_n 0, 1, 0) := am_code_of (M := tn_m53) rfl (by decide +kernel) rfl rfl
theorem kc_53_56 : am_code tn_G 53 56 = some (.getfield 51, 3, 0) := am_code_of (M := tn_m53) rfl (by decide +kernel) rfl rfl
theorem kc_53_59 : am_code tn_G 53 59 = some (.aload_n 0, 1, 0) := am_code_of (M := tn_m53) rfl (by decide +kernel) rfl rfl
theorem kc_53_60 : am_code tn_G 53 60 = some (.getfield 55, 3, 0) := am_code_of (M := tn_m53) rfl (by decide +kernel) rfl rfl
theorem kf_53_55 : am_fld tn_G 53 55 = some (4, 8) := by decide +kernel
theorem kc_53_63 : am_code tn_G 53 63 = some (.iastore, 1, 0) := am_code_of (M := tn_m53) rfl (by decide +kernel) rfl rfl
theorem kc_53_64 : am_code tn_G 53 64 = some (.aload_n 0, 1, 0) := am_code_of (M := tn_m53) rfl (by decide +kernel) rfl rfl
theorem kc_53_65 : am_code tn_G 53 65 = some (.dup, 1, 0) := am_code_of (M := tn_m53) rfl (by decide +kernel) rfl rfl
theorem kc_53_66 : am_code tn_G 53 66 = some (.getfield 51, 3, 0) := am_code_of (M := tn_m53) rfl (by decide +kernel) rfl rfl
theorem kc_53_69 : am_code tn_G 53 69 = some (.iconst 1, 1, 0) := am_code_of (M := tn_m53) rfl (by decide +kernel) rfl rfl
theorem kc_53_70 : am_code tn_G 53 70 = some (.iadd, 1, 0) := am_code_of (M := tn_m53) rfl (by decide +kernel) rfl rfl
theorem kc_53_71 : am_code tn_G 53 71 = some (.putfield 51, 3, 0) := am_code_of (M := tn_m53) rfl (by decide +kernel) rfl rfl
theorem kc_53_74 : am_code tn_G 53 74 = some (.aload_n 0, 1, 0) := am_code_of (M := tn_m53) rfl (by decide +kernel) rfl rfl
theorem kc_53_75 : am_code tn_G 53 75 = some (.getfield 51, 3, 0) := am_code_of (M := tn_m53) rfl (by decide +kernel) rfl rfl
theorem kc_53_78 : am_code tn_G 53 78 = some (.ireturn, 1, 0) := am_code_of (M := tn_m53) rfl (by decide +kernel) rfl rfl
-- 54: TermNet.back()I
theorem kl_54 : am_ml tn_G 54 = 1 := rfl
theorem ko_54 : am_oc tn_G 54 = 4 := rfl
theorem kn_54 : am_nc tn_G 54 = 1 := rfl
theorem kr_54 : am_rt tn_G 54 = 1 := rfl
theorem kc_54_0 : am_code tn_G 54 0 = some (.aload_n 0, 1, 0) := am_code_of (M := tn_m54) rfl (by decide +kernel) rfl rfl
theorem kc_54_1 : am_code tn_G 54 1 = some (.getfield 51, 3, 0) := am_code_of (M := tn_m54) rfl (by decide +kernel) rfl rfl
theorem kf_54_51 : am_fld tn_G 54 51 = some (4, 7) := by decide +kernel
theorem kc_54_4 : am_code tn_G 54 4 = some (.ifCond .ne 13, 3, 17) := am_code_of (M := tn_m54) rfl (by decide +kernel) rfl (by decide +kernel)
theorem kc_54_7 : am_code tn_G 54 7 = some (.new 143, 3, 0) := am_code_of (M := tn_m54) rfl (by decide +kernel) rfl rfl
theorem kt_54_7 : am_th tn_G 54 7 = some "java/util/NoSuchElementException" := by decide +kernel
theorem kc_54_17 : am_code tn_G 54 17 = some (.aload_n 0, 1, 0) := am_code_of (M := tn_m54) rfl (by decide +kernel) rfl rfl
theorem kc_54_18 : am_code tn_G 54 18 = some (.dup, 1, 0) := am_code_of (M := tn_m54) rfl (by decide +kernel) rfl rfl
theorem kc_54_19 : am_code tn_G 54 19 = some (.getfield 51, 3, 0) := am_code_of (M := tn_m54) rfl (by decide +kernel) rfl rfl
theorem kc_54_22 : am_code tn_G 54 22 = some (.iconst 1, 1, 0) := am_code_of (M := tn_m54) rfl (by decide +kernel) rfl rfl
theorem kc_54_23 : am_code tn_G 54 23 = some (.isub, 1, 0) := am_code_of (M := tn_m54) rfl (by decide +kernel) rfl rfl
theorem kc_54_24 : am_code tn_G 54 24 = some (.putfield 51, 3, 0) := am_code_of (M := tn_m54) rfl (by decide +kernel) rfl rfl
theorem kc_54_27 : am_code tn_G 54 27 = some (.aload_n 0, 1, 0) := am_code_of (M := tn_m54) rfl (by decide +kernel) rfl rfl
theorem kc_54_28 : am_code tn_G 54 28 = some (.getfield 21, 3, 0) := am_code_of (M := tn_m54) rfl (by decide +kernel) rfl rfl
theorem kf_54_21 : am_fld tn_G 54 21 = some (4, 1) := by decide +kernel
theorem kc_54_31 : am_code tn_G 54 31 = some (.aload_n 0, 1, 0) := am_code_of (M := tn_m54) rfl (by decide +kernel) rfl rfl
theorem kc_54_32 : am_code tn_G 54 32 = some (.getfield 45, 3, 0) := am_code_of (M := tn_m54) rfl (by decide +kernel) rfl rfl
theorem kf_54_45 : am_fld tn_G 54 45 = some (4, 5) := by decide +kernel
theorem kc_54_35 : am_code tn_G 54 35 = some (.aload_n 0, 1, 0) := am_code_of (M := tn_m54) rfl (by decide +kernel) rfl rfl
theorem kc_54_36 : am_code tn_G 54 36 = some (.getfield 51, 3, 0) := am_code_of (M := tn_m54) rfl (by decide +kernel) rfl rfl
theorem kc_54_39 : am_code tn_G 54 39 = some (.iaload, 1, 0) := am_code_of (M := tn_m54) rfl (by decide +kernel) rfl rfl
theorem kc_54_40 : am_code tn_G 54 40 = some (.invokevirtual 121, 3, 0) := am_code_of (M := tn_m54) rfl (by decide +kernel) rfl rfl
theorem ka_54_121 : am_cal tn_G 54 121 = some (0, 13, 1) := by decide +kernel
theorem kc_54_43 : am_code tn_G 54 43 = some (.aload_n 0, 1, 0) := am_code_of (M := tn_m54) rfl (by decide +kernel) rfl rfl
theorem kc_54_44 : am_code tn_G 54 44 = some (.getfield 10, 3, 0) := am_code_of (M := tn_m54) rfl (by decide +kernel) rfl rfl
theorem kf_54_10 : am_fld tn_G 54 10 = some (4, 0) := by decide +kernel
theorem kc_54_47 : am_code tn_G 54 47 = some (.aload_n 0, 1, 0) := am_code_of (M := tn_m54) rfl (by decide +kernel) rfl rfl
theorem kc_54_48 : am_code tn_G 54 48 = some (.getfield 41, 3, 0) := am_code_of (M := tn_m54) rfl (by decide +kernel) rfl rfl
theorem kf_54_41 : am_fld tn_G 54 41 = some (4, 4) := by decide +kernel
theorem kc_54_51 : am_code tn_G 54 51 = some (.aload_n 0, 1, 0) := am_code_of (M := tn_m54) rfl (by decide +kernel) rfl rfl
theorem kc_54_52 : am_code tn_G 54 52 = some (.getfield 51, 3, 0) := am_code_of (M := tn_m54) rfl (by decide +kernel) rfl rfl
theorem kc_54_55 : am_code tn_G 54 55 = some (.iaload, 1, 0) := am_code_of (M := tn_m54) rfl (by decide +kernel) rfl rfl
theorem kc_54_56 : am_code tn_G 54 56 = some (.putfield 115, 3, 0) := am_code_of (M := tn_m54) rfl (by decide +kernel) rfl rfl
theorem kf_54_115 : am_fld tn_G 54 115 = some (1, 4) := by decide +kernel
theorem kc_54_59 : am_code tn_G 54 59 = some (.aload_n 0, 1, 0) := am_code_of (M := tn_m54) rfl (by decide +kernel) rfl rfl
theorem kc_54_60 : am_code tn_G 54 60 = some (.aload_n 0, 1, 0) := am_code_of (M := tn_m54) rfl (by decide +kernel) rfl rfl
theorem kc_54_61 : am_code tn_G 54 61 = some (.getfield 48, 3, 0) := am_code_of (M := tn_m54) rfl (by decide +kernel) rfl rfl
theorem kf_54_48 : am_fld tn_G 54 48 = some (4, 6) := by decide +kernel
theorem kc_54_64 : am_code tn_G 54 64 = some (.aload_n 0, 1, 0) := am_code_of (M := tn_m54) rfl (by decide +kernel) rfl rfl
theorem kc_54_65 : am_code tn_G 54 65 = some (.getfield 51, 3, 0) := am_code_of (M := tn_m54) rfl (by decide +kernel) rfl rfl
theorem kc_54_68 : am_code tn_G 54 68 = some (.iaload, 1, 0) := am_code_of (M := tn_m54) rfl (by decide +kernel) rfl rfl
theorem kc_54_69 : am_code tn_G 54 69 = some (.putfield 55, 3, 0) := am_code_of (M := tn_m54) rfl (by decide +kernel) rfl rfl
theorem kf_54_55 : am_fld tn_G 54 55 = some (4, 8) := by decide +kernel
theorem kc_54_72 : am_code tn_G 54 72 = some (.aload_n 0, 1, 0) := am_code_of (M := tn_m54) rfl (by decide +kernel) rfl rfl
theorem kc_54_73 : am_code tn_G 54 73 = some (.getfield 51, 3, 0) := am_code_of (M := tn_m54) rfl (by decide +kernel) rfl rfl
theorem kc_54_76 : am_code tn_G 54 76 = some (.ireturn, 1, 0) := am_code_of (M := tn_m54) rfl (by decide +kernel) rfl rfl
-- 77: java/lang/Math.floorMod(II)I
theorem kl_77 : am_ml tn_G 77 = 3 := rfl
theorem ko_77 : am_oc tn_G 77 = 6 := rfl
theorem kn_77 : am_nc tn_G 77 = 0 := rfl
theorem kr_77 : am_rt tn_G 77 = 1 := rfl
theorem kc_77_0 : am_code tn_G 77 0 = some (.iload_n 0, 1, 0) := am_code_of (M := tn_m77) rfl (by decide +kernel) rfl rfl
theorem kc_77_1 : am_code tn_G 77 1 = some (.iload_n 1, 1, 0) := am_code_of (M := tn_m77) rfl (by decide +kernel) rfl rfl
theorem kc_77_2 : am_code tn_G 77 2 = some (.irem, 1, 0) := am_code_of (M := tn_m77) rfl (by decide +kernel) rfl rfl
theorem kc_77_3 : am_code tn_G 77 3 = some (.istore_n 2, 1, 0) := am_code_of (M := tn_m77) rfl (by decide +kernel) rfl rfl
theorem kc_77_4 : am_code tn_G 77 4 = some (.iload_n 0, 1, 0) := am_code_of (M := tn_m77) rfl (by decide +kernel) rfl rfl
theorem kc_77_5 : am_code tn_G 77 5 = some (.iload_n 1, 1, 0) := am_code_of (M := tn_m77) rfl (by decide +kernel) rfl rfl
theorem kc_77_6 : am_code tn_G 77 6 = some (.ixor, 1, 0) := am_code_of (M := tn_m77) rfl (by decide +kernel) rfl rfl
theorem kc_77_7 : am_code tn_G 77 7 = some (.ifCond .ge 11, 3, 18) := am_code_of (M := tn_m77) rfl (by decide +kernel) rfl (by decide +kernel)
theorem kc_77_10 : am_code tn_G 77 10 = some (.iload_n 2, 1, 0) := am_code_of (M := tn_m77) rfl (by decide +kernel) rfl rfl
theorem kc_77_11 : am_code tn_G 77 11 = some (.ifCond .eq 7, 3, 18) := am_code_of (M := tn_m77) rfl (by decide +kernel) rfl (by decide +kernel)
theorem kc_77_14 : am_code tn_G 77 14 = some (.iload_n 2, 1, 0) := am_code_of (M := tn_m77) rfl (by decide +kernel) rfl rfl
theorem kc_77_15 : am_code tn_G 77 15 = some (.iload_n 1, 1, 0) := am_code_of (M := tn_m77) rfl (by decide +kernel) rfl rfl
theorem kc_77_16 : am_code tn_G 77 16 = some (.iadd, 1, 0) := am_code_of (M := tn_m77) rfl (by decide +kernel) rfl rfl
theorem kc_77_17 : am_code tn_G 77 17 = some (.ireturn, 1, 0) := am_code_of (M := tn_m77) rfl (by decide +kernel) rfl rfl
theorem kc_77_18 : am_code tn_G 77 18 = some (.iload_n 2, 1, 0) := am_code_of (M := tn_m77) rfl (by decide +kernel) rfl rfl
theorem kc_77_19 : am_code tn_G 77 19 = some (.ireturn, 1, 0) := am_code_of (M := tn_m77) rfl (by decide +kernel) rfl rfl
-- 78: java/util/Arrays.fill([II)V
theorem kl_78 : am_ml tn_G 78 = 4 := rfl
theorem ko_78 : am_oc tn_G 78 = 7 := rfl
theorem kn_78 : am_nc tn_G 78 = 0 := rfl
theorem kr_78 : am_rt tn_G 78 = 0 := rfl
theorem kc_78_0 : am_code tn_G 78 0 = some (.iconst 0, 1, 0) := am_code_of (M := tn_m78) rfl (by decide +kernel) rfl rfl
theorem kc_78_1 : am_code tn_G 78 1 = some (.istore_n 2, 1, 0) := am_code_of (M := tn_m78) rfl (by decide +kernel) rfl rfl
theorem kc_78_2 : am_code tn_G 78 2 = some (.aload_n 0, 1, 0) := am_code_of (M := tn_m78) rfl (by decide +kernel) rfl rfl
theorem kc_78_3 : am_code tn_G 78 3 = some (.arraylength, 1, 0) := am_code_of (M := tn_m78) rfl (by decide +kernel) rfl rfl
theorem kc_78_4 : am_code tn_G 78 4 = some (.istore_n 3, 1, 0) := am_code_of (M := tn_m78) rfl (by decide +kernel) rfl rfl
theorem kc_78_5 : am_code tn_G 78 5 = some (.iload_n 2, 1, 0) := am_code_of (M := tn_m78) rfl (by decide +kernel) rfl rfl
theorem kc_78_6 : am_code tn_G 78 6 = some (.iload_n 3, 1, 0) := am_code_of (M := tn_m78) rfl (by decide +kernel) rfl rfl
theorem kc_78_7 : am_code tn_G 78 7 = some (.if_icmp .ge 13, 3, 20) := am_code_of (M := tn_m78) rfl (by decide +kernel) rfl (by decide +kernel)
theorem kc_78_10 : am_code tn_G 78 10 = some (.aload_n 0, 1, 0) := am_code_of (M := tn_m78) rfl (by decide +kernel) rfl rfl
theorem kc_78_11 : am_code tn_G 78 11 = some (.iload_n 2, 1, 0) := am_code_of (M := tn_m78) rfl (by decide +kernel) rfl rfl
theorem kc_78_12 : am_code tn_G 78 12 = some (.iload_n 1, 1, 0) := am_code_of (M := tn_m78) rfl (by decide +kernel) rfl rfl
theorem kc_78_13 : am_code tn_G 78 13 = some (.iastore, 1, 0) := am_code_of (M := tn_m78) rfl (by decide +kernel) rfl rfl
theorem kc_78_14 : am_code tn_G 78 14 = some (.iinc 2 1, 3, 0) := am_code_of (M := tn_m78) rfl (by decide +kernel) rfl rfl
theorem kc_78_17 : am_code tn_G 78 17 = some (.goto (-12), 3, 5) := am_code_of (M := tn_m78) rfl (by decide +kernel) rfl (by decide +kernel)
theorem kc_78_20 : am_code tn_G 78 20 = some (.return_, 1, 0) := am_code_of (M := tn_m78) rfl (by decide +kernel) rfl rfl
