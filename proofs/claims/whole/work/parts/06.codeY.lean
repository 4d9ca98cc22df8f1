/-! Rows of the code, laid by wip/whole/mk04.py: kc_method_pc, kf_ a field, ka_ a call, ki_ kL_ constants, kt_ a throw; kl_ locals, ko_ class, kn_ room, kr_ answer -/
-- 55: TermNetModel.thrown()I
theorem kl_55 : am_ml tn_G 55 = 1 := rfl
theorem ko_55 : am_oc tn_G 55 = 5 := rfl
theorem kn_55 : am_nc tn_G 55 = 0 := rfl
theorem kr_55 : am_rt tn_G 55 = 1 := rfl
theorem kc_55_0 : am_code tn_G 55 0 = some (.aload_n 0, 1, 0) := am_code_of (M := tn_m55) rfl (by decide +kernel) rfl rfl
theorem kc_55_1 : am_code tn_G 55 1 = some (.getfield 50, 3, 0) := am_code_of (M := tn_m55) rfl (by decide +kernel) rfl rfl
theorem kf_55_50 : am_fld tn_G 55 50 = some (5, 7) := by decide +kernel
theorem kc_55_4 : am_code tn_G 55 4 = some (.ireturn, 1, 0) := am_code_of (M := tn_m55) rfl (by decide +kernel) rfl rfl
-- 56: TermNetModel.sign(I)I
theorem kl_56 : am_ml tn_G 56 = 2 := rfl
theorem ko_56 : am_oc tn_G 56 = 5 := rfl
theorem kn_56 : am_nc tn_G 56 = 0 := rfl
theorem kr_56 : am_rt tn_G 56 = 1 := rfl
theorem kc_56_0 : am_code tn_G 56 0 = some (.aload_n 0, 1, 0) := am_code_of (M := tn_m56) rfl (by decide +kernel) rfl rfl
theorem kc_56_1 : am_code tn_G 56 1 = some (.iload_n 1, 1, 0) := am_code_of (M := tn_m56) rfl (by decide +kernel) rfl rfl
theorem kc_56_2 : am_code tn_G 56 2 = some (.ifCond .lt 8, 3, 10) := am_code_of (M := tn_m56) rfl (by decide +kernel) rfl (by decide +kernel)
theorem kc_56_5 : am_code tn_G 56 5 = some (.iload_n 1, 1, 0) := am_code_of (M := tn_m56) rfl (by decide +kernel) rfl rfl
theorem kc_56_6 : am_code tn_G 56 6 = some (.iconst 3, 1, 0) := am_code_of (M := tn_m56) rfl (by decide +kernel) rfl rfl
theorem kc_56_7 : am_code tn_G 56 7 = some (.if_icmp .le 7, 3, 14) := am_code_of (M := tn_m56) rfl (by decide +kernel) rfl (by decide +kernel)
theorem kc_56_10 : am_code tn_G 56 10 = some (.iconst 1, 1, 0) := am_code_of (M := tn_m56) rfl (by decide +kernel) rfl rfl
theorem kc_56_11 : am_code tn_G 56 11 = some (.goto 17, 3, 28) := am_code_of (M := tn_m56) rfl (by decide +kernel) rfl (by decide +kernel)
theorem kc_56_14 : am_code tn_G 56 14 = some (.aload_n 0, 1, 0) := am_code_of (M := tn_m56) rfl (by decide +kernel) rfl rfl
theorem kc_56_15 : am_code tn_G 56 15 = some (.getfield 57, 3, 0) := am_code_of (M := tn_m56) rfl (by decide +kernel) rfl rfl
theorem kf_56_57 : am_fld tn_G 56 57 = some (5, 3) := by decide +kernel
theorem kc_56_18 : am_code tn_G 56 18 = some (.bipush 40, 2, 0) := am_code_of (M := tn_m56) rfl (by decide +kernel) rfl rfl
theorem kc_56_20 : am_code tn_G 56 20 = some (.if_icmp .ne 7, 3, 27) := am_code_of (M := tn_m56) rfl (by decide +kernel) rfl (by decide +kernel)
theorem kc_56_23 : am_code tn_G 56 23 = some (.iconst 2, 1, 0) := am_code_of (M := tn_m56) rfl (by decide +kernel) rfl rfl
theorem kc_56_24 : am_code tn_G 56 24 = some (.goto 4, 3, 28) := am_code_of (M := tn_m56) rfl (by decide +kernel) rfl (by decide +kernel)
theorem kc_56_27 : am_code tn_G 56 27 = some (.iconst 0, 1, 0) := am_code_of (M := tn_m56) rfl (by decide +kernel) rfl rfl
theorem kc_56_28 : am_code tn_G 56 28 = some (.putfield 50, 3, 0) := am_code_of (M := tn_m56) rfl (by decide +kernel) rfl rfl
theorem kf_56_50 : am_fld tn_G 56 50 = some (5, 7) := by decide +kernel
theorem kc_56_31 : am_code tn_G 56 31 = some (.aload_n 0, 1, 0) := am_code_of (M := tn_m56) rfl (by decide +kernel) rfl rfl
theorem kc_56_32 : am_code tn_G 56 32 = some (.getfield 50, 3, 0) := am_code_of (M := tn_m56) rfl (by decide +kernel) rfl rfl
theorem kc_56_35 : am_code tn_G 56 35 = some (.ifCond .le 5, 3, 40) := am_code_of (M := tn_m56) rfl (by decide +kernel) rfl (by decide +kernel)
theorem kc_56_38 : am_code tn_G 56 38 = some (.iconst 0, 1, 0) := am_code_of (M := tn_m56) rfl (by decide +kernel) rfl rfl
theorem kc_56_39 : am_code tn_G 56 39 = some (.ireturn, 1, 0) := am_code_of (M := tn_m56) rfl (by decide +kernel) rfl rfl
theorem kc_56_40 : am_code tn_G 56 40 = some (.aload_n 0, 1, 0) := am_code_of (M := tn_m56) rfl (by decide +kernel) rfl rfl
theorem kc_56_41 : am_code tn_G 56 41 = some (.getfield 9, 3, 0) := am_code_of (M := tn_m56) rfl (by decide +kernel) rfl rfl
theorem kf_56_9 : am_fld tn_G 56 9 = some (5, 0) := by decide +kernel
theorem kc_56_44 : am_code tn_G 56 44 = some (.aload_n 0, 1, 0) := am_code_of (M := tn_m56) rfl (by decide +kernel) rfl rfl
theorem kc_56_45 : am_code tn_G 56 45 = some (.getfield 57, 3, 0) := am_code_of (M := tn_m56) rfl (by decide +kernel) rfl rfl
theorem kc_56_48 : am_code tn_G 56 48 = some (.iload_n 1, 1, 0) := am_code_of (M := tn_m56) rfl (by decide +kernel) rfl rfl
theorem kc_56_49 : am_code tn_G 56 49 = some (.iastore, 1, 0) := am_code_of (M := tn_m56) rfl (by decide +kernel) rfl rfl
theorem kc_56_50 : am_code tn_G 56 50 = some (.aload_n 0, 1, 0) := am_code_of (M := tn_m56) rfl (by decide +kernel) rfl rfl
theorem kc_56_51 : am_code tn_G 56 51 = some (.dup, 1, 0) := am_code_of (M := tn_m56) rfl (by decide +kernel) rfl rfl
theorem kc_56_52 : am_code tn_G 56 52 = some (.getfield 57, 3, 0) := am_code_of (M := tn_m56) rfl (by decide +kernel) rfl rfl
theorem kc_56_55 : am_code tn_G 56 55 = some (.iconst 1, 1, 0) := am_code_of (M := tn_m56) rfl (by decide +kernel) rfl rfl
theorem kc_56_56 : am_code tn_G 56 56 = some (.iadd, 1, 0) := am_code_of (M := tn_m56) rfl (by decide +kernel) rfl rfl
theorem kc_56_57 : am_code tn_G 56 57 = some (.putfield 57, 3, 0) := am_code_of (M := tn_m56) rfl (by decide +kernel) rfl rfl
theorem kc_56_60 : am_code tn_G 56 60 = some (.aload_n 0, 1, 0) := am_code_of (M := tn_m56) rfl (by decide +kernel) rfl rfl
theorem kc_56_61 : am_code tn_G 56 61 = some (.getfield 57, 3, 0) := am_code_of (M := tn_m56) rfl (by decide +kernel) rfl rfl
theorem kc_56_64 : am_code tn_G 56 64 = some (.iconst 1, 1, 0) := am_code_of (M := tn_m56) rfl (by decide +kernel) rfl rfl
theorem kc_56_65 : am_code tn_G 56 65 = some (.isub, 1, 0) := am_code_of (M := tn_m56) rfl (by decide +kernel) rfl rfl
theorem kc_56_66 : am_code tn_G 56 66 = some (.ireturn, 1, 0) := am_code_of (M := tn_m56) rfl (by decide +kernel) rfl rfl
-- 57: TermNetModel.unknown()I
theorem kl_57 : am_ml tn_G 57 = 1 := rfl
theorem ko_57 : am_oc tn_G 57 = 5 := rfl
theorem kn_57 : am_nc tn_G 57 = 0 := rfl
theorem kr_57 : am_rt tn_G 57 = 1 := rfl
theorem kc_57_0 : am_code tn_G 57 0 = some (.aload_n 0, 1, 0) := am_code_of (M := tn_m57) rfl (by decide +kernel) rfl rfl
theorem kc_57_1 : am_code tn_G 57 1 = some (.aload_n 0, 1, 0) := am_code_of (M := tn_m57) rfl (by decide +kernel) rfl rfl
theorem kc_57_2 : am_code tn_G 57 2 = some (.getfield 54, 3, 0) := am_code_of (M := tn_m57) rfl (by decide +kernel) rfl rfl
theorem kf_57_54 : am_fld tn_G 57 54 = some (5, 4) := by decide +kernel
theorem kc_57_5 : am_code tn_G 57 5 = some (.sipush 400, 3, 0) := am_code_of (M := tn_m57) rfl (by decide +kernel) rfl rfl
theorem kc_57_8 : am_code tn_G 57 8 = some (.if_icmp .ne 7, 3, 15) := am_code_of (M := tn_m57) rfl (by decide +kernel) rfl (by decide +kernel)
theorem kc_57_11 : am_code tn_G 57 11 = some (.iconst 1, 1, 0) := am_code_of (M := tn_m57) rfl (by decide +kernel) rfl rfl
theorem kc_57_12 : am_code tn_G 57 12 = some (.goto 4, 3, 16) := am_code_of (M := tn_m57) rfl (by decide +kernel) rfl (by decide +kernel)
theorem kc_57_15 : am_code tn_G 57 15 = some (.iconst 0, 1, 0) := am_code_of (M := tn_m57) rfl (by decide +kernel) rfl rfl
theorem kc_57_16 : am_code tn_G 57 16 = some (.putfield 50, 3, 0) := am_code_of (M := tn_m57) rfl (by decide +kernel) rfl rfl
theorem kf_57_50 : am_fld tn_G 57 50 = some (5, 7) := by decide +kernel
theorem kc_57_19 : am_code tn_G 57 19 = some (.aload_n 0, 1, 0) := am_code_of (M := tn_m57) rfl (by decide +kernel) rfl rfl
theorem kc_57_20 : am_code tn_G 57 20 = some (.getfield 50, 3, 0) := am_code_of (M := tn_m57) rfl (by decide +kernel) rfl rfl
theorem kc_57_23 : am_code tn_G 57 23 = some (.ifCond .le 7, 3, 30) := am_code_of (M := tn_m57) rfl (by decide +kernel) rfl (by decide +kernel)
theorem kc_57_26 : am_code tn_G 57 26 = some (.iconst 0, 1, 0) := am_code_of (M := tn_m57) rfl (by decide +kernel) rfl rfl
theorem kc_57_27 : am_code tn_G 57 27 = some (.goto 11, 3, 38) := am_code_of (M := tn_m57) rfl (by decide +kernel) rfl (by decide +kernel)
theorem kc_57_30 : am_code tn_G 57 30 = some (.aload_n 0, 1, 0) := am_code_of (M := tn_m57) rfl (by decide +kernel) rfl rfl
theorem kc_57_31 : am_code tn_G 57 31 = some (.iconst (-1), 1, 0) := am_code_of (M := tn_m57) rfl (by decide +kernel) rfl rfl
theorem kc_57_32 : am_code tn_G 57 32 = some (.iconst 0, 1, 0) := am_code_of (M := tn_m57) rfl (by decide +kernel) rfl rfl
theorem kc_57_33 : am_code tn_G 57 33 = some (.iconst 0, 1, 0) := am_code_of (M := tn_m57) rfl (by decide +kernel) rfl rfl
theorem kc_57_34 : am_code tn_G 57 34 = some (.iconst 0, 1, 0) := am_code_of (M := tn_m57) rfl (by decide +kernel) rfl rfl
theorem kc_57_35 : am_code tn_G 57 35 = some (.invokevirtual 64, 3, 0) := am_code_of (M := tn_m57) rfl (by decide +kernel) rfl rfl
theorem ka_57_64 : am_cal tn_G 57 64 = some (0, 58, 4) := by decide +kernel
theorem kc_57_38 : am_code tn_G 57 38 = some (.ireturn, 1, 0) := am_code_of (M := tn_m57) rfl (by decide +kernel) rfl rfl
-- 58: TermNetModel.add(IIII)I
theorem kl_58 : am_ml tn_G 58 = 6 := rfl
theorem ko_58 : am_oc tn_G 58 = 5 := rfl
theorem kn_58 : am_nc tn_G 58 = 0 := rfl
theorem kr_58 : am_rt tn_G 58 = 1 := rfl
theorem kc_58_0 : am_code tn_G 58 0 = some (.aload_n 0, 1, 0) := am_code_of (M := tn_m58) rfl (by decide +kernel) rfl rfl
theorem kc_58_1 : am_code tn_G 58 1 = some (.getfield 13, 3, 0) := am_code_of (M := tn_m58) rfl (by decide +kernel) rfl rfl
theorem kf_58_13 : am_fld tn_G 58 13 = some (5, 1) := by decide +kernel
theorem kc_58_4 : am_code tn_G 58 4 = some (.aload_n 0, 1, 0) := am_code_of (M := tn_m58) rfl (by decide +kernel) rfl rfl
theorem kc_58_5 : am_code tn_G 58 5 = some (.getfield 54, 3, 0) := am_code_of (M := tn_m58) rfl (by decide +kernel) rfl rfl
theorem kf_58_54 : am_fld tn_G 58 54 = some (5, 4) := by decide +kernel
theorem kc_58_8 : am_code tn_G 58 8 = some (.iload_n 1, 1, 0) := am_code_of (M := tn_m58) rfl (by decide +kernel) rfl rfl
theorem kc_58_9 : am_code tn_G 58 9 = some (.iastore, 1, 0) := am_code_of (M := tn_m58) rfl (by decide +kernel) rfl rfl
theorem kc_58_10 : am_code tn_G 58 10 = some (.aload_n 0, 1, 0) := am_code_of (M := tn_m58) rfl (by decide +kernel) rfl rfl
theorem kc_58_11 : am_code tn_G 58 11 = some (.getfield 16, 3, 0) := am_code_of (M := tn_m58) rfl (by decide +kernel) rfl rfl
theorem kf_58_16 : am_fld tn_G 58 16 = some (5, 2) := by decide +kernel
theorem kc_58_14 : am_code tn_G 58 14 = some (.iconst 3, 1, 0) := am_code_of (M := tn_m58) rfl (by decide +kernel) rfl rfl
theorem kc_58_15 : am_code tn_G 58 15 = some (.aload_n 0, 1, 0) := am_code_of (M := tn_m58) rfl (by decide +kernel) rfl rfl
theorem kc_58_16 : am_code tn_G 58 16 = some (.getfield 54, 3, 0) := am_code_of (M := tn_m58) rfl (by decide +kernel) rfl rfl
theorem kc_58_19 : am_code tn_G 58 19 = some (.imul, 1, 0) := am_code_of (M := tn_m58) rfl (by decide +kernel) rfl rfl
theorem kc_58_20 : am_code tn_G 58 20 = some (.iload_n 2, 1, 0) := am_code_of (M := tn_m58) rfl (by decide +kernel) rfl rfl
theorem kc_58_21 : am_code tn_G 58 21 = some (.iastore, 1, 0) := am_code_of (M := tn_m58) rfl (by decide +kernel) rfl rfl
theorem kc_58_22 : am_code tn_G 58 22 = some (.aload_n 0, 1, 0) := am_code_of (M := tn_m58) rfl (by decide +kernel) rfl rfl
theorem kc_58_23 : am_code tn_G 58 23 = some (.getfield 16, 3, 0) := am_code_of (M := tn_m58) rfl (by decide +kernel) rfl rfl
theorem kc_58_26 : am_code tn_G 58 26 = some (.iconst 3, 1, 0) := am_code_of (M := tn_m58) rfl (by decide +kernel) rfl rfl
theorem kc_58_27 : am_code tn_G 58 27 = some (.aload_n 0, 1, 0) := am_code_of (M := tn_m58) rfl (by decide +kernel) rfl rfl
theorem kc_58_28 : am_code tn_G 58 28 = some (.getfield 54, 3, 0) := am_code_of (M := tn_m58) rfl (by decide +kernel) rfl rfl
theorem kc_58_31 : am_code tn_G 58 31 = some (.imul, 1, 0) := am_code_of (M := tn_m58) rfl (by decide +kernel) rfl rfl
theorem kc_58_32 : am_code tn_G 58 32 = some (.iconst 1, 1, 0) := am_code_of (M := tn_m58) rfl (by decide +kernel) rfl rfl
theorem kc_58_33 : am_code tn_G 58 33 = some (.iadd, 1, 0) := am_code_of (M := tn_m58) rfl (by decide +kernel) rfl rfl
theorem kc_58_34 : am_code tn_G 58 34 = some (.iload_n 3, 1, 0) := am_code_of (M := tn_m58) rfl (by decide +kernel) rfl rfl
theorem kc_58_35 : am_code tn_G 58 35 = some (.iastore, 1, 0) := am_code_of (M := tn_m58) rfl (by decide +kernel) rfl rfl
theorem kc_58_36 : am_code tn_G 58 36 = some (.aload_n 0, 1, 0) := am_code_of (M := tn_m58) rfl (by decide +kernel) rfl rfl
theorem kc_58_37 : am_code tn_G 58 37 = some (.getfield 16, 3, 0) := am_code_of (M := tn_m58) rfl (by decide +kernel) rfl rfl
theorem kc_58_40 : am_code tn_G 58 40 = some (.iconst 3, 1, 0) := am_code_of (M := tn_m58) rfl (by decide +kernel) rfl rfl
theorem kc_58_41 : am_code tn_G 58 41 = some (.aload_n 0, 1, 0) := am_code_of (M := tn_m58) rfl (by decide +kernel) rfl rfl
theorem kc_58_42 : am_code tn_G 58 42 = some (.getfield 54, 3, 0) := am_code_of (M := tn_m58) rfl (by decide +kernel) rfl rfl
theorem kc_58_45 : am_code tn_G 58 45 = some (.imul, 1, 0) := am_code_of (M := tn_m58) rfl (by decide +kernel) rfl rfl
theorem kc_58_46 : am_code tn_G 58 46 = some (.iconst 2, 1, 0) := am_code_of (M := tn_m58) rfl (by decide +kernel) rfl rfl
theorem kc_58_47 : am_code tn_G 58 47 = some (.iadd, 1, 0) := am_code_of (M := tn_m58) rfl (by decide +kernel) rfl rfl
theorem kc_58_48 : am_code tn_G 58 48 = some (.iload 4, 2, 0) := am_code_of (M := tn_m58) rfl (by decide +kernel) rfl rfl
theorem kc_58_50 : am_code tn_G 58 50 = some (.iastore, 1, 0) := am_code_of (M := tn_m58) rfl (by decide +kernel) rfl rfl
theorem kc_58_51 : am_code tn_G 58 51 = some (.aload_n 0, 1, 0) := am_code_of (M := tn_m58) rfl (by decide +kernel) rfl rfl
theorem kc_58_52 : am_code tn_G 58 52 = some (.getfield 19, 3, 0) := am_code_of (M := tn_m58) rfl (by decide +kernel) rfl rfl
theorem kf_58_19 : am_fld tn_G 58 19 = some (5, 8) := by decide +kernel
theorem kc_58_55 : am_code tn_G 58 55 = some (.aload_n 0, 1, 0) := am_code_of (M := tn_m58) rfl (by decide +kernel) rfl rfl
theorem kc_58_56 : am_code tn_G 58 56 = some (.getfield 54, 3, 0) := am_code_of (M := tn_m58) rfl (by decide +kernel) rfl rfl
theorem kc_58_59 : am_code tn_G 58 59 = some (.aload_n 0, 1, 0) := am_code_of (M := tn_m58) rfl (by decide +kernel) rfl rfl
theorem kc_58_60 : am_code tn_G 58 60 = some (.getfield 54, 3, 0) := am_code_of (M := tn_m58) rfl (by decide +kernel) rfl rfl
theorem kc_58_63 : am_code tn_G 58 63 = some (.iastore, 1, 0) := am_code_of (M := tn_m58) rfl (by decide +kernel) rfl rfl
theorem kc_58_64 : am_code tn_G 58 64 = some (.aload_n 0, 1, 0) := am_code_of (M := tn_m58) rfl (by decide +kernel) rfl rfl
theorem kc_58_65 : am_code tn_G 58 65 = some (.dup, 1, 0) := am_code_of (M := tn_m58) rfl (by decide +kernel) rfl rfl
theorem kc_58_66 : am_code tn_G 58 66 = some (.getfield 54, 3, 0) := am_code_of (M := tn_m58) rfl (by decide +kernel) rfl rfl
theorem kc_58_69 : am_code tn_G 58 69 = some (.iconst 1, 1, 0) := am_code_of (M := tn_m58) rfl (by decide +kernel) rfl rfl
theorem kc_58_70 : am_code tn_G 58 70 = some (.iadd, 1, 0) := am_code_of (M := tn_m58) rfl (by decide +kernel) rfl rfl
theorem kc_58_71 : am_code tn_G 58 71 = some (.putfield 54, 3, 0) := am_code_of (M := tn_m58) rfl (by decide +kernel) rfl rfl
theorem kc_58_74 : am_code tn_G 58 74 = some (.aload_n 0, 1, 0) := am_code_of (M := tn_m58) rfl (by decide +kernel) rfl rfl
theorem kc_58_75 : am_code tn_G 58 75 = some (.aload_n 0, 1, 0) := am_code_of (M := tn_m58) rfl (by decide +kernel) rfl rfl
theorem kc_58_76 : am_code tn_G 58 76 = some (.getfield 19, 3, 0) := am_code_of (M := tn_m58) rfl (by decide +kernel) rfl rfl
theorem kc_58_79 : am_code tn_G 58 79 = some (.invokevirtual 60, 3, 0) := am_code_of (M := tn_m58) rfl (by decide +kernel) rfl rfl
theorem ka_58_60 : am_cal tn_G 58 60 = some (0, 59, 1) := by decide +kernel
theorem kc_58_82 : am_code tn_G 58 82 = some (.istore 5, 2, 0) := am_code_of (M := tn_m58) rfl (by decide +kernel) rfl rfl
theorem kc_58_84 : am_code tn_G 58 84 = some (.aload_n 0, 1, 0) := am_code_of (M := tn_m58) rfl (by decide +kernel) rfl rfl
theorem kc_58_85 : am_code tn_G 58 85 = some (.getfield 54, 3, 0) := am_code_of (M := tn_m58) rfl (by decide +kernel) rfl rfl
theorem kc_58_88 : am_code tn_G 58 88 = some (.iconst 1, 1, 0) := am_code_of (M := tn_m58) rfl (by decide +kernel) rfl rfl
theorem kc_58_89 : am_code tn_G 58 89 = some (.isub, 1, 0) := am_code_of (M := tn_m58) rfl (by decide +kernel) rfl rfl
theorem kc_58_90 : am_code tn_G 58 90 = some (.ireturn, 1, 0) := am_code_of (M := tn_m58) rfl (by decide +kernel) rfl rfl
-- 59: TermNetModel.close([I)Z
theorem kl_59 : am_ml tn_G 59 = 7 := rfl
theorem ko_59 : am_oc tn_G 59 = 5 := rfl
theorem kn_59 : am_nc tn_G 59 = 0 := rfl
theorem kr_59 : am_rt tn_G 59 = 2 := rfl
theorem kc_59_0 : am_code tn_G 59 0 = some (.iconst 1, 1, 0) := am_code_of (M := tn_m59) rfl (by decide +kernel) rfl rfl
theorem kc_59_1 : am_code tn_G 59 1 = some (.istore_n 2, 1, 0) := am_code_of (M := tn_m59) rfl (by decide +kernel) rfl rfl
theorem kc_59_2 : am_code tn_G 59 2 = some (.iload_n 2, 1, 0) := am_code_of (M := tn_m59) rfl (by decide +kernel) rfl rfl
theorem kc_59_3 : am_code tn_G 59 3 = some (.ifCond .eq 289, 3, 292) := am_code_of (M := tn_m59) rfl (by decide +kernel) rfl (by decide +kernel)
theorem kc_59_6 : am_code tn_G 59 6 = some (.iconst 0, 1, 0) := am_code_of (M := tn_m59) rfl (by decide +kernel) rfl rfl
theorem kc_59_7 : am_code tn_G 59 7 = some (.istore_n 2, 1, 0) := am_code_of (M := tn_m59) rfl (by decide +kernel) rfl rfl
theorem kc_59_8 : am_code tn_G 59 8 = some (.iconst 0, 1, 0) := am_code_of (M := tn_m59) rfl (by decide +kernel) rfl rfl
theorem kc_59_9 : am_code tn_G 59 9 = some (.istore_n 3, 1, 0) := am_code_of (M := tn_m59) rfl (by decide +kernel) rfl rfl
theorem kc_59_10 : am_code tn_G 59 10 = some (.iload_n 3, 1, 0) := am_code_of (M := tn_m59) rfl (by decide +kernel) rfl rfl
theorem kc_59_11 : am_code tn_G 59 11 = some (.aload_n 0, 1, 0) := am_code_of (M := tn_m59) rfl (by decide +kernel) rfl rfl
theorem kc_59_12 : am_code tn_G 59 12 = some (.getfield 54, 3, 0) := am_code_of (M := tn_m59) rfl (by decide +kernel) rfl rfl
theorem kf_59_54 : am_fld tn_G 59 54 = some (5, 4) := by decide +kernel
theorem kc_59_15 : am_code tn_G 59 15 = some (.if_icmp .ge 274, 3, 289) := am_code_of (M := tn_m59) rfl (by decide +kernel) rfl (by decide +kernel)
theorem kc_59_18 : am_code tn_G 59 18 = some (.iconst 0, 1, 0) := am_code_of (M := tn_m59) rfl (by decide +kernel) rfl rfl
theorem kc_59_19 : am_code tn_G 59 19 = some (.istore 4, 2, 0) := am_code_of (M := tn_m59) rfl (by decide +kernel) rfl rfl
theorem kc_59_21 : am_code tn_G 59 21 = some (.iload 4, 2, 0) := am_code_of (M := tn_m59) rfl (by decide +kernel) rfl rfl
theorem kc_59_23 : am_code tn_G 59 23 = some (.iload_n 3, 1, 0) := am_code_of (M := tn_m59) rfl (by decide +kernel) rfl rfl
theorem kc_59_24 : am_code tn_G 59 24 = some (.if_icmp .ge 259, 3, 283) := am_code_of (M := tn_m59) rfl (by decide +kernel) rfl (by decide +kernel)
theorem kc_59_27 : am_code tn_G 59 27 = some (.aload_n 0, 1, 0) := am_code_of (M := tn_m59) rfl (by decide +kernel) rfl rfl
theorem kc_59_28 : am_code tn_G 59 28 = some (.getfield 13, 3, 0) := am_code_of (M := tn_m59) rfl (by decide +kernel) rfl rfl
theorem kf_59_13 : am_fld tn_G 59 13 = some (5, 1) := by decide +kernel
theorem kc_59_31 : am_code tn_G 59 31 = some (.iload_n 3, 1, 0) := am_code_of (M := tn_m59) rfl (by decide +kernel) rfl rfl
theorem kc_59_32 : am_code tn_G 59 32 = some (.iaload, 1, 0) := am_code_of (M := tn_m59) rfl (by decide +kernel) rfl rfl
theorem kc_59_33 : am_code tn_G 59 33 = some (.ifCond .lt 250, 3, 283) := am_code_of (M := tn_m59) rfl (by decide +kernel) rfl (by decide +kernel)
theorem kc_59_36 : am_code tn_G 59 36 = some (.aload_n 0, 1, 0) := am_code_of (M := tn_m59) rfl (by decide +kernel) rfl rfl
theorem kc_59_37 : am_code tn_G 59 37 = some (.getfield 13, 3, 0) := am_code_of (M := tn_m59) rfl (by decide +kernel) rfl rfl
theorem kc_59_40 : am_code tn_G 59 40 = some (.iload 4, 2, 0) := am_code_of (M := tn_m59) rfl (by decide +kernel) rfl rfl
theorem kc_59_42 : am_code tn_G 59 42 = some (.iaload, 1, 0) := am_code_of (M := tn_m59) rfl (by decide +kernel) rfl rfl
theorem kc_59_43 : am_code tn_G 59 43 = some (.ifCond .ge 6, 3, 49) := am_code_of (M := tn_m59) rfl (by decide +kernel) rfl (by decide +kernel)
theorem kc_59_46 : am_code tn_G 59 46 = some (.goto 231, 3, 277) := am_code_of (M := tn_m59) rfl (by decide +kernel) rfl (by decide +kernel)
theorem kc_59_49 : am_code tn_G 59 49 = some (.aload_n 1, 1, 0) := am_code_of (M := tn_m59) rfl (by decide +kernel) rfl rfl
theorem kc_59_50 : am_code tn_G 59 50 = some (.iload_n 3, 1, 0) := am_code_of (M := tn_m59) rfl (by decide +kernel) rfl rfl
theorem kc_59_51 : am_code tn_G 59 51 = some (.iaload, 1, 0) := am_code_of (M := tn_m59) rfl (by decide +kernel) rfl rfl
theorem kc_59_52 : am_code tn_G 59 52 = some (.aload_n 1, 1, 0) := am_code_of (M := tn_m59) rfl (by decide +kernel) rfl rfl
theorem kc_59_53 : am_code tn_G 59 53 = some (.iload 4, 2, 0) := am_code_of (M := tn_m59) rfl (by decide +kernel) rfl rfl
theorem kc_59_55 : am_code tn_G 59 55 = some (.iaload, 1, 0) := am_code_of (M := tn_m59) rfl (by decide +kernel) rfl rfl
theorem kc_59_56 : am_code tn_G 59 56 = some (.if_icmp .ne 21, 3, 77) := am_code_of (M := tn_m59) rfl (by decide +kernel) rfl (by decide +kernel)
theorem kc_59_59 : am_code tn_G 59 59 = some (.aload_n 0, 1, 0) := am_code_of (M := tn_m59) rfl (by decide +kernel) rfl rfl
theorem kc_59_60 : am_code tn_G 59 60 = some (.getfield 13, 3, 0) := am_code_of (M := tn_m59) rfl (by decide +kernel) rfl rfl
theorem kc_59_63 : am_code tn_G 59 63 = some (.iload_n 3, 1, 0) := am_code_of (M := tn_m59) rfl (by decide +kernel) rfl rfl
theorem kc_59_64 : am_code tn_G 59 64 = some (.iaload, 1, 0) := am_code_of (M := tn_m59) rfl (by decide +kernel) rfl rfl
theorem kc_59_65 : am_code tn_G 59 65 = some (.aload_n 0, 1, 0) := am_code_of (M := tn_m59) rfl (by decide +kernel) rfl rfl
theorem kc_59_66 : am_code tn_G 59 66 = some (.getfield 13, 3, 0) := am_code_of (M := tn_m59) rfl (by decide +kernel) rfl rfl
theorem kc_59_69 : am_code tn_G 59 69 = some (.iload 4, 2, 0) := am_code_of (M := tn_m59) rfl (by decide +kernel) rfl rfl
theorem kc_59_71 : am_code tn_G 59 71 = some (.iaload, 1, 0) := am_code_of (M := tn_m59) rfl (by decide +kernel) rfl rfl
theorem kc_59_72 : am_code tn_G 59 72 = some (.if_icmp .eq 5, 3, 77) := am_code_of (M := tn_m59) rfl (by decide +kernel) rfl (by decide +kernel)
theorem kc_59_75 : am_code tn_G 59 75 = some (.iconst 0, 1, 0) := am_code_of (M := tn_m59) rfl (by decide +kernel) rfl rfl
theorem kc_59_76 : am_code tn_G 59 76 = some (.ireturn, 1, 0) := am_code_of (M := tn_m59) rfl (by decide +kernel) rfl rfl
theorem kc_59_77 : am_code tn_G 59 77 = some (.aload_n 0, 1, 0) := am_code_of (M := tn_m59) rfl (by decide +kernel) rfl rfl
theorem kc_59_78 : am_code tn_G 59 78 = some (.getfield 13, 3, 0) := am_code_of (M := tn_m59) rfl (by decide +kernel) rfl rfl
theorem kc_59_81 : am_code tn_G 59 81 = some (.iload_n 3, 1, 0) := am_code_of (M := tn_m59) rfl (by decide +kernel) rfl rfl
theorem kc_59_82 : am_code tn_G 59 82 = some (.iaload, 1, 0) := am_code_of (M := tn_m59) rfl (by decide +kernel) rfl rfl
theorem kc_59_83 : am_code tn_G 59 83 = some (.aload_n 0, 1, 0) := am_code_of (M := tn_m59) rfl (by decide +kernel) rfl rfl
theorem kc_59_84 : am_code tn_G 59 84 = some (.getfield 13, 3, 0) := am_code_of (M := tn_m59) rfl (by decide +kernel) rfl rfl
theorem kc_59_87 : am_code tn_G 59 87 = some (.iload 4, 2, 0) := am_code_of (M := tn_m59) rfl (by decide +kernel) rfl rfl
theorem kc_59_89 : am_code tn_G 59 89 = some (.iaload, 1, 0) := am_code_of (M := tn_m59) rfl (by decide +kernel) rfl rfl
theorem kc_59_90 : am_code tn_G 59 90 = some (.if_icmp .eq 6, 3, 96) := am_code_of (M := tn_m59) rfl (by decide +kernel) rfl (by decide +kernel)
theorem kc_59_93 : am_code tn_G 59 93 = some (.goto 184, 3, 277) := am_code_of (M := tn_m59) rfl (by decide +kernel) rfl (by decide +kernel)
theorem kc_59_96 : am_code tn_G 59 96 = some (.iconst 0, 1, 0) := am_code_of (M := tn_m59) rfl (by decide +kernel) rfl rfl
theorem kc_59_97 : am_code tn_G 59 97 = some (.istore 5, 2, 0) := am_code_of (M := tn_m59) rfl (by decide +kernel) rfl rfl
theorem kc_59_99 : am_code tn_G 59 99 = some (.iconst 0, 1, 0) := am_code_of (M := tn_m59) rfl (by decide +kernel) rfl rfl
theorem kc_59_100 : am_code tn_G 59 100 = some (.istore 6, 2, 0) := am_code_of (M := tn_m59) rfl (by decide +kernel) rfl rfl
theorem kc_59_102 : am_code tn_G 59 102 = some (.iload 6, 2, 0) := am_code_of (M := tn_m59) rfl (by decide +kernel) rfl rfl
theorem kc_59_104 : am_code tn_G 59 104 = some (.aload_n 0, 1, 0) := am_code_of (M := tn_m59) rfl (by decide +kernel) rfl rfl
theorem kc_59_105 : am_code tn_G 59 105 = some (.getfield 9, 3, 0) := am_code_of (M := tn_m59) rfl (by decide +kernel) rfl rfl
theorem kf_59_9 : am_fld tn_G 59 9 = some (5, 0) := by decide +kernel
theorem kc_59_108 : am_code tn_G 59 108 = some (.aload_n 0, 1, 0) := am_code_of (M := tn_m59) rfl (by decide +kernel) rfl rfl
theorem kc_59_109 : am_code tn_G 59 109 = some (.getfield 13, 3, 0) := am_code_of (M := tn_m59) rfl (by decide +kernel) rfl rfl
theorem kc_59_112 : am_code tn_G 59 112 = some (.iload_n 3, 1, 0) := am_code_of (M := tn_m59) rfl (by decide +kernel) rfl rfl
theorem kc_59_113 : am_code tn_G 59 113 = some (.iaload, 1, 0) := am_code_of (M := tn_m59) rfl (by decide +kernel) rfl rfl
theorem kc_59_114 : am_code tn_G 59 114 = some (.iaload, 1, 0) := am_code_of (M := tn_m59) rfl (by decide +kernel) rfl rfl
theorem kc_59_115 : am_code tn_G 59 115 = some (.if_icmp .ge 42, 3, 157) := am_code_of (M := tn_m59) rfl (by decide +kernel) rfl (by decide +kernel)
theorem kc_59_118 : am_code tn_G 59 118 = some (.aload_n 1, 1, 0) := am_code_of (M := tn_m59) rfl (by decide +kernel) rfl rfl
theorem kc_59_119 : am_code tn_G 59 119 = some (.aload_n 0, 1, 0) := am_code_of (M := tn_m59) rfl (by decide +kernel) rfl rfl
theorem kc_59_120 : am_code tn_G 59 120 = some (.getfield 16, 3, 0) := am_code_of (M := tn_m59) rfl (by decide +kernel) rfl rfl
theorem kf_59_16 : am_fld tn_G 59 16 = some (5, 2) := by decide +kernel
theorem kc_59_123 : am_code tn_G 59 123 = some (.iconst 3, 1, 0) := am_code_of (M := tn_m59) rfl (by decide +kernel) rfl rfl
theorem kc_59_124 : am_code tn_G 59 124 = some (.iload_n 3, 1, 0) := am_code_of (M := tn_m59) rfl (by decide +kernel) rfl rfl
theorem kc_59_125 : am_code tn_G 59 125 = some (.imul, 1, 0) := am_code_of (M := tn_m59) rfl (by decide +kernel) rfl rfl
theorem kc_59_126 : am_code tn_G 59 126 = some (.iload 6, 2, 0) := am_code_of (M := tn_m59) rfl (by decide +kernel) rfl rfl
theorem kc_59_128 : am_code tn_G 59 128 = some (.iadd, 1, 0) := am_code_of (M := tn_m59) rfl (by decide +kernel) rfl rfl
theorem kc_59_129 : am_code tn_G 59 129 = some (.iaload, 1, 0) := am_code_of (M := tn_m59) rfl (by decide +kernel) rfl rfl
theorem kc_59_130 : am_code tn_G 59 130 = some (.iaload, 1, 0) := am_code_of (M := tn_m59) rfl (by decide +kernel) rfl rfl
theorem kc_59_131 : am_code tn_G 59 131 = some (.aload_n 1, 1, 0) := am_code_of (M := tn_m59) rfl (by decide +kernel) rfl rfl
theorem kc_59_132 : am_code tn_G 59 132 = some (.aload_n 0, 1, 0) := am_code_of (M := tn_m59) rfl (by decide +kernel) rfl rfl
theorem kc_59_133 : am_code tn_G 59 133 = some (.getfield 16, 3, 0) := am_code_of (M := tn_m59) rfl (by decide +kernel) rfl rfl
theorem kc_59_136 : am_code tn_G 59 136 = some (.iconst 3, 1, 0) := am_code_of (M := tn_m59) rfl (by decide +kernel) rfl rfl
theorem kc_59_137 : am_code tn_G 59 137 = some (.iload 4, 2, 0) := am_code_of (M := tn_m59) rfl (by decide +kernel) rfl rfl
theorem kc_59_139 : am_code tn_G 59 139 = some (.imul, 1, 0) := am_code_of (M := tn_m59) rfl (by decide +kernel) rfl rfl
theorem kc_59_140 : am_code tn_G 59 140 = some (.iload 6, 2, 0) := am_code_of (M := tn_m59) rfl (by decide +kernel) rfl rfl
theorem kc_59_142 : am_code tn_G 59 142 = some (.iadd, 1, 0) := am_code_of (M := tn_m59) rfl (by decide +kernel) rfl rfl
theorem kc_59_143 : am_code tn_G 59 143 = some (.iaload, 1, 0) := am_code_of (M := tn_m59) rfl (by decide +kernel) rfl rfl
theorem kc_59_144 : am_code tn_G 59 144 = some (.iaload, 1, 0) := am_code_of (M := tn_m59) rfl (by decide +kernel) rfl rfl
theorem kc_59_145 : am_code tn_G 59 145 = some (.if_icmp .ne 6, 3, 151) := am_code_of (M := tn_m59) rfl (by decide +kernel) rfl (by decide +kernel)
theorem kc_59_148 : am_code tn_G 59 148 = some (.iinc 5 1, 3, 0) := am_code_of (M := tn_m59) rfl (by decide +kernel) rfl rfl
theorem kc_59_151 : am_code tn_G 59 151 = some (.iinc 6 1, 3, 0) := am_code_of (M := tn_m59) rfl (by decide +kernel) rfl rfl
theorem kc_59_154 : am_code tn_G 59 154 = some (.goto (-52), 3, 102) := am_code_of (M := tn_m59) rfl (by decide +kernel) rfl (by decide +kernel)
theorem kc_59_157 : am_code tn_G 59 157 = some (.aload_n 1, 1, 0) := am_code_of (M := tn_m59) rfl (by decide +kernel) rfl rfl
theorem kc_59_158 : am_code tn_G 59 158 = some (.iload_n 3, 1, 0) := am_code_of (M := tn_m59) rfl (by decide +kernel) rfl rfl
theorem kc_59_159 : am_code tn_G 59 159 = some (.iaload, 1, 0) := am_code_of (M := tn_m59) rfl (by decide +kernel) rfl rfl
theorem kc_59_160 : am_code tn_G 59 160 = some (.aload_n 1, 1, 0) := am_code_of (M := tn_m59) rfl (by decide +kernel) rfl rfl
theorem kc_59_161 : am_code tn_G 59 161 = some (.iload 4, 2, 0) := am_code_of (M := tn_m59) rfl (by decide +kernel) rfl rfl
theorem kc_59_163 : am_code tn_G 59 163 = some (.iaload, 1, 0) := am_code_of (M := tn_m59) rfl (by decide +kernel) rfl rfl
theorem kc_59_164 : am_code tn_G 59 164 = some (.if_icmp .eq 32, 3, 196) := am_code_of (M := tn_m59) rfl (by decide +kernel) rfl (by decide +kernel)
theorem kc_59_167 : am_code tn_G 59 167 = some (.iload 5, 2, 0) := am_code_of (M := tn_m59) rfl (by decide +kernel) rfl rfl
theorem kc_59_169 : am_code tn_G 59 169 = some (.aload_n 0, 1, 0) := am_code_of (M := tn_m59) rfl (by decide +kernel) rfl rfl
theorem kc_59_170 : am_code tn_G 59 170 = some (.getfield 9, 3, 0) := am_code_of (M := tn_m59) rfl (by decide +kernel) rfl rfl
theorem kc_59_173 : am_code tn_G 59 173 = some (.aload_n 0, 1, 0) := am_code_of (M := tn_m59) rfl (by decide +kernel) rfl rfl
theorem kc_59_174 : am_code tn_G 59 174 = some (.getfield 13, 3, 0) := am_code_of (M := tn_m59) rfl (by decide +kernel) rfl rfl
theorem kc_59_177 : am_code tn_G 59 177 = some (.iload_n 3, 1, 0) := am_code_of (M := tn_m59) rfl (by decide +kernel) rfl rfl
theorem kc_59_178 : am_code tn_G 59 178 = some (.iaload, 1, 0) := am_code_of (M := tn_m59) rfl (by decide +kernel) rfl rfl
theorem kc_59_179 : am_code tn_G 59 179 = some (.iaload, 1, 0) := am_code_of (M := tn_m59) rfl (by decide +kernel) rfl rfl
theorem kc_59_180 : am_code tn_G 59 180 = some (.if_icmp .ne 16, 3, 196) := am_code_of (M := tn_m59) rfl (by decide +kernel) rfl (by decide +kernel)
theorem kc_59_183 : am_code tn_G 59 183 = some (.aload_n 0, 1, 0) := am_code_of (M := tn_m59) rfl (by decide +kernel) rfl rfl
theorem kc_59_184 : am_code tn_G 59 184 = some (.aload_n 1, 1, 0) := am_code_of (M := tn_m59) rfl (by decide +kernel) rfl rfl
theorem kc_59_185 : am_code tn_G 59 185 = some (.iload_n 3, 1, 0) := am_code_of (M := tn_m59) rfl (by decide +kernel) rfl rfl
theorem kc_59_186 : am_code tn_G 59 186 = some (.iload 4, 2, 0) := am_code_of (M := tn_m59) rfl (by decide +kernel) rfl rfl
theorem kc_59_188 : am_code tn_G 59 188 = some (.invokevirtual 72, 3, 0) := am_code_of (M := tn_m59) rfl (by decide +kernel) rfl rfl
theorem ka_59_72 : am_cal tn_G 59 72 = some (0, 60, 3) := by decide +kernel
theorem kc_59_191 : am_code tn_G 59 191 = some (.iconst 1, 1, 0) := am_code_of (M := tn_m59) rfl (by decide +kernel) rfl rfl
theorem kc_59_192 : am_code tn_G 59 192 = some (.istore_n 2, 1, 0) := am_code_of (M := tn_m59) rfl (by decide +kernel) rfl rfl
theorem kc_59_193 : am_code tn_G 59 193 = some (.goto 84, 3, 277) := am_code_of (M := tn_m59) rfl (by decide +kernel) rfl (by decide +kernel)
theorem kc_59_196 : am_code tn_G 59 196 = some (.aload_n 1, 1, 0) := am_code_of (M := tn_m59) rfl (by decide +kernel) rfl rfl
theorem kc_59_197 : am_code tn_G 59 197 = some (.iload_n 3, 1, 0) := am_code_of (M := tn_m59) rfl (by decide +kernel) rfl rfl
theorem kc_59_198 : am_code tn_G 59 198 = some (.iaload, 1, 0) := am_code_of (M := tn_m59) rfl (by decide +kernel) rfl rfl
theorem kc_59_199 : am_code tn_G 59 199 = some (.aload_n 1, 1, 0) := am_code_of (M := tn_m59) rfl (by decide +kernel) rfl rfl
theorem kc_59_200 : am_code tn_G 59 200 = some (.iload 4, 2, 0) := am_code_of (M := tn_m59) rfl (by decide +kernel) rfl rfl
theorem kc_59_202 : am_code tn_G 59 202 = some (.iaload, 1, 0) := am_code_of (M := tn_m59) rfl (by decide +kernel) rfl rfl
theorem kc_59_203 : am_code tn_G 59 203 = some (.if_icmp .ne 74, 3, 277) := am_code_of (M := tn_m59) rfl (by decide +kernel) rfl (by decide +kernel)
theorem kc_59_206 : am_code tn_G 59 206 = some (.iload 5, 2, 0) := am_code_of (M := tn_m59) rfl (by decide +kernel) rfl rfl
theorem kc_59_208 : am_code tn_G 59 208 = some (.aload_n 0, 1, 0) := am_code_of (M := tn_m59) rfl (by decide +kernel) rfl rfl
theorem kc_59_209 : am_code tn_G 59 209 = some (.getfield 9, 3, 0) := am_code_of (M := tn_m59) rfl (by decide +kernel) rfl rfl
theorem kc_59_212 : am_code tn_G 59 212 = some (.aload_n 0, 1, 0) := am_code_of (M := tn_m59) rfl (by decide +kernel) rfl rfl
theorem kc_59_213 : am_code tn_G 59 213 = some (.getfield 13, 3, 0) := am_code_of (M := tn_m59) rfl (by decide +kernel) rfl rfl
theorem kc_59_216 : am_code tn_G 59 216 = some (.iload_n 3, 1, 0) := am_code_of (M := tn_m59) rfl (by decide +kernel) rfl rfl
theorem kc_59_217 : am_code tn_G 59 217 = some (.iaload, 1, 0) := am_code_of (M := tn_m59) rfl (by decide +kernel) rfl rfl
theorem kc_59_218 : am_code tn_G 59 218 = some (.iaload, 1, 0) := am_code_of (M := tn_m59) rfl (by decide +kernel) rfl rfl
theorem kc_59_219 : am_code tn_G 59 219 = some (.if_icmp .ge 58, 3, 277) := am_code_of (M := tn_m59) rfl (by decide +kernel) rfl (by decide +kernel)
theorem kc_59_222 : am_code tn_G 59 222 = some (.iconst 0, 1, 0) := am_code_of (M := tn_m59) rfl (by decide +kernel) rfl rfl
theorem kc_59_223 : am_code tn_G 59 223 = some (.istore 6, 2, 0) := am_code_of (M := tn_m59) rfl (by decide +kernel) rfl rfl
theorem kc_59_225 : am_code tn_G 59 225 = some (.iload 6, 2, 0) := am_code_of (M := tn_m59) rfl (by decide +kernel) rfl rfl
theorem kc_59_227 : am_code tn_G 59 227 = some (.aload_n 0, 1, 0) := am_code_of (M := tn_m59) rfl (by decide +kernel) rfl rfl
theorem kc_59_228 : am_code tn_G 59 228 = some (.getfield 9, 3, 0) := am_code_of (M := tn_m59) rfl (by decide +kernel) rfl rfl
theorem kc_59_231 : am_code tn_G 59 231 = some (.aload_n 0, 1, 0) := am_code_of (M := tn_m59) rfl (by decide +kernel) rfl rfl
theorem kc_59_232 : am_code tn_G 59 232 = some (.getfield 13, 3, 0) := am_code_of (M := tn_m59) rfl (by decide +kernel) rfl rfl
theorem kc_59_235 : am_code tn_G 59 235 = some (.iload_n 3, 1, 0) := am_code_of (M := tn_m59) rfl (by decide +kernel) rfl rfl
theorem kc_59_236 : am_code tn_G 59 236 = some (.iaload, 1, 0) := am_code_of (M := tn_m59) rfl (by decide +kernel) rfl rfl
theorem kc_59_237 : am_code tn_G 59 237 = some (.iaload, 1, 0) := am_code_of (M := tn_m59) rfl (by decide +kernel) rfl rfl
theorem kc_59_238 : am_code tn_G 59 238 = some (.if_icmp .ge 37, 3, 275) := am_code_of (M := tn_m59) rfl (by decide +kernel) rfl (by decide +kernel)
theorem kc_59_241 : am_code tn_G 59 241 = some (.aload_n 0, 1, 0) := am_code_of (M := tn_m59) rfl (by decide +kernel) rfl rfl
theorem kc_59_242 : am_code tn_G 59 242 = some (.aload_n 1, 1, 0) := am_code_of (M := tn_m59) rfl (by decide +kernel) rfl rfl
theorem kc_59_243 : am_code tn_G 59 243 = some (.aload_n 0, 1, 0) := am_code_of (M := tn_m59) rfl (by decide +kernel) rfl rfl
theorem kc_59_244 : am_code tn_G 59 244 = some (.getfield 16, 3, 0) := am_code_of (M := tn_m59) rfl (by decide +kernel) rfl rfl
theorem kc_59_247 : am_code tn_G 59 247 = some (.iconst 3, 1, 0) := am_code_of (M := tn_m59) rfl (by decide +kernel) rfl rfl
theorem kc_59_248 : am_code tn_G 59 248 = some (.iload_n 3, 1, 0) := am_code_of (M := tn_m59) rfl (by decide +kernel) rfl rfl
theorem kc_59_249 : am_code tn_G 59 249 = some (.imul, 1, 0) := am_code_of (M := tn_m59) rfl (by decide +kernel) rfl rfl
theorem kc_59_250 : am_code tn_G 59 250 = some (.iload 6, 2, 0) := am_code_of (M := tn_m59) rfl (by decide +kernel) rfl rfl
theorem kc_59_252 : am_code tn_G 59 252 = some (.iadd, 1, 0) := am_code_of (M := tn_m59) rfl (by decide +kernel) rfl rfl
theorem kc_59_253 : am_code tn_G 59 253 = some (.iaload, 1, 0) := am_code_of (M := tn_m59) rfl (by decide +kernel) rfl rfl
theorem kc_59_254 : am_code tn_G 59 254 = some (.aload_n 0, 1, 0) := am_code_of (M := tn_m59) rfl (by decide +kernel) rfl rfl
theorem kc_59_255 : am_code tn_G 59 255 = some (.getfield 16, 3, 0) := am_code_of (M := tn_m59) rfl (by decide +kernel) rfl rfl
theorem kc_59_258 : am_code tn_G 59 258 = some (.iconst 3, 1, 0) := am_code_of (M := tn_m59) rfl (by decide +kernel) rfl rfl
theorem kc_59_259 : am_code tn_G 59 259 = some (.iload 4, 2, 0) := am_code_of (M := tn_m59) rfl (by decide +kernel) rfl rfl
theorem kc_59_261 : am_code tn_G 59 261 = some (.imul, 1, 0) := am_code_of (M := tn_m59) rfl (by decide +kernel) rfl rfl
theorem kc_59_262 : am_code tn_G 59 262 = some (.iload 6, 2, 0) := am_code_of (M := tn_m59) rfl (by decide +kernel) rfl rfl
theorem kc_59_264 : am_code tn_G 59 264 = some (.iadd, 1, 0) := am_code_of (M := tn_m59) rfl (by decide +kernel) rfl rfl
theorem kc_59_265 : am_code tn_G 59 265 = some (.iaload, 1, 0) := am_code_of (M := tn_m59) rfl (by decide +kernel) rfl rfl
theorem kc_59_266 : am_code tn_G 59 266 = some (.invokevirtual 72, 3, 0) := am_code_of (M := tn_m59) rfl (by decide +kernel) rfl rfl
theorem kc_59_269 : am_code tn_G 59 269 = some (.iinc 6 1, 3, 0) := am_code_of (M := tn_m59) rfl (by decide +kernel) rfl rfl
theorem kc_59_272 : am_code tn_G 59 272 = some (.goto (-47), 3, 225) := am_code_of (M := tn_m59) rfl (by decide +kernel) rfl (by decide +kernel)
theorem kc_59_275 : am_code tn_G 59 275 = some (.iconst 1, 1, 0) := am_code_of (M := tn_m59) rfl (by decide +kernel) rfl rfl
theorem kc_59_276 : am_code tn_G 59 276 = some (.istore_n 2, 1, 0) := am_code_of (M := tn_m59) rfl (by decide +kernel) rfl rfl
theorem kc_59_277 : am_code tn_G 59 277 = some (.iinc 4 1, 3, 0) := am_code_of (M := tn_m59) rfl (by decide +kernel) rfl rfl
theorem kc_59_280 : am_code tn_G 59 280 = some (.goto (-259), 3, 21) := am_code_of (M := tn_m59) rfl (by decide +kernel) rfl (by decide +kernel)
theorem kc_59_283 : am_code tn_G 59 283 = some (.iinc 3 1, 3, 0) := am_code_of (M := tn_m59) rfl (by decide +kernel) rfl rfl
theorem kc_59_286 : am_code tn_G 59 286 = some (.goto (-276), 3, 10) := am_code_of (M := tn_m59) rfl (by decide +kernel) rfl (by decide +kernel)
theorem kc_59_289 : am_code tn_G 59 289 = some (.goto (-287), 3, 2) := am_code_of (M := tn_m59) rfl (by decide +kernel) rfl (by decide +kernel)
theorem kc_59_292 : am_code tn_G 59 292 = some (.iconst 1, 1, 0) := am_code_of (M := tn_m59) rfl (by decide +kernel) rfl rfl
theorem kc_59_293 : am_code tn_G 59 293 = some (.ireturn, 1, 0) := am_code_of (M := tn_m59) rfl (by decide +kernel) rfl rfl
-- 60: TermNetModel.join([III)V
theorem kl_60 : am_ml tn_G 60 = 7 := rfl
theorem ko_60 : am_oc tn_G 60 = 5 := rfl
theorem kn_60 : am_nc tn_G 60 = 0 := rfl
theorem kr_60 : am_rt tn_G 60 = 0 := rfl
theorem kc_60_0 : am_code tn_G 60 0 = some (.aload_n 1, 1, 0) := am_code_of (M := tn_m60) rfl (by decide +kernel) rfl rfl
theorem kc_60_1 : am_code tn_G 60 1 = some (.iload_n 2, 1, 0) := am_code_of (M := tn_m60) rfl (by decide +kernel) rfl rfl
theorem kc_60_2 : am_code tn_G 60 2 = some (.iaload, 1, 0) := am_code_of (M := tn_m60) rfl (by decide +kernel) rfl rfl
theorem kc_60_3 : am_code tn_G 60 3 = some (.aload_n 1, 1, 0) := am_code_of (M := tn_m60) rfl (by decide +kernel) rfl rfl
theorem kc_60_4 : am_code tn_G 60 4 = some (.iload_n 3, 1, 0) := am_code_of (M := tn_m60) rfl (by decide +kernel) rfl rfl
theorem kc_60_5 : am_code tn_G 60 5 = some (.iaload, 1, 0) := am_code_of (M := tn_m60) rfl (by decide +kernel) rfl rfl
theorem kc_60_6 : am_code tn_G 60 6 = some (.if_icmp .ge 9, 3, 15) := am_code_of (M := tn_m60) rfl (by decide +kernel) rfl (by decide +kernel)
theorem kc_60_9 : am_code tn_G 60 9 = some (.aload_n 1, 1, 0) := am_code_of (M := tn_m60) rfl (by decide +kernel) rfl rfl
theorem kc_60_10 : am_code tn_G 60 10 = some (.iload_n 2, 1, 0) := am_code_of (M := tn_m60) rfl (by decide +kernel) rfl rfl
theorem kc_60_11 : am_code tn_G 60 11 = some (.iaload, 1, 0) := am_code_of (M := tn_m60) rfl (by decide +kernel) rfl rfl
theorem kc_60_12 : am_code tn_G 60 12 = some (.goto 6, 3, 18) := am_code_of (M := tn_m60) rfl (by decide +kernel) rfl (by decide +kernel)
theorem kc_60_15 : am_code tn_G 60 15 = some (.aload_n 1, 1, 0) := am_code_of (M := tn_m60) rfl (by decide +kernel) rfl rfl
theorem kc_60_16 : am_code tn_G 60 16 = some (.iload_n 3, 1, 0) := am_code_of (M := tn_m60) rfl (by decide +kernel) rfl rfl
theorem kc_60_17 : am_code tn_G 60 17 = some (.iaload, 1, 0) := am_code_of (M := tn_m60) rfl (by decide +kernel) rfl rfl
theorem kc_60_18 : am_code tn_G 60 18 = some (.istore 4, 2, 0) := am_code_of (M := tn_m60) rfl (by decide +kernel) rfl rfl
theorem kc_60_20 : am_code tn_G 60 20 = some (.aload_n 1, 1, 0) := am_code_of (M := tn_m60) rfl (by decide +kernel) rfl rfl
theorem kc_60_21 : am_code tn_G 60 21 = some (.iload_n 2, 1, 0) := am_code_of (M := tn_m60) rfl (by decide +kernel) rfl rfl
theorem kc_60_22 : am_code tn_G 60 22 = some (.iaload, 1, 0) := am_code_of (M := tn_m60) rfl (by decide +kernel) rfl rfl
theorem kc_60_23 : am_code tn_G 60 23 = some (.aload_n 1, 1, 0) := am_code_of (M := tn_m60) rfl (by decide +kernel) rfl rfl
theorem kc_60_24 : am_code tn_G 60 24 = some (.iload_n 3, 1, 0) := am_code_of (M := tn_m60) rfl (by decide +kernel) rfl rfl
theorem kc_60_25 : am_code tn_G 60 25 = some (.iaload, 1, 0) := am_code_of (M := tn_m60) rfl (by decide +kernel) rfl rfl
theorem kc_60_26 : am_code tn_G 60 26 = some (.if_icmp .ge 9, 3, 35) := am_code_of (M := tn_m60) rfl (by decide +kernel) rfl (by decide +kernel)
theorem kc_60_29 : am_code tn_G 60 29 = some (.aload_n 1, 1, 0) := am_code_of (M := tn_m60) rfl (by decide +kernel) rfl rfl
theorem kc_60_30 : am_code tn_G 60 30 = some (.iload_n 3, 1, 0) := am_code_of (M := tn_m60) rfl (by decide +kernel) rfl rfl
theorem kc_60_31 : am_code tn_G 60 31 = some (.iaload, 1, 0) := am_code_of (M := tn_m60) rfl (by decide +kernel) rfl rfl
theorem kc_60_32 : am_code tn_G 60 32 = some (.goto 6, 3, 38) := am_code_of (M := tn_m60) rfl (by decide +kernel) rfl (by decide +kernel)
theorem kc_60_35 : am_code tn_G 60 35 = some (.aload_n 1, 1, 0) := am_code_of (M := tn_m60) rfl (by decide +kernel) rfl rfl
theorem kc_60_36 : am_code tn_G 60 36 = some (.iload_n 2, 1, 0) := am_code_of (M := tn_m60) rfl (by decide +kernel) rfl rfl
theorem kc_60_37 : am_code tn_G 60 37 = some (.iaload, 1, 0) := am_code_of (M := tn_m60) rfl (by decide +kernel) rfl rfl
theorem kc_60_38 : am_code tn_G 60 38 = some (.istore 5, 2, 0) := am_code_of (M := tn_m60) rfl (by decide +kernel) rfl rfl
theorem kc_60_40 : am_code tn_G 60 40 = some (.iconst 0, 1, 0) := am_code_of (M := tn_m60) rfl (by decide +kernel) rfl rfl
theorem kc_60_41 : am_code tn_G 60 41 = some (.istore 6, 2, 0) := am_code_of (M := tn_m60) rfl (by decide +kernel) rfl rfl
theorem kc_60_43 : am_code tn_G 60 43 = some (.iload 6, 2, 0) := am_code_of (M := tn_m60) rfl (by decide +kernel) rfl rfl
theorem kc_60_45 : am_code tn_G 60 45 = some (.aload_n 0, 1, 0) := am_code_of (M := tn_m60) rfl (by decide +kernel) rfl rfl
theorem kc_60_46 : am_code tn_G 60 46 = some (.getfield 54, 3, 0) := am_code_of (M := tn_m60) rfl (by decide +kernel) rfl rfl
theorem kf_60_54 : am_fld tn_G 60 54 = some (5, 4) := by decide +kernel
theorem kc_60_49 : am_code tn_G 60 49 = some (.if_icmp .ge 24, 3, 73) := am_code_of (M := tn_m60) rfl (by decide +kernel) rfl (by decide +kernel)
theorem kc_60_52 : am_code tn_G 60 52 = some (.aload_n 1, 1, 0) := am_code_of (M := tn_m60) rfl (by decide +kernel) rfl rfl
theorem kc_60_53 : am_code tn_G 60 53 = some (.iload 6, 2, 0) := am_code_of (M := tn_m60) rfl (by decide +kernel) rfl rfl
theorem kc_60_55 : am_code tn_G 60 55 = some (.iaload, 1, 0) := am_code_of (M := tn_m60) rfl (by decide +kernel) rfl rfl
theorem kc_60_56 : am_code tn_G 60 56 = some (.iload 5, 2, 0) := am_code_of (M := tn_m60) rfl (by decide +kernel) rfl rfl
theorem kc_60_58 : am_code tn_G 60 58 = some (.if_icmp .ne 9, 3, 67) := am_code_of (M := tn_m60) rfl (by decide +kernel) rfl (by decide +kernel)
theorem kc_60_61 : am_code tn_G 60 61 = some (.aload_n 1, 1, 0) := am_code_of (M := tn_m60) rfl (by decide +kernel) rfl rfl
theorem kc_60_62 : am_code tn_G 60 62 = some (.iload 6, 2, 0) := am_code_of (M := tn_m60) rfl (by decide +kernel) rfl rfl
theorem kc_60_64 : am_code tn_G 60 64 = some (.iload 4, 2, 0) := am_code_of (M := tn_m60) rfl (by decide +kernel) rfl rfl
theorem kc_60_66 : am_code tn_G 60 66 = some (.iastore, 1, 0) := am_code_of (M := tn_m60) rfl (by decide +kernel) rfl rfl
theorem kc_60_67 : am_code tn_G 60 67 = some (.iinc 6 1, 3, 0) := am_code_of (M := tn_m60) rfl (by decide +kernel) rfl rfl
theorem kc_60_70 : am_code tn_G 60 70 = some (.goto (-27), 3, 43) := am_code_of (M := tn_m60) rfl (by decide +kernel) rfl (by decide +kernel)
theorem kc_60_73 : am_code tn_G 60 73 = some (.return_, 1, 0) := am_code_of (M := tn_m60) rfl (by decide +kernel) rfl rfl
-- 61: TermNetModel.term(IIII)I
theorem kl_61 : am_ml tn_G 61 = 6 := rfl
theorem ko_61 : am_oc tn_G 61 = 5 := rfl
theorem kn_61 : am_nc tn_G 61 = 0 := rfl
theorem kr_61 : am_rt tn_G 61 = 1 := rfl
theorem kc_61_0 : am_code tn_G 61 0 = some (.iload_n 1, 1, 0) := am_code_of (M := tn_m61) rfl (by decide +kernel) rfl rfl
theorem kc_61_1 : am_code tn_G 61 1 = some (.ifCond .lt 15, 3, 16) := am_code_of (M := tn_m61) rfl (by decide +kernel) rfl (by decide +kernel)
theorem kc_61_4 : am_code tn_G 61 4 = some (.iload_n 1, 1, 0) := am_code_of (M := tn_m61) rfl (by decide +kernel) rfl rfl
theorem kc_61_5 : am_code tn_G 61 5 = some (.aload_n 0, 1, 0) := am_code_of (M := tn_m61) rfl (by decide +kernel) rfl rfl
theorem kc_61_6 : am_code tn_G 61 6 = some (.getfield 57, 3, 0) := am_code_of (M := tn_m61) rfl (by decide +kernel) rfl rfl
theorem kf_61_57 : am_fld tn_G 61 57 = some (5, 3) := by decide +kernel
theorem kc_61_9 : am_code tn_G 61 9 = some (.if_icmp .ge 7, 3, 16) := am_code_of (M := tn_m61) rfl (by decide +kernel) rfl (by decide +kernel)
theorem kc_61_12 : am_code tn_G 61 12 = some (.iconst 1, 1, 0) := am_code_of (M := tn_m61) rfl (by decide +kernel) rfl rfl
theorem kc_61_13 : am_code tn_G 61 13 = some (.goto 4, 3, 17) := am_code_of (M := tn_m61) rfl (by decide +kernel) rfl (by decide +kernel)
theorem kc_61_16 : am_code tn_G 61 16 = some (.iconst 0, 1, 0) := am_code_of (M := tn_m61) rfl (by decide +kernel) rfl rfl
theorem kc_61_17 : am_code tn_G 61 17 = some (.istore 5, 2, 0) := am_code_of (M := tn_m61) rfl (by decide +kernel) rfl rfl
theorem kc_61_19 : am_code tn_G 61 19 = some (.iload 5, 2, 0) := am_code_of (M := tn_m61) rfl (by decide +kernel) rfl rfl
theorem kc_61_21 : am_code tn_G 61 21 = some (.ifCond .eq 65, 3, 86) := am_code_of (M := tn_m61) rfl (by decide +kernel) rfl (by decide +kernel)
theorem kc_61_24 : am_code tn_G 61 24 = some (.aload_n 0, 1, 0) := am_code_of (M := tn_m61) rfl (by decide +kernel) rfl rfl
theorem kc_61_25 : am_code tn_G 61 25 = some (.getfield 9, 3, 0) := am_code_of (M := tn_m61) rfl (by decide +kernel) rfl rfl
theorem kf_61_9 : am_fld tn_G 61 9 = some (5, 0) := by decide +kernel
theorem kc_61_28 : am_code tn_G 61 28 = some (.iload_n 1, 1, 0) := am_code_of (M := tn_m61) rfl (by decide +kernel) rfl rfl
theorem kc_61_29 : am_code tn_G 61 29 = some (.iaload, 1, 0) := am_code_of (M := tn_m61) rfl (by decide +kernel) rfl rfl
theorem kc_61_30 : am_code tn_G 61 30 = some (.iconst 1, 1, 0) := am_code_of (M := tn_m61) rfl (by decide +kernel) rfl rfl
theorem kc_61_31 : am_code tn_G 61 31 = some (.if_icmp .lt 11, 3, 42) := am_code_of (M := tn_m61) rfl (by decide +kernel) rfl (by decide +kernel)
theorem kc_61_34 : am_code tn_G 61 34 = some (.aload_n 0, 1, 0) := am_code_of (M := tn_m61) rfl (by decide +kernel) rfl rfl
theorem kc_61_35 : am_code tn_G 61 35 = some (.iload_n 2, 1, 0) := am_code_of (M := tn_m61) rfl (by decide +kernel) rfl rfl
theorem kc_61_36 : am_code tn_G 61 36 = some (.invokevirtual 68, 3, 0) := am_code_of (M := tn_m61) rfl (by decide +kernel) rfl rfl
theorem ka_61_68 : am_cal tn_G 61 68 = some (0, 62, 1) := by decide +kernel
theorem kc_61_39 : am_code tn_G 61 39 = some (.ifCond .eq 44, 3, 83) := am_code_of (M := tn_m61) rfl (by decide +kernel) rfl (by decide +kernel)
theorem kc_61_42 : am_code tn_G 61 42 = some (.aload_n 0, 1, 0) := am_code_of (M := tn_m61) rfl (by decide +kernel) rfl rfl
theorem kc_61_43 : am_code tn_G 61 43 = some (.getfield 9, 3, 0) := am_code_of (M := tn_m61) rfl (by decide +kernel) rfl rfl
theorem kc_61_46 : am_code tn_G 61 46 = some (.iload_n 1, 1, 0) := am_code_of (M := tn_m61) rfl (by decide +kernel) rfl rfl
theorem kc_61_47 : am_code tn_G 61 47 = some (.iaload, 1, 0) := am_code_of (M := tn_m61) rfl (by decide +kernel) rfl rfl
theorem kc_61_48 : am_code tn_G 61 48 = some (.iconst 2, 1, 0) := am_code_of (M := tn_m61) rfl (by decide +kernel) rfl rfl
theorem kc_61_49 : am_code tn_G 61 49 = some (.if_icmp .lt 11, 3, 60) := am_code_of (M := tn_m61) rfl (by decide +kernel) rfl (by decide +kernel)
theorem kc_61_52 : am_code tn_G 61 52 = some (.aload_n 0, 1, 0) := am_code_of (M := tn_m61) rfl (by decide +kernel) rfl rfl
theorem kc_61_53 : am_code tn_G 61 53 = some (.iload_n 3, 1, 0) := am_code_of (M := tn_m61) rfl (by decide +kernel) rfl rfl
theorem kc_61_54 : am_code tn_G 61 54 = some (.invokevirtual 68, 3, 0) := am_code_of (M := tn_m61) rfl (by decide +kernel) rfl rfl
theorem kc_61_57 : am_code tn_G 61 57 = some (.ifCond .eq 26, 3, 83) := am_code_of (M := tn_m61) rfl (by decide +kernel) rfl (by decide +kernel)
theorem kc_61_60 : am_code tn_G 61 60 = some (.aload_n 0, 1, 0) := am_code_of (M := tn_m61) rfl (by decide +kernel) rfl rfl
theorem kc_61_61 : am_code tn_G 61 61 = some (.getfield 9, 3, 0) := am_code_of (M := tn_m61) rfl (by decide +kernel) rfl rfl
theorem kc_61_64 : am_code tn_G 61 64 = some (.iload_n 1, 1, 0) := am_code_of (M := tn_m61) rfl (by decide +kernel) rfl rfl
theorem kc_61_65 : am_code tn_G 61 65 = some (.iaload, 1, 0) := am_code_of (M := tn_m61) rfl (by decide +kernel) rfl rfl
theorem kc_61_66 : am_code tn_G 61 66 = some (.iconst 3, 1, 0) := am_code_of (M := tn_m61) rfl (by decide +kernel) rfl rfl
theorem kc_61_67 : am_code tn_G 61 67 = some (.if_icmp .lt 12, 3, 79) := am_code_of (M := tn_m61) rfl (by decide +kernel) rfl (by decide +kernel)
theorem kc_61_70 : am_code tn_G 61 70 = some (.aload_n 0, 1, 0) := am_code_of (M := tn_m61) rfl (by decide +kernel) rfl rfl
theorem kc_61_71 : am_code tn_G 61 71 = some (.iload 4, 2, 0) := am_code_of (M := tn_m61) rfl (by decide +kernel) rfl rfl
theorem kc_61_73 : am_code tn_G 61 73 = some (.invokevirtual 68, 3, 0) := am_code_of (M := tn_m61) rfl (by decide +kernel) rfl rfl
theorem kc_61_76 : am_code tn_G 61 76 = some (.ifCond .eq 7, 3, 83) := am_code_of (M := tn_m61) rfl (by decide +kernel) rfl (by decide +kernel)
theorem kc_61_79 : am_code tn_G 61 79 = some (.iconst 1, 1, 0) := am_code_of (M := tn_m61) rfl (by decide +kernel) rfl rfl
theorem kc_61_80 : am_code tn_G 61 80 = some (.goto 4, 3, 84) := am_code_of (M := tn_m61) rfl (by decide +kernel) rfl (by decide +kernel)
theorem kc_61_83 : am_code tn_G 61 83 = some (.iconst 0, 1, 0) := am_code_of (M := tn_m61) rfl (by decide +kernel) rfl rfl
theorem kc_61_84 : am_code tn_G 61 84 = some (.istore 5, 2, 0) := am_code_of (M := tn_m61) rfl (by decide +kernel) rfl rfl
theorem kc_61_86 : am_code tn_G 61 86 = some (.aload_n 0, 1, 0) := am_code_of (M := tn_m61) rfl (by decide +kernel) rfl rfl
theorem kc_61_87 : am_code tn_G 61 87 = some (.iload 5, 2, 0) := am_code_of (M := tn_m61) rfl (by decide +kernel) rfl rfl
theorem kc_61_89 : am_code tn_G 61 89 = some (.ifCond .ne 7, 3, 96) := am_code_of (M := tn_m61) rfl (by decide +kernel) rfl (by decide +kernel)
theorem kc_61_92 : am_code tn_G 61 92 = some (.iconst 1, 1, 0) := am_code_of (M := tn_m61) rfl (by decide +kernel) rfl rfl
theorem kc_61_93 : am_code tn_G 61 93 = some (.goto 18, 3, 111) := am_code_of (M := tn_m61) rfl (by decide +kernel) rfl (by decide +kernel)
theorem kc_61_96 : am_code tn_G 61 96 = some (.aload_n 0, 1, 0) := am_code_of (M := tn_m61) rfl (by decide +kernel) rfl rfl
theorem kc_61_97 : am_code tn_G 61 97 = some (.getfield 54, 3, 0) := am_code_of (M := tn_m61) rfl (by decide +kernel) rfl rfl
theorem kf_61_54 : am_fld tn_G 61 54 = some (5, 4) := by decide +kernel
theorem kc_61_100 : am_code tn_G 61 100 = some (.sipush 400, 3, 0) := am_code_of (M := tn_m61) rfl (by decide +kernel) rfl rfl
theorem kc_61_103 : am_code tn_G 61 103 = some (.if_icmp .ne 7, 3, 110) := am_code_of (M := tn_m61) rfl (by decide +kernel) rfl (by decide +kernel)
theorem kc_61_106 : am_code tn_G 61 106 = some (.iconst 2, 1, 0) := am_code_of (M := tn_m61) rfl (by decide +kernel) rfl rfl
theorem kc_61_107 : am_code tn_G 61 107 = some (.goto 4, 3, 111) := am_code_of (M := tn_m61) rfl (by decide +kernel) rfl (by decide +kernel)
theorem kc_61_110 : am_code tn_G 61 110 = some (.iconst 0, 1, 0) := am_code_of (M := tn_m61) rfl (by decide +kernel) rfl rfl
theorem kc_61_111 : am_code tn_G 61 111 = some (.putfield 50, 3, 0) := am_code_of (M := tn_m61) rfl (by decide +kernel) rfl rfl
theorem kf_61_50 : am_fld tn_G 61 50 = some (5, 7) := by decide +kernel
theorem kc_61_114 : am_code tn_G 61 114 = some (.aload_n 0, 1, 0) := am_code_of (M := tn_m61) rfl (by decide +kernel) rfl rfl
theorem kc_61_115 : am_code tn_G 61 115 = some (.getfield 50, 3, 0) := am_code_of (M := tn_m61) rfl (by decide +kernel) rfl rfl
theorem kc_61_118 : am_code tn_G 61 118 = some (.ifCond .le 7, 3, 125) := am_code_of (M := tn_m61) rfl (by decide +kernel) rfl (by decide +kernel)
theorem kc_61_121 : am_code tn_G 61 121 = some (.iconst 0, 1, 0) := am_code_of (M := tn_m61) rfl (by decide +kernel) rfl rfl
theorem kc_61_122 : am_code tn_G 61 122 = some (.goto 12, 3, 134) := am_code_of (M := tn_m61) rfl (by decide +kernel) rfl (by decide +kernel)
theorem kc_61_125 : am_code tn_G 61 125 = some (.aload_n 0, 1, 0) := am_code_of (M := tn_m61) rfl (by decide +kernel) rfl rfl
theorem kc_61_126 : am_code tn_G 61 126 = some (.iload_n 1, 1, 0) := am_code_of (M := tn_m61) rfl (by decide +kernel) rfl rfl
theorem kc_61_127 : am_code tn_G 61 127 = some (.iload_n 2, 1, 0) := am_code_of (M := tn_m61) rfl (by decide +kernel) rfl rfl
theorem kc_61_128 : am_code tn_G 61 128 = some (.iload_n 3, 1, 0) := am_code_of (M := tn_m61) rfl (by decide +kernel) rfl rfl
theorem kc_61_129 : am_code tn_G 61 129 = some (.iload 4, 2, 0) := am_code_of (M := tn_m61) rfl (by decide +kernel) rfl rfl
theorem kc_61_131 : am_code tn_G 61 131 = some (.invokevirtual 64, 3, 0) := am_code_of (M := tn_m61) rfl (by decide +kernel) rfl rfl
theorem ka_61_64 : am_cal tn_G 61 64 = some (0, 58, 4) := by decide +kernel
theorem kc_61_134 : am_code tn_G 61 134 = some (.ireturn, 1, 0) := am_code_of (M := tn_m61) rfl (by decide +kernel) rfl rfl
-- 62: TermNetModel.isTerm(I)Z
theorem kl_62 : am_ml tn_G 62 = 2 := rfl
theorem ko_62 : am_oc tn_G 62 = 5 := rfl
theorem kn_62 : am_nc tn_G 62 = 0 := rfl
theorem kr_62 : am_rt tn_G 62 = 2 := rfl
theorem kc_62_0 : am_code tn_G 62 0 = some (.iload_n 1, 1, 0) := am_code_of (M := tn_m62) rfl (by decide +kernel) rfl rfl
theorem kc_62_1 : am_code tn_G 62 1 = some (.ifCond .lt 15, 3, 16) := am_code_of (M := tn_m62) rfl (by decide +kernel) rfl (by decide +kernel)
theorem kc_62_4 : am_code tn_G 62 4 = some (.iload_n 1, 1, 0) := am_code_of (M := tn_m62) rfl (by decide +kernel) rfl rfl
theorem kc_62_5 : am_code tn_G 62 5 = some (.aload_n 0, 1, 0) := am_code_of (M := tn_m62) rfl (by decide +kernel) rfl rfl
theorem kc_62_6 : am_code tn_G 62 6 = some (.getfield 54, 3, 0) := am_code_of (M := tn_m62) rfl (by decide +kernel) rfl rfl
theorem kf_62_54 : am_fld tn_G 62 54 = some (5, 4) := by decide +kernel
theorem kc_62_9 : am_code tn_G 62 9 = some (.if_icmp .ge 7, 3, 16) := am_code_of (M := tn_m62) rfl (by decide +kernel) rfl (by decide +kernel)
theorem kc_62_12 : am_code tn_G 62 12 = some (.iconst 1, 1, 0) := am_code_of (M := tn_m62) rfl (by decide +kernel) rfl rfl
theorem kc_62_13 : am_code tn_G 62 13 = some (.goto 4, 3, 17) := am_code_of (M := tn_m62) rfl (by decide +kernel) rfl (by decide +kernel)
theorem kc_62_16 : am_code tn_G 62 16 = some (.iconst 0, 1, 0) := am_code_of (M := tn_m62) rfl (by decide +kernel) rfl rfl
theorem kc_62_17 : am_code tn_G 62 17 = some (.ireturn, 1, 0) := am_code_of (M := tn_m62) rfl (by decide +kernel) rfl rfl
-- 63: TermNetModel.equal(II)Z
theorem kl_63 : am_ml tn_G 63 = 4 := rfl
theorem ko_63 : am_oc tn_G 63 = 5 := rfl
theorem kn_63 : am_nc tn_G 63 = 0 := rfl
theorem kr_63 : am_rt tn_G 63 = 2 := rfl
theorem kc_63_0 : am_code tn_G 63 0 = some (.aload_n 0, 1, 0) := am_code_of (M := tn_m63) rfl (by decide +kernel) rfl rfl
theorem kc_63_1 : am_code tn_G 63 1 = some (.aload_n 0, 1, 0) := am_code_of (M := tn_m63) rfl (by decide +kernel) rfl rfl
theorem kc_63_2 : am_code tn_G 63 2 = some (.iload_n 1, 1, 0) := am_code_of (M := tn_m63) rfl (by decide +kernel) rfl rfl
theorem kc_63_3 : am_code tn_G 63 3 = some (.invokevirtual 68, 3, 0) := am_code_of (M := tn_m63) rfl (by decide +kernel) rfl rfl
theorem ka_63_68 : am_cal tn_G 63 68 = some (0, 62, 1) := by decide +kernel
theorem kc_63_6 : am_code tn_G 63 6 = some (.ifCond .eq 15, 3, 21) := am_code_of (M := tn_m63) rfl (by decide +kernel) rfl (by decide +kernel)
theorem kc_63_9 : am_code tn_G 63 9 = some (.aload_n 0, 1, 0) := am_code_of (M := tn_m63) rfl (by decide +kernel) rfl rfl
theorem kc_63_10 : am_code tn_G 63 10 = some (.iload_n 2, 1, 0) := am_code_of (M := tn_m63) rfl (by decide +kernel) rfl rfl
theorem kc_63_11 : am_code tn_G 63 11 = some (.invokevirtual 68, 3, 0) := am_code_of (M := tn_m63) rfl (by decide +kernel) rfl rfl
theorem kc_63_14 : am_code tn_G 63 14 = some (.ifCond .eq 7, 3, 21) := am_code_of (M := tn_m63) rfl (by decide +kernel) rfl (by decide +kernel)
theorem kc_63_17 : am_code tn_G 63 17 = some (.iconst 0, 1, 0) := am_code_of (M := tn_m63) rfl (by decide +kernel) rfl rfl
theorem kc_63_18 : am_code tn_G 63 18 = some (.goto 4, 3, 22) := am_code_of (M := tn_m63) rfl (by decide +kernel) rfl (by decide +kernel)
theorem kc_63_21 : am_code tn_G 63 21 = some (.iconst 1, 1, 0) := am_code_of (M := tn_m63) rfl (by decide +kernel) rfl rfl
theorem kc_63_22 : am_code tn_G 63 22 = some (.putfield 50, 3, 0) := am_code_of (M := tn_m63) rfl (by decide +kernel) rfl rfl
theorem kf_63_50 : am_fld tn_G 63 50 = some (5, 7) := by decide +kernel
theorem kc_63_25 : am_code tn_G 63 25 = some (.aload_n 0, 1, 0) := am_code_of (M := tn_m63) rfl (by decide +kernel) rfl rfl
theorem kc_63_26 : am_code tn_G 63 26 = some (.getfield 50, 3, 0) := am_code_of (M := tn_m63) rfl (by decide +kernel) rfl rfl
theorem kc_63_29 : am_code tn_G 63 29 = some (.ifCond .le 5, 3, 34) := am_code_of (M := tn_m63) rfl (by decide +kernel) rfl (by decide +kernel)
theorem kc_63_32 : am_code tn_G 63 32 = some (.iconst 0, 1, 0) := am_code_of (M := tn_m63) rfl (by decide +kernel) rfl rfl
theorem kc_63_33 : am_code tn_G 63 33 = some (.ireturn, 1, 0) := am_code_of (M := tn_m63) rfl (by decide +kernel) rfl rfl
theorem kc_63_34 : am_code tn_G 63 34 = some (.iconst 0, 1, 0) := am_code_of (M := tn_m63) rfl (by decide +kernel) rfl rfl
theorem kc_63_35 : am_code tn_G 63 35 = some (.istore_n 3, 1, 0) := am_code_of (M := tn_m63) rfl (by decide +kernel) rfl rfl
theorem kc_63_36 : am_code tn_G 63 36 = some (.iload_n 3, 1, 0) := am_code_of (M := tn_m63) rfl (by decide +kernel) rfl rfl
theorem kc_63_37 : am_code tn_G 63 37 = some (.aload_n 0, 1, 0) := am_code_of (M := tn_m63) rfl (by decide +kernel) rfl rfl
theorem kc_63_38 : am_code tn_G 63 38 = some (.getfield 54, 3, 0) := am_code_of (M := tn_m63) rfl (by decide +kernel) rfl rfl
theorem kf_63_54 : am_fld tn_G 63 54 = some (5, 4) := by decide +kernel
theorem kc_63_41 : am_code tn_G 63 41 = some (.if_icmp .ge 21, 3, 62) := am_code_of (M := tn_m63) rfl (by decide +kernel) rfl (by decide +kernel)
theorem kc_63_44 : am_code tn_G 63 44 = some (.aload_n 0, 1, 0) := am_code_of (M := tn_m63) rfl (by decide +kernel) rfl rfl
theorem kc_63_45 : am_code tn_G 63 45 = some (.getfield 22, 3, 0) := am_code_of (M := tn_m63) rfl (by decide +kernel) rfl rfl
theorem kf_63_22 : am_fld tn_G 63 22 = some (5, 9) := by decide +kernel
theorem kc_63_48 : am_code tn_G 63 48 = some (.iload_n 3, 1, 0) := am_code_of (M := tn_m63) rfl (by decide +kernel) rfl rfl
theorem kc_63_49 : am_code tn_G 63 49 = some (.aload_n 0, 1, 0) := am_code_of (M := tn_m63) rfl (by decide +kernel) rfl rfl
theorem kc_63_50 : am_code tn_G 63 50 = some (.getfield 19, 3, 0) := am_code_of (M := tn_m63) rfl (by decide +kernel) rfl rfl
theorem kf_63_19 : am_fld tn_G 63 19 = some (5, 8) := by decide +kernel
theorem kc_63_53 : am_code tn_G 63 53 = some (.iload_n 3, 1, 0) := am_code_of (M := tn_m63) rfl (by decide +kernel) rfl rfl
theorem kc_63_54 : am_code tn_G 63 54 = some (.iaload, 1, 0) := am_code_of (M := tn_m63) rfl (by decide +kernel) rfl rfl
theorem kc_63_55 : am_code tn_G 63 55 = some (.iastore, 1, 0) := am_code_of (M := tn_m63) rfl (by decide +kernel) rfl rfl
theorem kc_63_56 : am_code tn_G 63 56 = some (.iinc 3 1, 3, 0) := am_code_of (M := tn_m63) rfl (by decide +kernel) rfl rfl
theorem kc_63_59 : am_code tn_G 63 59 = some (.goto (-23), 3, 36) := am_code_of (M := tn_m63) rfl (by decide +kernel) rfl (by decide +kernel)
theorem kc_63_62 : am_code tn_G 63 62 = some (.aload_n 0, 1, 0) := am_code_of (M := tn_m63) rfl (by decide +kernel) rfl rfl
theorem kc_63_63 : am_code tn_G 63 63 = some (.aload_n 0, 1, 0) := am_code_of (M := tn_m63) rfl (by decide +kernel) rfl rfl
theorem kc_63_64 : am_code tn_G 63 64 = some (.getfield 22, 3, 0) := am_code_of (M := tn_m63) rfl (by decide +kernel) rfl rfl
theorem kc_63_67 : am_code tn_G 63 67 = some (.iload_n 1, 1, 0) := am_code_of (M := tn_m63) rfl (by decide +kernel) rfl rfl
theorem kc_63_68 : am_code tn_G 63 68 = some (.iload_n 2, 1, 0) := am_code_of (M := tn_m63) rfl (by decide +kernel) rfl rfl
theorem kc_63_69 : am_code tn_G 63 69 = some (.invokevirtual 72, 3, 0) := am_code_of (M := tn_m63) rfl (by decide +kernel) rfl rfl
theorem ka_63_72 : am_cal tn_G 63 72 = some (0, 60, 3) := by decide +kernel
theorem kc_63_72 : am_code tn_G 63 72 = some (.aload_n 0, 1, 0) := am_code_of (M := tn_m63) rfl (by decide +kernel) rfl rfl
theorem kc_63_73 : am_code tn_G 63 73 = some (.aload_n 0, 1, 0) := am_code_of (M := tn_m63) rfl (by decide +kernel) rfl rfl
theorem kc_63_74 : am_code tn_G 63 74 = some (.getfield 22, 3, 0) := am_code_of (M := tn_m63) rfl (by decide +kernel) rfl rfl
theorem kc_63_77 : am_code tn_G 63 77 = some (.invokevirtual 60, 3, 0) := am_code_of (M := tn_m63) rfl (by decide +kernel) rfl rfl
theorem ka_63_60 : am_cal tn_G 63 60 = some (0, 59, 1) := by decide +kernel
theorem kc_63_80 : am_code tn_G 63 80 = some (.ifCond .eq 14, 3, 94) := am_code_of (M := tn_m63) rfl (by decide +kernel) rfl (by decide +kernel)
theorem kc_63_83 : am_code tn_G 63 83 = some (.aload_n 0, 1, 0) := am_code_of (M := tn_m63) rfl (by decide +kernel) rfl rfl
theorem kc_63_84 : am_code tn_G 63 84 = some (.aload_n 0, 1, 0) := am_code_of (M := tn_m63) rfl (by decide +kernel) rfl rfl
theorem kc_63_85 : am_code tn_G 63 85 = some (.getfield 22, 3, 0) := am_code_of (M := tn_m63) rfl (by decide +kernel) rfl rfl
theorem kc_63_88 : am_code tn_G 63 88 = some (.invokevirtual 77, 3, 0) := am_code_of (M := tn_m63) rfl (by decide +kernel) rfl rfl
theorem ka_63_77 : am_cal tn_G 63 77 = some (0, 64, 1) := by decide +kernel
theorem kc_63_91 : am_code tn_G 63 91 = some (.ifCond .ne 5, 3, 96) := am_code_of (M := tn_m63) rfl (by decide +kernel) rfl (by decide +kernel)
theorem kc_63_94 : am_code tn_G 63 94 = some (.iconst 0, 1, 0) := am_code_of (M := tn_m63) rfl (by decide +kernel) rfl rfl
theorem kc_63_95 : am_code tn_G 63 95 = some (.ireturn, 1, 0) := am_code_of (M := tn_m63) rfl (by decide +kernel) rfl rfl
theorem kc_63_96 : am_code tn_G 63 96 = some (.iconst 0, 1, 0) := am_code_of (M := tn_m63) rfl (by decide +kernel) rfl rfl
theorem kc_63_97 : am_code tn_G 63 97 = some (.istore_n 3, 1, 0) := am_code_of (M := tn_m63) rfl (by decide +kernel) rfl rfl
theorem kc_63_98 : am_code tn_G 63 98 = some (.iload_n 3, 1, 0) := am_code_of (M := tn_m63) rfl (by decide +kernel) rfl rfl
theorem kc_63_99 : am_code tn_G 63 99 = some (.aload_n 0, 1, 0) := am_code_of (M := tn_m63) rfl (by decide +kernel) rfl rfl
theorem kc_63_100 : am_code tn_G 63 100 = some (.getfield 54, 3, 0) := am_code_of (M := tn_m63) rfl (by decide +kernel) rfl rfl
theorem kc_63_103 : am_code tn_G 63 103 = some (.if_icmp .ge 21, 3, 124) := am_code_of (M := tn_m63) rfl (by decide +kernel) rfl (by decide +kernel)
theorem kc_63_106 : am_code tn_G 63 106 = some (.aload_n 0, 1, 0) := am_code_of (M := tn_m63) rfl (by decide +kernel) rfl rfl
theorem kc_63_107 : am_code tn_G 63 107 = some (.getfield 19, 3, 0) := am_code_of (M := tn_m63) rfl (by decide +kernel) rfl rfl
theorem kc_63_110 : am_code tn_G 63 110 = some (.iload_n 3, 1, 0) := am_code_of (M := tn_m63) rfl (by decide +kernel) rfl rfl
theorem kc_63_111 : am_code tn_G 63 111 = some (.aload_n 0, 1, 0) := am_code_of (M := tn_m63) rfl (by decide +kernel) rfl rfl
theorem kc_63_112 : am_code tn_G 63 112 = some (.getfield 22, 3, 0) := am_code_of (M := tn_m63) rfl (by decide +kernel) rfl rfl
theorem kc_63_115 : am_code tn_G 63 115 = some (.iload_n 3, 1, 0) := am_code_of (M := tn_m63) rfl (by decide +kernel) rfl rfl
theorem kc_63_116 : am_code tn_G 63 116 = some (.iaload, 1, 0) := am_code_of (M := tn_m63) rfl (by decide +kernel) rfl rfl
theorem kc_63_117 : am_code tn_G 63 117 = some (.iastore, 1, 0) := am_code_of (M := tn_m63) rfl (by decide +kernel) rfl rfl
theorem kc_63_118 : am_code tn_G 63 118 = some (.iinc 3 1, 3, 0) := am_code_of (M := tn_m63) rfl (by decide +kernel) rfl rfl
theorem kc_63_121 : am_code tn_G 63 121 = some (.goto (-23), 3, 98) := am_code_of (M := tn_m63) rfl (by decide +kernel) rfl (by decide +kernel)
theorem kc_63_124 : am_code tn_G 63 124 = some (.aload_n 0, 1, 0) := am_code_of (M := tn_m63) rfl (by decide +kernel) rfl rfl
theorem kc_63_125 : am_code tn_G 63 125 = some (.dup, 1, 0) := am_code_of (M := tn_m63) rfl (by decide +kernel) rfl rfl
theorem kc_63_126 : am_code tn_G 63 126 = some (.getfield 80, 3, 0) := am_code_of (M := tn_m63) rfl (by decide +kernel) rfl rfl
theorem kf_63_80 : am_fld tn_G 63 80 = some (5, 6) := by decide +kernel
theorem kc_63_129 : am_code tn_G 63 129 = some (.iconst 1, 1, 0) := am_code_of (M := tn_m63) rfl (by decide +kernel) rfl rfl
theorem kc_63_130 : am_code tn_G 63 130 = some (.iadd, 1, 0) := am_code_of (M := tn_m63) rfl (by decide +kernel) rfl rfl
theorem kc_63_131 : am_code tn_G 63 131 = some (.putfield 80, 3, 0) := am_code_of (M := tn_m63) rfl (by decide +kernel) rfl rfl
theorem kc_63_134 : am_code tn_G 63 134 = some (.iconst 1, 1, 0) := am_code_of (M := tn_m63) rfl (by decide +kernel) rfl rfl
theorem kc_63_135 : am_code tn_G 63 135 = some (.ireturn, 1, 0) := am_code_of (M := tn_m63) rfl (by decide +kernel) rfl rfl
-- 64: TermNetModel.look([I)Z
theorem kl_64 : am_ml tn_G 64 = 12 := rfl
theorem ko_64 : am_oc tn_G 64 = 5 := rfl
theorem kn_64 : am_nc tn_G 64 = 0 := rfl
theorem kr_64 : am_rt tn_G 64 = 2 := rfl
theorem kc_64_0 : am_code tn_G 64 0 = some (.iconst 0, 1, 0) := am_code_of (M := tn_m64) rfl (by decide +kernel) rfl rfl
theorem kc_64_1 : am_code tn_G 64 1 = some (.istore_n 2, 1, 0) := am_code_of (M := tn_m64) rfl (by decide +kernel) rfl rfl
theorem kc_64_2 : am_code tn_G 64 2 = some (.iload_n 2, 1, 0) := am_code_of (M := tn_m64) rfl (by decide +kernel) rfl rfl
theorem kc_64_3 : am_code tn_G 64 3 = some (.aload_n 0, 1, 0) := am_code_of (M := tn_m64) rfl (by decide +kernel) rfl rfl
theorem kc_64_4 : am_code tn_G 64 4 = some (.getfield 54, 3, 0) := am_code_of (M := tn_m64) rfl (by decide +kernel) rfl rfl
theorem kf_64_54 : am_fld tn_G 64 54 = some (5, 4) := by decide +kernel
theorem kc_64_7 : am_code tn_G 64 7 = some (.if_icmp .ge 23, 3, 30) := am_code_of (M := tn_m64) rfl (by decide +kernel) rfl (by decide +kernel)
theorem kc_64_10 : am_code tn_G 64 10 = some (.aload_n 0, 1, 0) := am_code_of (M := tn_m64) rfl (by decide +kernel) rfl rfl
theorem kc_64_11 : am_code tn_G 64 11 = some (.getfield 34, 3, 0) := am_code_of (M := tn_m64) rfl (by decide +kernel) rfl rfl
theorem kf_64_34 : am_fld tn_G 64 34 = some (5, 13) := by decide +kernel
theorem kc_64_14 : am_code tn_G 64 14 = some (.iload_n 2, 1, 0) := am_code_of (M := tn_m64) rfl (by decide +kernel) rfl rfl
theorem kc_64_15 : am_code tn_G 64 15 = some (.iconst (-1), 1, 0) := am_code_of (M := tn_m64) rfl (by decide +kernel) rfl rfl
theorem kc_64_16 : am_code tn_G 64 16 = some (.iastore, 1, 0) := am_code_of (M := tn_m64) rfl (by decide +kernel) rfl rfl
theorem kc_64_17 : am_code tn_G 64 17 = some (.aload_n 0, 1, 0) := am_code_of (M := tn_m64) rfl (by decide +kernel) rfl rfl
theorem kc_64_18 : am_code tn_G 64 18 = some (.getfield 43, 3, 0) := am_code_of (M := tn_m64) rfl (by decide +kernel) rfl rfl
theorem kf_64_43 : am_fld tn_G 64 43 = some (5, 16) := by decide +kernel
theorem kc_64_21 : am_code tn_G 64 21 = some (.iload_n 2, 1, 0) := am_code_of (M := tn_m64) rfl (by decide +kernel) rfl rfl
theorem kc_64_22 : am_code tn_G 64 22 = some (.iconst 0, 1, 0) := am_code_of (M := tn_m64) rfl (by decide +kernel) rfl rfl
theorem kc_64_23 : am_code tn_G 64 23 = some (.bastore, 1, 0) := am_code_of (M := tn_m64) rfl (by decide +kernel) rfl rfl
theorem kc_64_24 : am_code tn_G 64 24 = some (.iinc 2 1, 3, 0) := am_code_of (M := tn_m64) rfl (by decide +kernel) rfl rfl
theorem kc_64_27 : am_code tn_G 64 27 = some (.goto (-25), 3, 2) := am_code_of (M := tn_m64) rfl (by decide +kernel) rfl (by decide +kernel)
theorem kc_64_30 : am_code tn_G 64 30 = some (.iconst 0, 1, 0) := am_code_of (M := tn_m64) rfl (by decide +kernel) rfl rfl
theorem kc_64_31 : am_code tn_G 64 31 = some (.istore_n 2, 1, 0) := am_code_of (M := tn_m64) rfl (by decide +kernel) rfl rfl
theorem kc_64_32 : am_code tn_G 64 32 = some (.iload_n 2, 1, 0) := am_code_of (M := tn_m64) rfl (by decide +kernel) rfl rfl
theorem kc_64_33 : am_code tn_G 64 33 = some (.aload_n 0, 1, 0) := am_code_of (M := tn_m64) rfl (by decide +kernel) rfl rfl
theorem kc_64_34 : am_code tn_G 64 34 = some (.getfield 54, 3, 0) := am_code_of (M := tn_m64) rfl (by decide +kernel) rfl rfl
theorem kc_64_37 : am_code tn_G 64 37 = some (.if_icmp .ge 27, 3, 64) := am_code_of (M := tn_m64) rfl (by decide +kernel) rfl (by decide +kernel)
theorem kc_64_40 : am_code tn_G 64 40 = some (.aload_n 0, 1, 0) := am_code_of (M := tn_m64) rfl (by decide +kernel) rfl rfl
theorem kc_64_41 : am_code tn_G 64 41 = some (.getfield 13, 3, 0) := am_code_of (M := tn_m64) rfl (by decide +kernel) rfl rfl
theorem kf_64_13 : am_fld tn_G 64 13 = some (5, 1) := by decide +kernel
theorem kc_64_44 : am_code tn_G 64 44 = some (.iload_n 2, 1, 0) := am_code_of (M := tn_m64) rfl (by decide +kernel) rfl rfl
theorem kc_64_45 : am_code tn_G 64 45 = some (.iaload, 1, 0) := am_code_of (M := tn_m64) rfl (by decide +kernel) rfl rfl
theorem kc_64_46 : am_code tn_G 64 46 = some (.ifCond .lt 12, 3, 58) := am_code_of (M := tn_m64) rfl (by decide +kernel) rfl (by decide +kernel)
theorem kc_64_49 : am_code tn_G 64 49 = some (.aload_n 0, 1, 0) := am_code_of (M := tn_m64) rfl (by decide +kernel) rfl rfl
theorem kc_64_50 : am_code tn_G 64 50 = some (.getfield 34, 3, 0) := am_code_of (M := tn_m64) rfl (by decide +kernel) rfl rfl
theorem kc_64_53 : am_code tn_G 64 53 = some (.aload_n 1, 1, 0) := am_code_of (M := tn_m64) rfl (by decide +kernel) rfl rfl
theorem kc_64_54 : am_code tn_G 64 54 = some (.iload_n 2, 1, 0) := am_code_of (M := tn_m64) rfl (by decide +kernel) rfl rfl
theorem kc_64_55 : am_code tn_G 64 55 = some (.iaload, 1, 0) := am_code_of (M := tn_m64) rfl (by decide +kernel) rfl rfl
theorem kc_64_56 : am_code tn_G 64 56 = some (.iload_n 2, 1, 0) := am_code_of (M := tn_m64) rfl (by decide +kernel) rfl rfl
theorem kc_64_57 : am_code tn_G 64 57 = some (.iastore, 1, 0) := am_code_of (M := tn_m64) rfl (by decide +kernel) rfl rfl
theorem kc_64_58 : am_code tn_G 64 58 = some (.iinc 2 1, 3, 0) := am_code_of (M := tn_m64) rfl (by decide +kernel) rfl rfl
theorem kc_64_61 : am_code tn_G 64 61 = some (.goto (-29), 3, 32) := am_code_of (M := tn_m64) rfl (by decide +kernel) rfl (by decide +kernel)
theorem kc_64_64 : am_code tn_G 64 64 = some (.iconst 1, 1, 0) := am_code_of (M := tn_m64) rfl (by decide +kernel) rfl rfl
theorem kc_64_65 : am_code tn_G 64 65 = some (.istore_n 2, 1, 0) := am_code_of (M := tn_m64) rfl (by decide +kernel) rfl rfl
theorem kc_64_66 : am_code tn_G 64 66 = some (.iconst 0, 1, 0) := am_code_of (M := tn_m64) rfl (by decide +kernel) rfl rfl
theorem kc_64_67 : am_code tn_G 64 67 = some (.istore_n 3, 1, 0) := am_code_of (M := tn_m64) rfl (by decide +kernel) rfl rfl
theorem kc_64_68 : am_code tn_G 64 68 = some (.iload_n 2, 1, 0) := am_code_of (M := tn_m64) rfl (by decide +kernel) rfl rfl
theorem kc_64_69 : am_code tn_G 64 69 = some (.ifCond .eq 233, 3, 302) := am_code_of (M := tn_m64) rfl (by decide +kernel) rfl (by decide +kernel)
theorem kc_64_72 : am_code tn_G 64 72 = some (.iconst 0, 1, 0) := am_code_of (M := tn_m64) rfl (by decide +kernel) rfl rfl
theorem kc_64_73 : am_code tn_G 64 73 = some (.istore_n 2, 1, 0) := am_code_of (M := tn_m64) rfl (by decide +kernel) rfl rfl
theorem kc_64_74 : am_code tn_G 64 74 = some (.iconst 0, 1, 0) := am_code_of (M := tn_m64) rfl (by decide +kernel) rfl rfl
theorem kc_64_75 : am_code tn_G 64 75 = some (.istore_n 3, 1, 0) := am_code_of (M := tn_m64) rfl (by decide +kernel) rfl rfl
theorem kc_64_76 : am_code tn_G 64 76 = some (.iconst 0, 1, 0) := am_code_of (M := tn_m64) rfl (by decide +kernel) rfl rfl
theorem kc_64_77 : am_code tn_G 64 77 = some (.istore 4, 2, 0) := am_code_of (M := tn_m64) rfl (by decide +kernel) rfl rfl
theorem kc_64_79 : am_code tn_G 64 79 = some (.iload 4, 2, 0) := am_code_of (M := tn_m64) rfl (by decide +kernel) rfl rfl
theorem kc_64_81 : am_code tn_G 64 81 = some (.aload_n 0, 1, 0) := am_code_of (M := tn_m64) rfl (by decide +kernel) rfl rfl
theorem kc_64_82 : am_code tn_G 64 82 = some (.getfield 54, 3, 0) := am_code_of (M := tn_m64) rfl (by decide +kernel) rfl rfl
theorem kc_64_85 : am_code tn_G 64 85 = some (.if_icmp .ge 214, 3, 299) := am_code_of (M := tn_m64) rfl (by decide +kernel) rfl (by decide +kernel)
theorem kc_64_88 : am_code tn_G 64 88 = some (.aload_n 1, 1, 0) := am_code_of (M := tn_m64) rfl (by decide +kernel) rfl rfl
theorem kc_64_89 : am_code tn_G 64 89 = some (.iload 4, 2, 0) := am_code_of (M := tn_m64) rfl (by decide +kernel) rfl rfl
theorem kc_64_91 : am_code tn_G 64 91 = some (.iaload, 1, 0) := am_code_of (M := tn_m64) rfl (by decide +kernel) rfl rfl
theorem kc_64_92 : am_code tn_G 64 92 = some (.iload 4, 2, 0) := am_code_of (M := tn_m64) rfl (by decide +kernel) rfl rfl
theorem kc_64_94 : am_code tn_G 64 94 = some (.if_icmp .ne 199, 3, 293) := am_code_of (M := tn_m64) rfl (by decide +kernel) rfl (by decide +kernel)
theorem kc_64_97 : am_code tn_G 64 97 = some (.aload_n 0, 1, 0) := am_code_of (M := tn_m64) rfl (by decide +kernel) rfl rfl
theorem kc_64_98 : am_code tn_G 64 98 = some (.getfield 43, 3, 0) := am_code_of (M := tn_m64) rfl (by decide +kernel) rfl rfl
theorem kc_64_101 : am_code tn_G 64 101 = some (.iload 4, 2, 0) := am_code_of (M := tn_m64) rfl (by decide +kernel) rfl rfl
theorem kc_64_103 : am_code tn_G 64 103 = some (.baload, 1, 0) := am_code_of (M := tn_m64) rfl (by decide +kernel) rfl rfl
theorem kc_64_104 : am_code tn_G 64 104 = some (.ifCond .eq 6, 3, 110) := am_code_of (M := tn_m64) rfl (by decide +kernel) rfl (by decide +kernel)
theorem kc_64_107 : am_code tn_G 64 107 = some (.goto 186, 3, 293) := am_code_of (M := tn_m64) rfl (by decide +kernel) rfl (by decide +kernel)
theorem kc_64_110 : am_code tn_G 64 110 = some (.aload_n 0, 1, 0) := am_code_of (M := tn_m64) rfl (by decide +kernel) rfl rfl
theorem kc_64_111 : am_code tn_G 64 111 = some (.getfield 34, 3, 0) := am_code_of (M := tn_m64) rfl (by decide +kernel) rfl rfl
theorem kc_64_114 : am_code tn_G 64 114 = some (.iload 4, 2, 0) := am_code_of (M := tn_m64) rfl (by decide +kernel) rfl rfl
theorem kc_64_116 : am_code tn_G 64 116 = some (.iaload, 1, 0) := am_code_of (M := tn_m64) rfl (by decide +kernel) rfl rfl
theorem kc_64_117 : am_code tn_G 64 117 = some (.istore 5, 2, 0) := am_code_of (M := tn_m64) rfl (by decide +kernel) rfl rfl
theorem kc_64_119 : am_code tn_G 64 119 = some (.iload 5, 2, 0) := am_code_of (M := tn_m64) rfl (by decide +kernel) rfl rfl
theorem kc_64_121 : am_code tn_G 64 121 = some (.ifCond .ge 7, 3, 128) := am_code_of (M := tn_m64) rfl (by decide +kernel) rfl (by decide +kernel)
theorem kc_64_124 : am_code tn_G 64 124 = some (.iconst 0, 1, 0) := am_code_of (M := tn_m64) rfl (by decide +kernel) rfl rfl
theorem kc_64_125 : am_code tn_G 64 125 = some (.goto 15, 3, 140) := am_code_of (M := tn_m64) rfl (by decide +kernel) rfl (by decide +kernel)
theorem kc_64_128 : am_code tn_G 64 128 = some (.aload_n 0, 1, 0) := am_code_of (M := tn_m64) rfl (by decide +kernel) rfl rfl
theorem kc_64_129 : am_code tn_G 64 129 = some (.getfield 9, 3, 0) := am_code_of (M := tn_m64) rfl (by decide +kernel) rfl rfl
theorem kf_64_9 : am_fld tn_G 64 9 = some (5, 0) := by decide +kernel
theorem kc_64_132 : am_code tn_G 64 132 = some (.aload_n 0, 1, 0) := am_code_of (M := tn_m64) rfl (by decide +kernel) rfl rfl
theorem kc_64_133 : am_code tn_G 64 133 = some (.getfield 13, 3, 0) := am_code_of (M := tn_m64) rfl (by decide +kernel) rfl rfl
theorem kc_64_136 : am_code tn_G 64 136 = some (.iload 5, 2, 0) := am_code_of (M := tn_m64) rfl (by decide +kernel) rfl rfl
theorem kc_64_138 : am_code tn_G 64 138 = some (.iaload, 1, 0) := am_code_of (M := tn_m64) rfl (by decide +kernel) rfl rfl
theorem kc_64_139 : am_code tn_G 64 139 = some (.iaload, 1, 0) := am_code_of (M := tn_m64) rfl (by decide +kernel) rfl rfl
theorem kc_64_140 : am_code tn_G 64 140 = some (.istore 6, 2, 0) := am_code_of (M := tn_m64) rfl (by decide +kernel) rfl rfl
theorem kc_64_142 : am_code tn_G 64 142 = some (.iconst 1, 1, 0) := am_code_of (M := tn_m64) rfl (by decide +kernel) rfl rfl
theorem kc_64_143 : am_code tn_G 64 143 = some (.istore 7, 2, 0) := am_code_of (M := tn_m64) rfl (by decide +kernel) rfl rfl
theorem kc_64_145 : am_code tn_G 64 145 = some (.iconst 0, 1, 0) := am_code_of (M := tn_m64) rfl (by decide +kernel) rfl rfl
theorem kc_64_146 : am_code tn_G 64 146 = some (.istore 8, 2, 0) := am_code_of (M := tn_m64) rfl (by decide +kernel) rfl rfl
theorem kc_64_148 : am_code tn_G 64 148 = some (.iconst 1, 1, 0) := am_code_of (M := tn_m64) rfl (by decide +kernel) rfl rfl
theorem kc_64_149 : am_code tn_G 64 149 = some (.istore 9, 2, 0) := am_code_of (M := tn_m64) rfl (by decide +kernel) rfl rfl
theorem kc_64_151 : am_code tn_G 64 151 = some (.iconst 0, 1, 0) := am_code_of (M := tn_m64) rfl (by decide +kernel) rfl rfl
theorem kc_64_152 : am_code tn_G 64 152 = some (.istore 10, 2, 0) := am_code_of (M := tn_m64) rfl (by decide +kernel) rfl rfl
theorem kc_64_154 : am_code tn_G 64 154 = some (.iload 10, 2, 0) := am_code_of (M := tn_m64) rfl (by decide +kernel) rfl rfl
theorem kc_64_156 : am_code tn_G 64 156 = some (.iload 6, 2, 0) := am_code_of (M := tn_m64) rfl (by decide +kernel) rfl rfl
theorem kc_64_158 : am_code tn_G 64 158 = some (.if_icmp .ge 94, 3, 252) := am_code_of (M := tn_m64) rfl (by decide +kernel) rfl (by decide +kernel)
theorem kc_64_161 : am_code tn_G 64 161 = some (.aload_n 1, 1, 0) := am_code_of (M := tn_m64) rfl (by decide +kernel) rfl rfl
theorem kc_64_162 : am_code tn_G 64 162 = some (.aload_n 0, 1, 0) := am_code_of (M := tn_m64) rfl (by decide +kernel) rfl rfl
theorem kc_64_163 : am_code tn_G 64 163 = some (.getfield 16, 3, 0) := am_code_of (M := tn_m64) rfl (by decide +kernel) rfl rfl
theorem kf_64_16 : am_fld tn_G 64 16 = some (5, 2) := by decide +kernel
theorem kc_64_166 : am_code tn_G 64 166 = some (.iconst 3, 1, 0) := am_code_of (M := tn_m64) rfl (by decide +kernel) rfl rfl
theorem kc_64_167 : am_code tn_G 64 167 = some (.iload 5, 2, 0) := am_code_of (M := tn_m64) rfl (by decide +kernel) rfl rfl
theorem kc_64_169 : am_code tn_G 64 169 = some (.imul, 1, 0) := am_code_of (M := tn_m64) rfl (by decide +kernel) rfl rfl
theorem kc_64_170 : am_code tn_G 64 170 = some (.iload 10, 2, 0) := am_code_of (M := tn_m64) rfl (by decide +kernel) rfl rfl
theorem kc_64_172 : am_code tn_G 64 172 = some (.iadd, 1, 0) := am_code_of (M := tn_m64) rfl (by decide +kernel) rfl rfl
theorem kc_64_173 : am_code tn_G 64 173 = some (.iaload, 1, 0) := am_code_of (M := tn_m64) rfl (by decide +kernel) rfl rfl
theorem kc_64_174 : am_code tn_G 64 174 = some (.iaload, 1, 0) := am_code_of (M := tn_m64) rfl (by decide +kernel) rfl rfl
theorem kc_64_175 : am_code tn_G 64 175 = some (.istore 11, 2, 0) := am_code_of (M := tn_m64) rfl (by decide +kernel) rfl rfl
theorem kc_64_177 : am_code tn_G 64 177 = some (.aload_n 0, 1, 0) := am_code_of (M := tn_m64) rfl (by decide +kernel) rfl rfl
theorem kc_64_178 : am_code tn_G 64 178 = some (.getfield 43, 3, 0) := am_code_of (M := tn_m64) rfl (by decide +kernel) rfl rfl
theorem kc_64_181 : am_code tn_G 64 181 = some (.iload 11, 2, 0) := am_code_of (M := tn_m64) rfl (by decide +kernel) rfl rfl
theorem kc_64_183 : am_code tn_G 64 183 = some (.baload, 1, 0) := am_code_of (M := tn_m64) rfl (by decide +kernel) rfl rfl
theorem kc_64_184 : am_code tn_G 64 184 = some (.ifCond .ne 9, 3, 193) := am_code_of (M := tn_m64) rfl (by decide +kernel) rfl (by decide +kernel)
theorem kc_64_187 : am_code tn_G 64 187 = some (.iconst 0, 1, 0) := am_code_of (M := tn_m64) rfl (by decide +kernel) rfl rfl
theorem kc_64_188 : am_code tn_G 64 188 = some (.istore 9, 2, 0) := am_code_of (M := tn_m64) rfl (by decide +kernel) rfl rfl
theorem kc_64_190 : am_code tn_G 64 190 = some (.goto 56, 3, 246) := am_code_of (M := tn_m64) rfl (by decide +kernel) rfl (by decide +kernel)
theorem kc_64_193 : am_code tn_G 64 193 = some (.iload 7, 2, 0) := am_code_of (M := tn_m64) rfl (by decide +kernel) rfl rfl
theorem kc_64_195 : am_code tn_G 64 195 = some (.aload_n 0, 1, 0) := am_code_of (M := tn_m64) rfl (by decide +kernel) rfl rfl
theorem kc_64_196 : am_code tn_G 64 196 = some (.getfield 37, 3, 0) := am_code_of (M := tn_m64) rfl (by decide +kernel) rfl rfl
theorem kf_64_37 : am_fld tn_G 64 37 = some (5, 14) := by decide +kernel
theorem kc_64_199 : am_code tn_G 64 199 = some (.iload 11, 2, 0) := am_code_of (M := tn_m64) rfl (by decide +kernel) rfl rfl
theorem kc_64_201 : am_code tn_G 64 201 = some (.iaload, 1, 0) := am_code_of (M := tn_m64) rfl (by decide +kernel) rfl rfl
theorem kc_64_202 : am_code tn_G 64 202 = some (.iadd, 1, 0) := am_code_of (M := tn_m64) rfl (by decide +kernel) rfl rfl
theorem kc_64_203 : am_code tn_G 64 203 = some (.ldc 76, 2, 0) := am_code_of (M := tn_m64) rfl (by decide +kernel) rfl rfl
theorem ki_64_76 : am_ki tn_G 64 76 = some 1000000000 := by decide +kernel
theorem kc_64_205 : am_code tn_G 64 205 = some (.if_icmp .le 8, 3, 213) := am_code_of (M := tn_m64) rfl (by decide +kernel) rfl (by decide +kernel)
theorem kc_64_208 : am_code tn_G 64 208 = some (.ldc 76, 2, 0) := am_code_of (M := tn_m64) rfl (by decide +kernel) rfl rfl
theorem kc_64_210 : am_code tn_G 64 210 = some (.goto 13, 3, 223) := am_code_of (M := tn_m64) rfl (by decide +kernel) rfl (by decide +kernel)
theorem kc_64_213 : am_code tn_G 64 213 = some (.iload 7, 2, 0) := am_code_of (M := tn_m64) rfl (by decide +kernel) rfl rfl
theorem kc_64_215 : am_code tn_G 64 215 = some (.aload_n 0, 1, 0) := am_code_of (M := tn_m64) rfl (by decide +kernel) rfl rfl
theorem kc_64_216 : am_code tn_G 64 216 = some (.getfield 37, 3, 0) := am_code_of (M := tn_m64) rfl (by decide +kernel) rfl rfl
theorem kc_64_219 : am_code tn_G 64 219 = some (.iload 11, 2, 0) := am_code_of (M := tn_m64) rfl (by decide +kernel) rfl rfl
theorem kc_64_221 : am_code tn_G 64 221 = some (.iaload, 1, 0) := am_code_of (M := tn_m64) rfl (by decide +kernel) rfl rfl
theorem kc_64_222 : am_code tn_G 64 222 = some (.iadd, 1, 0) := am_code_of (M := tn_m64) rfl (by decide +kernel) rfl rfl
theorem kc_64_223 : am_code tn_G 64 223 = some (.istore 7, 2, 0) := am_code_of (M := tn_m64) rfl (by decide +kernel) rfl rfl
theorem kc_64_225 : am_code tn_G 64 225 = some (.aload_n 0, 1, 0) := am_code_of (M := tn_m64) rfl (by decide +kernel) rfl rfl
theorem kc_64_226 : am_code tn_G 64 226 = some (.getfield 40, 3, 0) := am_code_of (M := tn_m64) rfl (by decide +kernel) rfl rfl
theorem kf_64_40 : am_fld tn_G 64 40 = some (5, 15) := by decide +kernel
theorem kc_64_229 : am_code tn_G 64 229 = some (.iload 11, 2, 0) := am_code_of (M := tn_m64) rfl (by decide +kernel) rfl rfl
theorem kc_64_231 : am_code tn_G 64 231 = some (.iaload, 1, 0) := am_code_of (M := tn_m64) rfl (by decide +kernel) rfl rfl
theorem kc_64_232 : am_code tn_G 64 232 = some (.iload 8, 2, 0) := am_code_of (M := tn_m64) rfl (by decide +kernel) rfl rfl
theorem kc_64_234 : am_code tn_G 64 234 = some (.if_icmp .le 12, 3, 246) := am_code_of (M := tn_m64) rfl (by decide +kernel) rfl (by decide +kernel)
theorem kc_64_237 : am_code tn_G 64 237 = some (.aload_n 0, 1, 0) := am_code_of (M := tn_m64) rfl (by decide +kernel) rfl rfl
theorem kc_64_238 : am_code tn_G 64 238 = some (.getfield 40, 3, 0) := am_code_of (M := tn_m64) rfl (by decide +kernel) rfl rfl
theorem kc_64_241 : am_code tn_G 64 241 = some (.iload 11, 2, 0) := am_code_of (M := tn_m64) rfl (by decide +kernel) rfl rfl
theorem kc_64_243 : am_code tn_G 64 243 = some (.iaload, 1, 0) := am_code_of (M := tn_m64) rfl (by decide +kernel) rfl rfl
theorem kc_64_244 : am_code tn_G 64 244 = some (.istore 8, 2, 0) := am_code_of (M := tn_m64) rfl (by decide +kernel) rfl rfl
theorem kc_64_246 : am_code tn_G 64 246 = some (.iinc 10 1, 3, 0) := am_code_of (M := tn_m64) rfl (by decide +kernel) rfl rfl
theorem kc_64_249 : am_code tn_G 64 249 = some (.goto (-95), 3, 154) := am_code_of (M := tn_m64) rfl (by decide +kernel) rfl (by decide +kernel)
theorem kc_64_252 : am_code tn_G 64 252 = some (.iload 9, 2, 0) := am_code_of (M := tn_m64) rfl (by decide +kernel) rfl rfl
theorem kc_64_254 : am_code tn_G 64 254 = some (.ifCond .ne 9, 3, 263) := am_code_of (M := tn_m64) rfl (by decide +kernel) rfl (by decide +kernel)
theorem kc_64_257 : am_code tn_G 64 257 = some (.iinc 3 1, 3, 0) := am_code_of (M := tn_m64) rfl (by decide +kernel) rfl rfl
theorem kc_64_260 : am_code tn_G 64 260 = some (.goto 33, 3, 293) := am_code_of (M := tn_m64) rfl (by decide +kernel) rfl (by decide +kernel)
theorem kc_64_263 : am_code tn_G 64 263 = some (.aload_n 0, 1, 0) := am_code_of (M := tn_m64) rfl (by decide +kernel) rfl rfl
theorem kc_64_264 : am_code tn_G 64 264 = some (.getfield 43, 3, 0) := am_code_of (M := tn_m64) rfl (by decide +kernel) rfl rfl
theorem kc_64_267 : am_code tn_G 64 267 = some (.iload 4, 2, 0) := am_code_of (M := tn_m64) rfl (by decide +kernel) rfl rfl
theorem kc_64_269 : am_code tn_G 64 269 = some (.iconst 1, 1, 0) := am_code_of (M := tn_m64) rfl (by decide +kernel) rfl rfl
theorem kc_64_270 : am_code tn_G 64 270 = some (.bastore, 1, 0) := am_code_of (M := tn_m64) rfl (by decide +kernel) rfl rfl
theorem kc_64_271 : am_code tn_G 64 271 = some (.aload_n 0, 1, 0) := am_code_of (M := tn_m64) rfl (by decide +kernel) rfl rfl
theorem kc_64_272 : am_code tn_G 64 272 = some (.getfield 37, 3, 0) := am_code_of (M := tn_m64) rfl (by decide +kernel) rfl rfl
theorem kc_64_275 : am_code tn_G 64 275 = some (.iload 4, 2, 0) := am_code_of (M := tn_m64) rfl (by decide +kernel) rfl rfl
theorem kc_64_277 : am_code tn_G 64 277 = some (.iload 7, 2, 0) := am_code_of (M := tn_m64) rfl (by decide +kernel) rfl rfl
theorem kc_64_279 : am_code tn_G 64 279 = some (.iastore, 1, 0) := am_code_of (M := tn_m64) rfl (by decide +kernel) rfl rfl
theorem kc_64_280 : am_code tn_G 64 280 = some (.aload_n 0, 1, 0) := am_code_of (M := tn_m64) rfl (by decide +kernel) rfl rfl
theorem kc_64_281 : am_code tn_G 64 281 = some (.getfield 40, 3, 0) := am_code_of (M := tn_m64) rfl (by decide +kernel) rfl rfl
theorem kc_64_284 : am_code tn_G 64 284 = some (.iload 4, 2, 0) := am_code_of (M := tn_m64) rfl (by decide +kernel) rfl rfl
theorem kc_64_286 : am_code tn_G 64 286 = some (.iload 8, 2, 0) := am_code_of (M := tn_m64) rfl (by decide +kernel) rfl rfl
theorem kc_64_288 : am_code tn_G 64 288 = some (.iconst 1, 1, 0) := am_code_of (M := tn_m64) rfl (by decide +kernel) rfl rfl
theorem kc_64_289 : am_code tn_G 64 289 = some (.iadd, 1, 0) := am_code_of (M := tn_m64) rfl (by decide +kernel) rfl rfl
theorem kc_64_290 : am_code tn_G 64 290 = some (.iastore, 1, 0) := am_code_of (M := tn_m64) rfl (by decide +kernel) rfl rfl
theorem kc_64_291 : am_code tn_G 64 291 = some (.iconst 1, 1, 0) := am_code_of (M := tn_m64) rfl (by decide +kernel) rfl rfl
theorem kc_64_292 : am_code tn_G 64 292 = some (.istore_n 2, 1, 0) := am_code_of (M := tn_m64) rfl (by decide +kernel) rfl rfl
theorem kc_64_293 : am_code tn_G 64 293 = some (.iinc 4 1, 3, 0) := am_code_of (M := tn_m64) rfl (by decide +kernel) rfl rfl
theorem kc_64_296 : am_code tn_G 64 296 = some (.goto (-217), 3, 79) := am_code_of (M := tn_m64) rfl (by decide +kernel) rfl (by decide +kernel)
theorem kc_64_299 : am_code tn_G 64 299 = some (.goto (-231), 3, 68) := am_code_of (M := tn_m64) rfl (by decide +kernel) rfl (by decide +kernel)
theorem kc_64_302 : am_code tn_G 64 302 = some (.iload_n 3, 1, 0) := am_code_of (M := tn_m64) rfl (by decide +kernel) rfl rfl
theorem kc_64_303 : am_code tn_G 64 303 = some (.ifCond .ne 7, 3, 310) := am_code_of (M := tn_m64) rfl (by decide +kernel) rfl (by decide +kernel)
theorem kc_64_306 : am_code tn_G 64 306 = some (.iconst 1, 1, 0) := am_code_of (M := tn_m64) rfl (by decide +kernel) rfl rfl
theorem kc_64_307 : am_code tn_G 64 307 = some (.goto 4, 3, 311) := am_code_of (M := tn_m64) rfl (by decide +kernel) rfl (by decide +kernel)
theorem kc_64_310 : am_code tn_G 64 310 = some (.iconst 0, 1, 0) := am_code_of (M := tn_m64) rfl (by decide +kernel) rfl rfl
theorem kc_64_311 : am_code tn_G 64 311 = some (.ireturn, 1, 0) := am_code_of (M := tn_m64) rfl (by decide +kernel) rfl rfl
-- 65: TermNetModel.same(II)Z
theorem kl_65 : am_ml tn_G 65 = 3 := rfl
theorem ko_65 : am_oc tn_G 65 = 5 := rfl
theorem kn_65 : am_nc tn_G 65 = 0 := rfl
theorem kr_65 : am_rt tn_G 65 = 2 := rfl
theorem kc_65_0 : am_code tn_G 65 0 = some (.aload_n 0, 1, 0) := am_code_of (M := tn_m65) rfl (by decide +kernel) rfl rfl
theorem kc_65_1 : am_code tn_G 65 1 = some (.aload_n 0, 1, 0) := am_code_of (M := tn_m65) rfl (by decide +kernel) rfl rfl
theorem kc_65_2 : am_code tn_G 65 2 = some (.iload_n 1, 1, 0) := am_code_of (M := tn_m65) rfl (by decide +kernel) rfl rfl
theorem kc_65_3 : am_code tn_G 65 3 = some (.invokevirtual 68, 3, 0) := am_code_of (M := tn_m65) rfl (by decide +kernel) rfl rfl
theorem ka_65_68 : am_cal tn_G 65 68 = some (0, 62, 1) := by decide +kernel
theorem kc_65_6 : am_code tn_G 65 6 = some (.ifCond .eq 15, 3, 21) := am_code_of (M := tn_m65) rfl (by decide +kernel) rfl (by decide +kernel)
theorem kc_65_9 : am_code tn_G 65 9 = some (.aload_n 0, 1, 0) := am_code_of (M := tn_m65) rfl (by decide +kernel) rfl rfl
theorem kc_65_10 : am_code tn_G 65 10 = some (.iload_n 2, 1, 0) := am_code_of (M := tn_m65) rfl (by decide +kernel) rfl rfl
theorem kc_65_11 : am_code tn_G 65 11 = some (.invokevirtual 68, 3, 0) := am_code_of (M := tn_m65) rfl (by decide +kernel) rfl rfl
theorem kc_65_14 : am_code tn_G 65 14 = some (.ifCond .eq 7, 3, 21) := am_code_of (M := tn_m65) rfl (by decide +kernel) rfl (by decide +kernel)
theorem kc_65_17 : am_code tn_G 65 17 = some (.iconst 0, 1, 0) := am_code_of (M := tn_m65) rfl (by decide +kernel) rfl rfl
theorem kc_65_18 : am_code tn_G 65 18 = some (.goto 4, 3, 22) := am_code_of (M := tn_m65) rfl (by decide +kernel) rfl (by decide +kernel)
theorem kc_65_21 : am_code tn_G 65 21 = some (.iconst 1, 1, 0) := am_code_of (M := tn_m65) rfl (by decide +kernel) rfl rfl
theorem kc_65_22 : am_code tn_G 65 22 = some (.putfield 50, 3, 0) := am_code_of (M := tn_m65) rfl (by decide +kernel) rfl rfl
theorem kf_65_50 : am_fld tn_G 65 50 = some (5, 7) := by decide +kernel
theorem kc_65_25 : am_code tn_G 65 25 = some (.aload_n 0, 1, 0) := am_code_of (M := tn_m65) rfl (by decide +kernel) rfl rfl
theorem kc_65_26 : am_code tn_G 65 26 = some (.getfield 50, 3, 0) := am_code_of (M := tn_m65) rfl (by decide +kernel) rfl rfl
theorem kc_65_29 : am_code tn_G 65 29 = some (.ifCond .ne 22, 3, 51) := am_code_of (M := tn_m65) rfl (by decide +kernel) rfl (by decide +kernel)
theorem kc_65_32 : am_code tn_G 65 32 = some (.aload_n 0, 1, 0) := am_code_of (M := tn_m65) rfl (by decide +kernel) rfl rfl
theorem kc_65_33 : am_code tn_G 65 33 = some (.getfield 19, 3, 0) := am_code_of (M := tn_m65) rfl (by decide +kernel) rfl rfl
theorem kf_65_19 : am_fld tn_G 65 19 = some (5, 8) := by decide +kernel
theorem kc_65_36 : am_code tn_G 65 36 = some (.iload_n 1, 1, 0) := am_code_of (M := tn_m65) rfl (by decide +kernel) rfl rfl
theorem kc_65_37 : am_code tn_G 65 37 = some (.iaload, 1, 0) := am_code_of (M := tn_m65) rfl (by decide +kernel) rfl rfl
theorem kc_65_38 : am_code tn_G 65 38 = some (.aload_n 0, 1, 0) := am_code_of (M := tn_m65) rfl (by decide +kernel) rfl rfl
theorem kc_65_39 : am_code tn_G 65 39 = some (.getfield 19, 3, 0) := am_code_of (M := tn_m65) rfl (by decide +kernel) rfl rfl
theorem kc_65_42 : am_code tn_G 65 42 = some (.iload_n 2, 1, 0) := am_code_of (M := tn_m65) rfl (by decide +kernel) rfl rfl
theorem kc_65_43 : am_code tn_G 65 43 = some (.iaload, 1, 0) := am_code_of (M := tn_m65) rfl (by decide +kernel) rfl rfl
theorem kc_65_44 : am_code tn_G 65 44 = some (.if_icmp .ne 7, 3, 51) := am_code_of (M := tn_m65) rfl (by decide +kernel) rfl (by decide +kernel)
theorem kc_65_47 : am_code tn_G 65 47 = some (.iconst 1, 1, 0) := am_code_of (M := tn_m65) rfl (by decide +kernel) rfl rfl
theorem kc_65_48 : am_code tn_G 65 48 = some (.goto 4, 3, 52) := am_code_of (M := tn_m65) rfl (by decide +kernel) rfl (by decide +kernel)
theorem kc_65_51 : am_code tn_G 65 51 = some (.iconst 0, 1, 0) := am_code_of (M := tn_m65) rfl (by decide +kernel) rfl rfl
theorem kc_65_52 : am_code tn_G 65 52 = some (.ireturn, 1, 0) := am_code_of (M := tn_m65) rfl (by decide +kernel) rfl rfl
-- 66: TermNetModel.top(I)I
theorem kl_66 : am_ml tn_G 66 = 4 := rfl
theorem ko_66 : am_oc tn_G 66 = 5 := rfl
theorem kn_66 : am_nc tn_G 66 = 0 := rfl
theorem kr_66 : am_rt tn_G 66 = 1 := rfl
theorem kc_66_0 : am_code tn_G 66 0 = some (.aload_n 0, 1, 0) := am_code_of (M := tn_m66) rfl (by decide +kernel) rfl rfl
theorem kc_66_1 : am_code tn_G 66 1 = some (.aload_n 0, 1, 0) := am_code_of (M := tn_m66) rfl (by decide +kernel) rfl rfl
theorem kc_66_2 : am_code tn_G 66 2 = some (.iload_n 1, 1, 0) := am_code_of (M := tn_m66) rfl (by decide +kernel) rfl rfl
theorem kc_66_3 : am_code tn_G 66 3 = some (.invokevirtual 68, 3, 0) := am_code_of (M := tn_m66) rfl (by decide +kernel) rfl rfl
theorem ka_66_68 : am_cal tn_G 66 68 = some (0, 62, 1) := by decide +kernel
theorem kc_66_6 : am_code tn_G 66 6 = some (.ifCond .eq 7, 3, 13) := am_code_of (M := tn_m66) rfl (by decide +kernel) rfl (by decide +kernel)
theorem kc_66_9 : am_code tn_G 66 9 = some (.iconst 0, 1, 0) := am_code_of (M := tn_m66) rfl (by decide +kernel) rfl rfl
theorem kc_66_10 : am_code tn_G 66 10 = some (.goto 4, 3, 14) := am_code_of (M := tn_m66) rfl (by decide +kernel) rfl (by decide +kernel)
theorem kc_66_13 : am_code tn_G 66 13 = some (.iconst 1, 1, 0) := am_code_of (M := tn_m66) rfl (by decide +kernel) rfl rfl
theorem kc_66_14 : am_code tn_G 66 14 = some (.putfield 50, 3, 0) := am_code_of (M := tn_m66) rfl (by decide +kernel) rfl rfl
theorem kf_66_50 : am_fld tn_G 66 50 = some (5, 7) := by decide +kernel
theorem kc_66_17 : am_code tn_G 66 17 = some (.aload_n 0, 1, 0) := am_code_of (M := tn_m66) rfl (by decide +kernel) rfl rfl
theorem kc_66_18 : am_code tn_G 66 18 = some (.getfield 50, 3, 0) := am_code_of (M := tn_m66) rfl (by decide +kernel) rfl rfl
theorem kc_66_21 : am_code tn_G 66 21 = some (.ifCond .le 5, 3, 26) := am_code_of (M := tn_m66) rfl (by decide +kernel) rfl (by decide +kernel)
theorem kc_66_24 : am_code tn_G 66 24 = some (.iconst 0, 1, 0) := am_code_of (M := tn_m66) rfl (by decide +kernel) rfl rfl
theorem kc_66_25 : am_code tn_G 66 25 = some (.ireturn, 1, 0) := am_code_of (M := tn_m66) rfl (by decide +kernel) rfl rfl
theorem kc_66_26 : am_code tn_G 66 26 = some (.aload_n 0, 1, 0) := am_code_of (M := tn_m66) rfl (by decide +kernel) rfl rfl
theorem kc_66_27 : am_code tn_G 66 27 = some (.aload_n 0, 1, 0) := am_code_of (M := tn_m66) rfl (by decide +kernel) rfl rfl
theorem kc_66_28 : am_code tn_G 66 28 = some (.getfield 19, 3, 0) := am_code_of (M := tn_m66) rfl (by decide +kernel) rfl rfl
theorem kf_66_19 : am_fld tn_G 66 19 = some (5, 8) := by decide +kernel
theorem kc_66_31 : am_code tn_G 66 31 = some (.invokevirtual 77, 3, 0) := am_code_of (M := tn_m66) rfl (by decide +kernel) rfl rfl
theorem ka_66_77 : am_cal tn_G 66 77 = some (0, 64, 1) := by decide +kernel
theorem kc_66_34 : am_code tn_G 66 34 = some (.istore_n 2, 1, 0) := am_code_of (M := tn_m66) rfl (by decide +kernel) rfl rfl
theorem kc_66_35 : am_code tn_G 66 35 = some (.aload_n 0, 1, 0) := am_code_of (M := tn_m66) rfl (by decide +kernel) rfl rfl
theorem kc_66_36 : am_code tn_G 66 36 = some (.getfield 34, 3, 0) := am_code_of (M := tn_m66) rfl (by decide +kernel) rfl rfl
theorem kf_66_34 : am_fld tn_G 66 34 = some (5, 13) := by decide +kernel
theorem kc_66_39 : am_code tn_G 66 39 = some (.aload_n 0, 1, 0) := am_code_of (M := tn_m66) rfl (by decide +kernel) rfl rfl
theorem kc_66_40 : am_code tn_G 66 40 = some (.getfield 19, 3, 0) := am_code_of (M := tn_m66) rfl (by decide +kernel) rfl rfl
theorem kc_66_43 : am_code tn_G 66 43 = some (.iload_n 1, 1, 0) := am_code_of (M := tn_m66) rfl (by decide +kernel) rfl rfl
theorem kc_66_44 : am_code tn_G 66 44 = some (.iaload, 1, 0) := am_code_of (M := tn_m66) rfl (by decide +kernel) rfl rfl
theorem kc_66_45 : am_code tn_G 66 45 = some (.iaload, 1, 0) := am_code_of (M := tn_m66) rfl (by decide +kernel) rfl rfl
theorem kc_66_46 : am_code tn_G 66 46 = some (.istore_n 3, 1, 0) := am_code_of (M := tn_m66) rfl (by decide +kernel) rfl rfl
theorem kc_66_47 : am_code tn_G 66 47 = some (.iload_n 3, 1, 0) := am_code_of (M := tn_m66) rfl (by decide +kernel) rfl rfl
theorem kc_66_48 : am_code tn_G 66 48 = some (.ifCond .ge 7, 3, 55) := am_code_of (M := tn_m66) rfl (by decide +kernel) rfl (by decide +kernel)
theorem kc_66_51 : am_code tn_G 66 51 = some (.iconst (-1), 1, 0) := am_code_of (M := tn_m66) rfl (by decide +kernel) rfl rfl
theorem kc_66_52 : am_code tn_G 66 52 = some (.goto 9, 3, 61) := am_code_of (M := tn_m66) rfl (by decide +kernel) rfl (by decide +kernel)
theorem kc_66_55 : am_code tn_G 66 55 = some (.aload_n 0, 1, 0) := am_code_of (M := tn_m66) rfl (by decide +kernel) rfl rfl
theorem kc_66_56 : am_code tn_G 66 56 = some (.getfield 13, 3, 0) := am_code_of (M := tn_m66) rfl (by decide +kernel) rfl rfl
theorem kf_66_13 : am_fld tn_G 66 13 = some (5, 1) := by decide +kernel
theorem kc_66_59 : am_code tn_G 66 59 = some (.iload_n 3, 1, 0) := am_code_of (M := tn_m66) rfl (by decide +kernel) rfl rfl
theorem kc_66_60 : am_code tn_G 66 60 = some (.iaload, 1, 0) := am_code_of (M := tn_m66) rfl (by decide +kernel) rfl rfl
theorem kc_66_61 : am_code tn_G 66 61 = some (.ireturn, 1, 0) := am_code_of (M := tn_m66) rfl (by decide +kernel) rfl rfl
-- 67: TermNetModel.part(II)I
theorem kl_67 : am_ml tn_G 67 = 5 := rfl
theorem ko_67 : am_oc tn_G 67 = 5 := rfl
theorem kn_67 : am_nc tn_G 67 = 0 := rfl
theorem kr_67 : am_rt tn_G 67 = 1 := rfl
theorem kc_67_0 : am_code tn_G 67 0 = some (.aload_n 0, 1, 0) := am_code_of (M := tn_m67) rfl (by decide +kernel) rfl rfl
theorem kc_67_1 : am_code tn_G 67 1 = some (.aload_n 0, 1, 0) := am_code_of (M := tn_m67) rfl (by decide +kernel) rfl rfl
theorem kc_67_2 : am_code tn_G 67 2 = some (.iload_n 1, 1, 0) := am_code_of (M := tn_m67) rfl (by decide +kernel) rfl rfl
theorem kc_67_3 : am_code tn_G 67 3 = some (.invokevirtual 68, 3, 0) := am_code_of (M := tn_m67) rfl (by decide +kernel) rfl rfl
theorem ka_67_68 : am_cal tn_G 67 68 = some (0, 62, 1) := by decide +kernel
theorem kc_67_6 : am_code tn_G 67 6 = some (.ifCond .eq 7, 3, 13) := am_code_of (M := tn_m67) rfl (by decide +kernel) rfl (by decide +kernel)
theorem kc_67_9 : am_code tn_G 67 9 = some (.iconst 0, 1, 0) := am_code_of (M := tn_m67) rfl (by decide +kernel) rfl rfl
theorem kc_67_10 : am_code tn_G 67 10 = some (.goto 4, 3, 14) := am_code_of (M := tn_m67) rfl (by decide +kernel) rfl (by decide +kernel)
theorem kc_67_13 : am_code tn_G 67 13 = some (.iconst 1, 1, 0) := am_code_of (M := tn_m67) rfl (by decide +kernel) rfl rfl
theorem kc_67_14 : am_code tn_G 67 14 = some (.putfield 50, 3, 0) := am_code_of (M := tn_m67) rfl (by decide +kernel) rfl rfl
theorem kf_67_50 : am_fld tn_G 67 50 = some (5, 7) := by decide +kernel
theorem kc_67_17 : am_code tn_G 67 17 = some (.aload_n 0, 1, 0) := am_code_of (M := tn_m67) rfl (by decide +kernel) rfl rfl
theorem kc_67_18 : am_code tn_G 67 18 = some (.getfield 50, 3, 0) := am_code_of (M := tn_m67) rfl (by decide +kernel) rfl rfl
theorem kc_67_21 : am_code tn_G 67 21 = some (.ifCond .le 5, 3, 26) := am_code_of (M := tn_m67) rfl (by decide +kernel) rfl (by decide +kernel)
theorem kc_67_24 : am_code tn_G 67 24 = some (.iconst 0, 1, 0) := am_code_of (M := tn_m67) rfl (by decide +kernel) rfl rfl
theorem kc_67_25 : am_code tn_G 67 25 = some (.ireturn, 1, 0) := am_code_of (M := tn_m67) rfl (by decide +kernel) rfl rfl
theorem kc_67_26 : am_code tn_G 67 26 = some (.aload_n 0, 1, 0) := am_code_of (M := tn_m67) rfl (by decide +kernel) rfl rfl
theorem kc_67_27 : am_code tn_G 67 27 = some (.aload_n 0, 1, 0) := am_code_of (M := tn_m67) rfl (by decide +kernel) rfl rfl
theorem kc_67_28 : am_code tn_G 67 28 = some (.getfield 19, 3, 0) := am_code_of (M := tn_m67) rfl (by decide +kernel) rfl rfl
theorem kf_67_19 : am_fld tn_G 67 19 = some (5, 8) := by decide +kernel
theorem kc_67_31 : am_code tn_G 67 31 = some (.invokevirtual 77, 3, 0) := am_code_of (M := tn_m67) rfl (by decide +kernel) rfl rfl
theorem ka_67_77 : am_cal tn_G 67 77 = some (0, 64, 1) := by decide +kernel
theorem kc_67_34 : am_code tn_G 67 34 = some (.istore_n 3, 1, 0) := am_code_of (M := tn_m67) rfl (by decide +kernel) rfl rfl
theorem kc_67_35 : am_code tn_G 67 35 = some (.aload_n 0, 1, 0) := am_code_of (M := tn_m67) rfl (by decide +kernel) rfl rfl
theorem kc_67_36 : am_code tn_G 67 36 = some (.getfield 34, 3, 0) := am_code_of (M := tn_m67) rfl (by decide +kernel) rfl rfl
theorem kf_67_34 : am_fld tn_G 67 34 = some (5, 13) := by decide +kernel
theorem kc_67_39 : am_code tn_G 67 39 = some (.aload_n 0, 1, 0) := am_code_of (M := tn_m67) rfl (by decide +kernel) rfl rfl
theorem kc_67_40 : am_code tn_G 67 40 = some (.getfield 19, 3, 0) := am_code_of (M := tn_m67) rfl (by decide +kernel) rfl rfl
theorem kc_67_43 : am_code tn_G 67 43 = some (.iload_n 1, 1, 0) := am_code_of (M := tn_m67) rfl (by decide +kernel) rfl rfl
theorem kc_67_44 : am_code tn_G 67 44 = some (.iaload, 1, 0) := am_code_of (M := tn_m67) rfl (by decide +kernel) rfl rfl
theorem kc_67_45 : am_code tn_G 67 45 = some (.iaload, 1, 0) := am_code_of (M := tn_m67) rfl (by decide +kernel) rfl rfl
theorem kc_67_46 : am_code tn_G 67 46 = some (.istore 4, 2, 0) := am_code_of (M := tn_m67) rfl (by decide +kernel) rfl rfl
theorem kc_67_48 : am_code tn_G 67 48 = some (.iload 4, 2, 0) := am_code_of (M := tn_m67) rfl (by decide +kernel) rfl rfl
theorem kc_67_50 : am_code tn_G 67 50 = some (.ifCond .lt 23, 3, 73) := am_code_of (M := tn_m67) rfl (by decide +kernel) rfl (by decide +kernel)
theorem kc_67_53 : am_code tn_G 67 53 = some (.iload_n 2, 1, 0) := am_code_of (M := tn_m67) rfl (by decide +kernel) rfl rfl
theorem kc_67_54 : am_code tn_G 67 54 = some (.ifCond .lt 19, 3, 73) := am_code_of (M := tn_m67) rfl (by decide +kernel) rfl (by decide +kernel)
theorem kc_67_57 : am_code tn_G 67 57 = some (.iload_n 2, 1, 0) := am_code_of (M := tn_m67) rfl (by decide +kernel) rfl rfl
theorem kc_67_58 : am_code tn_G 67 58 = some (.aload_n 0, 1, 0) := am_code_of (M := tn_m67) rfl (by decide +kernel) rfl rfl
theorem kc_67_59 : am_code tn_G 67 59 = some (.getfield 9, 3, 0) := am_code_of (M := tn_m67) rfl (by decide +kernel) rfl rfl
theorem kf_67_9 : am_fld tn_G 67 9 = some (5, 0) := by decide +kernel
theorem kc_67_62 : am_code tn_G 67 62 = some (.aload_n 0, 1, 0) := am_code_of (M := tn_m67) rfl (by decide +kernel) rfl rfl
theorem kc_67_63 : am_code tn_G 67 63 = some (.getfield 13, 3, 0) := am_code_of (M := tn_m67) rfl (by decide +kernel) rfl rfl
theorem kf_67_13 : am_fld tn_G 67 13 = some (5, 1) := by decide +kernel
theorem kc_67_66 : am_code tn_G 67 66 = some (.iload 4, 2, 0) := am_code_of (M := tn_m67) rfl (by decide +kernel) rfl rfl
theorem kc_67_68 : am_code tn_G 67 68 = some (.iaload, 1, 0) := am_code_of (M := tn_m67) rfl (by decide +kernel) rfl rfl
theorem kc_67_69 : am_code tn_G 67 69 = some (.iaload, 1, 0) := am_code_of (M := tn_m67) rfl (by decide +kernel) rfl rfl
theorem kc_67_70 : am_code tn_G 67 70 = some (.if_icmp .lt 10, 3, 80) := am_code_of (M := tn_m67) rfl (by decide +kernel) rfl (by decide +kernel)
theorem kc_67_73 : am_code tn_G 67 73 = some (.aload_n 0, 1, 0) := am_code_of (M := tn_m67) rfl (by decide +kernel) rfl rfl
theorem kc_67_74 : am_code tn_G 67 74 = some (.iconst 2, 1, 0) := am_code_of (M := tn_m67) rfl (by decide +kernel) rfl rfl
theorem kc_67_75 : am_code tn_G 67 75 = some (.putfield 50, 3, 0) := am_code_of (M := tn_m67) rfl (by decide +kernel) rfl rfl
theorem kc_67_78 : am_code tn_G 67 78 = some (.iconst 0, 1, 0) := am_code_of (M := tn_m67) rfl (by decide +kernel) rfl rfl
theorem kc_67_79 : am_code tn_G 67 79 = some (.ireturn, 1, 0) := am_code_of (M := tn_m67) rfl (by decide +kernel) rfl rfl
theorem kc_67_80 : am_code tn_G 67 80 = some (.aload_n 0, 1, 0) := am_code_of (M := tn_m67) rfl (by decide +kernel) rfl rfl
theorem kc_67_81 : am_code tn_G 67 81 = some (.getfield 19, 3, 0) := am_code_of (M := tn_m67) rfl (by decide +kernel) rfl rfl
theorem kc_67_84 : am_code tn_G 67 84 = some (.aload_n 0, 1, 0) := am_code_of (M := tn_m67) rfl (by decide +kernel) rfl rfl
theorem kc_67_85 : am_code tn_G 67 85 = some (.getfield 16, 3, 0) := am_code_of (M := tn_m67) rfl (by decide +kernel) rfl rfl
theorem kf_67_16 : am_fld tn_G 67 16 = some (5, 2) := by decide +kernel
theorem kc_67_88 : am_code tn_G 67 88 = some (.iconst 3, 1, 0) := am_code_of (M := tn_m67) rfl (by decide +kernel) rfl rfl
theorem kc_67_89 : am_code tn_G 67 89 = some (.iload 4, 2, 0) := am_code_of (M := tn_m67) rfl (by decide +kernel) rfl rfl
theorem kc_67_91 : am_code tn_G 67 91 = some (.imul, 1, 0) := am_code_of (M := tn_m67) rfl (by decide +kernel) rfl rfl
theorem kc_67_92 : am_code tn_G 67 92 = some (.iload_n 2, 1, 0) := am_code_of (M := tn_m67) rfl (by decide +kernel) rfl rfl
theorem kc_67_93 : am_code tn_G 67 93 = some (.iadd, 1, 0) := am_code_of (M := tn_m67) rfl (by decide +kernel) rfl rfl
theorem kc_67_94 : am_code tn_G 67 94 = some (.iaload, 1, 0) := am_code_of (M := tn_m67) rfl (by decide +kernel) rfl rfl
theorem kc_67_95 : am_code tn_G 67 95 = some (.iaload, 1, 0) := am_code_of (M := tn_m67) rfl (by decide +kernel) rfl rfl
theorem kc_67_96 : am_code tn_G 67 96 = some (.ireturn, 1, 0) := am_code_of (M := tn_m67) rfl (by decide +kernel) rfl rfl
-- 68: TermNetModel.least(I)I
theorem kl_68 : am_ml tn_G 68 = 2 := rfl
theorem ko_68 : am_oc tn_G 68 = 5 := rfl
theorem kn_68 : am_nc tn_G 68 = 0 := rfl
theorem kr_68 : am_rt tn_G 68 = 1 := rfl
theorem kc_68_0 : am_code tn_G 68 0 = some (.aload_n 0, 1, 0) := am_code_of (M := tn_m68) rfl (by decide +kernel) rfl rfl
theorem kc_68_1 : am_code tn_G 68 1 = some (.aload_n 0, 1, 0) := am_code_of (M := tn_m68) rfl (by decide +kernel) rfl rfl
theorem kc_68_2 : am_code tn_G 68 2 = some (.iload_n 1, 1, 0) := am_code_of (M := tn_m68) rfl (by decide +kernel) rfl rfl
theorem kc_68_3 : am_code tn_G 68 3 = some (.invokevirtual 68, 3, 0) := am_code_of (M := tn_m68) rfl (by decide +kernel) rfl rfl
theorem ka_68_68 : am_cal tn_G 68 68 = some (0, 62, 1) := by decide +kernel
theorem kc_68_6 : am_code tn_G 68 6 = some (.ifCond .eq 7, 3, 13) := am_code_of (M := tn_m68) rfl (by decide +kernel) rfl (by decide +kernel)
theorem kc_68_9 : am_code tn_G 68 9 = some (.iconst 0, 1, 0) := am_code_of (M := tn_m68) rfl (by decide +kernel) rfl rfl
theorem kc_68_10 : am_code tn_G 68 10 = some (.goto 4, 3, 14) := am_code_of (M := tn_m68) rfl (by decide +kernel) rfl (by decide +kernel)
theorem kc_68_13 : am_code tn_G 68 13 = some (.iconst 1, 1, 0) := am_code_of (M := tn_m68) rfl (by decide +kernel) rfl rfl
theorem kc_68_14 : am_code tn_G 68 14 = some (.putfield 50, 3, 0) := am_code_of (M := tn_m68) rfl (by decide +kernel) rfl rfl
theorem kf_68_50 : am_fld tn_G 68 50 = some (5, 7) := by decide +kernel
theorem kc_68_17 : am_code tn_G 68 17 = some (.aload_n 0, 1, 0) := am_code_of (M := tn_m68) rfl (by decide +kernel) rfl rfl
theorem kc_68_18 : am_code tn_G 68 18 = some (.getfield 50, 3, 0) := am_code_of (M := tn_m68) rfl (by decide +kernel) rfl rfl
theorem kc_68_21 : am_code tn_G 68 21 = some (.ifCond .le 7, 3, 28) := am_code_of (M := tn_m68) rfl (by decide +kernel) rfl (by decide +kernel)
theorem kc_68_24 : am_code tn_G 68 24 = some (.iconst 0, 1, 0) := am_code_of (M := tn_m68) rfl (by decide +kernel) rfl rfl
theorem kc_68_25 : am_code tn_G 68 25 = some (.goto 9, 3, 34) := am_code_of (M := tn_m68) rfl (by decide +kernel) rfl (by decide +kernel)
theorem kc_68_28 : am_code tn_G 68 28 = some (.aload_n 0, 1, 0) := am_code_of (M := tn_m68) rfl (by decide +kernel) rfl rfl
theorem kc_68_29 : am_code tn_G 68 29 = some (.getfield 19, 3, 0) := am_code_of (M := tn_m68) rfl (by decide +kernel) rfl rfl
theorem kf_68_19 : am_fld tn_G 68 19 = some (5, 8) := by decide +kernel
theorem kc_68_32 : am_code tn_G 68 32 = some (.iload_n 1, 1, 0) := am_code_of (M := tn_m68) rfl (by decide +kernel) rfl rfl
theorem kc_68_33 : am_code tn_G 68 33 = some (.iaload, 1, 0) := am_code_of (M := tn_m68) rfl (by decide +kernel) rfl rfl
theorem kc_68_34 : am_code tn_G 68 34 = some (.ireturn, 1, 0) := am_code_of (M := tn_m68) rfl (by decide +kernel) rfl rfl
-- 69: TermNetModel.size(I)I
theorem kl_69 : am_ml tn_G 69 = 3 := rfl
theorem ko_69 : am_oc tn_G 69 = 5 := rfl
theorem kn_69 : am_nc tn_G 69 = 0 := rfl
theorem kr_69 : am_rt tn_G 69 = 1 := rfl
theorem kc_69_0 : am_code tn_G 69 0 = some (.aload_n 0, 1, 0) := am_code_of (M := tn_m69) rfl (by decide +kernel) rfl rfl
theorem kc_69_1 : am_code tn_G 69 1 = some (.aload_n 0, 1, 0) := am_code_of (M := tn_m69) rfl (by decide +kernel) rfl rfl
theorem kc_69_2 : am_code tn_G 69 2 = some (.iload_n 1, 1, 0) := am_code_of (M := tn_m69) rfl (by decide +kernel) rfl rfl
theorem kc_69_3 : am_code tn_G 69 3 = some (.invokevirtual 68, 3, 0) := am_code_of (M := tn_m69) rfl (by decide +kernel) rfl rfl
theorem ka_69_68 : am_cal tn_G 69 68 = some (0, 62, 1) := by decide +kernel
theorem kc_69_6 : am_code tn_G 69 6 = some (.ifCond .eq 7, 3, 13) := am_code_of (M := tn_m69) rfl (by decide +kernel) rfl (by decide +kernel)
theorem kc_69_9 : am_code tn_G 69 9 = some (.iconst 0, 1, 0) := am_code_of (M := tn_m69) rfl (by decide +kernel) rfl rfl
theorem kc_69_10 : am_code tn_G 69 10 = some (.goto 4, 3, 14) := am_code_of (M := tn_m69) rfl (by decide +kernel) rfl (by decide +kernel)
theorem kc_69_13 : am_code tn_G 69 13 = some (.iconst 1, 1, 0) := am_code_of (M := tn_m69) rfl (by decide +kernel) rfl rfl
theorem kc_69_14 : am_code tn_G 69 14 = some (.putfield 50, 3, 0) := am_code_of (M := tn_m69) rfl (by decide +kernel) rfl rfl
theorem kf_69_50 : am_fld tn_G 69 50 = some (5, 7) := by decide +kernel
theorem kc_69_17 : am_code tn_G 69 17 = some (.aload_n 0, 1, 0) := am_code_of (M := tn_m69) rfl (by decide +kernel) rfl rfl
theorem kc_69_18 : am_code tn_G 69 18 = some (.getfield 50, 3, 0) := am_code_of (M := tn_m69) rfl (by decide +kernel) rfl rfl
theorem kc_69_21 : am_code tn_G 69 21 = some (.ifCond .le 5, 3, 26) := am_code_of (M := tn_m69) rfl (by decide +kernel) rfl (by decide +kernel)
theorem kc_69_24 : am_code tn_G 69 24 = some (.iconst 0, 1, 0) := am_code_of (M := tn_m69) rfl (by decide +kernel) rfl rfl
theorem kc_69_25 : am_code tn_G 69 25 = some (.ireturn, 1, 0) := am_code_of (M := tn_m69) rfl (by decide +kernel) rfl rfl
theorem kc_69_26 : am_code tn_G 69 26 = some (.aload_n 0, 1, 0) := am_code_of (M := tn_m69) rfl (by decide +kernel) rfl rfl
theorem kc_69_27 : am_code tn_G 69 27 = some (.aload_n 0, 1, 0) := am_code_of (M := tn_m69) rfl (by decide +kernel) rfl rfl
theorem kc_69_28 : am_code tn_G 69 28 = some (.getfield 19, 3, 0) := am_code_of (M := tn_m69) rfl (by decide +kernel) rfl rfl
theorem kf_69_19 : am_fld tn_G 69 19 = some (5, 8) := by decide +kernel
theorem kc_69_31 : am_code tn_G 69 31 = some (.invokevirtual 77, 3, 0) := am_code_of (M := tn_m69) rfl (by decide +kernel) rfl rfl
theorem ka_69_77 : am_cal tn_G 69 77 = some (0, 64, 1) := by decide +kernel
theorem kc_69_34 : am_code tn_G 69 34 = some (.istore_n 2, 1, 0) := am_code_of (M := tn_m69) rfl (by decide +kernel) rfl rfl
theorem kc_69_35 : am_code tn_G 69 35 = some (.aload_n 0, 1, 0) := am_code_of (M := tn_m69) rfl (by decide +kernel) rfl rfl
theorem kc_69_36 : am_code tn_G 69 36 = some (.getfield 37, 3, 0) := am_code_of (M := tn_m69) rfl (by decide +kernel) rfl rfl
theorem kf_69_37 : am_fld tn_G 69 37 = some (5, 14) := by decide +kernel
theorem kc_69_39 : am_code tn_G 69 39 = some (.aload_n 0, 1, 0) := am_code_of (M := tn_m69) rfl (by decide +kernel) rfl rfl
theorem kc_69_40 : am_code tn_G 69 40 = some (.getfield 19, 3, 0) := am_code_of (M := tn_m69) rfl (by decide +kernel) rfl rfl
theorem kc_69_43 : am_code tn_G 69 43 = some (.iload_n 1, 1, 0) := am_code_of (M := tn_m69) rfl (by decide +kernel) rfl rfl
theorem kc_69_44 : am_code tn_G 69 44 = some (.iaload, 1, 0) := am_code_of (M := tn_m69) rfl (by decide +kernel) rfl rfl
theorem kc_69_45 : am_code tn_G 69 45 = some (.iaload, 1, 0) := am_code_of (M := tn_m69) rfl (by decide +kernel) rfl rfl
theorem kc_69_46 : am_code tn_G 69 46 = some (.ireturn, 1, 0) := am_code_of (M := tn_m69) rfl (by decide +kernel) rfl rfl
-- 70: TermNetModel.depth(I)I
theorem kl_70 : am_ml tn_G 70 = 3 := rfl
theorem ko_70 : am_oc tn_G 70 = 5 := rfl
theorem kn_70 : am_nc tn_G 70 = 0 := rfl
theorem kr_70 : am_rt tn_G 70 = 1 := rfl
theorem kc_70_0 : am_code tn_G 70 0 = some (.aload_n 0, 1, 0) := am_code_of (M := tn_m70) rfl (by decide +kernel) rfl rfl
theorem kc_70_1 : am_code tn_G 70 1 = some (.aload_n 0, 1, 0) := am_code_of (M := tn_m70) rfl (by decide +kernel) rfl rfl
theorem kc_70_2 : am_code tn_G 70 2 = some (.iload_n 1, 1, 0) := am_code_of (M := tn_m70) rfl (by decide +kernel) rfl rfl
theorem kc_70_3 : am_code tn_G 70 3 = some (.invokevirtual 68, 3, 0) := am_code_of (M := tn_m70) rfl (by decide +kernel) rfl rfl
theorem ka_70_68 : am_cal tn_G 70 68 = some (0, 62, 1) := by decide +kernel
theorem kc_70_6 : am_code tn_G 70 6 = some (.ifCond .eq 7, 3, 13) := am_code_of (M := tn_m70) rfl (by decide +kernel) rfl (by decide +kernel)
theorem kc_70_9 : am_code tn_G 70 9 = some (.iconst 0, 1, 0) := am_code_of (M := tn_m70) rfl (by decide +kernel) rfl rfl
theorem kc_70_10 : am_code tn_G 70 10 = some (.goto 4, 3, 14) := am_code_of (M := tn_m70) rfl (by decide +kernel) rfl (by decide +kernel)
theorem kc_70_13 : am_code tn_G 70 13 = some (.iconst 1, 1, 0) := am_code_of (M := tn_m70) rfl (by decide +kernel) rfl rfl
theorem kc_70_14 : am_code tn_G 70 14 = some (.putfield 50, 3, 0) := am_code_of (M := tn_m70) rfl (by decide +kernel) rfl rfl
theorem kf_70_50 : am_fld tn_G 70 50 = some (5, 7) := by decide +kernel
theorem kc_70_17 : am_code tn_G 70 17 = some (.aload_n 0, 1, 0) := am_code_of (M := tn_m70) rfl (by decide +kernel) rfl rfl
theorem kc_70_18 : am_code tn_G 70 18 = some (.getfield 50, 3, 0) := am_code_of (M := tn_m70) rfl (by decide +kernel) rfl rfl
theorem kc_70_21 : am_code tn_G 70 21 = some (.ifCond .le 5, 3, 26) := am_code_of (M := tn_m70) rfl (by decide +kernel) rfl (by decide +kernel)
theorem kc_70_24 : am_code tn_G 70 24 = some (.iconst 0, 1, 0) := am_code_of (M := tn_m70) rfl (by decide +kernel) rfl rfl
theorem kc_70_25 : am_code tn_G 70 25 = some (.ireturn, 1, 0) := am_code_of (M := tn_m70) rfl (by decide +kernel) rfl rfl
theorem kc_70_26 : am_code tn_G 70 26 = some (.aload_n 0, 1, 0) := am_code_of (M := tn_m70) rfl (by decide +kernel) rfl rfl
theorem kc_70_27 : am_code tn_G 70 27 = some (.aload_n 0, 1, 0) := am_code_of (M := tn_m70) rfl (by decide +kernel) rfl rfl
theorem kc_70_28 : am_code tn_G 70 28 = some (.getfield 19, 3, 0) := am_code_of (M := tn_m70) rfl (by decide +kernel) rfl rfl
theorem kf_70_19 : am_fld tn_G 70 19 = some (5, 8) := by decide +kernel
theorem kc_70_31 : am_code tn_G 70 31 = some (.invokevirtual 77, 3, 0) := am_code_of (M := tn_m70) rfl (by decide +kernel) rfl rfl
theorem ka_70_77 : am_cal tn_G 70 77 = some (0, 64, 1) := by decide +kernel
theorem kc_70_34 : am_code tn_G 70 34 = some (.istore_n 2, 1, 0) := am_code_of (M := tn_m70) rfl (by decide +kernel) rfl rfl
theorem kc_70_35 : am_code tn_G 70 35 = some (.aload_n 0, 1, 0) := am_code_of (M := tn_m70) rfl (by decide +kernel) rfl rfl
theorem kc_70_36 : am_code tn_G 70 36 = some (.getfield 40, 3, 0) := am_code_of (M := tn_m70) rfl (by decide +kernel) rfl rfl
theorem kf_70_40 : am_fld tn_G 70 40 = some (5, 15) := by decide +kernel
theorem kc_70_39 : am_code tn_G 70 39 = some (.aload_n 0, 1, 0) := am_code_of (M := tn_m70) rfl (by decide +kernel) rfl rfl
theorem kc_70_40 : am_code tn_G 70 40 = some (.getfield 19, 3, 0) := am_code_of (M := tn_m70) rfl (by decide +kernel) rfl rfl
theorem kc_70_43 : am_code tn_G 70 43 = some (.iload_n 1, 1, 0) := am_code_of (M := tn_m70) rfl (by decide +kernel) rfl rfl
theorem kc_70_44 : am_code tn_G 70 44 = some (.iaload, 1, 0) := am_code_of (M := tn_m70) rfl (by decide +kernel) rfl rfl
theorem kc_70_45 : am_code tn_G 70 45 = some (.iaload, 1, 0) := am_code_of (M := tn_m70) rfl (by decide +kernel) rfl rfl
theorem kc_70_46 : am_code tn_G 70 46 = some (.ireturn, 1, 0) := am_code_of (M := tn_m70) rfl (by decide +kernel) rfl rfl
-- 71: TermNetModel.inside(II)Z
theorem kl_71 : am_ml tn_G 71 = 3 := rfl
theorem ko_71 : am_oc tn_G 71 = 5 := rfl
theorem kn_71 : am_nc tn_G 71 = 0 := rfl
theorem kr_71 : am_rt tn_G 71 = 2 := rfl
theorem kc_71_0 : am_code tn_G 71 0 = some (.aload_n 0, 1, 0) := am_code_of (M := tn_m71) rfl (by decide +kernel) rfl rfl
theorem kc_71_1 : am_code tn_G 71 1 = some (.aload_n 0, 1, 0) := am_code_of (M := tn_m71) rfl (by decide +kernel) rfl rfl
theorem kc_71_2 : am_code tn_G 71 2 = some (.iload_n 1, 1, 0) := am_code_of (M := tn_m71) rfl (by decide +kernel) rfl rfl
theorem kc_71_3 : am_code tn_G 71 3 = some (.invokevirtual 68, 3, 0) := am_code_of (M := tn_m71) rfl (by decide +kernel) rfl rfl
theorem ka_71_68 : am_cal tn_G 71 68 = some (0, 62, 1) := by decide +kernel
theorem kc_71_6 : am_code tn_G 71 6 = some (.ifCond .eq 15, 3, 21) := am_code_of (M := tn_m71) rfl (by decide +kernel) rfl (by decide +kernel)
theorem kc_71_9 : am_code tn_G 71 9 = some (.aload_n 0, 1, 0) := am_code_of (M := tn_m71) rfl (by decide +kernel) rfl rfl
theorem kc_71_10 : am_code tn_G 71 10 = some (.iload_n 2, 1, 0) := am_code_of (M := tn_m71) rfl (by decide +kernel) rfl rfl
theorem kc_71_11 : am_code tn_G 71 11 = some (.invokevirtual 68, 3, 0) := am_code_of (M := tn_m71) rfl (by decide +kernel) rfl rfl
theorem kc_71_14 : am_code tn_G 71 14 = some (.ifCond .eq 7, 3, 21) := am_code_of (M := tn_m71) rfl (by decide +kernel) rfl (by decide +kernel)
theorem kc_71_17 : am_code tn_G 71 17 = some (.iconst 0, 1, 0) := am_code_of (M := tn_m71) rfl (by decide +kernel) rfl rfl
theorem kc_71_18 : am_code tn_G 71 18 = some (.goto 4, 3, 22) := am_code_of (M := tn_m71) rfl (by decide +kernel) rfl (by decide +kernel)
theorem kc_71_21 : am_code tn_G 71 21 = some (.iconst 1, 1, 0) := am_code_of (M := tn_m71) rfl (by decide +kernel) rfl rfl
theorem kc_71_22 : am_code tn_G 71 22 = some (.putfield 50, 3, 0) := am_code_of (M := tn_m71) rfl (by decide +kernel) rfl rfl
theorem kf_71_50 : am_fld tn_G 71 50 = some (5, 7) := by decide +kernel
theorem kc_71_25 : am_code tn_G 71 25 = some (.aload_n 0, 1, 0) := am_code_of (M := tn_m71) rfl (by decide +kernel) rfl rfl
theorem kc_71_26 : am_code tn_G 71 26 = some (.getfield 50, 3, 0) := am_code_of (M := tn_m71) rfl (by decide +kernel) rfl rfl
theorem kc_71_29 : am_code tn_G 71 29 = some (.ifCond .le 5, 3, 34) := am_code_of (M := tn_m71) rfl (by decide +kernel) rfl (by decide +kernel)
theorem kc_71_32 : am_code tn_G 71 32 = some (.iconst 0, 1, 0) := am_code_of (M := tn_m71) rfl (by decide +kernel) rfl rfl
theorem kc_71_33 : am_code tn_G 71 33 = some (.ireturn, 1, 0) := am_code_of (M := tn_m71) rfl (by decide +kernel) rfl rfl
theorem kc_71_34 : am_code tn_G 71 34 = some (.aload_n 0, 1, 0) := am_code_of (M := tn_m71) rfl (by decide +kernel) rfl rfl
theorem kc_71_35 : am_code tn_G 71 35 = some (.iload_n 2, 1, 0) := am_code_of (M := tn_m71) rfl (by decide +kernel) rfl rfl
theorem kc_71_36 : am_code tn_G 71 36 = some (.invokevirtual 83, 3, 0) := am_code_of (M := tn_m71) rfl (by decide +kernel) rfl rfl
theorem ka_71_83 : am_cal tn_G 71 83 = some (0, 72, 1) := by decide +kernel
theorem kc_71_39 : am_code tn_G 71 39 = some (.aload_n 0, 1, 0) := am_code_of (M := tn_m71) rfl (by decide +kernel) rfl rfl
theorem kc_71_40 : am_code tn_G 71 40 = some (.getfield 34, 3, 0) := am_code_of (M := tn_m71) rfl (by decide +kernel) rfl rfl
theorem kf_71_34 : am_fld tn_G 71 34 = some (5, 13) := by decide +kernel
theorem kc_71_43 : am_code tn_G 71 43 = some (.aload_n 0, 1, 0) := am_code_of (M := tn_m71) rfl (by decide +kernel) rfl rfl
theorem kc_71_44 : am_code tn_G 71 44 = some (.getfield 19, 3, 0) := am_code_of (M := tn_m71) rfl (by decide +kernel) rfl rfl
theorem kf_71_19 : am_fld tn_G 71 19 = some (5, 8) := by decide +kernel
theorem kc_71_47 : am_code tn_G 71 47 = some (.iload_n 1, 1, 0) := am_code_of (M := tn_m71) rfl (by decide +kernel) rfl rfl
theorem kc_71_48 : am_code tn_G 71 48 = some (.iaload, 1, 0) := am_code_of (M := tn_m71) rfl (by decide +kernel) rfl rfl
theorem kc_71_49 : am_code tn_G 71 49 = some (.iaload, 1, 0) := am_code_of (M := tn_m71) rfl (by decide +kernel) rfl rfl
theorem kc_71_50 : am_code tn_G 71 50 = some (.ifCond .ge 21, 3, 71) := am_code_of (M := tn_m71) rfl (by decide +kernel) rfl (by decide +kernel)
theorem kc_71_53 : am_code tn_G 71 53 = some (.aload_n 0, 1, 0) := am_code_of (M := tn_m71) rfl (by decide +kernel) rfl rfl
theorem kc_71_54 : am_code tn_G 71 54 = some (.getfield 47, 3, 0) := am_code_of (M := tn_m71) rfl (by decide +kernel) rfl rfl
theorem kf_71_47 : am_fld tn_G 71 47 = some (5, 17) := by decide +kernel
theorem kc_71_57 : am_code tn_G 71 57 = some (.aload_n 0, 1, 0) := am_code_of (M := tn_m71) rfl (by decide +kernel) rfl rfl
theorem kc_71_58 : am_code tn_G 71 58 = some (.getfield 19, 3, 0) := am_code_of (M := tn_m71) rfl (by decide +kernel) rfl rfl
theorem kc_71_61 : am_code tn_G 71 61 = some (.iload_n 1, 1, 0) := am_code_of (M := tn_m71) rfl (by decide +kernel) rfl rfl
theorem kc_71_62 : am_code tn_G 71 62 = some (.iaload, 1, 0) := am_code_of (M := tn_m71) rfl (by decide +kernel) rfl rfl
theorem kc_71_63 : am_code tn_G 71 63 = some (.baload, 1, 0) := am_code_of (M := tn_m71) rfl (by decide +kernel) rfl rfl
theorem kc_71_64 : am_code tn_G 71 64 = some (.ifCond .eq 7, 3, 71) := am_code_of (M := tn_m71) rfl (by decide +kernel) rfl (by decide +kernel)
theorem kc_71_67 : am_code tn_G 71 67 = some (.iconst 1, 1, 0) := am_code_of (M := tn_m71) rfl (by decide +kernel) rfl rfl
theorem kc_71_68 : am_code tn_G 71 68 = some (.goto 4, 3, 72) := am_code_of (M := tn_m71) rfl (by decide +kernel) rfl (by decide +kernel)
theorem kc_71_71 : am_code tn_G 71 71 = some (.iconst 0, 1, 0) := am_code_of (M := tn_m71) rfl (by decide +kernel) rfl rfl
theorem kc_71_72 : am_code tn_G 71 72 = some (.ireturn, 1, 0) := am_code_of (M := tn_m71) rfl (by decide +kernel) rfl rfl
-- 72: TermNetModel.go(I)V
theorem kl_72 : am_ml tn_G 72 = 8 := rfl
theorem ko_72 : am_oc tn_G 72 = 5 := rfl
theorem kn_72 : am_nc tn_G 72 = 0 := rfl
theorem kr_72 : am_rt tn_G 72 = 0 := rfl
theorem kc_72_0 : am_code tn_G 72 0 = some (.aload_n 0, 1, 0) := am_code_of (M := tn_m72) rfl (by decide +kernel) rfl rfl
theorem kc_72_1 : am_code tn_G 72 1 = some (.aload_n 0, 1, 0) := am_code_of (M := tn_m72) rfl (by decide +kernel) rfl rfl
theorem kc_72_2 : am_code tn_G 72 2 = some (.getfield 19, 3, 0) := am_code_of (M := tn_m72) rfl (by decide +kernel) rfl rfl
theorem kf_72_19 : am_fld tn_G 72 19 = some (5, 8) := by decide +kernel
theorem kc_72_5 : am_code tn_G 72 5 = some (.invokevirtual 77, 3, 0) := am_code_of (M := tn_m72) rfl (by decide +kernel) rfl rfl
theorem ka_72_77 : am_cal tn_G 72 77 = some (0, 64, 1) := by decide +kernel
theorem kc_72_8 : am_code tn_G 72 8 = some (.istore_n 2, 1, 0) := am_code_of (M := tn_m72) rfl (by decide +kernel) rfl rfl
theorem kc_72_9 : am_code tn_G 72 9 = some (.iconst 0, 1, 0) := am_code_of (M := tn_m72) rfl (by decide +kernel) rfl rfl
theorem kc_72_10 : am_code tn_G 72 10 = some (.istore_n 3, 1, 0) := am_code_of (M := tn_m72) rfl (by decide +kernel) rfl rfl
theorem kc_72_11 : am_code tn_G 72 11 = some (.iload_n 3, 1, 0) := am_code_of (M := tn_m72) rfl (by decide +kernel) rfl rfl
theorem kc_72_12 : am_code tn_G 72 12 = some (.aload_n 0, 1, 0) := am_code_of (M := tn_m72) rfl (by decide +kernel) rfl rfl
theorem kc_72_13 : am_code tn_G 72 13 = some (.getfield 54, 3, 0) := am_code_of (M := tn_m72) rfl (by decide +kernel) rfl rfl
theorem kf_72_54 : am_fld tn_G 72 54 = some (5, 4) := by decide +kernel
theorem kc_72_16 : am_code tn_G 72 16 = some (.if_icmp .ge 16, 3, 32) := am_code_of (M := tn_m72) rfl (by decide +kernel) rfl (by decide +kernel)
theorem kc_72_19 : am_code tn_G 72 19 = some (.aload_n 0, 1, 0) := am_code_of (M := tn_m72) rfl (by decide +kernel) rfl rfl
theorem kc_72_20 : am_code tn_G 72 20 = some (.getfield 47, 3, 0) := am_code_of (M := tn_m72) rfl (by decide +kernel) rfl rfl
theorem kf_72_47 : am_fld tn_G 72 47 = some (5, 17) := by decide +kernel
theorem kc_72_23 : am_code tn_G 72 23 = some (.iload_n 3, 1, 0) := am_code_of (M := tn_m72) rfl (by decide +kernel) rfl rfl
theorem kc_72_24 : am_code tn_G 72 24 = some (.iconst 0, 1, 0) := am_code_of (M := tn_m72) rfl (by decide +kernel) rfl rfl
theorem kc_72_25 : am_code tn_G 72 25 = some (.bastore, 1, 0) := am_code_of (M := tn_m72) rfl (by decide +kernel) rfl rfl
theorem kc_72_26 : am_code tn_G 72 26 = some (.iinc 3 1, 3, 0) := am_code_of (M := tn_m72) rfl (by decide +kernel) rfl rfl
theorem kc_72_29 : am_code tn_G 72 29 = some (.goto (-18), 3, 11) := am_code_of (M := tn_m72) rfl (by decide +kernel) rfl (by decide +kernel)
theorem kc_72_32 : am_code tn_G 72 32 = some (.aload_n 0, 1, 0) := am_code_of (M := tn_m72) rfl (by decide +kernel) rfl rfl
theorem kc_72_33 : am_code tn_G 72 33 = some (.getfield 47, 3, 0) := am_code_of (M := tn_m72) rfl (by decide +kernel) rfl rfl
theorem kc_72_36 : am_code tn_G 72 36 = some (.aload_n 0, 1, 0) := am_code_of (M := tn_m72) rfl (by decide +kernel) rfl rfl
theorem kc_72_37 : am_code tn_G 72 37 = some (.getfield 19, 3, 0) := am_code_of (M := tn_m72) rfl (by decide +kernel) rfl rfl
theorem kc_72_40 : am_code tn_G 72 40 = some (.iload_n 1, 1, 0) := am_code_of (M := tn_m72) rfl (by decide +kernel) rfl rfl
theorem kc_72_41 : am_code tn_G 72 41 = some (.iaload, 1, 0) := am_code_of (M := tn_m72) rfl (by decide +kernel) rfl rfl
theorem kc_72_42 : am_code tn_G 72 42 = some (.iconst 1, 1, 0) := am_code_of (M := tn_m72) rfl (by decide +kernel) rfl rfl
theorem kc_72_43 : am_code tn_G 72 43 = some (.bastore, 1, 0) := am_code_of (M := tn_m72) rfl (by decide +kernel) rfl rfl
theorem kc_72_44 : am_code tn_G 72 44 = some (.iconst 1, 1, 0) := am_code_of (M := tn_m72) rfl (by decide +kernel) rfl rfl
theorem kc_72_45 : am_code tn_G 72 45 = some (.istore_n 3, 1, 0) := am_code_of (M := tn_m72) rfl (by decide +kernel) rfl rfl
theorem kc_72_46 : am_code tn_G 72 46 = some (.iload_n 3, 1, 0) := am_code_of (M := tn_m72) rfl (by decide +kernel) rfl rfl
theorem kc_72_47 : am_code tn_G 72 47 = some (.ifCond .eq 122, 3, 169) := am_code_of (M := tn_m72) rfl (by decide +kernel) rfl (by decide +kernel)
theorem kc_72_50 : am_code tn_G 72 50 = some (.iconst 0, 1, 0) := am_code_of (M := tn_m72) rfl (by decide +kernel) rfl rfl
theorem kc_72_51 : am_code tn_G 72 51 = some (.istore_n 3, 1, 0) := am_code_of (M := tn_m72) rfl (by decide +kernel) rfl rfl
theorem kc_72_52 : am_code tn_G 72 52 = some (.iconst 0, 1, 0) := am_code_of (M := tn_m72) rfl (by decide +kernel) rfl rfl
theorem kc_72_53 : am_code tn_G 72 53 = some (.istore 4, 2, 0) := am_code_of (M := tn_m72) rfl (by decide +kernel) rfl rfl
theorem kc_72_55 : am_code tn_G 72 55 = some (.iload 4, 2, 0) := am_code_of (M := tn_m72) rfl (by decide +kernel) rfl rfl
theorem kc_72_57 : am_code tn_G 72 57 = some (.aload_n 0, 1, 0) := am_code_of (M := tn_m72) rfl (by decide +kernel) rfl rfl
theorem kc_72_58 : am_code tn_G 72 58 = some (.getfield 54, 3, 0) := am_code_of (M := tn_m72) rfl (by decide +kernel) rfl rfl
theorem kc_72_61 : am_code tn_G 72 61 = some (.if_icmp .ge 105, 3, 166) := am_code_of (M := tn_m72) rfl (by decide +kernel) rfl (by decide +kernel)
theorem kc_72_64 : am_code tn_G 72 64 = some (.aload_n 0, 1, 0) := am_code_of (M := tn_m72) rfl (by decide +kernel) rfl rfl
theorem kc_72_65 : am_code tn_G 72 65 = some (.getfield 47, 3, 0) := am_code_of (M := tn_m72) rfl (by decide +kernel) rfl rfl
theorem kc_72_68 : am_code tn_G 72 68 = some (.iload 4, 2, 0) := am_code_of (M := tn_m72) rfl (by decide +kernel) rfl rfl
theorem kc_72_70 : am_code tn_G 72 70 = some (.baload, 1, 0) := am_code_of (M := tn_m72) rfl (by decide +kernel) rfl rfl
theorem kc_72_71 : am_code tn_G 72 71 = some (.ifCond .eq 13, 3, 84) := am_code_of (M := tn_m72) rfl (by decide +kernel) rfl (by decide +kernel)
theorem kc_72_74 : am_code tn_G 72 74 = some (.aload_n 0, 1, 0) := am_code_of (M := tn_m72) rfl (by decide +kernel) rfl rfl
theorem kc_72_75 : am_code tn_G 72 75 = some (.getfield 34, 3, 0) := am_code_of (M := tn_m72) rfl (by decide +kernel) rfl rfl
theorem kf_72_34 : am_fld tn_G 72 34 = some (5, 13) := by decide +kernel
theorem kc_72_78 : am_code tn_G 72 78 = some (.iload 4, 2, 0) := am_code_of (M := tn_m72) rfl (by decide +kernel) rfl rfl
theorem kc_72_80 : am_code tn_G 72 80 = some (.iaload, 1, 0) := am_code_of (M := tn_m72) rfl (by decide +kernel) rfl rfl
theorem kc_72_81 : am_code tn_G 72 81 = some (.goto 4, 3, 85) := am_code_of (M := tn_m72) rfl (by decide +kernel) rfl (by decide +kernel)
theorem kc_72_84 : am_code tn_G 72 84 = some (.iconst (-1), 1, 0) := am_code_of (M := tn_m72) rfl (by decide +kernel) rfl rfl
theorem kc_72_85 : am_code tn_G 72 85 = some (.istore 5, 2, 0) := am_code_of (M := tn_m72) rfl (by decide +kernel) rfl rfl
theorem kc_72_87 : am_code tn_G 72 87 = some (.iconst 0, 1, 0) := am_code_of (M := tn_m72) rfl (by decide +kernel) rfl rfl
theorem kc_72_88 : am_code tn_G 72 88 = some (.istore 6, 2, 0) := am_code_of (M := tn_m72) rfl (by decide +kernel) rfl rfl
theorem kc_72_90 : am_code tn_G 72 90 = some (.iload 5, 2, 0) := am_code_of (M := tn_m72) rfl (by decide +kernel) rfl rfl
theorem kc_72_92 : am_code tn_G 72 92 = some (.ifCond .lt 68, 3, 160) := am_code_of (M := tn_m72) rfl (by decide +kernel) rfl (by decide +kernel)
theorem kc_72_95 : am_code tn_G 72 95 = some (.iload 6, 2, 0) := am_code_of (M := tn_m72) rfl (by decide +kernel) rfl rfl
theorem kc_72_97 : am_code tn_G 72 97 = some (.aload_n 0, 1, 0) := am_code_of (M := tn_m72) rfl (by decide +kernel) rfl rfl
theorem kc_72_98 : am_code tn_G 72 98 = some (.getfield 9, 3, 0) := am_code_of (M := tn_m72) rfl (by decide +kernel) rfl rfl
theorem kf_72_9 : am_fld tn_G 72 9 = some (5, 0) := by decide +kernel
theorem kc_72_101 : am_code tn_G 72 101 = some (.aload_n 0, 1, 0) := am_code_of (M := tn_m72) rfl (by decide +kernel) rfl rfl
theorem kc_72_102 : am_code tn_G 72 102 = some (.getfield 13, 3, 0) := am_code_of (M := tn_m72) rfl (by decide +kernel) rfl rfl
theorem kf_72_13 : am_fld tn_G 72 13 = some (5, 1) := by decide +kernel
theorem kc_72_105 : am_code tn_G 72 105 = some (.iload 5, 2, 0) := am_code_of (M := tn_m72) rfl (by decide +kernel) rfl rfl
theorem kc_72_107 : am_code tn_G 72 107 = some (.iaload, 1, 0) := am_code_of (M := tn_m72) rfl (by decide +kernel) rfl rfl
theorem kc_72_108 : am_code tn_G 72 108 = some (.iaload, 1, 0) := am_code_of (M := tn_m72) rfl (by decide +kernel) rfl rfl
theorem kc_72_109 : am_code tn_G 72 109 = some (.if_icmp .ge 51, 3, 160) := am_code_of (M := tn_m72) rfl (by decide +kernel) rfl (by decide +kernel)
theorem kc_72_112 : am_code tn_G 72 112 = some (.aload_n 0, 1, 0) := am_code_of (M := tn_m72) rfl (by decide +kernel) rfl rfl
theorem kc_72_113 : am_code tn_G 72 113 = some (.getfield 19, 3, 0) := am_code_of (M := tn_m72) rfl (by decide +kernel) rfl rfl
theorem kc_72_116 : am_code tn_G 72 116 = some (.aload_n 0, 1, 0) := am_code_of (M := tn_m72) rfl (by decide +kernel) rfl rfl
theorem kc_72_117 : am_code tn_G 72 117 = some (.getfield 16, 3, 0) := am_code_of (M := tn_m72) rfl (by decide +kernel) rfl rfl
theorem kf_72_16 : am_fld tn_G 72 16 = some (5, 2) := by decide +kernel
theorem kc_72_120 : am_code tn_G 72 120 = some (.iconst 3, 1, 0) := am_code_of (M := tn_m72) rfl (by decide +kernel) rfl rfl
theorem kc_72_121 : am_code tn_G 72 121 = some (.iload 5, 2, 0) := am_code_of (M := tn_m72) rfl (by decide +kernel) rfl rfl
theorem kc_72_123 : am_code tn_G 72 123 = some (.imul, 1, 0) := am_code_of (M := tn_m72) rfl (by decide +kernel) rfl rfl
theorem kc_72_124 : am_code tn_G 72 124 = some (.iload 6, 2, 0) := am_code_of (M := tn_m72) rfl (by decide +kernel) rfl rfl
theorem kc_72_126 : am_code tn_G 72 126 = some (.iadd, 1, 0) := am_code_of (M := tn_m72) rfl (by decide +kernel) rfl rfl
theorem kc_72_127 : am_code tn_G 72 127 = some (.iaload, 1, 0) := am_code_of (M := tn_m72) rfl (by decide +kernel) rfl rfl
theorem kc_72_128 : am_code tn_G 72 128 = some (.iaload, 1, 0) := am_code_of (M := tn_m72) rfl (by decide +kernel) rfl rfl
theorem kc_72_129 : am_code tn_G 72 129 = some (.istore 7, 2, 0) := am_code_of (M := tn_m72) rfl (by decide +kernel) rfl rfl
theorem kc_72_131 : am_code tn_G 72 131 = some (.aload_n 0, 1, 0) := am_code_of (M := tn_m72) rfl (by decide +kernel) rfl rfl
theorem kc_72_132 : am_code tn_G 72 132 = some (.getfield 47, 3, 0) := am_code_of (M := tn_m72) rfl (by decide +kernel) rfl rfl
theorem kc_72_135 : am_code tn_G 72 135 = some (.iload 7, 2, 0) := am_code_of (M := tn_m72) rfl (by decide +kernel) rfl rfl
theorem kc_72_137 : am_code tn_G 72 137 = some (.baload, 1, 0) := am_code_of (M := tn_m72) rfl (by decide +kernel) rfl rfl
theorem kc_72_138 : am_code tn_G 72 138 = some (.ifCond .eq 6, 3, 144) := am_code_of (M := tn_m72) rfl (by decide +kernel) rfl (by decide +kernel)
theorem kc_72_141 : am_code tn_G 72 141 = some (.goto 13, 3, 154) := am_code_of (M := tn_m72) rfl (by decide +kernel) rfl (by decide +kernel)
theorem kc_72_144 : am_code tn_G 72 144 = some (.aload_n 0, 1, 0) := am_code_of (M := tn_m72) rfl (by decide +kernel) rfl rfl
theorem kc_72_145 : am_code tn_G 72 145 = some (.getfield 47, 3, 0) := am_code_of (M := tn_m72) rfl (by decide +kernel) rfl rfl
theorem kc_72_148 : am_code tn_G 72 148 = some (.iload 7, 2, 0) := am_code_of (M := tn_m72) rfl (by decide +kernel) rfl rfl
theorem kc_72_150 : am_code tn_G 72 150 = some (.iconst 1, 1, 0) := am_code_of (M := tn_m72) rfl (by decide +kernel) rfl rfl
theorem kc_72_151 : am_code tn_G 72 151 = some (.bastore, 1, 0) := am_code_of (M := tn_m72) rfl (by decide +kernel) rfl rfl
theorem kc_72_152 : am_code tn_G 72 152 = some (.iconst 1, 1, 0) := am_code_of (M := tn_m72) rfl (by decide +kernel) rfl rfl
theorem kc_72_153 : am_code tn_G 72 153 = some (.istore_n 3, 1, 0) := am_code_of (M := tn_m72) rfl (by decide +kernel) rfl rfl
theorem kc_72_154 : am_code tn_G 72 154 = some (.iinc 6 1, 3, 0) := am_code_of (M := tn_m72) rfl (by decide +kernel) rfl rfl
theorem kc_72_157 : am_code tn_G 72 157 = some (.goto (-67), 3, 90) := am_code_of (M := tn_m72) rfl (by decide +kernel) rfl (by decide +kernel)
theorem kc_72_160 : am_code tn_G 72 160 = some (.iinc 4 1, 3, 0) := am_code_of (M := tn_m72) rfl (by decide +kernel) rfl rfl
theorem kc_72_163 : am_code tn_G 72 163 = some (.goto (-108), 3, 55) := am_code_of (M := tn_m72) rfl (by decide +kernel) rfl (by decide +kernel)
theorem kc_72_166 : am_code tn_G 72 166 = some (.goto (-120), 3, 46) := am_code_of (M := tn_m72) rfl (by decide +kernel) rfl (by decide +kernel)
theorem kc_72_169 : am_code tn_G 72 169 = some (.return_, 1, 0) := am_code_of (M := tn_m72) rfl (by decide +kernel) rfl rfl
-- 73: TermNetModel.unknowns(I)I
theorem kl_73 : am_ml tn_G 73 = 4 := rfl
theorem ko_73 : am_oc tn_G 73 = 5 := rfl
theorem kn_73 : am_nc tn_G 73 = 0 := rfl
theorem kr_73 : am_rt tn_G 73 = 1 := rfl
theorem kc_73_0 : am_code tn_G 73 0 = some (.aload_n 0, 1, 0) := am_code_of (M := tn_m73) rfl (by decide +kernel) rfl rfl
theorem kc_73_1 : am_code tn_G 73 1 = some (.aload_n 0, 1, 0) := am_code_of (M := tn_m73) rfl (by decide +kernel) rfl rfl
theorem kc_73_2 : am_code tn_G 73 2 = some (.iload_n 1, 1, 0) := am_code_of (M := tn_m73) rfl (by decide +kernel) rfl rfl
theorem kc_73_3 : am_code tn_G 73 3 = some (.invokevirtual 68, 3, 0) := am_code_of (M := tn_m73) rfl (by decide +kernel) rfl rfl
theorem ka_73_68 : am_cal tn_G 73 68 = some (0, 62, 1) := by decide +kernel
theorem kc_73_6 : am_code tn_G 73 6 = some (.ifCond .eq 7, 3, 13) := am_code_of (M := tn_m73) rfl (by decide +kernel) rfl (by decide +kernel)
theorem kc_73_9 : am_code tn_G 73 9 = some (.iconst 0, 1, 0) := am_code_of (M := tn_m73) rfl (by decide +kernel) rfl rfl
theorem kc_73_10 : am_code tn_G 73 10 = some (.goto 4, 3, 14) := am_code_of (M := tn_m73) rfl (by decide +kernel) rfl (by decide +kernel)
theorem kc_73_13 : am_code tn_G 73 13 = some (.iconst 1, 1, 0) := am_code_of (M := tn_m73) rfl (by decide +kernel) rfl rfl
theorem kc_73_14 : am_code tn_G 73 14 = some (.putfield 50, 3, 0) := am_code_of (M := tn_m73) rfl (by decide +kernel) rfl rfl
theorem kf_73_50 : am_fld tn_G 73 50 = some (5, 7) := by decide +kernel
theorem kc_73_17 : am_code tn_G 73 17 = some (.aload_n 0, 1, 0) := am_code_of (M := tn_m73) rfl (by decide +kernel) rfl rfl
theorem kc_73_18 : am_code tn_G 73 18 = some (.getfield 50, 3, 0) := am_code_of (M := tn_m73) rfl (by decide +kernel) rfl rfl
theorem kc_73_21 : am_code tn_G 73 21 = some (.ifCond .le 5, 3, 26) := am_code_of (M := tn_m73) rfl (by decide +kernel) rfl (by decide +kernel)
theorem kc_73_24 : am_code tn_G 73 24 = some (.iconst 0, 1, 0) := am_code_of (M := tn_m73) rfl (by decide +kernel) rfl rfl
theorem kc_73_25 : am_code tn_G 73 25 = some (.ireturn, 1, 0) := am_code_of (M := tn_m73) rfl (by decide +kernel) rfl rfl
theorem kc_73_26 : am_code tn_G 73 26 = some (.aload_n 0, 1, 0) := am_code_of (M := tn_m73) rfl (by decide +kernel) rfl rfl
theorem kc_73_27 : am_code tn_G 73 27 = some (.iload_n 1, 1, 0) := am_code_of (M := tn_m73) rfl (by decide +kernel) rfl rfl
theorem kc_73_28 : am_code tn_G 73 28 = some (.invokevirtual 83, 3, 0) := am_code_of (M := tn_m73) rfl (by decide +kernel) rfl rfl
theorem ka_73_83 : am_cal tn_G 73 83 = some (0, 72, 1) := by decide +kernel
theorem kc_73_31 : am_code tn_G 73 31 = some (.iconst 0, 1, 0) := am_code_of (M := tn_m73) rfl (by decide +kernel) rfl rfl
theorem kc_73_32 : am_code tn_G 73 32 = some (.istore_n 2, 1, 0) := am_code_of (M := tn_m73) rfl (by decide +kernel) rfl rfl
theorem kc_73_33 : am_code tn_G 73 33 = some (.iconst 0, 1, 0) := am_code_of (M := tn_m73) rfl (by decide +kernel) rfl rfl
theorem kc_73_34 : am_code tn_G 73 34 = some (.istore_n 3, 1, 0) := am_code_of (M := tn_m73) rfl (by decide +kernel) rfl rfl
theorem kc_73_35 : am_code tn_G 73 35 = some (.iload_n 3, 1, 0) := am_code_of (M := tn_m73) rfl (by decide +kernel) rfl rfl
theorem kc_73_36 : am_code tn_G 73 36 = some (.aload_n 0, 1, 0) := am_code_of (M := tn_m73) rfl (by decide +kernel) rfl rfl
theorem kc_73_37 : am_code tn_G 73 37 = some (.getfield 54, 3, 0) := am_code_of (M := tn_m73) rfl (by decide +kernel) rfl rfl
theorem kf_73_54 : am_fld tn_G 73 54 = some (5, 4) := by decide +kernel
theorem kc_73_40 : am_code tn_G 73 40 = some (.if_icmp .ge 30, 3, 70) := am_code_of (M := tn_m73) rfl (by decide +kernel) rfl (by decide +kernel)
theorem kc_73_43 : am_code tn_G 73 43 = some (.aload_n 0, 1, 0) := am_code_of (M := tn_m73) rfl (by decide +kernel) rfl rfl
theorem kc_73_44 : am_code tn_G 73 44 = some (.getfield 47, 3, 0) := am_code_of (M := tn_m73) rfl (by decide +kernel) rfl rfl
theorem kf_73_47 : am_fld tn_G 73 47 = some (5, 17) := by decide +kernel
theorem kc_73_47 : am_code tn_G 73 47 = some (.iload_n 3, 1, 0) := am_code_of (M := tn_m73) rfl (by decide +kernel) rfl rfl
theorem kc_73_48 : am_code tn_G 73 48 = some (.baload, 1, 0) := am_code_of (M := tn_m73) rfl (by decide +kernel) rfl rfl
theorem kc_73_49 : am_code tn_G 73 49 = some (.ifCond .eq 15, 3, 64) := am_code_of (M := tn_m73) rfl (by decide +kernel) rfl (by decide +kernel)
theorem kc_73_52 : am_code tn_G 73 52 = some (.aload_n 0, 1, 0) := am_code_of (M := tn_m73) rfl (by decide +kernel) rfl rfl
theorem kc_73_53 : am_code tn_G 73 53 = some (.getfield 34, 3, 0) := am_code_of (M := tn_m73) rfl (by decide +kernel) rfl rfl
theorem kf_73_34 : am_fld tn_G 73 34 = some (5, 13) := by decide +kernel
theorem kc_73_56 : am_code tn_G 73 56 = some (.iload_n 3, 1, 0) := am_code_of (M := tn_m73) rfl (by decide +kernel) rfl rfl
theorem kc_73_57 : am_code tn_G 73 57 = some (.iaload, 1, 0) := am_code_of (M := tn_m73) rfl (by decide +kernel) rfl rfl
theorem kc_73_58 : am_code tn_G 73 58 = some (.ifCond .ge 6, 3, 64) := am_code_of (M := tn_m73) rfl (by decide +kernel) rfl (by decide +kernel)
theorem kc_73_61 : am_code tn_G 73 61 = some (.iinc 2 1, 3, 0) := am_code_of (M := tn_m73) rfl (by decide +kernel) rfl rfl
theorem kc_73_64 : am_code tn_G 73 64 = some (.iinc 3 1, 3, 0) := am_code_of (M := tn_m73) rfl (by decide +kernel) rfl rfl
theorem kc_73_67 : am_code tn_G 73 67 = some (.goto (-32), 3, 35) := am_code_of (M := tn_m73) rfl (by decide +kernel) rfl (by decide +kernel)
theorem kc_73_70 : am_code tn_G 73 70 = some (.iload_n 2, 1, 0) := am_code_of (M := tn_m73) rfl (by decide +kernel) rfl rfl
theorem kc_73_71 : am_code tn_G 73 71 = some (.ireturn, 1, 0) := am_code_of (M := tn_m73) rfl (by decide +kernel) rfl rfl
-- 74: TermNetModel.mark()I
theorem kl_74 : am_ml tn_G 74 = 2 := rfl
theorem ko_74 : am_oc tn_G 74 = 5 := rfl
theorem kn_74 : am_nc tn_G 74 = 0 := rfl
theorem kr_74 : am_rt tn_G 74 = 1 := rfl
theorem kc_74_0 : am_code tn_G 74 0 = some (.aload_n 0, 1, 0) := am_code_of (M := tn_m74) rfl (by decide +kernel) rfl rfl
theorem kc_74_1 : am_code tn_G 74 1 = some (.aload_n 0, 1, 0) := am_code_of (M := tn_m74) rfl (by decide +kernel) rfl rfl
theorem kc_74_2 : am_code tn_G 74 2 = some (.getfield 87, 3, 0) := am_code_of (M := tn_m74) rfl (by decide +kernel) rfl rfl
theorem kf_74_87 : am_fld tn_G 74 87 = some (5, 5) := by decide +kernel
theorem kc_74_5 : am_code tn_G 74 5 = some (.bipush 20, 2, 0) := am_code_of (M := tn_m74) rfl (by decide +kernel) rfl rfl
theorem kc_74_7 : am_code tn_G 74 7 = some (.if_icmp .ne 7, 3, 14) := am_code_of (M := tn_m74) rfl (by decide +kernel) rfl (by decide +kernel)
theorem kc_74_10 : am_code tn_G 74 10 = some (.iconst 1, 1, 0) := am_code_of (M := tn_m74) rfl (by decide +kernel) rfl rfl
theorem kc_74_11 : am_code tn_G 74 11 = some (.goto 4, 3, 15) := am_code_of (M := tn_m74) rfl (by decide +kernel) rfl (by decide +kernel)
theorem kc_74_14 : am_code tn_G 74 14 = some (.iconst 0, 1, 0) := am_code_of (M := tn_m74) rfl (by decide +kernel) rfl rfl
theorem kc_74_15 : am_code tn_G 74 15 = some (.putfield 50, 3, 0) := am_code_of (M := tn_m74) rfl (by decide +kernel) rfl rfl
theorem kf_74_50 : am_fld tn_G 74 50 = some (5, 7) := by decide +kernel
theorem kc_74_18 : am_code tn_G 74 18 = some (.aload_n 0, 1, 0) := am_code_of (M := tn_m74) rfl (by decide +kernel) rfl rfl
theorem kc_74_19 : am_code tn_G 74 19 = some (.getfield 50, 3, 0) := am_code_of (M := tn_m74) rfl (by decide +kernel) rfl rfl
theorem kc_74_22 : am_code tn_G 74 22 = some (.ifCond .le 5, 3, 27) := am_code_of (M := tn_m74) rfl (by decide +kernel) rfl (by decide +kernel)
theorem kc_74_25 : am_code tn_G 74 25 = some (.iconst 0, 1, 0) := am_code_of (M := tn_m74) rfl (by decide +kernel) rfl rfl
theorem kc_74_26 : am_code tn_G 74 26 = some (.ireturn, 1, 0) := am_code_of (M := tn_m74) rfl (by decide +kernel) rfl rfl
theorem kc_74_27 : am_code tn_G 74 27 = some (.aload_n 0, 1, 0) := am_code_of (M := tn_m74) rfl (by decide +kernel) rfl rfl
theorem kc_74_28 : am_code tn_G 74 28 = some (.getfield 25, 3, 0) := am_code_of (M := tn_m74) rfl (by decide +kernel) rfl rfl
theorem kf_74_25 : am_fld tn_G 74 25 = some (5, 10) := by decide +kernel
theorem kc_74_31 : am_code tn_G 74 31 = some (.aload_n 0, 1, 0) := am_code_of (M := tn_m74) rfl (by decide +kernel) rfl rfl
theorem kc_74_32 : am_code tn_G 74 32 = some (.getfield 87, 3, 0) := am_code_of (M := tn_m74) rfl (by decide +kernel) rfl rfl
theorem kc_74_35 : am_code tn_G 74 35 = some (.aload_n 0, 1, 0) := am_code_of (M := tn_m74) rfl (by decide +kernel) rfl rfl
theorem kc_74_36 : am_code tn_G 74 36 = some (.getfield 54, 3, 0) := am_code_of (M := tn_m74) rfl (by decide +kernel) rfl rfl
theorem kf_74_54 : am_fld tn_G 74 54 = some (5, 4) := by decide +kernel
theorem kc_74_39 : am_code tn_G 74 39 = some (.iastore, 1, 0) := am_code_of (M := tn_m74) rfl (by decide +kernel) rfl rfl
theorem kc_74_40 : am_code tn_G 74 40 = some (.aload_n 0, 1, 0) := am_code_of (M := tn_m74) rfl (by decide +kernel) rfl rfl
theorem kc_74_41 : am_code tn_G 74 41 = some (.getfield 28, 3, 0) := am_code_of (M := tn_m74) rfl (by decide +kernel) rfl rfl
theorem kf_74_28 : am_fld tn_G 74 28 = some (5, 11) := by decide +kernel
theorem kc_74_44 : am_code tn_G 74 44 = some (.aload_n 0, 1, 0) := am_code_of (M := tn_m74) rfl (by decide +kernel) rfl rfl
theorem kc_74_45 : am_code tn_G 74 45 = some (.getfield 87, 3, 0) := am_code_of (M := tn_m74) rfl (by decide +kernel) rfl rfl
theorem kc_74_48 : am_code tn_G 74 48 = some (.aload_n 0, 1, 0) := am_code_of (M := tn_m74) rfl (by decide +kernel) rfl rfl
theorem kc_74_49 : am_code tn_G 74 49 = some (.getfield 80, 3, 0) := am_code_of (M := tn_m74) rfl (by decide +kernel) rfl rfl
theorem kf_74_80 : am_fld tn_G 74 80 = some (5, 6) := by decide +kernel
theorem kc_74_52 : am_code tn_G 74 52 = some (.iastore, 1, 0) := am_code_of (M := tn_m74) rfl (by decide +kernel) rfl rfl
theorem kc_74_53 : am_code tn_G 74 53 = some (.iconst 0, 1, 0) := am_code_of (M := tn_m74) rfl (by decide +kernel) rfl rfl
theorem kc_74_54 : am_code tn_G 74 54 = some (.istore_n 1, 1, 0) := am_code_of (M := tn_m74) rfl (by decide +kernel) rfl rfl
theorem kc_74_55 : am_code tn_G 74 55 = some (.iload_n 1, 1, 0) := am_code_of (M := tn_m74) rfl (by decide +kernel) rfl rfl
theorem kc_74_56 : am_code tn_G 74 56 = some (.aload_n 0, 1, 0) := am_code_of (M := tn_m74) rfl (by decide +kernel) rfl rfl
theorem kc_74_57 : am_code tn_G 74 57 = some (.getfield 54, 3, 0) := am_code_of (M := tn_m74) rfl (by decide +kernel) rfl rfl
theorem kc_74_60 : am_code tn_G 74 60 = some (.if_icmp .ge 30, 3, 90) := am_code_of (M := tn_m74) rfl (by decide +kernel) rfl (by decide +kernel)
theorem kc_74_63 : am_code tn_G 74 63 = some (.aload_n 0, 1, 0) := am_code_of (M := tn_m74) rfl (by decide +kernel) rfl rfl
theorem kc_74_64 : am_code tn_G 74 64 = some (.getfield 31, 3, 0) := am_code_of (M := tn_m74) rfl (by decide +kernel) rfl rfl
theorem kf_74_31 : am_fld tn_G 74 31 = some (5, 12) := by decide +kernel
theorem kc_74_67 : am_code tn_G 74 67 = some (.sipush 400, 3, 0) := am_code_of (M := tn_m74) rfl (by decide +kernel) rfl rfl
theorem kc_74_70 : am_code tn_G 74 70 = some (.aload_n 0, 1, 0) := am_code_of (M := tn_m74) rfl (by decide +kernel) rfl rfl
theorem kc_74_71 : am_code tn_G 74 71 = some (.getfield 87, 3, 0) := am_code_of (M := tn_m74) rfl (by decide +kernel) rfl rfl
theorem kc_74_74 : am_code tn_G 74 74 = some (.imul, 1, 0) := am_code_of (M := tn_m74) rfl (by decide +kernel) rfl rfl
theorem kc_74_75 : am_code tn_G 74 75 = some (.iload_n 1, 1, 0) := am_code_of (M := tn_m74) rfl (by decide +kernel) rfl rfl
theorem kc_74_76 : am_code tn_G 74 76 = some (.iadd, 1, 0) := am_code_of (M := tn_m74) rfl (by decide +kernel) rfl rfl
theorem kc_74_77 : am_code tn_G 74 77 = some (.aload_n 0, 1, 0) := am_code_of (M := tn_m74) rfl (by decide +kernel) rfl rfl
theorem kc_74_78 : am_code tn_G 74 78 = some (.getfield 19, 3, 0) := am_code_of (M := tn_m74) rfl (by decide +kernel) rfl rfl
theorem kf_74_19 : am_fld tn_G 74 19 = some (5, 8) := by decide +kernel
theorem kc_74_81 : am_code tn_G 74 81 = some (.iload_n 1, 1, 0) := am_code_of (M := tn_m74) rfl (by decide +kernel) rfl rfl
theorem kc_74_82 : am_code tn_G 74 82 = some (.iaload, 1, 0) := am_code_of (M := tn_m74) rfl (by decide +kernel) rfl rfl
theorem kc_74_83 : am_code tn_G 74 83 = some (.iastore, 1, 0) := am_code_of (M := tn_m74) rfl (by decide +kernel) rfl rfl
theorem kc_74_84 : am_code tn_G 74 84 = some (.iinc 1 1, 3, 0) := am_code_of (M := tn_m74) rfl (by decide +kernel) rfl rfl
theorem kc_74_87 : am_code tn_G 74 87 = some (.goto (-32), 3, 55) := am_code_of (M := tn_m74) rfl (by decide +kernel) rfl (by decide +kernel)
theorem kc_74_90 : am_code tn_G 74 90 = some (.aload_n 0, 1, 0) := am_code_of (M := tn_m74) rfl (by decide +kernel) rfl rfl
theorem kc_74_91 : am_code tn_G 74 91 = some (.dup, 1, 0) := am_code_of (M := tn_m74) rfl (by decide +kernel) rfl rfl
theorem kc_74_92 : am_code tn_G 74 92 = some (.getfield 87, 3, 0) := am_code_of (M := tn_m74) rfl (by decide +kernel) rfl rfl
theorem kc_74_95 : am_code tn_G 74 95 = some (.iconst 1, 1, 0) := am_code_of (M := tn_m74) rfl (by decide +kernel) rfl rfl
theorem kc_74_96 : am_code tn_G 74 96 = some (.iadd, 1, 0) := am_code_of (M := tn_m74) rfl (by decide +kernel) rfl rfl
theorem kc_74_97 : am_code tn_G 74 97 = some (.putfield 87, 3, 0) := am_code_of (M := tn_m74) rfl (by decide +kernel) rfl rfl
theorem kc_74_100 : am_code tn_G 74 100 = some (.aload_n 0, 1, 0) := am_code_of (M := tn_m74) rfl (by decide +kernel) rfl rfl
theorem kc_74_101 : am_code tn_G 74 101 = some (.getfield 87, 3, 0) := am_code_of (M := tn_m74) rfl (by decide +kernel) rfl rfl
theorem kc_74_104 : am_code tn_G 74 104 = some (.ireturn, 1, 0) := am_code_of (M := tn_m74) rfl (by decide +kernel) rfl rfl
-- 75: TermNetModel.back()I
theorem kl_75 : am_ml tn_G 75 = 2 := rfl
theorem ko_75 : am_oc tn_G 75 = 5 := rfl
theorem kn_75 : am_nc tn_G 75 = 0 := rfl
theorem kr_75 : am_rt tn_G 75 = 1 := rfl
theorem kc_75_0 : am_code tn_G 75 0 = some (.aload_n 0, 1, 0) := am_code_of (M := tn_m75) rfl (by decide +kernel) rfl rfl
theorem kc_75_1 : am_code tn_G 75 1 = some (.aload_n 0, 1, 0) := am_code_of (M := tn_m75) rfl (by decide +kernel) rfl rfl
theorem kc_75_2 : am_code tn_G 75 2 = some (.getfield 87, 3, 0) := am_code_of (M := tn_m75) rfl (by decide +kernel) rfl rfl
theorem kf_75_87 : am_fld tn_G 75 87 = some (5, 5) := by decide +kernel
theorem kc_75_5 : am_code tn_G 75 5 = some (.ifCond .ne 7, 3, 12) := am_code_of (M := tn_m75) rfl (by decide +kernel) rfl (by decide +kernel)
theorem kc_75_8 : am_code tn_G 75 8 = some (.iconst 1, 1, 0) := am_code_of (M := tn_m75) rfl (by decide +kernel) rfl rfl
theorem kc_75_9 : am_code tn_G 75 9 = some (.goto 4, 3, 13) := am_code_of (M := tn_m75) rfl (by decide +kernel) rfl (by decide +kernel)
theorem kc_75_12 : am_code tn_G 75 12 = some (.iconst 0, 1, 0) := am_code_of (M := tn_m75) rfl (by decide +kernel) rfl rfl
theorem kc_75_13 : am_code tn_G 75 13 = some (.putfield 50, 3, 0) := am_code_of (M := tn_m75) rfl (by decide +kernel) rfl rfl
theorem kf_75_50 : am_fld tn_G 75 50 = some (5, 7) := by decide +kernel
theorem kc_75_16 : am_code tn_G 75 16 = some (.aload_n 0, 1, 0) := am_code_of (M := tn_m75) rfl (by decide +kernel) rfl rfl
theorem kc_75_17 : am_code tn_G 75 17 = some (.getfield 50, 3, 0) := am_code_of (M := tn_m75) rfl (by decide +kernel) rfl rfl
theorem kc_75_20 : am_code tn_G 75 20 = some (.ifCond .le 5, 3, 25) := am_code_of (M := tn_m75) rfl (by decide +kernel) rfl (by decide +kernel)
theorem kc_75_23 : am_code tn_G 75 23 = some (.iconst 0, 1, 0) := am_code_of (M := tn_m75) rfl (by decide +kernel) rfl rfl
theorem kc_75_24 : am_code tn_G 75 24 = some (.ireturn, 1, 0) := am_code_of (M := tn_m75) rfl (by decide +kernel) rfl rfl
theorem kc_75_25 : am_code tn_G 75 25 = some (.aload_n 0, 1, 0) := am_code_of (M := tn_m75) rfl (by decide +kernel) rfl rfl
theorem kc_75_26 : am_code tn_G 75 26 = some (.dup, 1, 0) := am_code_of (M := tn_m75) rfl (by decide +kernel) rfl rfl
theorem kc_75_27 : am_code tn_G 75 27 = some (.getfield 87, 3, 0) := am_code_of (M := tn_m75) rfl (by decide +kernel) rfl rfl
theorem kc_75_30 : am_code tn_G 75 30 = some (.iconst 1, 1, 0) := am_code_of (M := tn_m75) rfl (by decide +kernel) rfl rfl
theorem kc_75_31 : am_code tn_G 75 31 = some (.isub, 1, 0) := am_code_of (M := tn_m75) rfl (by decide +kernel) rfl rfl
theorem kc_75_32 : am_code tn_G 75 32 = some (.putfield 87, 3, 0) := am_code_of (M := tn_m75) rfl (by decide +kernel) rfl rfl
theorem kc_75_35 : am_code tn_G 75 35 = some (.aload_n 0, 1, 0) := am_code_of (M := tn_m75) rfl (by decide +kernel) rfl rfl
theorem kc_75_36 : am_code tn_G 75 36 = some (.aload_n 0, 1, 0) := am_code_of (M := tn_m75) rfl (by decide +kernel) rfl rfl
theorem kc_75_37 : am_code tn_G 75 37 = some (.getfield 25, 3, 0) := am_code_of (M := tn_m75) rfl (by decide +kernel) rfl rfl
theorem kf_75_25 : am_fld tn_G 75 25 = some (5, 10) := by decide +kernel
theorem kc_75_40 : am_code tn_G 75 40 = some (.aload_n 0, 1, 0) := am_code_of (M := tn_m75) rfl (by decide +kernel) rfl rfl
theorem kc_75_41 : am_code tn_G 75 41 = some (.getfield 87, 3, 0) := am_code_of (M := tn_m75) rfl (by decide +kernel) rfl rfl
theorem kc_75_44 : am_code tn_G 75 44 = some (.iaload, 1, 0) := am_code_of (M := tn_m75) rfl (by decide +kernel) rfl rfl
theorem kc_75_45 : am_code tn_G 75 45 = some (.putfield 54, 3, 0) := am_code_of (M := tn_m75) rfl (by decide +kernel) rfl rfl
theorem kf_75_54 : am_fld tn_G 75 54 = some (5, 4) := by decide +kernel
theorem kc_75_48 : am_code tn_G 75 48 = some (.aload_n 0, 1, 0) := am_code_of (M := tn_m75) rfl (by decide +kernel) rfl rfl
theorem kc_75_49 : am_code tn_G 75 49 = some (.aload_n 0, 1, 0) := am_code_of (M := tn_m75) rfl (by decide +kernel) rfl rfl
theorem kc_75_50 : am_code tn_G 75 50 = some (.getfield 28, 3, 0) := am_code_of (M := tn_m75) rfl (by decide +kernel) rfl rfl
theorem kf_75_28 : am_fld tn_G 75 28 = some (5, 11) := by decide +kernel
theorem kc_75_53 : am_code tn_G 75 53 = some (.aload_n 0, 1, 0) := am_code_of (M := tn_m75) rfl (by decide +kernel) rfl rfl
theorem kc_75_54 : am_code tn_G 75 54 = some (.getfield 87, 3, 0) := am_code_of (M := tn_m75) rfl (by decide +kernel) rfl rfl
theorem kc_75_57 : am_code tn_G 75 57 = some (.iaload, 1, 0) := am_code_of (M := tn_m75) rfl (by decide +kernel) rfl rfl
theorem kc_75_58 : am_code tn_G 75 58 = some (.putfield 80, 3, 0) := am_code_of (M := tn_m75) rfl (by decide +kernel) rfl rfl
theorem kf_75_80 : am_fld tn_G 75 80 = some (5, 6) := by decide +kernel
theorem kc_75_61 : am_code tn_G 75 61 = some (.iconst 0, 1, 0) := am_code_of (M := tn_m75) rfl (by decide +kernel) rfl rfl
theorem kc_75_62 : am_code tn_G 75 62 = some (.istore_n 1, 1, 0) := am_code_of (M := tn_m75) rfl (by decide +kernel) rfl rfl
theorem kc_75_63 : am_code tn_G 75 63 = some (.iload_n 1, 1, 0) := am_code_of (M := tn_m75) rfl (by decide +kernel) rfl rfl
theorem kc_75_64 : am_code tn_G 75 64 = some (.aload_n 0, 1, 0) := am_code_of (M := tn_m75) rfl (by decide +kernel) rfl rfl
theorem kc_75_65 : am_code tn_G 75 65 = some (.getfield 54, 3, 0) := am_code_of (M := tn_m75) rfl (by decide +kernel) rfl rfl
theorem kc_75_68 : am_code tn_G 75 68 = some (.if_icmp .ge 30, 3, 98) := am_code_of (M := tn_m75) rfl (by decide +kernel) rfl (by decide +kernel)
theorem kc_75_71 : am_code tn_G 75 71 = some (.aload_n 0, 1, 0) := am_code_of (M := tn_m75) rfl (by decide +kernel) rfl rfl
theorem kc_75_72 : am_code tn_G 75 72 = some (.getfield 19, 3, 0) := am_code_of (M := tn_m75) rfl (by decide +kernel) rfl rfl
theorem kf_75_19 : am_fld tn_G 75 19 = some (5, 8) := by decide +kernel
theorem kc_75_75 : am_code tn_G 75 75 = some (.iload_n 1, 1, 0) := am_code_of (M := tn_m75) rfl (by decide +kernel) rfl rfl
theorem kc_75_76 : am_code tn_G 75 76 = some (.aload_n 0, 1, 0) := am_code_of (M := tn_m75) rfl (by decide +kernel) rfl rfl
theorem kc_75_77 : am_code tn_G 75 77 = some (.getfield 31, 3, 0) := am_code_of (M := tn_m75) rfl (by decide +kernel) rfl rfl
theorem kf_75_31 : am_fld tn_G 75 31 = some (5, 12) := by decide +kernel
theorem kc_75_80 : am_code tn_G 75 80 = some (.sipush 400, 3, 0) := am_code_of (M := tn_m75) rfl (by decide +kernel) rfl rfl
theorem kc_75_83 : am_code tn_G 75 83 = some (.aload_n 0, 1, 0) := am_code_of (M := tn_m75) rfl (by decide +kernel) rfl rfl
theorem kc_75_84 : am_code tn_G 75 84 = some (.getfield 87, 3, 0) := am_code_of (M := tn_m75) rfl (by decide +kernel) rfl rfl
theorem kc_75_87 : am_code tn_G 75 87 = some (.imul, 1, 0) := am_code_of (M := tn_m75) rfl (by decide +kernel) rfl rfl
theorem kc_75_88 : am_code tn_G 75 88 = some (.iload_n 1, 1, 0) := am_code_of (M := tn_m75) rfl (by decide +kernel) rfl rfl
theorem kc_75_89 : am_code tn_G 75 89 = some (.iadd, 1, 0) := am_code_of (M := tn_m75) rfl (by decide +kernel) rfl rfl
theorem kc_75_90 : am_code tn_G 75 90 = some (.iaload, 1, 0) := am_code_of (M := tn_m75) rfl (by decide +kernel) rfl rfl
theorem kc_75_91 : am_code tn_G 75 91 = some (.iastore, 1, 0) := am_code_of (M := tn_m75) rfl (by decide +kernel) rfl rfl
theorem kc_75_92 : am_code tn_G 75 92 = some (.iinc 1 1, 3, 0) := am_code_of (M := tn_m75) rfl (by decide +kernel) rfl rfl
theorem kc_75_95 : am_code tn_G 75 95 = some (.goto (-32), 3, 63) := am_code_of (M := tn_m75) rfl (by decide +kernel) rfl (by decide +kernel)
theorem kc_75_98 : am_code tn_G 75 98 = some (.aload_n 0, 1, 0) := am_code_of (M := tn_m75) rfl (by decide +kernel) rfl rfl
theorem kc_75_99 : am_code tn_G 75 99 = some (.getfield 87, 3, 0) := am_code_of (M := tn_m75) rfl (by decide +kernel) rfl rfl
theorem kc_75_102 : am_code tn_G 75 102 = some (.ireturn, 1, 0) := am_code_of (M := tn_m75) rfl (by decide +kernel) rfl rfl
-- 76: TermNetModel.count(I)I
theorem kl_76 : am_ml tn_G 76 = 6 := rfl
theorem ko_76 : am_oc tn_G 76 = 5 := rfl
theorem kn_76 : am_nc tn_G 76 = 0 := rfl
theorem kr_76 : am_rt tn_G 76 = 1 := rfl
theorem kc_76_0 : am_code tn_G 76 0 = some (.aload_n 0, 1, 0) := am_code_of (M := tn_m76) rfl (by decide +kernel) rfl rfl
theorem kc_76_1 : am_code tn_G 76 1 = some (.iconst 0, 1, 0) := am_code_of (M := tn_m76) rfl (by decide +kernel) rfl rfl
theorem kc_76_2 : am_code tn_G 76 2 = some (.putfield 50, 3, 0) := am_code_of (M := tn_m76) rfl (by decide +kernel) rfl rfl
theorem kf_76_50 : am_fld tn_G 76 50 = some (5, 7) := by decide +kernel
theorem kc_76_5 : am_code tn_G 76 5 = some (.aload_n 0, 1, 0) := am_code_of (M := tn_m76) rfl (by decide +kernel) rfl rfl
theorem kc_76_6 : am_code tn_G 76 6 = some (.aload_n 0, 1, 0) := am_code_of (M := tn_m76) rfl (by decide +kernel) rfl rfl
theorem kc_76_7 : am_code tn_G 76 7 = some (.getfield 19, 3, 0) := am_code_of (M := tn_m76) rfl (by decide +kernel) rfl rfl
theorem kf_76_19 : am_fld tn_G 76 19 = some (5, 8) := by decide +kernel
theorem kc_76_10 : am_code tn_G 76 10 = some (.invokevirtual 77, 3, 0) := am_code_of (M := tn_m76) rfl (by decide +kernel) rfl rfl
theorem ka_76_77 : am_cal tn_G 76 77 = some (0, 64, 1) := by decide +kernel
theorem kc_76_13 : am_code tn_G 76 13 = some (.istore_n 2, 1, 0) := am_code_of (M := tn_m76) rfl (by decide +kernel) rfl rfl
theorem kc_76_14 : am_code tn_G 76 14 = some (.iconst 0, 1, 0) := am_code_of (M := tn_m76) rfl (by decide +kernel) rfl rfl
theorem kc_76_15 : am_code tn_G 76 15 = some (.istore_n 3, 1, 0) := am_code_of (M := tn_m76) rfl (by decide +kernel) rfl rfl
theorem kc_76_16 : am_code tn_G 76 16 = some (.iconst 0, 1, 0) := am_code_of (M := tn_m76) rfl (by decide +kernel) rfl rfl
theorem kc_76_17 : am_code tn_G 76 17 = some (.istore 4, 2, 0) := am_code_of (M := tn_m76) rfl (by decide +kernel) rfl rfl
theorem kc_76_19 : am_code tn_G 76 19 = some (.iconst 0, 1, 0) := am_code_of (M := tn_m76) rfl (by decide +kernel) rfl rfl
theorem kc_76_20 : am_code tn_G 76 20 = some (.istore 5, 2, 0) := am_code_of (M := tn_m76) rfl (by decide +kernel) rfl rfl
theorem kc_76_22 : am_code tn_G 76 22 = some (.iload 5, 2, 0) := am_code_of (M := tn_m76) rfl (by decide +kernel) rfl rfl
theorem kc_76_24 : am_code tn_G 76 24 = some (.aload_n 0, 1, 0) := am_code_of (M := tn_m76) rfl (by decide +kernel) rfl rfl
theorem kc_76_25 : am_code tn_G 76 25 = some (.getfield 54, 3, 0) := am_code_of (M := tn_m76) rfl (by decide +kernel) rfl rfl
theorem kf_76_54 : am_fld tn_G 76 54 = some (5, 4) := by decide +kernel
theorem kc_76_28 : am_code tn_G 76 28 = some (.if_icmp .ge 40, 3, 68) := am_code_of (M := tn_m76) rfl (by decide +kernel) rfl (by decide +kernel)
theorem kc_76_31 : am_code tn_G 76 31 = some (.aload_n 0, 1, 0) := am_code_of (M := tn_m76) rfl (by decide +kernel) rfl rfl
theorem kc_76_32 : am_code tn_G 76 32 = some (.getfield 19, 3, 0) := am_code_of (M := tn_m76) rfl (by decide +kernel) rfl rfl
theorem kc_76_35 : am_code tn_G 76 35 = some (.iload 5, 2, 0) := am_code_of (M := tn_m76) rfl (by decide +kernel) rfl rfl
theorem kc_76_37 : am_code tn_G 76 37 = some (.iaload, 1, 0) := am_code_of (M := tn_m76) rfl (by decide +kernel) rfl rfl
theorem kc_76_38 : am_code tn_G 76 38 = some (.iload 5, 2, 0) := am_code_of (M := tn_m76) rfl (by decide +kernel) rfl rfl
theorem kc_76_40 : am_code tn_G 76 40 = some (.if_icmp .eq 6, 3, 46) := am_code_of (M := tn_m76) rfl (by decide +kernel) rfl (by decide +kernel)
theorem kc_76_43 : am_code tn_G 76 43 = some (.goto 19, 3, 62) := am_code_of (M := tn_m76) rfl (by decide +kernel) rfl (by decide +kernel)
theorem kc_76_46 : am_code tn_G 76 46 = some (.iinc 3 1, 3, 0) := am_code_of (M := tn_m76) rfl (by decide +kernel) rfl rfl
theorem kc_76_49 : am_code tn_G 76 49 = some (.aload_n 0, 1, 0) := am_code_of (M := tn_m76) rfl (by decide +kernel) rfl rfl
theorem kc_76_50 : am_code tn_G 76 50 = some (.getfield 34, 3, 0) := am_code_of (M := tn_m76) rfl (by decide +kernel) rfl rfl
theorem kf_76_34 : am_fld tn_G 76 34 = some (5, 13) := by decide +kernel
theorem kc_76_53 : am_code tn_G 76 53 = some (.iload 5, 2, 0) := am_code_of (M := tn_m76) rfl (by decide +kernel) rfl rfl
theorem kc_76_55 : am_code tn_G 76 55 = some (.iaload, 1, 0) := am_code_of (M := tn_m76) rfl (by decide +kernel) rfl rfl
theorem kc_76_56 : am_code tn_G 76 56 = some (.ifCond .lt 6, 3, 62) := am_code_of (M := tn_m76) rfl (by decide +kernel) rfl (by decide +kernel)
theorem kc_76_59 : am_code tn_G 76 59 = some (.iinc 4 1, 3, 0) := am_code_of (M := tn_m76) rfl (by decide +kernel) rfl rfl
theorem kc_76_62 : am_code tn_G 76 62 = some (.iinc 5 1, 3, 0) := am_code_of (M := tn_m76) rfl (by decide +kernel) rfl rfl
theorem kc_76_65 : am_code tn_G 76 65 = some (.goto (-43), 3, 22) := am_code_of (M := tn_m76) rfl (by decide +kernel) rfl (by decide +kernel)
theorem kc_76_68 : am_code tn_G 76 68 = some (.iload_n 1, 1, 0) := am_code_of (M := tn_m76) rfl (by decide +kernel) rfl rfl
theorem kc_76_69 : am_code tn_G 76 69 = some (.tableswitch 64 0 5 #[39, 44, 49, 54, 59, 61], 39, 133) := am_code_of (M := tn_m76) rfl (by decide +kernel) rfl (by decide +kernel)
theorem kc_76_108 : am_code tn_G 76 108 = some (.aload_n 0, 1, 0) := am_code_of (M := tn_m76) rfl (by decide +kernel) rfl rfl
theorem kc_76_109 : am_code tn_G 76 109 = some (.getfield 57, 3, 0) := am_code_of (M := tn_m76) rfl (by decide +kernel) rfl rfl
theorem kf_76_57 : am_fld tn_G 76 57 = some (5, 3) := by decide +kernel
theorem kc_76_112 : am_code tn_G 76 112 = some (.ireturn, 1, 0) := am_code_of (M := tn_m76) rfl (by decide +kernel) rfl rfl
theorem kc_76_113 : am_code tn_G 76 113 = some (.aload_n 0, 1, 0) := am_code_of (M := tn_m76) rfl (by decide +kernel) rfl rfl
theorem kc_76_114 : am_code tn_G 76 114 = some (.getfield 54, 3, 0) := am_code_of (M := tn_m76) rfl (by decide +kernel) rfl rfl
theorem kc_76_117 : am_code tn_G 76 117 = some (.ireturn, 1, 0) := am_code_of (M := tn_m76) rfl (by decide +kernel) rfl rfl
theorem kc_76_118 : am_code tn_G 76 118 = some (.aload_n 0, 1, 0) := am_code_of (M := tn_m76) rfl (by decide +kernel) rfl rfl
theorem kc_76_119 : am_code tn_G 76 119 = some (.getfield 87, 3, 0) := am_code_of (M := tn_m76) rfl (by decide +kernel) rfl rfl
theorem kf_76_87 : am_fld tn_G 76 87 = some (5, 5) := by decide +kernel
theorem kc_76_122 : am_code tn_G 76 122 = some (.ireturn, 1, 0) := am_code_of (M := tn_m76) rfl (by decide +kernel) rfl rfl
theorem kc_76_123 : am_code tn_G 76 123 = some (.aload_n 0, 1, 0) := am_code_of (M := tn_m76) rfl (by decide +kernel) rfl rfl
theorem kc_76_124 : am_code tn_G 76 124 = some (.getfield 80, 3, 0) := am_code_of (M := tn_m76) rfl (by decide +kernel) rfl rfl
theorem kf_76_80 : am_fld tn_G 76 80 = some (5, 6) := by decide +kernel
theorem kc_76_127 : am_code tn_G 76 127 = some (.ireturn, 1, 0) := am_code_of (M := tn_m76) rfl (by decide +kernel) rfl rfl
theorem kc_76_128 : am_code tn_G 76 128 = some (.iload_n 3, 1, 0) := am_code_of (M := tn_m76) rfl (by decide +kernel) rfl rfl
theorem kc_76_129 : am_code tn_G 76 129 = some (.ireturn, 1, 0) := am_code_of (M := tn_m76) rfl (by decide +kernel) rfl rfl
theorem kc_76_130 : am_code tn_G 76 130 = some (.iload 4, 2, 0) := am_code_of (M := tn_m76) rfl (by decide +kernel) rfl rfl
theorem kc_76_132 : am_code tn_G 76 132 = some (.ireturn, 1, 0) := am_code_of (M := tn_m76) rfl (by decide +kernel) rfl rfl
theorem kc_76_133 : am_code tn_G 76 133 = some (.iconst (-1), 1, 0) := am_code_of (M := tn_m76) rfl (by decide +kernel) rfl rfl
theorem kc_76_134 : am_code tn_G 76 134 = some (.ireturn, 1, 0) := am_code_of (M := tn_m76) rfl (by decide +kernel) rfl rfl
