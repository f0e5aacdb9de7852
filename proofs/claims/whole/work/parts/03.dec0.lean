theorem dX0_init_0 : decode cX0_init 0 = .ok (.aload_n 0, 1) := by decide +kernel
theorem dX0_init_1 : decode cX0_init 1 = .ok (.invokespecial 3, 3) := by decide +kernel
theorem dX0_init_4 : decode cX0_init 4 = .ok (.aload_n 0, 1) := by decide +kernel
theorem dX0_init_5 : decode cX0_init 5 = .ok (.new 9, 3) := by decide +kernel
theorem dX0_init_8 : decode cX0_init 8 = .ok (.dup, 1) := by decide +kernel
theorem dX0_init_9 : decode cX0_init 9 = .ok (.iconst 0, 1) := by decide +kernel
theorem dX0_init_10 : decode cX0_init 10 = .ok (.iconst 0, 1) := by decide +kernel
theorem dX0_init_11 : decode cX0_init 11 = .ok (.invokespecial 11, 3) := by decide +kernel
theorem dX0_init_14 : decode cX0_init 14 = .ok (.putfield 14, 3) := by decide +kernel
theorem dX0_init_17 : decode cX0_init 17 = .ok (.aload_n 0, 1) := by decide +kernel
theorem dX0_init_18 : decode cX0_init 18 = .ok (.iconst 2, 1) := by decide +kernel
theorem dX0_init_19 : decode cX0_init 19 = .ok (.bipush 30, 2) := by decide +kernel
theorem dX0_init_21 : decode cX0_init 21 = .ok (.multianewarray 20 2, 4) := by decide +kernel
theorem dX0_init_25 : decode cX0_init 25 = .ok (.putfield 22, 3) := by decide +kernel
theorem dX0_init_28 : decode cX0_init 28 = .ok (.aload_n 0, 1) := by decide +kernel
theorem dX0_init_29 : decode cX0_init 29 = .ok (.iconst 2, 1) := by decide +kernel
theorem dX0_init_30 : decode cX0_init 30 = .ok (.bipush 31, 2) := by decide +kernel
theorem dX0_init_32 : decode cX0_init 32 = .ok (.multianewarray 20 2, 4) := by decide +kernel
theorem dX0_init_36 : decode cX0_init 36 = .ok (.putfield 25, 3) := by decide +kernel
theorem dX0_init_39 : decode cX0_init 39 = .ok (.aload_n 0, 1) := by decide +kernel
theorem dX0_init_40 : decode cX0_init 40 = .ok (.bipush 30, 2) := by decide +kernel
theorem dX0_init_42 : decode cX0_init 42 = .ok (.newarray .int, 2) := by decide +kernel
theorem dX0_init_44 : decode cX0_init 44 = .ok (.putfield 28, 3) := by decide +kernel
theorem dX0_init_47 : decode cX0_init 47 = .ok (.return_, 1) := by decide +kernel
theorem dX0_plant_0 : decode cX0_plant 0 = .ok (.aload_n 0, 1) := by decide +kernel
theorem dX0_plant_1 : decode cX0_plant 1 = .ok (.aload_n 1, 1) := by decide +kernel
theorem dX0_plant_2 : decode cX0_plant 2 = .ok (.putfield 14, 3) := by decide +kernel
theorem dX0_plant_5 : decode cX0_plant 5 = .ok (.aload_n 0, 1) := by decide +kernel
theorem dX0_plant_6 : decode cX0_plant 6 = .ok (.getfield 28, 3) := by decide +kernel
theorem dX0_plant_9 : decode cX0_plant 9 = .ok (.bipush (-9), 2) := by decide +kernel
theorem dX0_plant_11 : decode cX0_plant 11 = .ok (.invokestatic 32, 3) := by decide +kernel
theorem dX0_plant_14 : decode cX0_plant 14 = .ok (.iconst 0, 1) := by decide +kernel
theorem dX0_plant_15 : decode cX0_plant 15 = .ok (.istore_n 2, 1) := by decide +kernel
theorem dX0_plant_16 : decode cX0_plant 16 = .ok (.iload_n 2, 1) := by decide +kernel
theorem dX0_plant_17 : decode cX0_plant 17 = .ok (.iconst 1, 1) := by decide +kernel
theorem dX0_plant_18 : decode cX0_plant 18 = .ok (.if_icmp .gt 40, 3) := by decide +kernel
theorem dX0_plant_21 : decode cX0_plant 21 = .ok (.aload_n 0, 1) := by decide +kernel
theorem dX0_plant_22 : decode cX0_plant 22 = .ok (.getfield 22, 3) := by decide +kernel
theorem dX0_plant_25 : decode cX0_plant 25 = .ok (.iload_n 2, 1) := by decide +kernel
theorem dX0_plant_26 : decode cX0_plant 26 = .ok (.aaload, 1) := by decide +kernel
theorem dX0_plant_27 : decode cX0_plant 27 = .ok (.iconst 0, 1) := by decide +kernel
theorem dX0_plant_28 : decode cX0_plant 28 = .ok (.invokestatic 32, 3) := by decide +kernel
theorem dX0_plant_31 : decode cX0_plant 31 = .ok (.aload_n 0, 1) := by decide +kernel
theorem dX0_plant_32 : decode cX0_plant 32 = .ok (.getfield 25, 3) := by decide +kernel
theorem dX0_plant_35 : decode cX0_plant 35 = .ok (.iload_n 2, 1) := by decide +kernel
theorem dX0_plant_36 : decode cX0_plant 36 = .ok (.aaload, 1) := by decide +kernel
theorem dX0_plant_37 : decode cX0_plant 37 = .ok (.iconst 0, 1) := by decide +kernel
theorem dX0_plant_38 : decode cX0_plant 38 = .ok (.bipush 12, 2) := by decide +kernel
theorem dX0_plant_40 : decode cX0_plant 40 = .ok (.aload_n 1, 1) := by decide +kernel
theorem dX0_plant_41 : decode cX0_plant 41 = .ok (.getfield 38, 3) := by decide +kernel
theorem dX0_plant_44 : decode cX0_plant 44 = .ok (.imul, 1) := by decide +kernel
theorem dX0_plant_45 : decode cX0_plant 45 = .ok (.iastore, 1) := by decide +kernel
theorem dX0_plant_46 : decode cX0_plant 46 = .ok (.aload_n 0, 1) := by decide +kernel
theorem dX0_plant_47 : decode cX0_plant 47 = .ok (.iload_n 2, 1) := by decide +kernel
theorem dX0_plant_48 : decode cX0_plant 48 = .ok (.iconst 0, 1) := by decide +kernel
theorem dX0_plant_49 : decode cX0_plant 49 = .ok (.invokevirtual 42, 3) := by decide +kernel
theorem dX0_plant_52 : decode cX0_plant 52 = .ok (.iinc 2 1, 3) := by decide +kernel
theorem dX0_plant_55 : decode cX0_plant 55 = .ok (.goto (-39), 3) := by decide +kernel
theorem dX0_plant_58 : decode cX0_plant 58 = .ok (.return_, 1) := by decide +kernel
theorem dX0_speak_0 : decode cX0_speak 0 = .ok (.aload_n 0, 1) := by decide +kernel
theorem dX0_speak_1 : decode cX0_speak 1 = .ok (.getfield 22, 3) := by decide +kernel
theorem dX0_speak_4 : decode cX0_speak 4 = .ok (.iload_n 1, 1) := by decide +kernel
theorem dX0_speak_5 : decode cX0_speak 5 = .ok (.aaload, 1) := by decide +kernel
theorem dX0_speak_6 : decode cX0_speak 6 = .ok (.iload_n 2, 1) := by decide +kernel
theorem dX0_speak_7 : decode cX0_speak 7 = .ok (.iaload, 1) := by decide +kernel
theorem dX0_speak_8 : decode cX0_speak 8 = .ok (.istore 4, 2) := by decide +kernel
theorem dX0_speak_10 : decode cX0_speak 10 = .ok (.aload_n 0, 1) := by decide +kernel
theorem dX0_speak_11 : decode cX0_speak 11 = .ok (.getfield 22, 3) := by decide +kernel
theorem dX0_speak_14 : decode cX0_speak 14 = .ok (.iload_n 1, 1) := by decide +kernel
theorem dX0_speak_15 : decode cX0_speak 15 = .ok (.aaload, 1) := by decide +kernel
theorem dX0_speak_16 : decode cX0_speak 16 = .ok (.iload_n 2, 1) := by decide +kernel
theorem dX0_speak_17 : decode cX0_speak 17 = .ok (.iload_n 3, 1) := by decide +kernel
theorem dX0_speak_18 : decode cX0_speak 18 = .ok (.iastore, 1) := by decide +kernel
theorem dX0_speak_19 : decode cX0_speak 19 = .ok (.aload_n 0, 1) := by decide +kernel
theorem dX0_speak_20 : decode cX0_speak 20 = .ok (.iload_n 1, 1) := by decide +kernel
theorem dX0_speak_21 : decode cX0_speak 21 = .ok (.iload_n 2, 1) := by decide +kernel
theorem dX0_speak_22 : decode cX0_speak 22 = .ok (.invokevirtual 42, 3) := by decide +kernel
theorem dX0_speak_25 : decode cX0_speak 25 = .ok (.iload 4, 2) := by decide +kernel
theorem dX0_speak_27 : decode cX0_speak 27 = .ok (.ireturn, 1) := by decide +kernel
theorem dX0_cutBack_0 : decode cX0_cutBack 0 = .ok (.aload_n 0, 1) := by decide +kernel
theorem dX0_cutBack_1 : decode cX0_cutBack 1 = .ok (.getfield 28, 3) := by decide +kernel
theorem dX0_cutBack_4 : decode cX0_cutBack 4 = .ok (.iload_n 1, 1) := by decide +kernel
theorem dX0_cutBack_5 : decode cX0_cutBack 5 = .ok (.iaload, 1) := by decide +kernel
theorem dX0_cutBack_6 : decode cX0_cutBack 6 = .ok (.istore_n 3, 1) := by decide +kernel
theorem dX0_cutBack_7 : decode cX0_cutBack 7 = .ok (.aload_n 0, 1) := by decide +kernel
theorem dX0_cutBack_8 : decode cX0_cutBack 8 = .ok (.getfield 28, 3) := by decide +kernel
theorem dX0_cutBack_11 : decode cX0_cutBack 11 = .ok (.iload_n 1, 1) := by decide +kernel
theorem dX0_cutBack_12 : decode cX0_cutBack 12 = .ok (.iload_n 2, 1) := by decide +kernel
theorem dX0_cutBack_13 : decode cX0_cutBack 13 = .ok (.iastore, 1) := by decide +kernel
theorem dX0_cutBack_14 : decode cX0_cutBack 14 = .ok (.aload_n 0, 1) := by decide +kernel
theorem dX0_cutBack_15 : decode cX0_cutBack 15 = .ok (.iconst 0, 1) := by decide +kernel
theorem dX0_cutBack_16 : decode cX0_cutBack 16 = .ok (.iload_n 1, 1) := by decide +kernel
theorem dX0_cutBack_17 : decode cX0_cutBack 17 = .ok (.invokevirtual 42, 3) := by decide +kernel
theorem dX0_cutBack_20 : decode cX0_cutBack 20 = .ok (.aload_n 0, 1) := by decide +kernel
theorem dX0_cutBack_21 : decode cX0_cutBack 21 = .ok (.iconst 1, 1) := by decide +kernel
theorem dX0_cutBack_22 : decode cX0_cutBack 22 = .ok (.iload_n 1, 1) := by decide +kernel
theorem dX0_cutBack_23 : decode cX0_cutBack 23 = .ok (.invokevirtual 42, 3) := by decide +kernel
theorem dX0_cutBack_26 : decode cX0_cutBack 26 = .ok (.iload_n 3, 1) := by decide +kernel
theorem dX0_cutBack_27 : decode cX0_cutBack 27 = .ok (.ireturn, 1) := by decide +kernel
theorem dX0_growFrom_0 : decode cX0_growFrom 0 = .ok (.aload_n 0, 1) := by decide +kernel
theorem dX0_growFrom_1 : decode cX0_growFrom 1 = .ok (.getfield 22, 3) := by decide +kernel
theorem dX0_growFrom_4 : decode cX0_growFrom 4 = .ok (.iload_n 1, 1) := by decide +kernel
theorem dX0_growFrom_5 : decode cX0_growFrom 5 = .ok (.aaload, 1) := by decide +kernel
theorem dX0_growFrom_6 : decode cX0_growFrom 6 = .ok (.astore_n 3, 1) := by decide +kernel
theorem dX0_growFrom_7 : decode cX0_growFrom 7 = .ok (.aload_n 0, 1) := by decide +kernel
theorem dX0_growFrom_8 : decode cX0_growFrom 8 = .ok (.getfield 25, 3) := by decide +kernel
theorem dX0_growFrom_11 : decode cX0_growFrom 11 = .ok (.iload_n 1, 1) := by decide +kernel
theorem dX0_growFrom_12 : decode cX0_growFrom 12 = .ok (.aaload, 1) := by decide +kernel
theorem dX0_growFrom_13 : decode cX0_growFrom 13 = .ok (.astore 4, 2) := by decide +kernel
theorem dX0_growFrom_15 : decode cX0_growFrom 15 = .ok (.iload_n 2, 1) := by decide +kernel
theorem dX0_growFrom_16 : decode cX0_growFrom 16 = .ok (.istore 5, 2) := by decide +kernel
theorem dX0_growFrom_18 : decode cX0_growFrom 18 = .ok (.iload 5, 2) := by decide +kernel
theorem dX0_growFrom_20 : decode cX0_growFrom 20 = .ok (.bipush 30, 2) := by decide +kernel
theorem dX0_growFrom_22 : decode cX0_growFrom 22 = .ok (.if_icmp .ge 31, 3) := by decide +kernel
theorem dX0_growFrom_25 : decode cX0_growFrom 25 = .ok (.aload 4, 2) := by decide +kernel
theorem dX0_growFrom_27 : decode cX0_growFrom 27 = .ok (.iload 5, 2) := by decide +kernel
theorem dX0_growFrom_29 : decode cX0_growFrom 29 = .ok (.iconst 1, 1) := by decide +kernel
theorem dX0_growFrom_30 : decode cX0_growFrom 30 = .ok (.iadd, 1) := by decide +kernel
theorem dX0_growFrom_31 : decode cX0_growFrom 31 = .ok (.aload_n 0, 1) := by decide +kernel
theorem dX0_growFrom_32 : decode cX0_growFrom 32 = .ok (.aload 4, 2) := by decide +kernel
theorem dX0_growFrom_34 : decode cX0_growFrom 34 = .ok (.iload 5, 2) := by decide +kernel
theorem dX0_growFrom_36 : decode cX0_growFrom 36 = .ok (.iaload, 1) := by decide +kernel
theorem dX0_growFrom_37 : decode cX0_growFrom 37 = .ok (.iload 5, 2) := by decide +kernel
theorem dX0_growFrom_39 : decode cX0_growFrom 39 = .ok (.aload_n 3, 1) := by decide +kernel
theorem dX0_growFrom_40 : decode cX0_growFrom 40 = .ok (.iload 5, 2) := by decide +kernel
theorem dX0_growFrom_42 : decode cX0_growFrom 42 = .ok (.iaload, 1) := by decide +kernel
theorem dX0_growFrom_43 : decode cX0_growFrom 43 = .ok (.invokevirtual 45, 3) := by decide +kernel
theorem dX0_growFrom_46 : decode cX0_growFrom 46 = .ok (.iastore, 1) := by decide +kernel
theorem dX0_growFrom_47 : decode cX0_growFrom 47 = .ok (.iinc 5 1, 3) := by decide +kernel
theorem dX0_growFrom_50 : decode cX0_growFrom 50 = .ok (.goto (-32), 3) := by decide +kernel
theorem dX0_growFrom_53 : decode cX0_growFrom 53 = .ok (.return_, 1) := by decide +kernel
theorem dX0_dayOver_0 : decode cX0_dayOver 0 = .ok (.iconst 0, 1) := by decide +kernel
theorem dX0_dayOver_1 : decode cX0_dayOver 1 = .ok (.sipush 240, 3) := by decide +kernel
theorem dX0_dayOver_4 : decode cX0_dayOver 4 = .ok (.iload_n 1, 1) := by decide +kernel
theorem dX0_dayOver_5 : decode cX0_dayOver 5 = .ok (.aload_n 0, 1) := by decide +kernel
theorem dX0_dayOver_6 : decode cX0_dayOver 6 = .ok (.getfield 14, 3) := by decide +kernel
theorem dX0_dayOver_9 : decode cX0_dayOver 9 = .ok (.iload_n 3, 1) := by decide +kernel
theorem dX0_dayOver_10 : decode cX0_dayOver 10 = .ok (.invokevirtual 49, 3) := by decide +kernel
theorem dX0_dayOver_13 : decode cX0_dayOver 13 = .ok (.iadd, 1) := by decide +kernel
theorem dX0_dayOver_14 : decode cX0_dayOver 14 = .ok (.invokestatic 53, 3) := by decide +kernel
theorem dX0_dayOver_17 : decode cX0_dayOver 17 = .ok (.invokestatic 59, 3) := by decide +kernel
theorem dX0_dayOver_20 : decode cX0_dayOver 20 = .ok (.istore 4, 2) := by decide +kernel
theorem dX0_dayOver_22 : decode cX0_dayOver 22 = .ok (.aload_n 0, 1) := by decide +kernel
theorem dX0_dayOver_23 : decode cX0_dayOver 23 = .ok (.getfield 28, 3) := by decide +kernel
theorem dX0_dayOver_26 : decode cX0_dayOver 26 = .ok (.iload_n 2, 1) := by decide +kernel
theorem dX0_dayOver_27 : decode cX0_dayOver 27 = .ok (.iaload, 1) := by decide +kernel
theorem dX0_dayOver_28 : decode cX0_dayOver 28 = .ok (.bipush (-9), 2) := by decide +kernel
theorem dX0_dayOver_30 : decode cX0_dayOver 30 = .ok (.if_icmp .ne 8, 3) := by decide +kernel
theorem dX0_dayOver_33 : decode cX0_dayOver 33 = .ok (.iload 4, 2) := by decide +kernel
theorem dX0_dayOver_35 : decode cX0_dayOver 35 = .ok (.goto 17, 3) := by decide +kernel
theorem dX0_dayOver_38 : decode cX0_dayOver 38 = .ok (.iload 4, 2) := by decide +kernel
theorem dX0_dayOver_40 : decode cX0_dayOver 40 = .ok (.bipush 12, 2) := by decide +kernel
theorem dX0_dayOver_42 : decode cX0_dayOver 42 = .ok (.aload_n 0, 1) := by decide +kernel
theorem dX0_dayOver_43 : decode cX0_dayOver 43 = .ok (.getfield 28, 3) := by decide +kernel
theorem dX0_dayOver_46 : decode cX0_dayOver 46 = .ok (.iload_n 2, 1) := by decide +kernel
theorem dX0_dayOver_47 : decode cX0_dayOver 47 = .ok (.iaload, 1) := by decide +kernel
theorem dX0_dayOver_48 : decode cX0_dayOver 48 = .ok (.imul, 1) := by decide +kernel
theorem dX0_dayOver_49 : decode cX0_dayOver 49 = .ok (.invokestatic 53, 3) := by decide +kernel
theorem dX0_dayOver_52 : decode cX0_dayOver 52 = .ok (.ireturn, 1) := by decide +kernel
theorem dX0_inchesIf_0 : decode cX0_inchesIf 0 = .ok (.iload_n 2, 1) := by decide +kernel
theorem dX0_inchesIf_1 : decode cX0_inchesIf 1 = .ok (.iload_n 3, 1) := by decide +kernel
theorem dX0_inchesIf_2 : decode cX0_inchesIf 2 = .ok (.if_icmp .gt 12, 3) := by decide +kernel
theorem dX0_inchesIf_5 : decode cX0_inchesIf 5 = .ok (.aload_n 0, 1) := by decide +kernel
theorem dX0_inchesIf_6 : decode cX0_inchesIf 6 = .ok (.getfield 25, 3) := by decide +kernel
theorem dX0_inchesIf_9 : decode cX0_inchesIf 9 = .ok (.iload_n 1, 1) := by decide +kernel
theorem dX0_inchesIf_10 : decode cX0_inchesIf 10 = .ok (.aaload, 1) := by decide +kernel
theorem dX0_inchesIf_11 : decode cX0_inchesIf 11 = .ok (.iload_n 2, 1) := by decide +kernel
theorem dX0_inchesIf_12 : decode cX0_inchesIf 12 = .ok (.iaload, 1) := by decide +kernel
theorem dX0_inchesIf_13 : decode cX0_inchesIf 13 = .ok (.ireturn, 1) := by decide +kernel
theorem dX0_inchesIf_14 : decode cX0_inchesIf 14 = .ok (.aload_n 0, 1) := by decide +kernel
theorem dX0_inchesIf_15 : decode cX0_inchesIf 15 = .ok (.aload_n 0, 1) := by decide +kernel
theorem dX0_inchesIf_16 : decode cX0_inchesIf 16 = .ok (.getfield 25, 3) := by decide +kernel
theorem dX0_inchesIf_19 : decode cX0_inchesIf 19 = .ok (.iload_n 1, 1) := by decide +kernel
theorem dX0_inchesIf_20 : decode cX0_inchesIf 20 = .ok (.aaload, 1) := by decide +kernel
theorem dX0_inchesIf_21 : decode cX0_inchesIf 21 = .ok (.iload_n 3, 1) := by decide +kernel
theorem dX0_inchesIf_22 : decode cX0_inchesIf 22 = .ok (.iaload, 1) := by decide +kernel
theorem dX0_inchesIf_23 : decode cX0_inchesIf 23 = .ok (.iload_n 3, 1) := by decide +kernel
theorem dX0_inchesIf_24 : decode cX0_inchesIf 24 = .ok (.iload 4, 2) := by decide +kernel
theorem dX0_inchesIf_26 : decode cX0_inchesIf 26 = .ok (.invokevirtual 45, 3) := by decide +kernel
theorem dX0_inchesIf_29 : decode cX0_inchesIf 29 = .ok (.istore 5, 2) := by decide +kernel
theorem dX0_inchesIf_31 : decode cX0_inchesIf 31 = .ok (.iload_n 3, 1) := by decide +kernel
theorem dX0_inchesIf_32 : decode cX0_inchesIf 32 = .ok (.iconst 1, 1) := by decide +kernel
theorem dX0_inchesIf_33 : decode cX0_inchesIf 33 = .ok (.iadd, 1) := by decide +kernel
theorem dX0_inchesIf_34 : decode cX0_inchesIf 34 = .ok (.istore 6, 2) := by decide +kernel
theorem dX0_inchesIf_36 : decode cX0_inchesIf 36 = .ok (.iload 6, 2) := by decide +kernel
theorem dX0_inchesIf_38 : decode cX0_inchesIf 38 = .ok (.iload_n 2, 1) := by decide +kernel
theorem dX0_inchesIf_39 : decode cX0_inchesIf 39 = .ok (.if_icmp .ge 28, 3) := by decide +kernel
theorem dX0_inchesIf_42 : decode cX0_inchesIf 42 = .ok (.aload_n 0, 1) := by decide +kernel
theorem dX0_inchesIf_43 : decode cX0_inchesIf 43 = .ok (.iload 5, 2) := by decide +kernel
theorem dX0_inchesIf_45 : decode cX0_inchesIf 45 = .ok (.iload 6, 2) := by decide +kernel
theorem dX0_inchesIf_47 : decode cX0_inchesIf 47 = .ok (.aload_n 0, 1) := by decide +kernel
theorem dX0_inchesIf_48 : decode cX0_inchesIf 48 = .ok (.getfield 22, 3) := by decide +kernel
theorem dX0_inchesIf_51 : decode cX0_inchesIf 51 = .ok (.iload_n 1, 1) := by decide +kernel
theorem dX0_inchesIf_52 : decode cX0_inchesIf 52 = .ok (.aaload, 1) := by decide +kernel
theorem dX0_inchesIf_53 : decode cX0_inchesIf 53 = .ok (.iload 6, 2) := by decide +kernel
theorem dX0_inchesIf_55 : decode cX0_inchesIf 55 = .ok (.iaload, 1) := by decide +kernel
theorem dX0_inchesIf_56 : decode cX0_inchesIf 56 = .ok (.invokevirtual 45, 3) := by decide +kernel
theorem dX0_inchesIf_59 : decode cX0_inchesIf 59 = .ok (.istore 5, 2) := by decide +kernel
theorem dX0_inchesIf_61 : decode cX0_inchesIf 61 = .ok (.iinc 6 1, 3) := by decide +kernel
theorem dX0_inchesIf_64 : decode cX0_inchesIf 64 = .ok (.goto (-28), 3) := by decide +kernel
theorem dX0_inchesIf_67 : decode cX0_inchesIf 67 = .ok (.iload 5, 2) := by decide +kernel
theorem dX0_inchesIf_69 : decode cX0_inchesIf 69 = .ok (.ireturn, 1) := by decide +kernel
theorem dX0_heightAt_0 : decode cX0_heightAt 0 = .ok (.aload_n 0, 1) := by decide +kernel
theorem dX0_heightAt_1 : decode cX0_heightAt 1 = .ok (.getfield 25, 3) := by decide +kernel
theorem dX0_heightAt_4 : decode cX0_heightAt 4 = .ok (.iconst 0, 1) := by decide +kernel
theorem dX0_heightAt_5 : decode cX0_heightAt 5 = .ok (.aaload, 1) := by decide +kernel
theorem dX0_heightAt_6 : decode cX0_heightAt 6 = .ok (.iload_n 1, 1) := by decide +kernel
theorem dX0_heightAt_7 : decode cX0_heightAt 7 = .ok (.iaload, 1) := by decide +kernel
theorem dX0_heightAt_8 : decode cX0_heightAt 8 = .ok (.istore_n 2, 1) := by decide +kernel
theorem dX0_heightAt_9 : decode cX0_heightAt 9 = .ok (.aload_n 0, 1) := by decide +kernel
theorem dX0_heightAt_10 : decode cX0_heightAt 10 = .ok (.getfield 25, 3) := by decide +kernel
theorem dX0_heightAt_13 : decode cX0_heightAt 13 = .ok (.iconst 1, 1) := by decide +kernel
theorem dX0_heightAt_14 : decode cX0_heightAt 14 = .ok (.aaload, 1) := by decide +kernel
theorem dX0_heightAt_15 : decode cX0_heightAt 15 = .ok (.iload_n 1, 1) := by decide +kernel
theorem dX0_heightAt_16 : decode cX0_heightAt 16 = .ok (.iaload, 1) := by decide +kernel
theorem dX0_heightAt_17 : decode cX0_heightAt 17 = .ok (.istore_n 3, 1) := by decide +kernel
theorem dX0_heightAt_18 : decode cX0_heightAt 18 = .ok (.iload_n 2, 1) := by decide +kernel
theorem dX0_heightAt_19 : decode cX0_heightAt 19 = .ok (.iload_n 3, 1) := by decide +kernel
theorem dX0_heightAt_20 : decode cX0_heightAt 20 = .ok (.if_icmp .ge 7, 3) := by decide +kernel
theorem dX0_heightAt_23 : decode cX0_heightAt 23 = .ok (.iload_n 2, 1) := by decide +kernel
theorem dX0_heightAt_24 : decode cX0_heightAt 24 = .ok (.goto 4, 3) := by decide +kernel
theorem dX0_heightAt_27 : decode cX0_heightAt 27 = .ok (.iload_n 3, 1) := by decide +kernel
theorem dX0_heightAt_28 : decode cX0_heightAt 28 = .ok (.ireturn, 1) := by decide +kernel
theorem dX0_heightIf_0 : decode cX0_heightIf 0 = .ok (.aload_n 0, 1) := by decide +kernel
theorem dX0_heightIf_1 : decode cX0_heightIf 1 = .ok (.aload_n 0, 1) := by decide +kernel
theorem dX0_heightIf_2 : decode cX0_heightIf 2 = .ok (.getfield 25, 3) := by decide +kernel
theorem dX0_heightIf_5 : decode cX0_heightIf 5 = .ok (.iload_n 1, 1) := by decide +kernel
theorem dX0_heightIf_6 : decode cX0_heightIf 6 = .ok (.aaload, 1) := by decide +kernel
theorem dX0_heightIf_7 : decode cX0_heightIf 7 = .ok (.iload_n 2, 1) := by decide +kernel
theorem dX0_heightIf_8 : decode cX0_heightIf 8 = .ok (.iaload, 1) := by decide +kernel
theorem dX0_heightIf_9 : decode cX0_heightIf 9 = .ok (.iload_n 2, 1) := by decide +kernel
theorem dX0_heightIf_10 : decode cX0_heightIf 10 = .ok (.iload_n 3, 1) := by decide +kernel
theorem dX0_heightIf_11 : decode cX0_heightIf 11 = .ok (.invokevirtual 45, 3) := by decide +kernel
theorem dX0_heightIf_14 : decode cX0_heightIf 14 = .ok (.aload_n 0, 1) := by decide +kernel
theorem dX0_heightIf_15 : decode cX0_heightIf 15 = .ok (.getfield 25, 3) := by decide +kernel
theorem dX0_heightIf_18 : decode cX0_heightIf 18 = .ok (.iload_n 1, 1) := by decide +kernel
theorem dX0_heightIf_19 : decode cX0_heightIf 19 = .ok (.invokestatic 62, 3) := by decide +kernel
theorem dX0_heightIf_22 : decode cX0_heightIf 22 = .ok (.aaload, 1) := by decide +kernel
theorem dX0_heightIf_23 : decode cX0_heightIf 23 = .ok (.iload_n 2, 1) := by decide +kernel
theorem dX0_heightIf_24 : decode cX0_heightIf 24 = .ok (.iconst 1, 1) := by decide +kernel
theorem dX0_heightIf_25 : decode cX0_heightIf 25 = .ok (.iadd, 1) := by decide +kernel
theorem dX0_heightIf_26 : decode cX0_heightIf 26 = .ok (.iaload, 1) := by decide +kernel
theorem dX0_heightIf_27 : decode cX0_heightIf 27 = .ok (.invokestatic 53, 3) := by decide +kernel
theorem dX0_heightIf_30 : decode cX0_heightIf 30 = .ok (.ireturn, 1) := by decide +kernel
theorem dX0_leanAt_0 : decode cX0_leanAt 0 = .ok (.aload_n 0, 1) := by decide +kernel
theorem dX0_leanAt_1 : decode cX0_leanAt 1 = .ok (.getfield 25, 3) := by decide +kernel
theorem dX0_leanAt_4 : decode cX0_leanAt 4 = .ok (.iconst 0, 1) := by decide +kernel
theorem dX0_leanAt_5 : decode cX0_leanAt 5 = .ok (.aaload, 1) := by decide +kernel
theorem dX0_leanAt_6 : decode cX0_leanAt 6 = .ok (.iload_n 1, 1) := by decide +kernel
theorem dX0_leanAt_7 : decode cX0_leanAt 7 = .ok (.iaload, 1) := by decide +kernel
theorem dX0_leanAt_8 : decode cX0_leanAt 8 = .ok (.aload_n 0, 1) := by decide +kernel
theorem dX0_leanAt_9 : decode cX0_leanAt 9 = .ok (.getfield 25, 3) := by decide +kernel
theorem dX0_leanAt_12 : decode cX0_leanAt 12 = .ok (.iconst 1, 1) := by decide +kernel
theorem dX0_leanAt_13 : decode cX0_leanAt 13 = .ok (.aaload, 1) := by decide +kernel
theorem dX0_leanAt_14 : decode cX0_leanAt 14 = .ok (.iload_n 1, 1) := by decide +kernel
theorem dX0_leanAt_15 : decode cX0_leanAt 15 = .ok (.iaload, 1) := by decide +kernel
theorem dX0_leanAt_16 : decode cX0_leanAt 16 = .ok (.isub, 1) := by decide +kernel
theorem dX0_leanAt_17 : decode cX0_leanAt 17 = .ok (.ireturn, 1) := by decide +kernel
theorem dX0_scoldedWord_0 : decode cX0_scoldedWord 0 = .ok (.aload_n 0, 1) := by decide +kernel
theorem dX0_scoldedWord_1 : decode cX0_scoldedWord 1 = .ok (.getfield 22, 3) := by decide +kernel
theorem dX0_scoldedWord_4 : decode cX0_scoldedWord 4 = .ok (.iload_n 1, 1) := by decide +kernel
theorem dX0_scoldedWord_5 : decode cX0_scoldedWord 5 = .ok (.aaload, 1) := by decide +kernel
theorem dX0_scoldedWord_6 : decode cX0_scoldedWord 6 = .ok (.iload_n 2, 1) := by decide +kernel
theorem dX0_scoldedWord_7 : decode cX0_scoldedWord 7 = .ok (.iaload, 1) := by decide +kernel
theorem dX0_scoldedWord_8 : decode cX0_scoldedWord 8 = .ok (.istore 4, 2) := by decide +kernel
theorem dX0_scoldedWord_10 : decode cX0_scoldedWord 10 = .ok (.iload 4, 2) := by decide +kernel
theorem dX0_scoldedWord_12 : decode cX0_scoldedWord 12 = .ok (.iconst 3, 1) := by decide +kernel
theorem dX0_scoldedWord_13 : decode cX0_scoldedWord 13 = .ok (.if_icmp .gt 29, 3) := by decide +kernel
theorem dX0_scoldedWord_16 : decode cX0_scoldedWord 16 = .ok (.aload_n 0, 1) := by decide +kernel
theorem dX0_scoldedWord_17 : decode cX0_scoldedWord 17 = .ok (.iload_n 1, 1) := by decide +kernel
theorem dX0_scoldedWord_18 : decode cX0_scoldedWord 18 = .ok (.bipush 30, 2) := by decide +kernel
theorem dX0_scoldedWord_20 : decode cX0_scoldedWord 20 = .ok (.iload_n 2, 1) := by decide +kernel
theorem dX0_scoldedWord_21 : decode cX0_scoldedWord 21 = .ok (.iload 4, 2) := by decide +kernel
theorem dX0_scoldedWord_23 : decode cX0_scoldedWord 23 = .ok (.invokevirtual 65, 3) := by decide +kernel
theorem dX0_scoldedWord_26 : decode cX0_scoldedWord 26 = .ok (.bipush 12, 2) := by decide +kernel
theorem dX0_scoldedWord_28 : decode cX0_scoldedWord 28 = .ok (.iload_n 3, 1) := by decide +kernel
theorem dX0_scoldedWord_29 : decode cX0_scoldedWord 29 = .ok (.imul, 1) := by decide +kernel
theorem dX0_scoldedWord_30 : decode cX0_scoldedWord 30 = .ok (.if_icmp .lt 6, 3) := by decide +kernel
theorem dX0_scoldedWord_33 : decode cX0_scoldedWord 33 = .ok (.iload 4, 2) := by decide +kernel
theorem dX0_scoldedWord_35 : decode cX0_scoldedWord 35 = .ok (.ireturn, 1) := by decide +kernel
theorem dX0_scoldedWord_36 : decode cX0_scoldedWord 36 = .ok (.iinc 4 1, 3) := by decide +kernel
theorem dX0_scoldedWord_39 : decode cX0_scoldedWord 39 = .ok (.goto (-29), 3) := by decide +kernel
theorem dX0_scoldedWord_42 : decode cX0_scoldedWord 42 = .ok (.bipush (-9), 2) := by decide +kernel
theorem dX0_scoldedWord_44 : decode cX0_scoldedWord 44 = .ok (.ireturn, 1) := by decide +kernel
theorem dX0_clippingMinutes_0 : decode cX0_clippingMinutes 0 = .ok (.aload_n 0, 1) := by decide +kernel
theorem dX0_clippingMinutes_1 : decode cX0_clippingMinutes 1 = .ok (.iconst 0, 1) := by decide +kernel
theorem dX0_clippingMinutes_2 : decode cX0_clippingMinutes 2 = .ok (.iload_n 1, 1) := by decide +kernel
theorem dX0_clippingMinutes_3 : decode cX0_clippingMinutes 3 = .ok (.iload_n 2, 1) := by decide +kernel
theorem dX0_clippingMinutes_4 : decode cX0_clippingMinutes 4 = .ok (.invokevirtual 69, 3) := by decide +kernel
theorem dX0_clippingMinutes_7 : decode cX0_clippingMinutes 7 = .ok (.aload_n 0, 1) := by decide +kernel
theorem dX0_clippingMinutes_8 : decode cX0_clippingMinutes 8 = .ok (.iconst 1, 1) := by decide +kernel
theorem dX0_clippingMinutes_9 : decode cX0_clippingMinutes 9 = .ok (.iload_n 1, 1) := by decide +kernel
theorem dX0_clippingMinutes_10 : decode cX0_clippingMinutes 10 = .ok (.iload_n 2, 1) := by decide +kernel
theorem dX0_clippingMinutes_11 : decode cX0_clippingMinutes 11 = .ok (.invokevirtual 69, 3) := by decide +kernel
theorem dX0_clippingMinutes_14 : decode cX0_clippingMinutes 14 = .ok (.iadd, 1) := by decide +kernel
theorem dX0_clippingMinutes_15 : decode cX0_clippingMinutes 15 = .ok (.istore_n 3, 1) := by decide +kernel
theorem dX0_clippingMinutes_16 : decode cX0_clippingMinutes 16 = .ok (.iload_n 3, 1) := by decide +kernel
theorem dX0_clippingMinutes_17 : decode cX0_clippingMinutes 17 = .ok (.bipush 12, 2) := by decide +kernel
theorem dX0_clippingMinutes_19 : decode cX0_clippingMinutes 19 = .ok (.iadd, 1) := by decide +kernel
theorem dX0_clippingMinutes_20 : decode cX0_clippingMinutes 20 = .ok (.iconst 1, 1) := by decide +kernel
theorem dX0_clippingMinutes_21 : decode cX0_clippingMinutes 21 = .ok (.isub, 1) := by decide +kernel
theorem dX0_clippingMinutes_22 : decode cX0_clippingMinutes 22 = .ok (.bipush 12, 2) := by decide +kernel
theorem dX0_clippingMinutes_24 : decode cX0_clippingMinutes 24 = .ok (.idiv, 1) := by decide +kernel
theorem dX0_clippingMinutes_25 : decode cX0_clippingMinutes 25 = .ok (.ireturn, 1) := by decide +kernel
theorem dX0_inchesAbove_0 : decode cX0_inchesAbove 0 = .ok (.iconst 0, 1) := by decide +kernel
theorem dX0_inchesAbove_1 : decode cX0_inchesAbove 1 = .ok (.aload_n 0, 1) := by decide +kernel
theorem dX0_inchesAbove_2 : decode cX0_inchesAbove 2 = .ok (.getfield 25, 3) := by decide +kernel
theorem dX0_inchesAbove_5 : decode cX0_inchesAbove 5 = .ok (.iload_n 1, 1) := by decide +kernel
theorem dX0_inchesAbove_6 : decode cX0_inchesAbove 6 = .ok (.aaload, 1) := by decide +kernel
theorem dX0_inchesAbove_7 : decode cX0_inchesAbove 7 = .ok (.iload_n 2, 1) := by decide +kernel
theorem dX0_inchesAbove_8 : decode cX0_inchesAbove 8 = .ok (.iaload, 1) := by decide +kernel
theorem dX0_inchesAbove_9 : decode cX0_inchesAbove 9 = .ok (.bipush 12, 2) := by decide +kernel
theorem dX0_inchesAbove_11 : decode cX0_inchesAbove 11 = .ok (.iload_n 3, 1) := by decide +kernel
theorem dX0_inchesAbove_12 : decode cX0_inchesAbove 12 = .ok (.imul, 1) := by decide +kernel
theorem dX0_inchesAbove_13 : decode cX0_inchesAbove 13 = .ok (.isub, 1) := by decide +kernel
theorem dX0_inchesAbove_14 : decode cX0_inchesAbove 14 = .ok (.invokestatic 59, 3) := by decide +kernel
theorem dX0_inchesAbove_17 : decode cX0_inchesAbove 17 = .ok (.ireturn, 1) := by decide +kernel
theorem dX0_finesBy_0 : decode cX0_finesBy 0 = .ok (.iconst 0, 1) := by decide +kernel
theorem dX0_finesBy_1 : decode cX0_finesBy 1 = .ok (.istore_n 3, 1) := by decide +kernel
theorem dX0_finesBy_2 : decode cX0_finesBy 2 = .ok (.iconst 1, 1) := by decide +kernel
theorem dX0_finesBy_3 : decode cX0_finesBy 3 = .ok (.istore 4, 2) := by decide +kernel
theorem dX0_finesBy_5 : decode cX0_finesBy 5 = .ok (.iload 4, 2) := by decide +kernel
theorem dX0_finesBy_7 : decode cX0_finesBy 7 = .ok (.bipush 30, 2) := by decide +kernel
theorem dX0_finesBy_9 : decode cX0_finesBy 9 = .ok (.if_icmp .gt 60, 3) := by decide +kernel
theorem dX0_finesBy_12 : decode cX0_finesBy 12 = .ok (.aload_n 0, 1) := by decide +kernel
theorem dX0_finesBy_13 : decode cX0_finesBy 13 = .ok (.iload 4, 2) := by decide +kernel
theorem dX0_finesBy_15 : decode cX0_finesBy 15 = .ok (.invokevirtual 72, 3) := by decide +kernel
theorem dX0_finesBy_18 : decode cX0_finesBy 18 = .ok (.istore 5, 2) := by decide +kernel
theorem dX0_finesBy_20 : decode cX0_finesBy 20 = .ok (.iload 5, 2) := by decide +kernel
theorem dX0_finesBy_22 : decode cX0_finesBy 22 = .ok (.bipush 12, 2) := by decide +kernel
theorem dX0_finesBy_24 : decode cX0_finesBy 24 = .ok (.iload_n 2, 1) := by decide +kernel
theorem dX0_finesBy_25 : decode cX0_finesBy 25 = .ok (.imul, 1) := by decide +kernel
theorem dX0_finesBy_26 : decode cX0_finesBy 26 = .ok (.if_icmp .gt 6, 3) := by decide +kernel
theorem dX0_finesBy_29 : decode cX0_finesBy 29 = .ok (.goto 34, 3) := by decide +kernel
theorem dX0_finesBy_32 : decode cX0_finesBy 32 = .ok (.iload 5, 2) := by decide +kernel
theorem dX0_finesBy_34 : decode cX0_finesBy 34 = .ok (.bipush 12, 2) := by decide +kernel
theorem dX0_finesBy_36 : decode cX0_finesBy 36 = .ok (.idiv, 1) := by decide +kernel
theorem dX0_finesBy_37 : decode cX0_finesBy 37 = .ok (.istore 6, 2) := by decide +kernel
theorem dX0_finesBy_39 : decode cX0_finesBy 39 = .ok (.iload_n 3, 1) := by decide +kernel
theorem dX0_finesBy_40 : decode cX0_finesBy 40 = .ok (.iload 6, 2) := by decide +kernel
theorem dX0_finesBy_42 : decode cX0_finesBy 42 = .ok (.iconst 2, 1) := by decide +kernel
theorem dX0_finesBy_43 : decode cX0_finesBy 43 = .ok (.idiv, 1) := by decide +kernel
theorem dX0_finesBy_44 : decode cX0_finesBy 44 = .ok (.iadd, 1) := by decide +kernel
theorem dX0_finesBy_45 : decode cX0_finesBy 45 = .ok (.istore_n 3, 1) := by decide +kernel
theorem dX0_finesBy_46 : decode cX0_finesBy 46 = .ok (.aload_n 0, 1) := by decide +kernel
theorem dX0_finesBy_47 : decode cX0_finesBy 47 = .ok (.iload 4, 2) := by decide +kernel
theorem dX0_finesBy_49 : decode cX0_finesBy 49 = .ok (.invokevirtual 75, 3) := by decide +kernel
theorem dX0_finesBy_52 : decode cX0_finesBy 52 = .ok (.iload_n 1, 1) := by decide +kernel
theorem dX0_finesBy_53 : decode cX0_finesBy 53 = .ok (.if_icmp .ne 10, 3) := by decide +kernel
theorem dX0_finesBy_56 : decode cX0_finesBy 56 = .ok (.iload_n 3, 1) := by decide +kernel
theorem dX0_finesBy_57 : decode cX0_finesBy 57 = .ok (.iload 6, 2) := by decide +kernel
theorem dX0_finesBy_59 : decode cX0_finesBy 59 = .ok (.iconst 2, 1) := by decide +kernel
theorem dX0_finesBy_60 : decode cX0_finesBy 60 = .ok (.irem, 1) := by decide +kernel
theorem dX0_finesBy_61 : decode cX0_finesBy 61 = .ok (.iadd, 1) := by decide +kernel
theorem dX0_finesBy_62 : decode cX0_finesBy 62 = .ok (.istore_n 3, 1) := by decide +kernel
theorem dX0_finesBy_63 : decode cX0_finesBy 63 = .ok (.iinc 4 1, 3) := by decide +kernel
theorem dX0_finesBy_66 : decode cX0_finesBy 66 = .ok (.goto (-61), 3) := by decide +kernel
theorem dX0_finesBy_69 : decode cX0_finesBy 69 = .ok (.iload_n 3, 1) := by decide +kernel
theorem dX0_finesBy_70 : decode cX0_finesBy 70 = .ok (.ireturn, 1) := by decide +kernel
theorem dX0_oddCoinSide_0 : decode cX0_oddCoinSide 0 = .ok (.aload_n 0, 1) := by decide +kernel
theorem dX0_oddCoinSide_1 : decode cX0_oddCoinSide 1 = .ok (.iload_n 1, 1) := by decide +kernel
theorem dX0_oddCoinSide_2 : decode cX0_oddCoinSide 2 = .ok (.invokevirtual 78, 3) := by decide +kernel
theorem dX0_oddCoinSide_5 : decode cX0_oddCoinSide 5 = .ok (.ifCond .lt 7, 3) := by decide +kernel
theorem dX0_oddCoinSide_8 : decode cX0_oddCoinSide 8 = .ok (.iconst 0, 1) := by decide +kernel
theorem dX0_oddCoinSide_9 : decode cX0_oddCoinSide 9 = .ok (.goto 4, 3) := by decide +kernel
theorem dX0_oddCoinSide_12 : decode cX0_oddCoinSide 12 = .ok (.iconst 1, 1) := by decide +kernel
theorem dX0_oddCoinSide_13 : decode cX0_oddCoinSide 13 = .ok (.ireturn, 1) := by decide +kernel
theorem dX1_init_0 : decode cX1_init 0 = .ok (.aload_n 0, 1) := by decide +kernel
theorem dX1_init_1 : decode cX1_init 1 = .ok (.iload_n 1, 1) := by decide +kernel
theorem dX1_init_2 : decode cX1_init 2 = .ok (.iload_n 2, 1) := by decide +kernel
theorem dX1_init_3 : decode cX1_init 3 = .ok (.invokespecial 1, 3) := by decide +kernel
theorem dX1_init_6 : decode cX1_init 6 = .ok (.return_, 1) := by decide +kernel
theorem dX1_kind_0 : decode cX1_kind 0 = .ok (.iconst 2, 1) := by decide +kernel
theorem dX1_kind_1 : decode cX1_kind 1 = .ok (.ireturn, 1) := by decide +kernel
theorem dX1_growth_0 : decode cX1_growth 0 = .ok (.iload_n 1, 1) := by decide +kernel
theorem dX1_growth_1 : decode cX1_growth 1 = .ok (.ifCond .le 9, 3) := by decide +kernel
theorem dX1_growth_4 : decode cX1_growth 4 = .ok (.aload_n 0, 1) := by decide +kernel
theorem dX1_growth_5 : decode cX1_growth 5 = .ok (.iload_n 1, 1) := by decide +kernel
theorem dX1_growth_6 : decode cX1_growth 6 = .ok (.invokespecial 7, 3) := by decide +kernel
theorem dX1_growth_9 : decode cX1_growth 9 = .ok (.ireturn, 1) := by decide +kernel
theorem dX1_growth_10 : decode cX1_growth 10 = .ok (.iload_n 1, 1) := by decide +kernel
theorem dX1_growth_11 : decode cX1_growth 11 = .ok (.ifCond .ne 8, 3) := by decide +kernel
theorem dX1_growth_14 : decode cX1_growth 14 = .ok (.bipush (-6), 2) := by decide +kernel
theorem dX1_growth_16 : decode cX1_growth 16 = .ok (.goto 4, 3) := by decide +kernel
theorem dX1_growth_19 : decode cX1_growth 19 = .ok (.iconst 0, 1) := by decide +kernel
theorem dX1_growth_20 : decode cX1_growth 20 = .ok (.ireturn, 1) := by decide +kernel
theorem dX1_telling_0 : decode cX1_telling 0 = .ok (.aload_n 1, 1) := by decide +kernel
theorem dX1_telling_1 : decode cX1_telling 1 = .ok (.iconst 3, 1) := by decide +kernel
theorem dX1_telling_2 : decode cX1_telling 2 = .ok (.invokevirtual 11, 3) := by decide +kernel
theorem dX1_telling_5 : decode cX1_telling 5 = .ok (.aload_n 0, 1) := by decide +kernel
theorem dX1_telling_6 : decode cX1_telling 6 = .ok (.aload_n 1, 1) := by decide +kernel
theorem dX1_telling_7 : decode cX1_telling 7 = .ok (.invokespecial 17, 3) := by decide +kernel
theorem dX1_telling_10 : decode cX1_telling 10 = .ok (.istore_n 2, 1) := by decide +kernel
theorem dX1_telling_11 : decode cX1_telling 11 = .ok (.iload_n 2, 1) := by decide +kernel
theorem dX1_telling_12 : decode cX1_telling 12 = .ok (.aload_n 0, 1) := by decide +kernel
theorem dX1_telling_13 : decode cX1_telling 13 = .ok (.aload_n 1, 1) := by decide +kernel
theorem dX1_telling_14 : decode cX1_telling 14 = .ok (.invokevirtual 21, 3) := by decide +kernel
theorem dX1_telling_17 : decode cX1_telling 17 = .ok (.iadd, 1) := by decide +kernel
theorem dX1_telling_18 : decode cX1_telling 18 = .ok (.ireturn, 1) := by decide +kernel
theorem dX1_leaning_0 : decode cX1_leaning 0 = .ok (.aload_n 1, 1) := by decide +kernel
theorem dX1_leaning_1 : decode cX1_leaning 1 = .ok (.iconst 5, 1) := by decide +kernel
theorem dX1_leaning_2 : decode cX1_leaning 2 = .ok (.invokevirtual 11, 3) := by decide +kernel
theorem dX1_leaning_5 : decode cX1_leaning 5 = .ok (.bipush 20, 2) := by decide +kernel
theorem dX1_leaning_7 : decode cX1_leaning 7 = .ok (.ireturn, 1) := by decide +kernel
theorem dX2_init_0 : decode cX2_init 0 = .ok (.aload_n 0, 1) := by decide +kernel
theorem dX2_init_1 : decode cX2_init 1 = .ok (.invokespecial 3, 3) := by decide +kernel
theorem dX2_init_4 : decode cX2_init 4 = .ok (.aload_n 0, 1) := by decide +kernel
theorem dX2_init_5 : decode cX2_init 5 = .ok (.iload_n 1, 1) := by decide +kernel
theorem dX2_init_6 : decode cX2_init 6 = .ok (.putfield 9, 3) := by decide +kernel
theorem dX2_init_9 : decode cX2_init 9 = .ok (.aload_n 0, 1) := by decide +kernel
theorem dX2_init_10 : decode cX2_init 10 = .ok (.iload_n 2, 1) := by decide +kernel
theorem dX2_init_11 : decode cX2_init 11 = .ok (.putfield 15, 3) := by decide +kernel
theorem dX2_init_14 : decode cX2_init 14 = .ok (.return_, 1) := by decide +kernel
theorem dX2_kind_0 : decode cX2_kind 0 = .ok (.iconst 0, 1) := by decide +kernel
theorem dX2_kind_1 : decode cX2_kind 1 = .ok (.ireturn, 1) := by decide +kernel
theorem dX2_growth_0 : decode cX2_growth 0 = .ok (.iload_n 1, 1) := by decide +kernel
theorem dX2_growth_1 : decode cX2_growth 1 = .ok (.ifCond .le 10, 3) := by decide +kernel
theorem dX2_growth_4 : decode cX2_growth 4 = .ok (.bipush 12, 2) := by decide +kernel
theorem dX2_growth_6 : decode cX2_growth 6 = .ok (.iload_n 1, 1) := by decide +kernel
theorem dX2_growth_7 : decode cX2_growth 7 = .ok (.imul, 1) := by decide +kernel
theorem dX2_growth_8 : decode cX2_growth 8 = .ok (.goto 6, 3) := by decide +kernel
theorem dX2_growth_11 : decode cX2_growth 11 = .ok (.iconst 3, 1) := by decide +kernel
theorem dX2_growth_12 : decode cX2_growth 12 = .ok (.iload_n 1, 1) := by decide +kernel
theorem dX2_growth_13 : decode cX2_growth 13 = .ok (.imul, 1) := by decide +kernel
theorem dX2_growth_14 : decode cX2_growth 14 = .ok (.ireturn, 1) := by decide +kernel
theorem dX2_telling_0 : decode cX2_telling 0 = .ok (.aload_n 0, 1) := by decide +kernel
theorem dX2_telling_1 : decode cX2_telling 1 = .ok (.aload_n 1, 1) := by decide +kernel
theorem dX2_telling_2 : decode cX2_telling 2 = .ok (.invokevirtual 18, 3) := by decide +kernel
theorem dX2_telling_5 : decode cX2_telling 5 = .ok (.ireturn, 1) := by decide +kernel
theorem dX2_plainTelling_0 : decode cX2_plainTelling 0 = .ok (.aload_n 1, 1) := by decide +kernel
theorem dX2_plainTelling_1 : decode cX2_plainTelling 1 = .ok (.iconst 1, 1) := by decide +kernel
theorem dX2_plainTelling_2 : decode cX2_plainTelling 2 = .ok (.invokevirtual 22, 3) := by decide +kernel
theorem dX2_plainTelling_5 : decode cX2_plainTelling 5 = .ok (.aload_n 0, 1) := by decide +kernel
theorem dX2_plainTelling_6 : decode cX2_plainTelling 6 = .ok (.getfield 15, 3) := by decide +kernel
theorem dX2_plainTelling_9 : decode cX2_plainTelling 9 = .ok (.ireturn, 1) := by decide +kernel
theorem dX2_leaning_0 : decode cX2_leaning 0 = .ok (.aload_n 1, 1) := by decide +kernel
theorem dX2_leaning_1 : decode cX2_leaning 1 = .ok (.iconst 4, 1) := by decide +kernel
theorem dX2_leaning_2 : decode cX2_leaning 2 = .ok (.invokevirtual 22, 3) := by decide +kernel
theorem dX2_leaning_5 : decode cX2_leaning 5 = .ok (.aload_n 0, 1) := by decide +kernel
theorem dX2_leaning_6 : decode cX2_leaning 6 = .ok (.getfield 9, 3) := by decide +kernel
theorem dX2_leaning_9 : decode cX2_leaning 9 = .ok (.ireturn, 1) := by decide +kernel
theorem dX3_init_0 : decode cX3_init 0 = .ok (.aload_n 0, 1) := by decide +kernel
theorem dX3_init_1 : decode cX3_init 1 = .ok (.invokespecial 3, 3) := by decide +kernel
theorem dX3_init_4 : decode cX3_init 4 = .ok (.aload_n 0, 1) := by decide +kernel
theorem dX3_init_5 : decode cX3_init 5 = .ok (.bipush 10, 2) := by decide +kernel
theorem dX3_init_7 : decode cX3_init 7 = .ok (.newarray .int, 2) := by decide +kernel
theorem dX3_init_9 : decode cX3_init 9 = .ok (.putfield 9, 3) := by decide +kernel
theorem dX3_init_12 : decode cX3_init 12 = .ok (.aload_n 0, 1) := by decide +kernel
theorem dX3_init_13 : decode cX3_init 13 = .ok (.bipush 10, 2) := by decide +kernel
theorem dX3_init_15 : decode cX3_init 15 = .ok (.newarray .int, 2) := by decide +kernel
theorem dX3_init_17 : decode cX3_init 17 = .ok (.putfield 15, 3) := by decide +kernel
theorem dX3_init_20 : decode cX3_init 20 = .ok (.aload_n 0, 1) := by decide +kernel
theorem dX3_init_21 : decode cX3_init 21 = .ok (.bipush 10, 2) := by decide +kernel
theorem dX3_init_23 : decode cX3_init 23 = .ok (.newarray .int, 2) := by decide +kernel
theorem dX3_init_25 : decode cX3_init 25 = .ok (.putfield 18, 3) := by decide +kernel
theorem dX3_init_28 : decode cX3_init 28 = .ok (.aload_n 0, 1) := by decide +kernel
theorem dX3_init_29 : decode cX3_init 29 = .ok (.bipush 10, 2) := by decide +kernel
theorem dX3_init_31 : decode cX3_init 31 = .ok (.newarray .int, 2) := by decide +kernel
theorem dX3_init_33 : decode cX3_init 33 = .ok (.putfield 21, 3) := by decide +kernel
theorem dX3_init_36 : decode cX3_init 36 = .ok (.aload_n 0, 1) := by decide +kernel
theorem dX3_init_37 : decode cX3_init 37 = .ok (.iconst 0, 1) := by decide +kernel
theorem dX3_init_38 : decode cX3_init 38 = .ok (.putfield 24, 3) := by decide +kernel
theorem dX3_init_41 : decode cX3_init 41 = .ok (.return_, 1) := by decide +kernel
theorem dX3_clear_0 : decode cX3_clear 0 = .ok (.aload_n 0, 1) := by decide +kernel
theorem dX3_clear_1 : decode cX3_clear 1 = .ok (.iconst 0, 1) := by decide +kernel
theorem dX3_clear_2 : decode cX3_clear 2 = .ok (.putfield 24, 3) := by decide +kernel
theorem dX3_clear_5 : decode cX3_clear 5 = .ok (.return_, 1) := by decide +kernel
theorem dX3_keep_0 : decode cX3_keep 0 = .ok (.aload_n 0, 1) := by decide +kernel
theorem dX3_keep_1 : decode cX3_keep 1 = .ok (.getfield 9, 3) := by decide +kernel
theorem dX3_keep_4 : decode cX3_keep 4 = .ok (.aload_n 0, 1) := by decide +kernel
theorem dX3_keep_5 : decode cX3_keep 5 = .ok (.getfield 24, 3) := by decide +kernel
theorem dX3_keep_8 : decode cX3_keep 8 = .ok (.iload_n 1, 1) := by decide +kernel
theorem dX3_keep_9 : decode cX3_keep 9 = .ok (.iastore, 1) := by decide +kernel
theorem dX3_keep_10 : decode cX3_keep 10 = .ok (.aload_n 0, 1) := by decide +kernel
theorem dX3_keep_11 : decode cX3_keep 11 = .ok (.getfield 15, 3) := by decide +kernel
theorem dX3_keep_14 : decode cX3_keep 14 = .ok (.aload_n 0, 1) := by decide +kernel
theorem dX3_keep_15 : decode cX3_keep 15 = .ok (.getfield 24, 3) := by decide +kernel
theorem dX3_keep_18 : decode cX3_keep 18 = .ok (.iload_n 2, 1) := by decide +kernel
theorem dX3_keep_19 : decode cX3_keep 19 = .ok (.iastore, 1) := by decide +kernel
theorem dX3_keep_20 : decode cX3_keep 20 = .ok (.aload_n 0, 1) := by decide +kernel
theorem dX3_keep_21 : decode cX3_keep 21 = .ok (.getfield 18, 3) := by decide +kernel
theorem dX3_keep_24 : decode cX3_keep 24 = .ok (.aload_n 0, 1) := by decide +kernel
theorem dX3_keep_25 : decode cX3_keep 25 = .ok (.getfield 24, 3) := by decide +kernel
theorem dX3_keep_28 : decode cX3_keep 28 = .ok (.iload_n 3, 1) := by decide +kernel
theorem dX3_keep_29 : decode cX3_keep 29 = .ok (.iastore, 1) := by decide +kernel
theorem dX3_keep_30 : decode cX3_keep 30 = .ok (.aload_n 0, 1) := by decide +kernel
theorem dX3_keep_31 : decode cX3_keep 31 = .ok (.getfield 21, 3) := by decide +kernel
theorem dX3_keep_34 : decode cX3_keep 34 = .ok (.aload_n 0, 1) := by decide +kernel
theorem dX3_keep_35 : decode cX3_keep 35 = .ok (.getfield 24, 3) := by decide +kernel
theorem dX3_keep_38 : decode cX3_keep 38 = .ok (.iload 4, 2) := by decide +kernel
theorem dX3_keep_40 : decode cX3_keep 40 = .ok (.iastore, 1) := by decide +kernel
theorem dX3_keep_41 : decode cX3_keep 41 = .ok (.aload_n 0, 1) := by decide +kernel
theorem dX3_keep_42 : decode cX3_keep 42 = .ok (.dup, 1) := by decide +kernel
theorem dX3_keep_43 : decode cX3_keep 43 = .ok (.getfield 24, 3) := by decide +kernel
theorem dX3_keep_46 : decode cX3_keep 46 = .ok (.iconst 1, 1) := by decide +kernel
theorem dX3_keep_47 : decode cX3_keep 47 = .ok (.iadd, 1) := by decide +kernel
theorem dX3_keep_48 : decode cX3_keep 48 = .ok (.putfield 24, 3) := by decide +kernel
theorem dX3_keep_51 : decode cX3_keep 51 = .ok (.aload_n 0, 1) := by decide +kernel
theorem dX3_keep_52 : decode cX3_keep 52 = .ok (.getfield 24, 3) := by decide +kernel
theorem dX3_keep_55 : decode cX3_keep 55 = .ok (.iconst 1, 1) := by decide +kernel
theorem dX3_keep_56 : decode cX3_keep 56 = .ok (.isub, 1) := by decide +kernel
theorem dX3_keep_57 : decode cX3_keep 57 = .ok (.ireturn, 1) := by decide +kernel
theorem dX3_allSoIf_0 : decode cX3_allSoIf 0 = .ok (.iconst 0, 1) := by decide +kernel
theorem dX3_allSoIf_1 : decode cX3_allSoIf 1 = .ok (.istore 6, 2) := by decide +kernel
theorem dX3_allSoIf_3 : decode cX3_allSoIf 3 = .ok (.iload 6, 2) := by decide +kernel
theorem dX3_allSoIf_5 : decode cX3_allSoIf 5 = .ok (.aload_n 0, 1) := by decide +kernel
theorem dX3_allSoIf_6 : decode cX3_allSoIf 6 = .ok (.getfield 24, 3) := by decide +kernel
theorem dX3_allSoIf_9 : decode cX3_allSoIf 9 = .ok (.if_icmp .ge 114, 3) := by decide +kernel
theorem dX3_allSoIf_12 : decode cX3_allSoIf 12 = .ok (.aload_n 1, 1) := by decide +kernel
theorem dX3_allSoIf_13 : decode cX3_allSoIf 13 = .ok (.getfield 28, 3) := by decide +kernel
theorem dX3_allSoIf_16 : decode cX3_allSoIf 16 = .ok (.aload_n 0, 1) := by decide +kernel
theorem dX3_allSoIf_17 : decode cX3_allSoIf 17 = .ok (.getfield 9, 3) := by decide +kernel
theorem dX3_allSoIf_20 : decode cX3_allSoIf 20 = .ok (.iload 6, 2) := by decide +kernel
theorem dX3_allSoIf_22 : decode cX3_allSoIf 22 = .ok (.iaload, 1) := by decide +kernel
theorem dX3_allSoIf_23 : decode cX3_allSoIf 23 = .ok (.aaload, 1) := by decide +kernel
theorem dX3_allSoIf_24 : decode cX3_allSoIf 24 = .ok (.astore 7, 2) := by decide +kernel
theorem dX3_allSoIf_26 : decode cX3_allSoIf 26 = .ok (.aload_n 0, 1) := by decide +kernel
theorem dX3_allSoIf_27 : decode cX3_allSoIf 27 = .ok (.getfield 9, 3) := by decide +kernel
theorem dX3_allSoIf_30 : decode cX3_allSoIf 30 = .ok (.iload 6, 2) := by decide +kernel
theorem dX3_allSoIf_32 : decode cX3_allSoIf 32 = .ok (.iaload, 1) := by decide +kernel
theorem dX3_allSoIf_33 : decode cX3_allSoIf 33 = .ok (.iload_n 2, 1) := by decide +kernel
theorem dX3_allSoIf_34 : decode cX3_allSoIf 34 = .ok (.if_icmp .ne 18, 3) := by decide +kernel
theorem dX3_allSoIf_37 : decode cX3_allSoIf 37 = .ok (.aload_n 0, 1) := by decide +kernel
theorem dX3_allSoIf_38 : decode cX3_allSoIf 38 = .ok (.getfield 15, 3) := by decide +kernel
theorem dX3_allSoIf_41 : decode cX3_allSoIf 41 = .ok (.iload 6, 2) := by decide +kernel
theorem dX3_allSoIf_43 : decode cX3_allSoIf 43 = .ok (.iaload, 1) := by decide +kernel
theorem dX3_allSoIf_44 : decode cX3_allSoIf 44 = .ok (.iload_n 3, 1) := by decide +kernel
theorem dX3_allSoIf_45 : decode cX3_allSoIf 45 = .ok (.if_icmp .ne 7, 3) := by decide +kernel
theorem dX3_allSoIf_48 : decode cX3_allSoIf 48 = .ok (.iconst 1, 1) := by decide +kernel
theorem dX3_allSoIf_49 : decode cX3_allSoIf 49 = .ok (.goto 4, 3) := by decide +kernel
theorem dX3_allSoIf_52 : decode cX3_allSoIf 52 = .ok (.iconst 0, 1) := by decide +kernel
theorem dX3_allSoIf_53 : decode cX3_allSoIf 53 = .ok (.istore 8, 2) := by decide +kernel
theorem dX3_allSoIf_55 : decode cX3_allSoIf 55 = .ok (.iload 8, 2) := by decide +kernel
theorem dX3_allSoIf_57 : decode cX3_allSoIf 57 = .ok (.ifCond .eq 23, 3) := by decide +kernel
theorem dX3_allSoIf_60 : decode cX3_allSoIf 60 = .ok (.aload 7, 2) := by decide +kernel
theorem dX3_allSoIf_62 : decode cX3_allSoIf 62 = .ok (.iload_n 3, 1) := by decide +kernel
theorem dX3_allSoIf_63 : decode cX3_allSoIf 63 = .ok (.aload_n 0, 1) := by decide +kernel
theorem dX3_allSoIf_64 : decode cX3_allSoIf 64 = .ok (.getfield 18, 3) := by decide +kernel
theorem dX3_allSoIf_67 : decode cX3_allSoIf 67 = .ok (.iload 6, 2) := by decide +kernel
theorem dX3_allSoIf_69 : decode cX3_allSoIf 69 = .ok (.iaload, 1) := by decide +kernel
theorem dX3_allSoIf_70 : decode cX3_allSoIf 70 = .ok (.iload 4, 2) := by decide +kernel
theorem dX3_allSoIf_72 : decode cX3_allSoIf 72 = .ok (.iload 5, 2) := by decide +kernel
theorem dX3_allSoIf_74 : decode cX3_allSoIf 74 = .ok (.invokevirtual 34, 3) := by decide +kernel
theorem dX3_allSoIf_77 : decode cX3_allSoIf 77 = .ok (.goto 24, 3) := by decide +kernel
theorem dX3_allSoIf_80 : decode cX3_allSoIf 80 = .ok (.aload 7, 2) := by decide +kernel
theorem dX3_allSoIf_82 : decode cX3_allSoIf 82 = .ok (.getfield 40, 3) := by decide +kernel
theorem dX3_allSoIf_85 : decode cX3_allSoIf 85 = .ok (.aload_n 0, 1) := by decide +kernel
theorem dX3_allSoIf_86 : decode cX3_allSoIf 86 = .ok (.getfield 15, 3) := by decide +kernel
theorem dX3_allSoIf_89 : decode cX3_allSoIf 89 = .ok (.iload 6, 2) := by decide +kernel
theorem dX3_allSoIf_91 : decode cX3_allSoIf 91 = .ok (.iaload, 1) := by decide +kernel
theorem dX3_allSoIf_92 : decode cX3_allSoIf 92 = .ok (.aaload, 1) := by decide +kernel
theorem dX3_allSoIf_93 : decode cX3_allSoIf 93 = .ok (.aload_n 0, 1) := by decide +kernel
theorem dX3_allSoIf_94 : decode cX3_allSoIf 94 = .ok (.getfield 18, 3) := by decide +kernel
theorem dX3_allSoIf_97 : decode cX3_allSoIf 97 = .ok (.iload 6, 2) := by decide +kernel
theorem dX3_allSoIf_99 : decode cX3_allSoIf 99 = .ok (.iaload, 1) := by decide +kernel
theorem dX3_allSoIf_100 : decode cX3_allSoIf 100 = .ok (.iaload, 1) := by decide +kernel
theorem dX3_allSoIf_101 : decode cX3_allSoIf 101 = .ok (.istore 9, 2) := by decide +kernel
theorem dX3_allSoIf_103 : decode cX3_allSoIf 103 = .ok (.iload 9, 2) := by decide +kernel
theorem dX3_allSoIf_105 : decode cX3_allSoIf 105 = .ok (.aload_n 0, 1) := by decide +kernel
theorem dX3_allSoIf_106 : decode cX3_allSoIf 106 = .ok (.getfield 21, 3) := by decide +kernel
theorem dX3_allSoIf_109 : decode cX3_allSoIf 109 = .ok (.iload 6, 2) := by decide +kernel
theorem dX3_allSoIf_111 : decode cX3_allSoIf 111 = .ok (.iaload, 1) := by decide +kernel
theorem dX3_allSoIf_112 : decode cX3_allSoIf 112 = .ok (.if_icmp .eq 5, 3) := by decide +kernel
theorem dX3_allSoIf_115 : decode cX3_allSoIf 115 = .ok (.iconst 0, 1) := by decide +kernel
theorem dX3_allSoIf_116 : decode cX3_allSoIf 116 = .ok (.ireturn, 1) := by decide +kernel
theorem dX3_allSoIf_117 : decode cX3_allSoIf 117 = .ok (.iinc 6 1, 3) := by decide +kernel
theorem dX3_allSoIf_120 : decode cX3_allSoIf 120 = .ok (.goto (-117), 3) := by decide +kernel
theorem dX3_allSoIf_123 : decode cX3_allSoIf 123 = .ok (.iconst 1, 1) := by decide +kernel
theorem dX3_allSoIf_124 : decode cX3_allSoIf 124 = .ok (.ireturn, 1) := by decide +kernel
theorem dX4_init_0 : decode cX4_init 0 = .ok (.aload_n 0, 1) := by decide +kernel
theorem dX4_init_1 : decode cX4_init 1 = .ok (.invokespecial 3, 3) := by decide +kernel
theorem dX4_init_4 : decode cX4_init 4 = .ok (.aload_n 0, 1) := by decide +kernel
theorem dX4_init_5 : decode cX4_init 5 = .ok (.bipush 7, 2) := by decide +kernel
theorem dX4_init_7 : decode cX4_init 7 = .ok (.newarray .int, 2) := by decide +kernel
theorem dX4_init_9 : decode cX4_init 9 = .ok (.putfield 9, 3) := by decide +kernel
theorem dX4_init_12 : decode cX4_init 12 = .ok (.aload_n 0, 1) := by decide +kernel
theorem dX4_init_13 : decode cX4_init 13 = .ok (.bipush 6, 2) := by decide +kernel
theorem dX4_init_15 : decode cX4_init 15 = .ok (.anewarray 15, 3) := by decide +kernel
theorem dX4_init_18 : decode cX4_init 18 = .ok (.putfield 17, 3) := by decide +kernel
theorem dX4_init_21 : decode cX4_init 21 = .ok (.aload_n 0, 1) := by decide +kernel
theorem dX4_init_22 : decode cX4_init 22 = .ok (.iconst 0, 1) := by decide +kernel
theorem dX4_init_23 : decode cX4_init 23 = .ok (.putfield 21, 3) := by decide +kernel
theorem dX4_init_26 : decode cX4_init 26 = .ok (.iconst 0, 1) := by decide +kernel
theorem dX4_init_27 : decode cX4_init 27 = .ok (.istore_n 1, 1) := by decide +kernel
theorem dX4_init_28 : decode cX4_init 28 = .ok (.iload_n 1, 1) := by decide +kernel
theorem dX4_init_29 : decode cX4_init 29 = .ok (.bipush 6, 2) := by decide +kernel
theorem dX4_init_31 : decode cX4_init 31 = .ok (.if_icmp .ge 22, 3) := by decide +kernel
theorem dX4_init_34 : decode cX4_init 34 = .ok (.aload_n 0, 1) := by decide +kernel
theorem dX4_init_35 : decode cX4_init 35 = .ok (.getfield 17, 3) := by decide +kernel
theorem dX4_init_38 : decode cX4_init 38 = .ok (.iload_n 1, 1) := by decide +kernel
theorem dX4_init_39 : decode cX4_init 39 = .ok (.new 15, 3) := by decide +kernel
theorem dX4_init_42 : decode cX4_init 42 = .ok (.dup, 1) := by decide +kernel
theorem dX4_init_43 : decode cX4_init 43 = .ok (.invokespecial 25, 3) := by decide +kernel
theorem dX4_init_46 : decode cX4_init 46 = .ok (.aastore, 1) := by decide +kernel
theorem dX4_init_47 : decode cX4_init 47 = .ok (.iinc 1 1, 3) := by decide +kernel
theorem dX4_init_50 : decode cX4_init 50 = .ok (.goto (-22), 3) := by decide +kernel
theorem dX4_init_53 : decode cX4_init 53 = .ok (.return_, 1) := by decide +kernel
theorem dX4_isGarden_0 : decode cX4_isGarden 0 = .ok (.iload_n 1, 1) := by decide +kernel
theorem dX4_isGarden_1 : decode cX4_isGarden 1 = .ok (.ifCond .lt 15, 3) := by decide +kernel
theorem dX4_isGarden_4 : decode cX4_isGarden 4 = .ok (.iload_n 1, 1) := by decide +kernel
theorem dX4_isGarden_5 : decode cX4_isGarden 5 = .ok (.aload_n 0, 1) := by decide +kernel
theorem dX4_isGarden_6 : decode cX4_isGarden 6 = .ok (.getfield 21, 3) := by decide +kernel
theorem dX4_isGarden_9 : decode cX4_isGarden 9 = .ok (.if_icmp .ge 7, 3) := by decide +kernel
theorem dX4_isGarden_12 : decode cX4_isGarden 12 = .ok (.iconst 1, 1) := by decide +kernel
theorem dX4_isGarden_13 : decode cX4_isGarden 13 = .ok (.goto 4, 3) := by decide +kernel
theorem dX4_isGarden_16 : decode cX4_isGarden 16 = .ok (.iconst 0, 1) := by decide +kernel
theorem dX4_isGarden_17 : decode cX4_isGarden 17 = .ok (.ireturn, 1) := by decide +kernel
theorem dX4_isHedge_0 : decode cX4_isHedge 0 = .ok (.iload_n 1, 1) := by decide +kernel
theorem dX4_isHedge_1 : decode cX4_isHedge 1 = .ok (.ifCond .lt 17, 3) := by decide +kernel
theorem dX4_isHedge_4 : decode cX4_isHedge 4 = .ok (.iload_n 1, 1) := by decide +kernel
theorem dX4_isHedge_5 : decode cX4_isHedge 5 = .ok (.aload_n 0, 1) := by decide +kernel
theorem dX4_isHedge_6 : decode cX4_isHedge 6 = .ok (.getfield 21, 3) := by decide +kernel
theorem dX4_isHedge_9 : decode cX4_isHedge 9 = .ok (.iconst 1, 1) := by decide +kernel
theorem dX4_isHedge_10 : decode cX4_isHedge 10 = .ok (.isub, 1) := by decide +kernel
theorem dX4_isHedge_11 : decode cX4_isHedge 11 = .ok (.if_icmp .ge 7, 3) := by decide +kernel
theorem dX4_isHedge_14 : decode cX4_isHedge 14 = .ok (.iconst 1, 1) := by decide +kernel
theorem dX4_isHedge_15 : decode cX4_isHedge 15 = .ok (.goto 4, 3) := by decide +kernel
theorem dX4_isHedge_18 : decode cX4_isHedge 18 = .ok (.iconst 0, 1) := by decide +kernel
theorem dX4_isHedge_19 : decode cX4_isHedge 19 = .ok (.ireturn, 1) := by decide +kernel
theorem dX4_plant_0 : decode cX4_plant 0 = .ok (.aload_n 0, 1) := by decide +kernel
theorem dX4_plant_1 : decode cX4_plant 1 = .ok (.iload_n 3, 1) := by decide +kernel
theorem dX4_plant_2 : decode cX4_plant 2 = .ok (.invokestatic 26, 3) := by decide +kernel
theorem dX4_plant_5 : decode cX4_plant 5 = .ok (.putfield 21, 3) := by decide +kernel
theorem dX4_plant_8 : decode cX4_plant 8 = .ok (.iconst 0, 1) := by decide +kernel
theorem dX4_plant_9 : decode cX4_plant 9 = .ok (.istore 4, 2) := by decide +kernel
theorem dX4_plant_11 : decode cX4_plant 11 = .ok (.iload 4, 2) := by decide +kernel
theorem dX4_plant_13 : decode cX4_plant 13 = .ok (.aload_n 0, 1) := by decide +kernel
theorem dX4_plant_14 : decode cX4_plant 14 = .ok (.getfield 21, 3) := by decide +kernel
theorem dX4_plant_17 : decode cX4_plant 17 = .ok (.if_icmp .ge 81, 3) := by decide +kernel
theorem dX4_plant_20 : decode cX4_plant 20 = .ok (.iload_n 2, 1) := by decide +kernel
theorem dX4_plant_21 : decode cX4_plant 21 = .ok (.iconst 1, 1) := by decide +kernel
theorem dX4_plant_22 : decode cX4_plant 22 = .ok (.iadd, 1) := by decide +kernel
theorem dX4_plant_23 : decode cX4_plant 23 = .ok (.iconst 3, 1) := by decide +kernel
theorem dX4_plant_24 : decode cX4_plant 24 = .ok (.iload 4, 2) := by decide +kernel
theorem dX4_plant_26 : decode cX4_plant 26 = .ok (.imul, 1) := by decide +kernel
theorem dX4_plant_27 : decode cX4_plant 27 = .ok (.iadd, 1) := by decide +kernel
theorem dX4_plant_28 : decode cX4_plant 28 = .ok (.istore 5, 2) := by decide +kernel
theorem dX4_plant_30 : decode cX4_plant 30 = .ok (.aload_n 0, 1) := by decide +kernel
theorem dX4_plant_31 : decode cX4_plant 31 = .ok (.getfield 9, 3) := by decide +kernel
theorem dX4_plant_34 : decode cX4_plant 34 = .ok (.iload 4, 2) := by decide +kernel
theorem dX4_plant_36 : decode cX4_plant 36 = .ok (.aload_n 1, 1) := by decide +kernel
theorem dX4_plant_37 : decode cX4_plant 37 = .ok (.getfield 32, 3) := by decide +kernel
theorem dX4_plant_40 : decode cX4_plant 40 = .ok (.iload 5, 2) := by decide +kernel
theorem dX4_plant_42 : decode cX4_plant 42 = .ok (.iaload, 1) := by decide +kernel
theorem dX4_plant_43 : decode cX4_plant 43 = .ok (.bipush 48, 2) := by decide +kernel
theorem dX4_plant_45 : decode cX4_plant 45 = .ok (.isub, 1) := by decide +kernel
theorem dX4_plant_46 : decode cX4_plant 46 = .ok (.iastore, 1) := by decide +kernel
theorem dX4_plant_47 : decode cX4_plant 47 = .ok (.aload_n 0, 1) := by decide +kernel
theorem dX4_plant_48 : decode cX4_plant 48 = .ok (.iload 4, 2) := by decide +kernel
theorem dX4_plant_50 : decode cX4_plant 50 = .ok (.invokevirtual 37, 3) := by decide +kernel
theorem dX4_plant_53 : decode cX4_plant 53 = .ok (.ifCond .eq 39, 3) := by decide +kernel
theorem dX4_plant_56 : decode cX4_plant 56 = .ok (.aload_n 0, 1) := by decide +kernel
theorem dX4_plant_57 : decode cX4_plant 57 = .ok (.getfield 17, 3) := by decide +kernel
theorem dX4_plant_60 : decode cX4_plant 60 = .ok (.iload 4, 2) := by decide +kernel
theorem dX4_plant_62 : decode cX4_plant 62 = .ok (.aaload, 1) := by decide +kernel
theorem dX4_plant_63 : decode cX4_plant 63 = .ok (.iload 4, 2) := by decide +kernel
theorem dX4_plant_65 : decode cX4_plant 65 = .ok (.aload_n 1, 1) := by decide +kernel
theorem dX4_plant_66 : decode cX4_plant 66 = .ok (.getfield 32, 3) := by decide +kernel
theorem dX4_plant_69 : decode cX4_plant 69 = .ok (.iload 5, 2) := by decide +kernel
theorem dX4_plant_71 : decode cX4_plant 71 = .ok (.iconst 1, 1) := by decide +kernel
theorem dX4_plant_72 : decode cX4_plant 72 = .ok (.iadd, 1) := by decide +kernel
theorem dX4_plant_73 : decode cX4_plant 73 = .ok (.iaload, 1) := by decide +kernel
theorem dX4_plant_74 : decode cX4_plant 74 = .ok (.aload_n 1, 1) := by decide +kernel
theorem dX4_plant_75 : decode cX4_plant 75 = .ok (.getfield 32, 3) := by decide +kernel
theorem dX4_plant_78 : decode cX4_plant 78 = .ok (.iload 5, 2) := by decide +kernel
theorem dX4_plant_80 : decode cX4_plant 80 = .ok (.iconst 2, 1) := by decide +kernel
theorem dX4_plant_81 : decode cX4_plant 81 = .ok (.iadd, 1) := by decide +kernel
theorem dX4_plant_82 : decode cX4_plant 82 = .ok (.iaload, 1) := by decide +kernel
theorem dX4_plant_83 : decode cX4_plant 83 = .ok (.bipush 48, 2) := by decide +kernel
theorem dX4_plant_85 : decode cX4_plant 85 = .ok (.isub, 1) := by decide +kernel
theorem dX4_plant_86 : decode cX4_plant 86 = .ok (.invokestatic 41, 3) := by decide +kernel
theorem dX4_plant_89 : decode cX4_plant 89 = .ok (.invokevirtual 45, 3) := by decide +kernel
theorem dX4_plant_92 : decode cX4_plant 92 = .ok (.iinc 4 1, 3) := by decide +kernel
theorem dX4_plant_95 : decode cX4_plant 95 = .ok (.goto (-84), 3) := by decide +kernel
theorem dX4_plant_98 : decode cX4_plant 98 = .ok (.return_, 1) := by decide +kernel
theorem dX4_seedling_0 : decode cX4_seedling 0 = .ok (.iload_n 1, 1) := by decide +kernel
theorem dX4_seedling_1 : decode cX4_seedling 1 = .ok (.invokestatic 49, 3) := by decide +kernel
theorem dX4_seedling_4 : decode cX4_seedling 4 = .ok (.lookupswitch 48 #[(1, 28), (2, 38)], 28) := by decide +kernel
theorem dX4_seedling_32 : decode cX4_seedling 32 = .ok (.new 52, 3) := by decide +kernel
theorem dX4_seedling_35 : decode cX4_seedling 35 = .ok (.dup, 1) := by decide +kernel
theorem dX4_seedling_36 : decode cX4_seedling 36 = .ok (.iload_n 0, 1) := by decide +kernel
theorem dX4_seedling_37 : decode cX4_seedling 37 = .ok (.iload_n 2, 1) := by decide +kernel
theorem dX4_seedling_38 : decode cX4_seedling 38 = .ok (.invokespecial 54, 3) := by decide +kernel
theorem dX4_seedling_41 : decode cX4_seedling 41 = .ok (.areturn, 1) := by decide +kernel
theorem dX4_seedling_42 : decode cX4_seedling 42 = .ok (.new 57, 3) := by decide +kernel
theorem dX4_seedling_45 : decode cX4_seedling 45 = .ok (.dup, 1) := by decide +kernel
theorem dX4_seedling_46 : decode cX4_seedling 46 = .ok (.iload_n 0, 1) := by decide +kernel
theorem dX4_seedling_47 : decode cX4_seedling 47 = .ok (.iload_n 2, 1) := by decide +kernel
theorem dX4_seedling_48 : decode cX4_seedling 48 = .ok (.invokespecial 59, 3) := by decide +kernel
theorem dX4_seedling_51 : decode cX4_seedling 51 = .ok (.areturn, 1) := by decide +kernel
theorem dX4_seedling_52 : decode cX4_seedling 52 = .ok (.new 60, 3) := by decide +kernel
theorem dX4_seedling_55 : decode cX4_seedling 55 = .ok (.dup, 1) := by decide +kernel
theorem dX4_seedling_56 : decode cX4_seedling 56 = .ok (.iload_n 0, 1) := by decide +kernel
theorem dX4_seedling_57 : decode cX4_seedling 57 = .ok (.iload_n 2, 1) := by decide +kernel
theorem dX4_seedling_58 : decode cX4_seedling 58 = .ok (.invokespecial 62, 3) := by decide +kernel
theorem dX4_seedling_61 : decode cX4_seedling 61 = .ok (.areturn, 1) := by decide +kernel
theorem dX4_heightOrIf_0 : decode cX4_heightOrIf 0 = .ok (.iload_n 1, 1) := by decide +kernel
theorem dX4_heightOrIf_1 : decode cX4_heightOrIf 1 = .ok (.iload_n 3, 1) := by decide +kernel
theorem dX4_heightOrIf_2 : decode cX4_heightOrIf 2 = .ok (.if_icmp .ne 8, 3) := by decide +kernel
theorem dX4_heightOrIf_5 : decode cX4_heightOrIf 5 = .ok (.iload 4, 2) := by decide +kernel
theorem dX4_heightOrIf_7 : decode cX4_heightOrIf 7 = .ok (.goto 13, 3) := by decide +kernel
theorem dX4_heightOrIf_10 : decode cX4_heightOrIf 10 = .ok (.aload_n 0, 1) := by decide +kernel
theorem dX4_heightOrIf_11 : decode cX4_heightOrIf 11 = .ok (.getfield 17, 3) := by decide +kernel
theorem dX4_heightOrIf_14 : decode cX4_heightOrIf 14 = .ok (.iload_n 1, 1) := by decide +kernel
theorem dX4_heightOrIf_15 : decode cX4_heightOrIf 15 = .ok (.aaload, 1) := by decide +kernel
theorem dX4_heightOrIf_16 : decode cX4_heightOrIf 16 = .ok (.iload_n 2, 1) := by decide +kernel
theorem dX4_heightOrIf_17 : decode cX4_heightOrIf 17 = .ok (.invokevirtual 63, 3) := by decide +kernel
theorem dX4_heightOrIf_20 : decode cX4_heightOrIf 20 = .ok (.ireturn, 1) := by decide +kernel
theorem dX4_lightIf_0 : decode cX4_lightIf 0 = .ok (.bipush 20, 2) := by decide +kernel
theorem dX4_lightIf_2 : decode cX4_lightIf 2 = .ok (.istore 5, 2) := by decide +kernel
theorem dX4_lightIf_4 : decode cX4_lightIf 4 = .ok (.aload_n 0, 1) := by decide +kernel
theorem dX4_lightIf_5 : decode cX4_lightIf 5 = .ok (.iload_n 1, 1) := by decide +kernel
theorem dX4_lightIf_6 : decode cX4_lightIf 6 = .ok (.iconst 1, 1) := by decide +kernel
theorem dX4_lightIf_7 : decode cX4_lightIf 7 = .ok (.isub, 1) := by decide +kernel
theorem dX4_lightIf_8 : decode cX4_lightIf 8 = .ok (.invokevirtual 37, 3) := by decide +kernel
theorem dX4_lightIf_11 : decode cX4_lightIf 11 = .ok (.ifCond .eq 22, 3) := by decide +kernel
theorem dX4_lightIf_14 : decode cX4_lightIf 14 = .ok (.iload 5, 2) := by decide +kernel
theorem dX4_lightIf_16 : decode cX4_lightIf 16 = .ok (.aload_n 0, 1) := by decide +kernel
theorem dX4_lightIf_17 : decode cX4_lightIf 17 = .ok (.iload_n 1, 1) := by decide +kernel
theorem dX4_lightIf_18 : decode cX4_lightIf 18 = .ok (.iconst 1, 1) := by decide +kernel
theorem dX4_lightIf_19 : decode cX4_lightIf 19 = .ok (.isub, 1) := by decide +kernel
theorem dX4_lightIf_20 : decode cX4_lightIf 20 = .ok (.iload_n 2, 1) := by decide +kernel
theorem dX4_lightIf_21 : decode cX4_lightIf 21 = .ok (.iload_n 3, 1) := by decide +kernel
theorem dX4_lightIf_22 : decode cX4_lightIf 22 = .ok (.iload 4, 2) := by decide +kernel
theorem dX4_lightIf_24 : decode cX4_lightIf 24 = .ok (.invokevirtual 66, 3) := by decide +kernel
theorem dX4_lightIf_27 : decode cX4_lightIf 27 = .ok (.bipush 12, 2) := by decide +kernel
theorem dX4_lightIf_29 : decode cX4_lightIf 29 = .ok (.idiv, 1) := by decide +kernel
theorem dX4_lightIf_30 : decode cX4_lightIf 30 = .ok (.isub, 1) := by decide +kernel
theorem dX4_lightIf_31 : decode cX4_lightIf 31 = .ok (.istore 5, 2) := by decide +kernel
theorem dX4_lightIf_33 : decode cX4_lightIf 33 = .ok (.aload_n 0, 1) := by decide +kernel
theorem dX4_lightIf_34 : decode cX4_lightIf 34 = .ok (.iload_n 1, 1) := by decide +kernel
theorem dX4_lightIf_35 : decode cX4_lightIf 35 = .ok (.invokevirtual 37, 3) := by decide +kernel
theorem dX4_lightIf_38 : decode cX4_lightIf 38 = .ok (.ifCond .eq 20, 3) := by decide +kernel
theorem dX4_lightIf_41 : decode cX4_lightIf 41 = .ok (.iload 5, 2) := by decide +kernel
theorem dX4_lightIf_43 : decode cX4_lightIf 43 = .ok (.aload_n 0, 1) := by decide +kernel
theorem dX4_lightIf_44 : decode cX4_lightIf 44 = .ok (.iload_n 1, 1) := by decide +kernel
theorem dX4_lightIf_45 : decode cX4_lightIf 45 = .ok (.iload_n 2, 1) := by decide +kernel
theorem dX4_lightIf_46 : decode cX4_lightIf 46 = .ok (.iload_n 3, 1) := by decide +kernel
theorem dX4_lightIf_47 : decode cX4_lightIf 47 = .ok (.iload 4, 2) := by decide +kernel
theorem dX4_lightIf_49 : decode cX4_lightIf 49 = .ok (.invokevirtual 66, 3) := by decide +kernel
theorem dX4_lightIf_52 : decode cX4_lightIf 52 = .ok (.bipush 12, 2) := by decide +kernel
theorem dX4_lightIf_54 : decode cX4_lightIf 54 = .ok (.idiv, 1) := by decide +kernel
theorem dX4_lightIf_55 : decode cX4_lightIf 55 = .ok (.isub, 1) := by decide +kernel
theorem dX4_lightIf_56 : decode cX4_lightIf 56 = .ok (.istore 5, 2) := by decide +kernel
theorem dX4_lightIf_58 : decode cX4_lightIf 58 = .ok (.iconst 0, 1) := by decide +kernel
theorem dX4_lightIf_59 : decode cX4_lightIf 59 = .ok (.iload 5, 2) := by decide +kernel
theorem dX4_lightIf_61 : decode cX4_lightIf 61 = .ok (.invokestatic 70, 3) := by decide +kernel
theorem dX4_lightIf_64 : decode cX4_lightIf 64 = .ok (.ireturn, 1) := by decide +kernel
theorem dX4_goatsReachIf_0 : decode cX4_goatsReachIf 0 = .ok (.iconst 0, 1) := by decide +kernel
theorem dX4_goatsReachIf_1 : decode cX4_goatsReachIf 1 = .ok (.istore 4, 2) := by decide +kernel
theorem dX4_goatsReachIf_3 : decode cX4_goatsReachIf 3 = .ok (.iload 4, 2) := by decide +kernel
theorem dX4_goatsReachIf_5 : decode cX4_goatsReachIf 5 = .ok (.aload_n 0, 1) := by decide +kernel
theorem dX4_goatsReachIf_6 : decode cX4_goatsReachIf 6 = .ok (.getfield 21, 3) := by decide +kernel
theorem dX4_goatsReachIf_9 : decode cX4_goatsReachIf 9 = .ok (.iconst 1, 1) := by decide +kernel
theorem dX4_goatsReachIf_10 : decode cX4_goatsReachIf 10 = .ok (.isub, 1) := by decide +kernel
theorem dX4_goatsReachIf_11 : decode cX4_goatsReachIf 11 = .ok (.if_icmp .ge 26, 3) := by decide +kernel
theorem dX4_goatsReachIf_14 : decode cX4_goatsReachIf 14 = .ok (.aload_n 0, 1) := by decide +kernel
theorem dX4_goatsReachIf_15 : decode cX4_goatsReachIf 15 = .ok (.iload 4, 2) := by decide +kernel
theorem dX4_goatsReachIf_17 : decode cX4_goatsReachIf 17 = .ok (.iload_n 1, 1) := by decide +kernel
theorem dX4_goatsReachIf_18 : decode cX4_goatsReachIf 18 = .ok (.iload_n 2, 1) := by decide +kernel
theorem dX4_goatsReachIf_19 : decode cX4_goatsReachIf 19 = .ok (.iload_n 3, 1) := by decide +kernel
theorem dX4_goatsReachIf_20 : decode cX4_goatsReachIf 20 = .ok (.invokevirtual 66, 3) := by decide +kernel
theorem dX4_goatsReachIf_23 : decode cX4_goatsReachIf 23 = .ok (.bipush 36, 2) := by decide +kernel
theorem dX4_goatsReachIf_25 : decode cX4_goatsReachIf 25 = .ok (.if_icmp .lt 6, 3) := by decide +kernel
theorem dX4_goatsReachIf_28 : decode cX4_goatsReachIf 28 = .ok (.iload 4, 2) := by decide +kernel
theorem dX4_goatsReachIf_30 : decode cX4_goatsReachIf 30 = .ok (.ireturn, 1) := by decide +kernel
theorem dX4_goatsReachIf_31 : decode cX4_goatsReachIf 31 = .ok (.iinc 4 1, 3) := by decide +kernel
theorem dX4_goatsReachIf_34 : decode cX4_goatsReachIf 34 = .ok (.goto (-31), 3) := by decide +kernel
theorem dX4_goatsReachIf_37 : decode cX4_goatsReachIf 37 = .ok (.aload_n 0, 1) := by decide +kernel
theorem dX4_goatsReachIf_38 : decode cX4_goatsReachIf 38 = .ok (.getfield 21, 3) := by decide +kernel
theorem dX4_goatsReachIf_41 : decode cX4_goatsReachIf 41 = .ok (.iconst 1, 1) := by decide +kernel
theorem dX4_goatsReachIf_42 : decode cX4_goatsReachIf 42 = .ok (.isub, 1) := by decide +kernel
theorem dX4_goatsReachIf_43 : decode cX4_goatsReachIf 43 = .ok (.ireturn, 1) := by decide +kernel
theorem dX4_betterOffIf_0 : decode cX4_betterOffIf 0 = .ok (.iconst 0, 1) := by decide +kernel
theorem dX4_betterOffIf_1 : decode cX4_betterOffIf 1 = .ok (.istore 5, 2) := by decide +kernel
theorem dX4_betterOffIf_3 : decode cX4_betterOffIf 3 = .ok (.aload_n 0, 1) := by decide +kernel
theorem dX4_betterOffIf_4 : decode cX4_betterOffIf 4 = .ok (.iload_n 1, 1) := by decide +kernel
theorem dX4_betterOffIf_5 : decode cX4_betterOffIf 5 = .ok (.iload_n 2, 1) := by decide +kernel
theorem dX4_betterOffIf_6 : decode cX4_betterOffIf 6 = .ok (.iload_n 3, 1) := by decide +kernel
theorem dX4_betterOffIf_7 : decode cX4_betterOffIf 7 = .ok (.iload 4, 2) := by decide +kernel
theorem dX4_betterOffIf_9 : decode cX4_betterOffIf 9 = .ok (.invokevirtual 76, 3) := by decide +kernel
theorem dX4_betterOffIf_12 : decode cX4_betterOffIf 12 = .ok (.aload_n 0, 1) := by decide +kernel
theorem dX4_betterOffIf_13 : decode cX4_betterOffIf 13 = .ok (.getfield 9, 3) := by decide +kernel
theorem dX4_betterOffIf_16 : decode cX4_betterOffIf 16 = .ok (.iload_n 1, 1) := by decide +kernel
theorem dX4_betterOffIf_17 : decode cX4_betterOffIf 17 = .ok (.iaload, 1) := by decide +kernel
theorem dX4_betterOffIf_18 : decode cX4_betterOffIf 18 = .ok (.if_icmp .lt 6, 3) := by decide +kernel
theorem dX4_betterOffIf_21 : decode cX4_betterOffIf 21 = .ok (.iinc 5 1, 3) := by decide +kernel
theorem dX4_betterOffIf_24 : decode cX4_betterOffIf 24 = .ok (.iload_n 1, 1) := by decide +kernel
theorem dX4_betterOffIf_25 : decode cX4_betterOffIf 25 = .ok (.aload_n 0, 1) := by decide +kernel
theorem dX4_betterOffIf_26 : decode cX4_betterOffIf 26 = .ok (.iload_n 2, 1) := by decide +kernel
theorem dX4_betterOffIf_27 : decode cX4_betterOffIf 27 = .ok (.iload_n 3, 1) := by decide +kernel
theorem dX4_betterOffIf_28 : decode cX4_betterOffIf 28 = .ok (.iload 4, 2) := by decide +kernel
theorem dX4_betterOffIf_30 : decode cX4_betterOffIf 30 = .ok (.invokevirtual 79, 3) := by decide +kernel
theorem dX4_betterOffIf_33 : decode cX4_betterOffIf 33 = .ok (.if_icmp .le 6, 3) := by decide +kernel
theorem dX4_betterOffIf_36 : decode cX4_betterOffIf 36 = .ok (.iinc 5 1, 3) := by decide +kernel
theorem dX4_betterOffIf_39 : decode cX4_betterOffIf 39 = .ok (.iload 5, 2) := by decide +kernel
theorem dX4_betterOffIf_41 : decode cX4_betterOffIf 41 = .ok (.ireturn, 1) := by decide +kernel
theorem dX4_scoldedMore_0 : decode cX4_scoldedMore 0 = .ok (.iconst 0, 1) := by decide +kernel
theorem dX4_scoldedMore_1 : decode cX4_scoldedMore 1 = .ok (.istore_n 3, 1) := by decide +kernel
theorem dX4_scoldedMore_2 : decode cX4_scoldedMore 2 = .ok (.iconst 0, 1) := by decide +kernel
theorem dX4_scoldedMore_3 : decode cX4_scoldedMore 3 = .ok (.istore 4, 2) := by decide +kernel
theorem dX4_scoldedMore_5 : decode cX4_scoldedMore 5 = .ok (.iload 4, 2) := by decide +kernel
theorem dX4_scoldedMore_7 : decode cX4_scoldedMore 7 = .ok (.aload_n 0, 1) := by decide +kernel
theorem dX4_scoldedMore_8 : decode cX4_scoldedMore 8 = .ok (.getfield 21, 3) := by decide +kernel
theorem dX4_scoldedMore_11 : decode cX4_scoldedMore 11 = .ok (.iconst 1, 1) := by decide +kernel
theorem dX4_scoldedMore_12 : decode cX4_scoldedMore 12 = .ok (.isub, 1) := by decide +kernel
theorem dX4_scoldedMore_13 : decode cX4_scoldedMore 13 = .ok (.if_icmp .ge 71, 3) := by decide +kernel
theorem dX4_scoldedMore_16 : decode cX4_scoldedMore 16 = .ok (.iconst 0, 1) := by decide +kernel
theorem dX4_scoldedMore_17 : decode cX4_scoldedMore 17 = .ok (.istore 5, 2) := by decide +kernel
theorem dX4_scoldedMore_19 : decode cX4_scoldedMore 19 = .ok (.iload 5, 2) := by decide +kernel
theorem dX4_scoldedMore_21 : decode cX4_scoldedMore 21 = .ok (.iconst 1, 1) := by decide +kernel
theorem dX4_scoldedMore_22 : decode cX4_scoldedMore 22 = .ok (.if_icmp .gt 56, 3) := by decide +kernel
theorem dX4_scoldedMore_25 : decode cX4_scoldedMore 25 = .ok (.aload_n 0, 1) := by decide +kernel
theorem dX4_scoldedMore_26 : decode cX4_scoldedMore 26 = .ok (.getfield 17, 3) := by decide +kernel
theorem dX4_scoldedMore_29 : decode cX4_scoldedMore 29 = .ok (.iload 4, 2) := by decide +kernel
theorem dX4_scoldedMore_31 : decode cX4_scoldedMore 31 = .ok (.aaload, 1) := by decide +kernel
theorem dX4_scoldedMore_32 : decode cX4_scoldedMore 32 = .ok (.iload 5, 2) := by decide +kernel
theorem dX4_scoldedMore_34 : decode cX4_scoldedMore 34 = .ok (.iload_n 1, 1) := by decide +kernel
theorem dX4_scoldedMore_35 : decode cX4_scoldedMore 35 = .ok (.iload_n 2, 1) := by decide +kernel
theorem dX4_scoldedMore_36 : decode cX4_scoldedMore 36 = .ok (.invokevirtual 83, 3) := by decide +kernel
theorem dX4_scoldedMore_39 : decode cX4_scoldedMore 39 = .ok (.istore 6, 2) := by decide +kernel
theorem dX4_scoldedMore_41 : decode cX4_scoldedMore 41 = .ok (.iload 6, 2) := by decide +kernel
theorem dX4_scoldedMore_43 : decode cX4_scoldedMore 43 = .ok (.bipush (-9), 2) := by decide +kernel
theorem dX4_scoldedMore_45 : decode cX4_scoldedMore 45 = .ok (.if_icmp .ne 6, 3) := by decide +kernel
theorem dX4_scoldedMore_48 : decode cX4_scoldedMore 48 = .ok (.bipush (-9), 2) := by decide +kernel
theorem dX4_scoldedMore_50 : decode cX4_scoldedMore 50 = .ok (.ireturn, 1) := by decide +kernel
theorem dX4_scoldedMore_51 : decode cX4_scoldedMore 51 = .ok (.iload_n 3, 1) := by decide +kernel
theorem dX4_scoldedMore_52 : decode cX4_scoldedMore 52 = .ok (.iload 6, 2) := by decide +kernel
theorem dX4_scoldedMore_54 : decode cX4_scoldedMore 54 = .ok (.aload_n 0, 1) := by decide +kernel
theorem dX4_scoldedMore_55 : decode cX4_scoldedMore 55 = .ok (.getfield 17, 3) := by decide +kernel
theorem dX4_scoldedMore_58 : decode cX4_scoldedMore 58 = .ok (.iload 4, 2) := by decide +kernel
theorem dX4_scoldedMore_60 : decode cX4_scoldedMore 60 = .ok (.aaload, 1) := by decide +kernel
theorem dX4_scoldedMore_61 : decode cX4_scoldedMore 61 = .ok (.getfield 86, 3) := by decide +kernel
theorem dX4_scoldedMore_64 : decode cX4_scoldedMore 64 = .ok (.iload 5, 2) := by decide +kernel
theorem dX4_scoldedMore_66 : decode cX4_scoldedMore 66 = .ok (.aaload, 1) := by decide +kernel
theorem dX4_scoldedMore_67 : decode cX4_scoldedMore 67 = .ok (.iload_n 1, 1) := by decide +kernel
theorem dX4_scoldedMore_68 : decode cX4_scoldedMore 68 = .ok (.iaload, 1) := by decide +kernel
theorem dX4_scoldedMore_69 : decode cX4_scoldedMore 69 = .ok (.isub, 1) := by decide +kernel
theorem dX4_scoldedMore_70 : decode cX4_scoldedMore 70 = .ok (.iadd, 1) := by decide +kernel
theorem dX4_scoldedMore_71 : decode cX4_scoldedMore 71 = .ok (.istore_n 3, 1) := by decide +kernel
theorem dX4_scoldedMore_72 : decode cX4_scoldedMore 72 = .ok (.iinc 5 1, 3) := by decide +kernel
theorem dX4_scoldedMore_75 : decode cX4_scoldedMore 75 = .ok (.goto (-56), 3) := by decide +kernel
theorem dX4_scoldedMore_78 : decode cX4_scoldedMore 78 = .ok (.iinc 4 1, 3) := by decide +kernel
theorem dX4_scoldedMore_81 : decode cX4_scoldedMore 81 = .ok (.goto (-76), 3) := by decide +kernel
theorem dX4_scoldedMore_84 : decode cX4_scoldedMore 84 = .ok (.iload_n 3, 1) := by decide +kernel
theorem dX4_scoldedMore_85 : decode cX4_scoldedMore 85 = .ok (.ireturn, 1) := by decide +kernel
theorem dX4_lastWordOfQuarrel_0 : decode cX4_lastWordOfQuarrel 0 = .ok (.aload_n 0, 1) := by decide +kernel
theorem dX4_lastWordOfQuarrel_1 : decode cX4_lastWordOfQuarrel 1 = .ok (.getfield 17, 3) := by decide +kernel
theorem dX4_lastWordOfQuarrel_4 : decode cX4_lastWordOfQuarrel 4 = .ok (.iload_n 1, 1) := by decide +kernel
theorem dX4_lastWordOfQuarrel_5 : decode cX4_lastWordOfQuarrel 5 = .ok (.aaload, 1) := by decide +kernel
theorem dX4_lastWordOfQuarrel_6 : decode cX4_lastWordOfQuarrel 6 = .ok (.astore 5, 2) := by decide +kernel
theorem dX4_lastWordOfQuarrel_8 : decode cX4_lastWordOfQuarrel 8 = .ok (.aload 5, 2) := by decide +kernel
theorem dX4_lastWordOfQuarrel_10 : decode cX4_lastWordOfQuarrel 10 = .ok (.getfield 90, 3) := by decide +kernel
theorem dX4_lastWordOfQuarrel_13 : decode cX4_lastWordOfQuarrel 13 = .ok (.iconst 0, 1) := by decide +kernel
theorem dX4_lastWordOfQuarrel_14 : decode cX4_lastWordOfQuarrel 14 = .ok (.aaload, 1) := by decide +kernel
theorem dX4_lastWordOfQuarrel_15 : decode cX4_lastWordOfQuarrel 15 = .ok (.iload_n 2, 1) := by decide +kernel
theorem dX4_lastWordOfQuarrel_16 : decode cX4_lastWordOfQuarrel 16 = .ok (.iaload, 1) := by decide +kernel
theorem dX4_lastWordOfQuarrel_17 : decode cX4_lastWordOfQuarrel 17 = .ok (.istore 6, 2) := by decide +kernel
theorem dX4_lastWordOfQuarrel_19 : decode cX4_lastWordOfQuarrel 19 = .ok (.aload 5, 2) := by decide +kernel
theorem dX4_lastWordOfQuarrel_21 : decode cX4_lastWordOfQuarrel 21 = .ok (.getfield 90, 3) := by decide +kernel
theorem dX4_lastWordOfQuarrel_24 : decode cX4_lastWordOfQuarrel 24 = .ok (.iconst 1, 1) := by decide +kernel
theorem dX4_lastWordOfQuarrel_25 : decode cX4_lastWordOfQuarrel 25 = .ok (.aaload, 1) := by decide +kernel
theorem dX4_lastWordOfQuarrel_26 : decode cX4_lastWordOfQuarrel 26 = .ok (.iload_n 2, 1) := by decide +kernel
theorem dX4_lastWordOfQuarrel_27 : decode cX4_lastWordOfQuarrel 27 = .ok (.iaload, 1) := by decide +kernel
theorem dX4_lastWordOfQuarrel_28 : decode cX4_lastWordOfQuarrel 28 = .ok (.istore 7, 2) := by decide +kernel
theorem dX4_lastWordOfQuarrel_30 : decode cX4_lastWordOfQuarrel 30 = .ok (.iconst 0, 1) := by decide +kernel
theorem dX4_lastWordOfQuarrel_31 : decode cX4_lastWordOfQuarrel 31 = .ok (.istore 8, 2) := by decide +kernel
theorem dX4_lastWordOfQuarrel_33 : decode cX4_lastWordOfQuarrel 33 = .ok (.iconst 0, 1) := by decide +kernel
theorem dX4_lastWordOfQuarrel_34 : decode cX4_lastWordOfQuarrel 34 = .ok (.istore 9, 2) := by decide +kernel
theorem dX4_lastWordOfQuarrel_36 : decode cX4_lastWordOfQuarrel 36 = .ok (.iload_n 2, 1) := by decide +kernel
theorem dX4_lastWordOfQuarrel_37 : decode cX4_lastWordOfQuarrel 37 = .ok (.istore 10, 2) := by decide +kernel
theorem dX4_lastWordOfQuarrel_39 : decode cX4_lastWordOfQuarrel 39 = .ok (.iload 10, 2) := by decide +kernel
theorem dX4_lastWordOfQuarrel_41 : decode cX4_lastWordOfQuarrel 41 = .ok (.iload_n 3, 1) := by decide +kernel
theorem dX4_lastWordOfQuarrel_42 : decode cX4_lastWordOfQuarrel 42 = .ok (.if_icmp .gt 81, 3) := by decide +kernel
theorem dX4_lastWordOfQuarrel_45 : decode cX4_lastWordOfQuarrel 45 = .ok (.aload_n 0, 1) := by decide +kernel
theorem dX4_lastWordOfQuarrel_46 : decode cX4_lastWordOfQuarrel 46 = .ok (.iload_n 1, 1) := by decide +kernel
theorem dX4_lastWordOfQuarrel_47 : decode cX4_lastWordOfQuarrel 47 = .ok (.iload_n 1, 1) := by decide +kernel
theorem dX4_lastWordOfQuarrel_48 : decode cX4_lastWordOfQuarrel 48 = .ok (.iload 10, 2) := by decide +kernel
theorem dX4_lastWordOfQuarrel_50 : decode cX4_lastWordOfQuarrel 50 = .ok (.iload 6, 2) := by decide +kernel
theorem dX4_lastWordOfQuarrel_52 : decode cX4_lastWordOfQuarrel 52 = .ok (.aload 5, 2) := by decide +kernel
theorem dX4_lastWordOfQuarrel_54 : decode cX4_lastWordOfQuarrel 54 = .ok (.iload 7, 2) := by decide +kernel
theorem dX4_lastWordOfQuarrel_56 : decode cX4_lastWordOfQuarrel 56 = .ok (.iload 10, 2) := by decide +kernel
theorem dX4_lastWordOfQuarrel_58 : decode cX4_lastWordOfQuarrel 58 = .ok (.iconst 0, 1) := by decide +kernel
theorem dX4_lastWordOfQuarrel_59 : decode cX4_lastWordOfQuarrel 59 = .ok (.invokevirtual 93, 3) := by decide +kernel
theorem dX4_lastWordOfQuarrel_62 : decode cX4_lastWordOfQuarrel 62 = .ok (.invokevirtual 96, 3) := by decide +kernel
theorem dX4_lastWordOfQuarrel_65 : decode cX4_lastWordOfQuarrel 65 = .ok (.istore 8, 2) := by decide +kernel
theorem dX4_lastWordOfQuarrel_67 : decode cX4_lastWordOfQuarrel 67 = .ok (.aload_n 0, 1) := by decide +kernel
theorem dX4_lastWordOfQuarrel_68 : decode cX4_lastWordOfQuarrel 68 = .ok (.iload_n 1, 1) := by decide +kernel
theorem dX4_lastWordOfQuarrel_69 : decode cX4_lastWordOfQuarrel 69 = .ok (.iconst 1, 1) := by decide +kernel
theorem dX4_lastWordOfQuarrel_70 : decode cX4_lastWordOfQuarrel 70 = .ok (.iadd, 1) := by decide +kernel
theorem dX4_lastWordOfQuarrel_71 : decode cX4_lastWordOfQuarrel 71 = .ok (.iload_n 1, 1) := by decide +kernel
theorem dX4_lastWordOfQuarrel_72 : decode cX4_lastWordOfQuarrel 72 = .ok (.iload 10, 2) := by decide +kernel
theorem dX4_lastWordOfQuarrel_74 : decode cX4_lastWordOfQuarrel 74 = .ok (.iload 7, 2) := by decide +kernel
theorem dX4_lastWordOfQuarrel_76 : decode cX4_lastWordOfQuarrel 76 = .ok (.aload 5, 2) := by decide +kernel
theorem dX4_lastWordOfQuarrel_78 : decode cX4_lastWordOfQuarrel 78 = .ok (.iload 6, 2) := by decide +kernel
theorem dX4_lastWordOfQuarrel_80 : decode cX4_lastWordOfQuarrel 80 = .ok (.iload 10, 2) := by decide +kernel
theorem dX4_lastWordOfQuarrel_82 : decode cX4_lastWordOfQuarrel 82 = .ok (.iconst 0, 1) := by decide +kernel
theorem dX4_lastWordOfQuarrel_83 : decode cX4_lastWordOfQuarrel 83 = .ok (.invokevirtual 93, 3) := by decide +kernel
theorem dX4_lastWordOfQuarrel_86 : decode cX4_lastWordOfQuarrel 86 = .ok (.invokevirtual 96, 3) := by decide +kernel
theorem dX4_lastWordOfQuarrel_89 : decode cX4_lastWordOfQuarrel 89 = .ok (.istore 9, 2) := by decide +kernel
theorem dX4_lastWordOfQuarrel_91 : decode cX4_lastWordOfQuarrel 91 = .ok (.aload 5, 2) := by decide +kernel
theorem dX4_lastWordOfQuarrel_93 : decode cX4_lastWordOfQuarrel 93 = .ok (.iload 6, 2) := by decide +kernel
theorem dX4_lastWordOfQuarrel_95 : decode cX4_lastWordOfQuarrel 95 = .ok (.iload 10, 2) := by decide +kernel
theorem dX4_lastWordOfQuarrel_97 : decode cX4_lastWordOfQuarrel 97 = .ok (.iload 8, 2) := by decide +kernel
theorem dX4_lastWordOfQuarrel_99 : decode cX4_lastWordOfQuarrel 99 = .ok (.invokevirtual 93, 3) := by decide +kernel
theorem dX4_lastWordOfQuarrel_102 : decode cX4_lastWordOfQuarrel 102 = .ok (.istore 6, 2) := by decide +kernel
theorem dX4_lastWordOfQuarrel_104 : decode cX4_lastWordOfQuarrel 104 = .ok (.aload 5, 2) := by decide +kernel
theorem dX4_lastWordOfQuarrel_106 : decode cX4_lastWordOfQuarrel 106 = .ok (.iload 7, 2) := by decide +kernel
theorem dX4_lastWordOfQuarrel_108 : decode cX4_lastWordOfQuarrel 108 = .ok (.iload 10, 2) := by decide +kernel
theorem dX4_lastWordOfQuarrel_110 : decode cX4_lastWordOfQuarrel 110 = .ok (.iload 9, 2) := by decide +kernel
theorem dX4_lastWordOfQuarrel_112 : decode cX4_lastWordOfQuarrel 112 = .ok (.invokevirtual 93, 3) := by decide +kernel
theorem dX4_lastWordOfQuarrel_115 : decode cX4_lastWordOfQuarrel 115 = .ok (.istore 7, 2) := by decide +kernel
theorem dX4_lastWordOfQuarrel_117 : decode cX4_lastWordOfQuarrel 117 = .ok (.iinc 10 1, 3) := by decide +kernel
theorem dX4_lastWordOfQuarrel_120 : decode cX4_lastWordOfQuarrel 120 = .ok (.goto (-81), 3) := by decide +kernel
theorem dX4_lastWordOfQuarrel_123 : decode cX4_lastWordOfQuarrel 123 = .ok (.iload 4, 2) := by decide +kernel
theorem dX4_lastWordOfQuarrel_125 : decode cX4_lastWordOfQuarrel 125 = .ok (.ifCond .ne 8, 3) := by decide +kernel
theorem dX4_lastWordOfQuarrel_128 : decode cX4_lastWordOfQuarrel 128 = .ok (.iload 8, 2) := by decide +kernel
theorem dX4_lastWordOfQuarrel_130 : decode cX4_lastWordOfQuarrel 130 = .ok (.goto 5, 3) := by decide +kernel
theorem dX4_lastWordOfQuarrel_133 : decode cX4_lastWordOfQuarrel 133 = .ok (.iload 9, 2) := by decide +kernel
theorem dX4_lastWordOfQuarrel_135 : decode cX4_lastWordOfQuarrel 135 = .ok (.ireturn, 1) := by decide +kernel
theorem dX4_eveningChoice_0 : decode cX4_eveningChoice 0 = .ok (.iconst 0, 1) := by decide +kernel
theorem dX4_eveningChoice_1 : decode cX4_eveningChoice 1 = .ok (.istore 6, 2) := by decide +kernel
theorem dX4_eveningChoice_3 : decode cX4_eveningChoice 3 = .ok (.iconst (-1), 1) := by decide +kernel
theorem dX4_eveningChoice_4 : decode cX4_eveningChoice 4 = .ok (.istore 7, 2) := by decide +kernel
theorem dX4_eveningChoice_6 : decode cX4_eveningChoice 6 = .ok (.getstatic 100, 3) := by decide +kernel
theorem dX4_eveningChoice_9 : decode cX4_eveningChoice 9 = .ok (.astore 8, 2) := by decide +kernel
theorem dX4_eveningChoice_11 : decode cX4_eveningChoice 11 = .ok (.aload 8, 2) := by decide +kernel
theorem dX4_eveningChoice_13 : decode cX4_eveningChoice 13 = .ok (.arraylength, 1) := by decide +kernel
theorem dX4_eveningChoice_14 : decode cX4_eveningChoice 14 = .ok (.istore 9, 2) := by decide +kernel
theorem dX4_eveningChoice_16 : decode cX4_eveningChoice 16 = .ok (.iconst 0, 1) := by decide +kernel
theorem dX4_eveningChoice_17 : decode cX4_eveningChoice 17 = .ok (.istore 10, 2) := by decide +kernel
theorem dX4_eveningChoice_19 : decode cX4_eveningChoice 19 = .ok (.iload 10, 2) := by decide +kernel
theorem dX4_eveningChoice_21 : decode cX4_eveningChoice 21 = .ok (.iload 9, 2) := by decide +kernel
theorem dX4_eveningChoice_23 : decode cX4_eveningChoice 23 = .ok (.if_icmp .ge 65, 3) := by decide +kernel
theorem dX4_eveningChoice_26 : decode cX4_eveningChoice 26 = .ok (.aload 8, 2) := by decide +kernel
theorem dX4_eveningChoice_28 : decode cX4_eveningChoice 28 = .ok (.iload 10, 2) := by decide +kernel
theorem dX4_eveningChoice_30 : decode cX4_eveningChoice 30 = .ok (.iaload, 1) := by decide +kernel
theorem dX4_eveningChoice_31 : decode cX4_eveningChoice 31 = .ok (.istore 11, 2) := by decide +kernel
theorem dX4_eveningChoice_33 : decode cX4_eveningChoice 33 = .ok (.aload_n 0, 1) := by decide +kernel
theorem dX4_eveningChoice_34 : decode cX4_eveningChoice 34 = .ok (.getfield 17, 3) := by decide +kernel
theorem dX4_eveningChoice_37 : decode cX4_eveningChoice 37 = .ok (.iload_n 2, 1) := by decide +kernel
theorem dX4_eveningChoice_38 : decode cX4_eveningChoice 38 = .ok (.aaload, 1) := by decide +kernel
theorem dX4_eveningChoice_39 : decode cX4_eveningChoice 39 = .ok (.iload 4, 2) := by decide +kernel
theorem dX4_eveningChoice_41 : decode cX4_eveningChoice 41 = .ok (.iload_n 3, 1) := by decide +kernel
theorem dX4_eveningChoice_42 : decode cX4_eveningChoice 42 = .ok (.iload 11, 2) := by decide +kernel
theorem dX4_eveningChoice_44 : decode cX4_eveningChoice 44 = .ok (.invokevirtual 93, 3) := by decide +kernel
theorem dX4_eveningChoice_47 : decode cX4_eveningChoice 47 = .ok (.iload 5, 2) := by decide +kernel
theorem dX4_eveningChoice_49 : decode cX4_eveningChoice 49 = .ok (.invokestatic 103, 3) := by decide +kernel
theorem dX4_eveningChoice_52 : decode cX4_eveningChoice 52 = .ok (.istore 12, 2) := by decide +kernel
theorem dX4_eveningChoice_54 : decode cX4_eveningChoice 54 = .ok (.aload_n 0, 1) := by decide +kernel
theorem dX4_eveningChoice_55 : decode cX4_eveningChoice 55 = .ok (.iload_n 1, 1) := by decide +kernel
theorem dX4_eveningChoice_56 : decode cX4_eveningChoice 56 = .ok (.iload_n 3, 1) := by decide +kernel
theorem dX4_eveningChoice_57 : decode cX4_eveningChoice 57 = .ok (.iconst 1, 1) := by decide +kernel
theorem dX4_eveningChoice_58 : decode cX4_eveningChoice 58 = .ok (.iadd, 1) := by decide +kernel
theorem dX4_eveningChoice_59 : decode cX4_eveningChoice 59 = .ok (.iload_n 2, 1) := by decide +kernel
theorem dX4_eveningChoice_60 : decode cX4_eveningChoice 60 = .ok (.iload 12, 2) := by decide +kernel
theorem dX4_eveningChoice_62 : decode cX4_eveningChoice 62 = .ok (.invokevirtual 106, 3) := by decide +kernel
theorem dX4_eveningChoice_65 : decode cX4_eveningChoice 65 = .ok (.istore 13, 2) := by decide +kernel
theorem dX4_eveningChoice_67 : decode cX4_eveningChoice 67 = .ok (.iload 13, 2) := by decide +kernel
theorem dX4_eveningChoice_69 : decode cX4_eveningChoice 69 = .ok (.iload 7, 2) := by decide +kernel
theorem dX4_eveningChoice_71 : decode cX4_eveningChoice 71 = .ok (.if_icmp .le 11, 3) := by decide +kernel
theorem dX4_eveningChoice_74 : decode cX4_eveningChoice 74 = .ok (.iload 13, 2) := by decide +kernel
theorem dX4_eveningChoice_76 : decode cX4_eveningChoice 76 = .ok (.istore 7, 2) := by decide +kernel
theorem dX4_eveningChoice_78 : decode cX4_eveningChoice 78 = .ok (.iload 11, 2) := by decide +kernel
theorem dX4_eveningChoice_80 : decode cX4_eveningChoice 80 = .ok (.istore 6, 2) := by decide +kernel
theorem dX4_eveningChoice_82 : decode cX4_eveningChoice 82 = .ok (.iinc 10 1, 3) := by decide +kernel
theorem dX4_eveningChoice_85 : decode cX4_eveningChoice 85 = .ok (.goto (-66), 3) := by decide +kernel
theorem dX4_eveningChoice_88 : decode cX4_eveningChoice 88 = .ok (.iload 6, 2) := by decide +kernel
theorem dX4_eveningChoice_90 : decode cX4_eveningChoice 90 = .ok (.ireturn, 1) := by decide +kernel
theorem dX4_wouldGain_0 : decode cX4_wouldGain 0 = .ok (.iload_n 1, 1) := by decide +kernel
theorem dX4_wouldGain_1 : decode cX4_wouldGain 1 = .ok (.iload_n 2, 1) := by decide +kernel
theorem dX4_wouldGain_2 : decode cX4_wouldGain 2 = .ok (.invokestatic 109, 3) := by decide +kernel
theorem dX4_wouldGain_5 : decode cX4_wouldGain 5 = .ok (.istore 4, 2) := by decide +kernel
theorem dX4_wouldGain_7 : decode cX4_wouldGain 7 = .ok (.aload_n 0, 1) := by decide +kernel
theorem dX4_wouldGain_8 : decode cX4_wouldGain 8 = .ok (.iload 4, 2) := by decide +kernel
theorem dX4_wouldGain_10 : decode cX4_wouldGain 10 = .ok (.invokevirtual 37, 3) := by decide +kernel
theorem dX4_wouldGain_13 : decode cX4_wouldGain 13 = .ok (.ifCond .ne 5, 3) := by decide +kernel
theorem dX4_wouldGain_16 : decode cX4_wouldGain 16 = .ok (.iconst 0, 1) := by decide +kernel
theorem dX4_wouldGain_17 : decode cX4_wouldGain 17 = .ok (.ireturn, 1) := by decide +kernel
theorem dX4_wouldGain_18 : decode cX4_wouldGain 18 = .ok (.aload_n 0, 1) := by decide +kernel
theorem dX4_wouldGain_19 : decode cX4_wouldGain 19 = .ok (.iload_n 1, 1) := by decide +kernel
theorem dX4_wouldGain_20 : decode cX4_wouldGain 20 = .ok (.iload_n 3, 1) := by decide +kernel
theorem dX4_wouldGain_21 : decode cX4_wouldGain 21 = .ok (.iconst 1, 1) := by decide +kernel
theorem dX4_wouldGain_22 : decode cX4_wouldGain 22 = .ok (.iadd, 1) := by decide +kernel
theorem dX4_wouldGain_23 : decode cX4_wouldGain 23 = .ok (.iconst (-1), 1) := by decide +kernel
theorem dX4_wouldGain_24 : decode cX4_wouldGain 24 = .ok (.iconst 0, 1) := by decide +kernel
theorem dX4_wouldGain_25 : decode cX4_wouldGain 25 = .ok (.invokevirtual 106, 3) := by decide +kernel
theorem dX4_wouldGain_28 : decode cX4_wouldGain 28 = .ok (.istore 5, 2) := by decide +kernel
theorem dX4_wouldGain_30 : decode cX4_wouldGain 30 = .ok (.getstatic 100, 3) := by decide +kernel
theorem dX4_wouldGain_33 : decode cX4_wouldGain 33 = .ok (.astore 6, 2) := by decide +kernel
theorem dX4_wouldGain_35 : decode cX4_wouldGain 35 = .ok (.aload 6, 2) := by decide +kernel
theorem dX4_wouldGain_37 : decode cX4_wouldGain 37 = .ok (.arraylength, 1) := by decide +kernel
theorem dX4_wouldGain_38 : decode cX4_wouldGain 38 = .ok (.istore 7, 2) := by decide +kernel
theorem dX4_wouldGain_40 : decode cX4_wouldGain 40 = .ok (.iconst 0, 1) := by decide +kernel
theorem dX4_wouldGain_41 : decode cX4_wouldGain 41 = .ok (.istore 8, 2) := by decide +kernel
theorem dX4_wouldGain_43 : decode cX4_wouldGain 43 = .ok (.iload 8, 2) := by decide +kernel
theorem dX4_wouldGain_45 : decode cX4_wouldGain 45 = .ok (.iload 7, 2) := by decide +kernel
theorem dX4_wouldGain_47 : decode cX4_wouldGain 47 = .ok (.if_icmp .ge 54, 3) := by decide +kernel
theorem dX4_wouldGain_50 : decode cX4_wouldGain 50 = .ok (.aload 6, 2) := by decide +kernel
theorem dX4_wouldGain_52 : decode cX4_wouldGain 52 = .ok (.iload 8, 2) := by decide +kernel
theorem dX4_wouldGain_54 : decode cX4_wouldGain 54 = .ok (.iaload, 1) := by decide +kernel
theorem dX4_wouldGain_55 : decode cX4_wouldGain 55 = .ok (.istore 9, 2) := by decide +kernel
theorem dX4_wouldGain_57 : decode cX4_wouldGain 57 = .ok (.aload_n 0, 1) := by decide +kernel
theorem dX4_wouldGain_58 : decode cX4_wouldGain 58 = .ok (.getfield 17, 3) := by decide +kernel
theorem dX4_wouldGain_61 : decode cX4_wouldGain 61 = .ok (.iload 4, 2) := by decide +kernel
theorem dX4_wouldGain_63 : decode cX4_wouldGain 63 = .ok (.aaload, 1) := by decide +kernel
theorem dX4_wouldGain_64 : decode cX4_wouldGain 64 = .ok (.iload_n 2, 1) := by decide +kernel
theorem dX4_wouldGain_65 : decode cX4_wouldGain 65 = .ok (.invokestatic 112, 3) := by decide +kernel
theorem dX4_wouldGain_68 : decode cX4_wouldGain 68 = .ok (.iload_n 3, 1) := by decide +kernel
theorem dX4_wouldGain_69 : decode cX4_wouldGain 69 = .ok (.iload 9, 2) := by decide +kernel
theorem dX4_wouldGain_71 : decode cX4_wouldGain 71 = .ok (.invokevirtual 115, 3) := by decide +kernel
theorem dX4_wouldGain_74 : decode cX4_wouldGain 74 = .ok (.istore 10, 2) := by decide +kernel
theorem dX4_wouldGain_76 : decode cX4_wouldGain 76 = .ok (.aload_n 0, 1) := by decide +kernel
theorem dX4_wouldGain_77 : decode cX4_wouldGain 77 = .ok (.iload_n 1, 1) := by decide +kernel
theorem dX4_wouldGain_78 : decode cX4_wouldGain 78 = .ok (.iload_n 3, 1) := by decide +kernel
theorem dX4_wouldGain_79 : decode cX4_wouldGain 79 = .ok (.iconst 1, 1) := by decide +kernel
theorem dX4_wouldGain_80 : decode cX4_wouldGain 80 = .ok (.iadd, 1) := by decide +kernel
theorem dX4_wouldGain_81 : decode cX4_wouldGain 81 = .ok (.iload 4, 2) := by decide +kernel
theorem dX4_wouldGain_83 : decode cX4_wouldGain 83 = .ok (.iload 10, 2) := by decide +kernel
theorem dX4_wouldGain_85 : decode cX4_wouldGain 85 = .ok (.invokevirtual 106, 3) := by decide +kernel
theorem dX4_wouldGain_88 : decode cX4_wouldGain 88 = .ok (.iload 5, 2) := by decide +kernel
theorem dX4_wouldGain_90 : decode cX4_wouldGain 90 = .ok (.if_icmp .le 5, 3) := by decide +kernel
theorem dX4_wouldGain_93 : decode cX4_wouldGain 93 = .ok (.iconst 1, 1) := by decide +kernel
theorem dX4_wouldGain_94 : decode cX4_wouldGain 94 = .ok (.ireturn, 1) := by decide +kernel
theorem dX4_wouldGain_95 : decode cX4_wouldGain 95 = .ok (.iinc 8 1, 3) := by decide +kernel
theorem dX4_wouldGain_98 : decode cX4_wouldGain 98 = .ok (.goto (-55), 3) := by decide +kernel
theorem dX4_wouldGain_101 : decode cX4_wouldGain 101 = .ok (.iconst 0, 1) := by decide +kernel
theorem dX4_wouldGain_102 : decode cX4_wouldGain 102 = .ok (.ireturn, 1) := by decide +kernel
theorem dX4_roundMinutes_0 : decode cX4_roundMinutes 0 = .ok (.iconst 0, 1) := by decide +kernel
theorem dX4_roundMinutes_1 : decode cX4_roundMinutes 1 = .ok (.istore_n 3, 1) := by decide +kernel
theorem dX4_roundMinutes_2 : decode cX4_roundMinutes 2 = .ok (.iconst 0, 1) := by decide +kernel
theorem dX4_roundMinutes_3 : decode cX4_roundMinutes 3 = .ok (.istore 4, 2) := by decide +kernel
theorem dX4_roundMinutes_5 : decode cX4_roundMinutes 5 = .ok (.iconst 0, 1) := by decide +kernel
theorem dX4_roundMinutes_6 : decode cX4_roundMinutes 6 = .ok (.istore 5, 2) := by decide +kernel
theorem dX4_roundMinutes_8 : decode cX4_roundMinutes 8 = .ok (.iload 5, 2) := by decide +kernel
theorem dX4_roundMinutes_10 : decode cX4_roundMinutes 10 = .ok (.aload_n 0, 1) := by decide +kernel
theorem dX4_roundMinutes_11 : decode cX4_roundMinutes 11 = .ok (.getfield 21, 3) := by decide +kernel
theorem dX4_roundMinutes_14 : decode cX4_roundMinutes 14 = .ok (.iconst 1, 1) := by decide +kernel
theorem dX4_roundMinutes_15 : decode cX4_roundMinutes 15 = .ok (.isub, 1) := by decide +kernel
theorem dX4_roundMinutes_16 : decode cX4_roundMinutes 16 = .ok (.if_icmp .ge 38, 3) := by decide +kernel
theorem dX4_roundMinutes_19 : decode cX4_roundMinutes 19 = .ok (.aload_n 0, 1) := by decide +kernel
theorem dX4_roundMinutes_20 : decode cX4_roundMinutes 20 = .ok (.getfield 17, 3) := by decide +kernel
theorem dX4_roundMinutes_23 : decode cX4_roundMinutes 23 = .ok (.iload 5, 2) := by decide +kernel
theorem dX4_roundMinutes_25 : decode cX4_roundMinutes 25 = .ok (.aaload, 1) := by decide +kernel
theorem dX4_roundMinutes_26 : decode cX4_roundMinutes 26 = .ok (.iload_n 1, 1) := by decide +kernel
theorem dX4_roundMinutes_27 : decode cX4_roundMinutes 27 = .ok (.iload_n 2, 1) := by decide +kernel
theorem dX4_roundMinutes_28 : decode cX4_roundMinutes 28 = .ok (.invokevirtual 118, 3) := by decide +kernel
theorem dX4_roundMinutes_31 : decode cX4_roundMinutes 31 = .ok (.istore 6, 2) := by decide +kernel
theorem dX4_roundMinutes_33 : decode cX4_roundMinutes 33 = .ok (.iload 6, 2) := by decide +kernel
theorem dX4_roundMinutes_35 : decode cX4_roundMinutes 35 = .ok (.ifCond .le 6, 3) := by decide +kernel
theorem dX4_roundMinutes_38 : decode cX4_roundMinutes 38 = .ok (.iload 5, 2) := by decide +kernel
theorem dX4_roundMinutes_40 : decode cX4_roundMinutes 40 = .ok (.istore_n 3, 1) := by decide +kernel
theorem dX4_roundMinutes_41 : decode cX4_roundMinutes 41 = .ok (.iload 4, 2) := by decide +kernel
theorem dX4_roundMinutes_43 : decode cX4_roundMinutes 43 = .ok (.iload 6, 2) := by decide +kernel
theorem dX4_roundMinutes_45 : decode cX4_roundMinutes 45 = .ok (.iadd, 1) := by decide +kernel
theorem dX4_roundMinutes_46 : decode cX4_roundMinutes 46 = .ok (.istore 4, 2) := by decide +kernel
theorem dX4_roundMinutes_48 : decode cX4_roundMinutes 48 = .ok (.iinc 5 1, 3) := by decide +kernel
theorem dX4_roundMinutes_51 : decode cX4_roundMinutes 51 = .ok (.goto (-43), 3) := by decide +kernel
theorem dX4_roundMinutes_54 : decode cX4_roundMinutes 54 = .ok (.iload_n 3, 1) := by decide +kernel
theorem dX4_roundMinutes_55 : decode cX4_roundMinutes 55 = .ok (.iload 4, 2) := by decide +kernel
theorem dX4_roundMinutes_57 : decode cX4_roundMinutes 57 = .ok (.iadd, 1) := by decide +kernel
theorem dX4_roundMinutes_58 : decode cX4_roundMinutes 58 = .ok (.ireturn, 1) := by decide +kernel
theorem dX4_finesOf_0 : decode cX4_finesOf 0 = .ok (.iconst 0, 1) := by decide +kernel
theorem dX4_finesOf_1 : decode cX4_finesOf 1 = .ok (.istore_n 3, 1) := by decide +kernel
theorem dX4_finesOf_2 : decode cX4_finesOf 2 = .ok (.aload_n 0, 1) := by decide +kernel
theorem dX4_finesOf_3 : decode cX4_finesOf 3 = .ok (.iload_n 1, 1) := by decide +kernel
theorem dX4_finesOf_4 : decode cX4_finesOf 4 = .ok (.iconst 1, 1) := by decide +kernel
theorem dX4_finesOf_5 : decode cX4_finesOf 5 = .ok (.isub, 1) := by decide +kernel
theorem dX4_finesOf_6 : decode cX4_finesOf 6 = .ok (.invokevirtual 37, 3) := by decide +kernel
theorem dX4_finesOf_9 : decode cX4_finesOf 9 = .ok (.ifCond .eq 19, 3) := by decide +kernel
theorem dX4_finesOf_12 : decode cX4_finesOf 12 = .ok (.iload_n 3, 1) := by decide +kernel
theorem dX4_finesOf_13 : decode cX4_finesOf 13 = .ok (.aload_n 0, 1) := by decide +kernel
theorem dX4_finesOf_14 : decode cX4_finesOf 14 = .ok (.getfield 17, 3) := by decide +kernel
theorem dX4_finesOf_17 : decode cX4_finesOf 17 = .ok (.iload_n 1, 1) := by decide +kernel
theorem dX4_finesOf_18 : decode cX4_finesOf 18 = .ok (.iconst 1, 1) := by decide +kernel
theorem dX4_finesOf_19 : decode cX4_finesOf 19 = .ok (.isub, 1) := by decide +kernel
theorem dX4_finesOf_20 : decode cX4_finesOf 20 = .ok (.aaload, 1) := by decide +kernel
theorem dX4_finesOf_21 : decode cX4_finesOf 21 = .ok (.iconst 1, 1) := by decide +kernel
theorem dX4_finesOf_22 : decode cX4_finesOf 22 = .ok (.iload_n 2, 1) := by decide +kernel
theorem dX4_finesOf_23 : decode cX4_finesOf 23 = .ok (.invokevirtual 121, 3) := by decide +kernel
theorem dX4_finesOf_26 : decode cX4_finesOf 26 = .ok (.iadd, 1) := by decide +kernel
theorem dX4_finesOf_27 : decode cX4_finesOf 27 = .ok (.istore_n 3, 1) := by decide +kernel
theorem dX4_finesOf_28 : decode cX4_finesOf 28 = .ok (.aload_n 0, 1) := by decide +kernel
theorem dX4_finesOf_29 : decode cX4_finesOf 29 = .ok (.iload_n 1, 1) := by decide +kernel
theorem dX4_finesOf_30 : decode cX4_finesOf 30 = .ok (.invokevirtual 37, 3) := by decide +kernel
theorem dX4_finesOf_33 : decode cX4_finesOf 33 = .ok (.ifCond .eq 17, 3) := by decide +kernel
theorem dX4_finesOf_36 : decode cX4_finesOf 36 = .ok (.iload_n 3, 1) := by decide +kernel
theorem dX4_finesOf_37 : decode cX4_finesOf 37 = .ok (.aload_n 0, 1) := by decide +kernel
theorem dX4_finesOf_38 : decode cX4_finesOf 38 = .ok (.getfield 17, 3) := by decide +kernel
theorem dX4_finesOf_41 : decode cX4_finesOf 41 = .ok (.iload_n 1, 1) := by decide +kernel
theorem dX4_finesOf_42 : decode cX4_finesOf 42 = .ok (.aaload, 1) := by decide +kernel
theorem dX4_finesOf_43 : decode cX4_finesOf 43 = .ok (.iconst 0, 1) := by decide +kernel
theorem dX4_finesOf_44 : decode cX4_finesOf 44 = .ok (.iload_n 2, 1) := by decide +kernel
theorem dX4_finesOf_45 : decode cX4_finesOf 45 = .ok (.invokevirtual 121, 3) := by decide +kernel
theorem dX4_finesOf_48 : decode cX4_finesOf 48 = .ok (.iadd, 1) := by decide +kernel
theorem dX4_finesOf_49 : decode cX4_finesOf 49 = .ok (.istore_n 3, 1) := by decide +kernel
theorem dX4_finesOf_50 : decode cX4_finesOf 50 = .ok (.iload_n 3, 1) := by decide +kernel
theorem dX4_finesOf_51 : decode cX4_finesOf 51 = .ok (.ireturn, 1) := by decide +kernel
theorem dX4_heightsTogether_0 : decode cX4_heightsTogether 0 = .ok (.iconst 0, 1) := by decide +kernel
theorem dX4_heightsTogether_1 : decode cX4_heightsTogether 1 = .ok (.istore_n 2, 1) := by decide +kernel
theorem dX4_heightsTogether_2 : decode cX4_heightsTogether 2 = .ok (.iconst 0, 1) := by decide +kernel
theorem dX4_heightsTogether_3 : decode cX4_heightsTogether 3 = .ok (.istore_n 3, 1) := by decide +kernel
theorem dX4_heightsTogether_4 : decode cX4_heightsTogether 4 = .ok (.iload_n 3, 1) := by decide +kernel
theorem dX4_heightsTogether_5 : decode cX4_heightsTogether 5 = .ok (.aload_n 0, 1) := by decide +kernel
theorem dX4_heightsTogether_6 : decode cX4_heightsTogether 6 = .ok (.getfield 21, 3) := by decide +kernel
theorem dX4_heightsTogether_9 : decode cX4_heightsTogether 9 = .ok (.iconst 1, 1) := by decide +kernel
theorem dX4_heightsTogether_10 : decode cX4_heightsTogether 10 = .ok (.isub, 1) := by decide +kernel
theorem dX4_heightsTogether_11 : decode cX4_heightsTogether 11 = .ok (.if_icmp .ge 22, 3) := by decide +kernel
theorem dX4_heightsTogether_14 : decode cX4_heightsTogether 14 = .ok (.iload_n 2, 1) := by decide +kernel
theorem dX4_heightsTogether_15 : decode cX4_heightsTogether 15 = .ok (.aload_n 0, 1) := by decide +kernel
theorem dX4_heightsTogether_16 : decode cX4_heightsTogether 16 = .ok (.getfield 17, 3) := by decide +kernel
theorem dX4_heightsTogether_19 : decode cX4_heightsTogether 19 = .ok (.iload_n 3, 1) := by decide +kernel
theorem dX4_heightsTogether_20 : decode cX4_heightsTogether 20 = .ok (.aaload, 1) := by decide +kernel
theorem dX4_heightsTogether_21 : decode cX4_heightsTogether 21 = .ok (.iload_n 1, 1) := by decide +kernel
theorem dX4_heightsTogether_22 : decode cX4_heightsTogether 22 = .ok (.invokevirtual 63, 3) := by decide +kernel
theorem dX4_heightsTogether_25 : decode cX4_heightsTogether 25 = .ok (.iadd, 1) := by decide +kernel
theorem dX4_heightsTogether_26 : decode cX4_heightsTogether 26 = .ok (.istore_n 2, 1) := by decide +kernel
theorem dX4_heightsTogether_27 : decode cX4_heightsTogether 27 = .ok (.iinc 3 1, 3) := by decide +kernel
theorem dX4_heightsTogether_30 : decode cX4_heightsTogether 30 = .ok (.goto (-26), 3) := by decide +kernel
theorem dX4_heightsTogether_33 : decode cX4_heightsTogether 33 = .ok (.iload_n 2, 1) := by decide +kernel
theorem dX4_heightsTogether_34 : decode cX4_heightsTogether 34 = .ok (.ireturn, 1) := by decide +kernel
theorem dX5_init_0 : decode cX5_init 0 = .ok (.aload_n 0, 1) := by decide +kernel
theorem dX5_init_1 : decode cX5_init 1 = .ok (.invokespecial 3, 3) := by decide +kernel
theorem dX5_init_4 : decode cX5_init 4 = .ok (.aload_n 0, 1) := by decide +kernel
theorem dX5_init_5 : decode cX5_init 5 = .ok (.bipush 60, 2) := by decide +kernel
theorem dX5_init_7 : decode cX5_init 7 = .ok (.newarray .int, 2) := by decide +kernel
theorem dX5_init_9 : decode cX5_init 9 = .ok (.putfield 9, 3) := by decide +kernel
theorem dX5_init_12 : decode cX5_init 12 = .ok (.aload_n 0, 1) := by decide +kernel
theorem dX5_init_13 : decode cX5_init 13 = .ok (.iconst (-1), 1) := by decide +kernel
theorem dX5_init_14 : decode cX5_init 14 = .ok (.putfield 15, 3) := by decide +kernel
theorem dX5_init_17 : decode cX5_init 17 = .ok (.aload_n 0, 1) := by decide +kernel
theorem dX5_init_18 : decode cX5_init 18 = .ok (.iconst 0, 1) := by decide +kernel
theorem dX5_init_19 : decode cX5_init 19 = .ok (.putfield 19, 3) := by decide +kernel
theorem dX5_init_22 : decode cX5_init 22 = .ok (.return_, 1) := by decide +kernel
theorem dX5_begin_0 : decode cX5_begin 0 = .ok (.aload_n 0, 1) := by decide +kernel
theorem dX5_begin_1 : decode cX5_begin 1 = .ok (.iload_n 1, 1) := by decide +kernel
theorem dX5_begin_2 : decode cX5_begin 2 = .ok (.putfield 15, 3) := by decide +kernel
theorem dX5_begin_5 : decode cX5_begin 5 = .ok (.aload_n 0, 1) := by decide +kernel
theorem dX5_begin_6 : decode cX5_begin 6 = .ok (.iload_n 2, 1) := by decide +kernel
theorem dX5_begin_7 : decode cX5_begin 7 = .ok (.putfield 19, 3) := by decide +kernel
theorem dX5_begin_10 : decode cX5_begin 10 = .ok (.aload_n 0, 1) := by decide +kernel
theorem dX5_begin_11 : decode cX5_begin 11 = .ok (.getfield 9, 3) := by decide +kernel
theorem dX5_begin_14 : decode cX5_begin 14 = .ok (.iconst 0, 1) := by decide +kernel
theorem dX5_begin_15 : decode cX5_begin 15 = .ok (.invokestatic 22, 3) := by decide +kernel
theorem dX5_begin_18 : decode cX5_begin 18 = .ok (.return_, 1) := by decide +kernel
theorem dX5_drop_0 : decode cX5_drop 0 = .ok (.aload_n 0, 1) := by decide +kernel
theorem dX5_drop_1 : decode cX5_drop 1 = .ok (.iconst (-1), 1) := by decide +kernel
theorem dX5_drop_2 : decode cX5_drop 2 = .ok (.putfield 15, 3) := by decide +kernel
theorem dX5_drop_5 : decode cX5_drop 5 = .ok (.aload_n 0, 1) := by decide +kernel
theorem dX5_drop_6 : decode cX5_drop 6 = .ok (.iconst 0, 1) := by decide +kernel
