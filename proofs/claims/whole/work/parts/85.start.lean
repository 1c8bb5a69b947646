/-! what the start gives -/
theorem tw_iX1 : (Cond.instantiable RX1 12) ∈ lw_tbl := List.mem_append_right _ (show (Cond.instantiable RX1 12) ∈ tables_1 from List.mem_append_left _ (List.mem_of_getElem? (i := 26) rfl))
theorem tw_iX2 : (Cond.instantiable RX2 1) ∈ lw_tbl := List.mem_append_right _ (show (Cond.instantiable RX2 1) ∈ tables_1 from List.mem_append_left _ (List.mem_of_getElem? (i := 103) rfl))
theorem tw_iX3 : (Cond.instantiable RX3 3) ∈ lw_tbl := List.mem_append_right _ (show (Cond.instantiable RX3 3) ∈ tables_1 from List.mem_append_left _ (List.mem_of_getElem? (i := 142) rfl))
theorem tw_iX4 : (Cond.instantiable RX4 2) ∈ lw_tbl := List.mem_append_right _ (show (Cond.instantiable RX4 2) ∈ tables_1 from List.mem_append_left _ (List.mem_of_getElem? (i := 87) rfl))
theorem tw_iX5 : (Cond.instantiable RX5 7) ∈ lw_tbl := List.mem_append_right _ (show (Cond.instantiable RX5 7) ∈ tables_1 from List.mem_append_left _ (List.mem_of_getElem? (i := 109) rfl))
theorem tw_iX6 : (Cond.instantiable RX6 8) ∈ lw_tbl := List.mem_append_right _ (show (Cond.instantiable RX6 8) ∈ tables_1 from List.mem_append_left _ (List.mem_of_getElem? (i := 18) rfl))
theorem tw_iX7 : (Cond.instantiable RX7 18) ∈ lw_tbl := List.mem_append_right _ (show (Cond.instantiable RX7 18) ∈ tables_1 from List.mem_append_right _ (List.mem_append_right _ (List.mem_append_left _ (List.mem_of_getElem? (i := 170) rfl))))
theorem tw_nX0 : (Cond.initialized RX0) ∈ lw_tbl := List.mem_append_right _ (show (Cond.initialized RX0) ∈ tables_1 from List.mem_append_left _ (List.mem_of_getElem? (i := 8) rfl))
theorem tw_nX1 : (Cond.initialized RX1) ∈ lw_tbl := List.mem_append_right _ (show (Cond.initialized RX1) ∈ tables_1 from List.mem_append_left _ (List.mem_of_getElem? (i := 2) rfl))
theorem tw_nX2 : (Cond.initialized RX2) ∈ lw_tbl := List.mem_append_right _ (show (Cond.initialized RX2) ∈ tables_1 from List.mem_append_left _ (List.mem_of_getElem? (i := 4) rfl))
theorem tw_nX3 : (Cond.initialized RX3) ∈ lw_tbl := List.mem_append_right _ (show (Cond.initialized RX3) ∈ tables_1 from List.mem_append_left _ (List.mem_of_getElem? (i := 6) rfl))
theorem tw_nX4 : (Cond.initialized RX4) ∈ lw_tbl := List.mem_append_right _ (show (Cond.initialized RX4) ∈ tables_1 from List.mem_append_left _ (List.mem_of_getElem? (i := 3) rfl))
theorem tw_nX5 : (Cond.initialized RX5) ∈ lw_tbl := List.mem_append_right _ (show (Cond.initialized RX5) ∈ tables_1 from List.mem_append_left _ (List.mem_of_getElem? (i := 5) rfl))
theorem tw_nX6 : (Cond.initialized RX6) ∈ lw_tbl := List.mem_append_right _ (show (Cond.initialized RX6) ∈ tables_1 from List.mem_append_left _ (List.mem_of_getElem? (i := 1) rfl))
theorem tw_nX7 : (Cond.initialized RX7) ∈ lw_tbl := List.mem_append_right _ (show (Cond.initialized RX7) ∈ tables_1 from List.mem_append_left _ (List.mem_of_getElem? (i := 7) rfl))
theorem tw_nS : (Cond.initialized "java/lang/String") ∈ lw_tbl := List.mem_append_right _ (show (Cond.initialized "java/lang/String") ∈ tables_1 from List.mem_append_left _ (List.mem_of_getElem? (i := 12) rfl))
theorem tw_nP : (Cond.initialized "jdk/internal/util/Preconditions") ∈ lw_tbl := List.mem_append_right _ (show (Cond.initialized "jdk/internal/util/Preconditions") ∈ tables_1 from List.mem_append_left _ (List.mem_of_getElem? (i := 14) rfl))
theorem tw_aI : (Cond.arrayClass .int) ∈ lw_tbl := List.mem_append_right _ (show (Cond.arrayClass .int) ∈ tables_1 from List.mem_append_left _ (List.mem_of_getElem? (i := 85) rfl))
theorem tw_aJ : (Cond.arrayClass .long) ∈ lw_tbl := List.mem_append_right _ (show (Cond.arrayClass .long) ∈ tables_1 from List.mem_append_left _ (List.mem_of_getElem? (i := 160) rfl))
theorem tw_aQ : (Cond.arrayOver (.object "BucketGift$Sheet")) ∈ lw_tbl := List.mem_append_right _ (show (Cond.arrayOver (.object "BucketGift$Sheet")) ∈ tables_1 from List.mem_append_left _ (List.mem_of_getElem? (i := 141) rfl))
theorem tw_n15 : (Cond.methodLinkNest RX6 15 yX1_init "BucketGift") ∈ lw_tbl := List.mem_append_right _ (show (Cond.methodLinkNest RX6 15 yX1_init "BucketGift") ∈ tables_1 from List.mem_append_left _ (List.mem_of_getElem? (i := 27) rfl))
theorem tw_n32 : (Cond.methodLinkNest RX6 32 yX4_init "BucketGift") ∈ lw_tbl := List.mem_append_right _ (show (Cond.methodLinkNest RX6 32 yX4_init "BucketGift") ∈ tables_1 from List.mem_append_left _ (List.mem_of_getElem? (i := 88) rfl))
theorem tw_n39 : (Cond.methodLinkNest RX6 39 yX2_init "BucketGift") ∈ lw_tbl := List.mem_append_right _ (show (Cond.methodLinkNest RX6 39 yX2_init "BucketGift") ∈ tables_1 from List.mem_append_left _ (List.mem_of_getElem? (i := 104) rfl))
theorem tw_n50 : (Cond.methodLinkNest RX6 50 yX3_init "BucketGift") ∈ lw_tbl := List.mem_append_right _ (show (Cond.methodLinkNest RX6 50 yX3_init "BucketGift") ∈ tables_1 from List.mem_append_left _ (List.mem_of_getElem? (i := 143) rfl))
theorem tw_n9 : (Cond.methodLinkNest RX2 9 yX5_init "BucketGift") ∈ lw_tbl := List.mem_append_right _ (show (Cond.methodLinkNest RX2 9 yX5_init "BucketGift") ∈ tables_1 from List.mem_append_left _ (List.mem_of_getElem? (i := 110) rfl))
theorem tw_s1 : (Cond.laysStatic "BucketGift$Parish" "MOST_WATER" "[I") ∈ lw_tbl := List.mem_append_right _ (show (Cond.laysStatic "BucketGift$Parish" "MOST_WATER" "[I") ∈ tables_1 from List.mem_append_left _ (List.mem_of_getElem? (i := 221) rfl))
theorem tw_s2 : (Cond.laysStatic "BucketGift$Kinds" "ABOVE" "[I") ∈ lw_tbl := List.mem_append_right _ (show (Cond.laysStatic "BucketGift$Kinds" "ABOVE" "[I") ∈ tables_1 from List.mem_append_right _ (List.mem_append_left _ (List.mem_of_getElem? (i := 54) rfl)))
theorem tw_s3 : (Cond.laysStatic "java/lang/String" "COMPACT_STRINGS" "Z") ∈ lw_tbl := List.mem_append_right _ (show (Cond.laysStatic "java/lang/String" "COMPACT_STRINGS" "Z") ∈ tables_1 from List.mem_append_right _ (List.mem_append_left _ (List.mem_of_getElem? (i := 237) rfl)))
theorem tw_s4 : (Cond.laysStatic "jdk/internal/util/Preconditions" "SIOOBE_FORMATTER" "Ljava/util/function/BiFunction;") ∈ lw_tbl := List.mem_append_right _ (show (Cond.laysStatic "jdk/internal/util/Preconditions" "SIOOBE_FORMATTER" "Ljava/util/function/BiFunction;") ∈ tables_1 from List.mem_append_right _ (List.mem_append_right _ (List.mem_append_left _ (List.mem_of_getElem? (i := 13) rfl))))
theorem tw_l7 : (Cond.classLink RL 7 RX6) ∈ lw_tbl := List.mem_append_right _ (show (Cond.classLink RL 7 RX6) ∈ tables_1 from List.mem_append_left _ (List.mem_of_getElem? (i := 17) rfl))
theorem tw_l10 : (Cond.classLink RL 10 RX7) ∈ lw_tbl := List.mem_append_right _ (show (Cond.classLink RL 10 RX7) ∈ tables_1 from List.mem_append_right _ (List.mem_append_right _ (List.mem_append_left _ (List.mem_of_getElem? (i := 169) rfl))))
theorem tw_m9 : (Cond.methodLink RL 9 yX6_init) ∈ lw_tbl := List.mem_append_right _ (show (Cond.methodLink RL 9 yX6_init) ∈ tables_1 from List.mem_append_left _ (List.mem_of_getElem? (i := 19) rfl))
theorem tw_m12 : (Cond.methodLink RL 12 yX7_init) ∈ lw_tbl := List.mem_append_right _ (show (Cond.methodLink RL 12 yX7_init) ∈ tables_1 from List.mem_append_right _ (List.mem_append_right _ (List.mem_append_left _ (List.mem_of_getElem? (i := 171) rfl))))
theorem tw_o6 : (Cond.instanceMethod yX6_init) ∈ lw_tbl := List.mem_append_right _ (show (Cond.instanceMethod yX6_init) ∈ tables_1 from List.mem_append_left _ (List.mem_of_getElem? (i := 20) rfl))
theorem tw_o7 : (Cond.instanceMethod yX7_init) ∈ lw_tbl := List.mem_append_right _ (show (Cond.instanceMethod yX7_init) ∈ tables_1 from List.mem_append_right _ (List.mem_append_right _ (List.mem_append_left _ (List.mem_of_getElem? (i := 172) rfl))))
theorem tw_t0 : (Cond.stringRef "BucketGift$Kinds" 29 "lazy") ∈ lw_tbl := List.mem_append_right _ (show (Cond.stringRef "BucketGift$Kinds" 29 "lazy") ∈ tables_1 from List.mem_append_right _ (List.mem_append_left _ (List.mem_of_getElem? (i := 218) rfl)))
theorem tw_t1 : (Cond.stringRef "BucketGift$Kinds" 31 "kind") ∈ lw_tbl := List.mem_append_right _ (show (Cond.stringRef "BucketGift$Kinds" 31 "kind") ∈ tables_1 from List.mem_append_right _ (List.mem_append_left _ (List.mem_of_getElem? (i := 219) rfl)))
theorem tw_t2 : (Cond.stringRef "BucketGift$Kinds" 33 "stranger") ∈ lw_tbl := List.mem_append_right _ (show (Cond.stringRef "BucketGift$Kinds" 33 "stranger") ∈ tables_1 from List.mem_append_right _ (List.mem_append_left _ (List.mem_of_getElem? (i := 220) rfl)))
theorem tw_t3 : (Cond.stringRef "BucketGift$Kinds" 35 "sham") ∈ lw_tbl := List.mem_append_right _ (show (Cond.stringRef "BucketGift$Kinds" 35 "sham") ∈ tables_1 from List.mem_append_right _ (List.mem_append_left _ (List.mem_of_getElem? (i := 221) rfl)))
theorem tw_t4 : (Cond.stringRef "BucketGift$Kinds" 37 "priest") ∈ lw_tbl := List.mem_append_right _ (show (Cond.stringRef "BucketGift$Kinds" 37 "priest") ∈ tables_1 from List.mem_append_right _ (List.mem_append_left _ (List.mem_of_getElem? (i := 222) rfl)))
theorem tw_t5 : (Cond.stringRef "BucketGift$Kinds" 39 "farmer") ∈ lw_tbl := List.mem_append_right _ (show (Cond.stringRef "BucketGift$Kinds" 39 "farmer") ∈ tables_1 from List.mem_append_right _ (List.mem_append_left _ (List.mem_of_getElem? (i := 223) rfl)))
theorem tw_t6 : (Cond.stringRef "BucketGift$ParishText" 51 "farm") ∈ lw_tbl := List.mem_append_right _ (show (Cond.stringRef "BucketGift$ParishText" 51 "farm") ∈ tables_1 from List.mem_append_right _ (List.mem_append_right _ (List.mem_append_left _ (List.mem_of_getElem? (i := 69) rfl))))
theorem tw_t7 : (Cond.stringRef "BucketGift$ParishText" 59 "well") ∈ lw_tbl := List.mem_append_right _ (show (Cond.stringRef "BucketGift$ParishText" 59 "well") ∈ tables_1 from List.mem_append_right _ (List.mem_append_right _ (List.mem_append_left _ (List.mem_of_getElem? (i := 77) rfl))))
theorem tw_t8 : (Cond.stringRef "BucketGift$ParishText" 74 "spring") ∈ lw_tbl := List.mem_append_right _ (show (Cond.stringRef "BucketGift$ParishText" 74 "spring") ∈ tables_1 from List.mem_append_right _ (List.mem_append_right _ (List.mem_append_left _ (List.mem_of_getElem? (i := 79) rfl))))
theorem tw_t9 : (Cond.stringRef "BucketGift$ParishText" 83 "did") ∈ lw_tbl := List.mem_append_right _ (show (Cond.stringRef "BucketGift$ParishText" 83 "did") ∈ tables_1 from List.mem_append_right _ (List.mem_append_right _ (List.mem_append_left _ (List.mem_of_getElem? (i := 45) rfl))))
theorem tw_t10 : (Cond.stringRef "BucketGift$ParishText" 88 "step") ∈ lw_tbl := List.mem_append_right _ (show (Cond.stringRef "BucketGift$ParishText" 88 "step") ∈ tables_1 from List.mem_append_right _ (List.mem_append_right _ (List.mem_append_left _ (List.mem_of_getElem? (i := 64) rfl))))
theorem tw_t11 : (Cond.stringRef "BucketGift$ParishText" 100 "need") ∈ lw_tbl := List.mem_append_right _ (show (Cond.stringRef "BucketGift$ParishText" 100 "need") ∈ tables_1 from List.mem_append_right _ (List.mem_append_right _ (List.mem_append_left _ (List.mem_of_getElem? (i := 74) rfl))))
theorem tw_t12 : (Cond.stringRef "BucketGift$ParishText" 104 "has") ∈ lw_tbl := List.mem_append_right _ (show (Cond.stringRef "BucketGift$ParishText" 104 "has") ∈ tables_1 from List.mem_append_right _ (List.mem_append_right _ (List.mem_append_left _ (List.mem_of_getElem? (i := 75) rfl))))
theorem tw_t13 : (Cond.stringRef "BucketGift$ParishText" 109 "sends") ∈ lw_tbl := List.mem_append_right _ (show (Cond.stringRef "BucketGift$ParishText" 109 "sends") ∈ tables_1 from List.mem_append_right _ (List.mem_append_right _ (List.mem_append_left _ (List.mem_of_getElem? (i := 76) rfl))))
theorem tw_t : ∀ i, i < 14 → (Cond.stringRef (gStr.getD i ("", 0, "")).1 (gStr.getD i ("", 0, "")).2.1 (gStr.getD i ("", 0, "")).2.2) ∈ lw_tbl := by
  intro i hi
  rcases (show i = 0 ∨ i = 1 ∨ i = 2 ∨ i = 3 ∨ i = 4 ∨ i = 5 ∨ i = 6 ∨ i = 7 ∨ i = 8 ∨ i = 9 ∨ i = 10 ∨ i = 11 ∨ i = 12 ∨ i = 13 by omega) with rfl | rfl | rfl | rfl | rfl | rfl | rfl | rfl | rfl | rfl | rfl | rfl | rfl | rfl
  · exact tw_t0
  · exact tw_t1
  · exact tw_t2
  · exact tw_t3
  · exact tw_t4
  · exact tw_t5
  · exact tw_t6
  · exact tw_t7
  · exact tw_t8
  · exact tw_t9
  · exact tw_t10
  · exact tw_t11
  · exact tw_t12
  · exact tw_t13
theorem fw_a1 : (Cond.arrayOf (.static "BucketGift$Parish" "MOST_WATER" "[I") .int) ∈ (flatC (Jvm.Cond.and given_1 narrow_1)) := by decide +kernel
theorem fw_a2 : (Cond.eq (.length (.static "BucketGift$Parish" "MOST_WATER" "[I")) (.int 3)) ∈ (flatC (Jvm.Cond.and given_1 narrow_1)) := by decide +kernel
theorem fw_a3 : ∀ j, j < 3 → (Cond.eq (.elem (.static "BucketGift$Parish" "MOST_WATER" "[I") (.int (Int32.ofNat j))) (.int (gMW j))) ∈ (flatC (Jvm.Cond.and given_1 narrow_1)) := by decide +kernel
theorem fw_b1 : (Cond.arrayOf (.static "BucketGift$Kinds" "ABOVE" "[I") .int) ∈ (flatC (Jvm.Cond.and given_1 narrow_1)) := by decide +kernel
theorem fw_b2 : (Cond.eq (.length (.static "BucketGift$Kinds" "ABOVE" "[I")) (.int 6)) ∈ (flatC (Jvm.Cond.and given_1 narrow_1)) := by decide +kernel
theorem fw_b3 : ∀ j, j < 6 → (Cond.eq (.elem (.static "BucketGift$Kinds" "ABOVE" "[I") (.int (Int32.ofNat j))) (.int (gAB j))) ∈ (flatC (Jvm.Cond.and given_1 narrow_1)) := by decide +kernel
theorem fw_c : (Cond.eq (.static "java/lang/String" "COMPACT_STRINGS" "Z") (.int 1)) ∈ (flatC (Jvm.Cond.and given_1 narrow_1)) := by decide +kernel
theorem fw_d : (Cond.isRef (.static "jdk/internal/util/Preconditions" "SIOOBE_FORMATTER" "Ljava/util/function/BiFunction;")) ∈ (flatC (Jvm.Cond.and given_1 narrow_1)) := by decide +kernel
def tmS (i : Nat) : Term := .string (gStr.getD i ("", 0, "")).1 (gStr.getD i ("", 0, "")).2.1
theorem fw_e1 : ∀ i, i < 14 → (Cond.exactly (tmS i) "java/lang/String") ∈ (flatC (Jvm.Cond.and given_1 narrow_1)) := by decide +kernel
theorem fw_e2 : ∀ i, i < 14 → (Cond.eq (.field (tmS i) "java/lang/String" "coder" "B") (.int 0)) ∈ (flatC (Jvm.Cond.and given_1 narrow_1)) := by decide +kernel
theorem fw_e3 : ∀ i, i < 14 → (Cond.arrayOf (.field (tmS i) "java/lang/String" "value" "[B") .byte) ∈ (flatC (Jvm.Cond.and given_1 narrow_1)) := by decide +kernel
theorem fw_e4 : ∀ i, i < 14 → (Cond.eq (.length (.field (tmS i) "java/lang/String" "value" "[B")) (.int (Int32.ofNat (gLen.getD i 0)))) ∈ (flatC (Jvm.Cond.and given_1 narrow_1)) := by decide +kernel
theorem fw_e5 : ∀ i, i < 14 → ∀ j, j < gLen.getD i 0 → (Cond.eq (.elem (.field (tmS i) "java/lang/String" "value" "[B") (.int (Int32.ofNat j))) (.int ((gByt.getD i []).getD j 0))) ∈ (flatC (Jvm.Cond.and given_1 narrow_1)) := by decide +kernel
theorem fw_p1_0 : (Cond.not (Cond.eq (tmS 0) (tmS 1))) ∈ (flatC (Jvm.Cond.and given_1 narrow_1)) := List.mem_of_getElem? (i := 40) (by decide +kernel)
theorem fw_p2_0 : (Cond.not (Cond.eq (tmS 0) (tmS 2))) ∈ (flatC (Jvm.Cond.and given_1 narrow_1)) := List.mem_of_getElem? (i := 53) (by decide +kernel)
theorem fw_p2_1 : (Cond.not (Cond.eq (tmS 1) (tmS 2))) ∈ (flatC (Jvm.Cond.and given_1 narrow_1)) := List.mem_of_getElem? (i := 54) (by decide +kernel)
theorem fw_p3_0 : (Cond.not (Cond.eq (tmS 0) (tmS 3))) ∈ (flatC (Jvm.Cond.and given_1 narrow_1)) := List.mem_of_getElem? (i := 63) (by decide +kernel)
theorem fw_p3_1 : (Cond.not (Cond.eq (tmS 1) (tmS 3))) ∈ (flatC (Jvm.Cond.and given_1 narrow_1)) := List.mem_of_getElem? (i := 64) (by decide +kernel)
theorem fw_p3_2 : (Cond.not (Cond.eq (tmS 2) (tmS 3))) ∈ (flatC (Jvm.Cond.and given_1 narrow_1)) := List.mem_of_getElem? (i := 65) (by decide +kernel)
theorem fw_p4_0 : (Cond.not (Cond.eq (tmS 0) (tmS 4))) ∈ (flatC (Jvm.Cond.and given_1 narrow_1)) := List.mem_of_getElem? (i := 76) (by decide +kernel)
theorem fw_p4_1 : (Cond.not (Cond.eq (tmS 1) (tmS 4))) ∈ (flatC (Jvm.Cond.and given_1 narrow_1)) := List.mem_of_getElem? (i := 77) (by decide +kernel)
theorem fw_p4_2 : (Cond.not (Cond.eq (tmS 2) (tmS 4))) ∈ (flatC (Jvm.Cond.and given_1 narrow_1)) := List.mem_of_getElem? (i := 78) (by decide +kernel)
theorem fw_p4_3 : (Cond.not (Cond.eq (tmS 3) (tmS 4))) ∈ (flatC (Jvm.Cond.and given_1 narrow_1)) := List.mem_of_getElem? (i := 79) (by decide +kernel)
theorem fw_p5_0 : (Cond.not (Cond.eq (tmS 0) (tmS 5))) ∈ (flatC (Jvm.Cond.and given_1 narrow_1)) := List.mem_of_getElem? (i := 90) (by decide +kernel)
theorem fw_p5_1 : (Cond.not (Cond.eq (tmS 1) (tmS 5))) ∈ (flatC (Jvm.Cond.and given_1 narrow_1)) := List.mem_of_getElem? (i := 91) (by decide +kernel)
theorem fw_p5_2 : (Cond.not (Cond.eq (tmS 2) (tmS 5))) ∈ (flatC (Jvm.Cond.and given_1 narrow_1)) := List.mem_of_getElem? (i := 92) (by decide +kernel)
theorem fw_p5_3 : (Cond.not (Cond.eq (tmS 3) (tmS 5))) ∈ (flatC (Jvm.Cond.and given_1 narrow_1)) := List.mem_of_getElem? (i := 93) (by decide +kernel)
theorem fw_p5_4 : (Cond.not (Cond.eq (tmS 4) (tmS 5))) ∈ (flatC (Jvm.Cond.and given_1 narrow_1)) := List.mem_of_getElem? (i := 94) (by decide +kernel)
theorem fw_p6_0 : (Cond.not (Cond.eq (tmS 0) (tmS 6))) ∈ (flatC (Jvm.Cond.and given_1 narrow_1)) := List.mem_of_getElem? (i := 131) (by decide +kernel)
theorem fw_p6_1 : (Cond.not (Cond.eq (tmS 1) (tmS 6))) ∈ (flatC (Jvm.Cond.and given_1 narrow_1)) := List.mem_of_getElem? (i := 132) (by decide +kernel)
theorem fw_p6_2 : (Cond.not (Cond.eq (tmS 2) (tmS 6))) ∈ (flatC (Jvm.Cond.and given_1 narrow_1)) := List.mem_of_getElem? (i := 133) (by decide +kernel)
theorem fw_p6_3 : (Cond.not (Cond.eq (tmS 3) (tmS 6))) ∈ (flatC (Jvm.Cond.and given_1 narrow_1)) := List.mem_of_getElem? (i := 134) (by decide +kernel)
theorem fw_p6_4 : (Cond.not (Cond.eq (tmS 4) (tmS 6))) ∈ (flatC (Jvm.Cond.and given_1 narrow_1)) := List.mem_of_getElem? (i := 135) (by decide +kernel)
theorem fw_p6_5 : (Cond.not (Cond.eq (tmS 5) (tmS 6))) ∈ (flatC (Jvm.Cond.and given_1 narrow_1)) := List.mem_of_getElem? (i := 136) (by decide +kernel)
theorem fw_p7_0 : (Cond.not (Cond.eq (tmS 0) (tmS 7))) ∈ (flatC (Jvm.Cond.and given_1 narrow_1)) := List.mem_of_getElem? (i := 201) (by decide +kernel)
theorem fw_p7_1 : (Cond.not (Cond.eq (tmS 1) (tmS 7))) ∈ (flatC (Jvm.Cond.and given_1 narrow_1)) := List.mem_of_getElem? (i := 202) (by decide +kernel)
theorem fw_p7_2 : (Cond.not (Cond.eq (tmS 2) (tmS 7))) ∈ (flatC (Jvm.Cond.and given_1 narrow_1)) := List.mem_of_getElem? (i := 203) (by decide +kernel)
theorem fw_p7_3 : (Cond.not (Cond.eq (tmS 3) (tmS 7))) ∈ (flatC (Jvm.Cond.and given_1 narrow_1)) := List.mem_of_getElem? (i := 204) (by decide +kernel)
theorem fw_p7_4 : (Cond.not (Cond.eq (tmS 4) (tmS 7))) ∈ (flatC (Jvm.Cond.and given_1 narrow_1)) := List.mem_of_getElem? (i := 205) (by decide +kernel)
theorem fw_p7_5 : (Cond.not (Cond.eq (tmS 5) (tmS 7))) ∈ (flatC (Jvm.Cond.and given_1 narrow_1)) := List.mem_of_getElem? (i := 206) (by decide +kernel)
theorem fw_p7_6 : (Cond.not (Cond.eq (tmS 6) (tmS 7))) ∈ (flatC (Jvm.Cond.and given_1 narrow_1)) := List.mem_of_getElem? (i := 209) (by decide +kernel)
theorem fw_p8_0 : (Cond.not (Cond.eq (tmS 0) (tmS 8))) ∈ (flatC (Jvm.Cond.and given_1 narrow_1)) := List.mem_of_getElem? (i := 223) (by decide +kernel)
theorem fw_p8_1 : (Cond.not (Cond.eq (tmS 1) (tmS 8))) ∈ (flatC (Jvm.Cond.and given_1 narrow_1)) := List.mem_of_getElem? (i := 224) (by decide +kernel)
theorem fw_p8_2 : (Cond.not (Cond.eq (tmS 2) (tmS 8))) ∈ (flatC (Jvm.Cond.and given_1 narrow_1)) := List.mem_of_getElem? (i := 225) (by decide +kernel)
theorem fw_p8_3 : (Cond.not (Cond.eq (tmS 3) (tmS 8))) ∈ (flatC (Jvm.Cond.and given_1 narrow_1)) := List.mem_of_getElem? (i := 226) (by decide +kernel)
theorem fw_p8_4 : (Cond.not (Cond.eq (tmS 4) (tmS 8))) ∈ (flatC (Jvm.Cond.and given_1 narrow_1)) := List.mem_of_getElem? (i := 227) (by decide +kernel)
theorem fw_p8_5 : (Cond.not (Cond.eq (tmS 5) (tmS 8))) ∈ (flatC (Jvm.Cond.and given_1 narrow_1)) := List.mem_of_getElem? (i := 228) (by decide +kernel)
theorem fw_p8_6 : (Cond.not (Cond.eq (tmS 6) (tmS 8))) ∈ (flatC (Jvm.Cond.and given_1 narrow_1)) := List.mem_of_getElem? (i := 231) (by decide +kernel)
theorem fw_p8_7 : (Cond.not (Cond.eq (tmS 7) (tmS 8))) ∈ (flatC (Jvm.Cond.and given_1 narrow_1)) := List.mem_of_getElem? (i := 235) (by decide +kernel)
theorem fw_p9_0 : (Cond.not (Cond.eq (tmS 0) (tmS 9))) ∈ (flatC (Jvm.Cond.and given_1 narrow_1)) := List.mem_of_getElem? (i := 102) (by decide +kernel)
theorem fw_p9_1 : (Cond.not (Cond.eq (tmS 1) (tmS 9))) ∈ (flatC (Jvm.Cond.and given_1 narrow_1)) := List.mem_of_getElem? (i := 103) (by decide +kernel)
theorem fw_p9_2 : (Cond.not (Cond.eq (tmS 2) (tmS 9))) ∈ (flatC (Jvm.Cond.and given_1 narrow_1)) := List.mem_of_getElem? (i := 104) (by decide +kernel)
theorem fw_p9_3 : (Cond.not (Cond.eq (tmS 3) (tmS 9))) ∈ (flatC (Jvm.Cond.and given_1 narrow_1)) := List.mem_of_getElem? (i := 105) (by decide +kernel)
theorem fw_p9_4 : (Cond.not (Cond.eq (tmS 4) (tmS 9))) ∈ (flatC (Jvm.Cond.and given_1 narrow_1)) := List.mem_of_getElem? (i := 106) (by decide +kernel)
theorem fw_p9_5 : (Cond.not (Cond.eq (tmS 5) (tmS 9))) ∈ (flatC (Jvm.Cond.and given_1 narrow_1)) := List.mem_of_getElem? (i := 107) (by decide +kernel)
theorem fw_p9_6 : (Cond.not (Cond.eq (tmS 9) (tmS 6))) ∈ (flatC (Jvm.Cond.and given_1 narrow_1)) := List.mem_of_getElem? (i := 137) (by decide +kernel)
theorem fw_p9_7 : (Cond.not (Cond.eq (tmS 9) (tmS 7))) ∈ (flatC (Jvm.Cond.and given_1 narrow_1)) := List.mem_of_getElem? (i := 207) (by decide +kernel)
theorem fw_p9_8 : (Cond.not (Cond.eq (tmS 9) (tmS 8))) ∈ (flatC (Jvm.Cond.and given_1 narrow_1)) := List.mem_of_getElem? (i := 229) (by decide +kernel)
theorem fw_p10_0 : (Cond.not (Cond.eq (tmS 0) (tmS 10))) ∈ (flatC (Jvm.Cond.and given_1 narrow_1)) := List.mem_of_getElem? (i := 116) (by decide +kernel)
theorem fw_p10_1 : (Cond.not (Cond.eq (tmS 1) (tmS 10))) ∈ (flatC (Jvm.Cond.and given_1 narrow_1)) := List.mem_of_getElem? (i := 117) (by decide +kernel)
theorem fw_p10_2 : (Cond.not (Cond.eq (tmS 2) (tmS 10))) ∈ (flatC (Jvm.Cond.and given_1 narrow_1)) := List.mem_of_getElem? (i := 118) (by decide +kernel)
theorem fw_p10_3 : (Cond.not (Cond.eq (tmS 3) (tmS 10))) ∈ (flatC (Jvm.Cond.and given_1 narrow_1)) := List.mem_of_getElem? (i := 119) (by decide +kernel)
theorem fw_p10_4 : (Cond.not (Cond.eq (tmS 4) (tmS 10))) ∈ (flatC (Jvm.Cond.and given_1 narrow_1)) := List.mem_of_getElem? (i := 120) (by decide +kernel)
theorem fw_p10_5 : (Cond.not (Cond.eq (tmS 5) (tmS 10))) ∈ (flatC (Jvm.Cond.and given_1 narrow_1)) := List.mem_of_getElem? (i := 121) (by decide +kernel)
theorem fw_p10_6 : (Cond.not (Cond.eq (tmS 10) (tmS 6))) ∈ (flatC (Jvm.Cond.and given_1 narrow_1)) := List.mem_of_getElem? (i := 138) (by decide +kernel)
theorem fw_p10_7 : (Cond.not (Cond.eq (tmS 10) (tmS 7))) ∈ (flatC (Jvm.Cond.and given_1 narrow_1)) := List.mem_of_getElem? (i := 208) (by decide +kernel)
theorem fw_p10_8 : (Cond.not (Cond.eq (tmS 10) (tmS 8))) ∈ (flatC (Jvm.Cond.and given_1 narrow_1)) := List.mem_of_getElem? (i := 230) (by decide +kernel)
theorem fw_p10_9 : (Cond.not (Cond.eq (tmS 9) (tmS 10))) ∈ (flatC (Jvm.Cond.and given_1 narrow_1)) := List.mem_of_getElem? (i := 122) (by decide +kernel)
theorem fw_p11_0 : (Cond.not (Cond.eq (tmS 0) (tmS 11))) ∈ (flatC (Jvm.Cond.and given_1 narrow_1)) := List.mem_of_getElem? (i := 147) (by decide +kernel)
theorem fw_p11_1 : (Cond.not (Cond.eq (tmS 1) (tmS 11))) ∈ (flatC (Jvm.Cond.and given_1 narrow_1)) := List.mem_of_getElem? (i := 148) (by decide +kernel)
theorem fw_p11_2 : (Cond.not (Cond.eq (tmS 2) (tmS 11))) ∈ (flatC (Jvm.Cond.and given_1 narrow_1)) := List.mem_of_getElem? (i := 149) (by decide +kernel)
theorem fw_p11_3 : (Cond.not (Cond.eq (tmS 3) (tmS 11))) ∈ (flatC (Jvm.Cond.and given_1 narrow_1)) := List.mem_of_getElem? (i := 150) (by decide +kernel)
theorem fw_p11_4 : (Cond.not (Cond.eq (tmS 4) (tmS 11))) ∈ (flatC (Jvm.Cond.and given_1 narrow_1)) := List.mem_of_getElem? (i := 151) (by decide +kernel)
theorem fw_p11_5 : (Cond.not (Cond.eq (tmS 5) (tmS 11))) ∈ (flatC (Jvm.Cond.and given_1 narrow_1)) := List.mem_of_getElem? (i := 152) (by decide +kernel)
theorem fw_p11_6 : (Cond.not (Cond.eq (tmS 6) (tmS 11))) ∈ (flatC (Jvm.Cond.and given_1 narrow_1)) := List.mem_of_getElem? (i := 155) (by decide +kernel)
theorem fw_p11_7 : (Cond.not (Cond.eq (tmS 11) (tmS 7))) ∈ (flatC (Jvm.Cond.and given_1 narrow_1)) := List.mem_of_getElem? (i := 210) (by decide +kernel)
theorem fw_p11_8 : (Cond.not (Cond.eq (tmS 11) (tmS 8))) ∈ (flatC (Jvm.Cond.and given_1 narrow_1)) := List.mem_of_getElem? (i := 232) (by decide +kernel)
theorem fw_p11_9 : (Cond.not (Cond.eq (tmS 9) (tmS 11))) ∈ (flatC (Jvm.Cond.and given_1 narrow_1)) := List.mem_of_getElem? (i := 153) (by decide +kernel)
theorem fw_p11_10 : (Cond.not (Cond.eq (tmS 10) (tmS 11))) ∈ (flatC (Jvm.Cond.and given_1 narrow_1)) := List.mem_of_getElem? (i := 154) (by decide +kernel)
theorem fw_p12_0 : (Cond.not (Cond.eq (tmS 0) (tmS 12))) ∈ (flatC (Jvm.Cond.and given_1 narrow_1)) := List.mem_of_getElem? (i := 163) (by decide +kernel)
theorem fw_p12_1 : (Cond.not (Cond.eq (tmS 1) (tmS 12))) ∈ (flatC (Jvm.Cond.and given_1 narrow_1)) := List.mem_of_getElem? (i := 164) (by decide +kernel)
theorem fw_p12_2 : (Cond.not (Cond.eq (tmS 2) (tmS 12))) ∈ (flatC (Jvm.Cond.and given_1 narrow_1)) := List.mem_of_getElem? (i := 165) (by decide +kernel)
theorem fw_p12_3 : (Cond.not (Cond.eq (tmS 3) (tmS 12))) ∈ (flatC (Jvm.Cond.and given_1 narrow_1)) := List.mem_of_getElem? (i := 166) (by decide +kernel)
theorem fw_p12_4 : (Cond.not (Cond.eq (tmS 4) (tmS 12))) ∈ (flatC (Jvm.Cond.and given_1 narrow_1)) := List.mem_of_getElem? (i := 167) (by decide +kernel)
theorem fw_p12_5 : (Cond.not (Cond.eq (tmS 5) (tmS 12))) ∈ (flatC (Jvm.Cond.and given_1 narrow_1)) := List.mem_of_getElem? (i := 168) (by decide +kernel)
theorem fw_p12_6 : (Cond.not (Cond.eq (tmS 6) (tmS 12))) ∈ (flatC (Jvm.Cond.and given_1 narrow_1)) := List.mem_of_getElem? (i := 171) (by decide +kernel)
theorem fw_p12_7 : (Cond.not (Cond.eq (tmS 12) (tmS 7))) ∈ (flatC (Jvm.Cond.and given_1 narrow_1)) := List.mem_of_getElem? (i := 211) (by decide +kernel)
theorem fw_p12_8 : (Cond.not (Cond.eq (tmS 12) (tmS 8))) ∈ (flatC (Jvm.Cond.and given_1 narrow_1)) := List.mem_of_getElem? (i := 233) (by decide +kernel)
theorem fw_p12_9 : (Cond.not (Cond.eq (tmS 9) (tmS 12))) ∈ (flatC (Jvm.Cond.and given_1 narrow_1)) := List.mem_of_getElem? (i := 169) (by decide +kernel)
theorem fw_p12_10 : (Cond.not (Cond.eq (tmS 10) (tmS 12))) ∈ (flatC (Jvm.Cond.and given_1 narrow_1)) := List.mem_of_getElem? (i := 170) (by decide +kernel)
theorem fw_p12_11 : (Cond.not (Cond.eq (tmS 11) (tmS 12))) ∈ (flatC (Jvm.Cond.and given_1 narrow_1)) := List.mem_of_getElem? (i := 172) (by decide +kernel)
theorem fw_p13_0 : (Cond.not (Cond.eq (tmS 0) (tmS 13))) ∈ (flatC (Jvm.Cond.and given_1 narrow_1)) := List.mem_of_getElem? (i := 182) (by decide +kernel)
theorem fw_p13_1 : (Cond.not (Cond.eq (tmS 1) (tmS 13))) ∈ (flatC (Jvm.Cond.and given_1 narrow_1)) := List.mem_of_getElem? (i := 183) (by decide +kernel)
theorem fw_p13_2 : (Cond.not (Cond.eq (tmS 2) (tmS 13))) ∈ (flatC (Jvm.Cond.and given_1 narrow_1)) := List.mem_of_getElem? (i := 184) (by decide +kernel)
theorem fw_p13_3 : (Cond.not (Cond.eq (tmS 3) (tmS 13))) ∈ (flatC (Jvm.Cond.and given_1 narrow_1)) := List.mem_of_getElem? (i := 185) (by decide +kernel)
theorem fw_p13_4 : (Cond.not (Cond.eq (tmS 4) (tmS 13))) ∈ (flatC (Jvm.Cond.and given_1 narrow_1)) := List.mem_of_getElem? (i := 186) (by decide +kernel)
theorem fw_p13_5 : (Cond.not (Cond.eq (tmS 5) (tmS 13))) ∈ (flatC (Jvm.Cond.and given_1 narrow_1)) := List.mem_of_getElem? (i := 187) (by decide +kernel)
theorem fw_p13_6 : (Cond.not (Cond.eq (tmS 6) (tmS 13))) ∈ (flatC (Jvm.Cond.and given_1 narrow_1)) := List.mem_of_getElem? (i := 190) (by decide +kernel)
theorem fw_p13_7 : (Cond.not (Cond.eq (tmS 13) (tmS 7))) ∈ (flatC (Jvm.Cond.and given_1 narrow_1)) := List.mem_of_getElem? (i := 212) (by decide +kernel)
theorem fw_p13_8 : (Cond.not (Cond.eq (tmS 13) (tmS 8))) ∈ (flatC (Jvm.Cond.and given_1 narrow_1)) := List.mem_of_getElem? (i := 234) (by decide +kernel)
theorem fw_p13_9 : (Cond.not (Cond.eq (tmS 9) (tmS 13))) ∈ (flatC (Jvm.Cond.and given_1 narrow_1)) := List.mem_of_getElem? (i := 188) (by decide +kernel)
theorem fw_p13_10 : (Cond.not (Cond.eq (tmS 10) (tmS 13))) ∈ (flatC (Jvm.Cond.and given_1 narrow_1)) := List.mem_of_getElem? (i := 189) (by decide +kernel)
theorem fw_p13_11 : (Cond.not (Cond.eq (tmS 11) (tmS 13))) ∈ (flatC (Jvm.Cond.and given_1 narrow_1)) := List.mem_of_getElem? (i := 191) (by decide +kernel)
theorem fw_p13_12 : (Cond.not (Cond.eq (tmS 12) (tmS 13))) ∈ (flatC (Jvm.Cond.and given_1 narrow_1)) := List.mem_of_getElem? (i := 192) (by decide +kernel)
theorem fw_e6 : ∀ i, i < 14 → ∀ j, j < i → ((Cond.not (Cond.eq (tmS i) (tmS j))) ∈ (flatC (Jvm.Cond.and given_1 narrow_1)) ∨ (Cond.not (Cond.eq (tmS j) (tmS i))) ∈ (flatC (Jvm.Cond.and given_1 narrow_1))) := by
  intro i hi j hj
  rcases (show i = 0 ∨ i = 1 ∨ i = 2 ∨ i = 3 ∨ i = 4 ∨ i = 5 ∨ i = 6 ∨ i = 7 ∨ i = 8 ∨ i = 9 ∨ i = 10 ∨ i = 11 ∨ i = 12 ∨ i = 13 by omega) with rfl | rfl | rfl | rfl | rfl | rfl | rfl | rfl | rfl | rfl | rfl | rfl | rfl | rfl
  · omega
  · rcases (show j = 0 by omega) with rfl
    · exact Or.inr fw_p1_0
  · rcases (show j = 0 ∨ j = 1 by omega) with rfl | rfl
    · exact Or.inr fw_p2_0
    · exact Or.inr fw_p2_1
  · rcases (show j = 0 ∨ j = 1 ∨ j = 2 by omega) with rfl | rfl | rfl
    · exact Or.inr fw_p3_0
    · exact Or.inr fw_p3_1
    · exact Or.inr fw_p3_2
  · rcases (show j = 0 ∨ j = 1 ∨ j = 2 ∨ j = 3 by omega) with rfl | rfl | rfl | rfl
    · exact Or.inr fw_p4_0
    · exact Or.inr fw_p4_1
    · exact Or.inr fw_p4_2
    · exact Or.inr fw_p4_3
  · rcases (show j = 0 ∨ j = 1 ∨ j = 2 ∨ j = 3 ∨ j = 4 by omega) with rfl | rfl | rfl | rfl | rfl
    · exact Or.inr fw_p5_0
    · exact Or.inr fw_p5_1
    · exact Or.inr fw_p5_2
    · exact Or.inr fw_p5_3
    · exact Or.inr fw_p5_4
  · rcases (show j = 0 ∨ j = 1 ∨ j = 2 ∨ j = 3 ∨ j = 4 ∨ j = 5 by omega) with rfl | rfl | rfl | rfl | rfl | rfl
    · exact Or.inr fw_p6_0
    · exact Or.inr fw_p6_1
    · exact Or.inr fw_p6_2
    · exact Or.inr fw_p6_3
    · exact Or.inr fw_p6_4
    · exact Or.inr fw_p6_5
  · rcases (show j = 0 ∨ j = 1 ∨ j = 2 ∨ j = 3 ∨ j = 4 ∨ j = 5 ∨ j = 6 by omega) with rfl | rfl | rfl | rfl | rfl | rfl | rfl
    · exact Or.inr fw_p7_0
    · exact Or.inr fw_p7_1
    · exact Or.inr fw_p7_2
    · exact Or.inr fw_p7_3
    · exact Or.inr fw_p7_4
    · exact Or.inr fw_p7_5
    · exact Or.inr fw_p7_6
  · rcases (show j = 0 ∨ j = 1 ∨ j = 2 ∨ j = 3 ∨ j = 4 ∨ j = 5 ∨ j = 6 ∨ j = 7 by omega) with rfl | rfl | rfl | rfl | rfl | rfl | rfl | rfl
    · exact Or.inr fw_p8_0
    · exact Or.inr fw_p8_1
    · exact Or.inr fw_p8_2
    · exact Or.inr fw_p8_3
    · exact Or.inr fw_p8_4
    · exact Or.inr fw_p8_5
    · exact Or.inr fw_p8_6
    · exact Or.inr fw_p8_7
  · rcases (show j = 0 ∨ j = 1 ∨ j = 2 ∨ j = 3 ∨ j = 4 ∨ j = 5 ∨ j = 6 ∨ j = 7 ∨ j = 8 by omega) with rfl | rfl | rfl | rfl | rfl | rfl | rfl | rfl | rfl
    · exact Or.inr fw_p9_0
    · exact Or.inr fw_p9_1
    · exact Or.inr fw_p9_2
    · exact Or.inr fw_p9_3
    · exact Or.inr fw_p9_4
    · exact Or.inr fw_p9_5
    · exact Or.inl fw_p9_6
    · exact Or.inl fw_p9_7
    · exact Or.inl fw_p9_8
  · rcases (show j = 0 ∨ j = 1 ∨ j = 2 ∨ j = 3 ∨ j = 4 ∨ j = 5 ∨ j = 6 ∨ j = 7 ∨ j = 8 ∨ j = 9 by omega) with rfl | rfl | rfl | rfl | rfl | rfl | rfl | rfl | rfl | rfl
    · exact Or.inr fw_p10_0
    · exact Or.inr fw_p10_1
    · exact Or.inr fw_p10_2
    · exact Or.inr fw_p10_3
    · exact Or.inr fw_p10_4
    · exact Or.inr fw_p10_5
    · exact Or.inl fw_p10_6
    · exact Or.inl fw_p10_7
    · exact Or.inl fw_p10_8
    · exact Or.inr fw_p10_9
  · rcases (show j = 0 ∨ j = 1 ∨ j = 2 ∨ j = 3 ∨ j = 4 ∨ j = 5 ∨ j = 6 ∨ j = 7 ∨ j = 8 ∨ j = 9 ∨ j = 10 by omega) with rfl | rfl | rfl | rfl | rfl | rfl | rfl | rfl | rfl | rfl | rfl
    · exact Or.inr fw_p11_0
    · exact Or.inr fw_p11_1
    · exact Or.inr fw_p11_2
    · exact Or.inr fw_p11_3
    · exact Or.inr fw_p11_4
    · exact Or.inr fw_p11_5
    · exact Or.inr fw_p11_6
    · exact Or.inl fw_p11_7
    · exact Or.inl fw_p11_8
    · exact Or.inr fw_p11_9
    · exact Or.inr fw_p11_10
  · rcases (show j = 0 ∨ j = 1 ∨ j = 2 ∨ j = 3 ∨ j = 4 ∨ j = 5 ∨ j = 6 ∨ j = 7 ∨ j = 8 ∨ j = 9 ∨ j = 10 ∨ j = 11 by omega) with rfl | rfl | rfl | rfl | rfl | rfl | rfl | rfl | rfl | rfl | rfl | rfl
    · exact Or.inr fw_p12_0
    · exact Or.inr fw_p12_1
    · exact Or.inr fw_p12_2
    · exact Or.inr fw_p12_3
    · exact Or.inr fw_p12_4
    · exact Or.inr fw_p12_5
    · exact Or.inr fw_p12_6
    · exact Or.inl fw_p12_7
    · exact Or.inl fw_p12_8
    · exact Or.inr fw_p12_9
    · exact Or.inr fw_p12_10
    · exact Or.inr fw_p12_11
  · rcases (show j = 0 ∨ j = 1 ∨ j = 2 ∨ j = 3 ∨ j = 4 ∨ j = 5 ∨ j = 6 ∨ j = 7 ∨ j = 8 ∨ j = 9 ∨ j = 10 ∨ j = 11 ∨ j = 12 by omega) with rfl | rfl | rfl | rfl | rfl | rfl | rfl | rfl | rfl | rfl | rfl | rfl | rfl
    · exact Or.inr fw_p13_0
    · exact Or.inr fw_p13_1
    · exact Or.inr fw_p13_2
    · exact Or.inr fw_p13_3
    · exact Or.inr fw_p13_4
    · exact Or.inr fw_p13_5
    · exact Or.inr fw_p13_6
    · exact Or.inl fw_p13_7
    · exact Or.inl fw_p13_8
    · exact Or.inr fw_p13_9
    · exact Or.inr fw_p13_10
    · exact Or.inr fw_p13_11
    · exact Or.inr fw_p13_12
theorem start_G {b : Nat} {s : State} (hts0 : ∀ w ∈ lw_tbl, w.before #[Value.ref b] s = true) (hgv : (Jvm.Cond.and given_1 narrow_1).before #[Value.ref b] s = true) : ∃ gz : GZ, gs gz (fun q : Nat => s.heap.size ≤ q) s s.heap := by
  have hs := flat_of_before _ hgv
  have hA : ∀ a : Nat, a < s.heap.size → ¬ (fun q : Nat => s.heap.size ≤ q) a := fun a h => Nat.not_le.mpr h
  obtain ⟨t1, e1, T1⟩ := va_Tof (tm := .static "BucketGift$Parish" "MOST_WATER" "[I") (ty := .int) (N := 3) (f := fun j => .int (gMW j)) (A := fun q : Nat => s.heap.size ≤ q) (by decide) (hs _ fw_a1) (va_eqt (hs _ fw_a2)) (fun j hj => va_eqt (hs _ (fw_a3 j hj))) hA
  obtain ⟨t2, e2, T2⟩ := va_Tof (tm := .static "BucketGift$Kinds" "ABOVE" "[I") (ty := .int) (N := 6) (f := fun j => .int (gAB j)) (A := fun q : Nat => s.heap.size ≤ q) (by decide) (hs _ fw_b1) (va_eqt (hs _ fw_b2)) (fun j hj => va_eqt (hs _ (fw_b3 j hj))) hA
  obtain ⟨adK, adV, S1, S2⟩ := vk_Sof (args := #[Value.ref b]) (s := s) (N := 14) (tm := tmS) (len := gLen) (byt := gByt) (A := fun q : Nat => s.heap.size ≤ q) (by decide) (fun i hi => hs _ (fw_e1 i hi)) (fun i hi => hs _ (fw_e2 i hi)) (fun i hi => hs _ (fw_e3 i hi)) (fun i hi => hs _ (fw_e4 i hi)) (fun i hi j hj => hs _ (fw_e5 i hi j hj)) (fun i j hi hj hij => by
    by_cases h : j < i
    · rcases fw_e6 i hi j h with h | h
      · exact Or.inl (hs _ h)
      · exact Or.inr (hs _ h)
    · rcases fw_e6 j hj i (by omega) with h | h
      · exact Or.inr (hs _ h)
      · exact Or.inl (hs _ h)) hA
  refine ⟨(t1, t2, adK, adV), va_Zref (hts0 _ tw_s1) (hts0 _ tw_nX1) e1 hA, T1, va_Zref (hts0 _ tw_s2) (hts0 _ tw_nX0) e2 hA, T2, va_Zof (hts0 _ tw_s3) (hts0 _ tw_nS) (va_eqi (hs _ fw_c)) hA, S1, fun i hi => vk_R.of (hts0 _ (tw_t i hi)) (S2 i hi), va_Zqof (hts0 _ tw_s4) (hts0 _ tw_nP) (hs _ fw_d) hA⟩
theorem start_E {b : Nat} {s : State} (hts0 : ∀ w ∈ lw_tbl, w.before #[Value.ref b] s = true) : ex_6 s :=
  ⟨va_Nw.of rfl (hts0 _ tw_n15), va_Nw.of rfl (hts0 _ tw_n32), va_Nw.of rfl (hts0 _ tw_n39), va_Nw.of rfl (hts0 _ tw_n50), va_AO.of (hts0 _ tw_aQ), va_Nw.of rfl (hts0 _ tw_n9)⟩
theorem fiL_X1 : ∀ w ∈ wsX10, w ∈ wsL_law := fun w h => (gL_law_X6_init w (fiX6_init_X1 w h)).1
theorem fiL_X2 : ∀ w ∈ wsX20, w ∈ wsL_law := fun w h => (gL_law_X6_init w (fiX6_init_X2 w h)).1
theorem fiL_X3 : ∀ w ∈ wsX30, w ∈ wsL_law := fun w h => (gL_law_X6_init w (fiX6_init_X3 w h)).1
theorem fiL_X4 : ∀ w ∈ wsX40, w ∈ wsL_law := fun w h => (gL_law_X6_init w (fiX6_init_X4 w h)).1
theorem fiL_X5 : ∀ w ∈ wsX50, w ∈ wsL_law := fun w h => (gL_law_X6_init w (gX6_init_X2_init_n39 w (fiX2_init_X5 w h)).1).1
theorem fiL_X6 : ∀ w ∈ wsX60, w ∈ wsL_law := fun w h => (gL_law_X6_init w (fiX6_init_X6 w h)).1
theorem fiL_X7 : ∀ w ∈ wsX70, w ∈ wsL_law := fun w h => (gL_law_X7_init w (fiX7_init_X7 w h)).1
theorem start_K {b : Nat} {s : State} (hts0 : ∀ w ∈ lw_tbl, w.before #[Value.ref b] s = true) : ∃ (dC : Nat → ClassId) (dI : Nat → Nat → Nat) (cI cJ cQ : ClassId), va_K (dC, dI) vwCl (gty cI cJ cQ) s := by
  have hts : ∀ w ∈ wsL_law, w.before #[Value.ref b] s = true := fun w h => hts0 w (wsL_law_in w h)
  obtain ⟨c0, i0, k0⟩ := u_known (C := RX1) (T := TX1) (N := 12) (n := 12) hts fiL_X1 (hts0 _ tw_iX1)
  obtain ⟨c1, i1, k1⟩ := u_known (C := RX2) (T := TX2) (N := 1) (n := 1) hts fiL_X2 (hts0 _ tw_iX2)
  obtain ⟨c2, i2, k2⟩ := u_known (C := RX3) (T := TX3) (N := 3) (n := 3) hts fiL_X3 (hts0 _ tw_iX3)
  obtain ⟨c3, i3, k3⟩ := u_known (C := RX4) (T := TX4) (N := 2) (n := 2) hts fiL_X4 (hts0 _ tw_iX4)
  obtain ⟨c4, i4, k4⟩ := u_known (C := RX5) (T := TX5) (N := 7) (n := 7) hts fiL_X5 (hts0 _ tw_iX5)
  obtain ⟨c5, i5, k5⟩ := u_known (C := RX6) (T := TX6) (N := 8) (n := 8) hts fiL_X6 (hts0 _ tw_iX6)
  obtain ⟨c6, i6, k6⟩ := u_known (C := RX7) (T := TX7) (N := 18) (n := 18) hts fiL_X7 (hts0 _ tw_iX7)
  obtain ⟨cI, kI, mI, aI1, aI2, aI3⟩ := Cond.arrayClass_spec (hts0 _ tw_aI)
  obtain ⟨cJ, kJ, mJ, aJ1, aJ2, aJ3⟩ := Cond.arrayClass_spec (hts0 _ tw_aJ)
  obtain ⟨mQ, cQ, kQ, aQ1, -, aQ2, aQ3, aQ4⟩ := Cond.arrayOver_spec (hts0 _ tw_aQ)
  refine ⟨fun k => match k with | 0 => c0 | 1 => c1 | 2 => c2 | 3 => c3 | 4 => c4 | 5 => c5 | _ => c6, fun k => match k with | 0 => i0 | 1 => i1 | 2 => i2 | 3 => i3 | 4 => i4 | 5 => i5 | _ => i6, cI, cJ, cQ, ?_, ?_⟩
  · intro k q hq
    match k, hq with
    | 0, hq => cases hq; exact k0
    | 1, hq => cases hq; exact k1
    | 2, hq => cases hq; exact k2
    | 3, hq => cases hq; exact k3
    | 4, hq => cases hq; exact k4
    | 5, hq => cases hq; exact k5
    | 6, hq => cases hq; exact k6
    | k + 7, hq => simp [vwCl] at hq
  · intro k q hq
    match k, hq with
    | 0, hq => cases hq; exact ⟨fun n z => ⟨fun k h => (by cases h), kI, aI2, mI, aI3⟩, aI1⟩
    | 1, hq => cases hq; exact ⟨fun n z => ⟨fun k h => (by cases h), kJ, aJ2, mJ, aJ3⟩, aJ1⟩
    | 2, hq => cases hq; exact ⟨fun n z => ⟨fun k h => (by cases h), kQ, aQ2, mQ, aQ3⟩, kQ, mQ, aQ2, aQ3, aQ1, aQ4⟩
    | k + 3, hq => simp [gty] at hq
/-! both are the same at first -/
theorem RP_0 : RP P0 (mgS M0) := by
  unfold RP
  decide +kernel
theorem IS_0 : IS (mgS M0) := by
  unfold IS okv
  decide +kernel
theorem JJ_0 : JJ 0 (fun _ => 0) P0 P0 TP0 SH0 M0 := ⟨fun i hi => rfl, ⟨RP_0, IS_0⟩, Or.inl ⟨rfl, rfl⟩, ⟨0, by omega, rfl, rfl, fun j hj => absurd hj (by omega)⟩, fun k hk => ⟨rfl, rfl, Or.inl rfl, ⟨0, by omega, rfl⟩, fun i hi => rfl⟩⟩
