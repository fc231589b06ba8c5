def hk_chL (l : List hk_In) : Bool := l.all (hk_chk hcdLAW 10 false 4 code)
set_option maxRecDepth 100000 in
theorem hk_chLAW_0 : hk_chL hcdLAW_0 = true := by decide +kernel
set_option maxRecDepth 100000 in
theorem hk_chLAW_1 : hk_chL hcdLAW_1 = true := by decide +kernel
set_option maxRecDepth 100000 in
theorem hk_chLAW_2 : hk_chL hcdLAW_2 = true := by decide +kernel
set_option maxRecDepth 100000 in
theorem hk_chLAW_3 : hk_chL hcdLAW_3 = true := by decide +kernel
set_option maxRecDepth 100000 in
theorem hk_chLAW_4 : hk_chL hcdLAW_4 = true := by decide +kernel
set_option maxRecDepth 100000 in
theorem hk_chLAW_5 : hk_chL hcdLAW_5 = true := by decide +kernel
set_option maxRecDepth 100000 in
theorem hk_chLAW_6 : hk_chL hcdLAW_6 = true := by decide +kernel
set_option maxRecDepth 100000 in
theorem hk_chLAW_7 : hk_chL hcdLAW_7 = true := by decide +kernel
set_option maxRecDepth 100000 in
theorem hk_chLAW_8 : hk_chL hcdLAW_8 = true := by decide +kernel
set_option maxRecDepth 100000 in
theorem hk_chLAW_9 : hk_chL hcdLAW_9 = true := by decide +kernel
set_option maxRecDepth 100000 in
theorem hk_chLAW_10 : hk_chL hcdLAW_10 = true := by decide +kernel
set_option maxRecDepth 100000 in
theorem hk_chLAW_11 : hk_chL hcdLAW_11 = true := by decide +kernel
set_option maxRecDepth 100000 in
theorem hk_chLAW_12 : hk_chL hcdLAW_12 = true := by decide +kernel
set_option maxRecDepth 100000 in
theorem hk_chLAW_13 : hk_chL hcdLAW_13 = true := by decide +kernel
set_option maxRecDepth 100000 in
theorem hk_chLAW_14 : hk_chL hcdLAW_14 = true := by decide +kernel
set_option maxRecDepth 100000 in
theorem hk_chLAW_15 : hk_chL hcdLAW_15 = true := by decide +kernel
set_option maxRecDepth 100000 in
theorem hk_chLAW_16 : hk_chL hcdLAW_16 = true := by decide +kernel
set_option maxRecDepth 100000 in
theorem hk_chLAW_17 : hk_chL hcdLAW_17 = true := by decide +kernel
set_option maxRecDepth 100000 in
theorem hk_chLAW_18 : hk_chL hcdLAW_18 = true := by decide +kernel
set_option maxRecDepth 100000 in
theorem hk_chLAW_19 : hk_chL hcdLAW_19 = true := by decide +kernel
set_option maxRecDepth 100000 in
theorem hk_chLAW_20 : hk_chL hcdLAW_20 = true := by decide +kernel
set_option maxRecDepth 100000 in
theorem hk_chLAW_21 : hk_chL hcdLAW_21 = true := by decide +kernel
set_option maxRecDepth 100000 in
theorem hk_chLAW_22 : hk_chL hcdLAW_22 = true := by decide +kernel
set_option maxRecDepth 100000 in
theorem hk_chLAW_23 : hk_chL hcdLAW_23 = true := by decide +kernel
set_option maxRecDepth 100000 in
theorem hk_chLAW_24 : hk_chL hcdLAW_24 = true := by decide +kernel
set_option maxRecDepth 100000 in
theorem hk_chLAW_25 : hk_chL hcdLAW_25 = true := by decide +kernel
set_option maxRecDepth 100000 in
theorem hk_chLAW_26 : hk_chL hcdLAW_26 = true := by decide +kernel
set_option maxRecDepth 100000 in
theorem hk_chLAW_27 : hk_chL hcdLAW_27 = true := by decide +kernel
set_option maxRecDepth 100000 in
theorem hk_chLAW_28 : hk_chL hcdLAW_28 = true := by decide +kernel
set_option maxRecDepth 100000 in
theorem hk_chLAW_29 : hk_chL hcdLAW_29 = true := by decide +kernel
set_option maxRecDepth 100000 in
theorem hk_chLAW_30 : hk_chL hcdLAW_30 = true := by decide +kernel
set_option maxRecDepth 100000 in
theorem hk_chLAW_31 : hk_chL hcdLAW_31 = true := by decide +kernel
set_option maxRecDepth 100000 in
theorem hk_chLAW_32 : hk_chL hcdLAW_32 = true := by decide +kernel
set_option maxRecDepth 100000 in
theorem hk_chLAW_33 : hk_chL hcdLAW_33 = true := by decide +kernel
set_option maxRecDepth 100000 in
theorem hk_chLAW_34 : hk_chL hcdLAW_34 = true := by decide +kernel
set_option maxRecDepth 100000 in
theorem hk_chLAW_35 : hk_chL hcdLAW_35 = true := by decide +kernel
set_option maxRecDepth 100000 in
theorem hk_chLAW_36 : hk_chL hcdLAW_36 = true := by decide +kernel
set_option maxRecDepth 100000 in
theorem hk_chLAW_37 : hk_chL hcdLAW_37 = true := by decide +kernel
set_option maxRecDepth 100000 in
theorem hk_chLAW_38 : hk_chL hcdLAW_38 = true := by decide +kernel
set_option maxRecDepth 100000 in
theorem hk_chLAW_39 : hk_chL hcdLAW_39 = true := by decide +kernel
set_option maxRecDepth 100000 in
theorem hk_chLAW_40 : hk_chL hcdLAW_40 = true := by decide +kernel
set_option maxRecDepth 100000 in
theorem hk_chLAW_41 : hk_chL hcdLAW_41 = true := by decide +kernel
set_option maxRecDepth 100000 in
theorem hk_chLAW_42 : hk_chL hcdLAW_42 = true := by decide +kernel
set_option maxRecDepth 100000 in
theorem hk_chLAW_43 : hk_chL hcdLAW_43 = true := by decide +kernel
set_option maxRecDepth 100000 in
theorem hk_chLAW_44 : hk_chL hcdLAW_44 = true := by decide +kernel
set_option maxRecDepth 100000 in
theorem hk_chLAW_45 : hk_chL hcdLAW_45 = true := by decide +kernel
set_option maxRecDepth 100000 in
theorem hk_chLAW_46 : hk_chL hcdLAW_46 = true := by decide +kernel
set_option maxRecDepth 100000 in
theorem hk_chLAW_47 : hk_chL hcdLAW_47 = true := by decide +kernel
set_option maxRecDepth 100000 in
theorem hk_chLAW_48 : hk_chL hcdLAW_48 = true := by decide +kernel
set_option maxRecDepth 100000 in
theorem hk_chLAW_49 : hk_chL hcdLAW_49 = true := by decide +kernel
set_option maxRecDepth 100000 in
theorem hk_chLAW_50 : hk_chL hcdLAW_50 = true := by decide +kernel
set_option maxRecDepth 100000 in
theorem hk_chLAW_51 : hk_chL hcdLAW_51 = true := by decide +kernel
set_option maxRecDepth 100000 in
theorem hk_chLAW_52 : hk_chL hcdLAW_52 = true := by decide +kernel
set_option maxRecDepth 100000 in
theorem hk_chLAW_53 : hk_chL hcdLAW_53 = true := by decide +kernel
set_option maxRecDepth 100000 in
theorem hk_chLAW_54 : hk_chL hcdLAW_54 = true := by decide +kernel
set_option maxRecDepth 100000 in
theorem hk_chLAW_55 : hk_chL hcdLAW_55 = true := by decide +kernel
set_option maxRecDepth 100000 in
theorem hk_chLAW_56 : hk_chL hcdLAW_56 = true := by decide +kernel
set_option maxRecDepth 100000 in
theorem hk_chLAW_57 : hk_chL hcdLAW_57 = true := by decide +kernel
set_option maxRecDepth 100000 in
theorem hk_chLAW_58 : hk_chL hcdLAW_58 = true := by decide +kernel
set_option maxRecDepth 100000 in
theorem hk_chLAW_59 : hk_chL hcdLAW_59 = true := by decide +kernel
set_option maxRecDepth 100000 in
theorem hk_chLAW_60 : hk_chL hcdLAW_60 = true := by decide +kernel
set_option maxRecDepth 100000 in
theorem hk_chLAW_61 : hk_chL hcdLAW_61 = true := by decide +kernel
set_option maxRecDepth 100000 in
theorem hk_chLAW_62 : hk_chL hcdLAW_62 = true := by decide +kernel
set_option maxRecDepth 100000 in
theorem hk_chLAW_63 : hk_chL hcdLAW_63 = true := by decide +kernel
set_option maxRecDepth 100000 in
theorem hk_chLAW_64 : hk_chL hcdLAW_64 = true := by decide +kernel
set_option maxRecDepth 100000 in
theorem hk_chLAW_65 : hk_chL hcdLAW_65 = true := by decide +kernel
set_option maxRecDepth 100000 in
theorem hk_chLAW_66 : hk_chL hcdLAW_66 = true := by decide +kernel
set_option maxRecDepth 100000 in
theorem hk_chLAW_67 : hk_chL hcdLAW_67 = true := by decide +kernel
set_option maxRecDepth 100000 in
theorem hk_chLAW_68 : hk_chL hcdLAW_68 = true := by decide +kernel
set_option maxRecDepth 100000 in
theorem hk_chLAW_69 : hk_chL hcdLAW_69 = true := by decide +kernel
set_option maxRecDepth 100000 in
theorem hk_chLAW_70 : hk_chL hcdLAW_70 = true := by decide +kernel
set_option maxRecDepth 100000 in
theorem hk_chLAW : ∀ l ∈ hcdLAW, hk_chL l = true := List.forall_mem_cons.mpr ⟨hk_chLAW_0, List.forall_mem_cons.mpr ⟨hk_chLAW_1, List.forall_mem_cons.mpr ⟨hk_chLAW_2, List.forall_mem_cons.mpr ⟨hk_chLAW_3, List.forall_mem_cons.mpr ⟨hk_chLAW_4, List.forall_mem_cons.mpr ⟨hk_chLAW_5, List.forall_mem_cons.mpr ⟨hk_chLAW_6, List.forall_mem_cons.mpr ⟨hk_chLAW_7, List.forall_mem_cons.mpr ⟨hk_chLAW_8, List.forall_mem_cons.mpr ⟨hk_chLAW_9, List.forall_mem_cons.mpr ⟨hk_chLAW_10, List.forall_mem_cons.mpr ⟨hk_chLAW_11, List.forall_mem_cons.mpr ⟨hk_chLAW_12, List.forall_mem_cons.mpr ⟨hk_chLAW_13, List.forall_mem_cons.mpr ⟨hk_chLAW_14, List.forall_mem_cons.mpr ⟨hk_chLAW_15, List.forall_mem_cons.mpr ⟨hk_chLAW_16, List.forall_mem_cons.mpr ⟨hk_chLAW_17, List.forall_mem_cons.mpr ⟨hk_chLAW_18, List.forall_mem_cons.mpr ⟨hk_chLAW_19, List.forall_mem_cons.mpr ⟨hk_chLAW_20, List.forall_mem_cons.mpr ⟨hk_chLAW_21, List.forall_mem_cons.mpr ⟨hk_chLAW_22, List.forall_mem_cons.mpr ⟨hk_chLAW_23, List.forall_mem_cons.mpr ⟨hk_chLAW_24, List.forall_mem_cons.mpr ⟨hk_chLAW_25, List.forall_mem_cons.mpr ⟨hk_chLAW_26, List.forall_mem_cons.mpr ⟨hk_chLAW_27, List.forall_mem_cons.mpr ⟨hk_chLAW_28, List.forall_mem_cons.mpr ⟨hk_chLAW_29, List.forall_mem_cons.mpr ⟨hk_chLAW_30, List.forall_mem_cons.mpr ⟨hk_chLAW_31, List.forall_mem_cons.mpr ⟨hk_chLAW_32, List.forall_mem_cons.mpr ⟨hk_chLAW_33, List.forall_mem_cons.mpr ⟨hk_chLAW_34, List.forall_mem_cons.mpr ⟨hk_chLAW_35, List.forall_mem_cons.mpr ⟨hk_chLAW_36, List.forall_mem_cons.mpr ⟨hk_chLAW_37, List.forall_mem_cons.mpr ⟨hk_chLAW_38, List.forall_mem_cons.mpr ⟨hk_chLAW_39, List.forall_mem_cons.mpr ⟨hk_chLAW_40, List.forall_mem_cons.mpr ⟨hk_chLAW_41, List.forall_mem_cons.mpr ⟨hk_chLAW_42, List.forall_mem_cons.mpr ⟨hk_chLAW_43, List.forall_mem_cons.mpr ⟨hk_chLAW_44, List.forall_mem_cons.mpr ⟨hk_chLAW_45, List.forall_mem_cons.mpr ⟨hk_chLAW_46, List.forall_mem_cons.mpr ⟨hk_chLAW_47, List.forall_mem_cons.mpr ⟨hk_chLAW_48, List.forall_mem_cons.mpr ⟨hk_chLAW_49, List.forall_mem_cons.mpr ⟨hk_chLAW_50, List.forall_mem_cons.mpr ⟨hk_chLAW_51, List.forall_mem_cons.mpr ⟨hk_chLAW_52, List.forall_mem_cons.mpr ⟨hk_chLAW_53, List.forall_mem_cons.mpr ⟨hk_chLAW_54, List.forall_mem_cons.mpr ⟨hk_chLAW_55, List.forall_mem_cons.mpr ⟨hk_chLAW_56, List.forall_mem_cons.mpr ⟨hk_chLAW_57, List.forall_mem_cons.mpr ⟨hk_chLAW_58, List.forall_mem_cons.mpr ⟨hk_chLAW_59, List.forall_mem_cons.mpr ⟨hk_chLAW_60, List.forall_mem_cons.mpr ⟨hk_chLAW_61, List.forall_mem_cons.mpr ⟨hk_chLAW_62, List.forall_mem_cons.mpr ⟨hk_chLAW_63, List.forall_mem_cons.mpr ⟨hk_chLAW_64, List.forall_mem_cons.mpr ⟨hk_chLAW_65, List.forall_mem_cons.mpr ⟨hk_chLAW_66, List.forall_mem_cons.mpr ⟨hk_chLAW_67, List.forall_mem_cons.mpr ⟨hk_chLAW_68, List.forall_mem_cons.mpr ⟨hk_chLAW_69, List.forall_mem_cons.mpr ⟨hk_chLAW_70, fun _ h => absurd h List.not_mem_nil⟩⟩⟩⟩⟩⟩⟩⟩⟩⟩⟩⟩⟩⟩⟩⟩⟩⟩⟩⟩⟩⟩⟩⟩⟩⟩⟩⟩⟩⟩⟩⟩⟩⟩⟩⟩⟩⟩⟩⟩⟩⟩⟩⟩⟩⟩⟩⟩⟩⟩⟩⟩⟩⟩⟩⟩⟩⟩⟩⟩⟩⟩⟩⟩⟩⟩⟩⟩⟩⟩⟩
