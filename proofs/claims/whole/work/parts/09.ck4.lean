def hk_chL (l : List hk_In) : Bool := l.all (hk_chk hcd239 10 false 4 code)
set_option maxRecDepth 100000 in
theorem hk_ch239_0 : hk_chL hcd239_0 = true := by decide +kernel
set_option maxRecDepth 100000 in
theorem hk_ch239_1 : hk_chL hcd239_1 = true := by decide +kernel
set_option maxRecDepth 100000 in
theorem hk_ch239_2 : hk_chL hcd239_2 = true := by decide +kernel
set_option maxRecDepth 100000 in
theorem hk_ch239_3 : hk_chL hcd239_3 = true := by decide +kernel
set_option maxRecDepth 100000 in
theorem hk_ch239_4 : hk_chL hcd239_4 = true := by decide +kernel
set_option maxRecDepth 100000 in
theorem hk_ch239_5 : hk_chL hcd239_5 = true := by decide +kernel
set_option maxRecDepth 100000 in
theorem hk_ch239_6 : hk_chL hcd239_6 = true := by decide +kernel
set_option maxRecDepth 100000 in
theorem hk_ch239_7 : hk_chL hcd239_7 = true := by decide +kernel
set_option maxRecDepth 100000 in
theorem hk_ch239_8 : hk_chL hcd239_8 = true := by decide +kernel
set_option maxRecDepth 100000 in
theorem hk_ch239_9 : hk_chL hcd239_9 = true := by decide +kernel
set_option maxRecDepth 100000 in
theorem hk_ch239_10 : hk_chL hcd239_10 = true := by decide +kernel
set_option maxRecDepth 100000 in
theorem hk_ch239_11 : hk_chL hcd239_11 = true := by decide +kernel
set_option maxRecDepth 100000 in
theorem hk_ch239_12 : hk_chL hcd239_12 = true := by decide +kernel
set_option maxRecDepth 100000 in
theorem hk_ch239_13 : hk_chL hcd239_13 = true := by decide +kernel
set_option maxRecDepth 100000 in
theorem hk_ch239_14 : hk_chL hcd239_14 = true := by decide +kernel
set_option maxRecDepth 100000 in
theorem hk_ch239_15 : hk_chL hcd239_15 = true := by decide +kernel
set_option maxRecDepth 100000 in
theorem hk_ch239_16 : hk_chL hcd239_16 = true := by decide +kernel
set_option maxRecDepth 100000 in
theorem hk_ch239_17 : hk_chL hcd239_17 = true := by decide +kernel
set_option maxRecDepth 100000 in
theorem hk_ch239_18 : hk_chL hcd239_18 = true := by decide +kernel
set_option maxRecDepth 100000 in
theorem hk_ch239_19 : hk_chL hcd239_19 = true := by decide +kernel
set_option maxRecDepth 100000 in
theorem hk_ch239_20 : hk_chL hcd239_20 = true := by decide +kernel
set_option maxRecDepth 100000 in
theorem hk_ch239_21 : hk_chL hcd239_21 = true := by decide +kernel
set_option maxRecDepth 100000 in
theorem hk_ch239_22 : hk_chL hcd239_22 = true := by decide +kernel
set_option maxRecDepth 100000 in
theorem hk_ch239_23 : hk_chL hcd239_23 = true := by decide +kernel
set_option maxRecDepth 100000 in
theorem hk_ch239_24 : hk_chL hcd239_24 = true := by decide +kernel
set_option maxRecDepth 100000 in
theorem hk_ch239_25 : hk_chL hcd239_25 = true := by decide +kernel
set_option maxRecDepth 100000 in
theorem hk_ch239_26 : hk_chL hcd239_26 = true := by decide +kernel
set_option maxRecDepth 100000 in
theorem hk_ch239_27 : hk_chL hcd239_27 = true := by decide +kernel
set_option maxRecDepth 100000 in
theorem hk_ch239_28 : hk_chL hcd239_28 = true := by decide +kernel
set_option maxRecDepth 100000 in
theorem hk_ch239_29 : hk_chL hcd239_29 = true := by decide +kernel
set_option maxRecDepth 100000 in
theorem hk_ch239_30 : hk_chL hcd239_30 = true := by decide +kernel
set_option maxRecDepth 100000 in
theorem hk_ch239_31 : hk_chL hcd239_31 = true := by decide +kernel
set_option maxRecDepth 100000 in
theorem hk_ch239_32 : hk_chL hcd239_32 = true := by decide +kernel
set_option maxRecDepth 100000 in
theorem hk_ch239_33 : hk_chL hcd239_33 = true := by decide +kernel
set_option maxRecDepth 100000 in
theorem hk_ch239_34 : hk_chL hcd239_34 = true := by decide +kernel
set_option maxRecDepth 100000 in
theorem hk_ch239_35 : hk_chL hcd239_35 = true := by decide +kernel
set_option maxRecDepth 100000 in
theorem hk_ch239_36 : hk_chL hcd239_36 = true := by decide +kernel
set_option maxRecDepth 100000 in
theorem hk_ch239_37 : hk_chL hcd239_37 = true := by decide +kernel
set_option maxRecDepth 100000 in
theorem hk_ch239_38 : hk_chL hcd239_38 = true := by decide +kernel
set_option maxRecDepth 100000 in
theorem hk_ch239_39 : hk_chL hcd239_39 = true := by decide +kernel
set_option maxRecDepth 100000 in
theorem hk_ch239_40 : hk_chL hcd239_40 = true := by decide +kernel
set_option maxRecDepth 100000 in
theorem hk_ch239_41 : hk_chL hcd239_41 = true := by decide +kernel
set_option maxRecDepth 100000 in
theorem hk_ch239_42 : hk_chL hcd239_42 = true := by decide +kernel
set_option maxRecDepth 100000 in
theorem hk_ch239_43 : hk_chL hcd239_43 = true := by decide +kernel
set_option maxRecDepth 100000 in
theorem hk_ch239_44 : hk_chL hcd239_44 = true := by decide +kernel
set_option maxRecDepth 100000 in
theorem hk_ch239_45 : hk_chL hcd239_45 = true := by decide +kernel
set_option maxRecDepth 100000 in
theorem hk_ch239_46 : hk_chL hcd239_46 = true := by decide +kernel
set_option maxRecDepth 100000 in
theorem hk_ch239_47 : hk_chL hcd239_47 = true := by decide +kernel
set_option maxRecDepth 100000 in
theorem hk_ch239_48 : hk_chL hcd239_48 = true := by decide +kernel
set_option maxRecDepth 100000 in
theorem hk_ch239_49 : hk_chL hcd239_49 = true := by decide +kernel
set_option maxRecDepth 100000 in
theorem hk_ch239_50 : hk_chL hcd239_50 = true := by decide +kernel
set_option maxRecDepth 100000 in
theorem hk_ch239_51 : hk_chL hcd239_51 = true := by decide +kernel
set_option maxRecDepth 100000 in
theorem hk_ch239_52 : hk_chL hcd239_52 = true := by decide +kernel
set_option maxRecDepth 100000 in
theorem hk_ch239_53 : hk_chL hcd239_53 = true := by decide +kernel
set_option maxRecDepth 100000 in
theorem hk_ch239_54 : hk_chL hcd239_54 = true := by decide +kernel
set_option maxRecDepth 100000 in
theorem hk_ch239_55 : hk_chL hcd239_55 = true := by decide +kernel
set_option maxRecDepth 100000 in
theorem hk_ch239_56 : hk_chL hcd239_56 = true := by decide +kernel
set_option maxRecDepth 100000 in
theorem hk_ch239_57 : hk_chL hcd239_57 = true := by decide +kernel
set_option maxRecDepth 100000 in
theorem hk_ch239_58 : hk_chL hcd239_58 = true := by decide +kernel
set_option maxRecDepth 100000 in
theorem hk_ch239_59 : hk_chL hcd239_59 = true := by decide +kernel
set_option maxRecDepth 100000 in
theorem hk_ch239_60 : hk_chL hcd239_60 = true := by decide +kernel
set_option maxRecDepth 100000 in
theorem hk_ch239_61 : hk_chL hcd239_61 = true := by decide +kernel
set_option maxRecDepth 100000 in
theorem hk_ch239_62 : hk_chL hcd239_62 = true := by decide +kernel
set_option maxRecDepth 100000 in
theorem hk_ch239_63 : hk_chL hcd239_63 = true := by decide +kernel
set_option maxRecDepth 100000 in
theorem hk_ch239_64 : hk_chL hcd239_64 = true := by decide +kernel
set_option maxRecDepth 100000 in
theorem hk_ch239_65 : hk_chL hcd239_65 = true := by decide +kernel
set_option maxRecDepth 100000 in
theorem hk_ch239_66 : hk_chL hcd239_66 = true := by decide +kernel
set_option maxRecDepth 100000 in
theorem hk_ch239_67 : hk_chL hcd239_67 = true := by decide +kernel
set_option maxRecDepth 100000 in
theorem hk_ch239_68 : hk_chL hcd239_68 = true := by decide +kernel
set_option maxRecDepth 100000 in
theorem hk_ch239_69 : hk_chL hcd239_69 = true := by decide +kernel
set_option maxRecDepth 100000 in
theorem hk_ch239_70 : hk_chL hcd239_70 = true := by decide +kernel
set_option maxRecDepth 100000 in
theorem hk_ch239 : ∀ l ∈ hcd239, hk_chL l = true := List.forall_mem_cons.mpr ⟨hk_ch239_0, List.forall_mem_cons.mpr ⟨hk_ch239_1, List.forall_mem_cons.mpr ⟨hk_ch239_2, List.forall_mem_cons.mpr ⟨hk_ch239_3, List.forall_mem_cons.mpr ⟨hk_ch239_4, List.forall_mem_cons.mpr ⟨hk_ch239_5, List.forall_mem_cons.mpr ⟨hk_ch239_6, List.forall_mem_cons.mpr ⟨hk_ch239_7, List.forall_mem_cons.mpr ⟨hk_ch239_8, List.forall_mem_cons.mpr ⟨hk_ch239_9, List.forall_mem_cons.mpr ⟨hk_ch239_10, List.forall_mem_cons.mpr ⟨hk_ch239_11, List.forall_mem_cons.mpr ⟨hk_ch239_12, List.forall_mem_cons.mpr ⟨hk_ch239_13, List.forall_mem_cons.mpr ⟨hk_ch239_14, List.forall_mem_cons.mpr ⟨hk_ch239_15, List.forall_mem_cons.mpr ⟨hk_ch239_16, List.forall_mem_cons.mpr ⟨hk_ch239_17, List.forall_mem_cons.mpr ⟨hk_ch239_18, List.forall_mem_cons.mpr ⟨hk_ch239_19, List.forall_mem_cons.mpr ⟨hk_ch239_20, List.forall_mem_cons.mpr ⟨hk_ch239_21, List.forall_mem_cons.mpr ⟨hk_ch239_22, List.forall_mem_cons.mpr ⟨hk_ch239_23, List.forall_mem_cons.mpr ⟨hk_ch239_24, List.forall_mem_cons.mpr ⟨hk_ch239_25, List.forall_mem_cons.mpr ⟨hk_ch239_26, List.forall_mem_cons.mpr ⟨hk_ch239_27, List.forall_mem_cons.mpr ⟨hk_ch239_28, List.forall_mem_cons.mpr ⟨hk_ch239_29, List.forall_mem_cons.mpr ⟨hk_ch239_30, List.forall_mem_cons.mpr ⟨hk_ch239_31, List.forall_mem_cons.mpr ⟨hk_ch239_32, List.forall_mem_cons.mpr ⟨hk_ch239_33, List.forall_mem_cons.mpr ⟨hk_ch239_34, List.forall_mem_cons.mpr ⟨hk_ch239_35, List.forall_mem_cons.mpr ⟨hk_ch239_36, List.forall_mem_cons.mpr ⟨hk_ch239_37, List.forall_mem_cons.mpr ⟨hk_ch239_38, List.forall_mem_cons.mpr ⟨hk_ch239_39, List.forall_mem_cons.mpr ⟨hk_ch239_40, List.forall_mem_cons.mpr ⟨hk_ch239_41, List.forall_mem_cons.mpr ⟨hk_ch239_42, List.forall_mem_cons.mpr ⟨hk_ch239_43, List.forall_mem_cons.mpr ⟨hk_ch239_44, List.forall_mem_cons.mpr ⟨hk_ch239_45, List.forall_mem_cons.mpr ⟨hk_ch239_46, List.forall_mem_cons.mpr ⟨hk_ch239_47, List.forall_mem_cons.mpr ⟨hk_ch239_48, List.forall_mem_cons.mpr ⟨hk_ch239_49, List.forall_mem_cons.mpr ⟨hk_ch239_50, List.forall_mem_cons.mpr ⟨hk_ch239_51, List.forall_mem_cons.mpr ⟨hk_ch239_52, List.forall_mem_cons.mpr ⟨hk_ch239_53, List.forall_mem_cons.mpr ⟨hk_ch239_54, List.forall_mem_cons.mpr ⟨hk_ch239_55, List.forall_mem_cons.mpr ⟨hk_ch239_56, List.forall_mem_cons.mpr ⟨hk_ch239_57, List.forall_mem_cons.mpr ⟨hk_ch239_58, List.forall_mem_cons.mpr ⟨hk_ch239_59, List.forall_mem_cons.mpr ⟨hk_ch239_60, List.forall_mem_cons.mpr ⟨hk_ch239_61, List.forall_mem_cons.mpr ⟨hk_ch239_62, List.forall_mem_cons.mpr ⟨hk_ch239_63, List.forall_mem_cons.mpr ⟨hk_ch239_64, List.forall_mem_cons.mpr ⟨hk_ch239_65, List.forall_mem_cons.mpr ⟨hk_ch239_66, List.forall_mem_cons.mpr ⟨hk_ch239_67, List.forall_mem_cons.mpr ⟨hk_ch239_68, List.forall_mem_cons.mpr ⟨hk_ch239_69, List.forall_mem_cons.mpr ⟨hk_ch239_70, fun _ h => absurd h List.not_mem_nil⟩⟩⟩⟩⟩⟩⟩⟩⟩⟩⟩⟩⟩⟩⟩⟩⟩⟩⟩⟩⟩⟩⟩⟩⟩⟩⟩⟩⟩⟩⟩⟩⟩⟩⟩⟩⟩⟩⟩⟩⟩⟩⟩⟩⟩⟩⟩⟩⟩⟩⟩⟩⟩⟩⟩⟩⟩⟩⟩⟩⟩⟩⟩⟩⟩⟩⟩⟩⟩⟩⟩
