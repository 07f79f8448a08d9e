theorem ha_56_0 : ∀ w ∈ Bundle.ownAtoms "TokenScanner" 56 "java/lang/IllegalArgumentException" ["java/lang/RuntimeException", "java/lang/Exception"], w ∈ mg_G ∨ w ∈ mz_hw := by decide +kernel
theorem ha_63_1 : ∀ w ∈ Bundle.ownAtoms "TokenScanner" 63 "java/lang/IllegalStateException" ["java/lang/RuntimeException", "java/lang/Exception"], w ∈ mg_G ∨ w ∈ mz_hw := by decide +kernel
theorem ha_139_2 : ∀ w ∈ Bundle.ownAtoms "TokenScanner" 139 "java/lang/IndexOutOfBoundsException" ["java/lang/RuntimeException", "java/lang/Exception"], w ∈ mg_G ∨ w ∈ mz_hw := by decide +kernel
theorem mg_ft0 : Bundle.fit "java/lang/IllegalArgumentException" = true := by decide +kernel
theorem mg_ft1 : Bundle.fit "java/lang/IllegalStateException" = true := by decide +kernel
theorem mg_ft2 : Bundle.fit "java/lang/IndexOutOfBoundsException" = true := by decide +kernel
theorem mg_ftn : ∀ n ∈ (["java/lang/RuntimeException", "java/lang/Exception"] : List String), Bundle.fit n = true := by decide +kernel
theorem mq_0 : (parseMethodDescriptor mM_0.nm.desc).map (fun d => d.parameters.length) = some 0 ∧ (mM_0.nm.cls ≠ "java/lang/invoke/MethodHandle" ∧ mM_0.nm.cls ≠ "java/lang/invoke/VarHandle") := by decide +kernel
theorem mq_1 : (parseMethodDescriptor mM_1.nm.desc).map (fun d => d.parameters.length) = some 0 ∧ (mM_1.nm.cls ≠ "java/lang/invoke/MethodHandle" ∧ mM_1.nm.cls ≠ "java/lang/invoke/VarHandle") := by decide +kernel
theorem mq_2 : (parseMethodDescriptor mM_2.nm.desc).map (fun d => d.parameters.length) = some 0 ∧ (mM_2.nm.cls ≠ "java/lang/invoke/MethodHandle" ∧ mM_2.nm.cls ≠ "java/lang/invoke/VarHandle") := by decide +kernel
theorem mq_3 : (parseMethodDescriptor mM_3.nm.desc).map (fun d => d.parameters.length) = some 0 ∧ (mM_3.nm.cls ≠ "java/lang/invoke/MethodHandle" ∧ mM_3.nm.cls ≠ "java/lang/invoke/VarHandle") := by decide +kernel
theorem mq_4 : (parseMethodDescriptor mM_4.nm.desc).map (fun d => d.parameters.length) = some 0 ∧ (mM_4.nm.cls ≠ "java/lang/invoke/MethodHandle" ∧ mM_4.nm.cls ≠ "java/lang/invoke/VarHandle") := by decide +kernel
theorem mq_5 : (parseMethodDescriptor mM_5.nm.desc).map (fun d => d.parameters.length) = some 3 ∧ (mM_5.nm.cls ≠ "java/lang/invoke/MethodHandle" ∧ mM_5.nm.cls ≠ "java/lang/invoke/VarHandle") := by decide +kernel
theorem mq_6 : (parseMethodDescriptor mM_6.nm.desc).map (fun d => d.parameters.length) = some 2 ∧ (mM_6.nm.cls ≠ "java/lang/invoke/MethodHandle" ∧ mM_6.nm.cls ≠ "java/lang/invoke/VarHandle") := by decide +kernel
theorem mq_7 : (parseMethodDescriptor mM_7.nm.desc).map (fun d => d.parameters.length) = some 2 ∧ (mM_7.nm.cls ≠ "java/lang/invoke/MethodHandle" ∧ mM_7.nm.cls ≠ "java/lang/invoke/VarHandle") := by decide +kernel
theorem mq_8 : (parseMethodDescriptor mM_8.nm.desc).map (fun d => d.parameters.length) = some 1 ∧ (mM_8.nm.cls ≠ "java/lang/invoke/MethodHandle" ∧ mM_8.nm.cls ≠ "java/lang/invoke/VarHandle") := by decide +kernel
theorem mq_9 : (parseMethodDescriptor mM_9.nm.desc).map (fun d => d.parameters.length) = some 2 ∧ (mM_9.nm.cls ≠ "java/lang/invoke/MethodHandle" ∧ mM_9.nm.cls ≠ "java/lang/invoke/VarHandle") := by decide +kernel
theorem mq_10 : (parseMethodDescriptor mM_10.nm.desc).map (fun d => d.parameters.length) = some 2 ∧ (mM_10.nm.cls ≠ "java/lang/invoke/MethodHandle" ∧ mM_10.nm.cls ≠ "java/lang/invoke/VarHandle") := by decide +kernel
theorem mq_11 : (parseMethodDescriptor mM_11.nm.desc).map (fun d => d.parameters.length) = some 1 ∧ (mM_11.nm.cls ≠ "java/lang/invoke/MethodHandle" ∧ mM_11.nm.cls ≠ "java/lang/invoke/VarHandle") := by decide +kernel
theorem mq_12 : (parseMethodDescriptor mM_12.nm.desc).map (fun d => d.parameters.length) = some 2 ∧ (mM_12.nm.cls ≠ "java/lang/invoke/MethodHandle" ∧ mM_12.nm.cls ≠ "java/lang/invoke/VarHandle") := by decide +kernel
theorem mq_13 : (parseMethodDescriptor mM_13.nm.desc).map (fun d => d.parameters.length) = some 2 ∧ (mM_13.nm.cls ≠ "java/lang/invoke/MethodHandle" ∧ mM_13.nm.cls ≠ "java/lang/invoke/VarHandle") := by decide +kernel
theorem mq_14 : (parseMethodDescriptor mM_14.nm.desc).map (fun d => d.parameters.length) = some 2 ∧ (mM_14.nm.cls ≠ "java/lang/invoke/MethodHandle" ∧ mM_14.nm.cls ≠ "java/lang/invoke/VarHandle") := by decide +kernel
theorem mq_15 : (parseMethodDescriptor mM_15.nm.desc).map (fun d => d.parameters.length) = some 0 ∧ (mM_15.nm.cls ≠ "java/lang/invoke/MethodHandle" ∧ mM_15.nm.cls ≠ "java/lang/invoke/VarHandle") := by decide +kernel
theorem mq_16 : (parseMethodDescriptor mM_16.nm.desc).map (fun d => d.parameters.length) = some 0 ∧ (mM_16.nm.cls ≠ "java/lang/invoke/MethodHandle" ∧ mM_16.nm.cls ≠ "java/lang/invoke/VarHandle") := by decide +kernel
theorem mq_17 : (parseMethodDescriptor mM_17.nm.desc).map (fun d => d.parameters.length) = some 1 ∧ (mM_17.nm.cls ≠ "java/lang/invoke/MethodHandle" ∧ mM_17.nm.cls ≠ "java/lang/invoke/VarHandle") := by decide +kernel
theorem mq_18 : (parseMethodDescriptor mM_18.nm.desc).map (fun d => d.parameters.length) = some 1 ∧ (mM_18.nm.cls ≠ "java/lang/invoke/MethodHandle" ∧ mM_18.nm.cls ≠ "java/lang/invoke/VarHandle") := by decide +kernel
theorem mq_19 : (parseMethodDescriptor mM_19.nm.desc).map (fun d => d.parameters.length) = some 0 ∧ (mM_19.nm.cls ≠ "java/lang/invoke/MethodHandle" ∧ mM_19.nm.cls ≠ "java/lang/invoke/VarHandle") := by decide +kernel
theorem mq_20 : (parseMethodDescriptor mM_20.nm.desc).map (fun d => d.parameters.length) = some 2 ∧ (mM_20.nm.cls ≠ "java/lang/invoke/MethodHandle" ∧ mM_20.nm.cls ≠ "java/lang/invoke/VarHandle") := by decide +kernel
theorem mq_21 : (parseMethodDescriptor mM_21.nm.desc).map (fun d => d.parameters.length) = some 4 ∧ (mM_21.nm.cls ≠ "java/lang/invoke/MethodHandle" ∧ mM_21.nm.cls ≠ "java/lang/invoke/VarHandle") := by decide +kernel
theorem mq_22 : (parseMethodDescriptor mM_22.nm.desc).map (fun d => d.parameters.length) = some 2 ∧ (mM_22.nm.cls ≠ "java/lang/invoke/MethodHandle" ∧ mM_22.nm.cls ≠ "java/lang/invoke/VarHandle") := by decide +kernel
theorem mq_23 : (parseMethodDescriptor mM_23.nm.desc).map (fun d => d.parameters.length) = some 2 ∧ (mM_23.nm.cls ≠ "java/lang/invoke/MethodHandle" ∧ mM_23.nm.cls ≠ "java/lang/invoke/VarHandle") := by decide +kernel
theorem mq_24 : (parseMethodDescriptor mM_24.nm.desc).map (fun d => d.parameters.length) = some 0 ∧ (mM_24.nm.cls ≠ "java/lang/invoke/MethodHandle" ∧ mM_24.nm.cls ≠ "java/lang/invoke/VarHandle") := by decide +kernel
theorem mq_25 : (parseMethodDescriptor mM_25.nm.desc).map (fun d => d.parameters.length) = some 0 ∧ (mM_25.nm.cls ≠ "java/lang/invoke/MethodHandle" ∧ mM_25.nm.cls ≠ "java/lang/invoke/VarHandle") := by decide +kernel
theorem mq_26 : (parseMethodDescriptor mM_26.nm.desc).map (fun d => d.parameters.length) = some 0 ∧ (mM_26.nm.cls ≠ "java/lang/invoke/MethodHandle" ∧ mM_26.nm.cls ≠ "java/lang/invoke/VarHandle") := by decide +kernel
theorem mq_27 : (parseMethodDescriptor mM_27.nm.desc).map (fun d => d.parameters.length) = some 0 ∧ (mM_27.nm.cls ≠ "java/lang/invoke/MethodHandle" ∧ mM_27.nm.cls ≠ "java/lang/invoke/VarHandle") := by decide +kernel
theorem mq_28 : (parseMethodDescriptor mM_28.nm.desc).map (fun d => d.parameters.length) = some 1 ∧ (mM_28.nm.cls ≠ "java/lang/invoke/MethodHandle" ∧ mM_28.nm.cls ≠ "java/lang/invoke/VarHandle") := by decide +kernel
theorem mq_29 : (parseMethodDescriptor mM_29.nm.desc).map (fun d => d.parameters.length) = some 1 ∧ (mM_29.nm.cls ≠ "java/lang/invoke/MethodHandle" ∧ mM_29.nm.cls ≠ "java/lang/invoke/VarHandle") := by decide +kernel
theorem mq_30 : (parseMethodDescriptor mM_30.nm.desc).map (fun d => d.parameters.length) = some 1 ∧ (mM_30.nm.cls ≠ "java/lang/invoke/MethodHandle" ∧ mM_30.nm.cls ≠ "java/lang/invoke/VarHandle") := by decide +kernel
theorem mq_31 : (parseMethodDescriptor mM_31.nm.desc).map (fun d => d.parameters.length) = some 0 ∧ (mM_31.nm.cls ≠ "java/lang/invoke/MethodHandle" ∧ mM_31.nm.cls ≠ "java/lang/invoke/VarHandle") := by decide +kernel
theorem mq_32 : (parseMethodDescriptor mM_32.nm.desc).map (fun d => d.parameters.length) = some 1 ∧ (mM_32.nm.cls ≠ "java/lang/invoke/MethodHandle" ∧ mM_32.nm.cls ≠ "java/lang/invoke/VarHandle") := by decide +kernel
theorem mq_33 : (parseMethodDescriptor mM_33.nm.desc).map (fun d => d.parameters.length) = some 0 ∧ (mM_33.nm.cls ≠ "java/lang/invoke/MethodHandle" ∧ mM_33.nm.cls ≠ "java/lang/invoke/VarHandle") := by decide +kernel
theorem mq_34 : (parseMethodDescriptor mM_34.nm.desc).map (fun d => d.parameters.length) = some 0 ∧ (mM_34.nm.cls ≠ "java/lang/invoke/MethodHandle" ∧ mM_34.nm.cls ≠ "java/lang/invoke/VarHandle") := by decide +kernel
theorem mq_35 : (parseMethodDescriptor mM_35.nm.desc).map (fun d => d.parameters.length) = some 1 ∧ (mM_35.nm.cls ≠ "java/lang/invoke/MethodHandle" ∧ mM_35.nm.cls ≠ "java/lang/invoke/VarHandle") := by decide +kernel
theorem mq_36 : (parseMethodDescriptor mM_36.nm.desc).map (fun d => d.parameters.length) = some 1 ∧ (mM_36.nm.cls ≠ "java/lang/invoke/MethodHandle" ∧ mM_36.nm.cls ≠ "java/lang/invoke/VarHandle") := by decide +kernel
theorem mq_37 : (parseMethodDescriptor mM_37.nm.desc).map (fun d => d.parameters.length) = some 1 ∧ (mM_37.nm.cls ≠ "java/lang/invoke/MethodHandle" ∧ mM_37.nm.cls ≠ "java/lang/invoke/VarHandle") := by decide +kernel
theorem mq_38 : (parseMethodDescriptor mM_38.nm.desc).map (fun d => d.parameters.length) = some 1 ∧ (mM_38.nm.cls ≠ "java/lang/invoke/MethodHandle" ∧ mM_38.nm.cls ≠ "java/lang/invoke/VarHandle") := by decide +kernel
theorem mq_39 : (parseMethodDescriptor mM_39.nm.desc).map (fun d => d.parameters.length) = some 1 ∧ (mM_39.nm.cls ≠ "java/lang/invoke/MethodHandle" ∧ mM_39.nm.cls ≠ "java/lang/invoke/VarHandle") := by decide +kernel
theorem mq_40 : (parseMethodDescriptor mM_40.nm.desc).map (fun d => d.parameters.length) = some 1 ∧ (mM_40.nm.cls ≠ "java/lang/invoke/MethodHandle" ∧ mM_40.nm.cls ≠ "java/lang/invoke/VarHandle") := by decide +kernel
theorem mq_41 : (parseMethodDescriptor mM_41.nm.desc).map (fun d => d.parameters.length) = some 0 ∧ (mM_41.nm.cls ≠ "java/lang/invoke/MethodHandle" ∧ mM_41.nm.cls ≠ "java/lang/invoke/VarHandle") := by decide +kernel
theorem mq_42 : (parseMethodDescriptor mM_42.nm.desc).map (fun d => d.parameters.length) = some 1 ∧ (mM_42.nm.cls ≠ "java/lang/invoke/MethodHandle" ∧ mM_42.nm.cls ≠ "java/lang/invoke/VarHandle") := by decide +kernel
theorem mq_43 : (parseMethodDescriptor mM_43.nm.desc).map (fun d => d.parameters.length) = some 2 ∧ (mM_43.nm.cls ≠ "java/lang/invoke/MethodHandle" ∧ mM_43.nm.cls ≠ "java/lang/invoke/VarHandle") := by decide +kernel
theorem mq_44 : (parseMethodDescriptor mM_44.nm.desc).map (fun d => d.parameters.length) = some 1 ∧ (mM_44.nm.cls ≠ "java/lang/invoke/MethodHandle" ∧ mM_44.nm.cls ≠ "java/lang/invoke/VarHandle") := by decide +kernel
theorem mq_45 : (parseMethodDescriptor mM_45.nm.desc).map (fun d => d.parameters.length) = some 0 ∧ (mM_45.nm.cls ≠ "java/lang/invoke/MethodHandle" ∧ mM_45.nm.cls ≠ "java/lang/invoke/VarHandle") := by decide +kernel
theorem mq_46 : (parseMethodDescriptor mM_46.nm.desc).map (fun d => d.parameters.length) = some 0 ∧ (mM_46.nm.cls ≠ "java/lang/invoke/MethodHandle" ∧ mM_46.nm.cls ≠ "java/lang/invoke/VarHandle") := by decide +kernel
theorem mq_47 : (parseMethodDescriptor mM_47.nm.desc).map (fun d => d.parameters.length) = some 0 ∧ (mM_47.nm.cls ≠ "java/lang/invoke/MethodHandle" ∧ mM_47.nm.cls ≠ "java/lang/invoke/VarHandle") := by decide +kernel
theorem mq_48 : (parseMethodDescriptor mM_48.nm.desc).map (fun d => d.parameters.length) = some 0 ∧ (mM_48.nm.cls ≠ "java/lang/invoke/MethodHandle" ∧ mM_48.nm.cls ≠ "java/lang/invoke/VarHandle") := by decide +kernel
theorem mq_49 : (parseMethodDescriptor mM_49.nm.desc).map (fun d => d.parameters.length) = some 0 ∧ (mM_49.nm.cls ≠ "java/lang/invoke/MethodHandle" ∧ mM_49.nm.cls ≠ "java/lang/invoke/VarHandle") := by decide +kernel
theorem mq_50 : (parseMethodDescriptor mM_50.nm.desc).map (fun d => d.parameters.length) = some 0 ∧ (mM_50.nm.cls ≠ "java/lang/invoke/MethodHandle" ∧ mM_50.nm.cls ≠ "java/lang/invoke/VarHandle") := by decide +kernel
theorem mq_51 : (parseMethodDescriptor mM_51.nm.desc).map (fun d => d.parameters.length) = some 0 ∧ (mM_51.nm.cls ≠ "java/lang/invoke/MethodHandle" ∧ mM_51.nm.cls ≠ "java/lang/invoke/VarHandle") := by decide +kernel
theorem mq_52 : (parseMethodDescriptor mM_52.nm.desc).map (fun d => d.parameters.length) = some 0 ∧ (mM_52.nm.cls ≠ "java/lang/invoke/MethodHandle" ∧ mM_52.nm.cls ≠ "java/lang/invoke/VarHandle") := by decide +kernel
theorem mq_53 : (parseMethodDescriptor mM_53.nm.desc).map (fun d => d.parameters.length) = some 1 ∧ (mM_53.nm.cls ≠ "java/lang/invoke/MethodHandle" ∧ mM_53.nm.cls ≠ "java/lang/invoke/VarHandle") := by decide +kernel
theorem mq_54 : (parseMethodDescriptor mM_54.nm.desc).map (fun d => d.parameters.length) = some 1 ∧ (mM_54.nm.cls ≠ "java/lang/invoke/MethodHandle" ∧ mM_54.nm.cls ≠ "java/lang/invoke/VarHandle") := by decide +kernel
theorem mq_55 : (parseMethodDescriptor mM_55.nm.desc).map (fun d => d.parameters.length) = some 0 ∧ (mM_55.nm.cls ≠ "java/lang/invoke/MethodHandle" ∧ mM_55.nm.cls ≠ "java/lang/invoke/VarHandle") := by decide +kernel
theorem mq_56 : (parseMethodDescriptor mM_56.nm.desc).map (fun d => d.parameters.length) = some 1 ∧ (mM_56.nm.cls ≠ "java/lang/invoke/MethodHandle" ∧ mM_56.nm.cls ≠ "java/lang/invoke/VarHandle") := by decide +kernel
theorem mq_57 : (parseMethodDescriptor mM_57.nm.desc).map (fun d => d.parameters.length) = some 3 ∧ (mM_57.nm.cls ≠ "java/lang/invoke/MethodHandle" ∧ mM_57.nm.cls ≠ "java/lang/invoke/VarHandle") := by decide +kernel
theorem mq_58 : (parseMethodDescriptor mM_58.nm.desc).map (fun d => d.parameters.length) = some 2 ∧ (mM_58.nm.cls ≠ "java/lang/invoke/MethodHandle" ∧ mM_58.nm.cls ≠ "java/lang/invoke/VarHandle") := by decide +kernel
theorem mq_59 : (parseMethodDescriptor mM_59.nm.desc).map (fun d => d.parameters.length) = some 0 ∧ (mM_59.nm.cls ≠ "java/lang/invoke/MethodHandle" ∧ mM_59.nm.cls ≠ "java/lang/invoke/VarHandle") := by decide +kernel
theorem mq_60 : (parseMethodDescriptor mM_60.nm.desc).map (fun d => d.parameters.length) = some 0 ∧ (mM_60.nm.cls ≠ "java/lang/invoke/MethodHandle" ∧ mM_60.nm.cls ≠ "java/lang/invoke/VarHandle") := by decide +kernel
theorem mq_61 : (parseMethodDescriptor mM_61.nm.desc).map (fun d => d.parameters.length) = some 0 ∧ (mM_61.nm.cls ≠ "java/lang/invoke/MethodHandle" ∧ mM_61.nm.cls ≠ "java/lang/invoke/VarHandle") := by decide +kernel
theorem mq_62 : (parseMethodDescriptor mM_62.nm.desc).map (fun d => d.parameters.length) = some 0 ∧ (mM_62.nm.cls ≠ "java/lang/invoke/MethodHandle" ∧ mM_62.nm.cls ≠ "java/lang/invoke/VarHandle") := by decide +kernel
theorem mq_63 : (parseMethodDescriptor mM_63.nm.desc).map (fun d => d.parameters.length) = some 1 ∧ (mM_63.nm.cls ≠ "java/lang/invoke/MethodHandle" ∧ mM_63.nm.cls ≠ "java/lang/invoke/VarHandle") := by decide +kernel
theorem mq_64 : (parseMethodDescriptor mM_64.nm.desc).map (fun d => d.parameters.length) = some 0 ∧ (mM_64.nm.cls ≠ "java/lang/invoke/MethodHandle" ∧ mM_64.nm.cls ≠ "java/lang/invoke/VarHandle") := by decide +kernel
theorem mq_65 : (parseMethodDescriptor mM_65.nm.desc).map (fun d => d.parameters.length) = some 2 ∧ (mM_65.nm.cls ≠ "java/lang/invoke/MethodHandle" ∧ mM_65.nm.cls ≠ "java/lang/invoke/VarHandle") := by decide +kernel
theorem mq_66 : (parseMethodDescriptor mM_66.nm.desc).map (fun d => d.parameters.length) = some 1 ∧ (mM_66.nm.cls ≠ "java/lang/invoke/MethodHandle" ∧ mM_66.nm.cls ≠ "java/lang/invoke/VarHandle") := by decide +kernel
theorem mq_67 : (parseMethodDescriptor mM_67.nm.desc).map (fun d => d.parameters.length) = some 1 ∧ (mM_67.nm.cls ≠ "java/lang/invoke/MethodHandle" ∧ mM_67.nm.cls ≠ "java/lang/invoke/VarHandle") := by decide +kernel
theorem mq_68 : (parseMethodDescriptor mM_68.nm.desc).map (fun d => d.parameters.length) = some 1 ∧ (mM_68.nm.cls ≠ "java/lang/invoke/MethodHandle" ∧ mM_68.nm.cls ≠ "java/lang/invoke/VarHandle") := by decide +kernel
theorem mq_69 : (parseMethodDescriptor mM_69.nm.desc).map (fun d => d.parameters.length) = some 1 ∧ (mM_69.nm.cls ≠ "java/lang/invoke/MethodHandle" ∧ mM_69.nm.cls ≠ "java/lang/invoke/VarHandle") := by decide +kernel
theorem mq_70 : (parseMethodDescriptor mM_70.nm.desc).map (fun d => d.parameters.length) = some 1 ∧ (mM_70.nm.cls ≠ "java/lang/invoke/MethodHandle" ∧ mM_70.nm.cls ≠ "java/lang/invoke/VarHandle") := by decide +kernel
theorem mq_71 : (parseMethodDescriptor mM_71.nm.desc).map (fun d => d.parameters.length) = some 0 ∧ (mM_71.nm.cls ≠ "java/lang/invoke/MethodHandle" ∧ mM_71.nm.cls ≠ "java/lang/invoke/VarHandle") := by decide +kernel
theorem mq_72 : (parseMethodDescriptor mM_72.nm.desc).map (fun d => d.parameters.length) = some 0 ∧ (mM_72.nm.cls ≠ "java/lang/invoke/MethodHandle" ∧ mM_72.nm.cls ≠ "java/lang/invoke/VarHandle") := by decide +kernel
theorem mq_73 : (parseMethodDescriptor mM_73.nm.desc).map (fun d => d.parameters.length) = some 1 ∧ (mM_73.nm.cls ≠ "java/lang/invoke/MethodHandle" ∧ mM_73.nm.cls ≠ "java/lang/invoke/VarHandle") := by decide +kernel
theorem mq_74 : (parseMethodDescriptor mM_74.nm.desc).map (fun d => d.parameters.length) = some 1 ∧ (mM_74.nm.cls ≠ "java/lang/invoke/MethodHandle" ∧ mM_74.nm.cls ≠ "java/lang/invoke/VarHandle") := by decide +kernel
theorem mq_75 : (parseMethodDescriptor mM_75.nm.desc).map (fun d => d.parameters.length) = some 1 ∧ (mM_75.nm.cls ≠ "java/lang/invoke/MethodHandle" ∧ mM_75.nm.cls ≠ "java/lang/invoke/VarHandle") := by decide +kernel
theorem mq_76 : (parseMethodDescriptor mM_76.nm.desc).map (fun d => d.parameters.length) = some 2 ∧ (mM_76.nm.cls ≠ "java/lang/invoke/MethodHandle" ∧ mM_76.nm.cls ≠ "java/lang/invoke/VarHandle") := by decide +kernel
theorem mq_77 : (parseMethodDescriptor mM_77.nm.desc).map (fun d => d.parameters.length) = some 1 ∧ (mM_77.nm.cls ≠ "java/lang/invoke/MethodHandle" ∧ mM_77.nm.cls ≠ "java/lang/invoke/VarHandle") := by decide +kernel
theorem mq_78 : (parseMethodDescriptor mM_78.nm.desc).map (fun d => d.parameters.length) = some 1 ∧ (mM_78.nm.cls ≠ "java/lang/invoke/MethodHandle" ∧ mM_78.nm.cls ≠ "java/lang/invoke/VarHandle") := by decide +kernel
theorem mq_79 : (parseMethodDescriptor mM_79.nm.desc).map (fun d => d.parameters.length) = some 1 ∧ (mM_79.nm.cls ≠ "java/lang/invoke/MethodHandle" ∧ mM_79.nm.cls ≠ "java/lang/invoke/VarHandle") := by decide +kernel
theorem mq_80 : (parseMethodDescriptor mM_80.nm.desc).map (fun d => d.parameters.length) = some 0 ∧ (mM_80.nm.cls ≠ "java/lang/invoke/MethodHandle" ∧ mM_80.nm.cls ≠ "java/lang/invoke/VarHandle") := by decide +kernel
theorem mq_81 : (parseMethodDescriptor mM_81.nm.desc).map (fun d => d.parameters.length) = some 0 ∧ (mM_81.nm.cls ≠ "java/lang/invoke/MethodHandle" ∧ mM_81.nm.cls ≠ "java/lang/invoke/VarHandle") := by decide +kernel
theorem mq_82 : (parseMethodDescriptor mM_82.nm.desc).map (fun d => d.parameters.length) = some 0 ∧ (mM_82.nm.cls ≠ "java/lang/invoke/MethodHandle" ∧ mM_82.nm.cls ≠ "java/lang/invoke/VarHandle") := by decide +kernel
theorem mq_83 : (parseMethodDescriptor mM_83.nm.desc).map (fun d => d.parameters.length) = some 0 ∧ (mM_83.nm.cls ≠ "java/lang/invoke/MethodHandle" ∧ mM_83.nm.cls ≠ "java/lang/invoke/VarHandle") := by decide +kernel
theorem mq_84 : (parseMethodDescriptor mM_84.nm.desc).map (fun d => d.parameters.length) = some 0 ∧ (mM_84.nm.cls ≠ "java/lang/invoke/MethodHandle" ∧ mM_84.nm.cls ≠ "java/lang/invoke/VarHandle") := by decide +kernel
theorem mq_85 : (parseMethodDescriptor mM_85.nm.desc).map (fun d => d.parameters.length) = some 0 ∧ (mM_85.nm.cls ≠ "java/lang/invoke/MethodHandle" ∧ mM_85.nm.cls ≠ "java/lang/invoke/VarHandle") := by decide +kernel
theorem mq_86 : (parseMethodDescriptor mM_86.nm.desc).map (fun d => d.parameters.length) = some 0 ∧ (mM_86.nm.cls ≠ "java/lang/invoke/MethodHandle" ∧ mM_86.nm.cls ≠ "java/lang/invoke/VarHandle") := by decide +kernel
theorem mq_87 : (parseMethodDescriptor mM_87.nm.desc).map (fun d => d.parameters.length) = some 1 ∧ (mM_87.nm.cls ≠ "java/lang/invoke/MethodHandle" ∧ mM_87.nm.cls ≠ "java/lang/invoke/VarHandle") := by decide +kernel
theorem mq_88 : (parseMethodDescriptor mM_88.nm.desc).map (fun d => d.parameters.length) = some 1 ∧ (mM_88.nm.cls ≠ "java/lang/invoke/MethodHandle" ∧ mM_88.nm.cls ≠ "java/lang/invoke/VarHandle") := by decide +kernel
theorem mq_89 : (parseMethodDescriptor mM_89.nm.desc).map (fun d => d.parameters.length) = some 1 ∧ (mM_89.nm.cls ≠ "java/lang/invoke/MethodHandle" ∧ mM_89.nm.cls ≠ "java/lang/invoke/VarHandle") := by decide +kernel
theorem mq_90 : (parseMethodDescriptor mM_90.nm.desc).map (fun d => d.parameters.length) = some 0 ∧ (mM_90.nm.cls ≠ "java/lang/invoke/MethodHandle" ∧ mM_90.nm.cls ≠ "java/lang/invoke/VarHandle") := by decide +kernel
theorem mq_91 : (parseMethodDescriptor mM_91.nm.desc).map (fun d => d.parameters.length) = some 0 ∧ (mM_91.nm.cls ≠ "java/lang/invoke/MethodHandle" ∧ mM_91.nm.cls ≠ "java/lang/invoke/VarHandle") := by decide +kernel
theorem mq_92 : (parseMethodDescriptor mM_92.nm.desc).map (fun d => d.parameters.length) = some 0 ∧ (mM_92.nm.cls ≠ "java/lang/invoke/MethodHandle" ∧ mM_92.nm.cls ≠ "java/lang/invoke/VarHandle") := by decide +kernel
theorem mq_93 : (parseMethodDescriptor mM_93.nm.desc).map (fun d => d.parameters.length) = some 0 ∧ (mM_93.nm.cls ≠ "java/lang/invoke/MethodHandle" ∧ mM_93.nm.cls ≠ "java/lang/invoke/VarHandle") := by decide +kernel
theorem mq_94 : (parseMethodDescriptor mM_94.nm.desc).map (fun d => d.parameters.length) = some 2 ∧ (mM_94.nm.cls ≠ "java/lang/invoke/MethodHandle" ∧ mM_94.nm.cls ≠ "java/lang/invoke/VarHandle") := by decide +kernel
theorem mq_95 : (parseMethodDescriptor mM_95.nm.desc).map (fun d => d.parameters.length) = some 0 ∧ (mM_95.nm.cls ≠ "java/lang/invoke/MethodHandle" ∧ mM_95.nm.cls ≠ "java/lang/invoke/VarHandle") := by decide +kernel
theorem mq_96 : (parseMethodDescriptor mM_96.nm.desc).map (fun d => d.parameters.length) = some 0 ∧ (mM_96.nm.cls ≠ "java/lang/invoke/MethodHandle" ∧ mM_96.nm.cls ≠ "java/lang/invoke/VarHandle") := by decide +kernel
theorem mq_97 : (parseMethodDescriptor mM_97.nm.desc).map (fun d => d.parameters.length) = some 0 ∧ (mM_97.nm.cls ≠ "java/lang/invoke/MethodHandle" ∧ mM_97.nm.cls ≠ "java/lang/invoke/VarHandle") := by decide +kernel
theorem mq_98 : (parseMethodDescriptor mM_98.nm.desc).map (fun d => d.parameters.length) = some 0 ∧ (mM_98.nm.cls ≠ "java/lang/invoke/MethodHandle" ∧ mM_98.nm.cls ≠ "java/lang/invoke/VarHandle") := by decide +kernel
theorem mq_99 : (parseMethodDescriptor mM_99.nm.desc).map (fun d => d.parameters.length) = some 2 ∧ (mM_99.nm.cls ≠ "java/lang/invoke/MethodHandle" ∧ mM_99.nm.cls ≠ "java/lang/invoke/VarHandle") := by decide +kernel
theorem mq_100 : (parseMethodDescriptor mM_100.nm.desc).map (fun d => d.parameters.length) = some 0 ∧ (mM_100.nm.cls ≠ "java/lang/invoke/MethodHandle" ∧ mM_100.nm.cls ≠ "java/lang/invoke/VarHandle") := by decide +kernel
theorem mq_101 : (parseMethodDescriptor mM_101.nm.desc).map (fun d => d.parameters.length) = some 0 ∧ (mM_101.nm.cls ≠ "java/lang/invoke/MethodHandle" ∧ mM_101.nm.cls ≠ "java/lang/invoke/VarHandle") := by decide +kernel
theorem mq_102 : (parseMethodDescriptor mM_102.nm.desc).map (fun d => d.parameters.length) = some 0 ∧ (mM_102.nm.cls ≠ "java/lang/invoke/MethodHandle" ∧ mM_102.nm.cls ≠ "java/lang/invoke/VarHandle") := by decide +kernel
theorem mq_103 : (parseMethodDescriptor mM_103.nm.desc).map (fun d => d.parameters.length) = some 1 ∧ (mM_103.nm.cls ≠ "java/lang/invoke/MethodHandle" ∧ mM_103.nm.cls ≠ "java/lang/invoke/VarHandle") := by decide +kernel
theorem mq_104 : (parseMethodDescriptor mM_104.nm.desc).map (fun d => d.parameters.length) = some 0 ∧ (mM_104.nm.cls ≠ "java/lang/invoke/MethodHandle" ∧ mM_104.nm.cls ≠ "java/lang/invoke/VarHandle") := by decide +kernel
theorem mq_105 : (parseMethodDescriptor mM_105.nm.desc).map (fun d => d.parameters.length) = some 0 ∧ (mM_105.nm.cls ≠ "java/lang/invoke/MethodHandle" ∧ mM_105.nm.cls ≠ "java/lang/invoke/VarHandle") := by decide +kernel
theorem mq_106 : (parseMethodDescriptor mM_106.nm.desc).map (fun d => d.parameters.length) = some 0 ∧ (mM_106.nm.cls ≠ "java/lang/invoke/MethodHandle" ∧ mM_106.nm.cls ≠ "java/lang/invoke/VarHandle") := by decide +kernel
theorem mq_107 : (parseMethodDescriptor mM_107.nm.desc).map (fun d => d.parameters.length) = some 1 ∧ (mM_107.nm.cls ≠ "java/lang/invoke/MethodHandle" ∧ mM_107.nm.cls ≠ "java/lang/invoke/VarHandle") := by decide +kernel
theorem mq_108 : (parseMethodDescriptor mM_108.nm.desc).map (fun d => d.parameters.length) = some 0 ∧ (mM_108.nm.cls ≠ "java/lang/invoke/MethodHandle" ∧ mM_108.nm.cls ≠ "java/lang/invoke/VarHandle") := by decide +kernel
theorem mq_109 : (parseMethodDescriptor mM_109.nm.desc).map (fun d => d.parameters.length) = some 1 ∧ (mM_109.nm.cls ≠ "java/lang/invoke/MethodHandle" ∧ mM_109.nm.cls ≠ "java/lang/invoke/VarHandle") := by decide +kernel
theorem mq_110 : (parseMethodDescriptor mM_110.nm.desc).map (fun d => d.parameters.length) = some 3 ∧ (mM_110.nm.cls ≠ "java/lang/invoke/MethodHandle" ∧ mM_110.nm.cls ≠ "java/lang/invoke/VarHandle") := by decide +kernel
theorem mq_111 : (parseMethodDescriptor mM_111.nm.desc).map (fun d => d.parameters.length) = some 1 ∧ (mM_111.nm.cls ≠ "java/lang/invoke/MethodHandle" ∧ mM_111.nm.cls ≠ "java/lang/invoke/VarHandle") := by decide +kernel
theorem mq_112 : (parseMethodDescriptor mM_112.nm.desc).map (fun d => d.parameters.length) = some 1 ∧ (mM_112.nm.cls ≠ "java/lang/invoke/MethodHandle" ∧ mM_112.nm.cls ≠ "java/lang/invoke/VarHandle") := by decide +kernel
theorem mq_113 : (parseMethodDescriptor mM_113.nm.desc).map (fun d => d.parameters.length) = some 3 ∧ (mM_113.nm.cls ≠ "java/lang/invoke/MethodHandle" ∧ mM_113.nm.cls ≠ "java/lang/invoke/VarHandle") := by decide +kernel
theorem mq_114 : (parseMethodDescriptor mM_114.nm.desc).map (fun d => d.parameters.length) = some 1 ∧ (mM_114.nm.cls ≠ "java/lang/invoke/MethodHandle" ∧ mM_114.nm.cls ≠ "java/lang/invoke/VarHandle") := by decide +kernel
theorem mq_115 : (parseMethodDescriptor mM_115.nm.desc).map (fun d => d.parameters.length) = some 0 ∧ (mM_115.nm.cls ≠ "java/lang/invoke/MethodHandle" ∧ mM_115.nm.cls ≠ "java/lang/invoke/VarHandle") := by decide +kernel
theorem mq_116 : (parseMethodDescriptor mM_116.nm.desc).map (fun d => d.parameters.length) = some 1 ∧ (mM_116.nm.cls ≠ "java/lang/invoke/MethodHandle" ∧ mM_116.nm.cls ≠ "java/lang/invoke/VarHandle") := by decide +kernel
theorem mq_117 : (parseMethodDescriptor mM_117.nm.desc).map (fun d => d.parameters.length) = some 1 ∧ (mM_117.nm.cls ≠ "java/lang/invoke/MethodHandle" ∧ mM_117.nm.cls ≠ "java/lang/invoke/VarHandle") := by decide +kernel
theorem mq_118 : (parseMethodDescriptor mM_118.nm.desc).map (fun d => d.parameters.length) = some 1 ∧ (mM_118.nm.cls ≠ "java/lang/invoke/MethodHandle" ∧ mM_118.nm.cls ≠ "java/lang/invoke/VarHandle") := by decide +kernel
theorem mq_119 : (parseMethodDescriptor mM_119.nm.desc).map (fun d => d.parameters.length) = some 3 ∧ (mM_119.nm.cls ≠ "java/lang/invoke/MethodHandle" ∧ mM_119.nm.cls ≠ "java/lang/invoke/VarHandle") := by decide +kernel
theorem mq_120 : (parseMethodDescriptor mM_120.nm.desc).map (fun d => d.parameters.length) = some 2 ∧ (mM_120.nm.cls ≠ "java/lang/invoke/MethodHandle" ∧ mM_120.nm.cls ≠ "java/lang/invoke/VarHandle") := by decide +kernel
theorem mq_121 : (parseMethodDescriptor mM_121.nm.desc).map (fun d => d.parameters.length) = some 1 ∧ (mM_121.nm.cls ≠ "java/lang/invoke/MethodHandle" ∧ mM_121.nm.cls ≠ "java/lang/invoke/VarHandle") := by decide +kernel
theorem mq_122 : (parseMethodDescriptor mM_122.nm.desc).map (fun d => d.parameters.length) = some 2 ∧ (mM_122.nm.cls ≠ "java/lang/invoke/MethodHandle" ∧ mM_122.nm.cls ≠ "java/lang/invoke/VarHandle") := by decide +kernel
theorem mq_123 : (parseMethodDescriptor mM_123.nm.desc).map (fun d => d.parameters.length) = some 0 ∧ (mM_123.nm.cls ≠ "java/lang/invoke/MethodHandle" ∧ mM_123.nm.cls ≠ "java/lang/invoke/VarHandle") := by decide +kernel
theorem mq_124 : (parseMethodDescriptor mM_124.nm.desc).map (fun d => d.parameters.length) = some 2 ∧ (mM_124.nm.cls ≠ "java/lang/invoke/MethodHandle" ∧ mM_124.nm.cls ≠ "java/lang/invoke/VarHandle") := by decide +kernel
theorem mq_125 : (parseMethodDescriptor mM_125.nm.desc).map (fun d => d.parameters.length) = some 1 ∧ (mM_125.nm.cls ≠ "java/lang/invoke/MethodHandle" ∧ mM_125.nm.cls ≠ "java/lang/invoke/VarHandle") := by decide +kernel
theorem mq_126 : (parseMethodDescriptor mM_126.nm.desc).map (fun d => d.parameters.length) = some 0 ∧ (mM_126.nm.cls ≠ "java/lang/invoke/MethodHandle" ∧ mM_126.nm.cls ≠ "java/lang/invoke/VarHandle") := by decide +kernel
theorem mq_127 : (parseMethodDescriptor mM_127.nm.desc).map (fun d => d.parameters.length) = some 0 ∧ (mM_127.nm.cls ≠ "java/lang/invoke/MethodHandle" ∧ mM_127.nm.cls ≠ "java/lang/invoke/VarHandle") := by decide +kernel
theorem mq_128 : (parseMethodDescriptor mM_128.nm.desc).map (fun d => d.parameters.length) = some 0 ∧ (mM_128.nm.cls ≠ "java/lang/invoke/MethodHandle" ∧ mM_128.nm.cls ≠ "java/lang/invoke/VarHandle") := by decide +kernel
theorem mq_129 : (parseMethodDescriptor mM_129.nm.desc).map (fun d => d.parameters.length) = some 2 ∧ (mM_129.nm.cls ≠ "java/lang/invoke/MethodHandle" ∧ mM_129.nm.cls ≠ "java/lang/invoke/VarHandle") := by decide +kernel
theorem mq_130 : (parseMethodDescriptor mM_130.nm.desc).map (fun d => d.parameters.length) = some 0 ∧ (mM_130.nm.cls ≠ "java/lang/invoke/MethodHandle" ∧ mM_130.nm.cls ≠ "java/lang/invoke/VarHandle") := by decide +kernel
theorem mq_131 : (parseMethodDescriptor mM_131.nm.desc).map (fun d => d.parameters.length) = some 2 ∧ (mM_131.nm.cls ≠ "java/lang/invoke/MethodHandle" ∧ mM_131.nm.cls ≠ "java/lang/invoke/VarHandle") := by decide +kernel
theorem mq_132 : (parseMethodDescriptor mM_132.nm.desc).map (fun d => d.parameters.length) = some 3 ∧ (mM_132.nm.cls ≠ "java/lang/invoke/MethodHandle" ∧ mM_132.nm.cls ≠ "java/lang/invoke/VarHandle") := by decide +kernel
theorem mq_133 : (parseMethodDescriptor mM_133.nm.desc).map (fun d => d.parameters.length) = some 5 ∧ (mM_133.nm.cls ≠ "java/lang/invoke/MethodHandle" ∧ mM_133.nm.cls ≠ "java/lang/invoke/VarHandle") := by decide +kernel
theorem mq_134 : (parseMethodDescriptor mM_134.nm.desc).map (fun d => d.parameters.length) = some 3 ∧ (mM_134.nm.cls ≠ "java/lang/invoke/MethodHandle" ∧ mM_134.nm.cls ≠ "java/lang/invoke/VarHandle") := by decide +kernel
theorem mq_135 : (parseMethodDescriptor mM_135.nm.desc).map (fun d => d.parameters.length) = some 1 ∧ (mM_135.nm.cls ≠ "java/lang/invoke/MethodHandle" ∧ mM_135.nm.cls ≠ "java/lang/invoke/VarHandle") := by decide +kernel
theorem mc_3_2 (L : Nat) (xs : Nat → Int32) : mv_Cl (mg L xs) 3 2 := ⟨hw_117, hw_6, (Nat.le_of_ble_eq_true rfl), (Nat.le_of_ble_eq_true rfl), mq_2.2⟩
theorem mc_6_5 (L : Nat) (xs : Nat → Int32) : mv_Cl (mg L xs) 6 5 := ⟨hw_138, hw_8, (Nat.le_of_ble_eq_true rfl), (Nat.le_of_ble_eq_true rfl), mq_5.2⟩
theorem mc_7_6 (L : Nat) (xs : Nat → Int32) : mv_Cl (mg L xs) 7 6 := ⟨hw_133, hw_6, (Nat.le_of_ble_eq_true rfl), (Nat.le_of_ble_eq_true rfl), mq_6.2⟩
theorem mc_8_4 (L : Nat) (xs : Nat → Int32) : mv_Cl (mg L xs) 8 4 := ⟨hw_127, hw_6, (Nat.le_of_ble_eq_true rfl), (Nat.le_of_ble_eq_true rfl), mq_4.2⟩
theorem mc_8_7 (L : Nat) (xs : Nat → Int32) : mv_Cl (mg L xs) 8 7 := ⟨hw_130, hw_7, (Nat.le_of_ble_eq_true rfl), (Nat.le_of_ble_eq_true rfl), mq_7.2⟩
theorem mc_10_9 (L : Nat) (xs : Nat → Int32) : mv_Cl (mg L xs) 10 9 := ⟨hw_170, hw_11, (Nat.le_of_ble_eq_true rfl), (Nat.le_of_ble_eq_true rfl), mq_9.2⟩
theorem mc_11_3 (L : Nat) (xs : Nat → Int32) : mv_Cl (mg L xs) 11 3 := ⟨hw_113, hw_6, (Nat.le_of_ble_eq_true rfl), (Nat.le_of_ble_eq_true rfl), mq_3.2⟩
theorem mc_11_8 (L : Nat) (xs : Nat → Int32) : mv_Cl (mg L xs) 11 8 := ⟨hw_123, hw_6, (Nat.le_of_ble_eq_true rfl), (Nat.le_of_ble_eq_true rfl), mq_8.2⟩
theorem mc_11_10 (L : Nat) (xs : Nat → Int32) : mv_Cl (mg L xs) 11 10 := ⟨hw_160, hw_10, (Nat.le_of_ble_eq_true rfl), (Nat.le_of_ble_eq_true rfl), mq_10.2⟩
theorem mc_12_11 (L : Nat) (xs : Nat → Int32) : mv_Cl (mg L xs) 12 11 := ⟨hw_108, hw_5, (Nat.le_of_ble_eq_true rfl), (Nat.le_of_ble_eq_true rfl), mq_11.2⟩
theorem mc_14_13 (L : Nat) (xs : Nat → Int32) : mv_Cl (mg L xs) 14 13 := ⟨hw_211, hw_11, (Nat.le_of_ble_eq_true rfl), (Nat.le_of_ble_eq_true rfl), mq_13.2⟩
theorem mc_15_0 (L : Nat) (xs : Nat → Int32) : mv_Cl (mg L xs) 15 0 := ⟨hw_34, hw_2, (Nat.le_of_ble_eq_true rfl), (Nat.le_of_ble_eq_true rfl), mq_0.2⟩
theorem mc_15_1 (L : Nat) (xs : Nat → Int32) : mv_Cl (mg L xs) 15 1 := ⟨hw_48, hw_3, (Nat.le_of_ble_eq_true rfl), (Nat.le_of_ble_eq_true rfl), mq_1.2⟩
theorem mc_15_12 (L : Nat) (xs : Nat → Int32) : mv_Cl (mg L xs) 15 12 := ⟨hw_101, hw_4, (Nat.le_of_ble_eq_true rfl), (Nat.le_of_ble_eq_true rfl), mq_12.2⟩
theorem mc_15_14 (L : Nat) (xs : Nat → Int32) : mv_Cl (mg L xs) 15 14 := ⟨hw_207, hw_13, (Nat.le_of_ble_eq_true rfl), (Nat.le_of_ble_eq_true rfl), mq_14.2⟩
theorem mc_20_17 (L : Nat) (xs : Nat → Int32) : mv_Cl (mg L xs) 20 17 := ⟨hw_343, hw_2, (Nat.le_of_ble_eq_true rfl), (Nat.le_of_ble_eq_true rfl), mq_17.2⟩
theorem mc_20_18 (L : Nat) (xs : Nat → Int32) : mv_Cl (mg L xs) 20 18 := ⟨hw_348, hw_2, (Nat.le_of_ble_eq_true rfl), (Nat.le_of_ble_eq_true rfl), mq_18.2⟩
theorem mc_20_19 (L : Nat) (xs : Nat → Int32) : mv_Cl (mg L xs) 20 19 := ⟨hw_352, hw_2, (Nat.le_of_ble_eq_true rfl), (Nat.le_of_ble_eq_true rfl), mq_19.2⟩
theorem mc_21_20 (L : Nat) (xs : Nat → Int32) : mv_Cl (mg L xs) 21 20 := ⟨hw_256, hw_1, (Nat.le_of_ble_eq_true rfl), (Nat.le_of_ble_eq_true rfl), mq_20.2⟩
theorem mc_23_22 (L : Nat) (xs : Nat → Int32) : mv_Cl (mg L xs) 23 22 := ⟨hw_742, hw_14, (Nat.le_of_ble_eq_true rfl), (Nat.le_of_ble_eq_true rfl), mq_22.2⟩
theorem mc_31_19 (L : Nat) (xs : Nat → Int32) : mv_Cl (mg L xs) 31 19 := ⟨hw_352, hw_2, (Nat.le_of_ble_eq_true rfl), (Nat.le_of_ble_eq_true rfl), mq_19.2⟩
theorem mc_31_28 (L : Nat) (xs : Nat → Int32) : mv_Cl (mg L xs) 31 28 := ⟨hw_384, hw_2, (Nat.le_of_ble_eq_true rfl), (Nat.le_of_ble_eq_true rfl), mq_28.2⟩
theorem mc_31_30 (L : Nat) (xs : Nat → Int32) : mv_Cl (mg L xs) 31 30 := ⟨hw_390, hw_20, (Nat.le_of_ble_eq_true rfl), (Nat.le_of_ble_eq_true rfl), mq_30.2⟩
theorem mc_33_19 (L : Nat) (xs : Nat → Int32) : mv_Cl (mg L xs) 33 19 := ⟨hw_352, hw_2, (Nat.le_of_ble_eq_true rfl), (Nat.le_of_ble_eq_true rfl), mq_19.2⟩
theorem mc_33_28 (L : Nat) (xs : Nat → Int32) : mv_Cl (mg L xs) 33 28 := ⟨hw_384, hw_2, (Nat.le_of_ble_eq_true rfl), (Nat.le_of_ble_eq_true rfl), mq_28.2⟩
theorem mc_33_30 (L : Nat) (xs : Nat → Int32) : mv_Cl (mg L xs) 33 30 := ⟨hw_390, hw_20, (Nat.le_of_ble_eq_true rfl), (Nat.le_of_ble_eq_true rfl), mq_30.2⟩
theorem mc_33_32 (L : Nat) (xs : Nat → Int32) : mv_Cl (mg L xs) 33 32 := ⟨hw_402, hw_4, (Nat.le_of_ble_eq_true rfl), (Nat.le_of_ble_eq_true rfl), mq_32.2⟩
theorem mc_34_19 (L : Nat) (xs : Nat → Int32) : mv_Cl (mg L xs) 34 19 := ⟨hw_352, hw_2, (Nat.le_of_ble_eq_true rfl), (Nat.le_of_ble_eq_true rfl), mq_19.2⟩
theorem mc_34_28 (L : Nat) (xs : Nat → Int32) : mv_Cl (mg L xs) 34 28 := ⟨hw_384, hw_2, (Nat.le_of_ble_eq_true rfl), (Nat.le_of_ble_eq_true rfl), mq_28.2⟩
theorem mc_34_29 (L : Nat) (xs : Nat → Int32) : mv_Cl (mg L xs) 34 29 := ⟨hw_387, hw_20, (Nat.le_of_ble_eq_true rfl), (Nat.le_of_ble_eq_true rfl), mq_29.2⟩
theorem mc_34_30 (L : Nat) (xs : Nat → Int32) : mv_Cl (mg L xs) 34 30 := ⟨hw_390, hw_20, (Nat.le_of_ble_eq_true rfl), (Nat.le_of_ble_eq_true rfl), mq_30.2⟩
theorem mc_34_31 (L : Nat) (xs : Nat → Int32) : mv_Cl (mg L xs) 34 31 := ⟨hw_394, hw_4, (Nat.le_of_ble_eq_true rfl), (Nat.le_of_ble_eq_true rfl), mq_31.2⟩
theorem mc_34_33 (L : Nat) (xs : Nat → Int32) : mv_Cl (mg L xs) 34 33 := ⟨hw_398, hw_4, (Nat.le_of_ble_eq_true rfl), (Nat.le_of_ble_eq_true rfl), mq_33.2⟩
theorem mc_37_28 (L : Nat) (xs : Nat → Int32) : mv_Cl (mg L xs) 37 28 := ⟨hw_384, hw_2, (Nat.le_of_ble_eq_true rfl), (Nat.le_of_ble_eq_true rfl), mq_28.2⟩
theorem mc_37_32 (L : Nat) (xs : Nat → Int32) : mv_Cl (mg L xs) 37 32 := ⟨hw_402, hw_4, (Nat.le_of_ble_eq_true rfl), (Nat.le_of_ble_eq_true rfl), mq_32.2⟩
theorem mc_37_36 (L : Nat) (xs : Nat → Int32) : mv_Cl (mg L xs) 37 36 := ⟨hw_420, hw_20, (Nat.le_of_ble_eq_true rfl), (Nat.le_of_ble_eq_true rfl), mq_36.2⟩
theorem mc_39_35 (L : Nat) (xs : Nat → Int32) : mv_Cl (mg L xs) 39 35 := ⟨hw_405, hw_20, (Nat.le_of_ble_eq_true rfl), (Nat.le_of_ble_eq_true rfl), mq_35.2⟩
theorem mc_39_38 (L : Nat) (xs : Nat → Int32) : mv_Cl (mg L xs) 39 38 := ⟨hw_427, hw_20, (Nat.le_of_ble_eq_true rfl), (Nat.le_of_ble_eq_true rfl), mq_38.2⟩
theorem mc_41_28 (L : Nat) (xs : Nat → Int32) : mv_Cl (mg L xs) 41 28 := ⟨hw_384, hw_2, (Nat.le_of_ble_eq_true rfl), (Nat.le_of_ble_eq_true rfl), mq_28.2⟩
theorem mc_41_32 (L : Nat) (xs : Nat → Int32) : mv_Cl (mg L xs) 41 32 := ⟨hw_402, hw_4, (Nat.le_of_ble_eq_true rfl), (Nat.le_of_ble_eq_true rfl), mq_32.2⟩
theorem mc_41_35 (L : Nat) (xs : Nat → Int32) : mv_Cl (mg L xs) 41 35 := ⟨hw_405, hw_20, (Nat.le_of_ble_eq_true rfl), (Nat.le_of_ble_eq_true rfl), mq_35.2⟩
theorem mc_41_37 (L : Nat) (xs : Nat → Int32) : mv_Cl (mg L xs) 41 37 := ⟨hw_417, hw_4, (Nat.le_of_ble_eq_true rfl), (Nat.le_of_ble_eq_true rfl), mq_37.2⟩
theorem mc_41_39 (L : Nat) (xs : Nat → Int32) : mv_Cl (mg L xs) 41 39 := ⟨hw_423, hw_20, (Nat.le_of_ble_eq_true rfl), (Nat.le_of_ble_eq_true rfl), mq_39.2⟩
theorem mc_41_40 (L : Nat) (xs : Nat → Int32) : mv_Cl (mg L xs) 41 40 := ⟨hw_431, hw_3, (Nat.le_of_ble_eq_true rfl), (Nat.le_of_ble_eq_true rfl), mq_40.2⟩
theorem mc_43_8 (L : Nat) (xs : Nat → Int32) : mv_Cl (mg L xs) 43 8 := ⟨hw_123, hw_6, (Nat.le_of_ble_eq_true rfl), (Nat.le_of_ble_eq_true rfl), mq_8.2⟩
theorem mc_43_42 (L : Nat) (xs : Nat → Int32) : mv_Cl (mg L xs) 43 42 := ⟨hw_443, hw_5, (Nat.le_of_ble_eq_true rfl), (Nat.le_of_ble_eq_true rfl), mq_42.2⟩
theorem mc_44_43 (L : Nat) (xs : Nat → Int32) : mv_Cl (mg L xs) 44 43 := ⟨hw_439, hw_5, (Nat.le_of_ble_eq_true rfl), (Nat.le_of_ble_eq_true rfl), mq_43.2⟩
theorem mc_45_19 (L : Nat) (xs : Nat → Int32) : mv_Cl (mg L xs) 45 19 := ⟨hw_352, hw_2, (Nat.le_of_ble_eq_true rfl), (Nat.le_of_ble_eq_true rfl), mq_19.2⟩
theorem mc_45_28 (L : Nat) (xs : Nat → Int32) : mv_Cl (mg L xs) 45 28 := ⟨hw_384, hw_2, (Nat.le_of_ble_eq_true rfl), (Nat.le_of_ble_eq_true rfl), mq_28.2⟩
theorem mc_45_39 (L : Nat) (xs : Nat → Int32) : mv_Cl (mg L xs) 45 39 := ⟨hw_423, hw_20, (Nat.le_of_ble_eq_true rfl), (Nat.le_of_ble_eq_true rfl), mq_39.2⟩
theorem mc_45_40 (L : Nat) (xs : Nat → Int32) : mv_Cl (mg L xs) 45 40 := ⟨hw_431, hw_3, (Nat.le_of_ble_eq_true rfl), (Nat.le_of_ble_eq_true rfl), mq_40.2⟩
theorem mc_45_41 (L : Nat) (xs : Nat → Int32) : mv_Cl (mg L xs) 45 41 := ⟨hw_413, hw_4, (Nat.le_of_ble_eq_true rfl), (Nat.le_of_ble_eq_true rfl), mq_41.2⟩
theorem mc_45_44 (L : Nat) (xs : Nat → Int32) : mv_Cl (mg L xs) 45 44 := ⟨hw_435, hw_5, (Nat.le_of_ble_eq_true rfl), (Nat.le_of_ble_eq_true rfl), mq_44.2⟩
theorem mc_46_19 (L : Nat) (xs : Nat → Int32) : mv_Cl (mg L xs) 46 19 := ⟨hw_352, hw_2, (Nat.le_of_ble_eq_true rfl), (Nat.le_of_ble_eq_true rfl), mq_19.2⟩
theorem mc_46_28 (L : Nat) (xs : Nat → Int32) : mv_Cl (mg L xs) 46 28 := ⟨hw_384, hw_2, (Nat.le_of_ble_eq_true rfl), (Nat.le_of_ble_eq_true rfl), mq_28.2⟩
theorem mc_46_32 (L : Nat) (xs : Nat → Int32) : mv_Cl (mg L xs) 46 32 := ⟨hw_402, hw_4, (Nat.le_of_ble_eq_true rfl), (Nat.le_of_ble_eq_true rfl), mq_32.2⟩
theorem mc_46_36 (L : Nat) (xs : Nat → Int32) : mv_Cl (mg L xs) 46 36 := ⟨hw_420, hw_20, (Nat.le_of_ble_eq_true rfl), (Nat.le_of_ble_eq_true rfl), mq_36.2⟩
theorem mc_47_19 (L : Nat) (xs : Nat → Int32) : mv_Cl (mg L xs) 47 19 := ⟨hw_352, hw_2, (Nat.le_of_ble_eq_true rfl), (Nat.le_of_ble_eq_true rfl), mq_19.2⟩
theorem mc_47_28 (L : Nat) (xs : Nat → Int32) : mv_Cl (mg L xs) 47 28 := ⟨hw_384, hw_2, (Nat.le_of_ble_eq_true rfl), (Nat.le_of_ble_eq_true rfl), mq_28.2⟩
theorem mc_47_38 (L : Nat) (xs : Nat → Int32) : mv_Cl (mg L xs) 47 38 := ⟨hw_427, hw_20, (Nat.le_of_ble_eq_true rfl), (Nat.le_of_ble_eq_true rfl), mq_38.2⟩
theorem mc_48_28 (L : Nat) (xs : Nat → Int32) : mv_Cl (mg L xs) 48 28 := ⟨hw_384, hw_2, (Nat.le_of_ble_eq_true rfl), (Nat.le_of_ble_eq_true rfl), mq_28.2⟩
theorem mc_48_32 (L : Nat) (xs : Nat → Int32) : mv_Cl (mg L xs) 48 32 := ⟨hw_402, hw_4, (Nat.le_of_ble_eq_true rfl), (Nat.le_of_ble_eq_true rfl), mq_32.2⟩
theorem mc_48_38 (L : Nat) (xs : Nat → Int32) : mv_Cl (mg L xs) 48 38 := ⟨hw_427, hw_20, (Nat.le_of_ble_eq_true rfl), (Nat.le_of_ble_eq_true rfl), mq_38.2⟩
theorem mc_48_47 (L : Nat) (xs : Nat → Int32) : mv_Cl (mg L xs) 48 47 := ⟨hw_460, hw_4, (Nat.le_of_ble_eq_true rfl), (Nat.le_of_ble_eq_true rfl), mq_47.2⟩
theorem mc_49_28 (L : Nat) (xs : Nat → Int32) : mv_Cl (mg L xs) 49 28 := ⟨hw_384, hw_2, (Nat.le_of_ble_eq_true rfl), (Nat.le_of_ble_eq_true rfl), mq_28.2⟩
theorem mc_49_47 (L : Nat) (xs : Nat → Int32) : mv_Cl (mg L xs) 49 47 := ⟨hw_460, hw_4, (Nat.le_of_ble_eq_true rfl), (Nat.le_of_ble_eq_true rfl), mq_47.2⟩
theorem mc_49_48 (L : Nat) (xs : Nat → Int32) : mv_Cl (mg L xs) 49 48 := ⟨hw_464, hw_4, (Nat.le_of_ble_eq_true rfl), (Nat.le_of_ble_eq_true rfl), mq_48.2⟩
theorem mc_50_28 (L : Nat) (xs : Nat → Int32) : mv_Cl (mg L xs) 50 28 := ⟨hw_384, hw_2, (Nat.le_of_ble_eq_true rfl), (Nat.le_of_ble_eq_true rfl), mq_28.2⟩
theorem mc_50_40 (L : Nat) (xs : Nat → Int32) : mv_Cl (mg L xs) 50 40 := ⟨hw_431, hw_3, (Nat.le_of_ble_eq_true rfl), (Nat.le_of_ble_eq_true rfl), mq_40.2⟩
theorem mc_51_28 (L : Nat) (xs : Nat → Int32) : mv_Cl (mg L xs) 51 28 := ⟨hw_384, hw_2, (Nat.le_of_ble_eq_true rfl), (Nat.le_of_ble_eq_true rfl), mq_28.2⟩
theorem mc_51_32 (L : Nat) (xs : Nat → Int32) : mv_Cl (mg L xs) 51 32 := ⟨hw_402, hw_4, (Nat.le_of_ble_eq_true rfl), (Nat.le_of_ble_eq_true rfl), mq_32.2⟩
theorem mc_51_39 (L : Nat) (xs : Nat → Int32) : mv_Cl (mg L xs) 51 39 := ⟨hw_423, hw_20, (Nat.le_of_ble_eq_true rfl), (Nat.le_of_ble_eq_true rfl), mq_39.2⟩
theorem mc_51_46 (L : Nat) (xs : Nat → Int32) : mv_Cl (mg L xs) 51 46 := ⟨hw_452, hw_4, (Nat.le_of_ble_eq_true rfl), (Nat.le_of_ble_eq_true rfl), mq_46.2⟩
theorem mc_51_49 (L : Nat) (xs : Nat → Int32) : mv_Cl (mg L xs) 51 49 := ⟨hw_456, hw_4, (Nat.le_of_ble_eq_true rfl), (Nat.le_of_ble_eq_true rfl), mq_49.2⟩
theorem mc_51_50 (L : Nat) (xs : Nat → Int32) : mv_Cl (mg L xs) 51 50 := ⟨hw_468, hw_4, (Nat.le_of_ble_eq_true rfl), (Nat.le_of_ble_eq_true rfl), mq_50.2⟩
theorem mc_52_28 (L : Nat) (xs : Nat → Int32) : mv_Cl (mg L xs) 52 28 := ⟨hw_384, hw_2, (Nat.le_of_ble_eq_true rfl), (Nat.le_of_ble_eq_true rfl), mq_28.2⟩
theorem mc_52_32 (L : Nat) (xs : Nat → Int32) : mv_Cl (mg L xs) 52 32 := ⟨hw_402, hw_4, (Nat.le_of_ble_eq_true rfl), (Nat.le_of_ble_eq_true rfl), mq_32.2⟩
theorem mc_52_38 (L : Nat) (xs : Nat → Int32) : mv_Cl (mg L xs) 52 38 := ⟨hw_427, hw_20, (Nat.le_of_ble_eq_true rfl), (Nat.le_of_ble_eq_true rfl), mq_38.2⟩
theorem mc_52_40 (L : Nat) (xs : Nat → Int32) : mv_Cl (mg L xs) 52 40 := ⟨hw_431, hw_3, (Nat.le_of_ble_eq_true rfl), (Nat.le_of_ble_eq_true rfl), mq_40.2⟩
theorem mc_53_28 (L : Nat) (xs : Nat → Int32) : mv_Cl (mg L xs) 53 28 := ⟨hw_384, hw_2, (Nat.le_of_ble_eq_true rfl), (Nat.le_of_ble_eq_true rfl), mq_28.2⟩
theorem mc_55_28 (L : Nat) (xs : Nat → Int32) : mv_Cl (mg L xs) 55 28 := ⟨hw_384, hw_2, (Nat.le_of_ble_eq_true rfl), (Nat.le_of_ble_eq_true rfl), mq_28.2⟩
theorem mc_55_30 (L : Nat) (xs : Nat → Int32) : mv_Cl (mg L xs) 55 30 := ⟨hw_390, hw_20, (Nat.le_of_ble_eq_true rfl), (Nat.le_of_ble_eq_true rfl), mq_30.2⟩
theorem mc_55_32 (L : Nat) (xs : Nat → Int32) : mv_Cl (mg L xs) 55 32 := ⟨hw_402, hw_4, (Nat.le_of_ble_eq_true rfl), (Nat.le_of_ble_eq_true rfl), mq_32.2⟩
theorem mc_55_37 (L : Nat) (xs : Nat → Int32) : mv_Cl (mg L xs) 55 37 := ⟨hw_417, hw_4, (Nat.le_of_ble_eq_true rfl), (Nat.le_of_ble_eq_true rfl), mq_37.2⟩
theorem mc_55_38 (L : Nat) (xs : Nat → Int32) : mv_Cl (mg L xs) 55 38 := ⟨hw_427, hw_20, (Nat.le_of_ble_eq_true rfl), (Nat.le_of_ble_eq_true rfl), mq_38.2⟩
theorem mc_55_40 (L : Nat) (xs : Nat → Int32) : mv_Cl (mg L xs) 55 40 := ⟨hw_431, hw_3, (Nat.le_of_ble_eq_true rfl), (Nat.le_of_ble_eq_true rfl), mq_40.2⟩
theorem mc_55_52 (L : Nat) (xs : Nat → Int32) : mv_Cl (mg L xs) 55 52 := ⟨hw_480, hw_4, (Nat.le_of_ble_eq_true rfl), (Nat.le_of_ble_eq_true rfl), mq_52.2⟩
theorem mc_55_53 (L : Nat) (xs : Nat → Int32) : mv_Cl (mg L xs) 55 53 := ⟨hw_484, hw_4, (Nat.le_of_ble_eq_true rfl), (Nat.le_of_ble_eq_true rfl), mq_53.2⟩
theorem mc_55_54 (L : Nat) (xs : Nat → Int32) : mv_Cl (mg L xs) 55 54 := ⟨hw_487, hw_20, (Nat.le_of_ble_eq_true rfl), (Nat.le_of_ble_eq_true rfl), mq_54.2⟩
theorem mc_56_19 (L : Nat) (xs : Nat → Int32) : mv_Cl (mg L xs) 56 19 := ⟨hw_352, hw_2, (Nat.le_of_ble_eq_true rfl), (Nat.le_of_ble_eq_true rfl), mq_19.2⟩
theorem mc_56_28 (L : Nat) (xs : Nat → Int32) : mv_Cl (mg L xs) 56 28 := ⟨hw_384, hw_2, (Nat.le_of_ble_eq_true rfl), (Nat.le_of_ble_eq_true rfl), mq_28.2⟩
theorem mc_56_30 (L : Nat) (xs : Nat → Int32) : mv_Cl (mg L xs) 56 30 := ⟨hw_390, hw_20, (Nat.le_of_ble_eq_true rfl), (Nat.le_of_ble_eq_true rfl), mq_30.2⟩
theorem mc_56_32 (L : Nat) (xs : Nat → Int32) : mv_Cl (mg L xs) 56 32 := ⟨hw_402, hw_4, (Nat.le_of_ble_eq_true rfl), (Nat.le_of_ble_eq_true rfl), mq_32.2⟩
theorem mc_56_40 (L : Nat) (xs : Nat → Int32) : mv_Cl (mg L xs) 56 40 := ⟨hw_431, hw_3, (Nat.le_of_ble_eq_true rfl), (Nat.le_of_ble_eq_true rfl), mq_40.2⟩
theorem mc_56_55 (L : Nat) (xs : Nat → Int32) : mv_Cl (mg L xs) 56 55 := ⟨hw_476, hw_4, (Nat.le_of_ble_eq_true rfl), (Nat.le_of_ble_eq_true rfl), mq_55.2⟩
theorem mc_57_8 (L : Nat) (xs : Nat → Int32) : mv_Cl (mg L xs) 57 8 := ⟨hw_123, hw_6, (Nat.le_of_ble_eq_true rfl), (Nat.le_of_ble_eq_true rfl), mq_8.2⟩
theorem mc_57_28 (L : Nat) (xs : Nat → Int32) : mv_Cl (mg L xs) 57 28 := ⟨hw_384, hw_2, (Nat.le_of_ble_eq_true rfl), (Nat.le_of_ble_eq_true rfl), mq_28.2⟩
theorem mc_57_42 (L : Nat) (xs : Nat → Int32) : mv_Cl (mg L xs) 57 42 := ⟨hw_443, hw_5, (Nat.le_of_ble_eq_true rfl), (Nat.le_of_ble_eq_true rfl), mq_42.2⟩
theorem mc_58_42 (L : Nat) (xs : Nat → Int32) : mv_Cl (mg L xs) 58 42 := ⟨hw_443, hw_5, (Nat.le_of_ble_eq_true rfl), (Nat.le_of_ble_eq_true rfl), mq_42.2⟩
theorem mc_58_57 (L : Nat) (xs : Nat → Int32) : mv_Cl (mg L xs) 58 57 := ⟨hw_499, hw_5, (Nat.le_of_ble_eq_true rfl), (Nat.le_of_ble_eq_true rfl), mq_57.2⟩
theorem mc_59_32 (L : Nat) (xs : Nat → Int32) : mv_Cl (mg L xs) 59 32 := ⟨hw_402, hw_4, (Nat.le_of_ble_eq_true rfl), (Nat.le_of_ble_eq_true rfl), mq_32.2⟩
theorem mc_59_42 (L : Nat) (xs : Nat → Int32) : mv_Cl (mg L xs) 59 42 := ⟨hw_443, hw_5, (Nat.le_of_ble_eq_true rfl), (Nat.le_of_ble_eq_true rfl), mq_42.2⟩
theorem mc_59_58 (L : Nat) (xs : Nat → Int32) : mv_Cl (mg L xs) 59 58 := ⟨hw_495, hw_5, (Nat.le_of_ble_eq_true rfl), (Nat.le_of_ble_eq_true rfl), mq_58.2⟩
theorem mc_60_27 (L : Nat) (xs : Nat → Int32) : mv_Cl (mg L xs) 60 27 := ⟨hw_375, hw_3, (Nat.le_of_ble_eq_true rfl), (Nat.le_of_ble_eq_true rfl), mq_27.2⟩
theorem mc_60_28 (L : Nat) (xs : Nat → Int32) : mv_Cl (mg L xs) 60 28 := ⟨hw_384, hw_2, (Nat.le_of_ble_eq_true rfl), (Nat.le_of_ble_eq_true rfl), mq_28.2⟩
theorem mc_60_34 (L : Nat) (xs : Nat → Int32) : mv_Cl (mg L xs) 60 34 := ⟨hw_379, hw_4, (Nat.le_of_ble_eq_true rfl), (Nat.le_of_ble_eq_true rfl), mq_34.2⟩
theorem mc_60_35 (L : Nat) (xs : Nat → Int32) : mv_Cl (mg L xs) 60 35 := ⟨hw_405, hw_20, (Nat.le_of_ble_eq_true rfl), (Nat.le_of_ble_eq_true rfl), mq_35.2⟩
theorem mc_60_38 (L : Nat) (xs : Nat → Int32) : mv_Cl (mg L xs) 60 38 := ⟨hw_427, hw_20, (Nat.le_of_ble_eq_true rfl), (Nat.le_of_ble_eq_true rfl), mq_38.2⟩
theorem mc_60_45 (L : Nat) (xs : Nat → Int32) : mv_Cl (mg L xs) 60 45 := ⟨hw_409, hw_4, (Nat.le_of_ble_eq_true rfl), (Nat.le_of_ble_eq_true rfl), mq_45.2⟩
theorem mc_60_51 (L : Nat) (xs : Nat → Int32) : mv_Cl (mg L xs) 60 51 := ⟨hw_448, hw_4, (Nat.le_of_ble_eq_true rfl), (Nat.le_of_ble_eq_true rfl), mq_51.2⟩
theorem mc_60_56 (L : Nat) (xs : Nat → Int32) : mv_Cl (mg L xs) 60 56 := ⟨hw_472, hw_4, (Nat.le_of_ble_eq_true rfl), (Nat.le_of_ble_eq_true rfl), mq_56.2⟩
theorem mc_60_59 (L : Nat) (xs : Nat → Int32) : mv_Cl (mg L xs) 60 59 := ⟨hw_491, hw_4, (Nat.le_of_ble_eq_true rfl), (Nat.le_of_ble_eq_true rfl), mq_59.2⟩
theorem mc_62_61 (L : Nat) (xs : Nat → Int32) : mv_Cl (mg L xs) 62 61 := ⟨hw_515, hw_2, (Nat.le_of_ble_eq_true rfl), (Nat.le_of_ble_eq_true rfl), mq_61.2⟩
theorem mc_63_62 (L : Nat) (xs : Nat → Int32) : mv_Cl (mg L xs) 63 62 := ⟨hw_511, hw_1, (Nat.le_of_ble_eq_true rfl), (Nat.le_of_ble_eq_true rfl), mq_62.2⟩
theorem mc_64_25 (L : Nat) (xs : Nat → Int32) : mv_Cl (mg L xs) 64 25 := ⟨hw_363, hw_13, (Nat.le_of_ble_eq_true rfl), (Nat.le_of_ble_eq_true rfl), mq_25.2⟩
theorem mc_64_26 (L : Nat) (xs : Nat → Int32) : mv_Cl (mg L xs) 64 26 := ⟨hw_367, hw_4, (Nat.le_of_ble_eq_true rfl), (Nat.le_of_ble_eq_true rfl), mq_26.2⟩
theorem mc_64_60 (L : Nat) (xs : Nat → Int32) : mv_Cl (mg L xs) 64 60 := ⟨hw_371, hw_4, (Nat.le_of_ble_eq_true rfl), (Nat.le_of_ble_eq_true rfl), mq_60.2⟩
theorem mc_64_63 (L : Nat) (xs : Nat → Int32) : mv_Cl (mg L xs) 64 63 := ⟨hw_507, hw_1, (Nat.le_of_ble_eq_true rfl), (Nat.le_of_ble_eq_true rfl), mq_63.2⟩
theorem mc_65_64 (L : Nat) (xs : Nat → Int32) : mv_Cl (mg L xs) 65 64 := ⟨hw_359, hw_1, (Nat.le_of_ble_eq_true rfl), (Nat.le_of_ble_eq_true rfl), mq_64.2⟩
theorem mc_70_66 (L : Nat) (xs : Nat → Int32) : mv_Cl (mg L xs) 70 66 := ⟨hw_759, hw_14, (Nat.le_of_ble_eq_true rfl), (Nat.le_of_ble_eq_true rfl), mq_66.2⟩
theorem mc_70_68 (L : Nat) (xs : Nat → Int32) : mv_Cl (mg L xs) 70 68 := ⟨hw_765, hw_14, (Nat.le_of_ble_eq_true rfl), (Nat.le_of_ble_eq_true rfl), mq_68.2⟩
theorem mc_70_69 (L : Nat) (xs : Nat → Int32) : mv_Cl (mg L xs) 70 69 := ⟨hw_773, hw_14, (Nat.le_of_ble_eq_true rfl), (Nat.le_of_ble_eq_true rfl), mq_69.2⟩
theorem mc_71_66 (L : Nat) (xs : Nat → Int32) : mv_Cl (mg L xs) 71 66 := ⟨hw_759, hw_14, (Nat.le_of_ble_eq_true rfl), (Nat.le_of_ble_eq_true rfl), mq_66.2⟩
theorem mc_71_67 (L : Nat) (xs : Nat → Int32) : mv_Cl (mg L xs) 71 67 := ⟨hw_762, hw_14, (Nat.le_of_ble_eq_true rfl), (Nat.le_of_ble_eq_true rfl), mq_67.2⟩
theorem mc_71_68 (L : Nat) (xs : Nat → Int32) : mv_Cl (mg L xs) 71 68 := ⟨hw_765, hw_14, (Nat.le_of_ble_eq_true rfl), (Nat.le_of_ble_eq_true rfl), mq_68.2⟩
theorem mc_71_70 (L : Nat) (xs : Nat → Int32) : mv_Cl (mg L xs) 71 70 := ⟨hw_769, hw_14, (Nat.le_of_ble_eq_true rfl), (Nat.le_of_ble_eq_true rfl), mq_70.2⟩
theorem mc_72_22 (L : Nat) (xs : Nat → Int32) : mv_Cl (mg L xs) 72 22 := ⟨hw_742, hw_14, (Nat.le_of_ble_eq_true rfl), (Nat.le_of_ble_eq_true rfl), mq_22.2⟩
theorem mc_75_74 (L : Nat) (xs : Nat → Int32) : mv_Cl (mg L xs) 75 74 := ⟨hw_794, hw_14, (Nat.le_of_ble_eq_true rfl), (Nat.le_of_ble_eq_true rfl), mq_74.2⟩
theorem mc_76_66 (L : Nat) (xs : Nat → Int32) : mv_Cl (mg L xs) 76 66 := ⟨hw_759, hw_14, (Nat.le_of_ble_eq_true rfl), (Nat.le_of_ble_eq_true rfl), mq_66.2⟩
theorem mc_76_69 (L : Nat) (xs : Nat → Int32) : mv_Cl (mg L xs) 76 69 := ⟨hw_773, hw_14, (Nat.le_of_ble_eq_true rfl), (Nat.le_of_ble_eq_true rfl), mq_69.2⟩
theorem mc_76_75 (L : Nat) (xs : Nat → Int32) : mv_Cl (mg L xs) 76 75 := ⟨hw_791, hw_14, (Nat.le_of_ble_eq_true rfl), (Nat.le_of_ble_eq_true rfl), mq_75.2⟩
theorem mc_79_3 (L : Nat) (xs : Nat → Int32) : mv_Cl (mg L xs) 79 3 := ⟨hw_113, hw_6, (Nat.le_of_ble_eq_true rfl), (Nat.le_of_ble_eq_true rfl), mq_3.2⟩
theorem mc_79_8 (L : Nat) (xs : Nat → Int32) : mv_Cl (mg L xs) 79 8 := ⟨hw_123, hw_6, (Nat.le_of_ble_eq_true rfl), (Nat.le_of_ble_eq_true rfl), mq_8.2⟩
theorem mc_80_78 (L : Nat) (xs : Nat → Int32) : mv_Cl (mg L xs) 80 78 := ⟨hw_805, hw_14, (Nat.le_of_ble_eq_true rfl), (Nat.le_of_ble_eq_true rfl), mq_78.2⟩
theorem mc_80_79 (L : Nat) (xs : Nat → Int32) : mv_Cl (mg L xs) 80 79 := ⟨hw_855, hw_14, (Nat.le_of_ble_eq_true rfl), (Nat.le_of_ble_eq_true rfl), mq_79.2⟩
theorem mc_81_66 (L : Nat) (xs : Nat → Int32) : mv_Cl (mg L xs) 81 66 := ⟨hw_759, hw_14, (Nat.le_of_ble_eq_true rfl), (Nat.le_of_ble_eq_true rfl), mq_66.2⟩
theorem mc_81_69 (L : Nat) (xs : Nat → Int32) : mv_Cl (mg L xs) 81 69 := ⟨hw_773, hw_14, (Nat.le_of_ble_eq_true rfl), (Nat.le_of_ble_eq_true rfl), mq_69.2⟩
theorem mc_81_73 (L : Nat) (xs : Nat → Int32) : mv_Cl (mg L xs) 81 73 := ⟨hw_780, hw_14, (Nat.le_of_ble_eq_true rfl), (Nat.le_of_ble_eq_true rfl), mq_73.2⟩
theorem mc_81_74 (L : Nat) (xs : Nat → Int32) : mv_Cl (mg L xs) 81 74 := ⟨hw_794, hw_14, (Nat.le_of_ble_eq_true rfl), (Nat.le_of_ble_eq_true rfl), mq_74.2⟩
theorem mc_81_76 (L : Nat) (xs : Nat → Int32) : mv_Cl (mg L xs) 81 76 := ⟨hw_788, hw_14, (Nat.le_of_ble_eq_true rfl), (Nat.le_of_ble_eq_true rfl), mq_76.2⟩
theorem mc_81_77 (L : Nat) (xs : Nat → Int32) : mv_Cl (mg L xs) 81 77 := ⟨hw_798, hw_14, (Nat.le_of_ble_eq_true rfl), (Nat.le_of_ble_eq_true rfl), mq_77.2⟩
theorem mc_81_80 (L : Nat) (xs : Nat → Int32) : mv_Cl (mg L xs) 81 80 := ⟨hw_802, hw_14, (Nat.le_of_ble_eq_true rfl), (Nat.le_of_ble_eq_true rfl), mq_80.2⟩
theorem mc_82_66 (L : Nat) (xs : Nat → Int32) : mv_Cl (mg L xs) 82 66 := ⟨hw_759, hw_14, (Nat.le_of_ble_eq_true rfl), (Nat.le_of_ble_eq_true rfl), mq_66.2⟩
theorem mc_82_74 (L : Nat) (xs : Nat → Int32) : mv_Cl (mg L xs) 82 74 := ⟨hw_794, hw_14, (Nat.le_of_ble_eq_true rfl), (Nat.le_of_ble_eq_true rfl), mq_74.2⟩
theorem mc_83_66 (L : Nat) (xs : Nat → Int32) : mv_Cl (mg L xs) 83 66 := ⟨hw_759, hw_14, (Nat.le_of_ble_eq_true rfl), (Nat.le_of_ble_eq_true rfl), mq_66.2⟩
theorem mc_83_69 (L : Nat) (xs : Nat → Int32) : mv_Cl (mg L xs) 83 69 := ⟨hw_773, hw_14, (Nat.le_of_ble_eq_true rfl), (Nat.le_of_ble_eq_true rfl), mq_69.2⟩
theorem mc_83_74 (L : Nat) (xs : Nat → Int32) : mv_Cl (mg L xs) 83 74 := ⟨hw_794, hw_14, (Nat.le_of_ble_eq_true rfl), (Nat.le_of_ble_eq_true rfl), mq_74.2⟩
theorem mc_83_82 (L : Nat) (xs : Nat → Int32) : mv_Cl (mg L xs) 83 82 := ⟨hw_869, hw_14, (Nat.le_of_ble_eq_true rfl), (Nat.le_of_ble_eq_true rfl), mq_82.2⟩
theorem mc_84_66 (L : Nat) (xs : Nat → Int32) : mv_Cl (mg L xs) 84 66 := ⟨hw_759, hw_14, (Nat.le_of_ble_eq_true rfl), (Nat.le_of_ble_eq_true rfl), mq_66.2⟩
theorem mc_84_69 (L : Nat) (xs : Nat → Int32) : mv_Cl (mg L xs) 84 69 := ⟨hw_773, hw_14, (Nat.le_of_ble_eq_true rfl), (Nat.le_of_ble_eq_true rfl), mq_69.2⟩
theorem mc_84_73 (L : Nat) (xs : Nat → Int32) : mv_Cl (mg L xs) 84 73 := ⟨hw_780, hw_14, (Nat.le_of_ble_eq_true rfl), (Nat.le_of_ble_eq_true rfl), mq_73.2⟩
theorem mc_84_74 (L : Nat) (xs : Nat → Int32) : mv_Cl (mg L xs) 84 74 := ⟨hw_794, hw_14, (Nat.le_of_ble_eq_true rfl), (Nat.le_of_ble_eq_true rfl), mq_74.2⟩
theorem mc_84_75 (L : Nat) (xs : Nat → Int32) : mv_Cl (mg L xs) 84 75 := ⟨hw_791, hw_14, (Nat.le_of_ble_eq_true rfl), (Nat.le_of_ble_eq_true rfl), mq_75.2⟩
theorem mc_84_77 (L : Nat) (xs : Nat → Int32) : mv_Cl (mg L xs) 84 77 := ⟨hw_798, hw_14, (Nat.le_of_ble_eq_true rfl), (Nat.le_of_ble_eq_true rfl), mq_77.2⟩
theorem mc_84_83 (L : Nat) (xs : Nat → Int32) : mv_Cl (mg L xs) 84 83 := ⟨hw_865, hw_14, (Nat.le_of_ble_eq_true rfl), (Nat.le_of_ble_eq_true rfl), mq_83.2⟩
theorem mc_85_66 (L : Nat) (xs : Nat → Int32) : mv_Cl (mg L xs) 85 66 := ⟨hw_759, hw_14, (Nat.le_of_ble_eq_true rfl), (Nat.le_of_ble_eq_true rfl), mq_66.2⟩
theorem mc_85_68 (L : Nat) (xs : Nat → Int32) : mv_Cl (mg L xs) 85 68 := ⟨hw_765, hw_14, (Nat.le_of_ble_eq_true rfl), (Nat.le_of_ble_eq_true rfl), mq_68.2⟩
theorem mc_85_69 (L : Nat) (xs : Nat → Int32) : mv_Cl (mg L xs) 85 69 := ⟨hw_773, hw_14, (Nat.le_of_ble_eq_true rfl), (Nat.le_of_ble_eq_true rfl), mq_69.2⟩
theorem mc_85_74 (L : Nat) (xs : Nat → Int32) : mv_Cl (mg L xs) 85 74 := ⟨hw_794, hw_14, (Nat.le_of_ble_eq_true rfl), (Nat.le_of_ble_eq_true rfl), mq_74.2⟩
theorem mc_85_76 (L : Nat) (xs : Nat → Int32) : mv_Cl (mg L xs) 85 76 := ⟨hw_788, hw_14, (Nat.le_of_ble_eq_true rfl), (Nat.le_of_ble_eq_true rfl), mq_76.2⟩
theorem mc_85_77 (L : Nat) (xs : Nat → Int32) : mv_Cl (mg L xs) 85 77 := ⟨hw_798, hw_14, (Nat.le_of_ble_eq_true rfl), (Nat.le_of_ble_eq_true rfl), mq_77.2⟩
theorem mc_86_66 (L : Nat) (xs : Nat → Int32) : mv_Cl (mg L xs) 86 66 := ⟨hw_759, hw_14, (Nat.le_of_ble_eq_true rfl), (Nat.le_of_ble_eq_true rfl), mq_66.2⟩
theorem mc_86_68 (L : Nat) (xs : Nat → Int32) : mv_Cl (mg L xs) 86 68 := ⟨hw_765, hw_14, (Nat.le_of_ble_eq_true rfl), (Nat.le_of_ble_eq_true rfl), mq_68.2⟩
theorem mc_86_69 (L : Nat) (xs : Nat → Int32) : mv_Cl (mg L xs) 86 69 := ⟨hw_773, hw_14, (Nat.le_of_ble_eq_true rfl), (Nat.le_of_ble_eq_true rfl), mq_69.2⟩
theorem mc_86_77 (L : Nat) (xs : Nat → Int32) : mv_Cl (mg L xs) 86 77 := ⟨hw_798, hw_14, (Nat.le_of_ble_eq_true rfl), (Nat.le_of_ble_eq_true rfl), mq_77.2⟩
theorem mc_86_85 (L : Nat) (xs : Nat → Int32) : mv_Cl (mg L xs) 86 85 := ⟨hw_877, hw_14, (Nat.le_of_ble_eq_true rfl), (Nat.le_of_ble_eq_true rfl), mq_85.2⟩
theorem mc_88_87 (L : Nat) (xs : Nat → Int32) : mv_Cl (mg L xs) 88 87 := ⟨hw_917, hw_14, (Nat.le_of_ble_eq_true rfl), (Nat.le_of_ble_eq_true rfl), mq_87.2⟩
theorem mc_89_3 (L : Nat) (xs : Nat → Int32) : mv_Cl (mg L xs) 89 3 := ⟨hw_113, hw_6, (Nat.le_of_ble_eq_true rfl), (Nat.le_of_ble_eq_true rfl), mq_3.2⟩
theorem mc_89_8 (L : Nat) (xs : Nat → Int32) : mv_Cl (mg L xs) 89 8 := ⟨hw_123, hw_6, (Nat.le_of_ble_eq_true rfl), (Nat.le_of_ble_eq_true rfl), mq_8.2⟩
theorem mc_89_66 (L : Nat) (xs : Nat → Int32) : mv_Cl (mg L xs) 89 66 := ⟨hw_759, hw_14, (Nat.le_of_ble_eq_true rfl), (Nat.le_of_ble_eq_true rfl), mq_66.2⟩
theorem mc_89_88 (L : Nat) (xs : Nat → Int32) : mv_Cl (mg L xs) 89 88 := ⟨hw_888, hw_14, (Nat.le_of_ble_eq_true rfl), (Nat.le_of_ble_eq_true rfl), mq_88.2⟩
theorem mc_90_69 (L : Nat) (xs : Nat → Int32) : mv_Cl (mg L xs) 90 69 := ⟨hw_773, hw_14, (Nat.le_of_ble_eq_true rfl), (Nat.le_of_ble_eq_true rfl), mq_69.2⟩
theorem mc_90_89 (L : Nat) (xs : Nat → Int32) : mv_Cl (mg L xs) 90 89 := ⟨hw_885, hw_14, (Nat.le_of_ble_eq_true rfl), (Nat.le_of_ble_eq_true rfl), mq_89.2⟩
theorem mc_91_66 (L : Nat) (xs : Nat → Int32) : mv_Cl (mg L xs) 91 66 := ⟨hw_759, hw_14, (Nat.le_of_ble_eq_true rfl), (Nat.le_of_ble_eq_true rfl), mq_66.2⟩
theorem mc_91_71 (L : Nat) (xs : Nat → Int32) : mv_Cl (mg L xs) 91 71 := ⟨hw_755, hw_14, (Nat.le_of_ble_eq_true rfl), (Nat.le_of_ble_eq_true rfl), mq_71.2⟩
theorem mc_91_72 (L : Nat) (xs : Nat → Int32) : mv_Cl (mg L xs) 91 72 := ⟨hw_777, hw_14, (Nat.le_of_ble_eq_true rfl), (Nat.le_of_ble_eq_true rfl), mq_72.2⟩
theorem mc_91_73 (L : Nat) (xs : Nat → Int32) : mv_Cl (mg L xs) 91 73 := ⟨hw_780, hw_14, (Nat.le_of_ble_eq_true rfl), (Nat.le_of_ble_eq_true rfl), mq_73.2⟩
theorem mc_91_74 (L : Nat) (xs : Nat → Int32) : mv_Cl (mg L xs) 91 74 := ⟨hw_794, hw_14, (Nat.le_of_ble_eq_true rfl), (Nat.le_of_ble_eq_true rfl), mq_74.2⟩
theorem mc_91_81 (L : Nat) (xs : Nat → Int32) : mv_Cl (mg L xs) 91 81 := ⟨hw_784, hw_14, (Nat.le_of_ble_eq_true rfl), (Nat.le_of_ble_eq_true rfl), mq_81.2⟩
theorem mc_91_84 (L : Nat) (xs : Nat → Int32) : mv_Cl (mg L xs) 91 84 := ⟨hw_861, hw_14, (Nat.le_of_ble_eq_true rfl), (Nat.le_of_ble_eq_true rfl), mq_84.2⟩
theorem mc_91_86 (L : Nat) (xs : Nat → Int32) : mv_Cl (mg L xs) 91 86 := ⟨hw_873, hw_14, (Nat.le_of_ble_eq_true rfl), (Nat.le_of_ble_eq_true rfl), mq_86.2⟩
theorem mc_91_90 (L : Nat) (xs : Nat → Int32) : mv_Cl (mg L xs) 91 90 := ⟨hw_881, hw_14, (Nat.le_of_ble_eq_true rfl), (Nat.le_of_ble_eq_true rfl), mq_90.2⟩
theorem mc_92_22 (L : Nat) (xs : Nat → Int32) : mv_Cl (mg L xs) 92 22 := ⟨hw_742, hw_14, (Nat.le_of_ble_eq_true rfl), (Nat.le_of_ble_eq_true rfl), mq_22.2⟩
theorem mc_92_91 (L : Nat) (xs : Nat → Int32) : mv_Cl (mg L xs) 92 91 := ⟨hw_751, hw_14, (Nat.le_of_ble_eq_true rfl), (Nat.le_of_ble_eq_true rfl), mq_91.2⟩
theorem mc_93_60 (L : Nat) (xs : Nat → Int32) : mv_Cl (mg L xs) 93 60 := ⟨hw_371, hw_4, (Nat.le_of_ble_eq_true rfl), (Nat.le_of_ble_eq_true rfl), mq_60.2⟩
theorem mc_93_63 (L : Nat) (xs : Nat → Int32) : mv_Cl (mg L xs) 93 63 := ⟨hw_507, hw_1, (Nat.le_of_ble_eq_true rfl), (Nat.le_of_ble_eq_true rfl), mq_63.2⟩
theorem mc_94_93 (L : Nat) (xs : Nat → Int32) : mv_Cl (mg L xs) 94 93 := ⟨hw_523, hw_1, (Nat.le_of_ble_eq_true rfl), (Nat.le_of_ble_eq_true rfl), mq_93.2⟩
theorem mc_95_22 (L : Nat) (xs : Nat → Int32) : mv_Cl (mg L xs) 95 22 := ⟨hw_742, hw_14, (Nat.le_of_ble_eq_true rfl), (Nat.le_of_ble_eq_true rfl), mq_22.2⟩
theorem mc_95_91 (L : Nat) (xs : Nat → Int32) : mv_Cl (mg L xs) 95 91 := ⟨hw_751, hw_14, (Nat.le_of_ble_eq_true rfl), (Nat.le_of_ble_eq_true rfl), mq_91.2⟩
theorem mc_96_19 (L : Nat) (xs : Nat → Int32) : mv_Cl (mg L xs) 96 19 := ⟨hw_352, hw_2, (Nat.le_of_ble_eq_true rfl), (Nat.le_of_ble_eq_true rfl), mq_19.2⟩
theorem mc_96_28 (L : Nat) (xs : Nat → Int32) : mv_Cl (mg L xs) 96 28 := ⟨hw_384, hw_2, (Nat.le_of_ble_eq_true rfl), (Nat.le_of_ble_eq_true rfl), mq_28.2⟩
theorem mc_96_30 (L : Nat) (xs : Nat → Int32) : mv_Cl (mg L xs) 96 30 := ⟨hw_390, hw_20, (Nat.le_of_ble_eq_true rfl), (Nat.le_of_ble_eq_true rfl), mq_30.2⟩
theorem mc_96_32 (L : Nat) (xs : Nat → Int32) : mv_Cl (mg L xs) 96 32 := ⟨hw_402, hw_4, (Nat.le_of_ble_eq_true rfl), (Nat.le_of_ble_eq_true rfl), mq_32.2⟩
theorem mc_97_19 (L : Nat) (xs : Nat → Int32) : mv_Cl (mg L xs) 97 19 := ⟨hw_352, hw_2, (Nat.le_of_ble_eq_true rfl), (Nat.le_of_ble_eq_true rfl), mq_19.2⟩
theorem mc_97_28 (L : Nat) (xs : Nat → Int32) : mv_Cl (mg L xs) 97 28 := ⟨hw_384, hw_2, (Nat.le_of_ble_eq_true rfl), (Nat.le_of_ble_eq_true rfl), mq_28.2⟩
theorem mc_97_32 (L : Nat) (xs : Nat → Int32) : mv_Cl (mg L xs) 97 32 := ⟨hw_402, hw_4, (Nat.le_of_ble_eq_true rfl), (Nat.le_of_ble_eq_true rfl), mq_32.2⟩
theorem mc_97_39 (L : Nat) (xs : Nat → Int32) : mv_Cl (mg L xs) 97 39 := ⟨hw_423, hw_20, (Nat.le_of_ble_eq_true rfl), (Nat.le_of_ble_eq_true rfl), mq_39.2⟩
theorem mc_97_50 (L : Nat) (xs : Nat → Int32) : mv_Cl (mg L xs) 97 50 := ⟨hw_468, hw_4, (Nat.le_of_ble_eq_true rfl), (Nat.le_of_ble_eq_true rfl), mq_50.2⟩
theorem mc_97_96 (L : Nat) (xs : Nat → Int32) : mv_Cl (mg L xs) 97 96 := ⟨hw_540, hw_4, (Nat.le_of_ble_eq_true rfl), (Nat.le_of_ble_eq_true rfl), mq_96.2⟩
theorem mc_98_63 (L : Nat) (xs : Nat → Int32) : mv_Cl (mg L xs) 98 63 := ⟨hw_507, hw_1, (Nat.le_of_ble_eq_true rfl), (Nat.le_of_ble_eq_true rfl), mq_63.2⟩
theorem mc_98_97 (L : Nat) (xs : Nat → Int32) : mv_Cl (mg L xs) 98 97 := ⟨hw_536, hw_4, (Nat.le_of_ble_eq_true rfl), (Nat.le_of_ble_eq_true rfl), mq_97.2⟩
theorem mc_99_98 (L : Nat) (xs : Nat → Int32) : mv_Cl (mg L xs) 99 98 := ⟨hw_531, hw_1, (Nat.le_of_ble_eq_true rfl), (Nat.le_of_ble_eq_true rfl), mq_98.2⟩
theorem mc_100_66 (L : Nat) (xs : Nat → Int32) : mv_Cl (mg L xs) 100 66 := ⟨hw_759, hw_14, (Nat.le_of_ble_eq_true rfl), (Nat.le_of_ble_eq_true rfl), mq_66.2⟩
theorem mc_100_68 (L : Nat) (xs : Nat → Int32) : mv_Cl (mg L xs) 100 68 := ⟨hw_765, hw_14, (Nat.le_of_ble_eq_true rfl), (Nat.le_of_ble_eq_true rfl), mq_68.2⟩
theorem mc_100_69 (L : Nat) (xs : Nat → Int32) : mv_Cl (mg L xs) 100 69 := ⟨hw_773, hw_14, (Nat.le_of_ble_eq_true rfl), (Nat.le_of_ble_eq_true rfl), mq_69.2⟩
theorem mc_100_73 (L : Nat) (xs : Nat → Int32) : mv_Cl (mg L xs) 100 73 := ⟨hw_780, hw_14, (Nat.le_of_ble_eq_true rfl), (Nat.le_of_ble_eq_true rfl), mq_73.2⟩
theorem mc_100_74 (L : Nat) (xs : Nat → Int32) : mv_Cl (mg L xs) 100 74 := ⟨hw_794, hw_14, (Nat.le_of_ble_eq_true rfl), (Nat.le_of_ble_eq_true rfl), mq_74.2⟩
theorem mc_100_77 (L : Nat) (xs : Nat → Int32) : mv_Cl (mg L xs) 100 77 := ⟨hw_798, hw_14, (Nat.le_of_ble_eq_true rfl), (Nat.le_of_ble_eq_true rfl), mq_77.2⟩
theorem mc_101_22 (L : Nat) (xs : Nat → Int32) : mv_Cl (mg L xs) 101 22 := ⟨hw_742, hw_14, (Nat.le_of_ble_eq_true rfl), (Nat.le_of_ble_eq_true rfl), mq_22.2⟩
theorem mc_101_72 (L : Nat) (xs : Nat → Int32) : mv_Cl (mg L xs) 101 72 := ⟨hw_777, hw_14, (Nat.le_of_ble_eq_true rfl), (Nat.le_of_ble_eq_true rfl), mq_72.2⟩
theorem mc_101_100 (L : Nat) (xs : Nat → Int32) : mv_Cl (mg L xs) 101 100 := ⟨hw_940, hw_14, (Nat.le_of_ble_eq_true rfl), (Nat.le_of_ble_eq_true rfl), mq_100.2⟩
theorem mc_102_62 (L : Nat) (xs : Nat → Int32) : mv_Cl (mg L xs) 102 62 := ⟨hw_511, hw_1, (Nat.le_of_ble_eq_true rfl), (Nat.le_of_ble_eq_true rfl), mq_62.2⟩
theorem mc_103_102 (L : Nat) (xs : Nat → Int32) : mv_Cl (mg L xs) 103 102 := ⟨hw_547, hw_1, (Nat.le_of_ble_eq_true rfl), (Nat.le_of_ble_eq_true rfl), mq_102.2⟩
theorem mc_104_22 (L : Nat) (xs : Nat → Int32) : mv_Cl (mg L xs) 104 22 := ⟨hw_742, hw_14, (Nat.le_of_ble_eq_true rfl), (Nat.le_of_ble_eq_true rfl), mq_22.2⟩
theorem mc_108_3 (L : Nat) (xs : Nat → Int32) : mv_Cl (mg L xs) 108 3 := ⟨hw_113, hw_6, (Nat.le_of_ble_eq_true rfl), (Nat.le_of_ble_eq_true rfl), mq_3.2⟩
theorem mc_108_8 (L : Nat) (xs : Nat → Int32) : mv_Cl (mg L xs) 108 8 := ⟨hw_123, hw_6, (Nat.le_of_ble_eq_true rfl), (Nat.le_of_ble_eq_true rfl), mq_8.2⟩
theorem mc_109_107 (L : Nat) (xs : Nat → Int32) : mv_Cl (mg L xs) 109 107 := ⟨hw_559, hw_1, (Nat.le_of_ble_eq_true rfl), (Nat.le_of_ble_eq_true rfl), mq_107.2⟩
theorem mc_109_108 (L : Nat) (xs : Nat → Int32) : mv_Cl (mg L xs) 109 108 := ⟨hw_563, hw_3, (Nat.le_of_ble_eq_true rfl), (Nat.le_of_ble_eq_true rfl), mq_108.2⟩
theorem mc_110_109 (L : Nat) (xs : Nat → Int32) : mv_Cl (mg L xs) 110 109 := ⟨hw_555, hw_1, (Nat.le_of_ble_eq_true rfl), (Nat.le_of_ble_eq_true rfl), mq_109.2⟩
theorem mc_111_22 (L : Nat) (xs : Nat → Int32) : mv_Cl (mg L xs) 111 22 := ⟨hw_742, hw_14, (Nat.le_of_ble_eq_true rfl), (Nat.le_of_ble_eq_true rfl), mq_22.2⟩
theorem mc_111_79 (L : Nat) (xs : Nat → Int32) : mv_Cl (mg L xs) 111 79 := ⟨hw_855, hw_14, (Nat.le_of_ble_eq_true rfl), (Nat.le_of_ble_eq_true rfl), mq_79.2⟩
theorem mc_113_112 (L : Nat) (xs : Nat → Int32) : mv_Cl (mg L xs) 113 112 := ⟨hw_574, hw_1, (Nat.le_of_ble_eq_true rfl), (Nat.le_of_ble_eq_true rfl), mq_112.2⟩
theorem mc_114_22 (L : Nat) (xs : Nat → Int32) : mv_Cl (mg L xs) 114 22 := ⟨hw_742, hw_14, (Nat.le_of_ble_eq_true rfl), (Nat.le_of_ble_eq_true rfl), mq_22.2⟩
theorem mc_118_116 (L : Nat) (xs : Nat → Int32) : mv_Cl (mg L xs) 118 116 := ⟨hw_614, hw_13, (Nat.le_of_ble_eq_true rfl), (Nat.le_of_ble_eq_true rfl), mq_116.2⟩
theorem mc_118_117 (L : Nat) (xs : Nat → Int32) : mv_Cl (mg L xs) 118 117 := ⟨hw_618, hw_13, (Nat.le_of_ble_eq_true rfl), (Nat.le_of_ble_eq_true rfl), mq_117.2⟩
theorem mc_119_117 (L : Nat) (xs : Nat → Int32) : mv_Cl (mg L xs) 119 117 := ⟨hw_618, hw_13, (Nat.le_of_ble_eq_true rfl), (Nat.le_of_ble_eq_true rfl), mq_117.2⟩
theorem mc_120_118 (L : Nat) (xs : Nat → Int32) : mv_Cl (mg L xs) 120 118 := ⟨hw_610, hw_13, (Nat.le_of_ble_eq_true rfl), (Nat.le_of_ble_eq_true rfl), mq_118.2⟩
theorem mc_120_119 (L : Nat) (xs : Nat → Int32) : mv_Cl (mg L xs) 120 119 := ⟨hw_622, hw_13, (Nat.le_of_ble_eq_true rfl), (Nat.le_of_ble_eq_true rfl), mq_119.2⟩
theorem mc_121_117 (L : Nat) (xs : Nat → Int32) : mv_Cl (mg L xs) 121 117 := ⟨hw_618, hw_13, (Nat.le_of_ble_eq_true rfl), (Nat.le_of_ble_eq_true rfl), mq_117.2⟩
theorem mc_122_117 (L : Nat) (xs : Nat → Int32) : mv_Cl (mg L xs) 122 117 := ⟨hw_618, hw_13, (Nat.le_of_ble_eq_true rfl), (Nat.le_of_ble_eq_true rfl), mq_117.2⟩
theorem mc_122_121 (L : Nat) (xs : Nat → Int32) : mv_Cl (mg L xs) 122 121 := ⟨hw_630, hw_13, (Nat.le_of_ble_eq_true rfl), (Nat.le_of_ble_eq_true rfl), mq_121.2⟩
theorem mc_123_115 (L : Nat) (xs : Nat → Int32) : mv_Cl (mg L xs) 123 115 := ⟨hw_601, hw_3, (Nat.le_of_ble_eq_true rfl), (Nat.le_of_ble_eq_true rfl), mq_115.2⟩
theorem mc_123_120 (L : Nat) (xs : Nat → Int32) : mv_Cl (mg L xs) 123 120 := ⟨hw_606, hw_13, (Nat.le_of_ble_eq_true rfl), (Nat.le_of_ble_eq_true rfl), mq_120.2⟩
theorem mc_123_122 (L : Nat) (xs : Nat → Int32) : mv_Cl (mg L xs) 123 122 := ⟨hw_626, hw_13, (Nat.le_of_ble_eq_true rfl), (Nat.le_of_ble_eq_true rfl), mq_122.2⟩
theorem mc_124_123 (L : Nat) (xs : Nat → Int32) : mv_Cl (mg L xs) 124 123 := ⟨hw_597, hw_1, (Nat.le_of_ble_eq_true rfl), (Nat.le_of_ble_eq_true rfl), mq_123.2⟩
theorem mc_126_22 (L : Nat) (xs : Nat → Int32) : mv_Cl (mg L xs) 126 22 := ⟨hw_742, hw_14, (Nat.le_of_ble_eq_true rfl), (Nat.le_of_ble_eq_true rfl), mq_22.2⟩
theorem mc_126_125 (L : Nat) (xs : Nat → Int32) : mv_Cl (mg L xs) 126 125 := ⟨hw_965, hw_14, (Nat.le_of_ble_eq_true rfl), (Nat.le_of_ble_eq_true rfl), mq_125.2⟩
theorem mc_128_121 (L : Nat) (xs : Nat → Int32) : mv_Cl (mg L xs) 128 121 := ⟨hw_630, hw_13, (Nat.le_of_ble_eq_true rfl), (Nat.le_of_ble_eq_true rfl), mq_121.2⟩
theorem mc_128_122 (L : Nat) (xs : Nat → Int32) : mv_Cl (mg L xs) 128 122 := ⟨hw_626, hw_13, (Nat.le_of_ble_eq_true rfl), (Nat.le_of_ble_eq_true rfl), mq_122.2⟩
theorem mc_128_127 (L : Nat) (xs : Nat → Int32) : mv_Cl (mg L xs) 128 127 := ⟨hw_642, hw_3, (Nat.le_of_ble_eq_true rfl), (Nat.le_of_ble_eq_true rfl), mq_127.2⟩
theorem mc_129_128 (L : Nat) (xs : Nat → Int32) : mv_Cl (mg L xs) 129 128 := ⟨hw_638, hw_1, (Nat.le_of_ble_eq_true rfl), (Nat.le_of_ble_eq_true rfl), mq_128.2⟩
theorem mc_130_22 (L : Nat) (xs : Nat → Int32) : mv_Cl (mg L xs) 130 22 := ⟨hw_742, hw_14, (Nat.le_of_ble_eq_true rfl), (Nat.le_of_ble_eq_true rfl), mq_22.2⟩
theorem mc_131_117 (L : Nat) (xs : Nat → Int32) : mv_Cl (mg L xs) 131 117 := ⟨hw_618, hw_13, (Nat.le_of_ble_eq_true rfl), (Nat.le_of_ble_eq_true rfl), mq_117.2⟩
theorem mc_131_118 (L : Nat) (xs : Nat → Int32) : mv_Cl (mg L xs) 131 118 := ⟨hw_610, hw_13, (Nat.le_of_ble_eq_true rfl), (Nat.le_of_ble_eq_true rfl), mq_118.2⟩
theorem mc_132_116 (L : Nat) (xs : Nat → Int32) : mv_Cl (mg L xs) 132 116 := ⟨hw_614, hw_13, (Nat.le_of_ble_eq_true rfl), (Nat.le_of_ble_eq_true rfl), mq_116.2⟩
theorem mc_132_118 (L : Nat) (xs : Nat → Int32) : mv_Cl (mg L xs) 132 118 := ⟨hw_610, hw_13, (Nat.le_of_ble_eq_true rfl), (Nat.le_of_ble_eq_true rfl), mq_118.2⟩
theorem mc_132_131 (L : Nat) (xs : Nat → Int32) : mv_Cl (mg L xs) 132 131 := ⟨hw_660, hw_13, (Nat.le_of_ble_eq_true rfl), (Nat.le_of_ble_eq_true rfl), mq_131.2⟩
theorem mc_133_132 (L : Nat) (xs : Nat → Int32) : mv_Cl (mg L xs) 133 132 := ⟨hw_652, hw_1, (Nat.le_of_ble_eq_true rfl), (Nat.le_of_ble_eq_true rfl), mq_132.2⟩
theorem mc_134_22 (L : Nat) (xs : Nat → Int32) : mv_Cl (mg L xs) 134 22 := ⟨hw_742, hw_14, (Nat.le_of_ble_eq_true rfl), (Nat.le_of_ble_eq_true rfl), mq_22.2⟩
theorem mc_135_15 (L : Nat) (xs : Nat → Int32) : mv_Cl (mg L xs) 135 15 := ⟨hw_26, hw_1, (Nat.le_of_ble_eq_true rfl), (Nat.le_of_ble_eq_true rfl), mq_15.2⟩
theorem mc_135_16 (L : Nat) (xs : Nat → Int32) : mv_Cl (mg L xs) 135 16 := ⟨hw_665, hw_14, (Nat.le_of_ble_eq_true rfl), (Nat.le_of_ble_eq_true rfl), mq_16.2⟩
theorem mc_135_21 (L : Nat) (xs : Nat → Int32) : mv_Cl (mg L xs) 135 21 := ⟨hw_250, hw_0, (Nat.le_of_ble_eq_true rfl), (Nat.le_of_ble_eq_true rfl), mq_21.2⟩
theorem mc_135_23 (L : Nat) (xs : Nat → Int32) : mv_Cl (mg L xs) 135 23 := ⟨hw_738, hw_14, (Nat.le_of_ble_eq_true rfl), (Nat.le_of_ble_eq_true rfl), mq_23.2⟩
theorem mc_135_24 (L : Nat) (xs : Nat → Int32) : mv_Cl (mg L xs) 135 24 := ⟨hw_734, hw_14, (Nat.le_of_ble_eq_true rfl), (Nat.le_of_ble_eq_true rfl), mq_24.2⟩
theorem mc_135_65 (L : Nat) (xs : Nat → Int32) : mv_Cl (mg L xs) 135 65 := ⟨hw_355, hw_0, (Nat.le_of_ble_eq_true rfl), (Nat.le_of_ble_eq_true rfl), mq_65.2⟩
theorem mc_135_92 (L : Nat) (xs : Nat → Int32) : mv_Cl (mg L xs) 135 92 := ⟨hw_747, hw_14, (Nat.le_of_ble_eq_true rfl), (Nat.le_of_ble_eq_true rfl), mq_92.2⟩
theorem mc_135_94 (L : Nat) (xs : Nat → Int32) : mv_Cl (mg L xs) 135 94 := ⟨hw_519, hw_0, (Nat.le_of_ble_eq_true rfl), (Nat.le_of_ble_eq_true rfl), mq_94.2⟩
theorem mc_135_95 (L : Nat) (xs : Nat → Int32) : mv_Cl (mg L xs) 135 95 := ⟨hw_932, hw_14, (Nat.le_of_ble_eq_true rfl), (Nat.le_of_ble_eq_true rfl), mq_95.2⟩
theorem mc_135_99 (L : Nat) (xs : Nat → Int32) : mv_Cl (mg L xs) 135 99 := ⟨hw_527, hw_0, (Nat.le_of_ble_eq_true rfl), (Nat.le_of_ble_eq_true rfl), mq_99.2⟩
theorem mc_135_101 (L : Nat) (xs : Nat → Int32) : mv_Cl (mg L xs) 135 101 := ⟨hw_936, hw_14, (Nat.le_of_ble_eq_true rfl), (Nat.le_of_ble_eq_true rfl), mq_101.2⟩
theorem mc_135_103 (L : Nat) (xs : Nat → Int32) : mv_Cl (mg L xs) 135 103 := ⟨hw_543, hw_0, (Nat.le_of_ble_eq_true rfl), (Nat.le_of_ble_eq_true rfl), mq_103.2⟩
theorem mc_135_104 (L : Nat) (xs : Nat → Int32) : mv_Cl (mg L xs) 135 104 := ⟨hw_944, hw_14, (Nat.le_of_ble_eq_true rfl), (Nat.le_of_ble_eq_true rfl), mq_104.2⟩
theorem mc_135_105 (L : Nat) (xs : Nat → Int32) : mv_Cl (mg L xs) 135 105 := ⟨hw_247, hw_1, (Nat.le_of_ble_eq_true rfl), (Nat.le_of_ble_eq_true rfl), mq_105.2⟩
theorem mc_135_106 (L : Nat) (xs : Nat → Int32) : mv_Cl (mg L xs) 135 106 := ⟨hw_948, hw_14, (Nat.le_of_ble_eq_true rfl), (Nat.le_of_ble_eq_true rfl), mq_106.2⟩
theorem mc_135_110 (L : Nat) (xs : Nat → Int32) : mv_Cl (mg L xs) 135 110 := ⟨hw_551, hw_0, (Nat.le_of_ble_eq_true rfl), (Nat.le_of_ble_eq_true rfl), mq_110.2⟩
theorem mc_135_111 (L : Nat) (xs : Nat → Int32) : mv_Cl (mg L xs) 135 111 := ⟨hw_952, hw_14, (Nat.le_of_ble_eq_true rfl), (Nat.le_of_ble_eq_true rfl), mq_111.2⟩
theorem mc_135_113 (L : Nat) (xs : Nat → Int32) : mv_Cl (mg L xs) 135 113 := ⟨hw_569, hw_0, (Nat.le_of_ble_eq_true rfl), (Nat.le_of_ble_eq_true rfl), mq_113.2⟩
theorem mc_135_114 (L : Nat) (xs : Nat → Int32) : mv_Cl (mg L xs) 135 114 := ⟨hw_957, hw_14, (Nat.le_of_ble_eq_true rfl), (Nat.le_of_ble_eq_true rfl), mq_114.2⟩
theorem mc_135_124 (L : Nat) (xs : Nat → Int32) : mv_Cl (mg L xs) 135 124 := ⟨hw_593, hw_0, (Nat.le_of_ble_eq_true rfl), (Nat.le_of_ble_eq_true rfl), mq_124.2⟩
theorem mc_135_126 (L : Nat) (xs : Nat → Int32) : mv_Cl (mg L xs) 135 126 := ⟨hw_961, hw_14, (Nat.le_of_ble_eq_true rfl), (Nat.le_of_ble_eq_true rfl), mq_126.2⟩
theorem mc_135_129 (L : Nat) (xs : Nat → Int32) : mv_Cl (mg L xs) 135 129 := ⟨hw_634, hw_0, (Nat.le_of_ble_eq_true rfl), (Nat.le_of_ble_eq_true rfl), mq_129.2⟩
theorem mc_135_130 (L : Nat) (xs : Nat → Int32) : mv_Cl (mg L xs) 135 130 := ⟨hw_969, hw_14, (Nat.le_of_ble_eq_true rfl), (Nat.le_of_ble_eq_true rfl), mq_130.2⟩
theorem mc_135_133 (L : Nat) (xs : Nat → Int32) : mv_Cl (mg L xs) 135 133 := ⟨hw_648, hw_0, (Nat.le_of_ble_eq_true rfl), (Nat.le_of_ble_eq_true rfl), mq_133.2⟩
theorem mc_135_134 (L : Nat) (xs : Nat → Int32) : mv_Cl (mg L xs) 135 134 := ⟨hw_973, hw_14, (Nat.le_of_ble_eq_true rfl), (Nat.le_of_ble_eq_true rfl), mq_134.2⟩
