theorem tbl_0 (i : Nat) {w : Cond} (h : (k2_sels lw_privs)[i]? = some w) : w ∈ lw_tbl := List.mem_append_left _ (List.mem_of_getElem? h)
theorem gwt_0 (i : Nat) {w : Cond} (h : (k2_sels lw_privs)[i]? = some w) (hg : goodWord w = true) : w ∈ gw := List.mem_filter.mpr ⟨tbl_0 i h, hg⟩
theorem nwt_0 (i : Nat) {w : Cond} (h : (k2_sels lw_privs)[i]? = some w) (hg : isNest w = true) : w ∈ nw := List.mem_filter.mpr ⟨tbl_0 i h, hg⟩
theorem tbl_1 (i : Nat) {w : Cond} (h : (tables_1_1)[i]? = some w) : w ∈ lw_tbl := List.mem_append_right _ (List.mem_append_left _ (List.mem_of_getElem? h))
theorem gwt_1 (i : Nat) {w : Cond} (h : (tables_1_1)[i]? = some w) (hg : goodWord w = true) : w ∈ gw := List.mem_filter.mpr ⟨tbl_1 i h, hg⟩
theorem nwt_1 (i : Nat) {w : Cond} (h : (tables_1_1)[i]? = some w) (hg : isNest w = true) : w ∈ nw := List.mem_filter.mpr ⟨tbl_1 i h, hg⟩
theorem tbl_2 (i : Nat) {w : Cond} (h : (tables_1_2)[i]? = some w) : w ∈ lw_tbl := List.mem_append_right _ (List.mem_append_right _ (List.mem_append_left _ (List.mem_of_getElem? h)))
theorem gwt_2 (i : Nat) {w : Cond} (h : (tables_1_2)[i]? = some w) (hg : goodWord w = true) : w ∈ gw := List.mem_filter.mpr ⟨tbl_2 i h, hg⟩
theorem nwt_2 (i : Nat) {w : Cond} (h : (tables_1_2)[i]? = some w) (hg : isNest w = true) : w ∈ nw := List.mem_filter.mpr ⟨tbl_2 i h, hg⟩
theorem tbl_3 (i : Nat) {w : Cond} (h : (tables_1_3)[i]? = some w) : w ∈ lw_tbl := List.mem_append_right _ (List.mem_append_right _ (List.mem_append_right _ (List.mem_append_left _ (List.mem_of_getElem? h))))
theorem gwt_3 (i : Nat) {w : Cond} (h : (tables_1_3)[i]? = some w) (hg : goodWord w = true) : w ∈ gw := List.mem_filter.mpr ⟨tbl_3 i h, hg⟩
theorem nwt_3 (i : Nat) {w : Cond} (h : (tables_1_3)[i]? = some w) (hg : isNest w = true) : w ∈ nw := List.mem_filter.mpr ⟨tbl_3 i h, hg⟩
theorem tbl_4 (i : Nat) {w : Cond} (h : (tables_1_4)[i]? = some w) : w ∈ lw_tbl := List.mem_append_right _ (List.mem_append_right _ (List.mem_append_right _ (List.mem_append_right _ (List.mem_append_left _ (List.mem_of_getElem? h)))))
theorem gwt_4 (i : Nat) {w : Cond} (h : (tables_1_4)[i]? = some w) (hg : goodWord w = true) : w ∈ gw := List.mem_filter.mpr ⟨tbl_4 i h, hg⟩
theorem nwt_4 (i : Nat) {w : Cond} (h : (tables_1_4)[i]? = some w) (hg : isNest w = true) : w ∈ nw := List.mem_filter.mpr ⟨tbl_4 i h, hg⟩
theorem tbl_5 (i : Nat) {w : Cond} (h : (tables_1_5)[i]? = some w) : w ∈ lw_tbl := List.mem_append_right _ (List.mem_append_right _ (List.mem_append_right _ (List.mem_append_right _ (List.mem_append_right _ (List.mem_append_left _ (List.mem_of_getElem? h))))))
theorem gwt_5 (i : Nat) {w : Cond} (h : (tables_1_5)[i]? = some w) (hg : goodWord w = true) : w ∈ gw := List.mem_filter.mpr ⟨tbl_5 i h, hg⟩
theorem nwt_5 (i : Nat) {w : Cond} (h : (tables_1_5)[i]? = some w) (hg : isNest w = true) : w ∈ nw := List.mem_filter.mpr ⟨tbl_5 i h, hg⟩
theorem tbl_6 (i : Nat) {w : Cond} (h : (tables_1_6)[i]? = some w) : w ∈ lw_tbl := List.mem_append_right _ (List.mem_append_right _ (List.mem_append_right _ (List.mem_append_right _ (List.mem_append_right _ (List.mem_append_right _ (List.mem_append_left _ (List.mem_of_getElem? h)))))))
theorem gwt_6 (i : Nat) {w : Cond} (h : (tables_1_6)[i]? = some w) (hg : goodWord w = true) : w ∈ gw := List.mem_filter.mpr ⟨tbl_6 i h, hg⟩
theorem nwt_6 (i : Nat) {w : Cond} (h : (tables_1_6)[i]? = some w) (hg : isNest w = true) : w ∈ nw := List.mem_filter.mpr ⟨tbl_6 i h, hg⟩
theorem tbl_7 (i : Nat) {w : Cond} (h : (tables_1_7)[i]? = some w) : w ∈ lw_tbl := List.mem_append_right _ (List.mem_append_right _ (List.mem_append_right _ (List.mem_append_right _ (List.mem_append_right _ (List.mem_append_right _ (List.mem_append_right _ (List.mem_append_left _ (List.mem_of_getElem? h))))))))
theorem gwt_7 (i : Nat) {w : Cond} (h : (tables_1_7)[i]? = some w) (hg : goodWord w = true) : w ∈ gw := List.mem_filter.mpr ⟨tbl_7 i h, hg⟩
theorem nwt_7 (i : Nat) {w : Cond} (h : (tables_1_7)[i]? = some w) (hg : isNest w = true) : w ∈ nw := List.mem_filter.mpr ⟨tbl_7 i h, hg⟩
theorem tbl_8 (i : Nat) {w : Cond} (h : (tables_1_8)[i]? = some w) : w ∈ lw_tbl := List.mem_append_right _ (List.mem_append_right _ (List.mem_append_right _ (List.mem_append_right _ (List.mem_append_right _ (List.mem_append_right _ (List.mem_append_right _ (List.mem_append_right _ (List.mem_append_left _ (List.mem_of_getElem? h)))))))))
theorem gwt_8 (i : Nat) {w : Cond} (h : (tables_1_8)[i]? = some w) (hg : goodWord w = true) : w ∈ gw := List.mem_filter.mpr ⟨tbl_8 i h, hg⟩
theorem nwt_8 (i : Nat) {w : Cond} (h : (tables_1_8)[i]? = some w) (hg : isNest w = true) : w ∈ nw := List.mem_filter.mpr ⟨tbl_8 i h, hg⟩
theorem tbl_9 (i : Nat) {w : Cond} (h : (tables_1_9)[i]? = some w) : w ∈ lw_tbl := List.mem_append_right _ (List.mem_append_right _ (List.mem_append_right _ (List.mem_append_right _ (List.mem_append_right _ (List.mem_append_right _ (List.mem_append_right _ (List.mem_append_right _ (List.mem_append_right _ (List.mem_append_left _ (List.mem_of_getElem? h))))))))))
theorem gwt_9 (i : Nat) {w : Cond} (h : (tables_1_9)[i]? = some w) (hg : goodWord w = true) : w ∈ gw := List.mem_filter.mpr ⟨tbl_9 i h, hg⟩
theorem nwt_9 (i : Nat) {w : Cond} (h : (tables_1_9)[i]? = some w) (hg : isNest w = true) : w ∈ nw := List.mem_filter.mpr ⟨tbl_9 i h, hg⟩
theorem tbl_10 (i : Nat) {w : Cond} (h : (tables_1_10)[i]? = some w) : w ∈ lw_tbl := List.mem_append_right _ (List.mem_append_right _ (List.mem_append_right _ (List.mem_append_right _ (List.mem_append_right _ (List.mem_append_right _ (List.mem_append_right _ (List.mem_append_right _ (List.mem_append_right _ (List.mem_append_right _ (List.mem_append_left _ (List.mem_of_getElem? h)))))))))))
theorem gwt_10 (i : Nat) {w : Cond} (h : (tables_1_10)[i]? = some w) (hg : goodWord w = true) : w ∈ gw := List.mem_filter.mpr ⟨tbl_10 i h, hg⟩
theorem nwt_10 (i : Nat) {w : Cond} (h : (tables_1_10)[i]? = some w) (hg : isNest w = true) : w ∈ nw := List.mem_filter.mpr ⟨tbl_10 i h, hg⟩
theorem tbl_11 (i : Nat) {w : Cond} (h : (tables_1_11)[i]? = some w) : w ∈ lw_tbl := List.mem_append_right _ (List.mem_append_right _ (List.mem_append_right _ (List.mem_append_right _ (List.mem_append_right _ (List.mem_append_right _ (List.mem_append_right _ (List.mem_append_right _ (List.mem_append_right _ (List.mem_append_right _ (List.mem_append_right _ (List.mem_of_getElem? h)))))))))))
theorem gwt_11 (i : Nat) {w : Cond} (h : (tables_1_11)[i]? = some w) (hg : goodWord w = true) : w ∈ gw := List.mem_filter.mpr ⟨tbl_11 i h, hg⟩
theorem nwt_11 (i : Nat) {w : Cond} (h : (tables_1_11)[i]? = some w) (hg : isNest w = true) : w ∈ nw := List.mem_filter.mpr ⟨tbl_11 i h, hg⟩
theorem nh_J10 : RJ10 ≠ "java/lang/invoke/MethodHandle" ∧ RJ10 ≠ "java/lang/invoke/VarHandle" := by decide +kernel
theorem nh_J13 : RJ13 ≠ "java/lang/invoke/MethodHandle" ∧ RJ13 ≠ "java/lang/invoke/VarHandle" := by decide +kernel
theorem nh_J6 : RJ6 ≠ "java/lang/invoke/MethodHandle" ∧ RJ6 ≠ "java/lang/invoke/VarHandle" := by decide +kernel
theorem nh_J7 : RJ7 ≠ "java/lang/invoke/MethodHandle" ∧ RJ7 ≠ "java/lang/invoke/VarHandle" := by decide +kernel
theorem nh_J9 : RJ9 ≠ "java/lang/invoke/MethodHandle" ∧ RJ9 ≠ "java/lang/invoke/VarHandle" := by decide +kernel
theorem nh_Jx145de : RJx145de ≠ "java/lang/invoke/MethodHandle" ∧ RJx145de ≠ "java/lang/invoke/VarHandle" := by decide +kernel
theorem nh_X0 : RX0 ≠ "java/lang/invoke/MethodHandle" ∧ RX0 ≠ "java/lang/invoke/VarHandle" := by decide +kernel
theorem nh_X1 : RX1 ≠ "java/lang/invoke/MethodHandle" ∧ RX1 ≠ "java/lang/invoke/VarHandle" := by decide +kernel
theorem nh_X10 : RX10 ≠ "java/lang/invoke/MethodHandle" ∧ RX10 ≠ "java/lang/invoke/VarHandle" := by decide +kernel
theorem nh_X11 : RX11 ≠ "java/lang/invoke/MethodHandle" ∧ RX11 ≠ "java/lang/invoke/VarHandle" := by decide +kernel
theorem nh_X12 : RX12 ≠ "java/lang/invoke/MethodHandle" ∧ RX12 ≠ "java/lang/invoke/VarHandle" := by decide +kernel
theorem nh_X13 : RX13 ≠ "java/lang/invoke/MethodHandle" ∧ RX13 ≠ "java/lang/invoke/VarHandle" := by decide +kernel
theorem nh_X14 : RX14 ≠ "java/lang/invoke/MethodHandle" ∧ RX14 ≠ "java/lang/invoke/VarHandle" := by decide +kernel
theorem nh_X2 : RX2 ≠ "java/lang/invoke/MethodHandle" ∧ RX2 ≠ "java/lang/invoke/VarHandle" := by decide +kernel
theorem nh_X3 : RX3 ≠ "java/lang/invoke/MethodHandle" ∧ RX3 ≠ "java/lang/invoke/VarHandle" := by decide +kernel
theorem nh_X4 : RX4 ≠ "java/lang/invoke/MethodHandle" ∧ RX4 ≠ "java/lang/invoke/VarHandle" := by decide +kernel
theorem nh_X5 : RX5 ≠ "java/lang/invoke/MethodHandle" ∧ RX5 ≠ "java/lang/invoke/VarHandle" := by decide +kernel
theorem nh_X6 : RX6 ≠ "java/lang/invoke/MethodHandle" ∧ RX6 ≠ "java/lang/invoke/VarHandle" := by decide +kernel
theorem nh_X7 : RX7 ≠ "java/lang/invoke/MethodHandle" ∧ RX7 ≠ "java/lang/invoke/VarHandle" := by decide +kernel
theorem nh_X8 : RX8 ≠ "java/lang/invoke/MethodHandle" ∧ RX8 ≠ "java/lang/invoke/VarHandle" := by decide +kernel
theorem nh_X9 : RX9 ≠ "java/lang/invoke/MethodHandle" ∧ RX9 ≠ "java/lang/invoke/VarHandle" := by decide +kernel
theorem pd_0 : (parseMethodDescriptor "(J)I").map (fun d => d.parameters.length) = some 1 := by decide +kernel
theorem pd_1 : (parseMethodDescriptor "(JJ)J").map (fun d => d.parameters.length) = some 2 := by decide +kernel
theorem pd_2 : (parseMethodDescriptor "(I)I").map (fun d => d.parameters.length) = some 1 := by decide +kernel
theorem pd_3 : (parseMethodDescriptor "([BB)V").map (fun d => d.parameters.length) = some 2 := by decide +kernel
theorem pd_4 : (parseMethodDescriptor "([II)V").map (fun d => d.parameters.length) = some 2 := by decide +kernel
theorem pd_5 : (parseMethodDescriptor "([IIII)V").map (fun d => d.parameters.length) = some 4 := by decide +kernel
theorem pd_6 : (parseMethodDescriptor "(III)V").map (fun d => d.parameters.length) = some 3 := by decide +kernel
theorem pd_7 : (parseMethodDescriptor "(II)I").map (fun d => d.parameters.length) = some 2 := by decide +kernel
theorem pd_8 : (parseMethodDescriptor "([I)Z").map (fun d => d.parameters.length) = some 1 := by decide +kernel
theorem pd_9 : (parseMethodDescriptor "(III)I").map (fun d => d.parameters.length) = some 3 := by decide +kernel
theorem pd_10 : (parseMethodDescriptor "(I)Z").map (fun d => d.parameters.length) = some 1 := by decide +kernel
theorem pd_11 : (parseMethodDescriptor "()V").map (fun d => d.parameters.length) = some 0 := by decide +kernel
theorem pd_12 : (parseMethodDescriptor "(IZ)V").map (fun d => d.parameters.length) = some 2 := by decide +kernel
theorem pd_13 : (parseMethodDescriptor "(II)V").map (fun d => d.parameters.length) = some 2 := by decide +kernel
theorem pd_14 : (parseMethodDescriptor "(Z)V").map (fun d => d.parameters.length) = some 1 := by decide +kernel
theorem pd_15 : (parseMethodDescriptor "(IZ)I").map (fun d => d.parameters.length) = some 2 := by decide +kernel
theorem pd_16 : (parseMethodDescriptor "(IIII)I").map (fun d => d.parameters.length) = some 4 := by decide +kernel
theorem pd_17 : (parseMethodDescriptor "(II)Z").map (fun d => d.parameters.length) = some 2 := by decide +kernel
theorem pd_18 : (parseMethodDescriptor "(I)V").map (fun d => d.parameters.length) = some 1 := by decide +kernel
theorem pd_19 : (parseMethodDescriptor "(IIIII)I").map (fun d => d.parameters.length) = some 5 := by decide +kernel
theorem pd_20 : (parseMethodDescriptor "()I").map (fun d => d.parameters.length) = some 0 := by decide +kernel
theorem pd_21 : (parseMethodDescriptor "(I[Z)Z").map (fun d => d.parameters.length) = some 2 := by decide +kernel
theorem pd_22 : (parseMethodDescriptor "(I)J").map (fun d => d.parameters.length) = some 1 := by decide +kernel
theorem pd_23 : (parseMethodDescriptor "()Z").map (fun d => d.parameters.length) = some 0 := by decide +kernel
theorem pd_24 : (parseMethodDescriptor "(LMatchHouse$Program;)V").map (fun d => d.parameters.length) = some 1 := by decide +kernel
theorem pd_25 : (parseMethodDescriptor "(LMatchHouse$Program;)Z").map (fun d => d.parameters.length) = some 1 := by decide +kernel
theorem pd_26 : (parseMethodDescriptor "([II)Z").map (fun d => d.parameters.length) = some 2 := by decide +kernel
theorem pd_27 : (parseMethodDescriptor "([BI)V").map (fun d => d.parameters.length) = some 2 := by decide +kernel
theorem pd_28 : (parseMethodDescriptor "(LMatchHouse$Tree;LMatchHouse$Program;)V").map (fun d => d.parameters.length) = some 2 := by decide +kernel
theorem pd_29 : (parseMethodDescriptor "(IIII)V").map (fun d => d.parameters.length) = some 4 := by decide +kernel
theorem pd_30 : (parseMethodDescriptor "(IIZI)V").map (fun d => d.parameters.length) = some 4 := by decide +kernel
theorem pd_31 : (parseMethodDescriptor "([BII)V").map (fun d => d.parameters.length) = some 3 := by decide +kernel
theorem pd_32 : (parseMethodDescriptor "([B)V").map (fun d => d.parameters.length) = some 1 := by decide +kernel
theorem pd_33 : (parseMethodDescriptor "([B)I").map (fun d => d.parameters.length) = some 1 := by decide +kernel
theorem pd_34 : (parseMethodDescriptor "(LMatchHouse$Tree;)V").map (fun d => d.parameters.length) = some 1 := by decide +kernel
theorem pd_35 : (parseMethodDescriptor "(III)Z").map (fun d => d.parameters.length) = some 3 := by decide +kernel
theorem pd_36 : (parseMethodDescriptor "(LMatchHouse$Processor;II)V").map (fun d => d.parameters.length) = some 3 := by decide +kernel
theorem pd_37 : (parseMethodDescriptor "(LMatchHouse$Processor;I)V").map (fun d => d.parameters.length) = some 2 := by decide +kernel
theorem pd_38 : (parseMethodDescriptor "(J)V").map (fun d => d.parameters.length) = some 1 := by decide +kernel
theorem pd_39 : (parseMethodDescriptor "(Z)I").map (fun d => d.parameters.length) = some 1 := by decide +kernel
theorem pd_40 : (parseMethodDescriptor "([BI)Z").map (fun d => d.parameters.length) = some 2 := by decide +kernel
set_option maxRecDepth 100000 in
theorem f_X10_11 : fok RX10 11 10 0 := ⟨_, _, _, rfl, by decide, Or.inl (gwt_1 39 rfl rfl)⟩
set_option maxRecDepth 100000 in
theorem f_X3_89 : fok RX3 89 10 0 := ⟨_, _, _, rfl, by decide, Or.inl (gwt_1 40 rfl rfl)⟩
set_option maxRecDepth 100000 in
theorem f_X5_57 : fok RX5 57 10 0 := ⟨_, _, _, rfl, by decide, Or.inl (gwt_1 41 rfl rfl)⟩
set_option maxRecDepth 100000 in
theorem f_X10_15 : fok RX10 15 10 1 := ⟨_, _, _, rfl, by decide, Or.inl (gwt_1 42 rfl rfl)⟩
set_option maxRecDepth 100000 in
theorem f_X3_93 : fok RX3 93 10 1 := ⟨_, _, _, rfl, by decide, Or.inl (gwt_1 43 rfl rfl)⟩
set_option maxRecDepth 100000 in
theorem f_X5_60 : fok RX5 60 10 1 := ⟨_, _, _, rfl, by decide, Or.inl (gwt_1 44 rfl rfl)⟩
set_option maxRecDepth 100000 in
theorem f_X10_19 : fok RX10 19 10 2 := ⟨_, _, _, rfl, by decide, Or.inl (gwt_1 45 rfl rfl)⟩
set_option maxRecDepth 100000 in
theorem f_X5_67 : fok RX5 67 10 2 := ⟨_, _, _, rfl, by decide, Or.inl (gwt_1 46 rfl rfl)⟩
set_option maxRecDepth 100000 in
theorem f_X3_100 : fok RX3 100 10 2 := ⟨_, _, _, rfl, by decide, Or.inl (gwt_1 47 rfl rfl)⟩
set_option maxRecDepth 100000 in
theorem f_X10_22 : fok RX10 22 10 3 := ⟨_, _, _, rfl, by decide, Or.inl (gwt_1 48 rfl rfl)⟩
set_option maxRecDepth 100000 in
theorem f_X5_64 : fok RX5 64 10 3 := ⟨_, _, _, rfl, by decide, Or.inl (gwt_1 49 rfl rfl)⟩
set_option maxRecDepth 100000 in
theorem f_X10_25 : fok RX10 25 10 4 := ⟨_, _, _, rfl, by decide, Or.inl (gwt_1 50 rfl rfl)⟩
set_option maxRecDepth 100000 in
theorem f_X10_28 : fok RX10 28 10 5 := ⟨_, _, _, rfl, by decide, Or.inl (gwt_1 51 rfl rfl)⟩
set_option maxRecDepth 100000 in
theorem f_X5_95 : fok RX5 95 10 5 := ⟨_, _, _, rfl, by decide, Or.inl (gwt_1 52 rfl rfl)⟩
set_option maxRecDepth 100000 in
theorem f_X3_120 : fok RX3 120 10 5 := ⟨_, _, _, rfl, by decide, Or.inl (gwt_1 53 rfl rfl)⟩
set_option maxRecDepth 100000 in
theorem f_X10_32 : fok RX10 32 10 6 := ⟨_, _, _, rfl, by decide, Or.inl (gwt_1 54 rfl rfl)⟩
set_option maxRecDepth 100000 in
theorem f_X3_114 : fok RX3 114 10 6 := ⟨_, _, _, rfl, by decide, Or.inl (gwt_1 55 rfl rfl)⟩
set_option maxRecDepth 100000 in
theorem f_X5_128 : fok RX5 128 10 6 := ⟨_, _, _, rfl, by decide, Or.inl (gwt_1 56 rfl rfl)⟩
set_option maxRecDepth 100000 in
theorem f_X10_35 : fok RX10 35 10 7 := ⟨_, _, _, rfl, by decide, Or.inl (gwt_1 57 rfl rfl)⟩
set_option maxRecDepth 100000 in
theorem f_X9_49 : fok RX9 49 10 7 := ⟨_, _, _, rfl, by decide, Or.inl (gwt_1 58 rfl rfl)⟩
set_option maxRecDepth 100000 in
theorem f_X5_81 : fok RX5 81 10 7 := ⟨_, _, _, rfl, by decide, Or.inl (gwt_1 59 rfl rfl)⟩
set_option maxRecDepth 100000 in
theorem f_X10_38 : fok RX10 38 10 8 := ⟨_, _, _, rfl, by decide, Or.inl (gwt_1 60 rfl rfl)⟩
set_option maxRecDepth 100000 in
theorem f_X9_53 : fok RX9 53 10 8 := ⟨_, _, _, rfl, by decide, Or.inl (gwt_1 61 rfl rfl)⟩
set_option maxRecDepth 100000 in
theorem f_X5_84 : fok RX5 84 10 8 := ⟨_, _, _, rfl, by decide, Or.inl (gwt_1 62 rfl rfl)⟩
set_option maxRecDepth 100000 in
theorem f_X10_41 : fok RX10 41 10 9 := ⟨_, _, _, rfl, by decide, Or.inl (gwt_1 63 rfl rfl)⟩
set_option maxRecDepth 100000 in
theorem f_X9_66 : fok RX9 66 10 9 := ⟨_, _, _, rfl, by decide, Or.inl (gwt_1 64 rfl rfl)⟩
set_option maxRecDepth 100000 in
theorem f_X5_118 : fok RX5 118 10 9 := ⟨_, _, _, rfl, by decide, Or.inl (gwt_1 65 rfl rfl)⟩
set_option maxRecDepth 100000 in
theorem f_X10_44 : fok RX10 44 10 10 := ⟨_, _, _, rfl, by decide, Or.inl (gwt_1 66 rfl rfl)⟩
set_option maxRecDepth 100000 in
theorem f_X3_57 : fok RX3 57 10 10 := ⟨_, _, _, rfl, by decide, Or.inl (gwt_1 67 rfl rfl)⟩
set_option maxRecDepth 100000 in
theorem f_X9_59 : fok RX9 59 10 10 := ⟨_, _, _, rfl, by decide, Or.inl (gwt_1 68 rfl rfl)⟩
set_option maxRecDepth 100000 in
theorem f_X5_98 : fok RX5 98 10 10 := ⟨_, _, _, rfl, by decide, Or.inl (gwt_1 69 rfl rfl)⟩
set_option maxRecDepth 100000 in
theorem f_X10_47 : fok RX10 47 10 11 := ⟨_, _, _, rfl, by decide, Or.inl (gwt_1 70 rfl rfl)⟩
set_option maxRecDepth 100000 in
theorem f_X3_73 : fok RX3 73 10 11 := ⟨_, _, _, rfl, by decide, Or.inl (gwt_1 71 rfl rfl)⟩
set_option maxRecDepth 100000 in
theorem f_X9_69 : fok RX9 69 10 11 := ⟨_, _, _, rfl, by decide, Or.inl (gwt_1 72 rfl rfl)⟩
set_option maxRecDepth 100000 in
theorem f_X5_54 : fok RX5 54 10 11 := ⟨_, _, _, rfl, by decide, Or.inl (gwt_1 73 rfl rfl)⟩
set_option maxRecDepth 100000 in
theorem f_X10_51 : fok RX10 51 10 12 := ⟨_, _, _, rfl, by decide, Or.inl (gwt_1 74 rfl rfl)⟩
set_option maxRecDepth 100000 in
theorem f_X3_54 : fok RX3 54 10 12 := ⟨_, _, _, rfl, by decide, Or.inl (gwt_1 75 rfl rfl)⟩
set_option maxRecDepth 100000 in
theorem f_X9_72 : fok RX9 72 10 12 := ⟨_, _, _, rfl, by decide, Or.inl (gwt_1 76 rfl rfl)⟩
set_option maxRecDepth 100000 in
theorem f_X5_78 : fok RX5 78 10 12 := ⟨_, _, _, rfl, by decide, Or.inl (gwt_1 77 rfl rfl)⟩
set_option maxRecDepth 100000 in
theorem f_X10_54 : fok RX10 54 10 13 := ⟨_, _, _, rfl, by decide, Or.inl (gwt_1 78 rfl rfl)⟩
set_option maxRecDepth 100000 in
theorem f_X3_133 : fok RX3 133 10 13 := ⟨_, _, _, rfl, by decide, Or.inl (gwt_1 79 rfl rfl)⟩
set_option maxRecDepth 100000 in
theorem f_X9_118 : fok RX9 118 10 13 := ⟨_, _, _, rfl, by decide, Or.inl (gwt_1 80 rfl rfl)⟩
set_option maxRecDepth 100000 in
theorem f_X9_21 : fok RX9 21 9 0 := ⟨_, _, _, rfl, by decide, Or.inl (gwt_1 118 rfl rfl)⟩
set_option maxRecDepth 100000 in
theorem f_X9_25 : fok RX9 25 9 1 := ⟨_, _, _, rfl, by decide, Or.inl (gwt_1 119 rfl rfl)⟩
set_option maxRecDepth 100000 in
theorem f_X9_9 : fok RX9 9 9 2 := ⟨_, _, _, rfl, by decide, Or.inl (gwt_1 120 rfl rfl)⟩
set_option maxRecDepth 100000 in
theorem f_X9_15 : fok RX9 15 9 3 := ⟨_, _, _, rfl, by decide, Or.inl (gwt_1 121 rfl rfl)⟩
set_option maxRecDepth 100000 in
theorem f_X9_18 : fok RX9 18 9 4 := ⟨_, _, _, rfl, by decide, Or.inl (gwt_1 122 rfl rfl)⟩
set_option maxRecDepth 100000 in
theorem f_X11_109 : fok RX11 109 9 4 := ⟨_, _, _, rfl, by decide, Or.inl (gwt_1 123 rfl rfl)⟩
set_option maxRecDepth 100000 in
theorem f_X5_24 : fok RX5 24 5 0 := ⟨_, _, _, rfl, by decide, Or.inl (gwt_1 141 rfl rfl)⟩
set_option maxRecDepth 100000 in
theorem f_X5_11 : fok RX5 11 5 1 := ⟨_, _, _, rfl, by decide, Or.inl (gwt_1 142 rfl rfl)⟩
set_option maxRecDepth 100000 in
theorem f_X5_17 : fok RX5 17 5 2 := ⟨_, _, _, rfl, by decide, Or.inl (gwt_1 143 rfl rfl)⟩
set_option maxRecDepth 100000 in
theorem f_X5_28 : fok RX5 28 5 3 := ⟨_, _, _, rfl, by decide, Or.inl (gwt_1 144 rfl rfl)⟩
set_option maxRecDepth 100000 in
theorem f_X5_20 : fok RX5 20 5 4 := ⟨_, _, _, rfl, by decide, Or.inl (gwt_1 145 rfl rfl)⟩
set_option maxRecDepth 100000 in
theorem f_X11_120 : fok RX11 120 5 4 := ⟨_, _, _, rfl, by decide, Or.inl (gwt_1 146 rfl rfl)⟩
set_option maxRecDepth 100000 in
theorem f_X8_9 : fok RX8 9 8 0 := ⟨_, _, _, rfl, by decide, Or.inl (gwt_1 165 rfl rfl)⟩
set_option maxRecDepth 100000 in
theorem f_X1_72 : fok RX1 72 8 0 := ⟨_, _, _, rfl, by decide, Or.inl (gwt_1 166 rfl rfl)⟩
set_option maxRecDepth 100000 in
theorem f_X3_140 : fok RX3 140 8 0 := ⟨_, _, _, rfl, by decide, Or.inl (gwt_1 167 rfl rfl)⟩
set_option maxRecDepth 100000 in
theorem f_X11_154 : fok RX11 154 8 0 := ⟨_, _, _, rfl, by decide, Or.inl (gwt_1 168 rfl rfl)⟩
set_option maxRecDepth 100000 in
theorem f_X8_13 : fok RX8 13 8 1 := ⟨_, _, _, rfl, by decide, Or.inl (gwt_1 169 rfl rfl)⟩
set_option maxRecDepth 100000 in
theorem f_X1_100 : fok RX1 100 8 1 := ⟨_, _, _, rfl, by decide, Or.inl (gwt_1 170 rfl rfl)⟩
set_option maxRecDepth 100000 in
theorem f_X3_143 : fok RX3 143 8 1 := ⟨_, _, _, rfl, by decide, Or.inl (gwt_1 171 rfl rfl)⟩
set_option maxRecDepth 100000 in
theorem f_X11_157 : fok RX11 157 8 1 := ⟨_, _, _, rfl, by decide, Or.inl (gwt_1 172 rfl rfl)⟩
set_option maxRecDepth 100000 in
theorem f_X8_16 : fok RX8 16 8 2 := ⟨_, _, _, rfl, by decide, Or.inl (gwt_1 173 rfl rfl)⟩
set_option maxRecDepth 100000 in
theorem f_X1_75 : fok RX1 75 8 2 := ⟨_, _, _, rfl, by decide, Or.inl (gwt_1 174 rfl rfl)⟩
set_option maxRecDepth 100000 in
theorem f_X3_146 : fok RX3 146 8 2 := ⟨_, _, _, rfl, by decide, Or.inl (gwt_1 175 rfl rfl)⟩
set_option maxRecDepth 100000 in
theorem f_X11_160 : fok RX11 160 8 2 := ⟨_, _, _, rfl, by decide, Or.inl (gwt_1 176 rfl rfl)⟩
set_option maxRecDepth 100000 in
theorem f_X8_19 : fok RX8 19 8 3 := ⟨_, _, _, rfl, by decide, Or.inl (gwt_1 177 rfl rfl)⟩
set_option maxRecDepth 100000 in
theorem f_X1_78 : fok RX1 78 8 3 := ⟨_, _, _, rfl, by decide, Or.inl (gwt_1 178 rfl rfl)⟩
set_option maxRecDepth 100000 in
theorem f_X11_163 : fok RX11 163 8 3 := ⟨_, _, _, rfl, by decide, Or.inl (gwt_1 179 rfl rfl)⟩
set_option maxRecDepth 100000 in
theorem f_X8_22 : fok RX8 22 8 4 := ⟨_, _, _, rfl, by decide, Or.inl (gwt_1 180 rfl rfl)⟩
set_option maxRecDepth 100000 in
theorem f_X11_166 : fok RX11 166 8 4 := ⟨_, _, _, rfl, by decide, Or.inl (gwt_1 181 rfl rfl)⟩
set_option maxRecDepth 100000 in
theorem f_X3_198 : fok RX3 198 8 4 := ⟨_, _, _, rfl, by decide, Or.inl (gwt_1 182 rfl rfl)⟩
set_option maxRecDepth 100000 in
theorem f_X8_27 : fok RX8 27 8 5 := ⟨_, _, _, rfl, by decide, Or.inl (gwt_1 183 rfl rfl)⟩
set_option maxRecDepth 100000 in
theorem f_X11_144 : fok RX11 144 8 5 := ⟨_, _, _, rfl, by decide, Or.inl (gwt_1 184 rfl rfl)⟩
set_option maxRecDepth 100000 in
theorem f_X3_117 : fok RX3 117 8 5 := ⟨_, _, _, rfl, by decide, Or.inl (gwt_1 185 rfl rfl)⟩
set_option maxRecDepth 100000 in
theorem f_X8_30 : fok RX8 30 8 6 := ⟨_, _, _, rfl, by decide, Or.inl (gwt_1 186 rfl rfl)⟩
set_option maxRecDepth 100000 in
theorem f_X11_151 : fok RX11 151 8 6 := ⟨_, _, _, rfl, by decide, Or.inl (gwt_1 187 rfl rfl)⟩
set_option maxRecDepth 100000 in
theorem f_X3_123 : fok RX3 123 8 6 := ⟨_, _, _, rfl, by decide, Or.inl (gwt_1 188 rfl rfl)⟩
set_option maxRecDepth 100000 in
theorem f_X8_33 : fok RX8 33 8 7 := ⟨_, _, _, rfl, by decide, Or.inl (gwt_1 189 rfl rfl)⟩
set_option maxRecDepth 100000 in
theorem f_X3_47 : fok RX3 47 8 7 := ⟨_, _, _, rfl, by decide, Or.inl (gwt_1 190 rfl rfl)⟩
set_option maxRecDepth 100000 in
theorem f_X11_148 : fok RX11 148 8 7 := ⟨_, _, _, rfl, by decide, Or.inl (gwt_1 191 rfl rfl)⟩
set_option maxRecDepth 100000 in
theorem f_X8_36 : fok RX8 36 8 8 := ⟨_, _, _, rfl, by decide, Or.inl (gwt_1 192 rfl rfl)⟩
set_option maxRecDepth 100000 in
theorem f_X11_128 : fok RX11 128 8 8 := ⟨_, _, _, rfl, by decide, Or.inl (gwt_1 193 rfl rfl)⟩
set_option maxRecDepth 100000 in
theorem f_X3_132 : fok RX3 132 8 8 := ⟨_, _, _, rfl, by decide, Or.inl (gwt_1 194 rfl rfl)⟩
set_option maxRecDepth 100000 in
theorem f_X8_40 : fok RX8 40 8 9 := ⟨_, _, _, rfl, by decide, Or.inl (gwt_1 195 rfl rfl)⟩
set_option maxRecDepth 100000 in
theorem f_X11_140 : fok RX11 140 8 9 := ⟨_, _, _, rfl, by decide, Or.inl (gwt_1 196 rfl rfl)⟩
set_option maxRecDepth 100000 in
theorem f_X3_136 : fok RX3 136 8 9 := ⟨_, _, _, rfl, by decide, Or.inl (gwt_1 197 rfl rfl)⟩
set_option maxRecDepth 100000 in
theorem f_X8_43 : fok RX8 43 8 10 := ⟨_, _, _, rfl, by decide, Or.inl (gwt_1 198 rfl rfl)⟩
set_option maxRecDepth 100000 in
theorem f_X1_69 : fok RX1 69 8 10 := ⟨_, _, _, rfl, by decide, Or.inl (gwt_1 199 rfl rfl)⟩
set_option maxRecDepth 100000 in
theorem f_X11_131 : fok RX11 131 8 10 := ⟨_, _, _, rfl, by decide, Or.inl (gwt_1 200 rfl rfl)⟩
set_option maxRecDepth 100000 in
theorem f_X3_137 : fok RX3 137 8 10 := ⟨_, _, _, rfl, by decide, Or.inl (gwt_1 201 rfl rfl)⟩
set_option maxRecDepth 100000 in
theorem f_X8_46 : fok RX8 46 8 11 := ⟨_, _, _, rfl, by decide, Or.inl (gwt_1 202 rfl rfl)⟩
set_option maxRecDepth 100000 in
theorem f_X11_134 : fok RX11 134 8 11 := ⟨_, _, _, rfl, by decide, Or.inl (gwt_1 203 rfl rfl)⟩
set_option maxRecDepth 100000 in
theorem f_X3_189 : fok RX3 189 8 11 := ⟨_, _, _, rfl, by decide, Or.inl (gwt_1 204 rfl rfl)⟩
set_option maxRecDepth 100000 in
theorem f_X8_49 : fok RX8 49 8 12 := ⟨_, _, _, rfl, by decide, Or.inl (gwt_1 205 rfl rfl)⟩
set_option maxRecDepth 100000 in
theorem f_X1_66 : fok RX1 66 8 12 := ⟨_, _, _, rfl, by decide, Or.inl (gwt_1 206 rfl rfl)⟩
set_option maxRecDepth 100000 in
theorem f_X11_137 : fok RX11 137 8 12 := ⟨_, _, _, rfl, by decide, Or.inl (gwt_1 207 rfl rfl)⟩
set_option maxRecDepth 100000 in
theorem f_X3_32 : fok RX3 32 3 0 := ⟨_, _, _, rfl, by decide, Or.inl (gwt_2 1 rfl rfl)⟩
set_option maxRecDepth 100000 in
theorem f_X3_36 : fok RX3 36 3 1 := ⟨_, _, _, rfl, by decide, Or.inl (gwt_2 2 rfl rfl)⟩
set_option maxRecDepth 100000 in
theorem f_X3_13 : fok RX3 13 3 2 := ⟨_, _, _, rfl, by decide, Or.inl (gwt_2 3 rfl rfl)⟩
set_option maxRecDepth 100000 in
theorem f_X3_19 : fok RX3 19 3 3 := ⟨_, _, _, rfl, by decide, Or.inl (gwt_2 4 rfl rfl)⟩
set_option maxRecDepth 100000 in
theorem f_X3_22 : fok RX3 22 3 4 := ⟨_, _, _, rfl, by decide, Or.inl (gwt_2 5 rfl rfl)⟩
set_option maxRecDepth 100000 in
theorem f_X3_25 : fok RX3 25 3 5 := ⟨_, _, _, rfl, by decide, Or.inl (gwt_2 6 rfl rfl)⟩
set_option maxRecDepth 100000 in
theorem f_X3_28 : fok RX3 28 3 6 := ⟨_, _, _, rfl, by decide, Or.inl (gwt_2 7 rfl rfl)⟩
set_option maxRecDepth 100000 in
theorem f_X1_14 : fok RX1 14 1 0 := ⟨_, _, _, rfl, by decide, Or.inl (gwt_2 30 rfl rfl)⟩
set_option maxRecDepth 100000 in
theorem f_X11_169 : fok RX11 169 1 0 := ⟨_, _, _, rfl, by decide, Or.inl (gwt_2 31 rfl rfl)⟩
set_option maxRecDepth 100000 in
theorem f_X1_45 : fok RX1 45 1 1 := ⟨_, _, _, rfl, by decide, Or.inl (gwt_2 32 rfl rfl)⟩
set_option maxRecDepth 100000 in
theorem f_X1_18 : fok RX1 18 1 2 := ⟨_, _, _, rfl, by decide, Or.inl (gwt_2 33 rfl rfl)⟩
set_option maxRecDepth 100000 in
theorem f_X1_21 : fok RX1 21 1 3 := ⟨_, _, _, rfl, by decide, Or.inl (gwt_2 34 rfl rfl)⟩
set_option maxRecDepth 100000 in
theorem f_X1_24 : fok RX1 24 1 4 := ⟨_, _, _, rfl, by decide, Or.inl (gwt_2 35 rfl rfl)⟩
set_option maxRecDepth 100000 in
theorem f_X1_28 : fok RX1 28 1 5 := ⟨_, _, _, rfl, by decide, Or.inl (gwt_2 36 rfl rfl)⟩
set_option maxRecDepth 100000 in
theorem f_X1_31 : fok RX1 31 1 6 := ⟨_, _, _, rfl, by decide, Or.inl (gwt_2 37 rfl rfl)⟩
set_option maxRecDepth 100000 in
theorem f_X1_35 : fok RX1 35 1 7 := ⟨_, _, _, rfl, by decide, Or.inl (gwt_2 38 rfl rfl)⟩
set_option maxRecDepth 100000 in
theorem f_X1_38 : fok RX1 38 1 8 := ⟨_, _, _, rfl, by decide, Or.inl (gwt_2 39 rfl rfl)⟩
set_option maxRecDepth 100000 in
theorem f_X1_41 : fok RX1 41 1 9 := ⟨_, _, _, rfl, by decide, Or.inl (gwt_2 40 rfl rfl)⟩
set_option maxRecDepth 100000 in
theorem f_X0_7 : fok RX0 7 0 0 := ⟨_, _, _, rfl, by decide, Or.inl (gwt_2 74 rfl rfl)⟩
set_option maxRecDepth 100000 in
theorem f_X7_86 : fok RX7 86 0 0 := ⟨_, _, _, rfl, by decide, Or.inl (gwt_2 75 rfl rfl)⟩
set_option maxRecDepth 100000 in
theorem f_X11_249 : fok RX11 249 0 0 := ⟨_, _, _, rfl, by decide, Or.inl (gwt_2 76 rfl rfl)⟩
set_option maxRecDepth 100000 in
theorem f_X4_61 : fok RX4 61 4 0 := ⟨_, _, _, rfl, by decide, Or.inl (gwt_2 88 rfl rfl)⟩
set_option maxRecDepth 100000 in
theorem f_X4_9 : fok RX4 9 4 1 := ⟨_, _, _, rfl, by decide, Or.inl (gwt_2 89 rfl rfl)⟩
set_option maxRecDepth 100000 in
theorem f_X4_15 : fok RX4 15 4 2 := ⟨_, _, _, rfl, by decide, Or.inl (gwt_2 90 rfl rfl)⟩
set_option maxRecDepth 100000 in
theorem f_X4_18 : fok RX4 18 4 3 := ⟨_, _, _, rfl, by decide, Or.inl (gwt_2 91 rfl rfl)⟩
set_option maxRecDepth 100000 in
theorem f_X2_69 : fok RX2 69 4 3 := ⟨_, _, _, rfl, by decide, Or.inl (gwt_2 92 rfl rfl)⟩
set_option maxRecDepth 100000 in
theorem f_X7_101 : fok RX7 101 4 3 := ⟨_, _, _, rfl, by decide, Or.inl (gwt_2 93 rfl rfl)⟩
set_option maxRecDepth 100000 in
theorem f_X4_21 : fok RX4 21 4 4 := ⟨_, _, _, rfl, by decide, Or.inl (gwt_2 94 rfl rfl)⟩
set_option maxRecDepth 100000 in
theorem f_X2_146 : fok RX2 146 4 4 := ⟨_, _, _, rfl, by decide, Or.inl (gwt_2 95 rfl rfl)⟩
set_option maxRecDepth 100000 in
theorem f_X4_24 : fok RX4 24 4 5 := ⟨_, _, _, rfl, by decide, Or.inl (gwt_2 96 rfl rfl)⟩
set_option maxRecDepth 100000 in
theorem f_X2_149 : fok RX2 149 4 5 := ⟨_, _, _, rfl, by decide, Or.inl (gwt_2 97 rfl rfl)⟩
set_option maxRecDepth 100000 in
theorem f_X7_162 : fok RX7 162 4 5 := ⟨_, _, _, rfl, by decide, Or.inl (gwt_2 98 rfl rfl)⟩
set_option maxRecDepth 100000 in
theorem f_X4_27 : fok RX4 27 4 6 := ⟨_, _, _, rfl, by decide, Or.inl (gwt_2 99 rfl rfl)⟩
set_option maxRecDepth 100000 in
theorem f_X7_104 : fok RX7 104 4 6 := ⟨_, _, _, rfl, by decide, Or.inl (gwt_2 100 rfl rfl)⟩
set_option maxRecDepth 100000 in
theorem f_X2_119 : fok RX2 119 4 6 := ⟨_, _, _, rfl, by decide, Or.inl (gwt_2 101 rfl rfl)⟩
set_option maxRecDepth 100000 in
theorem f_X4_30 : fok RX4 30 4 7 := ⟨_, _, _, rfl, by decide, Or.inl (gwt_2 102 rfl rfl)⟩
set_option maxRecDepth 100000 in
theorem f_X2_159 : fok RX2 159 4 7 := ⟨_, _, _, rfl, by decide, Or.inl (gwt_2 103 rfl rfl)⟩
set_option maxRecDepth 100000 in
theorem f_X7_165 : fok RX7 165 4 7 := ⟨_, _, _, rfl, by decide, Or.inl (gwt_2 104 rfl rfl)⟩
set_option maxRecDepth 100000 in
theorem f_X4_33 : fok RX4 33 4 8 := ⟨_, _, _, rfl, by decide, Or.inl (gwt_2 105 rfl rfl)⟩
set_option maxRecDepth 100000 in
theorem f_X2_125 : fok RX2 125 4 8 := ⟨_, _, _, rfl, by decide, Or.inl (gwt_2 106 rfl rfl)⟩
set_option maxRecDepth 100000 in
theorem f_X7_146 : fok RX7 146 4 8 := ⟨_, _, _, rfl, by decide, Or.inl (gwt_2 107 rfl rfl)⟩
set_option maxRecDepth 100000 in
theorem f_X4_36 : fok RX4 36 4 9 := ⟨_, _, _, rfl, by decide, Or.inl (gwt_2 108 rfl rfl)⟩
set_option maxRecDepth 100000 in
theorem f_X7_128 : fok RX7 128 4 9 := ⟨_, _, _, rfl, by decide, Or.inl (gwt_2 109 rfl rfl)⟩
set_option maxRecDepth 100000 in
theorem f_X2_138 : fok RX2 138 4 9 := ⟨_, _, _, rfl, by decide, Or.inl (gwt_2 110 rfl rfl)⟩
set_option maxRecDepth 100000 in
theorem f_X4_39 : fok RX4 39 4 10 := ⟨_, _, _, rfl, by decide, Or.inl (gwt_2 111 rfl rfl)⟩
set_option maxRecDepth 100000 in
theorem f_X7_131 : fok RX7 131 4 10 := ⟨_, _, _, rfl, by decide, Or.inl (gwt_2 112 rfl rfl)⟩
set_option maxRecDepth 100000 in
theorem f_X4_42 : fok RX4 42 4 11 := ⟨_, _, _, rfl, by decide, Or.inl (gwt_2 113 rfl rfl)⟩
set_option maxRecDepth 100000 in
theorem f_X7_134 : fok RX7 134 4 11 := ⟨_, _, _, rfl, by decide, Or.inl (gwt_2 114 rfl rfl)⟩
set_option maxRecDepth 100000 in
theorem f_X4_45 : fok RX4 45 4 12 := ⟨_, _, _, rfl, by decide, Or.inl (gwt_2 115 rfl rfl)⟩
set_option maxRecDepth 100000 in
theorem f_X7_125 : fok RX7 125 4 12 := ⟨_, _, _, rfl, by decide, Or.inl (gwt_2 116 rfl rfl)⟩
set_option maxRecDepth 100000 in
theorem f_X2_134 : fok RX2 134 4 12 := ⟨_, _, _, rfl, by decide, Or.inl (gwt_2 117 rfl rfl)⟩
set_option maxRecDepth 100000 in
theorem f_X4_48 : fok RX4 48 4 13 := ⟨_, _, _, rfl, by decide, Or.inl (gwt_2 118 rfl rfl)⟩
set_option maxRecDepth 100000 in
theorem f_X2_92 : fok RX2 92 4 13 := ⟨_, _, _, rfl, by decide, Or.inl (gwt_2 119 rfl rfl)⟩
set_option maxRecDepth 100000 in
theorem f_X7_175 : fok RX7 175 4 13 := ⟨_, _, _, rfl, by decide, Or.inl (gwt_2 120 rfl rfl)⟩
set_option maxRecDepth 100000 in
theorem f_X4_51 : fok RX4 51 4 14 := ⟨_, _, _, rfl, by decide, Or.inl (gwt_2 121 rfl rfl)⟩
set_option maxRecDepth 100000 in
theorem f_X7_142 : fok RX7 142 4 14 := ⟨_, _, _, rfl, by decide, Or.inl (gwt_2 122 rfl rfl)⟩
set_option maxRecDepth 100000 in
theorem f_X2_142 : fok RX2 142 4 14 := ⟨_, _, _, rfl, by decide, Or.inl (gwt_2 123 rfl rfl)⟩
set_option maxRecDepth 100000 in
theorem f_X4_54 : fok RX4 54 4 15 := ⟨_, _, _, rfl, by decide, Or.inl (gwt_2 124 rfl rfl)⟩
set_option maxRecDepth 100000 in
theorem f_X2_72 : fok RX2 72 4 15 := ⟨_, _, _, rfl, by decide, Or.inl (gwt_2 125 rfl rfl)⟩
set_option maxRecDepth 100000 in
theorem f_X7_110 : fok RX7 110 4 15 := ⟨_, _, _, rfl, by decide, Or.inl (gwt_2 126 rfl rfl)⟩
set_option maxRecDepth 100000 in
theorem f_X4_57 : fok RX4 57 4 16 := ⟨_, _, _, rfl, by decide, Or.inl (gwt_2 127 rfl rfl)⟩
set_option maxRecDepth 100000 in
theorem f_X2_131 : fok RX2 131 4 16 := ⟨_, _, _, rfl, by decide, Or.inl (gwt_2 128 rfl rfl)⟩
set_option maxRecDepth 100000 in
theorem f_X7_9 : fok RX7 9 7 0 := ⟨_, _, _, rfl, by decide, Or.inl (gwt_2 164 rfl rfl)⟩
set_option maxRecDepth 100000 in
theorem f_X6_28 : fok RX6 28 7 0 := ⟨_, _, _, rfl, by decide, Or.inl (gwt_2 165 rfl rfl)⟩
set_option maxRecDepth 100000 in
theorem f_X11_242 : fok RX11 242 7 0 := ⟨_, _, _, rfl, by decide, Or.inl (gwt_2 166 rfl rfl)⟩
set_option maxRecDepth 100000 in
theorem f_X7_18 : fok RX7 18 7 1 := ⟨_, _, _, rfl, by decide, Or.inl (gwt_2 167 rfl rfl)⟩
set_option maxRecDepth 100000 in
theorem f_X11_245 : fok RX11 245 7 1 := ⟨_, _, _, rfl, by decide, Or.inl (gwt_2 168 rfl rfl)⟩
set_option maxRecDepth 100000 in
theorem f_X7_25 : fok RX7 25 7 2 := ⟨_, _, _, rfl, by decide, Or.inl (gwt_2 169 rfl rfl)⟩
set_option maxRecDepth 100000 in
theorem f_X11_230 : fok RX11 230 7 2 := ⟨_, _, _, rfl, by decide, Or.inl (gwt_2 170 rfl rfl)⟩
set_option maxRecDepth 100000 in
theorem f_X7_29 : fok RX7 29 7 3 := ⟨_, _, _, rfl, by decide, Or.inl (gwt_2 171 rfl rfl)⟩
set_option maxRecDepth 100000 in
theorem f_X11_143 : fok RX11 143 7 3 := ⟨_, _, _, rfl, by decide, Or.inl (gwt_2 172 rfl rfl)⟩
set_option maxRecDepth 100000 in
theorem f_X7_34 : fok RX7 34 7 4 := ⟨_, _, _, rfl, by decide, Or.inl (gwt_2 173 rfl rfl)⟩
set_option maxRecDepth 100000 in
theorem f_X7_37 : fok RX7 37 7 5 := ⟨_, _, _, rfl, by decide, Or.inl (gwt_2 174 rfl rfl)⟩
set_option maxRecDepth 100000 in
theorem f_X11_254 : fok RX11 254 7 5 := ⟨_, _, _, rfl, by decide, Or.inl (gwt_2 175 rfl rfl)⟩
set_option maxRecDepth 100000 in
theorem f_X7_40 : fok RX7 40 7 6 := ⟨_, _, _, rfl, by decide, Or.inl (gwt_2 176 rfl rfl)⟩
set_option maxRecDepth 100000 in
theorem f_X6_42 : fok RX6 42 7 6 := ⟨_, _, _, rfl, by decide, Or.inl (gwt_2 177 rfl rfl)⟩
set_option maxRecDepth 100000 in
theorem f_X11_257 : fok RX11 257 7 6 := ⟨_, _, _, rfl, by decide, Or.inl (gwt_2 178 rfl rfl)⟩
set_option maxRecDepth 100000 in
theorem f_X7_43 : fok RX7 43 7 7 := ⟨_, _, _, rfl, by decide, Or.inl (gwt_2 179 rfl rfl)⟩
set_option maxRecDepth 100000 in
theorem f_X6_33 : fok RX6 33 7 7 := ⟨_, _, _, rfl, by decide, Or.inl (gwt_2 180 rfl rfl)⟩
set_option maxRecDepth 100000 in
theorem f_X7_51 : fok RX7 51 7 8 := ⟨_, _, _, rfl, by decide, Or.inl (gwt_2 181 rfl rfl)⟩
set_option maxRecDepth 100000 in
theorem f_X7_55 : fok RX7 55 7 9 := ⟨_, _, _, rfl, by decide, Or.inl (gwt_2 182 rfl rfl)⟩
set_option maxRecDepth 100000 in
theorem f_X7_58 : fok RX7 58 7 10 := ⟨_, _, _, rfl, by decide, Or.inl (gwt_2 183 rfl rfl)⟩
set_option maxRecDepth 100000 in
theorem f_X2_11 : fok RX2 11 2 0 := ⟨_, _, _, rfl, by decide, Or.inl (gwt_2 215 rfl rfl)⟩
set_option maxRecDepth 100000 in
theorem f_X2_17 : fok RX2 17 2 1 := ⟨_, _, _, rfl, by decide, Or.inl (gwt_2 216 rfl rfl)⟩
set_option maxRecDepth 100000 in
theorem f_X2_20 : fok RX2 20 2 2 := ⟨_, _, _, rfl, by decide, Or.inl (gwt_2 217 rfl rfl)⟩
set_option maxRecDepth 100000 in
theorem f_X2_28 : fok RX2 28 2 3 := ⟨_, _, _, rfl, by decide, Or.inl (gwt_2 218 rfl rfl)⟩
set_option maxRecDepth 100000 in
theorem f_X2_32 : fok RX2 32 2 4 := ⟨_, _, _, rfl, by decide, Or.inl (gwt_2 219 rfl rfl)⟩
set_option maxRecDepth 100000 in
theorem f_X2_36 : fok RX2 36 2 5 := ⟨_, _, _, rfl, by decide, Or.inl (gwt_2 220 rfl rfl)⟩
set_option maxRecDepth 100000 in
theorem f_X2_40 : fok RX2 40 2 6 := ⟨_, _, _, rfl, by decide, Or.inl (gwt_2 221 rfl rfl)⟩
set_option maxRecDepth 100000 in
theorem f_X2_43 : fok RX2 43 2 7 := ⟨_, _, _, rfl, by decide, Or.inl (gwt_2 222 rfl rfl)⟩
set_option maxRecDepth 100000 in
theorem f_X2_46 : fok RX2 46 2 8 := ⟨_, _, _, rfl, by decide, Or.inl (gwt_2 223 rfl rfl)⟩
set_option maxRecDepth 100000 in
theorem f_X2_50 : fok RX2 50 2 9 := ⟨_, _, _, rfl, by decide, Or.inl (gwt_2 224 rfl rfl)⟩
set_option maxRecDepth 100000 in
theorem f_X11_234 : fok RX11 234 2 9 := ⟨_, _, _, rfl, by decide, Or.inl (gwt_2 225 rfl rfl)⟩
set_option maxRecDepth 100000 in
theorem f_X2_53 : fok RX2 53 2 10 := ⟨_, _, _, rfl, by decide, Or.inl (gwt_2 226 rfl rfl)⟩
set_option maxRecDepth 100000 in
theorem f_X11_237 : fok RX11 237 2 10 := ⟨_, _, _, rfl, by decide, Or.inl (gwt_2 227 rfl rfl)⟩
set_option maxRecDepth 100000 in
theorem f_X6_9 : fok RX6 9 6 0 := ⟨_, _, _, rfl, by decide, Or.inl (gwt_3 17 rfl rfl)⟩
set_option maxRecDepth 100000 in
theorem f_X11_224 : fok RX11 224 6 0 := ⟨_, _, _, rfl, by decide, Or.inl (gwt_3 18 rfl rfl)⟩
set_option maxRecDepth 100000 in
theorem f_X6_15 : fok RX6 15 6 1 := ⟨_, _, _, rfl, by decide, Or.inl (gwt_3 19 rfl rfl)⟩
set_option maxRecDepth 100000 in
theorem f_X11_221 : fok RX11 221 6 1 := ⟨_, _, _, rfl, by decide, Or.inl (gwt_3 20 rfl rfl)⟩
set_option maxRecDepth 100000 in
theorem f_X6_18 : fok RX6 18 6 2 := ⟨_, _, _, rfl, by decide, Or.inl (gwt_3 21 rfl rfl)⟩
set_option maxRecDepth 100000 in
theorem f_X11_218 : fok RX11 218 6 2 := ⟨_, _, _, rfl, by decide, Or.inl (gwt_3 22 rfl rfl)⟩
set_option maxRecDepth 100000 in
theorem f_X6_22 : fok RX6 22 6 3 := ⟨_, _, _, rfl, by decide, Or.inl (gwt_3 23 rfl rfl)⟩
set_option maxRecDepth 100000 in
theorem f_X11_215 : fok RX11 215 6 3 := ⟨_, _, _, rfl, by decide, Or.inl (gwt_3 24 rfl rfl)⟩
set_option maxRecDepth 100000 in
theorem f_X6_25 : fok RX6 25 6 4 := ⟨_, _, _, rfl, by decide, Or.inl (gwt_3 25 rfl rfl)⟩
set_option maxRecDepth 100000 in
theorem f_X11_212 : fok RX11 212 6 4 := ⟨_, _, _, rfl, by decide, Or.inl (gwt_3 26 rfl rfl)⟩
set_option maxRecDepth 100000 in
theorem f_X11_9 : fok RX11 9 11 0 := ⟨_, _, _, rfl, by decide, Or.inl (gwt_3 38 rfl rfl)⟩
set_option maxRecDepth 100000 in
theorem f_X11_13 : fok RX11 13 11 1 := ⟨_, _, _, rfl, by decide, Or.inl (gwt_3 39 rfl rfl)⟩
set_option maxRecDepth 100000 in
theorem f_X11_17 : fok RX11 17 11 2 := ⟨_, _, _, rfl, by decide, Or.inl (gwt_3 40 rfl rfl)⟩
set_option maxRecDepth 100000 in
theorem f_X11_20 : fok RX11 20 11 3 := ⟨_, _, _, rfl, by decide, Or.inl (gwt_3 41 rfl rfl)⟩
set_option maxRecDepth 100000 in
theorem f_X11_23 : fok RX11 23 11 4 := ⟨_, _, _, rfl, by decide, Or.inl (gwt_3 42 rfl rfl)⟩
set_option maxRecDepth 100000 in
theorem f_X11_26 : fok RX11 26 11 5 := ⟨_, _, _, rfl, by decide, Or.inl (gwt_3 43 rfl rfl)⟩
set_option maxRecDepth 100000 in
theorem f_X11_32 : fok RX11 32 11 6 := ⟨_, _, _, rfl, by decide, Or.inl (gwt_3 44 rfl rfl)⟩
set_option maxRecDepth 100000 in
theorem f_X11_41 : fok RX11 41 11 7 := ⟨_, _, _, rfl, by decide, Or.inl (gwt_3 45 rfl rfl)⟩
set_option maxRecDepth 100000 in
theorem f_X11_48 : fok RX11 48 11 8 := ⟨_, _, _, rfl, by decide, Or.inl (gwt_3 46 rfl rfl)⟩
set_option maxRecDepth 100000 in
theorem f_X11_55 : fok RX11 55 11 9 := ⟨_, _, _, rfl, by decide, Or.inl (gwt_3 47 rfl rfl)⟩
set_option maxRecDepth 100000 in
theorem f_X11_59 : fok RX11 59 11 10 := ⟨_, _, _, rfl, by decide, Or.inl (gwt_3 48 rfl rfl)⟩
set_option maxRecDepth 100000 in
theorem f_X11_67 : fok RX11 67 11 11 := ⟨_, _, _, rfl, by decide, Or.inl (gwt_3 49 rfl rfl)⟩
set_option maxRecDepth 100000 in
theorem f_X11_76 : fok RX11 76 11 12 := ⟨_, _, _, rfl, by decide, Or.inl (gwt_3 50 rfl rfl)⟩
set_option maxRecDepth 100000 in
theorem f_X11_83 : fok RX11 83 11 13 := ⟨_, _, _, rfl, by decide, Or.inl (gwt_3 51 rfl rfl)⟩
set_option maxRecDepth 100000 in
theorem f_X11_90 : fok RX11 90 11 14 := ⟨_, _, _, rfl, by decide, Or.inl (gwt_3 52 rfl rfl)⟩
set_option maxRecDepth 100000 in
theorem f_X11_97 : fok RX11 97 11 15 := ⟨_, _, _, rfl, by decide, Or.inl (gwt_3 53 rfl rfl)⟩
set_option maxRecDepth 100000 in
theorem f_X14_533 : fok RX14 533 13 0 := ⟨_, _, _, rfl, by decide, Or.inr ⟨"MatchHouseModel", (nwt_7 69 rfl rfl)⟩⟩
set_option maxRecDepth 100000 in
theorem f_X14_534 : fok RX14 534 13 1 := ⟨_, _, _, rfl, by decide, Or.inr ⟨"MatchHouseModel", (nwt_7 70 rfl rfl)⟩⟩
set_option maxRecDepth 100000 in
theorem f_X14_302 : fok RX14 302 13 2 := ⟨_, _, _, rfl, by decide, Or.inr ⟨"MatchHouseModel", (nwt_7 71 rfl rfl)⟩⟩
set_option maxRecDepth 100000 in
theorem f_X14_380 : fok RX14 380 13 3 := ⟨_, _, _, rfl, by decide, Or.inr ⟨"MatchHouseModel", (nwt_7 72 rfl rfl)⟩⟩
set_option maxRecDepth 100000 in
theorem f_X14_507 : fok RX14 507 13 4 := ⟨_, _, _, rfl, by decide, Or.inr ⟨"MatchHouseModel", (nwt_7 73 rfl rfl)⟩⟩
set_option maxRecDepth 100000 in
theorem f_X13_9 : fok RX13 9 13 5 := ⟨_, _, _, rfl, by decide, Or.inl (gwt_7 74 rfl rfl)⟩
set_option maxRecDepth 100000 in
theorem f_X14_309 : fok RX14 309 13 5 := ⟨_, _, _, rfl, by decide, Or.inr ⟨"MatchHouseModel", (nwt_7 75 rfl rfl)⟩⟩
set_option maxRecDepth 100000 in
theorem f_X13_15 : fok RX13 15 13 6 := ⟨_, _, _, rfl, by decide, Or.inl (gwt_7 76 rfl rfl)⟩
set_option maxRecDepth 100000 in
theorem f_X14_311 : fok RX14 311 13 6 := ⟨_, _, _, rfl, by decide, Or.inr ⟨"MatchHouseModel", (nwt_7 77 rfl rfl)⟩⟩
set_option maxRecDepth 100000 in
theorem f_X13_18 : fok RX13 18 13 7 := ⟨_, _, _, rfl, by decide, Or.inl (gwt_7 78 rfl rfl)⟩
set_option maxRecDepth 100000 in
theorem f_X14_312 : fok RX14 312 13 7 := ⟨_, _, _, rfl, by decide, Or.inr ⟨"MatchHouseModel", (nwt_7 79 rfl rfl)⟩⟩
set_option maxRecDepth 100000 in
theorem f_X13_21 : fok RX13 21 13 8 := ⟨_, _, _, rfl, by decide, Or.inl (gwt_7 80 rfl rfl)⟩
set_option maxRecDepth 100000 in
theorem f_X14_504 : fok RX14 504 13 8 := ⟨_, _, _, rfl, by decide, Or.inr ⟨"MatchHouseModel", (nwt_7 81 rfl rfl)⟩⟩
set_option maxRecDepth 100000 in
theorem f_X13_24 : fok RX13 24 13 9 := ⟨_, _, _, rfl, by decide, Or.inl (gwt_7 82 rfl rfl)⟩
set_option maxRecDepth 100000 in
theorem f_X14_382 : fok RX14 382 13 9 := ⟨_, _, _, rfl, by decide, Or.inr ⟨"MatchHouseModel", (nwt_7 83 rfl rfl)⟩⟩
set_option maxRecDepth 100000 in
theorem f_X13_28 : fok RX13 28 13 10 := ⟨_, _, _, rfl, by decide, Or.inl (gwt_7 84 rfl rfl)⟩
set_option maxRecDepth 100000 in
theorem f_X14_516 : fok RX14 516 13 10 := ⟨_, _, _, rfl, by decide, Or.inr ⟨"MatchHouseModel", (nwt_7 85 rfl rfl)⟩⟩
set_option maxRecDepth 100000 in
theorem f_X13_32 : fok RX13 32 13 11 := ⟨_, _, _, rfl, by decide, Or.inl (gwt_7 86 rfl rfl)⟩
set_option maxRecDepth 100000 in
theorem f_X14_369 : fok RX14 369 13 11 := ⟨_, _, _, rfl, by decide, Or.inr ⟨"MatchHouseModel", (nwt_7 87 rfl rfl)⟩⟩
set_option maxRecDepth 100000 in
theorem f_X14_12 : fok RX14 12 14 0 := ⟨_, _, _, rfl, by decide, Or.inl (gwt_7 117 rfl rfl)⟩
set_option maxRecDepth 100000 in
theorem f_X14_16 : fok RX14 16 14 1 := ⟨_, _, _, rfl, by decide, Or.inl (gwt_7 118 rfl rfl)⟩
set_option maxRecDepth 100000 in
theorem f_X14_158 : fok RX14 158 14 2 := ⟨_, _, _, rfl, by decide, Or.inl (gwt_7 119 rfl rfl)⟩
set_option maxRecDepth 100000 in
theorem f_X14_20 : fok RX14 20 14 3 := ⟨_, _, _, rfl, by decide, Or.inl (gwt_7 120 rfl rfl)⟩
set_option maxRecDepth 100000 in
theorem f_X14_161 : fok RX14 161 14 4 := ⟨_, _, _, rfl, by decide, Or.inl (gwt_7 121 rfl rfl)⟩
set_option maxRecDepth 100000 in
theorem f_X14_167 : fok RX14 167 14 5 := ⟨_, _, _, rfl, by decide, Or.inl (gwt_7 122 rfl rfl)⟩
set_option maxRecDepth 100000 in
theorem f_X14_170 : fok RX14 170 14 6 := ⟨_, _, _, rfl, by decide, Or.inl (gwt_7 123 rfl rfl)⟩
set_option maxRecDepth 100000 in
theorem f_X14_164 : fok RX14 164 14 7 := ⟨_, _, _, rfl, by decide, Or.inl (gwt_7 124 rfl rfl)⟩
set_option maxRecDepth 100000 in
theorem f_X14_23 : fok RX14 23 14 8 := ⟨_, _, _, rfl, by decide, Or.inl (gwt_7 125 rfl rfl)⟩
set_option maxRecDepth 100000 in
theorem f_X14_519 : fok RX14 519 14 9 := ⟨_, _, _, rfl, by decide, Or.inl (gwt_7 126 rfl rfl)⟩
set_option maxRecDepth 100000 in
theorem f_X14_184 : fok RX14 184 14 10 := ⟨_, _, _, rfl, by decide, Or.inl (gwt_7 127 rfl rfl)⟩
set_option maxRecDepth 100000 in
theorem f_X14_27 : fok RX14 27 14 11 := ⟨_, _, _, rfl, by decide, Or.inl (gwt_7 128 rfl rfl)⟩
set_option maxRecDepth 100000 in
theorem f_X14_31 : fok RX14 31 14 12 := ⟨_, _, _, rfl, by decide, Or.inl (gwt_7 129 rfl rfl)⟩
set_option maxRecDepth 100000 in
theorem f_X14_34 : fok RX14 34 14 13 := ⟨_, _, _, rfl, by decide, Or.inl (gwt_7 130 rfl rfl)⟩
set_option maxRecDepth 100000 in
theorem f_X14_37 : fok RX14 37 14 14 := ⟨_, _, _, rfl, by decide, Or.inl (gwt_7 131 rfl rfl)⟩
set_option maxRecDepth 100000 in
theorem f_X14_40 : fok RX14 40 14 15 := ⟨_, _, _, rfl, by decide, Or.inl (gwt_7 132 rfl rfl)⟩
set_option maxRecDepth 100000 in
theorem f_X14_44 : fok RX14 44 14 16 := ⟨_, _, _, rfl, by decide, Or.inl (gwt_7 133 rfl rfl)⟩
set_option maxRecDepth 100000 in
theorem f_X14_47 : fok RX14 47 14 17 := ⟨_, _, _, rfl, by decide, Or.inl (gwt_7 134 rfl rfl)⟩
set_option maxRecDepth 100000 in
theorem f_X14_50 : fok RX14 50 14 18 := ⟨_, _, _, rfl, by decide, Or.inl (gwt_7 135 rfl rfl)⟩
set_option maxRecDepth 100000 in
theorem f_X14_55 : fok RX14 55 14 19 := ⟨_, _, _, rfl, by decide, Or.inl (gwt_7 136 rfl rfl)⟩
set_option maxRecDepth 100000 in
theorem f_X14_194 : fok RX14 194 14 20 := ⟨_, _, _, rfl, by decide, Or.inl (gwt_7 137 rfl rfl)⟩
set_option maxRecDepth 100000 in
theorem f_X14_58 : fok RX14 58 14 21 := ⟨_, _, _, rfl, by decide, Or.inl (gwt_7 138 rfl rfl)⟩
set_option maxRecDepth 100000 in
theorem f_X14_61 : fok RX14 61 14 22 := ⟨_, _, _, rfl, by decide, Or.inl (gwt_7 139 rfl rfl)⟩
set_option maxRecDepth 100000 in
theorem f_X14_197 : fok RX14 197 14 23 := ⟨_, _, _, rfl, by decide, Or.inl (gwt_7 140 rfl rfl)⟩
set_option maxRecDepth 100000 in
theorem f_X14_200 : fok RX14 200 14 24 := ⟨_, _, _, rfl, by decide, Or.inl (gwt_7 141 rfl rfl)⟩
set_option maxRecDepth 100000 in
theorem f_X14_191 : fok RX14 191 14 25 := ⟨_, _, _, rfl, by decide, Or.inl (gwt_7 142 rfl rfl)⟩
set_option maxRecDepth 100000 in
theorem f_X14_64 : fok RX14 64 14 26 := ⟨_, _, _, rfl, by decide, Or.inl (gwt_7 143 rfl rfl)⟩
set_option maxRecDepth 100000 in
theorem f_X14_67 : fok RX14 67 14 27 := ⟨_, _, _, rfl, by decide, Or.inl (gwt_7 144 rfl rfl)⟩
set_option maxRecDepth 100000 in
theorem f_X14_70 : fok RX14 70 14 28 := ⟨_, _, _, rfl, by decide, Or.inl (gwt_7 145 rfl rfl)⟩
set_option maxRecDepth 100000 in
theorem f_X14_203 : fok RX14 203 14 29 := ⟨_, _, _, rfl, by decide, Or.inl (gwt_7 146 rfl rfl)⟩
set_option maxRecDepth 100000 in
theorem f_X14_73 : fok RX14 73 14 30 := ⟨_, _, _, rfl, by decide, Or.inl (gwt_7 147 rfl rfl)⟩
set_option maxRecDepth 100000 in
theorem f_X14_76 : fok RX14 76 14 31 := ⟨_, _, _, rfl, by decide, Or.inl (gwt_7 148 rfl rfl)⟩
set_option maxRecDepth 100000 in
theorem f_X14_79 : fok RX14 79 14 32 := ⟨_, _, _, rfl, by decide, Or.inl (gwt_7 149 rfl rfl)⟩
set_option maxRecDepth 100000 in
theorem f_X14_85 : fok RX14 85 14 33 := ⟨_, _, _, rfl, by decide, Or.inl (gwt_7 150 rfl rfl)⟩
set_option maxRecDepth 100000 in
theorem f_X14_89 : fok RX14 89 14 34 := ⟨_, _, _, rfl, by decide, Or.inl (gwt_7 151 rfl rfl)⟩
set_option maxRecDepth 100000 in
theorem f_X14_535 : fok RX14 535 14 35 := ⟨_, _, _, rfl, by decide, Or.inl (gwt_7 152 rfl rfl)⟩
set_option maxRecDepth 100000 in
theorem f_X14_305 : fok RX14 305 14 36 := ⟨_, _, _, rfl, by decide, Or.inl (gwt_7 153 rfl rfl)⟩
set_option maxRecDepth 100000 in
theorem f_X14_394 : fok RX14 394 14 37 := ⟨_, _, _, rfl, by decide, Or.inl (gwt_7 154 rfl rfl)⟩
set_option maxRecDepth 100000 in
theorem f_X14_92 : fok RX14 92 14 38 := ⟨_, _, _, rfl, by decide, Or.inl (gwt_7 155 rfl rfl)⟩
set_option maxRecDepth 100000 in
theorem f_X14_95 : fok RX14 95 14 39 := ⟨_, _, _, rfl, by decide, Or.inl (gwt_7 156 rfl rfl)⟩
set_option maxRecDepth 100000 in
theorem f_X14_98 : fok RX14 98 14 40 := ⟨_, _, _, rfl, by decide, Or.inl (gwt_7 157 rfl rfl)⟩
set_option maxRecDepth 100000 in
theorem f_X14_101 : fok RX14 101 14 41 := ⟨_, _, _, rfl, by decide, Or.inl (gwt_7 158 rfl rfl)⟩
set_option maxRecDepth 100000 in
theorem f_X14_104 : fok RX14 104 14 42 := ⟨_, _, _, rfl, by decide, Or.inl (gwt_7 159 rfl rfl)⟩
set_option maxRecDepth 100000 in
theorem f_X14_388 : fok RX14 388 14 43 := ⟨_, _, _, rfl, by decide, Or.inl (gwt_7 160 rfl rfl)⟩
set_option maxRecDepth 100000 in
theorem f_X14_397 : fok RX14 397 14 44 := ⟨_, _, _, rfl, by decide, Or.inl (gwt_7 161 rfl rfl)⟩
set_option maxRecDepth 100000 in
theorem f_X14_108 : fok RX14 108 14 45 := ⟨_, _, _, rfl, by decide, Or.inl (gwt_7 162 rfl rfl)⟩
set_option maxRecDepth 100000 in
theorem f_X14_432 : fok RX14 432 14 46 := ⟨_, _, _, rfl, by decide, Or.inl (gwt_7 163 rfl rfl)⟩
set_option maxRecDepth 100000 in
theorem f_X14_111 : fok RX14 111 14 47 := ⟨_, _, _, rfl, by decide, Or.inl (gwt_7 164 rfl rfl)⟩
set_option maxRecDepth 100000 in
theorem f_X14_114 : fok RX14 114 14 48 := ⟨_, _, _, rfl, by decide, Or.inl (gwt_7 165 rfl rfl)⟩
set_option maxRecDepth 100000 in
theorem f_X14_118 : fok RX14 118 14 49 := ⟨_, _, _, rfl, by decide, Or.inl (gwt_7 166 rfl rfl)⟩
set_option maxRecDepth 100000 in
theorem f_X14_538 : fok RX14 538 14 50 := ⟨_, _, _, rfl, by decide, Or.inl (gwt_7 167 rfl rfl)⟩
set_option maxRecDepth 100000 in
theorem f_X14_122 : fok RX14 122 14 51 := ⟨_, _, _, rfl, by decide, Or.inl (gwt_7 168 rfl rfl)⟩
set_option maxRecDepth 100000 in
theorem f_X14_125 : fok RX14 125 14 52 := ⟨_, _, _, rfl, by decide, Or.inl (gwt_7 169 rfl rfl)⟩
set_option maxRecDepth 100000 in
theorem f_X14_651 : fok RX14 651 14 53 := ⟨_, _, _, rfl, by decide, Or.inl (gwt_7 170 rfl rfl)⟩
set_option maxRecDepth 100000 in
theorem f_X14_128 : fok RX14 128 14 54 := ⟨_, _, _, rfl, by decide, Or.inl (gwt_7 171 rfl rfl)⟩
set_option maxRecDepth 100000 in
theorem f_X14_693 : fok RX14 693 14 55 := ⟨_, _, _, rfl, by decide, Or.inl (gwt_7 172 rfl rfl)⟩
set_option maxRecDepth 100000 in
theorem f_X14_580 : fok RX14 580 14 56 := ⟨_, _, _, rfl, by decide, Or.inl (gwt_7 173 rfl rfl)⟩
set_option maxRecDepth 100000 in
theorem f_X14_583 : fok RX14 583 14 57 := ⟨_, _, _, rfl, by decide, Or.inl (gwt_7 174 rfl rfl)⟩
set_option maxRecDepth 100000 in
theorem f_X14_550 : fok RX14 550 14 58 := ⟨_, _, _, rfl, by decide, Or.inl (gwt_7 175 rfl rfl)⟩
set_option maxRecDepth 100000 in
theorem f_X14_592 : fok RX14 592 14 59 := ⟨_, _, _, rfl, by decide, Or.inl (gwt_7 176 rfl rfl)⟩
set_option maxRecDepth 100000 in
theorem f_X14_586 : fok RX14 586 14 60 := ⟨_, _, _, rfl, by decide, Or.inl (gwt_7 177 rfl rfl)⟩
set_option maxRecDepth 100000 in
theorem f_X14_595 : fok RX14 595 14 61 := ⟨_, _, _, rfl, by decide, Or.inl (gwt_7 178 rfl rfl)⟩
set_option maxRecDepth 100000 in
theorem f_X14_571 : fok RX14 571 14 62 := ⟨_, _, _, rfl, by decide, Or.inl (gwt_7 179 rfl rfl)⟩
set_option maxRecDepth 100000 in
theorem f_X14_568 : fok RX14 568 14 63 := ⟨_, _, _, rfl, by decide, Or.inl (gwt_7 180 rfl rfl)⟩
set_option maxRecDepth 100000 in
theorem f_X14_556 : fok RX14 556 14 64 := ⟨_, _, _, rfl, by decide, Or.inl (gwt_7 181 rfl rfl)⟩
set_option maxRecDepth 100000 in
theorem f_X14_559 : fok RX14 559 14 65 := ⟨_, _, _, rfl, by decide, Or.inl (gwt_7 182 rfl rfl)⟩
set_option maxRecDepth 100000 in
theorem f_X14_562 : fok RX14 562 14 66 := ⟨_, _, _, rfl, by decide, Or.inl (gwt_7 183 rfl rfl)⟩
set_option maxRecDepth 100000 in
theorem f_X14_565 : fok RX14 565 14 67 := ⟨_, _, _, rfl, by decide, Or.inl (gwt_7 184 rfl rfl)⟩
set_option maxRecDepth 100000 in
theorem f_X14_553 : fok RX14 553 14 68 := ⟨_, _, _, rfl, by decide, Or.inl (gwt_7 185 rfl rfl)⟩
set_option maxRecDepth 100000 in
theorem f_X14_589 : fok RX14 589 14 69 := ⟨_, _, _, rfl, by decide, Or.inl (gwt_7 186 rfl rfl)⟩
set_option maxRecDepth 100000 in
theorem f_X14_598 : fok RX14 598 14 70 := ⟨_, _, _, rfl, by decide, Or.inl (gwt_7 187 rfl rfl)⟩
set_option maxRecDepth 100000 in
theorem f_X14_616 : fok RX14 616 14 71 := ⟨_, _, _, rfl, by decide, Or.inl (gwt_7 188 rfl rfl)⟩
set_option maxRecDepth 100000 in
theorem f_X14_541 : fok RX14 541 14 72 := ⟨_, _, _, rfl, by decide, Or.inl (gwt_7 189 rfl rfl)⟩
set_option maxRecDepth 100000 in
theorem f_X14_131 : fok RX14 131 14 73 := ⟨_, _, _, rfl, by decide, Or.inl (gwt_7 190 rfl rfl)⟩
set_option maxRecDepth 100000 in
theorem f_X14_134 : fok RX14 134 14 74 := ⟨_, _, _, rfl, by decide, Or.inl (gwt_7 191 rfl rfl)⟩
set_option maxRecDepth 100000 in
theorem f_X14_137 : fok RX14 137 14 75 := ⟨_, _, _, rfl, by decide, Or.inl (gwt_7 192 rfl rfl)⟩
set_option maxRecDepth 100000 in
theorem f_X14_749 : fok RX14 749 14 76 := ⟨_, _, _, rfl, by decide, Or.inl (gwt_7 193 rfl rfl)⟩
set_option maxRecDepth 100000 in
theorem f_X14_752 : fok RX14 752 14 77 := ⟨_, _, _, rfl, by decide, Or.inl (gwt_7 194 rfl rfl)⟩
set_option maxRecDepth 100000 in
theorem f_X14_746 : fok RX14 746 14 78 := ⟨_, _, _, rfl, by decide, Or.inl (gwt_7 195 rfl rfl)⟩
set_option maxRecDepth 100000 in
theorem f_X14_755 : fok RX14 755 14 79 := ⟨_, _, _, rfl, by decide, Or.inl (gwt_7 196 rfl rfl)⟩
set_option maxRecDepth 100000 in
theorem f_X14_764 : fok RX14 764 14 80 := ⟨_, _, _, rfl, by decide, Or.inl (gwt_7 197 rfl rfl)⟩
set_option maxRecDepth 100000 in
theorem f_X14_140 : fok RX14 140 14 81 := ⟨_, _, _, rfl, by decide, Or.inl (gwt_7 198 rfl rfl)⟩
set_option maxRecDepth 100000 in
theorem f_X14_143 : fok RX14 143 14 82 := ⟨_, _, _, rfl, by decide, Or.inl (gwt_7 199 rfl rfl)⟩
set_option maxRecDepth 100000 in
theorem f_X14_146 : fok RX14 146 14 83 := ⟨_, _, _, rfl, by decide, Or.inl (gwt_7 200 rfl rfl)⟩
set_option maxRecDepth 100000 in
theorem f_X14_149 : fok RX14 149 14 84 := ⟨_, _, _, rfl, by decide, Or.inl (gwt_7 201 rfl rfl)⟩
set_option maxRecDepth 100000 in
theorem f_X14_152 : fok RX14 152 14 85 := ⟨_, _, _, rfl, by decide, Or.inl (gwt_7 202 rfl rfl)⟩
set_option maxRecDepth 100000 in
theorem f_X14_793 : fok RX14 793 14 86 := ⟨_, _, _, rfl, by decide, Or.inl (gwt_7 203 rfl rfl)⟩
set_option maxRecDepth 100000 in
theorem f_X14_796 : fok RX14 796 14 87 := ⟨_, _, _, rfl, by decide, Or.inl (gwt_7 204 rfl rfl)⟩
set_option maxRecDepth 100000 in
theorem f_X14_799 : fok RX14 799 14 88 := ⟨_, _, _, rfl, by decide, Or.inl (gwt_7 205 rfl rfl)⟩
set_option maxRecDepth 100000 in
theorem f_X14_787 : fok RX14 787 14 89 := ⟨_, _, _, rfl, by decide, Or.inl (gwt_7 206 rfl rfl)⟩
set_option maxRecDepth 100000 in
theorem f_X14_155 : fok RX14 155 14 90 := ⟨_, _, _, rfl, by decide, Or.inl (gwt_7 207 rfl rfl)⟩
set_option maxRecDepth 100000 in
theorem it_L : Cond.initialized RL ∈ gw := (gwt_1 0 rfl rfl)
set_option maxRecDepth 100000 in
theorem it_X11 : Cond.initialized RX11 ∈ gw := (gwt_1 1 rfl rfl)
set_option maxRecDepth 100000 in
theorem it_X10 : Cond.initialized RX10 ∈ gw := (gwt_1 2 rfl rfl)
set_option maxRecDepth 100000 in
theorem it_X9 : Cond.initialized RX9 ∈ gw := (gwt_1 3 rfl rfl)
set_option maxRecDepth 100000 in
theorem it_X5 : Cond.initialized RX5 ∈ gw := (gwt_1 4 rfl rfl)
set_option maxRecDepth 100000 in
theorem it_X8 : Cond.initialized RX8 ∈ gw := (gwt_1 5 rfl rfl)
set_option maxRecDepth 100000 in
theorem it_X3 : Cond.initialized RX3 ∈ gw := (gwt_1 6 rfl rfl)
set_option maxRecDepth 100000 in
theorem it_X1 : Cond.initialized RX1 ∈ gw := (gwt_1 7 rfl rfl)
set_option maxRecDepth 100000 in
theorem it_X7 : Cond.initialized RX7 ∈ gw := (gwt_1 8 rfl rfl)
set_option maxRecDepth 100000 in
theorem it_X0 : Cond.initialized RX0 ∈ gw := (gwt_1 9 rfl rfl)
set_option maxRecDepth 100000 in
theorem it_X4 : Cond.initialized RX4 ∈ gw := (gwt_1 10 rfl rfl)
set_option maxRecDepth 100000 in
theorem it_X2 : Cond.initialized RX2 ∈ gw := (gwt_1 11 rfl rfl)
set_option maxRecDepth 100000 in
theorem it_X6 : Cond.initialized RX6 ∈ gw := (gwt_1 12 rfl rfl)
set_option maxRecDepth 100000 in
theorem it_X14 : Cond.initialized RX14 ∈ gw := (gwt_1 13 rfl rfl)
set_option maxRecDepth 100000 in
theorem it_X12 : Cond.initialized RX12 ∈ gw := (gwt_1 17 rfl rfl)
set_option maxRecDepth 100000 in
theorem it_X13 : Cond.initialized RX13 ∈ gw := (gwt_1 18 rfl rfl)
set_option maxRecDepth 100000 in
theorem it_J7 : Cond.initialized RJ7 ∈ gw := (gwt_1 19 rfl rfl)
set_option maxRecDepth 100000 in
theorem it_J13 : Cond.initialized RJ13 ∈ gw := (gwt_1 20 rfl rfl)
set_option maxRecDepth 100000 in
theorem it_J9 : Cond.initialized RJ9 ∈ gw := (gwt_1 21 rfl rfl)
set_option maxRecDepth 100000 in
theorem it_J10 : Cond.initialized RJ10 ∈ gw := (gwt_1 22 rfl rfl)
set_option maxRecDepth 100000 in
theorem it_J6 : Cond.initialized RJ6 ∈ gw := (gwt_1 23 rfl rfl)
set_option maxRecDepth 100000 in
theorem cl_L_7 : Cond.classLink RL 7 RX11 ∈ gw := (gwt_1 24 rfl rfl)
set_option maxRecDepth 100000 in
theorem in_X11 : Cond.instantiable RX11 16 ∈ gw := (gwt_1 25 rfl rfl)
set_option maxRecDepth 100000 in
theorem ob_X11 : Cond.methodLink RX11 1 Lib.objectInit ∈ gw := (gwt_1 29 rfl rfl)
set_option maxRecDepth 100000 in
theorem cl_X11_29 : Cond.classLink RX11 29 RX10 ∈ gw := (gwt_1 32 rfl rfl)
set_option maxRecDepth 100000 in
theorem in_X10 : Cond.instantiable RX10 14 ∈ gw := (gwt_1 33 rfl rfl)
set_option maxRecDepth 100000 in
theorem ob_X10 : Cond.methodLink RX10 3 Lib.objectInit ∈ gw := (gwt_1 37 rfl rfl)
set_option maxRecDepth 100000 in
theorem k_X10_31 : Cond.constant RX10 31 (67200) ∈ gw := (gwt_1 38 rfl rfl)
set_option maxRecDepth 100000 in
theorem ac_byte : Cond.arrayClass .byte ∈ gw := (gwt_1 110 rfl rfl)
set_option maxRecDepth 100000 in
theorem ac_int : Cond.arrayClass .int ∈ gw := (gwt_1 111 rfl rfl)
set_option maxRecDepth 100000 in
theorem cl_X11_36 : Cond.classLink RX11 36 RX9 ∈ gw := (gwt_1 112 rfl rfl)
set_option maxRecDepth 100000 in
theorem in_X9 : Cond.instantiable RX9 5 ∈ gw := (gwt_1 113 rfl rfl)
set_option maxRecDepth 100000 in
theorem ob_X9 : Cond.methodLink RX9 3 Lib.objectInit ∈ gw := (gwt_1 117 rfl rfl)
set_option maxRecDepth 100000 in
theorem cl_X11_45 : Cond.classLink RX11 45 RX5 ∈ gw := (gwt_1 135 rfl rfl)
set_option maxRecDepth 100000 in
theorem in_X5 : Cond.instantiable RX5 5 ∈ gw := (gwt_1 136 rfl rfl)
set_option maxRecDepth 100000 in
theorem ob_X5 : Cond.methodLink RX5 5 Lib.objectInit ∈ gw := (gwt_1 140 rfl rfl)
set_option maxRecDepth 100000 in
theorem ac_long : Cond.arrayClass .long ∈ gw := (gwt_1 158 rfl rfl)
set_option maxRecDepth 100000 in
theorem cl_X11_52 : Cond.classLink RX11 52 RX8 ∈ gw := (gwt_1 159 rfl rfl)
set_option maxRecDepth 100000 in
theorem in_X8 : Cond.instantiable RX8 13 ∈ gw := (gwt_1 160 rfl rfl)
set_option maxRecDepth 100000 in
theorem ob_X8 : Cond.methodLink RX8 3 Lib.objectInit ∈ gw := (gwt_1 164 rfl rfl)
set_option maxRecDepth 100000 in
theorem cl_X11_62 : Cond.classLink RX11 62 RX3 ∈ gw := (gwt_1 235 rfl rfl)
set_option maxRecDepth 100000 in
theorem in_X3 : Cond.instantiable RX3 7 ∈ gw := (gwt_1 236 rfl rfl)
set_option maxRecDepth 100000 in
theorem ob_X3 : Cond.methodLink RX3 5 Lib.objectInit ∈ gw := (gwt_2 0 rfl rfl)
set_option maxRecDepth 100000 in
theorem cl_X11_71 : Cond.classLink RX11 71 RX1 ∈ gw := (gwt_2 23 rfl rfl)
set_option maxRecDepth 100000 in
theorem in_X1 : Cond.instantiable RX1 10 ∈ gw := (gwt_2 24 rfl rfl)
set_option maxRecDepth 100000 in
theorem ob_X1 : Cond.methodLink RX1 5 Lib.objectInit ∈ gw := (gwt_2 28 rfl rfl)
set_option maxRecDepth 100000 in
theorem k_X1_13 : Cond.constant RX1 13 (61440) ∈ gw := (gwt_2 29 rfl rfl)
set_option maxRecDepth 100000 in
theorem cl_X11_80 : Cond.classLink RX11 80 RX7 ∈ gw := (gwt_2 62 rfl rfl)
set_option maxRecDepth 100000 in
theorem in_X7 : Cond.instantiable RX7 11 ∈ gw := (gwt_2 63 rfl rfl)
set_option maxRecDepth 100000 in
theorem ob_X7 : Cond.methodLink RX7 3 Lib.objectInit ∈ gw := (gwt_2 67 rfl rfl)
set_option maxRecDepth 100000 in
theorem cl_X7_15 : Cond.classLink RX7 15 RX0 ∈ gw := (gwt_2 68 rfl rfl)
set_option maxRecDepth 100000 in
theorem in_X0 : Cond.instantiable RX0 1 ∈ gw := (gwt_2 69 rfl rfl)
set_option maxRecDepth 100000 in
theorem ob_X0 : Cond.methodLink RX0 1 Lib.objectInit ∈ gw := (gwt_2 73 rfl rfl)
set_option maxRecDepth 100000 in
theorem k_X7_24 : Cond.constant RX7 24 (61440) ∈ gw := (gwt_2 80 rfl rfl)
set_option maxRecDepth 100000 in
theorem k_X7_33 : Cond.constant RX7 33 (65536) ∈ gw := (gwt_2 81 rfl rfl)
set_option maxRecDepth 100000 in
theorem cl_X7_46 : Cond.classLink RX7 46 RX4 ∈ gw := (gwt_2 82 rfl rfl)
set_option maxRecDepth 100000 in
theorem in_X4 : Cond.instantiable RX4 17 ∈ gw := (gwt_2 83 rfl rfl)
set_option maxRecDepth 100000 in
theorem ob_X4 : Cond.methodLink RX4 3 Lib.objectInit ∈ gw := (gwt_2 87 rfl rfl)
set_option maxRecDepth 100000 in
theorem cl_X11_87 : Cond.classLink RX11 87 RX2 ∈ gw := (gwt_2 207 rfl rfl)
set_option maxRecDepth 100000 in
theorem in_X2 : Cond.instantiable RX2 11 ∈ gw := (gwt_2 208 rfl rfl)
set_option maxRecDepth 100000 in
theorem ob_X2 : Cond.methodLink RX2 3 Lib.objectInit ∈ gw := (gwt_2 212 rfl rfl)
set_option maxRecDepth 100000 in
theorem cl_X2_23 : Cond.classLink RX2 23 RX4 ∈ gw := (gwt_2 213 rfl rfl)
set_option maxRecDepth 100000 in
theorem cl_X11_94 : Cond.classLink RX11 94 RX6 ∈ gw := (gwt_3 11 rfl rfl)
set_option maxRecDepth 100000 in
theorem in_X6 : Cond.instantiable RX6 5 ∈ gw := (gwt_3 12 rfl rfl)
set_option maxRecDepth 100000 in
theorem ob_X6 : Cond.methodLink RX6 3 Lib.objectInit ∈ gw := (gwt_3 16 rfl rfl)
set_option maxRecDepth 100000 in
theorem k_X9_100 : Cond.constantLong RX9 100 (2) ∈ gw := (gwt_3 153 rfl rfl)
set_option maxRecDepth 100000 in
theorem k_X10_63 : Cond.constant RX10 63 (134217726) ∈ gw := (gwt_3 203 rfl rfl)
set_option maxRecDepth 100000 in
theorem k_J13_314 : Cond.constantLong RJ13 314 (6148914691236517205) ∈ gw := (gwt_4 56 rfl rfl)
set_option maxRecDepth 100000 in
theorem k_J13_316 : Cond.constantLong RJ13 316 (3689348814741910323) ∈ gw := (gwt_4 57 rfl rfl)
set_option maxRecDepth 100000 in
theorem k_J13_318 : Cond.constantLong RJ13 318 (1085102592571150095) ∈ gw := (gwt_4 58 rfl rfl)
set_option maxRecDepth 100000 in
theorem k_X3_149 : Cond.constant RX3 149 (1000000) ∈ gw := (gwt_4 118 rfl rfl)
set_option maxRecDepth 100000 in
theorem k_J6_265 : Cond.constant RJ6 265 (1431655765) ∈ gw := (gwt_4 130 rfl rfl)
set_option maxRecDepth 100000 in
theorem k_J6_266 : Cond.constant RJ6 266 (858993459) ∈ gw := (gwt_4 131 rfl rfl)
set_option maxRecDepth 100000 in
theorem k_J6_267 : Cond.constant RJ6 267 (252645135) ∈ gw := (gwt_4 132 rfl rfl)
set_option maxRecDepth 100000 in
theorem k_X1_165 : Cond.constant RX1 165 (139264) ∈ gw := (gwt_4 223 rfl rfl)
set_option maxRecDepth 100000 in
theorem k_X1_166 : Cond.constant RX1 166 (65535) ∈ gw := (gwt_5 0 rfl rfl)
set_option maxRecDepth 100000 in
theorem k_X1_164 : Cond.constant RX1 164 (131072) ∈ gw := (gwt_5 5 rfl rfl)
set_option maxRecDepth 100000 in
theorem k_X1_167 : Cond.constant RX1 167 (65532) ∈ gw := (gwt_5 11 rfl rfl)
set_option maxRecDepth 100000 in
theorem k_X1_176 : Cond.constant RX1 176 (65520) ∈ gw := (gwt_5 32 rfl rfl)
set_option maxRecDepth 100000 in
theorem k_X1_171 : Cond.constant RX1 171 (65504) ∈ gw := (gwt_5 57 rfl rfl)
set_option maxRecDepth 100000 in
theorem k_X1_172 : Cond.constant RX1 172 (65536) ∈ gw := (gwt_5 58 rfl rfl)
set_option maxRecDepth 100000 in
theorem k_X1_177 : Cond.constant RX1 177 (65528) ∈ gw := (gwt_5 63 rfl rfl)
set_option maxRecDepth 100000 in
theorem k_X11_203 : Cond.constant RX11 203 (300000) ∈ gw := (gwt_5 156 rfl rfl)
set_option maxRecDepth 100000 in
theorem k_X7_141 : Cond.constant RX7 141 (131072) ∈ gw := (gwt_5 220 rfl rfl)
set_option maxRecDepth 100000 in
theorem k_X0_19 : Cond.constantLong RX0 19 (4294967295) ∈ gw := (gwt_6 5 rfl rfl)
set_option maxRecDepth 100000 in
theorem k_X7_145 : Cond.constant RX7 145 (-65281) ∈ gw := (gwt_6 30 rfl rfl)
set_option maxRecDepth 100000 in
theorem k_X0_41 : Cond.constant RX0 41 (1073741824) ∈ gw := (gwt_6 45 rfl rfl)
set_option maxRecDepth 100000 in
theorem k_X7_201 : Cond.constantLong RX7 201 (4294967295) ∈ gw := (gwt_6 66 rfl rfl)
set_option maxRecDepth 100000 in
theorem k_X7_214 : Cond.constantLong RX7 214 (2) ∈ gw := (gwt_6 75 rfl rfl)
set_option maxRecDepth 100000 in
theorem k_X7_213 : Cond.constant RX7 213 (65280) ∈ gw := (gwt_6 80 rfl rfl)
set_option maxRecDepth 100000 in
theorem k_X7_226 : Cond.constant RX7 226 (65532) ∈ gw := (gwt_6 100 rfl rfl)
set_option maxRecDepth 100000 in
theorem k_X2_56 : Cond.constant RX2 56 (61440) ∈ gw := (gwt_6 136 rfl rfl)
set_option maxRecDepth 100000 in
theorem k_X2_137 : Cond.constant RX2 137 (131072) ∈ gw := (gwt_6 177 rfl rfl)
set_option maxRecDepth 100000 in
theorem k_X2_141 : Cond.constant RX2 141 (196608) ∈ gw := (gwt_6 178 rfl rfl)
set_option maxRecDepth 100000 in
theorem k_X2_145 : Cond.constant RX2 145 (65536) ∈ gw := (gwt_6 183 rfl rfl)
set_option maxRecDepth 100000 in
theorem k_X2_152 : Cond.constant RX2 152 (65504) ∈ gw := (gwt_6 188 rfl rfl)
set_option maxRecDepth 100000 in
theorem k_X2_162 : Cond.constant RX2 162 (65535) ∈ gw := (gwt_6 201 rfl rfl)
set_option maxRecDepth 100000 in
theorem k_X11_240 : Cond.constant RX11 240 (65535) ∈ gw := (gwt_6 206 rfl rfl)
set_option maxRecDepth 100000 in
theorem k_X11_241 : Cond.constant RX11 241 (100000) ∈ gw := (gwt_6 211 rfl rfl)
set_option maxRecDepth 100000 in
theorem k_X11_260 : Cond.constant RX11 260 (65532) ∈ gw := (gwt_6 224 rfl rfl)
set_option maxRecDepth 100000 in
theorem cl_L_10 : Cond.classLink RL 10 RX14 ∈ gw := (gwt_6 231 rfl rfl)
set_option maxRecDepth 100000 in
theorem in_X14 : Cond.instantiable RX14 91 ∈ gw := (gwt_6 232 rfl rfl)
set_option maxRecDepth 100000 in
theorem ob_X14 : Cond.methodLink RX14 3 Lib.objectInit ∈ gw := (gwt_6 236 rfl rfl)
set_option maxRecDepth 100000 in
theorem cl_X14_9 : Cond.classLink RX14 9 RX12 ∈ gw := (gwt_6 237 rfl rfl)
set_option maxRecDepth 100000 in
theorem in_X12 : Cond.instantiable RX12 6 ∈ gw := (gwt_6 238 rfl rfl)
set_option maxRecDepth 100000 in
theorem k_X14_54 : Cond.constant RX14 54 (97600) ∈ gw := (gwt_7 61 rfl rfl)
set_option maxRecDepth 100000 in
theorem cl_X14_82 : Cond.classLink RX14 82 RX13 ∈ gw := (gwt_7 62 rfl rfl)
set_option maxRecDepth 100000 in
theorem in_X13 : Cond.instantiable RX13 12 ∈ gw := (gwt_7 63 rfl rfl)
set_option maxRecDepth 100000 in
theorem ob_X13 : Cond.methodLink RX13 3 Lib.objectInit ∈ gw := (gwt_7 67 rfl rfl)
set_option maxRecDepth 100000 in
theorem k_X13_27 : Cond.constant RX13 27 (61440) ∈ gw := (gwt_7 68 rfl rfl)
set_option maxRecDepth 100000 in
theorem ac_boolean : Cond.arrayClass .boolean ∈ gw := (gwt_7 113 rfl rfl)
set_option maxRecDepth 100000 in
theorem k_X14_107 : Cond.constant RX14 107 (61840) ∈ gw := (gwt_7 114 rfl rfl)
set_option maxRecDepth 100000 in
theorem k_X14_117 : Cond.constant RX14 117 (61440) ∈ gw := (gwt_7 115 rfl rfl)
set_option maxRecDepth 100000 in
theorem k_X14_121 : Cond.constant RX14 121 (65536) ∈ gw := (gwt_7 116 rfl rfl)
set_option maxRecDepth 100000 in
theorem k_X14_410 : Cond.constant RX14 410 (139264) ∈ gw := (gwt_9 188 rfl rfl)
set_option maxRecDepth 100000 in
theorem k_X14_423 : Cond.constant RX14 423 (65535) ∈ gw := (gwt_9 205 rfl rfl)
set_option maxRecDepth 100000 in
theorem k_X14_409 : Cond.constant RX14 409 (131072) ∈ gw := (gwt_9 210 rfl rfl)
set_option maxRecDepth 100000 in
theorem k_X14_427 : Cond.constant RX14 427 (65532) ∈ gw := (gwt_9 223 rfl rfl)
set_option maxRecDepth 100000 in
theorem k_X14_469 : Cond.constant RX14 469 (65520) ∈ gw := (gwt_9 236 rfl rfl)
set_option maxRecDepth 100000 in
theorem k_X14_470 : Cond.constant RX14 470 (131076) ∈ gw := (gwt_10 9 rfl rfl)
set_option maxRecDepth 100000 in
theorem k_X14_431 : Cond.constant RX14 431 (65504) ∈ gw := (gwt_10 26 rfl rfl)
set_option maxRecDepth 100000 in
theorem k_X14_441 : Cond.constant RX14 441 (65528) ∈ gw := (gwt_10 35 rfl rfl)
set_option maxRecDepth 100000 in
theorem k_X14_731 : Cond.constant RX14 731 (100000) ∈ gw := (gwt_10 96 rfl rfl)
set_option maxRecDepth 100000 in
theorem k_X14_631 : Cond.constant RX14 631 (196608) ∈ gw := (gwt_10 176 rfl rfl)
set_option maxRecDepth 100000 in
theorem k_X14_661 : Cond.constantLong RX14 661 (4294967295) ∈ gw := (gwt_10 204 rfl rfl)
set_option maxRecDepth 100000 in
theorem k_X14_638 : Cond.constant RX14 638 (-65281) ∈ gw := (gwt_10 229 rfl rfl)
set_option maxRecDepth 100000 in
theorem k_J13_306 : Cond.constantLong RJ13 306 (-1) ∈ gw := (gwt_11 5 rfl rfl)
set_option maxRecDepth 100000 in
theorem k_X14_691 : Cond.constantLong RX14 691 (-9223372036854775808) ∈ gw := (gwt_11 9 rfl rfl)
set_option maxRecDepth 100000 in
theorem k_X14_721 : Cond.constant RX14 721 (65280) ∈ gw := (gwt_11 14 rfl rfl)
set_option maxRecDepth 100000 in
theorem k_X14_741 : Cond.constantLong RX14 741 (196608) ∈ gw := (gwt_11 75 rfl rfl)
set_option maxRecDepth 100000 in
theorem k_X14_782 : Cond.constant RX14 782 (135168) ∈ gw := (gwt_11 92 rfl rfl)
set_option maxRecDepth 100000 in
theorem k_X14_786 : Cond.constant RX14 786 (300000) ∈ gw := (gwt_11 98 rfl rfl)
set_option maxRecDepth 100000 in
theorem ob_im : Cond.instanceMethod Lib.objectInit ∈ gw := (gwt_1 30 rfl rfl)
set_option maxRecDepth 100000 in
theorem ob_co : Cond.code Lib.objectInit ⟨#[0xb1]⟩ 1 none ∈ gw := (gwt_1 31 rfl rfl)
