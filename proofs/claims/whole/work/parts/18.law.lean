theorem td_X9_feed : yX9_feed.cls ≠ "java/lang/invoke/MethodHandle" ∧ yX9_feed.cls ≠ "java/lang/invoke/VarHandle" ∧ (parseMethodDescriptor yX9_feed.desc).map (fun d => d.parameters.length) = some 5 := by decide +kernel
theorem tc_X9_feed : Cond.code yX9_feed cX9_feed 6 (some .int) ∈ TB := tb_in 492 (by decide +kernel) rfl
theorem tm_RL_13 : Cond.methodLink RL 13 yX9_feed ∈ TB := tb_in 489 (by decide +kernel) rfl
theorem ti_X9_feed : Cond.instanceMethod yX9_feed ∈ TB := tb_in 490 (by decide +kernel) rfl
theorem ts_X9_feed : Cond.selects RX9 yX9_feed yX9_feed ∈ TB := tb_in 491 (by decide +kernel) rfl
theorem td_X10_feed : yX10_feed.cls ≠ "java/lang/invoke/MethodHandle" ∧ yX10_feed.cls ≠ "java/lang/invoke/VarHandle" ∧ (parseMethodDescriptor yX10_feed.desc).map (fun d => d.parameters.length) = some 5 := by decide +kernel
theorem tc_X10_feed : Cond.code yX10_feed cX10_feed 6 (some .int) ∈ TB := tb_in 1369 (by decide +kernel) rfl
theorem tm_RL_17 : Cond.methodLink RL 17 yX10_feed ∈ TB := tb_in 1366 (by decide +kernel) rfl
theorem ti_X10_feed : Cond.instanceMethod yX10_feed ∈ TB := tb_in 1367 (by decide +kernel) rfl
theorem ts_X10_feed : Cond.selects RX10 yX10_feed yX10_feed ∈ TB := tb_in 1368 (by decide +kernel) rfl
theorem td_X9_end : yX9_end.cls ≠ "java/lang/invoke/MethodHandle" ∧ yX9_end.cls ≠ "java/lang/invoke/VarHandle" ∧ (parseMethodDescriptor yX9_end.desc).map (fun d => d.parameters.length) = some 1 := by decide +kernel
theorem tc_X9_end : Cond.code yX9_end cX9_end 2 (some .int) ∈ TB := tb_in 500 (by decide +kernel) rfl
theorem tm_RL_18 : Cond.methodLink RL 18 yX9_end ∈ TB := tb_in 497 (by decide +kernel) rfl
theorem ti_X9_end : Cond.instanceMethod yX9_end ∈ TB := tb_in 498 (by decide +kernel) rfl
theorem ts_X9_end : Cond.selects RX9 yX9_end yX9_end ∈ TB := tb_in 499 (by decide +kernel) rfl
theorem td_X10_end : yX10_end.cls ≠ "java/lang/invoke/MethodHandle" ∧ yX10_end.cls ≠ "java/lang/invoke/VarHandle" ∧ (parseMethodDescriptor yX10_end.desc).map (fun d => d.parameters.length) = some 1 := by decide +kernel
theorem tc_X10_end : Cond.code yX10_end cX10_end 2 (some .int) ∈ TB := tb_in 1377 (by decide +kernel) rfl
theorem tm_RL_22 : Cond.methodLink RL 22 yX10_end ∈ TB := tb_in 1374 (by decide +kernel) rfl
theorem ti_X10_end : Cond.instanceMethod yX10_end ∈ TB := tb_in 1375 (by decide +kernel) rfl
theorem ts_X10_end : Cond.selects RX10 yX10_end yX10_end ∈ TB := tb_in 1376 (by decide +kernel) rfl
theorem td_X9_text : yX9_text.cls ≠ "java/lang/invoke/MethodHandle" ∧ yX9_text.cls ≠ "java/lang/invoke/VarHandle" ∧ (parseMethodDescriptor yX9_text.desc).map (fun d => d.parameters.length) = some 0 := by decide +kernel
theorem tc_X9_text : Cond.code yX9_text cX9_text 3 (some .int) ∈ TB := tb_in 504 (by decide +kernel) rfl
theorem tm_RL_23 : Cond.methodLink RL 23 yX9_text ∈ TB := tb_in 501 (by decide +kernel) rfl
theorem ti_X9_text : Cond.instanceMethod yX9_text ∈ TB := tb_in 502 (by decide +kernel) rfl
theorem ts_X9_text : Cond.selects RX9 yX9_text yX9_text ∈ TB := tb_in 503 (by decide +kernel) rfl
theorem td_X10_text : yX10_text.cls ≠ "java/lang/invoke/MethodHandle" ∧ yX10_text.cls ≠ "java/lang/invoke/VarHandle" ∧ (parseMethodDescriptor yX10_text.desc).map (fun d => d.parameters.length) = some 0 := by decide +kernel
theorem tc_X10_text : Cond.code yX10_text cX10_text 1 (some .int) ∈ TB := tb_in 1384 (by decide +kernel) rfl
theorem tm_RL_27 : Cond.methodLink RL 27 yX10_text ∈ TB := tb_in 1381 (by decide +kernel) rfl
theorem ti_X10_text : Cond.instanceMethod yX10_text ∈ TB := tb_in 1382 (by decide +kernel) rfl
theorem ts_X10_text : Cond.selects RX10 yX10_text yX10_text ∈ TB := tb_in 1383 (by decide +kernel) rfl
theorem td_X9_fault : yX9_fault.cls ≠ "java/lang/invoke/MethodHandle" ∧ yX9_fault.cls ≠ "java/lang/invoke/VarHandle" ∧ (parseMethodDescriptor yX9_fault.desc).map (fun d => d.parameters.length) = some 1 := by decide +kernel
theorem tc_X9_fault : Cond.code yX9_fault cX9_fault 2 (some .int) ∈ TB := tb_in 768 (by decide +kernel) rfl
theorem tm_RL_28 : Cond.methodLink RL 28 yX9_fault ∈ TB := tb_in 765 (by decide +kernel) rfl
theorem ti_X9_fault : Cond.instanceMethod yX9_fault ∈ TB := tb_in 766 (by decide +kernel) rfl
theorem ts_X9_fault : Cond.selects RX9 yX9_fault yX9_fault ∈ TB := tb_in 767 (by decide +kernel) rfl
theorem td_X10_fault : yX10_fault.cls ≠ "java/lang/invoke/MethodHandle" ∧ yX10_fault.cls ≠ "java/lang/invoke/VarHandle" ∧ (parseMethodDescriptor yX10_fault.desc).map (fun d => d.parameters.length) = some 1 := by decide +kernel
theorem tc_X10_fault : Cond.code yX10_fault cX10_fault 2 (some .int) ∈ TB := tb_in 1528 (by decide +kernel) rfl
theorem tm_RL_31 : Cond.methodLink RL 31 yX10_fault ∈ TB := tb_in 1525 (by decide +kernel) rfl
theorem ti_X10_fault : Cond.instanceMethod yX10_fault ∈ TB := tb_in 1526 (by decide +kernel) rfl
theorem ts_X10_fault : Cond.selects RX10 yX10_fault yX10_fault ∈ TB := tb_in 1527 (by decide +kernel) rfl
theorem td_X9_by : yX9_by.cls ≠ "java/lang/invoke/MethodHandle" ∧ yX9_by.cls ≠ "java/lang/invoke/VarHandle" ∧ (parseMethodDescriptor yX9_by.desc).map (fun d => d.parameters.length) = some 1 := by decide +kernel
theorem tc_X9_by : Cond.code yX9_by cX9_by 2 (some .boolean) ∈ TB := tb_in 772 (by decide +kernel) rfl
theorem tm_RL_32 : Cond.methodLink RL 32 yX9_by ∈ TB := tb_in 769 (by decide +kernel) rfl
theorem ti_X9_by : Cond.instanceMethod yX9_by ∈ TB := tb_in 770 (by decide +kernel) rfl
theorem ts_X9_by : Cond.selects RX9 yX9_by yX9_by ∈ TB := tb_in 771 (by decide +kernel) rfl
theorem td_X10_by : yX10_by.cls ≠ "java/lang/invoke/MethodHandle" ∧ yX10_by.cls ≠ "java/lang/invoke/VarHandle" ∧ (parseMethodDescriptor yX10_by.desc).map (fun d => d.parameters.length) = some 1 := by decide +kernel
theorem tc_X10_by : Cond.code yX10_by cX10_by 2 (some .boolean) ∈ TB := tb_in 1532 (by decide +kernel) rfl
theorem tm_RL_36 : Cond.methodLink RL 36 yX10_by ∈ TB := tb_in 1529 (by decide +kernel) rfl
theorem ti_X10_by : Cond.instanceMethod yX10_by ∈ TB := tb_in 1530 (by decide +kernel) rfl
theorem ts_X10_by : Cond.selects RX10 yX10_by yX10_by ∈ TB := tb_in 1531 (by decide +kernel) rfl
theorem tm_RL_37 : Cond.methodLink RL 37 yX9_make ∈ TB := tb_in 773 (by decide +kernel) rfl
theorem tm_RL_41 : Cond.methodLink RL 41 yX10_make ∈ TB := tb_in 1537 (by decide +kernel) rfl
theorem tm_RL_42 : Cond.methodLink RL 42 yX9_load ∈ TB := tb_in 982 (by decide +kernel) rfl
theorem tm_RL_46 : Cond.methodLink RL 46 yX10_load ∈ TB := tb_in 1731 (by decide +kernel) rfl
theorem tm_RL_47 : Cond.methodLink RL 47 yX9_store ∈ TB := tb_in 994 (by decide +kernel) rfl
theorem tm_RL_51 : Cond.methodLink RL 51 yX10_store ∈ TB := tb_in 1747 (by decide +kernel) rfl
theorem tm_RL_52 : Cond.methodLink RL 52 yX9_drop ∈ TB := tb_in 1002 (by decide +kernel) rfl
theorem tm_RL_55 : Cond.methodLink RL 55 yX10_drop ∈ TB := tb_in 1751 (by decide +kernel) rfl
theorem td_X9_copy : yX9_copy.cls ≠ "java/lang/invoke/MethodHandle" ∧ yX9_copy.cls ≠ "java/lang/invoke/VarHandle" ∧ (parseMethodDescriptor yX9_copy.desc).map (fun d => d.parameters.length) = some 2 := by decide +kernel
theorem tc_X9_copy : Cond.code yX9_copy cX9_copy 3 (some .boolean) ∈ TB := tb_in 1009 (by decide +kernel) rfl
theorem tm_RL_56 : Cond.methodLink RL 56 yX9_copy ∈ TB := tb_in 1006 (by decide +kernel) rfl
theorem ti_X9_copy : Cond.instanceMethod yX9_copy ∈ TB := tb_in 1007 (by decide +kernel) rfl
theorem ts_X9_copy : Cond.selects RX9 yX9_copy yX9_copy ∈ TB := tb_in 1008 (by decide +kernel) rfl
theorem td_X10_copy : yX10_copy.cls ≠ "java/lang/invoke/MethodHandle" ∧ yX10_copy.cls ≠ "java/lang/invoke/VarHandle" ∧ (parseMethodDescriptor yX10_copy.desc).map (fun d => d.parameters.length) = some 2 := by decide +kernel
theorem tc_X10_copy : Cond.code yX10_copy cX10_copy 3 (some .boolean) ∈ TB := tb_in 1758 (by decide +kernel) rfl
theorem tm_RL_60 : Cond.methodLink RL 60 yX10_copy ∈ TB := tb_in 1755 (by decide +kernel) rfl
theorem ti_X10_copy : Cond.instanceMethod yX10_copy ∈ TB := tb_in 1756 (by decide +kernel) rfl
theorem ts_X10_copy : Cond.selects RX10 yX10_copy yX10_copy ∈ TB := tb_in 1757 (by decide +kernel) rfl
theorem td_X9_begin : yX9_begin.cls ≠ "java/lang/invoke/MethodHandle" ∧ yX9_begin.cls ≠ "java/lang/invoke/VarHandle" ∧ (parseMethodDescriptor yX9_begin.desc).map (fun d => d.parameters.length) = some 3 := by decide +kernel
theorem tc_X9_begin : Cond.code yX9_begin cX9_begin 5 (some .int) ∈ TB := tb_in 1013 (by decide +kernel) rfl
theorem tm_RL_61 : Cond.methodLink RL 61 yX9_begin ∈ TB := tb_in 1010 (by decide +kernel) rfl
theorem ti_X9_begin : Cond.instanceMethod yX9_begin ∈ TB := tb_in 1011 (by decide +kernel) rfl
theorem ts_X9_begin : Cond.selects RX9 yX9_begin yX9_begin ∈ TB := tb_in 1012 (by decide +kernel) rfl
theorem td_X10_begin : yX10_begin.cls ≠ "java/lang/invoke/MethodHandle" ∧ yX10_begin.cls ≠ "java/lang/invoke/VarHandle" ∧ (parseMethodDescriptor yX10_begin.desc).map (fun d => d.parameters.length) = some 3 := by decide +kernel
theorem tc_X10_begin : Cond.code yX10_begin cX10_begin 7 (some .int) ∈ TB := tb_in 1762 (by decide +kernel) rfl
theorem tm_RL_64 : Cond.methodLink RL 64 yX10_begin ∈ TB := tb_in 1759 (by decide +kernel) rfl
theorem ti_X10_begin : Cond.instanceMethod yX10_begin ∈ TB := tb_in 1760 (by decide +kernel) rfl
theorem ts_X10_begin : Cond.selects RX10 yX10_begin yX10_begin ∈ TB := tb_in 1761 (by decide +kernel) rfl
theorem td_X9_finish : yX9_finish.cls ≠ "java/lang/invoke/MethodHandle" ∧ yX9_finish.cls ≠ "java/lang/invoke/VarHandle" ∧ (parseMethodDescriptor yX9_finish.desc).map (fun d => d.parameters.length) = some 2 := by decide +kernel
theorem tc_X9_finish : Cond.code yX9_finish cX9_finish 3 (some .int) ∈ TB := tb_in 1021 (by decide +kernel) rfl
theorem tm_RL_65 : Cond.methodLink RL 65 yX9_finish ∈ TB := tb_in 1018 (by decide +kernel) rfl
theorem ti_X9_finish : Cond.instanceMethod yX9_finish ∈ TB := tb_in 1019 (by decide +kernel) rfl
theorem ts_X9_finish : Cond.selects RX9 yX9_finish yX9_finish ∈ TB := tb_in 1020 (by decide +kernel) rfl
theorem td_X10_finish : yX10_finish.cls ≠ "java/lang/invoke/MethodHandle" ∧ yX10_finish.cls ≠ "java/lang/invoke/VarHandle" ∧ (parseMethodDescriptor yX10_finish.desc).map (fun d => d.parameters.length) = some 2 := by decide +kernel
theorem tc_X10_finish : Cond.code yX10_finish cX10_finish 3 (some .int) ∈ TB := tb_in 1769 (by decide +kernel) rfl
theorem tm_RL_68 : Cond.methodLink RL 68 yX10_finish ∈ TB := tb_in 1766 (by decide +kernel) rfl
theorem ti_X10_finish : Cond.instanceMethod yX10_finish ∈ TB := tb_in 1767 (by decide +kernel) rfl
theorem ts_X10_finish : Cond.selects RX10 yX10_finish yX10_finish ∈ TB := tb_in 1768 (by decide +kernel) rfl
theorem td_X9_start : yX9_start.cls ≠ "java/lang/invoke/MethodHandle" ∧ yX9_start.cls ≠ "java/lang/invoke/VarHandle" ∧ (parseMethodDescriptor yX9_start.desc).map (fun d => d.parameters.length) = some 0 := by decide +kernel
theorem tc_X9_start : Cond.code yX9_start cX9_start 1 (some .boolean) ∈ TB := tb_in 1034 (by decide +kernel) rfl
theorem tm_RL_69 : Cond.methodLink RL 69 yX9_start ∈ TB := tb_in 1031 (by decide +kernel) rfl
theorem ti_X9_start : Cond.instanceMethod yX9_start ∈ TB := tb_in 1032 (by decide +kernel) rfl
theorem ts_X9_start : Cond.selects RX9 yX9_start yX9_start ∈ TB := tb_in 1033 (by decide +kernel) rfl
theorem td_X10_start : yX10_start.cls ≠ "java/lang/invoke/MethodHandle" ∧ yX10_start.cls ≠ "java/lang/invoke/VarHandle" ∧ (parseMethodDescriptor yX10_start.desc).map (fun d => d.parameters.length) = some 0 := by decide +kernel
theorem tc_X10_start : Cond.code yX10_start cX10_start 1 (some .boolean) ∈ TB := tb_in 1781 (by decide +kernel) rfl
theorem tm_RL_73 : Cond.methodLink RL 73 yX10_start ∈ TB := tb_in 1778 (by decide +kernel) rfl
theorem ti_X10_start : Cond.instanceMethod yX10_start ∈ TB := tb_in 1779 (by decide +kernel) rfl
theorem ts_X10_start : Cond.selects RX10 yX10_start yX10_start ∈ TB := tb_in 1780 (by decide +kernel) rfl
theorem td_X9_choose : yX9_choose.cls ≠ "java/lang/invoke/MethodHandle" ∧ yX9_choose.cls ≠ "java/lang/invoke/VarHandle" ∧ (parseMethodDescriptor yX9_choose.desc).map (fun d => d.parameters.length) = some 0 := by decide +kernel
theorem tc_X9_choose : Cond.code yX9_choose cX9_choose 2 (some .int) ∈ TB := tb_in 1041 (by decide +kernel) rfl
theorem tm_RL_74 : Cond.methodLink RL 74 yX9_choose ∈ TB := tb_in 1038 (by decide +kernel) rfl
theorem ti_X9_choose : Cond.instanceMethod yX9_choose ∈ TB := tb_in 1039 (by decide +kernel) rfl
theorem ts_X9_choose : Cond.selects RX9 yX9_choose yX9_choose ∈ TB := tb_in 1040 (by decide +kernel) rfl
theorem td_X10_choose : yX10_choose.cls ≠ "java/lang/invoke/MethodHandle" ∧ yX10_choose.cls ≠ "java/lang/invoke/VarHandle" ∧ (parseMethodDescriptor yX10_choose.desc).map (fun d => d.parameters.length) = some 0 := by decide +kernel
theorem tc_X10_choose : Cond.code yX10_choose cX10_choose 1 (some .int) ∈ TB := tb_in 1785 (by decide +kernel) rfl
theorem tm_RL_77 : Cond.methodLink RL 77 yX10_choose ∈ TB := tb_in 1782 (by decide +kernel) rfl
theorem ti_X10_choose : Cond.instanceMethod yX10_choose ∈ TB := tb_in 1783 (by decide +kernel) rfl
theorem ts_X10_choose : Cond.selects RX10 yX10_choose yX10_choose ∈ TB := tb_in 1784 (by decide +kernel) rfl
theorem td_X9_day : yX9_day.cls ≠ "java/lang/invoke/MethodHandle" ∧ yX9_day.cls ≠ "java/lang/invoke/VarHandle" ∧ (parseMethodDescriptor yX9_day.desc).map (fun d => d.parameters.length) = some 1 := by decide +kernel
theorem tc_X9_day : Cond.code yX9_day cX9_day 2 (some .int) ∈ TB := tb_in 1047 (by decide +kernel) rfl
theorem tm_RL_78 : Cond.methodLink RL 78 yX9_day ∈ TB := tb_in 1044 (by decide +kernel) rfl
theorem ti_X9_day : Cond.instanceMethod yX9_day ∈ TB := tb_in 1045 (by decide +kernel) rfl
theorem ts_X9_day : Cond.selects RX9 yX9_day yX9_day ∈ TB := tb_in 1046 (by decide +kernel) rfl
theorem td_X10_day : yX10_day.cls ≠ "java/lang/invoke/MethodHandle" ∧ yX10_day.cls ≠ "java/lang/invoke/VarHandle" ∧ (parseMethodDescriptor yX10_day.desc).map (fun d => d.parameters.length) = some 1 := by decide +kernel
theorem tc_X10_day : Cond.code yX10_day cX10_day 2 (some .int) ∈ TB := tb_in 1789 (by decide +kernel) rfl
theorem tm_RL_81 : Cond.methodLink RL 81 yX10_day ∈ TB := tb_in 1786 (by decide +kernel) rfl
theorem ti_X10_day : Cond.instanceMethod yX10_day ∈ TB := tb_in 1787 (by decide +kernel) rfl
theorem ts_X10_day : Cond.selects RX10 yX10_day yX10_day ∈ TB := tb_in 1788 (by decide +kernel) rfl
theorem td_X9_played : yX9_played.cls ≠ "java/lang/invoke/MethodHandle" ∧ yX9_played.cls ≠ "java/lang/invoke/VarHandle" ∧ (parseMethodDescriptor yX9_played.desc).map (fun d => d.parameters.length) = some 1 := by decide +kernel
theorem tc_X9_played : Cond.code yX9_played cX9_played 8 (some .int) ∈ TB := tb_in 1055 (by decide +kernel) rfl
theorem tm_RL_82 : Cond.methodLink RL 82 yX9_played ∈ TB := tb_in 1052 (by decide +kernel) rfl
theorem ti_X9_played : Cond.instanceMethod yX9_played ∈ TB := tb_in 1053 (by decide +kernel) rfl
theorem ts_X9_played : Cond.selects RX9 yX9_played yX9_played ∈ TB := tb_in 1054 (by decide +kernel) rfl
theorem td_X10_played : yX10_played.cls ≠ "java/lang/invoke/MethodHandle" ∧ yX10_played.cls ≠ "java/lang/invoke/VarHandle" ∧ (parseMethodDescriptor yX10_played.desc).map (fun d => d.parameters.length) = some 1 := by decide +kernel
theorem tc_X10_played : Cond.code yX10_played cX10_played 3 (some .int) ∈ TB := tb_in 1797 (by decide +kernel) rfl
theorem tm_RL_85 : Cond.methodLink RL 85 yX10_played ∈ TB := tb_in 1794 (by decide +kernel) rfl
theorem ti_X10_played : Cond.instanceMethod yX10_played ∈ TB := tb_in 1795 (by decide +kernel) rfl
theorem ts_X10_played : Cond.selects RX10 yX10_played yX10_played ∈ TB := tb_in 1796 (by decide +kernel) rfl
theorem td_X9_years : yX9_years.cls ≠ "java/lang/invoke/MethodHandle" ∧ yX9_years.cls ≠ "java/lang/invoke/VarHandle" ∧ (parseMethodDescriptor yX9_years.desc).map (fun d => d.parameters.length) = some 2 := by decide +kernel
theorem tc_X9_years : Cond.code yX9_years cX9_years 5 (some .int) ∈ TB := tb_in 1063 (by decide +kernel) rfl
theorem tm_RL_86 : Cond.methodLink RL 86 yX9_years ∈ TB := tb_in 1060 (by decide +kernel) rfl
theorem ti_X9_years : Cond.instanceMethod yX9_years ∈ TB := tb_in 1061 (by decide +kernel) rfl
theorem ts_X9_years : Cond.selects RX9 yX9_years yX9_years ∈ TB := tb_in 1062 (by decide +kernel) rfl
theorem td_X10_years : yX10_years.cls ≠ "java/lang/invoke/MethodHandle" ∧ yX10_years.cls ≠ "java/lang/invoke/VarHandle" ∧ (parseMethodDescriptor yX10_years.desc).map (fun d => d.parameters.length) = some 2 := by decide +kernel
theorem tc_X10_years : Cond.code yX10_years cX10_years 5 (some .int) ∈ TB := tb_in 1809 (by decide +kernel) rfl
theorem tm_RL_89 : Cond.methodLink RL 89 yX10_years ∈ TB := tb_in 1806 (by decide +kernel) rfl
theorem ti_X10_years : Cond.instanceMethod yX10_years ∈ TB := tb_in 1807 (by decide +kernel) rfl
theorem ts_X10_years : Cond.selects RX10 yX10_years yX10_years ∈ TB := tb_in 1808 (by decide +kernel) rfl
theorem td_X9_undo : yX9_undo.cls ≠ "java/lang/invoke/MethodHandle" ∧ yX9_undo.cls ≠ "java/lang/invoke/VarHandle" ∧ (parseMethodDescriptor yX9_undo.desc).map (fun d => d.parameters.length) = some 0 := by decide +kernel
theorem tc_X9_undo : Cond.code yX9_undo cX9_undo 1 (some .int) ∈ TB := tb_in 1071 (by decide +kernel) rfl
theorem tm_RL_90 : Cond.methodLink RL 90 yX9_undo ∈ TB := tb_in 1068 (by decide +kernel) rfl
theorem ti_X9_undo : Cond.instanceMethod yX9_undo ∈ TB := tb_in 1069 (by decide +kernel) rfl
theorem ts_X9_undo : Cond.selects RX9 yX9_undo yX9_undo ∈ TB := tb_in 1070 (by decide +kernel) rfl
theorem td_X10_undo : yX10_undo.cls ≠ "java/lang/invoke/MethodHandle" ∧ yX10_undo.cls ≠ "java/lang/invoke/VarHandle" ∧ (parseMethodDescriptor yX10_undo.desc).map (fun d => d.parameters.length) = some 0 := by decide +kernel
theorem tc_X10_undo : Cond.code yX10_undo cX10_undo 2 (some .int) ∈ TB := tb_in 1536 (by decide +kernel) rfl
theorem tm_RL_93 : Cond.methodLink RL 93 yX10_undo ∈ TB := tb_in 1533 (by decide +kernel) rfl
theorem ti_X10_undo : Cond.instanceMethod yX10_undo ∈ TB := tb_in 1534 (by decide +kernel) rfl
theorem ts_X10_undo : Cond.selects RX10 yX10_undo yX10_undo ∈ TB := tb_in 1535 (by decide +kernel) rfl
theorem td_X9_root : yX9_root.cls ≠ "java/lang/invoke/MethodHandle" ∧ yX9_root.cls ≠ "java/lang/invoke/VarHandle" ∧ (parseMethodDescriptor yX9_root.desc).map (fun d => d.parameters.length) = some 1 := by decide +kernel
theorem tc_X9_root : Cond.code yX9_root cX9_root 2 (some .int) ∈ TB := tb_in 1079 (by decide +kernel) rfl
theorem tm_RL_94 : Cond.methodLink RL 94 yX9_root ∈ TB := tb_in 1076 (by decide +kernel) rfl
theorem ti_X9_root : Cond.instanceMethod yX9_root ∈ TB := tb_in 1077 (by decide +kernel) rfl
theorem ts_X9_root : Cond.selects RX9 yX9_root yX9_root ∈ TB := tb_in 1078 (by decide +kernel) rfl
theorem td_X10_root : yX10_root.cls ≠ "java/lang/invoke/MethodHandle" ∧ yX10_root.cls ≠ "java/lang/invoke/VarHandle" ∧ (parseMethodDescriptor yX10_root.desc).map (fun d => d.parameters.length) = some 1 := by decide +kernel
theorem tc_X10_root : Cond.code yX10_root cX10_root 2 (some .int) ∈ TB := tb_in 1824 (by decide +kernel) rfl
theorem tm_RL_97 : Cond.methodLink RL 97 yX10_root ∈ TB := tb_in 1821 (by decide +kernel) rfl
theorem ti_X10_root : Cond.instanceMethod yX10_root ∈ TB := tb_in 1822 (by decide +kernel) rfl
theorem ts_X10_root : Cond.selects RX10 yX10_root yX10_root ∈ TB := tb_in 1823 (by decide +kernel) rfl
theorem td_X9_at : yX9_at.cls ≠ "java/lang/invoke/MethodHandle" ∧ yX9_at.cls ≠ "java/lang/invoke/VarHandle" ∧ (parseMethodDescriptor yX9_at.desc).map (fun d => d.parameters.length) = some 1 := by decide +kernel
theorem tc_X9_at : Cond.code yX9_at cX9_at 2 (some .int) ∈ TB := tb_in 1083 (by decide +kernel) rfl
theorem tm_RL_98 : Cond.methodLink RL 98 yX9_at ∈ TB := tb_in 1080 (by decide +kernel) rfl
theorem ti_X9_at : Cond.instanceMethod yX9_at ∈ TB := tb_in 1081 (by decide +kernel) rfl
theorem ts_X9_at : Cond.selects RX9 yX9_at yX9_at ∈ TB := tb_in 1082 (by decide +kernel) rfl
theorem td_X10_at : yX10_at.cls ≠ "java/lang/invoke/MethodHandle" ∧ yX10_at.cls ≠ "java/lang/invoke/VarHandle" ∧ (parseMethodDescriptor yX10_at.desc).map (fun d => d.parameters.length) = some 1 := by decide +kernel
theorem tc_X10_at : Cond.code yX10_at cX10_at 2 (some .int) ∈ TB := tb_in 1828 (by decide +kernel) rfl
theorem tm_RL_101 : Cond.methodLink RL 101 yX10_at ∈ TB := tb_in 1825 (by decide +kernel) rfl
theorem ti_X10_at : Cond.instanceMethod yX10_at ∈ TB := tb_in 1826 (by decide +kernel) rfl
theorem ts_X10_at : Cond.selects RX10 yX10_at yX10_at ∈ TB := tb_in 1827 (by decide +kernel) rfl
theorem td_X9_forward : yX9_forward.cls ≠ "java/lang/invoke/MethodHandle" ∧ yX9_forward.cls ≠ "java/lang/invoke/VarHandle" ∧ (parseMethodDescriptor yX9_forward.desc).map (fun d => d.parameters.length) = some 1 := by decide +kernel
theorem tc_X9_forward : Cond.code yX9_forward cX9_forward 2 (some .int) ∈ TB := tb_in 1088 (by decide +kernel) rfl
theorem tm_RL_102 : Cond.methodLink RL 102 yX9_forward ∈ TB := tb_in 1085 (by decide +kernel) rfl
theorem ti_X9_forward : Cond.instanceMethod yX9_forward ∈ TB := tb_in 1086 (by decide +kernel) rfl
theorem ts_X9_forward : Cond.selects RX9 yX9_forward yX9_forward ∈ TB := tb_in 1087 (by decide +kernel) rfl
theorem td_X10_forward : yX10_forward.cls ≠ "java/lang/invoke/MethodHandle" ∧ yX10_forward.cls ≠ "java/lang/invoke/VarHandle" ∧ (parseMethodDescriptor yX10_forward.desc).map (fun d => d.parameters.length) = some 1 := by decide +kernel
theorem tc_X10_forward : Cond.code yX10_forward cX10_forward 2 (some .int) ∈ TB := tb_in 1832 (by decide +kernel) rfl
theorem tm_RL_105 : Cond.methodLink RL 105 yX10_forward ∈ TB := tb_in 1829 (by decide +kernel) rfl
theorem ti_X10_forward : Cond.instanceMethod yX10_forward ∈ TB := tb_in 1830 (by decide +kernel) rfl
theorem ts_X10_forward : Cond.selects RX10 yX10_forward yX10_forward ∈ TB := tb_in 1831 (by decide +kernel) rfl
theorem td_X9_page : yX9_page.cls ≠ "java/lang/invoke/MethodHandle" ∧ yX9_page.cls ≠ "java/lang/invoke/VarHandle" ∧ (parseMethodDescriptor yX9_page.desc).map (fun d => d.parameters.length) = some 2 := by decide +kernel
theorem tc_X9_page : Cond.code yX9_page cX9_page 3 (some .int) ∈ TB := tb_in 1092 (by decide +kernel) rfl
theorem tm_RL_106 : Cond.methodLink RL 106 yX9_page ∈ TB := tb_in 1089 (by decide +kernel) rfl
theorem ti_X9_page : Cond.instanceMethod yX9_page ∈ TB := tb_in 1090 (by decide +kernel) rfl
theorem ts_X9_page : Cond.selects RX9 yX9_page yX9_page ∈ TB := tb_in 1091 (by decide +kernel) rfl
theorem td_X10_page : yX10_page.cls ≠ "java/lang/invoke/MethodHandle" ∧ yX10_page.cls ≠ "java/lang/invoke/VarHandle" ∧ (parseMethodDescriptor yX10_page.desc).map (fun d => d.parameters.length) = some 2 := by decide +kernel
theorem tc_X10_page : Cond.code yX10_page cX10_page 3 (some .int) ∈ TB := tb_in 1836 (by decide +kernel) rfl
theorem tm_RL_109 : Cond.methodLink RL 109 yX10_page ∈ TB := tb_in 1833 (by decide +kernel) rfl
theorem ti_X10_page : Cond.instanceMethod yX10_page ∈ TB := tb_in 1834 (by decide +kernel) rfl
theorem ts_X10_page : Cond.selects RX10 yX10_page yX10_page ∈ TB := tb_in 1835 (by decide +kernel) rfl
theorem td_X9_is : yX9_is.cls ≠ "java/lang/invoke/MethodHandle" ∧ yX9_is.cls ≠ "java/lang/invoke/VarHandle" ∧ (parseMethodDescriptor yX9_is.desc).map (fun d => d.parameters.length) = some 1 := by decide +kernel
theorem tc_X9_is : Cond.code yX9_is cX9_is 2 (some .int) ∈ TB := tb_in 1098 (by decide +kernel) rfl
theorem tm_RL_110 : Cond.methodLink RL 110 yX9_is ∈ TB := tb_in 1095 (by decide +kernel) rfl
theorem ti_X9_is : Cond.instanceMethod yX9_is ∈ TB := tb_in 1096 (by decide +kernel) rfl
theorem ts_X9_is : Cond.selects RX9 yX9_is yX9_is ∈ TB := tb_in 1097 (by decide +kernel) rfl
theorem td_X10_is : yX10_is.cls ≠ "java/lang/invoke/MethodHandle" ∧ yX10_is.cls ≠ "java/lang/invoke/VarHandle" ∧ (parseMethodDescriptor yX10_is.desc).map (fun d => d.parameters.length) = some 1 := by decide +kernel
theorem tc_X10_is : Cond.code yX10_is cX10_is 2 (some .int) ∈ TB := tb_in 1843 (by decide +kernel) rfl
theorem tm_RL_113 : Cond.methodLink RL 113 yX10_is ∈ TB := tb_in 1840 (by decide +kernel) rfl
theorem ti_X10_is : Cond.instanceMethod yX10_is ∈ TB := tb_in 1841 (by decide +kernel) rfl
theorem ts_X10_is : Cond.selects RX10 yX10_is yX10_is ∈ TB := tb_in 1842 (by decide +kernel) rfl
theorem td_X9_marked : yX9_marked.cls ≠ "java/lang/invoke/MethodHandle" ∧ yX9_marked.cls ≠ "java/lang/invoke/VarHandle" ∧ (parseMethodDescriptor yX9_marked.desc).map (fun d => d.parameters.length) = some 1 := by decide +kernel
theorem tc_X9_marked : Cond.code yX9_marked cX9_marked 2 (some .boolean) ∈ TB := tb_in 1102 (by decide +kernel) rfl
theorem tm_RL_114 : Cond.methodLink RL 114 yX9_marked ∈ TB := tb_in 1099 (by decide +kernel) rfl
theorem ti_X9_marked : Cond.instanceMethod yX9_marked ∈ TB := tb_in 1100 (by decide +kernel) rfl
theorem ts_X9_marked : Cond.selects RX9 yX9_marked yX9_marked ∈ TB := tb_in 1101 (by decide +kernel) rfl
theorem td_X10_marked : yX10_marked.cls ≠ "java/lang/invoke/MethodHandle" ∧ yX10_marked.cls ≠ "java/lang/invoke/VarHandle" ∧ (parseMethodDescriptor yX10_marked.desc).map (fun d => d.parameters.length) = some 1 := by decide +kernel
theorem tc_X10_marked : Cond.code yX10_marked cX10_marked 2 (some .boolean) ∈ TB := tb_in 1847 (by decide +kernel) rfl
theorem tm_RL_117 : Cond.methodLink RL 117 yX10_marked ∈ TB := tb_in 1844 (by decide +kernel) rfl
theorem ti_X10_marked : Cond.instanceMethod yX10_marked ∈ TB := tb_in 1845 (by decide +kernel) rfl
theorem ts_X10_marked : Cond.selects RX10 yX10_marked yX10_marked ∈ TB := tb_in 1846 (by decide +kernel) rfl
theorem td_X9_book : yX9_book.cls ≠ "java/lang/invoke/MethodHandle" ∧ yX9_book.cls ≠ "java/lang/invoke/VarHandle" ∧ (parseMethodDescriptor yX9_book.desc).map (fun d => d.parameters.length) = some 2 := by decide +kernel
theorem tc_X9_book : Cond.code yX9_book cX9_book 3 (some .int) ∈ TB := tb_in 1106 (by decide +kernel) rfl
theorem tm_RL_118 : Cond.methodLink RL 118 yX9_book ∈ TB := tb_in 1103 (by decide +kernel) rfl
theorem ti_X9_book : Cond.instanceMethod yX9_book ∈ TB := tb_in 1104 (by decide +kernel) rfl
theorem ts_X9_book : Cond.selects RX9 yX9_book yX9_book ∈ TB := tb_in 1105 (by decide +kernel) rfl
theorem td_X10_book : yX10_book.cls ≠ "java/lang/invoke/MethodHandle" ∧ yX10_book.cls ≠ "java/lang/invoke/VarHandle" ∧ (parseMethodDescriptor yX10_book.desc).map (fun d => d.parameters.length) = some 2 := by decide +kernel
theorem tc_X10_book : Cond.code yX10_book cX10_book 3 (some .int) ∈ TB := tb_in 1851 (by decide +kernel) rfl
theorem tm_RL_121 : Cond.methodLink RL 121 yX10_book ∈ TB := tb_in 1848 (by decide +kernel) rfl
theorem ti_X10_book : Cond.instanceMethod yX10_book ∈ TB := tb_in 1849 (by decide +kernel) rfl
theorem ts_X10_book : Cond.selects RX10 yX10_book yX10_book ∈ TB := tb_in 1850 (by decide +kernel) rfl
theorem td_X9_foretold : yX9_foretold.cls ≠ "java/lang/invoke/MethodHandle" ∧ yX9_foretold.cls ≠ "java/lang/invoke/VarHandle" ∧ (parseMethodDescriptor yX9_foretold.desc).map (fun d => d.parameters.length) = some 2 := by decide +kernel
theorem tc_X9_foretold : Cond.code yX9_foretold cX9_foretold 4 (some .int) ∈ TB := tb_in 1114 (by decide +kernel) rfl
theorem tm_RL_122 : Cond.methodLink RL 122 yX9_foretold ∈ TB := tb_in 1111 (by decide +kernel) rfl
theorem ti_X9_foretold : Cond.instanceMethod yX9_foretold ∈ TB := tb_in 1112 (by decide +kernel) rfl
theorem ts_X9_foretold : Cond.selects RX9 yX9_foretold yX9_foretold ∈ TB := tb_in 1113 (by decide +kernel) rfl
theorem td_X10_foretold : yX10_foretold.cls ≠ "java/lang/invoke/MethodHandle" ∧ yX10_foretold.cls ≠ "java/lang/invoke/VarHandle" ∧ (parseMethodDescriptor yX10_foretold.desc).map (fun d => d.parameters.length) = some 2 := by decide +kernel
theorem tc_X10_foretold : Cond.code yX10_foretold cX10_foretold 4 (some .int) ∈ TB := tb_in 1871 (by decide +kernel) rfl
theorem tm_RL_125 : Cond.methodLink RL 125 yX10_foretold ∈ TB := tb_in 1868 (by decide +kernel) rfl
theorem ti_X10_foretold : Cond.instanceMethod yX10_foretold ∈ TB := tb_in 1869 (by decide +kernel) rfl
theorem ts_X10_foretold : Cond.selects RX10 yX10_foretold yX10_foretold ∈ TB := tb_in 1870 (by decide +kernel) rfl
theorem td_X9_paces : yX9_paces.cls ≠ "java/lang/invoke/MethodHandle" ∧ yX9_paces.cls ≠ "java/lang/invoke/VarHandle" ∧ (parseMethodDescriptor yX9_paces.desc).map (fun d => d.parameters.length) = some 1 := by decide +kernel
theorem tc_X9_paces : Cond.code yX9_paces cX9_paces 2 (some .int) ∈ TB := tb_in 1120 (by decide +kernel) rfl
theorem tm_RL_126 : Cond.methodLink RL 126 yX9_paces ∈ TB := tb_in 1117 (by decide +kernel) rfl
theorem ti_X9_paces : Cond.instanceMethod yX9_paces ∈ TB := tb_in 1118 (by decide +kernel) rfl
theorem ts_X9_paces : Cond.selects RX9 yX9_paces yX9_paces ∈ TB := tb_in 1119 (by decide +kernel) rfl
theorem td_X10_paces : yX10_paces.cls ≠ "java/lang/invoke/MethodHandle" ∧ yX10_paces.cls ≠ "java/lang/invoke/VarHandle" ∧ (parseMethodDescriptor yX10_paces.desc).map (fun d => d.parameters.length) = some 1 := by decide +kernel
theorem tc_X10_paces : Cond.code yX10_paces cX10_paces 2 (some .int) ∈ TB := tb_in 1863 (by decide +kernel) rfl
theorem tm_RL_129 : Cond.methodLink RL 129 yX10_paces ∈ TB := tb_in 1860 (by decide +kernel) rfl
theorem ti_X10_paces : Cond.instanceMethod yX10_paces ∈ TB := tb_in 1861 (by decide +kernel) rfl
theorem ts_X10_paces : Cond.selects RX10 yX10_paces yX10_paces ∈ TB := tb_in 1862 (by decide +kernel) rfl
theorem td_X9_current : yX9_current.cls ≠ "java/lang/invoke/MethodHandle" ∧ yX9_current.cls ≠ "java/lang/invoke/VarHandle" ∧ (parseMethodDescriptor yX9_current.desc).map (fun d => d.parameters.length) = some 1 := by decide +kernel
theorem tc_X9_current : Cond.code yX9_current cX9_current 2 (some .int) ∈ TB := tb_in 1124 (by decide +kernel) rfl
theorem tm_RL_130 : Cond.methodLink RL 130 yX9_current ∈ TB := tb_in 1121 (by decide +kernel) rfl
theorem ti_X9_current : Cond.instanceMethod yX9_current ∈ TB := tb_in 1122 (by decide +kernel) rfl
theorem ts_X9_current : Cond.selects RX9 yX9_current yX9_current ∈ TB := tb_in 1123 (by decide +kernel) rfl
theorem td_X10_current : yX10_current.cls ≠ "java/lang/invoke/MethodHandle" ∧ yX10_current.cls ≠ "java/lang/invoke/VarHandle" ∧ (parseMethodDescriptor yX10_current.desc).map (fun d => d.parameters.length) = some 1 := by decide +kernel
theorem tc_X10_current : Cond.code yX10_current cX10_current 2 (some .int) ∈ TB := tb_in 1867 (by decide +kernel) rfl
theorem tm_RL_133 : Cond.methodLink RL 133 yX10_current ∈ TB := tb_in 1864 (by decide +kernel) rfl
theorem ti_X10_current : Cond.instanceMethod yX10_current ∈ TB := tb_in 1865 (by decide +kernel) rfl
theorem ts_X10_current : Cond.selects RX10 yX10_current yX10_current ∈ TB := tb_in 1866 (by decide +kernel) rfl
theorem td_X9_reached : yX9_reached.cls ≠ "java/lang/invoke/MethodHandle" ∧ yX9_reached.cls ≠ "java/lang/invoke/VarHandle" ∧ (parseMethodDescriptor yX9_reached.desc).map (fun d => d.parameters.length) = some 1 := by decide +kernel
theorem tc_X9_reached : Cond.code yX9_reached cX9_reached 2 (some .boolean) ∈ TB := tb_in 1129 (by decide +kernel) rfl
theorem tm_RL_134 : Cond.methodLink RL 134 yX9_reached ∈ TB := tb_in 1126 (by decide +kernel) rfl
theorem ti_X9_reached : Cond.instanceMethod yX9_reached ∈ TB := tb_in 1127 (by decide +kernel) rfl
theorem ts_X9_reached : Cond.selects RX9 yX9_reached yX9_reached ∈ TB := tb_in 1128 (by decide +kernel) rfl
theorem td_X10_reached : yX10_reached.cls ≠ "java/lang/invoke/MethodHandle" ∧ yX10_reached.cls ≠ "java/lang/invoke/VarHandle" ∧ (parseMethodDescriptor yX10_reached.desc).map (fun d => d.parameters.length) = some 1 := by decide +kernel
theorem tc_X10_reached : Cond.code yX10_reached cX10_reached 2 (some .boolean) ∈ TB := tb_in 1887 (by decide +kernel) rfl
theorem tm_RL_137 : Cond.methodLink RL 137 yX10_reached ∈ TB := tb_in 1884 (by decide +kernel) rfl
theorem ti_X10_reached : Cond.instanceMethod yX10_reached ∈ TB := tb_in 1885 (by decide +kernel) rfl
theorem ts_X10_reached : Cond.selects RX10 yX10_reached yX10_reached ∈ TB := tb_in 1886 (by decide +kernel) rfl
theorem td_X9_reach : yX9_reach.cls ≠ "java/lang/invoke/MethodHandle" ∧ yX9_reach.cls ≠ "java/lang/invoke/VarHandle" ∧ (parseMethodDescriptor yX9_reach.desc).map (fun d => d.parameters.length) = some 1 := by decide +kernel
theorem tc_X9_reach : Cond.code yX9_reach cX9_reach 2 (some .int) ∈ TB := tb_in 1153 (by decide +kernel) rfl
theorem tm_RL_138 : Cond.methodLink RL 138 yX9_reach ∈ TB := tb_in 1150 (by decide +kernel) rfl
theorem ti_X9_reach : Cond.instanceMethod yX9_reach ∈ TB := tb_in 1151 (by decide +kernel) rfl
theorem ts_X9_reach : Cond.selects RX9 yX9_reach yX9_reach ∈ TB := tb_in 1152 (by decide +kernel) rfl
theorem td_X10_reach : yX10_reach.cls ≠ "java/lang/invoke/MethodHandle" ∧ yX10_reach.cls ≠ "java/lang/invoke/VarHandle" ∧ (parseMethodDescriptor yX10_reach.desc).map (fun d => d.parameters.length) = some 1 := by decide +kernel
theorem tc_X10_reach : Cond.code yX10_reach cX10_reach 5 (some .int) ∈ TB := tb_in 1903 (by decide +kernel) rfl
theorem tm_RL_142 : Cond.methodLink RL 142 yX10_reach ∈ TB := tb_in 1900 (by decide +kernel) rfl
theorem ti_X10_reach : Cond.instanceMethod yX10_reach ∈ TB := tb_in 1901 (by decide +kernel) rfl
theorem ts_X10_reach : Cond.selects RX10 yX10_reach yX10_reach ∈ TB := tb_in 1902 (by decide +kernel) rfl
theorem td_X9_dead : yX9_dead.cls ≠ "java/lang/invoke/MethodHandle" ∧ yX9_dead.cls ≠ "java/lang/invoke/VarHandle" ∧ (parseMethodDescriptor yX9_dead.desc).map (fun d => d.parameters.length) = some 0 := by decide +kernel
theorem tc_X9_dead : Cond.code yX9_dead cX9_dead 3 (some .int) ∈ TB := tb_in 1157 (by decide +kernel) rfl
theorem tm_RL_143 : Cond.methodLink RL 143 yX9_dead ∈ TB := tb_in 1154 (by decide +kernel) rfl
theorem ti_X9_dead : Cond.instanceMethod yX9_dead ∈ TB := tb_in 1155 (by decide +kernel) rfl
theorem ts_X9_dead : Cond.selects RX9 yX9_dead yX9_dead ∈ TB := tb_in 1156 (by decide +kernel) rfl
theorem td_X10_dead : yX10_dead.cls ≠ "java/lang/invoke/MethodHandle" ∧ yX10_dead.cls ≠ "java/lang/invoke/VarHandle" ∧ (parseMethodDescriptor yX10_dead.desc).map (fun d => d.parameters.length) = some 0 := by decide +kernel
theorem tc_X10_dead : Cond.code yX10_dead cX10_dead 3 (some .int) ∈ TB := tb_in 1919 (by decide +kernel) rfl
theorem tm_RL_146 : Cond.methodLink RL 146 yX10_dead ∈ TB := tb_in 1916 (by decide +kernel) rfl
theorem ti_X10_dead : Cond.instanceMethod yX10_dead ∈ TB := tb_in 1917 (by decide +kernel) rfl
theorem ts_X10_dead : Cond.selects RX10 yX10_dead yX10_dead ∈ TB := tb_in 1918 (by decide +kernel) rfl
theorem td_X9_stale : yX9_stale.cls ≠ "java/lang/invoke/MethodHandle" ∧ yX9_stale.cls ≠ "java/lang/invoke/VarHandle" ∧ (parseMethodDescriptor yX9_stale.desc).map (fun d => d.parameters.length) = some 0 := by decide +kernel
theorem tc_X9_stale : Cond.code yX9_stale cX9_stale 1 (some .int) ∈ TB := tb_in 1166 (by decide +kernel) rfl
theorem tm_RL_147 : Cond.methodLink RL 147 yX9_stale ∈ TB := tb_in 1163 (by decide +kernel) rfl
theorem ti_X9_stale : Cond.instanceMethod yX9_stale ∈ TB := tb_in 1164 (by decide +kernel) rfl
theorem ts_X9_stale : Cond.selects RX9 yX9_stale yX9_stale ∈ TB := tb_in 1165 (by decide +kernel) rfl
theorem td_X10_stale : yX10_stale.cls ≠ "java/lang/invoke/MethodHandle" ∧ yX10_stale.cls ≠ "java/lang/invoke/VarHandle" ∧ (parseMethodDescriptor yX10_stale.desc).map (fun d => d.parameters.length) = some 0 := by decide +kernel
theorem tc_X10_stale : Cond.code yX10_stale cX10_stale 4 (some .int) ∈ TB := tb_in 1923 (by decide +kernel) rfl
theorem tm_RL_150 : Cond.methodLink RL 150 yX10_stale ∈ TB := tb_in 1920 (by decide +kernel) rfl
theorem ti_X10_stale : Cond.instanceMethod yX10_stale ∈ TB := tb_in 1921 (by decide +kernel) rfl
theorem ts_X10_stale : Cond.selects RX10 yX10_stale yX10_stale ∈ TB := tb_in 1922 (by decide +kernel) rfl
theorem td_X9_safe : yX9_safe.cls ≠ "java/lang/invoke/MethodHandle" ∧ yX9_safe.cls ≠ "java/lang/invoke/VarHandle" ∧ (parseMethodDescriptor yX9_safe.desc).map (fun d => d.parameters.length) = some 0 := by decide +kernel
theorem tc_X9_safe : Cond.code yX9_safe cX9_safe 1 (some .boolean) ∈ TB := tb_in 1170 (by decide +kernel) rfl
theorem tm_RL_151 : Cond.methodLink RL 151 yX9_safe ∈ TB := tb_in 1167 (by decide +kernel) rfl
theorem ti_X9_safe : Cond.instanceMethod yX9_safe ∈ TB := tb_in 1168 (by decide +kernel) rfl
theorem ts_X9_safe : Cond.selects RX9 yX9_safe yX9_safe ∈ TB := tb_in 1169 (by decide +kernel) rfl
theorem td_X10_safe : yX10_safe.cls ≠ "java/lang/invoke/MethodHandle" ∧ yX10_safe.cls ≠ "java/lang/invoke/VarHandle" ∧ (parseMethodDescriptor yX10_safe.desc).map (fun d => d.parameters.length) = some 0 := by decide +kernel
theorem tc_X10_safe : Cond.code yX10_safe cX10_safe 3 (some .boolean) ∈ TB := tb_in 1927 (by decide +kernel) rfl
theorem tm_RL_154 : Cond.methodLink RL 154 yX10_safe ∈ TB := tb_in 1924 (by decide +kernel) rfl
theorem ti_X10_safe : Cond.instanceMethod yX10_safe ∈ TB := tb_in 1925 (by decide +kernel) rfl
theorem ts_X10_safe : Cond.selects RX10 yX10_safe yX10_safe ∈ TB := tb_in 1926 (by decide +kernel) rfl
theorem td_X9_far : yX9_far.cls ≠ "java/lang/invoke/MethodHandle" ∧ yX9_far.cls ≠ "java/lang/invoke/VarHandle" ∧ (parseMethodDescriptor yX9_far.desc).map (fun d => d.parameters.length) = some 1 := by decide +kernel
theorem tc_X9_far : Cond.code yX9_far cX9_far 2 (some .int) ∈ TB := tb_in 1174 (by decide +kernel) rfl
theorem tm_RL_155 : Cond.methodLink RL 155 yX9_far ∈ TB := tb_in 1171 (by decide +kernel) rfl
theorem ti_X9_far : Cond.instanceMethod yX9_far ∈ TB := tb_in 1172 (by decide +kernel) rfl
theorem ts_X9_far : Cond.selects RX9 yX9_far yX9_far ∈ TB := tb_in 1173 (by decide +kernel) rfl
theorem td_X10_far : yX10_far.cls ≠ "java/lang/invoke/MethodHandle" ∧ yX10_far.cls ≠ "java/lang/invoke/VarHandle" ∧ (parseMethodDescriptor yX10_far.desc).map (fun d => d.parameters.length) = some 1 := by decide +kernel
theorem tc_X10_far : Cond.code yX10_far cX10_far 2 (some .int) ∈ TB := tb_in 1935 (by decide +kernel) rfl
theorem tm_RL_158 : Cond.methodLink RL 158 yX10_far ∈ TB := tb_in 1932 (by decide +kernel) rfl
theorem ti_X10_far : Cond.instanceMethod yX10_far ∈ TB := tb_in 1933 (by decide +kernel) rfl
theorem ts_X10_far : Cond.selects RX10 yX10_far yX10_far ∈ TB := tb_in 1934 (by decide +kernel) rfl
theorem td_X9_retained : yX9_retained.cls ≠ "java/lang/invoke/MethodHandle" ∧ yX9_retained.cls ≠ "java/lang/invoke/VarHandle" ∧ (parseMethodDescriptor yX9_retained.desc).map (fun d => d.parameters.length) = some 1 := by decide +kernel
theorem tc_X9_retained : Cond.code yX9_retained cX9_retained 3 (some .int) ∈ TB := tb_in 1178 (by decide +kernel) rfl
theorem tm_RL_159 : Cond.methodLink RL 159 yX9_retained ∈ TB := tb_in 1175 (by decide +kernel) rfl
theorem ti_X9_retained : Cond.instanceMethod yX9_retained ∈ TB := tb_in 1176 (by decide +kernel) rfl
theorem ts_X9_retained : Cond.selects RX9 yX9_retained yX9_retained ∈ TB := tb_in 1177 (by decide +kernel) rfl
theorem td_X10_retained : yX10_retained.cls ≠ "java/lang/invoke/MethodHandle" ∧ yX10_retained.cls ≠ "java/lang/invoke/VarHandle" ∧ (parseMethodDescriptor yX10_retained.desc).map (fun d => d.parameters.length) = some 1 := by decide +kernel
theorem tc_X10_retained : Cond.code yX10_retained cX10_retained 2 (some .int) ∈ TB := tb_in 1939 (by decide +kernel) rfl
theorem tm_RL_162 : Cond.methodLink RL 162 yX10_retained ∈ TB := tb_in 1936 (by decide +kernel) rfl
theorem ti_X10_retained : Cond.instanceMethod yX10_retained ∈ TB := tb_in 1937 (by decide +kernel) rfl
theorem ts_X10_retained : Cond.selects RX10 yX10_retained yX10_retained ∈ TB := tb_in 1938 (by decide +kernel) rfl
theorem td_X9_pack : yX9_pack.cls ≠ "java/lang/invoke/MethodHandle" ∧ yX9_pack.cls ≠ "java/lang/invoke/VarHandle" ∧ (parseMethodDescriptor yX9_pack.desc).map (fun d => d.parameters.length) = some 0 := by decide +kernel
theorem tc_X9_pack : Cond.code yX9_pack cX9_pack 1 (some .int) ∈ TB := tb_in 1182 (by decide +kernel) rfl
theorem tm_RL_163 : Cond.methodLink RL 163 yX9_pack ∈ TB := tb_in 1179 (by decide +kernel) rfl
theorem ti_X9_pack : Cond.instanceMethod yX9_pack ∈ TB := tb_in 1180 (by decide +kernel) rfl
theorem ts_X9_pack : Cond.selects RX9 yX9_pack yX9_pack ∈ TB := tb_in 1181 (by decide +kernel) rfl
theorem td_X10_pack : yX10_pack.cls ≠ "java/lang/invoke/MethodHandle" ∧ yX10_pack.cls ≠ "java/lang/invoke/VarHandle" ∧ (parseMethodDescriptor yX10_pack.desc).map (fun d => d.parameters.length) = some 0 := by decide +kernel
theorem tc_X10_pack : Cond.code yX10_pack cX10_pack 8 (some .int) ∈ TB := tb_in 1943 (by decide +kernel) rfl
theorem tm_RL_166 : Cond.methodLink RL 166 yX10_pack ∈ TB := tb_in 1940 (by decide +kernel) rfl
theorem ti_X10_pack : Cond.instanceMethod yX10_pack ∈ TB := tb_in 1941 (by decide +kernel) rfl
theorem ts_X10_pack : Cond.selects RX10 yX10_pack yX10_pack ∈ TB := tb_in 1942 (by decide +kernel) rfl
theorem td_X9_till : yX9_till.cls ≠ "java/lang/invoke/MethodHandle" ∧ yX9_till.cls ≠ "java/lang/invoke/VarHandle" ∧ (parseMethodDescriptor yX9_till.desc).map (fun d => d.parameters.length) = some 0 := by decide +kernel
theorem tc_X9_till : Cond.code yX9_till cX9_till 2 (some .int) ∈ TB := tb_in 1196 (by decide +kernel) rfl
theorem tm_RL_167 : Cond.methodLink RL 167 yX9_till ∈ TB := tb_in 1193 (by decide +kernel) rfl
theorem ti_X9_till : Cond.instanceMethod yX9_till ∈ TB := tb_in 1194 (by decide +kernel) rfl
theorem ts_X9_till : Cond.selects RX9 yX9_till yX9_till ∈ TB := tb_in 1195 (by decide +kernel) rfl
theorem td_X10_till : yX10_till.cls ≠ "java/lang/invoke/MethodHandle" ∧ yX10_till.cls ≠ "java/lang/invoke/VarHandle" ∧ (parseMethodDescriptor yX10_till.desc).map (fun d => d.parameters.length) = some 0 := by decide +kernel
theorem tc_X10_till : Cond.code yX10_till cX10_till 3 (some .int) ∈ TB := tb_in 1883 (by decide +kernel) rfl
theorem tm_RL_170 : Cond.methodLink RL 170 yX10_till ∈ TB := tb_in 1880 (by decide +kernel) rfl
theorem ti_X10_till : Cond.instanceMethod yX10_till ∈ TB := tb_in 1881 (by decide +kernel) rfl
theorem ts_X10_till : Cond.selects RX10 yX10_till yX10_till ∈ TB := tb_in 1882 (by decide +kernel) rfl
theorem td_X9_alike : yX9_alike.cls ≠ "java/lang/invoke/MethodHandle" ∧ yX9_alike.cls ≠ "java/lang/invoke/VarHandle" ∧ (parseMethodDescriptor yX9_alike.desc).map (fun d => d.parameters.length) = some 0 := by decide +kernel
theorem tc_X9_alike : Cond.code yX9_alike cX9_alike 1 (some .int) ∈ TB := tb_in 1200 (by decide +kernel) rfl
theorem tm_RL_171 : Cond.methodLink RL 171 yX9_alike ∈ TB := tb_in 1197 (by decide +kernel) rfl
theorem ti_X9_alike : Cond.instanceMethod yX9_alike ∈ TB := tb_in 1198 (by decide +kernel) rfl
theorem ts_X9_alike : Cond.selects RX9 yX9_alike yX9_alike ∈ TB := tb_in 1199 (by decide +kernel) rfl
theorem td_X10_alike : yX10_alike.cls ≠ "java/lang/invoke/MethodHandle" ∧ yX10_alike.cls ≠ "java/lang/invoke/VarHandle" ∧ (parseMethodDescriptor yX10_alike.desc).map (fun d => d.parameters.length) = some 0 := by decide +kernel
theorem tc_X10_alike : Cond.code yX10_alike cX10_alike 1 (some .int) ∈ TB := tb_in 1952 (by decide +kernel) rfl
theorem tm_RL_174 : Cond.methodLink RL 174 yX10_alike ∈ TB := tb_in 1949 (by decide +kernel) rfl
theorem ti_X10_alike : Cond.instanceMethod yX10_alike ∈ TB := tb_in 1950 (by decide +kernel) rfl
theorem ts_X10_alike : Cond.selects RX10 yX10_alike yX10_alike ∈ TB := tb_in 1951 (by decide +kernel) rfl
theorem td_X9_poorest : yX9_poorest.cls ≠ "java/lang/invoke/MethodHandle" ∧ yX9_poorest.cls ≠ "java/lang/invoke/VarHandle" ∧ (parseMethodDescriptor yX9_poorest.desc).map (fun d => d.parameters.length) = some 0 := by decide +kernel
theorem tc_X9_poorest : Cond.code yX9_poorest cX9_poorest 3 (some .int) ∈ TB := tb_in 1209 (by decide +kernel) rfl
theorem tm_RL_175 : Cond.methodLink RL 175 yX9_poorest ∈ TB := tb_in 1206 (by decide +kernel) rfl
theorem ti_X9_poorest : Cond.instanceMethod yX9_poorest ∈ TB := tb_in 1207 (by decide +kernel) rfl
theorem ts_X9_poorest : Cond.selects RX9 yX9_poorest yX9_poorest ∈ TB := tb_in 1208 (by decide +kernel) rfl
theorem td_X10_poorest : yX10_poorest.cls ≠ "java/lang/invoke/MethodHandle" ∧ yX10_poorest.cls ≠ "java/lang/invoke/VarHandle" ∧ (parseMethodDescriptor yX10_poorest.desc).map (fun d => d.parameters.length) = some 0 := by decide +kernel
theorem tc_X10_poorest : Cond.code yX10_poorest cX10_poorest 3 (some .int) ∈ TB := tb_in 1964 (by decide +kernel) rfl
theorem tm_RL_178 : Cond.methodLink RL 178 yX10_poorest ∈ TB := tb_in 1961 (by decide +kernel) rfl
theorem ti_X10_poorest : Cond.instanceMethod yX10_poorest ∈ TB := tb_in 1962 (by decide +kernel) rfl
theorem ts_X10_poorest : Cond.selects RX10 yX10_poorest yX10_poorest ∈ TB := tb_in 1963 (by decide +kernel) rfl
theorem td_X9_gaps : yX9_gaps.cls ≠ "java/lang/invoke/MethodHandle" ∧ yX9_gaps.cls ≠ "java/lang/invoke/VarHandle" ∧ (parseMethodDescriptor yX9_gaps.desc).map (fun d => d.parameters.length) = some 1 := by decide +kernel
theorem tc_X9_gaps : Cond.code yX9_gaps cX9_gaps 2 (some .int) ∈ TB := tb_in 1213 (by decide +kernel) rfl
theorem tm_RL_179 : Cond.methodLink RL 179 yX9_gaps ∈ TB := tb_in 1210 (by decide +kernel) rfl
theorem ti_X9_gaps : Cond.instanceMethod yX9_gaps ∈ TB := tb_in 1211 (by decide +kernel) rfl
theorem ts_X9_gaps : Cond.selects RX9 yX9_gaps yX9_gaps ∈ TB := tb_in 1212 (by decide +kernel) rfl
theorem td_X10_gaps : yX10_gaps.cls ≠ "java/lang/invoke/MethodHandle" ∧ yX10_gaps.cls ≠ "java/lang/invoke/VarHandle" ∧ (parseMethodDescriptor yX10_gaps.desc).map (fun d => d.parameters.length) = some 1 := by decide +kernel
theorem tc_X10_gaps : Cond.code yX10_gaps cX10_gaps 2 (some .int) ∈ TB := tb_in 1911 (by decide +kernel) rfl
theorem tm_RL_182 : Cond.methodLink RL 182 yX10_gaps ∈ TB := tb_in 1908 (by decide +kernel) rfl
theorem ti_X10_gaps : Cond.instanceMethod yX10_gaps ∈ TB := tb_in 1909 (by decide +kernel) rfl
theorem ts_X10_gaps : Cond.selects RX10 yX10_gaps yX10_gaps ∈ TB := tb_in 1910 (by decide +kernel) rfl
theorem td_X9_shape : yX9_shape.cls ≠ "java/lang/invoke/MethodHandle" ∧ yX9_shape.cls ≠ "java/lang/invoke/VarHandle" ∧ (parseMethodDescriptor yX9_shape.desc).map (fun d => d.parameters.length) = some 2 := by decide +kernel
theorem tc_X9_shape : Cond.code yX9_shape cX9_shape 3 (some .int) ∈ TB := tb_in 1217 (by decide +kernel) rfl
theorem tm_RL_183 : Cond.methodLink RL 183 yX9_shape ∈ TB := tb_in 1214 (by decide +kernel) rfl
theorem ti_X9_shape : Cond.instanceMethod yX9_shape ∈ TB := tb_in 1215 (by decide +kernel) rfl
theorem ts_X9_shape : Cond.selects RX9 yX9_shape yX9_shape ∈ TB := tb_in 1216 (by decide +kernel) rfl
theorem td_X10_shape : yX10_shape.cls ≠ "java/lang/invoke/MethodHandle" ∧ yX10_shape.cls ≠ "java/lang/invoke/VarHandle" ∧ (parseMethodDescriptor yX10_shape.desc).map (fun d => d.parameters.length) = some 2 := by decide +kernel
theorem tc_X10_shape : Cond.code yX10_shape cX10_shape 3 (some .int) ∈ TB := tb_in 1968 (by decide +kernel) rfl
theorem tm_RL_186 : Cond.methodLink RL 186 yX10_shape ∈ TB := tb_in 1965 (by decide +kernel) rfl
theorem ti_X10_shape : Cond.instanceMethod yX10_shape ∈ TB := tb_in 1966 (by decide +kernel) rfl
theorem ts_X10_shape : Cond.selects RX10 yX10_shape yX10_shape ∈ TB := tb_in 1967 (by decide +kernel) rfl
theorem td_X9_same : yX9_same.cls ≠ "java/lang/invoke/MethodHandle" ∧ yX9_same.cls ≠ "java/lang/invoke/VarHandle" ∧ (parseMethodDescriptor yX9_same.desc).map (fun d => d.parameters.length) = some 2 := by decide +kernel
theorem tc_X9_same : Cond.code yX9_same cX9_same 4 (some .boolean) ∈ TB := tb_in 1222 (by decide +kernel) rfl
theorem tm_RL_187 : Cond.methodLink RL 187 yX9_same ∈ TB := tb_in 1219 (by decide +kernel) rfl
theorem ti_X9_same : Cond.instanceMethod yX9_same ∈ TB := tb_in 1220 (by decide +kernel) rfl
theorem ts_X9_same : Cond.selects RX9 yX9_same yX9_same ∈ TB := tb_in 1221 (by decide +kernel) rfl
theorem td_X10_same : yX10_same.cls ≠ "java/lang/invoke/MethodHandle" ∧ yX10_same.cls ≠ "java/lang/invoke/VarHandle" ∧ (parseMethodDescriptor yX10_same.desc).map (fun d => d.parameters.length) = some 2 := by decide +kernel
theorem tc_X10_same : Cond.code yX10_same cX10_same 4 (some .boolean) ∈ TB := tb_in 1976 (by decide +kernel) rfl
theorem tm_RL_190 : Cond.methodLink RL 190 yX10_same ∈ TB := tb_in 1973 (by decide +kernel) rfl
theorem ti_X10_same : Cond.instanceMethod yX10_same ∈ TB := tb_in 1974 (by decide +kernel) rfl
theorem ts_X10_same : Cond.selects RX10 yX10_same yX10_same ∈ TB := tb_in 1975 (by decide +kernel) rfl
theorem td_X9_chain : yX9_chain.cls ≠ "java/lang/invoke/MethodHandle" ∧ yX9_chain.cls ≠ "java/lang/invoke/VarHandle" ∧ (parseMethodDescriptor yX9_chain.desc).map (fun d => d.parameters.length) = some 1 := by decide +kernel
theorem tc_X9_chain : Cond.code yX9_chain cX9_chain 2 (some .int) ∈ TB := tb_in 1226 (by decide +kernel) rfl
theorem tm_RL_191 : Cond.methodLink RL 191 yX9_chain ∈ TB := tb_in 1223 (by decide +kernel) rfl
theorem ti_X9_chain : Cond.instanceMethod yX9_chain ∈ TB := tb_in 1224 (by decide +kernel) rfl
theorem ts_X9_chain : Cond.selects RX9 yX9_chain yX9_chain ∈ TB := tb_in 1225 (by decide +kernel) rfl
theorem td_X10_chain : yX10_chain.cls ≠ "java/lang/invoke/MethodHandle" ∧ yX10_chain.cls ≠ "java/lang/invoke/VarHandle" ∧ (parseMethodDescriptor yX10_chain.desc).map (fun d => d.parameters.length) = some 1 := by decide +kernel
theorem tc_X10_chain : Cond.code yX10_chain cX10_chain 4 (some .int) ∈ TB := tb_in 1980 (by decide +kernel) rfl
theorem tm_RL_194 : Cond.methodLink RL 194 yX10_chain ∈ TB := tb_in 1977 (by decide +kernel) rfl
theorem ti_X10_chain : Cond.instanceMethod yX10_chain ∈ TB := tb_in 1978 (by decide +kernel) rfl
theorem ts_X10_chain : Cond.selects RX10 yX10_chain yX10_chain ∈ TB := tb_in 1979 (by decide +kernel) rfl
theorem td_X9_said : yX9_said.cls ≠ "java/lang/invoke/MethodHandle" ∧ yX9_said.cls ≠ "java/lang/invoke/VarHandle" ∧ (parseMethodDescriptor yX9_said.desc).map (fun d => d.parameters.length) = some 2 := by decide +kernel
theorem tc_X9_said : Cond.code yX9_said cX9_said 3 (some .int) ∈ TB := tb_in 1234 (by decide +kernel) rfl
theorem tm_RL_195 : Cond.methodLink RL 195 yX9_said ∈ TB := tb_in 1231 (by decide +kernel) rfl
theorem ti_X9_said : Cond.instanceMethod yX9_said ∈ TB := tb_in 1232 (by decide +kernel) rfl
theorem ts_X9_said : Cond.selects RX9 yX9_said yX9_said ∈ TB := tb_in 1233 (by decide +kernel) rfl
theorem td_X10_said : yX10_said.cls ≠ "java/lang/invoke/MethodHandle" ∧ yX10_said.cls ≠ "java/lang/invoke/VarHandle" ∧ (parseMethodDescriptor yX10_said.desc).map (fun d => d.parameters.length) = some 2 := by decide +kernel
theorem tc_X10_said : Cond.code yX10_said cX10_said 3 (some .int) ∈ TB := tb_in 1984 (by decide +kernel) rfl
theorem tm_RL_198 : Cond.methodLink RL 198 yX10_said ∈ TB := tb_in 1981 (by decide +kernel) rfl
theorem ti_X10_said : Cond.instanceMethod yX10_said ∈ TB := tb_in 1982 (by decide +kernel) rfl
theorem ts_X10_said : Cond.selects RX10 yX10_said yX10_said ∈ TB := tb_in 1983 (by decide +kernel) rfl
theorem td_X9_whose : yX9_whose.cls ≠ "java/lang/invoke/MethodHandle" ∧ yX9_whose.cls ≠ "java/lang/invoke/VarHandle" ∧ (parseMethodDescriptor yX9_whose.desc).map (fun d => d.parameters.length) = some 0 := by decide +kernel
theorem tc_X9_whose : Cond.code yX9_whose cX9_whose 3 (some .int) ∈ TB := tb_in 1238 (by decide +kernel) rfl
theorem tm_RL_199 : Cond.methodLink RL 199 yX9_whose ∈ TB := tb_in 1235 (by decide +kernel) rfl
theorem ti_X9_whose : Cond.instanceMethod yX9_whose ∈ TB := tb_in 1236 (by decide +kernel) rfl
theorem ts_X9_whose : Cond.selects RX9 yX9_whose yX9_whose ∈ TB := tb_in 1237 (by decide +kernel) rfl
theorem td_X10_whose : yX10_whose.cls ≠ "java/lang/invoke/MethodHandle" ∧ yX10_whose.cls ≠ "java/lang/invoke/VarHandle" ∧ (parseMethodDescriptor yX10_whose.desc).map (fun d => d.parameters.length) = some 0 := by decide +kernel
theorem tc_X10_whose : Cond.code yX10_whose cX10_whose 5 (some .int) ∈ TB := tb_in 1988 (by decide +kernel) rfl
theorem tm_RL_202 : Cond.methodLink RL 202 yX10_whose ∈ TB := tb_in 1985 (by decide +kernel) rfl
theorem ti_X10_whose : Cond.instanceMethod yX10_whose ∈ TB := tb_in 1986 (by decide +kernel) rfl
theorem ts_X10_whose : Cond.selects RX10 yX10_whose yX10_whose ∈ TB := tb_in 1987 (by decide +kernel) rfl
theorem td_X9_ledger : yX9_ledger.cls ≠ "java/lang/invoke/MethodHandle" ∧ yX9_ledger.cls ≠ "java/lang/invoke/VarHandle" ∧ (parseMethodDescriptor yX9_ledger.desc).map (fun d => d.parameters.length) = some 1 := by decide +kernel
theorem tc_X9_ledger : Cond.code yX9_ledger cX9_ledger 2 (some .int) ∈ TB := tb_in 1246 (by decide +kernel) rfl
theorem tm_RL_203 : Cond.methodLink RL 203 yX9_ledger ∈ TB := tb_in 1243 (by decide +kernel) rfl
theorem ti_X9_ledger : Cond.instanceMethod yX9_ledger ∈ TB := tb_in 1244 (by decide +kernel) rfl
theorem ts_X9_ledger : Cond.selects RX9 yX9_ledger yX9_ledger ∈ TB := tb_in 1245 (by decide +kernel) rfl
theorem td_X10_ledger : yX10_ledger.cls ≠ "java/lang/invoke/MethodHandle" ∧ yX10_ledger.cls ≠ "java/lang/invoke/VarHandle" ∧ (parseMethodDescriptor yX10_ledger.desc).map (fun d => d.parameters.length) = some 1 := by decide +kernel
theorem tc_X10_ledger : Cond.code yX10_ledger cX10_ledger 4 (some .int) ∈ TB := tb_in 1859 (by decide +kernel) rfl
theorem tm_RL_206 : Cond.methodLink RL 206 yX10_ledger ∈ TB := tb_in 1856 (by decide +kernel) rfl
theorem ti_X10_ledger : Cond.instanceMethod yX10_ledger ∈ TB := tb_in 1857 (by decide +kernel) rfl
theorem ts_X10_ledger : Cond.selects RX10 yX10_ledger yX10_ledger ∈ TB := tb_in 1858 (by decide +kernel) rfl
theorem td_X9_image : yX9_image.cls ≠ "java/lang/invoke/MethodHandle" ∧ yX9_image.cls ≠ "java/lang/invoke/VarHandle" ∧ (parseMethodDescriptor yX9_image.desc).map (fun d => d.parameters.length) = some 0 := by decide +kernel
theorem tc_X9_image : Cond.code yX9_image cX9_image 1 (some .int) ∈ TB := tb_in 1255 (by decide +kernel) rfl
theorem tm_RL_207 : Cond.methodLink RL 207 yX9_image ∈ TB := tb_in 1252 (by decide +kernel) rfl
theorem ti_X9_image : Cond.instanceMethod yX9_image ∈ TB := tb_in 1253 (by decide +kernel) rfl
theorem ts_X9_image : Cond.selects RX9 yX9_image yX9_image ∈ TB := tb_in 1254 (by decide +kernel) rfl
theorem td_X10_image : yX10_image.cls ≠ "java/lang/invoke/MethodHandle" ∧ yX10_image.cls ≠ "java/lang/invoke/VarHandle" ∧ (parseMethodDescriptor yX10_image.desc).map (fun d => d.parameters.length) = some 0 := by decide +kernel
theorem tc_X10_image : Cond.code yX10_image cX10_image 1 (some .int) ∈ TB := tb_in 1992 (by decide +kernel) rfl
theorem tm_RL_210 : Cond.methodLink RL 210 yX10_image ∈ TB := tb_in 1989 (by decide +kernel) rfl
theorem ti_X10_image : Cond.instanceMethod yX10_image ∈ TB := tb_in 1990 (by decide +kernel) rfl
theorem ts_X10_image : Cond.selects RX10 yX10_image yX10_image ∈ TB := tb_in 1991 (by decide +kernel) rfl
theorem td_X9_back : yX9_back.cls ≠ "java/lang/invoke/MethodHandle" ∧ yX9_back.cls ≠ "java/lang/invoke/VarHandle" ∧ (parseMethodDescriptor yX9_back.desc).map (fun d => d.parameters.length) = some 0 := by decide +kernel
theorem tc_X9_back : Cond.code yX9_back cX9_back 1 (some .int) ∈ TB := tb_in 1268 (by decide +kernel) rfl
theorem tm_RL_211 : Cond.methodLink RL 211 yX9_back ∈ TB := tb_in 1265 (by decide +kernel) rfl
theorem ti_X9_back : Cond.instanceMethod yX9_back ∈ TB := tb_in 1266 (by decide +kernel) rfl
theorem ts_X9_back : Cond.selects RX9 yX9_back yX9_back ∈ TB := tb_in 1267 (by decide +kernel) rfl
theorem td_X10_back : yX10_back.cls ≠ "java/lang/invoke/MethodHandle" ∧ yX10_back.cls ≠ "java/lang/invoke/VarHandle" ∧ (parseMethodDescriptor yX10_back.desc).map (fun d => d.parameters.length) = some 0 := by decide +kernel
theorem tc_X10_back : Cond.code yX10_back cX10_back 1 (some .int) ∈ TB := tb_in 1996 (by decide +kernel) rfl
theorem tm_RL_214 : Cond.methodLink RL 214 yX10_back ∈ TB := tb_in 1993 (by decide +kernel) rfl
theorem ti_X10_back : Cond.instanceMethod yX10_back ∈ TB := tb_in 1994 (by decide +kernel) rfl
theorem ts_X10_back : Cond.selects RX10 yX10_back yX10_back ∈ TB := tb_in 1995 (by decide +kernel) rfl
theorem td_X9_about : yX9_about.cls ≠ "java/lang/invoke/MethodHandle" ∧ yX9_about.cls ≠ "java/lang/invoke/VarHandle" ∧ (parseMethodDescriptor yX9_about.desc).map (fun d => d.parameters.length) = some 1 := by decide +kernel
theorem tc_X9_about : Cond.code yX9_about cX9_about 2 (some .int) ∈ TB := tb_in 1272 (by decide +kernel) rfl
theorem tm_RL_215 : Cond.methodLink RL 215 yX9_about ∈ TB := tb_in 1269 (by decide +kernel) rfl
theorem ti_X9_about : Cond.instanceMethod yX9_about ∈ TB := tb_in 1270 (by decide +kernel) rfl
theorem ts_X9_about : Cond.selects RX9 yX9_about yX9_about ∈ TB := tb_in 1271 (by decide +kernel) rfl
theorem td_X10_about : yX10_about.cls ≠ "java/lang/invoke/MethodHandle" ∧ yX10_about.cls ≠ "java/lang/invoke/VarHandle" ∧ (parseMethodDescriptor yX10_about.desc).map (fun d => d.parameters.length) = some 1 := by decide +kernel
theorem tc_X10_about : Cond.code yX10_about cX10_about 2 (some .int) ∈ TB := tb_in 2000 (by decide +kernel) rfl
theorem tm_RL_218 : Cond.methodLink RL 218 yX10_about ∈ TB := tb_in 1997 (by decide +kernel) rfl
theorem ti_X10_about : Cond.instanceMethod yX10_about ∈ TB := tb_in 1998 (by decide +kernel) rfl
theorem ts_X10_about : Cond.selects RX10 yX10_about yX10_about ∈ TB := tb_in 1999 (by decide +kernel) rfl
def R_law : String := "ColouredHeapLaw"
def lw_P (b : Addr) (xs : List Int32) (args : Array Value) (s : State) : Prop := args = #[.ref b] ∧ s.IntsAt b xs ∧ xs.length ≤ 3072 ∧ (Jvm.Cond.and given_1 narrow_1).before args s = true
def lw_Q (_ : Array Value) (s : State) (o : Outcome) (t : State) : Prop := o = .returned (some (.int 1)) ∧ Framed s o t [] 600000 7302250
def lw_Z (below : List Frame) (a : Array Value) (s : State) : State → Prop := fun t => ∃ o, t.status = .running ∧ Ended t below o ∧ lw_Q a s o t
/-- the law's own end, with 1 on the stack, nothing written that was there before, its room as the claim has it -/
theorem lw_ret {p : Program} {l : Launch} {e : Env} {s : State} {m : MethodId} {below : List Frame} {meth : Method} {c : Code} {b : Nat} (hx : p.tables.exec = Jvm.exec) (hb : c.code = code) (hr : meth.sig.returnType = ret) (hlocks : meth.locks = false) {pc : Nat} {H : Heap} {ls : Array Slot} (hdg : decode code pc = .ok (.ireturn, 1)) : W p l e room_1 s m #[Value.ref b] below meth c H [] 600000 7302250 (lw_Z below #[Value.ref b] s) (F0 m pc ls [.int 1]) := by
  intro T hT X
  obtain ⟨fs, hret, hrun, hended, hW, hframe⟩ := X.leave (v := some (.int 1)) (hlocks := hlocks) (fun h => by rw [hr] at h; cases h)
  have hmeth' : T.vm.method? m = some meth := X.method'
  refine ⟨T.setFrames fs, ?_, .returned (some (.int 1)), hrun, hended, rfl, ⟨_, rfl⟩, hW, hframe⟩
  jvm_step X.here [X.here.top, hx, hb, hdg, hmeth', hr, ret, narrow_b1]
  (try refine ⟨rfl, ?_⟩); (try refine ⟨rfl, ?_⟩)
  first | (intro acts; rw [hret _ acts rfl rfl rfl]) | rw [hret _ _ rfl rfl rfl]
  exact Steps.refl _
/-- what holds at the law's entry: the machine, the code, the tables' words (any of lw_tbl by 'hts w (by decide +kernel)'), the script of L ints xs at the cell b, what the Statement gives of the start (any of its parts by flat_of_before) -/
def lw_At (p : Program) (s : State) (m : MethodId) (meth : Method) (c : Code) (b L : Nat) (xs : Nat → Int32) : Prop :=
  p.tables.exec = Jvm.exec ∧ c.code = code ∧ meth.sig.returnType = ret ∧ c.maxLocals = 4 ∧ s.vm.findClass R_law = some m.cls ∧ (∀ w ∈ lw_tbl, w.before #[Value.ref b] s = true) ∧ va_X b L xs s s.heap ∧ b < s.heap.size ∧ meth.locks = false ∧ (Jvm.Cond.and given_1 narrow_1).before #[Value.ref b] s = true
/-! two worlds side by side, in the law -/
def lM (E : xE) (b1 N1 : Nat) (cf1 : Nat → va_E) (b2 N2 : Nat) (cf2 : Nat → va_E) (H0 H : Heap) (locs : List Loc) : Prop :=
  va_P E.1 vwCl (xw b1 N1 cf1) H ∧ va_P E.1 vwCl (xw b2 N2 cf2) H ∧ va_S (fun q => H0.size ≤ q) H0 H locs ∧ H0.size ≤ b1 ∧ H0.size ≤ b2 ∧ ∀ q, xA b1 N1 q → ¬ xA b2 N2 q
theorem lM.sw {E : xE} {b1 N1 b2 N2 : Nat} {cf1 cf2 : Nat → va_E} {H0 H : Heap} {locs : List Loc} (h : lM E b1 N1 cf1 b2 N2 cf2 H0 H locs) : lM E b2 N2 cf2 b1 N1 cf1 H0 H locs := ⟨h.2.1, h.1, h.2.2.1, h.2.2.2.2.1, h.2.2.2.1, fun q a b => h.2.2.2.2.2 q b a⟩
section XLW
variable {p : Program} {l : Launch} {e : Env} {R : Room} {s : State} {m : MethodId} {args : Array Value} {below : List Frame} {meth : Method} {c : Code} {H : Heap} {locs : List Loc} {cs sl : Nat} {Q : State → Prop}
variable {cc : ByteArray} {nL pc b0 b1 N1 b2 N2 k : Nat} {own : String} {ret : Option FieldType} {E : xE} {ls : Array Slot} {rest : List Value} {cf1 cf1' cf2 : Nat → va_E}
theorem l_run {r : Int32} {P : Prop} {a : Array Value} {g : JFrame} (hm : lM E b1 N1 cf1 b2 N2 cf2 s.heap H locs) (hr : va_Run p l e R s m args below meth c H locs cs sl 0 0 g rest (xQ E b1 N1 (some (.int r)) P cf1' a) (xA b1 N1))
    (kk : ∀ (H1 : Heap) (locs1 : List Loc), lM E b1 N1 cf1' b2 N2 cf2 s.heap H1 locs1 → W p l e R s m args below meth c H1 locs1 cs sl Q { g with pc := g.pc + 3, stack := .int r :: rest }) : W p l e R s m args below meth c H locs cs sl Q g := by
  intro T hT X
  obtain ⟨v, st₀, t, T', L, h0, X', hL, e1, e2, ⟨hv, hP, ⟨hp, hk, -⟩, hF⟩, st⟩ := hr T hT X
  cases hv
  obtain ⟨h1, h2, hS, ha, hb, hd⟩ := hm
  have hsub : ∀ q, xA b1 N1 q → s.heap.size ≤ q := fun q h => Nat.le_trans ha h.1
  have hP2 : va_P E.1 vwCl (xw b2 N2 cf2) T'.heap := by
    rw [e1]
    refine h2.kept (fun k q hq => ?_)
    obtain ⟨hk1, rfl⟩ := xw_of hq
    have hlt : b2 + k < H.size := (h2 k _ hq).lt
    show t.heap[b2 + k]? = H[b2 + k]?
    rw [hF.2 (b2 + k) (by rw [h0]; exact hlt) (fun z => hd _ z ⟨Nat.le_add_right _ _, Nat.add_lt_add_left hk1 _⟩), h0]
  obtain ⟨t2, a1, b1'⟩ := kk T'.heap (locs ++ L) ⟨by rw [e1]; exact hp, hP2, ⟨Nat.le_trans hS.1 (by rw [e1, ← h0]; exact hF.1), fun q g1 g2 => by rw [e1, hF.2 q (by rw [h0]; exact Nat.lt_of_lt_of_le g1 hS.1) (fun z => g2 (hsub q z)), h0]; exact hS.2.1 q g1 g2, fun q hq => by
      rcases List.mem_append.mp hq with h | h
      · exact hS.2.2 q h
      · exact hsub _ (hL q h)⟩, ha, hb, hd⟩ T' rfl X'
  exact ⟨t2, st t2 a1, b1'⟩
theorem l_callV {y : MethodName} {bytes : ByteArray} {maxL n index : Nat} {rt : Option FieldType} {rm : Room} {As : List Value} {r : Int32} {P : Prop} {st0 : List Value} (C : xC p s m args meth c cc nL own ret E b0) (hb0 : b0 ≤ b1) (hm : lM E b1 N1 cf1 b2 N2 cf2 s.heap H locs) (hM : xMet l E b1 N1 y bytes maxL rt rm (.ref (b1 + k) :: As) cf1 (some (.int r)) P cf1') {ci : Nat} {fs : List Value} {Cn : String} {T : u_T} {nf : Nat} (hcl : vwCl[ci]? = some (Cn, T, nf)) (hc : xat N1 cf1 k (.inr (ci, fs))) (hcode : Cond.code y bytes maxL rt ∈ TB) (hlk : Cond.methodLink own index y ∈ TB) (hst : Cond.instanceMethod y ∈ TB) (hse : Cond.selects Cn y y ∈ TB) (hini : Cond.initialized y.cls ∈ TB)
    (hd : y.cls ≠ "java/lang/invoke/MethodHandle" ∧ y.cls ≠ "java/lang/invoke/VarHandle" ∧ (parseMethodDescriptor y.desc).map (fun d => d.parameters.length) = some n) (hrc : rm.cells = 0) (hrs : rm.slots = 0) (hR : rm.frames + 1 ≤ R.frames ∧ 8 + (maxL + 11) + rm.locals ≤ R.locals) (hn : As.length = n) (hsz : ls.size = nL) (hst0 : st0 = As.reverse ++ .ref (b1 + k) :: rest) (hW : (rest.map fun v => v.category).sum ≤ 8) (hcs : cs ≤ R.cells ∧ sl ≤ R.slots) (hdg : decode cc pc = .ok (.invokevirtual index, 3))
    (kk : ∀ (H1 : Heap) (locs1 : List Loc), lM E b1 N1 cf1' b2 N2 cf2 s.heap H1 locs1 → W p l e R s m args below meth c H1 locs1 cs sl Q (F0 m (pc + 3) ls (.int r :: rest))) : W p l e R s m args below meth c H locs cs sl Q (F0 m pc ls st0) := by
  refine l_run (g := F0 m pc ls st0) (rest := rest) (a := (Value.ref (b1 + k) :: As).toArray) hm (va_runV (As := As) (rest := rest) (C := Cn) C.1 hM ⟨callB_of n C.1.2.2.2.2 (tb_GI hcode) rfl hrc hrs (C.1.2.2.2.2 _ hini) (C.1.2.2.2.2 _ hlk) hd hR, C.1.2.2.2.2 _ hst, C.1.2.2.2.2 _ hse⟩ ⟨x_blind, va_recv C.2.1 hm.1 (ci := ci) (q0 := k) hcl hc.g, fun U hU hW => ⟨rfl, by rw [hU]; exact hm.1, va_K.moved hW.alike C.2.1, xN.warm hW C.2.2.2.2.1, ?_⟩⟩ rfl hn hsz hst0 (lv_room hW) hdg hcs) kk
  rw [hU]
  exact ((C.2.2.2.2.2.nar hb0).kept (fun q h1 h2 => hm.2.2.1.2.1 q h1 (fun z => absurd z (Nat.not_le.mpr h1)))).warm hW
end XLW
theorem law_cond {L t : Nat} (hL : L ≤ 3072) (ht : 6 * t ≤ 3072 + 6) : (nI L - 6 < nI (6 * t)) ↔ L < 6 * t + 6 := by
  have h6 : (6 : Int32) = nI 6 := rfl
  rw [h6, Int32.lt_iff_toInt_lt, pk_sub_toInt (by omega) (by omega), nI_toInt (by omega)]
  omega

theorem dL_law_0 : decode cL_law 0 = .ok (.new 7, 3) := by decide +kernel
theorem dL_law_3 : decode cL_law 3 = .ok (.dup, 1) := by decide +kernel
theorem dL_law_4 : decode cL_law 4 = .ok (.invokespecial 9, 3) := by decide +kernel
theorem dL_law_7 : decode cL_law 7 = .ok (.astore_n 1, 1) := by decide +kernel
theorem dL_law_8 : decode cL_law 8 = .ok (.new 10, 3) := by decide +kernel
theorem dL_law_11 : decode cL_law 11 = .ok (.dup, 1) := by decide +kernel
theorem dL_law_12 : decode cL_law 12 = .ok (.invokespecial 12, 3) := by decide +kernel
theorem dL_law_15 : decode cL_law 15 = .ok (.astore_n 2, 1) := by decide +kernel
theorem dL_law_16 : decode cL_law 16 = .ok (.iconst 0, 1) := by decide +kernel
theorem dL_law_17 : decode cL_law 17 = .ok (.istore_n 3, 1) := by decide +kernel
theorem dL_law_18 : decode cL_law 18 = .ok (.iload_n 3, 1) := by decide +kernel
theorem dL_law_19 : decode cL_law 19 = .ok (.aload_n 0, 1) := by decide +kernel
theorem dL_law_20 : decode cL_law 20 = .ok (.arraylength, 1) := by decide +kernel
theorem dL_law_21 : decode cL_law 21 = .ok (.bipush 6, 2) := by decide +kernel
theorem dL_law_23 : decode cL_law 23 = .ok (.isub, 1) := by decide +kernel
theorem dL_law_24 : decode cL_law 24 = .ok (.if_icmp .gt 1429, 3) := by decide +kernel
theorem dL_law_27 : decode cL_law 27 = .ok (.aload_n 0, 1) := by decide +kernel
theorem dL_law_28 : decode cL_law 28 = .ok (.iload_n 3, 1) := by decide +kernel
theorem dL_law_29 : decode cL_law 29 = .ok (.iaload, 1) := by decide +kernel
theorem dL_law_30 : decode cL_law 30 = .ok (.bipush 63, 2) := by decide +kernel
theorem dL_law_32 : decode cL_law 32 = .ok (.iand, 1) := by decide +kernel
theorem dL_law_33 : decode cL_law 33 = .ok (.tableswitch 1414 0 48 #[211, 274, 297, 310, 333, 356, 389, 432, 475, 498, 531, 574, 607, 620, 633, 656, 679, 712, 725, 748, 771, 794, 827, 850, 873, 906, 939, 962, 985, 1008, 1047, 1060, 1073, 1086, 1109, 1132, 1145, 1158, 1171, 1184, 1207, 1240, 1273, 1296, 1329, 1342, 1365, 1378, 1391], 211) := by decide +kernel
theorem dL_law_244 : decode cL_law 244 = .ok (.aload_n 1, 1) := by decide +kernel
theorem dL_law_245 : decode cL_law 245 = .ok (.aload_n 0, 1) := by decide +kernel
theorem dL_law_246 : decode cL_law 246 = .ok (.iload_n 3, 1) := by decide +kernel
theorem dL_law_247 : decode cL_law 247 = .ok (.iconst 1, 1) := by decide +kernel
theorem dL_law_248 : decode cL_law 248 = .ok (.iadd, 1) := by decide +kernel
theorem dL_law_249 : decode cL_law 249 = .ok (.iaload, 1) := by decide +kernel
theorem dL_law_250 : decode cL_law 250 = .ok (.aload_n 0, 1) := by decide +kernel
theorem dL_law_251 : decode cL_law 251 = .ok (.iload_n 3, 1) := by decide +kernel
theorem dL_law_252 : decode cL_law 252 = .ok (.iconst 2, 1) := by decide +kernel
theorem dL_law_253 : decode cL_law 253 = .ok (.iadd, 1) := by decide +kernel
theorem dL_law_254 : decode cL_law 254 = .ok (.iaload, 1) := by decide +kernel
theorem dL_law_255 : decode cL_law 255 = .ok (.aload_n 0, 1) := by decide +kernel
theorem dL_law_256 : decode cL_law 256 = .ok (.iload_n 3, 1) := by decide +kernel
theorem dL_law_257 : decode cL_law 257 = .ok (.iconst 3, 1) := by decide +kernel
theorem dL_law_258 : decode cL_law 258 = .ok (.iadd, 1) := by decide +kernel
theorem dL_law_259 : decode cL_law 259 = .ok (.iaload, 1) := by decide +kernel
theorem dL_law_260 : decode cL_law 260 = .ok (.aload_n 0, 1) := by decide +kernel
theorem dL_law_261 : decode cL_law 261 = .ok (.iload_n 3, 1) := by decide +kernel
theorem dL_law_262 : decode cL_law 262 = .ok (.iconst 4, 1) := by decide +kernel
theorem dL_law_263 : decode cL_law 263 = .ok (.iadd, 1) := by decide +kernel
theorem dL_law_264 : decode cL_law 264 = .ok (.iaload, 1) := by decide +kernel
theorem dL_law_265 : decode cL_law 265 = .ok (.aload_n 0, 1) := by decide +kernel
theorem dL_law_266 : decode cL_law 266 = .ok (.iload_n 3, 1) := by decide +kernel
theorem dL_law_267 : decode cL_law 267 = .ok (.iconst 5, 1) := by decide +kernel
theorem dL_law_268 : decode cL_law 268 = .ok (.iadd, 1) := by decide +kernel
theorem dL_law_269 : decode cL_law 269 = .ok (.iaload, 1) := by decide +kernel
theorem dL_law_270 : decode cL_law 270 = .ok (.invokevirtual 13, 3) := by decide +kernel
theorem dL_law_273 : decode cL_law 273 = .ok (.aload_n 2, 1) := by decide +kernel
theorem dL_law_274 : decode cL_law 274 = .ok (.aload_n 0, 1) := by decide +kernel
theorem dL_law_275 : decode cL_law 275 = .ok (.iload_n 3, 1) := by decide +kernel
theorem dL_law_276 : decode cL_law 276 = .ok (.iconst 1, 1) := by decide +kernel
theorem dL_law_277 : decode cL_law 277 = .ok (.iadd, 1) := by decide +kernel
theorem dL_law_278 : decode cL_law 278 = .ok (.iaload, 1) := by decide +kernel
theorem dL_law_279 : decode cL_law 279 = .ok (.aload_n 0, 1) := by decide +kernel
theorem dL_law_280 : decode cL_law 280 = .ok (.iload_n 3, 1) := by decide +kernel
theorem dL_law_281 : decode cL_law 281 = .ok (.iconst 2, 1) := by decide +kernel
theorem dL_law_282 : decode cL_law 282 = .ok (.iadd, 1) := by decide +kernel
theorem dL_law_283 : decode cL_law 283 = .ok (.iaload, 1) := by decide +kernel
theorem dL_law_284 : decode cL_law 284 = .ok (.aload_n 0, 1) := by decide +kernel
theorem dL_law_285 : decode cL_law 285 = .ok (.iload_n 3, 1) := by decide +kernel
theorem dL_law_286 : decode cL_law 286 = .ok (.iconst 3, 1) := by decide +kernel
theorem dL_law_287 : decode cL_law 287 = .ok (.iadd, 1) := by decide +kernel
theorem dL_law_288 : decode cL_law 288 = .ok (.iaload, 1) := by decide +kernel
theorem dL_law_289 : decode cL_law 289 = .ok (.aload_n 0, 1) := by decide +kernel
theorem dL_law_290 : decode cL_law 290 = .ok (.iload_n 3, 1) := by decide +kernel
theorem dL_law_291 : decode cL_law 291 = .ok (.iconst 4, 1) := by decide +kernel
theorem dL_law_292 : decode cL_law 292 = .ok (.iadd, 1) := by decide +kernel
theorem dL_law_293 : decode cL_law 293 = .ok (.iaload, 1) := by decide +kernel
theorem dL_law_294 : decode cL_law 294 = .ok (.aload_n 0, 1) := by decide +kernel
theorem dL_law_295 : decode cL_law 295 = .ok (.iload_n 3, 1) := by decide +kernel
theorem dL_law_296 : decode cL_law 296 = .ok (.iconst 5, 1) := by decide +kernel
theorem dL_law_297 : decode cL_law 297 = .ok (.iadd, 1) := by decide +kernel
theorem dL_law_298 : decode cL_law 298 = .ok (.iaload, 1) := by decide +kernel
theorem dL_law_299 : decode cL_law 299 = .ok (.invokevirtual 17, 3) := by decide +kernel
theorem dL_law_302 : decode cL_law 302 = .ok (.if_icmp .eq 1145, 3) := by decide +kernel
theorem dL_law_305 : decode cL_law 305 = .ok (.iconst 0, 1) := by decide +kernel
theorem dL_law_306 : decode cL_law 306 = .ok (.ireturn, 1) := by decide +kernel
theorem dL_law_307 : decode cL_law 307 = .ok (.aload_n 1, 1) := by decide +kernel
theorem dL_law_308 : decode cL_law 308 = .ok (.aload_n 0, 1) := by decide +kernel
theorem dL_law_309 : decode cL_law 309 = .ok (.iload_n 3, 1) := by decide +kernel
theorem dL_law_310 : decode cL_law 310 = .ok (.iconst 1, 1) := by decide +kernel
theorem dL_law_311 : decode cL_law 311 = .ok (.iadd, 1) := by decide +kernel
theorem dL_law_312 : decode cL_law 312 = .ok (.iaload, 1) := by decide +kernel
theorem dL_law_313 : decode cL_law 313 = .ok (.invokevirtual 18, 3) := by decide +kernel
theorem dL_law_316 : decode cL_law 316 = .ok (.aload_n 2, 1) := by decide +kernel
theorem dL_law_317 : decode cL_law 317 = .ok (.aload_n 0, 1) := by decide +kernel
theorem dL_law_318 : decode cL_law 318 = .ok (.iload_n 3, 1) := by decide +kernel
theorem dL_law_319 : decode cL_law 319 = .ok (.iconst 1, 1) := by decide +kernel
theorem dL_law_320 : decode cL_law 320 = .ok (.iadd, 1) := by decide +kernel
theorem dL_law_321 : decode cL_law 321 = .ok (.iaload, 1) := by decide +kernel
theorem dL_law_322 : decode cL_law 322 = .ok (.invokevirtual 22, 3) := by decide +kernel
theorem dL_law_325 : decode cL_law 325 = .ok (.if_icmp .eq 1122, 3) := by decide +kernel
theorem dL_law_328 : decode cL_law 328 = .ok (.iconst 0, 1) := by decide +kernel
theorem dL_law_329 : decode cL_law 329 = .ok (.ireturn, 1) := by decide +kernel
theorem dL_law_330 : decode cL_law 330 = .ok (.aload_n 1, 1) := by decide +kernel
theorem dL_law_331 : decode cL_law 331 = .ok (.invokevirtual 23, 3) := by decide +kernel
theorem dL_law_334 : decode cL_law 334 = .ok (.aload_n 2, 1) := by decide +kernel
theorem dL_law_335 : decode cL_law 335 = .ok (.invokevirtual 27, 3) := by decide +kernel
theorem dL_law_338 : decode cL_law 338 = .ok (.if_icmp .eq 1109, 3) := by decide +kernel
theorem dL_law_341 : decode cL_law 341 = .ok (.iconst 0, 1) := by decide +kernel
theorem dL_law_342 : decode cL_law 342 = .ok (.ireturn, 1) := by decide +kernel
theorem dL_law_343 : decode cL_law 343 = .ok (.aload_n 1, 1) := by decide +kernel
theorem dL_law_344 : decode cL_law 344 = .ok (.aload_n 0, 1) := by decide +kernel
theorem dL_law_345 : decode cL_law 345 = .ok (.iload_n 3, 1) := by decide +kernel
theorem dL_law_346 : decode cL_law 346 = .ok (.iconst 1, 1) := by decide +kernel
theorem dL_law_347 : decode cL_law 347 = .ok (.iadd, 1) := by decide +kernel
theorem dL_law_348 : decode cL_law 348 = .ok (.iaload, 1) := by decide +kernel
theorem dL_law_349 : decode cL_law 349 = .ok (.invokevirtual 28, 3) := by decide +kernel
theorem dL_law_352 : decode cL_law 352 = .ok (.aload_n 2, 1) := by decide +kernel
theorem dL_law_353 : decode cL_law 353 = .ok (.aload_n 0, 1) := by decide +kernel
theorem dL_law_354 : decode cL_law 354 = .ok (.iload_n 3, 1) := by decide +kernel
theorem dL_law_355 : decode cL_law 355 = .ok (.iconst 1, 1) := by decide +kernel
theorem dL_law_356 : decode cL_law 356 = .ok (.iadd, 1) := by decide +kernel
theorem dL_law_357 : decode cL_law 357 = .ok (.iaload, 1) := by decide +kernel
theorem dL_law_358 : decode cL_law 358 = .ok (.invokevirtual 31, 3) := by decide +kernel
theorem dL_law_361 : decode cL_law 361 = .ok (.if_icmp .eq 1086, 3) := by decide +kernel
theorem dL_law_364 : decode cL_law 364 = .ok (.iconst 0, 1) := by decide +kernel
theorem dL_law_365 : decode cL_law 365 = .ok (.ireturn, 1) := by decide +kernel
theorem dL_law_366 : decode cL_law 366 = .ok (.aload_n 1, 1) := by decide +kernel
theorem dL_law_367 : decode cL_law 367 = .ok (.aload_n 0, 1) := by decide +kernel
theorem dL_law_368 : decode cL_law 368 = .ok (.iload_n 3, 1) := by decide +kernel
theorem dL_law_369 : decode cL_law 369 = .ok (.iconst 1, 1) := by decide +kernel
theorem dL_law_370 : decode cL_law 370 = .ok (.iadd, 1) := by decide +kernel
theorem dL_law_371 : decode cL_law 371 = .ok (.iaload, 1) := by decide +kernel
theorem dL_law_372 : decode cL_law 372 = .ok (.invokevirtual 32, 3) := by decide +kernel
theorem dL_law_375 : decode cL_law 375 = .ok (.aload_n 2, 1) := by decide +kernel
theorem dL_law_376 : decode cL_law 376 = .ok (.aload_n 0, 1) := by decide +kernel
theorem dL_law_377 : decode cL_law 377 = .ok (.iload_n 3, 1) := by decide +kernel
theorem dL_law_378 : decode cL_law 378 = .ok (.iconst 1, 1) := by decide +kernel
theorem dL_law_379 : decode cL_law 379 = .ok (.iadd, 1) := by decide +kernel
theorem dL_law_380 : decode cL_law 380 = .ok (.iaload, 1) := by decide +kernel
theorem dL_law_381 : decode cL_law 381 = .ok (.invokevirtual 36, 3) := by decide +kernel
theorem dL_law_384 : decode cL_law 384 = .ok (.if_icmp .eq 1063, 3) := by decide +kernel
theorem dL_law_387 : decode cL_law 387 = .ok (.iconst 0, 1) := by decide +kernel
theorem dL_law_388 : decode cL_law 388 = .ok (.ireturn, 1) := by decide +kernel
theorem dL_law_389 : decode cL_law 389 = .ok (.aload_n 1, 1) := by decide +kernel
theorem dL_law_390 : decode cL_law 390 = .ok (.aload_n 0, 1) := by decide +kernel
theorem dL_law_391 : decode cL_law 391 = .ok (.iload_n 3, 1) := by decide +kernel
theorem dL_law_392 : decode cL_law 392 = .ok (.iconst 1, 1) := by decide +kernel
theorem dL_law_393 : decode cL_law 393 = .ok (.iadd, 1) := by decide +kernel
theorem dL_law_394 : decode cL_law 394 = .ok (.iaload, 1) := by decide +kernel
theorem dL_law_395 : decode cL_law 395 = .ok (.aload_n 0, 1) := by decide +kernel
theorem dL_law_396 : decode cL_law 396 = .ok (.iload_n 3, 1) := by decide +kernel
theorem dL_law_397 : decode cL_law 397 = .ok (.iconst 2, 1) := by decide +kernel
theorem dL_law_398 : decode cL_law 398 = .ok (.iadd, 1) := by decide +kernel
theorem dL_law_399 : decode cL_law 399 = .ok (.iaload, 1) := by decide +kernel
theorem dL_law_400 : decode cL_law 400 = .ok (.invokevirtual 37, 3) := by decide +kernel
theorem dL_law_403 : decode cL_law 403 = .ok (.aload_n 2, 1) := by decide +kernel
theorem dL_law_404 : decode cL_law 404 = .ok (.aload_n 0, 1) := by decide +kernel
theorem dL_law_405 : decode cL_law 405 = .ok (.iload_n 3, 1) := by decide +kernel
theorem dL_law_406 : decode cL_law 406 = .ok (.iconst 1, 1) := by decide +kernel
theorem dL_law_407 : decode cL_law 407 = .ok (.iadd, 1) := by decide +kernel
theorem dL_law_408 : decode cL_law 408 = .ok (.iaload, 1) := by decide +kernel
theorem dL_law_409 : decode cL_law 409 = .ok (.aload_n 0, 1) := by decide +kernel
theorem dL_law_410 : decode cL_law 410 = .ok (.iload_n 3, 1) := by decide +kernel
theorem dL_law_411 : decode cL_law 411 = .ok (.iconst 2, 1) := by decide +kernel
theorem dL_law_412 : decode cL_law 412 = .ok (.iadd, 1) := by decide +kernel
theorem dL_law_413 : decode cL_law 413 = .ok (.iaload, 1) := by decide +kernel
theorem dL_law_414 : decode cL_law 414 = .ok (.invokevirtual 41, 3) := by decide +kernel
theorem dL_law_417 : decode cL_law 417 = .ok (.if_icmp .eq 1030, 3) := by decide +kernel
theorem dL_law_420 : decode cL_law 420 = .ok (.iconst 0, 1) := by decide +kernel
theorem dL_law_421 : decode cL_law 421 = .ok (.ireturn, 1) := by decide +kernel
theorem dL_law_422 : decode cL_law 422 = .ok (.aload_n 1, 1) := by decide +kernel
theorem dL_law_423 : decode cL_law 423 = .ok (.aload_n 0, 1) := by decide +kernel
theorem dL_law_424 : decode cL_law 424 = .ok (.iload_n 3, 1) := by decide +kernel
theorem dL_law_425 : decode cL_law 425 = .ok (.iconst 1, 1) := by decide +kernel
theorem dL_law_426 : decode cL_law 426 = .ok (.iadd, 1) := by decide +kernel
theorem dL_law_427 : decode cL_law 427 = .ok (.iaload, 1) := by decide +kernel
theorem dL_law_428 : decode cL_law 428 = .ok (.aload_n 0, 1) := by decide +kernel
theorem dL_law_429 : decode cL_law 429 = .ok (.iload_n 3, 1) := by decide +kernel
theorem dL_law_430 : decode cL_law 430 = .ok (.iconst 2, 1) := by decide +kernel
theorem dL_law_431 : decode cL_law 431 = .ok (.iadd, 1) := by decide +kernel
theorem dL_law_432 : decode cL_law 432 = .ok (.iaload, 1) := by decide +kernel
theorem dL_law_433 : decode cL_law 433 = .ok (.aload_n 0, 1) := by decide +kernel
theorem dL_law_434 : decode cL_law 434 = .ok (.iload_n 3, 1) := by decide +kernel
theorem dL_law_435 : decode cL_law 435 = .ok (.iconst 3, 1) := by decide +kernel
theorem dL_law_436 : decode cL_law 436 = .ok (.iadd, 1) := by decide +kernel
theorem dL_law_437 : decode cL_law 437 = .ok (.iaload, 1) := by decide +kernel
theorem dL_law_438 : decode cL_law 438 = .ok (.invokevirtual 42, 3) := by decide +kernel
theorem dL_law_441 : decode cL_law 441 = .ok (.aload_n 2, 1) := by decide +kernel
theorem dL_law_442 : decode cL_law 442 = .ok (.aload_n 0, 1) := by decide +kernel
theorem dL_law_443 : decode cL_law 443 = .ok (.iload_n 3, 1) := by decide +kernel
theorem dL_law_444 : decode cL_law 444 = .ok (.iconst 1, 1) := by decide +kernel
theorem dL_law_445 : decode cL_law 445 = .ok (.iadd, 1) := by decide +kernel
theorem dL_law_446 : decode cL_law 446 = .ok (.iaload, 1) := by decide +kernel
theorem dL_law_447 : decode cL_law 447 = .ok (.aload_n 0, 1) := by decide +kernel
theorem dL_law_448 : decode cL_law 448 = .ok (.iload_n 3, 1) := by decide +kernel
theorem dL_law_449 : decode cL_law 449 = .ok (.iconst 2, 1) := by decide +kernel
theorem dL_law_450 : decode cL_law 450 = .ok (.iadd, 1) := by decide +kernel
theorem dL_law_451 : decode cL_law 451 = .ok (.iaload, 1) := by decide +kernel
theorem dL_law_452 : decode cL_law 452 = .ok (.aload_n 0, 1) := by decide +kernel
theorem dL_law_453 : decode cL_law 453 = .ok (.iload_n 3, 1) := by decide +kernel
theorem dL_law_454 : decode cL_law 454 = .ok (.iconst 3, 1) := by decide +kernel
theorem dL_law_455 : decode cL_law 455 = .ok (.iadd, 1) := by decide +kernel
theorem dL_law_456 : decode cL_law 456 = .ok (.iaload, 1) := by decide +kernel
theorem dL_law_457 : decode cL_law 457 = .ok (.invokevirtual 46, 3) := by decide +kernel
theorem dL_law_460 : decode cL_law 460 = .ok (.if_icmp .eq 987, 3) := by decide +kernel
theorem dL_law_463 : decode cL_law 463 = .ok (.iconst 0, 1) := by decide +kernel
theorem dL_law_464 : decode cL_law 464 = .ok (.ireturn, 1) := by decide +kernel
theorem dL_law_465 : decode cL_law 465 = .ok (.aload_n 1, 1) := by decide +kernel
theorem dL_law_466 : decode cL_law 466 = .ok (.aload_n 0, 1) := by decide +kernel
theorem dL_law_467 : decode cL_law 467 = .ok (.iload_n 3, 1) := by decide +kernel
theorem dL_law_468 : decode cL_law 468 = .ok (.iconst 1, 1) := by decide +kernel
theorem dL_law_469 : decode cL_law 469 = .ok (.iadd, 1) := by decide +kernel
theorem dL_law_470 : decode cL_law 470 = .ok (.iaload, 1) := by decide +kernel
theorem dL_law_471 : decode cL_law 471 = .ok (.aload_n 0, 1) := by decide +kernel
theorem dL_law_472 : decode cL_law 472 = .ok (.iload_n 3, 1) := by decide +kernel
theorem dL_law_473 : decode cL_law 473 = .ok (.iconst 2, 1) := by decide +kernel
theorem dL_law_474 : decode cL_law 474 = .ok (.iadd, 1) := by decide +kernel
theorem dL_law_475 : decode cL_law 475 = .ok (.iaload, 1) := by decide +kernel
theorem dL_law_476 : decode cL_law 476 = .ok (.aload_n 0, 1) := by decide +kernel
theorem dL_law_477 : decode cL_law 477 = .ok (.iload_n 3, 1) := by decide +kernel
theorem dL_law_478 : decode cL_law 478 = .ok (.iconst 3, 1) := by decide +kernel
theorem dL_law_479 : decode cL_law 479 = .ok (.iadd, 1) := by decide +kernel
theorem dL_law_480 : decode cL_law 480 = .ok (.iaload, 1) := by decide +kernel
theorem dL_law_481 : decode cL_law 481 = .ok (.invokevirtual 47, 3) := by decide +kernel
theorem dL_law_484 : decode cL_law 484 = .ok (.aload_n 2, 1) := by decide +kernel
theorem dL_law_485 : decode cL_law 485 = .ok (.aload_n 0, 1) := by decide +kernel
theorem dL_law_486 : decode cL_law 486 = .ok (.iload_n 3, 1) := by decide +kernel
theorem dL_law_487 : decode cL_law 487 = .ok (.iconst 1, 1) := by decide +kernel
theorem dL_law_488 : decode cL_law 488 = .ok (.iadd, 1) := by decide +kernel
theorem dL_law_489 : decode cL_law 489 = .ok (.iaload, 1) := by decide +kernel
theorem dL_law_490 : decode cL_law 490 = .ok (.aload_n 0, 1) := by decide +kernel
theorem dL_law_491 : decode cL_law 491 = .ok (.iload_n 3, 1) := by decide +kernel
theorem dL_law_492 : decode cL_law 492 = .ok (.iconst 2, 1) := by decide +kernel
theorem dL_law_493 : decode cL_law 493 = .ok (.iadd, 1) := by decide +kernel
theorem dL_law_494 : decode cL_law 494 = .ok (.iaload, 1) := by decide +kernel
theorem dL_law_495 : decode cL_law 495 = .ok (.aload_n 0, 1) := by decide +kernel
theorem dL_law_496 : decode cL_law 496 = .ok (.iload_n 3, 1) := by decide +kernel
theorem dL_law_497 : decode cL_law 497 = .ok (.iconst 3, 1) := by decide +kernel
theorem dL_law_498 : decode cL_law 498 = .ok (.iadd, 1) := by decide +kernel
theorem dL_law_499 : decode cL_law 499 = .ok (.iaload, 1) := by decide +kernel
theorem dL_law_500 : decode cL_law 500 = .ok (.invokevirtual 51, 3) := by decide +kernel
theorem dL_law_503 : decode cL_law 503 = .ok (.if_icmp .eq 944, 3) := by decide +kernel
theorem dL_law_506 : decode cL_law 506 = .ok (.iconst 0, 1) := by decide +kernel
theorem dL_law_507 : decode cL_law 507 = .ok (.ireturn, 1) := by decide +kernel
theorem dL_law_508 : decode cL_law 508 = .ok (.aload_n 1, 1) := by decide +kernel
theorem dL_law_509 : decode cL_law 509 = .ok (.aload_n 0, 1) := by decide +kernel
theorem dL_law_510 : decode cL_law 510 = .ok (.iload_n 3, 1) := by decide +kernel
theorem dL_law_511 : decode cL_law 511 = .ok (.iconst 1, 1) := by decide +kernel
theorem dL_law_512 : decode cL_law 512 = .ok (.iadd, 1) := by decide +kernel
theorem dL_law_513 : decode cL_law 513 = .ok (.iaload, 1) := by decide +kernel
theorem dL_law_514 : decode cL_law 514 = .ok (.invokevirtual 52, 3) := by decide +kernel
theorem dL_law_517 : decode cL_law 517 = .ok (.aload_n 2, 1) := by decide +kernel
theorem dL_law_518 : decode cL_law 518 = .ok (.aload_n 0, 1) := by decide +kernel
theorem dL_law_519 : decode cL_law 519 = .ok (.iload_n 3, 1) := by decide +kernel
theorem dL_law_520 : decode cL_law 520 = .ok (.iconst 1, 1) := by decide +kernel
theorem dL_law_521 : decode cL_law 521 = .ok (.iadd, 1) := by decide +kernel
theorem dL_law_522 : decode cL_law 522 = .ok (.iaload, 1) := by decide +kernel
theorem dL_law_523 : decode cL_law 523 = .ok (.invokevirtual 55, 3) := by decide +kernel
theorem dL_law_526 : decode cL_law 526 = .ok (.if_icmp .eq 921, 3) := by decide +kernel
theorem dL_law_529 : decode cL_law 529 = .ok (.iconst 0, 1) := by decide +kernel
theorem dL_law_530 : decode cL_law 530 = .ok (.ireturn, 1) := by decide +kernel
theorem dL_law_531 : decode cL_law 531 = .ok (.aload_n 1, 1) := by decide +kernel
theorem dL_law_532 : decode cL_law 532 = .ok (.aload_n 0, 1) := by decide +kernel
theorem dL_law_533 : decode cL_law 533 = .ok (.iload_n 3, 1) := by decide +kernel
theorem dL_law_534 : decode cL_law 534 = .ok (.iconst 1, 1) := by decide +kernel
theorem dL_law_535 : decode cL_law 535 = .ok (.iadd, 1) := by decide +kernel
theorem dL_law_536 : decode cL_law 536 = .ok (.iaload, 1) := by decide +kernel
theorem dL_law_537 : decode cL_law 537 = .ok (.aload_n 0, 1) := by decide +kernel
theorem dL_law_538 : decode cL_law 538 = .ok (.iload_n 3, 1) := by decide +kernel
theorem dL_law_539 : decode cL_law 539 = .ok (.iconst 2, 1) := by decide +kernel
theorem dL_law_540 : decode cL_law 540 = .ok (.iadd, 1) := by decide +kernel
theorem dL_law_541 : decode cL_law 541 = .ok (.iaload, 1) := by decide +kernel
theorem dL_law_542 : decode cL_law 542 = .ok (.invokevirtual 56, 3) := by decide +kernel
theorem dL_law_545 : decode cL_law 545 = .ok (.aload_n 2, 1) := by decide +kernel
theorem dL_law_546 : decode cL_law 546 = .ok (.aload_n 0, 1) := by decide +kernel
theorem dL_law_547 : decode cL_law 547 = .ok (.iload_n 3, 1) := by decide +kernel
theorem dL_law_548 : decode cL_law 548 = .ok (.iconst 1, 1) := by decide +kernel
theorem dL_law_549 : decode cL_law 549 = .ok (.iadd, 1) := by decide +kernel
theorem dL_law_550 : decode cL_law 550 = .ok (.iaload, 1) := by decide +kernel
theorem dL_law_551 : decode cL_law 551 = .ok (.aload_n 0, 1) := by decide +kernel
theorem dL_law_552 : decode cL_law 552 = .ok (.iload_n 3, 1) := by decide +kernel
theorem dL_law_553 : decode cL_law 553 = .ok (.iconst 2, 1) := by decide +kernel
theorem dL_law_554 : decode cL_law 554 = .ok (.iadd, 1) := by decide +kernel
theorem dL_law_555 : decode cL_law 555 = .ok (.iaload, 1) := by decide +kernel
theorem dL_law_556 : decode cL_law 556 = .ok (.invokevirtual 60, 3) := by decide +kernel
theorem dL_law_559 : decode cL_law 559 = .ok (.if_icmp .eq 888, 3) := by decide +kernel
theorem dL_law_562 : decode cL_law 562 = .ok (.iconst 0, 1) := by decide +kernel
theorem dL_law_563 : decode cL_law 563 = .ok (.ireturn, 1) := by decide +kernel
theorem dL_law_564 : decode cL_law 564 = .ok (.aload_n 1, 1) := by decide +kernel
theorem dL_law_565 : decode cL_law 565 = .ok (.aload_n 0, 1) := by decide +kernel
theorem dL_law_566 : decode cL_law 566 = .ok (.iload_n 3, 1) := by decide +kernel
theorem dL_law_567 : decode cL_law 567 = .ok (.iconst 1, 1) := by decide +kernel
theorem dL_law_568 : decode cL_law 568 = .ok (.iadd, 1) := by decide +kernel
theorem dL_law_569 : decode cL_law 569 = .ok (.iaload, 1) := by decide +kernel
theorem dL_law_570 : decode cL_law 570 = .ok (.aload_n 0, 1) := by decide +kernel
theorem dL_law_571 : decode cL_law 571 = .ok (.iload_n 3, 1) := by decide +kernel
theorem dL_law_572 : decode cL_law 572 = .ok (.iconst 2, 1) := by decide +kernel
theorem dL_law_573 : decode cL_law 573 = .ok (.iadd, 1) := by decide +kernel
theorem dL_law_574 : decode cL_law 574 = .ok (.iaload, 1) := by decide +kernel
theorem dL_law_575 : decode cL_law 575 = .ok (.aload_n 0, 1) := by decide +kernel
theorem dL_law_576 : decode cL_law 576 = .ok (.iload_n 3, 1) := by decide +kernel
theorem dL_law_577 : decode cL_law 577 = .ok (.iconst 3, 1) := by decide +kernel
theorem dL_law_578 : decode cL_law 578 = .ok (.iadd, 1) := by decide +kernel
theorem dL_law_579 : decode cL_law 579 = .ok (.iaload, 1) := by decide +kernel
theorem dL_law_580 : decode cL_law 580 = .ok (.invokevirtual 61, 3) := by decide +kernel
theorem dL_law_583 : decode cL_law 583 = .ok (.aload_n 2, 1) := by decide +kernel
theorem dL_law_584 : decode cL_law 584 = .ok (.aload_n 0, 1) := by decide +kernel
theorem dL_law_585 : decode cL_law 585 = .ok (.iload_n 3, 1) := by decide +kernel
theorem dL_law_586 : decode cL_law 586 = .ok (.iconst 1, 1) := by decide +kernel
theorem dL_law_587 : decode cL_law 587 = .ok (.iadd, 1) := by decide +kernel
theorem dL_law_588 : decode cL_law 588 = .ok (.iaload, 1) := by decide +kernel
theorem dL_law_589 : decode cL_law 589 = .ok (.aload_n 0, 1) := by decide +kernel
theorem dL_law_590 : decode cL_law 590 = .ok (.iload_n 3, 1) := by decide +kernel
theorem dL_law_591 : decode cL_law 591 = .ok (.iconst 2, 1) := by decide +kernel
theorem dL_law_592 : decode cL_law 592 = .ok (.iadd, 1) := by decide +kernel
theorem dL_law_593 : decode cL_law 593 = .ok (.iaload, 1) := by decide +kernel
theorem dL_law_594 : decode cL_law 594 = .ok (.aload_n 0, 1) := by decide +kernel
theorem dL_law_595 : decode cL_law 595 = .ok (.iload_n 3, 1) := by decide +kernel
theorem dL_law_596 : decode cL_law 596 = .ok (.iconst 3, 1) := by decide +kernel
theorem dL_law_597 : decode cL_law 597 = .ok (.iadd, 1) := by decide +kernel
theorem dL_law_598 : decode cL_law 598 = .ok (.iaload, 1) := by decide +kernel
theorem dL_law_599 : decode cL_law 599 = .ok (.invokevirtual 64, 3) := by decide +kernel
theorem dL_law_602 : decode cL_law 602 = .ok (.if_icmp .eq 845, 3) := by decide +kernel
theorem dL_law_605 : decode cL_law 605 = .ok (.iconst 0, 1) := by decide +kernel
theorem dL_law_606 : decode cL_law 606 = .ok (.ireturn, 1) := by decide +kernel
theorem dL_law_607 : decode cL_law 607 = .ok (.aload_n 1, 1) := by decide +kernel
theorem dL_law_608 : decode cL_law 608 = .ok (.aload_n 0, 1) := by decide +kernel
theorem dL_law_609 : decode cL_law 609 = .ok (.iload_n 3, 1) := by decide +kernel
theorem dL_law_610 : decode cL_law 610 = .ok (.iconst 1, 1) := by decide +kernel
theorem dL_law_611 : decode cL_law 611 = .ok (.iadd, 1) := by decide +kernel
theorem dL_law_612 : decode cL_law 612 = .ok (.iaload, 1) := by decide +kernel
theorem dL_law_613 : decode cL_law 613 = .ok (.aload_n 0, 1) := by decide +kernel
theorem dL_law_614 : decode cL_law 614 = .ok (.iload_n 3, 1) := by decide +kernel
theorem dL_law_615 : decode cL_law 615 = .ok (.iconst 2, 1) := by decide +kernel
theorem dL_law_616 : decode cL_law 616 = .ok (.iadd, 1) := by decide +kernel
theorem dL_law_617 : decode cL_law 617 = .ok (.iaload, 1) := by decide +kernel
theorem dL_law_618 : decode cL_law 618 = .ok (.invokevirtual 65, 3) := by decide +kernel
theorem dL_law_621 : decode cL_law 621 = .ok (.aload_n 2, 1) := by decide +kernel
theorem dL_law_622 : decode cL_law 622 = .ok (.aload_n 0, 1) := by decide +kernel
theorem dL_law_623 : decode cL_law 623 = .ok (.iload_n 3, 1) := by decide +kernel
theorem dL_law_624 : decode cL_law 624 = .ok (.iconst 1, 1) := by decide +kernel
theorem dL_law_625 : decode cL_law 625 = .ok (.iadd, 1) := by decide +kernel
theorem dL_law_626 : decode cL_law 626 = .ok (.iaload, 1) := by decide +kernel
theorem dL_law_627 : decode cL_law 627 = .ok (.aload_n 0, 1) := by decide +kernel
theorem dL_law_628 : decode cL_law 628 = .ok (.iload_n 3, 1) := by decide +kernel
theorem dL_law_629 : decode cL_law 629 = .ok (.iconst 2, 1) := by decide +kernel
theorem dL_law_630 : decode cL_law 630 = .ok (.iadd, 1) := by decide +kernel
theorem dL_law_631 : decode cL_law 631 = .ok (.iaload, 1) := by decide +kernel
theorem dL_law_632 : decode cL_law 632 = .ok (.invokevirtual 68, 3) := by decide +kernel
theorem dL_law_635 : decode cL_law 635 = .ok (.if_icmp .eq 812, 3) := by decide +kernel
theorem dL_law_638 : decode cL_law 638 = .ok (.iconst 0, 1) := by decide +kernel
theorem dL_law_639 : decode cL_law 639 = .ok (.ireturn, 1) := by decide +kernel
theorem dL_law_640 : decode cL_law 640 = .ok (.aload_n 1, 1) := by decide +kernel
theorem dL_law_641 : decode cL_law 641 = .ok (.invokevirtual 69, 3) := by decide +kernel
theorem dL_law_644 : decode cL_law 644 = .ok (.aload_n 2, 1) := by decide +kernel
theorem dL_law_645 : decode cL_law 645 = .ok (.invokevirtual 73, 3) := by decide +kernel
theorem dL_law_648 : decode cL_law 648 = .ok (.if_icmp .eq 799, 3) := by decide +kernel
theorem dL_law_651 : decode cL_law 651 = .ok (.iconst 0, 1) := by decide +kernel
theorem dL_law_652 : decode cL_law 652 = .ok (.ireturn, 1) := by decide +kernel
theorem dL_law_653 : decode cL_law 653 = .ok (.aload_n 1, 1) := by decide +kernel
theorem dL_law_654 : decode cL_law 654 = .ok (.invokevirtual 74, 3) := by decide +kernel
theorem dL_law_657 : decode cL_law 657 = .ok (.aload_n 2, 1) := by decide +kernel
theorem dL_law_658 : decode cL_law 658 = .ok (.invokevirtual 77, 3) := by decide +kernel
theorem dL_law_661 : decode cL_law 661 = .ok (.if_icmp .eq 786, 3) := by decide +kernel
theorem dL_law_664 : decode cL_law 664 = .ok (.iconst 0, 1) := by decide +kernel
theorem dL_law_665 : decode cL_law 665 = .ok (.ireturn, 1) := by decide +kernel
theorem dL_law_666 : decode cL_law 666 = .ok (.aload_n 1, 1) := by decide +kernel
theorem dL_law_667 : decode cL_law 667 = .ok (.aload_n 0, 1) := by decide +kernel
theorem dL_law_668 : decode cL_law 668 = .ok (.iload_n 3, 1) := by decide +kernel
theorem dL_law_669 : decode cL_law 669 = .ok (.iconst 1, 1) := by decide +kernel
theorem dL_law_670 : decode cL_law 670 = .ok (.iadd, 1) := by decide +kernel
theorem dL_law_671 : decode cL_law 671 = .ok (.iaload, 1) := by decide +kernel
theorem dL_law_672 : decode cL_law 672 = .ok (.invokevirtual 78, 3) := by decide +kernel
theorem dL_law_675 : decode cL_law 675 = .ok (.aload_n 2, 1) := by decide +kernel
theorem dL_law_676 : decode cL_law 676 = .ok (.aload_n 0, 1) := by decide +kernel
theorem dL_law_677 : decode cL_law 677 = .ok (.iload_n 3, 1) := by decide +kernel
theorem dL_law_678 : decode cL_law 678 = .ok (.iconst 1, 1) := by decide +kernel
theorem dL_law_679 : decode cL_law 679 = .ok (.iadd, 1) := by decide +kernel
theorem dL_law_680 : decode cL_law 680 = .ok (.iaload, 1) := by decide +kernel
theorem dL_law_681 : decode cL_law 681 = .ok (.invokevirtual 81, 3) := by decide +kernel
theorem dL_law_684 : decode cL_law 684 = .ok (.if_icmp .eq 763, 3) := by decide +kernel
theorem dL_law_687 : decode cL_law 687 = .ok (.iconst 0, 1) := by decide +kernel
theorem dL_law_688 : decode cL_law 688 = .ok (.ireturn, 1) := by decide +kernel
theorem dL_law_689 : decode cL_law 689 = .ok (.aload_n 1, 1) := by decide +kernel
theorem dL_law_690 : decode cL_law 690 = .ok (.aload_n 0, 1) := by decide +kernel
theorem dL_law_691 : decode cL_law 691 = .ok (.iload_n 3, 1) := by decide +kernel
theorem dL_law_692 : decode cL_law 692 = .ok (.iconst 1, 1) := by decide +kernel
theorem dL_law_693 : decode cL_law 693 = .ok (.iadd, 1) := by decide +kernel
theorem dL_law_694 : decode cL_law 694 = .ok (.iaload, 1) := by decide +kernel
theorem dL_law_695 : decode cL_law 695 = .ok (.invokevirtual 82, 3) := by decide +kernel
theorem dL_law_698 : decode cL_law 698 = .ok (.aload_n 2, 1) := by decide +kernel
theorem dL_law_699 : decode cL_law 699 = .ok (.aload_n 0, 1) := by decide +kernel
theorem dL_law_700 : decode cL_law 700 = .ok (.iload_n 3, 1) := by decide +kernel
theorem dL_law_701 : decode cL_law 701 = .ok (.iconst 1, 1) := by decide +kernel
theorem dL_law_702 : decode cL_law 702 = .ok (.iadd, 1) := by decide +kernel
theorem dL_law_703 : decode cL_law 703 = .ok (.iaload, 1) := by decide +kernel
theorem dL_law_704 : decode cL_law 704 = .ok (.invokevirtual 85, 3) := by decide +kernel
theorem dL_law_707 : decode cL_law 707 = .ok (.if_icmp .eq 740, 3) := by decide +kernel
theorem dL_law_710 : decode cL_law 710 = .ok (.iconst 0, 1) := by decide +kernel
theorem dL_law_711 : decode cL_law 711 = .ok (.ireturn, 1) := by decide +kernel
theorem dL_law_712 : decode cL_law 712 = .ok (.aload_n 1, 1) := by decide +kernel
theorem dL_law_713 : decode cL_law 713 = .ok (.aload_n 0, 1) := by decide +kernel
theorem dL_law_714 : decode cL_law 714 = .ok (.iload_n 3, 1) := by decide +kernel
theorem dL_law_715 : decode cL_law 715 = .ok (.iconst 1, 1) := by decide +kernel
theorem dL_law_716 : decode cL_law 716 = .ok (.iadd, 1) := by decide +kernel
theorem dL_law_717 : decode cL_law 717 = .ok (.iaload, 1) := by decide +kernel
theorem dL_law_718 : decode cL_law 718 = .ok (.aload_n 0, 1) := by decide +kernel
theorem dL_law_719 : decode cL_law 719 = .ok (.iload_n 3, 1) := by decide +kernel
theorem dL_law_720 : decode cL_law 720 = .ok (.iconst 2, 1) := by decide +kernel
theorem dL_law_721 : decode cL_law 721 = .ok (.iadd, 1) := by decide +kernel
theorem dL_law_722 : decode cL_law 722 = .ok (.iaload, 1) := by decide +kernel
theorem dL_law_723 : decode cL_law 723 = .ok (.invokevirtual 86, 3) := by decide +kernel
theorem dL_law_726 : decode cL_law 726 = .ok (.aload_n 2, 1) := by decide +kernel
theorem dL_law_727 : decode cL_law 727 = .ok (.aload_n 0, 1) := by decide +kernel
theorem dL_law_728 : decode cL_law 728 = .ok (.iload_n 3, 1) := by decide +kernel
theorem dL_law_729 : decode cL_law 729 = .ok (.iconst 1, 1) := by decide +kernel
theorem dL_law_730 : decode cL_law 730 = .ok (.iadd, 1) := by decide +kernel
theorem dL_law_731 : decode cL_law 731 = .ok (.iaload, 1) := by decide +kernel
theorem dL_law_732 : decode cL_law 732 = .ok (.aload_n 0, 1) := by decide +kernel
theorem dL_law_733 : decode cL_law 733 = .ok (.iload_n 3, 1) := by decide +kernel
theorem dL_law_734 : decode cL_law 734 = .ok (.iconst 2, 1) := by decide +kernel
theorem dL_law_735 : decode cL_law 735 = .ok (.iadd, 1) := by decide +kernel
theorem dL_law_736 : decode cL_law 736 = .ok (.iaload, 1) := by decide +kernel
theorem dL_law_737 : decode cL_law 737 = .ok (.invokevirtual 89, 3) := by decide +kernel
theorem dL_law_740 : decode cL_law 740 = .ok (.if_icmp .eq 707, 3) := by decide +kernel
theorem dL_law_743 : decode cL_law 743 = .ok (.iconst 0, 1) := by decide +kernel
theorem dL_law_744 : decode cL_law 744 = .ok (.ireturn, 1) := by decide +kernel
theorem dL_law_745 : decode cL_law 745 = .ok (.aload_n 1, 1) := by decide +kernel
theorem dL_law_746 : decode cL_law 746 = .ok (.invokevirtual 90, 3) := by decide +kernel
theorem dL_law_749 : decode cL_law 749 = .ok (.aload_n 2, 1) := by decide +kernel
theorem dL_law_750 : decode cL_law 750 = .ok (.invokevirtual 93, 3) := by decide +kernel
theorem dL_law_753 : decode cL_law 753 = .ok (.if_icmp .eq 694, 3) := by decide +kernel
theorem dL_law_756 : decode cL_law 756 = .ok (.iconst 0, 1) := by decide +kernel
theorem dL_law_757 : decode cL_law 757 = .ok (.ireturn, 1) := by decide +kernel
theorem dL_law_758 : decode cL_law 758 = .ok (.aload_n 1, 1) := by decide +kernel
theorem dL_law_759 : decode cL_law 759 = .ok (.aload_n 0, 1) := by decide +kernel
theorem dL_law_760 : decode cL_law 760 = .ok (.iload_n 3, 1) := by decide +kernel
theorem dL_law_761 : decode cL_law 761 = .ok (.iconst 1, 1) := by decide +kernel
theorem dL_law_762 : decode cL_law 762 = .ok (.iadd, 1) := by decide +kernel
theorem dL_law_763 : decode cL_law 763 = .ok (.iaload, 1) := by decide +kernel
theorem dL_law_764 : decode cL_law 764 = .ok (.invokevirtual 94, 3) := by decide +kernel
theorem dL_law_767 : decode cL_law 767 = .ok (.aload_n 2, 1) := by decide +kernel
theorem dL_law_768 : decode cL_law 768 = .ok (.aload_n 0, 1) := by decide +kernel
theorem dL_law_769 : decode cL_law 769 = .ok (.iload_n 3, 1) := by decide +kernel
theorem dL_law_770 : decode cL_law 770 = .ok (.iconst 1, 1) := by decide +kernel
theorem dL_law_771 : decode cL_law 771 = .ok (.iadd, 1) := by decide +kernel
theorem dL_law_772 : decode cL_law 772 = .ok (.iaload, 1) := by decide +kernel
theorem dL_law_773 : decode cL_law 773 = .ok (.invokevirtual 97, 3) := by decide +kernel
theorem dL_law_776 : decode cL_law 776 = .ok (.if_icmp .eq 671, 3) := by decide +kernel
theorem dL_law_779 : decode cL_law 779 = .ok (.iconst 0, 1) := by decide +kernel
theorem dL_law_780 : decode cL_law 780 = .ok (.ireturn, 1) := by decide +kernel
theorem dL_law_781 : decode cL_law 781 = .ok (.aload_n 1, 1) := by decide +kernel
theorem dL_law_782 : decode cL_law 782 = .ok (.aload_n 0, 1) := by decide +kernel
theorem dL_law_783 : decode cL_law 783 = .ok (.iload_n 3, 1) := by decide +kernel
theorem dL_law_784 : decode cL_law 784 = .ok (.iconst 1, 1) := by decide +kernel
theorem dL_law_785 : decode cL_law 785 = .ok (.iadd, 1) := by decide +kernel
theorem dL_law_786 : decode cL_law 786 = .ok (.iaload, 1) := by decide +kernel
theorem dL_law_787 : decode cL_law 787 = .ok (.invokevirtual 98, 3) := by decide +kernel
theorem dL_law_790 : decode cL_law 790 = .ok (.aload_n 2, 1) := by decide +kernel
theorem dL_law_791 : decode cL_law 791 = .ok (.aload_n 0, 1) := by decide +kernel
theorem dL_law_792 : decode cL_law 792 = .ok (.iload_n 3, 1) := by decide +kernel
theorem dL_law_793 : decode cL_law 793 = .ok (.iconst 1, 1) := by decide +kernel
theorem dL_law_794 : decode cL_law 794 = .ok (.iadd, 1) := by decide +kernel
theorem dL_law_795 : decode cL_law 795 = .ok (.iaload, 1) := by decide +kernel
theorem dL_law_796 : decode cL_law 796 = .ok (.invokevirtual 101, 3) := by decide +kernel
theorem dL_law_799 : decode cL_law 799 = .ok (.if_icmp .eq 648, 3) := by decide +kernel
theorem dL_law_802 : decode cL_law 802 = .ok (.iconst 0, 1) := by decide +kernel
theorem dL_law_803 : decode cL_law 803 = .ok (.ireturn, 1) := by decide +kernel
theorem dL_law_804 : decode cL_law 804 = .ok (.aload_n 1, 1) := by decide +kernel
theorem dL_law_805 : decode cL_law 805 = .ok (.aload_n 0, 1) := by decide +kernel
theorem dL_law_806 : decode cL_law 806 = .ok (.iload_n 3, 1) := by decide +kernel
theorem dL_law_807 : decode cL_law 807 = .ok (.iconst 1, 1) := by decide +kernel
theorem dL_law_808 : decode cL_law 808 = .ok (.iadd, 1) := by decide +kernel
theorem dL_law_809 : decode cL_law 809 = .ok (.iaload, 1) := by decide +kernel
theorem dL_law_810 : decode cL_law 810 = .ok (.invokevirtual 102, 3) := by decide +kernel
theorem dL_law_813 : decode cL_law 813 = .ok (.aload_n 2, 1) := by decide +kernel
theorem dL_law_814 : decode cL_law 814 = .ok (.aload_n 0, 1) := by decide +kernel
theorem dL_law_815 : decode cL_law 815 = .ok (.iload_n 3, 1) := by decide +kernel
theorem dL_law_816 : decode cL_law 816 = .ok (.iconst 1, 1) := by decide +kernel
theorem dL_law_817 : decode cL_law 817 = .ok (.iadd, 1) := by decide +kernel
theorem dL_law_818 : decode cL_law 818 = .ok (.iaload, 1) := by decide +kernel
theorem dL_law_819 : decode cL_law 819 = .ok (.invokevirtual 105, 3) := by decide +kernel
theorem dL_law_822 : decode cL_law 822 = .ok (.if_icmp .eq 625, 3) := by decide +kernel
theorem dL_law_825 : decode cL_law 825 = .ok (.iconst 0, 1) := by decide +kernel
theorem dL_law_826 : decode cL_law 826 = .ok (.ireturn, 1) := by decide +kernel
theorem dL_law_827 : decode cL_law 827 = .ok (.aload_n 1, 1) := by decide +kernel
theorem dL_law_828 : decode cL_law 828 = .ok (.aload_n 0, 1) := by decide +kernel
theorem dL_law_829 : decode cL_law 829 = .ok (.iload_n 3, 1) := by decide +kernel
theorem dL_law_830 : decode cL_law 830 = .ok (.iconst 1, 1) := by decide +kernel
theorem dL_law_831 : decode cL_law 831 = .ok (.iadd, 1) := by decide +kernel
theorem dL_law_832 : decode cL_law 832 = .ok (.iaload, 1) := by decide +kernel
theorem dL_law_833 : decode cL_law 833 = .ok (.aload_n 0, 1) := by decide +kernel
theorem dL_law_834 : decode cL_law 834 = .ok (.iload_n 3, 1) := by decide +kernel
theorem dL_law_835 : decode cL_law 835 = .ok (.iconst 2, 1) := by decide +kernel
theorem dL_law_836 : decode cL_law 836 = .ok (.iadd, 1) := by decide +kernel
theorem dL_law_837 : decode cL_law 837 = .ok (.iaload, 1) := by decide +kernel
theorem dL_law_838 : decode cL_law 838 = .ok (.invokevirtual 106, 3) := by decide +kernel
theorem dL_law_841 : decode cL_law 841 = .ok (.aload_n 2, 1) := by decide +kernel
theorem dL_law_842 : decode cL_law 842 = .ok (.aload_n 0, 1) := by decide +kernel
theorem dL_law_843 : decode cL_law 843 = .ok (.iload_n 3, 1) := by decide +kernel
theorem dL_law_844 : decode cL_law 844 = .ok (.iconst 1, 1) := by decide +kernel
theorem dL_law_845 : decode cL_law 845 = .ok (.iadd, 1) := by decide +kernel
theorem dL_law_846 : decode cL_law 846 = .ok (.iaload, 1) := by decide +kernel
theorem dL_law_847 : decode cL_law 847 = .ok (.aload_n 0, 1) := by decide +kernel
theorem dL_law_848 : decode cL_law 848 = .ok (.iload_n 3, 1) := by decide +kernel
theorem dL_law_849 : decode cL_law 849 = .ok (.iconst 2, 1) := by decide +kernel
theorem dL_law_850 : decode cL_law 850 = .ok (.iadd, 1) := by decide +kernel
theorem dL_law_851 : decode cL_law 851 = .ok (.iaload, 1) := by decide +kernel
theorem dL_law_852 : decode cL_law 852 = .ok (.invokevirtual 109, 3) := by decide +kernel
theorem dL_law_855 : decode cL_law 855 = .ok (.if_icmp .eq 592, 3) := by decide +kernel
theorem dL_law_858 : decode cL_law 858 = .ok (.iconst 0, 1) := by decide +kernel
theorem dL_law_859 : decode cL_law 859 = .ok (.ireturn, 1) := by decide +kernel
theorem dL_law_860 : decode cL_law 860 = .ok (.aload_n 1, 1) := by decide +kernel
theorem dL_law_861 : decode cL_law 861 = .ok (.aload_n 0, 1) := by decide +kernel
theorem dL_law_862 : decode cL_law 862 = .ok (.iload_n 3, 1) := by decide +kernel
theorem dL_law_863 : decode cL_law 863 = .ok (.iconst 1, 1) := by decide +kernel
theorem dL_law_864 : decode cL_law 864 = .ok (.iadd, 1) := by decide +kernel
theorem dL_law_865 : decode cL_law 865 = .ok (.iaload, 1) := by decide +kernel
theorem dL_law_866 : decode cL_law 866 = .ok (.invokevirtual 110, 3) := by decide +kernel
theorem dL_law_869 : decode cL_law 869 = .ok (.aload_n 2, 1) := by decide +kernel
theorem dL_law_870 : decode cL_law 870 = .ok (.aload_n 0, 1) := by decide +kernel
theorem dL_law_871 : decode cL_law 871 = .ok (.iload_n 3, 1) := by decide +kernel
theorem dL_law_872 : decode cL_law 872 = .ok (.iconst 1, 1) := by decide +kernel
theorem dL_law_873 : decode cL_law 873 = .ok (.iadd, 1) := by decide +kernel
theorem dL_law_874 : decode cL_law 874 = .ok (.iaload, 1) := by decide +kernel
theorem dL_law_875 : decode cL_law 875 = .ok (.invokevirtual 113, 3) := by decide +kernel
theorem dL_law_878 : decode cL_law 878 = .ok (.if_icmp .eq 569, 3) := by decide +kernel
theorem dL_law_881 : decode cL_law 881 = .ok (.iconst 0, 1) := by decide +kernel
theorem dL_law_882 : decode cL_law 882 = .ok (.ireturn, 1) := by decide +kernel
theorem dL_law_883 : decode cL_law 883 = .ok (.aload_n 1, 1) := by decide +kernel
theorem dL_law_884 : decode cL_law 884 = .ok (.aload_n 0, 1) := by decide +kernel
theorem dL_law_885 : decode cL_law 885 = .ok (.iload_n 3, 1) := by decide +kernel
theorem dL_law_886 : decode cL_law 886 = .ok (.iconst 1, 1) := by decide +kernel
theorem dL_law_887 : decode cL_law 887 = .ok (.iadd, 1) := by decide +kernel
theorem dL_law_888 : decode cL_law 888 = .ok (.iaload, 1) := by decide +kernel
theorem dL_law_889 : decode cL_law 889 = .ok (.invokevirtual 114, 3) := by decide +kernel
theorem dL_law_892 : decode cL_law 892 = .ok (.aload_n 2, 1) := by decide +kernel
theorem dL_law_893 : decode cL_law 893 = .ok (.aload_n 0, 1) := by decide +kernel
theorem dL_law_894 : decode cL_law 894 = .ok (.iload_n 3, 1) := by decide +kernel
theorem dL_law_895 : decode cL_law 895 = .ok (.iconst 1, 1) := by decide +kernel
theorem dL_law_896 : decode cL_law 896 = .ok (.iadd, 1) := by decide +kernel
theorem dL_law_897 : decode cL_law 897 = .ok (.iaload, 1) := by decide +kernel
theorem dL_law_898 : decode cL_law 898 = .ok (.invokevirtual 117, 3) := by decide +kernel
theorem dL_law_901 : decode cL_law 901 = .ok (.if_icmp .eq 546, 3) := by decide +kernel
theorem dL_law_904 : decode cL_law 904 = .ok (.iconst 0, 1) := by decide +kernel
theorem dL_law_905 : decode cL_law 905 = .ok (.ireturn, 1) := by decide +kernel
theorem dL_law_906 : decode cL_law 906 = .ok (.aload_n 1, 1) := by decide +kernel
theorem dL_law_907 : decode cL_law 907 = .ok (.aload_n 0, 1) := by decide +kernel
theorem dL_law_908 : decode cL_law 908 = .ok (.iload_n 3, 1) := by decide +kernel
theorem dL_law_909 : decode cL_law 909 = .ok (.iconst 1, 1) := by decide +kernel
theorem dL_law_910 : decode cL_law 910 = .ok (.iadd, 1) := by decide +kernel
theorem dL_law_911 : decode cL_law 911 = .ok (.iaload, 1) := by decide +kernel
theorem dL_law_912 : decode cL_law 912 = .ok (.aload_n 0, 1) := by decide +kernel
theorem dL_law_913 : decode cL_law 913 = .ok (.iload_n 3, 1) := by decide +kernel
theorem dL_law_914 : decode cL_law 914 = .ok (.iconst 2, 1) := by decide +kernel
theorem dL_law_915 : decode cL_law 915 = .ok (.iadd, 1) := by decide +kernel
theorem dL_law_916 : decode cL_law 916 = .ok (.iaload, 1) := by decide +kernel
theorem dL_law_917 : decode cL_law 917 = .ok (.invokevirtual 118, 3) := by decide +kernel
theorem dL_law_920 : decode cL_law 920 = .ok (.aload_n 2, 1) := by decide +kernel
theorem dL_law_921 : decode cL_law 921 = .ok (.aload_n 0, 1) := by decide +kernel
theorem dL_law_922 : decode cL_law 922 = .ok (.iload_n 3, 1) := by decide +kernel
theorem dL_law_923 : decode cL_law 923 = .ok (.iconst 1, 1) := by decide +kernel
theorem dL_law_924 : decode cL_law 924 = .ok (.iadd, 1) := by decide +kernel
theorem dL_law_925 : decode cL_law 925 = .ok (.iaload, 1) := by decide +kernel
theorem dL_law_926 : decode cL_law 926 = .ok (.aload_n 0, 1) := by decide +kernel
theorem dL_law_927 : decode cL_law 927 = .ok (.iload_n 3, 1) := by decide +kernel
theorem dL_law_928 : decode cL_law 928 = .ok (.iconst 2, 1) := by decide +kernel
theorem dL_law_929 : decode cL_law 929 = .ok (.iadd, 1) := by decide +kernel
theorem dL_law_930 : decode cL_law 930 = .ok (.iaload, 1) := by decide +kernel
theorem dL_law_931 : decode cL_law 931 = .ok (.invokevirtual 121, 3) := by decide +kernel
theorem dL_law_934 : decode cL_law 934 = .ok (.if_icmp .eq 513, 3) := by decide +kernel
theorem dL_law_937 : decode cL_law 937 = .ok (.iconst 0, 1) := by decide +kernel
theorem dL_law_938 : decode cL_law 938 = .ok (.ireturn, 1) := by decide +kernel
theorem dL_law_939 : decode cL_law 939 = .ok (.aload_n 1, 1) := by decide +kernel
theorem dL_law_940 : decode cL_law 940 = .ok (.aload_n 0, 1) := by decide +kernel
theorem dL_law_941 : decode cL_law 941 = .ok (.iload_n 3, 1) := by decide +kernel
theorem dL_law_942 : decode cL_law 942 = .ok (.iconst 1, 1) := by decide +kernel
theorem dL_law_943 : decode cL_law 943 = .ok (.iadd, 1) := by decide +kernel
theorem dL_law_944 : decode cL_law 944 = .ok (.iaload, 1) := by decide +kernel
theorem dL_law_945 : decode cL_law 945 = .ok (.aload_n 0, 1) := by decide +kernel
theorem dL_law_946 : decode cL_law 946 = .ok (.iload_n 3, 1) := by decide +kernel
theorem dL_law_947 : decode cL_law 947 = .ok (.iconst 2, 1) := by decide +kernel
theorem dL_law_948 : decode cL_law 948 = .ok (.iadd, 1) := by decide +kernel
theorem dL_law_949 : decode cL_law 949 = .ok (.iaload, 1) := by decide +kernel
theorem dL_law_950 : decode cL_law 950 = .ok (.invokevirtual 122, 3) := by decide +kernel
theorem dL_law_953 : decode cL_law 953 = .ok (.aload_n 2, 1) := by decide +kernel
theorem dL_law_954 : decode cL_law 954 = .ok (.aload_n 0, 1) := by decide +kernel
theorem dL_law_955 : decode cL_law 955 = .ok (.iload_n 3, 1) := by decide +kernel
theorem dL_law_956 : decode cL_law 956 = .ok (.iconst 1, 1) := by decide +kernel
theorem dL_law_957 : decode cL_law 957 = .ok (.iadd, 1) := by decide +kernel
theorem dL_law_958 : decode cL_law 958 = .ok (.iaload, 1) := by decide +kernel
theorem dL_law_959 : decode cL_law 959 = .ok (.aload_n 0, 1) := by decide +kernel
theorem dL_law_960 : decode cL_law 960 = .ok (.iload_n 3, 1) := by decide +kernel
theorem dL_law_961 : decode cL_law 961 = .ok (.iconst 2, 1) := by decide +kernel
theorem dL_law_962 : decode cL_law 962 = .ok (.iadd, 1) := by decide +kernel
theorem dL_law_963 : decode cL_law 963 = .ok (.iaload, 1) := by decide +kernel
theorem dL_law_964 : decode cL_law 964 = .ok (.invokevirtual 125, 3) := by decide +kernel
theorem dL_law_967 : decode cL_law 967 = .ok (.if_icmp .eq 480, 3) := by decide +kernel
theorem dL_law_970 : decode cL_law 970 = .ok (.iconst 0, 1) := by decide +kernel
theorem dL_law_971 : decode cL_law 971 = .ok (.ireturn, 1) := by decide +kernel
theorem dL_law_972 : decode cL_law 972 = .ok (.aload_n 1, 1) := by decide +kernel
theorem dL_law_973 : decode cL_law 973 = .ok (.aload_n 0, 1) := by decide +kernel
theorem dL_law_974 : decode cL_law 974 = .ok (.iload_n 3, 1) := by decide +kernel
theorem dL_law_975 : decode cL_law 975 = .ok (.iconst 1, 1) := by decide +kernel
theorem dL_law_976 : decode cL_law 976 = .ok (.iadd, 1) := by decide +kernel
theorem dL_law_977 : decode cL_law 977 = .ok (.iaload, 1) := by decide +kernel
theorem dL_law_978 : decode cL_law 978 = .ok (.invokevirtual 126, 3) := by decide +kernel
theorem dL_law_981 : decode cL_law 981 = .ok (.aload_n 2, 1) := by decide +kernel
theorem dL_law_982 : decode cL_law 982 = .ok (.aload_n 0, 1) := by decide +kernel
theorem dL_law_983 : decode cL_law 983 = .ok (.iload_n 3, 1) := by decide +kernel
theorem dL_law_984 : decode cL_law 984 = .ok (.iconst 1, 1) := by decide +kernel
theorem dL_law_985 : decode cL_law 985 = .ok (.iadd, 1) := by decide +kernel
theorem dL_law_986 : decode cL_law 986 = .ok (.iaload, 1) := by decide +kernel
theorem dL_law_987 : decode cL_law 987 = .ok (.invokevirtual 129, 3) := by decide +kernel
theorem dL_law_990 : decode cL_law 990 = .ok (.if_icmp .eq 457, 3) := by decide +kernel
theorem dL_law_993 : decode cL_law 993 = .ok (.iconst 0, 1) := by decide +kernel
theorem dL_law_994 : decode cL_law 994 = .ok (.ireturn, 1) := by decide +kernel
theorem dL_law_995 : decode cL_law 995 = .ok (.aload_n 1, 1) := by decide +kernel
theorem dL_law_996 : decode cL_law 996 = .ok (.aload_n 0, 1) := by decide +kernel
theorem dL_law_997 : decode cL_law 997 = .ok (.iload_n 3, 1) := by decide +kernel
theorem dL_law_998 : decode cL_law 998 = .ok (.iconst 1, 1) := by decide +kernel
theorem dL_law_999 : decode cL_law 999 = .ok (.iadd, 1) := by decide +kernel
theorem dL_law_1000 : decode cL_law 1000 = .ok (.iaload, 1) := by decide +kernel
theorem dL_law_1001 : decode cL_law 1001 = .ok (.invokevirtual 130, 3) := by decide +kernel
theorem dL_law_1004 : decode cL_law 1004 = .ok (.aload_n 2, 1) := by decide +kernel
theorem dL_law_1005 : decode cL_law 1005 = .ok (.aload_n 0, 1) := by decide +kernel
theorem dL_law_1006 : decode cL_law 1006 = .ok (.iload_n 3, 1) := by decide +kernel
theorem dL_law_1007 : decode cL_law 1007 = .ok (.iconst 1, 1) := by decide +kernel
theorem dL_law_1008 : decode cL_law 1008 = .ok (.iadd, 1) := by decide +kernel
theorem dL_law_1009 : decode cL_law 1009 = .ok (.iaload, 1) := by decide +kernel
theorem dL_law_1010 : decode cL_law 1010 = .ok (.invokevirtual 133, 3) := by decide +kernel
theorem dL_law_1013 : decode cL_law 1013 = .ok (.if_icmp .eq 434, 3) := by decide +kernel
theorem dL_law_1016 : decode cL_law 1016 = .ok (.iconst 0, 1) := by decide +kernel
theorem dL_law_1017 : decode cL_law 1017 = .ok (.ireturn, 1) := by decide +kernel
theorem dL_law_1018 : decode cL_law 1018 = .ok (.aload_n 1, 1) := by decide +kernel
theorem dL_law_1019 : decode cL_law 1019 = .ok (.aload_n 0, 1) := by decide +kernel
theorem dL_law_1020 : decode cL_law 1020 = .ok (.iload_n 3, 1) := by decide +kernel
theorem dL_law_1021 : decode cL_law 1021 = .ok (.iconst 1, 1) := by decide +kernel
theorem dL_law_1022 : decode cL_law 1022 = .ok (.iadd, 1) := by decide +kernel
theorem dL_law_1023 : decode cL_law 1023 = .ok (.iaload, 1) := by decide +kernel
theorem dL_law_1024 : decode cL_law 1024 = .ok (.invokevirtual 134, 3) := by decide +kernel
theorem dL_law_1027 : decode cL_law 1027 = .ok (.aload_n 2, 1) := by decide +kernel
theorem dL_law_1028 : decode cL_law 1028 = .ok (.aload_n 0, 1) := by decide +kernel
theorem dL_law_1029 : decode cL_law 1029 = .ok (.iload_n 3, 1) := by decide +kernel
theorem dL_law_1030 : decode cL_law 1030 = .ok (.iconst 1, 1) := by decide +kernel
theorem dL_law_1031 : decode cL_law 1031 = .ok (.iadd, 1) := by decide +kernel
theorem dL_law_1032 : decode cL_law 1032 = .ok (.iaload, 1) := by decide +kernel
theorem dL_law_1033 : decode cL_law 1033 = .ok (.invokevirtual 137, 3) := by decide +kernel
theorem dL_law_1036 : decode cL_law 1036 = .ok (.if_icmp .eq 411, 3) := by decide +kernel
theorem dL_law_1039 : decode cL_law 1039 = .ok (.iconst 0, 1) := by decide +kernel
theorem dL_law_1040 : decode cL_law 1040 = .ok (.ireturn, 1) := by decide +kernel
theorem dL_law_1041 : decode cL_law 1041 = .ok (.aload_n 1, 1) := by decide +kernel
theorem dL_law_1042 : decode cL_law 1042 = .ok (.aload_n 0, 1) := by decide +kernel
theorem dL_law_1043 : decode cL_law 1043 = .ok (.iload_n 3, 1) := by decide +kernel
theorem dL_law_1044 : decode cL_law 1044 = .ok (.iconst 1, 1) := by decide +kernel
theorem dL_law_1045 : decode cL_law 1045 = .ok (.iadd, 1) := by decide +kernel
theorem dL_law_1046 : decode cL_law 1046 = .ok (.iaload, 1) := by decide +kernel
theorem dL_law_1047 : decode cL_law 1047 = .ok (.ifCond .eq 7, 3) := by decide +kernel
theorem dL_law_1050 : decode cL_law 1050 = .ok (.iconst 1, 1) := by decide +kernel
theorem dL_law_1051 : decode cL_law 1051 = .ok (.goto 4, 3) := by decide +kernel
theorem dL_law_1054 : decode cL_law 1054 = .ok (.iconst 0, 1) := by decide +kernel
theorem dL_law_1055 : decode cL_law 1055 = .ok (.invokevirtual 138, 3) := by decide +kernel
theorem dL_law_1058 : decode cL_law 1058 = .ok (.aload_n 2, 1) := by decide +kernel
theorem dL_law_1059 : decode cL_law 1059 = .ok (.aload_n 0, 1) := by decide +kernel
theorem dL_law_1060 : decode cL_law 1060 = .ok (.iload_n 3, 1) := by decide +kernel
theorem dL_law_1061 : decode cL_law 1061 = .ok (.iconst 1, 1) := by decide +kernel
theorem dL_law_1062 : decode cL_law 1062 = .ok (.iadd, 1) := by decide +kernel
theorem dL_law_1063 : decode cL_law 1063 = .ok (.iaload, 1) := by decide +kernel
theorem dL_law_1064 : decode cL_law 1064 = .ok (.ifCond .eq 7, 3) := by decide +kernel
theorem dL_law_1067 : decode cL_law 1067 = .ok (.iconst 1, 1) := by decide +kernel
theorem dL_law_1068 : decode cL_law 1068 = .ok (.goto 4, 3) := by decide +kernel
theorem dL_law_1071 : decode cL_law 1071 = .ok (.iconst 0, 1) := by decide +kernel
theorem dL_law_1072 : decode cL_law 1072 = .ok (.invokevirtual 142, 3) := by decide +kernel
theorem dL_law_1075 : decode cL_law 1075 = .ok (.if_icmp .eq 372, 3) := by decide +kernel
theorem dL_law_1078 : decode cL_law 1078 = .ok (.iconst 0, 1) := by decide +kernel
theorem dL_law_1079 : decode cL_law 1079 = .ok (.ireturn, 1) := by decide +kernel
theorem dL_law_1080 : decode cL_law 1080 = .ok (.aload_n 1, 1) := by decide +kernel
theorem dL_law_1081 : decode cL_law 1081 = .ok (.invokevirtual 143, 3) := by decide +kernel
theorem dL_law_1084 : decode cL_law 1084 = .ok (.aload_n 2, 1) := by decide +kernel
theorem dL_law_1085 : decode cL_law 1085 = .ok (.invokevirtual 146, 3) := by decide +kernel
theorem dL_law_1088 : decode cL_law 1088 = .ok (.if_icmp .eq 359, 3) := by decide +kernel
theorem dL_law_1091 : decode cL_law 1091 = .ok (.iconst 0, 1) := by decide +kernel
theorem dL_law_1092 : decode cL_law 1092 = .ok (.ireturn, 1) := by decide +kernel
theorem dL_law_1093 : decode cL_law 1093 = .ok (.aload_n 1, 1) := by decide +kernel
theorem dL_law_1094 : decode cL_law 1094 = .ok (.invokevirtual 147, 3) := by decide +kernel
theorem dL_law_1097 : decode cL_law 1097 = .ok (.aload_n 2, 1) := by decide +kernel
theorem dL_law_1098 : decode cL_law 1098 = .ok (.invokevirtual 150, 3) := by decide +kernel
theorem dL_law_1101 : decode cL_law 1101 = .ok (.if_icmp .eq 346, 3) := by decide +kernel
theorem dL_law_1104 : decode cL_law 1104 = .ok (.iconst 0, 1) := by decide +kernel
theorem dL_law_1105 : decode cL_law 1105 = .ok (.ireturn, 1) := by decide +kernel
theorem dL_law_1106 : decode cL_law 1106 = .ok (.aload_n 1, 1) := by decide +kernel
theorem dL_law_1107 : decode cL_law 1107 = .ok (.invokevirtual 151, 3) := by decide +kernel
theorem dL_law_1110 : decode cL_law 1110 = .ok (.aload_n 2, 1) := by decide +kernel
theorem dL_law_1111 : decode cL_law 1111 = .ok (.invokevirtual 154, 3) := by decide +kernel
theorem dL_law_1114 : decode cL_law 1114 = .ok (.if_icmp .eq 333, 3) := by decide +kernel
theorem dL_law_1117 : decode cL_law 1117 = .ok (.iconst 0, 1) := by decide +kernel
theorem dL_law_1118 : decode cL_law 1118 = .ok (.ireturn, 1) := by decide +kernel
theorem dL_law_1119 : decode cL_law 1119 = .ok (.aload_n 1, 1) := by decide +kernel
theorem dL_law_1120 : decode cL_law 1120 = .ok (.aload_n 0, 1) := by decide +kernel
theorem dL_law_1121 : decode cL_law 1121 = .ok (.iload_n 3, 1) := by decide +kernel
theorem dL_law_1122 : decode cL_law 1122 = .ok (.iconst 1, 1) := by decide +kernel
theorem dL_law_1123 : decode cL_law 1123 = .ok (.iadd, 1) := by decide +kernel
theorem dL_law_1124 : decode cL_law 1124 = .ok (.iaload, 1) := by decide +kernel
theorem dL_law_1125 : decode cL_law 1125 = .ok (.invokevirtual 155, 3) := by decide +kernel
theorem dL_law_1128 : decode cL_law 1128 = .ok (.aload_n 2, 1) := by decide +kernel
theorem dL_law_1129 : decode cL_law 1129 = .ok (.aload_n 0, 1) := by decide +kernel
theorem dL_law_1130 : decode cL_law 1130 = .ok (.iload_n 3, 1) := by decide +kernel
theorem dL_law_1131 : decode cL_law 1131 = .ok (.iconst 1, 1) := by decide +kernel
theorem dL_law_1132 : decode cL_law 1132 = .ok (.iadd, 1) := by decide +kernel
theorem dL_law_1133 : decode cL_law 1133 = .ok (.iaload, 1) := by decide +kernel
theorem dL_law_1134 : decode cL_law 1134 = .ok (.invokevirtual 158, 3) := by decide +kernel
theorem dL_law_1137 : decode cL_law 1137 = .ok (.if_icmp .eq 310, 3) := by decide +kernel
theorem dL_law_1140 : decode cL_law 1140 = .ok (.iconst 0, 1) := by decide +kernel
theorem dL_law_1141 : decode cL_law 1141 = .ok (.ireturn, 1) := by decide +kernel
theorem dL_law_1142 : decode cL_law 1142 = .ok (.aload_n 1, 1) := by decide +kernel
theorem dL_law_1143 : decode cL_law 1143 = .ok (.aload_n 0, 1) := by decide +kernel
theorem dL_law_1144 : decode cL_law 1144 = .ok (.iload_n 3, 1) := by decide +kernel
theorem dL_law_1145 : decode cL_law 1145 = .ok (.iconst 1, 1) := by decide +kernel
theorem dL_law_1146 : decode cL_law 1146 = .ok (.iadd, 1) := by decide +kernel
theorem dL_law_1147 : decode cL_law 1147 = .ok (.iaload, 1) := by decide +kernel
theorem dL_law_1148 : decode cL_law 1148 = .ok (.invokevirtual 159, 3) := by decide +kernel
theorem dL_law_1151 : decode cL_law 1151 = .ok (.aload_n 2, 1) := by decide +kernel
theorem dL_law_1152 : decode cL_law 1152 = .ok (.aload_n 0, 1) := by decide +kernel
theorem dL_law_1153 : decode cL_law 1153 = .ok (.iload_n 3, 1) := by decide +kernel
theorem dL_law_1154 : decode cL_law 1154 = .ok (.iconst 1, 1) := by decide +kernel
theorem dL_law_1155 : decode cL_law 1155 = .ok (.iadd, 1) := by decide +kernel
theorem dL_law_1156 : decode cL_law 1156 = .ok (.iaload, 1) := by decide +kernel
theorem dL_law_1157 : decode cL_law 1157 = .ok (.invokevirtual 162, 3) := by decide +kernel
theorem dL_law_1160 : decode cL_law 1160 = .ok (.if_icmp .eq 287, 3) := by decide +kernel
theorem dL_law_1163 : decode cL_law 1163 = .ok (.iconst 0, 1) := by decide +kernel
theorem dL_law_1164 : decode cL_law 1164 = .ok (.ireturn, 1) := by decide +kernel
theorem dL_law_1165 : decode cL_law 1165 = .ok (.aload_n 1, 1) := by decide +kernel
theorem dL_law_1166 : decode cL_law 1166 = .ok (.invokevirtual 163, 3) := by decide +kernel
theorem dL_law_1169 : decode cL_law 1169 = .ok (.aload_n 2, 1) := by decide +kernel
theorem dL_law_1170 : decode cL_law 1170 = .ok (.invokevirtual 166, 3) := by decide +kernel
theorem dL_law_1173 : decode cL_law 1173 = .ok (.if_icmp .eq 274, 3) := by decide +kernel
theorem dL_law_1176 : decode cL_law 1176 = .ok (.iconst 0, 1) := by decide +kernel
theorem dL_law_1177 : decode cL_law 1177 = .ok (.ireturn, 1) := by decide +kernel
theorem dL_law_1178 : decode cL_law 1178 = .ok (.aload_n 1, 1) := by decide +kernel
theorem dL_law_1179 : decode cL_law 1179 = .ok (.invokevirtual 167, 3) := by decide +kernel
theorem dL_law_1182 : decode cL_law 1182 = .ok (.aload_n 2, 1) := by decide +kernel
theorem dL_law_1183 : decode cL_law 1183 = .ok (.invokevirtual 170, 3) := by decide +kernel
theorem dL_law_1186 : decode cL_law 1186 = .ok (.if_icmp .eq 261, 3) := by decide +kernel
theorem dL_law_1189 : decode cL_law 1189 = .ok (.iconst 0, 1) := by decide +kernel
theorem dL_law_1190 : decode cL_law 1190 = .ok (.ireturn, 1) := by decide +kernel
theorem dL_law_1191 : decode cL_law 1191 = .ok (.aload_n 1, 1) := by decide +kernel
theorem dL_law_1192 : decode cL_law 1192 = .ok (.invokevirtual 171, 3) := by decide +kernel
theorem dL_law_1195 : decode cL_law 1195 = .ok (.aload_n 2, 1) := by decide +kernel
theorem dL_law_1196 : decode cL_law 1196 = .ok (.invokevirtual 174, 3) := by decide +kernel
theorem dL_law_1199 : decode cL_law 1199 = .ok (.if_icmp .eq 248, 3) := by decide +kernel
theorem dL_law_1202 : decode cL_law 1202 = .ok (.iconst 0, 1) := by decide +kernel
theorem dL_law_1203 : decode cL_law 1203 = .ok (.ireturn, 1) := by decide +kernel
theorem dL_law_1204 : decode cL_law 1204 = .ok (.aload_n 1, 1) := by decide +kernel
theorem dL_law_1205 : decode cL_law 1205 = .ok (.invokevirtual 175, 3) := by decide +kernel
theorem dL_law_1208 : decode cL_law 1208 = .ok (.aload_n 2, 1) := by decide +kernel
theorem dL_law_1209 : decode cL_law 1209 = .ok (.invokevirtual 178, 3) := by decide +kernel
theorem dL_law_1212 : decode cL_law 1212 = .ok (.if_icmp .eq 235, 3) := by decide +kernel
theorem dL_law_1215 : decode cL_law 1215 = .ok (.iconst 0, 1) := by decide +kernel
theorem dL_law_1216 : decode cL_law 1216 = .ok (.ireturn, 1) := by decide +kernel
theorem dL_law_1217 : decode cL_law 1217 = .ok (.aload_n 1, 1) := by decide +kernel
theorem dL_law_1218 : decode cL_law 1218 = .ok (.aload_n 0, 1) := by decide +kernel
theorem dL_law_1219 : decode cL_law 1219 = .ok (.iload_n 3, 1) := by decide +kernel
theorem dL_law_1220 : decode cL_law 1220 = .ok (.iconst 1, 1) := by decide +kernel
theorem dL_law_1221 : decode cL_law 1221 = .ok (.iadd, 1) := by decide +kernel
theorem dL_law_1222 : decode cL_law 1222 = .ok (.iaload, 1) := by decide +kernel
theorem dL_law_1223 : decode cL_law 1223 = .ok (.invokevirtual 179, 3) := by decide +kernel
theorem dL_law_1226 : decode cL_law 1226 = .ok (.aload_n 2, 1) := by decide +kernel
theorem dL_law_1227 : decode cL_law 1227 = .ok (.aload_n 0, 1) := by decide +kernel
theorem dL_law_1228 : decode cL_law 1228 = .ok (.iload_n 3, 1) := by decide +kernel
theorem dL_law_1229 : decode cL_law 1229 = .ok (.iconst 1, 1) := by decide +kernel
theorem dL_law_1230 : decode cL_law 1230 = .ok (.iadd, 1) := by decide +kernel
theorem dL_law_1231 : decode cL_law 1231 = .ok (.iaload, 1) := by decide +kernel
theorem dL_law_1232 : decode cL_law 1232 = .ok (.invokevirtual 182, 3) := by decide +kernel
theorem dL_law_1235 : decode cL_law 1235 = .ok (.if_icmp .eq 212, 3) := by decide +kernel
theorem dL_law_1238 : decode cL_law 1238 = .ok (.iconst 0, 1) := by decide +kernel
theorem dL_law_1239 : decode cL_law 1239 = .ok (.ireturn, 1) := by decide +kernel
theorem dL_law_1240 : decode cL_law 1240 = .ok (.aload_n 1, 1) := by decide +kernel
theorem dL_law_1241 : decode cL_law 1241 = .ok (.aload_n 0, 1) := by decide +kernel
theorem dL_law_1242 : decode cL_law 1242 = .ok (.iload_n 3, 1) := by decide +kernel
theorem dL_law_1243 : decode cL_law 1243 = .ok (.iconst 1, 1) := by decide +kernel
theorem dL_law_1244 : decode cL_law 1244 = .ok (.iadd, 1) := by decide +kernel
theorem dL_law_1245 : decode cL_law 1245 = .ok (.iaload, 1) := by decide +kernel
theorem dL_law_1246 : decode cL_law 1246 = .ok (.aload_n 0, 1) := by decide +kernel
theorem dL_law_1247 : decode cL_law 1247 = .ok (.iload_n 3, 1) := by decide +kernel
theorem dL_law_1248 : decode cL_law 1248 = .ok (.iconst 2, 1) := by decide +kernel
theorem dL_law_1249 : decode cL_law 1249 = .ok (.iadd, 1) := by decide +kernel
theorem dL_law_1250 : decode cL_law 1250 = .ok (.iaload, 1) := by decide +kernel
theorem dL_law_1251 : decode cL_law 1251 = .ok (.invokevirtual 183, 3) := by decide +kernel
theorem dL_law_1254 : decode cL_law 1254 = .ok (.aload_n 2, 1) := by decide +kernel
theorem dL_law_1255 : decode cL_law 1255 = .ok (.aload_n 0, 1) := by decide +kernel
theorem dL_law_1256 : decode cL_law 1256 = .ok (.iload_n 3, 1) := by decide +kernel
theorem dL_law_1257 : decode cL_law 1257 = .ok (.iconst 1, 1) := by decide +kernel
theorem dL_law_1258 : decode cL_law 1258 = .ok (.iadd, 1) := by decide +kernel
theorem dL_law_1259 : decode cL_law 1259 = .ok (.iaload, 1) := by decide +kernel
theorem dL_law_1260 : decode cL_law 1260 = .ok (.aload_n 0, 1) := by decide +kernel
theorem dL_law_1261 : decode cL_law 1261 = .ok (.iload_n 3, 1) := by decide +kernel
theorem dL_law_1262 : decode cL_law 1262 = .ok (.iconst 2, 1) := by decide +kernel
theorem dL_law_1263 : decode cL_law 1263 = .ok (.iadd, 1) := by decide +kernel
theorem dL_law_1264 : decode cL_law 1264 = .ok (.iaload, 1) := by decide +kernel
theorem dL_law_1265 : decode cL_law 1265 = .ok (.invokevirtual 186, 3) := by decide +kernel
theorem dL_law_1268 : decode cL_law 1268 = .ok (.if_icmp .eq 179, 3) := by decide +kernel
theorem dL_law_1271 : decode cL_law 1271 = .ok (.iconst 0, 1) := by decide +kernel
theorem dL_law_1272 : decode cL_law 1272 = .ok (.ireturn, 1) := by decide +kernel
theorem dL_law_1273 : decode cL_law 1273 = .ok (.aload_n 1, 1) := by decide +kernel
theorem dL_law_1274 : decode cL_law 1274 = .ok (.aload_n 0, 1) := by decide +kernel
theorem dL_law_1275 : decode cL_law 1275 = .ok (.iload_n 3, 1) := by decide +kernel
theorem dL_law_1276 : decode cL_law 1276 = .ok (.iconst 1, 1) := by decide +kernel
theorem dL_law_1277 : decode cL_law 1277 = .ok (.iadd, 1) := by decide +kernel
theorem dL_law_1278 : decode cL_law 1278 = .ok (.iaload, 1) := by decide +kernel
theorem dL_law_1279 : decode cL_law 1279 = .ok (.aload_n 0, 1) := by decide +kernel
theorem dL_law_1280 : decode cL_law 1280 = .ok (.iload_n 3, 1) := by decide +kernel
theorem dL_law_1281 : decode cL_law 1281 = .ok (.iconst 2, 1) := by decide +kernel
theorem dL_law_1282 : decode cL_law 1282 = .ok (.iadd, 1) := by decide +kernel
theorem dL_law_1283 : decode cL_law 1283 = .ok (.iaload, 1) := by decide +kernel
theorem dL_law_1284 : decode cL_law 1284 = .ok (.invokevirtual 187, 3) := by decide +kernel
theorem dL_law_1287 : decode cL_law 1287 = .ok (.aload_n 2, 1) := by decide +kernel
theorem dL_law_1288 : decode cL_law 1288 = .ok (.aload_n 0, 1) := by decide +kernel
theorem dL_law_1289 : decode cL_law 1289 = .ok (.iload_n 3, 1) := by decide +kernel
theorem dL_law_1290 : decode cL_law 1290 = .ok (.iconst 1, 1) := by decide +kernel
theorem dL_law_1291 : decode cL_law 1291 = .ok (.iadd, 1) := by decide +kernel
theorem dL_law_1292 : decode cL_law 1292 = .ok (.iaload, 1) := by decide +kernel
theorem dL_law_1293 : decode cL_law 1293 = .ok (.aload_n 0, 1) := by decide +kernel
theorem dL_law_1294 : decode cL_law 1294 = .ok (.iload_n 3, 1) := by decide +kernel
theorem dL_law_1295 : decode cL_law 1295 = .ok (.iconst 2, 1) := by decide +kernel
theorem dL_law_1296 : decode cL_law 1296 = .ok (.iadd, 1) := by decide +kernel
theorem dL_law_1297 : decode cL_law 1297 = .ok (.iaload, 1) := by decide +kernel
theorem dL_law_1298 : decode cL_law 1298 = .ok (.invokevirtual 190, 3) := by decide +kernel
theorem dL_law_1301 : decode cL_law 1301 = .ok (.if_icmp .eq 146, 3) := by decide +kernel
theorem dL_law_1304 : decode cL_law 1304 = .ok (.iconst 0, 1) := by decide +kernel
theorem dL_law_1305 : decode cL_law 1305 = .ok (.ireturn, 1) := by decide +kernel
theorem dL_law_1306 : decode cL_law 1306 = .ok (.aload_n 1, 1) := by decide +kernel
theorem dL_law_1307 : decode cL_law 1307 = .ok (.aload_n 0, 1) := by decide +kernel
theorem dL_law_1308 : decode cL_law 1308 = .ok (.iload_n 3, 1) := by decide +kernel
theorem dL_law_1309 : decode cL_law 1309 = .ok (.iconst 1, 1) := by decide +kernel
theorem dL_law_1310 : decode cL_law 1310 = .ok (.iadd, 1) := by decide +kernel
theorem dL_law_1311 : decode cL_law 1311 = .ok (.iaload, 1) := by decide +kernel
theorem dL_law_1312 : decode cL_law 1312 = .ok (.invokevirtual 191, 3) := by decide +kernel
theorem dL_law_1315 : decode cL_law 1315 = .ok (.aload_n 2, 1) := by decide +kernel
theorem dL_law_1316 : decode cL_law 1316 = .ok (.aload_n 0, 1) := by decide +kernel
theorem dL_law_1317 : decode cL_law 1317 = .ok (.iload_n 3, 1) := by decide +kernel
theorem dL_law_1318 : decode cL_law 1318 = .ok (.iconst 1, 1) := by decide +kernel
theorem dL_law_1319 : decode cL_law 1319 = .ok (.iadd, 1) := by decide +kernel
theorem dL_law_1320 : decode cL_law 1320 = .ok (.iaload, 1) := by decide +kernel
theorem dL_law_1321 : decode cL_law 1321 = .ok (.invokevirtual 194, 3) := by decide +kernel
theorem dL_law_1324 : decode cL_law 1324 = .ok (.if_icmp .eq 123, 3) := by decide +kernel
theorem dL_law_1327 : decode cL_law 1327 = .ok (.iconst 0, 1) := by decide +kernel
theorem dL_law_1328 : decode cL_law 1328 = .ok (.ireturn, 1) := by decide +kernel
theorem dL_law_1329 : decode cL_law 1329 = .ok (.aload_n 1, 1) := by decide +kernel
theorem dL_law_1330 : decode cL_law 1330 = .ok (.aload_n 0, 1) := by decide +kernel
theorem dL_law_1331 : decode cL_law 1331 = .ok (.iload_n 3, 1) := by decide +kernel
theorem dL_law_1332 : decode cL_law 1332 = .ok (.iconst 1, 1) := by decide +kernel
theorem dL_law_1333 : decode cL_law 1333 = .ok (.iadd, 1) := by decide +kernel
theorem dL_law_1334 : decode cL_law 1334 = .ok (.iaload, 1) := by decide +kernel
theorem dL_law_1335 : decode cL_law 1335 = .ok (.aload_n 0, 1) := by decide +kernel
theorem dL_law_1336 : decode cL_law 1336 = .ok (.iload_n 3, 1) := by decide +kernel
theorem dL_law_1337 : decode cL_law 1337 = .ok (.iconst 2, 1) := by decide +kernel
theorem dL_law_1338 : decode cL_law 1338 = .ok (.iadd, 1) := by decide +kernel
theorem dL_law_1339 : decode cL_law 1339 = .ok (.iaload, 1) := by decide +kernel
theorem dL_law_1340 : decode cL_law 1340 = .ok (.invokevirtual 195, 3) := by decide +kernel
theorem dL_law_1343 : decode cL_law 1343 = .ok (.aload_n 2, 1) := by decide +kernel
theorem dL_law_1344 : decode cL_law 1344 = .ok (.aload_n 0, 1) := by decide +kernel
theorem dL_law_1345 : decode cL_law 1345 = .ok (.iload_n 3, 1) := by decide +kernel
theorem dL_law_1346 : decode cL_law 1346 = .ok (.iconst 1, 1) := by decide +kernel
theorem dL_law_1347 : decode cL_law 1347 = .ok (.iadd, 1) := by decide +kernel
theorem dL_law_1348 : decode cL_law 1348 = .ok (.iaload, 1) := by decide +kernel
theorem dL_law_1349 : decode cL_law 1349 = .ok (.aload_n 0, 1) := by decide +kernel
theorem dL_law_1350 : decode cL_law 1350 = .ok (.iload_n 3, 1) := by decide +kernel
theorem dL_law_1351 : decode cL_law 1351 = .ok (.iconst 2, 1) := by decide +kernel
theorem dL_law_1352 : decode cL_law 1352 = .ok (.iadd, 1) := by decide +kernel
theorem dL_law_1353 : decode cL_law 1353 = .ok (.iaload, 1) := by decide +kernel
theorem dL_law_1354 : decode cL_law 1354 = .ok (.invokevirtual 198, 3) := by decide +kernel
theorem dL_law_1357 : decode cL_law 1357 = .ok (.if_icmp .eq 90, 3) := by decide +kernel
theorem dL_law_1360 : decode cL_law 1360 = .ok (.iconst 0, 1) := by decide +kernel
theorem dL_law_1361 : decode cL_law 1361 = .ok (.ireturn, 1) := by decide +kernel
theorem dL_law_1362 : decode cL_law 1362 = .ok (.aload_n 1, 1) := by decide +kernel
theorem dL_law_1363 : decode cL_law 1363 = .ok (.invokevirtual 199, 3) := by decide +kernel
theorem dL_law_1366 : decode cL_law 1366 = .ok (.aload_n 2, 1) := by decide +kernel
theorem dL_law_1367 : decode cL_law 1367 = .ok (.invokevirtual 202, 3) := by decide +kernel
theorem dL_law_1370 : decode cL_law 1370 = .ok (.if_icmp .eq 77, 3) := by decide +kernel
theorem dL_law_1373 : decode cL_law 1373 = .ok (.iconst 0, 1) := by decide +kernel
theorem dL_law_1374 : decode cL_law 1374 = .ok (.ireturn, 1) := by decide +kernel
theorem dL_law_1375 : decode cL_law 1375 = .ok (.aload_n 1, 1) := by decide +kernel
theorem dL_law_1376 : decode cL_law 1376 = .ok (.aload_n 0, 1) := by decide +kernel
theorem dL_law_1377 : decode cL_law 1377 = .ok (.iload_n 3, 1) := by decide +kernel
theorem dL_law_1378 : decode cL_law 1378 = .ok (.iconst 1, 1) := by decide +kernel
theorem dL_law_1379 : decode cL_law 1379 = .ok (.iadd, 1) := by decide +kernel
theorem dL_law_1380 : decode cL_law 1380 = .ok (.iaload, 1) := by decide +kernel
theorem dL_law_1381 : decode cL_law 1381 = .ok (.invokevirtual 203, 3) := by decide +kernel
theorem dL_law_1384 : decode cL_law 1384 = .ok (.aload_n 2, 1) := by decide +kernel
theorem dL_law_1385 : decode cL_law 1385 = .ok (.aload_n 0, 1) := by decide +kernel
theorem dL_law_1386 : decode cL_law 1386 = .ok (.iload_n 3, 1) := by decide +kernel
theorem dL_law_1387 : decode cL_law 1387 = .ok (.iconst 1, 1) := by decide +kernel
theorem dL_law_1388 : decode cL_law 1388 = .ok (.iadd, 1) := by decide +kernel
theorem dL_law_1389 : decode cL_law 1389 = .ok (.iaload, 1) := by decide +kernel
theorem dL_law_1390 : decode cL_law 1390 = .ok (.invokevirtual 206, 3) := by decide +kernel
theorem dL_law_1393 : decode cL_law 1393 = .ok (.if_icmp .eq 54, 3) := by decide +kernel
theorem dL_law_1396 : decode cL_law 1396 = .ok (.iconst 0, 1) := by decide +kernel
theorem dL_law_1397 : decode cL_law 1397 = .ok (.ireturn, 1) := by decide +kernel
theorem dL_law_1398 : decode cL_law 1398 = .ok (.aload_n 1, 1) := by decide +kernel
theorem dL_law_1399 : decode cL_law 1399 = .ok (.invokevirtual 207, 3) := by decide +kernel
theorem dL_law_1402 : decode cL_law 1402 = .ok (.aload_n 2, 1) := by decide +kernel
theorem dL_law_1403 : decode cL_law 1403 = .ok (.invokevirtual 210, 3) := by decide +kernel
theorem dL_law_1406 : decode cL_law 1406 = .ok (.if_icmp .eq 41, 3) := by decide +kernel
theorem dL_law_1409 : decode cL_law 1409 = .ok (.iconst 0, 1) := by decide +kernel
theorem dL_law_1410 : decode cL_law 1410 = .ok (.ireturn, 1) := by decide +kernel
theorem dL_law_1411 : decode cL_law 1411 = .ok (.aload_n 1, 1) := by decide +kernel
theorem dL_law_1412 : decode cL_law 1412 = .ok (.invokevirtual 211, 3) := by decide +kernel
theorem dL_law_1415 : decode cL_law 1415 = .ok (.aload_n 2, 1) := by decide +kernel
theorem dL_law_1416 : decode cL_law 1416 = .ok (.invokevirtual 214, 3) := by decide +kernel
theorem dL_law_1419 : decode cL_law 1419 = .ok (.if_icmp .eq 28, 3) := by decide +kernel
theorem dL_law_1422 : decode cL_law 1422 = .ok (.iconst 0, 1) := by decide +kernel
theorem dL_law_1423 : decode cL_law 1423 = .ok (.ireturn, 1) := by decide +kernel
theorem dL_law_1424 : decode cL_law 1424 = .ok (.aload_n 1, 1) := by decide +kernel
theorem dL_law_1425 : decode cL_law 1425 = .ok (.aload_n 0, 1) := by decide +kernel
theorem dL_law_1426 : decode cL_law 1426 = .ok (.iload_n 3, 1) := by decide +kernel
theorem dL_law_1427 : decode cL_law 1427 = .ok (.iconst 1, 1) := by decide +kernel
theorem dL_law_1428 : decode cL_law 1428 = .ok (.iadd, 1) := by decide +kernel
theorem dL_law_1429 : decode cL_law 1429 = .ok (.iaload, 1) := by decide +kernel
theorem dL_law_1430 : decode cL_law 1430 = .ok (.invokevirtual 215, 3) := by decide +kernel
theorem dL_law_1433 : decode cL_law 1433 = .ok (.aload_n 2, 1) := by decide +kernel
theorem dL_law_1434 : decode cL_law 1434 = .ok (.aload_n 0, 1) := by decide +kernel
theorem dL_law_1435 : decode cL_law 1435 = .ok (.iload_n 3, 1) := by decide +kernel
theorem dL_law_1436 : decode cL_law 1436 = .ok (.iconst 1, 1) := by decide +kernel
theorem dL_law_1437 : decode cL_law 1437 = .ok (.iadd, 1) := by decide +kernel
theorem dL_law_1438 : decode cL_law 1438 = .ok (.iaload, 1) := by decide +kernel
theorem dL_law_1439 : decode cL_law 1439 = .ok (.invokevirtual 218, 3) := by decide +kernel
theorem dL_law_1442 : decode cL_law 1442 = .ok (.if_icmp .eq 5, 3) := by decide +kernel
theorem dL_law_1445 : decode cL_law 1445 = .ok (.iconst 0, 1) := by decide +kernel
theorem dL_law_1446 : decode cL_law 1446 = .ok (.ireturn, 1) := by decide +kernel
theorem dL_law_1447 : decode cL_law 1447 = .ok (.iinc 3 6, 3) := by decide +kernel
theorem dL_law_1450 : decode cL_law 1450 = .ok (.goto (-1432), 3) := by decide +kernel
theorem dL_law_1453 : decode cL_law 1453 = .ok (.iconst 1, 1) := by decide +kernel
theorem dL_law_1454 : decode cL_law 1454 = .ok (.ireturn, 1) := by decide +kernel
def xbn (x : Int32) : Int32 := if x = 0 then 0 else 1
section LAR
variable {p : Program} {l : Launch} {e : Env} {R : Room} {s : State} {m : MethodId} {args : Array Value} {below : List Frame} {meth : Method} {c : Code} {H : Heap} {locs : List Loc} {cs sl : Nat} {Q : State → Prop} {cc : ByteArray} {nL pc b0 L t : Nat} {own : String} {ret : Option FieldType} {E : xE} {bx : Nat} {ls : Array Slot} {rest : List Value} {xs : Nat → Int32} {v1 v2 : Value}
theorem l_arg (C : xC p s m args meth c cc nL own ret E bx) (hX : va_X b0 L xs s s.heap) (hbl : b0 < s.heap.size) (ht : 6 * t + 6 ≤ L) (hL : L ≤ 3072) (hS : va_S (fun q => s.heap.size ≤ q) s.heap H locs) (hl : lv_has ls 4 [(0, .ref b0), (1, v1), (2, v2), (3, .int (nI (6 * t)))]) {n : Int} (j : Nat) (hj : j < 6) (hn : Int32.ofInt n = nI j) (h1 : decode cc pc = .ok (.aload_n 0, 1)) (h2 : decode cc (pc + 1) = .ok (.iload_n 3, 1)) (h3 : decode cc (pc + 1 + 1) = .ok (.iconst n, 1)) (h4 : decode cc (pc + 1 + 1 + 1) = .ok (.iadd, 1)) (h5 : decode cc (pc + 1 + 1 + 1 + 1) = .ok (.iaload, 1))
    (kk : W p l e R s m args below meth c H locs cs sl Q (F0 m (pc + 1 + 1 + 1 + 1 + 1) ls (.int (xs (6 * t + j)) :: rest))) : W p l e R s m args below meth c H locs cs sl Q (F0 m pc ls rest) := by
  have hx := C.1.1
  have hb := C.1.2.1
  refine lv_aload_n hx hb h1 rfl (lv_at hl 0 rfl) ?_
  refine lv_iload_n hx hb h2 rfl (lv_at hl 3 rfl) ?_
  refine lv_iconst (v := nI j) hx hb h3 hn ?_
  refine lv_iadd hx hb h4 ?_
  rw [nI_add]
  refine va_sld (A := fun q => s.heap.size ≤ q) hx hb hX hbl (Nat.not_le.mpr hbl) hS (vp_in_nI (by omega) (by omega)) h5 ?_
  rw [nI_clamp (by omega)]
  exact kk
end LAR
def sim_feed (Rel : xm → xm → xn → Prop) : Prop := ∀ (MX MY : xm) (LY : xn) (a0 : Int32) (a1 : Int32) (a2 : Int32) (a3 : Int32) (a4 : Int32), Rel MX MY LY → ∃ (r : Int32) (MX' : xm) (MY' : xm), f_X9_feed MX a0 a1 a2 a3 a4 = some (r, MX') ∧ f_X10_feed MY a0 a1 a2 a3 a4 = some (r, MY') ∧ Rel MX' MY' LY
set_option maxHeartbeats 4000000 in
theorem law_c0 {p : Program} {l : Launch} {e : Env} {s : State} {m : MethodId} {below : List Frame} {meth : Method} {c : Code} {Q : State → Prop} {E : xE} {bx bY b0 L t : Nat} {xs : Nat → Int32} {cs sl : Nat} (C : xC p s m #[Value.ref b0] meth c cL_law 4 RL (some .boolean) E bx) (hby : bx ≤ bY) (hX : va_X b0 L xs s s.heap) (hbl : b0 < s.heap.size) (ht : 6 * t + 6 ≤ L) (hL : L ≤ 3072) (hcs : cs ≤ 600000 ∧ sl ≤ 7302250) {MX MY : xm} {LY : xn} {H : Heap} {locs : List Loc} {ls : Array Slot} {r : Int32} {MX' : xm} {MY' : xm} (h1 : f_X9_feed MX (xs (6 * t + 1)) (xs (6 * t + 2)) (xs (6 * t + 3)) (xs (6 * t + 4)) (xs (6 * t + 5)) = some (r, MX')) (h2 : f_X10_feed MY (xs (6 * t + 1)) (xs (6 * t + 2)) (xs (6 * t + 3)) (xs (6 * t + 4)) (xs (6 * t + 5)) = some (r, MY')) (hm : lM E bx NX (cX E bx MX) bY NY (cY E bY MY LY) s.heap H locs) (hl : lv_has ls 4 [(0, .ref b0), (1, .ref (bx + 0)), (2, .ref (bY + 0)), (3, .int (nI (6 * t)))])
    (kc : ∀ (H : Heap) (locs : List Loc), lM E bx NX (cX E bx MX') bY NY (cY E bY MY' LY) s.heap H locs → W p l e room_1 s m #[Value.ref b0] below meth c H locs cs sl Q (F0 m 1447 ls [])) :
    W p l e room_1 s m #[Value.ref b0] below meth c H locs cs sl Q (F0 m 244 ls []) := by
  have hx := C.1.1
  have hb := C.1.2.1
  refine lv_aload_n hx hb dL_law_244 rfl (lv_at hl 1 rfl) ?_
  refine l_arg C hX hbl ht hL hm.2.2.1 hl 1 (by decide) (by decide) dL_law_245 dL_law_246 dL_law_247 dL_law_248 dL_law_249 ?_
  refine l_arg C hX hbl ht hL hm.2.2.1 hl 2 (by decide) (by decide) dL_law_250 dL_law_251 dL_law_252 dL_law_253 dL_law_254 ?_
  refine l_arg C hX hbl ht hL hm.2.2.1 hl 3 (by decide) (by decide) dL_law_255 dL_law_256 dL_law_257 dL_law_258 dL_law_259 ?_
  refine l_arg C hX hbl ht hL hm.2.2.1 hl 4 (by decide) (by decide) dL_law_260 dL_law_261 dL_law_262 dL_law_263 dL_law_264 ?_
  refine l_arg C hX hbl ht hL hm.2.2.1 hl 5 (by decide) (by decide) dL_law_265 dL_law_266 dL_law_267 dL_law_268 dL_law_269 ?_
  refine l_callV (k := 0) (As := [.int (xs (6 * t + 1)), .int (xs (6 * t + 2)), .int (xs (6 * t + 3)), .int (xs (6 * t + 4)), .int (xs (6 * t + 5))]) (rest := []) C (Nat.le_refl _) hm (c_X9_feed l E bx MX (xs (6 * t + 1)) (xs (6 * t + 2)) (xs (6 * t + 3)) (xs (6 * t + 4)) (xs (6 * t + 5)) h1) rfl (cx_ColouredHeap LX_top) tc_X9_feed tm_RL_13 ti_X9_feed ts_X9_feed tn_RX9 td_X9_feed rfl rfl ⟨Nat.le_of_ble_eq_true rfl, Nat.le_of_ble_eq_true rfl⟩ rfl hl.1 rfl (Nat.le_of_ble_eq_true rfl) hcs dL_law_270 (fun H locs hm => ?_)
  refine lv_aload_n hx hb dL_law_273 rfl (lv_at hl 2 rfl) ?_
  refine l_arg C hX hbl ht hL hm.2.2.1 hl 1 (by decide) (by decide) dL_law_274 dL_law_275 dL_law_276 dL_law_277 dL_law_278 ?_
  refine l_arg C hX hbl ht hL hm.2.2.1 hl 2 (by decide) (by decide) dL_law_279 dL_law_280 dL_law_281 dL_law_282 dL_law_283 ?_
  refine l_arg C hX hbl ht hL hm.2.2.1 hl 3 (by decide) (by decide) dL_law_284 dL_law_285 dL_law_286 dL_law_287 dL_law_288 ?_
  refine l_arg C hX hbl ht hL hm.2.2.1 hl 4 (by decide) (by decide) dL_law_289 dL_law_290 dL_law_291 dL_law_292 dL_law_293 ?_
  refine l_arg C hX hbl ht hL hm.2.2.1 hl 5 (by decide) (by decide) dL_law_294 dL_law_295 dL_law_296 dL_law_297 dL_law_298 ?_
  refine l_callV (k := 0) (As := [.int (xs (6 * t + 1)), .int (xs (6 * t + 2)), .int (xs (6 * t + 3)), .int (xs (6 * t + 4)), .int (xs (6 * t + 5))]) (rest := [.int r]) C hby hm.sw (c_X10_feed l E bY MY LY (xs (6 * t + 1)) (xs (6 * t + 2)) (xs (6 * t + 3)) (xs (6 * t + 4)) (xs (6 * t + 5)) h2) rfl cy_0 tc_X10_feed tm_RL_17 ti_X10_feed ts_X10_feed tn_RX10 td_X10_feed rfl rfl ⟨Nat.le_of_ble_eq_true rfl, Nat.le_of_ble_eq_true rfl⟩ rfl hl.1 rfl (Nat.le_of_ble_eq_true rfl) hcs dL_law_299 (fun H locs hm => ?_)
  have hm := hm.sw
  exact lv_icmp_eq (tgt := 1447) hx hb dL_law_302 (by decide) (fun _ => kc H locs hm) (fun h => absurd rfl h)
def sim_end (Rel : xm → xm → xn → Prop) : Prop := ∀ (MX MY : xm) (LY : xn) (a0 : Int32), Rel MX MY LY → ∃ (r : Int32) (MX' : xm) (MY' : xm), f_X9_end MX a0 = some (r, MX') ∧ f_X10_end MY a0 = some (r, MY') ∧ Rel MX' MY' LY
set_option maxHeartbeats 4000000 in
theorem law_c1 {p : Program} {l : Launch} {e : Env} {s : State} {m : MethodId} {below : List Frame} {meth : Method} {c : Code} {Q : State → Prop} {E : xE} {bx bY b0 L t : Nat} {xs : Nat → Int32} {cs sl : Nat} (C : xC p s m #[Value.ref b0] meth c cL_law 4 RL (some .boolean) E bx) (hby : bx ≤ bY) (hX : va_X b0 L xs s s.heap) (hbl : b0 < s.heap.size) (ht : 6 * t + 6 ≤ L) (hL : L ≤ 3072) (hcs : cs ≤ 600000 ∧ sl ≤ 7302250) {MX MY : xm} {LY : xn} {H : Heap} {locs : List Loc} {ls : Array Slot} {r : Int32} {MX' : xm} {MY' : xm} (h1 : f_X9_end MX (xs (6 * t + 1)) = some (r, MX')) (h2 : f_X10_end MY (xs (6 * t + 1)) = some (r, MY')) (hm : lM E bx NX (cX E bx MX) bY NY (cY E bY MY LY) s.heap H locs) (hl : lv_has ls 4 [(0, .ref b0), (1, .ref (bx + 0)), (2, .ref (bY + 0)), (3, .int (nI (6 * t)))])
    (kc : ∀ (H : Heap) (locs : List Loc), lM E bx NX (cX E bx MX') bY NY (cY E bY MY' LY) s.heap H locs → W p l e room_1 s m #[Value.ref b0] below meth c H locs cs sl Q (F0 m 1447 ls [])) :
    W p l e room_1 s m #[Value.ref b0] below meth c H locs cs sl Q (F0 m 307 ls []) := by
  have hx := C.1.1
  have hb := C.1.2.1
  refine lv_aload_n hx hb dL_law_307 rfl (lv_at hl 1 rfl) ?_
  refine l_arg C hX hbl ht hL hm.2.2.1 hl 1 (by decide) (by decide) dL_law_308 dL_law_309 dL_law_310 dL_law_311 dL_law_312 ?_
  refine l_callV (k := 0) (As := [.int (xs (6 * t + 1))]) (rest := []) C (Nat.le_refl _) hm (c_X9_end l E bx MX (xs (6 * t + 1)) h1) rfl (cx_ColouredHeap LX_top) tc_X9_end tm_RL_18 ti_X9_end ts_X9_end tn_RX9 td_X9_end rfl rfl ⟨Nat.le_of_ble_eq_true rfl, Nat.le_of_ble_eq_true rfl⟩ rfl hl.1 rfl (Nat.le_of_ble_eq_true rfl) hcs dL_law_313 (fun H locs hm => ?_)
  refine lv_aload_n hx hb dL_law_316 rfl (lv_at hl 2 rfl) ?_
  refine l_arg C hX hbl ht hL hm.2.2.1 hl 1 (by decide) (by decide) dL_law_317 dL_law_318 dL_law_319 dL_law_320 dL_law_321 ?_
  refine l_callV (k := 0) (As := [.int (xs (6 * t + 1))]) (rest := [.int r]) C hby hm.sw (c_X10_end l E bY MY LY (xs (6 * t + 1)) h2) rfl cy_0 tc_X10_end tm_RL_22 ti_X10_end ts_X10_end tn_RX10 td_X10_end rfl rfl ⟨Nat.le_of_ble_eq_true rfl, Nat.le_of_ble_eq_true rfl⟩ rfl hl.1 rfl (Nat.le_of_ble_eq_true rfl) hcs dL_law_322 (fun H locs hm => ?_)
  have hm := hm.sw
  exact lv_icmp_eq (tgt := 1447) hx hb dL_law_325 (by decide) (fun _ => kc H locs hm) (fun h => absurd rfl h)
def sim_text (Rel : xm → xm → xn → Prop) : Prop := ∀ (MX MY : xm) (LY : xn), Rel MX MY LY → ∃ (r : Int32) (MX' : xm) (MY' : xm) (LY' : xn), f_X9_text MX = some (r, MX') ∧ f_X10_text MY LY = some (r, MY', LY') ∧ Rel MX' MY' LY'
set_option maxHeartbeats 4000000 in
theorem law_c2 {p : Program} {l : Launch} {e : Env} {s : State} {m : MethodId} {below : List Frame} {meth : Method} {c : Code} {Q : State → Prop} {E : xE} {bx bY b0 L t : Nat} {xs : Nat → Int32} {cs sl : Nat} (C : xC p s m #[Value.ref b0] meth c cL_law 4 RL (some .boolean) E bx) (hby : bx ≤ bY) (hX : va_X b0 L xs s s.heap) (hbl : b0 < s.heap.size) (ht : 6 * t + 6 ≤ L) (hL : L ≤ 3072) (hcs : cs ≤ 600000 ∧ sl ≤ 7302250) {MX MY : xm} {LY : xn} {H : Heap} {locs : List Loc} {ls : Array Slot} {r : Int32} {MX' : xm} {MY' : xm} {LY' : xn} (h1 : f_X9_text MX = some (r, MX')) (h2 : f_X10_text MY LY = some (r, MY', LY')) (hm : lM E bx NX (cX E bx MX) bY NY (cY E bY MY LY) s.heap H locs) (hl : lv_has ls 4 [(0, .ref b0), (1, .ref (bx + 0)), (2, .ref (bY + 0)), (3, .int (nI (6 * t)))])
    (kc : ∀ (H : Heap) (locs : List Loc), lM E bx NX (cX E bx MX') bY NY (cY E bY MY' LY') s.heap H locs → W p l e room_1 s m #[Value.ref b0] below meth c H locs cs sl Q (F0 m 1447 ls [])) :
    W p l e room_1 s m #[Value.ref b0] below meth c H locs cs sl Q (F0 m 330 ls []) := by
  have hx := C.1.1
  have hb := C.1.2.1
  refine lv_aload_n hx hb dL_law_330 rfl (lv_at hl 1 rfl) ?_
  refine l_callV (k := 0) (As := []) (rest := []) C (Nat.le_refl _) hm (c_X9_text l E bx MX  h1) rfl (cx_ColouredHeap LX_top) tc_X9_text tm_RL_23 ti_X9_text ts_X9_text tn_RX9 td_X9_text rfl rfl ⟨Nat.le_of_ble_eq_true rfl, Nat.le_of_ble_eq_true rfl⟩ rfl hl.1 rfl (Nat.le_of_ble_eq_true rfl) hcs dL_law_331 (fun H locs hm => ?_)
  refine lv_aload_n hx hb dL_law_334 rfl (lv_at hl 2 rfl) ?_
  refine l_callV (k := 0) (As := []) (rest := [.int r]) C hby hm.sw (c_X10_text l E bY MY LY  h2) rfl cy_0 tc_X10_text tm_RL_27 ti_X10_text ts_X10_text tn_RX10 td_X10_text rfl rfl ⟨Nat.le_of_ble_eq_true rfl, Nat.le_of_ble_eq_true rfl⟩ rfl hl.1 rfl (Nat.le_of_ble_eq_true rfl) hcs dL_law_335 (fun H locs hm => ?_)
  have hm := hm.sw
  exact lv_icmp_eq (tgt := 1447) hx hb dL_law_338 (by decide) (fun _ => kc H locs hm) (fun h => absurd rfl h)
def sim_fault (Rel : xm → xm → xn → Prop) : Prop := ∀ (MX MY : xm) (LY : xn) (a0 : Int32), Rel MX MY LY → ∃ (r : Int32), f_X9_fault MX a0 = r ∧ f_X10_fault MY a0 = r ∧ Rel MX MY LY
set_option maxHeartbeats 4000000 in
theorem law_c3 {p : Program} {l : Launch} {e : Env} {s : State} {m : MethodId} {below : List Frame} {meth : Method} {c : Code} {Q : State → Prop} {E : xE} {bx bY b0 L t : Nat} {xs : Nat → Int32} {cs sl : Nat} (C : xC p s m #[Value.ref b0] meth c cL_law 4 RL (some .boolean) E bx) (hby : bx ≤ bY) (hX : va_X b0 L xs s s.heap) (hbl : b0 < s.heap.size) (ht : 6 * t + 6 ≤ L) (hL : L ≤ 3072) (hcs : cs ≤ 600000 ∧ sl ≤ 7302250) {MX MY : xm} {LY : xn} {H : Heap} {locs : List Loc} {ls : Array Slot} {r : Int32} (h1 : f_X9_fault MX (xs (6 * t + 1)) = r) (h2 : f_X10_fault MY (xs (6 * t + 1)) = r) (hm : lM E bx NX (cX E bx MX) bY NY (cY E bY MY LY) s.heap H locs) (hl : lv_has ls 4 [(0, .ref b0), (1, .ref (bx + 0)), (2, .ref (bY + 0)), (3, .int (nI (6 * t)))])
    (kc : ∀ (H : Heap) (locs : List Loc), lM E bx NX (cX E bx MX) bY NY (cY E bY MY LY) s.heap H locs → W p l e room_1 s m #[Value.ref b0] below meth c H locs cs sl Q (F0 m 1447 ls [])) :
    W p l e room_1 s m #[Value.ref b0] below meth c H locs cs sl Q (F0 m 343 ls []) := by
  have hx := C.1.1
  have hb := C.1.2.1
  refine lv_aload_n hx hb dL_law_343 rfl (lv_at hl 1 rfl) ?_
  refine l_arg C hX hbl ht hL hm.2.2.1 hl 1 (by decide) (by decide) dL_law_344 dL_law_345 dL_law_346 dL_law_347 dL_law_348 ?_
  refine l_callV (k := 0) (As := [.int (xs (6 * t + 1))]) (rest := []) C (Nat.le_refl _) hm (c_X9_fault l E bx MX (xs (6 * t + 1)) h1) rfl (cx_ColouredHeap LX_top) tc_X9_fault tm_RL_28 ti_X9_fault ts_X9_fault tn_RX9 td_X9_fault rfl rfl ⟨Nat.le_of_ble_eq_true rfl, Nat.le_of_ble_eq_true rfl⟩ rfl hl.1 rfl (Nat.le_of_ble_eq_true rfl) hcs dL_law_349 (fun H locs hm => ?_)
  refine lv_aload_n hx hb dL_law_352 rfl (lv_at hl 2 rfl) ?_
  refine l_arg C hX hbl ht hL hm.2.2.1 hl 1 (by decide) (by decide) dL_law_353 dL_law_354 dL_law_355 dL_law_356 dL_law_357 ?_
  refine l_callV (k := 0) (As := [.int (xs (6 * t + 1))]) (rest := [.int r]) C hby hm.sw (c_X10_fault l E bY MY LY (xs (6 * t + 1)) h2) rfl cy_0 tc_X10_fault tm_RL_31 ti_X10_fault ts_X10_fault tn_RX10 td_X10_fault rfl rfl ⟨Nat.le_of_ble_eq_true rfl, Nat.le_of_ble_eq_true rfl⟩ rfl hl.1 rfl (Nat.le_of_ble_eq_true rfl) hcs dL_law_358 (fun H locs hm => ?_)
  have hm := hm.sw
  exact lv_icmp_eq (tgt := 1447) hx hb dL_law_361 (by decide) (fun _ => kc H locs hm) (fun h => absurd rfl h)
def sim_by (Rel : xm → xm → xn → Prop) : Prop := ∀ (MX MY : xm) (LY : xn) (a0 : Int32), Rel MX MY LY → ∃ (r : Int32) (MX' : xm) (MY' : xm), f_X9_by MX a0 = some (r, MX') ∧ f_X10_by MY a0 = some (r, MY') ∧ Rel MX' MY' LY
set_option maxHeartbeats 4000000 in
theorem law_c4 {p : Program} {l : Launch} {e : Env} {s : State} {m : MethodId} {below : List Frame} {meth : Method} {c : Code} {Q : State → Prop} {E : xE} {bx bY b0 L t : Nat} {xs : Nat → Int32} {cs sl : Nat} (C : xC p s m #[Value.ref b0] meth c cL_law 4 RL (some .boolean) E bx) (hby : bx ≤ bY) (hX : va_X b0 L xs s s.heap) (hbl : b0 < s.heap.size) (ht : 6 * t + 6 ≤ L) (hL : L ≤ 3072) (hcs : cs ≤ 600000 ∧ sl ≤ 7302250) {MX MY : xm} {LY : xn} {H : Heap} {locs : List Loc} {ls : Array Slot} {r : Int32} {MX' : xm} {MY' : xm} (h1 : f_X9_by MX (xs (6 * t + 1)) = some (r, MX')) (h2 : f_X10_by MY (xs (6 * t + 1)) = some (r, MY')) (hm : lM E bx NX (cX E bx MX) bY NY (cY E bY MY LY) s.heap H locs) (hl : lv_has ls 4 [(0, .ref b0), (1, .ref (bx + 0)), (2, .ref (bY + 0)), (3, .int (nI (6 * t)))])
    (kc : ∀ (H : Heap) (locs : List Loc), lM E bx NX (cX E bx MX') bY NY (cY E bY MY' LY) s.heap H locs → W p l e room_1 s m #[Value.ref b0] below meth c H locs cs sl Q (F0 m 1447 ls [])) :
    W p l e room_1 s m #[Value.ref b0] below meth c H locs cs sl Q (F0 m 366 ls []) := by
  have hx := C.1.1
  have hb := C.1.2.1
  refine lv_aload_n hx hb dL_law_366 rfl (lv_at hl 1 rfl) ?_
  refine l_arg C hX hbl ht hL hm.2.2.1 hl 1 (by decide) (by decide) dL_law_367 dL_law_368 dL_law_369 dL_law_370 dL_law_371 ?_
  refine l_callV (k := 0) (As := [.int (xs (6 * t + 1))]) (rest := []) C (Nat.le_refl _) hm (c_X9_by l E bx MX (xs (6 * t + 1)) h1) rfl (cx_ColouredHeap LX_top) tc_X9_by tm_RL_32 ti_X9_by ts_X9_by tn_RX9 td_X9_by rfl rfl ⟨Nat.le_of_ble_eq_true rfl, Nat.le_of_ble_eq_true rfl⟩ rfl hl.1 rfl (Nat.le_of_ble_eq_true rfl) hcs dL_law_372 (fun H locs hm => ?_)
  refine lv_aload_n hx hb dL_law_375 rfl (lv_at hl 2 rfl) ?_
  refine l_arg C hX hbl ht hL hm.2.2.1 hl 1 (by decide) (by decide) dL_law_376 dL_law_377 dL_law_378 dL_law_379 dL_law_380 ?_
  refine l_callV (k := 0) (As := [.int (xs (6 * t + 1))]) (rest := [.int r]) C hby hm.sw (c_X10_by l E bY MY LY (xs (6 * t + 1)) h2) rfl cy_0 tc_X10_by tm_RL_36 ti_X10_by ts_X10_by tn_RX10 td_X10_by rfl rfl ⟨Nat.le_of_ble_eq_true rfl, Nat.le_of_ble_eq_true rfl⟩ rfl hl.1 rfl (Nat.le_of_ble_eq_true rfl) hcs dL_law_381 (fun H locs hm => ?_)
  have hm := hm.sw
  exact lv_icmp_eq (tgt := 1447) hx hb dL_law_384 (by decide) (fun _ => kc H locs hm) (fun h => absurd rfl h)
def sim_make (Rel : xm → xm → xn → Prop) : Prop := ∀ (MX MY : xm) (LY : xn) (a0 : Int32) (a1 : Int32), Rel MX MY LY → ∃ (r : Int32) (MX' : xm) (MY' : xm) (LY' : xn), f_X9_make MX a0 a1 = some (r, MX') ∧ f_X10_make MY LY a0 a1 = some (r, MY', LY') ∧ Rel MX' MY' LY'
set_option maxHeartbeats 4000000 in
theorem law_c5 {p : Program} {l : Launch} {e : Env} {s : State} {m : MethodId} {below : List Frame} {meth : Method} {c : Code} {Q : State → Prop} {E : xE} {bx bY b0 L t : Nat} {xs : Nat → Int32} {cs sl : Nat} (C : xC p s m #[Value.ref b0] meth c cL_law 4 RL (some .boolean) E bx) (hby : bx ≤ bY) (hX : va_X b0 L xs s s.heap) (hbl : b0 < s.heap.size) (ht : 6 * t + 6 ≤ L) (hL : L ≤ 3072) (hcs : cs ≤ 600000 ∧ sl ≤ 7302250) {MX MY : xm} {LY : xn} {H : Heap} {locs : List Loc} {ls : Array Slot} {r : Int32} {MX' : xm} {MY' : xm} {LY' : xn} (h1 : f_X9_make MX (xs (6 * t + 1)) (xs (6 * t + 2)) = some (r, MX')) (h2 : f_X10_make MY LY (xs (6 * t + 1)) (xs (6 * t + 2)) = some (r, MY', LY')) (hm : lM E bx NX (cX E bx MX) bY NY (cY E bY MY LY) s.heap H locs) (hl : lv_has ls 4 [(0, .ref b0), (1, .ref (bx + 0)), (2, .ref (bY + 0)), (3, .int (nI (6 * t)))])
    (kc : ∀ (H : Heap) (locs : List Loc), lM E bx NX (cX E bx MX') bY NY (cY E bY MY' LY') s.heap H locs → W p l e room_1 s m #[Value.ref b0] below meth c H locs cs sl Q (F0 m 1447 ls [])) :
    W p l e room_1 s m #[Value.ref b0] below meth c H locs cs sl Q (F0 m 389 ls []) := by
  have hx := C.1.1
  have hb := C.1.2.1
  refine lv_aload_n hx hb dL_law_389 rfl (lv_at hl 1 rfl) ?_
  refine l_arg C hX hbl ht hL hm.2.2.1 hl 1 (by decide) (by decide) dL_law_390 dL_law_391 dL_law_392 dL_law_393 dL_law_394 ?_
  refine l_arg C hX hbl ht hL hm.2.2.1 hl 2 (by decide) (by decide) dL_law_395 dL_law_396 dL_law_397 dL_law_398 dL_law_399 ?_
  refine l_callV (k := 0) (As := [.int (xs (6 * t + 1)), .int (xs (6 * t + 2))]) (rest := []) C (Nat.le_refl _) hm (c_X9_make l E bx MX (xs (6 * t + 1)) (xs (6 * t + 2)) h1) rfl (cx_ColouredHeap LX_top) tc_X9_make tm_RL_37 ti_X9_make ts_X9_make tn_RX9 td_X9_make rfl rfl ⟨Nat.le_of_ble_eq_true rfl, Nat.le_of_ble_eq_true rfl⟩ rfl hl.1 rfl (Nat.le_of_ble_eq_true rfl) hcs dL_law_400 (fun H locs hm => ?_)
  refine lv_aload_n hx hb dL_law_403 rfl (lv_at hl 2 rfl) ?_
  refine l_arg C hX hbl ht hL hm.2.2.1 hl 1 (by decide) (by decide) dL_law_404 dL_law_405 dL_law_406 dL_law_407 dL_law_408 ?_
  refine l_arg C hX hbl ht hL hm.2.2.1 hl 2 (by decide) (by decide) dL_law_409 dL_law_410 dL_law_411 dL_law_412 dL_law_413 ?_
  refine l_callV (k := 0) (As := [.int (xs (6 * t + 1)), .int (xs (6 * t + 2))]) (rest := [.int r]) C hby hm.sw (c_X10_make l E bY MY LY (xs (6 * t + 1)) (xs (6 * t + 2)) h2) rfl cy_0 tc_X10_make tm_RL_41 ti_X10_make ts_X10_make tn_RX10 td_X10_make rfl rfl ⟨Nat.le_of_ble_eq_true rfl, Nat.le_of_ble_eq_true rfl⟩ rfl hl.1 rfl (Nat.le_of_ble_eq_true rfl) hcs dL_law_414 (fun H locs hm => ?_)
  have hm := hm.sw
  exact lv_icmp_eq (tgt := 1447) hx hb dL_law_417 (by decide) (fun _ => kc H locs hm) (fun h => absurd rfl h)
def sim_load (Rel : xm → xm → xn → Prop) : Prop := ∀ (MX MY : xm) (LY : xn) (a0 : Int32) (a1 : Int32) (a2 : Int32), Rel MX MY LY → ∃ (r : Int32) (MX' : xm) (MY' : xm), f_X9_load MX a0 a1 a2 = some (r, MX') ∧ f_X10_load MY a0 a1 a2 = some (r, MY') ∧ Rel MX' MY' LY
set_option maxHeartbeats 4000000 in
theorem law_c6 {p : Program} {l : Launch} {e : Env} {s : State} {m : MethodId} {below : List Frame} {meth : Method} {c : Code} {Q : State → Prop} {E : xE} {bx bY b0 L t : Nat} {xs : Nat → Int32} {cs sl : Nat} (C : xC p s m #[Value.ref b0] meth c cL_law 4 RL (some .boolean) E bx) (hby : bx ≤ bY) (hX : va_X b0 L xs s s.heap) (hbl : b0 < s.heap.size) (ht : 6 * t + 6 ≤ L) (hL : L ≤ 3072) (hcs : cs ≤ 600000 ∧ sl ≤ 7302250) {MX MY : xm} {LY : xn} {H : Heap} {locs : List Loc} {ls : Array Slot} {r : Int32} {MX' : xm} {MY' : xm} (h1 : f_X9_load MX (xs (6 * t + 1)) (xs (6 * t + 2)) (xs (6 * t + 3)) = some (r, MX')) (h2 : f_X10_load MY (xs (6 * t + 1)) (xs (6 * t + 2)) (xs (6 * t + 3)) = some (r, MY')) (hm : lM E bx NX (cX E bx MX) bY NY (cY E bY MY LY) s.heap H locs) (hl : lv_has ls 4 [(0, .ref b0), (1, .ref (bx + 0)), (2, .ref (bY + 0)), (3, .int (nI (6 * t)))])
    (kc : ∀ (H : Heap) (locs : List Loc), lM E bx NX (cX E bx MX') bY NY (cY E bY MY' LY) s.heap H locs → W p l e room_1 s m #[Value.ref b0] below meth c H locs cs sl Q (F0 m 1447 ls [])) :
    W p l e room_1 s m #[Value.ref b0] below meth c H locs cs sl Q (F0 m 422 ls []) := by
  have hx := C.1.1
  have hb := C.1.2.1
  refine lv_aload_n hx hb dL_law_422 rfl (lv_at hl 1 rfl) ?_
  refine l_arg C hX hbl ht hL hm.2.2.1 hl 1 (by decide) (by decide) dL_law_423 dL_law_424 dL_law_425 dL_law_426 dL_law_427 ?_
  refine l_arg C hX hbl ht hL hm.2.2.1 hl 2 (by decide) (by decide) dL_law_428 dL_law_429 dL_law_430 dL_law_431 dL_law_432 ?_
  refine l_arg C hX hbl ht hL hm.2.2.1 hl 3 (by decide) (by decide) dL_law_433 dL_law_434 dL_law_435 dL_law_436 dL_law_437 ?_
  refine l_callV (k := 0) (As := [.int (xs (6 * t + 1)), .int (xs (6 * t + 2)), .int (xs (6 * t + 3))]) (rest := []) C (Nat.le_refl _) hm (c_X9_load l E bx MX (xs (6 * t + 1)) (xs (6 * t + 2)) (xs (6 * t + 3)) h1) rfl (cx_ColouredHeap LX_top) tc_X9_load tm_RL_42 ti_X9_load ts_X9_load tn_RX9 td_X9_load rfl rfl ⟨Nat.le_of_ble_eq_true rfl, Nat.le_of_ble_eq_true rfl⟩ rfl hl.1 rfl (Nat.le_of_ble_eq_true rfl) hcs dL_law_438 (fun H locs hm => ?_)
  refine lv_aload_n hx hb dL_law_441 rfl (lv_at hl 2 rfl) ?_
  refine l_arg C hX hbl ht hL hm.2.2.1 hl 1 (by decide) (by decide) dL_law_442 dL_law_443 dL_law_444 dL_law_445 dL_law_446 ?_
  refine l_arg C hX hbl ht hL hm.2.2.1 hl 2 (by decide) (by decide) dL_law_447 dL_law_448 dL_law_449 dL_law_450 dL_law_451 ?_
  refine l_arg C hX hbl ht hL hm.2.2.1 hl 3 (by decide) (by decide) dL_law_452 dL_law_453 dL_law_454 dL_law_455 dL_law_456 ?_
  refine l_callV (k := 0) (As := [.int (xs (6 * t + 1)), .int (xs (6 * t + 2)), .int (xs (6 * t + 3))]) (rest := [.int r]) C hby hm.sw (c_X10_load l E bY MY LY (xs (6 * t + 1)) (xs (6 * t + 2)) (xs (6 * t + 3)) h2) rfl cy_0 tc_X10_load tm_RL_46 ti_X10_load ts_X10_load tn_RX10 td_X10_load rfl rfl ⟨Nat.le_of_ble_eq_true rfl, Nat.le_of_ble_eq_true rfl⟩ rfl hl.1 rfl (Nat.le_of_ble_eq_true rfl) hcs dL_law_457 (fun H locs hm => ?_)
  have hm := hm.sw
  exact lv_icmp_eq (tgt := 1447) hx hb dL_law_460 (by decide) (fun _ => kc H locs hm) (fun h => absurd rfl h)
def sim_store (Rel : xm → xm → xn → Prop) : Prop := ∀ (MX MY : xm) (LY : xn) (a0 : Int32) (a1 : Int32) (a2 : Int32), Rel MX MY LY → ∃ (r : Int32) (MX' : xm) (MY' : xm), f_X9_store MX a0 a1 a2 = some (r, MX') ∧ f_X10_store MY a0 a1 a2 = some (r, MY') ∧ Rel MX' MY' LY
set_option maxHeartbeats 4000000 in
theorem law_c7 {p : Program} {l : Launch} {e : Env} {s : State} {m : MethodId} {below : List Frame} {meth : Method} {c : Code} {Q : State → Prop} {E : xE} {bx bY b0 L t : Nat} {xs : Nat → Int32} {cs sl : Nat} (C : xC p s m #[Value.ref b0] meth c cL_law 4 RL (some .boolean) E bx) (hby : bx ≤ bY) (hX : va_X b0 L xs s s.heap) (hbl : b0 < s.heap.size) (ht : 6 * t + 6 ≤ L) (hL : L ≤ 3072) (hcs : cs ≤ 600000 ∧ sl ≤ 7302250) {MX MY : xm} {LY : xn} {H : Heap} {locs : List Loc} {ls : Array Slot} {r : Int32} {MX' : xm} {MY' : xm} (h1 : f_X9_store MX (xs (6 * t + 1)) (xs (6 * t + 2)) (xs (6 * t + 3)) = some (r, MX')) (h2 : f_X10_store MY (xs (6 * t + 1)) (xs (6 * t + 2)) (xs (6 * t + 3)) = some (r, MY')) (hm : lM E bx NX (cX E bx MX) bY NY (cY E bY MY LY) s.heap H locs) (hl : lv_has ls 4 [(0, .ref b0), (1, .ref (bx + 0)), (2, .ref (bY + 0)), (3, .int (nI (6 * t)))])
    (kc : ∀ (H : Heap) (locs : List Loc), lM E bx NX (cX E bx MX') bY NY (cY E bY MY' LY) s.heap H locs → W p l e room_1 s m #[Value.ref b0] below meth c H locs cs sl Q (F0 m 1447 ls [])) :
    W p l e room_1 s m #[Value.ref b0] below meth c H locs cs sl Q (F0 m 465 ls []) := by
  have hx := C.1.1
  have hb := C.1.2.1
  refine lv_aload_n hx hb dL_law_465 rfl (lv_at hl 1 rfl) ?_
  refine l_arg C hX hbl ht hL hm.2.2.1 hl 1 (by decide) (by decide) dL_law_466 dL_law_467 dL_law_468 dL_law_469 dL_law_470 ?_
  refine l_arg C hX hbl ht hL hm.2.2.1 hl 2 (by decide) (by decide) dL_law_471 dL_law_472 dL_law_473 dL_law_474 dL_law_475 ?_
  refine l_arg C hX hbl ht hL hm.2.2.1 hl 3 (by decide) (by decide) dL_law_476 dL_law_477 dL_law_478 dL_law_479 dL_law_480 ?_
  refine l_callV (k := 0) (As := [.int (xs (6 * t + 1)), .int (xs (6 * t + 2)), .int (xs (6 * t + 3))]) (rest := []) C (Nat.le_refl _) hm (c_X9_store l E bx MX (xs (6 * t + 1)) (xs (6 * t + 2)) (xs (6 * t + 3)) h1) rfl (cx_ColouredHeap LX_top) tc_X9_store tm_RL_47 ti_X9_store ts_X9_store tn_RX9 td_X9_store rfl rfl ⟨Nat.le_of_ble_eq_true rfl, Nat.le_of_ble_eq_true rfl⟩ rfl hl.1 rfl (Nat.le_of_ble_eq_true rfl) hcs dL_law_481 (fun H locs hm => ?_)
  refine lv_aload_n hx hb dL_law_484 rfl (lv_at hl 2 rfl) ?_
  refine l_arg C hX hbl ht hL hm.2.2.1 hl 1 (by decide) (by decide) dL_law_485 dL_law_486 dL_law_487 dL_law_488 dL_law_489 ?_
  refine l_arg C hX hbl ht hL hm.2.2.1 hl 2 (by decide) (by decide) dL_law_490 dL_law_491 dL_law_492 dL_law_493 dL_law_494 ?_
  refine l_arg C hX hbl ht hL hm.2.2.1 hl 3 (by decide) (by decide) dL_law_495 dL_law_496 dL_law_497 dL_law_498 dL_law_499 ?_
  refine l_callV (k := 0) (As := [.int (xs (6 * t + 1)), .int (xs (6 * t + 2)), .int (xs (6 * t + 3))]) (rest := [.int r]) C hby hm.sw (c_X10_store l E bY MY LY (xs (6 * t + 1)) (xs (6 * t + 2)) (xs (6 * t + 3)) h2) rfl cy_0 tc_X10_store tm_RL_51 ti_X10_store ts_X10_store tn_RX10 td_X10_store rfl rfl ⟨Nat.le_of_ble_eq_true rfl, Nat.le_of_ble_eq_true rfl⟩ rfl hl.1 rfl (Nat.le_of_ble_eq_true rfl) hcs dL_law_500 (fun H locs hm => ?_)
  have hm := hm.sw
  exact lv_icmp_eq (tgt := 1447) hx hb dL_law_503 (by decide) (fun _ => kc H locs hm) (fun h => absurd rfl h)
def sim_drop (Rel : xm → xm → xn → Prop) : Prop := ∀ (MX MY : xm) (LY : xn) (a0 : Int32), Rel MX MY LY → ∃ (r : Int32) (MX' : xm) (MY' : xm), f_X9_drop MX a0 = some (r, MX') ∧ f_X10_drop MY a0 = some (r, MY') ∧ Rel MX' MY' LY
set_option maxHeartbeats 4000000 in
theorem law_c8 {p : Program} {l : Launch} {e : Env} {s : State} {m : MethodId} {below : List Frame} {meth : Method} {c : Code} {Q : State → Prop} {E : xE} {bx bY b0 L t : Nat} {xs : Nat → Int32} {cs sl : Nat} (C : xC p s m #[Value.ref b0] meth c cL_law 4 RL (some .boolean) E bx) (hby : bx ≤ bY) (hX : va_X b0 L xs s s.heap) (hbl : b0 < s.heap.size) (ht : 6 * t + 6 ≤ L) (hL : L ≤ 3072) (hcs : cs ≤ 600000 ∧ sl ≤ 7302250) {MX MY : xm} {LY : xn} {H : Heap} {locs : List Loc} {ls : Array Slot} {r : Int32} {MX' : xm} {MY' : xm} (h1 : f_X9_drop MX (xs (6 * t + 1)) = some (r, MX')) (h2 : f_X10_drop MY (xs (6 * t + 1)) = some (r, MY')) (hm : lM E bx NX (cX E bx MX) bY NY (cY E bY MY LY) s.heap H locs) (hl : lv_has ls 4 [(0, .ref b0), (1, .ref (bx + 0)), (2, .ref (bY + 0)), (3, .int (nI (6 * t)))])
    (kc : ∀ (H : Heap) (locs : List Loc), lM E bx NX (cX E bx MX') bY NY (cY E bY MY' LY) s.heap H locs → W p l e room_1 s m #[Value.ref b0] below meth c H locs cs sl Q (F0 m 1447 ls [])) :
    W p l e room_1 s m #[Value.ref b0] below meth c H locs cs sl Q (F0 m 508 ls []) := by
  have hx := C.1.1
  have hb := C.1.2.1
  refine lv_aload_n hx hb dL_law_508 rfl (lv_at hl 1 rfl) ?_
  refine l_arg C hX hbl ht hL hm.2.2.1 hl 1 (by decide) (by decide) dL_law_509 dL_law_510 dL_law_511 dL_law_512 dL_law_513 ?_
  refine l_callV (k := 0) (As := [.int (xs (6 * t + 1))]) (rest := []) C (Nat.le_refl _) hm (c_X9_drop l E bx MX (xs (6 * t + 1)) h1) rfl (cx_ColouredHeap LX_top) tc_X9_drop tm_RL_52 ti_X9_drop ts_X9_drop tn_RX9 td_X9_drop rfl rfl ⟨Nat.le_of_ble_eq_true rfl, Nat.le_of_ble_eq_true rfl⟩ rfl hl.1 rfl (Nat.le_of_ble_eq_true rfl) hcs dL_law_514 (fun H locs hm => ?_)
  refine lv_aload_n hx hb dL_law_517 rfl (lv_at hl 2 rfl) ?_
  refine l_arg C hX hbl ht hL hm.2.2.1 hl 1 (by decide) (by decide) dL_law_518 dL_law_519 dL_law_520 dL_law_521 dL_law_522 ?_
  refine l_callV (k := 0) (As := [.int (xs (6 * t + 1))]) (rest := [.int r]) C hby hm.sw (c_X10_drop l E bY MY LY (xs (6 * t + 1)) h2) rfl cy_0 tc_X10_drop tm_RL_55 ti_X10_drop ts_X10_drop tn_RX10 td_X10_drop rfl rfl ⟨Nat.le_of_ble_eq_true rfl, Nat.le_of_ble_eq_true rfl⟩ rfl hl.1 rfl (Nat.le_of_ble_eq_true rfl) hcs dL_law_523 (fun H locs hm => ?_)
  have hm := hm.sw
  exact lv_icmp_eq (tgt := 1447) hx hb dL_law_526 (by decide) (fun _ => kc H locs hm) (fun h => absurd rfl h)
def sim_copy (Rel : xm → xm → xn → Prop) : Prop := ∀ (MX MY : xm) (LY : xn) (a0 : Int32) (a1 : Int32), Rel MX MY LY → ∃ (r : Int32) (MX' : xm) (MY' : xm), f_X9_copy MX a0 a1 = some (r, MX') ∧ f_X10_copy MY a0 a1 = some (r, MY') ∧ Rel MX' MY' LY
set_option maxHeartbeats 4000000 in
theorem law_c9 {p : Program} {l : Launch} {e : Env} {s : State} {m : MethodId} {below : List Frame} {meth : Method} {c : Code} {Q : State → Prop} {E : xE} {bx bY b0 L t : Nat} {xs : Nat → Int32} {cs sl : Nat} (C : xC p s m #[Value.ref b0] meth c cL_law 4 RL (some .boolean) E bx) (hby : bx ≤ bY) (hX : va_X b0 L xs s s.heap) (hbl : b0 < s.heap.size) (ht : 6 * t + 6 ≤ L) (hL : L ≤ 3072) (hcs : cs ≤ 600000 ∧ sl ≤ 7302250) {MX MY : xm} {LY : xn} {H : Heap} {locs : List Loc} {ls : Array Slot} {r : Int32} {MX' : xm} {MY' : xm} (h1 : f_X9_copy MX (xs (6 * t + 1)) (xs (6 * t + 2)) = some (r, MX')) (h2 : f_X10_copy MY (xs (6 * t + 1)) (xs (6 * t + 2)) = some (r, MY')) (hm : lM E bx NX (cX E bx MX) bY NY (cY E bY MY LY) s.heap H locs) (hl : lv_has ls 4 [(0, .ref b0), (1, .ref (bx + 0)), (2, .ref (bY + 0)), (3, .int (nI (6 * t)))])
    (kc : ∀ (H : Heap) (locs : List Loc), lM E bx NX (cX E bx MX') bY NY (cY E bY MY' LY) s.heap H locs → W p l e room_1 s m #[Value.ref b0] below meth c H locs cs sl Q (F0 m 1447 ls [])) :
    W p l e room_1 s m #[Value.ref b0] below meth c H locs cs sl Q (F0 m 531 ls []) := by
  have hx := C.1.1
  have hb := C.1.2.1
  refine lv_aload_n hx hb dL_law_531 rfl (lv_at hl 1 rfl) ?_
  refine l_arg C hX hbl ht hL hm.2.2.1 hl 1 (by decide) (by decide) dL_law_532 dL_law_533 dL_law_534 dL_law_535 dL_law_536 ?_
  refine l_arg C hX hbl ht hL hm.2.2.1 hl 2 (by decide) (by decide) dL_law_537 dL_law_538 dL_law_539 dL_law_540 dL_law_541 ?_
  refine l_callV (k := 0) (As := [.int (xs (6 * t + 1)), .int (xs (6 * t + 2))]) (rest := []) C (Nat.le_refl _) hm (c_X9_copy l E bx MX (xs (6 * t + 1)) (xs (6 * t + 2)) h1) rfl (cx_ColouredHeap LX_top) tc_X9_copy tm_RL_56 ti_X9_copy ts_X9_copy tn_RX9 td_X9_copy rfl rfl ⟨Nat.le_of_ble_eq_true rfl, Nat.le_of_ble_eq_true rfl⟩ rfl hl.1 rfl (Nat.le_of_ble_eq_true rfl) hcs dL_law_542 (fun H locs hm => ?_)
  refine lv_aload_n hx hb dL_law_545 rfl (lv_at hl 2 rfl) ?_
  refine l_arg C hX hbl ht hL hm.2.2.1 hl 1 (by decide) (by decide) dL_law_546 dL_law_547 dL_law_548 dL_law_549 dL_law_550 ?_
  refine l_arg C hX hbl ht hL hm.2.2.1 hl 2 (by decide) (by decide) dL_law_551 dL_law_552 dL_law_553 dL_law_554 dL_law_555 ?_
  refine l_callV (k := 0) (As := [.int (xs (6 * t + 1)), .int (xs (6 * t + 2))]) (rest := [.int r]) C hby hm.sw (c_X10_copy l E bY MY LY (xs (6 * t + 1)) (xs (6 * t + 2)) h2) rfl cy_0 tc_X10_copy tm_RL_60 ti_X10_copy ts_X10_copy tn_RX10 td_X10_copy rfl rfl ⟨Nat.le_of_ble_eq_true rfl, Nat.le_of_ble_eq_true rfl⟩ rfl hl.1 rfl (Nat.le_of_ble_eq_true rfl) hcs dL_law_556 (fun H locs hm => ?_)
  have hm := hm.sw
  exact lv_icmp_eq (tgt := 1447) hx hb dL_law_559 (by decide) (fun _ => kc H locs hm) (fun h => absurd rfl h)
def sim_begin (Rel : xm → xm → xn → Prop) : Prop := ∀ (MX MY : xm) (LY : xn) (a0 : Int32) (a1 : Int32) (a2 : Int32), Rel MX MY LY → ∃ (r : Int32) (MX' : xm) (MY' : xm), f_X9_begin MX a0 a1 a2 = some (r, MX') ∧ f_X10_begin MY a0 a1 a2 = some (r, MY') ∧ Rel MX' MY' LY
set_option maxHeartbeats 4000000 in
theorem law_c10 {p : Program} {l : Launch} {e : Env} {s : State} {m : MethodId} {below : List Frame} {meth : Method} {c : Code} {Q : State → Prop} {E : xE} {bx bY b0 L t : Nat} {xs : Nat → Int32} {cs sl : Nat} (C : xC p s m #[Value.ref b0] meth c cL_law 4 RL (some .boolean) E bx) (hby : bx ≤ bY) (hX : va_X b0 L xs s s.heap) (hbl : b0 < s.heap.size) (ht : 6 * t + 6 ≤ L) (hL : L ≤ 3072) (hcs : cs ≤ 600000 ∧ sl ≤ 7302250) {MX MY : xm} {LY : xn} {H : Heap} {locs : List Loc} {ls : Array Slot} {r : Int32} {MX' : xm} {MY' : xm} (h1 : f_X9_begin MX (xs (6 * t + 1)) (xs (6 * t + 2)) (xs (6 * t + 3)) = some (r, MX')) (h2 : f_X10_begin MY (xs (6 * t + 1)) (xs (6 * t + 2)) (xs (6 * t + 3)) = some (r, MY')) (hm : lM E bx NX (cX E bx MX) bY NY (cY E bY MY LY) s.heap H locs) (hl : lv_has ls 4 [(0, .ref b0), (1, .ref (bx + 0)), (2, .ref (bY + 0)), (3, .int (nI (6 * t)))])
    (kc : ∀ (H : Heap) (locs : List Loc), lM E bx NX (cX E bx MX') bY NY (cY E bY MY' LY) s.heap H locs → W p l e room_1 s m #[Value.ref b0] below meth c H locs cs sl Q (F0 m 1447 ls [])) :
    W p l e room_1 s m #[Value.ref b0] below meth c H locs cs sl Q (F0 m 564 ls []) := by
  have hx := C.1.1
  have hb := C.1.2.1
  refine lv_aload_n hx hb dL_law_564 rfl (lv_at hl 1 rfl) ?_
  refine l_arg C hX hbl ht hL hm.2.2.1 hl 1 (by decide) (by decide) dL_law_565 dL_law_566 dL_law_567 dL_law_568 dL_law_569 ?_
  refine l_arg C hX hbl ht hL hm.2.2.1 hl 2 (by decide) (by decide) dL_law_570 dL_law_571 dL_law_572 dL_law_573 dL_law_574 ?_
  refine l_arg C hX hbl ht hL hm.2.2.1 hl 3 (by decide) (by decide) dL_law_575 dL_law_576 dL_law_577 dL_law_578 dL_law_579 ?_
  refine l_callV (k := 0) (As := [.int (xs (6 * t + 1)), .int (xs (6 * t + 2)), .int (xs (6 * t + 3))]) (rest := []) C (Nat.le_refl _) hm (c_X9_begin l E bx MX (xs (6 * t + 1)) (xs (6 * t + 2)) (xs (6 * t + 3)) h1) rfl (cx_ColouredHeap LX_top) tc_X9_begin tm_RL_61 ti_X9_begin ts_X9_begin tn_RX9 td_X9_begin rfl rfl ⟨Nat.le_of_ble_eq_true rfl, Nat.le_of_ble_eq_true rfl⟩ rfl hl.1 rfl (Nat.le_of_ble_eq_true rfl) hcs dL_law_580 (fun H locs hm => ?_)
  refine lv_aload_n hx hb dL_law_583 rfl (lv_at hl 2 rfl) ?_
  refine l_arg C hX hbl ht hL hm.2.2.1 hl 1 (by decide) (by decide) dL_law_584 dL_law_585 dL_law_586 dL_law_587 dL_law_588 ?_
  refine l_arg C hX hbl ht hL hm.2.2.1 hl 2 (by decide) (by decide) dL_law_589 dL_law_590 dL_law_591 dL_law_592 dL_law_593 ?_
  refine l_arg C hX hbl ht hL hm.2.2.1 hl 3 (by decide) (by decide) dL_law_594 dL_law_595 dL_law_596 dL_law_597 dL_law_598 ?_
  refine l_callV (k := 0) (As := [.int (xs (6 * t + 1)), .int (xs (6 * t + 2)), .int (xs (6 * t + 3))]) (rest := [.int r]) C hby hm.sw (c_X10_begin l E bY MY LY (xs (6 * t + 1)) (xs (6 * t + 2)) (xs (6 * t + 3)) h2) rfl cy_0 tc_X10_begin tm_RL_64 ti_X10_begin ts_X10_begin tn_RX10 td_X10_begin rfl rfl ⟨Nat.le_of_ble_eq_true rfl, Nat.le_of_ble_eq_true rfl⟩ rfl hl.1 rfl (Nat.le_of_ble_eq_true rfl) hcs dL_law_599 (fun H locs hm => ?_)
  have hm := hm.sw
  exact lv_icmp_eq (tgt := 1447) hx hb dL_law_602 (by decide) (fun _ => kc H locs hm) (fun h => absurd rfl h)
def sim_finish (Rel : xm → xm → xn → Prop) : Prop := ∀ (MX MY : xm) (LY : xn) (a0 : Int32) (a1 : Int32), Rel MX MY LY → ∃ (r : Int32) (MX' : xm) (MY' : xm), f_X9_finish MX a0 a1 = some (r, MX') ∧ f_X10_finish MY a0 a1 = some (r, MY') ∧ Rel MX' MY' LY
set_option maxHeartbeats 4000000 in
theorem law_c11 {p : Program} {l : Launch} {e : Env} {s : State} {m : MethodId} {below : List Frame} {meth : Method} {c : Code} {Q : State → Prop} {E : xE} {bx bY b0 L t : Nat} {xs : Nat → Int32} {cs sl : Nat} (C : xC p s m #[Value.ref b0] meth c cL_law 4 RL (some .boolean) E bx) (hby : bx ≤ bY) (hX : va_X b0 L xs s s.heap) (hbl : b0 < s.heap.size) (ht : 6 * t + 6 ≤ L) (hL : L ≤ 3072) (hcs : cs ≤ 600000 ∧ sl ≤ 7302250) {MX MY : xm} {LY : xn} {H : Heap} {locs : List Loc} {ls : Array Slot} {r : Int32} {MX' : xm} {MY' : xm} (h1 : f_X9_finish MX (xs (6 * t + 1)) (xs (6 * t + 2)) = some (r, MX')) (h2 : f_X10_finish MY (xs (6 * t + 1)) (xs (6 * t + 2)) = some (r, MY')) (hm : lM E bx NX (cX E bx MX) bY NY (cY E bY MY LY) s.heap H locs) (hl : lv_has ls 4 [(0, .ref b0), (1, .ref (bx + 0)), (2, .ref (bY + 0)), (3, .int (nI (6 * t)))])
    (kc : ∀ (H : Heap) (locs : List Loc), lM E bx NX (cX E bx MX') bY NY (cY E bY MY' LY) s.heap H locs → W p l e room_1 s m #[Value.ref b0] below meth c H locs cs sl Q (F0 m 1447 ls [])) :
    W p l e room_1 s m #[Value.ref b0] below meth c H locs cs sl Q (F0 m 607 ls []) := by
  have hx := C.1.1
  have hb := C.1.2.1
  refine lv_aload_n hx hb dL_law_607 rfl (lv_at hl 1 rfl) ?_
  refine l_arg C hX hbl ht hL hm.2.2.1 hl 1 (by decide) (by decide) dL_law_608 dL_law_609 dL_law_610 dL_law_611 dL_law_612 ?_
  refine l_arg C hX hbl ht hL hm.2.2.1 hl 2 (by decide) (by decide) dL_law_613 dL_law_614 dL_law_615 dL_law_616 dL_law_617 ?_
  refine l_callV (k := 0) (As := [.int (xs (6 * t + 1)), .int (xs (6 * t + 2))]) (rest := []) C (Nat.le_refl _) hm (c_X9_finish l E bx MX (xs (6 * t + 1)) (xs (6 * t + 2)) h1) rfl (cx_ColouredHeap LX_top) tc_X9_finish tm_RL_65 ti_X9_finish ts_X9_finish tn_RX9 td_X9_finish rfl rfl ⟨Nat.le_of_ble_eq_true rfl, Nat.le_of_ble_eq_true rfl⟩ rfl hl.1 rfl (Nat.le_of_ble_eq_true rfl) hcs dL_law_618 (fun H locs hm => ?_)
  refine lv_aload_n hx hb dL_law_621 rfl (lv_at hl 2 rfl) ?_
  refine l_arg C hX hbl ht hL hm.2.2.1 hl 1 (by decide) (by decide) dL_law_622 dL_law_623 dL_law_624 dL_law_625 dL_law_626 ?_
  refine l_arg C hX hbl ht hL hm.2.2.1 hl 2 (by decide) (by decide) dL_law_627 dL_law_628 dL_law_629 dL_law_630 dL_law_631 ?_
  refine l_callV (k := 0) (As := [.int (xs (6 * t + 1)), .int (xs (6 * t + 2))]) (rest := [.int r]) C hby hm.sw (c_X10_finish l E bY MY LY (xs (6 * t + 1)) (xs (6 * t + 2)) h2) rfl cy_0 tc_X10_finish tm_RL_68 ti_X10_finish ts_X10_finish tn_RX10 td_X10_finish rfl rfl ⟨Nat.le_of_ble_eq_true rfl, Nat.le_of_ble_eq_true rfl⟩ rfl hl.1 rfl (Nat.le_of_ble_eq_true rfl) hcs dL_law_632 (fun H locs hm => ?_)
  have hm := hm.sw
  exact lv_icmp_eq (tgt := 1447) hx hb dL_law_635 (by decide) (fun _ => kc H locs hm) (fun h => absurd rfl h)
def sim_start (Rel : xm → xm → xn → Prop) : Prop := ∀ (MX MY : xm) (LY : xn), Rel MX MY LY → ∃ (r : Int32) (MX' : xm) (MY' : xm), f_X9_start MX = some (r, MX') ∧ f_X10_start MY = some (r, MY') ∧ Rel MX' MY' LY
set_option maxHeartbeats 4000000 in
theorem law_c12 {p : Program} {l : Launch} {e : Env} {s : State} {m : MethodId} {below : List Frame} {meth : Method} {c : Code} {Q : State → Prop} {E : xE} {bx bY b0 L t : Nat} {xs : Nat → Int32} {cs sl : Nat} (C : xC p s m #[Value.ref b0] meth c cL_law 4 RL (some .boolean) E bx) (hby : bx ≤ bY) (hX : va_X b0 L xs s s.heap) (hbl : b0 < s.heap.size) (ht : 6 * t + 6 ≤ L) (hL : L ≤ 3072) (hcs : cs ≤ 600000 ∧ sl ≤ 7302250) {MX MY : xm} {LY : xn} {H : Heap} {locs : List Loc} {ls : Array Slot} {r : Int32} {MX' : xm} {MY' : xm} (h1 : f_X9_start MX = some (r, MX')) (h2 : f_X10_start MY = some (r, MY')) (hm : lM E bx NX (cX E bx MX) bY NY (cY E bY MY LY) s.heap H locs) (hl : lv_has ls 4 [(0, .ref b0), (1, .ref (bx + 0)), (2, .ref (bY + 0)), (3, .int (nI (6 * t)))])
    (kc : ∀ (H : Heap) (locs : List Loc), lM E bx NX (cX E bx MX') bY NY (cY E bY MY' LY) s.heap H locs → W p l e room_1 s m #[Value.ref b0] below meth c H locs cs sl Q (F0 m 1447 ls [])) :
    W p l e room_1 s m #[Value.ref b0] below meth c H locs cs sl Q (F0 m 640 ls []) := by
  have hx := C.1.1
  have hb := C.1.2.1
  refine lv_aload_n hx hb dL_law_640 rfl (lv_at hl 1 rfl) ?_
  refine l_callV (k := 0) (As := []) (rest := []) C (Nat.le_refl _) hm (c_X9_start l E bx MX  h1) rfl (cx_ColouredHeap LX_top) tc_X9_start tm_RL_69 ti_X9_start ts_X9_start tn_RX9 td_X9_start rfl rfl ⟨Nat.le_of_ble_eq_true rfl, Nat.le_of_ble_eq_true rfl⟩ rfl hl.1 rfl (Nat.le_of_ble_eq_true rfl) hcs dL_law_641 (fun H locs hm => ?_)
  refine lv_aload_n hx hb dL_law_644 rfl (lv_at hl 2 rfl) ?_
  refine l_callV (k := 0) (As := []) (rest := [.int r]) C hby hm.sw (c_X10_start l E bY MY LY  h2) rfl cy_0 tc_X10_start tm_RL_73 ti_X10_start ts_X10_start tn_RX10 td_X10_start rfl rfl ⟨Nat.le_of_ble_eq_true rfl, Nat.le_of_ble_eq_true rfl⟩ rfl hl.1 rfl (Nat.le_of_ble_eq_true rfl) hcs dL_law_645 (fun H locs hm => ?_)
  have hm := hm.sw
  exact lv_icmp_eq (tgt := 1447) hx hb dL_law_648 (by decide) (fun _ => kc H locs hm) (fun h => absurd rfl h)
def sim_choose (Rel : xm → xm → xn → Prop) : Prop := ∀ (MX MY : xm) (LY : xn), Rel MX MY LY → ∃ (r : Int32) (MX' : xm) (MY' : xm) (LY' : xn), f_X9_choose MX = some (r, MX') ∧ f_X10_choose MY LY = some (r, MY', LY') ∧ Rel MX' MY' LY'
set_option maxHeartbeats 4000000 in
theorem law_c13 {p : Program} {l : Launch} {e : Env} {s : State} {m : MethodId} {below : List Frame} {meth : Method} {c : Code} {Q : State → Prop} {E : xE} {bx bY b0 L t : Nat} {xs : Nat → Int32} {cs sl : Nat} (C : xC p s m #[Value.ref b0] meth c cL_law 4 RL (some .boolean) E bx) (hby : bx ≤ bY) (hX : va_X b0 L xs s s.heap) (hbl : b0 < s.heap.size) (ht : 6 * t + 6 ≤ L) (hL : L ≤ 3072) (hcs : cs ≤ 600000 ∧ sl ≤ 7302250) {MX MY : xm} {LY : xn} {H : Heap} {locs : List Loc} {ls : Array Slot} {r : Int32} {MX' : xm} {MY' : xm} {LY' : xn} (h1 : f_X9_choose MX = some (r, MX')) (h2 : f_X10_choose MY LY = some (r, MY', LY')) (hm : lM E bx NX (cX E bx MX) bY NY (cY E bY MY LY) s.heap H locs) (hl : lv_has ls 4 [(0, .ref b0), (1, .ref (bx + 0)), (2, .ref (bY + 0)), (3, .int (nI (6 * t)))])
    (kc : ∀ (H : Heap) (locs : List Loc), lM E bx NX (cX E bx MX') bY NY (cY E bY MY' LY') s.heap H locs → W p l e room_1 s m #[Value.ref b0] below meth c H locs cs sl Q (F0 m 1447 ls [])) :
    W p l e room_1 s m #[Value.ref b0] below meth c H locs cs sl Q (F0 m 653 ls []) := by
  have hx := C.1.1
  have hb := C.1.2.1
  refine lv_aload_n hx hb dL_law_653 rfl (lv_at hl 1 rfl) ?_
  refine l_callV (k := 0) (As := []) (rest := []) C (Nat.le_refl _) hm (c_X9_choose l E bx MX  h1) rfl (cx_ColouredHeap LX_top) tc_X9_choose tm_RL_74 ti_X9_choose ts_X9_choose tn_RX9 td_X9_choose rfl rfl ⟨Nat.le_of_ble_eq_true rfl, Nat.le_of_ble_eq_true rfl⟩ rfl hl.1 rfl (Nat.le_of_ble_eq_true rfl) hcs dL_law_654 (fun H locs hm => ?_)
  refine lv_aload_n hx hb dL_law_657 rfl (lv_at hl 2 rfl) ?_
  refine l_callV (k := 0) (As := []) (rest := [.int r]) C hby hm.sw (c_X10_choose l E bY MY LY  h2) rfl cy_0 tc_X10_choose tm_RL_77 ti_X10_choose ts_X10_choose tn_RX10 td_X10_choose rfl rfl ⟨Nat.le_of_ble_eq_true rfl, Nat.le_of_ble_eq_true rfl⟩ rfl hl.1 rfl (Nat.le_of_ble_eq_true rfl) hcs dL_law_658 (fun H locs hm => ?_)
  have hm := hm.sw
  exact lv_icmp_eq (tgt := 1447) hx hb dL_law_661 (by decide) (fun _ => kc H locs hm) (fun h => absurd rfl h)
def sim_day (Rel : xm → xm → xn → Prop) : Prop := ∀ (MX MY : xm) (LY : xn) (a0 : Int32), Rel MX MY LY → ∃ (r : Int32) (MX' : xm) (MY' : xm) (LY' : xn), f_X9_day MX a0 = some (r, MX') ∧ f_X10_day MY LY a0 = some (r, MY', LY') ∧ Rel MX' MY' LY'
set_option maxHeartbeats 4000000 in
theorem law_c14 {p : Program} {l : Launch} {e : Env} {s : State} {m : MethodId} {below : List Frame} {meth : Method} {c : Code} {Q : State → Prop} {E : xE} {bx bY b0 L t : Nat} {xs : Nat → Int32} {cs sl : Nat} (C : xC p s m #[Value.ref b0] meth c cL_law 4 RL (some .boolean) E bx) (hby : bx ≤ bY) (hX : va_X b0 L xs s s.heap) (hbl : b0 < s.heap.size) (ht : 6 * t + 6 ≤ L) (hL : L ≤ 3072) (hcs : cs ≤ 600000 ∧ sl ≤ 7302250) {MX MY : xm} {LY : xn} {H : Heap} {locs : List Loc} {ls : Array Slot} {r : Int32} {MX' : xm} {MY' : xm} {LY' : xn} (h1 : f_X9_day MX (xs (6 * t + 1)) = some (r, MX')) (h2 : f_X10_day MY LY (xs (6 * t + 1)) = some (r, MY', LY')) (hm : lM E bx NX (cX E bx MX) bY NY (cY E bY MY LY) s.heap H locs) (hl : lv_has ls 4 [(0, .ref b0), (1, .ref (bx + 0)), (2, .ref (bY + 0)), (3, .int (nI (6 * t)))])
    (kc : ∀ (H : Heap) (locs : List Loc), lM E bx NX (cX E bx MX') bY NY (cY E bY MY' LY') s.heap H locs → W p l e room_1 s m #[Value.ref b0] below meth c H locs cs sl Q (F0 m 1447 ls [])) :
    W p l e room_1 s m #[Value.ref b0] below meth c H locs cs sl Q (F0 m 666 ls []) := by
  have hx := C.1.1
  have hb := C.1.2.1
  refine lv_aload_n hx hb dL_law_666 rfl (lv_at hl 1 rfl) ?_
  refine l_arg C hX hbl ht hL hm.2.2.1 hl 1 (by decide) (by decide) dL_law_667 dL_law_668 dL_law_669 dL_law_670 dL_law_671 ?_
  refine l_callV (k := 0) (As := [.int (xs (6 * t + 1))]) (rest := []) C (Nat.le_refl _) hm (c_X9_day l E bx MX (xs (6 * t + 1)) h1) rfl (cx_ColouredHeap LX_top) tc_X9_day tm_RL_78 ti_X9_day ts_X9_day tn_RX9 td_X9_day rfl rfl ⟨Nat.le_of_ble_eq_true rfl, Nat.le_of_ble_eq_true rfl⟩ rfl hl.1 rfl (Nat.le_of_ble_eq_true rfl) hcs dL_law_672 (fun H locs hm => ?_)
  refine lv_aload_n hx hb dL_law_675 rfl (lv_at hl 2 rfl) ?_
  refine l_arg C hX hbl ht hL hm.2.2.1 hl 1 (by decide) (by decide) dL_law_676 dL_law_677 dL_law_678 dL_law_679 dL_law_680 ?_
  refine l_callV (k := 0) (As := [.int (xs (6 * t + 1))]) (rest := [.int r]) C hby hm.sw (c_X10_day l E bY MY LY (xs (6 * t + 1)) h2) rfl cy_0 tc_X10_day tm_RL_81 ti_X10_day ts_X10_day tn_RX10 td_X10_day rfl rfl ⟨Nat.le_of_ble_eq_true rfl, Nat.le_of_ble_eq_true rfl⟩ rfl hl.1 rfl (Nat.le_of_ble_eq_true rfl) hcs dL_law_681 (fun H locs hm => ?_)
  have hm := hm.sw
  exact lv_icmp_eq (tgt := 1447) hx hb dL_law_684 (by decide) (fun _ => kc H locs hm) (fun h => absurd rfl h)
def sim_played (Rel : xm → xm → xn → Prop) : Prop := ∀ (MX MY : xm) (LY : xn) (a0 : Int32), Rel MX MY LY → ∃ (r : Int32) (MX' : xm) (MY' : xm) (LY' : xn), f_X9_played MX a0 = some (r, MX') ∧ f_X10_played MY LY a0 = some (r, MY', LY') ∧ Rel MX' MY' LY'
set_option maxHeartbeats 4000000 in
theorem law_c15 {p : Program} {l : Launch} {e : Env} {s : State} {m : MethodId} {below : List Frame} {meth : Method} {c : Code} {Q : State → Prop} {E : xE} {bx bY b0 L t : Nat} {xs : Nat → Int32} {cs sl : Nat} (C : xC p s m #[Value.ref b0] meth c cL_law 4 RL (some .boolean) E bx) (hby : bx ≤ bY) (hX : va_X b0 L xs s s.heap) (hbl : b0 < s.heap.size) (ht : 6 * t + 6 ≤ L) (hL : L ≤ 3072) (hcs : cs ≤ 600000 ∧ sl ≤ 7302250) {MX MY : xm} {LY : xn} {H : Heap} {locs : List Loc} {ls : Array Slot} {r : Int32} {MX' : xm} {MY' : xm} {LY' : xn} (h1 : f_X9_played MX (xs (6 * t + 1)) = some (r, MX')) (h2 : f_X10_played MY LY (xs (6 * t + 1)) = some (r, MY', LY')) (hm : lM E bx NX (cX E bx MX) bY NY (cY E bY MY LY) s.heap H locs) (hl : lv_has ls 4 [(0, .ref b0), (1, .ref (bx + 0)), (2, .ref (bY + 0)), (3, .int (nI (6 * t)))])
    (kc : ∀ (H : Heap) (locs : List Loc), lM E bx NX (cX E bx MX') bY NY (cY E bY MY' LY') s.heap H locs → W p l e room_1 s m #[Value.ref b0] below meth c H locs cs sl Q (F0 m 1447 ls [])) :
    W p l e room_1 s m #[Value.ref b0] below meth c H locs cs sl Q (F0 m 689 ls []) := by
  have hx := C.1.1
  have hb := C.1.2.1
  refine lv_aload_n hx hb dL_law_689 rfl (lv_at hl 1 rfl) ?_
  refine l_arg C hX hbl ht hL hm.2.2.1 hl 1 (by decide) (by decide) dL_law_690 dL_law_691 dL_law_692 dL_law_693 dL_law_694 ?_
  refine l_callV (k := 0) (As := [.int (xs (6 * t + 1))]) (rest := []) C (Nat.le_refl _) hm (c_X9_played l E bx MX (xs (6 * t + 1)) h1) rfl (cx_ColouredHeap LX_top) tc_X9_played tm_RL_82 ti_X9_played ts_X9_played tn_RX9 td_X9_played rfl rfl ⟨Nat.le_of_ble_eq_true rfl, Nat.le_of_ble_eq_true rfl⟩ rfl hl.1 rfl (Nat.le_of_ble_eq_true rfl) hcs dL_law_695 (fun H locs hm => ?_)
  refine lv_aload_n hx hb dL_law_698 rfl (lv_at hl 2 rfl) ?_
  refine l_arg C hX hbl ht hL hm.2.2.1 hl 1 (by decide) (by decide) dL_law_699 dL_law_700 dL_law_701 dL_law_702 dL_law_703 ?_
  refine l_callV (k := 0) (As := [.int (xs (6 * t + 1))]) (rest := [.int r]) C hby hm.sw (c_X10_played l E bY MY LY (xs (6 * t + 1)) h2) rfl cy_0 tc_X10_played tm_RL_85 ti_X10_played ts_X10_played tn_RX10 td_X10_played rfl rfl ⟨Nat.le_of_ble_eq_true rfl, Nat.le_of_ble_eq_true rfl⟩ rfl hl.1 rfl (Nat.le_of_ble_eq_true rfl) hcs dL_law_704 (fun H locs hm => ?_)
  have hm := hm.sw
  exact lv_icmp_eq (tgt := 1447) hx hb dL_law_707 (by decide) (fun _ => kc H locs hm) (fun h => absurd rfl h)
def sim_years (Rel : xm → xm → xn → Prop) : Prop := ∀ (MX MY : xm) (LY : xn) (a0 : Int32) (a1 : Int32), Rel MX MY LY → ∃ (r : Int32) (MX' : xm) (MY' : xm) (LY' : xn), f_X9_years MX a0 a1 = some (r, MX') ∧ f_X10_years MY LY a0 a1 = some (r, MY', LY') ∧ Rel MX' MY' LY'
set_option maxHeartbeats 4000000 in
theorem law_c16 {p : Program} {l : Launch} {e : Env} {s : State} {m : MethodId} {below : List Frame} {meth : Method} {c : Code} {Q : State → Prop} {E : xE} {bx bY b0 L t : Nat} {xs : Nat → Int32} {cs sl : Nat} (C : xC p s m #[Value.ref b0] meth c cL_law 4 RL (some .boolean) E bx) (hby : bx ≤ bY) (hX : va_X b0 L xs s s.heap) (hbl : b0 < s.heap.size) (ht : 6 * t + 6 ≤ L) (hL : L ≤ 3072) (hcs : cs ≤ 600000 ∧ sl ≤ 7302250) {MX MY : xm} {LY : xn} {H : Heap} {locs : List Loc} {ls : Array Slot} {r : Int32} {MX' : xm} {MY' : xm} {LY' : xn} (h1 : f_X9_years MX (xs (6 * t + 1)) (xs (6 * t + 2)) = some (r, MX')) (h2 : f_X10_years MY LY (xs (6 * t + 1)) (xs (6 * t + 2)) = some (r, MY', LY')) (hm : lM E bx NX (cX E bx MX) bY NY (cY E bY MY LY) s.heap H locs) (hl : lv_has ls 4 [(0, .ref b0), (1, .ref (bx + 0)), (2, .ref (bY + 0)), (3, .int (nI (6 * t)))])
    (kc : ∀ (H : Heap) (locs : List Loc), lM E bx NX (cX E bx MX') bY NY (cY E bY MY' LY') s.heap H locs → W p l e room_1 s m #[Value.ref b0] below meth c H locs cs sl Q (F0 m 1447 ls [])) :
    W p l e room_1 s m #[Value.ref b0] below meth c H locs cs sl Q (F0 m 712 ls []) := by
  have hx := C.1.1
  have hb := C.1.2.1
  refine lv_aload_n hx hb dL_law_712 rfl (lv_at hl 1 rfl) ?_
  refine l_arg C hX hbl ht hL hm.2.2.1 hl 1 (by decide) (by decide) dL_law_713 dL_law_714 dL_law_715 dL_law_716 dL_law_717 ?_
  refine l_arg C hX hbl ht hL hm.2.2.1 hl 2 (by decide) (by decide) dL_law_718 dL_law_719 dL_law_720 dL_law_721 dL_law_722 ?_
  refine l_callV (k := 0) (As := [.int (xs (6 * t + 1)), .int (xs (6 * t + 2))]) (rest := []) C (Nat.le_refl _) hm (c_X9_years l E bx MX (xs (6 * t + 1)) (xs (6 * t + 2)) h1) rfl (cx_ColouredHeap LX_top) tc_X9_years tm_RL_86 ti_X9_years ts_X9_years tn_RX9 td_X9_years rfl rfl ⟨Nat.le_of_ble_eq_true rfl, Nat.le_of_ble_eq_true rfl⟩ rfl hl.1 rfl (Nat.le_of_ble_eq_true rfl) hcs dL_law_723 (fun H locs hm => ?_)
  refine lv_aload_n hx hb dL_law_726 rfl (lv_at hl 2 rfl) ?_
  refine l_arg C hX hbl ht hL hm.2.2.1 hl 1 (by decide) (by decide) dL_law_727 dL_law_728 dL_law_729 dL_law_730 dL_law_731 ?_
  refine l_arg C hX hbl ht hL hm.2.2.1 hl 2 (by decide) (by decide) dL_law_732 dL_law_733 dL_law_734 dL_law_735 dL_law_736 ?_
  refine l_callV (k := 0) (As := [.int (xs (6 * t + 1)), .int (xs (6 * t + 2))]) (rest := [.int r]) C hby hm.sw (c_X10_years l E bY MY LY (xs (6 * t + 1)) (xs (6 * t + 2)) h2) rfl cy_0 tc_X10_years tm_RL_89 ti_X10_years ts_X10_years tn_RX10 td_X10_years rfl rfl ⟨Nat.le_of_ble_eq_true rfl, Nat.le_of_ble_eq_true rfl⟩ rfl hl.1 rfl (Nat.le_of_ble_eq_true rfl) hcs dL_law_737 (fun H locs hm => ?_)
  have hm := hm.sw
  exact lv_icmp_eq (tgt := 1447) hx hb dL_law_740 (by decide) (fun _ => kc H locs hm) (fun h => absurd rfl h)
def sim_undo (Rel : xm → xm → xn → Prop) : Prop := ∀ (MX MY : xm) (LY : xn), Rel MX MY LY → ∃ (r : Int32) (MX' : xm) (MY' : xm), f_X9_undo MX = some (r, MX') ∧ f_X10_undo MY = some (r, MY') ∧ Rel MX' MY' LY
set_option maxHeartbeats 4000000 in
theorem law_c17 {p : Program} {l : Launch} {e : Env} {s : State} {m : MethodId} {below : List Frame} {meth : Method} {c : Code} {Q : State → Prop} {E : xE} {bx bY b0 L t : Nat} {xs : Nat → Int32} {cs sl : Nat} (C : xC p s m #[Value.ref b0] meth c cL_law 4 RL (some .boolean) E bx) (hby : bx ≤ bY) (hX : va_X b0 L xs s s.heap) (hbl : b0 < s.heap.size) (ht : 6 * t + 6 ≤ L) (hL : L ≤ 3072) (hcs : cs ≤ 600000 ∧ sl ≤ 7302250) {MX MY : xm} {LY : xn} {H : Heap} {locs : List Loc} {ls : Array Slot} {r : Int32} {MX' : xm} {MY' : xm} (h1 : f_X9_undo MX = some (r, MX')) (h2 : f_X10_undo MY = some (r, MY')) (hm : lM E bx NX (cX E bx MX) bY NY (cY E bY MY LY) s.heap H locs) (hl : lv_has ls 4 [(0, .ref b0), (1, .ref (bx + 0)), (2, .ref (bY + 0)), (3, .int (nI (6 * t)))])
    (kc : ∀ (H : Heap) (locs : List Loc), lM E bx NX (cX E bx MX') bY NY (cY E bY MY' LY) s.heap H locs → W p l e room_1 s m #[Value.ref b0] below meth c H locs cs sl Q (F0 m 1447 ls [])) :
    W p l e room_1 s m #[Value.ref b0] below meth c H locs cs sl Q (F0 m 745 ls []) := by
  have hx := C.1.1
  have hb := C.1.2.1
  refine lv_aload_n hx hb dL_law_745 rfl (lv_at hl 1 rfl) ?_
  refine l_callV (k := 0) (As := []) (rest := []) C (Nat.le_refl _) hm (c_X9_undo l E bx MX  h1) rfl (cx_ColouredHeap LX_top) tc_X9_undo tm_RL_90 ti_X9_undo ts_X9_undo tn_RX9 td_X9_undo rfl rfl ⟨Nat.le_of_ble_eq_true rfl, Nat.le_of_ble_eq_true rfl⟩ rfl hl.1 rfl (Nat.le_of_ble_eq_true rfl) hcs dL_law_746 (fun H locs hm => ?_)
  refine lv_aload_n hx hb dL_law_749 rfl (lv_at hl 2 rfl) ?_
  refine l_callV (k := 0) (As := []) (rest := [.int r]) C hby hm.sw (c_X10_undo l E bY MY LY  h2) rfl cy_0 tc_X10_undo tm_RL_93 ti_X10_undo ts_X10_undo tn_RX10 td_X10_undo rfl rfl ⟨Nat.le_of_ble_eq_true rfl, Nat.le_of_ble_eq_true rfl⟩ rfl hl.1 rfl (Nat.le_of_ble_eq_true rfl) hcs dL_law_750 (fun H locs hm => ?_)
  have hm := hm.sw
  exact lv_icmp_eq (tgt := 1447) hx hb dL_law_753 (by decide) (fun _ => kc H locs hm) (fun h => absurd rfl h)
def sim_root (Rel : xm → xm → xn → Prop) : Prop := ∀ (MX MY : xm) (LY : xn) (a0 : Int32), Rel MX MY LY → ∃ (r : Int32), f_X9_root MX a0 = some r ∧ f_X10_root MY a0 = some r ∧ Rel MX MY LY
set_option maxHeartbeats 4000000 in
theorem law_c18 {p : Program} {l : Launch} {e : Env} {s : State} {m : MethodId} {below : List Frame} {meth : Method} {c : Code} {Q : State → Prop} {E : xE} {bx bY b0 L t : Nat} {xs : Nat → Int32} {cs sl : Nat} (C : xC p s m #[Value.ref b0] meth c cL_law 4 RL (some .boolean) E bx) (hby : bx ≤ bY) (hX : va_X b0 L xs s s.heap) (hbl : b0 < s.heap.size) (ht : 6 * t + 6 ≤ L) (hL : L ≤ 3072) (hcs : cs ≤ 600000 ∧ sl ≤ 7302250) {MX MY : xm} {LY : xn} {H : Heap} {locs : List Loc} {ls : Array Slot} {r : Int32} (h1 : f_X9_root MX (xs (6 * t + 1)) = some r) (h2 : f_X10_root MY (xs (6 * t + 1)) = some r) (hm : lM E bx NX (cX E bx MX) bY NY (cY E bY MY LY) s.heap H locs) (hl : lv_has ls 4 [(0, .ref b0), (1, .ref (bx + 0)), (2, .ref (bY + 0)), (3, .int (nI (6 * t)))])
    (kc : ∀ (H : Heap) (locs : List Loc), lM E bx NX (cX E bx MX) bY NY (cY E bY MY LY) s.heap H locs → W p l e room_1 s m #[Value.ref b0] below meth c H locs cs sl Q (F0 m 1447 ls [])) :
    W p l e room_1 s m #[Value.ref b0] below meth c H locs cs sl Q (F0 m 758 ls []) := by
  have hx := C.1.1
  have hb := C.1.2.1
  refine lv_aload_n hx hb dL_law_758 rfl (lv_at hl 1 rfl) ?_
  refine l_arg C hX hbl ht hL hm.2.2.1 hl 1 (by decide) (by decide) dL_law_759 dL_law_760 dL_law_761 dL_law_762 dL_law_763 ?_
  refine l_callV (k := 0) (As := [.int (xs (6 * t + 1))]) (rest := []) C (Nat.le_refl _) hm (c_X9_root l E bx MX (xs (6 * t + 1)) h1) rfl (cx_ColouredHeap LX_top) tc_X9_root tm_RL_94 ti_X9_root ts_X9_root tn_RX9 td_X9_root rfl rfl ⟨Nat.le_of_ble_eq_true rfl, Nat.le_of_ble_eq_true rfl⟩ rfl hl.1 rfl (Nat.le_of_ble_eq_true rfl) hcs dL_law_764 (fun H locs hm => ?_)
  refine lv_aload_n hx hb dL_law_767 rfl (lv_at hl 2 rfl) ?_
  refine l_arg C hX hbl ht hL hm.2.2.1 hl 1 (by decide) (by decide) dL_law_768 dL_law_769 dL_law_770 dL_law_771 dL_law_772 ?_
  refine l_callV (k := 0) (As := [.int (xs (6 * t + 1))]) (rest := [.int r]) C hby hm.sw (c_X10_root l E bY MY LY (xs (6 * t + 1)) h2) rfl cy_0 tc_X10_root tm_RL_97 ti_X10_root ts_X10_root tn_RX10 td_X10_root rfl rfl ⟨Nat.le_of_ble_eq_true rfl, Nat.le_of_ble_eq_true rfl⟩ rfl hl.1 rfl (Nat.le_of_ble_eq_true rfl) hcs dL_law_773 (fun H locs hm => ?_)
  have hm := hm.sw
  exact lv_icmp_eq (tgt := 1447) hx hb dL_law_776 (by decide) (fun _ => kc H locs hm) (fun h => absurd rfl h)
def sim_at (Rel : xm → xm → xn → Prop) : Prop := ∀ (MX MY : xm) (LY : xn) (a0 : Int32), Rel MX MY LY → ∃ (r : Int32), f_X9_at MX a0 = some r ∧ f_X10_at MY a0 = some r ∧ Rel MX MY LY
set_option maxHeartbeats 4000000 in
theorem law_c19 {p : Program} {l : Launch} {e : Env} {s : State} {m : MethodId} {below : List Frame} {meth : Method} {c : Code} {Q : State → Prop} {E : xE} {bx bY b0 L t : Nat} {xs : Nat → Int32} {cs sl : Nat} (C : xC p s m #[Value.ref b0] meth c cL_law 4 RL (some .boolean) E bx) (hby : bx ≤ bY) (hX : va_X b0 L xs s s.heap) (hbl : b0 < s.heap.size) (ht : 6 * t + 6 ≤ L) (hL : L ≤ 3072) (hcs : cs ≤ 600000 ∧ sl ≤ 7302250) {MX MY : xm} {LY : xn} {H : Heap} {locs : List Loc} {ls : Array Slot} {r : Int32} (h1 : f_X9_at MX (xs (6 * t + 1)) = some r) (h2 : f_X10_at MY (xs (6 * t + 1)) = some r) (hm : lM E bx NX (cX E bx MX) bY NY (cY E bY MY LY) s.heap H locs) (hl : lv_has ls 4 [(0, .ref b0), (1, .ref (bx + 0)), (2, .ref (bY + 0)), (3, .int (nI (6 * t)))])
    (kc : ∀ (H : Heap) (locs : List Loc), lM E bx NX (cX E bx MX) bY NY (cY E bY MY LY) s.heap H locs → W p l e room_1 s m #[Value.ref b0] below meth c H locs cs sl Q (F0 m 1447 ls [])) :
    W p l e room_1 s m #[Value.ref b0] below meth c H locs cs sl Q (F0 m 781 ls []) := by
  have hx := C.1.1
  have hb := C.1.2.1
  refine lv_aload_n hx hb dL_law_781 rfl (lv_at hl 1 rfl) ?_
  refine l_arg C hX hbl ht hL hm.2.2.1 hl 1 (by decide) (by decide) dL_law_782 dL_law_783 dL_law_784 dL_law_785 dL_law_786 ?_
  refine l_callV (k := 0) (As := [.int (xs (6 * t + 1))]) (rest := []) C (Nat.le_refl _) hm (c_X9_at l E bx MX (xs (6 * t + 1)) h1) rfl (cx_ColouredHeap LX_top) tc_X9_at tm_RL_98 ti_X9_at ts_X9_at tn_RX9 td_X9_at rfl rfl ⟨Nat.le_of_ble_eq_true rfl, Nat.le_of_ble_eq_true rfl⟩ rfl hl.1 rfl (Nat.le_of_ble_eq_true rfl) hcs dL_law_787 (fun H locs hm => ?_)
  refine lv_aload_n hx hb dL_law_790 rfl (lv_at hl 2 rfl) ?_
  refine l_arg C hX hbl ht hL hm.2.2.1 hl 1 (by decide) (by decide) dL_law_791 dL_law_792 dL_law_793 dL_law_794 dL_law_795 ?_
  refine l_callV (k := 0) (As := [.int (xs (6 * t + 1))]) (rest := [.int r]) C hby hm.sw (c_X10_at l E bY MY LY (xs (6 * t + 1)) h2) rfl cy_0 tc_X10_at tm_RL_101 ti_X10_at ts_X10_at tn_RX10 td_X10_at rfl rfl ⟨Nat.le_of_ble_eq_true rfl, Nat.le_of_ble_eq_true rfl⟩ rfl hl.1 rfl (Nat.le_of_ble_eq_true rfl) hcs dL_law_796 (fun H locs hm => ?_)
  have hm := hm.sw
  exact lv_icmp_eq (tgt := 1447) hx hb dL_law_799 (by decide) (fun _ => kc H locs hm) (fun h => absurd rfl h)
def sim_forward (Rel : xm → xm → xn → Prop) : Prop := ∀ (MX MY : xm) (LY : xn) (a0 : Int32), Rel MX MY LY → ∃ (r : Int32), f_X9_forward MX a0 = some r ∧ f_X10_forward MY a0 = some r ∧ Rel MX MY LY
set_option maxHeartbeats 4000000 in
theorem law_c20 {p : Program} {l : Launch} {e : Env} {s : State} {m : MethodId} {below : List Frame} {meth : Method} {c : Code} {Q : State → Prop} {E : xE} {bx bY b0 L t : Nat} {xs : Nat → Int32} {cs sl : Nat} (C : xC p s m #[Value.ref b0] meth c cL_law 4 RL (some .boolean) E bx) (hby : bx ≤ bY) (hX : va_X b0 L xs s s.heap) (hbl : b0 < s.heap.size) (ht : 6 * t + 6 ≤ L) (hL : L ≤ 3072) (hcs : cs ≤ 600000 ∧ sl ≤ 7302250) {MX MY : xm} {LY : xn} {H : Heap} {locs : List Loc} {ls : Array Slot} {r : Int32} (h1 : f_X9_forward MX (xs (6 * t + 1)) = some r) (h2 : f_X10_forward MY (xs (6 * t + 1)) = some r) (hm : lM E bx NX (cX E bx MX) bY NY (cY E bY MY LY) s.heap H locs) (hl : lv_has ls 4 [(0, .ref b0), (1, .ref (bx + 0)), (2, .ref (bY + 0)), (3, .int (nI (6 * t)))])
    (kc : ∀ (H : Heap) (locs : List Loc), lM E bx NX (cX E bx MX) bY NY (cY E bY MY LY) s.heap H locs → W p l e room_1 s m #[Value.ref b0] below meth c H locs cs sl Q (F0 m 1447 ls [])) :
    W p l e room_1 s m #[Value.ref b0] below meth c H locs cs sl Q (F0 m 804 ls []) := by
  have hx := C.1.1
  have hb := C.1.2.1
  refine lv_aload_n hx hb dL_law_804 rfl (lv_at hl 1 rfl) ?_
  refine l_arg C hX hbl ht hL hm.2.2.1 hl 1 (by decide) (by decide) dL_law_805 dL_law_806 dL_law_807 dL_law_808 dL_law_809 ?_
  refine l_callV (k := 0) (As := [.int (xs (6 * t + 1))]) (rest := []) C (Nat.le_refl _) hm (c_X9_forward l E bx MX (xs (6 * t + 1)) h1) rfl (cx_ColouredHeap LX_top) tc_X9_forward tm_RL_102 ti_X9_forward ts_X9_forward tn_RX9 td_X9_forward rfl rfl ⟨Nat.le_of_ble_eq_true rfl, Nat.le_of_ble_eq_true rfl⟩ rfl hl.1 rfl (Nat.le_of_ble_eq_true rfl) hcs dL_law_810 (fun H locs hm => ?_)
  refine lv_aload_n hx hb dL_law_813 rfl (lv_at hl 2 rfl) ?_
  refine l_arg C hX hbl ht hL hm.2.2.1 hl 1 (by decide) (by decide) dL_law_814 dL_law_815 dL_law_816 dL_law_817 dL_law_818 ?_
  refine l_callV (k := 0) (As := [.int (xs (6 * t + 1))]) (rest := [.int r]) C hby hm.sw (c_X10_forward l E bY MY LY (xs (6 * t + 1)) h2) rfl cy_0 tc_X10_forward tm_RL_105 ti_X10_forward ts_X10_forward tn_RX10 td_X10_forward rfl rfl ⟨Nat.le_of_ble_eq_true rfl, Nat.le_of_ble_eq_true rfl⟩ rfl hl.1 rfl (Nat.le_of_ble_eq_true rfl) hcs dL_law_819 (fun H locs hm => ?_)
  have hm := hm.sw
  exact lv_icmp_eq (tgt := 1447) hx hb dL_law_822 (by decide) (fun _ => kc H locs hm) (fun h => absurd rfl h)
def sim_page (Rel : xm → xm → xn → Prop) : Prop := ∀ (MX MY : xm) (LY : xn) (a0 : Int32) (a1 : Int32), Rel MX MY LY → ∃ (r : Int32) (MX' : xm) (MY' : xm) (LY' : xn), f_X9_page MX a0 a1 = some (r, MX') ∧ f_X10_page MY LY a0 a1 = some (r, MY', LY') ∧ Rel MX' MY' LY'
set_option maxHeartbeats 4000000 in
theorem law_c21 {p : Program} {l : Launch} {e : Env} {s : State} {m : MethodId} {below : List Frame} {meth : Method} {c : Code} {Q : State → Prop} {E : xE} {bx bY b0 L t : Nat} {xs : Nat → Int32} {cs sl : Nat} (C : xC p s m #[Value.ref b0] meth c cL_law 4 RL (some .boolean) E bx) (hby : bx ≤ bY) (hX : va_X b0 L xs s s.heap) (hbl : b0 < s.heap.size) (ht : 6 * t + 6 ≤ L) (hL : L ≤ 3072) (hcs : cs ≤ 600000 ∧ sl ≤ 7302250) {MX MY : xm} {LY : xn} {H : Heap} {locs : List Loc} {ls : Array Slot} {r : Int32} {MX' : xm} {MY' : xm} {LY' : xn} (h1 : f_X9_page MX (xs (6 * t + 1)) (xs (6 * t + 2)) = some (r, MX')) (h2 : f_X10_page MY LY (xs (6 * t + 1)) (xs (6 * t + 2)) = some (r, MY', LY')) (hm : lM E bx NX (cX E bx MX) bY NY (cY E bY MY LY) s.heap H locs) (hl : lv_has ls 4 [(0, .ref b0), (1, .ref (bx + 0)), (2, .ref (bY + 0)), (3, .int (nI (6 * t)))])
    (kc : ∀ (H : Heap) (locs : List Loc), lM E bx NX (cX E bx MX') bY NY (cY E bY MY' LY') s.heap H locs → W p l e room_1 s m #[Value.ref b0] below meth c H locs cs sl Q (F0 m 1447 ls [])) :
    W p l e room_1 s m #[Value.ref b0] below meth c H locs cs sl Q (F0 m 827 ls []) := by
  have hx := C.1.1
  have hb := C.1.2.1
  refine lv_aload_n hx hb dL_law_827 rfl (lv_at hl 1 rfl) ?_
  refine l_arg C hX hbl ht hL hm.2.2.1 hl 1 (by decide) (by decide) dL_law_828 dL_law_829 dL_law_830 dL_law_831 dL_law_832 ?_
  refine l_arg C hX hbl ht hL hm.2.2.1 hl 2 (by decide) (by decide) dL_law_833 dL_law_834 dL_law_835 dL_law_836 dL_law_837 ?_
  refine l_callV (k := 0) (As := [.int (xs (6 * t + 1)), .int (xs (6 * t + 2))]) (rest := []) C (Nat.le_refl _) hm (c_X9_page l E bx MX (xs (6 * t + 1)) (xs (6 * t + 2)) h1) rfl (cx_ColouredHeap LX_top) tc_X9_page tm_RL_106 ti_X9_page ts_X9_page tn_RX9 td_X9_page rfl rfl ⟨Nat.le_of_ble_eq_true rfl, Nat.le_of_ble_eq_true rfl⟩ rfl hl.1 rfl (Nat.le_of_ble_eq_true rfl) hcs dL_law_838 (fun H locs hm => ?_)
  refine lv_aload_n hx hb dL_law_841 rfl (lv_at hl 2 rfl) ?_
  refine l_arg C hX hbl ht hL hm.2.2.1 hl 1 (by decide) (by decide) dL_law_842 dL_law_843 dL_law_844 dL_law_845 dL_law_846 ?_
  refine l_arg C hX hbl ht hL hm.2.2.1 hl 2 (by decide) (by decide) dL_law_847 dL_law_848 dL_law_849 dL_law_850 dL_law_851 ?_
  refine l_callV (k := 0) (As := [.int (xs (6 * t + 1)), .int (xs (6 * t + 2))]) (rest := [.int r]) C hby hm.sw (c_X10_page l E bY MY LY (xs (6 * t + 1)) (xs (6 * t + 2)) h2) rfl cy_0 tc_X10_page tm_RL_109 ti_X10_page ts_X10_page tn_RX10 td_X10_page rfl rfl ⟨Nat.le_of_ble_eq_true rfl, Nat.le_of_ble_eq_true rfl⟩ rfl hl.1 rfl (Nat.le_of_ble_eq_true rfl) hcs dL_law_852 (fun H locs hm => ?_)
  have hm := hm.sw
  exact lv_icmp_eq (tgt := 1447) hx hb dL_law_855 (by decide) (fun _ => kc H locs hm) (fun h => absurd rfl h)
def sim_is (Rel : xm → xm → xn → Prop) : Prop := ∀ (MX MY : xm) (LY : xn) (a0 : Int32), Rel MX MY LY → ∃ (r : Int32), f_X9_is MX a0 = r ∧ f_X10_is MY a0 = some r ∧ Rel MX MY LY
set_option maxHeartbeats 4000000 in
theorem law_c22 {p : Program} {l : Launch} {e : Env} {s : State} {m : MethodId} {below : List Frame} {meth : Method} {c : Code} {Q : State → Prop} {E : xE} {bx bY b0 L t : Nat} {xs : Nat → Int32} {cs sl : Nat} (C : xC p s m #[Value.ref b0] meth c cL_law 4 RL (some .boolean) E bx) (hby : bx ≤ bY) (hX : va_X b0 L xs s s.heap) (hbl : b0 < s.heap.size) (ht : 6 * t + 6 ≤ L) (hL : L ≤ 3072) (hcs : cs ≤ 600000 ∧ sl ≤ 7302250) {MX MY : xm} {LY : xn} {H : Heap} {locs : List Loc} {ls : Array Slot} {r : Int32} (h1 : f_X9_is MX (xs (6 * t + 1)) = r) (h2 : f_X10_is MY (xs (6 * t + 1)) = some r) (hm : lM E bx NX (cX E bx MX) bY NY (cY E bY MY LY) s.heap H locs) (hl : lv_has ls 4 [(0, .ref b0), (1, .ref (bx + 0)), (2, .ref (bY + 0)), (3, .int (nI (6 * t)))])
    (kc : ∀ (H : Heap) (locs : List Loc), lM E bx NX (cX E bx MX) bY NY (cY E bY MY LY) s.heap H locs → W p l e room_1 s m #[Value.ref b0] below meth c H locs cs sl Q (F0 m 1447 ls [])) :
    W p l e room_1 s m #[Value.ref b0] below meth c H locs cs sl Q (F0 m 860 ls []) := by
  have hx := C.1.1
  have hb := C.1.2.1
  refine lv_aload_n hx hb dL_law_860 rfl (lv_at hl 1 rfl) ?_
  refine l_arg C hX hbl ht hL hm.2.2.1 hl 1 (by decide) (by decide) dL_law_861 dL_law_862 dL_law_863 dL_law_864 dL_law_865 ?_
  refine l_callV (k := 0) (As := [.int (xs (6 * t + 1))]) (rest := []) C (Nat.le_refl _) hm (c_X9_is l E bx MX (xs (6 * t + 1)) h1) rfl (cx_ColouredHeap LX_top) tc_X9_is tm_RL_110 ti_X9_is ts_X9_is tn_RX9 td_X9_is rfl rfl ⟨Nat.le_of_ble_eq_true rfl, Nat.le_of_ble_eq_true rfl⟩ rfl hl.1 rfl (Nat.le_of_ble_eq_true rfl) hcs dL_law_866 (fun H locs hm => ?_)
  refine lv_aload_n hx hb dL_law_869 rfl (lv_at hl 2 rfl) ?_
  refine l_arg C hX hbl ht hL hm.2.2.1 hl 1 (by decide) (by decide) dL_law_870 dL_law_871 dL_law_872 dL_law_873 dL_law_874 ?_
  refine l_callV (k := 0) (As := [.int (xs (6 * t + 1))]) (rest := [.int r]) C hby hm.sw (c_X10_is l E bY MY LY (xs (6 * t + 1)) h2) rfl cy_0 tc_X10_is tm_RL_113 ti_X10_is ts_X10_is tn_RX10 td_X10_is rfl rfl ⟨Nat.le_of_ble_eq_true rfl, Nat.le_of_ble_eq_true rfl⟩ rfl hl.1 rfl (Nat.le_of_ble_eq_true rfl) hcs dL_law_875 (fun H locs hm => ?_)
  have hm := hm.sw
  exact lv_icmp_eq (tgt := 1447) hx hb dL_law_878 (by decide) (fun _ => kc H locs hm) (fun h => absurd rfl h)
def sim_marked (Rel : xm → xm → xn → Prop) : Prop := ∀ (MX MY : xm) (LY : xn) (a0 : Int32), Rel MX MY LY → ∃ (r : Int32), f_X9_marked MX a0 = some r ∧ f_X10_marked MY a0 = some r ∧ Rel MX MY LY
set_option maxHeartbeats 4000000 in
theorem law_c23 {p : Program} {l : Launch} {e : Env} {s : State} {m : MethodId} {below : List Frame} {meth : Method} {c : Code} {Q : State → Prop} {E : xE} {bx bY b0 L t : Nat} {xs : Nat → Int32} {cs sl : Nat} (C : xC p s m #[Value.ref b0] meth c cL_law 4 RL (some .boolean) E bx) (hby : bx ≤ bY) (hX : va_X b0 L xs s s.heap) (hbl : b0 < s.heap.size) (ht : 6 * t + 6 ≤ L) (hL : L ≤ 3072) (hcs : cs ≤ 600000 ∧ sl ≤ 7302250) {MX MY : xm} {LY : xn} {H : Heap} {locs : List Loc} {ls : Array Slot} {r : Int32} (h1 : f_X9_marked MX (xs (6 * t + 1)) = some r) (h2 : f_X10_marked MY (xs (6 * t + 1)) = some r) (hm : lM E bx NX (cX E bx MX) bY NY (cY E bY MY LY) s.heap H locs) (hl : lv_has ls 4 [(0, .ref b0), (1, .ref (bx + 0)), (2, .ref (bY + 0)), (3, .int (nI (6 * t)))])
    (kc : ∀ (H : Heap) (locs : List Loc), lM E bx NX (cX E bx MX) bY NY (cY E bY MY LY) s.heap H locs → W p l e room_1 s m #[Value.ref b0] below meth c H locs cs sl Q (F0 m 1447 ls [])) :
    W p l e room_1 s m #[Value.ref b0] below meth c H locs cs sl Q (F0 m 883 ls []) := by
  have hx := C.1.1
  have hb := C.1.2.1
  refine lv_aload_n hx hb dL_law_883 rfl (lv_at hl 1 rfl) ?_
  refine l_arg C hX hbl ht hL hm.2.2.1 hl 1 (by decide) (by decide) dL_law_884 dL_law_885 dL_law_886 dL_law_887 dL_law_888 ?_
  refine l_callV (k := 0) (As := [.int (xs (6 * t + 1))]) (rest := []) C (Nat.le_refl _) hm (c_X9_marked l E bx MX (xs (6 * t + 1)) h1) rfl (cx_ColouredHeap LX_top) tc_X9_marked tm_RL_114 ti_X9_marked ts_X9_marked tn_RX9 td_X9_marked rfl rfl ⟨Nat.le_of_ble_eq_true rfl, Nat.le_of_ble_eq_true rfl⟩ rfl hl.1 rfl (Nat.le_of_ble_eq_true rfl) hcs dL_law_889 (fun H locs hm => ?_)
  refine lv_aload_n hx hb dL_law_892 rfl (lv_at hl 2 rfl) ?_
  refine l_arg C hX hbl ht hL hm.2.2.1 hl 1 (by decide) (by decide) dL_law_893 dL_law_894 dL_law_895 dL_law_896 dL_law_897 ?_
  refine l_callV (k := 0) (As := [.int (xs (6 * t + 1))]) (rest := [.int r]) C hby hm.sw (c_X10_marked l E bY MY LY (xs (6 * t + 1)) h2) rfl cy_0 tc_X10_marked tm_RL_117 ti_X10_marked ts_X10_marked tn_RX10 td_X10_marked rfl rfl ⟨Nat.le_of_ble_eq_true rfl, Nat.le_of_ble_eq_true rfl⟩ rfl hl.1 rfl (Nat.le_of_ble_eq_true rfl) hcs dL_law_898 (fun H locs hm => ?_)
  have hm := hm.sw
  exact lv_icmp_eq (tgt := 1447) hx hb dL_law_901 (by decide) (fun _ => kc H locs hm) (fun h => absurd rfl h)
def sim_book (Rel : xm → xm → xn → Prop) : Prop := ∀ (MX MY : xm) (LY : xn) (a0 : Int32) (a1 : Int32), Rel MX MY LY → ∃ (r : Int32), f_X9_book MX a0 a1 = some r ∧ f_X10_book MY a0 a1 = some r ∧ Rel MX MY LY
set_option maxHeartbeats 4000000 in
theorem law_c24 {p : Program} {l : Launch} {e : Env} {s : State} {m : MethodId} {below : List Frame} {meth : Method} {c : Code} {Q : State → Prop} {E : xE} {bx bY b0 L t : Nat} {xs : Nat → Int32} {cs sl : Nat} (C : xC p s m #[Value.ref b0] meth c cL_law 4 RL (some .boolean) E bx) (hby : bx ≤ bY) (hX : va_X b0 L xs s s.heap) (hbl : b0 < s.heap.size) (ht : 6 * t + 6 ≤ L) (hL : L ≤ 3072) (hcs : cs ≤ 600000 ∧ sl ≤ 7302250) {MX MY : xm} {LY : xn} {H : Heap} {locs : List Loc} {ls : Array Slot} {r : Int32} (h1 : f_X9_book MX (xs (6 * t + 1)) (xs (6 * t + 2)) = some r) (h2 : f_X10_book MY (xs (6 * t + 1)) (xs (6 * t + 2)) = some r) (hm : lM E bx NX (cX E bx MX) bY NY (cY E bY MY LY) s.heap H locs) (hl : lv_has ls 4 [(0, .ref b0), (1, .ref (bx + 0)), (2, .ref (bY + 0)), (3, .int (nI (6 * t)))])
    (kc : ∀ (H : Heap) (locs : List Loc), lM E bx NX (cX E bx MX) bY NY (cY E bY MY LY) s.heap H locs → W p l e room_1 s m #[Value.ref b0] below meth c H locs cs sl Q (F0 m 1447 ls [])) :
    W p l e room_1 s m #[Value.ref b0] below meth c H locs cs sl Q (F0 m 906 ls []) := by
  have hx := C.1.1
  have hb := C.1.2.1
  refine lv_aload_n hx hb dL_law_906 rfl (lv_at hl 1 rfl) ?_
  refine l_arg C hX hbl ht hL hm.2.2.1 hl 1 (by decide) (by decide) dL_law_907 dL_law_908 dL_law_909 dL_law_910 dL_law_911 ?_
  refine l_arg C hX hbl ht hL hm.2.2.1 hl 2 (by decide) (by decide) dL_law_912 dL_law_913 dL_law_914 dL_law_915 dL_law_916 ?_
  refine l_callV (k := 0) (As := [.int (xs (6 * t + 1)), .int (xs (6 * t + 2))]) (rest := []) C (Nat.le_refl _) hm (c_X9_book l E bx MX (xs (6 * t + 1)) (xs (6 * t + 2)) h1) rfl (cx_ColouredHeap LX_top) tc_X9_book tm_RL_118 ti_X9_book ts_X9_book tn_RX9 td_X9_book rfl rfl ⟨Nat.le_of_ble_eq_true rfl, Nat.le_of_ble_eq_true rfl⟩ rfl hl.1 rfl (Nat.le_of_ble_eq_true rfl) hcs dL_law_917 (fun H locs hm => ?_)
  refine lv_aload_n hx hb dL_law_920 rfl (lv_at hl 2 rfl) ?_
  refine l_arg C hX hbl ht hL hm.2.2.1 hl 1 (by decide) (by decide) dL_law_921 dL_law_922 dL_law_923 dL_law_924 dL_law_925 ?_
  refine l_arg C hX hbl ht hL hm.2.2.1 hl 2 (by decide) (by decide) dL_law_926 dL_law_927 dL_law_928 dL_law_929 dL_law_930 ?_
  refine l_callV (k := 0) (As := [.int (xs (6 * t + 1)), .int (xs (6 * t + 2))]) (rest := [.int r]) C hby hm.sw (c_X10_book l E bY MY LY (xs (6 * t + 1)) (xs (6 * t + 2)) h2) rfl cy_0 tc_X10_book tm_RL_121 ti_X10_book ts_X10_book tn_RX10 td_X10_book rfl rfl ⟨Nat.le_of_ble_eq_true rfl, Nat.le_of_ble_eq_true rfl⟩ rfl hl.1 rfl (Nat.le_of_ble_eq_true rfl) hcs dL_law_931 (fun H locs hm => ?_)
  have hm := hm.sw
  exact lv_icmp_eq (tgt := 1447) hx hb dL_law_934 (by decide) (fun _ => kc H locs hm) (fun h => absurd rfl h)
def sim_foretold (Rel : xm → xm → xn → Prop) : Prop := ∀ (MX MY : xm) (LY : xn) (a0 : Int32) (a1 : Int32), Rel MX MY LY → ∃ (r : Int32) (MX' : xm) (MY' : xm) (LY' : xn), f_X9_foretold MX a0 a1 = some (r, MX') ∧ f_X10_foretold MY LY a0 a1 = some (r, MY', LY') ∧ Rel MX' MY' LY'
set_option maxHeartbeats 4000000 in
theorem law_c25 {p : Program} {l : Launch} {e : Env} {s : State} {m : MethodId} {below : List Frame} {meth : Method} {c : Code} {Q : State → Prop} {E : xE} {bx bY b0 L t : Nat} {xs : Nat → Int32} {cs sl : Nat} (C : xC p s m #[Value.ref b0] meth c cL_law 4 RL (some .boolean) E bx) (hby : bx ≤ bY) (hX : va_X b0 L xs s s.heap) (hbl : b0 < s.heap.size) (ht : 6 * t + 6 ≤ L) (hL : L ≤ 3072) (hcs : cs ≤ 600000 ∧ sl ≤ 7302250) {MX MY : xm} {LY : xn} {H : Heap} {locs : List Loc} {ls : Array Slot} {r : Int32} {MX' : xm} {MY' : xm} {LY' : xn} (h1 : f_X9_foretold MX (xs (6 * t + 1)) (xs (6 * t + 2)) = some (r, MX')) (h2 : f_X10_foretold MY LY (xs (6 * t + 1)) (xs (6 * t + 2)) = some (r, MY', LY')) (hm : lM E bx NX (cX E bx MX) bY NY (cY E bY MY LY) s.heap H locs) (hl : lv_has ls 4 [(0, .ref b0), (1, .ref (bx + 0)), (2, .ref (bY + 0)), (3, .int (nI (6 * t)))])
    (kc : ∀ (H : Heap) (locs : List Loc), lM E bx NX (cX E bx MX') bY NY (cY E bY MY' LY') s.heap H locs → W p l e room_1 s m #[Value.ref b0] below meth c H locs cs sl Q (F0 m 1447 ls [])) :
    W p l e room_1 s m #[Value.ref b0] below meth c H locs cs sl Q (F0 m 939 ls []) := by
  have hx := C.1.1
  have hb := C.1.2.1
  refine lv_aload_n hx hb dL_law_939 rfl (lv_at hl 1 rfl) ?_
  refine l_arg C hX hbl ht hL hm.2.2.1 hl 1 (by decide) (by decide) dL_law_940 dL_law_941 dL_law_942 dL_law_943 dL_law_944 ?_
  refine l_arg C hX hbl ht hL hm.2.2.1 hl 2 (by decide) (by decide) dL_law_945 dL_law_946 dL_law_947 dL_law_948 dL_law_949 ?_
  refine l_callV (k := 0) (As := [.int (xs (6 * t + 1)), .int (xs (6 * t + 2))]) (rest := []) C (Nat.le_refl _) hm (c_X9_foretold l E bx MX (xs (6 * t + 1)) (xs (6 * t + 2)) h1) rfl (cx_ColouredHeap LX_top) tc_X9_foretold tm_RL_122 ti_X9_foretold ts_X9_foretold tn_RX9 td_X9_foretold rfl rfl ⟨Nat.le_of_ble_eq_true rfl, Nat.le_of_ble_eq_true rfl⟩ rfl hl.1 rfl (Nat.le_of_ble_eq_true rfl) hcs dL_law_950 (fun H locs hm => ?_)
  refine lv_aload_n hx hb dL_law_953 rfl (lv_at hl 2 rfl) ?_
  refine l_arg C hX hbl ht hL hm.2.2.1 hl 1 (by decide) (by decide) dL_law_954 dL_law_955 dL_law_956 dL_law_957 dL_law_958 ?_
  refine l_arg C hX hbl ht hL hm.2.2.1 hl 2 (by decide) (by decide) dL_law_959 dL_law_960 dL_law_961 dL_law_962 dL_law_963 ?_
  refine l_callV (k := 0) (As := [.int (xs (6 * t + 1)), .int (xs (6 * t + 2))]) (rest := [.int r]) C hby hm.sw (c_X10_foretold l E bY MY LY (xs (6 * t + 1)) (xs (6 * t + 2)) h2) rfl cy_0 tc_X10_foretold tm_RL_125 ti_X10_foretold ts_X10_foretold tn_RX10 td_X10_foretold rfl rfl ⟨Nat.le_of_ble_eq_true rfl, Nat.le_of_ble_eq_true rfl⟩ rfl hl.1 rfl (Nat.le_of_ble_eq_true rfl) hcs dL_law_964 (fun H locs hm => ?_)
  have hm := hm.sw
  exact lv_icmp_eq (tgt := 1447) hx hb dL_law_967 (by decide) (fun _ => kc H locs hm) (fun h => absurd rfl h)
def sim_paces (Rel : xm → xm → xn → Prop) : Prop := ∀ (MX MY : xm) (LY : xn) (a0 : Int32), Rel MX MY LY → ∃ (r : Int32) (MX' : xm) (MY' : xm) (LY' : xn), f_X9_paces MX a0 = some (r, MX') ∧ f_X10_paces MY LY a0 = some (r, MY', LY') ∧ Rel MX' MY' LY'
set_option maxHeartbeats 4000000 in
theorem law_c26 {p : Program} {l : Launch} {e : Env} {s : State} {m : MethodId} {below : List Frame} {meth : Method} {c : Code} {Q : State → Prop} {E : xE} {bx bY b0 L t : Nat} {xs : Nat → Int32} {cs sl : Nat} (C : xC p s m #[Value.ref b0] meth c cL_law 4 RL (some .boolean) E bx) (hby : bx ≤ bY) (hX : va_X b0 L xs s s.heap) (hbl : b0 < s.heap.size) (ht : 6 * t + 6 ≤ L) (hL : L ≤ 3072) (hcs : cs ≤ 600000 ∧ sl ≤ 7302250) {MX MY : xm} {LY : xn} {H : Heap} {locs : List Loc} {ls : Array Slot} {r : Int32} {MX' : xm} {MY' : xm} {LY' : xn} (h1 : f_X9_paces MX (xs (6 * t + 1)) = some (r, MX')) (h2 : f_X10_paces MY LY (xs (6 * t + 1)) = some (r, MY', LY')) (hm : lM E bx NX (cX E bx MX) bY NY (cY E bY MY LY) s.heap H locs) (hl : lv_has ls 4 [(0, .ref b0), (1, .ref (bx + 0)), (2, .ref (bY + 0)), (3, .int (nI (6 * t)))])
    (kc : ∀ (H : Heap) (locs : List Loc), lM E bx NX (cX E bx MX') bY NY (cY E bY MY' LY') s.heap H locs → W p l e room_1 s m #[Value.ref b0] below meth c H locs cs sl Q (F0 m 1447 ls [])) :
    W p l e room_1 s m #[Value.ref b0] below meth c H locs cs sl Q (F0 m 972 ls []) := by
  have hx := C.1.1
  have hb := C.1.2.1
  refine lv_aload_n hx hb dL_law_972 rfl (lv_at hl 1 rfl) ?_
  refine l_arg C hX hbl ht hL hm.2.2.1 hl 1 (by decide) (by decide) dL_law_973 dL_law_974 dL_law_975 dL_law_976 dL_law_977 ?_
  refine l_callV (k := 0) (As := [.int (xs (6 * t + 1))]) (rest := []) C (Nat.le_refl _) hm (c_X9_paces l E bx MX (xs (6 * t + 1)) h1) rfl (cx_ColouredHeap LX_top) tc_X9_paces tm_RL_126 ti_X9_paces ts_X9_paces tn_RX9 td_X9_paces rfl rfl ⟨Nat.le_of_ble_eq_true rfl, Nat.le_of_ble_eq_true rfl⟩ rfl hl.1 rfl (Nat.le_of_ble_eq_true rfl) hcs dL_law_978 (fun H locs hm => ?_)
  refine lv_aload_n hx hb dL_law_981 rfl (lv_at hl 2 rfl) ?_
  refine l_arg C hX hbl ht hL hm.2.2.1 hl 1 (by decide) (by decide) dL_law_982 dL_law_983 dL_law_984 dL_law_985 dL_law_986 ?_
  refine l_callV (k := 0) (As := [.int (xs (6 * t + 1))]) (rest := [.int r]) C hby hm.sw (c_X10_paces l E bY MY LY (xs (6 * t + 1)) h2) rfl cy_0 tc_X10_paces tm_RL_129 ti_X10_paces ts_X10_paces tn_RX10 td_X10_paces rfl rfl ⟨Nat.le_of_ble_eq_true rfl, Nat.le_of_ble_eq_true rfl⟩ rfl hl.1 rfl (Nat.le_of_ble_eq_true rfl) hcs dL_law_987 (fun H locs hm => ?_)
  have hm := hm.sw
  exact lv_icmp_eq (tgt := 1447) hx hb dL_law_990 (by decide) (fun _ => kc H locs hm) (fun h => absurd rfl h)
def sim_current (Rel : xm → xm → xn → Prop) : Prop := ∀ (MX MY : xm) (LY : xn) (a0 : Int32), Rel MX MY LY → ∃ (r : Int32), f_X9_current MX a0 = some r ∧ f_X10_current MY a0 = some r ∧ Rel MX MY LY
set_option maxHeartbeats 4000000 in
theorem law_c27 {p : Program} {l : Launch} {e : Env} {s : State} {m : MethodId} {below : List Frame} {meth : Method} {c : Code} {Q : State → Prop} {E : xE} {bx bY b0 L t : Nat} {xs : Nat → Int32} {cs sl : Nat} (C : xC p s m #[Value.ref b0] meth c cL_law 4 RL (some .boolean) E bx) (hby : bx ≤ bY) (hX : va_X b0 L xs s s.heap) (hbl : b0 < s.heap.size) (ht : 6 * t + 6 ≤ L) (hL : L ≤ 3072) (hcs : cs ≤ 600000 ∧ sl ≤ 7302250) {MX MY : xm} {LY : xn} {H : Heap} {locs : List Loc} {ls : Array Slot} {r : Int32} (h1 : f_X9_current MX (xs (6 * t + 1)) = some r) (h2 : f_X10_current MY (xs (6 * t + 1)) = some r) (hm : lM E bx NX (cX E bx MX) bY NY (cY E bY MY LY) s.heap H locs) (hl : lv_has ls 4 [(0, .ref b0), (1, .ref (bx + 0)), (2, .ref (bY + 0)), (3, .int (nI (6 * t)))])
    (kc : ∀ (H : Heap) (locs : List Loc), lM E bx NX (cX E bx MX) bY NY (cY E bY MY LY) s.heap H locs → W p l e room_1 s m #[Value.ref b0] below meth c H locs cs sl Q (F0 m 1447 ls [])) :
    W p l e room_1 s m #[Value.ref b0] below meth c H locs cs sl Q (F0 m 995 ls []) := by
  have hx := C.1.1
  have hb := C.1.2.1
  refine lv_aload_n hx hb dL_law_995 rfl (lv_at hl 1 rfl) ?_
  refine l_arg C hX hbl ht hL hm.2.2.1 hl 1 (by decide) (by decide) dL_law_996 dL_law_997 dL_law_998 dL_law_999 dL_law_1000 ?_
  refine l_callV (k := 0) (As := [.int (xs (6 * t + 1))]) (rest := []) C (Nat.le_refl _) hm (c_X9_current l E bx MX (xs (6 * t + 1)) h1) rfl (cx_ColouredHeap LX_top) tc_X9_current tm_RL_130 ti_X9_current ts_X9_current tn_RX9 td_X9_current rfl rfl ⟨Nat.le_of_ble_eq_true rfl, Nat.le_of_ble_eq_true rfl⟩ rfl hl.1 rfl (Nat.le_of_ble_eq_true rfl) hcs dL_law_1001 (fun H locs hm => ?_)
  refine lv_aload_n hx hb dL_law_1004 rfl (lv_at hl 2 rfl) ?_
  refine l_arg C hX hbl ht hL hm.2.2.1 hl 1 (by decide) (by decide) dL_law_1005 dL_law_1006 dL_law_1007 dL_law_1008 dL_law_1009 ?_
  refine l_callV (k := 0) (As := [.int (xs (6 * t + 1))]) (rest := [.int r]) C hby hm.sw (c_X10_current l E bY MY LY (xs (6 * t + 1)) h2) rfl cy_0 tc_X10_current tm_RL_133 ti_X10_current ts_X10_current tn_RX10 td_X10_current rfl rfl ⟨Nat.le_of_ble_eq_true rfl, Nat.le_of_ble_eq_true rfl⟩ rfl hl.1 rfl (Nat.le_of_ble_eq_true rfl) hcs dL_law_1010 (fun H locs hm => ?_)
  have hm := hm.sw
  exact lv_icmp_eq (tgt := 1447) hx hb dL_law_1013 (by decide) (fun _ => kc H locs hm) (fun h => absurd rfl h)
def sim_reached (Rel : xm → xm → xn → Prop) : Prop := ∀ (MX MY : xm) (LY : xn) (a0 : Int32), Rel MX MY LY → ∃ (r : Int32) (MX' : xm) (MY' : xm), f_X9_reached MX a0 = some (r, MX') ∧ f_X10_reached MY a0 = some (r, MY') ∧ Rel MX' MY' LY
set_option maxHeartbeats 4000000 in
theorem law_c28 {p : Program} {l : Launch} {e : Env} {s : State} {m : MethodId} {below : List Frame} {meth : Method} {c : Code} {Q : State → Prop} {E : xE} {bx bY b0 L t : Nat} {xs : Nat → Int32} {cs sl : Nat} (C : xC p s m #[Value.ref b0] meth c cL_law 4 RL (some .boolean) E bx) (hby : bx ≤ bY) (hX : va_X b0 L xs s s.heap) (hbl : b0 < s.heap.size) (ht : 6 * t + 6 ≤ L) (hL : L ≤ 3072) (hcs : cs ≤ 600000 ∧ sl ≤ 7302250) {MX MY : xm} {LY : xn} {H : Heap} {locs : List Loc} {ls : Array Slot} {r : Int32} {MX' : xm} {MY' : xm} (h1 : f_X9_reached MX (xs (6 * t + 1)) = some (r, MX')) (h2 : f_X10_reached MY (xs (6 * t + 1)) = some (r, MY')) (hm : lM E bx NX (cX E bx MX) bY NY (cY E bY MY LY) s.heap H locs) (hl : lv_has ls 4 [(0, .ref b0), (1, .ref (bx + 0)), (2, .ref (bY + 0)), (3, .int (nI (6 * t)))])
    (kc : ∀ (H : Heap) (locs : List Loc), lM E bx NX (cX E bx MX') bY NY (cY E bY MY' LY) s.heap H locs → W p l e room_1 s m #[Value.ref b0] below meth c H locs cs sl Q (F0 m 1447 ls [])) :
    W p l e room_1 s m #[Value.ref b0] below meth c H locs cs sl Q (F0 m 1018 ls []) := by
  have hx := C.1.1
  have hb := C.1.2.1
  refine lv_aload_n hx hb dL_law_1018 rfl (lv_at hl 1 rfl) ?_
  refine l_arg C hX hbl ht hL hm.2.2.1 hl 1 (by decide) (by decide) dL_law_1019 dL_law_1020 dL_law_1021 dL_law_1022 dL_law_1023 ?_
  refine l_callV (k := 0) (As := [.int (xs (6 * t + 1))]) (rest := []) C (Nat.le_refl _) hm (c_X9_reached l E bx MX (xs (6 * t + 1)) h1) rfl (cx_ColouredHeap LX_top) tc_X9_reached tm_RL_134 ti_X9_reached ts_X9_reached tn_RX9 td_X9_reached rfl rfl ⟨Nat.le_of_ble_eq_true rfl, Nat.le_of_ble_eq_true rfl⟩ rfl hl.1 rfl (Nat.le_of_ble_eq_true rfl) hcs dL_law_1024 (fun H locs hm => ?_)
  refine lv_aload_n hx hb dL_law_1027 rfl (lv_at hl 2 rfl) ?_
  refine l_arg C hX hbl ht hL hm.2.2.1 hl 1 (by decide) (by decide) dL_law_1028 dL_law_1029 dL_law_1030 dL_law_1031 dL_law_1032 ?_
  refine l_callV (k := 0) (As := [.int (xs (6 * t + 1))]) (rest := [.int r]) C hby hm.sw (c_X10_reached l E bY MY LY (xs (6 * t + 1)) h2) rfl cy_0 tc_X10_reached tm_RL_137 ti_X10_reached ts_X10_reached tn_RX10 td_X10_reached rfl rfl ⟨Nat.le_of_ble_eq_true rfl, Nat.le_of_ble_eq_true rfl⟩ rfl hl.1 rfl (Nat.le_of_ble_eq_true rfl) hcs dL_law_1033 (fun H locs hm => ?_)
  have hm := hm.sw
  exact lv_icmp_eq (tgt := 1447) hx hb dL_law_1036 (by decide) (fun _ => kc H locs hm) (fun h => absurd rfl h)
def sim_reach (Rel : xm → xm → xn → Prop) : Prop := ∀ (MX MY : xm) (LY : xn) (a0 : Int32), Rel MX MY LY → ∃ (r : Int32) (MX' : xm) (MY' : xm), f_X9_reach MX a0 = some (r, MX') ∧ f_X10_reach MY a0 = some (r, MY') ∧ Rel MX' MY' LY
set_option maxHeartbeats 4000000 in
theorem law_c29 {p : Program} {l : Launch} {e : Env} {s : State} {m : MethodId} {below : List Frame} {meth : Method} {c : Code} {Q : State → Prop} {E : xE} {bx bY b0 L t : Nat} {xs : Nat → Int32} {cs sl : Nat} (C : xC p s m #[Value.ref b0] meth c cL_law 4 RL (some .boolean) E bx) (hby : bx ≤ bY) (hX : va_X b0 L xs s s.heap) (hbl : b0 < s.heap.size) (ht : 6 * t + 6 ≤ L) (hL : L ≤ 3072) (hcs : cs ≤ 600000 ∧ sl ≤ 7302250) {MX MY : xm} {LY : xn} {H : Heap} {locs : List Loc} {ls : Array Slot} {r : Int32} {MX' : xm} {MY' : xm} (h1 : f_X9_reach MX (xbn (xs (6 * t + 1))) = some (r, MX')) (h2 : f_X10_reach MY (xbn (xs (6 * t + 1))) = some (r, MY')) (hm : lM E bx NX (cX E bx MX) bY NY (cY E bY MY LY) s.heap H locs) (hl : lv_has ls 4 [(0, .ref b0), (1, .ref (bx + 0)), (2, .ref (bY + 0)), (3, .int (nI (6 * t)))])
    (kc : ∀ (H : Heap) (locs : List Loc), lM E bx NX (cX E bx MX') bY NY (cY E bY MY' LY) s.heap H locs → W p l e room_1 s m #[Value.ref b0] below meth c H locs cs sl Q (F0 m 1447 ls [])) :
    W p l e room_1 s m #[Value.ref b0] below meth c H locs cs sl Q (F0 m 1041 ls []) := by
  have hx := C.1.1
  have hb := C.1.2.1
  by_cases hz : xs (6 * t + 1) = 0
  · rw [show xbn (xs (6 * t + 1)) = 0 from if_pos hz] at h1 h2
    refine lv_aload_n hx hb dL_law_1041 rfl (lv_at hl 1 rfl) ?_
    refine l_arg C hX hbl ht hL hm.2.2.1 hl 1 (by decide) (by decide) dL_law_1042 dL_law_1043 dL_law_1044 dL_law_1045 dL_law_1046 ?_
    refine lv_if_eq (tgt := 1054) hx hb dL_law_1047 (by decide) (fun _ => ?_) (fun h => absurd hz h)
    refine lv_iconst (v := 0) hx hb dL_law_1054 (by decide) ?_
    refine l_callV (k := 0) (As := [.int (0)]) (rest := []) C (Nat.le_refl _) hm (c_X9_reach l E bx MX (0) h1) rfl (cx_ColouredHeap LX_top) tc_X9_reach tm_RL_138 ti_X9_reach ts_X9_reach tn_RX9 td_X9_reach rfl rfl ⟨Nat.le_of_ble_eq_true rfl, Nat.le_of_ble_eq_true rfl⟩ rfl hl.1 rfl (Nat.le_of_ble_eq_true rfl) hcs dL_law_1055 (fun H locs hm => ?_)
    refine lv_aload_n hx hb dL_law_1058 rfl (lv_at hl 2 rfl) ?_
    refine l_arg C hX hbl ht hL hm.2.2.1 hl 1 (by decide) (by decide) dL_law_1059 dL_law_1060 dL_law_1061 dL_law_1062 dL_law_1063 ?_
    refine lv_if_eq (tgt := 1071) hx hb dL_law_1064 (by decide) (fun _ => ?_) (fun h => absurd hz h)
    refine lv_iconst (v := 0) hx hb dL_law_1071 (by decide) ?_
    refine l_callV (k := 0) (As := [.int (0)]) (rest := [.int r]) C hby hm.sw (c_X10_reach l E bY MY LY (0) h2) rfl cy_0 tc_X10_reach tm_RL_142 ti_X10_reach ts_X10_reach tn_RX10 td_X10_reach rfl rfl ⟨Nat.le_of_ble_eq_true rfl, Nat.le_of_ble_eq_true rfl⟩ rfl hl.1 rfl (Nat.le_of_ble_eq_true rfl) hcs dL_law_1072 (fun H locs hm => ?_)
    have hm := hm.sw
    exact lv_icmp_eq (tgt := 1447) hx hb dL_law_1075 (by decide) (fun _ => kc H locs hm) (fun h => absurd rfl h)
  · rw [show xbn (xs (6 * t + 1)) = 1 from if_neg hz] at h1 h2
    refine lv_aload_n hx hb dL_law_1041 rfl (lv_at hl 1 rfl) ?_
    refine l_arg C hX hbl ht hL hm.2.2.1 hl 1 (by decide) (by decide) dL_law_1042 dL_law_1043 dL_law_1044 dL_law_1045 dL_law_1046 ?_
    refine lv_if_eq (tgt := 1054) hx hb dL_law_1047 (by decide) (fun h => absurd h hz) (fun _ => ?_)
    refine lv_iconst (v := 1) hx hb dL_law_1050 (by decide) ?_
    refine lv_goto (tgt := 1055) hx hb dL_law_1051 (by decide) ?_
    refine l_callV (k := 0) (As := [.int (1)]) (rest := []) C (Nat.le_refl _) hm (c_X9_reach l E bx MX (1) h1) rfl (cx_ColouredHeap LX_top) tc_X9_reach tm_RL_138 ti_X9_reach ts_X9_reach tn_RX9 td_X9_reach rfl rfl ⟨Nat.le_of_ble_eq_true rfl, Nat.le_of_ble_eq_true rfl⟩ rfl hl.1 rfl (Nat.le_of_ble_eq_true rfl) hcs dL_law_1055 (fun H locs hm => ?_)
    refine lv_aload_n hx hb dL_law_1058 rfl (lv_at hl 2 rfl) ?_
    refine l_arg C hX hbl ht hL hm.2.2.1 hl 1 (by decide) (by decide) dL_law_1059 dL_law_1060 dL_law_1061 dL_law_1062 dL_law_1063 ?_
    refine lv_if_eq (tgt := 1071) hx hb dL_law_1064 (by decide) (fun h => absurd h hz) (fun _ => ?_)
    refine lv_iconst (v := 1) hx hb dL_law_1067 (by decide) ?_
    refine lv_goto (tgt := 1072) hx hb dL_law_1068 (by decide) ?_
    refine l_callV (k := 0) (As := [.int (1)]) (rest := [.int r]) C hby hm.sw (c_X10_reach l E bY MY LY (1) h2) rfl cy_0 tc_X10_reach tm_RL_142 ti_X10_reach ts_X10_reach tn_RX10 td_X10_reach rfl rfl ⟨Nat.le_of_ble_eq_true rfl, Nat.le_of_ble_eq_true rfl⟩ rfl hl.1 rfl (Nat.le_of_ble_eq_true rfl) hcs dL_law_1072 (fun H locs hm => ?_)
    have hm := hm.sw
    exact lv_icmp_eq (tgt := 1447) hx hb dL_law_1075 (by decide) (fun _ => kc H locs hm) (fun h => absurd rfl h)
def sim_dead (Rel : xm → xm → xn → Prop) : Prop := ∀ (MX MY : xm) (LY : xn), Rel MX MY LY → ∃ (r : Int32) (MX' : xm) (MY' : xm), f_X9_dead MX = some (r, MX') ∧ f_X10_dead MY = some (r, MY') ∧ Rel MX' MY' LY
set_option maxHeartbeats 4000000 in
theorem law_c30 {p : Program} {l : Launch} {e : Env} {s : State} {m : MethodId} {below : List Frame} {meth : Method} {c : Code} {Q : State → Prop} {E : xE} {bx bY b0 L t : Nat} {xs : Nat → Int32} {cs sl : Nat} (C : xC p s m #[Value.ref b0] meth c cL_law 4 RL (some .boolean) E bx) (hby : bx ≤ bY) (hX : va_X b0 L xs s s.heap) (hbl : b0 < s.heap.size) (ht : 6 * t + 6 ≤ L) (hL : L ≤ 3072) (hcs : cs ≤ 600000 ∧ sl ≤ 7302250) {MX MY : xm} {LY : xn} {H : Heap} {locs : List Loc} {ls : Array Slot} {r : Int32} {MX' : xm} {MY' : xm} (h1 : f_X9_dead MX = some (r, MX')) (h2 : f_X10_dead MY = some (r, MY')) (hm : lM E bx NX (cX E bx MX) bY NY (cY E bY MY LY) s.heap H locs) (hl : lv_has ls 4 [(0, .ref b0), (1, .ref (bx + 0)), (2, .ref (bY + 0)), (3, .int (nI (6 * t)))])
    (kc : ∀ (H : Heap) (locs : List Loc), lM E bx NX (cX E bx MX') bY NY (cY E bY MY' LY) s.heap H locs → W p l e room_1 s m #[Value.ref b0] below meth c H locs cs sl Q (F0 m 1447 ls [])) :
    W p l e room_1 s m #[Value.ref b0] below meth c H locs cs sl Q (F0 m 1080 ls []) := by
  have hx := C.1.1
  have hb := C.1.2.1
  refine lv_aload_n hx hb dL_law_1080 rfl (lv_at hl 1 rfl) ?_
  refine l_callV (k := 0) (As := []) (rest := []) C (Nat.le_refl _) hm (c_X9_dead l E bx MX  h1) rfl (cx_ColouredHeap LX_top) tc_X9_dead tm_RL_143 ti_X9_dead ts_X9_dead tn_RX9 td_X9_dead rfl rfl ⟨Nat.le_of_ble_eq_true rfl, Nat.le_of_ble_eq_true rfl⟩ rfl hl.1 rfl (Nat.le_of_ble_eq_true rfl) hcs dL_law_1081 (fun H locs hm => ?_)
  refine lv_aload_n hx hb dL_law_1084 rfl (lv_at hl 2 rfl) ?_
  refine l_callV (k := 0) (As := []) (rest := [.int r]) C hby hm.sw (c_X10_dead l E bY MY LY  h2) rfl cy_0 tc_X10_dead tm_RL_146 ti_X10_dead ts_X10_dead tn_RX10 td_X10_dead rfl rfl ⟨Nat.le_of_ble_eq_true rfl, Nat.le_of_ble_eq_true rfl⟩ rfl hl.1 rfl (Nat.le_of_ble_eq_true rfl) hcs dL_law_1085 (fun H locs hm => ?_)
  have hm := hm.sw
  exact lv_icmp_eq (tgt := 1447) hx hb dL_law_1088 (by decide) (fun _ => kc H locs hm) (fun h => absurd rfl h)
def sim_stale (Rel : xm → xm → xn → Prop) : Prop := ∀ (MX MY : xm) (LY : xn), Rel MX MY LY → ∃ (r : Int32) (MX' : xm) (MY' : xm), f_X9_stale MX = some (r, MX') ∧ f_X10_stale MY = some (r, MY') ∧ Rel MX' MY' LY
set_option maxHeartbeats 4000000 in
theorem law_c31 {p : Program} {l : Launch} {e : Env} {s : State} {m : MethodId} {below : List Frame} {meth : Method} {c : Code} {Q : State → Prop} {E : xE} {bx bY b0 L t : Nat} {xs : Nat → Int32} {cs sl : Nat} (C : xC p s m #[Value.ref b0] meth c cL_law 4 RL (some .boolean) E bx) (hby : bx ≤ bY) (hX : va_X b0 L xs s s.heap) (hbl : b0 < s.heap.size) (ht : 6 * t + 6 ≤ L) (hL : L ≤ 3072) (hcs : cs ≤ 600000 ∧ sl ≤ 7302250) {MX MY : xm} {LY : xn} {H : Heap} {locs : List Loc} {ls : Array Slot} {r : Int32} {MX' : xm} {MY' : xm} (h1 : f_X9_stale MX = some (r, MX')) (h2 : f_X10_stale MY = some (r, MY')) (hm : lM E bx NX (cX E bx MX) bY NY (cY E bY MY LY) s.heap H locs) (hl : lv_has ls 4 [(0, .ref b0), (1, .ref (bx + 0)), (2, .ref (bY + 0)), (3, .int (nI (6 * t)))])
    (kc : ∀ (H : Heap) (locs : List Loc), lM E bx NX (cX E bx MX') bY NY (cY E bY MY' LY) s.heap H locs → W p l e room_1 s m #[Value.ref b0] below meth c H locs cs sl Q (F0 m 1447 ls [])) :
    W p l e room_1 s m #[Value.ref b0] below meth c H locs cs sl Q (F0 m 1093 ls []) := by
  have hx := C.1.1
  have hb := C.1.2.1
  refine lv_aload_n hx hb dL_law_1093 rfl (lv_at hl 1 rfl) ?_
  refine l_callV (k := 0) (As := []) (rest := []) C (Nat.le_refl _) hm (c_X9_stale l E bx MX  h1) rfl (cx_ColouredHeap LX_top) tc_X9_stale tm_RL_147 ti_X9_stale ts_X9_stale tn_RX9 td_X9_stale rfl rfl ⟨Nat.le_of_ble_eq_true rfl, Nat.le_of_ble_eq_true rfl⟩ rfl hl.1 rfl (Nat.le_of_ble_eq_true rfl) hcs dL_law_1094 (fun H locs hm => ?_)
  refine lv_aload_n hx hb dL_law_1097 rfl (lv_at hl 2 rfl) ?_
  refine l_callV (k := 0) (As := []) (rest := [.int r]) C hby hm.sw (c_X10_stale l E bY MY LY  h2) rfl cy_0 tc_X10_stale tm_RL_150 ti_X10_stale ts_X10_stale tn_RX10 td_X10_stale rfl rfl ⟨Nat.le_of_ble_eq_true rfl, Nat.le_of_ble_eq_true rfl⟩ rfl hl.1 rfl (Nat.le_of_ble_eq_true rfl) hcs dL_law_1098 (fun H locs hm => ?_)
  have hm := hm.sw
  exact lv_icmp_eq (tgt := 1447) hx hb dL_law_1101 (by decide) (fun _ => kc H locs hm) (fun h => absurd rfl h)
def sim_safe (Rel : xm → xm → xn → Prop) : Prop := ∀ (MX MY : xm) (LY : xn), Rel MX MY LY → ∃ (r : Int32) (MX' : xm) (MY' : xm), f_X9_safe MX = some (r, MX') ∧ f_X10_safe MY = some (r, MY') ∧ Rel MX' MY' LY
set_option maxHeartbeats 4000000 in
theorem law_c32 {p : Program} {l : Launch} {e : Env} {s : State} {m : MethodId} {below : List Frame} {meth : Method} {c : Code} {Q : State → Prop} {E : xE} {bx bY b0 L t : Nat} {xs : Nat → Int32} {cs sl : Nat} (C : xC p s m #[Value.ref b0] meth c cL_law 4 RL (some .boolean) E bx) (hby : bx ≤ bY) (hX : va_X b0 L xs s s.heap) (hbl : b0 < s.heap.size) (ht : 6 * t + 6 ≤ L) (hL : L ≤ 3072) (hcs : cs ≤ 600000 ∧ sl ≤ 7302250) {MX MY : xm} {LY : xn} {H : Heap} {locs : List Loc} {ls : Array Slot} {r : Int32} {MX' : xm} {MY' : xm} (h1 : f_X9_safe MX = some (r, MX')) (h2 : f_X10_safe MY = some (r, MY')) (hm : lM E bx NX (cX E bx MX) bY NY (cY E bY MY LY) s.heap H locs) (hl : lv_has ls 4 [(0, .ref b0), (1, .ref (bx + 0)), (2, .ref (bY + 0)), (3, .int (nI (6 * t)))])
    (kc : ∀ (H : Heap) (locs : List Loc), lM E bx NX (cX E bx MX') bY NY (cY E bY MY' LY) s.heap H locs → W p l e room_1 s m #[Value.ref b0] below meth c H locs cs sl Q (F0 m 1447 ls [])) :
    W p l e room_1 s m #[Value.ref b0] below meth c H locs cs sl Q (F0 m 1106 ls []) := by
  have hx := C.1.1
  have hb := C.1.2.1
  refine lv_aload_n hx hb dL_law_1106 rfl (lv_at hl 1 rfl) ?_
  refine l_callV (k := 0) (As := []) (rest := []) C (Nat.le_refl _) hm (c_X9_safe l E bx MX  h1) rfl (cx_ColouredHeap LX_top) tc_X9_safe tm_RL_151 ti_X9_safe ts_X9_safe tn_RX9 td_X9_safe rfl rfl ⟨Nat.le_of_ble_eq_true rfl, Nat.le_of_ble_eq_true rfl⟩ rfl hl.1 rfl (Nat.le_of_ble_eq_true rfl) hcs dL_law_1107 (fun H locs hm => ?_)
  refine lv_aload_n hx hb dL_law_1110 rfl (lv_at hl 2 rfl) ?_
  refine l_callV (k := 0) (As := []) (rest := [.int r]) C hby hm.sw (c_X10_safe l E bY MY LY  h2) rfl cy_0 tc_X10_safe tm_RL_154 ti_X10_safe ts_X10_safe tn_RX10 td_X10_safe rfl rfl ⟨Nat.le_of_ble_eq_true rfl, Nat.le_of_ble_eq_true rfl⟩ rfl hl.1 rfl (Nat.le_of_ble_eq_true rfl) hcs dL_law_1111 (fun H locs hm => ?_)
  have hm := hm.sw
  exact lv_icmp_eq (tgt := 1447) hx hb dL_law_1114 (by decide) (fun _ => kc H locs hm) (fun h => absurd rfl h)
def sim_far (Rel : xm → xm → xn → Prop) : Prop := ∀ (MX MY : xm) (LY : xn) (a0 : Int32), Rel MX MY LY → ∃ (r : Int32) (MX' : xm) (MY' : xm), f_X9_far MX a0 = some (r, MX') ∧ f_X10_far MY a0 = some (r, MY') ∧ Rel MX' MY' LY
set_option maxHeartbeats 4000000 in
theorem law_c33 {p : Program} {l : Launch} {e : Env} {s : State} {m : MethodId} {below : List Frame} {meth : Method} {c : Code} {Q : State → Prop} {E : xE} {bx bY b0 L t : Nat} {xs : Nat → Int32} {cs sl : Nat} (C : xC p s m #[Value.ref b0] meth c cL_law 4 RL (some .boolean) E bx) (hby : bx ≤ bY) (hX : va_X b0 L xs s s.heap) (hbl : b0 < s.heap.size) (ht : 6 * t + 6 ≤ L) (hL : L ≤ 3072) (hcs : cs ≤ 600000 ∧ sl ≤ 7302250) {MX MY : xm} {LY : xn} {H : Heap} {locs : List Loc} {ls : Array Slot} {r : Int32} {MX' : xm} {MY' : xm} (h1 : f_X9_far MX (xs (6 * t + 1)) = some (r, MX')) (h2 : f_X10_far MY (xs (6 * t + 1)) = some (r, MY')) (hm : lM E bx NX (cX E bx MX) bY NY (cY E bY MY LY) s.heap H locs) (hl : lv_has ls 4 [(0, .ref b0), (1, .ref (bx + 0)), (2, .ref (bY + 0)), (3, .int (nI (6 * t)))])
    (kc : ∀ (H : Heap) (locs : List Loc), lM E bx NX (cX E bx MX') bY NY (cY E bY MY' LY) s.heap H locs → W p l e room_1 s m #[Value.ref b0] below meth c H locs cs sl Q (F0 m 1447 ls [])) :
    W p l e room_1 s m #[Value.ref b0] below meth c H locs cs sl Q (F0 m 1119 ls []) := by
  have hx := C.1.1
  have hb := C.1.2.1
  refine lv_aload_n hx hb dL_law_1119 rfl (lv_at hl 1 rfl) ?_
  refine l_arg C hX hbl ht hL hm.2.2.1 hl 1 (by decide) (by decide) dL_law_1120 dL_law_1121 dL_law_1122 dL_law_1123 dL_law_1124 ?_
  refine l_callV (k := 0) (As := [.int (xs (6 * t + 1))]) (rest := []) C (Nat.le_refl _) hm (c_X9_far l E bx MX (xs (6 * t + 1)) h1) rfl (cx_ColouredHeap LX_top) tc_X9_far tm_RL_155 ti_X9_far ts_X9_far tn_RX9 td_X9_far rfl rfl ⟨Nat.le_of_ble_eq_true rfl, Nat.le_of_ble_eq_true rfl⟩ rfl hl.1 rfl (Nat.le_of_ble_eq_true rfl) hcs dL_law_1125 (fun H locs hm => ?_)
  refine lv_aload_n hx hb dL_law_1128 rfl (lv_at hl 2 rfl) ?_
  refine l_arg C hX hbl ht hL hm.2.2.1 hl 1 (by decide) (by decide) dL_law_1129 dL_law_1130 dL_law_1131 dL_law_1132 dL_law_1133 ?_
  refine l_callV (k := 0) (As := [.int (xs (6 * t + 1))]) (rest := [.int r]) C hby hm.sw (c_X10_far l E bY MY LY (xs (6 * t + 1)) h2) rfl cy_0 tc_X10_far tm_RL_158 ti_X10_far ts_X10_far tn_RX10 td_X10_far rfl rfl ⟨Nat.le_of_ble_eq_true rfl, Nat.le_of_ble_eq_true rfl⟩ rfl hl.1 rfl (Nat.le_of_ble_eq_true rfl) hcs dL_law_1134 (fun H locs hm => ?_)
  have hm := hm.sw
  exact lv_icmp_eq (tgt := 1447) hx hb dL_law_1137 (by decide) (fun _ => kc H locs hm) (fun h => absurd rfl h)
def sim_retained (Rel : xm → xm → xn → Prop) : Prop := ∀ (MX MY : xm) (LY : xn) (a0 : Int32), Rel MX MY LY → ∃ (r : Int32) (MX' : xm) (MY' : xm), f_X9_retained MX a0 = some (r, MX') ∧ f_X10_retained MY a0 = some (r, MY') ∧ Rel MX' MY' LY
set_option maxHeartbeats 4000000 in
theorem law_c34 {p : Program} {l : Launch} {e : Env} {s : State} {m : MethodId} {below : List Frame} {meth : Method} {c : Code} {Q : State → Prop} {E : xE} {bx bY b0 L t : Nat} {xs : Nat → Int32} {cs sl : Nat} (C : xC p s m #[Value.ref b0] meth c cL_law 4 RL (some .boolean) E bx) (hby : bx ≤ bY) (hX : va_X b0 L xs s s.heap) (hbl : b0 < s.heap.size) (ht : 6 * t + 6 ≤ L) (hL : L ≤ 3072) (hcs : cs ≤ 600000 ∧ sl ≤ 7302250) {MX MY : xm} {LY : xn} {H : Heap} {locs : List Loc} {ls : Array Slot} {r : Int32} {MX' : xm} {MY' : xm} (h1 : f_X9_retained MX (xs (6 * t + 1)) = some (r, MX')) (h2 : f_X10_retained MY (xs (6 * t + 1)) = some (r, MY')) (hm : lM E bx NX (cX E bx MX) bY NY (cY E bY MY LY) s.heap H locs) (hl : lv_has ls 4 [(0, .ref b0), (1, .ref (bx + 0)), (2, .ref (bY + 0)), (3, .int (nI (6 * t)))])
    (kc : ∀ (H : Heap) (locs : List Loc), lM E bx NX (cX E bx MX') bY NY (cY E bY MY' LY) s.heap H locs → W p l e room_1 s m #[Value.ref b0] below meth c H locs cs sl Q (F0 m 1447 ls [])) :
    W p l e room_1 s m #[Value.ref b0] below meth c H locs cs sl Q (F0 m 1142 ls []) := by
  have hx := C.1.1
  have hb := C.1.2.1
  refine lv_aload_n hx hb dL_law_1142 rfl (lv_at hl 1 rfl) ?_
  refine l_arg C hX hbl ht hL hm.2.2.1 hl 1 (by decide) (by decide) dL_law_1143 dL_law_1144 dL_law_1145 dL_law_1146 dL_law_1147 ?_
  refine l_callV (k := 0) (As := [.int (xs (6 * t + 1))]) (rest := []) C (Nat.le_refl _) hm (c_X9_retained l E bx MX (xs (6 * t + 1)) h1) rfl (cx_ColouredHeap LX_top) tc_X9_retained tm_RL_159 ti_X9_retained ts_X9_retained tn_RX9 td_X9_retained rfl rfl ⟨Nat.le_of_ble_eq_true rfl, Nat.le_of_ble_eq_true rfl⟩ rfl hl.1 rfl (Nat.le_of_ble_eq_true rfl) hcs dL_law_1148 (fun H locs hm => ?_)
  refine lv_aload_n hx hb dL_law_1151 rfl (lv_at hl 2 rfl) ?_
  refine l_arg C hX hbl ht hL hm.2.2.1 hl 1 (by decide) (by decide) dL_law_1152 dL_law_1153 dL_law_1154 dL_law_1155 dL_law_1156 ?_
  refine l_callV (k := 0) (As := [.int (xs (6 * t + 1))]) (rest := [.int r]) C hby hm.sw (c_X10_retained l E bY MY LY (xs (6 * t + 1)) h2) rfl cy_0 tc_X10_retained tm_RL_162 ti_X10_retained ts_X10_retained tn_RX10 td_X10_retained rfl rfl ⟨Nat.le_of_ble_eq_true rfl, Nat.le_of_ble_eq_true rfl⟩ rfl hl.1 rfl (Nat.le_of_ble_eq_true rfl) hcs dL_law_1157 (fun H locs hm => ?_)
  have hm := hm.sw
  exact lv_icmp_eq (tgt := 1447) hx hb dL_law_1160 (by decide) (fun _ => kc H locs hm) (fun h => absurd rfl h)
def sim_pack (Rel : xm → xm → xn → Prop) : Prop := ∀ (MX MY : xm) (LY : xn), Rel MX MY LY → ∃ (r : Int32) (MX' : xm) (MY' : xm), f_X9_pack MX = some (r, MX') ∧ f_X10_pack MY = some (r, MY') ∧ Rel MX' MY' LY
set_option maxHeartbeats 4000000 in
theorem law_c35 {p : Program} {l : Launch} {e : Env} {s : State} {m : MethodId} {below : List Frame} {meth : Method} {c : Code} {Q : State → Prop} {E : xE} {bx bY b0 L t : Nat} {xs : Nat → Int32} {cs sl : Nat} (C : xC p s m #[Value.ref b0] meth c cL_law 4 RL (some .boolean) E bx) (hby : bx ≤ bY) (hX : va_X b0 L xs s s.heap) (hbl : b0 < s.heap.size) (ht : 6 * t + 6 ≤ L) (hL : L ≤ 3072) (hcs : cs ≤ 600000 ∧ sl ≤ 7302250) {MX MY : xm} {LY : xn} {H : Heap} {locs : List Loc} {ls : Array Slot} {r : Int32} {MX' : xm} {MY' : xm} (h1 : f_X9_pack MX = some (r, MX')) (h2 : f_X10_pack MY = some (r, MY')) (hm : lM E bx NX (cX E bx MX) bY NY (cY E bY MY LY) s.heap H locs) (hl : lv_has ls 4 [(0, .ref b0), (1, .ref (bx + 0)), (2, .ref (bY + 0)), (3, .int (nI (6 * t)))])
    (kc : ∀ (H : Heap) (locs : List Loc), lM E bx NX (cX E bx MX') bY NY (cY E bY MY' LY) s.heap H locs → W p l e room_1 s m #[Value.ref b0] below meth c H locs cs sl Q (F0 m 1447 ls [])) :
    W p l e room_1 s m #[Value.ref b0] below meth c H locs cs sl Q (F0 m 1165 ls []) := by
  have hx := C.1.1
  have hb := C.1.2.1
  refine lv_aload_n hx hb dL_law_1165 rfl (lv_at hl 1 rfl) ?_
  refine l_callV (k := 0) (As := []) (rest := []) C (Nat.le_refl _) hm (c_X9_pack l E bx MX  h1) rfl (cx_ColouredHeap LX_top) tc_X9_pack tm_RL_163 ti_X9_pack ts_X9_pack tn_RX9 td_X9_pack rfl rfl ⟨Nat.le_of_ble_eq_true rfl, Nat.le_of_ble_eq_true rfl⟩ rfl hl.1 rfl (Nat.le_of_ble_eq_true rfl) hcs dL_law_1166 (fun H locs hm => ?_)
  refine lv_aload_n hx hb dL_law_1169 rfl (lv_at hl 2 rfl) ?_
  refine l_callV (k := 0) (As := []) (rest := [.int r]) C hby hm.sw (c_X10_pack l E bY MY LY  h2) rfl cy_0 tc_X10_pack tm_RL_166 ti_X10_pack ts_X10_pack tn_RX10 td_X10_pack rfl rfl ⟨Nat.le_of_ble_eq_true rfl, Nat.le_of_ble_eq_true rfl⟩ rfl hl.1 rfl (Nat.le_of_ble_eq_true rfl) hcs dL_law_1170 (fun H locs hm => ?_)
  have hm := hm.sw
  exact lv_icmp_eq (tgt := 1447) hx hb dL_law_1173 (by decide) (fun _ => kc H locs hm) (fun h => absurd rfl h)
def sim_till (Rel : xm → xm → xn → Prop) : Prop := ∀ (MX MY : xm) (LY : xn), Rel MX MY LY → ∃ (r : Int32) (MX' : xm) (MY' : xm) (LY' : xn), f_X9_till MX = some (r, MX') ∧ f_X10_till MY LY = some (r, MY', LY') ∧ Rel MX' MY' LY'
set_option maxHeartbeats 4000000 in
theorem law_c36 {p : Program} {l : Launch} {e : Env} {s : State} {m : MethodId} {below : List Frame} {meth : Method} {c : Code} {Q : State → Prop} {E : xE} {bx bY b0 L t : Nat} {xs : Nat → Int32} {cs sl : Nat} (C : xC p s m #[Value.ref b0] meth c cL_law 4 RL (some .boolean) E bx) (hby : bx ≤ bY) (hX : va_X b0 L xs s s.heap) (hbl : b0 < s.heap.size) (ht : 6 * t + 6 ≤ L) (hL : L ≤ 3072) (hcs : cs ≤ 600000 ∧ sl ≤ 7302250) {MX MY : xm} {LY : xn} {H : Heap} {locs : List Loc} {ls : Array Slot} {r : Int32} {MX' : xm} {MY' : xm} {LY' : xn} (h1 : f_X9_till MX = some (r, MX')) (h2 : f_X10_till MY LY = some (r, MY', LY')) (hm : lM E bx NX (cX E bx MX) bY NY (cY E bY MY LY) s.heap H locs) (hl : lv_has ls 4 [(0, .ref b0), (1, .ref (bx + 0)), (2, .ref (bY + 0)), (3, .int (nI (6 * t)))])
    (kc : ∀ (H : Heap) (locs : List Loc), lM E bx NX (cX E bx MX') bY NY (cY E bY MY' LY') s.heap H locs → W p l e room_1 s m #[Value.ref b0] below meth c H locs cs sl Q (F0 m 1447 ls [])) :
    W p l e room_1 s m #[Value.ref b0] below meth c H locs cs sl Q (F0 m 1178 ls []) := by
  have hx := C.1.1
  have hb := C.1.2.1
  refine lv_aload_n hx hb dL_law_1178 rfl (lv_at hl 1 rfl) ?_
  refine l_callV (k := 0) (As := []) (rest := []) C (Nat.le_refl _) hm (c_X9_till l E bx MX  h1) rfl (cx_ColouredHeap LX_top) tc_X9_till tm_RL_167 ti_X9_till ts_X9_till tn_RX9 td_X9_till rfl rfl ⟨Nat.le_of_ble_eq_true rfl, Nat.le_of_ble_eq_true rfl⟩ rfl hl.1 rfl (Nat.le_of_ble_eq_true rfl) hcs dL_law_1179 (fun H locs hm => ?_)
  refine lv_aload_n hx hb dL_law_1182 rfl (lv_at hl 2 rfl) ?_
  refine l_callV (k := 0) (As := []) (rest := [.int r]) C hby hm.sw (c_X10_till l E bY MY LY  h2) rfl cy_0 tc_X10_till tm_RL_170 ti_X10_till ts_X10_till tn_RX10 td_X10_till rfl rfl ⟨Nat.le_of_ble_eq_true rfl, Nat.le_of_ble_eq_true rfl⟩ rfl hl.1 rfl (Nat.le_of_ble_eq_true rfl) hcs dL_law_1183 (fun H locs hm => ?_)
  have hm := hm.sw
  exact lv_icmp_eq (tgt := 1447) hx hb dL_law_1186 (by decide) (fun _ => kc H locs hm) (fun h => absurd rfl h)
def sim_alike (Rel : xm → xm → xn → Prop) : Prop := ∀ (MX MY : xm) (LY : xn), Rel MX MY LY → ∃ (r : Int32) (MX' : xm) (MY' : xm), f_X9_alike MX = some (r, MX') ∧ f_X10_alike MY = some (r, MY') ∧ Rel MX' MY' LY
set_option maxHeartbeats 4000000 in
theorem law_c37 {p : Program} {l : Launch} {e : Env} {s : State} {m : MethodId} {below : List Frame} {meth : Method} {c : Code} {Q : State → Prop} {E : xE} {bx bY b0 L t : Nat} {xs : Nat → Int32} {cs sl : Nat} (C : xC p s m #[Value.ref b0] meth c cL_law 4 RL (some .boolean) E bx) (hby : bx ≤ bY) (hX : va_X b0 L xs s s.heap) (hbl : b0 < s.heap.size) (ht : 6 * t + 6 ≤ L) (hL : L ≤ 3072) (hcs : cs ≤ 600000 ∧ sl ≤ 7302250) {MX MY : xm} {LY : xn} {H : Heap} {locs : List Loc} {ls : Array Slot} {r : Int32} {MX' : xm} {MY' : xm} (h1 : f_X9_alike MX = some (r, MX')) (h2 : f_X10_alike MY = some (r, MY')) (hm : lM E bx NX (cX E bx MX) bY NY (cY E bY MY LY) s.heap H locs) (hl : lv_has ls 4 [(0, .ref b0), (1, .ref (bx + 0)), (2, .ref (bY + 0)), (3, .int (nI (6 * t)))])
    (kc : ∀ (H : Heap) (locs : List Loc), lM E bx NX (cX E bx MX') bY NY (cY E bY MY' LY) s.heap H locs → W p l e room_1 s m #[Value.ref b0] below meth c H locs cs sl Q (F0 m 1447 ls [])) :
    W p l e room_1 s m #[Value.ref b0] below meth c H locs cs sl Q (F0 m 1191 ls []) := by
  have hx := C.1.1
  have hb := C.1.2.1
  refine lv_aload_n hx hb dL_law_1191 rfl (lv_at hl 1 rfl) ?_
  refine l_callV (k := 0) (As := []) (rest := []) C (Nat.le_refl _) hm (c_X9_alike l E bx MX  h1) rfl (cx_ColouredHeap LX_top) tc_X9_alike tm_RL_171 ti_X9_alike ts_X9_alike tn_RX9 td_X9_alike rfl rfl ⟨Nat.le_of_ble_eq_true rfl, Nat.le_of_ble_eq_true rfl⟩ rfl hl.1 rfl (Nat.le_of_ble_eq_true rfl) hcs dL_law_1192 (fun H locs hm => ?_)
  refine lv_aload_n hx hb dL_law_1195 rfl (lv_at hl 2 rfl) ?_
  refine l_callV (k := 0) (As := []) (rest := [.int r]) C hby hm.sw (c_X10_alike l E bY MY LY  h2) rfl cy_0 tc_X10_alike tm_RL_174 ti_X10_alike ts_X10_alike tn_RX10 td_X10_alike rfl rfl ⟨Nat.le_of_ble_eq_true rfl, Nat.le_of_ble_eq_true rfl⟩ rfl hl.1 rfl (Nat.le_of_ble_eq_true rfl) hcs dL_law_1196 (fun H locs hm => ?_)
  have hm := hm.sw
  exact lv_icmp_eq (tgt := 1447) hx hb dL_law_1199 (by decide) (fun _ => kc H locs hm) (fun h => absurd rfl h)
def sim_poorest (Rel : xm → xm → xn → Prop) : Prop := ∀ (MX MY : xm) (LY : xn), Rel MX MY LY → ∃ (r : Int32), f_X9_poorest MX = some r ∧ f_X10_poorest MY = some r ∧ Rel MX MY LY
set_option maxHeartbeats 4000000 in
theorem law_c38 {p : Program} {l : Launch} {e : Env} {s : State} {m : MethodId} {below : List Frame} {meth : Method} {c : Code} {Q : State → Prop} {E : xE} {bx bY b0 L t : Nat} {xs : Nat → Int32} {cs sl : Nat} (C : xC p s m #[Value.ref b0] meth c cL_law 4 RL (some .boolean) E bx) (hby : bx ≤ bY) (hX : va_X b0 L xs s s.heap) (hbl : b0 < s.heap.size) (ht : 6 * t + 6 ≤ L) (hL : L ≤ 3072) (hcs : cs ≤ 600000 ∧ sl ≤ 7302250) {MX MY : xm} {LY : xn} {H : Heap} {locs : List Loc} {ls : Array Slot} {r : Int32} (h1 : f_X9_poorest MX = some r) (h2 : f_X10_poorest MY = some r) (hm : lM E bx NX (cX E bx MX) bY NY (cY E bY MY LY) s.heap H locs) (hl : lv_has ls 4 [(0, .ref b0), (1, .ref (bx + 0)), (2, .ref (bY + 0)), (3, .int (nI (6 * t)))])
    (kc : ∀ (H : Heap) (locs : List Loc), lM E bx NX (cX E bx MX) bY NY (cY E bY MY LY) s.heap H locs → W p l e room_1 s m #[Value.ref b0] below meth c H locs cs sl Q (F0 m 1447 ls [])) :
    W p l e room_1 s m #[Value.ref b0] below meth c H locs cs sl Q (F0 m 1204 ls []) := by
  have hx := C.1.1
  have hb := C.1.2.1
  refine lv_aload_n hx hb dL_law_1204 rfl (lv_at hl 1 rfl) ?_
  refine l_callV (k := 0) (As := []) (rest := []) C (Nat.le_refl _) hm (c_X9_poorest l E bx MX  h1) rfl (cx_ColouredHeap LX_top) tc_X9_poorest tm_RL_175 ti_X9_poorest ts_X9_poorest tn_RX9 td_X9_poorest rfl rfl ⟨Nat.le_of_ble_eq_true rfl, Nat.le_of_ble_eq_true rfl⟩ rfl hl.1 rfl (Nat.le_of_ble_eq_true rfl) hcs dL_law_1205 (fun H locs hm => ?_)
  refine lv_aload_n hx hb dL_law_1208 rfl (lv_at hl 2 rfl) ?_
  refine l_callV (k := 0) (As := []) (rest := [.int r]) C hby hm.sw (c_X10_poorest l E bY MY LY  h2) rfl cy_0 tc_X10_poorest tm_RL_178 ti_X10_poorest ts_X10_poorest tn_RX10 td_X10_poorest rfl rfl ⟨Nat.le_of_ble_eq_true rfl, Nat.le_of_ble_eq_true rfl⟩ rfl hl.1 rfl (Nat.le_of_ble_eq_true rfl) hcs dL_law_1209 (fun H locs hm => ?_)
  have hm := hm.sw
  exact lv_icmp_eq (tgt := 1447) hx hb dL_law_1212 (by decide) (fun _ => kc H locs hm) (fun h => absurd rfl h)
def sim_gaps (Rel : xm → xm → xn → Prop) : Prop := ∀ (MX MY : xm) (LY : xn) (a0 : Int32), Rel MX MY LY → ∃ (r : Int32) (MX' : xm) (MY' : xm), f_X9_gaps MX a0 = some (r, MX') ∧ f_X10_gaps MY a0 = some (r, MY') ∧ Rel MX' MY' LY
set_option maxHeartbeats 4000000 in
theorem law_c39 {p : Program} {l : Launch} {e : Env} {s : State} {m : MethodId} {below : List Frame} {meth : Method} {c : Code} {Q : State → Prop} {E : xE} {bx bY b0 L t : Nat} {xs : Nat → Int32} {cs sl : Nat} (C : xC p s m #[Value.ref b0] meth c cL_law 4 RL (some .boolean) E bx) (hby : bx ≤ bY) (hX : va_X b0 L xs s s.heap) (hbl : b0 < s.heap.size) (ht : 6 * t + 6 ≤ L) (hL : L ≤ 3072) (hcs : cs ≤ 600000 ∧ sl ≤ 7302250) {MX MY : xm} {LY : xn} {H : Heap} {locs : List Loc} {ls : Array Slot} {r : Int32} {MX' : xm} {MY' : xm} (h1 : f_X9_gaps MX (xs (6 * t + 1)) = some (r, MX')) (h2 : f_X10_gaps MY (xs (6 * t + 1)) = some (r, MY')) (hm : lM E bx NX (cX E bx MX) bY NY (cY E bY MY LY) s.heap H locs) (hl : lv_has ls 4 [(0, .ref b0), (1, .ref (bx + 0)), (2, .ref (bY + 0)), (3, .int (nI (6 * t)))])
    (kc : ∀ (H : Heap) (locs : List Loc), lM E bx NX (cX E bx MX') bY NY (cY E bY MY' LY) s.heap H locs → W p l e room_1 s m #[Value.ref b0] below meth c H locs cs sl Q (F0 m 1447 ls [])) :
    W p l e room_1 s m #[Value.ref b0] below meth c H locs cs sl Q (F0 m 1217 ls []) := by
  have hx := C.1.1
  have hb := C.1.2.1
  refine lv_aload_n hx hb dL_law_1217 rfl (lv_at hl 1 rfl) ?_
  refine l_arg C hX hbl ht hL hm.2.2.1 hl 1 (by decide) (by decide) dL_law_1218 dL_law_1219 dL_law_1220 dL_law_1221 dL_law_1222 ?_
  refine l_callV (k := 0) (As := [.int (xs (6 * t + 1))]) (rest := []) C (Nat.le_refl _) hm (c_X9_gaps l E bx MX (xs (6 * t + 1)) h1) rfl (cx_ColouredHeap LX_top) tc_X9_gaps tm_RL_179 ti_X9_gaps ts_X9_gaps tn_RX9 td_X9_gaps rfl rfl ⟨Nat.le_of_ble_eq_true rfl, Nat.le_of_ble_eq_true rfl⟩ rfl hl.1 rfl (Nat.le_of_ble_eq_true rfl) hcs dL_law_1223 (fun H locs hm => ?_)
  refine lv_aload_n hx hb dL_law_1226 rfl (lv_at hl 2 rfl) ?_
  refine l_arg C hX hbl ht hL hm.2.2.1 hl 1 (by decide) (by decide) dL_law_1227 dL_law_1228 dL_law_1229 dL_law_1230 dL_law_1231 ?_
  refine l_callV (k := 0) (As := [.int (xs (6 * t + 1))]) (rest := [.int r]) C hby hm.sw (c_X10_gaps l E bY MY LY (xs (6 * t + 1)) h2) rfl cy_0 tc_X10_gaps tm_RL_182 ti_X10_gaps ts_X10_gaps tn_RX10 td_X10_gaps rfl rfl ⟨Nat.le_of_ble_eq_true rfl, Nat.le_of_ble_eq_true rfl⟩ rfl hl.1 rfl (Nat.le_of_ble_eq_true rfl) hcs dL_law_1232 (fun H locs hm => ?_)
  have hm := hm.sw
  exact lv_icmp_eq (tgt := 1447) hx hb dL_law_1235 (by decide) (fun _ => kc H locs hm) (fun h => absurd rfl h)
def sim_shape (Rel : xm → xm → xn → Prop) : Prop := ∀ (MX MY : xm) (LY : xn) (a0 : Int32) (a1 : Int32), Rel MX MY LY → ∃ (r : Int32) (MX' : xm) (MY' : xm), f_X9_shape MX a0 a1 = some (r, MX') ∧ f_X10_shape MY a0 a1 = some (r, MY') ∧ Rel MX' MY' LY
set_option maxHeartbeats 4000000 in
theorem law_c40 {p : Program} {l : Launch} {e : Env} {s : State} {m : MethodId} {below : List Frame} {meth : Method} {c : Code} {Q : State → Prop} {E : xE} {bx bY b0 L t : Nat} {xs : Nat → Int32} {cs sl : Nat} (C : xC p s m #[Value.ref b0] meth c cL_law 4 RL (some .boolean) E bx) (hby : bx ≤ bY) (hX : va_X b0 L xs s s.heap) (hbl : b0 < s.heap.size) (ht : 6 * t + 6 ≤ L) (hL : L ≤ 3072) (hcs : cs ≤ 600000 ∧ sl ≤ 7302250) {MX MY : xm} {LY : xn} {H : Heap} {locs : List Loc} {ls : Array Slot} {r : Int32} {MX' : xm} {MY' : xm} (h1 : f_X9_shape MX (xs (6 * t + 1)) (xs (6 * t + 2)) = some (r, MX')) (h2 : f_X10_shape MY (xs (6 * t + 1)) (xs (6 * t + 2)) = some (r, MY')) (hm : lM E bx NX (cX E bx MX) bY NY (cY E bY MY LY) s.heap H locs) (hl : lv_has ls 4 [(0, .ref b0), (1, .ref (bx + 0)), (2, .ref (bY + 0)), (3, .int (nI (6 * t)))])
    (kc : ∀ (H : Heap) (locs : List Loc), lM E bx NX (cX E bx MX') bY NY (cY E bY MY' LY) s.heap H locs → W p l e room_1 s m #[Value.ref b0] below meth c H locs cs sl Q (F0 m 1447 ls [])) :
    W p l e room_1 s m #[Value.ref b0] below meth c H locs cs sl Q (F0 m 1240 ls []) := by
  have hx := C.1.1
  have hb := C.1.2.1
  refine lv_aload_n hx hb dL_law_1240 rfl (lv_at hl 1 rfl) ?_
  refine l_arg C hX hbl ht hL hm.2.2.1 hl 1 (by decide) (by decide) dL_law_1241 dL_law_1242 dL_law_1243 dL_law_1244 dL_law_1245 ?_
  refine l_arg C hX hbl ht hL hm.2.2.1 hl 2 (by decide) (by decide) dL_law_1246 dL_law_1247 dL_law_1248 dL_law_1249 dL_law_1250 ?_
  refine l_callV (k := 0) (As := [.int (xs (6 * t + 1)), .int (xs (6 * t + 2))]) (rest := []) C (Nat.le_refl _) hm (c_X9_shape l E bx MX (xs (6 * t + 1)) (xs (6 * t + 2)) h1) rfl (cx_ColouredHeap LX_top) tc_X9_shape tm_RL_183 ti_X9_shape ts_X9_shape tn_RX9 td_X9_shape rfl rfl ⟨Nat.le_of_ble_eq_true rfl, Nat.le_of_ble_eq_true rfl⟩ rfl hl.1 rfl (Nat.le_of_ble_eq_true rfl) hcs dL_law_1251 (fun H locs hm => ?_)
  refine lv_aload_n hx hb dL_law_1254 rfl (lv_at hl 2 rfl) ?_
  refine l_arg C hX hbl ht hL hm.2.2.1 hl 1 (by decide) (by decide) dL_law_1255 dL_law_1256 dL_law_1257 dL_law_1258 dL_law_1259 ?_
  refine l_arg C hX hbl ht hL hm.2.2.1 hl 2 (by decide) (by decide) dL_law_1260 dL_law_1261 dL_law_1262 dL_law_1263 dL_law_1264 ?_
  refine l_callV (k := 0) (As := [.int (xs (6 * t + 1)), .int (xs (6 * t + 2))]) (rest := [.int r]) C hby hm.sw (c_X10_shape l E bY MY LY (xs (6 * t + 1)) (xs (6 * t + 2)) h2) rfl cy_0 tc_X10_shape tm_RL_186 ti_X10_shape ts_X10_shape tn_RX10 td_X10_shape rfl rfl ⟨Nat.le_of_ble_eq_true rfl, Nat.le_of_ble_eq_true rfl⟩ rfl hl.1 rfl (Nat.le_of_ble_eq_true rfl) hcs dL_law_1265 (fun H locs hm => ?_)
  have hm := hm.sw
  exact lv_icmp_eq (tgt := 1447) hx hb dL_law_1268 (by decide) (fun _ => kc H locs hm) (fun h => absurd rfl h)
def sim_same (Rel : xm → xm → xn → Prop) : Prop := ∀ (MX MY : xm) (LY : xn) (a0 : Int32) (a1 : Int32), Rel MX MY LY → ∃ (r : Int32) (MX' : xm) (MY' : xm), f_X9_same MX a0 a1 = some (r, MX') ∧ f_X10_same MY a0 a1 = some (r, MY') ∧ Rel MX' MY' LY
set_option maxHeartbeats 4000000 in
theorem law_c41 {p : Program} {l : Launch} {e : Env} {s : State} {m : MethodId} {below : List Frame} {meth : Method} {c : Code} {Q : State → Prop} {E : xE} {bx bY b0 L t : Nat} {xs : Nat → Int32} {cs sl : Nat} (C : xC p s m #[Value.ref b0] meth c cL_law 4 RL (some .boolean) E bx) (hby : bx ≤ bY) (hX : va_X b0 L xs s s.heap) (hbl : b0 < s.heap.size) (ht : 6 * t + 6 ≤ L) (hL : L ≤ 3072) (hcs : cs ≤ 600000 ∧ sl ≤ 7302250) {MX MY : xm} {LY : xn} {H : Heap} {locs : List Loc} {ls : Array Slot} {r : Int32} {MX' : xm} {MY' : xm} (h1 : f_X9_same MX (xs (6 * t + 1)) (xs (6 * t + 2)) = some (r, MX')) (h2 : f_X10_same MY (xs (6 * t + 1)) (xs (6 * t + 2)) = some (r, MY')) (hm : lM E bx NX (cX E bx MX) bY NY (cY E bY MY LY) s.heap H locs) (hl : lv_has ls 4 [(0, .ref b0), (1, .ref (bx + 0)), (2, .ref (bY + 0)), (3, .int (nI (6 * t)))])
    (kc : ∀ (H : Heap) (locs : List Loc), lM E bx NX (cX E bx MX') bY NY (cY E bY MY' LY) s.heap H locs → W p l e room_1 s m #[Value.ref b0] below meth c H locs cs sl Q (F0 m 1447 ls [])) :
    W p l e room_1 s m #[Value.ref b0] below meth c H locs cs sl Q (F0 m 1273 ls []) := by
  have hx := C.1.1
  have hb := C.1.2.1
  refine lv_aload_n hx hb dL_law_1273 rfl (lv_at hl 1 rfl) ?_
  refine l_arg C hX hbl ht hL hm.2.2.1 hl 1 (by decide) (by decide) dL_law_1274 dL_law_1275 dL_law_1276 dL_law_1277 dL_law_1278 ?_
  refine l_arg C hX hbl ht hL hm.2.2.1 hl 2 (by decide) (by decide) dL_law_1279 dL_law_1280 dL_law_1281 dL_law_1282 dL_law_1283 ?_
  refine l_callV (k := 0) (As := [.int (xs (6 * t + 1)), .int (xs (6 * t + 2))]) (rest := []) C (Nat.le_refl _) hm (c_X9_same l E bx MX (xs (6 * t + 1)) (xs (6 * t + 2)) h1) rfl (cx_ColouredHeap LX_top) tc_X9_same tm_RL_187 ti_X9_same ts_X9_same tn_RX9 td_X9_same rfl rfl ⟨Nat.le_of_ble_eq_true rfl, Nat.le_of_ble_eq_true rfl⟩ rfl hl.1 rfl (Nat.le_of_ble_eq_true rfl) hcs dL_law_1284 (fun H locs hm => ?_)
  refine lv_aload_n hx hb dL_law_1287 rfl (lv_at hl 2 rfl) ?_
  refine l_arg C hX hbl ht hL hm.2.2.1 hl 1 (by decide) (by decide) dL_law_1288 dL_law_1289 dL_law_1290 dL_law_1291 dL_law_1292 ?_
  refine l_arg C hX hbl ht hL hm.2.2.1 hl 2 (by decide) (by decide) dL_law_1293 dL_law_1294 dL_law_1295 dL_law_1296 dL_law_1297 ?_
  refine l_callV (k := 0) (As := [.int (xs (6 * t + 1)), .int (xs (6 * t + 2))]) (rest := [.int r]) C hby hm.sw (c_X10_same l E bY MY LY (xs (6 * t + 1)) (xs (6 * t + 2)) h2) rfl cy_0 tc_X10_same tm_RL_190 ti_X10_same ts_X10_same tn_RX10 td_X10_same rfl rfl ⟨Nat.le_of_ble_eq_true rfl, Nat.le_of_ble_eq_true rfl⟩ rfl hl.1 rfl (Nat.le_of_ble_eq_true rfl) hcs dL_law_1298 (fun H locs hm => ?_)
  have hm := hm.sw
  exact lv_icmp_eq (tgt := 1447) hx hb dL_law_1301 (by decide) (fun _ => kc H locs hm) (fun h => absurd rfl h)
def sim_chain (Rel : xm → xm → xn → Prop) : Prop := ∀ (MX MY : xm) (LY : xn) (a0 : Int32), Rel MX MY LY → ∃ (r : Int32) (MX' : xm) (MY' : xm), f_X9_chain MX a0 = some (r, MX') ∧ f_X10_chain MY a0 = some (r, MY') ∧ Rel MX' MY' LY
set_option maxHeartbeats 4000000 in
theorem law_c42 {p : Program} {l : Launch} {e : Env} {s : State} {m : MethodId} {below : List Frame} {meth : Method} {c : Code} {Q : State → Prop} {E : xE} {bx bY b0 L t : Nat} {xs : Nat → Int32} {cs sl : Nat} (C : xC p s m #[Value.ref b0] meth c cL_law 4 RL (some .boolean) E bx) (hby : bx ≤ bY) (hX : va_X b0 L xs s s.heap) (hbl : b0 < s.heap.size) (ht : 6 * t + 6 ≤ L) (hL : L ≤ 3072) (hcs : cs ≤ 600000 ∧ sl ≤ 7302250) {MX MY : xm} {LY : xn} {H : Heap} {locs : List Loc} {ls : Array Slot} {r : Int32} {MX' : xm} {MY' : xm} (h1 : f_X9_chain MX (xs (6 * t + 1)) = some (r, MX')) (h2 : f_X10_chain MY (xs (6 * t + 1)) = some (r, MY')) (hm : lM E bx NX (cX E bx MX) bY NY (cY E bY MY LY) s.heap H locs) (hl : lv_has ls 4 [(0, .ref b0), (1, .ref (bx + 0)), (2, .ref (bY + 0)), (3, .int (nI (6 * t)))])
    (kc : ∀ (H : Heap) (locs : List Loc), lM E bx NX (cX E bx MX') bY NY (cY E bY MY' LY) s.heap H locs → W p l e room_1 s m #[Value.ref b0] below meth c H locs cs sl Q (F0 m 1447 ls [])) :
    W p l e room_1 s m #[Value.ref b0] below meth c H locs cs sl Q (F0 m 1306 ls []) := by
  have hx := C.1.1
  have hb := C.1.2.1
  refine lv_aload_n hx hb dL_law_1306 rfl (lv_at hl 1 rfl) ?_
  refine l_arg C hX hbl ht hL hm.2.2.1 hl 1 (by decide) (by decide) dL_law_1307 dL_law_1308 dL_law_1309 dL_law_1310 dL_law_1311 ?_
  refine l_callV (k := 0) (As := [.int (xs (6 * t + 1))]) (rest := []) C (Nat.le_refl _) hm (c_X9_chain l E bx MX (xs (6 * t + 1)) h1) rfl (cx_ColouredHeap LX_top) tc_X9_chain tm_RL_191 ti_X9_chain ts_X9_chain tn_RX9 td_X9_chain rfl rfl ⟨Nat.le_of_ble_eq_true rfl, Nat.le_of_ble_eq_true rfl⟩ rfl hl.1 rfl (Nat.le_of_ble_eq_true rfl) hcs dL_law_1312 (fun H locs hm => ?_)
  refine lv_aload_n hx hb dL_law_1315 rfl (lv_at hl 2 rfl) ?_
  refine l_arg C hX hbl ht hL hm.2.2.1 hl 1 (by decide) (by decide) dL_law_1316 dL_law_1317 dL_law_1318 dL_law_1319 dL_law_1320 ?_
  refine l_callV (k := 0) (As := [.int (xs (6 * t + 1))]) (rest := [.int r]) C hby hm.sw (c_X10_chain l E bY MY LY (xs (6 * t + 1)) h2) rfl cy_0 tc_X10_chain tm_RL_194 ti_X10_chain ts_X10_chain tn_RX10 td_X10_chain rfl rfl ⟨Nat.le_of_ble_eq_true rfl, Nat.le_of_ble_eq_true rfl⟩ rfl hl.1 rfl (Nat.le_of_ble_eq_true rfl) hcs dL_law_1321 (fun H locs hm => ?_)
  have hm := hm.sw
  exact lv_icmp_eq (tgt := 1447) hx hb dL_law_1324 (by decide) (fun _ => kc H locs hm) (fun h => absurd rfl h)
def sim_said (Rel : xm → xm → xn → Prop) : Prop := ∀ (MX MY : xm) (LY : xn) (a0 : Int32) (a1 : Int32), Rel MX MY LY → ∃ (r : Int32) (MX' : xm) (MY' : xm), f_X9_said MX a0 a1 = some (r, MX') ∧ f_X10_said MY a0 a1 = some (r, MY') ∧ Rel MX' MY' LY
set_option maxHeartbeats 4000000 in
theorem law_c43 {p : Program} {l : Launch} {e : Env} {s : State} {m : MethodId} {below : List Frame} {meth : Method} {c : Code} {Q : State → Prop} {E : xE} {bx bY b0 L t : Nat} {xs : Nat → Int32} {cs sl : Nat} (C : xC p s m #[Value.ref b0] meth c cL_law 4 RL (some .boolean) E bx) (hby : bx ≤ bY) (hX : va_X b0 L xs s s.heap) (hbl : b0 < s.heap.size) (ht : 6 * t + 6 ≤ L) (hL : L ≤ 3072) (hcs : cs ≤ 600000 ∧ sl ≤ 7302250) {MX MY : xm} {LY : xn} {H : Heap} {locs : List Loc} {ls : Array Slot} {r : Int32} {MX' : xm} {MY' : xm} (h1 : f_X9_said MX (xs (6 * t + 1)) (xs (6 * t + 2)) = some (r, MX')) (h2 : f_X10_said MY (xs (6 * t + 1)) (xs (6 * t + 2)) = some (r, MY')) (hm : lM E bx NX (cX E bx MX) bY NY (cY E bY MY LY) s.heap H locs) (hl : lv_has ls 4 [(0, .ref b0), (1, .ref (bx + 0)), (2, .ref (bY + 0)), (3, .int (nI (6 * t)))])
    (kc : ∀ (H : Heap) (locs : List Loc), lM E bx NX (cX E bx MX') bY NY (cY E bY MY' LY) s.heap H locs → W p l e room_1 s m #[Value.ref b0] below meth c H locs cs sl Q (F0 m 1447 ls [])) :
    W p l e room_1 s m #[Value.ref b0] below meth c H locs cs sl Q (F0 m 1329 ls []) := by
  have hx := C.1.1
  have hb := C.1.2.1
  refine lv_aload_n hx hb dL_law_1329 rfl (lv_at hl 1 rfl) ?_
  refine l_arg C hX hbl ht hL hm.2.2.1 hl 1 (by decide) (by decide) dL_law_1330 dL_law_1331 dL_law_1332 dL_law_1333 dL_law_1334 ?_
  refine l_arg C hX hbl ht hL hm.2.2.1 hl 2 (by decide) (by decide) dL_law_1335 dL_law_1336 dL_law_1337 dL_law_1338 dL_law_1339 ?_
  refine l_callV (k := 0) (As := [.int (xs (6 * t + 1)), .int (xs (6 * t + 2))]) (rest := []) C (Nat.le_refl _) hm (c_X9_said l E bx MX (xs (6 * t + 1)) (xs (6 * t + 2)) h1) rfl (cx_ColouredHeap LX_top) tc_X9_said tm_RL_195 ti_X9_said ts_X9_said tn_RX9 td_X9_said rfl rfl ⟨Nat.le_of_ble_eq_true rfl, Nat.le_of_ble_eq_true rfl⟩ rfl hl.1 rfl (Nat.le_of_ble_eq_true rfl) hcs dL_law_1340 (fun H locs hm => ?_)
  refine lv_aload_n hx hb dL_law_1343 rfl (lv_at hl 2 rfl) ?_
  refine l_arg C hX hbl ht hL hm.2.2.1 hl 1 (by decide) (by decide) dL_law_1344 dL_law_1345 dL_law_1346 dL_law_1347 dL_law_1348 ?_
  refine l_arg C hX hbl ht hL hm.2.2.1 hl 2 (by decide) (by decide) dL_law_1349 dL_law_1350 dL_law_1351 dL_law_1352 dL_law_1353 ?_
  refine l_callV (k := 0) (As := [.int (xs (6 * t + 1)), .int (xs (6 * t + 2))]) (rest := [.int r]) C hby hm.sw (c_X10_said l E bY MY LY (xs (6 * t + 1)) (xs (6 * t + 2)) h2) rfl cy_0 tc_X10_said tm_RL_198 ti_X10_said ts_X10_said tn_RX10 td_X10_said rfl rfl ⟨Nat.le_of_ble_eq_true rfl, Nat.le_of_ble_eq_true rfl⟩ rfl hl.1 rfl (Nat.le_of_ble_eq_true rfl) hcs dL_law_1354 (fun H locs hm => ?_)
  have hm := hm.sw
  exact lv_icmp_eq (tgt := 1447) hx hb dL_law_1357 (by decide) (fun _ => kc H locs hm) (fun h => absurd rfl h)
def sim_whose (Rel : xm → xm → xn → Prop) : Prop := ∀ (MX MY : xm) (LY : xn), Rel MX MY LY → ∃ (r : Int32) (MX' : xm) (MY' : xm) (LY' : xn), f_X9_whose MX = some (r, MX') ∧ f_X10_whose MY LY = some (r, MY', LY') ∧ Rel MX' MY' LY'
set_option maxHeartbeats 4000000 in
theorem law_c44 {p : Program} {l : Launch} {e : Env} {s : State} {m : MethodId} {below : List Frame} {meth : Method} {c : Code} {Q : State → Prop} {E : xE} {bx bY b0 L t : Nat} {xs : Nat → Int32} {cs sl : Nat} (C : xC p s m #[Value.ref b0] meth c cL_law 4 RL (some .boolean) E bx) (hby : bx ≤ bY) (hX : va_X b0 L xs s s.heap) (hbl : b0 < s.heap.size) (ht : 6 * t + 6 ≤ L) (hL : L ≤ 3072) (hcs : cs ≤ 600000 ∧ sl ≤ 7302250) {MX MY : xm} {LY : xn} {H : Heap} {locs : List Loc} {ls : Array Slot} {r : Int32} {MX' : xm} {MY' : xm} {LY' : xn} (h1 : f_X9_whose MX = some (r, MX')) (h2 : f_X10_whose MY LY = some (r, MY', LY')) (hm : lM E bx NX (cX E bx MX) bY NY (cY E bY MY LY) s.heap H locs) (hl : lv_has ls 4 [(0, .ref b0), (1, .ref (bx + 0)), (2, .ref (bY + 0)), (3, .int (nI (6 * t)))])
    (kc : ∀ (H : Heap) (locs : List Loc), lM E bx NX (cX E bx MX') bY NY (cY E bY MY' LY') s.heap H locs → W p l e room_1 s m #[Value.ref b0] below meth c H locs cs sl Q (F0 m 1447 ls [])) :
    W p l e room_1 s m #[Value.ref b0] below meth c H locs cs sl Q (F0 m 1362 ls []) := by
  have hx := C.1.1
  have hb := C.1.2.1
  refine lv_aload_n hx hb dL_law_1362 rfl (lv_at hl 1 rfl) ?_
  refine l_callV (k := 0) (As := []) (rest := []) C (Nat.le_refl _) hm (c_X9_whose l E bx MX  h1) rfl (cx_ColouredHeap LX_top) tc_X9_whose tm_RL_199 ti_X9_whose ts_X9_whose tn_RX9 td_X9_whose rfl rfl ⟨Nat.le_of_ble_eq_true rfl, Nat.le_of_ble_eq_true rfl⟩ rfl hl.1 rfl (Nat.le_of_ble_eq_true rfl) hcs dL_law_1363 (fun H locs hm => ?_)
  refine lv_aload_n hx hb dL_law_1366 rfl (lv_at hl 2 rfl) ?_
  refine l_callV (k := 0) (As := []) (rest := [.int r]) C hby hm.sw (c_X10_whose l E bY MY LY  h2) rfl cy_0 tc_X10_whose tm_RL_202 ti_X10_whose ts_X10_whose tn_RX10 td_X10_whose rfl rfl ⟨Nat.le_of_ble_eq_true rfl, Nat.le_of_ble_eq_true rfl⟩ rfl hl.1 rfl (Nat.le_of_ble_eq_true rfl) hcs dL_law_1367 (fun H locs hm => ?_)
  have hm := hm.sw
  exact lv_icmp_eq (tgt := 1447) hx hb dL_law_1370 (by decide) (fun _ => kc H locs hm) (fun h => absurd rfl h)
def sim_ledger (Rel : xm → xm → xn → Prop) : Prop := ∀ (MX MY : xm) (LY : xn) (a0 : Int32), Rel MX MY LY → ∃ (r : Int32), f_X9_ledger MX a0 = some r ∧ f_X10_ledger MY a0 = some r ∧ Rel MX MY LY
set_option maxHeartbeats 4000000 in
theorem law_c45 {p : Program} {l : Launch} {e : Env} {s : State} {m : MethodId} {below : List Frame} {meth : Method} {c : Code} {Q : State → Prop} {E : xE} {bx bY b0 L t : Nat} {xs : Nat → Int32} {cs sl : Nat} (C : xC p s m #[Value.ref b0] meth c cL_law 4 RL (some .boolean) E bx) (hby : bx ≤ bY) (hX : va_X b0 L xs s s.heap) (hbl : b0 < s.heap.size) (ht : 6 * t + 6 ≤ L) (hL : L ≤ 3072) (hcs : cs ≤ 600000 ∧ sl ≤ 7302250) {MX MY : xm} {LY : xn} {H : Heap} {locs : List Loc} {ls : Array Slot} {r : Int32} (h1 : f_X9_ledger MX (xs (6 * t + 1)) = some r) (h2 : f_X10_ledger MY (xs (6 * t + 1)) = some r) (hm : lM E bx NX (cX E bx MX) bY NY (cY E bY MY LY) s.heap H locs) (hl : lv_has ls 4 [(0, .ref b0), (1, .ref (bx + 0)), (2, .ref (bY + 0)), (3, .int (nI (6 * t)))])
    (kc : ∀ (H : Heap) (locs : List Loc), lM E bx NX (cX E bx MX) bY NY (cY E bY MY LY) s.heap H locs → W p l e room_1 s m #[Value.ref b0] below meth c H locs cs sl Q (F0 m 1447 ls [])) :
    W p l e room_1 s m #[Value.ref b0] below meth c H locs cs sl Q (F0 m 1375 ls []) := by
  have hx := C.1.1
  have hb := C.1.2.1
  refine lv_aload_n hx hb dL_law_1375 rfl (lv_at hl 1 rfl) ?_
  refine l_arg C hX hbl ht hL hm.2.2.1 hl 1 (by decide) (by decide) dL_law_1376 dL_law_1377 dL_law_1378 dL_law_1379 dL_law_1380 ?_
  refine l_callV (k := 0) (As := [.int (xs (6 * t + 1))]) (rest := []) C (Nat.le_refl _) hm (c_X9_ledger l E bx MX (xs (6 * t + 1)) h1) rfl (cx_ColouredHeap LX_top) tc_X9_ledger tm_RL_203 ti_X9_ledger ts_X9_ledger tn_RX9 td_X9_ledger rfl rfl ⟨Nat.le_of_ble_eq_true rfl, Nat.le_of_ble_eq_true rfl⟩ rfl hl.1 rfl (Nat.le_of_ble_eq_true rfl) hcs dL_law_1381 (fun H locs hm => ?_)
  refine lv_aload_n hx hb dL_law_1384 rfl (lv_at hl 2 rfl) ?_
  refine l_arg C hX hbl ht hL hm.2.2.1 hl 1 (by decide) (by decide) dL_law_1385 dL_law_1386 dL_law_1387 dL_law_1388 dL_law_1389 ?_
  refine l_callV (k := 0) (As := [.int (xs (6 * t + 1))]) (rest := [.int r]) C hby hm.sw (c_X10_ledger l E bY MY LY (xs (6 * t + 1)) h2) rfl cy_0 tc_X10_ledger tm_RL_206 ti_X10_ledger ts_X10_ledger tn_RX10 td_X10_ledger rfl rfl ⟨Nat.le_of_ble_eq_true rfl, Nat.le_of_ble_eq_true rfl⟩ rfl hl.1 rfl (Nat.le_of_ble_eq_true rfl) hcs dL_law_1390 (fun H locs hm => ?_)
  have hm := hm.sw
  exact lv_icmp_eq (tgt := 1447) hx hb dL_law_1393 (by decide) (fun _ => kc H locs hm) (fun h => absurd rfl h)
def sim_image (Rel : xm → xm → xn → Prop) : Prop := ∀ (MX MY : xm) (LY : xn), Rel MX MY LY → ∃ (r : Int32) (MX' : xm) (MY' : xm), f_X9_image MX = some (r, MX') ∧ f_X10_image MY = some (r, MY') ∧ Rel MX' MY' LY
set_option maxHeartbeats 4000000 in
theorem law_c46 {p : Program} {l : Launch} {e : Env} {s : State} {m : MethodId} {below : List Frame} {meth : Method} {c : Code} {Q : State → Prop} {E : xE} {bx bY b0 L t : Nat} {xs : Nat → Int32} {cs sl : Nat} (C : xC p s m #[Value.ref b0] meth c cL_law 4 RL (some .boolean) E bx) (hby : bx ≤ bY) (hX : va_X b0 L xs s s.heap) (hbl : b0 < s.heap.size) (ht : 6 * t + 6 ≤ L) (hL : L ≤ 3072) (hcs : cs ≤ 600000 ∧ sl ≤ 7302250) {MX MY : xm} {LY : xn} {H : Heap} {locs : List Loc} {ls : Array Slot} {r : Int32} {MX' : xm} {MY' : xm} (h1 : f_X9_image MX = some (r, MX')) (h2 : f_X10_image MY = some (r, MY')) (hm : lM E bx NX (cX E bx MX) bY NY (cY E bY MY LY) s.heap H locs) (hl : lv_has ls 4 [(0, .ref b0), (1, .ref (bx + 0)), (2, .ref (bY + 0)), (3, .int (nI (6 * t)))])
    (kc : ∀ (H : Heap) (locs : List Loc), lM E bx NX (cX E bx MX') bY NY (cY E bY MY' LY) s.heap H locs → W p l e room_1 s m #[Value.ref b0] below meth c H locs cs sl Q (F0 m 1447 ls [])) :
    W p l e room_1 s m #[Value.ref b0] below meth c H locs cs sl Q (F0 m 1398 ls []) := by
  have hx := C.1.1
  have hb := C.1.2.1
  refine lv_aload_n hx hb dL_law_1398 rfl (lv_at hl 1 rfl) ?_
  refine l_callV (k := 0) (As := []) (rest := []) C (Nat.le_refl _) hm (c_X9_image l E bx MX  h1) rfl (cx_ColouredHeap LX_top) tc_X9_image tm_RL_207 ti_X9_image ts_X9_image tn_RX9 td_X9_image rfl rfl ⟨Nat.le_of_ble_eq_true rfl, Nat.le_of_ble_eq_true rfl⟩ rfl hl.1 rfl (Nat.le_of_ble_eq_true rfl) hcs dL_law_1399 (fun H locs hm => ?_)
  refine lv_aload_n hx hb dL_law_1402 rfl (lv_at hl 2 rfl) ?_
  refine l_callV (k := 0) (As := []) (rest := [.int r]) C hby hm.sw (c_X10_image l E bY MY LY  h2) rfl cy_0 tc_X10_image tm_RL_210 ti_X10_image ts_X10_image tn_RX10 td_X10_image rfl rfl ⟨Nat.le_of_ble_eq_true rfl, Nat.le_of_ble_eq_true rfl⟩ rfl hl.1 rfl (Nat.le_of_ble_eq_true rfl) hcs dL_law_1403 (fun H locs hm => ?_)
  have hm := hm.sw
  exact lv_icmp_eq (tgt := 1447) hx hb dL_law_1406 (by decide) (fun _ => kc H locs hm) (fun h => absurd rfl h)
def sim_back (Rel : xm → xm → xn → Prop) : Prop := ∀ (MX MY : xm) (LY : xn), Rel MX MY LY → ∃ (r : Int32) (MX' : xm) (MY' : xm), f_X9_back MX = some (r, MX') ∧ f_X10_back MY = some (r, MY') ∧ Rel MX' MY' LY
set_option maxHeartbeats 4000000 in
theorem law_c47 {p : Program} {l : Launch} {e : Env} {s : State} {m : MethodId} {below : List Frame} {meth : Method} {c : Code} {Q : State → Prop} {E : xE} {bx bY b0 L t : Nat} {xs : Nat → Int32} {cs sl : Nat} (C : xC p s m #[Value.ref b0] meth c cL_law 4 RL (some .boolean) E bx) (hby : bx ≤ bY) (hX : va_X b0 L xs s s.heap) (hbl : b0 < s.heap.size) (ht : 6 * t + 6 ≤ L) (hL : L ≤ 3072) (hcs : cs ≤ 600000 ∧ sl ≤ 7302250) {MX MY : xm} {LY : xn} {H : Heap} {locs : List Loc} {ls : Array Slot} {r : Int32} {MX' : xm} {MY' : xm} (h1 : f_X9_back MX = some (r, MX')) (h2 : f_X10_back MY = some (r, MY')) (hm : lM E bx NX (cX E bx MX) bY NY (cY E bY MY LY) s.heap H locs) (hl : lv_has ls 4 [(0, .ref b0), (1, .ref (bx + 0)), (2, .ref (bY + 0)), (3, .int (nI (6 * t)))])
    (kc : ∀ (H : Heap) (locs : List Loc), lM E bx NX (cX E bx MX') bY NY (cY E bY MY' LY) s.heap H locs → W p l e room_1 s m #[Value.ref b0] below meth c H locs cs sl Q (F0 m 1447 ls [])) :
    W p l e room_1 s m #[Value.ref b0] below meth c H locs cs sl Q (F0 m 1411 ls []) := by
  have hx := C.1.1
  have hb := C.1.2.1
  refine lv_aload_n hx hb dL_law_1411 rfl (lv_at hl 1 rfl) ?_
  refine l_callV (k := 0) (As := []) (rest := []) C (Nat.le_refl _) hm (c_X9_back l E bx MX  h1) rfl (cx_ColouredHeap LX_top) tc_X9_back tm_RL_211 ti_X9_back ts_X9_back tn_RX9 td_X9_back rfl rfl ⟨Nat.le_of_ble_eq_true rfl, Nat.le_of_ble_eq_true rfl⟩ rfl hl.1 rfl (Nat.le_of_ble_eq_true rfl) hcs dL_law_1412 (fun H locs hm => ?_)
  refine lv_aload_n hx hb dL_law_1415 rfl (lv_at hl 2 rfl) ?_
  refine l_callV (k := 0) (As := []) (rest := [.int r]) C hby hm.sw (c_X10_back l E bY MY LY  h2) rfl cy_0 tc_X10_back tm_RL_214 ti_X10_back ts_X10_back tn_RX10 td_X10_back rfl rfl ⟨Nat.le_of_ble_eq_true rfl, Nat.le_of_ble_eq_true rfl⟩ rfl hl.1 rfl (Nat.le_of_ble_eq_true rfl) hcs dL_law_1416 (fun H locs hm => ?_)
  have hm := hm.sw
  exact lv_icmp_eq (tgt := 1447) hx hb dL_law_1419 (by decide) (fun _ => kc H locs hm) (fun h => absurd rfl h)
def sim_about (Rel : xm → xm → xn → Prop) : Prop := ∀ (MX MY : xm) (LY : xn) (a0 : Int32), Rel MX MY LY → ∃ (r : Int32), f_X9_about MX a0 = some r ∧ f_X10_about MY a0 = some r ∧ Rel MX MY LY
set_option maxHeartbeats 4000000 in
theorem law_c48 {p : Program} {l : Launch} {e : Env} {s : State} {m : MethodId} {below : List Frame} {meth : Method} {c : Code} {Q : State → Prop} {E : xE} {bx bY b0 L t : Nat} {xs : Nat → Int32} {cs sl : Nat} (C : xC p s m #[Value.ref b0] meth c cL_law 4 RL (some .boolean) E bx) (hby : bx ≤ bY) (hX : va_X b0 L xs s s.heap) (hbl : b0 < s.heap.size) (ht : 6 * t + 6 ≤ L) (hL : L ≤ 3072) (hcs : cs ≤ 600000 ∧ sl ≤ 7302250) {MX MY : xm} {LY : xn} {H : Heap} {locs : List Loc} {ls : Array Slot} {r : Int32} (h1 : f_X9_about MX (xs (6 * t + 1)) = some r) (h2 : f_X10_about MY (xs (6 * t + 1)) = some r) (hm : lM E bx NX (cX E bx MX) bY NY (cY E bY MY LY) s.heap H locs) (hl : lv_has ls 4 [(0, .ref b0), (1, .ref (bx + 0)), (2, .ref (bY + 0)), (3, .int (nI (6 * t)))])
    (kc : ∀ (H : Heap) (locs : List Loc), lM E bx NX (cX E bx MX) bY NY (cY E bY MY LY) s.heap H locs → W p l e room_1 s m #[Value.ref b0] below meth c H locs cs sl Q (F0 m 1447 ls [])) :
    W p l e room_1 s m #[Value.ref b0] below meth c H locs cs sl Q (F0 m 1424 ls []) := by
  have hx := C.1.1
  have hb := C.1.2.1
  refine lv_aload_n hx hb dL_law_1424 rfl (lv_at hl 1 rfl) ?_
  refine l_arg C hX hbl ht hL hm.2.2.1 hl 1 (by decide) (by decide) dL_law_1425 dL_law_1426 dL_law_1427 dL_law_1428 dL_law_1429 ?_
  refine l_callV (k := 0) (As := [.int (xs (6 * t + 1))]) (rest := []) C (Nat.le_refl _) hm (c_X9_about l E bx MX (xs (6 * t + 1)) h1) rfl (cx_ColouredHeap LX_top) tc_X9_about tm_RL_215 ti_X9_about ts_X9_about tn_RX9 td_X9_about rfl rfl ⟨Nat.le_of_ble_eq_true rfl, Nat.le_of_ble_eq_true rfl⟩ rfl hl.1 rfl (Nat.le_of_ble_eq_true rfl) hcs dL_law_1430 (fun H locs hm => ?_)
  refine lv_aload_n hx hb dL_law_1433 rfl (lv_at hl 2 rfl) ?_
  refine l_arg C hX hbl ht hL hm.2.2.1 hl 1 (by decide) (by decide) dL_law_1434 dL_law_1435 dL_law_1436 dL_law_1437 dL_law_1438 ?_
  refine l_callV (k := 0) (As := [.int (xs (6 * t + 1))]) (rest := [.int r]) C hby hm.sw (c_X10_about l E bY MY LY (xs (6 * t + 1)) h2) rfl cy_0 tc_X10_about tm_RL_218 ti_X10_about ts_X10_about tn_RX10 td_X10_about rfl rfl ⟨Nat.le_of_ble_eq_true rfl, Nat.le_of_ble_eq_true rfl⟩ rfl hl.1 rfl (Nat.le_of_ble_eq_true rfl) hcs dL_law_1439 (fun H locs hm => ?_)
  have hm := hm.sw
  exact lv_icmp_eq (tgt := 1447) hx hb dL_law_1442 (by decide) (fun _ => kc H locs hm) (fun h => absurd rfl h)
/-- what is wanting: class and reference answer alike, and stay alike, call by call -/
def lawSim (Rel : xm → xm → xn → Prop) : Prop := sim_feed Rel ∧ sim_end Rel ∧ sim_text Rel ∧ sim_fault Rel ∧ sim_by Rel ∧ sim_make Rel ∧ sim_load Rel ∧ sim_store Rel ∧ sim_drop Rel ∧ sim_copy Rel ∧ sim_begin Rel ∧ sim_finish Rel ∧ sim_start Rel ∧ sim_choose Rel ∧ sim_day Rel ∧ sim_played Rel ∧ sim_years Rel ∧ sim_undo Rel ∧ sim_root Rel ∧ sim_at Rel ∧ sim_forward Rel ∧ sim_page Rel ∧ sim_is Rel ∧ sim_marked Rel ∧ sim_book Rel ∧ sim_foretold Rel ∧ sim_paces Rel ∧ sim_current Rel ∧ sim_reached Rel ∧ sim_reach Rel ∧ sim_dead Rel ∧ sim_stale Rel ∧ sim_safe Rel ∧ sim_far Rel ∧ sim_retained Rel ∧ sim_pack Rel ∧ sim_till Rel ∧ sim_alike Rel ∧ sim_poorest Rel ∧ sim_gaps Rel ∧ sim_shape Rel ∧ sim_same Rel ∧ sim_chain Rel ∧ sim_said Rel ∧ sim_whose Rel ∧ sim_ledger Rel ∧ sim_image Rel ∧ sim_back Rel ∧ sim_about Rel
