theorem tf_RX10_7 : Cond.fieldLink RX10 7 "ColouredHeapModel" "a" "[I" ∈ TB := tb_in 1282 (by decide +kernel) rfl
theorem td_X10_isBegun : yX10_isBegun.cls ≠ "java/lang/invoke/MethodHandle" ∧ yX10_isBegun.cls ≠ "java/lang/invoke/VarHandle" ∧ (parseMethodDescriptor yX10_isBegun.desc).map (fun d => d.parameters.length) = some 1 := by decide +kernel
theorem tc_X10_isBegun : Cond.code yX10_isBegun cX10_isBegun 2 (some .boolean) ∈ TB := tb_in 1667 (by decide +kernel) rfl
theorem tm_RX10_71 : Cond.methodLink RX10 71 yX10_isBegun ∈ TB := tb_in 1664 (by decide +kernel) rfl
theorem ti_X10_isBegun : Cond.instanceMethod yX10_isBegun ∈ TB := tb_in 1666 (by decide +kernel) rfl
theorem ts_X10_isBegun : Cond.selects RX10 yX10_isBegun yX10_isBegun ∈ TB := tb_in 90 (by decide +kernel) rfl
theorem tn_RX10 : Cond.initialized RX10 ∈ TB := tb_in 139 (by decide +kernel) rfl
theorem tf_RX10_83 : Cond.fieldLink RX10 83 "ColouredHeapModel" "taped" "I" ∈ TB := tb_in 1286 (by decide +kernel) rfl
theorem td_X10_isIn : yX10_isIn.cls ≠ "java/lang/invoke/MethodHandle" ∧ yX10_isIn.cls ≠ "java/lang/invoke/VarHandle" ∧ (parseMethodDescriptor yX10_isIn.desc).map (fun d => d.parameters.length) = some 3 := by decide +kernel
theorem tc_X10_isIn : Cond.code yX10_isIn cX10_isIn 3 (some .boolean) ∈ TB := tb_in 1380 (by decide +kernel) rfl
theorem tm_RX10_59 : Cond.methodLink RX10 59 yX10_isIn ∈ TB := tb_in 1378 (by decide +kernel) rfl
theorem tz_X10_isIn : Cond.static yX10_isIn ∈ TB := tb_in 1379 (by decide +kernel) rfl
theorem tf_RX10_43 : Cond.fieldLink RX10 43 "ColouredHeapModel" "aside" "[I" ∈ TB := tb_in 1305 (by decide +kernel) rfl
theorem td_X10_fieldsOf : yX10_fieldsOf.cls ≠ "java/lang/invoke/MethodHandle" ∧ yX10_fieldsOf.cls ≠ "java/lang/invoke/VarHandle" ∧ (parseMethodDescriptor yX10_fieldsOf.desc).map (fun d => d.parameters.length) = some 1 := by decide +kernel
theorem tc_X10_fieldsOf : Cond.code yX10_fieldsOf cX10_fieldsOf 2 (some .int) ∈ TB := tb_in 1602 (by decide +kernel) rfl
theorem tm_RX10_67 : Cond.methodLink RX10 67 yX10_fieldsOf ∈ TB := tb_in 1599 (by decide +kernel) rfl
theorem ti_X10_fieldsOf : Cond.instanceMethod yX10_fieldsOf ∈ TB := tb_in 1601 (by decide +kernel) rfl
theorem ts_X10_fieldsOf : Cond.selects RX10 yX10_fieldsOf yX10_fieldsOf ∈ TB := tb_in 78 (by decide +kernel) rfl
theorem td_X10_sizeOf : yX10_sizeOf.cls ≠ "java/lang/invoke/MethodHandle" ∧ yX10_sizeOf.cls ≠ "java/lang/invoke/VarHandle" ∧ (parseMethodDescriptor yX10_sizeOf.desc).map (fun d => d.parameters.length) = some 1 := by decide +kernel
theorem tc_X10_sizeOf : Cond.code yX10_sizeOf cX10_sizeOf 2 (some .int) ∈ TB := tb_in 1598 (by decide +kernel) rfl
theorem tm_RX10_80 : Cond.methodLink RX10 80 yX10_sizeOf ∈ TB := tb_in 1595 (by decide +kernel) rfl
theorem ti_X10_sizeOf : Cond.instanceMethod yX10_sizeOf ∈ TB := tb_in 1597 (by decide +kernel) rfl
theorem ts_X10_sizeOf : Cond.selects RX10 yX10_sizeOf yX10_sizeOf ∈ TB := tb_in 77 (by decide +kernel) rfl
theorem td_X10_colourOf : yX10_colourOf.cls ≠ "java/lang/invoke/MethodHandle" ∧ yX10_colourOf.cls ≠ "java/lang/invoke/VarHandle" ∧ (parseMethodDescriptor yX10_colourOf.desc).map (fun d => d.parameters.length) = some 1 := by decide +kernel
theorem tc_X10_colourOf : Cond.code yX10_colourOf cX10_colourOf 1 (some .int) ∈ TB := tb_in 1690 (by decide +kernel) rfl
theorem tm_RX10_325 : Cond.methodLink RX10 325 yX10_colourOf ∈ TB := tb_in 1688 (by decide +kernel) rfl
theorem tz_X10_colourOf : Cond.static yX10_colourOf ∈ TB := tb_in 1689 (by decide +kernel) rfl
theorem td_X10_lowestFree : yX10_lowestFree.cls ≠ "java/lang/invoke/MethodHandle" ∧ yX10_lowestFree.cls ≠ "java/lang/invoke/VarHandle" ∧ (parseMethodDescriptor yX10_lowestFree.desc).map (fun d => d.parameters.length) = some 0 := by decide +kernel
theorem tc_X10_lowestFree : Cond.code yX10_lowestFree cX10_lowestFree 2 (some .int) ∈ TB := tb_in 1551 (by decide +kernel) rfl
theorem tm_RX10_310 : Cond.methodLink RX10 310 yX10_lowestFree ∈ TB := tb_in 1548 (by decide +kernel) rfl
theorem ti_X10_lowestFree : Cond.instanceMethod yX10_lowestFree ∈ TB := tb_in 1550 (by decide +kernel) rfl
theorem ts_X10_lowestFree : Cond.selects RX10 yX10_lowestFree yX10_lowestFree ∈ TB := tb_in 67 (by decide +kernel) rfl
theorem td_X10_write : yX10_write.cls ≠ "java/lang/invoke/MethodHandle" ∧ yX10_write.cls ≠ "java/lang/invoke/VarHandle" ∧ (parseMethodDescriptor yX10_write.desc).map (fun d => d.parameters.length) = some 2 := by decide +kernel
theorem tc_X10_write : Cond.code yX10_write cX10_write 4 none ∈ TB := tb_in 1635 (by decide +kernel) rfl
theorem tm_RX10_313 : Cond.methodLink RX10 313 yX10_write ∈ TB := tb_in 1632 (by decide +kernel) rfl
theorem ti_X10_write : Cond.instanceMethod yX10_write ∈ TB := tb_in 1634 (by decide +kernel) rfl
theorem ts_X10_write : Cond.selects RX10 yX10_write yX10_write ∈ TB := tb_in 82 (by decide +kernel) rfl
theorem td_X10_given : yX10_given.cls ≠ "java/lang/invoke/MethodHandle" ∧ yX10_given.cls ≠ "java/lang/invoke/VarHandle" ∧ (parseMethodDescriptor yX10_given.desc).map (fun d => d.parameters.length) = some 2 := by decide +kernel
theorem tc_X10_given : Cond.code yX10_given cX10_given 4 (some .int) ∈ TB := tb_in 1631 (by decide +kernel) rfl
theorem tm_RX10_316 : Cond.methodLink RX10 316 yX10_given ∈ TB := tb_in 1628 (by decide +kernel) rfl
theorem ti_X10_given : Cond.instanceMethod yX10_given ∈ TB := tb_in 1630 (by decide +kernel) rfl
theorem ts_X10_given : Cond.selects RX10 yX10_given yX10_given ∈ TB := tb_in 81 (by decide +kernel) rfl
theorem td_X10_copyWords : yX10_copyWords.cls ≠ "java/lang/invoke/MethodHandle" ∧ yX10_copyWords.cls ≠ "java/lang/invoke/VarHandle" ∧ (parseMethodDescriptor yX10_copyWords.desc).map (fun d => d.parameters.length) = some 2 := by decide +kernel
theorem tc_X10_copyWords : Cond.code yX10_copyWords cX10_copyWords 4 none ∈ TB := tb_in 1655 (by decide +kernel) rfl
theorem tm_RX10_319 : Cond.methodLink RX10 319 yX10_copyWords ∈ TB := tb_in 1652 (by decide +kernel) rfl
theorem ti_X10_copyWords : Cond.instanceMethod yX10_copyWords ∈ TB := tb_in 1654 (by decide +kernel) rfl
theorem ts_X10_copyWords : Cond.selects RX10 yX10_copyWords yX10_copyWords ∈ TB := tb_in 87 (by decide +kernel) rfl
theorem td_X10_tellForward : yX10_tellForward.cls ≠ "java/lang/invoke/MethodHandle" ∧ yX10_tellForward.cls ≠ "java/lang/invoke/VarHandle" ∧ (parseMethodDescriptor yX10_tellForward.desc).map (fun d => d.parameters.length) = some 2 := by decide +kernel
theorem tc_X10_tellForward : Cond.code yX10_tellForward cX10_tellForward 3 none ∈ TB := tb_in 1659 (by decide +kernel) rfl
theorem tm_RX10_322 : Cond.methodLink RX10 322 yX10_tellForward ∈ TB := tb_in 1656 (by decide +kernel) rfl
theorem ti_X10_tellForward : Cond.instanceMethod yX10_tellForward ∈ TB := tb_in 1658 (by decide +kernel) rfl
theorem ts_X10_tellForward : Cond.selects RX10 yX10_tellForward yX10_tellForward ∈ TB := tb_in 88 (by decide +kernel) rfl
theorem td_X10_isGood : yX10_isGood.cls ≠ "java/lang/invoke/MethodHandle" ∧ yX10_isGood.cls ≠ "java/lang/invoke/VarHandle" ∧ (parseMethodDescriptor yX10_isGood.desc).map (fun d => d.parameters.length) = some 1 := by decide +kernel
theorem tc_X10_isGood : Cond.code yX10_isGood cX10_isGood 2 (some .boolean) ∈ TB := tb_in 1687 (by decide +kernel) rfl
theorem tm_RX10_328 : Cond.methodLink RX10 328 yX10_isGood ∈ TB := tb_in 1684 (by decide +kernel) rfl
theorem ti_X10_isGood : Cond.instanceMethod yX10_isGood ∈ TB := tb_in 1686 (by decide +kernel) rfl
theorem ts_X10_isGood : Cond.selects RX10 yX10_isGood yX10_isGood ∈ TB := tb_in 95 (by decide +kernel) rfl
theorem td_X10_whereOf : yX10_whereOf.cls ≠ "java/lang/invoke/MethodHandle" ∧ yX10_whereOf.cls ≠ "java/lang/invoke/VarHandle" ∧ (parseMethodDescriptor yX10_whereOf.desc).map (fun d => d.parameters.length) = some 1 := by decide +kernel
theorem tc_X10_whereOf : Cond.code yX10_whereOf cX10_whereOf 4 (some .int) ∈ TB := tb_in 1698 (by decide +kernel) rfl
theorem tm_RX10_331 : Cond.methodLink RX10 331 yX10_whereOf ∈ TB := tb_in 1695 (by decide +kernel) rfl
theorem ti_X10_whereOf : Cond.instanceMethod yX10_whereOf ∈ TB := tb_in 1697 (by decide +kernel) rfl
theorem ts_X10_whereOf : Cond.selects RX10 yX10_whereOf yX10_whereOf ∈ TB := tb_in 97 (by decide +kernel) rfl
theorem td_X10_needsMove : yX10_needsMove.cls ≠ "java/lang/invoke/MethodHandle" ∧ yX10_needsMove.cls ≠ "java/lang/invoke/VarHandle" ∧ (parseMethodDescriptor yX10_needsMove.desc).map (fun d => d.parameters.length) = some 1 := by decide +kernel
theorem tc_X10_needsMove : Cond.code yX10_needsMove cX10_needsMove 3 (some .boolean) ∈ TB := tb_in 1694 (by decide +kernel) rfl
theorem tm_RX10_334 : Cond.methodLink RX10 334 yX10_needsMove ∈ TB := tb_in 1691 (by decide +kernel) rfl
theorem ti_X10_needsMove : Cond.instanceMethod yX10_needsMove ∈ TB := tb_in 1693 (by decide +kernel) rfl
theorem ts_X10_needsMove : Cond.selects RX10 yX10_needsMove yX10_needsMove ∈ TB := tb_in 96 (by decide +kernel) rfl
theorem td_X10_isMarked : yX10_isMarked.cls ≠ "java/lang/invoke/MethodHandle" ∧ yX10_isMarked.cls ≠ "java/lang/invoke/VarHandle" ∧ (parseMethodDescriptor yX10_isMarked.desc).map (fun d => d.parameters.length) = some 1 := by decide +kernel
theorem tc_X10_isMarked : Cond.code yX10_isMarked cX10_isMarked 2 (some .boolean) ∈ TB := tb_in 1594 (by decide +kernel) rfl
theorem tm_RX10_77 : Cond.methodLink RX10 77 yX10_isMarked ∈ TB := tb_in 1591 (by decide +kernel) rfl
theorem ti_X10_isMarked : Cond.instanceMethod yX10_isMarked ∈ TB := tb_in 1593 (by decide +kernel) rfl
theorem ts_X10_isMarked : Cond.selects RX10 yX10_isMarked yX10_isMarked ∈ TB := tb_in 76 (by decide +kernel) rfl
theorem td_X10_moveNow : yX10_moveNow.cls ≠ "java/lang/invoke/MethodHandle" ∧ yX10_moveNow.cls ≠ "java/lang/invoke/VarHandle" ∧ (parseMethodDescriptor yX10_moveNow.desc).map (fun d => d.parameters.length) = some 1 := by decide +kernel
theorem tc_X10_moveNow : Cond.code yX10_moveNow cX10_moveNow 3 none ∈ TB := tb_in 1651 (by decide +kernel) rfl
theorem tm_RX10_340 : Cond.methodLink RX10 340 yX10_moveNow ∈ TB := tb_in 1648 (by decide +kernel) rfl
theorem ti_X10_moveNow : Cond.instanceMethod yX10_moveNow ∈ TB := tb_in 1650 (by decide +kernel) rfl
theorem ts_X10_moveNow : Cond.selects RX10 yX10_moveNow yX10_moveNow ∈ TB := tb_in 86 (by decide +kernel) rfl
theorem td_X10_mended : yX10_mended.cls ≠ "java/lang/invoke/MethodHandle" ∧ yX10_mended.cls ≠ "java/lang/invoke/VarHandle" ∧ (parseMethodDescriptor yX10_mended.desc).map (fun d => d.parameters.length) = some 1 := by decide +kernel
theorem tc_X10_mended : Cond.code yX10_mended cX10_mended 3 (some .int) ∈ TB := tb_in 1683 (by decide +kernel) rfl
theorem tm_RX10_343 : Cond.methodLink RX10 343 yX10_mended ∈ TB := tb_in 1680 (by decide +kernel) rfl
theorem ti_X10_mended : Cond.instanceMethod yX10_mended ∈ TB := tb_in 1682 (by decide +kernel) rfl
theorem ts_X10_mended : Cond.selects RX10 yX10_mended yX10_mended ∈ TB := tb_in 94 (by decide +kernel) rfl
theorem td_X10_leaveCopy : yX10_leaveCopy.cls ≠ "java/lang/invoke/MethodHandle" ∧ yX10_leaveCopy.cls ≠ "java/lang/invoke/VarHandle" ∧ (parseMethodDescriptor yX10_leaveCopy.desc).map (fun d => d.parameters.length) = some 1 := by decide +kernel
theorem tc_X10_leaveCopy : Cond.code yX10_leaveCopy cX10_leaveCopy 5 none ∈ TB := tb_in 1777 (by decide +kernel) rfl
theorem tm_RX10_415 : Cond.methodLink RX10 415 yX10_leaveCopy ∈ TB := tb_in 1774 (by decide +kernel) rfl
theorem ti_X10_leaveCopy : Cond.instanceMethod yX10_leaveCopy ∈ TB := tb_in 1776 (by decide +kernel) rfl
theorem ts_X10_leaveCopy : Cond.selects RX10 yX10_leaveCopy yX10_leaveCopy ∈ TB := tb_in 110 (by decide +kernel) rfl
theorem td_X10_putAside : yX10_putAside.cls ≠ "java/lang/invoke/MethodHandle" ∧ yX10_putAside.cls ≠ "java/lang/invoke/VarHandle" ∧ (parseMethodDescriptor yX10_putAside.desc).map (fun d => d.parameters.length) = some 0 := by decide +kernel
theorem tc_X10_putAside : Cond.code yX10_putAside cX10_putAside 2 none ∈ TB := tb_in 1875 (by decide +kernel) rfl
theorem tm_RX10_451 : Cond.methodLink RX10 451 yX10_putAside ∈ TB := tb_in 1872 (by decide +kernel) rfl
theorem ti_X10_putAside : Cond.instanceMethod yX10_putAside ∈ TB := tb_in 1874 (by decide +kernel) rfl
theorem ts_X10_putAside : Cond.selects RX10 yX10_putAside yX10_putAside ∈ TB := tb_in 116 (by decide +kernel) rfl
theorem td_X10_finishNow : yX10_finishNow.cls ≠ "java/lang/invoke/MethodHandle" ∧ yX10_finishNow.cls ≠ "java/lang/invoke/VarHandle" ∧ (parseMethodDescriptor yX10_finishNow.desc).map (fun d => d.parameters.length) = some 2 := by decide +kernel
theorem tc_X10_finishNow : Cond.code yX10_finishNow cX10_finishNow 7 (some .int) ∈ TB := tb_in 1773 (by decide +kernel) rfl
theorem tm_RX10_418 : Cond.methodLink RX10 418 yX10_finishNow ∈ TB := tb_in 1770 (by decide +kernel) rfl
theorem ti_X10_finishNow : Cond.instanceMethod yX10_finishNow ∈ TB := tb_in 1772 (by decide +kernel) rfl
theorem ts_X10_finishNow : Cond.selects RX10 yX10_finishNow yX10_finishNow ∈ TB := tb_in 109 (by decide +kernel) rfl
theorem td_X10_leadsAlike : yX10_leadsAlike.cls ≠ "java/lang/invoke/MethodHandle" ∧ yX10_leadsAlike.cls ≠ "java/lang/invoke/VarHandle" ∧ (parseMethodDescriptor yX10_leadsAlike.desc).map (fun d => d.parameters.length) = some 2 := by decide +kernel
theorem tc_X10_leadsAlike : Cond.code yX10_leadsAlike cX10_leadsAlike 5 (some .boolean) ∈ TB := tb_in 1960 (by decide +kernel) rfl
theorem tm_RX10_480 : Cond.methodLink RX10 480 yX10_leadsAlike ∈ TB := tb_in 1957 (by decide +kernel) rfl
theorem ti_X10_leadsAlike : Cond.instanceMethod yX10_leadsAlike ∈ TB := tb_in 1959 (by decide +kernel) rfl
theorem ts_X10_leadsAlike : Cond.selects RX10 yX10_leadsAlike yX10_leadsAlike ∈ TB := tb_in 126 (by decide +kernel) rfl
theorem td_X10_bringBack : yX10_bringBack.cls ≠ "java/lang/invoke/MethodHandle" ∧ yX10_bringBack.cls ≠ "java/lang/invoke/VarHandle" ∧ (parseMethodDescriptor yX10_bringBack.desc).map (fun d => d.parameters.length) = some 0 := by decide +kernel
theorem tc_X10_bringBack : Cond.code yX10_bringBack cX10_bringBack 2 none ∈ TB := tb_in 1879 (by decide +kernel) rfl
theorem tm_RX10_454 : Cond.methodLink RX10 454 yX10_bringBack ∈ TB := tb_in 1876 (by decide +kernel) rfl
theorem ti_X10_bringBack : Cond.instanceMethod yX10_bringBack ∈ TB := tb_in 1878 (by decide +kernel) rfl
theorem ts_X10_bringBack : Cond.selects RX10 yX10_bringBack yX10_bringBack ∈ TB := tb_in 117 (by decide +kernel) rfl
theorem td_X10_isAlikeBy : yX10_isAlikeBy.cls ≠ "java/lang/invoke/MethodHandle" ∧ yX10_isAlikeBy.cls ≠ "java/lang/invoke/VarHandle" ∧ (parseMethodDescriptor yX10_isAlikeBy.desc).map (fun d => d.parameters.length) = some 1 := by decide +kernel
theorem tc_X10_isAlikeBy : Cond.code yX10_isAlikeBy cX10_isAlikeBy 5 (some .boolean) ∈ TB := tb_in 1956 (by decide +kernel) rfl
theorem tm_RX10_483 : Cond.methodLink RX10 483 yX10_isAlikeBy ∈ TB := tb_in 1953 (by decide +kernel) rfl
theorem ti_X10_isAlikeBy : Cond.instanceMethod yX10_isAlikeBy ∈ TB := tb_in 1955 (by decide +kernel) rfl
theorem ts_X10_isAlikeBy : Cond.selects RX10 yX10_isAlikeBy yX10_isAlikeBy ∈ TB := tb_in 125 (by decide +kernel) rfl
theorem tk_RX10_304 : Cond.constantLong RX10 304 (733) ∈ TB := tb_in 1814 (by decide +kernel) rfl
theorem tk_RX10_306 : Cond.constantLong RX10 306 (599) ∈ TB := tb_in 1815 (by decide +kernel) rfl
theorem tk_RX10_308 : Cond.constantLong RX10 308 (31063) ∈ TB := tb_in 1816 (by decide +kernel) rfl
theorem td_X10_areThreadsBegun : yX10_areThreadsBegun.cls ≠ "java/lang/invoke/MethodHandle" ∧ yX10_areThreadsBegun.cls ≠ "java/lang/invoke/VarHandle" ∧ (parseMethodDescriptor yX10_areThreadsBegun.desc).map (fun d => d.parameters.length) = some 0 := by decide +kernel
theorem tc_X10_areThreadsBegun : Cond.code yX10_areThreadsBegun cX10_areThreadsBegun 1 (some .boolean) ∈ TB := tb_in 1663 (by decide +kernel) rfl
theorem tm_RX10_358 : Cond.methodLink RX10 358 yX10_areThreadsBegun ∈ TB := tb_in 1660 (by decide +kernel) rfl
theorem ti_X10_areThreadsBegun : Cond.instanceMethod yX10_areThreadsBegun ∈ TB := tb_in 1662 (by decide +kernel) rfl
theorem ts_X10_areThreadsBegun : Cond.selects RX10 yX10_areThreadsBegun yX10_areThreadsBegun ∈ TB := tb_in 89 (by decide +kernel) rfl
theorem tf_RX10_16 : Cond.fieldLink RX10 16 "ColouredHeapModel" "texts" "[I" ∈ TB := tb_in 1284 (by decide +kernel) rfl
theorem td_X10_isPlace : yX10_isPlace.cls ≠ "java/lang/invoke/MethodHandle" ∧ yX10_isPlace.cls ≠ "java/lang/invoke/VarHandle" ∧ (parseMethodDescriptor yX10_isPlace.desc).map (fun d => d.parameters.length) = some 1 := by decide +kernel
theorem tc_X10_isPlace : Cond.code yX10_isPlace cX10_isPlace 1 (some .boolean) ∈ TB := tb_in 1590 (by decide +kernel) rfl
theorem tm_RX10_63 : Cond.methodLink RX10 63 yX10_isPlace ∈ TB := tb_in 1588 (by decide +kernel) rfl
theorem tz_X10_isPlace : Cond.static yX10_isPlace ∈ TB := tb_in 1589 (by decide +kernel) rfl
theorem td_X10_isHead : yX10_isHead.cls ≠ "java/lang/invoke/MethodHandle" ∧ yX10_isHead.cls ≠ "java/lang/invoke/VarHandle" ∧ (parseMethodDescriptor yX10_isHead.desc).map (fun d => d.parameters.length) = some 1 := by decide +kernel
theorem tc_X10_isHead : Cond.code yX10_isHead cX10_isHead 2 (some .boolean) ∈ TB := tb_in 1587 (by decide +kernel) rfl
theorem tm_RX10_74 : Cond.methodLink RX10 74 yX10_isHead ∈ TB := tb_in 1584 (by decide +kernel) rfl
theorem ti_X10_isHead : Cond.instanceMethod yX10_isHead ∈ TB := tb_in 1586 (by decide +kernel) rfl
theorem ts_X10_isHead : Cond.selects RX10 yX10_isHead yX10_isHead ∈ TB := tb_in 75 (by decide +kernel) rfl
theorem tf_RX10_32 : Cond.fieldLink RX10 32 "ColouredHeapModel" "named" "[I" ∈ TB := tb_in 1302 (by decide +kernel) rfl
theorem td_X10_freePages : yX10_freePages.cls ≠ "java/lang/invoke/MethodHandle" ∧ yX10_freePages.cls ≠ "java/lang/invoke/VarHandle" ∧ (parseMethodDescriptor yX10_freePages.desc).map (fun d => d.parameters.length) = some 0 := by decide +kernel
theorem tc_X10_freePages : Cond.code yX10_freePages cX10_freePages 3 (some .int) ∈ TB := tb_in 1567 (by decide +kernel) rfl
theorem tm_RX10_285 : Cond.methodLink RX10 285 yX10_freePages ∈ TB := tb_in 1564 (by decide +kernel) rfl
theorem ti_X10_freePages : Cond.instanceMethod yX10_freePages ∈ TB := tb_in 1566 (by decide +kernel) rfl
theorem ts_X10_freePages : Cond.selects RX10 yX10_freePages yX10_freePages ∈ TB := tb_in 71 (by decide +kernel) rfl
theorem td_X10_bits : yX10_bits.cls ≠ "java/lang/invoke/MethodHandle" ∧ yX10_bits.cls ≠ "java/lang/invoke/VarHandle" ∧ (parseMethodDescriptor yX10_bits.desc).map (fun d => d.parameters.length) = some 1 := by decide +kernel
theorem tc_X10_bits : Cond.code yX10_bits cX10_bits 3 (some .int) ∈ TB := tb_in 1570 (by decide +kernel) rfl
theorem tm_RX10_288 : Cond.methodLink RX10 288 yX10_bits ∈ TB := tb_in 1568 (by decide +kernel) rfl
theorem tz_X10_bits : Cond.static yX10_bits ∈ TB := tb_in 1569 (by decide +kernel) rfl
theorem tk_RX10_264 : Cond.constantLong RX10 264 (8) ∈ TB := tb_in 1579 (by decide +kernel) rfl
theorem td_X10_liveOf : yX10_liveOf.cls ≠ "java/lang/invoke/MethodHandle" ∧ yX10_liveOf.cls ≠ "java/lang/invoke/VarHandle" ∧ (parseMethodDescriptor yX10_liveOf.desc).map (fun d => d.parameters.length) = some 1 := by decide +kernel
theorem tc_X10_liveOf : Cond.code yX10_liveOf cX10_liveOf 4 (some .int) ∈ TB := tb_in 1583 (by decide +kernel) rfl
theorem tm_RX10_266 : Cond.methodLink RX10 266 yX10_liveOf ∈ TB := tb_in 1580 (by decide +kernel) rfl
theorem ti_X10_liveOf : Cond.instanceMethod yX10_liveOf ∈ TB := tb_in 1582 (by decide +kernel) rfl
theorem ts_X10_liveOf : Cond.selects RX10 yX10_liveOf yX10_liveOf ∈ TB := tb_in 74 (by decide +kernel) rfl
theorem tk_RX10_256 : Cond.constantLong RX10 256 (1000000) ∈ TB := tb_in 1609 (by decide +kernel) rfl
theorem tk_RX10_258 : Cond.constantLong RX10 258 (-1000000) ∈ TB := tb_in 1610 (by decide +kernel) rfl
theorem td_X10_clip : yX10_clip.cls ≠ "java/lang/invoke/MethodHandle" ∧ yX10_clip.cls ≠ "java/lang/invoke/VarHandle" ∧ (parseMethodDescriptor yX10_clip.desc).map (fun d => d.parameters.length) = some 1 := by decide +kernel
theorem tc_X10_clip : Cond.code yX10_clip cX10_clip 2 (some .long) ∈ TB := tb_in 1608 (by decide +kernel) rfl
theorem tm_RX10_260 : Cond.methodLink RX10 260 yX10_clip ∈ TB := tb_in 1606 (by decide +kernel) rfl
theorem tz_X10_clip : Cond.static yX10_clip ∈ TB := tb_in 1607 (by decide +kernel) rfl
theorem tf_RX10_39 : Cond.fieldLink RX10 39 "ColouredHeapModel" "truth" "[Z" ∈ TB := tb_in 1304 (by decide +kernel) rfl
theorem td_X10_joined : yX10_joined.cls ≠ "java/lang/invoke/MethodHandle" ∧ yX10_joined.cls ≠ "java/lang/invoke/VarHandle" ∧ (parseMethodDescriptor yX10_joined.desc).map (fun d => d.parameters.length) = some 3 := by decide +kernel
theorem tc_X10_joined : Cond.code yX10_joined cX10_joined 3 (some .boolean) ∈ TB := tb_in 1616 (by decide +kernel) rfl
theorem tm_RX10_281 : Cond.methodLink RX10 281 yX10_joined ∈ TB := tb_in 1614 (by decide +kernel) rfl
theorem tz_X10_joined : Cond.static yX10_joined ∈ TB := tb_in 1615 (by decide +kernel) rfl
theorem tf_RX10_35 : Cond.fieldLink RX10 35 "ColouredHeapModel" "values" "[J" ∈ TB := tb_in 1303 (by decide +kernel) rfl
theorem td_X10_isAsked : yX10_isAsked.cls ≠ "java/lang/invoke/MethodHandle" ∧ yX10_isAsked.cls ≠ "java/lang/invoke/VarHandle" ∧ (parseMethodDescriptor yX10_isAsked.desc).map (fun d => d.parameters.length) = some 3 := by decide +kernel
theorem tc_X10_isAsked : Cond.code yX10_isAsked cX10_isAsked 5 (some .boolean) ∈ TB := tb_in 1613 (by decide +kernel) rfl
theorem tm_RX10_277 : Cond.methodLink RX10 277 yX10_isAsked ∈ TB := tb_in 1611 (by decide +kernel) rfl
theorem tz_X10_isAsked : Cond.static yX10_isAsked ∈ TB := tb_in 1612 (by decide +kernel) rfl
theorem td_X10_two : yX10_two.cls ≠ "java/lang/invoke/MethodHandle" ∧ yX10_two.cls ≠ "java/lang/invoke/VarHandle" ∧ (parseMethodDescriptor yX10_two.desc).map (fun d => d.parameters.length) = some 3 := by decide +kernel
theorem tc_X10_two : Cond.code yX10_two cX10_two 5 (some .long) ∈ TB := tb_in 1605 (by decide +kernel) rfl
theorem tm_RX10_273 : Cond.methodLink RX10 273 yX10_two ∈ TB := tb_in 1603 (by decide +kernel) rfl
theorem tz_X10_two : Cond.static yX10_two ∈ TB := tb_in 1604 (by decide +kernel) rfl
theorem td_X10_ofOne : yX10_ofOne.cls ≠ "java/lang/invoke/MethodHandle" ∧ yX10_ofOne.cls ≠ "java/lang/invoke/VarHandle" ∧ (parseMethodDescriptor yX10_ofOne.desc).map (fun d => d.parameters.length) = some 2 := by decide +kernel
theorem tc_X10_ofOne : Cond.code yX10_ofOne cX10_ofOne 4 (some .long) ∈ TB := tb_in 1578 (by decide +kernel) rfl
theorem tm_RX10_269 : Cond.methodLink RX10 269 yX10_ofOne ∈ TB := tb_in 1575 (by decide +kernel) rfl
theorem ti_X10_ofOne : Cond.instanceMethod yX10_ofOne ∈ TB := tb_in 1577 (by decide +kernel) rfl
theorem ts_X10_ofOne : Cond.selects RX10 yX10_ofOne yX10_ofOne ∈ TB := tb_in 73 (by decide +kernel) rfl
theorem td_X10_clauseOf : yX10_clauseOf.cls ≠ "java/lang/invoke/MethodHandle" ∧ yX10_clauseOf.cls ≠ "java/lang/invoke/VarHandle" ∧ (parseMethodDescriptor yX10_clauseOf.desc).map (fun d => d.parameters.length) = some 2 := by decide +kernel
theorem tc_X10_clauseOf : Cond.code yX10_clauseOf cX10_clauseOf 4 (some .int) ∈ TB := tb_in 1559 (by decide +kernel) rfl
theorem tm_RX10_291 : Cond.methodLink RX10 291 yX10_clauseOf ∈ TB := tb_in 1556 (by decide +kernel) rfl
theorem ti_X10_clauseOf : Cond.instanceMethod yX10_clauseOf ∈ TB := tb_in 1558 (by decide +kernel) rfl
theorem ts_X10_clauseOf : Cond.selects RX10 yX10_clauseOf yX10_clauseOf ∈ TB := tb_in 69 (by decide +kernel) rfl
theorem td_X10_name : yX10_name.cls ≠ "java/lang/invoke/MethodHandle" ∧ yX10_name.cls ≠ "java/lang/invoke/VarHandle" ∧ (parseMethodDescriptor yX10_name.desc).map (fun d => d.parameters.length) = some 0 := by decide +kernel
theorem tc_X10_name : Cond.code yX10_name cX10_name 1 none ∈ TB := tb_in 1563 (by decide +kernel) rfl
theorem tm_RX10_294 : Cond.methodLink RX10 294 yX10_name ∈ TB := tb_in 1560 (by decide +kernel) rfl
theorem ti_X10_name : Cond.instanceMethod yX10_name ∈ TB := tb_in 1562 (by decide +kernel) rfl
theorem ts_X10_name : Cond.selects RX10 yX10_name yX10_name ∈ TB := tb_in 70 (by decide +kernel) rfl
theorem td_X10_summedUp : yX10_summedUp.cls ≠ "java/lang/invoke/MethodHandle" ∧ yX10_summedUp.cls ≠ "java/lang/invoke/VarHandle" ∧ (parseMethodDescriptor yX10_summedUp.desc).map (fun d => d.parameters.length) = some 2 := by decide +kernel
theorem tc_X10_summedUp : Cond.code yX10_summedUp cX10_summedUp 10 (some .long) ∈ TB := tb_in 1574 (by decide +kernel) rfl
theorem tm_RX10_297 : Cond.methodLink RX10 297 yX10_summedUp ∈ TB := tb_in 1571 (by decide +kernel) rfl
theorem ti_X10_summedUp : Cond.instanceMethod yX10_summedUp ∈ TB := tb_in 1573 (by decide +kernel) rfl
theorem ts_X10_summedUp : Cond.selects RX10 yX10_summedUp yX10_summedUp ∈ TB := tb_in 72 (by decide +kernel) rfl
theorem td_X10_hasRoom : yX10_hasRoom.cls ≠ "java/lang/invoke/MethodHandle" ∧ yX10_hasRoom.cls ≠ "java/lang/invoke/VarHandle" ∧ (parseMethodDescriptor yX10_hasRoom.desc).map (fun d => d.parameters.length) = some 2 := by decide +kernel
theorem tc_X10_hasRoom : Cond.code yX10_hasRoom cX10_hasRoom 3 (some .boolean) ∈ TB := tb_in 1547 (by decide +kernel) rfl
theorem tm_RX10_337 : Cond.methodLink RX10 337 yX10_hasRoom ∈ TB := tb_in 1544 (by decide +kernel) rfl
theorem ti_X10_hasRoom : Cond.instanceMethod yX10_hasRoom ∈ TB := tb_in 1546 (by decide +kernel) rfl
theorem ts_X10_hasRoom : Cond.selects RX10 yX10_hasRoom yX10_hasRoom ∈ TB := tb_in 66 (by decide +kernel) rfl
theorem td_X10_canMend : yX10_canMend.cls ≠ "java/lang/invoke/MethodHandle" ∧ yX10_canMend.cls ≠ "java/lang/invoke/VarHandle" ∧ (parseMethodDescriptor yX10_canMend.desc).map (fun d => d.parameters.length) = some 1 := by decide +kernel
theorem tc_X10_canMend : Cond.code yX10_canMend cX10_canMend 2 (some .boolean) ∈ TB := tb_in 1722 (by decide +kernel) rfl
theorem tm_RX10_346 : Cond.methodLink RX10 346 yX10_canMend ∈ TB := tb_in 1719 (by decide +kernel) rfl
theorem ti_X10_canMend : Cond.instanceMethod yX10_canMend ∈ TB := tb_in 1721 (by decide +kernel) rfl
theorem ts_X10_canMend : Cond.selects RX10 yX10_canMend yX10_canMend ∈ TB := tb_in 103 (by decide +kernel) rfl
theorem td_X10_isCandidate : yX10_isCandidate.cls ≠ "java/lang/invoke/MethodHandle" ∧ yX10_isCandidate.cls ≠ "java/lang/invoke/VarHandle" ∧ (parseMethodDescriptor yX10_isCandidate.desc).map (fun d => d.parameters.length) = some 1 := by decide +kernel
theorem tc_X10_isCandidate : Cond.code yX10_isCandidate cX10_isCandidate 2 (some .boolean) ∈ TB := tb_in 1710 (by decide +kernel) rfl
theorem tm_RX10_364 : Cond.methodLink RX10 364 yX10_isCandidate ∈ TB := tb_in 1707 (by decide +kernel) rfl
theorem ti_X10_isCandidate : Cond.instanceMethod yX10_isCandidate ∈ TB := tb_in 1709 (by decide +kernel) rfl
theorem ts_X10_isCandidate : Cond.selects RX10 yX10_isCandidate yX10_isCandidate ∈ TB := tb_in 100 (by decide +kernel) rfl
theorem td_X10_freePage : yX10_freePage.cls ≠ "java/lang/invoke/MethodHandle" ∧ yX10_freePage.cls ≠ "java/lang/invoke/VarHandle" ∧ (parseMethodDescriptor yX10_freePage.desc).map (fun d => d.parameters.length) = some 1 := by decide +kernel
theorem tc_X10_freePage : Cond.code yX10_freePage cX10_freePage 3 none ∈ TB := tb_in 1671 (by decide +kernel) rfl
theorem tm_RX10_367 : Cond.methodLink RX10 367 yX10_freePage ∈ TB := tb_in 1668 (by decide +kernel) rfl
theorem ti_X10_freePage : Cond.instanceMethod yX10_freePage ∈ TB := tb_in 1670 (by decide +kernel) rfl
theorem ts_X10_freePage : Cond.selects RX10 yX10_freePage yX10_freePage ∈ TB := tb_in 91 (by decide +kernel) rfl
theorem td_X10_doesPick : yX10_doesPick.cls ≠ "java/lang/invoke/MethodHandle" ∧ yX10_doesPick.cls ≠ "java/lang/invoke/VarHandle" ∧ (parseMethodDescriptor yX10_doesPick.desc).map (fun d => d.parameters.length) = some 2 := by decide +kernel
theorem tc_X10_doesPick : Cond.code yX10_doesPick cX10_doesPick 5 (some .boolean) ∈ TB := tb_in 1714 (by decide +kernel) rfl
theorem tm_RX10_370 : Cond.methodLink RX10 370 yX10_doesPick ∈ TB := tb_in 1711 (by decide +kernel) rfl
theorem ti_X10_doesPick : Cond.instanceMethod yX10_doesPick ∈ TB := tb_in 1713 (by decide +kernel) rfl
theorem ts_X10_doesPick : Cond.selects RX10 yX10_doesPick yX10_doesPick ∈ TB := tb_in 101 (by decide +kernel) rfl
theorem td_X10_has : yX10_has.cls ≠ "java/lang/invoke/MethodHandle" ∧ yX10_has.cls ≠ "java/lang/invoke/VarHandle" ∧ (parseMethodDescriptor yX10_has.desc).map (fun d => d.parameters.length) = some 2 := by decide +kernel
theorem tc_X10_has : Cond.code yX10_has cX10_has 2 (some .boolean) ∈ TB := tb_in 1434 (by decide +kernel) rfl
theorem tm_RX10_242 : Cond.methodLink RX10 242 yX10_has ∈ TB := tb_in 1432 (by decide +kernel) rfl
theorem tz_X10_has : Cond.static yX10_has ∈ TB := tb_in 1433 (by decide +kernel) rfl
theorem td_X10_mendRoots : yX10_mendRoots.cls ≠ "java/lang/invoke/MethodHandle" ∧ yX10_mendRoots.cls ≠ "java/lang/invoke/VarHandle" ∧ (parseMethodDescriptor yX10_mendRoots.desc).map (fun d => d.parameters.length) = some 0 := by decide +kernel
theorem tc_X10_mendRoots : Cond.code yX10_mendRoots cX10_mendRoots 2 none ∈ TB := tb_in 1718 (by decide +kernel) rfl
theorem tm_RX10_361 : Cond.methodLink RX10 361 yX10_mendRoots ∈ TB := tb_in 1715 (by decide +kernel) rfl
theorem ti_X10_mendRoots : Cond.instanceMethod yX10_mendRoots ∈ TB := tb_in 1717 (by decide +kernel) rfl
theorem ts_X10_mendRoots : Cond.selects RX10 yX10_mendRoots yX10_mendRoots ∈ TB := tb_in 102 (by decide +kernel) rfl
theorem td_X10_mendWord : yX10_mendWord.cls ≠ "java/lang/invoke/MethodHandle" ∧ yX10_mendWord.cls ≠ "java/lang/invoke/VarHandle" ∧ (parseMethodDescriptor yX10_mendWord.desc).map (fun d => d.parameters.length) = some 1 := by decide +kernel
theorem tc_X10_mendWord : Cond.code yX10_mendWord cX10_mendWord 3 none ∈ TB := tb_in 1679 (by decide +kernel) rfl
theorem tm_RX10_355 : Cond.methodLink RX10 355 yX10_mendWord ∈ TB := tb_in 1676 (by decide +kernel) rfl
theorem ti_X10_mendWord : Cond.instanceMethod yX10_mendWord ∈ TB := tb_in 1678 (by decide +kernel) rfl
theorem ts_X10_mendWord : Cond.selects RX10 yX10_mendWord yX10_mendWord ∈ TB := tb_in 93 (by decide +kernel) rfl
theorem td_X10_nextMove : yX10_nextMove.cls ≠ "java/lang/invoke/MethodHandle" ∧ yX10_nextMove.cls ≠ "java/lang/invoke/VarHandle" ∧ (parseMethodDescriptor yX10_nextMove.desc).map (fun d => d.parameters.length) = some 0 := by decide +kernel
theorem tc_X10_nextMove : Cond.code yX10_nextMove cX10_nextMove 2 (some .int) ∈ TB := tb_in 1647 (by decide +kernel) rfl
theorem tm_RX10_373 : Cond.methodLink RX10 373 yX10_nextMove ∈ TB := tb_in 1644 (by decide +kernel) rfl
theorem ti_X10_nextMove : Cond.instanceMethod yX10_nextMove ∈ TB := tb_in 1646 (by decide +kernel) rfl
theorem ts_X10_nextMove : Cond.selects RX10 yX10_nextMove yX10_nextMove ∈ TB := tb_in 85 (by decide +kernel) rfl
theorem td_X10_canChoose : yX10_canChoose.cls ≠ "java/lang/invoke/MethodHandle" ∧ yX10_canChoose.cls ≠ "java/lang/invoke/VarHandle" ∧ (parseMethodDescriptor yX10_canChoose.desc).map (fun d => d.parameters.length) = some 0 := by decide +kernel
theorem tc_X10_canChoose : Cond.code yX10_canChoose cX10_canChoose 1 (some .boolean) ∈ TB := tb_in 1702 (by decide +kernel) rfl
theorem tm_RX10_382 : Cond.methodLink RX10 382 yX10_canChoose ∈ TB := tb_in 1699 (by decide +kernel) rfl
theorem ti_X10_canChoose : Cond.instanceMethod yX10_canChoose ∈ TB := tb_in 1701 (by decide +kernel) rfl
theorem ts_X10_canChoose : Cond.selects RX10 yX10_canChoose yX10_canChoose ∈ TB := tb_in 98 (by decide +kernel) rfl
theorem td_X10_canStart : yX10_canStart.cls ≠ "java/lang/invoke/MethodHandle" ∧ yX10_canStart.cls ≠ "java/lang/invoke/VarHandle" ∧ (parseMethodDescriptor yX10_canStart.desc).map (fun d => d.parameters.length) = some 0 := by decide +kernel
theorem tc_X10_canStart : Cond.code yX10_canStart cX10_canStart 1 (some .boolean) ∈ TB := tb_in 1726 (by decide +kernel) rfl
theorem tm_RX10_388 : Cond.methodLink RX10 388 yX10_canStart ∈ TB := tb_in 1723 (by decide +kernel) rfl
theorem ti_X10_canStart : Cond.instanceMethod yX10_canStart ∈ TB := tb_in 1725 (by decide +kernel) rfl
theorem ts_X10_canStart : Cond.selects RX10 yX10_canStart yX10_canStart ∈ TB := tb_in 104 (by decide +kernel) rfl
theorem td_X10_startNow : yX10_startNow.cls ≠ "java/lang/invoke/MethodHandle" ∧ yX10_startNow.cls ≠ "java/lang/invoke/VarHandle" ∧ (parseMethodDescriptor yX10_startNow.desc).map (fun d => d.parameters.length) = some 0 := by decide +kernel
theorem tc_X10_startNow : Cond.code yX10_startNow cX10_startNow 2 none ∈ TB := tb_in 1730 (by decide +kernel) rfl
theorem tm_RX10_391 : Cond.methodLink RX10 391 yX10_startNow ∈ TB := tb_in 1727 (by decide +kernel) rfl
theorem ti_X10_startNow : Cond.instanceMethod yX10_startNow ∈ TB := tb_in 1729 (by decide +kernel) rfl
theorem ts_X10_startNow : Cond.selects RX10 yX10_startNow yX10_startNow ∈ TB := tb_in 105 (by decide +kernel) rfl
theorem td_X10_chooseNow : yX10_chooseNow.cls ≠ "java/lang/invoke/MethodHandle" ∧ yX10_chooseNow.cls ≠ "java/lang/invoke/VarHandle" ∧ (parseMethodDescriptor yX10_chooseNow.desc).map (fun d => d.parameters.length) = some 0 := by decide +kernel
theorem tc_X10_chooseNow : Cond.code yX10_chooseNow cX10_chooseNow 5 (some .int) ∈ TB := tb_in 1706 (by decide +kernel) rfl
theorem tm_RX10_385 : Cond.methodLink RX10 385 yX10_chooseNow ∈ TB := tb_in 1703 (by decide +kernel) rfl
theorem ti_X10_chooseNow : Cond.instanceMethod yX10_chooseNow ∈ TB := tb_in 1705 (by decide +kernel) rfl
theorem ts_X10_chooseNow : Cond.selects RX10 yX10_chooseNow yX10_chooseNow ∈ TB := tb_in 99 (by decide +kernel) rfl
theorem td_X10_markNow : yX10_markNow.cls ≠ "java/lang/invoke/MethodHandle" ∧ yX10_markNow.cls ≠ "java/lang/invoke/VarHandle" ∧ (parseMethodDescriptor yX10_markNow.desc).map (fun d => d.parameters.length) = some 0 := by decide +kernel
theorem tc_X10_markNow : Cond.code yX10_markNow cX10_markNow 3 none ∈ TB := tb_in 1675 (by decide +kernel) rfl
theorem tm_RX10_379 : Cond.methodLink RX10 379 yX10_markNow ∈ TB := tb_in 1672 (by decide +kernel) rfl
theorem ti_X10_markNow : Cond.instanceMethod yX10_markNow ∈ TB := tb_in 1674 (by decide +kernel) rfl
theorem ts_X10_markNow : Cond.selects RX10 yX10_markNow yX10_markNow ∈ TB := tb_in 92 (by decide +kernel) rfl
theorem td_X10_oneMove : yX10_oneMove.cls ≠ "java/lang/invoke/MethodHandle" ∧ yX10_oneMove.cls ≠ "java/lang/invoke/VarHandle" ∧ (parseMethodDescriptor yX10_oneMove.desc).map (fun d => d.parameters.length) = some 0 := by decide +kernel
theorem tc_X10_oneMove : Cond.code yX10_oneMove cX10_oneMove 3 none ∈ TB := tb_in 1643 (by decide +kernel) rfl
theorem tm_RX10_376 : Cond.methodLink RX10 376 yX10_oneMove ∈ TB := tb_in 1640 (by decide +kernel) rfl
theorem ti_X10_oneMove : Cond.instanceMethod yX10_oneMove ∈ TB := tb_in 1642 (by decide +kernel) rfl
theorem ts_X10_oneMove : Cond.selects RX10 yX10_oneMove yX10_oneMove ∈ TB := tb_in 84 (by decide +kernel) rfl
theorem td_X10_keep : yX10_keep.cls ≠ "java/lang/invoke/MethodHandle" ∧ yX10_keep.cls ≠ "java/lang/invoke/VarHandle" ∧ (parseMethodDescriptor yX10_keep.desc).map (fun d => d.parameters.length) = some 0 := by decide +kernel
theorem tc_X10_keep : Cond.code yX10_keep cX10_keep 2 none ∈ TB := tb_in 1623 (by decide +kernel) rfl
theorem tm_RX10_397 : Cond.methodLink RX10 397 yX10_keep ∈ TB := tb_in 1620 (by decide +kernel) rfl
theorem ti_X10_keep : Cond.instanceMethod yX10_keep ∈ TB := tb_in 1622 (by decide +kernel) rfl
theorem ts_X10_keep : Cond.selects RX10 yX10_keep yX10_keep ∈ TB := tb_in 79 (by decide +kernel) rfl
theorem td_X10_tick : yX10_tick.cls ≠ "java/lang/invoke/MethodHandle" ∧ yX10_tick.cls ≠ "java/lang/invoke/VarHandle" ∧ (parseMethodDescriptor yX10_tick.desc).map (fun d => d.parameters.length) = some 0 := by decide +kernel
theorem tc_X10_tick : Cond.code yX10_tick cX10_tick 1 none ∈ TB := tb_in 1639 (by decide +kernel) rfl
theorem tm_RX10_403 : Cond.methodLink RX10 403 yX10_tick ∈ TB := tb_in 1636 (by decide +kernel) rfl
theorem ti_X10_tick : Cond.instanceMethod yX10_tick ∈ TB := tb_in 1638 (by decide +kernel) rfl
theorem ts_X10_tick : Cond.selects RX10 yX10_tick yX10_tick ∈ TB := tb_in 83 (by decide +kernel) rfl
theorem tf_RX10_13 : Cond.fieldLink RX10 13 "ColouredHeapModel" "image" "[I" ∈ TB := tb_in 1283 (by decide +kernel) rfl
theorem td_X10_layRow : yX10_layRow.cls ≠ "java/lang/invoke/MethodHandle" ∧ yX10_layRow.cls ≠ "java/lang/invoke/VarHandle" ∧ (parseMethodDescriptor yX10_layRow.desc).map (fun d => d.parameters.length) = some 2 := by decide +kernel
theorem tc_X10_layRow : Cond.code yX10_layRow cX10_layRow 3 none ∈ TB := tb_in 1281 (by decide +kernel) rfl
theorem tm_RX10_55 : Cond.methodLink RX10 55 yX10_layRow ∈ TB := tb_in 1279 (by decide +kernel) rfl
theorem tz_X10_layRow : Cond.static yX10_layRow ∈ TB := tb_in 1280 (by decide +kernel) rfl
theorem td_X10_isRoot : yX10_isRoot.cls ≠ "java/lang/invoke/MethodHandle" ∧ yX10_isRoot.cls ≠ "java/lang/invoke/VarHandle" ∧ (parseMethodDescriptor yX10_isRoot.desc).map (fun d => d.parameters.length) = some 1 := by decide +kernel
theorem tc_X10_isRoot : Cond.code yX10_isRoot cX10_isRoot 1 (some .boolean) ∈ TB := tb_in 1543 (by decide +kernel) rfl
theorem tm_RX10_349 : Cond.methodLink RX10 349 yX10_isRoot ∈ TB := tb_in 1541 (by decide +kernel) rfl
theorem tz_X10_isRoot : Cond.static yX10_isRoot ∈ TB := tb_in 1542 (by decide +kernel) rfl
theorem td_X10_fieldAt : yX10_fieldAt.cls ≠ "java/lang/invoke/MethodHandle" ∧ yX10_fieldAt.cls ≠ "java/lang/invoke/VarHandle" ∧ (parseMethodDescriptor yX10_fieldAt.desc).map (fun d => d.parameters.length) = some 2 := by decide +kernel
theorem tc_X10_fieldAt : Cond.code yX10_fieldAt cX10_fieldAt 4 (some .int) ∈ TB := tb_in 1742 (by decide +kernel) rfl
theorem tm_RX10_352 : Cond.methodLink RX10 352 yX10_fieldAt ∈ TB := tb_in 1739 (by decide +kernel) rfl
theorem ti_X10_fieldAt : Cond.instanceMethod yX10_fieldAt ∈ TB := tb_in 1741 (by decide +kernel) rfl
theorem ts_X10_fieldAt : Cond.selects RX10 yX10_fieldAt yX10_fieldAt ∈ TB := tb_in 107 (by decide +kernel) rfl
theorem td_X10_isThread : yX10_isThread.cls ≠ "java/lang/invoke/MethodHandle" ∧ yX10_isThread.cls ≠ "java/lang/invoke/VarHandle" ∧ (parseMethodDescriptor yX10_isThread.desc).map (fun d => d.parameters.length) = some 1 := by decide +kernel
theorem tc_X10_isThread : Cond.code yX10_isThread cX10_isThread 1 (some .boolean) ∈ TB := tb_in 1765 (by decide +kernel) rfl
theorem tm_RX10_412 : Cond.methodLink RX10 412 yX10_isThread ∈ TB := tb_in 1763 (by decide +kernel) rfl
theorem tz_X10_isThread : Cond.static yX10_isThread ∈ TB := tb_in 1764 (by decide +kernel) rfl
theorem tf_RX10_137 : Cond.fieldLink RX10 137 "ColouredHeapModel" "text0" "I" ∈ TB := tb_in 1294 (by decide +kernel) rfl
theorem tf_RX10_140 : Cond.fieldLink RX10 140 "ColouredHeapModel" "written" "I" ∈ TB := tb_in 1295 (by decide +kernel) rfl
theorem tf_RX10_150 : Cond.fieldLink RX10 150 "ColouredHeapModel" "piled" "I" ∈ TB := tb_in 1298 (by decide +kernel) rfl
theorem tf_RX10_29 : Cond.fieldLink RX10 29 "ColouredHeapModel" "pile" "[I" ∈ TB := tb_in 1297 (by decide +kernel) rfl
theorem td_X10_openAt : yX10_openAt.cls ≠ "java/lang/invoke/MethodHandle" ∧ yX10_openAt.cls ≠ "java/lang/invoke/VarHandle" ∧ (parseMethodDescriptor yX10_openAt.desc).map (fun d => d.parameters.length) = some 0 := by decide +kernel
theorem tc_X10_openAt : Cond.code yX10_openAt cX10_openAt 2 (some .int) ∈ TB := tb_in 1478 (by decide +kernel) rfl
theorem tm_RX10_163 : Cond.methodLink RX10 163 yX10_openAt ∈ TB := tb_in 1475 (by decide +kernel) rfl
theorem ti_X10_openAt : Cond.instanceMethod yX10_openAt ∈ TB := tb_in 1477 (by decide +kernel) rfl
theorem ts_X10_openAt : Cond.selects RX10 yX10_openAt yX10_openAt ∈ TB := tb_in 55 (by decide +kernel) rfl
theorem td_X10_openNow : yX10_openNow.cls ≠ "java/lang/invoke/MethodHandle" ∧ yX10_openNow.cls ≠ "java/lang/invoke/VarHandle" ∧ (parseMethodDescriptor yX10_openNow.desc).map (fun d => d.parameters.length) = some 0 := by decide +kernel
theorem tc_X10_openNow : Cond.code yX10_openNow cX10_openNow 1 (some .int) ∈ TB := tb_in 1474 (by decide +kernel) rfl
theorem tm_RX10_167 : Cond.methodLink RX10 167 yX10_openNow ∈ TB := tb_in 1471 (by decide +kernel) rfl
theorem ti_X10_openNow : Cond.instanceMethod yX10_openNow ∈ TB := tb_in 1473 (by decide +kernel) rfl
theorem ts_X10_openNow : Cond.selects RX10 yX10_openNow yX10_openNow ∈ TB := tb_in 54 (by decide +kernel) rfl
theorem td_X10_rank : yX10_rank.cls ≠ "java/lang/invoke/MethodHandle" ∧ yX10_rank.cls ≠ "java/lang/invoke/VarHandle" ∧ (parseMethodDescriptor yX10_rank.desc).map (fun d => d.parameters.length) = some 1 := by decide +kernel
theorem tc_X10_rank : Cond.code yX10_rank cX10_rank 1 (some .int) ∈ TB := tb_in 1485 (by decide +kernel) rfl
theorem tm_RX10_153 : Cond.methodLink RX10 153 yX10_rank ∈ TB := tb_in 1483 (by decide +kernel) rfl
theorem tz_X10_rank : Cond.static yX10_rank ∈ TB := tb_in 1484 (by decide +kernel) rfl
theorem tf_RX10_147 : Cond.fieldLink RX10 147 "ColouredHeapModel" "sort0" "I" ∈ TB := tb_in 1296 (by decide +kernel) rfl
theorem tf_RX10_99 : Cond.fieldLink RX10 99 "ColouredHeapModel" "token" "I" ∈ TB := tb_in 1291 (by decide +kernel) rfl
theorem tf_RX10_112 : Cond.fieldLink RX10 112 "ColouredHeapModel" "word" "J" ∈ TB := tb_in 1293 (by decide +kernel) rfl
theorem td_X10_w2 : yX10_w2.cls ≠ "java/lang/invoke/MethodHandle" ∧ yX10_w2.cls ≠ "java/lang/invoke/VarHandle" ∧ (parseMethodDescriptor yX10_w2.desc).map (fun d => d.parameters.length) = some 2 := by decide +kernel
theorem tc_X10_w2 : Cond.code yX10_w2 cX10_w2 2 (some .long) ∈ TB := tb_in 1427 (by decide +kernel) rfl
theorem tm_RX10_121 : Cond.methodLink RX10 121 yX10_w2 ∈ TB := tb_in 1425 (by decide +kernel) rfl
theorem tz_X10_w2 : Cond.static yX10_w2 ∈ TB := tb_in 1426 (by decide +kernel) rfl
theorem td_X10_w3 : yX10_w3.cls ≠ "java/lang/invoke/MethodHandle" ∧ yX10_w3.cls ≠ "java/lang/invoke/VarHandle" ∧ (parseMethodDescriptor yX10_w3.desc).map (fun d => d.parameters.length) = some 3 := by decide +kernel
theorem tc_X10_w3 : Cond.code yX10_w3 cX10_w3 3 (some .long) ∈ TB := tb_in 1424 (by decide +kernel) rfl
theorem tm_RX10_125 : Cond.methodLink RX10 125 yX10_w3 ∈ TB := tb_in 1422 (by decide +kernel) rfl
theorem tz_X10_w3 : Cond.static yX10_w3 ∈ TB := tb_in 1423 (by decide +kernel) rfl
theorem td_X10_w4 : yX10_w4.cls ≠ "java/lang/invoke/MethodHandle" ∧ yX10_w4.cls ≠ "java/lang/invoke/VarHandle" ∧ (parseMethodDescriptor yX10_w4.desc).map (fun d => d.parameters.length) = some 4 := by decide +kernel
theorem tc_X10_w4 : Cond.code yX10_w4 cX10_w4 4 (some .long) ∈ TB := tb_in 1421 (by decide +kernel) rfl
theorem tm_RX10_129 : Cond.methodLink RX10 129 yX10_w4 ∈ TB := tb_in 1419 (by decide +kernel) rfl
theorem tz_X10_w4 : Cond.static yX10_w4 ∈ TB := tb_in 1420 (by decide +kernel) rfl
theorem td_X10_w5 : yX10_w5.cls ≠ "java/lang/invoke/MethodHandle" ∧ yX10_w5.cls ≠ "java/lang/invoke/VarHandle" ∧ (parseMethodDescriptor yX10_w5.desc).map (fun d => d.parameters.length) = some 5 := by decide +kernel
theorem tc_X10_w5 : Cond.code yX10_w5 cX10_w5 5 (some .long) ∈ TB := tb_in 1418 (by decide +kernel) rfl
theorem tm_RX10_133 : Cond.methodLink RX10 133 yX10_w5 ∈ TB := tb_in 1416 (by decide +kernel) rfl
theorem tz_X10_w5 : Cond.static yX10_w5 ∈ TB := tb_in 1417 (by decide +kernel) rfl
theorem td_X10_w6 : yX10_w6.cls ≠ "java/lang/invoke/MethodHandle" ∧ yX10_w6.cls ≠ "java/lang/invoke/VarHandle" ∧ (parseMethodDescriptor yX10_w6.desc).map (fun d => d.parameters.length) = some 6 := by decide +kernel
theorem tc_X10_w6 : Cond.code yX10_w6 cX10_w6 6 (some .long) ∈ TB := tb_in 1512 (by decide +kernel) rfl
theorem tm_RX10_143 : Cond.methodLink RX10 143 yX10_w6 ∈ TB := tb_in 1510 (by decide +kernel) rfl
theorem tz_X10_w6 : Cond.static yX10_w6 ∈ TB := tb_in 1511 (by decide +kernel) rfl
theorem tf_RX10_19 : Cond.fieldLink RX10 19 "ColouredHeapModel" "tape" "[I" ∈ TB := tb_in 1285 (by decide +kernel) rfl
theorem tf_RX10_90 : Cond.fieldLink RX10 90 "ColouredHeapModel" "cursor" "I" ∈ TB := tb_in 1289 (by decide +kernel) rfl
theorem td_X10_byteAt : yX10_byteAt.cls ≠ "java/lang/invoke/MethodHandle" ∧ yX10_byteAt.cls ≠ "java/lang/invoke/VarHandle" ∧ (parseMethodDescriptor yX10_byteAt.desc).map (fun d => d.parameters.length) = some 1 := by decide +kernel
theorem tc_X10_byteAt : Cond.code yX10_byteAt cX10_byteAt 2 (some .int) ∈ TB := tb_in 1396 (by decide +kernel) rfl
theorem tm_RX10_93 : Cond.methodLink RX10 93 yX10_byteAt ∈ TB := tb_in 1393 (by decide +kernel) rfl
theorem ti_X10_byteAt : Cond.instanceMethod yX10_byteAt ∈ TB := tb_in 1395 (by decide +kernel) rfl
theorem ts_X10_byteAt : Cond.selects RX10 yX10_byteAt yX10_byteAt ∈ TB := tb_in 41 (by decide +kernel) rfl
theorem tf_RX10_96 : Cond.fieldLink RX10 96 "ColouredHeapModel" "place" "I" ∈ TB := tb_in 1290 (by decide +kernel) rfl
theorem td_X10_isFigure : yX10_isFigure.cls ≠ "java/lang/invoke/MethodHandle" ∧ yX10_isFigure.cls ≠ "java/lang/invoke/VarHandle" ∧ (parseMethodDescriptor yX10_isFigure.desc).map (fun d => d.parameters.length) = some 1 := by decide +kernel
theorem tc_X10_isFigure : Cond.code yX10_isFigure cX10_isFigure 1 (some .boolean) ∈ TB := tb_in 1399 (by decide +kernel) rfl
theorem tm_RX10_102 : Cond.methodLink RX10 102 yX10_isFigure ∈ TB := tb_in 1397 (by decide +kernel) rfl
theorem tz_X10_isFigure : Cond.static yX10_isFigure ∈ TB := tb_in 1398 (by decide +kernel) rfl
theorem td_X10_isLetterByte : yX10_isLetterByte.cls ≠ "java/lang/invoke/MethodHandle" ∧ yX10_isLetterByte.cls ≠ "java/lang/invoke/VarHandle" ∧ (parseMethodDescriptor yX10_isLetterByte.desc).map (fun d => d.parameters.length) = some 1 := by decide +kernel
theorem tc_X10_isLetterByte : Cond.code yX10_isLetterByte cX10_isLetterByte 1 (some .boolean) ∈ TB := tb_in 1403 (by decide +kernel) rfl
theorem tm_RX10_109 : Cond.methodLink RX10 109 yX10_isLetterByte ∈ TB := tb_in 1401 (by decide +kernel) rfl
theorem tz_X10_isLetterByte : Cond.static yX10_isLetterByte ∈ TB := tb_in 1402 (by decide +kernel) rfl
theorem td_X10_isSign : yX10_isSign.cls ≠ "java/lang/invoke/MethodHandle" ∧ yX10_isSign.cls ≠ "java/lang/invoke/VarHandle" ∧ (parseMethodDescriptor yX10_isSign.desc).map (fun d => d.parameters.length) = some 1 := by decide +kernel
theorem tc_X10_isSign : Cond.code yX10_isSign cX10_isSign 1 (some .boolean) ∈ TB := tb_in 1407 (by decide +kernel) rfl
theorem tm_RX10_118 : Cond.methodLink RX10 118 yX10_isSign ∈ TB := tb_in 1405 (by decide +kernel) rfl
theorem tz_X10_isSign : Cond.static yX10_isSign ∈ TB := tb_in 1406 (by decide +kernel) rfl
theorem tk_RX10_116 : Cond.constantLong RX10 116 (1152921504606846976) ∈ TB := tb_in 1404 (by decide +kernel) rfl
theorem tf_RX10_105 : Cond.fieldLink RX10 105 "ColouredHeapModel" "number" "I" ∈ TB := tb_in 1292 (by decide +kernel) rfl
theorem tk_RX10_108 : Cond.constant RX10 108 (99999) ∈ TB := tb_in 1400 (by decide +kernel) rfl
theorem tf_RX10_160 : Cond.fieldLink RX10 160 "ColouredHeapModel" "opens" "I" ∈ TB := tb_in 1299 (by decide +kernel) rfl
theorem td_X10_nextToken : yX10_nextToken.cls ≠ "java/lang/invoke/MethodHandle" ∧ yX10_nextToken.cls ≠ "java/lang/invoke/VarHandle" ∧ (parseMethodDescriptor yX10_nextToken.desc).map (fun d => d.parameters.length) = some 0 := by decide +kernel
theorem tc_X10_nextToken : Cond.code yX10_nextToken cX10_nextToken 2 none ∈ TB := tb_in 1392 (by decide +kernel) rfl
theorem tm_RX10_170 : Cond.methodLink RX10 170 yX10_nextToken ∈ TB := tb_in 1389 (by decide +kernel) rfl
theorem ti_X10_nextToken : Cond.instanceMethod yX10_nextToken ∈ TB := tb_in 1391 (by decide +kernel) rfl
theorem ts_X10_nextToken : Cond.selects RX10 yX10_nextToken yX10_nextToken ∈ TB := tb_in 40 (by decide +kernel) rfl
theorem td_X10_emit : yX10_emit.cls ≠ "java/lang/invoke/MethodHandle" ∧ yX10_emit.cls ≠ "java/lang/invoke/VarHandle" ∧ (parseMethodDescriptor yX10_emit.desc).map (fun d => d.parameters.length) = some 2 := by decide +kernel
theorem tc_X10_emit : Cond.code yX10_emit cX10_emit 3 none ∈ TB := tb_in 1497 (by decide +kernel) rfl
theorem tm_RX10_156 : Cond.methodLink RX10 156 yX10_emit ∈ TB := tb_in 1494 (by decide +kernel) rfl
theorem ti_X10_emit : Cond.instanceMethod yX10_emit ∈ TB := tb_in 1496 (by decide +kernel) rfl
theorem ts_X10_emit : Cond.selects RX10 yX10_emit yX10_emit ∈ TB := tb_in 59 (by decide +kernel) rfl
theorem td_X10_nameOf : yX10_nameOf.cls ≠ "java/lang/invoke/MethodHandle" ∧ yX10_nameOf.cls ≠ "java/lang/invoke/VarHandle" ∧ (parseMethodDescriptor yX10_nameOf.desc).map (fun d => d.parameters.length) = some 0 := by decide +kernel
theorem tc_X10_nameOf : Cond.code yX10_nameOf cX10_nameOf 1 (some .int) ∈ TB := tb_in 1509 (by decide +kernel) rfl
theorem tm_RX10_173 : Cond.methodLink RX10 173 yX10_nameOf ∈ TB := tb_in 1506 (by decide +kernel) rfl
theorem ti_X10_nameOf : Cond.instanceMethod yX10_nameOf ∈ TB := tb_in 1508 (by decide +kernel) rfl
theorem ts_X10_nameOf : Cond.selects RX10 yX10_nameOf yX10_nameOf ∈ TB := tb_in 62 (by decide +kernel) rfl
theorem tf_RX10_179 : Cond.fieldLink RX10 179 "ColouredHeapModel" "isWhole" "Z" ∈ TB := tb_in 1300 (by decide +kernel) rfl
theorem td_X10_settle : yX10_settle.cls ≠ "java/lang/invoke/MethodHandle" ∧ yX10_settle.cls ≠ "java/lang/invoke/VarHandle" ∧ (parseMethodDescriptor yX10_settle.desc).map (fun d => d.parameters.length) = some 1 := by decide +kernel
theorem tc_X10_settle : Cond.code yX10_settle cX10_settle 2 none ∈ TB := tb_in 1493 (by decide +kernel) rfl
theorem tm_RX10_183 : Cond.methodLink RX10 183 yX10_settle ∈ TB := tb_in 1490 (by decide +kernel) rfl
theorem ti_X10_settle : Cond.instanceMethod yX10_settle ∈ TB := tb_in 1492 (by decide +kernel) rfl
theorem ts_X10_settle : Cond.selects RX10 yX10_settle yX10_settle ∈ TB := tb_in 58 (by decide +kernel) rfl
theorem td_X10_isWord : yX10_isWord.cls ≠ "java/lang/invoke/MethodHandle" ∧ yX10_isWord.cls ≠ "java/lang/invoke/VarHandle" ∧ (parseMethodDescriptor yX10_isWord.desc).map (fun d => d.parameters.length) = some 1 := by decide +kernel
theorem tc_X10_isWord : Cond.code yX10_isWord cX10_isWord 3 (some .boolean) ∈ TB := tb_in 1431 (by decide +kernel) rfl
theorem tm_RX10_189 : Cond.methodLink RX10 189 yX10_isWord ∈ TB := tb_in 1428 (by decide +kernel) rfl
theorem ti_X10_isWord : Cond.instanceMethod yX10_isWord ∈ TB := tb_in 1430 (by decide +kernel) rfl
theorem ts_X10_isWord : Cond.selects RX10 yX10_isWord yX10_isWord ∈ TB := tb_in 44 (by decide +kernel) rfl
theorem td_X10_isAskAhead : yX10_isAskAhead.cls ≠ "java/lang/invoke/MethodHandle" ∧ yX10_isAskAhead.cls ≠ "java/lang/invoke/VarHandle" ∧ (parseMethodDescriptor yX10_isAskAhead.desc).map (fun d => d.parameters.length) = some 0 := by decide +kernel
theorem tc_X10_isAskAhead : Cond.code yX10_isAskAhead cX10_isAskAhead 1 (some .boolean) ∈ TB := tb_in 1524 (by decide +kernel) rfl
theorem tm_RX10_193 : Cond.methodLink RX10 193 yX10_isAskAhead ∈ TB := tb_in 1521 (by decide +kernel) rfl
theorem ti_X10_isAskAhead : Cond.instanceMethod yX10_isAskAhead ∈ TB := tb_in 1523 (by decide +kernel) rfl
theorem ts_X10_isAskAhead : Cond.selects RX10 yX10_isAskAhead yX10_isAskAhead ∈ TB := tb_in 65 (by decide +kernel) rfl
theorem td_X10_opened : yX10_opened.cls ≠ "java/lang/invoke/MethodHandle" ∧ yX10_opened.cls ≠ "java/lang/invoke/VarHandle" ∧ (parseMethodDescriptor yX10_opened.desc).map (fun d => d.parameters.length) = some 1 := by decide +kernel
theorem tc_X10_opened : Cond.code yX10_opened cX10_opened 2 (some .int) ∈ TB := tb_in 1520 (by decide +kernel) rfl
theorem tm_RX10_186 : Cond.methodLink RX10 186 yX10_opened ∈ TB := tb_in 1517 (by decide +kernel) rfl
theorem ti_X10_opened : Cond.instanceMethod yX10_opened ∈ TB := tb_in 1519 (by decide +kernel) rfl
theorem ts_X10_opened : Cond.selects RX10 yX10_opened yX10_opened ∈ TB := tb_in 64 (by decide +kernel) rfl
theorem td_X10_isOf : yX10_isOf.cls ≠ "java/lang/invoke/MethodHandle" ∧ yX10_isOf.cls ≠ "java/lang/invoke/VarHandle" ∧ (parseMethodDescriptor yX10_isOf.desc).map (fun d => d.parameters.length) = some 1 := by decide +kernel
theorem tc_X10_isOf : Cond.code yX10_isOf cX10_isOf 2 (some .boolean) ∈ TB := tb_in 1516 (by decide +kernel) rfl
theorem tm_RX10_176 : Cond.methodLink RX10 176 yX10_isOf ∈ TB := tb_in 1513 (by decide +kernel) rfl
theorem ti_X10_isOf : Cond.instanceMethod yX10_isOf ∈ TB := tb_in 1515 (by decide +kernel) rfl
theorem ts_X10_isOf : Cond.selects RX10 yX10_isOf yX10_isOf ∈ TB := tb_in 63 (by decide +kernel) rfl
theorem td_X10_isCompared : yX10_isCompared.cls ≠ "java/lang/invoke/MethodHandle" ∧ yX10_isCompared.cls ≠ "java/lang/invoke/VarHandle" ∧ (parseMethodDescriptor yX10_isCompared.desc).map (fun d => d.parameters.length) = some 0 := by decide +kernel
theorem tc_X10_isCompared : Cond.code yX10_isCompared cX10_isCompared 2 (some .boolean) ∈ TB := tb_in 1482 (by decide +kernel) rfl
theorem tm_RX10_197 : Cond.methodLink RX10 197 yX10_isCompared ∈ TB := tb_in 1479 (by decide +kernel) rfl
theorem ti_X10_isCompared : Cond.instanceMethod yX10_isCompared ∈ TB := tb_in 1481 (by decide +kernel) rfl
theorem ts_X10_isCompared : Cond.selects RX10 yX10_isCompared yX10_isCompared ∈ TB := tb_in 56 (by decide +kernel) rfl
theorem td_X10_compareOf : yX10_compareOf.cls ≠ "java/lang/invoke/MethodHandle" ∧ yX10_compareOf.cls ≠ "java/lang/invoke/VarHandle" ∧ (parseMethodDescriptor yX10_compareOf.desc).map (fun d => d.parameters.length) = some 0 := by decide +kernel
theorem tc_X10_compareOf : Cond.code yX10_compareOf cX10_compareOf 1 (some .int) ∈ TB := tb_in 1489 (by decide +kernel) rfl
theorem tm_RX10_200 : Cond.methodLink RX10 200 yX10_compareOf ∈ TB := tb_in 1486 (by decide +kernel) rfl
theorem ti_X10_compareOf : Cond.instanceMethod yX10_compareOf ∈ TB := tb_in 1488 (by decide +kernel) rfl
theorem ts_X10_compareOf : Cond.selects RX10 yX10_compareOf yX10_compareOf ∈ TB := tb_in 57 (by decide +kernel) rfl
theorem td_X10_betweenOf : yX10_betweenOf.cls ≠ "java/lang/invoke/MethodHandle" ∧ yX10_betweenOf.cls ≠ "java/lang/invoke/VarHandle" ∧ (parseMethodDescriptor yX10_betweenOf.desc).map (fun d => d.parameters.length) = some 0 := by decide +kernel
theorem tc_X10_betweenOf : Cond.code yX10_betweenOf cX10_betweenOf 1 (some .int) ∈ TB := tb_in 1470 (by decide +kernel) rfl
theorem tm_RX10_203 : Cond.methodLink RX10 203 yX10_betweenOf ∈ TB := tb_in 1467 (by decide +kernel) rfl
theorem ti_X10_betweenOf : Cond.instanceMethod yX10_betweenOf ∈ TB := tb_in 1469 (by decide +kernel) rfl
theorem ts_X10_betweenOf : Cond.selects RX10 yX10_betweenOf yX10_betweenOf ∈ TB := tb_in 53 (by decide +kernel) rfl
theorem td_X10_partOf : yX10_partOf.cls ≠ "java/lang/invoke/MethodHandle" ∧ yX10_partOf.cls ≠ "java/lang/invoke/VarHandle" ∧ (parseMethodDescriptor yX10_partOf.desc).map (fun d => d.parameters.length) = some 1 := by decide +kernel
theorem tc_X10_partOf : Cond.code yX10_partOf cX10_partOf 2 (some .int) ∈ TB := tb_in 1501 (by decide +kernel) rfl
theorem tm_RX10_206 : Cond.methodLink RX10 206 yX10_partOf ∈ TB := tb_in 1498 (by decide +kernel) rfl
theorem ti_X10_partOf : Cond.instanceMethod yX10_partOf ∈ TB := tb_in 1500 (by decide +kernel) rfl
theorem ts_X10_partOf : Cond.selects RX10 yX10_partOf yX10_partOf ∈ TB := tb_in 60 (by decide +kernel) rfl
theorem td_X10_beginOne : yX10_beginOne.cls ≠ "java/lang/invoke/MethodHandle" ∧ yX10_beginOne.cls ≠ "java/lang/invoke/VarHandle" ∧ (parseMethodDescriptor yX10_beginOne.desc).map (fun d => d.parameters.length) = some 0 := by decide +kernel
theorem tc_X10_beginOne : Cond.code yX10_beginOne cX10_beginOne 2 (some .int) ∈ TB := tb_in 1505 (by decide +kernel) rfl
theorem tm_RX10_212 : Cond.methodLink RX10 212 yX10_beginOne ∈ TB := tb_in 1502 (by decide +kernel) rfl
theorem ti_X10_beginOne : Cond.instanceMethod yX10_beginOne ∈ TB := tb_in 1504 (by decide +kernel) rfl
theorem ts_X10_beginOne : Cond.selects RX10 yX10_beginOne yX10_beginOne ∈ TB := tb_in 61 (by decide +kernel) rfl
theorem td_X10_behindOne : yX10_behindOne.cls ≠ "java/lang/invoke/MethodHandle" ∧ yX10_behindOne.cls ≠ "java/lang/invoke/VarHandle" ∧ (parseMethodDescriptor yX10_behindOne.desc).map (fun d => d.parameters.length) = some 0 := by decide +kernel
theorem tc_X10_behindOne : Cond.code yX10_behindOne cX10_behindOne 4 (some .boolean) ∈ TB := tb_in 1466 (by decide +kernel) rfl
theorem tm_RX10_209 : Cond.methodLink RX10 209 yX10_behindOne ∈ TB := tb_in 1463 (by decide +kernel) rfl
theorem ti_X10_behindOne : Cond.instanceMethod yX10_behindOne ∈ TB := tb_in 1465 (by decide +kernel) rfl
theorem ts_X10_behindOne : Cond.selects RX10 yX10_behindOne yX10_behindOne ∈ TB := tb_in 52 (by decide +kernel) rfl
theorem td_X10_summed : yX10_summed.cls ≠ "java/lang/invoke/MethodHandle" ∧ yX10_summed.cls ≠ "java/lang/invoke/VarHandle" ∧ (parseMethodDescriptor yX10_summed.desc).map (fun d => d.parameters.length) = some 0 := by decide +kernel
theorem tc_X10_summed : Cond.code yX10_summed cX10_summed 2 (some .int) ∈ TB := tb_in 1462 (by decide +kernel) rfl
theorem tm_RX10_215 : Cond.methodLink RX10 215 yX10_summed ∈ TB := tb_in 1459 (by decide +kernel) rfl
theorem ti_X10_summed : Cond.instanceMethod yX10_summed ∈ TB := tb_in 1461 (by decide +kernel) rfl
theorem ts_X10_summed : Cond.selects RX10 yX10_summed yX10_summed ∈ TB := tb_in 51 (by decide +kernel) rfl
theorem td_X10_figure : yX10_figure.cls ≠ "java/lang/invoke/MethodHandle" ∧ yX10_figure.cls ≠ "java/lang/invoke/VarHandle" ∧ (parseMethodDescriptor yX10_figure.desc).map (fun d => d.parameters.length) = some 3 := by decide +kernel
theorem tc_X10_figure : Cond.code yX10_figure cX10_figure 4 (some .int) ∈ TB := tb_in 1446 (by decide +kernel) rfl
theorem tm_RX10_218 : Cond.methodLink RX10 218 yX10_figure ∈ TB := tb_in 1443 (by decide +kernel) rfl
theorem ti_X10_figure : Cond.instanceMethod yX10_figure ∈ TB := tb_in 1445 (by decide +kernel) rfl
theorem ts_X10_figure : Cond.selects RX10 yX10_figure yX10_figure ∈ TB := tb_in 47 (by decide +kernel) rfl
theorem td_X10_further : yX10_further.cls ≠ "java/lang/invoke/MethodHandle" ∧ yX10_further.cls ≠ "java/lang/invoke/VarHandle" ∧ (parseMethodDescriptor yX10_further.desc).map (fun d => d.parameters.length) = some 3 := by decide +kernel
theorem tc_X10_further : Cond.code yX10_further cX10_further 5 (some .int) ∈ TB := tb_in 1450 (by decide +kernel) rfl
theorem tm_RX10_222 : Cond.methodLink RX10 222 yX10_further ∈ TB := tb_in 1447 (by decide +kernel) rfl
theorem ti_X10_further : Cond.instanceMethod yX10_further ∈ TB := tb_in 1449 (by decide +kernel) rfl
theorem ts_X10_further : Cond.selects RX10 yX10_further yX10_further ∈ TB := tb_in 48 (by decide +kernel) rfl
theorem td_X10_makeClause : yX10_makeClause.cls ≠ "java/lang/invoke/MethodHandle" ∧ yX10_makeClause.cls ≠ "java/lang/invoke/VarHandle" ∧ (parseMethodDescriptor yX10_makeClause.desc).map (fun d => d.parameters.length) = some 1 := by decide +kernel
theorem tc_X10_makeClause : Cond.code yX10_makeClause cX10_makeClause 3 (some .int) ∈ TB := tb_in 1442 (by decide +kernel) rfl
theorem tm_RX10_226 : Cond.methodLink RX10 226 yX10_makeClause ∈ TB := tb_in 1439 (by decide +kernel) rfl
theorem ti_X10_makeClause : Cond.instanceMethod yX10_makeClause ∈ TB := tb_in 1441 (by decide +kernel) rfl
theorem ts_X10_makeClause : Cond.selects RX10 yX10_makeClause yX10_makeClause ∈ TB := tb_in 46 (by decide +kernel) rfl
theorem td_X10_threeClause : yX10_threeClause.cls ≠ "java/lang/invoke/MethodHandle" ∧ yX10_threeClause.cls ≠ "java/lang/invoke/VarHandle" ∧ (parseMethodDescriptor yX10_threeClause.desc).map (fun d => d.parameters.length) = some 2 := by decide +kernel
theorem tc_X10_threeClause : Cond.code yX10_threeClause cX10_threeClause 5 (some .int) ∈ TB := tb_in 1454 (by decide +kernel) rfl
theorem tm_RX10_229 : Cond.methodLink RX10 229 yX10_threeClause ∈ TB := tb_in 1451 (by decide +kernel) rfl
theorem ti_X10_threeClause : Cond.instanceMethod yX10_threeClause ∈ TB := tb_in 1453 (by decide +kernel) rfl
theorem ts_X10_threeClause : Cond.selects RX10 yX10_threeClause yX10_threeClause ∈ TB := tb_in 49 (by decide +kernel) rfl
theorem td_X10_lawClause : yX10_lawClause.cls ≠ "java/lang/invoke/MethodHandle" ∧ yX10_lawClause.cls ≠ "java/lang/invoke/VarHandle" ∧ (parseMethodDescriptor yX10_lawClause.desc).map (fun d => d.parameters.length) = some 1 := by decide +kernel
theorem tc_X10_lawClause : Cond.code yX10_lawClause cX10_lawClause 3 (some .int) ∈ TB := tb_in 1458 (by decide +kernel) rfl
theorem tm_RX10_233 : Cond.methodLink RX10 233 yX10_lawClause ∈ TB := tb_in 1455 (by decide +kernel) rfl
theorem ti_X10_lawClause : Cond.instanceMethod yX10_lawClause ∈ TB := tb_in 1457 (by decide +kernel) rfl
theorem ts_X10_lawClause : Cond.selects RX10 yX10_lawClause yX10_lawClause ∈ TB := tb_in 50 (by decide +kernel) rfl
theorem td_X10_lineOf : yX10_lineOf.cls ≠ "java/lang/invoke/MethodHandle" ∧ yX10_lineOf.cls ≠ "java/lang/invoke/VarHandle" ∧ (parseMethodDescriptor yX10_lineOf.desc).map (fun d => d.parameters.length) = some 2 := by decide +kernel
theorem tc_X10_lineOf : Cond.code yX10_lineOf cX10_lineOf 4 (some .int) ∈ TB := tb_in 1855 (by decide +kernel) rfl
theorem tm_RX10_448 : Cond.methodLink RX10 448 yX10_lineOf ∈ TB := tb_in 1852 (by decide +kernel) rfl
theorem ti_X10_lineOf : Cond.instanceMethod yX10_lineOf ∈ TB := tb_in 1854 (by decide +kernel) rfl
theorem ts_X10_lineOf : Cond.selects RX10 yX10_lineOf yX10_lineOf ∈ TB := tb_in 115 (by decide +kernel) rfl
theorem tf_RX10_46 : Cond.fieldLink RX10 46 "ColouredHeapModel" "loads" "[I" ∈ TB := tb_in 1306 (by decide +kernel) rfl
theorem td_X10_comeTo : yX10_comeTo.cls ≠ "java/lang/invoke/MethodHandle" ∧ yX10_comeTo.cls ≠ "java/lang/invoke/VarHandle" ∧ (parseMethodDescriptor yX10_comeTo.desc).map (fun d => d.parameters.length) = some 3 := by decide +kernel
theorem tc_X10_comeTo : Cond.code yX10_comeTo cX10_comeTo 5 none ∈ TB := tb_in 1899 (by decide +kernel) rfl
theorem tm_RX10_457 : Cond.methodLink RX10 457 yX10_comeTo ∈ TB := tb_in 1896 (by decide +kernel) rfl
theorem ti_X10_comeTo : Cond.instanceMethod yX10_comeTo ∈ TB := tb_in 1898 (by decide +kernel) rfl
theorem ts_X10_comeTo : Cond.selects RX10 yX10_comeTo yX10_comeTo ∈ TB := tb_in 120 (by decide +kernel) rfl
theorem td_X10_layLoads : yX10_layLoads.cls ≠ "java/lang/invoke/MethodHandle" ∧ yX10_layLoads.cls ≠ "java/lang/invoke/VarHandle" ∧ (parseMethodDescriptor yX10_layLoads.desc).map (fun d => d.parameters.length) = some 1 := by decide +kernel
theorem tc_X10_layLoads : Cond.code yX10_layLoads cX10_layLoads 5 none ∈ TB := tb_in 1895 (by decide +kernel) rfl
theorem tm_RX10_461 : Cond.methodLink RX10 461 yX10_layLoads ∈ TB := tb_in 1892 (by decide +kernel) rfl
theorem ti_X10_layLoads : Cond.instanceMethod yX10_layLoads ∈ TB := tb_in 1894 (by decide +kernel) rfl
theorem ts_X10_layLoads : Cond.selects RX10 yX10_layLoads yX10_layLoads ∈ TB := tb_in 119 (by decide +kernel) rfl
theorem td_X10_isReached : yX10_isReached.cls ≠ "java/lang/invoke/MethodHandle" ∧ yX10_isReached.cls ≠ "java/lang/invoke/VarHandle" ∧ (parseMethodDescriptor yX10_isReached.desc).map (fun d => d.parameters.length) = some 1 := by decide +kernel
theorem tc_X10_isReached : Cond.code yX10_isReached cX10_isReached 2 (some .boolean) ∈ TB := tb_in 1891 (by decide +kernel) rfl
theorem tm_RX10_464 : Cond.methodLink RX10 464 yX10_isReached ∈ TB := tb_in 1888 (by decide +kernel) rfl
theorem ti_X10_isReached : Cond.instanceMethod yX10_isReached ∈ TB := tb_in 1890 (by decide +kernel) rfl
theorem ts_X10_isReached : Cond.selects RX10 yX10_isReached yX10_isReached ∈ TB := tb_in 118 (by decide +kernel) rfl
theorem tf_RX10_52 : Cond.fieldLink RX10 52 "ColouredHeapModel" "isInChain" "[Z" ∈ TB := tb_in 1308 (by decide +kernel) rfl
theorem td_X10_leadsTo : yX10_leadsTo.cls ≠ "java/lang/invoke/MethodHandle" ∧ yX10_leadsTo.cls ≠ "java/lang/invoke/VarHandle" ∧ (parseMethodDescriptor yX10_leadsTo.desc).map (fun d => d.parameters.length) = some 2 := by decide +kernel
theorem tc_X10_leadsTo : Cond.code yX10_leadsTo cX10_leadsTo 3 (some .int) ∈ TB := tb_in 1972 (by decide +kernel) rfl
theorem tm_RX10_486 : Cond.methodLink RX10 486 yX10_leadsTo ∈ TB := tb_in 1969 (by decide +kernel) rfl
theorem ti_X10_leadsTo : Cond.instanceMethod yX10_leadsTo ∈ TB := tb_in 1971 (by decide +kernel) rfl
theorem ts_X10_leadsTo : Cond.selects RX10 yX10_leadsTo yX10_leadsTo ∈ TB := tb_in 127 (by decide +kernel) rfl
theorem td_X10_sortOf : yX10_sortOf.cls ≠ "java/lang/invoke/MethodHandle" ∧ yX10_sortOf.cls ≠ "java/lang/invoke/VarHandle" ∧ (parseMethodDescriptor yX10_sortOf.desc).map (fun d => d.parameters.length) = some 0 := by decide +kernel
theorem tc_X10_sortOf : Cond.code yX10_sortOf cX10_sortOf 1 (some .int) ∈ TB := tb_in 1415 (by decide +kernel) rfl
theorem tm_RX10_236 : Cond.methodLink RX10 236 yX10_sortOf ∈ TB := tb_in 1412 (by decide +kernel) rfl
theorem ti_X10_sortOf : Cond.instanceMethod yX10_sortOf ∈ TB := tb_in 1414 (by decide +kernel) rfl
theorem ts_X10_sortOf : Cond.selects RX10 yX10_sortOf yX10_sortOf ∈ TB := tb_in 43 (by decide +kernel) rfl
theorem td_X10_body : yX10_body.cls ≠ "java/lang/invoke/MethodHandle" ∧ yX10_body.cls ≠ "java/lang/invoke/VarHandle" ∧ (parseMethodDescriptor yX10_body.desc).map (fun d => d.parameters.length) = some 2 := by decide +kernel
theorem tc_X10_body : Cond.code yX10_body cX10_body 3 (some .int) ∈ TB := tb_in 1438 (by decide +kernel) rfl
theorem tm_RX10_246 : Cond.methodLink RX10 246 yX10_body ∈ TB := tb_in 1435 (by decide +kernel) rfl
theorem ti_X10_body : Cond.instanceMethod yX10_body ∈ TB := tb_in 1437 (by decide +kernel) rfl
theorem ts_X10_body : Cond.selects RX10 yX10_body yX10_body ∈ TB := tb_in 45 (by decide +kernel) rfl
theorem tf_RX10_239 : Cond.fieldLink RX10 239 "ColouredHeapModel" "once" "I" ∈ TB := tb_in 1301 (by decide +kernel) rfl
theorem td_X10_arePassed : yX10_arePassed.cls ≠ "java/lang/invoke/MethodHandle" ∧ yX10_arePassed.cls ≠ "java/lang/invoke/VarHandle" ∧ (parseMethodDescriptor yX10_arePassed.desc).map (fun d => d.parameters.length) = some 1 := by decide +kernel
theorem tc_X10_arePassed : Cond.code yX10_arePassed cX10_arePassed 3 (some .boolean) ∈ TB := tb_in 1793 (by decide +kernel) rfl
theorem tm_RX10_421 : Cond.methodLink RX10 421 yX10_arePassed ∈ TB := tb_in 1790 (by decide +kernel) rfl
theorem ti_X10_arePassed : Cond.instanceMethod yX10_arePassed ∈ TB := tb_in 1792 (by decide +kernel) rfl
theorem ts_X10_arePassed : Cond.selects RX10 yX10_arePassed yX10_arePassed ∈ TB := tb_in 111 (by decide +kernel) rfl
theorem td_X10_gapsOf : yX10_gapsOf.cls ≠ "java/lang/invoke/MethodHandle" ∧ yX10_gapsOf.cls ≠ "java/lang/invoke/VarHandle" ∧ (parseMethodDescriptor yX10_gapsOf.desc).map (fun d => d.parameters.length) = some 1 := by decide +kernel
theorem tc_X10_gapsOf : Cond.code yX10_gapsOf cX10_gapsOf 4 (some .int) ∈ TB := tb_in 1915 (by decide +kernel) rfl
theorem tm_RX10_470 : Cond.methodLink RX10 470 yX10_gapsOf ∈ TB := tb_in 1912 (by decide +kernel) rfl
theorem ti_X10_gapsOf : Cond.instanceMethod yX10_gapsOf ∈ TB := tb_in 1914 (by decide +kernel) rfl
theorem ts_X10_gapsOf : Cond.selects RX10 yX10_gapsOf yX10_gapsOf ∈ TB := tb_in 122 (by decide +kernel) rfl
theorem tf_RX10_26 : Cond.fieldLink RX10 26 "ColouredHeapModel" "faultPlace" "I" ∈ TB := tb_in 1288 (by decide +kernel) rfl
theorem tf_RX10_22 : Cond.fieldLink RX10 22 "ColouredHeapModel" "fault" "I" ∈ TB := tb_in 1287 (by decide +kernel) rfl
theorem td_X10_four : yX10_four.cls ≠ "java/lang/invoke/MethodHandle" ∧ yX10_four.cls ≠ "java/lang/invoke/VarHandle" ∧ (parseMethodDescriptor yX10_four.desc).map (fun d => d.parameters.length) = some 1 := by decide +kernel
theorem tc_X10_four : Cond.code yX10_four cX10_four 3 none ∈ TB := tb_in 1373 (by decide +kernel) rfl
theorem tm_RX10_86 : Cond.methodLink RX10 86 yX10_four ∈ TB := tb_in 1370 (by decide +kernel) rfl
theorem ti_X10_four : Cond.instanceMethod yX10_four ∈ TB := tb_in 1372 (by decide +kernel) rfl
theorem ts_X10_four : Cond.selects RX10 yX10_four yX10_four ∈ TB := tb_in 38 (by decide +kernel) rfl
theorem td_X10_isPage : yX10_isPage.cls ≠ "java/lang/invoke/MethodHandle" ∧ yX10_isPage.cls ≠ "java/lang/invoke/VarHandle" ∧ (parseMethodDescriptor yX10_isPage.desc).map (fun d => d.parameters.length) = some 1 := by decide +kernel
theorem tc_X10_isPage : Cond.code yX10_isPage cX10_isPage 1 (some .boolean) ∈ TB := tb_in 1839 (by decide +kernel) rfl
theorem tm_RX10_445 : Cond.methodLink RX10 445 yX10_isPage ∈ TB := tb_in 1837 (by decide +kernel) rfl
theorem tz_X10_isPage : Cond.static yX10_isPage ∈ TB := tb_in 1838 (by decide +kernel) rfl
theorem td_X10_makeNow : yX10_makeNow.cls ≠ "java/lang/invoke/MethodHandle" ∧ yX10_makeNow.cls ≠ "java/lang/invoke/VarHandle" ∧ (parseMethodDescriptor yX10_makeNow.desc).map (fun d => d.parameters.length) = some 2 := by decide +kernel
theorem tc_X10_makeNow : Cond.code yX10_makeNow cX10_makeNow 5 (some .int) ∈ TB := tb_in 1627 (by decide +kernel) rfl
theorem tm_RX10_400 : Cond.methodLink RX10 400 yX10_makeNow ∈ TB := tb_in 1624 (by decide +kernel) rfl
theorem ti_X10_makeNow : Cond.instanceMethod yX10_makeNow ∈ TB := tb_in 1626 (by decide +kernel) rfl
theorem ts_X10_makeNow : Cond.selects RX10 yX10_makeNow yX10_makeNow ∈ TB := tb_in 80 (by decide +kernel) rfl
theorem td_X10_canLoad : yX10_canLoad.cls ≠ "java/lang/invoke/MethodHandle" ∧ yX10_canLoad.cls ≠ "java/lang/invoke/VarHandle" ∧ (parseMethodDescriptor yX10_canLoad.desc).map (fun d => d.parameters.length) = some 3 := by decide +kernel
theorem tc_X10_canLoad : Cond.code yX10_canLoad cX10_canLoad 5 (some .boolean) ∈ TB := tb_in 1738 (by decide +kernel) rfl
theorem tm_RX10_406 : Cond.methodLink RX10 406 yX10_canLoad ∈ TB := tb_in 1735 (by decide +kernel) rfl
theorem ti_X10_canLoad : Cond.instanceMethod yX10_canLoad ∈ TB := tb_in 1737 (by decide +kernel) rfl
theorem ts_X10_canLoad : Cond.selects RX10 yX10_canLoad yX10_canLoad ∈ TB := tb_in 106 (by decide +kernel) rfl
theorem td_X10_loadNow : yX10_loadNow.cls ≠ "java/lang/invoke/MethodHandle" ∧ yX10_loadNow.cls ≠ "java/lang/invoke/VarHandle" ∧ (parseMethodDescriptor yX10_loadNow.desc).map (fun d => d.parameters.length) = some 3 := by decide +kernel
theorem tc_X10_loadNow : Cond.code yX10_loadNow cX10_loadNow 5 (some .int) ∈ TB := tb_in 1746 (by decide +kernel) rfl
theorem tm_RX10_409 : Cond.methodLink RX10 409 yX10_loadNow ∈ TB := tb_in 1743 (by decide +kernel) rfl
theorem ti_X10_loadNow : Cond.instanceMethod yX10_loadNow ∈ TB := tb_in 1745 (by decide +kernel) rfl
theorem ts_X10_loadNow : Cond.selects RX10 yX10_loadNow yX10_loadNow ∈ TB := tb_in 108 (by decide +kernel) rfl
theorem td_X10_held : yX10_held.cls ≠ "java/lang/invoke/MethodHandle" ∧ yX10_held.cls ≠ "java/lang/invoke/VarHandle" ∧ (parseMethodDescriptor yX10_held.desc).map (fun d => d.parameters.length) = some 3 := by decide +kernel
theorem tc_X10_held : Cond.code yX10_held cX10_held 4 (some .int) ∈ TB := tb_in 1619 (by decide +kernel) rfl
theorem tm_RX10_300 : Cond.methodLink RX10 300 yX10_held ∈ TB := tb_in 1617 (by decide +kernel) rfl
theorem tz_X10_held : Cond.static yX10_held ∈ TB := tb_in 1618 (by decide +kernel) rfl
theorem td_X10_pacesOf : yX10_pacesOf.cls ≠ "java/lang/invoke/MethodHandle" ∧ yX10_pacesOf.cls ≠ "java/lang/invoke/VarHandle" ∧ (parseMethodDescriptor yX10_pacesOf.desc).map (fun d => d.parameters.length) = some 1 := by decide +kernel
theorem tc_X10_pacesOf : Cond.code yX10_pacesOf cX10_pacesOf 3 (some .int) ∈ TB := tb_in 1555 (by decide +kernel) rfl
theorem tm_RX10_394 : Cond.methodLink RX10 394 yX10_pacesOf ∈ TB := tb_in 1552 (by decide +kernel) rfl
theorem ti_X10_pacesOf : Cond.instanceMethod yX10_pacesOf ∈ TB := tb_in 1554 (by decide +kernel) rfl
theorem ts_X10_pacesOf : Cond.selects RX10 yX10_pacesOf yX10_pacesOf ∈ TB := tb_in 68 (by decide +kernel) rfl
theorem td_X10_make : yX10_make.cls ≠ "java/lang/invoke/MethodHandle" ∧ yX10_make.cls ≠ "java/lang/invoke/VarHandle" ∧ (parseMethodDescriptor yX10_make.desc).map (fun d => d.parameters.length) = some 2 := by decide +kernel
theorem tc_X10_make : Cond.code yX10_make cX10_make 6 (some .int) ∈ TB := tb_in 1540 (by decide +kernel) rfl
theorem tm_RX10_424 : Cond.methodLink RX10 424 yX10_make ∈ TB := tb_in 1802 (by decide +kernel) rfl
theorem ti_X10_make : Cond.instanceMethod yX10_make ∈ TB := tb_in 1538 (by decide +kernel) rfl
theorem ts_X10_make : Cond.selects RX10 yX10_make yX10_make ∈ TB := tb_in 1539 (by decide +kernel) rfl
theorem td_X10_load : yX10_load.cls ≠ "java/lang/invoke/MethodHandle" ∧ yX10_load.cls ≠ "java/lang/invoke/VarHandle" ∧ (parseMethodDescriptor yX10_load.desc).map (fun d => d.parameters.length) = some 3 := by decide +kernel
theorem tc_X10_load : Cond.code yX10_load cX10_load 4 (some .int) ∈ TB := tb_in 1734 (by decide +kernel) rfl
theorem tm_RX10_427 : Cond.methodLink RX10 427 yX10_load ∈ TB := tb_in 1803 (by decide +kernel) rfl
theorem ti_X10_load : Cond.instanceMethod yX10_load ∈ TB := tb_in 1732 (by decide +kernel) rfl
theorem ts_X10_load : Cond.selects RX10 yX10_load yX10_load ∈ TB := tb_in 1733 (by decide +kernel) rfl
theorem td_X10_store : yX10_store.cls ≠ "java/lang/invoke/MethodHandle" ∧ yX10_store.cls ≠ "java/lang/invoke/VarHandle" ∧ (parseMethodDescriptor yX10_store.desc).map (fun d => d.parameters.length) = some 3 := by decide +kernel
theorem tc_X10_store : Cond.code yX10_store cX10_store 5 (some .boolean) ∈ TB := tb_in 1750 (by decide +kernel) rfl
theorem tm_RX10_430 : Cond.methodLink RX10 430 yX10_store ∈ TB := tb_in 1804 (by decide +kernel) rfl
theorem ti_X10_store : Cond.instanceMethod yX10_store ∈ TB := tb_in 1748 (by decide +kernel) rfl
theorem ts_X10_store : Cond.selects RX10 yX10_store yX10_store ∈ TB := tb_in 1749 (by decide +kernel) rfl
theorem td_X10_drop : yX10_drop.cls ≠ "java/lang/invoke/MethodHandle" ∧ yX10_drop.cls ≠ "java/lang/invoke/VarHandle" ∧ (parseMethodDescriptor yX10_drop.desc).map (fun d => d.parameters.length) = some 1 := by decide +kernel
theorem tc_X10_drop : Cond.code yX10_drop cX10_drop 2 (some .boolean) ∈ TB := tb_in 1754 (by decide +kernel) rfl
theorem tm_RX10_433 : Cond.methodLink RX10 433 yX10_drop ∈ TB := tb_in 1805 (by decide +kernel) rfl
theorem ti_X10_drop : Cond.instanceMethod yX10_drop ∈ TB := tb_in 1752 (by decide +kernel) rfl
theorem ts_X10_drop : Cond.selects RX10 yX10_drop yX10_drop ∈ TB := tb_in 1753 (by decide +kernel) rfl
theorem tf_RX10_49 : Cond.fieldLink RX10 49 "ColouredHeapModel" "sizes" "[I" ∈ TB := tb_in 1307 (by decide +kernel) rfl
theorem tk_RX10_476 : Cond.constant RX10 476 (1000000) ∈ TB := tb_in 1944 (by decide +kernel) rfl
theorem td_X10_morePages : yX10_morePages.cls ≠ "java/lang/invoke/MethodHandle" ∧ yX10_morePages.cls ≠ "java/lang/invoke/VarHandle" ∧ (parseMethodDescriptor yX10_morePages.desc).map (fun d => d.parameters.length) = some 3 := by decide +kernel
theorem tc_X10_morePages : Cond.code yX10_morePages cX10_morePages 10 (some .int) ∈ TB := tb_in 1948 (by decide +kernel) rfl
theorem tm_RX10_477 : Cond.methodLink RX10 477 yX10_morePages ∈ TB := tb_in 1945 (by decide +kernel) rfl
theorem ti_X10_morePages : Cond.instanceMethod yX10_morePages ∈ TB := tb_in 1947 (by decide +kernel) rfl
theorem ts_X10_morePages : Cond.selects RX10 yX10_morePages yX10_morePages ∈ TB := tb_in 124 (by decide +kernel) rfl
theorem td_X10_isPlayed : yX10_isPlayed.cls ≠ "java/lang/invoke/MethodHandle" ∧ yX10_isPlayed.cls ≠ "java/lang/invoke/VarHandle" ∧ (parseMethodDescriptor yX10_isPlayed.desc).map (fun d => d.parameters.length) = some 1 := by decide +kernel
theorem tc_X10_isPlayed : Cond.code yX10_isPlayed cX10_isPlayed 5 (some .boolean) ∈ TB := tb_in 1801 (by decide +kernel) rfl
theorem tm_RX10_436 : Cond.methodLink RX10 436 yX10_isPlayed ∈ TB := tb_in 1798 (by decide +kernel) rfl
theorem ti_X10_isPlayed : Cond.instanceMethod yX10_isPlayed ∈ TB := tb_in 1800 (by decide +kernel) rfl
theorem ts_X10_isPlayed : Cond.selects RX10 yX10_isPlayed yX10_isPlayed ∈ TB := tb_in 112 (by decide +kernel) rfl
theorem td_X10_reachedWords : yX10_reachedWords.cls ≠ "java/lang/invoke/MethodHandle" ∧ yX10_reachedWords.cls ≠ "java/lang/invoke/VarHandle" ∧ (parseMethodDescriptor yX10_reachedWords.desc).map (fun d => d.parameters.length) = some 1 := by decide +kernel
theorem tc_X10_reachedWords : Cond.code yX10_reachedWords cX10_reachedWords 4 (some .int) ∈ TB := tb_in 1907 (by decide +kernel) rfl
theorem tm_RX10_467 : Cond.methodLink RX10 467 yX10_reachedWords ∈ TB := tb_in 1904 (by decide +kernel) rfl
theorem ti_X10_reachedWords : Cond.instanceMethod yX10_reachedWords ∈ TB := tb_in 1906 (by decide +kernel) rfl
theorem ts_X10_reachedWords : Cond.selects RX10 yX10_reachedWords yX10_reachedWords ∈ TB := tb_in 121 (by decide +kernel) rfl
theorem td_X10_clause : yX10_clause.cls ≠ "java/lang/invoke/MethodHandle" ∧ yX10_clause.cls ≠ "java/lang/invoke/VarHandle" ∧ (parseMethodDescriptor yX10_clause.desc).map (fun d => d.parameters.length) = some 0 := by decide +kernel
theorem tc_X10_clause : Cond.code yX10_clause cX10_clause 5 (some .int) ∈ TB := tb_in 1411 (by decide +kernel) rfl
theorem tm_RX10_250 : Cond.methodLink RX10 250 yX10_clause ∈ TB := tb_in 1408 (by decide +kernel) rfl
theorem ti_X10_clause : Cond.instanceMethod yX10_clause ∈ TB := tb_in 1410 (by decide +kernel) rfl
theorem ts_X10_clause : Cond.selects RX10 yX10_clause yX10_clause ∈ TB := tb_in 42 (by decide +kernel) rfl
theorem td_X10_isSafe : yX10_isSafe.cls ≠ "java/lang/invoke/MethodHandle" ∧ yX10_isSafe.cls ≠ "java/lang/invoke/VarHandle" ∧ (parseMethodDescriptor yX10_isSafe.desc).map (fun d => d.parameters.length) = some 1 := by decide +kernel
theorem tc_X10_isSafe : Cond.code yX10_isSafe cX10_isSafe 2 (some .boolean) ∈ TB := tb_in 1931 (by decide +kernel) rfl
theorem tm_RX10_473 : Cond.methodLink RX10 473 yX10_isSafe ∈ TB := tb_in 1928 (by decide +kernel) rfl
theorem ti_X10_isSafe : Cond.instanceMethod yX10_isSafe ∈ TB := tb_in 1930 (by decide +kernel) rfl
theorem ts_X10_isSafe : Cond.selects RX10 yX10_isSafe yX10_isSafe ∈ TB := tb_in 123 (by decide +kernel) rfl
theorem td_X10_readText : yX10_readText.cls ≠ "java/lang/invoke/MethodHandle" ∧ yX10_readText.cls ≠ "java/lang/invoke/VarHandle" ∧ (parseMethodDescriptor yX10_readText.desc).map (fun d => d.parameters.length) = some 0 := by decide +kernel
theorem tc_X10_readText : Cond.code yX10_readText cX10_readText 2 (some .int) ∈ TB := tb_in 1388 (by decide +kernel) rfl
theorem tm_RX10_253 : Cond.methodLink RX10 253 yX10_readText ∈ TB := tb_in 1385 (by decide +kernel) rfl
theorem ti_X10_readText : Cond.instanceMethod yX10_readText ∈ TB := tb_in 1387 (by decide +kernel) rfl
theorem ts_X10_readText : Cond.selects RX10 yX10_readText yX10_readText ∈ TB := tb_in 39 (by decide +kernel) rfl
theorem td_X10_anew : yX10_anew.cls ≠ "java/lang/invoke/MethodHandle" ∧ yX10_anew.cls ≠ "java/lang/invoke/VarHandle" ∧ (parseMethodDescriptor yX10_anew.desc).map (fun d => d.parameters.length) = some 0 := by decide +kernel
theorem tc_X10_anew : Cond.code yX10_anew cX10_anew 1 none ∈ TB := tb_in 1813 (by decide +kernel) rfl
theorem tm_RX10_439 : Cond.methodLink RX10 439 yX10_anew ∈ TB := tb_in 1810 (by decide +kernel) rfl
theorem ti_X10_anew : Cond.instanceMethod yX10_anew ∈ TB := tb_in 1812 (by decide +kernel) rfl
theorem ts_X10_anew : Cond.selects RX10 yX10_anew yX10_anew ∈ TB := tb_in 113 (by decide +kernel) rfl
theorem td_X10_happens : yX10_happens.cls ≠ "java/lang/invoke/MethodHandle" ∧ yX10_happens.cls ≠ "java/lang/invoke/VarHandle" ∧ (parseMethodDescriptor yX10_happens.desc).map (fun d => d.parameters.length) = some 1 := by decide +kernel
theorem tc_X10_happens : Cond.code yX10_happens cX10_happens 3 none ∈ TB := tb_in 1820 (by decide +kernel) rfl
theorem tm_RX10_442 : Cond.methodLink RX10 442 yX10_happens ∈ TB := tb_in 1817 (by decide +kernel) rfl
theorem ti_X10_happens : Cond.instanceMethod yX10_happens ∈ TB := tb_in 1819 (by decide +kernel) rfl
theorem ts_X10_happens : Cond.selects RX10 yX10_happens yX10_happens ∈ TB := tb_in 114 (by decide +kernel) rfl
theorem tf_RJ0_38 : Cond.fieldLink RJ0 38 "java/lang/String" "COMPACT_STRINGS" "Z" ∈ TB := tb_in 546 (by decide +kernel) rfl
theorem tf_RJ0_15 : Cond.fieldLink RJ0 15 "java/lang/String" "coder" "B" ∈ TB := tb_in 2002 (by decide +kernel) rfl
theorem tf_RJ0_1053 : Cond.fieldLink RJ0 1053 "jdk/internal/util/Preconditions" "SIOOBE_FORMATTER" "Ljava/util/function/BiFunction;" ∈ TB := tb_in 562 (by decide +kernel) rfl
theorem td_J3_checkIndex_8e157 : yJ3_checkIndex_8e157.cls ≠ "java/lang/invoke/MethodHandle" ∧ yJ3_checkIndex_8e157.cls ≠ "java/lang/invoke/VarHandle" ∧ (parseMethodDescriptor yJ3_checkIndex_8e157.desc).map (fun d => d.parameters.length) = some 3 := by decide +kernel
theorem tc_J3_checkIndex_8e157 : Cond.code yJ3_checkIndex_8e157 cJ3_checkIndex_8e157 3 (some .int) ∈ TB := tb_in 566 (by decide +kernel) rfl
theorem tm_RJ0_1059 : Cond.methodLink RJ0 1059 yJ3_checkIndex_8e157 ∈ TB := tb_in 564 (by decide +kernel) rfl
theorem tz_J3_checkIndex_8e157 : Cond.static yJ3_checkIndex_8e157 ∈ TB := tb_in 565 (by decide +kernel) rfl
theorem tn_RJ3 : Cond.initialized RJ3 ∈ TB := tb_in 142 (by decide +kernel) rfl
theorem td_J0_checkIndex_df160 : yJ0_checkIndex_df160.cls ≠ "java/lang/invoke/MethodHandle" ∧ yJ0_checkIndex_df160.cls ≠ "java/lang/invoke/VarHandle" ∧ (parseMethodDescriptor yJ0_checkIndex_df160.desc).map (fun d => d.parameters.length) = some 2 := by decide +kernel
theorem tc_J0_checkIndex_df160 : Cond.code yJ0_checkIndex_df160 cJ0_checkIndex_df160 2 none ∈ TB := tb_in 561 (by decide +kernel) rfl
theorem tm_RJ1_9 : Cond.methodLink RJ1 9 yJ0_checkIndex_df160 ∈ TB := tb_in 559 (by decide +kernel) rfl
theorem tz_J0_checkIndex_df160 : Cond.static yJ0_checkIndex_df160 ∈ TB := tb_in 560 (by decide +kernel) rfl
theorem tn_RJ0 : Cond.initialized RJ0 ∈ TB := tb_in 140 (by decide +kernel) rfl
theorem td_J0_isLatin1_aae02 : yJ0_isLatin1_aae02.cls ≠ "java/lang/invoke/MethodHandle" ∧ yJ0_isLatin1_aae02.cls ≠ "java/lang/invoke/VarHandle" ∧ (parseMethodDescriptor yJ0_isLatin1_aae02.desc).map (fun d => d.parameters.length) = some 0 := by decide +kernel
theorem tc_J0_isLatin1_aae02 : Cond.code yJ0_isLatin1_aae02 cJ0_isLatin1_aae02 1 (some .boolean) ∈ TB := tb_in 555 (by decide +kernel) rfl
theorem tm_RJ0_492 : Cond.methodLink RJ0 492 yJ0_isLatin1_aae02 ∈ TB := tb_in 552 (by decide +kernel) rfl
theorem ti_J0_isLatin1_aae02 : Cond.instanceMethod yJ0_isLatin1_aae02 ∈ TB := tb_in 553 (by decide +kernel) rfl
theorem ts_J0_isLatin1_aae02 : Cond.selects RJ0 yJ0_isLatin1_aae02 yJ0_isLatin1_aae02 ∈ TB := tb_in 554 (by decide +kernel) rfl
theorem tf_RJ0_9 : Cond.fieldLink RJ0 9 "java/lang/String" "value" "[B" ∈ TB := tb_in 2001 (by decide +kernel) rfl
theorem td_J1_charAt_3b067 : yJ1_charAt_3b067.cls ≠ "java/lang/invoke/MethodHandle" ∧ yJ1_charAt_3b067.cls ≠ "java/lang/invoke/VarHandle" ∧ (parseMethodDescriptor yJ1_charAt_3b067.desc).map (fun d => d.parameters.length) = some 2 := by decide +kernel
theorem tc_J1_charAt_3b067 : Cond.code yJ1_charAt_3b067 cJ1_charAt_3b067 2 (some .char) ∈ TB := tb_in 558 (by decide +kernel) rfl
theorem tm_RJ0_495 : Cond.methodLink RJ0 495 yJ1_charAt_3b067 ∈ TB := tb_in 556 (by decide +kernel) rfl
theorem tz_J1_charAt_3b067 : Cond.static yJ1_charAt_3b067 ∈ TB := tb_in 557 (by decide +kernel) rfl
theorem tn_RJ1 : Cond.initialized RJ1 ∈ TB := tb_in 141 (by decide +kernel) rfl
theorem td_J0_coder_7d493 : yJ0_coder_7d493.cls ≠ "java/lang/invoke/MethodHandle" ∧ yJ0_coder_7d493.cls ≠ "java/lang/invoke/VarHandle" ∧ (parseMethodDescriptor yJ0_coder_7d493.desc).map (fun d => d.parameters.length) = some 0 := by decide +kernel
theorem tc_J0_coder_7d493 : Cond.code yJ0_coder_7d493 cJ0_coder_7d493 1 (some .byte) ∈ TB := tb_in 545 (by decide +kernel) rfl
theorem tm_RJ0_335 : Cond.methodLink RJ0 335 yJ0_coder_7d493 ∈ TB := tb_in 542 (by decide +kernel) rfl
theorem ti_J0_coder_7d493 : Cond.instanceMethod yJ0_coder_7d493 ∈ TB := tb_in 543 (by decide +kernel) rfl
theorem ts_J0_coder_7d493 : Cond.selects RJ0 yJ0_coder_7d493 yJ0_coder_7d493 ∈ TB := tb_in 544 (by decide +kernel) rfl
theorem td_J1_canEncode_9a6ad : yJ1_canEncode_9a6ad.cls ≠ "java/lang/invoke/MethodHandle" ∧ yJ1_canEncode_9a6ad.cls ≠ "java/lang/invoke/VarHandle" ∧ (parseMethodDescriptor yJ1_canEncode_9a6ad.desc).map (fun d => d.parameters.length) = some 1 := by decide +kernel
theorem tc_J1_canEncode_9a6ad : Cond.code yJ1_canEncode_9a6ad cJ1_canEncode_9a6ad 1 (some .boolean) ∈ TB := tb_in 615 (by decide +kernel) rfl
theorem tm_RJ1_88 : Cond.methodLink RJ1 88 yJ1_canEncode_9a6ad ∈ TB := tb_in 613 (by decide +kernel) rfl
theorem tz_J1_canEncode_9a6ad : Cond.static yJ1_canEncode_9a6ad ∈ TB := tb_in 614 (by decide +kernel) rfl
theorem tm_RJ1_92 : Cond.methodLink RJ1 92 Lib.Math.max.name ∈ TB := tb_in 616 (by decide +kernel) rfl
theorem tz_Math_maxI : Cond.static Lib.Math.max.name ∈ TB := tb_in 617 (by decide +kernel) rfl
theorem tn_Math : Cond.initialized "java/lang/Math" ∈ TB := tb_in 144 (by decide +kernel) rfl
theorem tc_Math_maxI : Cond.code Lib.Math.max.name Lib.Math.max.code 2 (some .int) ∈ TB := tb_in 618 (by decide +kernel) rfl
theorem tm_RJ1_38 : Cond.methodLink RJ1 38 Lib.Math.min.name ∈ TB := tb_in 619 (by decide +kernel) rfl
theorem tz_Math_minI : Cond.static Lib.Math.min.name ∈ TB := tb_in 598 (by decide +kernel) rfl
theorem tc_Math_minI : Cond.code Lib.Math.min.name Lib.Math.min.code 2 (some .int) ∈ TB := tb_in 599 (by decide +kernel) rfl
theorem td_J1_indexOfChar_4cfef : yJ1_indexOfChar_4cfef.cls ≠ "java/lang/invoke/MethodHandle" ∧ yJ1_indexOfChar_4cfef.cls ≠ "java/lang/invoke/VarHandle" ∧ (parseMethodDescriptor yJ1_indexOfChar_4cfef.desc).map (fun d => d.parameters.length) = some 4 := by decide +kernel
theorem tc_J1_indexOfChar_4cfef : Cond.code yJ1_indexOfChar_4cfef cJ1_indexOfChar_4cfef 6 (some .int) ∈ TB := tb_in 622 (by decide +kernel) rfl
theorem tm_RJ1_95 : Cond.methodLink RJ1 95 yJ1_indexOfChar_4cfef ∈ TB := tb_in 620 (by decide +kernel) rfl
theorem tz_J1_indexOfChar_4cfef : Cond.static yJ1_indexOfChar_4cfef ∈ TB := tb_in 621 (by decide +kernel) rfl
theorem td_J0_length_8abf5 : yJ0_length_8abf5.cls ≠ "java/lang/invoke/MethodHandle" ∧ yJ0_length_8abf5.cls ≠ "java/lang/invoke/VarHandle" ∧ (parseMethodDescriptor yJ0_length_8abf5.desc).map (fun d => d.parameters.length) = some 0 := by decide +kernel
theorem tc_J0_length_8abf5 : Cond.code yJ0_length_8abf5 cJ0_length_8abf5 1 (some .int) ∈ TB := tb_in 541 (by decide +kernel) rfl
theorem tm_RJ0_505 : Cond.methodLink RJ0 505 yJ0_length_8abf5 ∈ TB := tb_in 609 (by decide +kernel) rfl
theorem ti_J0_length_8abf5 : Cond.instanceMethod yJ0_length_8abf5 ∈ TB := tb_in 539 (by decide +kernel) rfl
theorem ts_J0_length_8abf5 : Cond.selects RJ0 yJ0_length_8abf5 yJ0_length_8abf5 ∈ TB := tb_in 540 (by decide +kernel) rfl
theorem td_J1_indexOf_4cfef : yJ1_indexOf_4cfef.cls ≠ "java/lang/invoke/MethodHandle" ∧ yJ1_indexOf_4cfef.cls ≠ "java/lang/invoke/VarHandle" ∧ (parseMethodDescriptor yJ1_indexOf_4cfef.desc).map (fun d => d.parameters.length) = some 4 := by decide +kernel
theorem tc_J1_indexOf_4cfef : Cond.code yJ1_indexOf_4cfef cJ1_indexOf_4cfef 4 (some .int) ∈ TB := tb_in 612 (by decide +kernel) rfl
theorem tm_RJ0_637 : Cond.methodLink RJ0 637 yJ1_indexOf_4cfef ∈ TB := tb_in 610 (by decide +kernel) rfl
theorem tz_J1_indexOf_4cfef : Cond.static yJ1_indexOf_4cfef ∈ TB := tb_in 611 (by decide +kernel) rfl
theorem td_J0_indexOf_7cf53 : yJ0_indexOf_7cf53.cls ≠ "java/lang/invoke/MethodHandle" ∧ yJ0_indexOf_7cf53.cls ≠ "java/lang/invoke/VarHandle" ∧ (parseMethodDescriptor yJ0_indexOf_7cf53.desc).map (fun d => d.parameters.length) = some 2 := by decide +kernel
theorem tc_J0_indexOf_7cf53 : Cond.code yJ0_indexOf_7cf53 cJ0_indexOf_7cf53 3 (some .int) ∈ TB := tb_in 608 (by decide +kernel) rfl
theorem tm_RJ0_633 : Cond.methodLink RJ0 633 yJ0_indexOf_7cf53 ∈ TB := tb_in 605 (by decide +kernel) rfl
theorem ti_J0_indexOf_7cf53 : Cond.instanceMethod yJ0_indexOf_7cf53 ∈ TB := tb_in 606 (by decide +kernel) rfl
theorem ts_J0_indexOf_7cf53 : Cond.selects RJ0 yJ0_indexOf_7cf53 yJ0_indexOf_7cf53 ∈ TB := tb_in 607 (by decide +kernel) rfl
theorem tk_RJ6_265 : Cond.constant RJ6 265 (1431655765) ∈ TB := tb_in 813 (by decide +kernel) rfl
theorem tk_RJ6_266 : Cond.constant RJ6 266 (858993459) ∈ TB := tb_in 814 (by decide +kernel) rfl
theorem tk_RJ6_267 : Cond.constant RJ6 267 (252645135) ∈ TB := tb_in 815 (by decide +kernel) rfl
theorem tf_RX0_19 : Cond.fieldLink RX0 19 "ColouredHeap$Book" "count" "I" ∈ TB := tb_in 170 (by decide +kernel) rfl
theorem tf_RX0_15 : Cond.fieldLink RX0 15 "ColouredHeap$Book" "first" "I" ∈ TB := tb_in 169 (by decide +kernel) rfl
theorem tf_RX0_9 : Cond.fieldLink RX0 9 "ColouredHeap$Book" "parts" "[I" ∈ TB := tb_in 168 (by decide +kernel) rfl
theorem td_X0_part : yX0_part.cls ≠ "java/lang/invoke/MethodHandle" ∧ yX0_part.cls ≠ "java/lang/invoke/VarHandle" ∧ (parseMethodDescriptor yX0_part.desc).map (fun d => d.parameters.length) = some 2 := by decide +kernel
theorem tc_X0_part : Cond.code yX0_part cX0_part 4 (some .int) ∈ TB := tb_in 1110 (by decide +kernel) rfl
theorem tm_RX0_28 : Cond.methodLink RX0 28 yX0_part ∈ TB := tb_in 1251 (by decide +kernel) rfl
theorem ti_X0_part : Cond.instanceMethod yX0_part ∈ TB := tb_in 1108 (by decide +kernel) rfl
theorem ts_X0_part : Cond.selects RX0 yX0_part yX0_part ∈ TB := tb_in 1109 (by decide +kernel) rfl
theorem tn_RX0 : Cond.initialized RX0 ∈ TB := tb_in 131 (by decide +kernel) rfl
theorem tm_RX0_22 : Cond.methodLink RX0 22 arraycopyName ∈ TB := tb_in 846 (by decide +kernel) rfl
theorem tv_arraycopy : Cond.native arraycopyName ∈ TB := tb_in 763 (by decide +kernel) rfl
theorem tz_arraycopy : Cond.static arraycopyName ∈ TB := tb_in 762 (by decide +kernel) rfl
theorem tn_System : Cond.initialized "java/lang/System" ∈ TB := tb_in 146 (by decide +kernel) rfl
theorem tf_RX1_9 : Cond.fieldLink RX1 9 "ColouredHeap$Heap" "words" "[I" ∈ TB := tb_in 183 (by decide +kernel) rfl
theorem td_X9_isAddress : yX9_isAddress.cls ≠ "java/lang/invoke/MethodHandle" ∧ yX9_isAddress.cls ≠ "java/lang/invoke/VarHandle" ∧ (parseMethodDescriptor yX9_isAddress.desc).map (fun d => d.parameters.length) = some 1 := by decide +kernel
theorem tc_X9_isAddress : Cond.code yX9_isAddress cX9_isAddress 1 (some .boolean) ∈ TB := tb_in 861 (by decide +kernel) rfl
theorem tz_X9_isAddress : Cond.static yX9_isAddress ∈ TB := tb_in 860 (by decide +kernel) rfl
theorem tn_RX9 : Cond.initialized RX9 ∈ TB := tb_in 129 (by decide +kernel) rfl
theorem td_X9_isRoot : yX9_isRoot.cls ≠ "java/lang/invoke/MethodHandle" ∧ yX9_isRoot.cls ≠ "java/lang/invoke/VarHandle" ∧ (parseMethodDescriptor yX9_isRoot.desc).map (fun d => d.parameters.length) = some 1 := by decide +kernel
theorem tc_X9_isRoot : Cond.code yX9_isRoot cX9_isRoot 1 (some .boolean) ∈ TB := tb_in 779 (by decide +kernel) rfl
theorem tz_X9_isRoot : Cond.static yX9_isRoot ∈ TB := tb_in 778 (by decide +kernel) rfl
theorem tf_RX1_33 : Cond.fieldLink RX1 33 "ColouredHeap$Heap" "roots" "[I" ∈ TB := tb_in 200 (by decide +kernel) rfl
theorem td_X1_sizeAt : yX1_sizeAt.cls ≠ "java/lang/invoke/MethodHandle" ∧ yX1_sizeAt.cls ≠ "java/lang/invoke/VarHandle" ∧ (parseMethodDescriptor yX1_sizeAt.desc).map (fun d => d.parameters.length) = some 1 := by decide +kernel
theorem tc_X1_sizeAt : Cond.code yX1_sizeAt cX1_sizeAt 2 (some .int) ∈ TB := tb_in 893 (by decide +kernel) rfl
theorem tm_RX1_94 : Cond.methodLink RX1 94 yX1_sizeAt ∈ TB := tb_in 890 (by decide +kernel) rfl
theorem ti_X1_sizeAt : Cond.instanceMethod yX1_sizeAt ∈ TB := tb_in 891 (by decide +kernel) rfl
theorem ts_X1_sizeAt : Cond.selects RX1 yX1_sizeAt yX1_sizeAt ∈ TB := tb_in 892 (by decide +kernel) rfl
theorem tn_RX1 : Cond.initialized RX1 ∈ TB := tb_in 130 (by decide +kernel) rfl
theorem tf_RX1_36 : Cond.fieldLink RX1 36 "ColouredHeap$Heap" "givenOn" "[I" ∈ TB := tb_in 203 (by decide +kernel) rfl
theorem td_X9_isPage : yX9_isPage.cls ≠ "java/lang/invoke/MethodHandle" ∧ yX9_isPage.cls ≠ "java/lang/invoke/VarHandle" ∧ (parseMethodDescriptor yX9_isPage.desc).map (fun d => d.parameters.length) = some 1 := by decide +kernel
theorem tc_X9_isPage : Cond.code yX9_isPage cX9_isPage 1 (some .boolean) ∈ TB := tb_in 858 (by decide +kernel) rfl
theorem tz_X9_isPage : Cond.static yX9_isPage ∈ TB := tb_in 857 (by decide +kernel) rfl
theorem tf_RX1_27 : Cond.fieldLink RX1 27 "ColouredHeap$Heap" "used" "[I" ∈ TB := tb_in 193 (by decide +kernel) rfl
theorem tf_RX1_30 : Cond.fieldLink RX1 30 "ColouredHeap$Heap" "states" "[I" ∈ TB := tb_in 197 (by decide +kernel) rfl
theorem tf_RX1_39 : Cond.fieldLink RX1 39 "ColouredHeap$Heap" "readWords" "[I" ∈ TB := tb_in 205 (by decide +kernel) rfl
theorem tf_RX1_62 : Cond.fieldLink RX1 62 "ColouredHeap$Heap" "good" "I" ∈ TB := tb_in 217 (by decide +kernel) rfl
theorem tf_RX1_15 : Cond.fieldLink RX1 15 "ColouredHeap$Heap" "forwards" "[I" ∈ TB := tb_in 185 (by decide +kernel) rfl
theorem tf_RX1_59 : Cond.fieldLink RX1 59 "ColouredHeap$Heap" "phase" "I" ∈ TB := tb_in 214 (by decide +kernel) rfl
theorem td_X1_fieldWord : yX1_fieldWord.cls ≠ "java/lang/invoke/MethodHandle" ∧ yX1_fieldWord.cls ≠ "java/lang/invoke/VarHandle" ∧ (parseMethodDescriptor yX1_fieldWord.desc).map (fun d => d.parameters.length) = some 2 := by decide +kernel
theorem tc_X1_fieldWord : Cond.code yX1_fieldWord cX1_fieldWord 5 (some .int) ∈ TB := tb_in 993 (by decide +kernel) rfl
theorem tm_RX1_150 : Cond.methodLink RX1 150 yX1_fieldWord ∈ TB := tb_in 990 (by decide +kernel) rfl
theorem ti_X1_fieldWord : Cond.instanceMethod yX1_fieldWord ∈ TB := tb_in 991 (by decide +kernel) rfl
theorem ts_X1_fieldWord : Cond.selects RX1 yX1_fieldWord yX1_fieldWord ∈ TB := tb_in 992 (by decide +kernel) rfl
theorem td_X1_hasBegun : yX1_hasBegun.cls ≠ "java/lang/invoke/MethodHandle" ∧ yX1_hasBegun.cls ≠ "java/lang/invoke/VarHandle" ∧ (parseMethodDescriptor yX1_hasBegun.desc).map (fun d => d.parameters.length) = some 1 := by decide +kernel
theorem tc_X1_hasBegun : Cond.code yX1_hasBegun cX1_hasBegun 2 (some .boolean) ∈ TB := tb_in 909 (by decide +kernel) rfl
theorem tm_RX1_101 : Cond.methodLink RX1 101 yX1_hasBegun ∈ TB := tb_in 906 (by decide +kernel) rfl
theorem ti_X1_hasBegun : Cond.instanceMethod yX1_hasBegun ∈ TB := tb_in 907 (by decide +kernel) rfl
theorem ts_X1_hasBegun : Cond.selects RX1 yX1_hasBegun yX1_hasBegun ∈ TB := tb_in 908 (by decide +kernel) rfl
theorem td_X1_leadsTo : yX1_leadsTo.cls ≠ "java/lang/invoke/MethodHandle" ∧ yX1_leadsTo.cls ≠ "java/lang/invoke/VarHandle" ∧ (parseMethodDescriptor yX1_leadsTo.desc).map (fun d => d.parameters.length) = some 1 := by decide +kernel
theorem tc_X1_leadsTo : Cond.code yX1_leadsTo cX1_leadsTo 5 (some .int) ∈ TB := tb_in 934 (by decide +kernel) rfl
theorem tm_RX1_135 : Cond.methodLink RX1 135 yX1_leadsTo ∈ TB := tb_in 931 (by decide +kernel) rfl
theorem ti_X1_leadsTo : Cond.instanceMethod yX1_leadsTo ∈ TB := tb_in 932 (by decide +kernel) rfl
theorem ts_X1_leadsTo : Cond.selects RX1 yX1_leadsTo yX1_leadsTo ∈ TB := tb_in 933 (by decide +kernel) rfl
theorem tf_RX1_42 : Cond.fieldLink RX1 42 "ColouredHeap$Heap" "readPointers" "[I" ∈ TB := tb_in 207 (by decide +kernel) rfl
theorem tf_RX1_45 : Cond.fieldLink RX1 45 "ColouredHeap$Heap" "ownCopies" "[I" ∈ TB := tb_in 208 (by decide +kernel) rfl
theorem td_X1_mustMove : yX1_mustMove.cls ≠ "java/lang/invoke/MethodHandle" ∧ yX1_mustMove.cls ≠ "java/lang/invoke/VarHandle" ∧ (parseMethodDescriptor yX1_mustMove.desc).map (fun d => d.parameters.length) = some 1 := by decide +kernel
theorem tc_X1_mustMove : Cond.code yX1_mustMove cX1_mustMove 2 (some .boolean) ∈ TB := tb_in 885 (by decide +kernel) rfl
theorem tm_RX1_141 : Cond.methodLink RX1 141 yX1_mustMove ∈ TB := tb_in 882 (by decide +kernel) rfl
theorem ti_X1_mustMove : Cond.instanceMethod yX1_mustMove ∈ TB := tb_in 883 (by decide +kernel) rfl
theorem ts_X1_mustMove : Cond.selects RX1 yX1_mustMove yX1_mustMove ∈ TB := tb_in 884 (by decide +kernel) rfl
theorem td_X1_giveOut : yX1_giveOut.cls ≠ "java/lang/invoke/MethodHandle" ∧ yX1_giveOut.cls ≠ "java/lang/invoke/VarHandle" ∧ (parseMethodDescriptor yX1_giveOut.desc).map (fun d => d.parameters.length) = some 2 := by decide +kernel
theorem tc_X1_giveOut : Cond.code yX1_giveOut cX1_giveOut 5 (some .int) ∈ TB := tb_in 855 (by decide +kernel) rfl
theorem tm_RX1_125 : Cond.methodLink RX1 125 yX1_giveOut ∈ TB := tb_in 852 (by decide +kernel) rfl
theorem ti_X1_giveOut : Cond.instanceMethod yX1_giveOut ∈ TB := tb_in 853 (by decide +kernel) rfl
theorem ts_X1_giveOut : Cond.selects RX1 yX1_giveOut yX1_giveOut ∈ TB := tb_in 854 (by decide +kernel) rfl
theorem td_X1_copyWords : yX1_copyWords.cls ≠ "java/lang/invoke/MethodHandle" ∧ yX1_copyWords.cls ≠ "java/lang/invoke/VarHandle" ∧ (parseMethodDescriptor yX1_copyWords.desc).map (fun d => d.parameters.length) = some 3 := by decide +kernel
theorem tc_X1_copyWords : Cond.code yX1_copyWords cX1_copyWords 5 none ∈ TB := tb_in 897 (by decide +kernel) rfl
theorem tm_RX1_128 : Cond.methodLink RX1 128 yX1_copyWords ∈ TB := tb_in 894 (by decide +kernel) rfl
theorem ti_X1_copyWords : Cond.instanceMethod yX1_copyWords ∈ TB := tb_in 895 (by decide +kernel) rfl
theorem ts_X1_copyWords : Cond.selects RX1 yX1_copyWords yX1_copyWords ∈ TB := tb_in 896 (by decide +kernel) rfl
theorem tf_RX1_55 : Cond.fieldLink RX1 55 "ColouredHeap$Heap" "stackSize" "I" ∈ TB := tb_in 211 (by decide +kernel) rfl
theorem td_X1_threadsBegun : yX1_threadsBegun.cls ≠ "java/lang/invoke/MethodHandle" ∧ yX1_threadsBegun.cls ≠ "java/lang/invoke/VarHandle" ∧ (parseMethodDescriptor yX1_threadsBegun.desc).map (fun d => d.parameters.length) = some 0 := by decide +kernel
theorem tc_X1_threadsBegun : Cond.code yX1_threadsBegun cX1_threadsBegun 1 (some .int) ∈ TB := tb_in 905 (by decide +kernel) rfl
theorem tm_RX1_104 : Cond.methodLink RX1 104 yX1_threadsBegun ∈ TB := tb_in 902 (by decide +kernel) rfl
theorem ti_X1_threadsBegun : Cond.instanceMethod yX1_threadsBegun ∈ TB := tb_in 903 (by decide +kernel) rfl
theorem ts_X1_threadsBegun : Cond.selects RX1 yX1_threadsBegun yX1_threadsBegun ∈ TB := tb_in 904 (by decide +kernel) rfl
theorem tm_RX1_111 : Cond.methodLink RX1 111 Lib.Math.max.name ∈ TB := tb_in 922 (by decide +kernel) rfl
theorem tf_RX1_18 : Cond.fieldLink RX1 18 "ColouredHeap$Heap" "marks" "[I" ∈ TB := tb_in 187 (by decide +kernel) rfl
theorem td_X1_clearWords : yX1_clearWords.cls ≠ "java/lang/invoke/MethodHandle" ∧ yX1_clearWords.cls ≠ "java/lang/invoke/VarHandle" ∧ (parseMethodDescriptor yX1_clearWords.desc).map (fun d => d.parameters.length) = some 2 := by decide +kernel
theorem tc_X1_clearWords : Cond.code yX1_clearWords cX1_clearWords 4 none ∈ TB := tb_in 921 (by decide +kernel) rfl
theorem tm_RX1_159 : Cond.methodLink RX1 159 yX1_clearWords ∈ TB := tb_in 918 (by decide +kernel) rfl
theorem ti_X1_clearWords : Cond.instanceMethod yX1_clearWords ∈ TB := tb_in 919 (by decide +kernel) rfl
theorem ts_X1_clearWords : Cond.selects RX1 yX1_clearWords yX1_clearWords ∈ TB := tb_in 920 (by decide +kernel) rfl
theorem tf_RX1_24 : Cond.fieldLink RX1 24 "ColouredHeap$Heap" "live" "[I" ∈ TB := tb_in 190 (by decide +kernel) rfl
theorem tf_RX1_51 : Cond.fieldLink RX1 51 "ColouredHeap$Heap" "book" "LColouredHeap$Book;" ∈ TB := tb_in 209 (by decide +kernel) rfl
theorem tf_RX1_68 : Cond.fieldLink RX1 68 "ColouredHeap$Heap" "clock" "I" ∈ TB := tb_in 221 (by decide +kernel) rfl
theorem td_X0_write : yX0_write.cls ≠ "java/lang/invoke/MethodHandle" ∧ yX0_write.cls ≠ "java/lang/invoke/VarHandle" ∧ (parseMethodDescriptor yX0_write.desc).map (fun d => d.parameters.length) = some 3 := by decide +kernel
theorem tc_X0_write : Cond.code yX0_write cX0_write 5 none ∈ TB := tb_in 869 (by decide +kernel) rfl
theorem tm_RX1_121 : Cond.methodLink RX1 121 yX0_write ∈ TB := tb_in 866 (by decide +kernel) rfl
theorem ti_X0_write : Cond.instanceMethod yX0_write ∈ TB := tb_in 867 (by decide +kernel) rfl
theorem ts_X0_write : Cond.selects RX0 yX0_write yX0_write ∈ TB := tb_in 868 (by decide +kernel) rfl
theorem td_X1_freePage : yX1_freePage.cls ≠ "java/lang/invoke/MethodHandle" ∧ yX1_freePage.cls ≠ "java/lang/invoke/VarHandle" ∧ (parseMethodDescriptor yX1_freePage.desc).map (fun d => d.parameters.length) = some 1 := by decide +kernel
theorem tc_X1_freePage : Cond.code yX1_freePage cX1_freePage 2 none ∈ TB := tb_in 917 (by decide +kernel) rfl
theorem tm_RX1_177 : Cond.methodLink RX1 177 yX1_freePage ∈ TB := tb_in 914 (by decide +kernel) rfl
theorem ti_X1_freePage : Cond.instanceMethod yX1_freePage ∈ TB := tb_in 915 (by decide +kernel) rfl
theorem ts_X1_freePage : Cond.selects RX1 yX1_freePage yX1_freePage ∈ TB := tb_in 916 (by decide +kernel) rfl
theorem td_X1_mark : yX1_mark.cls ≠ "java/lang/invoke/MethodHandle" ∧ yX1_mark.cls ≠ "java/lang/invoke/VarHandle" ∧ (parseMethodDescriptor yX1_mark.desc).map (fun d => d.parameters.length) = some 1 := by decide +kernel
theorem tc_X1_mark : Cond.code yX1_mark cX1_mark 2 none ∈ TB := tb_in 865 (by decide +kernel) rfl
theorem tm_RX1_117 : Cond.methodLink RX1 117 yX1_mark ∈ TB := tb_in 862 (by decide +kernel) rfl
theorem ti_X1_mark : Cond.instanceMethod yX1_mark ∈ TB := tb_in 863 (by decide +kernel) rfl
theorem ts_X1_mark : Cond.selects RX1 yX1_mark yX1_mark ∈ TB := tb_in 864 (by decide +kernel) rfl
theorem tf_RX1_21 : Cond.fieldLink RX1 21 "ColouredHeap$Heap" "stack" "[I" ∈ TB := tb_in 189 (by decide +kernel) rfl
theorem td_X1_tellForward : yX1_tellForward.cls ≠ "java/lang/invoke/MethodHandle" ∧ yX1_tellForward.cls ≠ "java/lang/invoke/VarHandle" ∧ (parseMethodDescriptor yX1_tellForward.desc).map (fun d => d.parameters.length) = some 2 := by decide +kernel
theorem tc_X1_tellForward : Cond.code yX1_tellForward cX1_tellForward 3 none ∈ TB := tb_in 901 (by decide +kernel) rfl
theorem tm_RX1_131 : Cond.methodLink RX1 131 yX1_tellForward ∈ TB := tb_in 898 (by decide +kernel) rfl
theorem ti_X1_tellForward : Cond.instanceMethod yX1_tellForward ∈ TB := tb_in 899 (by decide +kernel) rfl
theorem ts_X1_tellForward : Cond.selects RX1 yX1_tellForward yX1_tellForward ∈ TB := tb_in 900 (by decide +kernel) rfl
theorem td_X1_moveObject : yX1_moveObject.cls ≠ "java/lang/invoke/MethodHandle" ∧ yX1_moveObject.cls ≠ "java/lang/invoke/VarHandle" ∧ (parseMethodDescriptor yX1_moveObject.desc).map (fun d => d.parameters.length) = some 1 := by decide +kernel
theorem tc_X1_moveObject : Cond.code yX1_moveObject cX1_moveObject 4 (some .int) ∈ TB := tb_in 889 (by decide +kernel) rfl
theorem tm_RX1_144 : Cond.methodLink RX1 144 yX1_moveObject ∈ TB := tb_in 886 (by decide +kernel) rfl
theorem ti_X1_moveObject : Cond.instanceMethod yX1_moveObject ∈ TB := tb_in 887 (by decide +kernel) rfl
theorem ts_X1_moveObject : Cond.selects RX1 yX1_moveObject yX1_moveObject ∈ TB := tb_in 888 (by decide +kernel) rfl
theorem td_X1_markAndStack : yX1_markAndStack.cls ≠ "java/lang/invoke/MethodHandle" ∧ yX1_markAndStack.cls ≠ "java/lang/invoke/VarHandle" ∧ (parseMethodDescriptor yX1_markAndStack.desc).map (fun d => d.parameters.length) = some 1 := by decide +kernel
theorem tc_X1_markAndStack : Cond.code yX1_markAndStack cX1_markAndStack 2 none ∈ TB := tb_in 938 (by decide +kernel) rfl
theorem tm_RX1_138 : Cond.methodLink RX1 138 yX1_markAndStack ∈ TB := tb_in 935 (by decide +kernel) rfl
theorem ti_X1_markAndStack : Cond.instanceMethod yX1_markAndStack ∈ TB := tb_in 936 (by decide +kernel) rfl
theorem ts_X1_markAndStack : Cond.selects RX1 yX1_markAndStack yX1_markAndStack ∈ TB := tb_in 937 (by decide +kernel) rfl
theorem td_X1_settleCopy : yX1_settleCopy.cls ≠ "java/lang/invoke/MethodHandle" ∧ yX1_settleCopy.cls ≠ "java/lang/invoke/VarHandle" ∧ (parseMethodDescriptor yX1_settleCopy.desc).map (fun d => d.parameters.length) = some 2 := by decide +kernel
theorem tc_X1_settleCopy : Cond.code yX1_settleCopy cX1_settleCopy 5 none ∈ TB := tb_in 1030 (by decide +kernel) rfl
theorem tm_RX1_156 : Cond.methodLink RX1 156 yX1_settleCopy ∈ TB := tb_in 1027 (by decide +kernel) rfl
theorem ti_X1_settleCopy : Cond.instanceMethod yX1_settleCopy ∈ TB := tb_in 1028 (by decide +kernel) rfl
theorem ts_X1_settleCopy : Cond.selects RX1 yX1_settleCopy yX1_settleCopy ∈ TB := tb_in 1029 (by decide +kernel) rfl
theorem td_X1_mend : yX1_mend.cls ≠ "java/lang/invoke/MethodHandle" ∧ yX1_mend.cls ≠ "java/lang/invoke/VarHandle" ∧ (parseMethodDescriptor yX1_mend.desc).map (fun d => d.parameters.length) = some 1 := by decide +kernel
theorem tc_X1_mend : Cond.code yX1_mend cX1_mend 3 (some .int) ∈ TB := tb_in 930 (by decide +kernel) rfl
theorem tm_RX1_147 : Cond.methodLink RX1 147 yX1_mend ∈ TB := tb_in 927 (by decide +kernel) rfl
theorem ti_X1_mend : Cond.instanceMethod yX1_mend ∈ TB := tb_in 928 (by decide +kernel) rfl
theorem ts_X1_mend : Cond.selects RX1 yX1_mend yX1_mend ∈ TB := tb_in 929 (by decide +kernel) rfl
theorem td_X1_writeMended : yX1_writeMended.cls ≠ "java/lang/invoke/MethodHandle" ∧ yX1_writeMended.cls ≠ "java/lang/invoke/VarHandle" ∧ (parseMethodDescriptor yX1_writeMended.desc).map (fun d => d.parameters.length) = some 2 := by decide +kernel
theorem tc_X1_writeMended : Cond.code yX1_writeMended cX1_writeMended 3 none ∈ TB := tb_in 942 (by decide +kernel) rfl
theorem tm_RX1_153 : Cond.methodLink RX1 153 yX1_writeMended ∈ TB := tb_in 939 (by decide +kernel) rfl
theorem ti_X1_writeMended : Cond.instanceMethod yX1_writeMended ∈ TB := tb_in 940 (by decide +kernel) rfl
theorem ts_X1_writeMended : Cond.selects RX1 yX1_writeMended yX1_writeMended ∈ TB := tb_in 941 (by decide +kernel) rfl
theorem td_X1_mayBeEmptied : yX1_mayBeEmptied.cls ≠ "java/lang/invoke/MethodHandle" ∧ yX1_mayBeEmptied.cls ≠ "java/lang/invoke/VarHandle" ∧ (parseMethodDescriptor yX1_mayBeEmptied.desc).map (fun d => d.parameters.length) = some 1 := by decide +kernel
theorem tc_X1_mayBeEmptied : Cond.code yX1_mayBeEmptied cX1_mayBeEmptied 2 (some .boolean) ∈ TB := tb_in 958 (by decide +kernel) rfl
theorem tm_RX1_174 : Cond.methodLink RX1 174 yX1_mayBeEmptied ∈ TB := tb_in 955 (by decide +kernel) rfl
theorem ti_X1_mayBeEmptied : Cond.instanceMethod yX1_mayBeEmptied ∈ TB := tb_in 956 (by decide +kernel) rfl
theorem ts_X1_mayBeEmptied : Cond.selects RX1 yX1_mayBeEmptied yX1_mayBeEmptied ∈ TB := tb_in 957 (by decide +kernel) rfl
theorem td_X1_endMoving : yX1_endMoving.cls ≠ "java/lang/invoke/MethodHandle" ∧ yX1_endMoving.cls ≠ "java/lang/invoke/VarHandle" ∧ (parseMethodDescriptor yX1_endMoving.desc).map (fun d => d.parameters.length) = some 0 := by decide +kernel
theorem tc_X1_endMoving : Cond.code yX1_endMoving cX1_endMoving 2 none ∈ TB := tb_in 913 (by decide +kernel) rfl
theorem tm_RX1_189 : Cond.methodLink RX1 189 yX1_endMoving ∈ TB := tb_in 910 (by decide +kernel) rfl
theorem ti_X1_endMoving : Cond.instanceMethod yX1_endMoving ∈ TB := tb_in 911 (by decide +kernel) rfl
theorem ts_X1_endMoving : Cond.selects RX1 yX1_endMoving yX1_endMoving ∈ TB := tb_in 912 (by decide +kernel) rfl
theorem tf_RX3_30 : Cond.fieldLink RX3 30 "ColouredHeap$Heap" "live" "[I" ∈ TB := tb_in 191 (by decide +kernel) rfl
theorem tf_RX3_35 : Cond.fieldLink RX3 35 "ColouredHeap$Heap" "used" "[I" ∈ TB := tb_in 194 (by decide +kernel) rfl
theorem tf_RX3_94 : Cond.fieldLink RX3 94 "ColouredHeap$Heap" "clock" "I" ∈ TB := tb_in 222 (by decide +kernel) rfl
theorem tf_RX3_97 : Cond.fieldLink RX3 97 "ColouredHeap$Heap" "phase" "I" ∈ TB := tb_in 215 (by decide +kernel) rfl
theorem tf_RX3_100 : Cond.fieldLink RX3 100 "ColouredHeap$Heap" "stackSize" "I" ∈ TB := tb_in 212 (by decide +kernel) rfl
theorem tf_RX3_15 : Cond.fieldLink RX3 15 "ColouredHeap$Law" "size" "I" ∈ TB := tb_in 446 (by decide +kernel) rfl
theorem tf_RX3_9 : Cond.fieldLink RX3 9 "ColouredHeap$Law" "stack" "[I" ∈ TB := tb_in 445 (by decide +kernel) rfl
theorem tk_RX3_103 : Cond.constantLong RX3 103 (-1000000) ∈ TB := tb_in 798 (by decide +kernel) rfl
theorem tk_RX3_105 : Cond.constantLong RX3 105 (1000000) ∈ TB := tb_in 799 (by decide +kernel) rfl
theorem tm_RX3_107 : Cond.methodLink RX3 107 Lib.MathLoose.min_long.x ∈ TB := tb_in 800 (by decide +kernel) rfl
theorem tz_Math_minJ : Cond.static Lib.MathLoose.min_long.x ∈ TB := tb_in 801 (by decide +kernel) rfl
theorem tc_Math_minJ : Cond.code Lib.MathLoose.min_long.x Lib.MathLoose.min_long.code 4 (some .long) ∈ TB := tb_in 802 (by decide +kernel) rfl
theorem tm_RX3_110 : Cond.methodLink RX3 110 Lib.MathLoose.max_long.x ∈ TB := tb_in 803 (by decide +kernel) rfl
theorem tz_Math_maxJ : Cond.static Lib.MathLoose.max_long.x ∈ TB := tb_in 804 (by decide +kernel) rfl
theorem tc_Math_maxJ : Cond.code Lib.MathLoose.max_long.x Lib.MathLoose.max_long.code 4 (some .long) ∈ TB := tb_in 805 (by decide +kernel) rfl
theorem tf_RX3_51 : Cond.fieldLink RX3 51 "ColouredHeap$Text" "lawStarts" "[I" ∈ TB := tb_in 370 (by decide +kernel) rfl
theorem tf_RX3_54 : Cond.fieldLink RX3 54 "ColouredHeap$Text" "lawEnds" "[I" ∈ TB := tb_in 373 (by decide +kernel) rfl
theorem tm_RX3_42 : Cond.methodLink RX3 42 Lib.Math.min.name ∈ TB := tb_in 789 (by decide +kernel) rfl
theorem tf_RX3_57 : Cond.fieldLink RX3 57 "ColouredHeap$Text" "operations" "[I" ∈ TB := tb_in 366 (by decide +kernel) rfl
theorem tf_RX3_60 : Cond.fieldLink RX3 60 "ColouredHeap$Text" "operands" "[I" ∈ TB := tb_in 368 (by decide +kernel) rfl
theorem td_X3_isOfOne : yX3_isOfOne.cls ≠ "java/lang/invoke/MethodHandle" ∧ yX3_isOfOne.cls ≠ "java/lang/invoke/VarHandle" ∧ (parseMethodDescriptor yX3_isOfOne.desc).map (fun d => d.parameters.length) = some 1 := by decide +kernel
theorem tc_X3_isOfOne : Cond.code yX3_isOfOne cX3_isOfOne 1 (some .boolean) ∈ TB := tb_in 821 (by decide +kernel) rfl
theorem tm_RX3_84 : Cond.methodLink RX3 84 yX3_isOfOne ∈ TB := tb_in 819 (by decide +kernel) rfl
theorem tz_X3_isOfOne : Cond.static yX3_isOfOne ∈ TB := tb_in 820 (by decide +kernel) rfl
theorem tn_RX3 : Cond.initialized RX3 ∈ TB := tb_in 138 (by decide +kernel) rfl
theorem td_X3_pop : yX3_pop.cls ≠ "java/lang/invoke/MethodHandle" ∧ yX3_pop.cls ≠ "java/lang/invoke/VarHandle" ∧ (parseMethodDescriptor yX3_pop.desc).map (fun d => d.parameters.length) = some 0 := by decide +kernel
theorem tc_X3_pop : Cond.code yX3_pop cX3_pop 1 (some .int) ∈ TB := tb_in 793 (by decide +kernel) rfl
theorem tm_RX3_63 : Cond.methodLink RX3 63 yX3_pop ∈ TB := tb_in 790 (by decide +kernel) rfl
theorem ti_X3_pop : Cond.instanceMethod yX3_pop ∈ TB := tb_in 792 (by decide +kernel) rfl
theorem ts_X3_pop : Cond.selects RX3 yX3_pop yX3_pop ∈ TB := tb_in 28 (by decide +kernel) rfl
theorem td_X3_joined : yX3_joined.cls ≠ "java/lang/invoke/MethodHandle" ∧ yX3_joined.cls ≠ "java/lang/invoke/VarHandle" ∧ (parseMethodDescriptor yX3_joined.desc).map (fun d => d.parameters.length) = some 3 := by decide +kernel
theorem tc_X3_joined : Cond.code yX3_joined cX3_joined 3 (some .long) ∈ TB := tb_in 827 (by decide +kernel) rfl
theorem tm_RX3_90 : Cond.methodLink RX3 90 yX3_joined ∈ TB := tb_in 825 (by decide +kernel) rfl
theorem tz_X3_joined : Cond.static yX3_joined ∈ TB := tb_in 826 (by decide +kernel) rfl
theorem td_X3_push : yX3_push.cls ≠ "java/lang/invoke/MethodHandle" ∧ yX3_push.cls ≠ "java/lang/invoke/VarHandle" ∧ (parseMethodDescriptor yX3_push.desc).map (fun d => d.parameters.length) = some 1 := by decide +kernel
theorem tc_X3_push : Cond.code yX3_push cX3_push 3 none ∈ TB := tb_in 797 (by decide +kernel) rfl
theorem tm_RX3_67 : Cond.methodLink RX3 67 yX3_push ∈ TB := tb_in 794 (by decide +kernel) rfl
theorem ti_X3_push : Cond.instanceMethod yX3_push ∈ TB := tb_in 796 (by decide +kernel) rfl
theorem ts_X3_push : Cond.selects RX3 yX3_push yX3_push ∈ TB := tb_in 29 (by decide +kernel) rfl
theorem td_X3_changed : yX3_changed.cls ≠ "java/lang/invoke/MethodHandle" ∧ yX3_changed.cls ≠ "java/lang/invoke/VarHandle" ∧ (parseMethodDescriptor yX3_changed.desc).map (fun d => d.parameters.length) = some 3 := by decide +kernel
theorem tc_X3_changed : Cond.code yX3_changed cX3_changed 4 (some .int) ∈ TB := tb_in 824 (by decide +kernel) rfl
theorem tm_RX3_87 : Cond.methodLink RX3 87 yX3_changed ∈ TB := tb_in 822 (by decide +kernel) rfl
theorem tz_X3_changed : Cond.static yX3_changed ∈ TB := tb_in 823 (by decide +kernel) rfl
theorem td_X3_named : yX3_named.cls ≠ "java/lang/invoke/MethodHandle" ∧ yX3_named.cls ≠ "java/lang/invoke/VarHandle" ∧ (parseMethodDescriptor yX3_named.desc).map (fun d => d.parameters.length) = some 3 := by decide +kernel
theorem tc_X3_named : Cond.code yX3_named cX3_named 4 (some .int) ∈ TB := tb_in 818 (by decide +kernel) rfl
theorem tm_RX3_80 : Cond.methodLink RX3 80 yX3_named ∈ TB := tb_in 816 (by decide +kernel) rfl
theorem tz_X3_named : Cond.static yX3_named ∈ TB := tb_in 817 (by decide +kernel) rfl
theorem td_X1_freePages : yX1_freePages.cls ≠ "java/lang/invoke/MethodHandle" ∧ yX1_freePages.cls ≠ "java/lang/invoke/VarHandle" ∧ (parseMethodDescriptor yX1_freePages.desc).map (fun d => d.parameters.length) = some 0 := by decide +kernel
theorem tc_X1_freePages : Cond.code yX1_freePages cX1_freePages 3 (some .int) ∈ TB := tb_in 809 (by decide +kernel) rfl
theorem tm_RX3_71 : Cond.methodLink RX3 71 yX1_freePages ∈ TB := tb_in 806 (by decide +kernel) rfl
theorem ti_X1_freePages : Cond.instanceMethod yX1_freePages ∈ TB := tb_in 807 (by decide +kernel) rfl
theorem ts_X1_freePages : Cond.selects RX1 yX1_freePages yX1_freePages ∈ TB := tb_in 808 (by decide +kernel) rfl
theorem td_J6_bitCount_0f7a4 : yJ6_bitCount_0f7a4.cls ≠ "java/lang/invoke/MethodHandle" ∧ yJ6_bitCount_0f7a4.cls ≠ "java/lang/invoke/VarHandle" ∧ (parseMethodDescriptor yJ6_bitCount_0f7a4.desc).map (fun d => d.parameters.length) = some 1 := by decide +kernel
theorem tc_J6_bitCount_0f7a4 : Cond.code yJ6_bitCount_0f7a4 cJ6_bitCount_0f7a4 1 (some .int) ∈ TB := tb_in 812 (by decide +kernel) rfl
theorem tm_RX3_74 : Cond.methodLink RX3 74 yJ6_bitCount_0f7a4 ∈ TB := tb_in 810 (by decide +kernel) rfl
theorem tz_J6_bitCount_0f7a4 : Cond.static yJ6_bitCount_0f7a4 ∈ TB := tb_in 811 (by decide +kernel) rfl
theorem tn_RJ6 : Cond.initialized RJ6 ∈ TB := tb_in 147 (by decide +kernel) rfl
theorem tf_RX7_30 : Cond.fieldLink RX7 30 "ColouredHeap$Text" "lawStarts" "[I" ∈ TB := tb_in 369 (by decide +kernel) rfl
theorem td_X7_hasLaw : yX7_hasLaw.cls ≠ "java/lang/invoke/MethodHandle" ∧ yX7_hasLaw.cls ≠ "java/lang/invoke/VarHandle" ∧ (parseMethodDescriptor yX7_hasLaw.desc).map (fun d => d.parameters.length) = some 1 := by decide +kernel
theorem tc_X7_hasLaw : Cond.code yX7_hasLaw cX7_hasLaw 2 (some .boolean) ∈ TB := tb_in 677 (by decide +kernel) rfl
theorem tm_RX3_25 : Cond.methodLink RX3 25 yX7_hasLaw ∈ TB := tb_in 784 (by decide +kernel) rfl
theorem ti_X7_hasLaw : Cond.instanceMethod yX7_hasLaw ∈ TB := tb_in 675 (by decide +kernel) rfl
theorem ts_X7_hasLaw : Cond.selects RX7 yX7_hasLaw yX7_hasLaw ∈ TB := tb_in 676 (by decide +kernel) rfl
theorem tn_RX7 : Cond.initialized RX7 ∈ TB := tb_in 137 (by decide +kernel) rfl
theorem td_X3_value : yX3_value.cls ≠ "java/lang/invoke/MethodHandle" ∧ yX3_value.cls ≠ "java/lang/invoke/VarHandle" ∧ (parseMethodDescriptor yX3_value.desc).map (fun d => d.parameters.length) = some 4 := by decide +kernel
theorem tc_X3_value : Cond.code yX3_value cX3_value 11 (some .int) ∈ TB := tb_in 788 (by decide +kernel) rfl
theorem tm_RX3_38 : Cond.methodLink RX3 38 yX3_value ∈ TB := tb_in 785 (by decide +kernel) rfl
theorem ti_X3_value : Cond.instanceMethod yX3_value ∈ TB := tb_in 787 (by decide +kernel) rfl
theorem ts_X3_value : Cond.selects RX3 yX3_value yX3_value ∈ TB := tb_in 27 (by decide +kernel) rfl
theorem tm_RX1_180 : Cond.methodLink RX1 180 yX1_freePages ∈ TB := tb_in 963 (by decide +kernel) rfl
theorem tm_RX1_169 : Cond.methodLink RX1 169 yJ6_bitCount_0f7a4 ∈ TB := tb_in 964 (by decide +kernel) rfl
theorem td_X3_picked : yX3_picked.cls ≠ "java/lang/invoke/MethodHandle" ∧ yX3_picked.cls ≠ "java/lang/invoke/VarHandle" ∧ (parseMethodDescriptor yX3_picked.desc).map (fun d => d.parameters.length) = some 3 := by decide +kernel
theorem tc_X3_picked : Cond.code yX3_picked cX3_picked 4 (some .boolean) ∈ TB := tb_in 968 (by decide +kernel) rfl
theorem tm_RX1_183 : Cond.methodLink RX1 183 yX3_picked ∈ TB := tb_in 965 (by decide +kernel) rfl
theorem ti_X3_picked : Cond.instanceMethod yX3_picked ∈ TB := tb_in 966 (by decide +kernel) rfl
theorem ts_X3_picked : Cond.selects RX3 yX3_picked yX3_picked ∈ TB := tb_in 967 (by decide +kernel) rfl
theorem tm_RX1_80 : Cond.methodLink RX1 80 arraycopyName ∈ TB := tb_in 841 (by decide +kernel) rfl
theorem td_X0_takeOver : yX0_takeOver.cls ≠ "java/lang/invoke/MethodHandle" ∧ yX0_takeOver.cls ≠ "java/lang/invoke/VarHandle" ∧ (parseMethodDescriptor yX0_takeOver.desc).map (fun d => d.parameters.length) = some 1 := by decide +kernel
theorem tc_X0_takeOver : Cond.code yX0_takeOver cX0_takeOver 2 none ∈ TB := tb_in 845 (by decide +kernel) rfl
theorem tm_RX1_86 : Cond.methodLink RX1 86 yX0_takeOver ∈ TB := tb_in 842 (by decide +kernel) rfl
theorem ti_X0_takeOver : Cond.instanceMethod yX0_takeOver ∈ TB := tb_in 843 (by decide +kernel) rfl
theorem ts_X0_takeOver : Cond.selects RX0 yX0_takeOver yX0_takeOver ∈ TB := tb_in 844 (by decide +kernel) rfl
theorem tf_RX1_65 : Cond.fieldLink RX1 65 "ColouredHeap$Heap" "latestMark" "I" ∈ TB := tb_in 220 (by decide +kernel) rfl
theorem tf_RX1_71 : Cond.fieldLink RX1 71 "ColouredHeap$Heap" "x" "I" ∈ TB := tb_in 224 (by decide +kernel) rfl
theorem td_J7_fill_53178 : yJ7_fill_53178.cls ≠ "java/lang/invoke/MethodHandle" ∧ yJ7_fill_53178.cls ≠ "java/lang/invoke/VarHandle" ∧ (parseMethodDescriptor yJ7_fill_53178.desc).map (fun d => d.parameters.length) = some 2 := by decide +kernel
theorem tc_J7_fill_53178 : Cond.code yJ7_fill_53178 cJ7_fill_53178 4 none ∈ TB := tb_in 182 (by decide +kernel) rfl
theorem tm_RX1_74 : Cond.methodLink RX1 74 yJ7_fill_53178 ∈ TB := tb_in 180 (by decide +kernel) rfl
theorem tz_J7_fill_53178 : Cond.static yJ7_fill_53178 ∈ TB := tb_in 181 (by decide +kernel) rfl
theorem tn_RJ7 : Cond.initialized RJ7 ∈ TB := tb_in 132 (by decide +kernel) rfl
theorem td_X1_freePagesWithoutLife : yX1_freePagesWithoutLife.cls ≠ "java/lang/invoke/MethodHandle" ∧ yX1_freePagesWithoutLife.cls ≠ "java/lang/invoke/VarHandle" ∧ (parseMethodDescriptor yX1_freePagesWithoutLife.desc).map (fun d => d.parameters.length) = some 0 := by decide +kernel
theorem tc_X1_freePagesWithoutLife : Cond.code yX1_freePagesWithoutLife cX1_freePagesWithoutLife 2 none ∈ TB := tb_in 954 (by decide +kernel) rfl
theorem tm_RX1_162 : Cond.methodLink RX1 162 yX1_freePagesWithoutLife ∈ TB := tb_in 951 (by decide +kernel) rfl
theorem ti_X1_freePagesWithoutLife : Cond.instanceMethod yX1_freePagesWithoutLife ∈ TB := tb_in 952 (by decide +kernel) rfl
theorem ts_X1_freePagesWithoutLife : Cond.selects RX1 yX1_freePagesWithoutLife yX1_freePagesWithoutLife ∈ TB := tb_in 953 (by decide +kernel) rfl
theorem td_X1_pickPages : yX1_pickPages.cls ≠ "java/lang/invoke/MethodHandle" ∧ yX1_pickPages.cls ≠ "java/lang/invoke/VarHandle" ∧ (parseMethodDescriptor yX1_pickPages.desc).map (fun d => d.parameters.length) = some 2 := by decide +kernel
theorem tc_X1_pickPages : Cond.code yX1_pickPages cX1_pickPages 7 (some .int) ∈ TB := tb_in 962 (by decide +kernel) rfl
theorem tm_RX1_165 : Cond.methodLink RX1 165 yX1_pickPages ∈ TB := tb_in 959 (by decide +kernel) rfl
theorem ti_X1_pickPages : Cond.instanceMethod yX1_pickPages ∈ TB := tb_in 960 (by decide +kernel) rfl
theorem ts_X1_pickPages : Cond.selects RX1 yX1_pickPages yX1_pickPages ∈ TB := tb_in 961 (by decide +kernel) rfl
theorem td_X1_canChoose : yX1_canChoose.cls ≠ "java/lang/invoke/MethodHandle" ∧ yX1_canChoose.cls ≠ "java/lang/invoke/VarHandle" ∧ (parseMethodDescriptor yX1_canChoose.desc).map (fun d => d.parameters.length) = some 0 := by decide +kernel
theorem tc_X1_canChoose : Cond.code yX1_canChoose cX1_canChoose 1 (some .boolean) ∈ TB := tb_in 946 (by decide +kernel) rfl
theorem tm_RX1_198 : Cond.methodLink RX1 198 yX1_canChoose ∈ TB := tb_in 943 (by decide +kernel) rfl
theorem ti_X1_canChoose : Cond.instanceMethod yX1_canChoose ∈ TB := tb_in 944 (by decide +kernel) rfl
theorem ts_X1_canChoose : Cond.selects RX1 yX1_canChoose yX1_canChoose ∈ TB := tb_in 945 (by decide +kernel) rfl
theorem td_X1_canMark : yX1_canMark.cls ≠ "java/lang/invoke/MethodHandle" ∧ yX1_canMark.cls ≠ "java/lang/invoke/VarHandle" ∧ (parseMethodDescriptor yX1_canMark.desc).map (fun d => d.parameters.length) = some 0 := by decide +kernel
theorem tc_X1_canMark : Cond.code yX1_canMark cX1_canMark 1 (some .boolean) ∈ TB := tb_in 977 (by decide +kernel) rfl
theorem tm_RX1_208 : Cond.methodLink RX1 208 yX1_canMark ∈ TB := tb_in 974 (by decide +kernel) rfl
theorem ti_X1_canMark : Cond.instanceMethod yX1_canMark ∈ TB := tb_in 975 (by decide +kernel) rfl
theorem ts_X1_canMark : Cond.selects RX1 yX1_canMark yX1_canMark ∈ TB := tb_in 976 (by decide +kernel) rfl
theorem td_X1_turnToMarking : yX1_turnToMarking.cls ≠ "java/lang/invoke/MethodHandle" ∧ yX1_turnToMarking.cls ≠ "java/lang/invoke/VarHandle" ∧ (parseMethodDescriptor yX1_turnToMarking.desc).map (fun d => d.parameters.length) = some 0 := by decide +kernel
theorem tc_X1_turnToMarking : Cond.code yX1_turnToMarking cX1_turnToMarking 1 none ∈ TB := tb_in 981 (by decide +kernel) rfl
theorem tm_RX1_211 : Cond.methodLink RX1 211 yX1_turnToMarking ∈ TB := tb_in 978 (by decide +kernel) rfl
theorem ti_X1_turnToMarking : Cond.instanceMethod yX1_turnToMarking ∈ TB := tb_in 979 (by decide +kernel) rfl
theorem ts_X1_turnToMarking : Cond.selects RX1 yX1_turnToMarking yX1_turnToMarking ∈ TB := tb_in 980 (by decide +kernel) rfl
theorem td_X1_mendRoots : yX1_mendRoots.cls ≠ "java/lang/invoke/MethodHandle" ∧ yX1_mendRoots.cls ≠ "java/lang/invoke/VarHandle" ∧ (parseMethodDescriptor yX1_mendRoots.desc).map (fun d => d.parameters.length) = some 0 := by decide +kernel
theorem tc_X1_mendRoots : Cond.code yX1_mendRoots cX1_mendRoots 3 none ∈ TB := tb_in 973 (by decide +kernel) rfl
theorem tm_RX1_205 : Cond.methodLink RX1 205 yX1_mendRoots ∈ TB := tb_in 970 (by decide +kernel) rfl
theorem ti_X1_mendRoots : Cond.instanceMethod yX1_mendRoots ∈ TB := tb_in 971 (by decide +kernel) rfl
theorem ts_X1_mendRoots : Cond.selects RX1 yX1_mendRoots yX1_mendRoots ∈ TB := tb_in 972 (by decide +kernel) rfl
theorem td_X1_turnToMoving : yX1_turnToMoving.cls ≠ "java/lang/invoke/MethodHandle" ∧ yX1_turnToMoving.cls ≠ "java/lang/invoke/VarHandle" ∧ (parseMethodDescriptor yX1_turnToMoving.desc).map (fun d => d.parameters.length) = some 2 := by decide +kernel
theorem tc_X1_turnToMoving : Cond.code yX1_turnToMoving cX1_turnToMoving 4 (some .int) ∈ TB := tb_in 950 (by decide +kernel) rfl
theorem tm_RX1_202 : Cond.methodLink RX1 202 yX1_turnToMoving ∈ TB := tb_in 947 (by decide +kernel) rfl
theorem ti_X1_turnToMoving : Cond.instanceMethod yX1_turnToMoving ∈ TB := tb_in 948 (by decide +kernel) rfl
theorem ts_X1_turnToMoving : Cond.selects RX1 yX1_turnToMoving yX1_turnToMoving ∈ TB := tb_in 949 (by decide +kernel) rfl
theorem td_X1_markOne : yX1_markOne.cls ≠ "java/lang/invoke/MethodHandle" ∧ yX1_markOne.cls ≠ "java/lang/invoke/VarHandle" ∧ (parseMethodDescriptor yX1_markOne.desc).map (fun d => d.parameters.length) = some 0 := by decide +kernel
theorem tc_X1_markOne : Cond.code yX1_markOne cX1_markOne 4 none ∈ TB := tb_in 926 (by decide +kernel) rfl
theorem tm_RX1_195 : Cond.methodLink RX1 195 yX1_markOne ∈ TB := tb_in 923 (by decide +kernel) rfl
theorem ti_X1_markOne : Cond.instanceMethod yX1_markOne ∈ TB := tb_in 924 (by decide +kernel) rfl
theorem ts_X1_markOne : Cond.selects RX1 yX1_markOne yX1_markOne ∈ TB := tb_in 925 (by decide +kernel) rfl
theorem td_X1_moveOne : yX1_moveOne.cls ≠ "java/lang/invoke/MethodHandle" ∧ yX1_moveOne.cls ≠ "java/lang/invoke/VarHandle" ∧ (parseMethodDescriptor yX1_moveOne.desc).map (fun d => d.parameters.length) = some 0 := by decide +kernel
theorem tc_X1_moveOne : Cond.code yX1_moveOne cX1_moveOne 2 none ∈ TB := tb_in 881 (by decide +kernel) rfl
theorem tm_RX1_192 : Cond.methodLink RX1 192 yX1_moveOne ∈ TB := tb_in 878 (by decide +kernel) rfl
theorem ti_X1_moveOne : Cond.instanceMethod yX1_moveOne ∈ TB := tb_in 879 (by decide +kernel) rfl
theorem ts_X1_moveOne : Cond.selects RX1 yX1_moveOne yX1_moveOne ∈ TB := tb_in 880 (by decide +kernel) rfl
theorem tm_RX3_48 : Cond.methodLink RX3 48 Lib.Math.max.name ∈ TB := tb_in 828 (by decide +kernel) rfl
theorem tf_RX4_31 : Cond.fieldLink RX4 31 "ColouredHeap$Reader" "length" "I" ∈ TB := tb_in 407 (by decide +kernel) rfl
theorem tf_RX4_9 : Cond.fieldLink RX4 9 "ColouredHeap$Reader" "tape" "[I" ∈ TB := tb_in 401 (by decide +kernel) rfl
theorem tf_RX4_41 : Cond.fieldLink RX4 41 "ColouredHeap$Reader" "tokens" "I" ∈ TB := tb_in 413 (by decide +kernel) rfl
theorem tf_RX4_15 : Cond.fieldLink RX4 15 "ColouredHeap$Reader" "kinds" "[I" ∈ TB := tb_in 402 (by decide +kernel) rfl
theorem tf_RX4_18 : Cond.fieldLink RX4 18 "ColouredHeap$Reader" "places" "[I" ∈ TB := tb_in 403 (by decide +kernel) rfl
theorem tf_RX4_21 : Cond.fieldLink RX4 21 "ColouredHeap$Reader" "numbers" "[I" ∈ TB := tb_in 404 (by decide +kernel) rfl
theorem tf_RX7_40 : Cond.fieldLink RX7 40 "ColouredHeap$Text" "codeLength" "I" ∈ TB := tb_in 378 (by decide +kernel) rfl
theorem tf_RX7_24 : Cond.fieldLink RX7 24 "ColouredHeap$Text" "operations" "[I" ∈ TB := tb_in 365 (by decide +kernel) rfl
theorem tf_RX7_27 : Cond.fieldLink RX7 27 "ColouredHeap$Text" "operands" "[I" ∈ TB := tb_in 367 (by decide +kernel) rfl
theorem tf_RX4_35 : Cond.fieldLink RX4 35 "ColouredHeap$Reader" "fault" "I" ∈ TB := tb_in 409 (by decide +kernel) rfl
theorem tf_RX4_27 : Cond.fieldLink RX4 27 "ColouredHeap$Reader" "draft" "LColouredHeap$Text;" ∈ TB := tb_in 405 (by decide +kernel) rfl
theorem td_X7_addCode : yX7_addCode.cls ≠ "java/lang/invoke/MethodHandle" ∧ yX7_addCode.cls ≠ "java/lang/invoke/VarHandle" ∧ (parseMethodDescriptor yX7_addCode.desc).map (fun d => d.parameters.length) = some 2 := by decide +kernel
theorem tc_X7_addCode : Cond.code yX7_addCode cX7_addCode 3 (some .int) ∈ TB := tb_in 705 (by decide +kernel) rfl
theorem tm_RX4_155 : Cond.methodLink RX4 155 yX7_addCode ∈ TB := tb_in 702 (by decide +kernel) rfl
theorem ti_X7_addCode : Cond.instanceMethod yX7_addCode ∈ TB := tb_in 703 (by decide +kernel) rfl
theorem ts_X7_addCode : Cond.selects RX7 yX7_addCode yX7_addCode ∈ TB := tb_in 704 (by decide +kernel) rfl
theorem tf_RX4_44 : Cond.fieldLink RX4 44 "ColouredHeap$Reader" "next" "I" ∈ TB := tb_in 414 (by decide +kernel) rfl
theorem tf_RX4_38 : Cond.fieldLink RX4 38 "ColouredHeap$Reader" "faultPlace" "I" ∈ TB := tb_in 411 (by decide +kernel) rfl
theorem td_X4_nextKind : yX4_nextKind.cls ≠ "java/lang/invoke/MethodHandle" ∧ yX4_nextKind.cls ≠ "java/lang/invoke/VarHandle" ∧ (parseMethodDescriptor yX4_nextKind.desc).map (fun d => d.parameters.length) = some 0 := by decide +kernel
theorem tc_X4_nextKind : Cond.code yX4_nextKind cX4_nextKind 1 (some .int) ∈ TB := tb_in 665 (by decide +kernel) rfl
theorem tm_RX4_111 : Cond.methodLink RX4 111 yX4_nextKind ∈ TB := tb_in 662 (by decide +kernel) rfl
theorem ti_X4_nextKind : Cond.instanceMethod yX4_nextKind ∈ TB := tb_in 664 (by decide +kernel) rfl
theorem ts_X4_nextKind : Cond.selects RX4 yX4_nextKind yX4_nextKind ∈ TB := tb_in 8 (by decide +kernel) rfl
theorem tn_RX4 : Cond.initialized RX4 ∈ TB := tb_in 136 (by decide +kernel) rfl
theorem tf_RX4_47 : Cond.fieldLink RX4 47 "ColouredHeap$Reader" "lawRead" "I" ∈ TB := tb_in 415 (by decide +kernel) rfl
theorem td_X4_emit : yX4_emit.cls ≠ "java/lang/invoke/MethodHandle" ∧ yX4_emit.cls ≠ "java/lang/invoke/VarHandle" ∧ (parseMethodDescriptor yX4_emit.desc).map (fun d => d.parameters.length) = some 2 := by decide +kernel
theorem tc_X4_emit : Cond.code yX4_emit cX4_emit 3 (some .int) ∈ TB := tb_in 701 (by decide +kernel) rfl
theorem tm_RX4_161 : Cond.methodLink RX4 161 yX4_emit ∈ TB := tb_in 698 (by decide +kernel) rfl
theorem ti_X4_emit : Cond.instanceMethod yX4_emit ∈ TB := tb_in 700 (by decide +kernel) rfl
theorem ts_X4_emit : Cond.selects RX4 yX4_emit yX4_emit ∈ TB := tb_in 16 (by decide +kernel) rfl
theorem td_X4_refuse : yX4_refuse.cls ≠ "java/lang/invoke/MethodHandle" ∧ yX4_refuse.cls ≠ "java/lang/invoke/VarHandle" ∧ (parseMethodDescriptor yX4_refuse.desc).map (fun d => d.parameters.length) = some 1 := by decide +kernel
theorem tc_X4_refuse : Cond.code yX4_refuse cX4_refuse 2 none ∈ TB := tb_in 673 (by decide +kernel) rfl
theorem tm_RX4_114 : Cond.methodLink RX4 114 yX4_refuse ∈ TB := tb_in 670 (by decide +kernel) rfl
theorem ti_X4_refuse : Cond.instanceMethod yX4_refuse ∈ TB := tb_in 672 (by decide +kernel) rfl
theorem ts_X4_refuse : Cond.selects RX4 yX4_refuse yX4_refuse ∈ TB := tb_in 10 (by decide +kernel) rfl
theorem td_X4_isNext : yX4_isNext.cls ≠ "java/lang/invoke/MethodHandle" ∧ yX4_isNext.cls ≠ "java/lang/invoke/VarHandle" ∧ (parseMethodDescriptor yX4_isNext.desc).map (fun d => d.parameters.length) = some 1 := by decide +kernel
theorem tc_X4_isNext : Cond.code yX4_isNext cX4_isNext 2 (some .boolean) ∈ TB := tb_in 661 (by decide +kernel) rfl
theorem tm_RX4_58 : Cond.methodLink RX4 58 yX4_isNext ∈ TB := tb_in 658 (by decide +kernel) rfl
theorem ti_X4_isNext : Cond.instanceMethod yX4_isNext ∈ TB := tb_in 660 (by decide +kernel) rfl
theorem ts_X4_isNext : Cond.selects RX4 yX4_isNext yX4_isNext ∈ TB := tb_in 7 (by decide +kernel) rfl
theorem td_X4_wantNumber : yX4_wantNumber.cls ≠ "java/lang/invoke/MethodHandle" ∧ yX4_wantNumber.cls ≠ "java/lang/invoke/VarHandle" ∧ (parseMethodDescriptor yX4_wantNumber.desc).map (fun d => d.parameters.length) = some 2 := by decide +kernel
theorem tc_X4_wantNumber : Cond.code yX4_wantNumber cX4_wantNumber 4 (some .int) ∈ TB := tb_in 697 (by decide +kernel) rfl
theorem tm_RX4_118 : Cond.methodLink RX4 118 yX4_wantNumber ∈ TB := tb_in 694 (by decide +kernel) rfl
theorem ti_X4_wantNumber : Cond.instanceMethod yX4_wantNumber ∈ TB := tb_in 696 (by decide +kernel) rfl
theorem ts_X4_wantNumber : Cond.selects RX4 yX4_wantNumber yX4_wantNumber ∈ TB := tb_in 15 (by decide +kernel) rfl
theorem tf_RX7_36 : Cond.fieldLink RX7 36 "ColouredHeap$Text" "clauses" "I" ∈ TB := tb_in 375 (by decide +kernel) rfl
theorem tf_RX7_9 : Cond.fieldLink RX7 9 "ColouredHeap$Text" "kinds" "[I" ∈ TB := tb_in 357 (by decide +kernel) rfl
theorem tf_RX7_15 : Cond.fieldLink RX7 15 "ColouredHeap$Text" "firsts" "[I" ∈ TB := tb_in 359 (by decide +kernel) rfl
theorem tf_RX7_18 : Cond.fieldLink RX7 18 "ColouredHeap$Text" "seconds" "[I" ∈ TB := tb_in 361 (by decide +kernel) rfl
theorem tf_RX7_21 : Cond.fieldLink RX7 21 "ColouredHeap$Text" "thirds" "[I" ∈ TB := tb_in 363 (by decide +kernel) rfl
theorem td_X4_wantRoot : yX4_wantRoot.cls ≠ "java/lang/invoke/MethodHandle" ∧ yX4_wantRoot.cls ≠ "java/lang/invoke/VarHandle" ∧ (parseMethodDescriptor yX4_wantRoot.desc).map (fun d => d.parameters.length) = some 0 := by decide +kernel
theorem tc_X4_wantRoot : Cond.code yX4_wantRoot cX4_wantRoot 1 (some .int) ∈ TB := tb_in 756 (by decide +kernel) rfl
theorem tm_RX4_152 : Cond.methodLink RX4 152 yX4_wantRoot ∈ TB := tb_in 753 (by decide +kernel) rfl
theorem ti_X4_wantRoot : Cond.instanceMethod yX4_wantRoot ∈ TB := tb_in 755 (by decide +kernel) rfl
theorem ts_X4_wantRoot : Cond.selects RX4 yX4_wantRoot yX4_wantRoot ∈ TB := tb_in 26 (by decide +kernel) rfl
theorem td_X7_addClause : yX7_addClause.cls ≠ "java/lang/invoke/MethodHandle" ∧ yX7_addClause.cls ≠ "java/lang/invoke/VarHandle" ∧ (parseMethodDescriptor yX7_addClause.desc).map (fun d => d.parameters.length) = some 4 := by decide +kernel
theorem tc_X7_addClause : Cond.code yX7_addClause cX7_addClause 5 none ∈ TB := tb_in 748 (by decide +kernel) rfl
theorem tm_RX4_148 : Cond.methodLink RX4 148 yX7_addClause ∈ TB := tb_in 745 (by decide +kernel) rfl
theorem ti_X7_addClause : Cond.instanceMethod yX7_addClause ∈ TB := tb_in 746 (by decide +kernel) rfl
theorem ts_X7_addClause : Cond.selects RX7 yX7_addClause yX7_addClause ∈ TB := tb_in 747 (by decide +kernel) rfl
theorem td_X4_want : yX4_want.cls ≠ "java/lang/invoke/MethodHandle" ∧ yX4_want.cls ≠ "java/lang/invoke/VarHandle" ∧ (parseMethodDescriptor yX4_want.desc).map (fun d => d.parameters.length) = some 1 := by decide +kernel
theorem tc_X4_want : Cond.code yX4_want cX4_want 2 none ∈ TB := tb_in 720 (by decide +kernel) rfl
theorem tm_RX4_133 : Cond.methodLink RX4 133 yX4_want ∈ TB := tb_in 717 (by decide +kernel) rfl
theorem ti_X4_want : Cond.instanceMethod yX4_want ∈ TB := tb_in 719 (by decide +kernel) rfl
theorem ts_X4_want : Cond.selects RX4 yX4_want yX4_want ∈ TB := tb_in 19 (by decide +kernel) rfl
theorem td_X4_product : yX4_product.cls ≠ "java/lang/invoke/MethodHandle" ∧ yX4_product.cls ≠ "java/lang/invoke/VarHandle" ∧ (parseMethodDescriptor yX4_product.desc).map (fun d => d.parameters.length) = some 1 := by decide +kernel
theorem tc_X4_product : Cond.code yX4_product cX4_product 4 none ∈ TB := tb_in 689 (by decide +kernel) rfl
theorem tm_RX4_158 : Cond.methodLink RX4 158 yX4_product ∈ TB := tb_in 686 (by decide +kernel) rfl
theorem ti_X4_product : Cond.instanceMethod yX4_product ∈ TB := tb_in 688 (by decide +kernel) rfl
theorem ts_X4_product : Cond.selects RX4 yX4_product yX4_product ∈ TB := tb_in 13 (by decide +kernel) rfl
theorem td_X4_one : yX4_one.cls ≠ "java/lang/invoke/MethodHandle" ∧ yX4_one.cls ≠ "java/lang/invoke/VarHandle" ∧ (parseMethodDescriptor yX4_one.desc).map (fun d => d.parameters.length) = some 1 := by decide +kernel
theorem tc_X4_one : Cond.code yX4_one cX4_one 3 none ∈ TB := tb_in 693 (by decide +kernel) rfl
theorem tm_RX4_164 : Cond.methodLink RX4 164 yX4_one ∈ TB := tb_in 690 (by decide +kernel) rfl
theorem ti_X4_one : Cond.instanceMethod yX4_one ∈ TB := tb_in 692 (by decide +kernel) rfl
theorem ts_X4_one : Cond.selects RX4 yX4_one yX4_one ∈ TB := tb_in 14 (by decide +kernel) rfl
theorem td_X4_opensOne : yX4_opensOne.cls ≠ "java/lang/invoke/MethodHandle" ∧ yX4_opensOne.cls ≠ "java/lang/invoke/VarHandle" ∧ (parseMethodDescriptor yX4_opensOne.desc).map (fun d => d.parameters.length) = some 1 := by decide +kernel
theorem tc_X4_opensOne : Cond.code yX4_opensOne cX4_opensOne 1 (some .boolean) ∈ TB := tb_in 712 (by decide +kernel) rfl
theorem tm_RX4_170 : Cond.methodLink RX4 170 yX4_opensOne ∈ TB := tb_in 710 (by decide +kernel) rfl
theorem tz_X4_opensOne : Cond.static yX4_opensOne ∈ TB := tb_in 711 (by decide +kernel) rfl
theorem td_X4_openedOne : yX4_openedOne.cls ≠ "java/lang/invoke/MethodHandle" ∧ yX4_openedOne.cls ≠ "java/lang/invoke/VarHandle" ∧ (parseMethodDescriptor yX4_openedOne.desc).map (fun d => d.parameters.length) = some 2 := by decide +kernel
theorem tc_X4_openedOne : Cond.code yX4_openedOne cX4_openedOne 3 none ∈ TB := tb_in 716 (by decide +kernel) rfl
theorem tm_RX4_173 : Cond.methodLink RX4 173 yX4_openedOne ∈ TB := tb_in 713 (by decide +kernel) rfl
theorem ti_X4_openedOne : Cond.instanceMethod yX4_openedOne ∈ TB := tb_in 715 (by decide +kernel) rfl
theorem ts_X4_openedOne : Cond.selects RX4 yX4_openedOne yX4_openedOne ∈ TB := tb_in 18 (by decide +kernel) rfl
theorem td_X4_name : yX4_name.cls ≠ "java/lang/invoke/MethodHandle" ∧ yX4_name.cls ≠ "java/lang/invoke/VarHandle" ∧ (parseMethodDescriptor yX4_name.desc).map (fun d => d.parameters.length) = some 1 := by decide +kernel
theorem tc_X4_name : Cond.code yX4_name cX4_name 4 none ∈ TB := tb_in 709 (by decide +kernel) rfl
theorem tm_RX4_167 : Cond.methodLink RX4 167 yX4_name ∈ TB := tb_in 706 (by decide +kernel) rfl
theorem ti_X4_name : Cond.instanceMethod yX4_name ∈ TB := tb_in 708 (by decide +kernel) rfl
theorem ts_X4_name : Cond.selects RX4 yX4_name yX4_name ∈ TB := tb_in 17 (by decide +kernel) rfl
theorem td_X4_choice : yX4_choice.cls ≠ "java/lang/invoke/MethodHandle" ∧ yX4_choice.cls ≠ "java/lang/invoke/VarHandle" ∧ (parseMethodDescriptor yX4_choice.desc).map (fun d => d.parameters.length) = some 1 := by decide +kernel
theorem tc_X4_choice : Cond.code yX4_choice cX4_choice 4 none ∈ TB := tb_in 724 (by decide +kernel) rfl
theorem tm_RX4_177 : Cond.methodLink RX4 177 yX4_choice ∈ TB := tb_in 721 (by decide +kernel) rfl
theorem ti_X4_choice : Cond.instanceMethod yX4_choice ∈ TB := tb_in 723 (by decide +kernel) rfl
theorem ts_X4_choice : Cond.selects RX4 yX4_choice yX4_choice ∈ TB := tb_in 20 (by decide +kernel) rfl
theorem td_X4_sum : yX4_sum.cls ≠ "java/lang/invoke/MethodHandle" ∧ yX4_sum.cls ≠ "java/lang/invoke/VarHandle" ∧ (parseMethodDescriptor yX4_sum.desc).map (fun d => d.parameters.length) = some 1 := by decide +kernel
theorem tc_X4_sum : Cond.code yX4_sum cX4_sum 4 none ∈ TB := tb_in 685 (by decide +kernel) rfl
theorem tm_RX4_142 : Cond.methodLink RX4 142 yX4_sum ∈ TB := tb_in 682 (by decide +kernel) rfl
theorem ti_X4_sum : Cond.instanceMethod yX4_sum ∈ TB := tb_in 684 (by decide +kernel) rfl
theorem ts_X4_sum : Cond.selects RX4 yX4_sum yX4_sum ∈ TB := tb_in 12 (by decide +kernel) rfl
theorem td_X4_either : yX4_either.cls ≠ "java/lang/invoke/MethodHandle" ∧ yX4_either.cls ≠ "java/lang/invoke/VarHandle" ∧ (parseMethodDescriptor yX4_either.desc).map (fun d => d.parameters.length) = some 1 := by decide +kernel
theorem tc_X4_either : Cond.code yX4_either cX4_either 3 none ∈ TB := tb_in 728 (by decide +kernel) rfl
theorem tm_RX4_180 : Cond.methodLink RX4 180 yX4_either ∈ TB := tb_in 725 (by decide +kernel) rfl
theorem ti_X4_either : Cond.instanceMethod yX4_either ∈ TB := tb_in 727 (by decide +kernel) rfl
theorem ts_X4_either : Cond.selects RX4 yX4_either yX4_either ∈ TB := tb_in 21 (by decide +kernel) rfl
theorem td_X7_landHere : yX7_landHere.cls ≠ "java/lang/invoke/MethodHandle" ∧ yX7_landHere.cls ≠ "java/lang/invoke/VarHandle" ∧ (parseMethodDescriptor yX7_landHere.desc).map (fun d => d.parameters.length) = some 1 := by decide +kernel
theorem tc_X7_landHere : Cond.code yX7_landHere cX7_landHere 2 none ∈ TB := tb_in 744 (by decide +kernel) rfl
theorem tm_RX4_183 : Cond.methodLink RX4 183 yX7_landHere ∈ TB := tb_in 741 (by decide +kernel) rfl
theorem ti_X7_landHere : Cond.instanceMethod yX7_landHere ∈ TB := tb_in 742 (by decide +kernel) rfl
theorem ts_X7_landHere : Cond.selects RX7 yX7_landHere yX7_landHere ∈ TB := tb_in 743 (by decide +kernel) rfl
theorem td_X4_both : yX4_both.cls ≠ "java/lang/invoke/MethodHandle" ∧ yX4_both.cls ≠ "java/lang/invoke/VarHandle" ∧ (parseMethodDescriptor yX4_both.desc).map (fun d => d.parameters.length) = some 1 := by decide +kernel
theorem tc_X4_both : Cond.code yX4_both cX4_both 3 none ∈ TB := tb_in 732 (by decide +kernel) rfl
theorem tm_RX4_186 : Cond.methodLink RX4 186 yX4_both ∈ TB := tb_in 729 (by decide +kernel) rfl
theorem ti_X4_both : Cond.instanceMethod yX4_both ∈ TB := tb_in 731 (by decide +kernel) rfl
theorem ts_X4_both : Cond.selects RX4 yX4_both yX4_both ∈ TB := tb_in 22 (by decide +kernel) rfl
theorem td_X4_ask : yX4_ask.cls ≠ "java/lang/invoke/MethodHandle" ∧ yX4_ask.cls ≠ "java/lang/invoke/VarHandle" ∧ (parseMethodDescriptor yX4_ask.desc).map (fun d => d.parameters.length) = some 1 := by decide +kernel
theorem tc_X4_ask : Cond.code yX4_ask cX4_ask 2 none ∈ TB := tb_in 736 (by decide +kernel) rfl
theorem tm_RX4_189 : Cond.methodLink RX4 189 yX4_ask ∈ TB := tb_in 733 (by decide +kernel) rfl
theorem ti_X4_ask : Cond.instanceMethod yX4_ask ∈ TB := tb_in 735 (by decide +kernel) rfl
theorem ts_X4_ask : Cond.selects RX4 yX4_ask yX4_ask ∈ TB := tb_in 23 (by decide +kernel) rfl
theorem td_X4_comparison : yX4_comparison.cls ≠ "java/lang/invoke/MethodHandle" ∧ yX4_comparison.cls ≠ "java/lang/invoke/VarHandle" ∧ (parseMethodDescriptor yX4_comparison.desc).map (fun d => d.parameters.length) = some 1 := by decide +kernel
theorem tc_X4_comparison : Cond.code yX4_comparison cX4_comparison 4 none ∈ TB := tb_in 740 (by decide +kernel) rfl
theorem tm_RX4_192 : Cond.methodLink RX4 192 yX4_comparison ∈ TB := tb_in 737 (by decide +kernel) rfl
theorem ti_X4_comparison : Cond.instanceMethod yX4_comparison ∈ TB := tb_in 739 (by decide +kernel) rfl
theorem ts_X4_comparison : Cond.selects RX4 yX4_comparison yX4_comparison ∈ TB := tb_in 24 (by decide +kernel) rfl
theorem tf_RX4_136 : Cond.fieldLink RX4 136 "ColouredHeap$Text" "lawStarts" "[I" ∈ TB := tb_in 371 (by decide +kernel) rfl
theorem tf_RX4_139 : Cond.fieldLink RX4 139 "ColouredHeap$Text" "codeLength" "I" ∈ TB := tb_in 379 (by decide +kernel) rfl
theorem tf_RX4_145 : Cond.fieldLink RX4 145 "ColouredHeap$Text" "lawEnds" "[I" ∈ TB := tb_in 374 (by decide +kernel) rfl
theorem tm_RX4_121 : Cond.methodLink RX4 121 yX7_hasLaw ∈ TB := tb_in 674 (by decide +kernel) rfl
theorem tf_RX4_124 : Cond.fieldLink RX4 124 "ColouredHeap$Text" "clauses" "I" ∈ TB := tb_in 377 (by decide +kernel) rfl
theorem td_X4_deedClause : yX4_deedClause.cls ≠ "java/lang/invoke/MethodHandle" ∧ yX4_deedClause.cls ≠ "java/lang/invoke/VarHandle" ∧ (parseMethodDescriptor yX4_deedClause.desc).map (fun d => d.parameters.length) = some 1 := by decide +kernel
theorem tc_X4_deedClause : Cond.code yX4_deedClause cX4_deedClause 5 none ∈ TB := tb_in 752 (by decide +kernel) rfl
theorem tm_RX4_130 : Cond.methodLink RX4 130 yX4_deedClause ∈ TB := tb_in 749 (by decide +kernel) rfl
theorem ti_X4_deedClause : Cond.instanceMethod yX4_deedClause ∈ TB := tb_in 751 (by decide +kernel) rfl
theorem ts_X4_deedClause : Cond.selects RX4 yX4_deedClause yX4_deedClause ∈ TB := tb_in 25 (by decide +kernel) rfl
theorem td_X4_lawClause : yX4_lawClause.cls ≠ "java/lang/invoke/MethodHandle" ∧ yX4_lawClause.cls ≠ "java/lang/invoke/VarHandle" ∧ (parseMethodDescriptor yX4_lawClause.desc).map (fun d => d.parameters.length) = some 1 := by decide +kernel
theorem tc_X4_lawClause : Cond.code yX4_lawClause cX4_lawClause 2 none ∈ TB := tb_in 681 (by decide +kernel) rfl
theorem tm_RX4_127 : Cond.methodLink RX4 127 yX4_lawClause ∈ TB := tb_in 678 (by decide +kernel) rfl
theorem ti_X4_lawClause : Cond.instanceMethod yX4_lawClause ∈ TB := tb_in 680 (by decide +kernel) rfl
theorem ts_X4_lawClause : Cond.selects RX4 yX4_lawClause yX4_lawClause ∈ TB := tb_in 11 (by decide +kernel) rfl
theorem tm_RX4_100 : Cond.methodLink RX4 100 yJ0_length_8abf5 ∈ TB := tb_in 538 (by decide +kernel) rfl
theorem td_X4_byteAt : yX4_byteAt.cls ≠ "java/lang/invoke/MethodHandle" ∧ yX4_byteAt.cls ≠ "java/lang/invoke/VarHandle" ∧ (parseMethodDescriptor yX4_byteAt.desc).map (fun d => d.parameters.length) = some 1 := by decide +kernel
theorem tc_X4_byteAt : Cond.code yX4_byteAt cX4_byteAt 2 (some .int) ∈ TB := tb_in 529 (by decide +kernel) rfl
theorem tm_RX4_73 : Cond.methodLink RX4 73 yX4_byteAt ∈ TB := tb_in 526 (by decide +kernel) rfl
theorem ti_X4_byteAt : Cond.instanceMethod yX4_byteAt ∈ TB := tb_in 528 (by decide +kernel) rfl
theorem ts_X4_byteAt : Cond.selects RX4 yX4_byteAt yX4_byteAt ∈ TB := tb_in 3 (by decide +kernel) rfl
theorem td_J0_charAt_5068e : yJ0_charAt_5068e.cls ≠ "java/lang/invoke/MethodHandle" ∧ yJ0_charAt_5068e.cls ≠ "java/lang/invoke/VarHandle" ∧ (parseMethodDescriptor yJ0_charAt_5068e.desc).map (fun d => d.parameters.length) = some 1 := by decide +kernel
theorem tc_J0_charAt_5068e : Cond.code yJ0_charAt_5068e cJ0_charAt_5068e 2 (some .char) ∈ TB := tb_in 551 (by decide +kernel) rfl
theorem tm_RX4_103 : Cond.methodLink RX4 103 yJ0_charAt_5068e ∈ TB := tb_in 548 (by decide +kernel) rfl
theorem ti_J0_charAt_5068e : Cond.instanceMethod yJ0_charAt_5068e ∈ TB := tb_in 549 (by decide +kernel) rfl
theorem ts_J0_charAt_5068e : Cond.selects RJ0 yJ0_charAt_5068e yJ0_charAt_5068e ∈ TB := tb_in 550 (by decide +kernel) rfl
theorem td_X4_isWord : yX4_isWord.cls ≠ "java/lang/invoke/MethodHandle" ∧ yX4_isWord.cls ≠ "java/lang/invoke/VarHandle" ∧ (parseMethodDescriptor yX4_isWord.desc).map (fun d => d.parameters.length) = some 4 := by decide +kernel
theorem tc_X4_isWord : Cond.code yX4_isWord cX4_isWord 6 (some .boolean) ∈ TB := tb_in 589 (by decide +kernel) rfl
theorem tm_RX4_107 : Cond.methodLink RX4 107 yX4_isWord ∈ TB := tb_in 586 (by decide +kernel) rfl
theorem ti_X4_isWord : Cond.instanceMethod yX4_isWord ∈ TB := tb_in 588 (by decide +kernel) rfl
theorem ts_X4_isWord : Cond.selects RX4 yX4_isWord yX4_isWord ∈ TB := tb_in 5 (by decide +kernel) rfl
theorem td_X4_isLetter : yX4_isLetter.cls ≠ "java/lang/invoke/MethodHandle" ∧ yX4_isLetter.cls ≠ "java/lang/invoke/VarHandle" ∧ (parseMethodDescriptor yX4_isLetter.desc).map (fun d => d.parameters.length) = some 1 := by decide +kernel
theorem tc_X4_isLetter : Cond.code yX4_isLetter cX4_isLetter 1 (some .boolean) ∈ TB := tb_in 532 (by decide +kernel) rfl
theorem tm_RX4_76 : Cond.methodLink RX4 76 yX4_isLetter ∈ TB := tb_in 530 (by decide +kernel) rfl
theorem tz_X4_isLetter : Cond.static yX4_isLetter ∈ TB := tb_in 531 (by decide +kernel) rfl
theorem td_X4_isDigit : yX4_isDigit.cls ≠ "java/lang/invoke/MethodHandle" ∧ yX4_isDigit.cls ≠ "java/lang/invoke/VarHandle" ∧ (parseMethodDescriptor yX4_isDigit.desc).map (fun d => d.parameters.length) = some 1 := by decide +kernel
theorem tc_X4_isDigit : Cond.code yX4_isDigit cX4_isDigit 1 (some .boolean) ∈ TB := tb_in 596 (by decide +kernel) rfl
theorem tm_RX4_83 : Cond.methodLink RX4 83 yX4_isDigit ∈ TB := tb_in 594 (by decide +kernel) rfl
theorem tz_X4_isDigit : Cond.static yX4_isDigit ∈ TB := tb_in 595 (by decide +kernel) rfl
theorem td_J0_indexOf_0f7a4 : yJ0_indexOf_0f7a4.cls ≠ "java/lang/invoke/MethodHandle" ∧ yJ0_indexOf_0f7a4.cls ≠ "java/lang/invoke/VarHandle" ∧ (parseMethodDescriptor yJ0_indexOf_0f7a4.desc).map (fun d => d.parameters.length) = some 1 := by decide +kernel
theorem tc_J0_indexOf_0f7a4 : Cond.code yJ0_indexOf_0f7a4 cJ0_indexOf_0f7a4 2 (some .int) ∈ TB := tb_in 604 (by decide +kernel) rfl
theorem tm_RX4_93 : Cond.methodLink RX4 93 yJ0_indexOf_0f7a4 ∈ TB := tb_in 601 (by decide +kernel) rfl
theorem ti_J0_indexOf_0f7a4 : Cond.instanceMethod yJ0_indexOf_0f7a4 ∈ TB := tb_in 602 (by decide +kernel) rfl
theorem ts_J0_indexOf_0f7a4 : Cond.selects RJ0 yJ0_indexOf_0f7a4 yJ0_indexOf_0f7a4 ∈ TB := tb_in 603 (by decide +kernel) rfl
theorem td_X4_addToken : yX4_addToken.cls ≠ "java/lang/invoke/MethodHandle" ∧ yX4_addToken.cls ≠ "java/lang/invoke/VarHandle" ∧ (parseMethodDescriptor yX4_addToken.desc).map (fun d => d.parameters.length) = some 3 := by decide +kernel
theorem tc_X4_addToken : Cond.code yX4_addToken cX4_addToken 4 none ∈ TB := tb_in 593 (by decide +kernel) rfl
theorem tm_RX4_69 : Cond.methodLink RX4 69 yX4_addToken ∈ TB := tb_in 590 (by decide +kernel) rfl
theorem ti_X4_addToken : Cond.instanceMethod yX4_addToken ∈ TB := tb_in 592 (by decide +kernel) rfl
theorem ts_X4_addToken : Cond.selects RX4 yX4_addToken yX4_addToken ∈ TB := tb_in 6 (by decide +kernel) rfl
theorem tm_RX4_86 : Cond.methodLink RX4 86 Lib.Math.min.name ∈ TB := tb_in 597 (by decide +kernel) rfl
theorem td_X4_wordKind : yX4_wordKind.cls ≠ "java/lang/invoke/MethodHandle" ∧ yX4_wordKind.cls ≠ "java/lang/invoke/VarHandle" ∧ (parseMethodDescriptor yX4_wordKind.desc).map (fun d => d.parameters.length) = some 2 := by decide +kernel
theorem tc_X4_wordKind : Cond.code yX4_wordKind cX4_wordKind 6 (some .int) ∈ TB := tb_in 536 (by decide +kernel) rfl
theorem tm_RX4_79 : Cond.methodLink RX4 79 yX4_wordKind ∈ TB := tb_in 533 (by decide +kernel) rfl
theorem ti_X4_wordKind : Cond.instanceMethod yX4_wordKind ∈ TB := tb_in 535 (by decide +kernel) rfl
theorem ts_X4_wordKind : Cond.selects RX4 yX4_wordKind yX4_wordKind ∈ TB := tb_in 4 (by decide +kernel) rfl
theorem td_X4_scanFrom : yX4_scanFrom.cls ≠ "java/lang/invoke/MethodHandle" ∧ yX4_scanFrom.cls ≠ "java/lang/invoke/VarHandle" ∧ (parseMethodDescriptor yX4_scanFrom.desc).map (fun d => d.parameters.length) = some 1 := by decide +kernel
theorem tc_X4_scanFrom : Cond.code yX4_scanFrom cX4_scanFrom 5 (some .int) ∈ TB := tb_in 525 (by decide +kernel) rfl
theorem tm_RX4_65 : Cond.methodLink RX4 65 yX4_scanFrom ∈ TB := tb_in 522 (by decide +kernel) rfl
theorem ti_X4_scanFrom : Cond.instanceMethod yX4_scanFrom ∈ TB := tb_in 524 (by decide +kernel) rfl
theorem ts_X4_scanFrom : Cond.selects RX4 yX4_scanFrom yX4_scanFrom ∈ TB := tb_in 2 (by decide +kernel) rfl
theorem tm_RX7_49 : Cond.methodLink RX7 49 yJ7_fill_53178 ∈ TB := tb_in 517 (by decide +kernel) rfl
theorem tf_RX7_33 : Cond.fieldLink RX7 33 "ColouredHeap$Text" "lawEnds" "[I" ∈ TB := tb_in 372 (by decide +kernel) rfl
theorem td_X7_clear : yX7_clear.cls ≠ "java/lang/invoke/MethodHandle" ∧ yX7_clear.cls ≠ "java/lang/invoke/VarHandle" ∧ (parseMethodDescriptor yX7_clear.desc).map (fun d => d.parameters.length) = some 0 := by decide +kernel
theorem tc_X7_clear : Cond.code yX7_clear cX7_clear 1 none ∈ TB := tb_in 516 (by decide +kernel) rfl
theorem tm_RX4_50 : Cond.methodLink RX4 50 yX7_clear ∈ TB := tb_in 513 (by decide +kernel) rfl
theorem ti_X7_clear : Cond.instanceMethod yX7_clear ∈ TB := tb_in 514 (by decide +kernel) rfl
theorem ts_X7_clear : Cond.selects RX7 yX7_clear yX7_clear ∈ TB := tb_in 515 (by decide +kernel) rfl
theorem td_X4_scan : yX4_scan.cls ≠ "java/lang/invoke/MethodHandle" ∧ yX4_scan.cls ≠ "java/lang/invoke/VarHandle" ∧ (parseMethodDescriptor yX4_scan.desc).map (fun d => d.parameters.length) = some 0 := by decide +kernel
theorem tc_X4_scan : Cond.code yX4_scan cX4_scan 3 none ∈ TB := tb_in 521 (by decide +kernel) rfl
theorem tm_RX4_53 : Cond.methodLink RX4 53 yX4_scan ∈ TB := tb_in 518 (by decide +kernel) rfl
theorem ti_X4_scan : Cond.instanceMethod yX4_scan ∈ TB := tb_in 520 (by decide +kernel) rfl
theorem ts_X4_scan : Cond.selects RX4 yX4_scan yX4_scan ∈ TB := tb_in 1 (by decide +kernel) rfl
theorem td_X4_clause : yX4_clause.cls ≠ "java/lang/invoke/MethodHandle" ∧ yX4_clause.cls ≠ "java/lang/invoke/VarHandle" ∧ (parseMethodDescriptor yX4_clause.desc).map (fun d => d.parameters.length) = some 0 := by decide +kernel
theorem tc_X4_clause : Cond.code yX4_clause cX4_clause 2 none ∈ TB := tb_in 669 (by decide +kernel) rfl
theorem tm_RX4_62 : Cond.methodLink RX4 62 yX4_clause ∈ TB := tb_in 666 (by decide +kernel) rfl
theorem ti_X4_clause : Cond.instanceMethod yX4_clause ∈ TB := tb_in 668 (by decide +kernel) rfl
theorem ts_X4_clause : Cond.selects RX4 yX4_clause yX4_clause ∈ TB := tb_in 9 (by decide +kernel) rfl
theorem tf_RX5_21 : Cond.fieldLink RX5 21 "ColouredHeap$Steps" "count" "I" ∈ TB := tb_in 276 (by decide +kernel) rfl
theorem tf_RX5_17 : Cond.fieldLink RX5 17 "ColouredHeap$Steps" "first" "I" ∈ TB := tb_in 275 (by decide +kernel) rfl
theorem tf_RX5_13 : Cond.fieldLink RX5 13 "ColouredHeap$Steps" "rows" "[LColouredHeap$Heap;" ∈ TB := tb_in 274 (by decide +kernel) rfl
theorem td_X5_row : yX5_row.cls ≠ "java/lang/invoke/MethodHandle" ∧ yX5_row.cls ≠ "java/lang/invoke/VarHandle" ∧ (parseMethodDescriptor yX5_row.desc).map (fun d => d.parameters.length) = some 1 := by decide +kernel
theorem tc_X5_row : Cond.code yX5_row cX5_row 3 (some (.object "ColouredHeap$Heap")) ∈ TB := tb_in 836 (by decide +kernel) rfl
theorem tm_RX5_25 : Cond.methodLink RX5 25 yX5_row ∈ TB := tb_in 833 (by decide +kernel) rfl
theorem ti_X5_row : Cond.instanceMethod yX5_row ∈ TB := tb_in 835 (by decide +kernel) rfl
theorem ts_X5_row : Cond.selects RX5 yX5_row yX5_row ∈ TB := tb_in 30 (by decide +kernel) rfl
theorem tn_RX5 : Cond.initialized RX5 ∈ TB := tb_in 133 (by decide +kernel) rfl
theorem td_X1_takeOver : yX1_takeOver.cls ≠ "java/lang/invoke/MethodHandle" ∧ yX1_takeOver.cls ≠ "java/lang/invoke/VarHandle" ∧ (parseMethodDescriptor yX1_takeOver.desc).map (fun d => d.parameters.length) = some 1 := by decide +kernel
theorem tc_X1_takeOver : Cond.code yX1_takeOver cX1_takeOver 2 none ∈ TB := tb_in 840 (by decide +kernel) rfl
theorem tm_RX5_29 : Cond.methodLink RX5 29 yX1_takeOver ∈ TB := tb_in 837 (by decide +kernel) rfl
theorem ti_X1_takeOver : Cond.instanceMethod yX1_takeOver ∈ TB := tb_in 838 (by decide +kernel) rfl
theorem ts_X1_takeOver : Cond.selects RX1 yX1_takeOver yX1_takeOver ∈ TB := tb_in 839 (by decide +kernel) rfl
theorem tf_RX6_18 : Cond.fieldLink RX6 18 "ColouredHeap$Survey" "seen" "[I" ∈ TB := tb_in 321 (by decide +kernel) rfl
theorem tm_RX6_21 : Cond.methodLink RX6 21 yJ7_fill_53178 ∈ TB := tb_in 1138 (by decide +kernel) rfl
theorem tf_RX6_9 : Cond.fieldLink RX6 9 "ColouredHeap$Survey" "loads" "[I" ∈ TB := tb_in 318 (by decide +kernel) rfl
theorem td_X1_fieldOf : yX1_fieldOf.cls ≠ "java/lang/invoke/MethodHandle" ∧ yX1_fieldOf.cls ≠ "java/lang/invoke/VarHandle" ∧ (parseMethodDescriptor yX1_fieldOf.desc).map (fun d => d.parameters.length) = some 2 := by decide +kernel
theorem tc_X1_fieldOf : Cond.code yX1_fieldOf cX1_fieldOf 4 (some .int) ∈ TB := tb_in 1149 (by decide +kernel) rfl
theorem tm_RX6_54 : Cond.methodLink RX6 54 yX1_fieldOf ∈ TB := tb_in 1146 (by decide +kernel) rfl
theorem ti_X1_fieldOf : Cond.instanceMethod yX1_fieldOf ∈ TB := tb_in 1147 (by decide +kernel) rfl
theorem ts_X1_fieldOf : Cond.selects RX1 yX1_fieldOf yX1_fieldOf ∈ TB := tb_in 1148 (by decide +kernel) rfl
theorem tm_RX6_61 : Cond.methodLink RX6 61 yX1_leadsTo ∈ TB := tb_in 1143 (by decide +kernel) rfl
theorem tf_RX6_27 : Cond.fieldLink RX6 27 "ColouredHeap$Survey" "count" "I" ∈ TB := tb_in 322 (by decide +kernel) rfl
theorem tf_RX6_15 : Cond.fieldLink RX6 15 "ColouredHeap$Survey" "found" "[I" ∈ TB := tb_in 320 (by decide +kernel) rfl
theorem tm_RX6_50 : Cond.methodLink RX6 50 yX1_sizeAt ∈ TB := tb_in 1144 (by decide +kernel) rfl
theorem td_X6_objectsOf : yX6_objectsOf.cls ≠ "java/lang/invoke/MethodHandle" ∧ yX6_objectsOf.cls ≠ "java/lang/invoke/VarHandle" ∧ (parseMethodDescriptor yX6_objectsOf.desc).map (fun d => d.parameters.length) = some 2 := by decide +kernel
theorem tc_X6_objectsOf : Cond.code yX6_objectsOf cX6_objectsOf 5 (some .int) ∈ TB := tb_in 1190 (by decide +kernel) rfl
theorem tm_RX6_77 : Cond.methodLink RX6 77 yX6_objectsOf ∈ TB := tb_in 1187 (by decide +kernel) rfl
theorem ti_X6_objectsOf : Cond.instanceMethod yX6_objectsOf ∈ TB := tb_in 1189 (by decide +kernel) rfl
theorem ts_X6_objectsOf : Cond.selects RX6 yX6_objectsOf yX6_objectsOf ∈ TB := tb_in 35 (by decide +kernel) rfl
theorem tn_RX6 : Cond.initialized RX6 ∈ TB := tb_in 135 (by decide +kernel) rfl
theorem tm_RX6_81 : Cond.methodLink RX6 81 Lib.Math.max.name ∈ TB := tb_in 1191 (by decide +kernel) rfl
theorem tm_RX6_86 : Cond.methodLink RX6 86 Lib.Math.min.name ∈ TB := tb_in 1192 (by decide +kernel) rfl
theorem tf_RX6_31 : Cond.fieldLink RX6 31 "ColouredHeap$Survey" "words" "I" ∈ TB := tb_in 324 (by decide +kernel) rfl
theorem tf_RX6_58 : Cond.fieldLink RX6 58 "ColouredHeap$Heap" "good" "I" ∈ TB := tb_in 218 (by decide +kernel) rfl
theorem tf_RX6_37 : Cond.fieldLink RX6 37 "ColouredHeap$Survey" "safe" "Z" ∈ TB := tb_in 328 (by decide +kernel) rfl
theorem tf_RX6_68 : Cond.fieldLink RX6 68 "ColouredHeap$Heap" "states" "[I" ∈ TB := tb_in 198 (by decide +kernel) rfl
theorem tf_RX6_34 : Cond.fieldLink RX6 34 "ColouredHeap$Survey" "stale" "I" ∈ TB := tb_in 326 (by decide +kernel) rfl
theorem tf_RX6_74 : Cond.fieldLink RX6 74 "ColouredHeap$Heap" "used" "[I" ∈ TB := tb_in 195 (by decide +kernel) rfl
theorem tf_RX6_41 : Cond.fieldLink RX6 41 "ColouredHeap$Heap" "roots" "[I" ∈ TB := tb_in 201 (by decide +kernel) rfl
theorem td_X6_follow : yX6_follow.cls ≠ "java/lang/invoke/MethodHandle" ∧ yX6_follow.cls ≠ "java/lang/invoke/VarHandle" ∧ (parseMethodDescriptor yX6_follow.desc).map (fun d => d.parameters.length) = some 4 := by decide +kernel
theorem tc_X6_follow : Cond.code yX6_follow cX6_follow 7 none ∈ TB := tb_in 1142 (by decide +kernel) rfl
theorem tm_RX6_46 : Cond.methodLink RX6 46 yX6_follow ∈ TB := tb_in 1139 (by decide +kernel) rfl
theorem ti_X6_follow : Cond.instanceMethod yX6_follow ∈ TB := tb_in 1141 (by decide +kernel) rfl
theorem ts_X6_follow : Cond.selects RX6 yX6_follow yX6_follow ∈ TB := tb_in 34 (by decide +kernel) rfl
theorem tm_RX7_43 : Cond.methodLink RX7 43 arraycopyName ∈ TB := tb_in 761 (by decide +kernel) rfl
theorem tf_RX8_9 : Cond.fieldLink RX8 9 "ColouredHeap$Told" "saidPages" "[I" ∈ TB := tb_in 291 (by decide +kernel) rfl
theorem tm_RX8_28 : Cond.methodLink RX8 28 arraycopyName ∈ TB := tb_in 1264 (by decide +kernel) rfl
theorem tf_RX8_15 : Cond.fieldLink RX8 15 "ColouredHeap$Told" "saidPicks" "[I" ∈ TB := tb_in 293 (by decide +kernel) rfl
theorem tf_RX8_18 : Cond.fieldLink RX8 18 "ColouredHeap$Told" "said" "I" ∈ TB := tb_in 295 (by decide +kernel) rfl
theorem tf_RX8_22 : Cond.fieldLink RX8 22 "ColouredHeap$Told" "texts" "I" ∈ TB := tb_in 297 (by decide +kernel) rfl
theorem tf_RX8_25 : Cond.fieldLink RX8 25 "ColouredHeap$Told" "ruling" "I" ∈ TB := tb_in 299 (by decide +kernel) rfl
theorem tf_RX9_26 : Cond.fieldLink RX9 26 "ColouredHeap" "told" "LColouredHeap$Told;" ∈ TB := tb_in 457 (by decide +kernel) rfl
theorem tf_RX9_78 : Cond.fieldLink RX9 78 "ColouredHeap$Told" "texts" "I" ∈ TB := tb_in 298 (by decide +kernel) rfl
theorem tf_RX9_102 : Cond.fieldLink RX9 102 "ColouredHeap$Told" "ruling" "I" ∈ TB := tb_in 300 (by decide +kernel) rfl
theorem tf_RX9_19 : Cond.fieldLink RX9 19 "ColouredHeap" "steps" "LColouredHeap$Steps;" ∈ TB := tb_in 456 (by decide +kernel) rfl
theorem tf_RX9_208 : Cond.fieldLink RX9 208 "ColouredHeap$Steps" "count" "I" ∈ TB := tb_in 277 (by decide +kernel) rfl
theorem tf_RX9_10 : Cond.fieldLink RX9 10 "ColouredHeap" "heap" "LColouredHeap$Heap;" ∈ TB := tb_in 455 (by decide +kernel) rfl
theorem tm_RX9_298 : Cond.methodLink RX9 298 yX1_threadsBegun ∈ TB := tb_in 1201 (by decide +kernel) rfl
theorem tf_RX9_310 : Cond.fieldLink RX9 310 "ColouredHeap$Told" "said" "I" ∈ TB := tb_in 296 (by decide +kernel) rfl
theorem tf_RX9_52 : Cond.fieldLink RX9 52 "ColouredHeap" "reader" "LColouredHeap$Reader;" ∈ TB := tb_in 463 (by decide +kernel) rfl
theorem tf_RX9_70 : Cond.fieldLink RX9 70 "ColouredHeap$Reader" "length" "I" ∈ TB := tb_in 408 (by decide +kernel) rfl
theorem tf_RX9_39 : Cond.fieldLink RX9 39 "ColouredHeap" "trial" "LColouredHeap$Heap;" ∈ TB := tb_in 461 (by decide +kernel) rfl
theorem tm_RX9_261 : Cond.methodLink RX9 261 yX1_takeOver ∈ TB := tb_in 1115 (by decide +kernel) rfl
theorem tf_RX9_332 : Cond.fieldLink RX9 332 "ColouredHeap$Heap" "readWords" "[I" ∈ TB := tb_in 206 (by decide +kernel) rfl
theorem td_X1_finishRead : yX1_finishRead.cls ≠ "java/lang/invoke/MethodHandle" ∧ yX1_finishRead.cls ≠ "java/lang/invoke/VarHandle" ∧ (parseMethodDescriptor yX1_finishRead.desc).map (fun d => d.parameters.length) = some 2 := by decide +kernel
theorem tc_X1_finishRead : Cond.code yX1_finishRead cX1_finishRead 6 (some .int) ∈ TB := tb_in 1026 (by decide +kernel) rfl
theorem tm_RX9_149 : Cond.methodLink RX9 149 yX1_finishRead ∈ TB := tb_in 1023 (by decide +kernel) rfl
theorem ti_X1_finishRead : Cond.instanceMethod yX1_finishRead ∈ TB := tb_in 1024 (by decide +kernel) rfl
theorem ts_X1_finishRead : Cond.selects RX1 yX1_finishRead yX1_finishRead ∈ TB := tb_in 1025 (by decide +kernel) rfl
theorem tm_RX9_214 : Cond.methodLink RX9 214 yX9_isAddress ∈ TB := tb_in 1084 (by decide +kernel) rfl
theorem tf_RX9_139 : Cond.fieldLink RX9 139 "ColouredHeap$Heap" "roots" "[I" ∈ TB := tb_in 202 (by decide +kernel) rfl
theorem tm_RX9_267 : Cond.methodLink RX9 267 yX1_leadsTo ∈ TB := tb_in 1125 (by decide +kernel) rfl
theorem tf_RX9_217 : Cond.fieldLink RX9 217 "ColouredHeap$Heap" "words" "[I" ∈ TB := tb_in 184 (by decide +kernel) rfl
theorem tf_RX9_59 : Cond.fieldLink RX9 59 "ColouredHeap" "law" "LColouredHeap$Law;" ∈ TB := tb_in 464 (by decide +kernel) rfl
theorem tf_RX9_313 : Cond.fieldLink RX9 313 "ColouredHeap$Told" "saidPages" "[I" ∈ TB := tb_in 292 (by decide +kernel) rfl
theorem tm_RX9_235 : Cond.methodLink RX9 235 yX3_picked ∈ TB := tb_in 1094 (by decide +kernel) rfl
theorem tf_RX9_316 : Cond.fieldLink RX9 316 "ColouredHeap$Told" "saidPicks" "[I" ∈ TB := tb_in 294 (by decide +kernel) rfl
theorem td_X9_agreesWhenFirst : yX9_agreesWhenFirst.cls ≠ "java/lang/invoke/MethodHandle" ∧ yX9_agreesWhenFirst.cls ≠ "java/lang/invoke/VarHandle" ∧ (parseMethodDescriptor yX9_agreesWhenFirst.desc).map (fun d => d.parameters.length) = some 1 := by decide +kernel
theorem tc_X9_agreesWhenFirst : Cond.code yX9_agreesWhenFirst cX9_agreesWhenFirst 4 (some .boolean) ∈ TB := tb_in 1205 (by decide +kernel) rfl
theorem tm_RX9_301 : Cond.methodLink RX9 301 yX9_agreesWhenFirst ∈ TB := tb_in 1202 (by decide +kernel) rfl
theorem ti_X9_agreesWhenFirst : Cond.instanceMethod yX9_agreesWhenFirst ∈ TB := tb_in 1204 (by decide +kernel) rfl
theorem ts_X9_agreesWhenFirst : Cond.selects RX9 yX9_agreesWhenFirst yX9_agreesWhenFirst ∈ TB := tb_in 36 (by decide +kernel) rfl
theorem tf_RX9_30 : Cond.fieldLink RX9 30 "ColouredHeap" "imageHeap" "LColouredHeap$Heap;" ∈ TB := tb_in 458 (by decide +kernel) rfl
theorem tf_RX9_33 : Cond.fieldLink RX9 33 "ColouredHeap" "imageSteps" "LColouredHeap$Steps;" ∈ TB := tb_in 459 (by decide +kernel) rfl
theorem td_X5_takeOver : yX5_takeOver.cls ≠ "java/lang/invoke/MethodHandle" ∧ yX5_takeOver.cls ≠ "java/lang/invoke/VarHandle" ∧ (parseMethodDescriptor yX5_takeOver.desc).map (fun d => d.parameters.length) = some 1 := by decide +kernel
theorem tc_X5_takeOver : Cond.code yX5_takeOver cX5_takeOver 5 none ∈ TB := tb_in 1259 (by decide +kernel) rfl
theorem tm_RX9_326 : Cond.methodLink RX9 326 yX5_takeOver ∈ TB := tb_in 1256 (by decide +kernel) rfl
theorem ti_X5_takeOver : Cond.instanceMethod yX5_takeOver ∈ TB := tb_in 1257 (by decide +kernel) rfl
theorem ts_X5_takeOver : Cond.selects RX5 yX5_takeOver yX5_takeOver ∈ TB := tb_in 1258 (by decide +kernel) rfl
theorem tf_RX9_36 : Cond.fieldLink RX9 36 "ColouredHeap" "imageTold" "LColouredHeap$Told;" ∈ TB := tb_in 460 (by decide +kernel) rfl
theorem td_X8_takeOver : yX8_takeOver.cls ≠ "java/lang/invoke/MethodHandle" ∧ yX8_takeOver.cls ≠ "java/lang/invoke/VarHandle" ∧ (parseMethodDescriptor yX8_takeOver.desc).map (fun d => d.parameters.length) = some 1 := by decide +kernel
theorem tc_X8_takeOver : Cond.code yX8_takeOver cX8_takeOver 2 none ∈ TB := tb_in 1263 (by decide +kernel) rfl
theorem tm_RX9_329 : Cond.methodLink RX9 329 yX8_takeOver ∈ TB := tb_in 1260 (by decide +kernel) rfl
theorem ti_X8_takeOver : Cond.instanceMethod yX8_takeOver ∈ TB := tb_in 1261 (by decide +kernel) rfl
theorem ts_X8_takeOver : Cond.selects RX8 yX8_takeOver yX8_takeOver ∈ TB := tb_in 1262 (by decide +kernel) rfl
theorem tn_RX8 : Cond.initialized RX8 ∈ TB := tb_in 134 (by decide +kernel) rfl
theorem tf_RX9_124 : Cond.fieldLink RX9 124 "ColouredHeap$Heap" "clock" "I" ∈ TB := tb_in 223 (by decide +kernel) rfl
theorem td_X5_prepare : yX5_prepare.cls ≠ "java/lang/invoke/MethodHandle" ∧ yX5_prepare.cls ≠ "java/lang/invoke/VarHandle" ∧ (parseMethodDescriptor yX5_prepare.desc).map (fun d => d.parameters.length) = some 1 := by decide +kernel
theorem tc_X5_prepare : Cond.code yX5_prepare cX5_prepare 3 none ∈ TB := tb_in 832 (by decide +kernel) rfl
theorem tm_RX9_113 : Cond.methodLink RX9 113 yX5_prepare ∈ TB := tb_in 829 (by decide +kernel) rfl
theorem ti_X5_prepare : Cond.instanceMethod yX5_prepare ∈ TB := tb_in 830 (by decide +kernel) rfl
theorem ts_X5_prepare : Cond.selects RX5 yX5_prepare yX5_prepare ∈ TB := tb_in 831 (by decide +kernel) rfl
theorem td_X1_beginRead : yX1_beginRead.cls ≠ "java/lang/invoke/MethodHandle" ∧ yX1_beginRead.cls ≠ "java/lang/invoke/VarHandle" ∧ (parseMethodDescriptor yX1_beginRead.desc).map (fun d => d.parameters.length) = some 3 := by decide +kernel
theorem tc_X1_beginRead : Cond.code yX1_beginRead cX1_beginRead 8 (some .int) ∈ TB := tb_in 1017 (by decide +kernel) rfl
theorem tm_RX9_143 : Cond.methodLink RX9 143 yX1_beginRead ∈ TB := tb_in 1014 (by decide +kernel) rfl
theorem ti_X1_beginRead : Cond.instanceMethod yX1_beginRead ∈ TB := tb_in 1015 (by decide +kernel) rfl
theorem ts_X1_beginRead : Cond.selects RX1 yX1_beginRead yX1_beginRead ∈ TB := tb_in 1016 (by decide +kernel) rfl
theorem td_X5_keep : yX5_keep.cls ≠ "java/lang/invoke/MethodHandle" ∧ yX5_keep.cls ≠ "java/lang/invoke/VarHandle" ∧ (parseMethodDescriptor yX5_keep.desc).map (fun d => d.parameters.length) = some 0 := by decide +kernel
theorem tc_X5_keep : Cond.code yX5_keep cX5_keep 1 none ∈ TB := tb_in 873 (by decide +kernel) rfl
theorem tm_RX9_121 : Cond.methodLink RX9 121 yX5_keep ∈ TB := tb_in 870 (by decide +kernel) rfl
theorem ti_X5_keep : Cond.instanceMethod yX5_keep ∈ TB := tb_in 871 (by decide +kernel) rfl
theorem ts_X5_keep : Cond.selects RX5 yX5_keep yX5_keep ∈ TB := tb_in 872 (by decide +kernel) rfl
theorem tf_RX9_251 : Cond.fieldLink RX9 251 "ColouredHeap$Heap" "book" "LColouredHeap$Book;" ∈ TB := tb_in 210 (by decide +kernel) rfl
theorem tm_RX9_258 : Cond.methodLink RX9 258 yX0_part ∈ TB := tb_in 1107 (by decide +kernel) rfl
theorem tf_RX9_255 : Cond.fieldLink RX9 255 "ColouredHeap$Book" "count" "I" ∈ TB := tb_in 171 (by decide +kernel) rfl
theorem tf_RX9_45 : Cond.fieldLink RX9 45 "ColouredHeap" "survey" "LColouredHeap$Survey;" ∈ TB := tb_in 462 (by decide +kernel) rfl
theorem td_X6_take : yX6_take.cls ≠ "java/lang/invoke/MethodHandle" ∧ yX6_take.cls ≠ "java/lang/invoke/VarHandle" ∧ (parseMethodDescriptor yX6_take.desc).map (fun d => d.parameters.length) = some 2 := by decide +kernel
theorem tc_X6_take : Cond.code yX6_take cX6_take 7 none ∈ TB := tb_in 1137 (by decide +kernel) rfl
theorem tm_RX9_273 : Cond.methodLink RX9 273 yX6_take ∈ TB := tb_in 1134 (by decide +kernel) rfl
theorem ti_X6_take : Cond.instanceMethod yX6_take ∈ TB := tb_in 1135 (by decide +kernel) rfl
theorem ts_X6_take : Cond.selects RX6 yX6_take yX6_take ∈ TB := tb_in 1136 (by decide +kernel) rfl
theorem tf_RX9_291 : Cond.fieldLink RX9 291 "ColouredHeap$Survey" "loads" "[I" ∈ TB := tb_in 319 (by decide +kernel) rfl
theorem td_X9_isReached : yX9_isReached.cls ≠ "java/lang/invoke/MethodHandle" ∧ yX9_isReached.cls ≠ "java/lang/invoke/VarHandle" ∧ (parseMethodDescriptor yX9_isReached.desc).map (fun d => d.parameters.length) = some 1 := by decide +kernel
theorem tc_X9_isReached : Cond.code yX9_isReached cX9_isReached 2 (some .boolean) ∈ TB := tb_in 1133 (by decide +kernel) rfl
theorem tm_RX9_270 : Cond.methodLink RX9 270 yX9_isReached ∈ TB := tb_in 1130 (by decide +kernel) rfl
theorem ti_X9_isReached : Cond.instanceMethod yX9_isReached ∈ TB := tb_in 1132 (by decide +kernel) rfl
theorem ts_X9_isReached : Cond.selects RX9 yX9_isReached yX9_isReached ∈ TB := tb_in 33 (by decide +kernel) rfl
theorem td_X6_chainFrom : yX6_chainFrom.cls ≠ "java/lang/invoke/MethodHandle" ∧ yX6_chainFrom.cls ≠ "java/lang/invoke/VarHandle" ∧ (parseMethodDescriptor yX6_chainFrom.desc).map (fun d => d.parameters.length) = some 2 := by decide +kernel
theorem tc_X6_chainFrom : Cond.code yX6_chainFrom cX6_chainFrom 5 (some .int) ∈ TB := tb_in 1230 (by decide +kernel) rfl
theorem tm_RX9_307 : Cond.methodLink RX9 307 yX6_chainFrom ∈ TB := tb_in 1227 (by decide +kernel) rfl
theorem ti_X6_chainFrom : Cond.instanceMethod yX6_chainFrom ∈ TB := tb_in 1228 (by decide +kernel) rfl
theorem ts_X6_chainFrom : Cond.selects RX6 yX6_chainFrom yX6_chainFrom ∈ TB := tb_in 1229 (by decide +kernel) rfl
theorem tf_RX9_65 : Cond.fieldLink RX9 65 "ColouredHeap" "texts" "[LColouredHeap$Text;" ∈ TB := tb_in 465 (by decide +kernel) rfl
theorem tm_RX9_161 : Cond.methodLink RX9 161 yX1_canChoose ∈ TB := tb_in 1042 (by decide +kernel) rfl
theorem td_X9_textAt : yX9_textAt.cls ≠ "java/lang/invoke/MethodHandle" ∧ yX9_textAt.cls ≠ "java/lang/invoke/VarHandle" ∧ (parseMethodDescriptor yX9_textAt.desc).map (fun d => d.parameters.length) = some 1 := by decide +kernel
theorem tc_X9_textAt : Cond.code yX9_textAt cX9_textAt 2 (some (.object "ColouredHeap$Text")) ∈ TB := tb_in 508 (by decide +kernel) rfl
theorem tm_RX9_80 : Cond.methodLink RX9 80 yX9_textAt ∈ TB := tb_in 505 (by decide +kernel) rfl
theorem ti_X9_textAt : Cond.instanceMethod yX9_textAt ∈ TB := tb_in 507 (by decide +kernel) rfl
theorem ts_X9_textAt : Cond.selects RX9 yX9_textAt yX9_textAt ∈ TB := tb_in 0 (by decide +kernel) rfl
theorem tm_RX9_164 : Cond.methodLink RX9 164 yX1_turnToMoving ∈ TB := tb_in 1043 (by decide +kernel) rfl
theorem tm_RX9_158 : Cond.methodLink RX9 158 yX1_mendRoots ∈ TB := tb_in 1037 (by decide +kernel) rfl
theorem tm_RX9_105 : Cond.methodLink RX9 105 yX9_isRoot ∈ TB := tb_in 777 (by decide +kernel) rfl
theorem td_X1_tick : yX1_tick.cls ≠ "java/lang/invoke/MethodHandle" ∧ yX1_tick.cls ≠ "java/lang/invoke/VarHandle" ∧ (parseMethodDescriptor yX1_tick.desc).map (fun d => d.parameters.length) = some 2 := by decide +kernel
theorem tc_X1_tick : Cond.code yX1_tick cX1_tick 3 none ∈ TB := tb_in 877 (by decide +kernel) rfl
theorem tm_RX9_127 : Cond.methodLink RX9 127 yX1_tick ∈ TB := tb_in 874 (by decide +kernel) rfl
theorem ti_X1_tick : Cond.instanceMethod yX1_tick ∈ TB := tb_in 875 (by decide +kernel) rfl
theorem ts_X1_tick : Cond.selects RX1 yX1_tick yX1_tick ∈ TB := tb_in 876 (by decide +kernel) rfl
theorem td_X9_passTicks : yX9_passTicks.cls ≠ "java/lang/invoke/MethodHandle" ∧ yX9_passTicks.cls ≠ "java/lang/invoke/VarHandle" ∧ (parseMethodDescriptor yX9_passTicks.desc).map (fun d => d.parameters.length) = some 1 := by decide +kernel
theorem tc_X9_passTicks : Cond.code yX9_passTicks cX9_passTicks 4 (some .int) ∈ TB := tb_in 1051 (by decide +kernel) rfl
theorem tm_RX9_168 : Cond.methodLink RX9 168 yX9_passTicks ∈ TB := tb_in 1048 (by decide +kernel) rfl
theorem ti_X9_passTicks : Cond.instanceMethod yX9_passTicks ∈ TB := tb_in 1050 (by decide +kernel) rfl
theorem ts_X9_passTicks : Cond.selects RX9 yX9_passTicks yX9_passTicks ∈ TB := tb_in 31 (by decide +kernel) rfl
theorem tf_RX9_172 : Cond.fieldLink RX9 172 "ColouredHeap$Heap" "phase" "I" ∈ TB := tb_in 216 (by decide +kernel) rfl
theorem td_X6_gapsOf : yX6_gapsOf.cls ≠ "java/lang/invoke/MethodHandle" ∧ yX6_gapsOf.cls ≠ "java/lang/invoke/VarHandle" ∧ (parseMethodDescriptor yX6_gapsOf.desc).map (fun d => d.parameters.length) = some 2 := by decide +kernel
theorem tc_X6_gapsOf : Cond.code yX6_gapsOf cX6_gapsOf 5 (some .int) ∈ TB := tb_in 1161 (by decide +kernel) rfl
theorem tm_RX9_280 : Cond.methodLink RX9 280 yX6_gapsOf ∈ TB := tb_in 1158 (by decide +kernel) rfl
theorem ti_X6_gapsOf : Cond.instanceMethod yX6_gapsOf ∈ TB := tb_in 1159 (by decide +kernel) rfl
theorem ts_X6_gapsOf : Cond.selects RX6 yX6_gapsOf yX6_gapsOf ∈ TB := tb_in 1160 (by decide +kernel) rfl
theorem td_X1_makeObject : yX1_makeObject.cls ≠ "java/lang/invoke/MethodHandle" ∧ yX1_makeObject.cls ≠ "java/lang/invoke/VarHandle" ∧ (parseMethodDescriptor yX1_makeObject.desc).map (fun d => d.parameters.length) = some 2 := by decide +kernel
theorem tc_X1_makeObject : Cond.code yX1_makeObject cX1_makeObject 5 (some .int) ∈ TB := tb_in 850 (by decide +kernel) rfl
theorem tm_RX9_117 : Cond.methodLink RX9 117 yX1_makeObject ∈ TB := tb_in 847 (by decide +kernel) rfl
theorem ti_X1_makeObject : Cond.instanceMethod yX1_makeObject ∈ TB := tb_in 848 (by decide +kernel) rfl
theorem ts_X1_makeObject : Cond.selects RX1 yX1_makeObject yX1_makeObject ∈ TB := tb_in 849 (by decide +kernel) rfl
theorem td_X1_loadField : yX1_loadField.cls ≠ "java/lang/invoke/MethodHandle" ∧ yX1_loadField.cls ≠ "java/lang/invoke/VarHandle" ∧ (parseMethodDescriptor yX1_loadField.desc).map (fun d => d.parameters.length) = some 3 := by decide +kernel
theorem tc_X1_loadField : Cond.code yX1_loadField cX1_loadField 6 (some .int) ∈ TB := tb_in 989 (by decide +kernel) rfl
theorem tm_RX9_131 : Cond.methodLink RX9 131 yX1_loadField ∈ TB := tb_in 986 (by decide +kernel) rfl
theorem ti_X1_loadField : Cond.instanceMethod yX1_loadField ∈ TB := tb_in 987 (by decide +kernel) rfl
theorem ts_X1_loadField : Cond.selects RX1 yX1_loadField yX1_loadField ∈ TB := tb_in 988 (by decide +kernel) rfl
theorem td_X1_storeField : yX1_storeField.cls ≠ "java/lang/invoke/MethodHandle" ∧ yX1_storeField.cls ≠ "java/lang/invoke/VarHandle" ∧ (parseMethodDescriptor yX1_storeField.desc).map (fun d => d.parameters.length) = some 3 := by decide +kernel
theorem tc_X1_storeField : Cond.code yX1_storeField cX1_storeField 5 (some .boolean) ∈ TB := tb_in 1001 (by decide +kernel) rfl
theorem tm_RX9_135 : Cond.methodLink RX9 135 yX1_storeField ∈ TB := tb_in 998 (by decide +kernel) rfl
theorem ti_X1_storeField : Cond.instanceMethod yX1_storeField ∈ TB := tb_in 999 (by decide +kernel) rfl
theorem ts_X1_storeField : Cond.selects RX1 yX1_storeField yX1_storeField ∈ TB := tb_in 1000 (by decide +kernel) rfl
theorem tf_RX9_99 : Cond.fieldLink RX9 99 "ColouredHeap$Reader" "faultPlace" "I" ∈ TB := tb_in 412 (by decide +kernel) rfl
theorem tf_RX9_96 : Cond.fieldLink RX9 96 "ColouredHeap$Reader" "fault" "I" ∈ TB := tb_in 410 (by decide +kernel) rfl
theorem td_X4_add : yX4_add.cls ≠ "java/lang/invoke/MethodHandle" ∧ yX4_add.cls ≠ "java/lang/invoke/VarHandle" ∧ (parseMethodDescriptor yX4_add.desc).map (fun d => d.parameters.length) = some 1 := by decide +kernel
theorem tc_X4_add : Cond.code yX4_add cX4_add 3 none ∈ TB := tb_in 496 (by decide +kernel) rfl
theorem tm_RX9_74 : Cond.methodLink RX9 74 yX4_add ∈ TB := tb_in 493 (by decide +kernel) rfl
theorem ti_X4_add : Cond.instanceMethod yX4_add ∈ TB := tb_in 494 (by decide +kernel) rfl
theorem ts_X4_add : Cond.selects RX4 yX4_add yX4_add ∈ TB := tb_in 495 (by decide +kernel) rfl
theorem tm_RX9_146 : Cond.methodLink RX9 146 yX1_hasBegun ∈ TB := tb_in 1022 (by decide +kernel) rfl
theorem tm_RX9_263 : Cond.methodLink RX9 263 yX1_freePages ∈ TB := tb_in 1116 (by decide +kernel) rfl
theorem tf_RX9_220 : Cond.fieldLink RX9 220 "ColouredHeap$Heap" "forwards" "[I" ∈ TB := tb_in 186 (by decide +kernel) rfl
theorem tm_RX9_223 : Cond.methodLink RX9 223 yX9_isPage ∈ TB := tb_in 1093 (by decide +kernel) rfl
theorem tf_RX9_202 : Cond.fieldLink RX9 202 "ColouredHeap$Heap" "x" "I" ∈ TB := tb_in 225 (by decide +kernel) rfl
theorem tf_RX9_239 : Cond.fieldLink RX9 239 "ColouredHeap$Heap" "good" "I" ∈ TB := tb_in 219 (by decide +kernel) rfl
theorem tf_RX9_242 : Cond.fieldLink RX9 242 "ColouredHeap$Heap" "stackSize" "I" ∈ TB := tb_in 213 (by decide +kernel) rfl
theorem tf_RX9_245 : Cond.fieldLink RX9 245 "ColouredHeap$Heap" "givenOn" "[I" ∈ TB := tb_in 204 (by decide +kernel) rfl
theorem td_X0_linesOf : yX0_linesOf.cls ≠ "java/lang/invoke/MethodHandle" ∧ yX0_linesOf.cls ≠ "java/lang/invoke/VarHandle" ∧ (parseMethodDescriptor yX0_linesOf.desc).map (fun d => d.parameters.length) = some 1 := by decide +kernel
theorem tc_X0_linesOf : Cond.code yX0_linesOf cX0_linesOf 4 (some .int) ∈ TB := tb_in 1250 (by decide +kernel) rfl
theorem tm_RX9_323 : Cond.methodLink RX9 323 yX0_linesOf ∈ TB := tb_in 1247 (by decide +kernel) rfl
theorem ti_X0_linesOf : Cond.instanceMethod yX0_linesOf ∈ TB := tb_in 1248 (by decide +kernel) rfl
theorem ts_X0_linesOf : Cond.selects RX0 yX0_linesOf yX0_linesOf ∈ TB := tb_in 1249 (by decide +kernel) rfl
theorem td_X3_paceOf : yX3_paceOf.cls ≠ "java/lang/invoke/MethodHandle" ∧ yX3_paceOf.cls ≠ "java/lang/invoke/VarHandle" ∧ (parseMethodDescriptor yX3_paceOf.desc).map (fun d => d.parameters.length) = some 3 := by decide +kernel
theorem tc_X3_paceOf : Cond.code yX3_paceOf cX3_paceOf 4 (some .int) ∈ TB := tb_in 783 (by decide +kernel) rfl
theorem tm_RX9_109 : Cond.methodLink RX9 109 yX3_paceOf ∈ TB := tb_in 780 (by decide +kernel) rfl
theorem ti_X3_paceOf : Cond.instanceMethod yX3_paceOf ∈ TB := tb_in 781 (by decide +kernel) rfl
theorem ts_X3_paceOf : Cond.selects RX3 yX3_paceOf yX3_paceOf ∈ TB := tb_in 782 (by decide +kernel) rfl
theorem tf_RX9_248 : Cond.fieldLink RX9 248 "ColouredHeap$Heap" "marks" "[I" ∈ TB := tb_in 188 (by decide +kernel) rfl
theorem td_X6_fewestPages : yX6_fewestPages.cls ≠ "java/lang/invoke/MethodHandle" ∧ yX6_fewestPages.cls ≠ "java/lang/invoke/VarHandle" ∧ (parseMethodDescriptor yX6_fewestPages.desc).map (fun d => d.parameters.length) = some 1 := by decide +kernel
theorem tc_X6_fewestPages : Cond.code yX6_fewestPages cX6_fewestPages 10 (some .int) ∈ TB := tb_in 1186 (by decide +kernel) rfl
theorem tm_RX9_294 : Cond.methodLink RX9 294 yX6_fewestPages ∈ TB := tb_in 1183 (by decide +kernel) rfl
theorem ti_X6_fewestPages : Cond.instanceMethod yX6_fewestPages ∈ TB := tb_in 1184 (by decide +kernel) rfl
theorem ts_X6_fewestPages : Cond.selects RX6 yX6_fewestPages yX6_fewestPages ∈ TB := tb_in 1185 (by decide +kernel) rfl
theorem tf_RX9_226 : Cond.fieldLink RX9 226 "ColouredHeap$Heap" "states" "[I" ∈ TB := tb_in 199 (by decide +kernel) rfl
theorem tf_RX9_229 : Cond.fieldLink RX9 229 "ColouredHeap$Heap" "used" "[I" ∈ TB := tb_in 196 (by decide +kernel) rfl
theorem tf_RX9_232 : Cond.fieldLink RX9 232 "ColouredHeap$Heap" "live" "[I" ∈ TB := tb_in 192 (by decide +kernel) rfl
theorem tf_RX9_175 : Cond.fieldLink RX9 175 "ColouredHeap$Text" "clauses" "I" ∈ TB := tb_in 376 (by decide +kernel) rfl
theorem tf_RX9_178 : Cond.fieldLink RX9 178 "ColouredHeap$Text" "firsts" "[I" ∈ TB := tb_in 360 (by decide +kernel) rfl
theorem tf_RX9_181 : Cond.fieldLink RX9 181 "ColouredHeap$Text" "seconds" "[I" ∈ TB := tb_in 362 (by decide +kernel) rfl
theorem tf_RX9_184 : Cond.fieldLink RX9 184 "ColouredHeap$Text" "thirds" "[I" ∈ TB := tb_in 364 (by decide +kernel) rfl
theorem tf_RX9_187 : Cond.fieldLink RX9 187 "ColouredHeap$Text" "kinds" "[I" ∈ TB := tb_in 358 (by decide +kernel) rfl
theorem td_X9_make : yX9_make.cls ≠ "java/lang/invoke/MethodHandle" ∧ yX9_make.cls ≠ "java/lang/invoke/VarHandle" ∧ (parseMethodDescriptor yX9_make.desc).map (fun d => d.parameters.length) = some 2 := by decide +kernel
theorem tc_X9_make : Cond.code yX9_make cX9_make 7 (some .int) ∈ TB := tb_in 776 (by decide +kernel) rfl
theorem tm_RX9_190 : Cond.methodLink RX9 190 yX9_make ∈ TB := tb_in 1056 (by decide +kernel) rfl
theorem ti_X9_make : Cond.instanceMethod yX9_make ∈ TB := tb_in 774 (by decide +kernel) rfl
theorem ts_X9_make : Cond.selects RX9 yX9_make yX9_make ∈ TB := tb_in 775 (by decide +kernel) rfl
theorem td_X9_load : yX9_load.cls ≠ "java/lang/invoke/MethodHandle" ∧ yX9_load.cls ≠ "java/lang/invoke/VarHandle" ∧ (parseMethodDescriptor yX9_load.desc).map (fun d => d.parameters.length) = some 3 := by decide +kernel
theorem tc_X9_load : Cond.code yX9_load cX9_load 5 (some .int) ∈ TB := tb_in 985 (by decide +kernel) rfl
theorem tm_RX9_193 : Cond.methodLink RX9 193 yX9_load ∈ TB := tb_in 1057 (by decide +kernel) rfl
theorem ti_X9_load : Cond.instanceMethod yX9_load ∈ TB := tb_in 983 (by decide +kernel) rfl
theorem ts_X9_load : Cond.selects RX9 yX9_load yX9_load ∈ TB := tb_in 984 (by decide +kernel) rfl
theorem td_X9_store : yX9_store.cls ≠ "java/lang/invoke/MethodHandle" ∧ yX9_store.cls ≠ "java/lang/invoke/VarHandle" ∧ (parseMethodDescriptor yX9_store.desc).map (fun d => d.parameters.length) = some 3 := by decide +kernel
theorem tc_X9_store : Cond.code yX9_store cX9_store 5 (some .boolean) ∈ TB := tb_in 997 (by decide +kernel) rfl
theorem tm_RX9_196 : Cond.methodLink RX9 196 yX9_store ∈ TB := tb_in 1058 (by decide +kernel) rfl
theorem ti_X9_store : Cond.instanceMethod yX9_store ∈ TB := tb_in 995 (by decide +kernel) rfl
theorem ts_X9_store : Cond.selects RX9 yX9_store yX9_store ∈ TB := tb_in 996 (by decide +kernel) rfl
theorem td_X9_drop : yX9_drop.cls ≠ "java/lang/invoke/MethodHandle" ∧ yX9_drop.cls ≠ "java/lang/invoke/VarHandle" ∧ (parseMethodDescriptor yX9_drop.desc).map (fun d => d.parameters.length) = some 1 := by decide +kernel
theorem tc_X9_drop : Cond.code yX9_drop cX9_drop 2 (some .boolean) ∈ TB := tb_in 1005 (by decide +kernel) rfl
theorem tm_RX9_199 : Cond.methodLink RX9 199 yX9_drop ∈ TB := tb_in 1059 (by decide +kernel) rfl
theorem ti_X9_drop : Cond.instanceMethod yX9_drop ∈ TB := tb_in 1003 (by decide +kernel) rfl
theorem ts_X9_drop : Cond.selects RX9 yX9_drop yX9_drop ∈ TB := tb_in 1004 (by decide +kernel) rfl
theorem tf_RX9_279 : Cond.fieldLink RX9 279 "ColouredHeap$Survey" "count" "I" ∈ TB := tb_in 323 (by decide +kernel) rfl
theorem tf_RX9_277 : Cond.fieldLink RX9 277 "ColouredHeap$Survey" "words" "I" ∈ TB := tb_in 325 (by decide +kernel) rfl
theorem tf_RX9_287 : Cond.fieldLink RX9 287 "ColouredHeap$Survey" "safe" "Z" ∈ TB := tb_in 329 (by decide +kernel) rfl
theorem tm_RX9_304 : Cond.methodLink RX9 304 yX1_fieldOf ∈ TB := tb_in 1218 (by decide +kernel) rfl
theorem tf_RX9_284 : Cond.fieldLink RX9 284 "ColouredHeap$Survey" "stale" "I" ∈ TB := tb_in 327 (by decide +kernel) rfl
theorem tm_RX9_152 : Cond.methodLink RX9 152 yX1_canMark ∈ TB := tb_in 1035 (by decide +kernel) rfl
theorem tm_RX9_155 : Cond.methodLink RX9 155 yX1_turnToMarking ∈ TB := tb_in 1036 (by decide +kernel) rfl
theorem td_X4_readTape : yX4_readTape.cls ≠ "java/lang/invoke/MethodHandle" ∧ yX4_readTape.cls ≠ "java/lang/invoke/VarHandle" ∧ (parseMethodDescriptor yX4_readTape.desc).map (fun d => d.parameters.length) = some 0 := by decide +kernel
theorem tc_X4_readTape : Cond.code yX4_readTape cX4_readTape 2 (some .boolean) ∈ TB := tb_in 512 (by decide +kernel) rfl
theorem tm_RX9_84 : Cond.methodLink RX9 84 yX4_readTape ∈ TB := tb_in 509 (by decide +kernel) rfl
theorem ti_X4_readTape : Cond.instanceMethod yX4_readTape ∈ TB := tb_in 510 (by decide +kernel) rfl
theorem ts_X4_readTape : Cond.selects RX4 yX4_readTape yX4_readTape ∈ TB := tb_in 511 (by decide +kernel) rfl
theorem tf_RX9_88 : Cond.fieldLink RX9 88 "ColouredHeap$Reader" "draft" "LColouredHeap$Text;" ∈ TB := tb_in 406 (by decide +kernel) rfl
theorem td_X7_takeOver : yX7_takeOver.cls ≠ "java/lang/invoke/MethodHandle" ∧ yX7_takeOver.cls ≠ "java/lang/invoke/VarHandle" ∧ (parseMethodDescriptor yX7_takeOver.desc).map (fun d => d.parameters.length) = some 1 := by decide +kernel
theorem tc_X7_takeOver : Cond.code yX7_takeOver cX7_takeOver 2 none ∈ TB := tb_in 760 (by decide +kernel) rfl
theorem tm_RX9_92 : Cond.methodLink RX9 92 yX7_takeOver ∈ TB := tb_in 757 (by decide +kernel) rfl
theorem ti_X7_takeOver : Cond.instanceMethod yX7_takeOver ∈ TB := tb_in 758 (by decide +kernel) rfl
theorem ts_X7_takeOver : Cond.selects RX7 yX7_takeOver yX7_takeOver ∈ TB := tb_in 759 (by decide +kernel) rfl
theorem td_X5_takeBack : yX5_takeBack.cls ≠ "java/lang/invoke/MethodHandle" ∧ yX5_takeBack.cls ≠ "java/lang/invoke/VarHandle" ∧ (parseMethodDescriptor yX5_takeBack.desc).map (fun d => d.parameters.length) = some 1 := by decide +kernel
theorem tc_X5_takeBack : Cond.code yX5_takeBack cX5_takeBack 3 none ∈ TB := tb_in 1075 (by decide +kernel) rfl
theorem tm_RX9_211 : Cond.methodLink RX9 211 yX5_takeBack ∈ TB := tb_in 1072 (by decide +kernel) rfl
theorem ti_X5_takeBack : Cond.instanceMethod yX5_takeBack ∈ TB := tb_in 1073 (by decide +kernel) rfl
theorem ts_X5_takeBack : Cond.selects RX5 yX5_takeBack yX5_takeBack ∈ TB := tb_in 1074 (by decide +kernel) rfl
theorem td_X9_agreesWithSaid : yX9_agreesWithSaid.cls ≠ "java/lang/invoke/MethodHandle" ∧ yX9_agreesWithSaid.cls ≠ "java/lang/invoke/VarHandle" ∧ (parseMethodDescriptor yX9_agreesWithSaid.desc).map (fun d => d.parameters.length) = some 1 := by decide +kernel
theorem tc_X9_agreesWithSaid : Cond.code yX9_agreesWithSaid cX9_agreesWithSaid 4 (some .boolean) ∈ TB := tb_in 1242 (by decide +kernel) rfl
theorem tm_RX9_319 : Cond.methodLink RX9 319 yX9_agreesWithSaid ∈ TB := tb_in 1239 (by decide +kernel) rfl
theorem ti_X9_agreesWithSaid : Cond.instanceMethod yX9_agreesWithSaid ∈ TB := tb_in 1241 (by decide +kernel) rfl
theorem ts_X9_agreesWithSaid : Cond.selects RX9 yX9_agreesWithSaid yX9_agreesWithSaid ∈ TB := tb_in 37 (by decide +kernel) rfl
theorem td_X9_draw : yX9_draw.cls ≠ "java/lang/invoke/MethodHandle" ∧ yX9_draw.cls ≠ "java/lang/invoke/VarHandle" ∧ (parseMethodDescriptor yX9_draw.desc).map (fun d => d.parameters.length) = some 1 := by decide +kernel
theorem tc_X9_draw : Cond.code yX9_draw cX9_draw 3 none ∈ TB := tb_in 1067 (by decide +kernel) rfl
theorem tm_RX9_205 : Cond.methodLink RX9 205 yX9_draw ∈ TB := tb_in 1064 (by decide +kernel) rfl
theorem ti_X9_draw : Cond.instanceMethod yX9_draw ∈ TB := tb_in 1066 (by decide +kernel) rfl
theorem ts_X9_draw : Cond.selects RX9 yX9_draw yX9_draw ∈ TB := tb_in 32 (by decide +kernel) rfl
theorem tm_RX0_3 : Cond.methodLink RX0 3 Lib.objectInit ∈ TB := tb_in 167 (by decide +kernel) rfl
theorem ti_Object : Cond.instanceMethod Lib.objectInit ∈ TB := tb_in 154 (by decide +kernel) rfl
theorem tc_Object : Cond.code Lib.objectInit ⟨#[0xb1]⟩ 1 none ∈ TB := tb_in 155 (by decide +kernel) rfl
theorem ta_int : Cond.arrayClass .int ∈ TB := tb_in 179 (by decide +kernel) rfl
theorem tm_RX8_3 : Cond.methodLink RX8 3 Lib.objectInit ∈ TB := tb_in 290 (by decide +kernel) rfl
theorem tm_RX6_3 : Cond.methodLink RX6 3 Lib.objectInit ∈ TB := tb_in 317 (by decide +kernel) rfl
theorem tm_RX3_3 : Cond.methodLink RX3 3 Lib.objectInit ∈ TB := tb_in 444 (by decide +kernel) rfl
theorem tm_RX7_3 : Cond.methodLink RX7 3 Lib.objectInit ∈ TB := tb_in 356 (by decide +kernel) rfl
theorem tm_RX4_3 : Cond.methodLink RX4 3 Lib.objectInit ∈ TB := tb_in 350 (by decide +kernel) rfl
theorem tq_RX4_24 : Cond.classLink RX4 24 RX7 ∈ TB := tb_in 351 (by decide +kernel) rfl
theorem tj_RX7 : Cond.instantiable RX7 10 ∈ TB := tb_in 352 (by decide +kernel) rfl
theorem td_X7_init : yX7_init.cls ≠ "java/lang/invoke/MethodHandle" ∧ yX7_init.cls ≠ "java/lang/invoke/VarHandle" ∧ (parseMethodDescriptor yX7_init.desc).map (fun d => d.parameters.length) = some 0 := by decide +kernel
theorem tc_X7_init : Cond.code yX7_init cX7_init 1 none ∈ TB := tb_in 355 (by decide +kernel) rfl
theorem ti_X7_init : Cond.instanceMethod yX7_init ∈ TB := tb_in 354 (by decide +kernel) rfl
theorem tm_RX1_3 : Cond.methodLink RX1 3 Lib.objectInit ∈ TB := tb_in 161 (by decide +kernel) rfl
theorem tq_RX1_48 : Cond.classLink RX1 48 RX0 ∈ TB := tb_in 162 (by decide +kernel) rfl
theorem tj_RX0 : Cond.instantiable RX0 3 ∈ TB := tb_in 163 (by decide +kernel) rfl
theorem td_X0_init : yX0_init.cls ≠ "java/lang/invoke/MethodHandle" ∧ yX0_init.cls ≠ "java/lang/invoke/VarHandle" ∧ (parseMethodDescriptor yX0_init.desc).map (fun d => d.parameters.length) = some 0 := by decide +kernel
theorem tc_X0_init : Cond.code yX0_init cX0_init 1 none ∈ TB := tb_in 166 (by decide +kernel) rfl
theorem ti_X0_init : Cond.instanceMethod yX0_init ∈ TB := tb_in 165 (by decide +kernel) rfl
