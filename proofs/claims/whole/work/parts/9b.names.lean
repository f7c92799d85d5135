/-! words of the reference by the class's kinds -/
theorem w_picks : (f_X10_w5 112 105 99 107 115).toInt = (vcd 0 : Int) := by decide +kernel
theorem w_paces : (f_X10_w5 112 97 99 101 115).toInt = (vcd 1 : Int) := by decide +kernel
theorem w_make : (f_X10_w4 109 97 107 101).toInt = (vcd 2 : Int) := by decide +kernel
theorem w_load : (f_X10_w4 108 111 97 100).toInt = (vcd 3 : Int) := by decide +kernel
theorem w_store : (f_X10_w5 115 116 111 114 101).toInt = (vcd 4 : Int) := by decide +kernel
theorem w_drop : (f_X10_w4 100 114 111 112).toInt = (vcd 5 : Int) := by decide +kernel
theorem w_day : (f_X10_w3 100 97 121).toInt = (vcd 6 : Int) := by decide +kernel
theorem w_of : (f_X10_w2 111 102).toInt = (vcd 7 : Int) := by decide +kernel
theorem w_from : (f_X10_w4 102 114 111 109).toInt = (vcd 8 : Int) := by decide +kernel
theorem w_to : (f_X10_w2 116 111).toInt = (vcd 9 : Int) := by decide +kernel
theorem w_live : (f_X10_w4 108 105 118 101).toInt = (vcd 10 : Int) := by decide +kernel
theorem w_used : (f_X10_w4 117 115 101 100).toInt = (vcd 11 : Int) := by decide +kernel
theorem w_if : (f_X10_w2 105 102).toInt = (vcd 12 : Int) := by decide +kernel
theorem w_then : (f_X10_w4 116 104 101 110).toInt = (vcd 13 : Int) := by decide +kernel
theorem w_else : (f_X10_w4 101 108 115 101).toInt = (vcd 14 : Int) := by decide +kernel
theorem w_end : (f_X10_w3 101 110 100).toInt = (vcd 15 : Int) := by decide +kernel
theorem w_or : (f_X10_w2 111 114).toInt = (vcd 16 : Int) := by decide +kernel
theorem w_and : (f_X10_w3 97 110 100).toInt = (vcd 17 : Int) := by decide +kernel
theorem w_not : (f_X10_w3 110 111 116).toInt = (vcd 18 : Int) := by decide +kernel
theorem y_sortOf {M : xm} {L : xn} {kd nm : Nat} (h : TkY M L kd nm) : (f_X10_sortOf M L).toInt = if kd ≤ 6 then (kd : Int) else -1 := by
  unfold f_X10_sortOf
  rw [h.word (by omega) w_picks, h.word (by omega) w_paces, h.word (by omega) w_make, h.word (by omega) w_load, h.word (by omega) w_store, h.word (by omega) w_drop, h.word (by omega) w_day]
  by_cases c : kd ≤ 6
  · rw [if_pos c]
    have hc : kd = 0 ∨ kd = 1 ∨ kd = 2 ∨ kd = 3 ∨ kd = 4 ∨ kd = 5 ∨ kd = 6 := by omega
    rcases hc with rfl | rfl | rfl | rfl | rfl | rfl | rfl <;> rfl
  · rw [if_neg c, if_neg (c := kd = 0) (by omega), if_neg (c := kd = 1) (by omega), if_neg (c := kd = 2) (by omega), if_neg (c := kd = 3) (by omega), if_neg (c := kd = 4) (by omega), if_neg (c := kd = 5) (by omega), if_neg (c := kd = 6) (by omega)]
    rfl
