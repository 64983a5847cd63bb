set_option maxRecDepth 100000 in
theorem am_k112_0 : ((List.range 40).map (fun i => am_ek 112 (i + 0))).all id = true := by decide +kernel
theorem am_ky112 (pc : Nat) : am_ek 112 pc = true := by
  rcases Nat.lt_or_ge pc 40 with q | q
  · exact am_ek_u am_k112_0 (by omega) (by omega)
  refine am_ek_none ?_
  show (bif Nat.blt pc 40 then am_cr112 pc else none) = none
  exact am_blt_f q _ _
set_option maxRecDepth 100000 in
theorem am_k113_0 : ((List.range 48).map (fun i => am_ek 113 (i + 0))).all id = true := by decide +kernel
set_option maxRecDepth 100000 in
theorem am_k113_1 : ((List.range 38).map (fun i => am_ek 113 (i + 48))).all id = true := by decide +kernel
theorem am_ky113 (pc : Nat) : am_ek 113 pc = true := by
  rcases Nat.lt_or_ge pc 48 with q | q
  · exact am_ek_u am_k113_0 (by omega) (by omega)
  rcases Nat.lt_or_ge pc 86 with q | q
  · exact am_ek_u am_k113_1 (by omega) (by omega)
  refine am_ek_none ?_
  show (bif Nat.blt pc 86 then am_cr113 pc else none) = none
  exact am_blt_f q _ _
set_option maxRecDepth 100000 in
theorem am_k114_0 : ((List.range 48).map (fun i => am_ek 114 (i + 0))).all id = true := by decide +kernel
set_option maxRecDepth 100000 in
theorem am_k114_1 : ((List.range 48).map (fun i => am_ek 114 (i + 48))).all id = true := by decide +kernel
set_option maxRecDepth 100000 in
theorem am_k114_2 : ((List.range 48).map (fun i => am_ek 114 (i + 96))).all id = true := by decide +kernel
set_option maxRecDepth 100000 in
theorem am_k114_3 : ((List.range 48).map (fun i => am_ek 114 (i + 144))).all id = true := by decide +kernel
set_option maxRecDepth 100000 in
theorem am_k114_4 : ((List.range 48).map (fun i => am_ek 114 (i + 192))).all id = true := by decide +kernel
set_option maxRecDepth 100000 in
theorem am_k114_5 : ((List.range 48).map (fun i => am_ek 114 (i + 240))).all id = true := by decide +kernel
set_option maxRecDepth 100000 in
theorem am_k114_6 : ((List.range 22).map (fun i => am_ek 114 (i + 288))).all id = true := by decide +kernel
theorem am_ky114 (pc : Nat) : am_ek 114 pc = true := by
  rcases Nat.lt_or_ge pc 48 with q | q
  · exact am_ek_u am_k114_0 (by omega) (by omega)
  rcases Nat.lt_or_ge pc 96 with q | q
  · exact am_ek_u am_k114_1 (by omega) (by omega)
  rcases Nat.lt_or_ge pc 144 with q | q
  · exact am_ek_u am_k114_2 (by omega) (by omega)
  rcases Nat.lt_or_ge pc 192 with q | q
  · exact am_ek_u am_k114_3 (by omega) (by omega)
  rcases Nat.lt_or_ge pc 240 with q | q
  · exact am_ek_u am_k114_4 (by omega) (by omega)
  rcases Nat.lt_or_ge pc 288 with q | q
  · exact am_ek_u am_k114_5 (by omega) (by omega)
  rcases Nat.lt_or_ge pc 310 with q | q
  · exact am_ek_u am_k114_6 (by omega) (by omega)
  refine am_ek_none ?_
  show (bif Nat.blt pc 310 then am_cr114 pc else none) = none
  exact am_blt_f q _ _
set_option maxRecDepth 100000 in
theorem am_k115_0 : ((List.range 48).map (fun i => am_ek 115 (i + 0))).all id = true := by decide +kernel
set_option maxRecDepth 100000 in
theorem am_k115_1 : ((List.range 48).map (fun i => am_ek 115 (i + 48))).all id = true := by decide +kernel
set_option maxRecDepth 100000 in
theorem am_k115_2 : ((List.range 48).map (fun i => am_ek 115 (i + 96))).all id = true := by decide +kernel
set_option maxRecDepth 100000 in
theorem am_k115_3 : ((List.range 48).map (fun i => am_ek 115 (i + 144))).all id = true := by decide +kernel
set_option maxRecDepth 100000 in
theorem am_k115_4 : ((List.range 3).map (fun i => am_ek 115 (i + 192))).all id = true := by decide +kernel
theorem am_ky115 (pc : Nat) : am_ek 115 pc = true := by
  rcases Nat.lt_or_ge pc 48 with q | q
  · exact am_ek_u am_k115_0 (by omega) (by omega)
  rcases Nat.lt_or_ge pc 96 with q | q
  · exact am_ek_u am_k115_1 (by omega) (by omega)
  rcases Nat.lt_or_ge pc 144 with q | q
  · exact am_ek_u am_k115_2 (by omega) (by omega)
  rcases Nat.lt_or_ge pc 192 with q | q
  · exact am_ek_u am_k115_3 (by omega) (by omega)
  rcases Nat.lt_or_ge pc 195 with q | q
  · exact am_ek_u am_k115_4 (by omega) (by omega)
  refine am_ek_none ?_
  show (bif Nat.blt pc 195 then am_cr115 pc else none) = none
  exact am_blt_f q _ _
set_option maxRecDepth 100000 in
theorem am_k116_0 : ((List.range 5).map (fun i => am_ek 116 (i + 0))).all id = true := by decide +kernel
theorem am_ky116 (pc : Nat) : am_ek 116 pc = true := by
  rcases Nat.lt_or_ge pc 5 with q | q
  · exact am_ek_u am_k116_0 (by omega) (by omega)
  refine am_ek_none ?_
  show (bif Nat.blt pc 5 then am_cr116 pc else none) = none
  exact am_blt_f q _ _
set_option maxRecDepth 100000 in
theorem am_k117_0 : ((List.range 5).map (fun i => am_ek 117 (i + 0))).all id = true := by decide +kernel
theorem am_ky117 (pc : Nat) : am_ek 117 pc = true := by
  rcases Nat.lt_or_ge pc 5 with q | q
  · exact am_ek_u am_k117_0 (by omega) (by omega)
  refine am_ek_none ?_
  show (bif Nat.blt pc 5 then am_cr117 pc else none) = none
  exact am_blt_f q _ _
set_option maxRecDepth 100000 in
theorem am_k118_0 : ((List.range 48).map (fun i => am_ek 118 (i + 0))).all id = true := by decide +kernel
set_option maxRecDepth 100000 in
theorem am_k118_1 : ((List.range 48).map (fun i => am_ek 118 (i + 48))).all id = true := by decide +kernel
set_option maxRecDepth 100000 in
theorem am_k118_2 : ((List.range 48).map (fun i => am_ek 118 (i + 96))).all id = true := by decide +kernel
set_option maxRecDepth 100000 in
theorem am_k118_3 : ((List.range 48).map (fun i => am_ek 118 (i + 144))).all id = true := by decide +kernel
set_option maxRecDepth 100000 in
theorem am_k118_4 : ((List.range 9).map (fun i => am_ek 118 (i + 192))).all id = true := by decide +kernel
theorem am_ky118 (pc : Nat) : am_ek 118 pc = true := by
  rcases Nat.lt_or_ge pc 48 with q | q
  · exact am_ek_u am_k118_0 (by omega) (by omega)
  rcases Nat.lt_or_ge pc 96 with q | q
  · exact am_ek_u am_k118_1 (by omega) (by omega)
  rcases Nat.lt_or_ge pc 144 with q | q
  · exact am_ek_u am_k118_2 (by omega) (by omega)
  rcases Nat.lt_or_ge pc 192 with q | q
  · exact am_ek_u am_k118_3 (by omega) (by omega)
  rcases Nat.lt_or_ge pc 201 with q | q
  · exact am_ek_u am_k118_4 (by omega) (by omega)
  refine am_ek_none ?_
  show (bif Nat.blt pc 201 then am_cr118 pc else none) = none
  exact am_blt_f q _ _
set_option maxRecDepth 100000 in
theorem am_k119_0 : ((List.range 48).map (fun i => am_ek 119 (i + 0))).all id = true := by decide +kernel
set_option maxRecDepth 100000 in
theorem am_k119_1 : ((List.range 48).map (fun i => am_ek 119 (i + 48))).all id = true := by decide +kernel
set_option maxRecDepth 100000 in
theorem am_k119_2 : ((List.range 29).map (fun i => am_ek 119 (i + 96))).all id = true := by decide +kernel
theorem am_ky119 (pc : Nat) : am_ek 119 pc = true := by
  rcases Nat.lt_or_ge pc 48 with q | q
  · exact am_ek_u am_k119_0 (by omega) (by omega)
  rcases Nat.lt_or_ge pc 96 with q | q
  · exact am_ek_u am_k119_1 (by omega) (by omega)
  rcases Nat.lt_or_ge pc 125 with q | q
  · exact am_ek_u am_k119_2 (by omega) (by omega)
  refine am_ek_none ?_
  show (bif Nat.blt pc 125 then am_cr119 pc else none) = none
  exact am_blt_f q _ _
set_option maxRecDepth 100000 in
theorem am_k120_0 : ((List.range 47).map (fun i => am_ek 120 (i + 0))).all id = true := by decide +kernel
theorem am_ky120 (pc : Nat) : am_ek 120 pc = true := by
  rcases Nat.lt_or_ge pc 47 with q | q
  · exact am_ek_u am_k120_0 (by omega) (by omega)
  refine am_ek_none ?_
  show (bif Nat.blt pc 47 then am_cr120 pc else none) = none
  exact am_blt_f q _ _
set_option maxRecDepth 100000 in
theorem am_k121_0 : ((List.range 48).map (fun i => am_ek 121 (i + 0))).all id = true := by decide +kernel
set_option maxRecDepth 100000 in
theorem am_k121_1 : ((List.range 38).map (fun i => am_ek 121 (i + 48))).all id = true := by decide +kernel
theorem am_ky121 (pc : Nat) : am_ek 121 pc = true := by
  rcases Nat.lt_or_ge pc 48 with q | q
  · exact am_ek_u am_k121_0 (by omega) (by omega)
  rcases Nat.lt_or_ge pc 86 with q | q
  · exact am_ek_u am_k121_1 (by omega) (by omega)
  refine am_ek_none ?_
  show (bif Nat.blt pc 86 then am_cr121 pc else none) = none
  exact am_blt_f q _ _
set_option maxRecDepth 100000 in
theorem am_k122_0 : ((List.range 48).map (fun i => am_ek 122 (i + 0))).all id = true := by decide +kernel
set_option maxRecDepth 100000 in
theorem am_k122_1 : ((List.range 48).map (fun i => am_ek 122 (i + 48))).all id = true := by decide +kernel
set_option maxRecDepth 100000 in
theorem am_k122_2 : ((List.range 48).map (fun i => am_ek 122 (i + 96))).all id = true := by decide +kernel
set_option maxRecDepth 100000 in
theorem am_k122_3 : ((List.range 29).map (fun i => am_ek 122 (i + 144))).all id = true := by decide +kernel
theorem am_ky122 (pc : Nat) : am_ek 122 pc = true := by
  rcases Nat.lt_or_ge pc 48 with q | q
  · exact am_ek_u am_k122_0 (by omega) (by omega)
  rcases Nat.lt_or_ge pc 96 with q | q
  · exact am_ek_u am_k122_1 (by omega) (by omega)
  rcases Nat.lt_or_ge pc 144 with q | q
  · exact am_ek_u am_k122_2 (by omega) (by omega)
  rcases Nat.lt_or_ge pc 173 with q | q
  · exact am_ek_u am_k122_3 (by omega) (by omega)
  refine am_ek_none ?_
  show (bif Nat.blt pc 173 then am_cr122 pc else none) = none
  exact am_blt_f q _ _
set_option maxRecDepth 100000 in
theorem am_k123_0 : ((List.range 48).map (fun i => am_ek 123 (i + 0))).all id = true := by decide +kernel
set_option maxRecDepth 100000 in
theorem am_k123_1 : ((List.range 20).map (fun i => am_ek 123 (i + 48))).all id = true := by decide +kernel
theorem am_ky123 (pc : Nat) : am_ek 123 pc = true := by
  rcases Nat.lt_or_ge pc 48 with q | q
  · exact am_ek_u am_k123_0 (by omega) (by omega)
  rcases Nat.lt_or_ge pc 68 with q | q
  · exact am_ek_u am_k123_1 (by omega) (by omega)
  refine am_ek_none ?_
  show (bif Nat.blt pc 68 then am_cr123 pc else none) = none
  exact am_blt_f q _ _
set_option maxRecDepth 100000 in
theorem am_k124_0 : ((List.range 28).map (fun i => am_ek 124 (i + 0))).all id = true := by decide +kernel
theorem am_ky124 (pc : Nat) : am_ek 124 pc = true := by
  rcases Nat.lt_or_ge pc 28 with q | q
  · exact am_ek_u am_k124_0 (by omega) (by omega)
  refine am_ek_none ?_
  show (bif Nat.blt pc 28 then am_cr124 pc else none) = none
  exact am_blt_f q _ _
set_option maxRecDepth 100000 in
theorem am_k125_0 : ((List.range 22).map (fun i => am_ek 125 (i + 0))).all id = true := by decide +kernel
theorem am_ky125 (pc : Nat) : am_ek 125 pc = true := by
  rcases Nat.lt_or_ge pc 22 with q | q
  · exact am_ek_u am_k125_0 (by omega) (by omega)
  refine am_ek_none ?_
  show (bif Nat.blt pc 22 then am_cr125 pc else none) = none
  exact am_blt_f q _ _
set_option maxRecDepth 100000 in
theorem am_k126_0 : ((List.range 48).map (fun i => am_ek 126 (i + 0))).all id = true := by decide +kernel
set_option maxRecDepth 100000 in
theorem am_k126_1 : ((List.range 13).map (fun i => am_ek 126 (i + 48))).all id = true := by decide +kernel
theorem am_ky126 (pc : Nat) : am_ek 126 pc = true := by
  rcases Nat.lt_or_ge pc 48 with q | q
  · exact am_ek_u am_k126_0 (by omega) (by omega)
  rcases Nat.lt_or_ge pc 61 with q | q
  · exact am_ek_u am_k126_1 (by omega) (by omega)
  refine am_ek_none ?_
  show (bif Nat.blt pc 61 then am_cr126 pc else none) = none
  exact am_blt_f q _ _
set_option maxRecDepth 100000 in
theorem am_k127_0 : ((List.range 22).map (fun i => am_ek 127 (i + 0))).all id = true := by decide +kernel
theorem am_ky127 (pc : Nat) : am_ek 127 pc = true := by
  rcases Nat.lt_or_ge pc 22 with q | q
  · exact am_ek_u am_k127_0 (by omega) (by omega)
  refine am_ek_none ?_
  show (bif Nat.blt pc 22 then am_cr127 pc else none) = none
  exact am_blt_f q _ _
set_option maxRecDepth 100000 in
theorem am_k128_0 : ((List.range 48).map (fun i => am_ek 128 (i + 0))).all id = true := by decide +kernel
set_option maxRecDepth 100000 in
theorem am_k128_1 : ((List.range 48).map (fun i => am_ek 128 (i + 48))).all id = true := by decide +kernel
set_option maxRecDepth 100000 in
theorem am_k128_2 : ((List.range 48).map (fun i => am_ek 128 (i + 96))).all id = true := by decide +kernel
set_option maxRecDepth 100000 in
theorem am_k128_3 : ((List.range 15).map (fun i => am_ek 128 (i + 144))).all id = true := by decide +kernel
theorem am_ky128 (pc : Nat) : am_ek 128 pc = true := by
  rcases Nat.lt_or_ge pc 48 with q | q
  · exact am_ek_u am_k128_0 (by omega) (by omega)
  rcases Nat.lt_or_ge pc 96 with q | q
  · exact am_ek_u am_k128_1 (by omega) (by omega)
  rcases Nat.lt_or_ge pc 144 with q | q
  · exact am_ek_u am_k128_2 (by omega) (by omega)
  rcases Nat.lt_or_ge pc 159 with q | q
  · exact am_ek_u am_k128_3 (by omega) (by omega)
  refine am_ek_none ?_
  show (bif Nat.blt pc 159 then am_cr128 pc else none) = none
  exact am_blt_f q _ _
set_option maxRecDepth 100000 in
theorem am_k129_0 : ((List.range 48).map (fun i => am_ek 129 (i + 0))).all id = true := by decide +kernel
set_option maxRecDepth 100000 in
theorem am_k129_1 : ((List.range 46).map (fun i => am_ek 129 (i + 48))).all id = true := by decide +kernel
theorem am_ky129 (pc : Nat) : am_ek 129 pc = true := by
  rcases Nat.lt_or_ge pc 48 with q | q
  · exact am_ek_u am_k129_0 (by omega) (by omega)
  rcases Nat.lt_or_ge pc 94 with q | q
  · exact am_ek_u am_k129_1 (by omega) (by omega)
  refine am_ek_none ?_
  show (bif Nat.blt pc 94 then am_cr129 pc else none) = none
  exact am_blt_f q _ _
set_option maxRecDepth 100000 in
theorem am_k130_0 : ((List.range 48).map (fun i => am_ek 130 (i + 0))).all id = true := by decide +kernel
set_option maxRecDepth 100000 in
theorem am_k130_1 : ((List.range 8).map (fun i => am_ek 130 (i + 48))).all id = true := by decide +kernel
theorem am_ky130 (pc : Nat) : am_ek 130 pc = true := by
  rcases Nat.lt_or_ge pc 48 with q | q
  · exact am_ek_u am_k130_0 (by omega) (by omega)
  rcases Nat.lt_or_ge pc 56 with q | q
  · exact am_ek_u am_k130_1 (by omega) (by omega)
  refine am_ek_none ?_
  show (bif Nat.blt pc 56 then am_cr130 pc else none) = none
  exact am_blt_f q _ _
set_option maxRecDepth 100000 in
theorem am_k131_0 : ((List.range 43).map (fun i => am_ek 131 (i + 0))).all id = true := by decide +kernel
theorem am_ky131 (pc : Nat) : am_ek 131 pc = true := by
  rcases Nat.lt_or_ge pc 43 with q | q
  · exact am_ek_u am_k131_0 (by omega) (by omega)
  refine am_ek_none ?_
  show (bif Nat.blt pc 43 then am_cr131 pc else none) = none
  exact am_blt_f q _ _
set_option maxRecDepth 100000 in
theorem am_k132_0 : ((List.range 48).map (fun i => am_ek 132 (i + 0))).all id = true := by decide +kernel
set_option maxRecDepth 100000 in
theorem am_k132_1 : ((List.range 48).map (fun i => am_ek 132 (i + 48))).all id = true := by decide +kernel
set_option maxRecDepth 100000 in
theorem am_k132_2 : ((List.range 27).map (fun i => am_ek 132 (i + 96))).all id = true := by decide +kernel
theorem am_ky132 (pc : Nat) : am_ek 132 pc = true := by
  rcases Nat.lt_or_ge pc 48 with q | q
  · exact am_ek_u am_k132_0 (by omega) (by omega)
  rcases Nat.lt_or_ge pc 96 with q | q
  · exact am_ek_u am_k132_1 (by omega) (by omega)
  rcases Nat.lt_or_ge pc 123 with q | q
  · exact am_ek_u am_k132_2 (by omega) (by omega)
  refine am_ek_none ?_
  show (bif Nat.blt pc 123 then am_cr132 pc else none) = none
  exact am_blt_f q _ _
set_option maxRecDepth 100000 in
theorem am_k133_0 : ((List.range 48).map (fun i => am_ek 133 (i + 0))).all id = true := by decide +kernel
set_option maxRecDepth 100000 in
theorem am_k133_1 : ((List.range 48).map (fun i => am_ek 133 (i + 48))).all id = true := by decide +kernel
set_option maxRecDepth 100000 in
theorem am_k133_2 : ((List.range 48).map (fun i => am_ek 133 (i + 96))).all id = true := by decide +kernel
set_option maxRecDepth 100000 in
theorem am_k133_3 : ((List.range 48).map (fun i => am_ek 133 (i + 144))).all id = true := by decide +kernel
set_option maxRecDepth 100000 in
theorem am_k133_4 : ((List.range 17).map (fun i => am_ek 133 (i + 192))).all id = true := by decide +kernel
theorem am_ky133 (pc : Nat) : am_ek 133 pc = true := by
  rcases Nat.lt_or_ge pc 48 with q | q
  · exact am_ek_u am_k133_0 (by omega) (by omega)
  rcases Nat.lt_or_ge pc 96 with q | q
  · exact am_ek_u am_k133_1 (by omega) (by omega)
  rcases Nat.lt_or_ge pc 144 with q | q
  · exact am_ek_u am_k133_2 (by omega) (by omega)
  rcases Nat.lt_or_ge pc 192 with q | q
  · exact am_ek_u am_k133_3 (by omega) (by omega)
  rcases Nat.lt_or_ge pc 209 with q | q
  · exact am_ek_u am_k133_4 (by omega) (by omega)
  refine am_ek_none ?_
  show (bif Nat.blt pc 209 then am_cr133 pc else none) = none
  exact am_blt_f q _ _
set_option maxRecDepth 100000 in
theorem am_k134_0 : ((List.range 48).map (fun i => am_ek 134 (i + 0))).all id = true := by decide +kernel
set_option maxRecDepth 100000 in
theorem am_k134_1 : ((List.range 48).map (fun i => am_ek 134 (i + 48))).all id = true := by decide +kernel
set_option maxRecDepth 100000 in
theorem am_k134_2 : ((List.range 33).map (fun i => am_ek 134 (i + 96))).all id = true := by decide +kernel
theorem am_ky134 (pc : Nat) : am_ek 134 pc = true := by
  rcases Nat.lt_or_ge pc 48 with q | q
  · exact am_ek_u am_k134_0 (by omega) (by omega)
  rcases Nat.lt_or_ge pc 96 with q | q
  · exact am_ek_u am_k134_1 (by omega) (by omega)
  rcases Nat.lt_or_ge pc 129 with q | q
  · exact am_ek_u am_k134_2 (by omega) (by omega)
  refine am_ek_none ?_
  show (bif Nat.blt pc 129 then am_cr134 pc else none) = none
  exact am_blt_f q _ _
set_option maxRecDepth 100000 in
theorem am_k135_0 : ((List.range 48).map (fun i => am_ek 135 (i + 0))).all id = true := by decide +kernel
set_option maxRecDepth 100000 in
theorem am_k135_1 : ((List.range 48).map (fun i => am_ek 135 (i + 48))).all id = true := by decide +kernel
set_option maxRecDepth 100000 in
theorem am_k135_2 : ((List.range 48).map (fun i => am_ek 135 (i + 96))).all id = true := by decide +kernel
set_option maxRecDepth 100000 in
theorem am_k135_3 : ((List.range 4).map (fun i => am_ek 135 (i + 144))).all id = true := by decide +kernel
theorem am_ky135 (pc : Nat) : am_ek 135 pc = true := by
  rcases Nat.lt_or_ge pc 48 with q | q
  · exact am_ek_u am_k135_0 (by omega) (by omega)
  rcases Nat.lt_or_ge pc 96 with q | q
  · exact am_ek_u am_k135_1 (by omega) (by omega)
  rcases Nat.lt_or_ge pc 144 with q | q
  · exact am_ek_u am_k135_2 (by omega) (by omega)
  rcases Nat.lt_or_ge pc 148 with q | q
  · exact am_ek_u am_k135_3 (by omega) (by omega)
  refine am_ek_none ?_
  show (bif Nat.blt pc 148 then am_cr135 pc else none) = none
  exact am_blt_f q _ _
set_option maxRecDepth 100000 in
theorem am_k136_0 : ((List.range 48).map (fun i => am_ek 136 (i + 0))).all id = true := by decide +kernel
set_option maxRecDepth 100000 in
theorem am_k136_1 : ((List.range 48).map (fun i => am_ek 136 (i + 48))).all id = true := by decide +kernel
set_option maxRecDepth 100000 in
theorem am_k136_2 : ((List.range 48).map (fun i => am_ek 136 (i + 96))).all id = true := by decide +kernel
set_option maxRecDepth 100000 in
theorem am_k136_3 : ((List.range 48).map (fun i => am_ek 136 (i + 144))).all id = true := by decide +kernel
set_option maxRecDepth 100000 in
theorem am_k136_4 : ((List.range 45).map (fun i => am_ek 136 (i + 192))).all id = true := by decide +kernel
theorem am_ky136 (pc : Nat) : am_ek 136 pc = true := by
  rcases Nat.lt_or_ge pc 48 with q | q
  · exact am_ek_u am_k136_0 (by omega) (by omega)
  rcases Nat.lt_or_ge pc 96 with q | q
  · exact am_ek_u am_k136_1 (by omega) (by omega)
  rcases Nat.lt_or_ge pc 144 with q | q
  · exact am_ek_u am_k136_2 (by omega) (by omega)
  rcases Nat.lt_or_ge pc 192 with q | q
  · exact am_ek_u am_k136_3 (by omega) (by omega)
  rcases Nat.lt_or_ge pc 237 with q | q
  · exact am_ek_u am_k136_4 (by omega) (by omega)
  refine am_ek_none ?_
  show (bif Nat.blt pc 237 then am_cr136 pc else none) = none
  exact am_blt_f q _ _
set_option maxRecDepth 100000 in
theorem am_k137_0 : ((List.range 48).map (fun i => am_ek 137 (i + 0))).all id = true := by decide +kernel
set_option maxRecDepth 100000 in
theorem am_k137_1 : ((List.range 48).map (fun i => am_ek 137 (i + 48))).all id = true := by decide +kernel
set_option maxRecDepth 100000 in
theorem am_k137_2 : ((List.range 48).map (fun i => am_ek 137 (i + 96))).all id = true := by decide +kernel
set_option maxRecDepth 100000 in
theorem am_k137_3 : ((List.range 43).map (fun i => am_ek 137 (i + 144))).all id = true := by decide +kernel
theorem am_ky137 (pc : Nat) : am_ek 137 pc = true := by
  rcases Nat.lt_or_ge pc 48 with q | q
  · exact am_ek_u am_k137_0 (by omega) (by omega)
  rcases Nat.lt_or_ge pc 96 with q | q
  · exact am_ek_u am_k137_1 (by omega) (by omega)
  rcases Nat.lt_or_ge pc 144 with q | q
  · exact am_ek_u am_k137_2 (by omega) (by omega)
  rcases Nat.lt_or_ge pc 187 with q | q
  · exact am_ek_u am_k137_3 (by omega) (by omega)
  refine am_ek_none ?_
  show (bif Nat.blt pc 187 then am_cr137 pc else none) = none
  exact am_blt_f q _ _
set_option maxRecDepth 100000 in
theorem am_k138_0 : ((List.range 48).map (fun i => am_ek 138 (i + 0))).all id = true := by decide +kernel
set_option maxRecDepth 100000 in
theorem am_k138_1 : ((List.range 48).map (fun i => am_ek 138 (i + 48))).all id = true := by decide +kernel
set_option maxRecDepth 100000 in
theorem am_k138_2 : ((List.range 18).map (fun i => am_ek 138 (i + 96))).all id = true := by decide +kernel
theorem am_ky138 (pc : Nat) : am_ek 138 pc = true := by
  rcases Nat.lt_or_ge pc 48 with q | q
  · exact am_ek_u am_k138_0 (by omega) (by omega)
  rcases Nat.lt_or_ge pc 96 with q | q
  · exact am_ek_u am_k138_1 (by omega) (by omega)
  rcases Nat.lt_or_ge pc 114 with q | q
  · exact am_ek_u am_k138_2 (by omega) (by omega)
  refine am_ek_none ?_
  show (bif Nat.blt pc 114 then am_cr138 pc else none) = none
  exact am_blt_f q _ _
set_option maxRecDepth 100000 in
theorem am_k139_0 : ((List.range 22).map (fun i => am_ek 139 (i + 0))).all id = true := by decide +kernel
theorem am_ky139 (pc : Nat) : am_ek 139 pc = true := by
  rcases Nat.lt_or_ge pc 22 with q | q
  · exact am_ek_u am_k139_0 (by omega) (by omega)
  refine am_ek_none ?_
  show (bif Nat.blt pc 22 then am_cr139 pc else none) = none
  exact am_blt_f q _ _
set_option maxRecDepth 100000 in
theorem am_k140_0 : ((List.range 22).map (fun i => am_ek 140 (i + 0))).all id = true := by decide +kernel
theorem am_ky140 (pc : Nat) : am_ek 140 pc = true := by
  rcases Nat.lt_or_ge pc 22 with q | q
  · exact am_ek_u am_k140_0 (by omega) (by omega)
  refine am_ek_none ?_
  show (bif Nat.blt pc 22 then am_cr140 pc else none) = none
  exact am_blt_f q _ _
set_option maxRecDepth 100000 in
theorem am_k141_0 : ((List.range 48).map (fun i => am_ek 141 (i + 0))).all id = true := by decide +kernel
set_option maxRecDepth 100000 in
theorem am_k141_1 : ((List.range 48).map (fun i => am_ek 141 (i + 48))).all id = true := by decide +kernel
set_option maxRecDepth 100000 in
theorem am_k141_2 : ((List.range 48).map (fun i => am_ek 141 (i + 96))).all id = true := by decide +kernel
set_option maxRecDepth 100000 in
theorem am_k141_3 : ((List.range 48).map (fun i => am_ek 141 (i + 144))).all id = true := by decide +kernel
set_option maxRecDepth 100000 in
theorem am_k141_4 : ((List.range 48).map (fun i => am_ek 141 (i + 192))).all id = true := by decide +kernel
set_option maxRecDepth 100000 in
theorem am_k141_5 : ((List.range 48).map (fun i => am_ek 141 (i + 240))).all id = true := by decide +kernel
set_option maxRecDepth 100000 in
theorem am_k141_6 : ((List.range 20).map (fun i => am_ek 141 (i + 288))).all id = true := by decide +kernel
theorem am_ky141 (pc : Nat) : am_ek 141 pc = true := by
  rcases Nat.lt_or_ge pc 48 with q | q
  · exact am_ek_u am_k141_0 (by omega) (by omega)
  rcases Nat.lt_or_ge pc 96 with q | q
  · exact am_ek_u am_k141_1 (by omega) (by omega)
  rcases Nat.lt_or_ge pc 144 with q | q
  · exact am_ek_u am_k141_2 (by omega) (by omega)
  rcases Nat.lt_or_ge pc 192 with q | q
  · exact am_ek_u am_k141_3 (by omega) (by omega)
  rcases Nat.lt_or_ge pc 240 with q | q
  · exact am_ek_u am_k141_4 (by omega) (by omega)
  rcases Nat.lt_or_ge pc 288 with q | q
  · exact am_ek_u am_k141_5 (by omega) (by omega)
  rcases Nat.lt_or_ge pc 308 with q | q
  · exact am_ek_u am_k141_6 (by omega) (by omega)
  refine am_ek_none ?_
  show (bif Nat.blt pc 308 then am_cr141 pc else none) = none
  exact am_blt_f q _ _
set_option maxRecDepth 100000 in
theorem am_k142_0 : ((List.range 12).map (fun i => am_ek 142 (i + 0))).all id = true := by decide +kernel
theorem am_ky142 (pc : Nat) : am_ek 142 pc = true := by
  rcases Nat.lt_or_ge pc 12 with q | q
  · exact am_ek_u am_k142_0 (by omega) (by omega)
  refine am_ek_none ?_
  show (bif Nat.blt pc 12 then am_cr142 pc else none) = none
  exact am_blt_f q _ _
set_option maxRecDepth 100000 in
theorem am_k143_0 : ((List.range 48).map (fun i => am_ek 143 (i + 0))).all id = true := by decide +kernel
set_option maxRecDepth 100000 in
theorem am_k143_1 : ((List.range 48).map (fun i => am_ek 143 (i + 48))).all id = true := by decide +kernel
set_option maxRecDepth 100000 in
theorem am_k143_2 : ((List.range 6).map (fun i => am_ek 143 (i + 96))).all id = true := by decide +kernel
theorem am_ky143 (pc : Nat) : am_ek 143 pc = true := by
  rcases Nat.lt_or_ge pc 48 with q | q
  · exact am_ek_u am_k143_0 (by omega) (by omega)
  rcases Nat.lt_or_ge pc 96 with q | q
  · exact am_ek_u am_k143_1 (by omega) (by omega)
  rcases Nat.lt_or_ge pc 102 with q | q
  · exact am_ek_u am_k143_2 (by omega) (by omega)
  refine am_ek_none ?_
  show (bif Nat.blt pc 102 then am_cr143 pc else none) = none
  exact am_blt_f q _ _
set_option maxRecDepth 100000 in
theorem am_k144_0 : ((List.range 27).map (fun i => am_ek 144 (i + 0))).all id = true := by decide +kernel
theorem am_ky144 (pc : Nat) : am_ek 144 pc = true := by
  rcases Nat.lt_or_ge pc 27 with q | q
  · exact am_ek_u am_k144_0 (by omega) (by omega)
  refine am_ek_none ?_
  show (bif Nat.blt pc 27 then am_cr144 pc else none) = none
  exact am_blt_f q _ _
set_option maxRecDepth 100000 in
theorem am_k145_0 : ((List.range 48).map (fun i => am_ek 145 (i + 0))).all id = true := by decide +kernel
set_option maxRecDepth 100000 in
theorem am_k145_1 : ((List.range 48).map (fun i => am_ek 145 (i + 48))).all id = true := by decide +kernel
set_option maxRecDepth 100000 in
theorem am_k145_2 : ((List.range 48).map (fun i => am_ek 145 (i + 96))).all id = true := by decide +kernel
set_option maxRecDepth 100000 in
theorem am_k145_3 : ((List.range 48).map (fun i => am_ek 145 (i + 144))).all id = true := by decide +kernel
set_option maxRecDepth 100000 in
theorem am_k145_4 : ((List.range 47).map (fun i => am_ek 145 (i + 192))).all id = true := by decide +kernel
theorem am_ky145 (pc : Nat) : am_ek 145 pc = true := by
  rcases Nat.lt_or_ge pc 48 with q | q
  · exact am_ek_u am_k145_0 (by omega) (by omega)
  rcases Nat.lt_or_ge pc 96 with q | q
  · exact am_ek_u am_k145_1 (by omega) (by omega)
  rcases Nat.lt_or_ge pc 144 with q | q
  · exact am_ek_u am_k145_2 (by omega) (by omega)
  rcases Nat.lt_or_ge pc 192 with q | q
  · exact am_ek_u am_k145_3 (by omega) (by omega)
  rcases Nat.lt_or_ge pc 239 with q | q
  · exact am_ek_u am_k145_4 (by omega) (by omega)
  refine am_ek_none ?_
  show (bif Nat.blt pc 239 then am_cr145 pc else none) = none
  exact am_blt_f q _ _
set_option maxRecDepth 100000 in
theorem am_k146_0 : ((List.range 48).map (fun i => am_ek 146 (i + 0))).all id = true := by decide +kernel
set_option maxRecDepth 100000 in
theorem am_k146_1 : ((List.range 15).map (fun i => am_ek 146 (i + 48))).all id = true := by decide +kernel
theorem am_ky146 (pc : Nat) : am_ek 146 pc = true := by
  rcases Nat.lt_or_ge pc 48 with q | q
  · exact am_ek_u am_k146_0 (by omega) (by omega)
  rcases Nat.lt_or_ge pc 63 with q | q
  · exact am_ek_u am_k146_1 (by omega) (by omega)
  refine am_ek_none ?_
  show (bif Nat.blt pc 63 then am_cr146 pc else none) = none
  exact am_blt_f q _ _
set_option maxRecDepth 100000 in
theorem am_k147_0 : ((List.range 48).map (fun i => am_ek 147 (i + 0))).all id = true := by decide +kernel
set_option maxRecDepth 100000 in
theorem am_k147_1 : ((List.range 48).map (fun i => am_ek 147 (i + 48))).all id = true := by decide +kernel
set_option maxRecDepth 100000 in
theorem am_k147_2 : ((List.range 48).map (fun i => am_ek 147 (i + 96))).all id = true := by decide +kernel
set_option maxRecDepth 100000 in
theorem am_k147_3 : ((List.range 48).map (fun i => am_ek 147 (i + 144))).all id = true := by decide +kernel
set_option maxRecDepth 100000 in
theorem am_k147_4 : ((List.range 48).map (fun i => am_ek 147 (i + 192))).all id = true := by decide +kernel
set_option maxRecDepth 100000 in
theorem am_k147_5 : ((List.range 34).map (fun i => am_ek 147 (i + 240))).all id = true := by decide +kernel
theorem am_ky147 (pc : Nat) : am_ek 147 pc = true := by
  rcases Nat.lt_or_ge pc 48 with q | q
  · exact am_ek_u am_k147_0 (by omega) (by omega)
  rcases Nat.lt_or_ge pc 96 with q | q
  · exact am_ek_u am_k147_1 (by omega) (by omega)
  rcases Nat.lt_or_ge pc 144 with q | q
  · exact am_ek_u am_k147_2 (by omega) (by omega)
  rcases Nat.lt_or_ge pc 192 with q | q
  · exact am_ek_u am_k147_3 (by omega) (by omega)
  rcases Nat.lt_or_ge pc 240 with q | q
  · exact am_ek_u am_k147_4 (by omega) (by omega)
  rcases Nat.lt_or_ge pc 274 with q | q
  · exact am_ek_u am_k147_5 (by omega) (by omega)
  refine am_ek_none ?_
  show (bif Nat.blt pc 274 then am_cr147 pc else none) = none
  exact am_blt_f q _ _
set_option maxRecDepth 100000 in
theorem am_k148_0 : ((List.range 48).map (fun i => am_ek 148 (i + 0))).all id = true := by decide +kernel
set_option maxRecDepth 100000 in
theorem am_k148_1 : ((List.range 48).map (fun i => am_ek 148 (i + 48))).all id = true := by decide +kernel
set_option maxRecDepth 100000 in
theorem am_k148_2 : ((List.range 48).map (fun i => am_ek 148 (i + 96))).all id = true := by decide +kernel
set_option maxRecDepth 100000 in
theorem am_k148_3 : ((List.range 48).map (fun i => am_ek 148 (i + 144))).all id = true := by decide +kernel
set_option maxRecDepth 100000 in
theorem am_k148_4 : ((List.range 12).map (fun i => am_ek 148 (i + 192))).all id = true := by decide +kernel
theorem am_ky148 (pc : Nat) : am_ek 148 pc = true := by
  rcases Nat.lt_or_ge pc 48 with q | q
  · exact am_ek_u am_k148_0 (by omega) (by omega)
  rcases Nat.lt_or_ge pc 96 with q | q
  · exact am_ek_u am_k148_1 (by omega) (by omega)
  rcases Nat.lt_or_ge pc 144 with q | q
  · exact am_ek_u am_k148_2 (by omega) (by omega)
  rcases Nat.lt_or_ge pc 192 with q | q
  · exact am_ek_u am_k148_3 (by omega) (by omega)
  rcases Nat.lt_or_ge pc 204 with q | q
  · exact am_ek_u am_k148_4 (by omega) (by omega)
  refine am_ek_none ?_
  show (bif Nat.blt pc 204 then am_cr148 pc else none) = none
  exact am_blt_f q _ _
set_option maxRecDepth 100000 in
theorem am_k149_0 : ((List.range 30).map (fun i => am_ek 149 (i + 0))).all id = true := by decide +kernel
theorem am_ky149 (pc : Nat) : am_ek 149 pc = true := by
  rcases Nat.lt_or_ge pc 30 with q | q
  · exact am_ek_u am_k149_0 (by omega) (by omega)
  refine am_ek_none ?_
  show (bif Nat.blt pc 30 then am_cr149 pc else none) = none
  exact am_blt_f q _ _
set_option maxRecDepth 100000 in
theorem am_k150_0 : ((List.range 48).map (fun i => am_ek 150 (i + 0))).all id = true := by decide +kernel
set_option maxRecDepth 100000 in
theorem am_k150_1 : ((List.range 48).map (fun i => am_ek 150 (i + 48))).all id = true := by decide +kernel
set_option maxRecDepth 100000 in
theorem am_k150_2 : ((List.range 48).map (fun i => am_ek 150 (i + 96))).all id = true := by decide +kernel
set_option maxRecDepth 100000 in
theorem am_k150_3 : ((List.range 7).map (fun i => am_ek 150 (i + 144))).all id = true := by decide +kernel
theorem am_ky150 (pc : Nat) : am_ek 150 pc = true := by
  rcases Nat.lt_or_ge pc 48 with q | q
  · exact am_ek_u am_k150_0 (by omega) (by omega)
  rcases Nat.lt_or_ge pc 96 with q | q
  · exact am_ek_u am_k150_1 (by omega) (by omega)
  rcases Nat.lt_or_ge pc 144 with q | q
  · exact am_ek_u am_k150_2 (by omega) (by omega)
  rcases Nat.lt_or_ge pc 151 with q | q
  · exact am_ek_u am_k150_3 (by omega) (by omega)
  refine am_ek_none ?_
  show (bif Nat.blt pc 151 then am_cr150 pc else none) = none
  exact am_blt_f q _ _
set_option maxRecDepth 100000 in
theorem am_k151_0 : ((List.range 48).map (fun i => am_ek 151 (i + 0))).all id = true := by decide +kernel
set_option maxRecDepth 100000 in
theorem am_k151_1 : ((List.range 48).map (fun i => am_ek 151 (i + 48))).all id = true := by decide +kernel
set_option maxRecDepth 100000 in
theorem am_k151_2 : ((List.range 48).map (fun i => am_ek 151 (i + 96))).all id = true := by decide +kernel
set_option maxRecDepth 100000 in
theorem am_k151_3 : ((List.range 21).map (fun i => am_ek 151 (i + 144))).all id = true := by decide +kernel
theorem am_ky151 (pc : Nat) : am_ek 151 pc = true := by
  rcases Nat.lt_or_ge pc 48 with q | q
  · exact am_ek_u am_k151_0 (by omega) (by omega)
  rcases Nat.lt_or_ge pc 96 with q | q
  · exact am_ek_u am_k151_1 (by omega) (by omega)
  rcases Nat.lt_or_ge pc 144 with q | q
  · exact am_ek_u am_k151_2 (by omega) (by omega)
  rcases Nat.lt_or_ge pc 165 with q | q
  · exact am_ek_u am_k151_3 (by omega) (by omega)
  refine am_ek_none ?_
  show (bif Nat.blt pc 165 then am_cr151 pc else none) = none
  exact am_blt_f q _ _
set_option maxRecDepth 100000 in
theorem am_k152_0 : ((List.range 48).map (fun i => am_ek 152 (i + 0))).all id = true := by decide +kernel
set_option maxRecDepth 100000 in
theorem am_k152_1 : ((List.range 48).map (fun i => am_ek 152 (i + 48))).all id = true := by decide +kernel
set_option maxRecDepth 100000 in
theorem am_k152_2 : ((List.range 24).map (fun i => am_ek 152 (i + 96))).all id = true := by decide +kernel
theorem am_ky152 (pc : Nat) : am_ek 152 pc = true := by
  rcases Nat.lt_or_ge pc 48 with q | q
  · exact am_ek_u am_k152_0 (by omega) (by omega)
  rcases Nat.lt_or_ge pc 96 with q | q
  · exact am_ek_u am_k152_1 (by omega) (by omega)
  rcases Nat.lt_or_ge pc 120 with q | q
  · exact am_ek_u am_k152_2 (by omega) (by omega)
  refine am_ek_none ?_
  show (bif Nat.blt pc 120 then am_cr152 pc else none) = none
  exact am_blt_f q _ _
set_option maxRecDepth 100000 in
theorem am_k153_0 : ((List.range 48).map (fun i => am_ek 153 (i + 0))).all id = true := by decide +kernel
set_option maxRecDepth 100000 in
theorem am_k153_1 : ((List.range 48).map (fun i => am_ek 153 (i + 48))).all id = true := by decide +kernel
set_option maxRecDepth 100000 in
theorem am_k153_2 : ((List.range 48).map (fun i => am_ek 153 (i + 96))).all id = true := by decide +kernel
set_option maxRecDepth 100000 in
theorem am_k153_3 : ((List.range 48).map (fun i => am_ek 153 (i + 144))).all id = true := by decide +kernel
set_option maxRecDepth 100000 in
theorem am_k153_4 : ((List.range 40).map (fun i => am_ek 153 (i + 192))).all id = true := by decide +kernel
theorem am_ky153 (pc : Nat) : am_ek 153 pc = true := by
  rcases Nat.lt_or_ge pc 48 with q | q
  · exact am_ek_u am_k153_0 (by omega) (by omega)
  rcases Nat.lt_or_ge pc 96 with q | q
  · exact am_ek_u am_k153_1 (by omega) (by omega)
  rcases Nat.lt_or_ge pc 144 with q | q
  · exact am_ek_u am_k153_2 (by omega) (by omega)
  rcases Nat.lt_or_ge pc 192 with q | q
  · exact am_ek_u am_k153_3 (by omega) (by omega)
  rcases Nat.lt_or_ge pc 232 with q | q
  · exact am_ek_u am_k153_4 (by omega) (by omega)
  refine am_ek_none ?_
  show (bif Nat.blt pc 232 then am_cr153 pc else none) = none
  exact am_blt_f q _ _
