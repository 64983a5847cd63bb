set_option maxRecDepth 100000 in
theorem am_k50_0 : ((List.range 48).map (fun i => am_ek 50 (i + 0))).all id = true := by decide +kernel
set_option maxRecDepth 100000 in
theorem am_k50_1 : ((List.range 48).map (fun i => am_ek 50 (i + 48))).all id = true := by decide +kernel
set_option maxRecDepth 100000 in
theorem am_k50_2 : ((List.range 17).map (fun i => am_ek 50 (i + 96))).all id = true := by decide +kernel
theorem am_ky50 (pc : Nat) : am_ek 50 pc = true := by
  rcases Nat.lt_or_ge pc 48 with q | q
  · exact am_ek_u am_k50_0 (by omega) (by omega)
  rcases Nat.lt_or_ge pc 96 with q | q
  · exact am_ek_u am_k50_1 (by omega) (by omega)
  rcases Nat.lt_or_ge pc 113 with q | q
  · exact am_ek_u am_k50_2 (by omega) (by omega)
  refine am_ek_none ?_
  show (bif Nat.blt pc 113 then am_cr50 pc else none) = none
  exact am_blt_f q _ _
set_option maxRecDepth 100000 in
theorem am_k51_0 : ((List.range 24).map (fun i => am_ek 51 (i + 0))).all id = true := by decide +kernel
theorem am_ky51 (pc : Nat) : am_ek 51 pc = true := by
  rcases Nat.lt_or_ge pc 24 with q | q
  · exact am_ek_u am_k51_0 (by omega) (by omega)
  refine am_ek_none ?_
  show (bif Nat.blt pc 24 then am_cr51 pc else none) = none
  exact am_blt_f q _ _
set_option maxRecDepth 100000 in
theorem am_k52_0 : ((List.range 48).map (fun i => am_ek 52 (i + 0))).all id = true := by decide +kernel
set_option maxRecDepth 100000 in
theorem am_k52_1 : ((List.range 48).map (fun i => am_ek 52 (i + 48))).all id = true := by decide +kernel
set_option maxRecDepth 100000 in
theorem am_k52_2 : ((List.range 37).map (fun i => am_ek 52 (i + 96))).all id = true := by decide +kernel
theorem am_ky52 (pc : Nat) : am_ek 52 pc = true := by
  rcases Nat.lt_or_ge pc 48 with q | q
  · exact am_ek_u am_k52_0 (by omega) (by omega)
  rcases Nat.lt_or_ge pc 96 with q | q
  · exact am_ek_u am_k52_1 (by omega) (by omega)
  rcases Nat.lt_or_ge pc 133 with q | q
  · exact am_ek_u am_k52_2 (by omega) (by omega)
  refine am_ek_none ?_
  show (bif Nat.blt pc 133 then am_cr52 pc else none) = none
  exact am_blt_f q _ _
set_option maxRecDepth 100000 in
theorem am_k53_0 : ((List.range 18).map (fun i => am_ek 53 (i + 0))).all id = true := by decide +kernel
theorem am_ky53 (pc : Nat) : am_ek 53 pc = true := by
  rcases Nat.lt_or_ge pc 18 with q | q
  · exact am_ek_u am_k53_0 (by omega) (by omega)
  refine am_ek_none ?_
  show (bif Nat.blt pc 18 then am_cr53 pc else none) = none
  exact am_blt_f q _ _
set_option maxRecDepth 100000 in
theorem am_k54_0 : ((List.range 32).map (fun i => am_ek 54 (i + 0))).all id = true := by decide +kernel
theorem am_ky54 (pc : Nat) : am_ek 54 pc = true := by
  rcases Nat.lt_or_ge pc 32 with q | q
  · exact am_ek_u am_k54_0 (by omega) (by omega)
  refine am_ek_none ?_
  show (bif Nat.blt pc 32 then am_cr54 pc else none) = none
  exact am_blt_f q _ _
set_option maxRecDepth 100000 in
theorem am_k55_0 : ((List.range 36).map (fun i => am_ek 55 (i + 0))).all id = true := by decide +kernel
theorem am_ky55 (pc : Nat) : am_ek 55 pc = true := by
  rcases Nat.lt_or_ge pc 36 with q | q
  · exact am_ek_u am_k55_0 (by omega) (by omega)
  refine am_ek_none ?_
  show (bif Nat.blt pc 36 then am_cr55 pc else none) = none
  exact am_blt_f q _ _
set_option maxRecDepth 100000 in
theorem am_k56_0 : ((List.range 48).map (fun i => am_ek 56 (i + 0))).all id = true := by decide +kernel
set_option maxRecDepth 100000 in
theorem am_k56_1 : ((List.range 29).map (fun i => am_ek 56 (i + 48))).all id = true := by decide +kernel
theorem am_ky56 (pc : Nat) : am_ek 56 pc = true := by
  rcases Nat.lt_or_ge pc 48 with q | q
  · exact am_ek_u am_k56_0 (by omega) (by omega)
  rcases Nat.lt_or_ge pc 77 with q | q
  · exact am_ek_u am_k56_1 (by omega) (by omega)
  refine am_ek_none ?_
  show (bif Nat.blt pc 77 then am_cr56 pc else none) = none
  exact am_blt_f q _ _
set_option maxRecDepth 100000 in
theorem am_k57_0 : ((List.range 48).map (fun i => am_ek 57 (i + 0))).all id = true := by decide +kernel
set_option maxRecDepth 100000 in
theorem am_k57_1 : ((List.range 18).map (fun i => am_ek 57 (i + 48))).all id = true := by decide +kernel
theorem am_ky57 (pc : Nat) : am_ek 57 pc = true := by
  rcases Nat.lt_or_ge pc 48 with q | q
  · exact am_ek_u am_k57_0 (by omega) (by omega)
  rcases Nat.lt_or_ge pc 66 with q | q
  · exact am_ek_u am_k57_1 (by omega) (by omega)
  refine am_ek_none ?_
  show (bif Nat.blt pc 66 then am_cr57 pc else none) = none
  exact am_blt_f q _ _
set_option maxRecDepth 100000 in
theorem am_k58_0 : ((List.range 48).map (fun i => am_ek 58 (i + 0))).all id = true := by decide +kernel
set_option maxRecDepth 100000 in
theorem am_k58_1 : ((List.range 2).map (fun i => am_ek 58 (i + 48))).all id = true := by decide +kernel
theorem am_ky58 (pc : Nat) : am_ek 58 pc = true := by
  rcases Nat.lt_or_ge pc 48 with q | q
  · exact am_ek_u am_k58_0 (by omega) (by omega)
  rcases Nat.lt_or_ge pc 50 with q | q
  · exact am_ek_u am_k58_1 (by omega) (by omega)
  refine am_ek_none ?_
  show (bif Nat.blt pc 50 then am_cr58 pc else none) = none
  exact am_blt_f q _ _
set_option maxRecDepth 100000 in
theorem am_k59_0 : ((List.range 48).map (fun i => am_ek 59 (i + 0))).all id = true := by decide +kernel
set_option maxRecDepth 100000 in
theorem am_k59_1 : ((List.range 29).map (fun i => am_ek 59 (i + 48))).all id = true := by decide +kernel
theorem am_ky59 (pc : Nat) : am_ek 59 pc = true := by
  rcases Nat.lt_or_ge pc 48 with q | q
  · exact am_ek_u am_k59_0 (by omega) (by omega)
  rcases Nat.lt_or_ge pc 77 with q | q
  · exact am_ek_u am_k59_1 (by omega) (by omega)
  refine am_ek_none ?_
  show (bif Nat.blt pc 77 then am_cr59 pc else none) = none
  exact am_blt_f q _ _
set_option maxRecDepth 100000 in
theorem am_k60_0 : ((List.range 18).map (fun i => am_ek 60 (i + 0))).all id = true := by decide +kernel
theorem am_ky60 (pc : Nat) : am_ek 60 pc = true := by
  rcases Nat.lt_or_ge pc 18 with q | q
  · exact am_ek_u am_k60_0 (by omega) (by omega)
  refine am_ek_none ?_
  show (bif Nat.blt pc 18 then am_cr60 pc else none) = none
  exact am_blt_f q _ _
set_option maxRecDepth 100000 in
theorem am_k61_0 : ((List.range 19).map (fun i => am_ek 61 (i + 0))).all id = true := by decide +kernel
theorem am_ky61 (pc : Nat) : am_ek 61 pc = true := by
  rcases Nat.lt_or_ge pc 19 with q | q
  · exact am_ek_u am_k61_0 (by omega) (by omega)
  refine am_ek_none ?_
  show (bif Nat.blt pc 19 then am_cr61 pc else none) = none
  exact am_blt_f q _ _
set_option maxRecDepth 100000 in
theorem am_k62_0 : ((List.range 48).map (fun i => am_ek 62 (i + 0))).all id = true := by decide +kernel
set_option maxRecDepth 100000 in
theorem am_k62_1 : ((List.range 1).map (fun i => am_ek 62 (i + 48))).all id = true := by decide +kernel
theorem am_ky62 (pc : Nat) : am_ek 62 pc = true := by
  rcases Nat.lt_or_ge pc 48 with q | q
  · exact am_ek_u am_k62_0 (by omega) (by omega)
  rcases Nat.lt_or_ge pc 49 with q | q
  · exact am_ek_u am_k62_1 (by omega) (by omega)
  refine am_ek_none ?_
  show (bif Nat.blt pc 49 then am_cr62 pc else none) = none
  exact am_blt_f q _ _
set_option maxRecDepth 100000 in
theorem am_k63_0 : ((List.range 48).map (fun i => am_ek 63 (i + 0))).all id = true := by decide +kernel
set_option maxRecDepth 100000 in
theorem am_k63_1 : ((List.range 44).map (fun i => am_ek 63 (i + 48))).all id = true := by decide +kernel
theorem am_ky63 (pc : Nat) : am_ek 63 pc = true := by
  rcases Nat.lt_or_ge pc 48 with q | q
  · exact am_ek_u am_k63_0 (by omega) (by omega)
  rcases Nat.lt_or_ge pc 92 with q | q
  · exact am_ek_u am_k63_1 (by omega) (by omega)
  refine am_ek_none ?_
  show (bif Nat.blt pc 92 then am_cr63 pc else none) = none
  exact am_blt_f q _ _
set_option maxRecDepth 100000 in
theorem am_k64_0 : ((List.range 48).map (fun i => am_ek 64 (i + 0))).all id = true := by decide +kernel
set_option maxRecDepth 100000 in
theorem am_k64_1 : ((List.range 48).map (fun i => am_ek 64 (i + 48))).all id = true := by decide +kernel
set_option maxRecDepth 100000 in
theorem am_k64_2 : ((List.range 37).map (fun i => am_ek 64 (i + 96))).all id = true := by decide +kernel
theorem am_ky64 (pc : Nat) : am_ek 64 pc = true := by
  rcases Nat.lt_or_ge pc 48 with q | q
  · exact am_ek_u am_k64_0 (by omega) (by omega)
  rcases Nat.lt_or_ge pc 96 with q | q
  · exact am_ek_u am_k64_1 (by omega) (by omega)
  rcases Nat.lt_or_ge pc 133 with q | q
  · exact am_ek_u am_k64_2 (by omega) (by omega)
  refine am_ek_none ?_
  show (bif Nat.blt pc 133 then am_cr64 pc else none) = none
  exact am_blt_f q _ _
set_option maxRecDepth 100000 in
theorem am_k65_0 : ((List.range 32).map (fun i => am_ek 65 (i + 0))).all id = true := by decide +kernel
theorem am_ky65 (pc : Nat) : am_ek 65 pc = true := by
  rcases Nat.lt_or_ge pc 32 with q | q
  · exact am_ek_u am_k65_0 (by omega) (by omega)
  refine am_ek_none ?_
  show (bif Nat.blt pc 32 then am_cr65 pc else none) = none
  exact am_blt_f q _ _
set_option maxRecDepth 100000 in
theorem am_k66_0 : ((List.range 26).map (fun i => am_ek 66 (i + 0))).all id = true := by decide +kernel
theorem am_ky66 (pc : Nat) : am_ek 66 pc = true := by
  rcases Nat.lt_or_ge pc 26 with q | q
  · exact am_ek_u am_k66_0 (by omega) (by omega)
  refine am_ek_none ?_
  show (bif Nat.blt pc 26 then am_cr66 pc else none) = none
  exact am_blt_f q _ _
set_option maxRecDepth 100000 in
theorem am_k67_0 : ((List.range 48).map (fun i => am_ek 67 (i + 0))).all id = true := by decide +kernel
set_option maxRecDepth 100000 in
theorem am_k67_1 : ((List.range 48).map (fun i => am_ek 67 (i + 48))).all id = true := by decide +kernel
set_option maxRecDepth 100000 in
theorem am_k67_2 : ((List.range 17).map (fun i => am_ek 67 (i + 96))).all id = true := by decide +kernel
theorem am_ky67 (pc : Nat) : am_ek 67 pc = true := by
  rcases Nat.lt_or_ge pc 48 with q | q
  · exact am_ek_u am_k67_0 (by omega) (by omega)
  rcases Nat.lt_or_ge pc 96 with q | q
  · exact am_ek_u am_k67_1 (by omega) (by omega)
  rcases Nat.lt_or_ge pc 113 with q | q
  · exact am_ek_u am_k67_2 (by omega) (by omega)
  refine am_ek_none ?_
  show (bif Nat.blt pc 113 then am_cr67 pc else none) = none
  exact am_blt_f q _ _
set_option maxRecDepth 100000 in
theorem am_k68_0 : ((List.range 48).map (fun i => am_ek 68 (i + 0))).all id = true := by decide +kernel
set_option maxRecDepth 100000 in
theorem am_k68_1 : ((List.range 48).map (fun i => am_ek 68 (i + 48))).all id = true := by decide +kernel
set_option maxRecDepth 100000 in
theorem am_k68_2 : ((List.range 48).map (fun i => am_ek 68 (i + 96))).all id = true := by decide +kernel
set_option maxRecDepth 100000 in
theorem am_k68_3 : ((List.range 11).map (fun i => am_ek 68 (i + 144))).all id = true := by decide +kernel
theorem am_ky68 (pc : Nat) : am_ek 68 pc = true := by
  rcases Nat.lt_or_ge pc 48 with q | q
  · exact am_ek_u am_k68_0 (by omega) (by omega)
  rcases Nat.lt_or_ge pc 96 with q | q
  · exact am_ek_u am_k68_1 (by omega) (by omega)
  rcases Nat.lt_or_ge pc 144 with q | q
  · exact am_ek_u am_k68_2 (by omega) (by omega)
  rcases Nat.lt_or_ge pc 155 with q | q
  · exact am_ek_u am_k68_3 (by omega) (by omega)
  refine am_ek_none ?_
  show (bif Nat.blt pc 155 then am_cr68 pc else none) = none
  exact am_blt_f q _ _
set_option maxRecDepth 100000 in
theorem am_k69_0 : ((List.range 42).map (fun i => am_ek 69 (i + 0))).all id = true := by decide +kernel
theorem am_ky69 (pc : Nat) : am_ek 69 pc = true := by
  rcases Nat.lt_or_ge pc 42 with q | q
  · exact am_ek_u am_k69_0 (by omega) (by omega)
  refine am_ek_none ?_
  show (bif Nat.blt pc 42 then am_cr69 pc else none) = none
  exact am_blt_f q _ _
set_option maxRecDepth 100000 in
theorem am_k70_0 : ((List.range 39).map (fun i => am_ek 70 (i + 0))).all id = true := by decide +kernel
theorem am_ky70 (pc : Nat) : am_ek 70 pc = true := by
  rcases Nat.lt_or_ge pc 39 with q | q
  · exact am_ek_u am_k70_0 (by omega) (by omega)
  refine am_ek_none ?_
  show (bif Nat.blt pc 39 then am_cr70 pc else none) = none
  exact am_blt_f q _ _
set_option maxRecDepth 100000 in
theorem am_k71_0 : ((List.range 29).map (fun i => am_ek 71 (i + 0))).all id = true := by decide +kernel
theorem am_ky71 (pc : Nat) : am_ek 71 pc = true := by
  rcases Nat.lt_or_ge pc 29 with q | q
  · exact am_ek_u am_k71_0 (by omega) (by omega)
  refine am_ek_none ?_
  show (bif Nat.blt pc 29 then am_cr71 pc else none) = none
  exact am_blt_f q _ _
set_option maxRecDepth 100000 in
theorem am_k72_0 : ((List.range 19).map (fun i => am_ek 72 (i + 0))).all id = true := by decide +kernel
theorem am_ky72 (pc : Nat) : am_ek 72 pc = true := by
  rcases Nat.lt_or_ge pc 19 with q | q
  · exact am_ek_u am_k72_0 (by omega) (by omega)
  refine am_ek_none ?_
  show (bif Nat.blt pc 19 then am_cr72 pc else none) = none
  exact am_blt_f q _ _
set_option maxRecDepth 100000 in
theorem am_k73_0 : ((List.range 48).map (fun i => am_ek 73 (i + 0))).all id = true := by decide +kernel
set_option maxRecDepth 100000 in
theorem am_k73_1 : ((List.range 22).map (fun i => am_ek 73 (i + 48))).all id = true := by decide +kernel
theorem am_ky73 (pc : Nat) : am_ek 73 pc = true := by
  rcases Nat.lt_or_ge pc 48 with q | q
  · exact am_ek_u am_k73_0 (by omega) (by omega)
  rcases Nat.lt_or_ge pc 70 with q | q
  · exact am_ek_u am_k73_1 (by omega) (by omega)
  refine am_ek_none ?_
  show (bif Nat.blt pc 70 then am_cr73 pc else none) = none
  exact am_blt_f q _ _
set_option maxRecDepth 100000 in
theorem am_k74_0 : ((List.range 17).map (fun i => am_ek 74 (i + 0))).all id = true := by decide +kernel
theorem am_ky74 (pc : Nat) : am_ek 74 pc = true := by
  rcases Nat.lt_or_ge pc 17 with q | q
  · exact am_ek_u am_k74_0 (by omega) (by omega)
  refine am_ek_none ?_
  show (bif Nat.blt pc 17 then am_cr74 pc else none) = none
  exact am_blt_f q _ _
set_option maxRecDepth 100000 in
theorem am_k75_0 : ((List.range 48).map (fun i => am_ek 75 (i + 0))).all id = true := by decide +kernel
set_option maxRecDepth 100000 in
theorem am_k75_1 : ((List.range 23).map (fun i => am_ek 75 (i + 48))).all id = true := by decide +kernel
theorem am_ky75 (pc : Nat) : am_ek 75 pc = true := by
  rcases Nat.lt_or_ge pc 48 with q | q
  · exact am_ek_u am_k75_0 (by omega) (by omega)
  rcases Nat.lt_or_ge pc 71 with q | q
  · exact am_ek_u am_k75_1 (by omega) (by omega)
  refine am_ek_none ?_
  show (bif Nat.blt pc 71 then am_cr75 pc else none) = none
  exact am_blt_f q _ _
set_option maxRecDepth 100000 in
theorem am_k76_0 : ((List.range 18).map (fun i => am_ek 76 (i + 0))).all id = true := by decide +kernel
theorem am_ky76 (pc : Nat) : am_ek 76 pc = true := by
  rcases Nat.lt_or_ge pc 18 with q | q
  · exact am_ek_u am_k76_0 (by omega) (by omega)
  refine am_ek_none ?_
  show (bif Nat.blt pc 18 then am_cr76 pc else none) = none
  exact am_blt_f q _ _
set_option maxRecDepth 100000 in
theorem am_k77_0 : ((List.range 48).map (fun i => am_ek 77 (i + 0))).all id = true := by decide +kernel
set_option maxRecDepth 100000 in
theorem am_k77_1 : ((List.range 48).map (fun i => am_ek 77 (i + 48))).all id = true := by decide +kernel
set_option maxRecDepth 100000 in
theorem am_k77_2 : ((List.range 48).map (fun i => am_ek 77 (i + 96))).all id = true := by decide +kernel
set_option maxRecDepth 100000 in
theorem am_k77_3 : ((List.range 48).map (fun i => am_ek 77 (i + 144))).all id = true := by decide +kernel
set_option maxRecDepth 100000 in
theorem am_k77_4 : ((List.range 48).map (fun i => am_ek 77 (i + 192))).all id = true := by decide +kernel
set_option maxRecDepth 100000 in
theorem am_k77_5 : ((List.range 48).map (fun i => am_ek 77 (i + 240))).all id = true := by decide +kernel
set_option maxRecDepth 100000 in
theorem am_k77_6 : ((List.range 48).map (fun i => am_ek 77 (i + 288))).all id = true := by decide +kernel
set_option maxRecDepth 100000 in
theorem am_k77_7 : ((List.range 48).map (fun i => am_ek 77 (i + 336))).all id = true := by decide +kernel
set_option maxRecDepth 100000 in
theorem am_k77_8 : ((List.range 34).map (fun i => am_ek 77 (i + 384))).all id = true := by decide +kernel
theorem am_ky77 (pc : Nat) : am_ek 77 pc = true := by
  rcases Nat.lt_or_ge pc 48 with q | q
  · exact am_ek_u am_k77_0 (by omega) (by omega)
  rcases Nat.lt_or_ge pc 96 with q | q
  · exact am_ek_u am_k77_1 (by omega) (by omega)
  rcases Nat.lt_or_ge pc 144 with q | q
  · exact am_ek_u am_k77_2 (by omega) (by omega)
  rcases Nat.lt_or_ge pc 192 with q | q
  · exact am_ek_u am_k77_3 (by omega) (by omega)
  rcases Nat.lt_or_ge pc 240 with q | q
  · exact am_ek_u am_k77_4 (by omega) (by omega)
  rcases Nat.lt_or_ge pc 288 with q | q
  · exact am_ek_u am_k77_5 (by omega) (by omega)
  rcases Nat.lt_or_ge pc 336 with q | q
  · exact am_ek_u am_k77_6 (by omega) (by omega)
  rcases Nat.lt_or_ge pc 384 with q | q
  · exact am_ek_u am_k77_7 (by omega) (by omega)
  rcases Nat.lt_or_ge pc 418 with q | q
  · exact am_ek_u am_k77_8 (by omega) (by omega)
  refine am_ek_none ?_
  show (bif Nat.blt pc 418 then am_cr77 pc else none) = none
  exact am_blt_f q _ _
set_option maxRecDepth 100000 in
theorem am_k78_0 : ((List.range 48).map (fun i => am_ek 78 (i + 0))).all id = true := by decide +kernel
set_option maxRecDepth 100000 in
theorem am_k78_1 : ((List.range 20).map (fun i => am_ek 78 (i + 48))).all id = true := by decide +kernel
theorem am_ky78 (pc : Nat) : am_ek 78 pc = true := by
  rcases Nat.lt_or_ge pc 48 with q | q
  · exact am_ek_u am_k78_0 (by omega) (by omega)
  rcases Nat.lt_or_ge pc 68 with q | q
  · exact am_ek_u am_k78_1 (by omega) (by omega)
  refine am_ek_none ?_
  show (bif Nat.blt pc 68 then am_cr78 pc else none) = none
  exact am_blt_f q _ _
set_option maxRecDepth 100000 in
theorem am_k79_0 : ((List.range 48).map (fun i => am_ek 79 (i + 0))).all id = true := by decide +kernel
set_option maxRecDepth 100000 in
theorem am_k79_1 : ((List.range 6).map (fun i => am_ek 79 (i + 48))).all id = true := by decide +kernel
theorem am_ky79 (pc : Nat) : am_ek 79 pc = true := by
  rcases Nat.lt_or_ge pc 48 with q | q
  · exact am_ek_u am_k79_0 (by omega) (by omega)
  rcases Nat.lt_or_ge pc 54 with q | q
  · exact am_ek_u am_k79_1 (by omega) (by omega)
  refine am_ek_none ?_
  show (bif Nat.blt pc 54 then am_cr79 pc else none) = none
  exact am_blt_f q _ _
set_option maxRecDepth 100000 in
theorem am_k80_0 : ((List.range 48).map (fun i => am_ek 80 (i + 0))).all id = true := by decide +kernel
set_option maxRecDepth 100000 in
theorem am_k80_1 : ((List.range 20).map (fun i => am_ek 80 (i + 48))).all id = true := by decide +kernel
theorem am_ky80 (pc : Nat) : am_ek 80 pc = true := by
  rcases Nat.lt_or_ge pc 48 with q | q
  · exact am_ek_u am_k80_0 (by omega) (by omega)
  rcases Nat.lt_or_ge pc 68 with q | q
  · exact am_ek_u am_k80_1 (by omega) (by omega)
  refine am_ek_none ?_
  show (bif Nat.blt pc 68 then am_cr80 pc else none) = none
  exact am_blt_f q _ _
set_option maxRecDepth 100000 in
theorem am_k81_0 : ((List.range 48).map (fun i => am_ek 81 (i + 0))).all id = true := by decide +kernel
set_option maxRecDepth 100000 in
theorem am_k81_1 : ((List.range 5).map (fun i => am_ek 81 (i + 48))).all id = true := by decide +kernel
theorem am_ky81 (pc : Nat) : am_ek 81 pc = true := by
  rcases Nat.lt_or_ge pc 48 with q | q
  · exact am_ek_u am_k81_0 (by omega) (by omega)
  rcases Nat.lt_or_ge pc 53 with q | q
  · exact am_ek_u am_k81_1 (by omega) (by omega)
  refine am_ek_none ?_
  show (bif Nat.blt pc 53 then am_cr81 pc else none) = none
  exact am_blt_f q _ _
set_option maxRecDepth 100000 in
theorem am_k82_0 : ((List.range 48).map (fun i => am_ek 82 (i + 0))).all id = true := by decide +kernel
set_option maxRecDepth 100000 in
theorem am_k82_1 : ((List.range 48).map (fun i => am_ek 82 (i + 48))).all id = true := by decide +kernel
theorem am_ky82 (pc : Nat) : am_ek 82 pc = true := by
  rcases Nat.lt_or_ge pc 48 with q | q
  · exact am_ek_u am_k82_0 (by omega) (by omega)
  rcases Nat.lt_or_ge pc 96 with q | q
  · exact am_ek_u am_k82_1 (by omega) (by omega)
  refine am_ek_none ?_
  show (bif Nat.blt pc 96 then am_cr82 pc else none) = none
  exact am_blt_f q _ _
set_option maxRecDepth 100000 in
theorem am_k83_0 : ((List.range 9).map (fun i => am_ek 83 (i + 0))).all id = true := by decide +kernel
theorem am_ky83 (pc : Nat) : am_ek 83 pc = true := by
  rcases Nat.lt_or_ge pc 9 with q | q
  · exact am_ek_u am_k83_0 (by omega) (by omega)
  refine am_ek_none ?_
  show (bif Nat.blt pc 9 then am_cr83 pc else none) = none
  exact am_blt_f q _ _
set_option maxRecDepth 100000 in
theorem am_k84_0 : ((List.range 48).map (fun i => am_ek 84 (i + 0))).all id = true := by decide +kernel
set_option maxRecDepth 100000 in
theorem am_k84_1 : ((List.range 16).map (fun i => am_ek 84 (i + 48))).all id = true := by decide +kernel
theorem am_ky84 (pc : Nat) : am_ek 84 pc = true := by
  rcases Nat.lt_or_ge pc 48 with q | q
  · exact am_ek_u am_k84_0 (by omega) (by omega)
  rcases Nat.lt_or_ge pc 64 with q | q
  · exact am_ek_u am_k84_1 (by omega) (by omega)
  refine am_ek_none ?_
  show (bif Nat.blt pc 64 then am_cr84 pc else none) = none
  exact am_blt_f q _ _
set_option maxRecDepth 100000 in
theorem am_k85_0 : ((List.range 9).map (fun i => am_ek 85 (i + 0))).all id = true := by decide +kernel
theorem am_ky85 (pc : Nat) : am_ek 85 pc = true := by
  rcases Nat.lt_or_ge pc 9 with q | q
  · exact am_ek_u am_k85_0 (by omega) (by omega)
  refine am_ek_none ?_
  show (bif Nat.blt pc 9 then am_cr85 pc else none) = none
  exact am_blt_f q _ _
set_option maxRecDepth 100000 in
theorem am_k86_0 : ((List.range 10).map (fun i => am_ek 86 (i + 0))).all id = true := by decide +kernel
theorem am_ky86 (pc : Nat) : am_ek 86 pc = true := by
  rcases Nat.lt_or_ge pc 10 with q | q
  · exact am_ek_u am_k86_0 (by omega) (by omega)
  refine am_ek_none ?_
  show (bif Nat.blt pc 10 then am_cr86 pc else none) = none
  exact am_blt_f q _ _
set_option maxRecDepth 100000 in
theorem am_k87_0 : ((List.range 10).map (fun i => am_ek 87 (i + 0))).all id = true := by decide +kernel
theorem am_ky87 (pc : Nat) : am_ek 87 pc = true := by
  rcases Nat.lt_or_ge pc 10 with q | q
  · exact am_ek_u am_k87_0 (by omega) (by omega)
  refine am_ek_none ?_
  show (bif Nat.blt pc 10 then am_cr87 pc else none) = none
  exact am_blt_f q _ _
set_option maxRecDepth 100000 in
theorem am_k88_0 : ((List.range 21).map (fun i => am_ek 88 (i + 0))).all id = true := by decide +kernel
theorem am_ky88 (pc : Nat) : am_ek 88 pc = true := by
  rcases Nat.lt_or_ge pc 21 with q | q
  · exact am_ek_u am_k88_0 (by omega) (by omega)
  refine am_ek_none ?_
  show (bif Nat.blt pc 21 then am_cr88 pc else none) = none
  exact am_blt_f q _ _
set_option maxRecDepth 100000 in
theorem am_k89_0 : ((List.range 23).map (fun i => am_ek 89 (i + 0))).all id = true := by decide +kernel
theorem am_ky89 (pc : Nat) : am_ek 89 pc = true := by
  rcases Nat.lt_or_ge pc 23 with q | q
  · exact am_ek_u am_k89_0 (by omega) (by omega)
  refine am_ek_none ?_
  show (bif Nat.blt pc 23 then am_cr89 pc else none) = none
  exact am_blt_f q _ _
set_option maxRecDepth 100000 in
theorem am_k90_0 : ((List.range 48).map (fun i => am_ek 90 (i + 0))).all id = true := by decide +kernel
set_option maxRecDepth 100000 in
theorem am_k90_1 : ((List.range 33).map (fun i => am_ek 90 (i + 48))).all id = true := by decide +kernel
theorem am_ky90 (pc : Nat) : am_ek 90 pc = true := by
  rcases Nat.lt_or_ge pc 48 with q | q
  · exact am_ek_u am_k90_0 (by omega) (by omega)
  rcases Nat.lt_or_ge pc 81 with q | q
  · exact am_ek_u am_k90_1 (by omega) (by omega)
  refine am_ek_none ?_
  show (bif Nat.blt pc 81 then am_cr90 pc else none) = none
  exact am_blt_f q _ _
set_option maxRecDepth 100000 in
theorem am_k91_0 : ((List.range 48).map (fun i => am_ek 91 (i + 0))).all id = true := by decide +kernel
set_option maxRecDepth 100000 in
theorem am_k91_1 : ((List.range 8).map (fun i => am_ek 91 (i + 48))).all id = true := by decide +kernel
theorem am_ky91 (pc : Nat) : am_ek 91 pc = true := by
  rcases Nat.lt_or_ge pc 48 with q | q
  · exact am_ek_u am_k91_0 (by omega) (by omega)
  rcases Nat.lt_or_ge pc 56 with q | q
  · exact am_ek_u am_k91_1 (by omega) (by omega)
  refine am_ek_none ?_
  show (bif Nat.blt pc 56 then am_cr91 pc else none) = none
  exact am_blt_f q _ _
set_option maxRecDepth 100000 in
theorem am_k92_0 : ((List.range 15).map (fun i => am_ek 92 (i + 0))).all id = true := by decide +kernel
theorem am_ky92 (pc : Nat) : am_ek 92 pc = true := by
  rcases Nat.lt_or_ge pc 15 with q | q
  · exact am_ek_u am_k92_0 (by omega) (by omega)
  refine am_ek_none ?_
  show (bif Nat.blt pc 15 then am_cr92 pc else none) = none
  exact am_blt_f q _ _
set_option maxRecDepth 100000 in
theorem am_k93_0 : ((List.range 11).map (fun i => am_ek 93 (i + 0))).all id = true := by decide +kernel
theorem am_ky93 (pc : Nat) : am_ek 93 pc = true := by
  rcases Nat.lt_or_ge pc 11 with q | q
  · exact am_ek_u am_k93_0 (by omega) (by omega)
  refine am_ek_none ?_
  show (bif Nat.blt pc 11 then am_cr93 pc else none) = none
  exact am_blt_f q _ _
set_option maxRecDepth 100000 in
theorem am_k94_0 : ((List.range 19).map (fun i => am_ek 94 (i + 0))).all id = true := by decide +kernel
theorem am_ky94 (pc : Nat) : am_ek 94 pc = true := by
  rcases Nat.lt_or_ge pc 19 with q | q
  · exact am_ek_u am_k94_0 (by omega) (by omega)
  refine am_ek_none ?_
  show (bif Nat.blt pc 19 then am_cr94 pc else none) = none
  exact am_blt_f q _ _
set_option maxRecDepth 100000 in
theorem am_k95_0 : ((List.range 18).map (fun i => am_ek 95 (i + 0))).all id = true := by decide +kernel
theorem am_ky95 (pc : Nat) : am_ek 95 pc = true := by
  rcases Nat.lt_or_ge pc 18 with q | q
  · exact am_ek_u am_k95_0 (by omega) (by omega)
  refine am_ek_none ?_
  show (bif Nat.blt pc 18 then am_cr95 pc else none) = none
  exact am_blt_f q _ _
set_option maxRecDepth 100000 in
theorem am_k96_0 : ((List.range 10).map (fun i => am_ek 96 (i + 0))).all id = true := by decide +kernel
theorem am_ky96 (pc : Nat) : am_ek 96 pc = true := by
  rcases Nat.lt_or_ge pc 10 with q | q
  · exact am_ek_u am_k96_0 (by omega) (by omega)
  refine am_ek_none ?_
  show (bif Nat.blt pc 10 then am_cr96 pc else none) = none
  exact am_blt_f q _ _
set_option maxRecDepth 100000 in
theorem am_k97_0 : ((List.range 15).map (fun i => am_ek 97 (i + 0))).all id = true := by decide +kernel
theorem am_ky97 (pc : Nat) : am_ek 97 pc = true := by
  rcases Nat.lt_or_ge pc 15 with q | q
  · exact am_ek_u am_k97_0 (by omega) (by omega)
  refine am_ek_none ?_
  show (bif Nat.blt pc 15 then am_cr97 pc else none) = none
  exact am_blt_f q _ _
set_option maxRecDepth 100000 in
theorem am_k98_0 : ((List.range 21).map (fun i => am_ek 98 (i + 0))).all id = true := by decide +kernel
theorem am_ky98 (pc : Nat) : am_ek 98 pc = true := by
  rcases Nat.lt_or_ge pc 21 with q | q
  · exact am_ek_u am_k98_0 (by omega) (by omega)
  refine am_ek_none ?_
  show (bif Nat.blt pc 21 then am_cr98 pc else none) = none
  exact am_blt_f q _ _
set_option maxRecDepth 100000 in
theorem am_k99_0 : ((List.range 22).map (fun i => am_ek 99 (i + 0))).all id = true := by decide +kernel
theorem am_ky99 (pc : Nat) : am_ek 99 pc = true := by
  rcases Nat.lt_or_ge pc 22 with q | q
  · exact am_ek_u am_k99_0 (by omega) (by omega)
  refine am_ek_none ?_
  show (bif Nat.blt pc 22 then am_cr99 pc else none) = none
  exact am_blt_f q _ _
set_option maxRecDepth 100000 in
theorem am_k100_0 : ((List.range 25).map (fun i => am_ek 100 (i + 0))).all id = true := by decide +kernel
theorem am_ky100 (pc : Nat) : am_ek 100 pc = true := by
  rcases Nat.lt_or_ge pc 25 with q | q
  · exact am_ek_u am_k100_0 (by omega) (by omega)
  refine am_ek_none ?_
  show (bif Nat.blt pc 25 then am_cr100 pc else none) = none
  exact am_blt_f q _ _
set_option maxRecDepth 100000 in
theorem am_k101_0 : ((List.range 48).map (fun i => am_ek 101 (i + 0))).all id = true := by decide +kernel
set_option maxRecDepth 100000 in
theorem am_k101_1 : ((List.range 48).map (fun i => am_ek 101 (i + 48))).all id = true := by decide +kernel
set_option maxRecDepth 100000 in
theorem am_k101_2 : ((List.range 48).map (fun i => am_ek 101 (i + 96))).all id = true := by decide +kernel
set_option maxRecDepth 100000 in
theorem am_k101_3 : ((List.range 21).map (fun i => am_ek 101 (i + 144))).all id = true := by decide +kernel
theorem am_ky101 (pc : Nat) : am_ek 101 pc = true := by
  rcases Nat.lt_or_ge pc 48 with q | q
  · exact am_ek_u am_k101_0 (by omega) (by omega)
  rcases Nat.lt_or_ge pc 96 with q | q
  · exact am_ek_u am_k101_1 (by omega) (by omega)
  rcases Nat.lt_or_ge pc 144 with q | q
  · exact am_ek_u am_k101_2 (by omega) (by omega)
  rcases Nat.lt_or_ge pc 165 with q | q
  · exact am_ek_u am_k101_3 (by omega) (by omega)
  refine am_ek_none ?_
  show (bif Nat.blt pc 165 then am_cr101 pc else none) = none
  exact am_blt_f q _ _
set_option maxRecDepth 100000 in
theorem am_k102_0 : ((List.range 23).map (fun i => am_ek 102 (i + 0))).all id = true := by decide +kernel
theorem am_ky102 (pc : Nat) : am_ek 102 pc = true := by
  rcases Nat.lt_or_ge pc 23 with q | q
  · exact am_ek_u am_k102_0 (by omega) (by omega)
  refine am_ek_none ?_
  show (bif Nat.blt pc 23 then am_cr102 pc else none) = none
  exact am_blt_f q _ _
set_option maxRecDepth 100000 in
theorem am_k103_0 : ((List.range 23).map (fun i => am_ek 103 (i + 0))).all id = true := by decide +kernel
theorem am_ky103 (pc : Nat) : am_ek 103 pc = true := by
  rcases Nat.lt_or_ge pc 23 with q | q
  · exact am_ek_u am_k103_0 (by omega) (by omega)
  refine am_ek_none ?_
  show (bif Nat.blt pc 23 then am_cr103 pc else none) = none
  exact am_blt_f q _ _
set_option maxRecDepth 100000 in
theorem am_k104_0 : ((List.range 48).map (fun i => am_ek 104 (i + 0))).all id = true := by decide +kernel
set_option maxRecDepth 100000 in
theorem am_k104_1 : ((List.range 48).map (fun i => am_ek 104 (i + 48))).all id = true := by decide +kernel
set_option maxRecDepth 100000 in
theorem am_k104_2 : ((List.range 48).map (fun i => am_ek 104 (i + 96))).all id = true := by decide +kernel
set_option maxRecDepth 100000 in
theorem am_k104_3 : ((List.range 4).map (fun i => am_ek 104 (i + 144))).all id = true := by decide +kernel
theorem am_ky104 (pc : Nat) : am_ek 104 pc = true := by
  rcases Nat.lt_or_ge pc 48 with q | q
  · exact am_ek_u am_k104_0 (by omega) (by omega)
  rcases Nat.lt_or_ge pc 96 with q | q
  · exact am_ek_u am_k104_1 (by omega) (by omega)
  rcases Nat.lt_or_ge pc 144 with q | q
  · exact am_ek_u am_k104_2 (by omega) (by omega)
  rcases Nat.lt_or_ge pc 148 with q | q
  · exact am_ek_u am_k104_3 (by omega) (by omega)
  refine am_ek_none ?_
  show (bif Nat.blt pc 148 then am_cr104 pc else none) = none
  exact am_blt_f q _ _
set_option maxRecDepth 100000 in
theorem am_k105_0 : ((List.range 48).map (fun i => am_ek 105 (i + 0))).all id = true := by decide +kernel
set_option maxRecDepth 100000 in
theorem am_k105_1 : ((List.range 48).map (fun i => am_ek 105 (i + 48))).all id = true := by decide +kernel
set_option maxRecDepth 100000 in
theorem am_k105_2 : ((List.range 48).map (fun i => am_ek 105 (i + 96))).all id = true := by decide +kernel
set_option maxRecDepth 100000 in
theorem am_k105_3 : ((List.range 48).map (fun i => am_ek 105 (i + 144))).all id = true := by decide +kernel
set_option maxRecDepth 100000 in
theorem am_k105_4 : ((List.range 1).map (fun i => am_ek 105 (i + 192))).all id = true := by decide +kernel
theorem am_ky105 (pc : Nat) : am_ek 105 pc = true := by
  rcases Nat.lt_or_ge pc 48 with q | q
  · exact am_ek_u am_k105_0 (by omega) (by omega)
  rcases Nat.lt_or_ge pc 96 with q | q
  · exact am_ek_u am_k105_1 (by omega) (by omega)
  rcases Nat.lt_or_ge pc 144 with q | q
  · exact am_ek_u am_k105_2 (by omega) (by omega)
  rcases Nat.lt_or_ge pc 192 with q | q
  · exact am_ek_u am_k105_3 (by omega) (by omega)
  rcases Nat.lt_or_ge pc 193 with q | q
  · exact am_ek_u am_k105_4 (by omega) (by omega)
  refine am_ek_none ?_
  show (bif Nat.blt pc 193 then am_cr105 pc else none) = none
  exact am_blt_f q _ _
set_option maxRecDepth 100000 in
theorem am_k106_0 : ((List.range 48).map (fun i => am_ek 106 (i + 0))).all id = true := by decide +kernel
set_option maxRecDepth 100000 in
theorem am_k106_1 : ((List.range 48).map (fun i => am_ek 106 (i + 48))).all id = true := by decide +kernel
set_option maxRecDepth 100000 in
theorem am_k106_2 : ((List.range 39).map (fun i => am_ek 106 (i + 96))).all id = true := by decide +kernel
theorem am_ky106 (pc : Nat) : am_ek 106 pc = true := by
  rcases Nat.lt_or_ge pc 48 with q | q
  · exact am_ek_u am_k106_0 (by omega) (by omega)
  rcases Nat.lt_or_ge pc 96 with q | q
  · exact am_ek_u am_k106_1 (by omega) (by omega)
  rcases Nat.lt_or_ge pc 135 with q | q
  · exact am_ek_u am_k106_2 (by omega) (by omega)
  refine am_ek_none ?_
  show (bif Nat.blt pc 135 then am_cr106 pc else none) = none
  exact am_blt_f q _ _
set_option maxRecDepth 100000 in
theorem am_k107_0 : ((List.range 16).map (fun i => am_ek 107 (i + 0))).all id = true := by decide +kernel
theorem am_ky107 (pc : Nat) : am_ek 107 pc = true := by
  rcases Nat.lt_or_ge pc 16 with q | q
  · exact am_ek_u am_k107_0 (by omega) (by omega)
  refine am_ek_none ?_
  show (bif Nat.blt pc 16 then am_cr107 pc else none) = none
  exact am_blt_f q _ _
set_option maxRecDepth 100000 in
theorem am_k108_0 : ((List.range 21).map (fun i => am_ek 108 (i + 0))).all id = true := by decide +kernel
theorem am_ky108 (pc : Nat) : am_ek 108 pc = true := by
  rcases Nat.lt_or_ge pc 21 with q | q
  · exact am_ek_u am_k108_0 (by omega) (by omega)
  refine am_ek_none ?_
  show (bif Nat.blt pc 21 then am_cr108 pc else none) = none
  exact am_blt_f q _ _
set_option maxRecDepth 100000 in
theorem am_k109_0 : ((List.range 48).map (fun i => am_ek 109 (i + 0))).all id = true := by decide +kernel
set_option maxRecDepth 100000 in
theorem am_k109_1 : ((List.range 48).map (fun i => am_ek 109 (i + 48))).all id = true := by decide +kernel
set_option maxRecDepth 100000 in
theorem am_k109_2 : ((List.range 10).map (fun i => am_ek 109 (i + 96))).all id = true := by decide +kernel
theorem am_ky109 (pc : Nat) : am_ek 109 pc = true := by
  rcases Nat.lt_or_ge pc 48 with q | q
  · exact am_ek_u am_k109_0 (by omega) (by omega)
  rcases Nat.lt_or_ge pc 96 with q | q
  · exact am_ek_u am_k109_1 (by omega) (by omega)
  rcases Nat.lt_or_ge pc 106 with q | q
  · exact am_ek_u am_k109_2 (by omega) (by omega)
  refine am_ek_none ?_
  show (bif Nat.blt pc 106 then am_cr109 pc else none) = none
  exact am_blt_f q _ _
set_option maxRecDepth 100000 in
theorem am_k110_0 : ((List.range 48).map (fun i => am_ek 110 (i + 0))).all id = true := by decide +kernel
set_option maxRecDepth 100000 in
theorem am_k110_1 : ((List.range 24).map (fun i => am_ek 110 (i + 48))).all id = true := by decide +kernel
theorem am_ky110 (pc : Nat) : am_ek 110 pc = true := by
  rcases Nat.lt_or_ge pc 48 with q | q
  · exact am_ek_u am_k110_0 (by omega) (by omega)
  rcases Nat.lt_or_ge pc 72 with q | q
  · exact am_ek_u am_k110_1 (by omega) (by omega)
  refine am_ek_none ?_
  show (bif Nat.blt pc 72 then am_cr110 pc else none) = none
  exact am_blt_f q _ _
set_option maxRecDepth 100000 in
theorem am_k111_0 : ((List.range 48).map (fun i => am_ek 111 (i + 0))).all id = true := by decide +kernel
set_option maxRecDepth 100000 in
theorem am_k111_1 : ((List.range 8).map (fun i => am_ek 111 (i + 48))).all id = true := by decide +kernel
theorem am_ky111 (pc : Nat) : am_ek 111 pc = true := by
  rcases Nat.lt_or_ge pc 48 with q | q
  · exact am_ek_u am_k111_0 (by omega) (by omega)
  rcases Nat.lt_or_ge pc 56 with q | q
  · exact am_ek_u am_k111_1 (by omega) (by omega)
  refine am_ek_none ?_
  show (bif Nat.blt pc 56 then am_cr111 pc else none) = none
  exact am_blt_f q _ _
