set_option maxRecDepth 100000 in
theorem am_k259_0 : ((List.range 28).map (fun i => am_ek 259 (i + 0))).all id = true := by decide +kernel
theorem am_ky259 (pc : Nat) : am_ek 259 pc = true := by
  rcases Nat.lt_or_ge pc 28 with q | q
  · exact am_ek_u am_k259_0 (by omega) (by omega)
  refine am_ek_none ?_
  show (bif Nat.blt pc 28 then am_cr259 pc else none) = none
  exact am_blt_f q _ _
set_option maxRecDepth 100000 in
theorem am_k260_0 : ((List.range 33).map (fun i => am_ek 260 (i + 0))).all id = true := by decide +kernel
theorem am_ky260 (pc : Nat) : am_ek 260 pc = true := by
  rcases Nat.lt_or_ge pc 33 with q | q
  · exact am_ek_u am_k260_0 (by omega) (by omega)
  refine am_ek_none ?_
  show (bif Nat.blt pc 33 then am_cr260 pc else none) = none
  exact am_blt_f q _ _
set_option maxRecDepth 100000 in
theorem am_k261_0 : ((List.range 48).map (fun i => am_ek 261 (i + 0))).all id = true := by decide +kernel
set_option maxRecDepth 100000 in
theorem am_k261_1 : ((List.range 5).map (fun i => am_ek 261 (i + 48))).all id = true := by decide +kernel
theorem am_ky261 (pc : Nat) : am_ek 261 pc = true := by
  rcases Nat.lt_or_ge pc 48 with q | q
  · exact am_ek_u am_k261_0 (by omega) (by omega)
  rcases Nat.lt_or_ge pc 53 with q | q
  · exact am_ek_u am_k261_1 (by omega) (by omega)
  refine am_ek_none ?_
  show (bif Nat.blt pc 53 then am_cr261 pc else none) = none
  exact am_blt_f q _ _
set_option maxRecDepth 100000 in
theorem am_k262_0 : ((List.range 48).map (fun i => am_ek 262 (i + 0))).all id = true := by decide +kernel
set_option maxRecDepth 100000 in
theorem am_k262_1 : ((List.range 24).map (fun i => am_ek 262 (i + 48))).all id = true := by decide +kernel
theorem am_ky262 (pc : Nat) : am_ek 262 pc = true := by
  rcases Nat.lt_or_ge pc 48 with q | q
  · exact am_ek_u am_k262_0 (by omega) (by omega)
  rcases Nat.lt_or_ge pc 72 with q | q
  · exact am_ek_u am_k262_1 (by omega) (by omega)
  refine am_ek_none ?_
  show (bif Nat.blt pc 72 then am_cr262 pc else none) = none
  exact am_blt_f q _ _
set_option maxRecDepth 100000 in
theorem am_k263_0 : ((List.range 26).map (fun i => am_ek 263 (i + 0))).all id = true := by decide +kernel
theorem am_ky263 (pc : Nat) : am_ek 263 pc = true := by
  rcases Nat.lt_or_ge pc 26 with q | q
  · exact am_ek_u am_k263_0 (by omega) (by omega)
  refine am_ek_none ?_
  show (bif Nat.blt pc 26 then am_cr263 pc else none) = none
  exact am_blt_f q _ _
set_option maxRecDepth 100000 in
theorem am_k264_0 : ((List.range 48).map (fun i => am_ek 264 (i + 0))).all id = true := by decide +kernel
set_option maxRecDepth 100000 in
theorem am_k264_1 : ((List.range 48).map (fun i => am_ek 264 (i + 48))).all id = true := by decide +kernel
set_option maxRecDepth 100000 in
theorem am_k264_2 : ((List.range 36).map (fun i => am_ek 264 (i + 96))).all id = true := by decide +kernel
theorem am_ky264 (pc : Nat) : am_ek 264 pc = true := by
  rcases Nat.lt_or_ge pc 48 with q | q
  · exact am_ek_u am_k264_0 (by omega) (by omega)
  rcases Nat.lt_or_ge pc 96 with q | q
  · exact am_ek_u am_k264_1 (by omega) (by omega)
  rcases Nat.lt_or_ge pc 132 with q | q
  · exact am_ek_u am_k264_2 (by omega) (by omega)
  refine am_ek_none ?_
  show (bif Nat.blt pc 132 then am_cr264 pc else none) = none
  exact am_blt_f q _ _
set_option maxRecDepth 100000 in
theorem am_k265_0 : ((List.range 18).map (fun i => am_ek 265 (i + 0))).all id = true := by decide +kernel
theorem am_ky265 (pc : Nat) : am_ek 265 pc = true := by
  rcases Nat.lt_or_ge pc 18 with q | q
  · exact am_ek_u am_k265_0 (by omega) (by omega)
  refine am_ek_none ?_
  show (bif Nat.blt pc 18 then am_cr265 pc else none) = none
  exact am_blt_f q _ _
set_option maxRecDepth 100000 in
theorem am_k266_0 : ((List.range 12).map (fun i => am_ek 266 (i + 0))).all id = true := by decide +kernel
theorem am_ky266 (pc : Nat) : am_ek 266 pc = true := by
  rcases Nat.lt_or_ge pc 12 with q | q
  · exact am_ek_u am_k266_0 (by omega) (by omega)
  refine am_ek_none ?_
  show (bif Nat.blt pc 12 then am_cr266 pc else none) = none
  exact am_blt_f q _ _
set_option maxRecDepth 100000 in
theorem am_k267_0 : ((List.range 48).map (fun i => am_ek 267 (i + 0))).all id = true := by decide +kernel
set_option maxRecDepth 100000 in
theorem am_k267_1 : ((List.range 48).map (fun i => am_ek 267 (i + 48))).all id = true := by decide +kernel
set_option maxRecDepth 100000 in
theorem am_k267_2 : ((List.range 48).map (fun i => am_ek 267 (i + 96))).all id = true := by decide +kernel
set_option maxRecDepth 100000 in
theorem am_k267_3 : ((List.range 48).map (fun i => am_ek 267 (i + 144))).all id = true := by decide +kernel
set_option maxRecDepth 100000 in
theorem am_k267_4 : ((List.range 39).map (fun i => am_ek 267 (i + 192))).all id = true := by decide +kernel
theorem am_ky267 (pc : Nat) : am_ek 267 pc = true := by
  rcases Nat.lt_or_ge pc 48 with q | q
  · exact am_ek_u am_k267_0 (by omega) (by omega)
  rcases Nat.lt_or_ge pc 96 with q | q
  · exact am_ek_u am_k267_1 (by omega) (by omega)
  rcases Nat.lt_or_ge pc 144 with q | q
  · exact am_ek_u am_k267_2 (by omega) (by omega)
  rcases Nat.lt_or_ge pc 192 with q | q
  · exact am_ek_u am_k267_3 (by omega) (by omega)
  rcases Nat.lt_or_ge pc 231 with q | q
  · exact am_ek_u am_k267_4 (by omega) (by omega)
  refine am_ek_none ?_
  show (bif Nat.blt pc 231 then am_cr267 pc else none) = none
  exact am_blt_f q _ _
set_option maxRecDepth 100000 in
theorem am_k268_0 : ((List.range 24).map (fun i => am_ek 268 (i + 0))).all id = true := by decide +kernel
theorem am_ky268 (pc : Nat) : am_ek 268 pc = true := by
  rcases Nat.lt_or_ge pc 24 with q | q
  · exact am_ek_u am_k268_0 (by omega) (by omega)
  refine am_ek_none ?_
  show (bif Nat.blt pc 24 then am_cr268 pc else none) = none
  exact am_blt_f q _ _
set_option maxRecDepth 100000 in
theorem am_k269_0 : ((List.range 48).map (fun i => am_ek 269 (i + 0))).all id = true := by decide +kernel
set_option maxRecDepth 100000 in
theorem am_k269_1 : ((List.range 48).map (fun i => am_ek 269 (i + 48))).all id = true := by decide +kernel
set_option maxRecDepth 100000 in
theorem am_k269_2 : ((List.range 48).map (fun i => am_ek 269 (i + 96))).all id = true := by decide +kernel
set_option maxRecDepth 100000 in
theorem am_k269_3 : ((List.range 48).map (fun i => am_ek 269 (i + 144))).all id = true := by decide +kernel
set_option maxRecDepth 100000 in
theorem am_k269_4 : ((List.range 48).map (fun i => am_ek 269 (i + 192))).all id = true := by decide +kernel
set_option maxRecDepth 100000 in
theorem am_k269_5 : ((List.range 48).map (fun i => am_ek 269 (i + 240))).all id = true := by decide +kernel
set_option maxRecDepth 100000 in
theorem am_k269_6 : ((List.range 48).map (fun i => am_ek 269 (i + 288))).all id = true := by decide +kernel
set_option maxRecDepth 100000 in
theorem am_k269_7 : ((List.range 1).map (fun i => am_ek 269 (i + 336))).all id = true := by decide +kernel
theorem am_ky269 (pc : Nat) : am_ek 269 pc = true := by
  rcases Nat.lt_or_ge pc 48 with q | q
  · exact am_ek_u am_k269_0 (by omega) (by omega)
  rcases Nat.lt_or_ge pc 96 with q | q
  · exact am_ek_u am_k269_1 (by omega) (by omega)
  rcases Nat.lt_or_ge pc 144 with q | q
  · exact am_ek_u am_k269_2 (by omega) (by omega)
  rcases Nat.lt_or_ge pc 192 with q | q
  · exact am_ek_u am_k269_3 (by omega) (by omega)
  rcases Nat.lt_or_ge pc 240 with q | q
  · exact am_ek_u am_k269_4 (by omega) (by omega)
  rcases Nat.lt_or_ge pc 288 with q | q
  · exact am_ek_u am_k269_5 (by omega) (by omega)
  rcases Nat.lt_or_ge pc 336 with q | q
  · exact am_ek_u am_k269_6 (by omega) (by omega)
  rcases Nat.lt_or_ge pc 337 with q | q
  · exact am_ek_u am_k269_7 (by omega) (by omega)
  refine am_ek_none ?_
  show (bif Nat.blt pc 337 then am_cr269 pc else none) = none
  exact am_blt_f q _ _
set_option maxRecDepth 100000 in
theorem am_k270_0 : ((List.range 48).map (fun i => am_ek 270 (i + 0))).all id = true := by decide +kernel
set_option maxRecDepth 100000 in
theorem am_k270_1 : ((List.range 32).map (fun i => am_ek 270 (i + 48))).all id = true := by decide +kernel
theorem am_ky270 (pc : Nat) : am_ek 270 pc = true := by
  rcases Nat.lt_or_ge pc 48 with q | q
  · exact am_ek_u am_k270_0 (by omega) (by omega)
  rcases Nat.lt_or_ge pc 80 with q | q
  · exact am_ek_u am_k270_1 (by omega) (by omega)
  refine am_ek_none ?_
  show (bif Nat.blt pc 80 then am_cr270 pc else none) = none
  exact am_blt_f q _ _
set_option maxRecDepth 100000 in
theorem am_k271_0 : ((List.range 48).map (fun i => am_ek 271 (i + 0))).all id = true := by decide +kernel
set_option maxRecDepth 100000 in
theorem am_k271_1 : ((List.range 48).map (fun i => am_ek 271 (i + 48))).all id = true := by decide +kernel
set_option maxRecDepth 100000 in
theorem am_k271_2 : ((List.range 48).map (fun i => am_ek 271 (i + 96))).all id = true := by decide +kernel
set_option maxRecDepth 100000 in
theorem am_k271_3 : ((List.range 48).map (fun i => am_ek 271 (i + 144))).all id = true := by decide +kernel
set_option maxRecDepth 100000 in
theorem am_k271_4 : ((List.range 48).map (fun i => am_ek 271 (i + 192))).all id = true := by decide +kernel
set_option maxRecDepth 100000 in
theorem am_k271_5 : ((List.range 48).map (fun i => am_ek 271 (i + 240))).all id = true := by decide +kernel
set_option maxRecDepth 100000 in
theorem am_k271_6 : ((List.range 48).map (fun i => am_ek 271 (i + 288))).all id = true := by decide +kernel
set_option maxRecDepth 100000 in
theorem am_k271_7 : ((List.range 19).map (fun i => am_ek 271 (i + 336))).all id = true := by decide +kernel
theorem am_ky271 (pc : Nat) : am_ek 271 pc = true := by
  rcases Nat.lt_or_ge pc 48 with q | q
  · exact am_ek_u am_k271_0 (by omega) (by omega)
  rcases Nat.lt_or_ge pc 96 with q | q
  · exact am_ek_u am_k271_1 (by omega) (by omega)
  rcases Nat.lt_or_ge pc 144 with q | q
  · exact am_ek_u am_k271_2 (by omega) (by omega)
  rcases Nat.lt_or_ge pc 192 with q | q
  · exact am_ek_u am_k271_3 (by omega) (by omega)
  rcases Nat.lt_or_ge pc 240 with q | q
  · exact am_ek_u am_k271_4 (by omega) (by omega)
  rcases Nat.lt_or_ge pc 288 with q | q
  · exact am_ek_u am_k271_5 (by omega) (by omega)
  rcases Nat.lt_or_ge pc 336 with q | q
  · exact am_ek_u am_k271_6 (by omega) (by omega)
  rcases Nat.lt_or_ge pc 355 with q | q
  · exact am_ek_u am_k271_7 (by omega) (by omega)
  refine am_ek_none ?_
  show (bif Nat.blt pc 355 then am_cr271 pc else none) = none
  exact am_blt_f q _ _
set_option maxRecDepth 100000 in
theorem am_k272_0 : ((List.range 33).map (fun i => am_ek 272 (i + 0))).all id = true := by decide +kernel
theorem am_ky272 (pc : Nat) : am_ek 272 pc = true := by
  rcases Nat.lt_or_ge pc 33 with q | q
  · exact am_ek_u am_k272_0 (by omega) (by omega)
  refine am_ek_none ?_
  show (bif Nat.blt pc 33 then am_cr272 pc else none) = none
  exact am_blt_f q _ _
set_option maxRecDepth 100000 in
theorem am_k273_0 : ((List.range 31).map (fun i => am_ek 273 (i + 0))).all id = true := by decide +kernel
theorem am_ky273 (pc : Nat) : am_ek 273 pc = true := by
  rcases Nat.lt_or_ge pc 31 with q | q
  · exact am_ek_u am_k273_0 (by omega) (by omega)
  refine am_ek_none ?_
  show (bif Nat.blt pc 31 then am_cr273 pc else none) = none
  exact am_blt_f q _ _
set_option maxRecDepth 100000 in
theorem am_k274_0 : ((List.range 27).map (fun i => am_ek 274 (i + 0))).all id = true := by decide +kernel
theorem am_ky274 (pc : Nat) : am_ek 274 pc = true := by
  rcases Nat.lt_or_ge pc 27 with q | q
  · exact am_ek_u am_k274_0 (by omega) (by omega)
  refine am_ek_none ?_
  show (bif Nat.blt pc 27 then am_cr274 pc else none) = none
  exact am_blt_f q _ _
set_option maxRecDepth 100000 in
theorem am_k275_0 : ((List.range 48).map (fun i => am_ek 275 (i + 0))).all id = true := by decide +kernel
set_option maxRecDepth 100000 in
theorem am_k275_1 : ((List.range 48).map (fun i => am_ek 275 (i + 48))).all id = true := by decide +kernel
set_option maxRecDepth 100000 in
theorem am_k275_2 : ((List.range 48).map (fun i => am_ek 275 (i + 96))).all id = true := by decide +kernel
set_option maxRecDepth 100000 in
theorem am_k275_3 : ((List.range 14).map (fun i => am_ek 275 (i + 144))).all id = true := by decide +kernel
theorem am_ky275 (pc : Nat) : am_ek 275 pc = true := by
  rcases Nat.lt_or_ge pc 48 with q | q
  · exact am_ek_u am_k275_0 (by omega) (by omega)
  rcases Nat.lt_or_ge pc 96 with q | q
  · exact am_ek_u am_k275_1 (by omega) (by omega)
  rcases Nat.lt_or_ge pc 144 with q | q
  · exact am_ek_u am_k275_2 (by omega) (by omega)
  rcases Nat.lt_or_ge pc 158 with q | q
  · exact am_ek_u am_k275_3 (by omega) (by omega)
  refine am_ek_none ?_
  show (bif Nat.blt pc 158 then am_cr275 pc else none) = none
  exact am_blt_f q _ _
set_option maxRecDepth 100000 in
theorem am_k276_0 : ((List.range 48).map (fun i => am_ek 276 (i + 0))).all id = true := by decide +kernel
set_option maxRecDepth 100000 in
theorem am_k276_1 : ((List.range 48).map (fun i => am_ek 276 (i + 48))).all id = true := by decide +kernel
set_option maxRecDepth 100000 in
theorem am_k276_2 : ((List.range 48).map (fun i => am_ek 276 (i + 96))).all id = true := by decide +kernel
set_option maxRecDepth 100000 in
theorem am_k276_3 : ((List.range 48).map (fun i => am_ek 276 (i + 144))).all id = true := by decide +kernel
set_option maxRecDepth 100000 in
theorem am_k276_4 : ((List.range 1).map (fun i => am_ek 276 (i + 192))).all id = true := by decide +kernel
theorem am_ky276 (pc : Nat) : am_ek 276 pc = true := by
  rcases Nat.lt_or_ge pc 48 with q | q
  · exact am_ek_u am_k276_0 (by omega) (by omega)
  rcases Nat.lt_or_ge pc 96 with q | q
  · exact am_ek_u am_k276_1 (by omega) (by omega)
  rcases Nat.lt_or_ge pc 144 with q | q
  · exact am_ek_u am_k276_2 (by omega) (by omega)
  rcases Nat.lt_or_ge pc 192 with q | q
  · exact am_ek_u am_k276_3 (by omega) (by omega)
  rcases Nat.lt_or_ge pc 193 with q | q
  · exact am_ek_u am_k276_4 (by omega) (by omega)
  refine am_ek_none ?_
  show (bif Nat.blt pc 193 then am_cr276 pc else none) = none
  exact am_blt_f q _ _
set_option maxRecDepth 100000 in
theorem am_k277_0 : ((List.range 48).map (fun i => am_ek 277 (i + 0))).all id = true := by decide +kernel
set_option maxRecDepth 100000 in
theorem am_k277_1 : ((List.range 48).map (fun i => am_ek 277 (i + 48))).all id = true := by decide +kernel
set_option maxRecDepth 100000 in
theorem am_k277_2 : ((List.range 48).map (fun i => am_ek 277 (i + 96))).all id = true := by decide +kernel
set_option maxRecDepth 100000 in
theorem am_k277_3 : ((List.range 48).map (fun i => am_ek 277 (i + 144))).all id = true := by decide +kernel
set_option maxRecDepth 100000 in
theorem am_k277_4 : ((List.range 48).map (fun i => am_ek 277 (i + 192))).all id = true := by decide +kernel
set_option maxRecDepth 100000 in
theorem am_k277_5 : ((List.range 48).map (fun i => am_ek 277 (i + 240))).all id = true := by decide +kernel
set_option maxRecDepth 100000 in
theorem am_k277_6 : ((List.range 48).map (fun i => am_ek 277 (i + 288))).all id = true := by decide +kernel
set_option maxRecDepth 100000 in
theorem am_k277_7 : ((List.range 48).map (fun i => am_ek 277 (i + 336))).all id = true := by decide +kernel
set_option maxRecDepth 100000 in
theorem am_k277_8 : ((List.range 48).map (fun i => am_ek 277 (i + 384))).all id = true := by decide +kernel
set_option maxRecDepth 100000 in
theorem am_k277_9 : ((List.range 48).map (fun i => am_ek 277 (i + 432))).all id = true := by decide +kernel
set_option maxRecDepth 100000 in
theorem am_k277_10 : ((List.range 48).map (fun i => am_ek 277 (i + 480))).all id = true := by decide +kernel
set_option maxRecDepth 100000 in
theorem am_k277_11 : ((List.range 48).map (fun i => am_ek 277 (i + 528))).all id = true := by decide +kernel
set_option maxRecDepth 100000 in
theorem am_k277_12 : ((List.range 48).map (fun i => am_ek 277 (i + 576))).all id = true := by decide +kernel
set_option maxRecDepth 100000 in
theorem am_k277_13 : ((List.range 48).map (fun i => am_ek 277 (i + 624))).all id = true := by decide +kernel
set_option maxRecDepth 100000 in
theorem am_k277_14 : ((List.range 48).map (fun i => am_ek 277 (i + 672))).all id = true := by decide +kernel
set_option maxRecDepth 100000 in
theorem am_k277_15 : ((List.range 48).map (fun i => am_ek 277 (i + 720))).all id = true := by decide +kernel
set_option maxRecDepth 100000 in
theorem am_k277_16 : ((List.range 48).map (fun i => am_ek 277 (i + 768))).all id = true := by decide +kernel
set_option maxRecDepth 100000 in
theorem am_k277_17 : ((List.range 48).map (fun i => am_ek 277 (i + 816))).all id = true := by decide +kernel
set_option maxRecDepth 100000 in
theorem am_k277_18 : ((List.range 48).map (fun i => am_ek 277 (i + 864))).all id = true := by decide +kernel
set_option maxRecDepth 100000 in
theorem am_k277_19 : ((List.range 48).map (fun i => am_ek 277 (i + 912))).all id = true := by decide +kernel
set_option maxRecDepth 100000 in
theorem am_k277_20 : ((List.range 48).map (fun i => am_ek 277 (i + 960))).all id = true := by decide +kernel
set_option maxRecDepth 100000 in
theorem am_k277_21 : ((List.range 48).map (fun i => am_ek 277 (i + 1008))).all id = true := by decide +kernel
set_option maxRecDepth 100000 in
theorem am_k277_22 : ((List.range 48).map (fun i => am_ek 277 (i + 1056))).all id = true := by decide +kernel
set_option maxRecDepth 100000 in
theorem am_k277_23 : ((List.range 48).map (fun i => am_ek 277 (i + 1104))).all id = true := by decide +kernel
set_option maxRecDepth 100000 in
theorem am_k277_24 : ((List.range 48).map (fun i => am_ek 277 (i + 1152))).all id = true := by decide +kernel
set_option maxRecDepth 100000 in
theorem am_k277_25 : ((List.range 48).map (fun i => am_ek 277 (i + 1200))).all id = true := by decide +kernel
set_option maxRecDepth 100000 in
theorem am_k277_26 : ((List.range 48).map (fun i => am_ek 277 (i + 1248))).all id = true := by decide +kernel
set_option maxRecDepth 100000 in
theorem am_k277_27 : ((List.range 48).map (fun i => am_ek 277 (i + 1296))).all id = true := by decide +kernel
set_option maxRecDepth 100000 in
theorem am_k277_28 : ((List.range 48).map (fun i => am_ek 277 (i + 1344))).all id = true := by decide +kernel
set_option maxRecDepth 100000 in
theorem am_k277_29 : ((List.range 48).map (fun i => am_ek 277 (i + 1392))).all id = true := by decide +kernel
set_option maxRecDepth 100000 in
theorem am_k277_30 : ((List.range 48).map (fun i => am_ek 277 (i + 1440))).all id = true := by decide +kernel
set_option maxRecDepth 100000 in
theorem am_k277_31 : ((List.range 48).map (fun i => am_ek 277 (i + 1488))).all id = true := by decide +kernel
set_option maxRecDepth 100000 in
theorem am_k277_32 : ((List.range 48).map (fun i => am_ek 277 (i + 1536))).all id = true := by decide +kernel
set_option maxRecDepth 100000 in
theorem am_k277_33 : ((List.range 48).map (fun i => am_ek 277 (i + 1584))).all id = true := by decide +kernel
set_option maxRecDepth 100000 in
theorem am_k277_34 : ((List.range 48).map (fun i => am_ek 277 (i + 1632))).all id = true := by decide +kernel
set_option maxRecDepth 100000 in
theorem am_k277_35 : ((List.range 9).map (fun i => am_ek 277 (i + 1680))).all id = true := by decide +kernel
theorem am_ky277 (pc : Nat) : am_ek 277 pc = true := by
  rcases Nat.lt_or_ge pc 48 with q | q
  · exact am_ek_u am_k277_0 (by omega) (by omega)
  rcases Nat.lt_or_ge pc 96 with q | q
  · exact am_ek_u am_k277_1 (by omega) (by omega)
  rcases Nat.lt_or_ge pc 144 with q | q
  · exact am_ek_u am_k277_2 (by omega) (by omega)
  rcases Nat.lt_or_ge pc 192 with q | q
  · exact am_ek_u am_k277_3 (by omega) (by omega)
  rcases Nat.lt_or_ge pc 240 with q | q
  · exact am_ek_u am_k277_4 (by omega) (by omega)
  rcases Nat.lt_or_ge pc 288 with q | q
  · exact am_ek_u am_k277_5 (by omega) (by omega)
  rcases Nat.lt_or_ge pc 336 with q | q
  · exact am_ek_u am_k277_6 (by omega) (by omega)
  rcases Nat.lt_or_ge pc 384 with q | q
  · exact am_ek_u am_k277_7 (by omega) (by omega)
  rcases Nat.lt_or_ge pc 432 with q | q
  · exact am_ek_u am_k277_8 (by omega) (by omega)
  rcases Nat.lt_or_ge pc 480 with q | q
  · exact am_ek_u am_k277_9 (by omega) (by omega)
  rcases Nat.lt_or_ge pc 528 with q | q
  · exact am_ek_u am_k277_10 (by omega) (by omega)
  rcases Nat.lt_or_ge pc 576 with q | q
  · exact am_ek_u am_k277_11 (by omega) (by omega)
  rcases Nat.lt_or_ge pc 624 with q | q
  · exact am_ek_u am_k277_12 (by omega) (by omega)
  rcases Nat.lt_or_ge pc 672 with q | q
  · exact am_ek_u am_k277_13 (by omega) (by omega)
  rcases Nat.lt_or_ge pc 720 with q | q
  · exact am_ek_u am_k277_14 (by omega) (by omega)
  rcases Nat.lt_or_ge pc 768 with q | q
  · exact am_ek_u am_k277_15 (by omega) (by omega)
  rcases Nat.lt_or_ge pc 816 with q | q
  · exact am_ek_u am_k277_16 (by omega) (by omega)
  rcases Nat.lt_or_ge pc 864 with q | q
  · exact am_ek_u am_k277_17 (by omega) (by omega)
  rcases Nat.lt_or_ge pc 912 with q | q
  · exact am_ek_u am_k277_18 (by omega) (by omega)
  rcases Nat.lt_or_ge pc 960 with q | q
  · exact am_ek_u am_k277_19 (by omega) (by omega)
  rcases Nat.lt_or_ge pc 1008 with q | q
  · exact am_ek_u am_k277_20 (by omega) (by omega)
  rcases Nat.lt_or_ge pc 1056 with q | q
  · exact am_ek_u am_k277_21 (by omega) (by omega)
  rcases Nat.lt_or_ge pc 1104 with q | q
  · exact am_ek_u am_k277_22 (by omega) (by omega)
  rcases Nat.lt_or_ge pc 1152 with q | q
  · exact am_ek_u am_k277_23 (by omega) (by omega)
  rcases Nat.lt_or_ge pc 1200 with q | q
  · exact am_ek_u am_k277_24 (by omega) (by omega)
  rcases Nat.lt_or_ge pc 1248 with q | q
  · exact am_ek_u am_k277_25 (by omega) (by omega)
  rcases Nat.lt_or_ge pc 1296 with q | q
  · exact am_ek_u am_k277_26 (by omega) (by omega)
  rcases Nat.lt_or_ge pc 1344 with q | q
  · exact am_ek_u am_k277_27 (by omega) (by omega)
  rcases Nat.lt_or_ge pc 1392 with q | q
  · exact am_ek_u am_k277_28 (by omega) (by omega)
  rcases Nat.lt_or_ge pc 1440 with q | q
  · exact am_ek_u am_k277_29 (by omega) (by omega)
  rcases Nat.lt_or_ge pc 1488 with q | q
  · exact am_ek_u am_k277_30 (by omega) (by omega)
  rcases Nat.lt_or_ge pc 1536 with q | q
  · exact am_ek_u am_k277_31 (by omega) (by omega)
  rcases Nat.lt_or_ge pc 1584 with q | q
  · exact am_ek_u am_k277_32 (by omega) (by omega)
  rcases Nat.lt_or_ge pc 1632 with q | q
  · exact am_ek_u am_k277_33 (by omega) (by omega)
  rcases Nat.lt_or_ge pc 1680 with q | q
  · exact am_ek_u am_k277_34 (by omega) (by omega)
  rcases Nat.lt_or_ge pc 1689 with q | q
  · exact am_ek_u am_k277_35 (by omega) (by omega)
  refine am_ek_none ?_
  show (bif Nat.blt pc 1689 then am_cr277 pc else none) = none
  exact am_blt_f q _ _
theorem am_kg0 (j pc : Nat) (h : j < 16) : am_ek (j + 0) pc = true := by
  rcases j with _ | _ | _ | _ | _ | _ | _ | _ | _ | _ | _ | _ | _ | _ | _ | _ | j
  · exact am_ky0 pc
  · exact am_ky1 pc
  · exact am_ky2 pc
  · exact am_ky3 pc
  · exact am_ky4 pc
  · exact am_ky5 pc
  · exact am_ky6 pc
  · exact am_ky7 pc
  · exact am_ky8 pc
  · exact am_ky9 pc
  · exact am_ky10 pc
  · exact am_ky11 pc
  · exact am_ky12 pc
  · exact am_ky13 pc
  · exact am_ky14 pc
  · exact am_ky15 pc
  · exact absurd h (by omega)
theorem am_kg16 (j pc : Nat) (h : j < 16) : am_ek (j + 16) pc = true := by
  rcases j with _ | _ | _ | _ | _ | _ | _ | _ | _ | _ | _ | _ | _ | _ | _ | _ | j
  · exact am_ky16 pc
  · exact am_ky17 pc
  · exact am_ky18 pc
  · exact am_ky19 pc
  · exact am_ky20 pc
  · exact am_ky21 pc
  · exact am_ky22 pc
  · exact am_ky23 pc
  · exact am_ky24 pc
  · exact am_ky25 pc
  · exact am_ky26 pc
  · exact am_ky27 pc
  · exact am_ky28 pc
  · exact am_ky29 pc
  · exact am_ky30 pc
  · exact am_ky31 pc
  · exact absurd h (by omega)
theorem am_kg32 (j pc : Nat) (h : j < 16) : am_ek (j + 32) pc = true := by
  rcases j with _ | _ | _ | _ | _ | _ | _ | _ | _ | _ | _ | _ | _ | _ | _ | _ | j
  · exact am_ky32 pc
  · exact am_ky33 pc
  · exact am_ky34 pc
  · exact am_ky35 pc
  · exact am_ky36 pc
  · exact am_ky37 pc
  · exact am_ky38 pc
  · exact am_ky39 pc
  · exact am_ky40 pc
  · exact am_ky41 pc
  · exact am_ky42 pc
  · exact am_ky43 pc
  · exact am_ky44 pc
  · exact am_ky45 pc
  · exact am_ky46 pc
  · exact am_ky47 pc
  · exact absurd h (by omega)
theorem am_kg48 (j pc : Nat) (h : j < 16) : am_ek (j + 48) pc = true := by
  rcases j with _ | _ | _ | _ | _ | _ | _ | _ | _ | _ | _ | _ | _ | _ | _ | _ | j
  · exact am_ky48 pc
  · exact am_ky49 pc
  · exact am_ky50 pc
  · exact am_ky51 pc
  · exact am_ky52 pc
  · exact am_ky53 pc
  · exact am_ky54 pc
  · exact am_ky55 pc
  · exact am_ky56 pc
  · exact am_ky57 pc
  · exact am_ky58 pc
  · exact am_ky59 pc
  · exact am_ky60 pc
  · exact am_ky61 pc
  · exact am_ky62 pc
  · exact am_ky63 pc
  · exact absurd h (by omega)
theorem am_kg64 (j pc : Nat) (h : j < 16) : am_ek (j + 64) pc = true := by
  rcases j with _ | _ | _ | _ | _ | _ | _ | _ | _ | _ | _ | _ | _ | _ | _ | _ | j
  · exact am_ky64 pc
  · exact am_ky65 pc
  · exact am_ky66 pc
  · exact am_ky67 pc
  · exact am_ky68 pc
  · exact am_ky69 pc
  · exact am_ky70 pc
  · exact am_ky71 pc
  · exact am_ky72 pc
  · exact am_ky73 pc
  · exact am_ky74 pc
  · exact am_ky75 pc
  · exact am_ky76 pc
  · exact am_ky77 pc
  · exact am_ky78 pc
  · exact am_ky79 pc
  · exact absurd h (by omega)
theorem am_kg80 (j pc : Nat) (h : j < 16) : am_ek (j + 80) pc = true := by
  rcases j with _ | _ | _ | _ | _ | _ | _ | _ | _ | _ | _ | _ | _ | _ | _ | _ | j
  · exact am_ky80 pc
  · exact am_ky81 pc
  · exact am_ky82 pc
  · exact am_ky83 pc
  · exact am_ky84 pc
  · exact am_ky85 pc
  · exact am_ky86 pc
  · exact am_ky87 pc
  · exact am_ky88 pc
  · exact am_ky89 pc
  · exact am_ky90 pc
  · exact am_ky91 pc
  · exact am_ky92 pc
  · exact am_ky93 pc
  · exact am_ky94 pc
  · exact am_ky95 pc
  · exact absurd h (by omega)
theorem am_kg96 (j pc : Nat) (h : j < 16) : am_ek (j + 96) pc = true := by
  rcases j with _ | _ | _ | _ | _ | _ | _ | _ | _ | _ | _ | _ | _ | _ | _ | _ | j
  · exact am_ky96 pc
  · exact am_ky97 pc
  · exact am_ky98 pc
  · exact am_ky99 pc
  · exact am_ky100 pc
  · exact am_ky101 pc
  · exact am_ky102 pc
  · exact am_ky103 pc
  · exact am_ky104 pc
  · exact am_ky105 pc
  · exact am_ky106 pc
  · exact am_ky107 pc
  · exact am_ky108 pc
  · exact am_ky109 pc
  · exact am_ky110 pc
  · exact am_ky111 pc
  · exact absurd h (by omega)
theorem am_kg112 (j pc : Nat) (h : j < 16) : am_ek (j + 112) pc = true := by
  rcases j with _ | _ | _ | _ | _ | _ | _ | _ | _ | _ | _ | _ | _ | _ | _ | _ | j
  · exact am_ky112 pc
  · exact am_ky113 pc
  · exact am_ky114 pc
  · exact am_ky115 pc
  · exact am_ky116 pc
  · exact am_ky117 pc
  · exact am_ky118 pc
  · exact am_ky119 pc
  · exact am_ky120 pc
  · exact am_ky121 pc
  · exact am_ky122 pc
  · exact am_ky123 pc
  · exact am_ky124 pc
  · exact am_ky125 pc
  · exact am_ky126 pc
  · exact am_ky127 pc
  · exact absurd h (by omega)
theorem am_kg128 (j pc : Nat) (h : j < 16) : am_ek (j + 128) pc = true := by
  rcases j with _ | _ | _ | _ | _ | _ | _ | _ | _ | _ | _ | _ | _ | _ | _ | _ | j
  · exact am_ky128 pc
  · exact am_ky129 pc
  · exact am_ky130 pc
  · exact am_ky131 pc
  · exact am_ky132 pc
  · exact am_ky133 pc
  · exact am_ky134 pc
  · exact am_ky135 pc
  · exact am_ky136 pc
  · exact am_ky137 pc
  · exact am_ky138 pc
  · exact am_ky139 pc
  · exact am_ky140 pc
  · exact am_ky141 pc
  · exact am_ky142 pc
  · exact am_ky143 pc
  · exact absurd h (by omega)
theorem am_kg144 (j pc : Nat) (h : j < 16) : am_ek (j + 144) pc = true := by
  rcases j with _ | _ | _ | _ | _ | _ | _ | _ | _ | _ | _ | _ | _ | _ | _ | _ | j
  · exact am_ky144 pc
  · exact am_ky145 pc
  · exact am_ky146 pc
  · exact am_ky147 pc
  · exact am_ky148 pc
  · exact am_ky149 pc
  · exact am_ky150 pc
  · exact am_ky151 pc
  · exact am_ky152 pc
  · exact am_ky153 pc
  · exact am_ky154 pc
  · exact am_ky155 pc
  · exact am_ky156 pc
  · exact am_ky157 pc
  · exact am_ky158 pc
  · exact am_ky159 pc
  · exact absurd h (by omega)
theorem am_kg160 (j pc : Nat) (h : j < 16) : am_ek (j + 160) pc = true := by
  rcases j with _ | _ | _ | _ | _ | _ | _ | _ | _ | _ | _ | _ | _ | _ | _ | _ | j
  · exact am_ky160 pc
  · exact am_ky161 pc
  · exact am_ky162 pc
  · exact am_ky163 pc
  · exact am_ky164 pc
  · exact am_ky165 pc
  · exact am_ky166 pc
  · exact am_ky167 pc
  · exact am_ky168 pc
  · exact am_ky169 pc
  · exact am_ky170 pc
  · exact am_ky171 pc
  · exact am_ky172 pc
  · exact am_ky173 pc
  · exact am_ky174 pc
  · exact am_ky175 pc
  · exact absurd h (by omega)
theorem am_kg176 (j pc : Nat) (h : j < 16) : am_ek (j + 176) pc = true := by
  rcases j with _ | _ | _ | _ | _ | _ | _ | _ | _ | _ | _ | _ | _ | _ | _ | _ | j
  · exact am_ky176 pc
  · exact am_ky177 pc
  · exact am_ky178 pc
  · exact am_ky179 pc
  · exact am_ky180 pc
  · exact am_ky181 pc
  · exact am_ky182 pc
  · exact am_ky183 pc
  · exact am_ky184 pc
  · exact am_ky185 pc
  · exact am_ky186 pc
  · exact am_ky187 pc
  · exact am_ky188 pc
  · exact am_ky189 pc
  · exact am_ky190 pc
  · exact am_ky191 pc
  · exact absurd h (by omega)
theorem am_kg192 (j pc : Nat) (h : j < 16) : am_ek (j + 192) pc = true := by
  rcases j with _ | _ | _ | _ | _ | _ | _ | _ | _ | _ | _ | _ | _ | _ | _ | _ | j
  · exact am_ky192 pc
  · exact am_ky193 pc
  · exact am_ky194 pc
  · exact am_ky195 pc
  · exact am_ky196 pc
  · exact am_ky197 pc
  · exact am_ky198 pc
  · exact am_ky199 pc
  · exact am_ky200 pc
  · exact am_ky201 pc
  · exact am_ky202 pc
  · exact am_ky203 pc
  · exact am_ky204 pc
  · exact am_ky205 pc
  · exact am_ky206 pc
  · exact am_ky207 pc
  · exact absurd h (by omega)
theorem am_kg208 (j pc : Nat) (h : j < 16) : am_ek (j + 208) pc = true := by
  rcases j with _ | _ | _ | _ | _ | _ | _ | _ | _ | _ | _ | _ | _ | _ | _ | _ | j
  · exact am_ky208 pc
  · exact am_ky209 pc
  · exact am_ky210 pc
  · exact am_ky211 pc
  · exact am_ky212 pc
  · exact am_ky213 pc
  · exact am_ky214 pc
  · exact am_ky215 pc
  · exact am_ky216 pc
  · exact am_ky217 pc
  · exact am_ky218 pc
  · exact am_ky219 pc
  · exact am_ky220 pc
  · exact am_ky221 pc
  · exact am_ky222 pc
  · exact am_ky223 pc
  · exact absurd h (by omega)
theorem am_kg224 (j pc : Nat) (h : j < 16) : am_ek (j + 224) pc = true := by
  rcases j with _ | _ | _ | _ | _ | _ | _ | _ | _ | _ | _ | _ | _ | _ | _ | _ | j
  · exact am_ky224 pc
  · exact am_ky225 pc
  · exact am_ky226 pc
  · exact am_ky227 pc
  · exact am_ky228 pc
  · exact am_ky229 pc
  · exact am_ky230 pc
  · exact am_ky231 pc
  · exact am_ky232 pc
  · exact am_ky233 pc
  · exact am_ky234 pc
  · exact am_ky235 pc
  · exact am_ky236 pc
  · exact am_ky237 pc
  · exact am_ky238 pc
  · exact am_ky239 pc
  · exact absurd h (by omega)
theorem am_kg240 (j pc : Nat) (h : j < 16) : am_ek (j + 240) pc = true := by
  rcases j with _ | _ | _ | _ | _ | _ | _ | _ | _ | _ | _ | _ | _ | _ | _ | _ | j
  · exact am_ky240 pc
  · exact am_ky241 pc
  · exact am_ky242 pc
  · exact am_ky243 pc
  · exact am_ky244 pc
  · exact am_ky245 pc
  · exact am_ky246 pc
  · exact am_ky247 pc
  · exact am_ky248 pc
  · exact am_ky249 pc
  · exact am_ky250 pc
  · exact am_ky251 pc
  · exact am_ky252 pc
  · exact am_ky253 pc
  · exact am_ky254 pc
  · exact am_ky255 pc
  · exact absurd h (by omega)
theorem am_kg256 (j pc : Nat) (h : j < 16) : am_ek (j + 256) pc = true := by
  rcases j with _ | _ | _ | _ | _ | _ | _ | _ | _ | _ | _ | _ | _ | _ | _ | _ | j
  · exact am_ky256 pc
  · exact am_ky257 pc
  · exact am_ky258 pc
  · exact am_ky259 pc
  · exact am_ky260 pc
  · exact am_ky261 pc
  · exact am_ky262 pc
  · exact am_ky263 pc
  · exact am_ky264 pc
  · exact am_ky265 pc
  · exact am_ky266 pc
  · exact am_ky267 pc
  · exact am_ky268 pc
  · exact am_ky269 pc
  · exact am_ky270 pc
  · exact am_ky271 pc
  · exact absurd h (by omega)
theorem am_kg272 (j pc : Nat) (h : j < 6) : am_ek (j + 272) pc = true := by
  rcases j with _ | _ | _ | _ | _ | _ | j
  · exact am_ky272 pc
  · exact am_ky273 pc
  · exact am_ky274 pc
  · exact am_ky275 pc
  · exact am_ky276 pc
  · exact am_ky277 pc
  · exact absurd h (by omega)
theorem am_ek_ok (y pc : Nat) : am_ek y pc = true := by
  rcases Nat.lt_or_ge y 278 with h | h
  · rcases Nat.lt_or_ge y 16 with q | q
    · have := am_kg0 (y - 0) pc (by omega)
      rwa [Nat.sub_add_cancel (by omega)] at this
    rcases Nat.lt_or_ge y 32 with q | q
    · have := am_kg16 (y - 16) pc (by omega)
      rwa [Nat.sub_add_cancel (by omega)] at this
    rcases Nat.lt_or_ge y 48 with q | q
    · have := am_kg32 (y - 32) pc (by omega)
      rwa [Nat.sub_add_cancel (by omega)] at this
    rcases Nat.lt_or_ge y 64 with q | q
    · have := am_kg48 (y - 48) pc (by omega)
      rwa [Nat.sub_add_cancel (by omega)] at this
    rcases Nat.lt_or_ge y 80 with q | q
    · have := am_kg64 (y - 64) pc (by omega)
      rwa [Nat.sub_add_cancel (by omega)] at this
    rcases Nat.lt_or_ge y 96 with q | q
    · have := am_kg80 (y - 80) pc (by omega)
      rwa [Nat.sub_add_cancel (by omega)] at this
    rcases Nat.lt_or_ge y 112 with q | q
    · have := am_kg96 (y - 96) pc (by omega)
      rwa [Nat.sub_add_cancel (by omega)] at this
    rcases Nat.lt_or_ge y 128 with q | q
    · have := am_kg112 (y - 112) pc (by omega)
      rwa [Nat.sub_add_cancel (by omega)] at this
    rcases Nat.lt_or_ge y 144 with q | q
    · have := am_kg128 (y - 128) pc (by omega)
      rwa [Nat.sub_add_cancel (by omega)] at this
    rcases Nat.lt_or_ge y 160 with q | q
    · have := am_kg144 (y - 144) pc (by omega)
      rwa [Nat.sub_add_cancel (by omega)] at this
    rcases Nat.lt_or_ge y 176 with q | q
    · have := am_kg160 (y - 160) pc (by omega)
      rwa [Nat.sub_add_cancel (by omega)] at this
    rcases Nat.lt_or_ge y 192 with q | q
    · have := am_kg176 (y - 176) pc (by omega)
      rwa [Nat.sub_add_cancel (by omega)] at this
    rcases Nat.lt_or_ge y 208 with q | q
    · have := am_kg192 (y - 192) pc (by omega)
      rwa [Nat.sub_add_cancel (by omega)] at this
    rcases Nat.lt_or_ge y 224 with q | q
    · have := am_kg208 (y - 208) pc (by omega)
      rwa [Nat.sub_add_cancel (by omega)] at this
    rcases Nat.lt_or_ge y 240 with q | q
    · have := am_kg224 (y - 224) pc (by omega)
      rwa [Nat.sub_add_cancel (by omega)] at this
    rcases Nat.lt_or_ge y 256 with q | q
    · have := am_kg240 (y - 240) pc (by omega)
      rwa [Nat.sub_add_cancel (by omega)] at this
    rcases Nat.lt_or_ge y 272 with q | q
    · have := am_kg256 (y - 256) pc (by omega)
      rwa [Nat.sub_add_cancel (by omega)] at this
    have := am_kg272 (y - 272) pc (by omega)
    rwa [Nat.sub_add_cancel (by omega)] at this
  · refine am_ek_none ?_
    show (bif Nat.blt y 278 then am_codr y pc else none) = none
    exact am_blt_f h _ _
set_option maxRecDepth 100000 in
theorem am_rt_rk : ∀ y, y < 278 → am_rt y = am_rkT (am_rk y) := by decide +kernel
set_option maxRecDepth 100000 in
theorem am_ini_ok : ∀ y, y < 278 → am_ini y = true → (am_nm y).name = "<init>" := by
  intro y h
  have key : (List.range 278).map (fun y => (am_nm y).name) = (List.range 278).map (fun y => bif am_ini y then "<init>" else (am_nm y).name) := rfl
  have h1 := congrArg (fun l => l[y]?) key
  simp only [List.getElem?_map, List.getElem?_range h, Option.map_some, Option.some.injEq] at h1
  intro hi
  rw [hi] at h1
  exact h1
