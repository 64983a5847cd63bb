set_option maxRecDepth 100000 in
theorem am_k210_0 : ((List.range 48).map (fun i => am_ek 210 (i + 0))).all id = true := by decide +kernel
set_option maxRecDepth 100000 in
theorem am_k210_1 : ((List.range 48).map (fun i => am_ek 210 (i + 48))).all id = true := by decide +kernel
set_option maxRecDepth 100000 in
theorem am_k210_2 : ((List.range 9).map (fun i => am_ek 210 (i + 96))).all id = true := by decide +kernel
theorem am_ky210 (pc : Nat) : am_ek 210 pc = true := by
  rcases Nat.lt_or_ge pc 48 with q | q
  · exact am_ek_u am_k210_0 (by omega) (by omega)
  rcases Nat.lt_or_ge pc 96 with q | q
  · exact am_ek_u am_k210_1 (by omega) (by omega)
  rcases Nat.lt_or_ge pc 105 with q | q
  · exact am_ek_u am_k210_2 (by omega) (by omega)
  refine am_ek_none ?_
  show (bif Nat.blt pc 105 then am_cr210 pc else none) = none
  exact am_blt_f q _ _
set_option maxRecDepth 100000 in
theorem am_k211_0 : ((List.range 48).map (fun i => am_ek 211 (i + 0))).all id = true := by decide +kernel
set_option maxRecDepth 100000 in
theorem am_k211_1 : ((List.range 48).map (fun i => am_ek 211 (i + 48))).all id = true := by decide +kernel
set_option maxRecDepth 100000 in
theorem am_k211_2 : ((List.range 3).map (fun i => am_ek 211 (i + 96))).all id = true := by decide +kernel
theorem am_ky211 (pc : Nat) : am_ek 211 pc = true := by
  rcases Nat.lt_or_ge pc 48 with q | q
  · exact am_ek_u am_k211_0 (by omega) (by omega)
  rcases Nat.lt_or_ge pc 96 with q | q
  · exact am_ek_u am_k211_1 (by omega) (by omega)
  rcases Nat.lt_or_ge pc 99 with q | q
  · exact am_ek_u am_k211_2 (by omega) (by omega)
  refine am_ek_none ?_
  show (bif Nat.blt pc 99 then am_cr211 pc else none) = none
  exact am_blt_f q _ _
set_option maxRecDepth 100000 in
theorem am_k212_0 : ((List.range 34).map (fun i => am_ek 212 (i + 0))).all id = true := by decide +kernel
theorem am_ky212 (pc : Nat) : am_ek 212 pc = true := by
  rcases Nat.lt_or_ge pc 34 with q | q
  · exact am_ek_u am_k212_0 (by omega) (by omega)
  refine am_ek_none ?_
  show (bif Nat.blt pc 34 then am_cr212 pc else none) = none
  exact am_blt_f q _ _
set_option maxRecDepth 100000 in
theorem am_k213_0 : ((List.range 21).map (fun i => am_ek 213 (i + 0))).all id = true := by decide +kernel
theorem am_ky213 (pc : Nat) : am_ek 213 pc = true := by
  rcases Nat.lt_or_ge pc 21 with q | q
  · exact am_ek_u am_k213_0 (by omega) (by omega)
  refine am_ek_none ?_
  show (bif Nat.blt pc 21 then am_cr213 pc else none) = none
  exact am_blt_f q _ _
set_option maxRecDepth 100000 in
theorem am_k214_0 : ((List.range 48).map (fun i => am_ek 214 (i + 0))).all id = true := by decide +kernel
set_option maxRecDepth 100000 in
theorem am_k214_1 : ((List.range 4).map (fun i => am_ek 214 (i + 48))).all id = true := by decide +kernel
theorem am_ky214 (pc : Nat) : am_ek 214 pc = true := by
  rcases Nat.lt_or_ge pc 48 with q | q
  · exact am_ek_u am_k214_0 (by omega) (by omega)
  rcases Nat.lt_or_ge pc 52 with q | q
  · exact am_ek_u am_k214_1 (by omega) (by omega)
  refine am_ek_none ?_
  show (bif Nat.blt pc 52 then am_cr214 pc else none) = none
  exact am_blt_f q _ _
set_option maxRecDepth 100000 in
theorem am_k215_0 : ((List.range 48).map (fun i => am_ek 215 (i + 0))).all id = true := by decide +kernel
set_option maxRecDepth 100000 in
theorem am_k215_1 : ((List.range 48).map (fun i => am_ek 215 (i + 48))).all id = true := by decide +kernel
set_option maxRecDepth 100000 in
theorem am_k215_2 : ((List.range 10).map (fun i => am_ek 215 (i + 96))).all id = true := by decide +kernel
theorem am_ky215 (pc : Nat) : am_ek 215 pc = true := by
  rcases Nat.lt_or_ge pc 48 with q | q
  · exact am_ek_u am_k215_0 (by omega) (by omega)
  rcases Nat.lt_or_ge pc 96 with q | q
  · exact am_ek_u am_k215_1 (by omega) (by omega)
  rcases Nat.lt_or_ge pc 106 with q | q
  · exact am_ek_u am_k215_2 (by omega) (by omega)
  refine am_ek_none ?_
  show (bif Nat.blt pc 106 then am_cr215 pc else none) = none
  exact am_blt_f q _ _
set_option maxRecDepth 100000 in
theorem am_k216_0 : ((List.range 48).map (fun i => am_ek 216 (i + 0))).all id = true := by decide +kernel
set_option maxRecDepth 100000 in
theorem am_k216_1 : ((List.range 8).map (fun i => am_ek 216 (i + 48))).all id = true := by decide +kernel
theorem am_ky216 (pc : Nat) : am_ek 216 pc = true := by
  rcases Nat.lt_or_ge pc 48 with q | q
  · exact am_ek_u am_k216_0 (by omega) (by omega)
  rcases Nat.lt_or_ge pc 56 with q | q
  · exact am_ek_u am_k216_1 (by omega) (by omega)
  refine am_ek_none ?_
  show (bif Nat.blt pc 56 then am_cr216 pc else none) = none
  exact am_blt_f q _ _
set_option maxRecDepth 100000 in
theorem am_k217_0 : ((List.range 48).map (fun i => am_ek 217 (i + 0))).all id = true := by decide +kernel
set_option maxRecDepth 100000 in
theorem am_k217_1 : ((List.range 48).map (fun i => am_ek 217 (i + 48))).all id = true := by decide +kernel
set_option maxRecDepth 100000 in
theorem am_k217_2 : ((List.range 48).map (fun i => am_ek 217 (i + 96))).all id = true := by decide +kernel
set_option maxRecDepth 100000 in
theorem am_k217_3 : ((List.range 31).map (fun i => am_ek 217 (i + 144))).all id = true := by decide +kernel
theorem am_ky217 (pc : Nat) : am_ek 217 pc = true := by
  rcases Nat.lt_or_ge pc 48 with q | q
  · exact am_ek_u am_k217_0 (by omega) (by omega)
  rcases Nat.lt_or_ge pc 96 with q | q
  · exact am_ek_u am_k217_1 (by omega) (by omega)
  rcases Nat.lt_or_ge pc 144 with q | q
  · exact am_ek_u am_k217_2 (by omega) (by omega)
  rcases Nat.lt_or_ge pc 175 with q | q
  · exact am_ek_u am_k217_3 (by omega) (by omega)
  refine am_ek_none ?_
  show (bif Nat.blt pc 175 then am_cr217 pc else none) = none
  exact am_blt_f q _ _
set_option maxRecDepth 100000 in
theorem am_k218_0 : ((List.range 48).map (fun i => am_ek 218 (i + 0))).all id = true := by decide +kernel
set_option maxRecDepth 100000 in
theorem am_k218_1 : ((List.range 1).map (fun i => am_ek 218 (i + 48))).all id = true := by decide +kernel
theorem am_ky218 (pc : Nat) : am_ek 218 pc = true := by
  rcases Nat.lt_or_ge pc 48 with q | q
  · exact am_ek_u am_k218_0 (by omega) (by omega)
  rcases Nat.lt_or_ge pc 49 with q | q
  · exact am_ek_u am_k218_1 (by omega) (by omega)
  refine am_ek_none ?_
  show (bif Nat.blt pc 49 then am_cr218 pc else none) = none
  exact am_blt_f q _ _
set_option maxRecDepth 100000 in
theorem am_k219_0 : ((List.range 48).map (fun i => am_ek 219 (i + 0))).all id = true := by decide +kernel
set_option maxRecDepth 100000 in
theorem am_k219_1 : ((List.range 1).map (fun i => am_ek 219 (i + 48))).all id = true := by decide +kernel
theorem am_ky219 (pc : Nat) : am_ek 219 pc = true := by
  rcases Nat.lt_or_ge pc 48 with q | q
  · exact am_ek_u am_k219_0 (by omega) (by omega)
  rcases Nat.lt_or_ge pc 49 with q | q
  · exact am_ek_u am_k219_1 (by omega) (by omega)
  refine am_ek_none ?_
  show (bif Nat.blt pc 49 then am_cr219 pc else none) = none
  exact am_blt_f q _ _
set_option maxRecDepth 100000 in
theorem am_k220_0 : ((List.range 48).map (fun i => am_ek 220 (i + 0))).all id = true := by decide +kernel
set_option maxRecDepth 100000 in
theorem am_k220_1 : ((List.range 38).map (fun i => am_ek 220 (i + 48))).all id = true := by decide +kernel
theorem am_ky220 (pc : Nat) : am_ek 220 pc = true := by
  rcases Nat.lt_or_ge pc 48 with q | q
  · exact am_ek_u am_k220_0 (by omega) (by omega)
  rcases Nat.lt_or_ge pc 86 with q | q
  · exact am_ek_u am_k220_1 (by omega) (by omega)
  refine am_ek_none ?_
  show (bif Nat.blt pc 86 then am_cr220 pc else none) = none
  exact am_blt_f q _ _
set_option maxRecDepth 100000 in
theorem am_k221_0 : ((List.range 48).map (fun i => am_ek 221 (i + 0))).all id = true := by decide +kernel
set_option maxRecDepth 100000 in
theorem am_k221_1 : ((List.range 48).map (fun i => am_ek 221 (i + 48))).all id = true := by decide +kernel
set_option maxRecDepth 100000 in
theorem am_k221_2 : ((List.range 34).map (fun i => am_ek 221 (i + 96))).all id = true := by decide +kernel
theorem am_ky221 (pc : Nat) : am_ek 221 pc = true := by
  rcases Nat.lt_or_ge pc 48 with q | q
  · exact am_ek_u am_k221_0 (by omega) (by omega)
  rcases Nat.lt_or_ge pc 96 with q | q
  · exact am_ek_u am_k221_1 (by omega) (by omega)
  rcases Nat.lt_or_ge pc 130 with q | q
  · exact am_ek_u am_k221_2 (by omega) (by omega)
  refine am_ek_none ?_
  show (bif Nat.blt pc 130 then am_cr221 pc else none) = none
  exact am_blt_f q _ _
set_option maxRecDepth 100000 in
theorem am_k222_0 : ((List.range 48).map (fun i => am_ek 222 (i + 0))).all id = true := by decide +kernel
set_option maxRecDepth 100000 in
theorem am_k222_1 : ((List.range 48).map (fun i => am_ek 222 (i + 48))).all id = true := by decide +kernel
set_option maxRecDepth 100000 in
theorem am_k222_2 : ((List.range 11).map (fun i => am_ek 222 (i + 96))).all id = true := by decide +kernel
theorem am_ky222 (pc : Nat) : am_ek 222 pc = true := by
  rcases Nat.lt_or_ge pc 48 with q | q
  · exact am_ek_u am_k222_0 (by omega) (by omega)
  rcases Nat.lt_or_ge pc 96 with q | q
  · exact am_ek_u am_k222_1 (by omega) (by omega)
  rcases Nat.lt_or_ge pc 107 with q | q
  · exact am_ek_u am_k222_2 (by omega) (by omega)
  refine am_ek_none ?_
  show (bif Nat.blt pc 107 then am_cr222 pc else none) = none
  exact am_blt_f q _ _
set_option maxRecDepth 100000 in
theorem am_k223_0 : ((List.range 48).map (fun i => am_ek 223 (i + 0))).all id = true := by decide +kernel
set_option maxRecDepth 100000 in
theorem am_k223_1 : ((List.range 44).map (fun i => am_ek 223 (i + 48))).all id = true := by decide +kernel
theorem am_ky223 (pc : Nat) : am_ek 223 pc = true := by
  rcases Nat.lt_or_ge pc 48 with q | q
  · exact am_ek_u am_k223_0 (by omega) (by omega)
  rcases Nat.lt_or_ge pc 92 with q | q
  · exact am_ek_u am_k223_1 (by omega) (by omega)
  refine am_ek_none ?_
  show (bif Nat.blt pc 92 then am_cr223 pc else none) = none
  exact am_blt_f q _ _
set_option maxRecDepth 100000 in
theorem am_k224_0 : ((List.range 48).map (fun i => am_ek 224 (i + 0))).all id = true := by decide +kernel
set_option maxRecDepth 100000 in
theorem am_k224_1 : ((List.range 48).map (fun i => am_ek 224 (i + 48))).all id = true := by decide +kernel
set_option maxRecDepth 100000 in
theorem am_k224_2 : ((List.range 48).map (fun i => am_ek 224 (i + 96))).all id = true := by decide +kernel
set_option maxRecDepth 100000 in
theorem am_k224_3 : ((List.range 6).map (fun i => am_ek 224 (i + 144))).all id = true := by decide +kernel
theorem am_ky224 (pc : Nat) : am_ek 224 pc = true := by
  rcases Nat.lt_or_ge pc 48 with q | q
  · exact am_ek_u am_k224_0 (by omega) (by omega)
  rcases Nat.lt_or_ge pc 96 with q | q
  · exact am_ek_u am_k224_1 (by omega) (by omega)
  rcases Nat.lt_or_ge pc 144 with q | q
  · exact am_ek_u am_k224_2 (by omega) (by omega)
  rcases Nat.lt_or_ge pc 150 with q | q
  · exact am_ek_u am_k224_3 (by omega) (by omega)
  refine am_ek_none ?_
  show (bif Nat.blt pc 150 then am_cr224 pc else none) = none
  exact am_blt_f q _ _
set_option maxRecDepth 100000 in
theorem am_k225_0 : ((List.range 48).map (fun i => am_ek 225 (i + 0))).all id = true := by decide +kernel
set_option maxRecDepth 100000 in
theorem am_k225_1 : ((List.range 48).map (fun i => am_ek 225 (i + 48))).all id = true := by decide +kernel
set_option maxRecDepth 100000 in
theorem am_k225_2 : ((List.range 40).map (fun i => am_ek 225 (i + 96))).all id = true := by decide +kernel
theorem am_ky225 (pc : Nat) : am_ek 225 pc = true := by
  rcases Nat.lt_or_ge pc 48 with q | q
  · exact am_ek_u am_k225_0 (by omega) (by omega)
  rcases Nat.lt_or_ge pc 96 with q | q
  · exact am_ek_u am_k225_1 (by omega) (by omega)
  rcases Nat.lt_or_ge pc 136 with q | q
  · exact am_ek_u am_k225_2 (by omega) (by omega)
  refine am_ek_none ?_
  show (bif Nat.blt pc 136 then am_cr225 pc else none) = none
  exact am_blt_f q _ _
set_option maxRecDepth 100000 in
theorem am_k226_0 : ((List.range 48).map (fun i => am_ek 226 (i + 0))).all id = true := by decide +kernel
set_option maxRecDepth 100000 in
theorem am_k226_1 : ((List.range 3).map (fun i => am_ek 226 (i + 48))).all id = true := by decide +kernel
theorem am_ky226 (pc : Nat) : am_ek 226 pc = true := by
  rcases Nat.lt_or_ge pc 48 with q | q
  · exact am_ek_u am_k226_0 (by omega) (by omega)
  rcases Nat.lt_or_ge pc 51 with q | q
  · exact am_ek_u am_k226_1 (by omega) (by omega)
  refine am_ek_none ?_
  show (bif Nat.blt pc 51 then am_cr226 pc else none) = none
  exact am_blt_f q _ _
set_option maxRecDepth 100000 in
theorem am_k227_0 : ((List.range 24).map (fun i => am_ek 227 (i + 0))).all id = true := by decide +kernel
theorem am_ky227 (pc : Nat) : am_ek 227 pc = true := by
  rcases Nat.lt_or_ge pc 24 with q | q
  · exact am_ek_u am_k227_0 (by omega) (by omega)
  refine am_ek_none ?_
  show (bif Nat.blt pc 24 then am_cr227 pc else none) = none
  exact am_blt_f q _ _
set_option maxRecDepth 100000 in
theorem am_k228_0 : ((List.range 48).map (fun i => am_ek 228 (i + 0))).all id = true := by decide +kernel
set_option maxRecDepth 100000 in
theorem am_k228_1 : ((List.range 9).map (fun i => am_ek 228 (i + 48))).all id = true := by decide +kernel
theorem am_ky228 (pc : Nat) : am_ek 228 pc = true := by
  rcases Nat.lt_or_ge pc 48 with q | q
  · exact am_ek_u am_k228_0 (by omega) (by omega)
  rcases Nat.lt_or_ge pc 57 with q | q
  · exact am_ek_u am_k228_1 (by omega) (by omega)
  refine am_ek_none ?_
  show (bif Nat.blt pc 57 then am_cr228 pc else none) = none
  exact am_blt_f q _ _
set_option maxRecDepth 100000 in
theorem am_k229_0 : ((List.range 37).map (fun i => am_ek 229 (i + 0))).all id = true := by decide +kernel
theorem am_ky229 (pc : Nat) : am_ek 229 pc = true := by
  rcases Nat.lt_or_ge pc 37 with q | q
  · exact am_ek_u am_k229_0 (by omega) (by omega)
  refine am_ek_none ?_
  show (bif Nat.blt pc 37 then am_cr229 pc else none) = none
  exact am_blt_f q _ _
set_option maxRecDepth 100000 in
theorem am_k230_0 : ((List.range 48).map (fun i => am_ek 230 (i + 0))).all id = true := by decide +kernel
set_option maxRecDepth 100000 in
theorem am_k230_1 : ((List.range 48).map (fun i => am_ek 230 (i + 48))).all id = true := by decide +kernel
set_option maxRecDepth 100000 in
theorem am_k230_2 : ((List.range 13).map (fun i => am_ek 230 (i + 96))).all id = true := by decide +kernel
theorem am_ky230 (pc : Nat) : am_ek 230 pc = true := by
  rcases Nat.lt_or_ge pc 48 with q | q
  · exact am_ek_u am_k230_0 (by omega) (by omega)
  rcases Nat.lt_or_ge pc 96 with q | q
  · exact am_ek_u am_k230_1 (by omega) (by omega)
  rcases Nat.lt_or_ge pc 109 with q | q
  · exact am_ek_u am_k230_2 (by omega) (by omega)
  refine am_ek_none ?_
  show (bif Nat.blt pc 109 then am_cr230 pc else none) = none
  exact am_blt_f q _ _
set_option maxRecDepth 100000 in
theorem am_k231_0 : ((List.range 12).map (fun i => am_ek 231 (i + 0))).all id = true := by decide +kernel
theorem am_ky231 (pc : Nat) : am_ek 231 pc = true := by
  rcases Nat.lt_or_ge pc 12 with q | q
  · exact am_ek_u am_k231_0 (by omega) (by omega)
  refine am_ek_none ?_
  show (bif Nat.blt pc 12 then am_cr231 pc else none) = none
  exact am_blt_f q _ _
set_option maxRecDepth 100000 in
theorem am_k232_0 : ((List.range 48).map (fun i => am_ek 232 (i + 0))).all id = true := by decide +kernel
set_option maxRecDepth 100000 in
theorem am_k232_1 : ((List.range 32).map (fun i => am_ek 232 (i + 48))).all id = true := by decide +kernel
theorem am_ky232 (pc : Nat) : am_ek 232 pc = true := by
  rcases Nat.lt_or_ge pc 48 with q | q
  · exact am_ek_u am_k232_0 (by omega) (by omega)
  rcases Nat.lt_or_ge pc 80 with q | q
  · exact am_ek_u am_k232_1 (by omega) (by omega)
  refine am_ek_none ?_
  show (bif Nat.blt pc 80 then am_cr232 pc else none) = none
  exact am_blt_f q _ _
set_option maxRecDepth 100000 in
theorem am_k233_0 : ((List.range 48).map (fun i => am_ek 233 (i + 0))).all id = true := by decide +kernel
set_option maxRecDepth 100000 in
theorem am_k233_1 : ((List.range 48).map (fun i => am_ek 233 (i + 48))).all id = true := by decide +kernel
set_option maxRecDepth 100000 in
theorem am_k233_2 : ((List.range 48).map (fun i => am_ek 233 (i + 96))).all id = true := by decide +kernel
set_option maxRecDepth 100000 in
theorem am_k233_3 : ((List.range 24).map (fun i => am_ek 233 (i + 144))).all id = true := by decide +kernel
theorem am_ky233 (pc : Nat) : am_ek 233 pc = true := by
  rcases Nat.lt_or_ge pc 48 with q | q
  · exact am_ek_u am_k233_0 (by omega) (by omega)
  rcases Nat.lt_or_ge pc 96 with q | q
  · exact am_ek_u am_k233_1 (by omega) (by omega)
  rcases Nat.lt_or_ge pc 144 with q | q
  · exact am_ek_u am_k233_2 (by omega) (by omega)
  rcases Nat.lt_or_ge pc 168 with q | q
  · exact am_ek_u am_k233_3 (by omega) (by omega)
  refine am_ek_none ?_
  show (bif Nat.blt pc 168 then am_cr233 pc else none) = none
  exact am_blt_f q _ _
set_option maxRecDepth 100000 in
theorem am_k234_0 : ((List.range 48).map (fun i => am_ek 234 (i + 0))).all id = true := by decide +kernel
set_option maxRecDepth 100000 in
theorem am_k234_1 : ((List.range 48).map (fun i => am_ek 234 (i + 48))).all id = true := by decide +kernel
set_option maxRecDepth 100000 in
theorem am_k234_2 : ((List.range 27).map (fun i => am_ek 234 (i + 96))).all id = true := by decide +kernel
theorem am_ky234 (pc : Nat) : am_ek 234 pc = true := by
  rcases Nat.lt_or_ge pc 48 with q | q
  · exact am_ek_u am_k234_0 (by omega) (by omega)
  rcases Nat.lt_or_ge pc 96 with q | q
  · exact am_ek_u am_k234_1 (by omega) (by omega)
  rcases Nat.lt_or_ge pc 123 with q | q
  · exact am_ek_u am_k234_2 (by omega) (by omega)
  refine am_ek_none ?_
  show (bif Nat.blt pc 123 then am_cr234 pc else none) = none
  exact am_blt_f q _ _
set_option maxRecDepth 100000 in
theorem am_k235_0 : ((List.range 48).map (fun i => am_ek 235 (i + 0))).all id = true := by decide +kernel
set_option maxRecDepth 100000 in
theorem am_k235_1 : ((List.range 48).map (fun i => am_ek 235 (i + 48))).all id = true := by decide +kernel
set_option maxRecDepth 100000 in
theorem am_k235_2 : ((List.range 48).map (fun i => am_ek 235 (i + 96))).all id = true := by decide +kernel
set_option maxRecDepth 100000 in
theorem am_k235_3 : ((List.range 48).map (fun i => am_ek 235 (i + 144))).all id = true := by decide +kernel
set_option maxRecDepth 100000 in
theorem am_k235_4 : ((List.range 48).map (fun i => am_ek 235 (i + 192))).all id = true := by decide +kernel
set_option maxRecDepth 100000 in
theorem am_k235_5 : ((List.range 35).map (fun i => am_ek 235 (i + 240))).all id = true := by decide +kernel
theorem am_ky235 (pc : Nat) : am_ek 235 pc = true := by
  rcases Nat.lt_or_ge pc 48 with q | q
  · exact am_ek_u am_k235_0 (by omega) (by omega)
  rcases Nat.lt_or_ge pc 96 with q | q
  · exact am_ek_u am_k235_1 (by omega) (by omega)
  rcases Nat.lt_or_ge pc 144 with q | q
  · exact am_ek_u am_k235_2 (by omega) (by omega)
  rcases Nat.lt_or_ge pc 192 with q | q
  · exact am_ek_u am_k235_3 (by omega) (by omega)
  rcases Nat.lt_or_ge pc 240 with q | q
  · exact am_ek_u am_k235_4 (by omega) (by omega)
  rcases Nat.lt_or_ge pc 275 with q | q
  · exact am_ek_u am_k235_5 (by omega) (by omega)
  refine am_ek_none ?_
  show (bif Nat.blt pc 275 then am_cr235 pc else none) = none
  exact am_blt_f q _ _
set_option maxRecDepth 100000 in
theorem am_k236_0 : ((List.range 48).map (fun i => am_ek 236 (i + 0))).all id = true := by decide +kernel
set_option maxRecDepth 100000 in
theorem am_k236_1 : ((List.range 48).map (fun i => am_ek 236 (i + 48))).all id = true := by decide +kernel
set_option maxRecDepth 100000 in
theorem am_k236_2 : ((List.range 48).map (fun i => am_ek 236 (i + 96))).all id = true := by decide +kernel
set_option maxRecDepth 100000 in
theorem am_k236_3 : ((List.range 48).map (fun i => am_ek 236 (i + 144))).all id = true := by decide +kernel
set_option maxRecDepth 100000 in
theorem am_k236_4 : ((List.range 48).map (fun i => am_ek 236 (i + 192))).all id = true := by decide +kernel
set_option maxRecDepth 100000 in
theorem am_k236_5 : ((List.range 5).map (fun i => am_ek 236 (i + 240))).all id = true := by decide +kernel
theorem am_ky236 (pc : Nat) : am_ek 236 pc = true := by
  rcases Nat.lt_or_ge pc 48 with q | q
  · exact am_ek_u am_k236_0 (by omega) (by omega)
  rcases Nat.lt_or_ge pc 96 with q | q
  · exact am_ek_u am_k236_1 (by omega) (by omega)
  rcases Nat.lt_or_ge pc 144 with q | q
  · exact am_ek_u am_k236_2 (by omega) (by omega)
  rcases Nat.lt_or_ge pc 192 with q | q
  · exact am_ek_u am_k236_3 (by omega) (by omega)
  rcases Nat.lt_or_ge pc 240 with q | q
  · exact am_ek_u am_k236_4 (by omega) (by omega)
  rcases Nat.lt_or_ge pc 245 with q | q
  · exact am_ek_u am_k236_5 (by omega) (by omega)
  refine am_ek_none ?_
  show (bif Nat.blt pc 245 then am_cr236 pc else none) = none
  exact am_blt_f q _ _
set_option maxRecDepth 100000 in
theorem am_k237_0 : ((List.range 18).map (fun i => am_ek 237 (i + 0))).all id = true := by decide +kernel
theorem am_ky237 (pc : Nat) : am_ek 237 pc = true := by
  rcases Nat.lt_or_ge pc 18 with q | q
  · exact am_ek_u am_k237_0 (by omega) (by omega)
  refine am_ek_none ?_
  show (bif Nat.blt pc 18 then am_cr237 pc else none) = none
  exact am_blt_f q _ _
set_option maxRecDepth 100000 in
theorem am_k238_0 : ((List.range 37).map (fun i => am_ek 238 (i + 0))).all id = true := by decide +kernel
theorem am_ky238 (pc : Nat) : am_ek 238 pc = true := by
  rcases Nat.lt_or_ge pc 37 with q | q
  · exact am_ek_u am_k238_0 (by omega) (by omega)
  refine am_ek_none ?_
  show (bif Nat.blt pc 37 then am_cr238 pc else none) = none
  exact am_blt_f q _ _
set_option maxRecDepth 100000 in
theorem am_k239_0 : ((List.range 48).map (fun i => am_ek 239 (i + 0))).all id = true := by decide +kernel
set_option maxRecDepth 100000 in
theorem am_k239_1 : ((List.range 48).map (fun i => am_ek 239 (i + 48))).all id = true := by decide +kernel
set_option maxRecDepth 100000 in
theorem am_k239_2 : ((List.range 39).map (fun i => am_ek 239 (i + 96))).all id = true := by decide +kernel
theorem am_ky239 (pc : Nat) : am_ek 239 pc = true := by
  rcases Nat.lt_or_ge pc 48 with q | q
  · exact am_ek_u am_k239_0 (by omega) (by omega)
  rcases Nat.lt_or_ge pc 96 with q | q
  · exact am_ek_u am_k239_1 (by omega) (by omega)
  rcases Nat.lt_or_ge pc 135 with q | q
  · exact am_ek_u am_k239_2 (by omega) (by omega)
  refine am_ek_none ?_
  show (bif Nat.blt pc 135 then am_cr239 pc else none) = none
  exact am_blt_f q _ _
set_option maxRecDepth 100000 in
theorem am_k240_0 : ((List.range 30).map (fun i => am_ek 240 (i + 0))).all id = true := by decide +kernel
theorem am_ky240 (pc : Nat) : am_ek 240 pc = true := by
  rcases Nat.lt_or_ge pc 30 with q | q
  · exact am_ek_u am_k240_0 (by omega) (by omega)
  refine am_ek_none ?_
  show (bif Nat.blt pc 30 then am_cr240 pc else none) = none
  exact am_blt_f q _ _
set_option maxRecDepth 100000 in
theorem am_k241_0 : ((List.range 29).map (fun i => am_ek 241 (i + 0))).all id = true := by decide +kernel
theorem am_ky241 (pc : Nat) : am_ek 241 pc = true := by
  rcases Nat.lt_or_ge pc 29 with q | q
  · exact am_ek_u am_k241_0 (by omega) (by omega)
  refine am_ek_none ?_
  show (bif Nat.blt pc 29 then am_cr241 pc else none) = none
  exact am_blt_f q _ _
set_option maxRecDepth 100000 in
theorem am_k242_0 : ((List.range 28).map (fun i => am_ek 242 (i + 0))).all id = true := by decide +kernel
theorem am_ky242 (pc : Nat) : am_ek 242 pc = true := by
  rcases Nat.lt_or_ge pc 28 with q | q
  · exact am_ek_u am_k242_0 (by omega) (by omega)
  refine am_ek_none ?_
  show (bif Nat.blt pc 28 then am_cr242 pc else none) = none
  exact am_blt_f q _ _
set_option maxRecDepth 100000 in
theorem am_k243_0 : ((List.range 48).map (fun i => am_ek 243 (i + 0))).all id = true := by decide +kernel
set_option maxRecDepth 100000 in
theorem am_k243_1 : ((List.range 1).map (fun i => am_ek 243 (i + 48))).all id = true := by decide +kernel
theorem am_ky243 (pc : Nat) : am_ek 243 pc = true := by
  rcases Nat.lt_or_ge pc 48 with q | q
  · exact am_ek_u am_k243_0 (by omega) (by omega)
  rcases Nat.lt_or_ge pc 49 with q | q
  · exact am_ek_u am_k243_1 (by omega) (by omega)
  refine am_ek_none ?_
  show (bif Nat.blt pc 49 then am_cr243 pc else none) = none
  exact am_blt_f q _ _
set_option maxRecDepth 100000 in
theorem am_k244_0 : ((List.range 48).map (fun i => am_ek 244 (i + 0))).all id = true := by decide +kernel
set_option maxRecDepth 100000 in
theorem am_k244_1 : ((List.range 18).map (fun i => am_ek 244 (i + 48))).all id = true := by decide +kernel
theorem am_ky244 (pc : Nat) : am_ek 244 pc = true := by
  rcases Nat.lt_or_ge pc 48 with q | q
  · exact am_ek_u am_k244_0 (by omega) (by omega)
  rcases Nat.lt_or_ge pc 66 with q | q
  · exact am_ek_u am_k244_1 (by omega) (by omega)
  refine am_ek_none ?_
  show (bif Nat.blt pc 66 then am_cr244 pc else none) = none
  exact am_blt_f q _ _
set_option maxRecDepth 100000 in
theorem am_k245_0 : ((List.range 48).map (fun i => am_ek 245 (i + 0))).all id = true := by decide +kernel
set_option maxRecDepth 100000 in
theorem am_k245_1 : ((List.range 48).map (fun i => am_ek 245 (i + 48))).all id = true := by decide +kernel
set_option maxRecDepth 100000 in
theorem am_k245_2 : ((List.range 48).map (fun i => am_ek 245 (i + 96))).all id = true := by decide +kernel
set_option maxRecDepth 100000 in
theorem am_k245_3 : ((List.range 48).map (fun i => am_ek 245 (i + 144))).all id = true := by decide +kernel
set_option maxRecDepth 100000 in
theorem am_k245_4 : ((List.range 44).map (fun i => am_ek 245 (i + 192))).all id = true := by decide +kernel
theorem am_ky245 (pc : Nat) : am_ek 245 pc = true := by
  rcases Nat.lt_or_ge pc 48 with q | q
  · exact am_ek_u am_k245_0 (by omega) (by omega)
  rcases Nat.lt_or_ge pc 96 with q | q
  · exact am_ek_u am_k245_1 (by omega) (by omega)
  rcases Nat.lt_or_ge pc 144 with q | q
  · exact am_ek_u am_k245_2 (by omega) (by omega)
  rcases Nat.lt_or_ge pc 192 with q | q
  · exact am_ek_u am_k245_3 (by omega) (by omega)
  rcases Nat.lt_or_ge pc 236 with q | q
  · exact am_ek_u am_k245_4 (by omega) (by omega)
  refine am_ek_none ?_
  show (bif Nat.blt pc 236 then am_cr245 pc else none) = none
  exact am_blt_f q _ _
set_option maxRecDepth 100000 in
theorem am_k246_0 : ((List.range 48).map (fun i => am_ek 246 (i + 0))).all id = true := by decide +kernel
set_option maxRecDepth 100000 in
theorem am_k246_1 : ((List.range 27).map (fun i => am_ek 246 (i + 48))).all id = true := by decide +kernel
theorem am_ky246 (pc : Nat) : am_ek 246 pc = true := by
  rcases Nat.lt_or_ge pc 48 with q | q
  · exact am_ek_u am_k246_0 (by omega) (by omega)
  rcases Nat.lt_or_ge pc 75 with q | q
  · exact am_ek_u am_k246_1 (by omega) (by omega)
  refine am_ek_none ?_
  show (bif Nat.blt pc 75 then am_cr246 pc else none) = none
  exact am_blt_f q _ _
set_option maxRecDepth 100000 in
theorem am_k247_0 : ((List.range 41).map (fun i => am_ek 247 (i + 0))).all id = true := by decide +kernel
theorem am_ky247 (pc : Nat) : am_ek 247 pc = true := by
  rcases Nat.lt_or_ge pc 41 with q | q
  · exact am_ek_u am_k247_0 (by omega) (by omega)
  refine am_ek_none ?_
  show (bif Nat.blt pc 41 then am_cr247 pc else none) = none
  exact am_blt_f q _ _
set_option maxRecDepth 100000 in
theorem am_k248_0 : ((List.range 48).map (fun i => am_ek 248 (i + 0))).all id = true := by decide +kernel
set_option maxRecDepth 100000 in
theorem am_k248_1 : ((List.range 48).map (fun i => am_ek 248 (i + 48))).all id = true := by decide +kernel
set_option maxRecDepth 100000 in
theorem am_k248_2 : ((List.range 48).map (fun i => am_ek 248 (i + 96))).all id = true := by decide +kernel
set_option maxRecDepth 100000 in
theorem am_k248_3 : ((List.range 43).map (fun i => am_ek 248 (i + 144))).all id = true := by decide +kernel
theorem am_ky248 (pc : Nat) : am_ek 248 pc = true := by
  rcases Nat.lt_or_ge pc 48 with q | q
  · exact am_ek_u am_k248_0 (by omega) (by omega)
  rcases Nat.lt_or_ge pc 96 with q | q
  · exact am_ek_u am_k248_1 (by omega) (by omega)
  rcases Nat.lt_or_ge pc 144 with q | q
  · exact am_ek_u am_k248_2 (by omega) (by omega)
  rcases Nat.lt_or_ge pc 187 with q | q
  · exact am_ek_u am_k248_3 (by omega) (by omega)
  refine am_ek_none ?_
  show (bif Nat.blt pc 187 then am_cr248 pc else none) = none
  exact am_blt_f q _ _
set_option maxRecDepth 100000 in
theorem am_k249_0 : ((List.range 48).map (fun i => am_ek 249 (i + 0))).all id = true := by decide +kernel
set_option maxRecDepth 100000 in
theorem am_k249_1 : ((List.range 48).map (fun i => am_ek 249 (i + 48))).all id = true := by decide +kernel
set_option maxRecDepth 100000 in
theorem am_k249_2 : ((List.range 30).map (fun i => am_ek 249 (i + 96))).all id = true := by decide +kernel
theorem am_ky249 (pc : Nat) : am_ek 249 pc = true := by
  rcases Nat.lt_or_ge pc 48 with q | q
  · exact am_ek_u am_k249_0 (by omega) (by omega)
  rcases Nat.lt_or_ge pc 96 with q | q
  · exact am_ek_u am_k249_1 (by omega) (by omega)
  rcases Nat.lt_or_ge pc 126 with q | q
  · exact am_ek_u am_k249_2 (by omega) (by omega)
  refine am_ek_none ?_
  show (bif Nat.blt pc 126 then am_cr249 pc else none) = none
  exact am_blt_f q _ _
set_option maxRecDepth 100000 in
theorem am_k250_0 : ((List.range 48).map (fun i => am_ek 250 (i + 0))).all id = true := by decide +kernel
set_option maxRecDepth 100000 in
theorem am_k250_1 : ((List.range 28).map (fun i => am_ek 250 (i + 48))).all id = true := by decide +kernel
theorem am_ky250 (pc : Nat) : am_ek 250 pc = true := by
  rcases Nat.lt_or_ge pc 48 with q | q
  · exact am_ek_u am_k250_0 (by omega) (by omega)
  rcases Nat.lt_or_ge pc 76 with q | q
  · exact am_ek_u am_k250_1 (by omega) (by omega)
  refine am_ek_none ?_
  show (bif Nat.blt pc 76 then am_cr250 pc else none) = none
  exact am_blt_f q _ _
set_option maxRecDepth 100000 in
theorem am_k251_0 : ((List.range 48).map (fun i => am_ek 251 (i + 0))).all id = true := by decide +kernel
set_option maxRecDepth 100000 in
theorem am_k251_1 : ((List.range 48).map (fun i => am_ek 251 (i + 48))).all id = true := by decide +kernel
set_option maxRecDepth 100000 in
theorem am_k251_2 : ((List.range 27).map (fun i => am_ek 251 (i + 96))).all id = true := by decide +kernel
theorem am_ky251 (pc : Nat) : am_ek 251 pc = true := by
  rcases Nat.lt_or_ge pc 48 with q | q
  · exact am_ek_u am_k251_0 (by omega) (by omega)
  rcases Nat.lt_or_ge pc 96 with q | q
  · exact am_ek_u am_k251_1 (by omega) (by omega)
  rcases Nat.lt_or_ge pc 123 with q | q
  · exact am_ek_u am_k251_2 (by omega) (by omega)
  refine am_ek_none ?_
  show (bif Nat.blt pc 123 then am_cr251 pc else none) = none
  exact am_blt_f q _ _
set_option maxRecDepth 100000 in
theorem am_k252_0 : ((List.range 48).map (fun i => am_ek 252 (i + 0))).all id = true := by decide +kernel
set_option maxRecDepth 100000 in
theorem am_k252_1 : ((List.range 3).map (fun i => am_ek 252 (i + 48))).all id = true := by decide +kernel
theorem am_ky252 (pc : Nat) : am_ek 252 pc = true := by
  rcases Nat.lt_or_ge pc 48 with q | q
  · exact am_ek_u am_k252_0 (by omega) (by omega)
  rcases Nat.lt_or_ge pc 51 with q | q
  · exact am_ek_u am_k252_1 (by omega) (by omega)
  refine am_ek_none ?_
  show (bif Nat.blt pc 51 then am_cr252 pc else none) = none
  exact am_blt_f q _ _
set_option maxRecDepth 100000 in
theorem am_k253_0 : ((List.range 48).map (fun i => am_ek 253 (i + 0))).all id = true := by decide +kernel
set_option maxRecDepth 100000 in
theorem am_k253_1 : ((List.range 48).map (fun i => am_ek 253 (i + 48))).all id = true := by decide +kernel
set_option maxRecDepth 100000 in
theorem am_k253_2 : ((List.range 48).map (fun i => am_ek 253 (i + 96))).all id = true := by decide +kernel
set_option maxRecDepth 100000 in
theorem am_k253_3 : ((List.range 48).map (fun i => am_ek 253 (i + 144))).all id = true := by decide +kernel
set_option maxRecDepth 100000 in
theorem am_k253_4 : ((List.range 48).map (fun i => am_ek 253 (i + 192))).all id = true := by decide +kernel
set_option maxRecDepth 100000 in
theorem am_k253_5 : ((List.range 48).map (fun i => am_ek 253 (i + 240))).all id = true := by decide +kernel
set_option maxRecDepth 100000 in
theorem am_k253_6 : ((List.range 8).map (fun i => am_ek 253 (i + 288))).all id = true := by decide +kernel
theorem am_ky253 (pc : Nat) : am_ek 253 pc = true := by
  rcases Nat.lt_or_ge pc 48 with q | q
  · exact am_ek_u am_k253_0 (by omega) (by omega)
  rcases Nat.lt_or_ge pc 96 with q | q
  · exact am_ek_u am_k253_1 (by omega) (by omega)
  rcases Nat.lt_or_ge pc 144 with q | q
  · exact am_ek_u am_k253_2 (by omega) (by omega)
  rcases Nat.lt_or_ge pc 192 with q | q
  · exact am_ek_u am_k253_3 (by omega) (by omega)
  rcases Nat.lt_or_ge pc 240 with q | q
  · exact am_ek_u am_k253_4 (by omega) (by omega)
  rcases Nat.lt_or_ge pc 288 with q | q
  · exact am_ek_u am_k253_5 (by omega) (by omega)
  rcases Nat.lt_or_ge pc 296 with q | q
  · exact am_ek_u am_k253_6 (by omega) (by omega)
  refine am_ek_none ?_
  show (bif Nat.blt pc 296 then am_cr253 pc else none) = none
  exact am_blt_f q _ _
set_option maxRecDepth 100000 in
theorem am_k254_0 : ((List.range 16).map (fun i => am_ek 254 (i + 0))).all id = true := by decide +kernel
theorem am_ky254 (pc : Nat) : am_ek 254 pc = true := by
  rcases Nat.lt_or_ge pc 16 with q | q
  · exact am_ek_u am_k254_0 (by omega) (by omega)
  refine am_ek_none ?_
  show (bif Nat.blt pc 16 then am_cr254 pc else none) = none
  exact am_blt_f q _ _
set_option maxRecDepth 100000 in
theorem am_k255_0 : ((List.range 48).map (fun i => am_ek 255 (i + 0))).all id = true := by decide +kernel
set_option maxRecDepth 100000 in
theorem am_k255_1 : ((List.range 12).map (fun i => am_ek 255 (i + 48))).all id = true := by decide +kernel
theorem am_ky255 (pc : Nat) : am_ek 255 pc = true := by
  rcases Nat.lt_or_ge pc 48 with q | q
  · exact am_ek_u am_k255_0 (by omega) (by omega)
  rcases Nat.lt_or_ge pc 60 with q | q
  · exact am_ek_u am_k255_1 (by omega) (by omega)
  refine am_ek_none ?_
  show (bif Nat.blt pc 60 then am_cr255 pc else none) = none
  exact am_blt_f q _ _
set_option maxRecDepth 100000 in
theorem am_k256_0 : ((List.range 48).map (fun i => am_ek 256 (i + 0))).all id = true := by decide +kernel
set_option maxRecDepth 100000 in
theorem am_k256_1 : ((List.range 30).map (fun i => am_ek 256 (i + 48))).all id = true := by decide +kernel
theorem am_ky256 (pc : Nat) : am_ek 256 pc = true := by
  rcases Nat.lt_or_ge pc 48 with q | q
  · exact am_ek_u am_k256_0 (by omega) (by omega)
  rcases Nat.lt_or_ge pc 78 with q | q
  · exact am_ek_u am_k256_1 (by omega) (by omega)
  refine am_ek_none ?_
  show (bif Nat.blt pc 78 then am_cr256 pc else none) = none
  exact am_blt_f q _ _
set_option maxRecDepth 100000 in
theorem am_k257_0 : ((List.range 29).map (fun i => am_ek 257 (i + 0))).all id = true := by decide +kernel
theorem am_ky257 (pc : Nat) : am_ek 257 pc = true := by
  rcases Nat.lt_or_ge pc 29 with q | q
  · exact am_ek_u am_k257_0 (by omega) (by omega)
  refine am_ek_none ?_
  show (bif Nat.blt pc 29 then am_cr257 pc else none) = none
  exact am_blt_f q _ _
set_option maxRecDepth 100000 in
theorem am_k258_0 : ((List.range 9).map (fun i => am_ek 258 (i + 0))).all id = true := by decide +kernel
theorem am_ky258 (pc : Nat) : am_ek 258 pc = true := by
  rcases Nat.lt_or_ge pc 9 with q | q
  · exact am_ek_u am_k258_0 (by omega) (by omega)
  refine am_ek_none ?_
  show (bif Nat.blt pc 9 then am_cr258 pc else none) = none
  exact am_blt_f q _ _
