set_option maxRecDepth 100000 in
theorem am_k154_0 : ((List.range 48).map (fun i => am_ek 154 (i + 0))).all id = true := by decide +kernel
set_option maxRecDepth 100000 in
theorem am_k154_1 : ((List.range 11).map (fun i => am_ek 154 (i + 48))).all id = true := by decide +kernel
theorem am_ky154 (pc : Nat) : am_ek 154 pc = true := by
  rcases Nat.lt_or_ge pc 48 with q | q
  · exact am_ek_u am_k154_0 (by omega) (by omega)
  rcases Nat.lt_or_ge pc 59 with q | q
  · exact am_ek_u am_k154_1 (by omega) (by omega)
  refine am_ek_none ?_
  show (bif Nat.blt pc 59 then am_cr154 pc else none) = none
  exact am_blt_f q _ _
set_option maxRecDepth 100000 in
theorem am_k155_0 : ((List.range 48).map (fun i => am_ek 155 (i + 0))).all id = true := by decide +kernel
set_option maxRecDepth 100000 in
theorem am_k155_1 : ((List.range 48).map (fun i => am_ek 155 (i + 48))).all id = true := by decide +kernel
theorem am_ky155 (pc : Nat) : am_ek 155 pc = true := by
  rcases Nat.lt_or_ge pc 48 with q | q
  · exact am_ek_u am_k155_0 (by omega) (by omega)
  rcases Nat.lt_or_ge pc 96 with q | q
  · exact am_ek_u am_k155_1 (by omega) (by omega)
  refine am_ek_none ?_
  show (bif Nat.blt pc 96 then am_cr155 pc else none) = none
  exact am_blt_f q _ _
set_option maxRecDepth 100000 in
theorem am_k156_0 : ((List.range 48).map (fun i => am_ek 156 (i + 0))).all id = true := by decide +kernel
set_option maxRecDepth 100000 in
theorem am_k156_1 : ((List.range 33).map (fun i => am_ek 156 (i + 48))).all id = true := by decide +kernel
theorem am_ky156 (pc : Nat) : am_ek 156 pc = true := by
  rcases Nat.lt_or_ge pc 48 with q | q
  · exact am_ek_u am_k156_0 (by omega) (by omega)
  rcases Nat.lt_or_ge pc 81 with q | q
  · exact am_ek_u am_k156_1 (by omega) (by omega)
  refine am_ek_none ?_
  show (bif Nat.blt pc 81 then am_cr156 pc else none) = none
  exact am_blt_f q _ _
set_option maxRecDepth 100000 in
theorem am_k157_0 : ((List.range 28).map (fun i => am_ek 157 (i + 0))).all id = true := by decide +kernel
theorem am_ky157 (pc : Nat) : am_ek 157 pc = true := by
  rcases Nat.lt_or_ge pc 28 with q | q
  · exact am_ek_u am_k157_0 (by omega) (by omega)
  refine am_ek_none ?_
  show (bif Nat.blt pc 28 then am_cr157 pc else none) = none
  exact am_blt_f q _ _
set_option maxRecDepth 100000 in
theorem am_k158_0 : ((List.range 27).map (fun i => am_ek 158 (i + 0))).all id = true := by decide +kernel
theorem am_ky158 (pc : Nat) : am_ek 158 pc = true := by
  rcases Nat.lt_or_ge pc 27 with q | q
  · exact am_ek_u am_k158_0 (by omega) (by omega)
  refine am_ek_none ?_
  show (bif Nat.blt pc 27 then am_cr158 pc else none) = none
  exact am_blt_f q _ _
set_option maxRecDepth 100000 in
theorem am_k159_0 : ((List.range 27).map (fun i => am_ek 159 (i + 0))).all id = true := by decide +kernel
theorem am_ky159 (pc : Nat) : am_ek 159 pc = true := by
  rcases Nat.lt_or_ge pc 27 with q | q
  · exact am_ek_u am_k159_0 (by omega) (by omega)
  refine am_ek_none ?_
  show (bif Nat.blt pc 27 then am_cr159 pc else none) = none
  exact am_blt_f q _ _
set_option maxRecDepth 100000 in
theorem am_k160_0 : ((List.range 48).map (fun i => am_ek 160 (i + 0))).all id = true := by decide +kernel
set_option maxRecDepth 100000 in
theorem am_k160_1 : ((List.range 16).map (fun i => am_ek 160 (i + 48))).all id = true := by decide +kernel
theorem am_ky160 (pc : Nat) : am_ek 160 pc = true := by
  rcases Nat.lt_or_ge pc 48 with q | q
  · exact am_ek_u am_k160_0 (by omega) (by omega)
  rcases Nat.lt_or_ge pc 64 with q | q
  · exact am_ek_u am_k160_1 (by omega) (by omega)
  refine am_ek_none ?_
  show (bif Nat.blt pc 64 then am_cr160 pc else none) = none
  exact am_blt_f q _ _
set_option maxRecDepth 100000 in
theorem am_k161_0 : ((List.range 39).map (fun i => am_ek 161 (i + 0))).all id = true := by decide +kernel
theorem am_ky161 (pc : Nat) : am_ek 161 pc = true := by
  rcases Nat.lt_or_ge pc 39 with q | q
  · exact am_ek_u am_k161_0 (by omega) (by omega)
  refine am_ek_none ?_
  show (bif Nat.blt pc 39 then am_cr161 pc else none) = none
  exact am_blt_f q _ _
set_option maxRecDepth 100000 in
theorem am_k162_0 : ((List.range 48).map (fun i => am_ek 162 (i + 0))).all id = true := by decide +kernel
set_option maxRecDepth 100000 in
theorem am_k162_1 : ((List.range 6).map (fun i => am_ek 162 (i + 48))).all id = true := by decide +kernel
theorem am_ky162 (pc : Nat) : am_ek 162 pc = true := by
  rcases Nat.lt_or_ge pc 48 with q | q
  · exact am_ek_u am_k162_0 (by omega) (by omega)
  rcases Nat.lt_or_ge pc 54 with q | q
  · exact am_ek_u am_k162_1 (by omega) (by omega)
  refine am_ek_none ?_
  show (bif Nat.blt pc 54 then am_cr162 pc else none) = none
  exact am_blt_f q _ _
set_option maxRecDepth 100000 in
theorem am_k163_0 : ((List.range 9).map (fun i => am_ek 163 (i + 0))).all id = true := by decide +kernel
theorem am_ky163 (pc : Nat) : am_ek 163 pc = true := by
  rcases Nat.lt_or_ge pc 9 with q | q
  · exact am_ek_u am_k163_0 (by omega) (by omega)
  refine am_ek_none ?_
  show (bif Nat.blt pc 9 then am_cr163 pc else none) = none
  exact am_blt_f q _ _
set_option maxRecDepth 100000 in
theorem am_k164_0 : ((List.range 18).map (fun i => am_ek 164 (i + 0))).all id = true := by decide +kernel
theorem am_ky164 (pc : Nat) : am_ek 164 pc = true := by
  rcases Nat.lt_or_ge pc 18 with q | q
  · exact am_ek_u am_k164_0 (by omega) (by omega)
  refine am_ek_none ?_
  show (bif Nat.blt pc 18 then am_cr164 pc else none) = none
  exact am_blt_f q _ _
set_option maxRecDepth 100000 in
theorem am_k165_0 : ((List.range 18).map (fun i => am_ek 165 (i + 0))).all id = true := by decide +kernel
theorem am_ky165 (pc : Nat) : am_ek 165 pc = true := by
  rcases Nat.lt_or_ge pc 18 with q | q
  · exact am_ek_u am_k165_0 (by omega) (by omega)
  refine am_ek_none ?_
  show (bif Nat.blt pc 18 then am_cr165 pc else none) = none
  exact am_blt_f q _ _
set_option maxRecDepth 100000 in
theorem am_k166_0 : ((List.range 30).map (fun i => am_ek 166 (i + 0))).all id = true := by decide +kernel
theorem am_ky166 (pc : Nat) : am_ek 166 pc = true := by
  rcases Nat.lt_or_ge pc 30 with q | q
  · exact am_ek_u am_k166_0 (by omega) (by omega)
  refine am_ek_none ?_
  show (bif Nat.blt pc 30 then am_cr166 pc else none) = none
  exact am_blt_f q _ _
set_option maxRecDepth 100000 in
theorem am_k167_0 : ((List.range 24).map (fun i => am_ek 167 (i + 0))).all id = true := by decide +kernel
theorem am_ky167 (pc : Nat) : am_ek 167 pc = true := by
  rcases Nat.lt_or_ge pc 24 with q | q
  · exact am_ek_u am_k167_0 (by omega) (by omega)
  refine am_ek_none ?_
  show (bif Nat.blt pc 24 then am_cr167 pc else none) = none
  exact am_blt_f q _ _
set_option maxRecDepth 100000 in
theorem am_k168_0 : ((List.range 48).map (fun i => am_ek 168 (i + 0))).all id = true := by decide +kernel
set_option maxRecDepth 100000 in
theorem am_k168_1 : ((List.range 48).map (fun i => am_ek 168 (i + 48))).all id = true := by decide +kernel
set_option maxRecDepth 100000 in
theorem am_k168_2 : ((List.range 43).map (fun i => am_ek 168 (i + 96))).all id = true := by decide +kernel
theorem am_ky168 (pc : Nat) : am_ek 168 pc = true := by
  rcases Nat.lt_or_ge pc 48 with q | q
  · exact am_ek_u am_k168_0 (by omega) (by omega)
  rcases Nat.lt_or_ge pc 96 with q | q
  · exact am_ek_u am_k168_1 (by omega) (by omega)
  rcases Nat.lt_or_ge pc 139 with q | q
  · exact am_ek_u am_k168_2 (by omega) (by omega)
  refine am_ek_none ?_
  show (bif Nat.blt pc 139 then am_cr168 pc else none) = none
  exact am_blt_f q _ _
set_option maxRecDepth 100000 in
theorem am_k169_0 : ((List.range 48).map (fun i => am_ek 169 (i + 0))).all id = true := by decide +kernel
set_option maxRecDepth 100000 in
theorem am_k169_1 : ((List.range 48).map (fun i => am_ek 169 (i + 48))).all id = true := by decide +kernel
set_option maxRecDepth 100000 in
theorem am_k169_2 : ((List.range 10).map (fun i => am_ek 169 (i + 96))).all id = true := by decide +kernel
theorem am_ky169 (pc : Nat) : am_ek 169 pc = true := by
  rcases Nat.lt_or_ge pc 48 with q | q
  · exact am_ek_u am_k169_0 (by omega) (by omega)
  rcases Nat.lt_or_ge pc 96 with q | q
  · exact am_ek_u am_k169_1 (by omega) (by omega)
  rcases Nat.lt_or_ge pc 106 with q | q
  · exact am_ek_u am_k169_2 (by omega) (by omega)
  refine am_ek_none ?_
  show (bif Nat.blt pc 106 then am_cr169 pc else none) = none
  exact am_blt_f q _ _
set_option maxRecDepth 100000 in
theorem am_k170_0 : ((List.range 48).map (fun i => am_ek 170 (i + 0))).all id = true := by decide +kernel
set_option maxRecDepth 100000 in
theorem am_k170_1 : ((List.range 38).map (fun i => am_ek 170 (i + 48))).all id = true := by decide +kernel
theorem am_ky170 (pc : Nat) : am_ek 170 pc = true := by
  rcases Nat.lt_or_ge pc 48 with q | q
  · exact am_ek_u am_k170_0 (by omega) (by omega)
  rcases Nat.lt_or_ge pc 86 with q | q
  · exact am_ek_u am_k170_1 (by omega) (by omega)
  refine am_ek_none ?_
  show (bif Nat.blt pc 86 then am_cr170 pc else none) = none
  exact am_blt_f q _ _
set_option maxRecDepth 100000 in
theorem am_k171_0 : ((List.range 48).map (fun i => am_ek 171 (i + 0))).all id = true := by decide +kernel
set_option maxRecDepth 100000 in
theorem am_k171_1 : ((List.range 48).map (fun i => am_ek 171 (i + 48))).all id = true := by decide +kernel
set_option maxRecDepth 100000 in
theorem am_k171_2 : ((List.range 40).map (fun i => am_ek 171 (i + 96))).all id = true := by decide +kernel
theorem am_ky171 (pc : Nat) : am_ek 171 pc = true := by
  rcases Nat.lt_or_ge pc 48 with q | q
  · exact am_ek_u am_k171_0 (by omega) (by omega)
  rcases Nat.lt_or_ge pc 96 with q | q
  · exact am_ek_u am_k171_1 (by omega) (by omega)
  rcases Nat.lt_or_ge pc 136 with q | q
  · exact am_ek_u am_k171_2 (by omega) (by omega)
  refine am_ek_none ?_
  show (bif Nat.blt pc 136 then am_cr171 pc else none) = none
  exact am_blt_f q _ _
set_option maxRecDepth 100000 in
theorem am_k172_0 : ((List.range 48).map (fun i => am_ek 172 (i + 0))).all id = true := by decide +kernel
set_option maxRecDepth 100000 in
theorem am_k172_1 : ((List.range 48).map (fun i => am_ek 172 (i + 48))).all id = true := by decide +kernel
set_option maxRecDepth 100000 in
theorem am_k172_2 : ((List.range 24).map (fun i => am_ek 172 (i + 96))).all id = true := by decide +kernel
theorem am_ky172 (pc : Nat) : am_ek 172 pc = true := by
  rcases Nat.lt_or_ge pc 48 with q | q
  · exact am_ek_u am_k172_0 (by omega) (by omega)
  rcases Nat.lt_or_ge pc 96 with q | q
  · exact am_ek_u am_k172_1 (by omega) (by omega)
  rcases Nat.lt_or_ge pc 120 with q | q
  · exact am_ek_u am_k172_2 (by omega) (by omega)
  refine am_ek_none ?_
  show (bif Nat.blt pc 120 then am_cr172 pc else none) = none
  exact am_blt_f q _ _
set_option maxRecDepth 100000 in
theorem am_k173_0 : ((List.range 48).map (fun i => am_ek 173 (i + 0))).all id = true := by decide +kernel
set_option maxRecDepth 100000 in
theorem am_k173_1 : ((List.range 29).map (fun i => am_ek 173 (i + 48))).all id = true := by decide +kernel
theorem am_ky173 (pc : Nat) : am_ek 173 pc = true := by
  rcases Nat.lt_or_ge pc 48 with q | q
  · exact am_ek_u am_k173_0 (by omega) (by omega)
  rcases Nat.lt_or_ge pc 77 with q | q
  · exact am_ek_u am_k173_1 (by omega) (by omega)
  refine am_ek_none ?_
  show (bif Nat.blt pc 77 then am_cr173 pc else none) = none
  exact am_blt_f q _ _
set_option maxRecDepth 100000 in
theorem am_k174_0 : ((List.range 16).map (fun i => am_ek 174 (i + 0))).all id = true := by decide +kernel
theorem am_ky174 (pc : Nat) : am_ek 174 pc = true := by
  rcases Nat.lt_or_ge pc 16 with q | q
  · exact am_ek_u am_k174_0 (by omega) (by omega)
  refine am_ek_none ?_
  show (bif Nat.blt pc 16 then am_cr174 pc else none) = none
  exact am_blt_f q _ _
set_option maxRecDepth 100000 in
theorem am_k175_0 : ((List.range 48).map (fun i => am_ek 175 (i + 0))).all id = true := by decide +kernel
set_option maxRecDepth 100000 in
theorem am_k175_1 : ((List.range 10).map (fun i => am_ek 175 (i + 48))).all id = true := by decide +kernel
theorem am_ky175 (pc : Nat) : am_ek 175 pc = true := by
  rcases Nat.lt_or_ge pc 48 with q | q
  · exact am_ek_u am_k175_0 (by omega) (by omega)
  rcases Nat.lt_or_ge pc 58 with q | q
  · exact am_ek_u am_k175_1 (by omega) (by omega)
  refine am_ek_none ?_
  show (bif Nat.blt pc 58 then am_cr175 pc else none) = none
  exact am_blt_f q _ _
set_option maxRecDepth 100000 in
theorem am_k176_0 : ((List.range 48).map (fun i => am_ek 176 (i + 0))).all id = true := by decide +kernel
set_option maxRecDepth 100000 in
theorem am_k176_1 : ((List.range 5).map (fun i => am_ek 176 (i + 48))).all id = true := by decide +kernel
theorem am_ky176 (pc : Nat) : am_ek 176 pc = true := by
  rcases Nat.lt_or_ge pc 48 with q | q
  · exact am_ek_u am_k176_0 (by omega) (by omega)
  rcases Nat.lt_or_ge pc 53 with q | q
  · exact am_ek_u am_k176_1 (by omega) (by omega)
  refine am_ek_none ?_
  show (bif Nat.blt pc 53 then am_cr176 pc else none) = none
  exact am_blt_f q _ _
set_option maxRecDepth 100000 in
theorem am_k177_0 : ((List.range 18).map (fun i => am_ek 177 (i + 0))).all id = true := by decide +kernel
theorem am_ky177 (pc : Nat) : am_ek 177 pc = true := by
  rcases Nat.lt_or_ge pc 18 with q | q
  · exact am_ek_u am_k177_0 (by omega) (by omega)
  refine am_ek_none ?_
  show (bif Nat.blt pc 18 then am_cr177 pc else none) = none
  exact am_blt_f q _ _
set_option maxRecDepth 100000 in
theorem am_k178_0 : ((List.range 48).map (fun i => am_ek 178 (i + 0))).all id = true := by decide +kernel
set_option maxRecDepth 100000 in
theorem am_k178_1 : ((List.range 35).map (fun i => am_ek 178 (i + 48))).all id = true := by decide +kernel
theorem am_ky178 (pc : Nat) : am_ek 178 pc = true := by
  rcases Nat.lt_or_ge pc 48 with q | q
  · exact am_ek_u am_k178_0 (by omega) (by omega)
  rcases Nat.lt_or_ge pc 83 with q | q
  · exact am_ek_u am_k178_1 (by omega) (by omega)
  refine am_ek_none ?_
  show (bif Nat.blt pc 83 then am_cr178 pc else none) = none
  exact am_blt_f q _ _
set_option maxRecDepth 100000 in
theorem am_k179_0 : ((List.range 48).map (fun i => am_ek 179 (i + 0))).all id = true := by decide +kernel
set_option maxRecDepth 100000 in
theorem am_k179_1 : ((List.range 48).map (fun i => am_ek 179 (i + 48))).all id = true := by decide +kernel
set_option maxRecDepth 100000 in
theorem am_k179_2 : ((List.range 12).map (fun i => am_ek 179 (i + 96))).all id = true := by decide +kernel
theorem am_ky179 (pc : Nat) : am_ek 179 pc = true := by
  rcases Nat.lt_or_ge pc 48 with q | q
  · exact am_ek_u am_k179_0 (by omega) (by omega)
  rcases Nat.lt_or_ge pc 96 with q | q
  · exact am_ek_u am_k179_1 (by omega) (by omega)
  rcases Nat.lt_or_ge pc 108 with q | q
  · exact am_ek_u am_k179_2 (by omega) (by omega)
  refine am_ek_none ?_
  show (bif Nat.blt pc 108 then am_cr179 pc else none) = none
  exact am_blt_f q _ _
set_option maxRecDepth 100000 in
theorem am_k180_0 : ((List.range 16).map (fun i => am_ek 180 (i + 0))).all id = true := by decide +kernel
theorem am_ky180 (pc : Nat) : am_ek 180 pc = true := by
  rcases Nat.lt_or_ge pc 16 with q | q
  · exact am_ek_u am_k180_0 (by omega) (by omega)
  refine am_ek_none ?_
  show (bif Nat.blt pc 16 then am_cr180 pc else none) = none
  exact am_blt_f q _ _
set_option maxRecDepth 100000 in
theorem am_k181_0 : ((List.range 48).map (fun i => am_ek 181 (i + 0))).all id = true := by decide +kernel
set_option maxRecDepth 100000 in
theorem am_k181_1 : ((List.range 48).map (fun i => am_ek 181 (i + 48))).all id = true := by decide +kernel
set_option maxRecDepth 100000 in
theorem am_k181_2 : ((List.range 48).map (fun i => am_ek 181 (i + 96))).all id = true := by decide +kernel
set_option maxRecDepth 100000 in
theorem am_k181_3 : ((List.range 10).map (fun i => am_ek 181 (i + 144))).all id = true := by decide +kernel
theorem am_ky181 (pc : Nat) : am_ek 181 pc = true := by
  rcases Nat.lt_or_ge pc 48 with q | q
  · exact am_ek_u am_k181_0 (by omega) (by omega)
  rcases Nat.lt_or_ge pc 96 with q | q
  · exact am_ek_u am_k181_1 (by omega) (by omega)
  rcases Nat.lt_or_ge pc 144 with q | q
  · exact am_ek_u am_k181_2 (by omega) (by omega)
  rcases Nat.lt_or_ge pc 154 with q | q
  · exact am_ek_u am_k181_3 (by omega) (by omega)
  refine am_ek_none ?_
  show (bif Nat.blt pc 154 then am_cr181 pc else none) = none
  exact am_blt_f q _ _
set_option maxRecDepth 100000 in
theorem am_k182_0 : ((List.range 48).map (fun i => am_ek 182 (i + 0))).all id = true := by decide +kernel
set_option maxRecDepth 100000 in
theorem am_k182_1 : ((List.range 48).map (fun i => am_ek 182 (i + 48))).all id = true := by decide +kernel
set_option maxRecDepth 100000 in
theorem am_k182_2 : ((List.range 48).map (fun i => am_ek 182 (i + 96))).all id = true := by decide +kernel
set_option maxRecDepth 100000 in
theorem am_k182_3 : ((List.range 48).map (fun i => am_ek 182 (i + 144))).all id = true := by decide +kernel
set_option maxRecDepth 100000 in
theorem am_k182_4 : ((List.range 48).map (fun i => am_ek 182 (i + 192))).all id = true := by decide +kernel
set_option maxRecDepth 100000 in
theorem am_k182_5 : ((List.range 20).map (fun i => am_ek 182 (i + 240))).all id = true := by decide +kernel
theorem am_ky182 (pc : Nat) : am_ek 182 pc = true := by
  rcases Nat.lt_or_ge pc 48 with q | q
  · exact am_ek_u am_k182_0 (by omega) (by omega)
  rcases Nat.lt_or_ge pc 96 with q | q
  · exact am_ek_u am_k182_1 (by omega) (by omega)
  rcases Nat.lt_or_ge pc 144 with q | q
  · exact am_ek_u am_k182_2 (by omega) (by omega)
  rcases Nat.lt_or_ge pc 192 with q | q
  · exact am_ek_u am_k182_3 (by omega) (by omega)
  rcases Nat.lt_or_ge pc 240 with q | q
  · exact am_ek_u am_k182_4 (by omega) (by omega)
  rcases Nat.lt_or_ge pc 260 with q | q
  · exact am_ek_u am_k182_5 (by omega) (by omega)
  refine am_ek_none ?_
  show (bif Nat.blt pc 260 then am_cr182 pc else none) = none
  exact am_blt_f q _ _
set_option maxRecDepth 100000 in
theorem am_k183_0 : ((List.range 48).map (fun i => am_ek 183 (i + 0))).all id = true := by decide +kernel
set_option maxRecDepth 100000 in
theorem am_k183_1 : ((List.range 48).map (fun i => am_ek 183 (i + 48))).all id = true := by decide +kernel
set_option maxRecDepth 100000 in
theorem am_k183_2 : ((List.range 48).map (fun i => am_ek 183 (i + 96))).all id = true := by decide +kernel
set_option maxRecDepth 100000 in
theorem am_k183_3 : ((List.range 33).map (fun i => am_ek 183 (i + 144))).all id = true := by decide +kernel
theorem am_ky183 (pc : Nat) : am_ek 183 pc = true := by
  rcases Nat.lt_or_ge pc 48 with q | q
  · exact am_ek_u am_k183_0 (by omega) (by omega)
  rcases Nat.lt_or_ge pc 96 with q | q
  · exact am_ek_u am_k183_1 (by omega) (by omega)
  rcases Nat.lt_or_ge pc 144 with q | q
  · exact am_ek_u am_k183_2 (by omega) (by omega)
  rcases Nat.lt_or_ge pc 177 with q | q
  · exact am_ek_u am_k183_3 (by omega) (by omega)
  refine am_ek_none ?_
  show (bif Nat.blt pc 177 then am_cr183 pc else none) = none
  exact am_blt_f q _ _
set_option maxRecDepth 100000 in
theorem am_k184_0 : ((List.range 48).map (fun i => am_ek 184 (i + 0))).all id = true := by decide +kernel
set_option maxRecDepth 100000 in
theorem am_k184_1 : ((List.range 46).map (fun i => am_ek 184 (i + 48))).all id = true := by decide +kernel
theorem am_ky184 (pc : Nat) : am_ek 184 pc = true := by
  rcases Nat.lt_or_ge pc 48 with q | q
  · exact am_ek_u am_k184_0 (by omega) (by omega)
  rcases Nat.lt_or_ge pc 94 with q | q
  · exact am_ek_u am_k184_1 (by omega) (by omega)
  refine am_ek_none ?_
  show (bif Nat.blt pc 94 then am_cr184 pc else none) = none
  exact am_blt_f q _ _
set_option maxRecDepth 100000 in
theorem am_k185_0 : ((List.range 33).map (fun i => am_ek 185 (i + 0))).all id = true := by decide +kernel
theorem am_ky185 (pc : Nat) : am_ek 185 pc = true := by
  rcases Nat.lt_or_ge pc 33 with q | q
  · exact am_ek_u am_k185_0 (by omega) (by omega)
  refine am_ek_none ?_
  show (bif Nat.blt pc 33 then am_cr185 pc else none) = none
  exact am_blt_f q _ _
set_option maxRecDepth 100000 in
theorem am_k186_0 : ((List.range 40).map (fun i => am_ek 186 (i + 0))).all id = true := by decide +kernel
theorem am_ky186 (pc : Nat) : am_ek 186 pc = true := by
  rcases Nat.lt_or_ge pc 40 with q | q
  · exact am_ek_u am_k186_0 (by omega) (by omega)
  refine am_ek_none ?_
  show (bif Nat.blt pc 40 then am_cr186 pc else none) = none
  exact am_blt_f q _ _
set_option maxRecDepth 100000 in
theorem am_k187_0 : ((List.range 48).map (fun i => am_ek 187 (i + 0))).all id = true := by decide +kernel
set_option maxRecDepth 100000 in
theorem am_k187_1 : ((List.range 2).map (fun i => am_ek 187 (i + 48))).all id = true := by decide +kernel
theorem am_ky187 (pc : Nat) : am_ek 187 pc = true := by
  rcases Nat.lt_or_ge pc 48 with q | q
  · exact am_ek_u am_k187_0 (by omega) (by omega)
  rcases Nat.lt_or_ge pc 50 with q | q
  · exact am_ek_u am_k187_1 (by omega) (by omega)
  refine am_ek_none ?_
  show (bif Nat.blt pc 50 then am_cr187 pc else none) = none
  exact am_blt_f q _ _
set_option maxRecDepth 100000 in
theorem am_k188_0 : ((List.range 48).map (fun i => am_ek 188 (i + 0))).all id = true := by decide +kernel
set_option maxRecDepth 100000 in
theorem am_k188_1 : ((List.range 38).map (fun i => am_ek 188 (i + 48))).all id = true := by decide +kernel
theorem am_ky188 (pc : Nat) : am_ek 188 pc = true := by
  rcases Nat.lt_or_ge pc 48 with q | q
  · exact am_ek_u am_k188_0 (by omega) (by omega)
  rcases Nat.lt_or_ge pc 86 with q | q
  · exact am_ek_u am_k188_1 (by omega) (by omega)
  refine am_ek_none ?_
  show (bif Nat.blt pc 86 then am_cr188 pc else none) = none
  exact am_blt_f q _ _
set_option maxRecDepth 100000 in
theorem am_k189_0 : ((List.range 29).map (fun i => am_ek 189 (i + 0))).all id = true := by decide +kernel
theorem am_ky189 (pc : Nat) : am_ek 189 pc = true := by
  rcases Nat.lt_or_ge pc 29 with q | q
  · exact am_ek_u am_k189_0 (by omega) (by omega)
  refine am_ek_none ?_
  show (bif Nat.blt pc 29 then am_cr189 pc else none) = none
  exact am_blt_f q _ _
set_option maxRecDepth 100000 in
theorem am_k190_0 : ((List.range 16).map (fun i => am_ek 190 (i + 0))).all id = true := by decide +kernel
theorem am_ky190 (pc : Nat) : am_ek 190 pc = true := by
  rcases Nat.lt_or_ge pc 16 with q | q
  · exact am_ek_u am_k190_0 (by omega) (by omega)
  refine am_ek_none ?_
  show (bif Nat.blt pc 16 then am_cr190 pc else none) = none
  exact am_blt_f q _ _
set_option maxRecDepth 100000 in
theorem am_k191_0 : ((List.range 48).map (fun i => am_ek 191 (i + 0))).all id = true := by decide +kernel
set_option maxRecDepth 100000 in
theorem am_k191_1 : ((List.range 30).map (fun i => am_ek 191 (i + 48))).all id = true := by decide +kernel
theorem am_ky191 (pc : Nat) : am_ek 191 pc = true := by
  rcases Nat.lt_or_ge pc 48 with q | q
  · exact am_ek_u am_k191_0 (by omega) (by omega)
  rcases Nat.lt_or_ge pc 78 with q | q
  · exact am_ek_u am_k191_1 (by omega) (by omega)
  refine am_ek_none ?_
  show (bif Nat.blt pc 78 then am_cr191 pc else none) = none
  exact am_blt_f q _ _
set_option maxRecDepth 100000 in
theorem am_k192_0 : ((List.range 16).map (fun i => am_ek 192 (i + 0))).all id = true := by decide +kernel
theorem am_ky192 (pc : Nat) : am_ek 192 pc = true := by
  rcases Nat.lt_or_ge pc 16 with q | q
  · exact am_ek_u am_k192_0 (by omega) (by omega)
  refine am_ek_none ?_
  show (bif Nat.blt pc 16 then am_cr192 pc else none) = none
  exact am_blt_f q _ _
set_option maxRecDepth 100000 in
theorem am_k193_0 : ((List.range 26).map (fun i => am_ek 193 (i + 0))).all id = true := by decide +kernel
theorem am_ky193 (pc : Nat) : am_ek 193 pc = true := by
  rcases Nat.lt_or_ge pc 26 with q | q
  · exact am_ek_u am_k193_0 (by omega) (by omega)
  refine am_ek_none ?_
  show (bif Nat.blt pc 26 then am_cr193 pc else none) = none
  exact am_blt_f q _ _
set_option maxRecDepth 100000 in
theorem am_k194_0 : ((List.range 16).map (fun i => am_ek 194 (i + 0))).all id = true := by decide +kernel
theorem am_ky194 (pc : Nat) : am_ek 194 pc = true := by
  rcases Nat.lt_or_ge pc 16 with q | q
  · exact am_ek_u am_k194_0 (by omega) (by omega)
  refine am_ek_none ?_
  show (bif Nat.blt pc 16 then am_cr194 pc else none) = none
  exact am_blt_f q _ _
set_option maxRecDepth 100000 in
theorem am_k195_0 : ((List.range 30).map (fun i => am_ek 195 (i + 0))).all id = true := by decide +kernel
theorem am_ky195 (pc : Nat) : am_ek 195 pc = true := by
  rcases Nat.lt_or_ge pc 30 with q | q
  · exact am_ek_u am_k195_0 (by omega) (by omega)
  refine am_ek_none ?_
  show (bif Nat.blt pc 30 then am_cr195 pc else none) = none
  exact am_blt_f q _ _
set_option maxRecDepth 100000 in
theorem am_k196_0 : ((List.range 42).map (fun i => am_ek 196 (i + 0))).all id = true := by decide +kernel
theorem am_ky196 (pc : Nat) : am_ek 196 pc = true := by
  rcases Nat.lt_or_ge pc 42 with q | q
  · exact am_ek_u am_k196_0 (by omega) (by omega)
  refine am_ek_none ?_
  show (bif Nat.blt pc 42 then am_cr196 pc else none) = none
  exact am_blt_f q _ _
set_option maxRecDepth 100000 in
theorem am_k197_0 : ((List.range 48).map (fun i => am_ek 197 (i + 0))).all id = true := by decide +kernel
set_option maxRecDepth 100000 in
theorem am_k197_1 : ((List.range 48).map (fun i => am_ek 197 (i + 48))).all id = true := by decide +kernel
set_option maxRecDepth 100000 in
theorem am_k197_2 : ((List.range 40).map (fun i => am_ek 197 (i + 96))).all id = true := by decide +kernel
theorem am_ky197 (pc : Nat) : am_ek 197 pc = true := by
  rcases Nat.lt_or_ge pc 48 with q | q
  · exact am_ek_u am_k197_0 (by omega) (by omega)
  rcases Nat.lt_or_ge pc 96 with q | q
  · exact am_ek_u am_k197_1 (by omega) (by omega)
  rcases Nat.lt_or_ge pc 136 with q | q
  · exact am_ek_u am_k197_2 (by omega) (by omega)
  refine am_ek_none ?_
  show (bif Nat.blt pc 136 then am_cr197 pc else none) = none
  exact am_blt_f q _ _
set_option maxRecDepth 100000 in
theorem am_k198_0 : ((List.range 48).map (fun i => am_ek 198 (i + 0))).all id = true := by decide +kernel
set_option maxRecDepth 100000 in
theorem am_k198_1 : ((List.range 48).map (fun i => am_ek 198 (i + 48))).all id = true := by decide +kernel
set_option maxRecDepth 100000 in
theorem am_k198_2 : ((List.range 48).map (fun i => am_ek 198 (i + 96))).all id = true := by decide +kernel
set_option maxRecDepth 100000 in
theorem am_k198_3 : ((List.range 48).map (fun i => am_ek 198 (i + 144))).all id = true := by decide +kernel
set_option maxRecDepth 100000 in
theorem am_k198_4 : ((List.range 24).map (fun i => am_ek 198 (i + 192))).all id = true := by decide +kernel
theorem am_ky198 (pc : Nat) : am_ek 198 pc = true := by
  rcases Nat.lt_or_ge pc 48 with q | q
  · exact am_ek_u am_k198_0 (by omega) (by omega)
  rcases Nat.lt_or_ge pc 96 with q | q
  · exact am_ek_u am_k198_1 (by omega) (by omega)
  rcases Nat.lt_or_ge pc 144 with q | q
  · exact am_ek_u am_k198_2 (by omega) (by omega)
  rcases Nat.lt_or_ge pc 192 with q | q
  · exact am_ek_u am_k198_3 (by omega) (by omega)
  rcases Nat.lt_or_ge pc 216 with q | q
  · exact am_ek_u am_k198_4 (by omega) (by omega)
  refine am_ek_none ?_
  show (bif Nat.blt pc 216 then am_cr198 pc else none) = none
  exact am_blt_f q _ _
set_option maxRecDepth 100000 in
theorem am_k199_0 : ((List.range 48).map (fun i => am_ek 199 (i + 0))).all id = true := by decide +kernel
set_option maxRecDepth 100000 in
theorem am_k199_1 : ((List.range 28).map (fun i => am_ek 199 (i + 48))).all id = true := by decide +kernel
theorem am_ky199 (pc : Nat) : am_ek 199 pc = true := by
  rcases Nat.lt_or_ge pc 48 with q | q
  · exact am_ek_u am_k199_0 (by omega) (by omega)
  rcases Nat.lt_or_ge pc 76 with q | q
  · exact am_ek_u am_k199_1 (by omega) (by omega)
  refine am_ek_none ?_
  show (bif Nat.blt pc 76 then am_cr199 pc else none) = none
  exact am_blt_f q _ _
set_option maxRecDepth 100000 in
theorem am_k200_0 : ((List.range 33).map (fun i => am_ek 200 (i + 0))).all id = true := by decide +kernel
theorem am_ky200 (pc : Nat) : am_ek 200 pc = true := by
  rcases Nat.lt_or_ge pc 33 with q | q
  · exact am_ek_u am_k200_0 (by omega) (by omega)
  refine am_ek_none ?_
  show (bif Nat.blt pc 33 then am_cr200 pc else none) = none
  exact am_blt_f q _ _
set_option maxRecDepth 100000 in
theorem am_k201_0 : ((List.range 48).map (fun i => am_ek 201 (i + 0))).all id = true := by decide +kernel
set_option maxRecDepth 100000 in
theorem am_k201_1 : ((List.range 47).map (fun i => am_ek 201 (i + 48))).all id = true := by decide +kernel
theorem am_ky201 (pc : Nat) : am_ek 201 pc = true := by
  rcases Nat.lt_or_ge pc 48 with q | q
  · exact am_ek_u am_k201_0 (by omega) (by omega)
  rcases Nat.lt_or_ge pc 95 with q | q
  · exact am_ek_u am_k201_1 (by omega) (by omega)
  refine am_ek_none ?_
  show (bif Nat.blt pc 95 then am_cr201 pc else none) = none
  exact am_blt_f q _ _
set_option maxRecDepth 100000 in
theorem am_k202_0 : ((List.range 16).map (fun i => am_ek 202 (i + 0))).all id = true := by decide +kernel
theorem am_ky202 (pc : Nat) : am_ek 202 pc = true := by
  rcases Nat.lt_or_ge pc 16 with q | q
  · exact am_ek_u am_k202_0 (by omega) (by omega)
  refine am_ek_none ?_
  show (bif Nat.blt pc 16 then am_cr202 pc else none) = none
  exact am_blt_f q _ _
set_option maxRecDepth 100000 in
theorem am_k203_0 : ((List.range 48).map (fun i => am_ek 203 (i + 0))).all id = true := by decide +kernel
set_option maxRecDepth 100000 in
theorem am_k203_1 : ((List.range 48).map (fun i => am_ek 203 (i + 48))).all id = true := by decide +kernel
set_option maxRecDepth 100000 in
theorem am_k203_2 : ((List.range 48).map (fun i => am_ek 203 (i + 96))).all id = true := by decide +kernel
set_option maxRecDepth 100000 in
theorem am_k203_3 : ((List.range 48).map (fun i => am_ek 203 (i + 144))).all id = true := by decide +kernel
set_option maxRecDepth 100000 in
theorem am_k203_4 : ((List.range 48).map (fun i => am_ek 203 (i + 192))).all id = true := by decide +kernel
set_option maxRecDepth 100000 in
theorem am_k203_5 : ((List.range 48).map (fun i => am_ek 203 (i + 240))).all id = true := by decide +kernel
set_option maxRecDepth 100000 in
theorem am_k203_6 : ((List.range 48).map (fun i => am_ek 203 (i + 288))).all id = true := by decide +kernel
set_option maxRecDepth 100000 in
theorem am_k203_7 : ((List.range 48).map (fun i => am_ek 203 (i + 336))).all id = true := by decide +kernel
set_option maxRecDepth 100000 in
theorem am_k203_8 : ((List.range 26).map (fun i => am_ek 203 (i + 384))).all id = true := by decide +kernel
theorem am_ky203 (pc : Nat) : am_ek 203 pc = true := by
  rcases Nat.lt_or_ge pc 48 with q | q
  · exact am_ek_u am_k203_0 (by omega) (by omega)
  rcases Nat.lt_or_ge pc 96 with q | q
  · exact am_ek_u am_k203_1 (by omega) (by omega)
  rcases Nat.lt_or_ge pc 144 with q | q
  · exact am_ek_u am_k203_2 (by omega) (by omega)
  rcases Nat.lt_or_ge pc 192 with q | q
  · exact am_ek_u am_k203_3 (by omega) (by omega)
  rcases Nat.lt_or_ge pc 240 with q | q
  · exact am_ek_u am_k203_4 (by omega) (by omega)
  rcases Nat.lt_or_ge pc 288 with q | q
  · exact am_ek_u am_k203_5 (by omega) (by omega)
  rcases Nat.lt_or_ge pc 336 with q | q
  · exact am_ek_u am_k203_6 (by omega) (by omega)
  rcases Nat.lt_or_ge pc 384 with q | q
  · exact am_ek_u am_k203_7 (by omega) (by omega)
  rcases Nat.lt_or_ge pc 410 with q | q
  · exact am_ek_u am_k203_8 (by omega) (by omega)
  refine am_ek_none ?_
  show (bif Nat.blt pc 410 then am_cr203 pc else none) = none
  exact am_blt_f q _ _
set_option maxRecDepth 100000 in
theorem am_k204_0 : ((List.range 48).map (fun i => am_ek 204 (i + 0))).all id = true := by decide +kernel
set_option maxRecDepth 100000 in
theorem am_k204_1 : ((List.range 48).map (fun i => am_ek 204 (i + 48))).all id = true := by decide +kernel
set_option maxRecDepth 100000 in
theorem am_k204_2 : ((List.range 48).map (fun i => am_ek 204 (i + 96))).all id = true := by decide +kernel
set_option maxRecDepth 100000 in
theorem am_k204_3 : ((List.range 41).map (fun i => am_ek 204 (i + 144))).all id = true := by decide +kernel
theorem am_ky204 (pc : Nat) : am_ek 204 pc = true := by
  rcases Nat.lt_or_ge pc 48 with q | q
  · exact am_ek_u am_k204_0 (by omega) (by omega)
  rcases Nat.lt_or_ge pc 96 with q | q
  · exact am_ek_u am_k204_1 (by omega) (by omega)
  rcases Nat.lt_or_ge pc 144 with q | q
  · exact am_ek_u am_k204_2 (by omega) (by omega)
  rcases Nat.lt_or_ge pc 185 with q | q
  · exact am_ek_u am_k204_3 (by omega) (by omega)
  refine am_ek_none ?_
  show (bif Nat.blt pc 185 then am_cr204 pc else none) = none
  exact am_blt_f q _ _
set_option maxRecDepth 100000 in
theorem am_k205_0 : ((List.range 48).map (fun i => am_ek 205 (i + 0))).all id = true := by decide +kernel
set_option maxRecDepth 100000 in
theorem am_k205_1 : ((List.range 23).map (fun i => am_ek 205 (i + 48))).all id = true := by decide +kernel
theorem am_ky205 (pc : Nat) : am_ek 205 pc = true := by
  rcases Nat.lt_or_ge pc 48 with q | q
  · exact am_ek_u am_k205_0 (by omega) (by omega)
  rcases Nat.lt_or_ge pc 71 with q | q
  · exact am_ek_u am_k205_1 (by omega) (by omega)
  refine am_ek_none ?_
  show (bif Nat.blt pc 71 then am_cr205 pc else none) = none
  exact am_blt_f q _ _
set_option maxRecDepth 100000 in
theorem am_k206_0 : ((List.range 48).map (fun i => am_ek 206 (i + 0))).all id = true := by decide +kernel
set_option maxRecDepth 100000 in
theorem am_k206_1 : ((List.range 48).map (fun i => am_ek 206 (i + 48))).all id = true := by decide +kernel
set_option maxRecDepth 100000 in
theorem am_k206_2 : ((List.range 31).map (fun i => am_ek 206 (i + 96))).all id = true := by decide +kernel
theorem am_ky206 (pc : Nat) : am_ek 206 pc = true := by
  rcases Nat.lt_or_ge pc 48 with q | q
  · exact am_ek_u am_k206_0 (by omega) (by omega)
  rcases Nat.lt_or_ge pc 96 with q | q
  · exact am_ek_u am_k206_1 (by omega) (by omega)
  rcases Nat.lt_or_ge pc 127 with q | q
  · exact am_ek_u am_k206_2 (by omega) (by omega)
  refine am_ek_none ?_
  show (bif Nat.blt pc 127 then am_cr206 pc else none) = none
  exact am_blt_f q _ _
set_option maxRecDepth 100000 in
theorem am_k207_0 : ((List.range 16).map (fun i => am_ek 207 (i + 0))).all id = true := by decide +kernel
theorem am_ky207 (pc : Nat) : am_ek 207 pc = true := by
  rcases Nat.lt_or_ge pc 16 with q | q
  · exact am_ek_u am_k207_0 (by omega) (by omega)
  refine am_ek_none ?_
  show (bif Nat.blt pc 16 then am_cr207 pc else none) = none
  exact am_blt_f q _ _
set_option maxRecDepth 100000 in
theorem am_k208_0 : ((List.range 48).map (fun i => am_ek 208 (i + 0))).all id = true := by decide +kernel
set_option maxRecDepth 100000 in
theorem am_k208_1 : ((List.range 7).map (fun i => am_ek 208 (i + 48))).all id = true := by decide +kernel
theorem am_ky208 (pc : Nat) : am_ek 208 pc = true := by
  rcases Nat.lt_or_ge pc 48 with q | q
  · exact am_ek_u am_k208_0 (by omega) (by omega)
  rcases Nat.lt_or_ge pc 55 with q | q
  · exact am_ek_u am_k208_1 (by omega) (by omega)
  refine am_ek_none ?_
  show (bif Nat.blt pc 55 then am_cr208 pc else none) = none
  exact am_blt_f q _ _
set_option maxRecDepth 100000 in
theorem am_k209_0 : ((List.range 48).map (fun i => am_ek 209 (i + 0))).all id = true := by decide +kernel
set_option maxRecDepth 100000 in
theorem am_k209_1 : ((List.range 13).map (fun i => am_ek 209 (i + 48))).all id = true := by decide +kernel
theorem am_ky209 (pc : Nat) : am_ek 209 pc = true := by
  rcases Nat.lt_or_ge pc 48 with q | q
  · exact am_ek_u am_k209_0 (by omega) (by omega)
  rcases Nat.lt_or_ge pc 61 with q | q
  · exact am_ek_u am_k209_1 (by omega) (by omega)
  refine am_ek_none ?_
  show (bif Nat.blt pc 61 then am_cr209 pc else none) = none
  exact am_blt_f q _ _
