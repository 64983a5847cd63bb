def am_wa : List Cond := lw_tbl.filter goodWord
def am_tb (i : Nat) : List Cond := bif Nat.beq i 0 then k2_sels lw_privs else bif Nat.beq i 1 then tables_1_1 else bif Nat.beq i 2 then tables_1_2 else bif Nat.beq i 3 then tables_1_3 else bif Nat.beq i 4 then tables_1_4 else bif Nat.beq i 5 then tables_1_5 else bif Nat.beq i 6 then tables_1_6 else bif Nat.beq i 7 then tables_1_7 else bif Nat.beq i 8 then tables_1_8 else []
theorem am_tb_in {i : Nat} {w : Cond} (h : w ∈ am_tb i) : w ∈ lw_tbl := by
  have e : ∀ w, w ∈ lw_tbl ↔ (w ∈ k2_sels lw_privs ∨ w ∈ tables_1_1 ∨ w ∈ tables_1_2 ∨ w ∈ tables_1_3 ∨ w ∈ tables_1_4 ∨ w ∈ tables_1_5 ∨ w ∈ tables_1_6 ∨ w ∈ tables_1_7 ∨ w ∈ tables_1_8) := by
    intro w
    simp only [lw_tbl, tables_1, List.mem_append]
  rw [e]
  unfold am_tb at h
  cases h0 : Nat.beq i 0 <;> rw [h0] at h
  · cases h1 : Nat.beq i 1 <;> rw [h1] at h
    · cases h2 : Nat.beq i 2 <;> rw [h2] at h
      · cases h3 : Nat.beq i 3 <;> rw [h3] at h
        · cases h4 : Nat.beq i 4 <;> rw [h4] at h
          · cases h5 : Nat.beq i 5 <;> rw [h5] at h
            · cases h6 : Nat.beq i 6 <;> rw [h6] at h
              · cases h7 : Nat.beq i 7 <;> rw [h7] at h
                · cases h8 : Nat.beq i 8 <;> rw [h8] at h
                  · exact absurd h List.not_mem_nil
                  · exact Or.inr (Or.inr (Or.inr (Or.inr (Or.inr (Or.inr (Or.inr (Or.inr h)))))))
                · exact Or.inr (Or.inr (Or.inr (Or.inr (Or.inr (Or.inr (Or.inr (Or.inl h)))))))
              · exact Or.inr (Or.inr (Or.inr (Or.inr (Or.inr (Or.inr (Or.inl h))))))
            · exact Or.inr (Or.inr (Or.inr (Or.inr (Or.inr (Or.inl h)))))
          · exact Or.inr (Or.inr (Or.inr (Or.inr (Or.inl h))))
        · exact Or.inr (Or.inr (Or.inr (Or.inl h)))
      · exact Or.inr (Or.inr (Or.inl h))
    · exact Or.inr (Or.inl h)
  · exact Or.inl h
def am_tbp (p : Nat) : Option Cond := (am_tb (p / 1000))[p % 1000]?
theorem am_wa_of {w : Cond} (h : w ∈ lw_tbl) (hg : goodWord w = true) : w ∈ am_wa := List.mem_filter.mpr ⟨h, hg⟩
def am_rows (l : List (Nat × Cond)) : Prop := l.map (fun q => am_tbp q.1) = l.map (fun q => some q.2)
theorem am_rows_in : ∀ {l : List (Nat × Cond)}, am_rows l → l.all (fun q => goodWord q.2) = true → ∀ q ∈ l, q.2 ∈ am_wa := by
  intro l
  induction l with
  | nil => intro _ _ q hq; cases hq
  | cons a l ih =>
    intro h hg q hq
    unfold am_rows at h
    rw [List.map_cons, List.map_cons, List.cons.injEq] at h
    rw [List.all_cons, Bool.and_eq_true] at hg
    rcases List.mem_cons.mp hq with e | hq
    · subst e
      exact am_wa_of (am_tb_in (List.mem_of_getElem? h.1)) hg.1
    · exact ih h.2 hg.2 q hq
theorem am_rows_td {l : List (Nat × Cond)} (k : Nat) (h1 : am_rows (l.take k)) (h2 : am_rows (l.drop k)) : am_rows l := by
  unfold am_rows at *
  rw [← List.take_append_drop k l, List.map_append, List.map_append, h1, h2]
def am_flk : Nat → List (Nat × Nat × Nat × Nat) := fun i => bif Nat.blt i 9 then (bif Nat.blt i 4 then (bif Nat.blt i 2 then (bif Nat.blt i 1 then (bif Nat.beq i 0 then [(9, 0, 0, 1224), (15, 0, 1, 1225), (18, 0, 2, 1226), (22, 0, 3, 1228), (26, 0, 4, 1229), (29, 0, 5, 1230)] else []) else (bif Nat.beq i 1 then [(11, 1, 2, 2069), (15, 1, 3, 2071), (19, 1, 4, 2072), (23, 1, 5, 2073), (27, 1, 6, 2074), (30, 1, 0, 2066), (39, 1, 1, 2067), (43, 3, 17, 1096), (46, 8, 5, 2011), (77, 8, 13, 2025), (80, 8, 14, 2028), (99, 8, 15, 2032), (106, 8, 9, 2019)] else [])) else (bif Nat.blt i 3 then (bif Nat.beq i 2 then [(9, 2, 1, 1145), (15, 2, 2, 1147), (18, 2, 3, 1149), (21, 2, 0, 1144), (25, 3, 3, 1047), (38, 3, 4, 1053), (45, 3, 13, 1087), (49, 3, 6, 1064), (55, 3, 12, 1084), (63, 3, 5, 1059), (66, 3, 7, 1069), (84, 2, 8, 1155), (86, 2, 4, 1151), (89, 2, 5, 1152), (92, 2, 6, 1153), (95, 2, 7, 1154), (102, 3, 8, 1075), (105, 2, 9, 1156), (107, 2, 10, 1157), (113, 2, 11, 1158), (115, 3, 14, 1089)] else []) else (bif Nat.beq i 3 then [(9, 3, 0, 1039), (15, 3, 1, 1042), (19, 3, 2, 1043), (22, 3, 3, 1046), (25, 3, 4, 1052), (28, 3, 5, 1057), (31, 3, 6, 1062), (34, 3, 7, 1067), (37, 3, 8, 1072), (40, 3, 9, 1077), (43, 3, 10, 1081), (46, 3, 11, 1082), (49, 3, 12, 1083), (53, 3, 13, 1086), (56, 3, 14, 1088), (59, 3, 15, 1091), (62, 3, 16, 1093), (65, 3, 17, 1095)] else []))) else (bif Nat.blt i 6 then (bif Nat.blt i 5 then (bif Nat.beq i 4 then [(11, 4, 0, 2150), (15, 4, 1, 2151), (19, 4, 2, 2153), (22, 4, 3, 2154), (26, 1, 1, 2068), (36, 8, 11, 2021), (49, 1, 2, 2070), (52, 8, 14, 2029), (55, 8, 13, 2026), (65, 8, 6, 2013), (68, 8, 7, 2015), (71, 8, 8, 2017), (74, 8, 12, 2023)] else []) else (bif Nat.beq i 5 then [(9, 5, 1, 2097), (15, 5, 2, 2098), (19, 5, 3, 2099), (22, 5, 4, 2100), (26, 5, 5, 2101), (29, 5, 6, 2102), (32, 5, 7, 2103), (35, 5, 8, 2104), (38, 5, 9, 2105), (41, 5, 10, 2106), (44, 5, 11, 2107), (47, 5, 12, 2108), (50, 5, 13, 2109), (53, 5, 14, 2110), (56, 5, 0, 2096), (79, 6, 1, 2173), (110, 3, 0, 1040), (130, 3, 3, 1050), (133, 3, 9, 1079)] else [])) else (bif Nat.blt i 7 then (bif Nat.beq i 6 then [(9, 6, 0, 2170), (15, 6, 1, 2172), (19, 6, 2, 2175), (22, 6, 3, 2177)] else []) else (bif Nat.blt i 8 then (bif Nat.beq i 7 then [(9, 7, 1, 1191), (15, 7, 2, 1192), (19, 7, 3, 1193), (22, 7, 4, 1194), (26, 7, 0, 1190), (36, 3, 17, 1097), (43, 3, 3, 1049), (46, 3, 8, 1074), (59, 3, 5, 1058), (62, 3, 4, 1055), (69, 3, 6, 1065), (80, 3, 2, 1044), (90, 3, 7, 1070)] else []) else (bif Nat.beq i 8 then [(12, 8, 2, 2007), (18, 8, 3, 2008), (22, 8, 4, 2009), (25, 8, 5, 2010), (29, 8, 0, 2005), (33, 8, 1, 2006), (42, 3, 3, 1048), (55, 3, 9, 1078), (69, 3, 8, 1073), (73, 3, 4, 1054), (76, 3, 6, 1063), (79, 3, 7, 1068), (88, 8, 6, 2012), (91, 8, 7, 2014), (94, 8, 8, 2016), (101, 8, 9, 2018), (104, 8, 10, 2020), (120, 3, 5, 1060), (123, 8, 12, 2024), (126, 8, 14, 2030), (129, 8, 15, 2031), (133, 8, 11, 2022), (135, 8, 13, 2027)] else []))))) else (bif Nat.blt i 13 then (bif Nat.blt i 11 then (bif Nat.blt i 10 then (bif Nat.beq i 9 then [(11, 9, 0, 2188), (18, 9, 1, 2189), (22, 9, 2, 2190), (30, 9, 3, 2191), (37, 9, 4, 2192), (46, 9, 5, 2193), (53, 9, 6, 2194), (60, 9, 7, 2195), (64, 9, 8, 2196), (71, 9, 9, 2197), (75, 9, 10, 2198), (78, 9, 11, 2199), (82, 9, 12, 2200), (114, 6, 2, 2176), (120, 6, 0, 2171), (136, 6, 3, 2178), (139, 3, 4, 1056), (153, 3, 0, 1041), (169, 3, 2, 1045), (172, 3, 17, 1098), (205, 3, 12, 1085), (226, 3, 5, 1061), (229, 3, 6, 1066), (232, 3, 7, 1071), (235, 3, 8, 1076), (250, 2, 1, 1146), (253, 2, 2, 1148), (256, 2, 3, 1150), (259, 3, 14, 1090), (265, 3, 15, 1092), (316, 4, 3, 2155), (325, 4, 1, 2152), (331, 6, 1, 2174), (351, 3, 9, 1080), (354, 3, 3, 1051), (360, 3, 16, 1094), (375, 0, 2, 1227)] else []) else (bif Nat.beq i 10 then [(7, 10, 4, 6067), (13, 10, 5, 6068), (16, 10, 6, 6069), (19, 10, 9, 6072), (23, 10, 10, 6073), (26, 10, 11, 6074), (29, 10, 12, 6075), (32, 10, 13, 6076), (35, 10, 14, 6077), (38, 10, 15, 6078), (41, 10, 16, 6079), (44, 10, 17, 6080), (47, 10, 18, 6081), (50, 10, 19, 6082), (53, 10, 20, 6083), (56, 10, 21, 6084), (60, 10, 22, 6085), (63, 10, 23, 6086), (66, 10, 24, 6087), (69, 10, 25, 6088), (72, 10, 26, 6089), (75, 10, 27, 6090), (78, 10, 28, 6091), (82, 10, 29, 6092), (85, 10, 30, 6093), (88, 10, 31, 6094), (91, 10, 32, 6095), (94, 10, 33, 6096), (97, 10, 34, 6097), (100, 10, 36, 6099), (103, 10, 37, 6100), (106, 10, 38, 6101), (109, 10, 39, 6102), (112, 10, 40, 6103), (115, 10, 41, 6104), (118, 10, 42, 6105), (121, 10, 43, 6106), (124, 10, 44, 6107), (127, 10, 45, 6108), (130, 10, 46, 6109), (133, 10, 47, 6110), (136, 10, 48, 6111), (139, 10, 49, 6112), (142, 10, 50, 6113), (145, 10, 51, 6114), (148, 10, 53, 6116), (151, 10, 54, 6117), (154, 10, 55, 6118), (157, 10, 56, 6119), (160, 10, 57, 6120), (163, 10, 58, 6121), (166, 10, 59, 6122), (169, 10, 60, 6123), (172, 10, 61, 6124), (175, 10, 62, 6125), (178, 10, 63, 6126), (181, 10, 68, 6131), (184, 10, 75, 6138), (187, 10, 76, 6139), (190, 10, 77, 6140), (193, 10, 78, 6141), (196, 10, 2, 6065), (199, 10, 1, 6064), (232, 10, 0, 6063), (278, 10, 70, 6133), (281, 10, 69, 6132), (320, 10, 65, 6128), (323, 10, 66, 6129), (326, 10, 67, 6130), (343, 10, 3, 6066), (355, 10, 7, 6070), (377, 10, 35, 6098), (432, 10, 52, 6115), (438, 10, 8, 6071), (441, 10, 64, 6127), (463, 10, 71, 6134), (467, 10, 72, 6135), (470, 10, 73, 6136), (473, 10, 74, 6137)] else [])) else (bif Nat.blt i 12 then (bif Nat.beq i 11 then [] else []) else (bif Nat.beq i 12 then [] else []))) else (bif Nat.blt i 15 then (bif Nat.blt i 14 then (bif Nat.beq i 13 then [] else []) else (bif Nat.beq i 14 then [(9, 16, 0, 8215), (15, 16, 1, 8216)] else [])) else (bif Nat.blt i 16 then (bif Nat.beq i 15 then [] else []) else (bif Nat.blt i 17 then (bif Nat.beq i 16 then [] else []) else (bif Nat.beq i 17 then [] else [])))))
def am_klk : Nat → List (Nat × Nat × Nat × Nat × Nat) := fun i => bif Nat.blt i 9 then (bif Nat.blt i 4 then (bif Nat.blt i 2 then (bif Nat.blt i 1 then (bif Nat.beq i 0 then [(46, 1, 3, 0, 5020), (55, 1, 2, 0, 5014)] else []) else (bif Nat.beq i 1 then [(52, 1, 1, 1, 5022), (83, 1, 1000000000001, 0, 5039)] else [])) else (bif Nat.blt i 3 then (bif Nat.beq i 2 then [(58, 1, 1, 1, 4148)] else []) else (bif Nat.beq i 3 then [(135, 1, 1, 1, 4078), (149, 0, 1103515245, 0, 6020)] else []))) else (bif Nat.blt i 6 then (bif Nat.blt i 5 then (bif Nat.beq i 4 then [(110, 1, 40, 0, 5215), (112, 1, 41, 0, 5216), (114, 1, 44, 0, 5217)] else []) else (bif Nat.beq i 5 then [] else [])) else (bif Nat.blt i 7 then (bif Nat.beq i 6 then [] else []) else (bif Nat.blt i 8 then (bif Nat.beq i 7 then [(76, 1, 10, 0, 4108), (78, 1, 2, 0, 4109), (88, 1, 1000000, 0, 4114), (96, 1, 1000000000, 0, 5227)] else []) else (bif Nat.beq i 8 then [] else []))))) else (bif Nat.blt i 13 then (bif Nat.blt i 11 then (bif Nat.blt i 10 then (bif Nat.beq i 9 then [(152, 0, 1000000, 0, 3085), (302, 1, 1000000000000, 0, 5096), (308, 1, 1000000000001, 0, 5138), (310, 1, 1, 1, 5097), (384, 16, 2000, 0, 0), (386, 16, 2001, 0, 0), (388, 16, 2002, 0, 0), (390, 16, 2003, 0, 0), (392, 16, 2004, 0, 0)] else []) else (bif Nat.beq i 10 then [(228, 0, 1000000, 0, 7122), (235, 1, 1000000, 0, 7171), (297, 16, 2000, 0, 0), (299, 16, 2001, 0, 0), (301, 16, 2002, 0, 0), (303, 16, 2003, 0, 0), (305, 16, 2004, 0, 0), (364, 1, 2, 0, 8059), (372, 1, 3, 0, 8067), (398, 1, 1000000000000, 0, 8123), (400, 1, 4000000000000, 0, 8096), (409, 1, 1, 1, 8127), (430, 1, 1000000000001, 0, 8148), (451, 16, 2005, 0, 0), (453, 16, 2006, 0, 0), (455, 16, 2007, 0, 0), (457, 1, 1000000000, 0, 8188), (459, 0, 1103515245, 0, 8197)] else [])) else (bif Nat.blt i 12 then (bif Nat.beq i 11 then [(18, 1, 4294967295, 0, 8214)] else []) else (bif Nat.beq i 12 then [(314, 1, 6148914691236517205, 0, 4090), (316, 1, 3689348814741910323, 0, 4091), (318, 1, 1085102592571150095, 0, 4092)] else []))) else (bif Nat.blt i 15 then (bif Nat.blt i 14 then (bif Nat.beq i 13 then [] else []) else (bif Nat.beq i 14 then [] else [])) else (bif Nat.blt i 16 then (bif Nat.beq i 15 then [] else []) else (bif Nat.blt i 17 then (bif Nat.beq i 16 then [] else []) else (bif Nat.beq i 17 then [] else [])))))
def am_glk : Nat → List (Nat × Nat × Nat × Nat) := fun i => bif Nat.blt i 9 then (bif Nat.blt i 4 then (bif Nat.blt i 2 then (bif Nat.blt i 1 then (bif Nat.beq i 0 then [(36, 3, 1, 13), (43, 4, 1, 15), (48, 2, 1, 14)] else []) else (bif Nat.beq i 1 then [] else [])) else (bif Nat.blt i 3 then (bif Nat.beq i 2 then [(34, 1, 1, 9)] else []) else (bif Nat.beq i 3 then [] else []))) else (bif Nat.blt i 6 then (bif Nat.blt i 5 then (bif Nat.beq i 4 then [] else []) else (bif Nat.beq i 5 then [] else [])) else (bif Nat.blt i 7 then (bif Nat.beq i 6 then [] else []) else (bif Nat.blt i 8 then (bif Nat.beq i 7 then [] else []) else (bif Nat.beq i 8 then [(82, 6, 1, 11), (85, 5, 1, 12)] else []))))) else (bif Nat.blt i 13 then (bif Nat.blt i 11 then (bif Nat.blt i 10 then (bif Nat.beq i 9 then [(381, 0, 0, 3065)] else []) else (bif Nat.beq i 10 then [] else [])) else (bif Nat.blt i 12 then (bif Nat.beq i 11 then [] else []) else (bif Nat.beq i 12 then [] else []))) else (bif Nat.blt i 15 then (bif Nat.blt i 14 then (bif Nat.beq i 13 then [] else []) else (bif Nat.beq i 14 then [(38, 7, 0, 3211), (1053, 8, 0, 3227)] else [])) else (bif Nat.blt i 16 then (bif Nat.beq i 15 then [] else []) else (bif Nat.blt i 17 then (bif Nat.beq i 16 then [] else []) else (bif Nat.beq i 17 then [] else [])))))
def am_nlk : Nat → List (Nat × Nat × Nat) := fun i => bif Nat.blt i 9 then (bif Nat.blt i 4 then (bif Nat.blt i 2 then (bif Nat.blt i 1 then (bif Nat.beq i 0 then [] else []) else (bif Nat.beq i 1 then [(34, 8, 1212)] else [])) else (bif Nat.blt i 3 then (bif Nat.beq i 2 then [] else []) else (bif Nat.beq i 3 then [] else []))) else (bif Nat.blt i 6 then (bif Nat.blt i 5 then (bif Nat.beq i 4 then [] else []) else (bif Nat.beq i 5 then [] else [])) else (bif Nat.blt i 7 then (bif Nat.beq i 6 then [] else []) else (bif Nat.blt i 8 then (bif Nat.beq i 7 then [] else []) else (bif Nat.beq i 8 then [(9, 0, 1218)] else []))))) else (bif Nat.blt i 13 then (bif Nat.blt i 11 then (bif Nat.blt i 10 then (bif Nat.beq i 9 then [(9, 6, 1028), (15, 3, 1030), (25, 2, 1138), (34, 7, 1184), (41, 1, 1206), (50, 5, 2090), (57, 0, 2142), (68, 4, 2144)] else []) else (bif Nat.beq i 10 then [] else [])) else (bif Nat.blt i 12 then (bif Nat.beq i 11 then [(7, 9, 1020), (10, 10, 6057)] else []) else (bif Nat.beq i 12 then [] else []))) else (bif Nat.blt i 15 then (bif Nat.blt i 14 then (bif Nat.beq i 13 then [] else []) else (bif Nat.beq i 14 then [] else [])) else (bif Nat.blt i 16 then (bif Nat.beq i 15 then [] else []) else (bif Nat.blt i 17 then (bif Nat.beq i 16 then [] else []) else (bif Nat.beq i 17 then [] else [])))))
def am_clk : Nat → List (Nat × Nat × Nat × Nat × Nat × Nat) := fun i => bif Nat.blt i 9 then (bif Nat.blt i 4 then (bif Nat.blt i 2 then (bif Nat.blt i 1 then (bif Nat.beq i 0 then [(3, 0, 5, 1223, 1026, 0), (32, 166, 0, 4238, 5000, 25), (39, 169, 0, 5004, 5006, 26), (51, 168, 0, 5010, 5012, 27), (57, 167, 1, 5015, 5016, 0)] else []) else (bif Nat.beq i 1 then [(3, 0, 5, 1211, 1026, 0), (36, 5, 2, 1214, 1215, 0), (49, 172, 0, 4219, 4220, 4221), (54, 14, 1, 5023, 3004, 0), (60, 184, 0, 5031, 5033, 28), (64, 188, 0, 5076, 5078, 35), (67, 175, 0, 5035, 5037, 29), (70, 176, 0, 5040, 5041, 5042), (73, 183, 0, 5045, 5046, 5047), (85, 187, 0, 5080, 5082, 36), (89, 186, 0, 5084, 5086, 37), (93, 2, 7, 5092, 4112, 4113), (103, 185, 0, 5088, 5090, 38), (109, 213, 1, 5118, 5119, 0), (112, 214, 0, 5121, 5123, 40), (115, 215, 0, 5133, 5115, 5116)] else [])) else (bif Nat.blt i 3 then (bif Nat.beq i 2 then [(3, 0, 5, 1143, 1026, 0), (30, 40, 0, 4140, 3072, 3073), (41, 137, 0, 4143, 4145, 17), (52, 60, 0, 4147, 3130, 3131), (60, 136, 0, 4149, 4151, 18), (69, 61, 0, 4153, 3126, 3127), (73, 48, 3, 10, 3080, 0), (77, 141, 0, 4159, 4161, 19), (80, 143, 0, 4171, 4173, 22), (98, 59, 0, 4175, 3120, 3121), (109, 142, 1, 4176, 4177, 0), (118, 120, 0, 4183, 4061, 4062), (122, 64, 0, 4184, 3116, 3117), (125, 63, 0, 4185, 3137, 3138), (129, 139, 0, 4163, 4165, 20), (133, 140, 0, 4167, 4169, 21)] else []) else (bif Nat.beq i 3 then [(3, 0, 5, 1035, 1026, 0), (68, 0, 1, 1036, 1037, 0), (74, 0, 6, 6036, 3036, 3037), (80, 53, 0, 3102, 3095, 3096), (84, 60, 0, 3129, 3130, 3131), (87, 126, 1, 4123, 4088, 0), (93, 61, 0, 3125, 3126, 3127), (97, 73, 3, 5, 3154, 0), (101, 40, 0, 3123, 3072, 3073), (104, 59, 0, 3119, 3120, 3121), (108, 54, 0, 3124, 3099, 3100), (112, 62, 3, 4, 3134, 0), (115, 63, 0, 3136, 3137, 3138), (119, 118, 0, 4064, 4066, 14), (123, 119, 0, 4074, 4076, 15), (127, 0, 7, 4068, 4069, 4070), (132, 1, 7, 4071, 4072, 4073), (137, 260, 0, 6016, 6018, 46), (140, 72, 0, 6021, 3146, 3147), (143, 74, 0, 6022, 3150, 3151), (146, 64, 0, 6023, 3116, 3117)] else []))) else (bif Nat.blt i 6 then (bif Nat.blt i 5 then (bif Nat.beq i 4 then [(3, 0, 5, 2149, 1026, 0), (32, 226, 0, 5151, 5152, 5153), (41, 227, 1, 5155, 5156, 0), (45, 230, 0, 5158, 5160, 41), (58, 232, 0, 5170, 5172, 42), (61, 228, 0, 5162, 5163, 5164), (77, 229, 0, 5166, 5167, 5168), (81, 231, 0, 5174, 5175, 5176), (85, 242, 0, 5199, 5201, 43), (88, 243, 0, 5203, 5205, 44), (91, 91, 3, 19, 3196, 0), (95, 93, 0, 5208, 3204, 3205), (100, 98, 0, 5213, 3214, 3215), (104, 24, 0, 5214, 3027, 3028)] else []) else (bif Nat.beq i 5 then [(3, 0, 5, 2095, 1026, 0), (60, 101, 0, 3180, 3182, 5), (64, 102, 0, 4019, 4021, 9), (68, 99, 0, 4011, 4013, 7), (72, 104, 0, 4023, 4025, 10), (76, 105, 0, 4033, 4035, 12), (84, 89, 0, 3184, 3186, 6), (87, 90, 1, 3192, 3193, 0), (91, 91, 3, 6, 3196, 0), (95, 93, 0, 3203, 3204, 3205), (100, 98, 0, 3213, 3214, 3215), (104, 100, 0, 4015, 4017, 8), (107, 88, 0, 3188, 3189, 3190), (115, 103, 0, 4028, 4030, 11), (118, 73, 3, 8, 3154, 0), (122, 54, 0, 4027, 3099, 3100), (126, 62, 3, 7, 3134, 0), (135, 107, 0, 4042, 4044, 13), (138, 64, 0, 4046, 3116, 3117), (141, 108, 0, 4047, 4048, 4049)] else [])) else (bif Nat.blt i 7 then (bif Nat.beq i 6 then [(3, 0, 5, 2169, 1026, 0), (25, 14, 1, 3003, 3004, 0), (31, 23, 0, 3030, 3023, 3024)] else []) else (bif Nat.blt i 8 then (bif Nat.beq i 7 then [(3, 0, 5, 1189, 1026, 0), (30, 60, 0, 4107, 3130, 3131), (37, 0, 1, 4097, 1037, 0), (49, 128, 0, 4098, 4100, 16), (53, 3, 7, 4115, 4116, 4117), (65, 54, 0, 4102, 3099, 3100), (72, 127, 0, 4103, 4104, 4105), (83, 1, 7, 4110, 4072, 4073), (85, 2, 7, 4111, 4112, 4113), (93, 14, 1, 5226, 3004, 0), (98, 250, 0, 5228, 5230, 45)] else []) else (bif Nat.beq i 8 then [(3, 0, 5, 1217, 1026, 0), (11, 4, 4, 0, 1221, 0), (37, 129, 0, 4223, 4094, 4095), (47, 40, 0, 4224, 3072, 3073), (51, 171, 0, 4225, 4227, 24), (58, 72, 0, 5021, 3146, 3147), (62, 127, 0, 4229, 4104, 4105), (65, 170, 0, 4234, 4235, 4236), (97, 130, 0, 5044, 4120, 4121), (107, 178, 0, 5049, 5051, 30), (111, 179, 0, 5060, 5062, 32), (114, 181, 0, 5064, 5066, 33), (117, 182, 0, 5072, 5074, 34), (138, 177, 0, 5054, 5056, 31), (141, 54, 0, 5068, 3099, 3100), (144, 180, 3, 18, 5070, 0), (148, 174, 3, 16, 5025, 0), (152, 61, 0, 5058, 3126, 3127), (155, 48, 3, 17, 3080, 0)] else []))))) else (bif Nat.blt i 13 then (bif Nat.blt i 11 then (bif Nat.blt i 10 then (bif Nat.beq i 9 then [(3, 0, 5, 1025, 1026, 0), (17, 1, 2, 1032, 1033, 0), (27, 2, 2, 1140, 1141, 0), (36, 3, 2, 1186, 1187, 0), (43, 6, 2, 1208, 1209, 0), (52, 7, 2, 2092, 2093, 0), (59, 4, 4, 1, 1221, 0), (70, 8, 4, 2, 2147, 0), (86, 9, 4, 3, 2167, 0), (87, 12, 1, 2232, 2233, 0), (91, 13, 0, 2235, 2237, 0), (95, 15, 0, 2239, 3000, 3001), (99, 22, 0, 3010, 3012, 1), (102, 23, 0, 3022, 3023, 3024), (106, 24, 0, 3026, 3027, 3028), (110, 21, 0, 3018, 3019, 3020), (117, 20, 0, 3014, 3015, 3016), (124, 0, 6, 3035, 3036, 3037), (130, 32, 0, 3046, 3047, 3048), (132, 33, 0, 3050, 3051, 3052), (142, 39, 1, 3062, 3063, 0), (145, 41, 0, 3067, 3069, 2), (149, 48, 1, 3079, 3080, 0), (156, 49, 0, 3086, 3087, 3088), (160, 53, 0, 3094, 3095, 3096), (163, 54, 0, 3098, 3099, 3100), (166, 47, 1, 3082, 3083, 0), (175, 65, 0, 3111, 3113, 3), (178, 60, 0, 3144, 3130, 3131), (181, 72, 0, 3145, 3146, 3147), (184, 74, 0, 3149, 3150, 3151), (188, 82, 0, 3164, 3166, 4), (191, 106, 0, 3176, 3177, 3178), (195, 109, 0, 4038, 4039, 4040), (199, 61, 0, 4059, 3126, 3127), (202, 120, 0, 4060, 4061, 4062), (208, 126, 1, 4087, 4088, 0), (214, 129, 0, 4093, 4094, 4095), (217, 127, 0, 4118, 4104, 4105), (220, 130, 0, 4119, 4120, 4121), (223, 131, 0, 4124, 4125, 4126), (238, 40, 0, 3071, 3072, 3073), (241, 138, 0, 4136, 4137, 4138), (244, 144, 0, 4155, 4156, 4157), (247, 145, 0, 4179, 4180, 4181), (262, 159, 1, 4198, 4199, 0), (268, 163, 0, 4205, 4207, 23), (271, 164, 1, 4209, 4210, 0), (274, 165, 1, 4212, 4213, 0), (277, 173, 0, 4215, 4216, 4217), (280, 174, 1, 5024, 5025, 0), (284, 189, 0, 5027, 5028, 5029), (288, 190, 1, 5093, 5094, 0), (292, 209, 0, 5102, 5103, 5104), (296, 212, 0, 5110, 5112, 39), (299, 215, 0, 5114, 5115, 5116), (304, 219, 0, 5129, 5130, 5131), (312, 233, 0, 5147, 5148, 5149), (319, 237, 0, 5182, 5183, 5184), (322, 231, 0, 5186, 5175, 5176), (328, 244, 0, 5195, 5196, 5197), (334, 245, 0, 5209, 5210, 5211), (338, 251, 0, 5222, 5223, 5224), (341, 254, 1, 5236, 5237, 0), (344, 170, 0, 5239, 4235, 4236), (348, 257, 0, 6004, 6005, 6006), (357, 261, 0, 6012, 6013, 6014), (363, 267, 0, 6032, 6033, 6034), (366, 272, 0, 6045, 6046, 6047), (369, 273, 0, 6049, 6050, 6051), (372, 274, 0, 6053, 6054, 6055), (378, 64, 0, 3115, 3116, 3117)] else []) else (bif Nat.beq i 10 then [(1, 0, 5, 6062, 1026, 0), (202, 17, 0, 7066, 7068, 47), (206, 18, 0, 7070, 7072, 48), (210, 26, 0, 7078, 7080, 49), (214, 35, 0, 7094, 7096, 50), (217, 43, 0, 7106, 7108, 51), (221, 44, 0, 7110, 7112, 52), (225, 45, 0, 7114, 7116, 53), (229, 51, 0, 7123, 7125, 54), (237, 2, 7, 7172, 4112, 4113), (243, 3, 7, 7173, 4116, 4117), (246, 0, 7, 7174, 4069, 4070), (249, 1, 7, 7175, 4072, 4073), (251, 67, 0, 7143, 7145, 56), (255, 68, 0, 7151, 7153, 58), (259, 77, 0, 7167, 7169, 61), (262, 69, 0, 7147, 7149, 57), (265, 70, 0, 7139, 7141, 55), (268, 76, 0, 7159, 7161, 59), (271, 78, 0, 7163, 7165, 60), (275, 84, 0, 7184, 7186, 62), (284, 93, 0, 7209, 3204, 3205), (290, 98, 0, 7210, 3214, 3215), (294, 111, 0, 7211, 7213, 65), (307, 112, 0, 7205, 7207, 64), (310, 113, 0, 7215, 7217, 66), (313, 114, 0, 7196, 7198, 63), (316, 122, 0, 7227, 7229, 67), (329, 147, 0, 8011, 8013, 69), (332, 149, 0, 8023, 8025, 72), (336, 150, 0, 8019, 8021, 71), (339, 151, 0, 8027, 8029, 73), (346, 148, 0, 8007, 8009, 68), (350, 152, 0, 8015, 8017, 70), (353, 153, 0, 8031, 8033, 74), (358, 195, 0, 8051, 8053, 76), (361, 197, 0, 8055, 8057, 77), (366, 196, 1, 8060, 8061, 0), (369, 198, 0, 8063, 8065, 78), (374, 199, 0, 8047, 8049, 75), (380, 200, 0, 8112, 8114, 86), (383, 194, 1, 8105, 8106, 0), (386, 201, 0, 8108, 8110, 85), (390, 202, 1, 8116, 8117, 0), (394, 203, 0, 8101, 8103, 84), (402, 204, 0, 8097, 8099, 83), (405, 205, 0, 8119, 8121, 87), (411, 161, 0, 8076, 8078, 79), (414, 192, 0, 8084, 8086, 80), (417, 193, 0, 8088, 8090, 81), (420, 206, 0, 8092, 8094, 82), (423, 207, 1, 8124, 8125, 0), (427, 217, 0, 8136, 8138, 88), (435, 235, 0, 8157, 8159, 89), (444, 248, 0, 8173, 8175, 90), (447, 247, 0, 8177, 8179, 91), (460, 263, 0, 8193, 8195, 92)] else [])) else (bif Nat.blt i 12 then (bif Nat.beq i 11 then [(9, 10, 2, 1022, 1023, 0), (12, 11, 2, 6059, 6060, 0), (13, 16, 0, 2228, 2229, 2230), (17, 19, 0, 7062, 7063, 7064), (20, 25, 0, 3006, 3007, 3008), (24, 27, 0, 7074, 7075, 7076), (25, 28, 0, 3031, 3032, 3033), (29, 29, 0, 7082, 7083, 7084), (30, 30, 0, 3038, 3039, 3040), (34, 31, 0, 7086, 7087, 7088), (35, 34, 0, 3042, 3043, 3044), (39, 36, 0, 7090, 7091, 7092), (40, 37, 0, 3054, 3055, 3056), (44, 38, 0, 7098, 7099, 7100), (45, 42, 0, 3058, 3059, 3060), (48, 46, 0, 7102, 7103, 7104), (49, 50, 0, 3075, 3076, 3077), (53, 52, 0, 7118, 7119, 7120), (54, 55, 0, 3090, 3091, 3092), (57, 56, 0, 7127, 7128, 7129), (58, 57, 0, 3103, 3104, 3105), (61, 58, 0, 7131, 7132, 7133), (62, 66, 0, 3107, 3108, 3109), (65, 71, 0, 7135, 7136, 7137), (66, 75, 0, 3140, 3141, 3142), (69, 79, 0, 7155, 7156, 7157), (70, 80, 0, 3156, 3157, 3158), (73, 81, 0, 7176, 7177, 7178), (74, 83, 0, 3160, 3161, 3162), (77, 85, 0, 7180, 7181, 7182), (78, 86, 0, 3168, 3169, 3170), (81, 87, 0, 7188, 7189, 7190), (82, 110, 0, 3172, 3173, 3174), (85, 115, 0, 7192, 7193, 7194), (86, 116, 0, 4051, 4052, 4053), (90, 117, 0, 7219, 7220, 7221), (91, 121, 0, 4055, 4056, 4057), (94, 123, 0, 7223, 7224, 7225), (95, 124, 0, 4079, 4080, 4081), (98, 125, 0, 7231, 7232, 7233), (99, 132, 0, 4083, 4084, 4085), (102, 133, 0, 7235, 7236, 7237), (103, 134, 0, 4128, 4129, 4130), (106, 135, 0, 7239, 8000, 8001), (107, 146, 0, 4132, 4133, 4134), (110, 154, 0, 8003, 8004, 8005), (111, 155, 0, 4186, 4187, 4188), (114, 156, 0, 8035, 8036, 8037), (115, 157, 0, 4190, 4191, 4192), (118, 158, 0, 8039, 8040, 8041), (119, 160, 0, 4194, 4195, 4196), (123, 162, 0, 8072, 8073, 8074), (124, 191, 0, 4201, 4202, 4203), (128, 208, 0, 8080, 8081, 8082), (129, 210, 0, 5098, 5099, 5100), (132, 211, 0, 8128, 8129, 8130), (133, 216, 0, 5106, 5107, 5108), (136, 218, 0, 8132, 8133, 8134), (137, 220, 0, 5125, 5126, 5127), (140, 221, 0, 8140, 8141, 8142), (141, 222, 0, 5134, 5135, 5136), (144, 223, 0, 8144, 8145, 8146), (145, 224, 0, 5139, 5140, 5141), (149, 225, 0, 8149, 8150, 8151), (150, 234, 0, 5143, 5144, 5145), (153, 236, 0, 8153, 8154, 8155), (154, 238, 0, 5178, 5179, 5180), (157, 239, 0, 8161, 8162, 8163), (158, 240, 0, 5187, 5188, 5189), (162, 241, 0, 8165, 8166, 8167), (163, 246, 0, 5191, 5192, 5193), (166, 249, 0, 8169, 8170, 8171), (167, 252, 0, 5218, 5219, 5220), (170, 253, 0, 8184, 8185, 8186), (171, 255, 0, 5232, 5233, 5234), (174, 256, 0, 8043, 8044, 8045), (175, 258, 0, 6000, 6001, 6002), (178, 259, 0, 8068, 8069, 8070), (179, 262, 0, 6008, 6009, 6010), (182, 264, 0, 8189, 8190, 8191), (183, 265, 0, 6024, 6025, 6026), (186, 266, 0, 8198, 8199, 8200), (187, 268, 0, 6028, 6029, 6030), (190, 269, 0, 8202, 8203, 8204), (191, 270, 0, 6037, 6038, 6039), (194, 271, 0, 8206, 8207, 8208), (195, 275, 0, 6041, 6042, 6043), (198, 276, 0, 8210, 8211, 8212)] else []) else (bif Nat.beq i 12 then [] else []))) else (bif Nat.blt i 15 then (bif Nat.blt i 14 then (bif Nat.beq i 13 then [] else []) else (bif Nat.beq i 14 then [(335, 92, 0, 3207, 3208, 3209), (492, 94, 0, 3217, 3218, 3219), (495, 97, 1, 3221, 3222, 0), (1059, 95, 1, 3229, 3230, 0)] else [])) else (bif Nat.blt i 16 then (bif Nat.beq i 15 then [(9, 96, 1, 3224, 3225, 0)] else []) else (bif Nat.blt i 17 then (bif Nat.beq i 16 then [] else []) else (bif Nat.beq i 17 then [] else [])))))
def am_nest : List Cond := [Cond.methodLinkNest "PlanMemo$Ways" (11 : Nat) ({ cls := "PlanMemo$Bodies", name := "<init>", desc := "()V" } : MethodName) "PlanMemo", Cond.methodLinkNest "PlanMemo" (59 : Nat) ({ cls := "PlanMemo$Bodies", name := "<init>", desc := "()V" } : MethodName) "PlanMemo", Cond.methodLinkNest "PlanMemo" (70 : Nat) ({ cls := "PlanMemo$Plan", name := "<init>", desc := "()V" } : MethodName) "PlanMemo", Cond.methodLinkNest "PlanMemo" (86 : Nat) ({ cls := "PlanMemo$Shelf", name := "<init>", desc := "()V" } : MethodName) "PlanMemo", Cond.methodLinkNest "PlanMemo$Memo" (112 : Nat) ({ cls := "PlanMemo", name := "columnsBy", desc := "(IIII)I" } : MethodName) "PlanMemo", Cond.methodLinkNest "PlanMemo$Memo" (97 : Nat) ({ cls := "PlanMemo", name := "fitsColumns", desc := "(IIII)Z" } : MethodName) "PlanMemo", Cond.methodLinkNest "PlanMemo$Reade\x72" (91 : Nat) ({ cls := "PlanMemo", name := "wordOf", desc := "(I)Ljava/lang/String;" } : MethodName) "PlanMemo", Cond.methodLinkNest "PlanMemo$Reade\x72" (126 : Nat) ({ cls := "PlanMemo", name := "columnsBy", desc := "(IIII)I" } : MethodName) "PlanMemo", Cond.methodLinkNest "PlanMemo$Reade\x72" (118 : Nat) ({ cls := "PlanMemo", name := "fitsColumns", desc := "(IIII)Z" } : MethodName) "PlanMemo", Cond.fieldLinkNest "PlanMemo$Firing" (34 : Nat) "PlanMemo" "RULE_TAKES" "[I" "PlanMemo", Cond.methodLinkNest "PlanMemo$Firing" (73 : Nat) ({ cls := "PlanMemo", name := "hasColumn", desc := "(II)Z" } : MethodName) "PlanMemo", Cond.fieldLinkNest "PlanMemo$Ways" (82 : Nat) "PlanMemo" "SLOTS_OF" "[I" "PlanMemo", Cond.fieldLinkNest "PlanMemo$Ways" (85 : Nat) "PlanMemo" "FIRST_WAY_OF" "[I" "PlanMemo", Cond.fieldLinkNest "PlanMemo$Bodies" (36 : Nat) "PlanMemo" "READS_BODY" "[I" "PlanMemo", Cond.fieldLinkNest "PlanMemo$Bodies" (48 : Nat) "PlanMemo" "WAY_ABOVE" "[I" "PlanMemo", Cond.fieldLinkNest "PlanMemo$Bodies" (43 : Nat) "PlanMemo" "WORKS_BODY" "[I" "PlanMemo", Cond.methodLinkNest "PlanMemo$Ways" (148 : Nat) ({ cls := "PlanMemo", name := "demandOf", desc := "(III)I" } : MethodName) "PlanMemo", Cond.methodLinkNest "PlanMemo$Ways" (155 : Nat) ({ cls := "PlanMemo", name := "hasColumn", desc := "(II)Z" } : MethodName) "PlanMemo", Cond.methodLinkNest "PlanMemo$Ways" (144 : Nat) ({ cls := "PlanMemo", name := "meets", desc := "(II)Z" } : MethodName) "PlanMemo", Cond.methodLinkNest "PlanMemo$Plan" (91 : Nat) ({ cls := "PlanMemo", name := "wordOf", desc := "(I)Ljava/lang/String;" } : MethodName) "PlanMemo"]
def am_nst (i : Nat) : Cond := (am_nest[i]?).getD (.initialized "")
def am_cpos_0 : Nat → Nat := fun i => bif Nat.blt i 4 then (bif Nat.blt i 2 then (bif Nat.blt i 1 then (bif Nat.beq i 0 then 1038 else 0) else (bif Nat.beq i 1 then 1034 else 0)) else (bif Nat.blt i 3 then (bif Nat.beq i 2 then 1142 else 0) else (bif Nat.beq i 3 then 1188 else 0))) else (bif Nat.blt i 6 then (bif Nat.blt i 5 then (bif Nat.beq i 4 then 1222 else 0) else (bif Nat.beq i 5 then 1216 else 0)) else (bif Nat.blt i 7 then (bif Nat.beq i 6 then 1210 else 0) else (bif Nat.beq i 7 then 2094 else 0)))
def am_cpos_1 : Nat → Nat := fun i => bif Nat.blt i 12 then (bif Nat.blt i 10 then (bif Nat.blt i 9 then (bif Nat.beq i 8 then 2148 else 0) else (bif Nat.beq i 9 then 2168 else 0)) else (bif Nat.blt i 11 then (bif Nat.beq i 10 then 1024 else 0) else (bif Nat.beq i 11 then 6061 else 0))) else (bif Nat.blt i 14 then (bif Nat.blt i 13 then (bif Nat.beq i 12 then 2234 else 0) else (bif Nat.beq i 13 then 2238 else 0)) else (bif Nat.blt i 15 then (bif Nat.beq i 14 then 3005 else 0) else (bif Nat.beq i 15 then 3002 else 0)))
def am_cpos_2 : Nat → Nat := fun i => bif Nat.blt i 20 then (bif Nat.blt i 18 then (bif Nat.blt i 17 then (bif Nat.beq i 16 then 2231 else 0) else (bif Nat.beq i 17 then 7069 else 0)) else (bif Nat.blt i 19 then (bif Nat.beq i 18 then 7073 else 0) else (bif Nat.beq i 19 then 7065 else 0))) else (bif Nat.blt i 22 then (bif Nat.blt i 21 then (bif Nat.beq i 20 then 3017 else 0) else (bif Nat.beq i 21 then 3021 else 0)) else (bif Nat.blt i 23 then (bif Nat.beq i 22 then 3013 else 0) else (bif Nat.beq i 23 then 3025 else 0)))
def am_cpos_3 : Nat → Nat := fun i => bif Nat.blt i 28 then (bif Nat.blt i 26 then (bif Nat.blt i 25 then (bif Nat.beq i 24 then 3029 else 0) else (bif Nat.beq i 25 then 3009 else 0)) else (bif Nat.blt i 27 then (bif Nat.beq i 26 then 7081 else 0) else (bif Nat.beq i 27 then 7077 else 0))) else (bif Nat.blt i 30 then (bif Nat.blt i 29 then (bif Nat.beq i 28 then 3034 else 0) else (bif Nat.beq i 29 then 7085 else 0)) else (bif Nat.blt i 31 then (bif Nat.beq i 30 then 3041 else 0) else (bif Nat.beq i 31 then 7089 else 0)))
def am_cpos_4 : Nat → Nat := fun i => bif Nat.blt i 36 then (bif Nat.blt i 34 then (bif Nat.blt i 33 then (bif Nat.beq i 32 then 3049 else 0) else (bif Nat.beq i 33 then 3053 else 0)) else (bif Nat.blt i 35 then (bif Nat.beq i 34 then 3045 else 0) else (bif Nat.beq i 35 then 7097 else 0))) else (bif Nat.blt i 38 then (bif Nat.blt i 37 then (bif Nat.beq i 36 then 7093 else 0) else (bif Nat.beq i 37 then 3057 else 0)) else (bif Nat.blt i 39 then (bif Nat.beq i 38 then 7101 else 0) else (bif Nat.beq i 39 then 3064 else 0)))
def am_cpos_5 : Nat → Nat := fun i => bif Nat.blt i 44 then (bif Nat.blt i 42 then (bif Nat.blt i 41 then (bif Nat.beq i 40 then 3074 else 0) else (bif Nat.beq i 41 then 3070 else 0)) else (bif Nat.blt i 43 then (bif Nat.beq i 42 then 3061 else 0) else (bif Nat.beq i 43 then 7109 else 0))) else (bif Nat.blt i 46 then (bif Nat.blt i 45 then (bif Nat.beq i 44 then 7113 else 0) else (bif Nat.beq i 45 then 7117 else 0)) else (bif Nat.blt i 47 then (bif Nat.beq i 46 then 7105 else 0) else (bif Nat.beq i 47 then 3084 else 0)))
def am_cpos_6 : Nat → Nat := fun i => bif Nat.blt i 52 then (bif Nat.blt i 50 then (bif Nat.blt i 49 then (bif Nat.beq i 48 then 3081 else 0) else (bif Nat.beq i 49 then 3089 else 0)) else (bif Nat.blt i 51 then (bif Nat.beq i 50 then 3078 else 0) else (bif Nat.beq i 51 then 7126 else 0))) else (bif Nat.blt i 54 then (bif Nat.blt i 53 then (bif Nat.beq i 52 then 7121 else 0) else (bif Nat.beq i 53 then 3097 else 0)) else (bif Nat.blt i 55 then (bif Nat.beq i 54 then 3101 else 0) else (bif Nat.beq i 55 then 3093 else 0)))
def am_cpos_7 : Nat → Nat := fun i => bif Nat.blt i 60 then (bif Nat.blt i 58 then (bif Nat.blt i 57 then (bif Nat.beq i 56 then 7130 else 0) else (bif Nat.beq i 57 then 3106 else 0)) else (bif Nat.blt i 59 then (bif Nat.beq i 58 then 7134 else 0) else (bif Nat.beq i 59 then 3122 else 0))) else (bif Nat.blt i 62 then (bif Nat.blt i 61 then (bif Nat.beq i 60 then 3132 else 0) else (bif Nat.beq i 61 then 3128 else 0)) else (bif Nat.blt i 63 then (bif Nat.beq i 62 then 3135 else 0) else (bif Nat.beq i 63 then 3139 else 0)))
def am_cpos_8 : Nat → Nat := fun i => bif Nat.blt i 68 then (bif Nat.blt i 66 then (bif Nat.blt i 65 then (bif Nat.beq i 64 then 3118 else 0) else (bif Nat.beq i 65 then 3114 else 0)) else (bif Nat.blt i 67 then (bif Nat.beq i 66 then 3110 else 0) else (bif Nat.beq i 67 then 7146 else 0))) else (bif Nat.blt i 70 then (bif Nat.blt i 69 then (bif Nat.beq i 68 then 7154 else 0) else (bif Nat.beq i 69 then 7150 else 0)) else (bif Nat.blt i 71 then (bif Nat.beq i 70 then 7142 else 0) else (bif Nat.beq i 71 then 7138 else 0)))
def am_cpos_9 : Nat → Nat := fun i => bif Nat.blt i 76 then (bif Nat.blt i 74 then (bif Nat.blt i 73 then (bif Nat.beq i 72 then 3148 else 0) else (bif Nat.beq i 73 then 3155 else 0)) else (bif Nat.blt i 75 then (bif Nat.beq i 74 then 3152 else 0) else (bif Nat.beq i 75 then 3143 else 0))) else (bif Nat.blt i 78 then (bif Nat.blt i 77 then (bif Nat.beq i 76 then 7162 else 0) else (bif Nat.beq i 77 then 7170 else 0)) else (bif Nat.blt i 79 then (bif Nat.beq i 78 then 7166 else 0) else (bif Nat.beq i 79 then 7158 else 0)))
def am_cpos_10 : Nat → Nat := fun i => bif Nat.blt i 84 then (bif Nat.blt i 82 then (bif Nat.blt i 81 then (bif Nat.beq i 80 then 3159 else 0) else (bif Nat.beq i 81 then 7179 else 0)) else (bif Nat.blt i 83 then (bif Nat.beq i 82 then 3167 else 0) else (bif Nat.beq i 83 then 3163 else 0))) else (bif Nat.blt i 86 then (bif Nat.blt i 85 then (bif Nat.beq i 84 then 7187 else 0) else (bif Nat.beq i 85 then 7183 else 0)) else (bif Nat.blt i 87 then (bif Nat.beq i 86 then 3171 else 0) else (bif Nat.beq i 87 then 7191 else 0)))
def am_cpos_11 : Nat → Nat := fun i => bif Nat.blt i 92 then (bif Nat.blt i 90 then (bif Nat.blt i 89 then (bif Nat.beq i 88 then 3191 else 0) else (bif Nat.beq i 89 then 3187 else 0)) else (bif Nat.blt i 91 then (bif Nat.beq i 90 then 3194 else 0) else (bif Nat.beq i 91 then 3197 else 0))) else (bif Nat.blt i 94 then (bif Nat.blt i 93 then (bif Nat.beq i 92 then 3210 else 0) else (bif Nat.beq i 93 then 3206 else 0)) else (bif Nat.blt i 95 then (bif Nat.beq i 94 then 3220 else 0) else (bif Nat.beq i 95 then 3231 else 0)))
def am_cpos_12 : Nat → Nat := fun i => bif Nat.blt i 100 then (bif Nat.blt i 98 then (bif Nat.blt i 97 then (bif Nat.beq i 96 then 3226 else 0) else (bif Nat.beq i 97 then 3223 else 0)) else (bif Nat.blt i 99 then (bif Nat.beq i 98 then 3216 else 0) else (bif Nat.beq i 99 then 4014 else 0))) else (bif Nat.blt i 102 then (bif Nat.blt i 101 then (bif Nat.beq i 100 then 4018 else 0) else (bif Nat.beq i 101 then 3183 else 0)) else (bif Nat.blt i 103 then (bif Nat.beq i 102 then 4022 else 0) else (bif Nat.beq i 103 then 4031 else 0)))
def am_cpos_13 : Nat → Nat := fun i => bif Nat.blt i 108 then (bif Nat.blt i 106 then (bif Nat.blt i 105 then (bif Nat.beq i 104 then 4026 else 0) else (bif Nat.beq i 105 then 4036 else 0)) else (bif Nat.blt i 107 then (bif Nat.beq i 106 then 3179 else 0) else (bif Nat.beq i 107 then 4045 else 0))) else (bif Nat.blt i 110 then (bif Nat.blt i 109 then (bif Nat.beq i 108 then 4050 else 0) else (bif Nat.beq i 109 then 4041 else 0)) else (bif Nat.blt i 111 then (bif Nat.beq i 110 then 3175 else 0) else (bif Nat.beq i 111 then 7214 else 0)))
def am_cpos_14 : Nat → Nat := fun i => bif Nat.blt i 116 then (bif Nat.blt i 114 then (bif Nat.blt i 113 then (bif Nat.beq i 112 then 7208 else 0) else (bif Nat.beq i 113 then 7218 else 0)) else (bif Nat.blt i 115 then (bif Nat.beq i 114 then 7199 else 0) else (bif Nat.beq i 115 then 7195 else 0))) else (bif Nat.blt i 118 then (bif Nat.blt i 117 then (bif Nat.beq i 116 then 4054 else 0) else (bif Nat.beq i 117 then 7222 else 0)) else (bif Nat.blt i 119 then (bif Nat.beq i 118 then 4067 else 0) else (bif Nat.beq i 119 then 4077 else 0)))
def am_cpos_15 : Nat → Nat := fun i => bif Nat.blt i 124 then (bif Nat.blt i 122 then (bif Nat.blt i 121 then (bif Nat.beq i 120 then 4063 else 0) else (bif Nat.beq i 121 then 4058 else 0)) else (bif Nat.blt i 123 then (bif Nat.beq i 122 then 7230 else 0) else (bif Nat.beq i 123 then 7226 else 0))) else (bif Nat.blt i 126 then (bif Nat.blt i 125 then (bif Nat.beq i 124 then 4082 else 0) else (bif Nat.beq i 125 then 7234 else 0)) else (bif Nat.blt i 127 then (bif Nat.beq i 126 then 4089 else 0) else (bif Nat.beq i 127 then 4106 else 0)))
def am_cpos_16 : Nat → Nat := fun i => bif Nat.blt i 132 then (bif Nat.blt i 130 then (bif Nat.blt i 129 then (bif Nat.beq i 128 then 4101 else 0) else (bif Nat.beq i 129 then 4096 else 0)) else (bif Nat.blt i 131 then (bif Nat.beq i 130 then 4122 else 0) else (bif Nat.beq i 131 then 4127 else 0))) else (bif Nat.blt i 134 then (bif Nat.blt i 133 then (bif Nat.beq i 132 then 4086 else 0) else (bif Nat.beq i 133 then 7238 else 0)) else (bif Nat.blt i 135 then (bif Nat.beq i 134 then 4131 else 0) else (bif Nat.beq i 135 then 8002 else 0)))
def am_cpos_17 : Nat → Nat := fun i => bif Nat.blt i 140 then (bif Nat.blt i 138 then (bif Nat.blt i 137 then (bif Nat.beq i 136 then 4152 else 0) else (bif Nat.beq i 137 then 4146 else 0)) else (bif Nat.blt i 139 then (bif Nat.beq i 138 then 4139 else 0) else (bif Nat.beq i 139 then 4166 else 0))) else (bif Nat.blt i 142 then (bif Nat.blt i 141 then (bif Nat.beq i 140 then 4170 else 0) else (bif Nat.beq i 141 then 4162 else 0)) else (bif Nat.blt i 143 then (bif Nat.beq i 142 then 4178 else 0) else (bif Nat.beq i 143 then 4174 else 0)))
def am_cpos_18 : Nat → Nat := fun i => bif Nat.blt i 148 then (bif Nat.blt i 146 then (bif Nat.blt i 145 then (bif Nat.beq i 144 then 4158 else 0) else (bif Nat.beq i 145 then 4182 else 0)) else (bif Nat.blt i 147 then (bif Nat.beq i 146 then 4135 else 0) else (bif Nat.beq i 147 then 8014 else 0))) else (bif Nat.blt i 150 then (bif Nat.blt i 149 then (bif Nat.beq i 148 then 8010 else 0) else (bif Nat.beq i 149 then 8026 else 0)) else (bif Nat.blt i 151 then (bif Nat.beq i 150 then 8022 else 0) else (bif Nat.beq i 151 then 8030 else 0)))
def am_cpos_19 : Nat → Nat := fun i => bif Nat.blt i 156 then (bif Nat.blt i 154 then (bif Nat.blt i 153 then (bif Nat.beq i 152 then 8018 else 0) else (bif Nat.beq i 153 then 8034 else 0)) else (bif Nat.blt i 155 then (bif Nat.beq i 154 then 8006 else 0) else (bif Nat.beq i 155 then 4189 else 0))) else (bif Nat.blt i 158 then (bif Nat.blt i 157 then (bif Nat.beq i 156 then 8038 else 0) else (bif Nat.beq i 157 then 4193 else 0)) else (bif Nat.blt i 159 then (bif Nat.beq i 158 then 8042 else 0) else (bif Nat.beq i 159 then 4200 else 0)))
def am_cpos_20 : Nat → Nat := fun i => bif Nat.blt i 164 then (bif Nat.blt i 162 then (bif Nat.blt i 161 then (bif Nat.beq i 160 then 4197 else 0) else (bif Nat.beq i 161 then 8079 else 0)) else (bif Nat.blt i 163 then (bif Nat.beq i 162 then 8075 else 0) else (bif Nat.beq i 163 then 4208 else 0))) else (bif Nat.blt i 166 then (bif Nat.blt i 165 then (bif Nat.beq i 164 then 4211 else 0) else (bif Nat.beq i 165 then 4214 else 0)) else (bif Nat.blt i 167 then (bif Nat.beq i 166 then 5001 else 0) else (bif Nat.beq i 167 then 5017 else 0)))
def am_cpos_21 : Nat → Nat := fun i => bif Nat.blt i 172 then (bif Nat.blt i 170 then (bif Nat.blt i 169 then (bif Nat.beq i 168 then 5013 else 0) else (bif Nat.beq i 169 then 5007 else 0)) else (bif Nat.blt i 171 then (bif Nat.beq i 170 then 4237 else 0) else (bif Nat.beq i 171 then 4228 else 0))) else (bif Nat.blt i 174 then (bif Nat.blt i 173 then (bif Nat.beq i 172 then 4222 else 0) else (bif Nat.beq i 173 then 4218 else 0)) else (bif Nat.blt i 175 then (bif Nat.beq i 174 then 5026 else 0) else (bif Nat.beq i 175 then 5038 else 0)))
def am_cpos_22 : Nat → Nat := fun i => bif Nat.blt i 180 then (bif Nat.blt i 178 then (bif Nat.blt i 177 then (bif Nat.beq i 176 then 5043 else 0) else (bif Nat.beq i 177 then 5057 else 0)) else (bif Nat.blt i 179 then (bif Nat.beq i 178 then 5052 else 0) else (bif Nat.beq i 179 then 5063 else 0))) else (bif Nat.blt i 182 then (bif Nat.blt i 181 then (bif Nat.beq i 180 then 5071 else 0) else (bif Nat.beq i 181 then 5067 else 0)) else (bif Nat.blt i 183 then (bif Nat.beq i 182 then 5075 else 0) else (bif Nat.beq i 183 then 5048 else 0)))
def am_cpos_23 : Nat → Nat := fun i => bif Nat.blt i 188 then (bif Nat.blt i 186 then (bif Nat.blt i 185 then (bif Nat.beq i 184 then 5034 else 0) else (bif Nat.beq i 185 then 5091 else 0)) else (bif Nat.blt i 187 then (bif Nat.beq i 186 then 5087 else 0) else (bif Nat.beq i 187 then 5083 else 0))) else (bif Nat.blt i 190 then (bif Nat.blt i 189 then (bif Nat.beq i 188 then 5079 else 0) else (bif Nat.beq i 189 then 5030 else 0)) else (bif Nat.blt i 191 then (bif Nat.beq i 190 then 5095 else 0) else (bif Nat.beq i 191 then 4204 else 0)))
def am_cpos_24 : Nat → Nat := fun i => bif Nat.blt i 196 then (bif Nat.blt i 194 then (bif Nat.blt i 193 then (bif Nat.beq i 192 then 8087 else 0) else (bif Nat.beq i 193 then 8091 else 0)) else (bif Nat.blt i 195 then (bif Nat.beq i 194 then 8107 else 0) else (bif Nat.beq i 195 then 8054 else 0))) else (bif Nat.blt i 198 then (bif Nat.blt i 197 then (bif Nat.beq i 196 then 8062 else 0) else (bif Nat.beq i 197 then 8058 else 0)) else (bif Nat.blt i 199 then (bif Nat.beq i 198 then 8066 else 0) else (bif Nat.beq i 199 then 8050 else 0)))
def am_cpos_25 : Nat → Nat := fun i => bif Nat.blt i 204 then (bif Nat.blt i 202 then (bif Nat.blt i 201 then (bif Nat.beq i 200 then 8115 else 0) else (bif Nat.beq i 201 then 8111 else 0)) else (bif Nat.blt i 203 then (bif Nat.beq i 202 then 8118 else 0) else (bif Nat.beq i 203 then 8104 else 0))) else (bif Nat.blt i 206 then (bif Nat.blt i 205 then (bif Nat.beq i 204 then 8100 else 0) else (bif Nat.beq i 205 then 8122 else 0)) else (bif Nat.blt i 207 then (bif Nat.beq i 206 then 8095 else 0) else (bif Nat.beq i 207 then 8126 else 0)))
def am_cpos_26 : Nat → Nat := fun i => bif Nat.blt i 212 then (bif Nat.blt i 210 then (bif Nat.blt i 209 then (bif Nat.beq i 208 then 8083 else 0) else (bif Nat.beq i 209 then 5105 else 0)) else (bif Nat.blt i 211 then (bif Nat.beq i 210 then 5101 else 0) else (bif Nat.beq i 211 then 8131 else 0))) else (bif Nat.blt i 214 then (bif Nat.blt i 213 then (bif Nat.beq i 212 then 5113 else 0) else (bif Nat.beq i 213 then 5120 else 0)) else (bif Nat.blt i 215 then (bif Nat.beq i 214 then 5124 else 0) else (bif Nat.beq i 215 then 5117 else 0)))
def am_cpos_27 : Nat → Nat := fun i => bif Nat.blt i 220 then (bif Nat.blt i 218 then (bif Nat.blt i 217 then (bif Nat.beq i 216 then 5109 else 0) else (bif Nat.beq i 217 then 8139 else 0)) else (bif Nat.blt i 219 then (bif Nat.beq i 218 then 8135 else 0) else (bif Nat.beq i 219 then 5132 else 0))) else (bif Nat.blt i 222 then (bif Nat.blt i 221 then (bif Nat.beq i 220 then 5128 else 0) else (bif Nat.beq i 221 then 8143 else 0)) else (bif Nat.blt i 223 then (bif Nat.beq i 222 then 5137 else 0) else (bif Nat.beq i 223 then 8147 else 0)))
def am_cpos_28 : Nat → Nat := fun i => bif Nat.blt i 228 then (bif Nat.blt i 226 then (bif Nat.blt i 225 then (bif Nat.beq i 224 then 5142 else 0) else (bif Nat.beq i 225 then 8152 else 0)) else (bif Nat.blt i 227 then (bif Nat.beq i 226 then 5154 else 0) else (bif Nat.beq i 227 then 5157 else 0))) else (bif Nat.blt i 230 then (bif Nat.blt i 229 then (bif Nat.beq i 228 then 5165 else 0) else (bif Nat.beq i 229 then 5169 else 0)) else (bif Nat.blt i 231 then (bif Nat.beq i 230 then 5161 else 0) else (bif Nat.beq i 231 then 5177 else 0)))
def am_cpos_29 : Nat → Nat := fun i => bif Nat.blt i 236 then (bif Nat.blt i 234 then (bif Nat.blt i 233 then (bif Nat.beq i 232 then 5173 else 0) else (bif Nat.beq i 233 then 5150 else 0)) else (bif Nat.blt i 235 then (bif Nat.beq i 234 then 5146 else 0) else (bif Nat.beq i 235 then 8160 else 0))) else (bif Nat.blt i 238 then (bif Nat.blt i 237 then (bif Nat.beq i 236 then 8156 else 0) else (bif Nat.beq i 237 then 5185 else 0)) else (bif Nat.blt i 239 then (bif Nat.beq i 238 then 5181 else 0) else (bif Nat.beq i 239 then 8164 else 0)))
def am_cpos_30 : Nat → Nat := fun i => bif Nat.blt i 244 then (bif Nat.blt i 242 then (bif Nat.blt i 241 then (bif Nat.beq i 240 then 5190 else 0) else (bif Nat.beq i 241 then 8168 else 0)) else (bif Nat.blt i 243 then (bif Nat.beq i 242 then 5202 else 0) else (bif Nat.beq i 243 then 5206 else 0))) else (bif Nat.blt i 246 then (bif Nat.blt i 245 then (bif Nat.beq i 244 then 5198 else 0) else (bif Nat.beq i 245 then 5212 else 0)) else (bif Nat.blt i 247 then (bif Nat.beq i 246 then 5194 else 0) else (bif Nat.beq i 247 then 8180 else 0)))
def am_cpos_31 : Nat → Nat := fun i => bif Nat.blt i 252 then (bif Nat.blt i 250 then (bif Nat.blt i 249 then (bif Nat.beq i 248 then 8176 else 0) else (bif Nat.beq i 249 then 8172 else 0)) else (bif Nat.blt i 251 then (bif Nat.beq i 250 then 5231 else 0) else (bif Nat.beq i 251 then 5225 else 0))) else (bif Nat.blt i 254 then (bif Nat.blt i 253 then (bif Nat.beq i 252 then 5221 else 0) else (bif Nat.beq i 253 then 8187 else 0)) else (bif Nat.blt i 255 then (bif Nat.beq i 254 then 5238 else 0) else (bif Nat.beq i 255 then 5235 else 0)))
def am_cpos_32 : Nat → Nat := fun i => bif Nat.blt i 260 then (bif Nat.blt i 258 then (bif Nat.blt i 257 then (bif Nat.beq i 256 then 8046 else 0) else (bif Nat.beq i 257 then 6007 else 0)) else (bif Nat.blt i 259 then (bif Nat.beq i 258 then 6003 else 0) else (bif Nat.beq i 259 then 8071 else 0))) else (bif Nat.blt i 262 then (bif Nat.blt i 261 then (bif Nat.beq i 260 then 6019 else 0) else (bif Nat.beq i 261 then 6015 else 0)) else (bif Nat.blt i 263 then (bif Nat.beq i 262 then 6011 else 0) else (bif Nat.beq i 263 then 8196 else 0)))
def am_cpos_33 : Nat → Nat := fun i => bif Nat.blt i 268 then (bif Nat.blt i 266 then (bif Nat.blt i 265 then (bif Nat.beq i 264 then 8192 else 0) else (bif Nat.beq i 265 then 6027 else 0)) else (bif Nat.blt i 267 then (bif Nat.beq i 266 then 8201 else 0) else (bif Nat.beq i 267 then 6035 else 0))) else (bif Nat.blt i 270 then (bif Nat.blt i 269 then (bif Nat.beq i 268 then 6031 else 0) else (bif Nat.beq i 269 then 8205 else 0)) else (bif Nat.blt i 271 then (bif Nat.beq i 270 then 6040 else 0) else (bif Nat.beq i 271 then 8209 else 0)))
def am_cpos_34 : Nat → Nat := fun i => bif Nat.blt i 274 then (bif Nat.blt i 273 then (bif Nat.beq i 272 then 6048 else 0) else (bif Nat.beq i 273 then 6052 else 0)) else (bif Nat.blt i 275 then (bif Nat.beq i 274 then 6056 else 0) else (bif Nat.blt i 276 then (bif Nat.beq i 275 then 6044 else 0) else (bif Nat.beq i 276 then 8213 else 0)))
def am_cpos_0_2 : Nat → Nat := fun i => bif Nat.blt i 8 then am_cpos_0 i else am_cpos_1 i
def am_cpos_2_4 : Nat → Nat := fun i => bif Nat.blt i 24 then am_cpos_2 i else am_cpos_3 i
def am_cpos_0_4 : Nat → Nat := fun i => bif Nat.blt i 16 then am_cpos_0_2 i else am_cpos_2_4 i
def am_cpos_4_6 : Nat → Nat := fun i => bif Nat.blt i 40 then am_cpos_4 i else am_cpos_5 i
def am_cpos_6_8 : Nat → Nat := fun i => bif Nat.blt i 56 then am_cpos_6 i else am_cpos_7 i
def am_cpos_4_8 : Nat → Nat := fun i => bif Nat.blt i 48 then am_cpos_4_6 i else am_cpos_6_8 i
def am_cpos_0_8 : Nat → Nat := fun i => bif Nat.blt i 32 then am_cpos_0_4 i else am_cpos_4_8 i
def am_cpos_8_10 : Nat → Nat := fun i => bif Nat.blt i 72 then am_cpos_8 i else am_cpos_9 i
def am_cpos_10_12 : Nat → Nat := fun i => bif Nat.blt i 88 then am_cpos_10 i else am_cpos_11 i
def am_cpos_8_12 : Nat → Nat := fun i => bif Nat.blt i 80 then am_cpos_8_10 i else am_cpos_10_12 i
def am_cpos_12_14 : Nat → Nat := fun i => bif Nat.blt i 104 then am_cpos_12 i else am_cpos_13 i
def am_cpos_15_17 : Nat → Nat := fun i => bif Nat.blt i 128 then am_cpos_15 i else am_cpos_16 i
def am_cpos_14_17 : Nat → Nat := fun i => bif Nat.blt i 120 then am_cpos_14 i else am_cpos_15_17 i
def am_cpos_12_17 : Nat → Nat := fun i => bif Nat.blt i 112 then am_cpos_12_14 i else am_cpos_14_17 i
def am_cpos_8_17 : Nat → Nat := fun i => bif Nat.blt i 96 then am_cpos_8_12 i else am_cpos_12_17 i
def am_cpos_0_17 : Nat → Nat := fun i => bif Nat.blt i 64 then am_cpos_0_8 i else am_cpos_8_17 i
def am_cpos_17_19 : Nat → Nat := fun i => bif Nat.blt i 144 then am_cpos_17 i else am_cpos_18 i
def am_cpos_19_21 : Nat → Nat := fun i => bif Nat.blt i 160 then am_cpos_19 i else am_cpos_20 i
def am_cpos_17_21 : Nat → Nat := fun i => bif Nat.blt i 152 then am_cpos_17_19 i else am_cpos_19_21 i
def am_cpos_21_23 : Nat → Nat := fun i => bif Nat.blt i 176 then am_cpos_21 i else am_cpos_22 i
def am_cpos_24_26 : Nat → Nat := fun i => bif Nat.blt i 200 then am_cpos_24 i else am_cpos_25 i
def am_cpos_23_26 : Nat → Nat := fun i => bif Nat.blt i 192 then am_cpos_23 i else am_cpos_24_26 i
def am_cpos_21_26 : Nat → Nat := fun i => bif Nat.blt i 184 then am_cpos_21_23 i else am_cpos_23_26 i
def am_cpos_17_26 : Nat → Nat := fun i => bif Nat.blt i 168 then am_cpos_17_21 i else am_cpos_21_26 i
def am_cpos_26_28 : Nat → Nat := fun i => bif Nat.blt i 216 then am_cpos_26 i else am_cpos_27 i
def am_cpos_28_30 : Nat → Nat := fun i => bif Nat.blt i 232 then am_cpos_28 i else am_cpos_29 i
def am_cpos_26_30 : Nat → Nat := fun i => bif Nat.blt i 224 then am_cpos_26_28 i else am_cpos_28_30 i
def am_cpos_30_32 : Nat → Nat := fun i => bif Nat.blt i 248 then am_cpos_30 i else am_cpos_31 i
def am_cpos_33_35 : Nat → Nat := fun i => bif Nat.blt i 272 then am_cpos_33 i else am_cpos_34 i
def am_cpos_32_35 : Nat → Nat := fun i => bif Nat.blt i 264 then am_cpos_32 i else am_cpos_33_35 i
def am_cpos_30_35 : Nat → Nat := fun i => bif Nat.blt i 256 then am_cpos_30_32 i else am_cpos_32_35 i
def am_cpos_26_35 : Nat → Nat := fun i => bif Nat.blt i 240 then am_cpos_26_30 i else am_cpos_30_35 i
def am_cpos_17_35 : Nat → Nat := fun i => bif Nat.blt i 208 then am_cpos_17_26 i else am_cpos_26_35 i
def am_cpos : Nat → Nat := fun i => bif Nat.blt i 136 then am_cpos_0_17 i else am_cpos_17_35 i
def am_npar_0 : Nat → Nat := fun i => bif Nat.blt i 4 then (bif Nat.blt i 2 then (bif Nat.blt i 1 then (bif Nat.beq i 0 then 2 else 0) else (bif Nat.beq i 1 then 0 else 0)) else (bif Nat.blt i 3 then (bif Nat.beq i 2 then 1 else 0) else (bif Nat.beq i 3 then 1 else 0))) else (bif Nat.blt i 6 then (bif Nat.blt i 5 then (bif Nat.beq i 4 then 0 else 0) else (bif Nat.beq i 5 then 2 else 0)) else (bif Nat.blt i 7 then (bif Nat.beq i 6 then 2 else 0) else (bif Nat.beq i 7 then 1 else 0)))
def am_npar_1 : Nat → Nat := fun i => bif Nat.blt i 12 then (bif Nat.blt i 10 then (bif Nat.blt i 9 then (bif Nat.beq i 8 then 0 else 0) else (bif Nat.beq i 9 then 0 else 0)) else (bif Nat.blt i 11 then (bif Nat.beq i 10 then 0 else 0) else (bif Nat.beq i 11 then 0 else 0))) else (bif Nat.blt i 14 then (bif Nat.blt i 13 then (bif Nat.beq i 12 then 1 else 0) else (bif Nat.beq i 13 then 1 else 0)) else (bif Nat.blt i 15 then (bif Nat.beq i 14 then 2 else 0) else (bif Nat.beq i 15 then 2 else 0)))
def am_npar_2 : Nat → Nat := fun i => bif Nat.blt i 20 then (bif Nat.blt i 18 then (bif Nat.blt i 17 then (bif Nat.beq i 16 then 3 else 0) else (bif Nat.beq i 17 then 1 else 0)) else (bif Nat.blt i 19 then (bif Nat.beq i 18 then 1 else 0) else (bif Nat.beq i 19 then 3 else 0))) else (bif Nat.blt i 22 then (bif Nat.blt i 21 then (bif Nat.beq i 20 then 0 else 0) else (bif Nat.beq i 21 then 0 else 0)) else (bif Nat.blt i 23 then (bif Nat.beq i 22 then 1 else 0) else (bif Nat.beq i 23 then 2 else 0)))
def am_npar_3 : Nat → Nat := fun i => bif Nat.blt i 28 then (bif Nat.blt i 26 then (bif Nat.blt i 25 then (bif Nat.beq i 24 then 2 else 0) else (bif Nat.beq i 25 then 3 else 0)) else (bif Nat.blt i 27 then (bif Nat.beq i 26 then 3 else 0) else (bif Nat.beq i 27 then 3 else 0))) else (bif Nat.blt i 30 then (bif Nat.blt i 29 then (bif Nat.beq i 28 then 5 else 0) else (bif Nat.beq i 29 then 5 else 0)) else (bif Nat.blt i 31 then (bif Nat.beq i 30 then 2 else 0) else (bif Nat.beq i 31 then 2 else 0)))
def am_npar_4 : Nat → Nat := fun i => bif Nat.blt i 36 then (bif Nat.blt i 34 then (bif Nat.blt i 33 then (bif Nat.beq i 32 then 1 else 0) else (bif Nat.beq i 33 then 1 else 0)) else (bif Nat.blt i 35 then (bif Nat.beq i 34 then 2 else 0) else (bif Nat.beq i 35 then 1 else 0))) else (bif Nat.blt i 38 then (bif Nat.blt i 37 then (bif Nat.beq i 36 then 2 else 0) else (bif Nat.beq i 37 then 1 else 0)) else (bif Nat.blt i 39 then (bif Nat.beq i 38 then 1 else 0) else (bif Nat.beq i 39 then 2 else 0)))
def am_npar_5 : Nat → Nat := fun i => bif Nat.blt i 44 then (bif Nat.blt i 42 then (bif Nat.blt i 41 then (bif Nat.beq i 40 then 1 else 0) else (bif Nat.beq i 41 then 2 else 0)) else (bif Nat.blt i 43 then (bif Nat.beq i 42 then 2 else 0) else (bif Nat.beq i 43 then 3 else 0))) else (bif Nat.blt i 46 then (bif Nat.blt i 45 then (bif Nat.beq i 44 then 2 else 0) else (bif Nat.beq i 45 then 1 else 0)) else (bif Nat.blt i 47 then (bif Nat.beq i 46 then 2 else 0) else (bif Nat.beq i 47 then 1 else 0)))
def am_npar_6 : Nat → Nat := fun i => bif Nat.blt i 52 then (bif Nat.blt i 50 then (bif Nat.blt i 49 then (bif Nat.beq i 48 then 2 else 0) else (bif Nat.beq i 49 then 4 else 0)) else (bif Nat.blt i 51 then (bif Nat.beq i 50 then 4 else 0) else (bif Nat.beq i 51 then 2 else 0))) else (bif Nat.blt i 54 then (bif Nat.blt i 53 then (bif Nat.beq i 52 then 4 else 0) else (bif Nat.beq i 53 then 1 else 0)) else (bif Nat.blt i 55 then (bif Nat.beq i 54 then 2 else 0) else (bif Nat.beq i 55 then 2 else 0)))
def am_npar_7 : Nat → Nat := fun i => bif Nat.blt i 60 then (bif Nat.blt i 58 then (bif Nat.blt i 57 then (bif Nat.beq i 56 then 2 else 0) else (bif Nat.beq i 57 then 2 else 0)) else (bif Nat.blt i 59 then (bif Nat.beq i 58 then 2 else 0) else (bif Nat.beq i 59 then 4 else 0))) else (bif Nat.blt i 62 then (bif Nat.blt i 61 then (bif Nat.beq i 60 then 1 else 0) else (bif Nat.beq i 61 then 1 else 0)) else (bif Nat.blt i 63 then (bif Nat.beq i 62 then 4 else 0) else (bif Nat.beq i 63 then 5 else 0)))
def am_npar_8 : Nat → Nat := fun i => bif Nat.blt i 68 then (bif Nat.blt i 66 then (bif Nat.blt i 65 then (bif Nat.beq i 64 then 4 else 0) else (bif Nat.beq i 65 then 4 else 0)) else (bif Nat.blt i 67 then (bif Nat.beq i 66 then 1 else 0) else (bif Nat.beq i 67 then 4 else 0))) else (bif Nat.blt i 70 then (bif Nat.blt i 69 then (bif Nat.beq i 68 then 5 else 0) else (bif Nat.beq i 69 then 4 else 0)) else (bif Nat.blt i 71 then (bif Nat.beq i 70 then 4 else 0) else (bif Nat.beq i 71 then 1 else 0)))
def am_npar_9 : Nat → Nat := fun i => bif Nat.blt i 76 then (bif Nat.blt i 74 then (bif Nat.blt i 73 then (bif Nat.beq i 72 then 1 else 0) else (bif Nat.beq i 73 then 4 else 0)) else (bif Nat.blt i 75 then (bif Nat.beq i 74 then 4 else 0) else (bif Nat.beq i 75 then 2 else 0))) else (bif Nat.blt i 78 then (bif Nat.blt i 77 then (bif Nat.beq i 76 then 1 else 0) else (bif Nat.beq i 77 then 0 else 0)) else (bif Nat.blt i 79 then (bif Nat.beq i 78 then 4 else 0) else (bif Nat.beq i 79 then 2 else 0)))
def am_npar_10 : Nat → Nat := fun i => bif Nat.blt i 84 then (bif Nat.blt i 82 then (bif Nat.blt i 81 then (bif Nat.beq i 80 then 2 else 0) else (bif Nat.beq i 81 then 2 else 0)) else (bif Nat.blt i 83 then (bif Nat.beq i 82 then 4 else 0) else (bif Nat.beq i 83 then 3 else 0))) else (bif Nat.blt i 86 then (bif Nat.blt i 85 then (bif Nat.beq i 84 then 4 else 0) else (bif Nat.beq i 85 then 3 else 0)) else (bif Nat.blt i 87 then (bif Nat.beq i 86 then 3 else 0) else (bif Nat.beq i 87 then 3 else 0)))
def am_npar_11 : Nat → Nat := fun i => bif Nat.blt i 92 then (bif Nat.blt i 90 then (bif Nat.blt i 89 then (bif Nat.beq i 88 then 1 else 0) else (bif Nat.beq i 89 then 0 else 0)) else (bif Nat.blt i 91 then (bif Nat.beq i 90 then 1 else 0) else (bif Nat.beq i 91 then 1 else 0))) else (bif Nat.blt i 94 then (bif Nat.blt i 93 then (bif Nat.beq i 92 then 0 else 0) else (bif Nat.beq i 93 then 0 else 0)) else (bif Nat.blt i 95 then (bif Nat.beq i 94 then 0 else 0) else (bif Nat.beq i 95 then 3 else 0)))
def am_npar_12 : Nat → Nat := fun i => bif Nat.blt i 100 then (bif Nat.blt i 98 then (bif Nat.blt i 97 then (bif Nat.beq i 96 then 2 else 0) else (bif Nat.beq i 97 then 2 else 0)) else (bif Nat.blt i 99 then (bif Nat.beq i 98 then 1 else 0) else (bif Nat.beq i 99 then 1 else 0))) else (bif Nat.blt i 102 then (bif Nat.blt i 101 then (bif Nat.beq i 100 then 1 else 0) else (bif Nat.beq i 101 then 0 else 0)) else (bif Nat.blt i 103 then (bif Nat.beq i 102 then 0 else 0) else (bif Nat.beq i 103 then 1 else 0)))
def am_npar_13 : Nat → Nat := fun i => bif Nat.blt i 108 then (bif Nat.blt i 106 then (bif Nat.blt i 105 then (bif Nat.beq i 104 then 2 else 0) else (bif Nat.beq i 105 then 0 else 0)) else (bif Nat.blt i 107 then (bif Nat.beq i 106 then 1 else 0) else (bif Nat.beq i 107 then 1 else 0))) else (bif Nat.blt i 110 then (bif Nat.blt i 109 then (bif Nat.beq i 108 then 2 else 0) else (bif Nat.beq i 109 then 0 else 0)) else (bif Nat.blt i 111 then (bif Nat.beq i 110 then 1 else 0) else (bif Nat.beq i 111 then 1 else 0)))
def am_npar_14 : Nat → Nat := fun i => bif Nat.blt i 116 then (bif Nat.blt i 114 then (bif Nat.blt i 113 then (bif Nat.beq i 112 then 1 else 0) else (bif Nat.beq i 113 then 1 else 0)) else (bif Nat.blt i 115 then (bif Nat.beq i 114 then 0 else 0) else (bif Nat.beq i 115 then 1 else 0))) else (bif Nat.blt i 118 then (bif Nat.blt i 117 then (bif Nat.beq i 116 then 0 else 0) else (bif Nat.beq i 117 then 0 else 0)) else (bif Nat.blt i 119 then (bif Nat.beq i 118 then 2 else 0) else (bif Nat.beq i 119 then 0 else 0)))
def am_npar_15 : Nat → Nat := fun i => bif Nat.blt i 124 then (bif Nat.blt i 122 then (bif Nat.blt i 121 then (bif Nat.beq i 120 then 2 else 0) else (bif Nat.beq i 121 then 2 else 0)) else (bif Nat.blt i 123 then (bif Nat.beq i 122 then 2 else 0) else (bif Nat.beq i 123 then 2 else 0))) else (bif Nat.blt i 126 then (bif Nat.blt i 125 then (bif Nat.beq i 124 then 1 else 0) else (bif Nat.beq i 125 then 1 else 0)) else (bif Nat.blt i 127 then (bif Nat.beq i 126 then 1 else 0) else (bif Nat.beq i 127 then 1 else 0)))
def am_npar_16 : Nat → Nat := fun i => bif Nat.blt i 132 then (bif Nat.blt i 130 then (bif Nat.blt i 129 then (bif Nat.beq i 128 then 1 else 0) else (bif Nat.beq i 129 then 0 else 0)) else (bif Nat.blt i 131 then (bif Nat.beq i 130 then 2 else 0) else (bif Nat.beq i 131 then 1 else 0))) else (bif Nat.blt i 134 then (bif Nat.blt i 133 then (bif Nat.beq i 132 then 2 else 0) else (bif Nat.beq i 133 then 2 else 0)) else (bif Nat.blt i 135 then (bif Nat.beq i 134 then 2 else 0) else (bif Nat.beq i 135 then 2 else 0)))
def am_npar_17 : Nat → Nat := fun i => bif Nat.blt i 140 then (bif Nat.blt i 138 then (bif Nat.blt i 137 then (bif Nat.beq i 136 then 0 else 0) else (bif Nat.beq i 137 then 0 else 0)) else (bif Nat.blt i 139 then (bif Nat.beq i 138 then 0 else 0) else (bif Nat.beq i 139 then 4 else 0))) else (bif Nat.blt i 142 then (bif Nat.blt i 141 then (bif Nat.beq i 140 then 4 else 0) else (bif Nat.beq i 141 then 0 else 0)) else (bif Nat.blt i 143 then (bif Nat.beq i 142 then 2 else 0) else (bif Nat.beq i 143 then 0 else 0)))
def am_npar_18 : Nat → Nat := fun i => bif Nat.blt i 148 then (bif Nat.blt i 146 then (bif Nat.blt i 145 then (bif Nat.beq i 144 then 0 else 0) else (bif Nat.beq i 145 then 0 else 0)) else (bif Nat.blt i 147 then (bif Nat.beq i 146 then 1 else 0) else (bif Nat.beq i 147 then 3 else 0))) else (bif Nat.blt i 150 then (bif Nat.blt i 149 then (bif Nat.beq i 148 then 0 else 0) else (bif Nat.beq i 149 then 4 else 0)) else (bif Nat.blt i 151 then (bif Nat.beq i 150 then 0 else 0) else (bif Nat.beq i 151 then 1 else 0)))
def am_npar_19 : Nat → Nat := fun i => bif Nat.blt i 156 then (bif Nat.blt i 154 then (bif Nat.blt i 153 then (bif Nat.beq i 152 then 0 else 0) else (bif Nat.beq i 153 then 0 else 0)) else (bif Nat.blt i 155 then (bif Nat.beq i 154 then 1 else 0) else (bif Nat.beq i 155 then 1 else 0))) else (bif Nat.blt i 158 then (bif Nat.blt i 157 then (bif Nat.beq i 156 then 1 else 0) else (bif Nat.beq i 157 then 1 else 0)) else (bif Nat.blt i 159 then (bif Nat.beq i 158 then 1 else 0) else (bif Nat.beq i 159 then 1 else 0)))
def am_npar_20 : Nat → Nat := fun i => bif Nat.blt i 164 then (bif Nat.blt i 162 then (bif Nat.blt i 161 then (bif Nat.beq i 160 then 2 else 0) else (bif Nat.beq i 161 then 1 else 0)) else (bif Nat.blt i 163 then (bif Nat.beq i 162 then 2 else 0) else (bif Nat.beq i 163 then 1 else 0))) else (bif Nat.blt i 166 then (bif Nat.blt i 165 then (bif Nat.beq i 164 then 1 else 0) else (bif Nat.beq i 165 then 1 else 0)) else (bif Nat.blt i 167 then (bif Nat.beq i 166 then 1 else 0) else (bif Nat.beq i 167 then 1 else 0)))
def am_npar_21 : Nat → Nat := fun i => bif Nat.blt i 172 then (bif Nat.blt i 170 then (bif Nat.blt i 169 then (bif Nat.beq i 168 then 2 else 0) else (bif Nat.beq i 169 then 2 else 0)) else (bif Nat.blt i 171 then (bif Nat.beq i 170 then 4 else 0) else (bif Nat.beq i 171 then 1 else 0))) else (bif Nat.blt i 174 then (bif Nat.blt i 173 then (bif Nat.beq i 172 then 0 else 0) else (bif Nat.beq i 173 then 1 else 0)) else (bif Nat.blt i 175 then (bif Nat.beq i 174 then 3 else 0) else (bif Nat.beq i 175 then 1 else 0)))
def am_npar_22 : Nat → Nat := fun i => bif Nat.blt i 180 then (bif Nat.blt i 178 then (bif Nat.blt i 177 then (bif Nat.beq i 176 then 1 else 0) else (bif Nat.beq i 177 then 1 else 0)) else (bif Nat.blt i 179 then (bif Nat.beq i 178 then 0 else 0) else (bif Nat.beq i 179 then 0 else 0))) else (bif Nat.blt i 182 then (bif Nat.blt i 181 then (bif Nat.beq i 180 then 2 else 0) else (bif Nat.beq i 181 then 0 else 0)) else (bif Nat.blt i 183 then (bif Nat.beq i 182 then 1 else 0) else (bif Nat.beq i 183 then 0 else 0)))
def am_npar_23 : Nat → Nat := fun i => bif Nat.blt i 188 then (bif Nat.blt i 186 then (bif Nat.blt i 185 then (bif Nat.beq i 184 then 1 else 0) else (bif Nat.beq i 185 then 1 else 0)) else (bif Nat.blt i 187 then (bif Nat.beq i 186 then 0 else 0) else (bif Nat.beq i 187 then 1 else 0))) else (bif Nat.blt i 190 then (bif Nat.blt i 189 then (bif Nat.beq i 188 then 0 else 0) else (bif Nat.beq i 189 then 1 else 0)) else (bif Nat.blt i 191 then (bif Nat.beq i 190 then 1 else 0) else (bif Nat.beq i 191 then 3 else 0)))
def am_npar_24 : Nat → Nat := fun i => bif Nat.blt i 196 then (bif Nat.blt i 194 then (bif Nat.blt i 193 then (bif Nat.beq i 192 then 1 else 0) else (bif Nat.beq i 193 then 2 else 0)) else (bif Nat.blt i 195 then (bif Nat.beq i 194 then 2 else 0) else (bif Nat.beq i 195 then 1 else 0))) else (bif Nat.blt i 198 then (bif Nat.blt i 197 then (bif Nat.beq i 196 then 1 else 0) else (bif Nat.beq i 197 then 4 else 0)) else (bif Nat.blt i 199 then (bif Nat.beq i 198 then 4 else 0) else (bif Nat.beq i 199 then 4 else 0)))
def am_npar_25 : Nat → Nat := fun i => bif Nat.blt i 204 then (bif Nat.blt i 202 then (bif Nat.blt i 201 then (bif Nat.beq i 200 then 4 else 0) else (bif Nat.beq i 201 then 8 else 0)) else (bif Nat.blt i 203 then (bif Nat.beq i 202 then 3 else 0) else (bif Nat.beq i 203 then 3 else 0))) else (bif Nat.blt i 206 then (bif Nat.blt i 205 then (bif Nat.beq i 204 then 1 else 0) else (bif Nat.beq i 205 then 1 else 0)) else (bif Nat.blt i 207 then (bif Nat.beq i 206 then 0 else 0) else (bif Nat.beq i 207 then 1 else 0)))
def am_npar_26 : Nat → Nat := fun i => bif Nat.blt i 212 then (bif Nat.blt i 210 then (bif Nat.blt i 209 then (bif Nat.beq i 208 then 3 else 0) else (bif Nat.beq i 209 then 2 else 0)) else (bif Nat.blt i 211 then (bif Nat.beq i 210 then 3 else 0) else (bif Nat.beq i 211 then 3 else 0))) else (bif Nat.blt i 214 then (bif Nat.blt i 213 then (bif Nat.beq i 212 then 3 else 0) else (bif Nat.beq i 213 then 2 else 0)) else (bif Nat.blt i 215 then (bif Nat.beq i 214 then 1 else 0) else (bif Nat.beq i 215 then 1 else 0)))
def am_npar_27 : Nat → Nat := fun i => bif Nat.blt i 220 then (bif Nat.blt i 218 then (bif Nat.blt i 217 then (bif Nat.beq i 216 then 3 else 0) else (bif Nat.beq i 217 then 1 else 0)) else (bif Nat.blt i 219 then (bif Nat.beq i 218 then 3 else 0) else (bif Nat.beq i 219 then 2 else 0))) else (bif Nat.blt i 222 then (bif Nat.blt i 221 then (bif Nat.beq i 220 then 3 else 0) else (bif Nat.beq i 221 then 3 else 0)) else (bif Nat.blt i 223 then (bif Nat.beq i 222 then 2 else 0) else (bif Nat.beq i 223 then 2 else 0)))
def am_npar_28 : Nat → Nat := fun i => bif Nat.blt i 228 then (bif Nat.blt i 226 then (bif Nat.blt i 225 then (bif Nat.beq i 224 then 4 else 0) else (bif Nat.beq i 225 then 4 else 0)) else (bif Nat.blt i 227 then (bif Nat.beq i 226 then 1 else 0) else (bif Nat.beq i 227 then 1 else 0))) else (bif Nat.blt i 230 then (bif Nat.blt i 229 then (bif Nat.beq i 228 then 0 else 0) else (bif Nat.beq i 229 then 0 else 0)) else (bif Nat.blt i 231 then (bif Nat.beq i 230 then 2 else 0) else (bif Nat.beq i 231 then 2 else 0)))
def am_npar_29 : Nat → Nat := fun i => bif Nat.blt i 236 then (bif Nat.blt i 234 then (bif Nat.blt i 233 then (bif Nat.beq i 232 then 0 else 0) else (bif Nat.beq i 233 then 2 else 0)) else (bif Nat.blt i 235 then (bif Nat.beq i 234 then 3 else 0) else (bif Nat.beq i 235 then 1 else 0))) else (bif Nat.blt i 238 then (bif Nat.blt i 237 then (bif Nat.beq i 236 then 3 else 0) else (bif Nat.beq i 237 then 1 else 0)) else (bif Nat.blt i 239 then (bif Nat.beq i 238 then 2 else 0) else (bif Nat.beq i 239 then 2 else 0)))
def am_npar_30 : Nat → Nat := fun i => bif Nat.blt i 244 then (bif Nat.blt i 242 then (bif Nat.blt i 241 then (bif Nat.beq i 240 then 1 else 0) else (bif Nat.beq i 241 then 1 else 0)) else (bif Nat.blt i 243 then (bif Nat.beq i 242 then 1 else 0) else (bif Nat.beq i 243 then 1 else 0))) else (bif Nat.blt i 246 then (bif Nat.blt i 245 then (bif Nat.beq i 244 then 0 else 0) else (bif Nat.beq i 245 then 1 else 0)) else (bif Nat.blt i 247 then (bif Nat.beq i 246 then 1 else 0) else (bif Nat.beq i 247 then 1 else 0)))
def am_npar_31 : Nat → Nat := fun i => bif Nat.blt i 252 then (bif Nat.blt i 250 then (bif Nat.blt i 249 then (bif Nat.beq i 248 then 1 else 0) else (bif Nat.beq i 249 then 1 else 0)) else (bif Nat.blt i 251 then (bif Nat.beq i 250 then 1 else 0) else (bif Nat.beq i 251 then 2 else 0))) else (bif Nat.blt i 254 then (bif Nat.blt i 253 then (bif Nat.beq i 252 then 2 else 0) else (bif Nat.beq i 253 then 2 else 0)) else (bif Nat.blt i 255 then (bif Nat.beq i 254 then 1 else 0) else (bif Nat.beq i 255 then 4 else 0)))
def am_npar_32 : Nat → Nat := fun i => bif Nat.blt i 260 then (bif Nat.blt i 258 then (bif Nat.blt i 257 then (bif Nat.beq i 256 then 4 else 0) else (bif Nat.beq i 257 then 1 else 0)) else (bif Nat.blt i 259 then (bif Nat.beq i 258 then 1 else 0) else (bif Nat.beq i 259 then 1 else 0))) else (bif Nat.blt i 262 then (bif Nat.blt i 261 then (bif Nat.beq i 260 then 1 else 0) else (bif Nat.beq i 261 then 0 else 0)) else (bif Nat.blt i 263 then (bif Nat.beq i 262 then 1 else 0) else (bif Nat.beq i 263 then 1 else 0)))
def am_npar_33 : Nat → Nat := fun i => bif Nat.blt i 268 then (bif Nat.blt i 266 then (bif Nat.blt i 265 then (bif Nat.beq i 264 then 1 else 0) else (bif Nat.beq i 265 then 1 else 0)) else (bif Nat.blt i 267 then (bif Nat.beq i 266 then 1 else 0) else (bif Nat.beq i 267 then 1 else 0))) else (bif Nat.blt i 270 then (bif Nat.blt i 269 then (bif Nat.beq i 268 then 0 else 0) else (bif Nat.beq i 269 then 0 else 0)) else (bif Nat.blt i 271 then (bif Nat.beq i 270 then 0 else 0) else (bif Nat.beq i 271 then 0 else 0)))
def am_npar_34 : Nat → Nat := fun i => bif Nat.blt i 275 then (bif Nat.blt i 273 then (bif Nat.beq i 272 then 0 else 0) else (bif Nat.blt i 274 then (bif Nat.beq i 273 then 0 else 0) else (bif Nat.beq i 274 then 0 else 0))) else (bif Nat.blt i 276 then (bif Nat.beq i 275 then 1 else 0) else (bif Nat.blt i 277 then (bif Nat.beq i 276 then 1 else 0) else (bif Nat.beq i 277 then 1 else 0)))
def am_npar_0_2 : Nat → Nat := fun i => bif Nat.blt i 8 then am_npar_0 i else am_npar_1 i
def am_npar_2_4 : Nat → Nat := fun i => bif Nat.blt i 24 then am_npar_2 i else am_npar_3 i
def am_npar_0_4 : Nat → Nat := fun i => bif Nat.blt i 16 then am_npar_0_2 i else am_npar_2_4 i
def am_npar_4_6 : Nat → Nat := fun i => bif Nat.blt i 40 then am_npar_4 i else am_npar_5 i
def am_npar_6_8 : Nat → Nat := fun i => bif Nat.blt i 56 then am_npar_6 i else am_npar_7 i
def am_npar_4_8 : Nat → Nat := fun i => bif Nat.blt i 48 then am_npar_4_6 i else am_npar_6_8 i
def am_npar_0_8 : Nat → Nat := fun i => bif Nat.blt i 32 then am_npar_0_4 i else am_npar_4_8 i
def am_npar_8_10 : Nat → Nat := fun i => bif Nat.blt i 72 then am_npar_8 i else am_npar_9 i
def am_npar_10_12 : Nat → Nat := fun i => bif Nat.blt i 88 then am_npar_10 i else am_npar_11 i
def am_npar_8_12 : Nat → Nat := fun i => bif Nat.blt i 80 then am_npar_8_10 i else am_npar_10_12 i
def am_npar_12_14 : Nat → Nat := fun i => bif Nat.blt i 104 then am_npar_12 i else am_npar_13 i
def am_npar_15_17 : Nat → Nat := fun i => bif Nat.blt i 128 then am_npar_15 i else am_npar_16 i
def am_npar_14_17 : Nat → Nat := fun i => bif Nat.blt i 120 then am_npar_14 i else am_npar_15_17 i
def am_npar_12_17 : Nat → Nat := fun i => bif Nat.blt i 112 then am_npar_12_14 i else am_npar_14_17 i
def am_npar_8_17 : Nat → Nat := fun i => bif Nat.blt i 96 then am_npar_8_12 i else am_npar_12_17 i
def am_npar_0_17 : Nat → Nat := fun i => bif Nat.blt i 64 then am_npar_0_8 i else am_npar_8_17 i
def am_npar_17_19 : Nat → Nat := fun i => bif Nat.blt i 144 then am_npar_17 i else am_npar_18 i
def am_npar_19_21 : Nat → Nat := fun i => bif Nat.blt i 160 then am_npar_19 i else am_npar_20 i
def am_npar_17_21 : Nat → Nat := fun i => bif Nat.blt i 152 then am_npar_17_19 i else am_npar_19_21 i
def am_npar_21_23 : Nat → Nat := fun i => bif Nat.blt i 176 then am_npar_21 i else am_npar_22 i
def am_npar_24_26 : Nat → Nat := fun i => bif Nat.blt i 200 then am_npar_24 i else am_npar_25 i
def am_npar_23_26 : Nat → Nat := fun i => bif Nat.blt i 192 then am_npar_23 i else am_npar_24_26 i
def am_npar_21_26 : Nat → Nat := fun i => bif Nat.blt i 184 then am_npar_21_23 i else am_npar_23_26 i
def am_npar_17_26 : Nat → Nat := fun i => bif Nat.blt i 168 then am_npar_17_21 i else am_npar_21_26 i
def am_npar_26_28 : Nat → Nat := fun i => bif Nat.blt i 216 then am_npar_26 i else am_npar_27 i
def am_npar_28_30 : Nat → Nat := fun i => bif Nat.blt i 232 then am_npar_28 i else am_npar_29 i
def am_npar_26_30 : Nat → Nat := fun i => bif Nat.blt i 224 then am_npar_26_28 i else am_npar_28_30 i
def am_npar_30_32 : Nat → Nat := fun i => bif Nat.blt i 248 then am_npar_30 i else am_npar_31 i
def am_npar_33_35 : Nat → Nat := fun i => bif Nat.blt i 272 then am_npar_33 i else am_npar_34 i
def am_npar_32_35 : Nat → Nat := fun i => bif Nat.blt i 264 then am_npar_32 i else am_npar_33_35 i
def am_npar_30_35 : Nat → Nat := fun i => bif Nat.blt i 256 then am_npar_30_32 i else am_npar_32_35 i
def am_npar_26_35 : Nat → Nat := fun i => bif Nat.blt i 240 then am_npar_26_30 i else am_npar_30_35 i
def am_npar_17_35 : Nat → Nat := fun i => bif Nat.blt i 208 then am_npar_17_26 i else am_npar_26_35 i
def am_npar : Nat → Nat := fun i => bif Nat.blt i 136 then am_npar_0_17 i else am_npar_17_35 i
def am_stc_0 : Nat → Bool := fun i => bif Nat.blt i 4 then (bif Nat.blt i 2 then (bif Nat.blt i 1 then (bif Nat.beq i 0 then true else false) else (bif Nat.beq i 1 then false else false)) else (bif Nat.blt i 3 then (bif Nat.beq i 2 then false else false) else (bif Nat.beq i 3 then false else false))) else (bif Nat.blt i 6 then (bif Nat.blt i 5 then (bif Nat.beq i 4 then false else false) else (bif Nat.beq i 5 then false else false)) else (bif Nat.blt i 7 then (bif Nat.beq i 6 then false else false) else (bif Nat.beq i 7 then false else false)))
def am_stc_1 : Nat → Bool := fun i => bif Nat.blt i 12 then (bif Nat.blt i 10 then (bif Nat.blt i 9 then (bif Nat.beq i 8 then false else false) else (bif Nat.beq i 9 then false else false)) else (bif Nat.blt i 11 then (bif Nat.beq i 10 then false else false) else (bif Nat.beq i 11 then false else false))) else (bif Nat.blt i 14 then (bif Nat.blt i 13 then (bif Nat.beq i 12 then true else false) else (bif Nat.beq i 13 then false else false)) else (bif Nat.blt i 15 then (bif Nat.beq i 14 then true else false) else (bif Nat.beq i 15 then false else false)))
def am_stc_2 : Nat → Bool := fun i => bif Nat.blt i 20 then (bif Nat.blt i 18 then (bif Nat.blt i 17 then (bif Nat.beq i 16 then false else false) else (bif Nat.beq i 17 then false else false)) else (bif Nat.blt i 19 then (bif Nat.beq i 18 then false else false) else (bif Nat.beq i 19 then false else false))) else (bif Nat.blt i 22 then (bif Nat.blt i 21 then (bif Nat.beq i 20 then false else false) else (bif Nat.beq i 21 then false else false)) else (bif Nat.blt i 23 then (bif Nat.beq i 22 then false else false) else (bif Nat.beq i 23 then false else false)))
def am_stc_3 : Nat → Bool := fun i => bif Nat.blt i 28 then (bif Nat.blt i 26 then (bif Nat.blt i 25 then (bif Nat.beq i 24 then false else false) else (bif Nat.beq i 25 then false else false)) else (bif Nat.blt i 27 then (bif Nat.beq i 26 then false else false) else (bif Nat.beq i 27 then false else false))) else (bif Nat.blt i 30 then (bif Nat.blt i 29 then (bif Nat.beq i 28 then false else false) else (bif Nat.beq i 29 then false else false)) else (bif Nat.blt i 31 then (bif Nat.beq i 30 then false else false) else (bif Nat.beq i 31 then false else false)))
def am_stc_4 : Nat → Bool := fun i => bif Nat.blt i 36 then (bif Nat.blt i 34 then (bif Nat.blt i 33 then (bif Nat.beq i 32 then false else false) else (bif Nat.beq i 33 then false else false)) else (bif Nat.blt i 35 then (bif Nat.beq i 34 then false else false) else (bif Nat.beq i 35 then false else false))) else (bif Nat.blt i 38 then (bif Nat.blt i 37 then (bif Nat.beq i 36 then false else false) else (bif Nat.beq i 37 then false else false)) else (bif Nat.blt i 39 then (bif Nat.beq i 38 then false else false) else (bif Nat.beq i 39 then true else false)))
def am_stc_5 : Nat → Bool := fun i => bif Nat.blt i 44 then (bif Nat.blt i 42 then (bif Nat.blt i 41 then (bif Nat.beq i 40 then false else false) else (bif Nat.beq i 41 then false else false)) else (bif Nat.blt i 43 then (bif Nat.beq i 42 then false else false) else (bif Nat.beq i 43 then false else false))) else (bif Nat.blt i 46 then (bif Nat.blt i 45 then (bif Nat.beq i 44 then false else false) else (bif Nat.beq i 45 then false else false)) else (bif Nat.blt i 47 then (bif Nat.beq i 46 then false else false) else (bif Nat.beq i 47 then true else false)))
def am_stc_6 : Nat → Bool := fun i => bif Nat.blt i 52 then (bif Nat.blt i 50 then (bif Nat.blt i 49 then (bif Nat.beq i 48 then true else false) else (bif Nat.beq i 49 then false else false)) else (bif Nat.blt i 51 then (bif Nat.beq i 50 then false else false) else (bif Nat.beq i 51 then false else false))) else (bif Nat.blt i 54 then (bif Nat.blt i 53 then (bif Nat.beq i 52 then false else false) else (bif Nat.beq i 53 then false else false)) else (bif Nat.blt i 55 then (bif Nat.beq i 54 then false else false) else (bif Nat.beq i 55 then false else false)))
def am_stc_7 : Nat → Bool := fun i => bif Nat.blt i 60 then (bif Nat.blt i 58 then (bif Nat.blt i 57 then (bif Nat.beq i 56 then false else false) else (bif Nat.beq i 57 then false else false)) else (bif Nat.blt i 59 then (bif Nat.beq i 58 then false else false) else (bif Nat.beq i 59 then false else false))) else (bif Nat.blt i 62 then (bif Nat.blt i 61 then (bif Nat.beq i 60 then false else false) else (bif Nat.beq i 61 then false else false)) else (bif Nat.blt i 63 then (bif Nat.beq i 62 then true else false) else (bif Nat.beq i 63 then false else false)))
def am_stc_8 : Nat → Bool := fun i => bif Nat.blt i 68 then (bif Nat.blt i 66 then (bif Nat.blt i 65 then (bif Nat.beq i 64 then false else false) else (bif Nat.beq i 65 then false else false)) else (bif Nat.blt i 67 then (bif Nat.beq i 66 then false else false) else (bif Nat.beq i 67 then false else false))) else (bif Nat.blt i 70 then (bif Nat.blt i 69 then (bif Nat.beq i 68 then false else false) else (bif Nat.beq i 69 then false else false)) else (bif Nat.blt i 71 then (bif Nat.beq i 70 then false else false) else (bif Nat.beq i 71 then false else false)))
def am_stc_9 : Nat → Bool := fun i => bif Nat.blt i 76 then (bif Nat.blt i 74 then (bif Nat.blt i 73 then (bif Nat.beq i 72 then false else false) else (bif Nat.beq i 73 then true else false)) else (bif Nat.blt i 75 then (bif Nat.beq i 74 then false else false) else (bif Nat.beq i 75 then false else false))) else (bif Nat.blt i 78 then (bif Nat.blt i 77 then (bif Nat.beq i 76 then false else false) else (bif Nat.beq i 77 then false else false)) else (bif Nat.blt i 79 then (bif Nat.beq i 78 then false else false) else (bif Nat.beq i 79 then false else false)))
def am_stc_10 : Nat → Bool := fun i => bif Nat.blt i 84 then (bif Nat.blt i 82 then (bif Nat.blt i 81 then (bif Nat.beq i 80 then false else false) else (bif Nat.beq i 81 then false else false)) else (bif Nat.blt i 83 then (bif Nat.beq i 82 then false else false) else (bif Nat.beq i 83 then false else false))) else (bif Nat.blt i 86 then (bif Nat.blt i 85 then (bif Nat.beq i 84 then false else false) else (bif Nat.beq i 85 then false else false)) else (bif Nat.blt i 87 then (bif Nat.beq i 86 then false else false) else (bif Nat.beq i 87 then false else false)))
def am_stc_11 : Nat → Bool := fun i => bif Nat.blt i 92 then (bif Nat.blt i 90 then (bif Nat.blt i 89 then (bif Nat.beq i 88 then false else false) else (bif Nat.beq i 89 then false else false)) else (bif Nat.blt i 91 then (bif Nat.beq i 90 then true else false) else (bif Nat.beq i 91 then true else false))) else (bif Nat.blt i 94 then (bif Nat.blt i 93 then (bif Nat.beq i 92 then false else false) else (bif Nat.beq i 93 then false else false)) else (bif Nat.blt i 95 then (bif Nat.beq i 94 then false else false) else (bif Nat.beq i 95 then true else false)))
def am_stc_12 : Nat → Bool := fun i => bif Nat.blt i 100 then (bif Nat.blt i 98 then (bif Nat.blt i 97 then (bif Nat.beq i 96 then true else false) else (bif Nat.beq i 97 then true else false)) else (bif Nat.blt i 99 then (bif Nat.beq i 98 then false else false) else (bif Nat.beq i 99 then false else false))) else (bif Nat.blt i 102 then (bif Nat.blt i 101 then (bif Nat.beq i 100 then false else false) else (bif Nat.beq i 101 then false else false)) else (bif Nat.blt i 103 then (bif Nat.beq i 102 then false else false) else (bif Nat.beq i 103 then false else false)))
def am_stc_13 : Nat → Bool := fun i => bif Nat.blt i 108 then (bif Nat.blt i 106 then (bif Nat.blt i 105 then (bif Nat.beq i 104 then false else false) else (bif Nat.beq i 105 then false else false)) else (bif Nat.blt i 107 then (bif Nat.beq i 106 then false else false) else (bif Nat.beq i 107 then false else false))) else (bif Nat.blt i 110 then (bif Nat.blt i 109 then (bif Nat.beq i 108 then false else false) else (bif Nat.beq i 109 then false else false)) else (bif Nat.blt i 111 then (bif Nat.beq i 110 then false else false) else (bif Nat.beq i 111 then false else false)))
def am_stc_14 : Nat → Bool := fun i => bif Nat.blt i 116 then (bif Nat.blt i 114 then (bif Nat.blt i 113 then (bif Nat.beq i 112 then false else false) else (bif Nat.beq i 113 then false else false)) else (bif Nat.blt i 115 then (bif Nat.beq i 114 then false else false) else (bif Nat.beq i 115 then false else false))) else (bif Nat.blt i 118 then (bif Nat.blt i 117 then (bif Nat.beq i 116 then false else false) else (bif Nat.beq i 117 then false else false)) else (bif Nat.blt i 119 then (bif Nat.beq i 118 then false else false) else (bif Nat.beq i 119 then false else false)))
def am_stc_15 : Nat → Bool := fun i => bif Nat.blt i 124 then (bif Nat.blt i 122 then (bif Nat.blt i 121 then (bif Nat.beq i 120 then false else false) else (bif Nat.beq i 121 then false else false)) else (bif Nat.blt i 123 then (bif Nat.beq i 122 then false else false) else (bif Nat.beq i 123 then false else false))) else (bif Nat.blt i 126 then (bif Nat.blt i 125 then (bif Nat.beq i 124 then false else false) else (bif Nat.beq i 125 then false else false)) else (bif Nat.blt i 127 then (bif Nat.beq i 126 then true else false) else (bif Nat.beq i 127 then false else false)))
def am_stc_16 : Nat → Bool := fun i => bif Nat.blt i 132 then (bif Nat.blt i 130 then (bif Nat.blt i 129 then (bif Nat.beq i 128 then false else false) else (bif Nat.beq i 129 then false else false)) else (bif Nat.blt i 131 then (bif Nat.beq i 130 then false else false) else (bif Nat.beq i 131 then false else false))) else (bif Nat.blt i 134 then (bif Nat.blt i 133 then (bif Nat.beq i 132 then false else false) else (bif Nat.beq i 133 then false else false)) else (bif Nat.blt i 135 then (bif Nat.beq i 134 then false else false) else (bif Nat.beq i 135 then false else false)))
def am_stc_17 : Nat → Bool := fun i => bif Nat.blt i 140 then (bif Nat.blt i 138 then (bif Nat.blt i 137 then (bif Nat.beq i 136 then false else false) else (bif Nat.beq i 137 then false else false)) else (bif Nat.blt i 139 then (bif Nat.beq i 138 then false else false) else (bif Nat.beq i 139 then false else false))) else (bif Nat.blt i 142 then (bif Nat.blt i 141 then (bif Nat.beq i 140 then false else false) else (bif Nat.beq i 141 then false else false)) else (bif Nat.blt i 143 then (bif Nat.beq i 142 then true else false) else (bif Nat.beq i 143 then false else false)))
def am_stc_18 : Nat → Bool := fun i => bif Nat.blt i 148 then (bif Nat.blt i 146 then (bif Nat.blt i 145 then (bif Nat.beq i 144 then false else false) else (bif Nat.beq i 145 then false else false)) else (bif Nat.blt i 147 then (bif Nat.beq i 146 then false else false) else (bif Nat.beq i 147 then false else false))) else (bif Nat.blt i 150 then (bif Nat.blt i 149 then (bif Nat.beq i 148 then false else false) else (bif Nat.beq i 149 then false else false)) else (bif Nat.blt i 151 then (bif Nat.beq i 150 then false else false) else (bif Nat.beq i 151 then false else false)))
def am_stc_19 : Nat → Bool := fun i => bif Nat.blt i 156 then (bif Nat.blt i 154 then (bif Nat.blt i 153 then (bif Nat.beq i 152 then false else false) else (bif Nat.beq i 153 then false else false)) else (bif Nat.blt i 155 then (bif Nat.beq i 154 then false else false) else (bif Nat.beq i 155 then false else false))) else (bif Nat.blt i 158 then (bif Nat.blt i 157 then (bif Nat.beq i 156 then false else false) else (bif Nat.beq i 157 then false else false)) else (bif Nat.blt i 159 then (bif Nat.beq i 158 then false else false) else (bif Nat.beq i 159 then true else false)))
def am_stc_20 : Nat → Bool := fun i => bif Nat.blt i 164 then (bif Nat.blt i 162 then (bif Nat.blt i 161 then (bif Nat.beq i 160 then false else false) else (bif Nat.beq i 161 then false else false)) else (bif Nat.blt i 163 then (bif Nat.beq i 162 then false else false) else (bif Nat.beq i 163 then false else false))) else (bif Nat.blt i 166 then (bif Nat.blt i 165 then (bif Nat.beq i 164 then true else false) else (bif Nat.beq i 165 then true else false)) else (bif Nat.blt i 167 then (bif Nat.beq i 166 then false else false) else (bif Nat.beq i 167 then true else false)))
def am_stc_21 : Nat → Bool := fun i => bif Nat.blt i 172 then (bif Nat.blt i 170 then (bif Nat.blt i 169 then (bif Nat.beq i 168 then false else false) else (bif Nat.beq i 169 then false else false)) else (bif Nat.blt i 171 then (bif Nat.beq i 170 then false else false) else (bif Nat.beq i 171 then false else false))) else (bif Nat.blt i 174 then (bif Nat.blt i 173 then (bif Nat.beq i 172 then false else false) else (bif Nat.beq i 173 then false else false)) else (bif Nat.blt i 175 then (bif Nat.beq i 174 then true else false) else (bif Nat.beq i 175 then false else false)))
def am_stc_22 : Nat → Bool := fun i => bif Nat.blt i 180 then (bif Nat.blt i 178 then (bif Nat.blt i 177 then (bif Nat.beq i 176 then false else false) else (bif Nat.beq i 177 then false else false)) else (bif Nat.blt i 179 then (bif Nat.beq i 178 then false else false) else (bif Nat.beq i 179 then false else false))) else (bif Nat.blt i 182 then (bif Nat.blt i 181 then (bif Nat.beq i 180 then true else false) else (bif Nat.beq i 181 then false else false)) else (bif Nat.blt i 183 then (bif Nat.beq i 182 then false else false) else (bif Nat.beq i 183 then false else false)))
def am_stc_23 : Nat → Bool := fun i => bif Nat.blt i 188 then (bif Nat.blt i 186 then (bif Nat.blt i 185 then (bif Nat.beq i 184 then false else false) else (bif Nat.beq i 185 then false else false)) else (bif Nat.blt i 187 then (bif Nat.beq i 186 then false else false) else (bif Nat.beq i 187 then false else false))) else (bif Nat.blt i 190 then (bif Nat.blt i 189 then (bif Nat.beq i 188 then false else false) else (bif Nat.beq i 189 then false else false)) else (bif Nat.blt i 191 then (bif Nat.beq i 190 then true else false) else (bif Nat.beq i 191 then false else false)))
def am_stc_24 : Nat → Bool := fun i => bif Nat.blt i 196 then (bif Nat.blt i 194 then (bif Nat.blt i 193 then (bif Nat.beq i 192 then false else false) else (bif Nat.beq i 193 then false else false)) else (bif Nat.blt i 195 then (bif Nat.beq i 194 then true else false) else (bif Nat.beq i 195 then false else false))) else (bif Nat.blt i 198 then (bif Nat.blt i 197 then (bif Nat.beq i 196 then true else false) else (bif Nat.beq i 197 then false else false)) else (bif Nat.blt i 199 then (bif Nat.beq i 198 then false else false) else (bif Nat.beq i 199 then false else false)))
def am_stc_25 : Nat → Bool := fun i => bif Nat.blt i 204 then (bif Nat.blt i 202 then (bif Nat.blt i 201 then (bif Nat.beq i 200 then false else false) else (bif Nat.beq i 201 then false else false)) else (bif Nat.blt i 203 then (bif Nat.beq i 202 then true else false) else (bif Nat.beq i 203 then false else false))) else (bif Nat.blt i 206 then (bif Nat.blt i 205 then (bif Nat.beq i 204 then false else false) else (bif Nat.beq i 205 then false else false)) else (bif Nat.blt i 207 then (bif Nat.beq i 206 then false else false) else (bif Nat.beq i 207 then true else false)))
def am_stc_26 : Nat → Bool := fun i => bif Nat.blt i 212 then (bif Nat.blt i 210 then (bif Nat.blt i 209 then (bif Nat.beq i 208 then false else false) else (bif Nat.beq i 209 then false else false)) else (bif Nat.blt i 211 then (bif Nat.beq i 210 then false else false) else (bif Nat.beq i 211 then false else false))) else (bif Nat.blt i 214 then (bif Nat.blt i 213 then (bif Nat.beq i 212 then false else false) else (bif Nat.beq i 213 then true else false)) else (bif Nat.blt i 215 then (bif Nat.beq i 214 then false else false) else (bif Nat.beq i 215 then false else false)))
def am_stc_27 : Nat → Bool := fun i => bif Nat.blt i 220 then (bif Nat.blt i 218 then (bif Nat.blt i 217 then (bif Nat.beq i 216 then false else false) else (bif Nat.beq i 217 then false else false)) else (bif Nat.blt i 219 then (bif Nat.beq i 218 then false else false) else (bif Nat.beq i 219 then false else false))) else (bif Nat.blt i 222 then (bif Nat.blt i 221 then (bif Nat.beq i 220 then false else false) else (bif Nat.beq i 221 then false else false)) else (bif Nat.blt i 223 then (bif Nat.beq i 222 then false else false) else (bif Nat.beq i 223 then false else false)))
def am_stc_28 : Nat → Bool := fun i => bif Nat.blt i 228 then (bif Nat.blt i 226 then (bif Nat.blt i 225 then (bif Nat.beq i 224 then false else false) else (bif Nat.beq i 225 then false else false)) else (bif Nat.blt i 227 then (bif Nat.beq i 226 then false else false) else (bif Nat.beq i 227 then true else false))) else (bif Nat.blt i 230 then (bif Nat.blt i 229 then (bif Nat.beq i 228 then false else false) else (bif Nat.beq i 229 then false else false)) else (bif Nat.blt i 231 then (bif Nat.beq i 230 then false else false) else (bif Nat.beq i 231 then false else false)))
def am_stc_29 : Nat → Bool := fun i => bif Nat.blt i 236 then (bif Nat.blt i 234 then (bif Nat.blt i 233 then (bif Nat.beq i 232 then false else false) else (bif Nat.beq i 233 then false else false)) else (bif Nat.blt i 235 then (bif Nat.beq i 234 then false else false) else (bif Nat.beq i 235 then false else false))) else (bif Nat.blt i 238 then (bif Nat.blt i 237 then (bif Nat.beq i 236 then false else false) else (bif Nat.beq i 237 then false else false)) else (bif Nat.blt i 239 then (bif Nat.beq i 238 then false else false) else (bif Nat.beq i 239 then false else false)))
def am_stc_30 : Nat → Bool := fun i => bif Nat.blt i 244 then (bif Nat.blt i 242 then (bif Nat.blt i 241 then (bif Nat.beq i 240 then false else false) else (bif Nat.beq i 241 then false else false)) else (bif Nat.blt i 243 then (bif Nat.beq i 242 then false else false) else (bif Nat.beq i 243 then false else false))) else (bif Nat.blt i 246 then (bif Nat.blt i 245 then (bif Nat.beq i 244 then false else false) else (bif Nat.beq i 245 then false else false)) else (bif Nat.blt i 247 then (bif Nat.beq i 246 then false else false) else (bif Nat.beq i 247 then false else false)))
def am_stc_31 : Nat → Bool := fun i => bif Nat.blt i 252 then (bif Nat.blt i 250 then (bif Nat.blt i 249 then (bif Nat.beq i 248 then false else false) else (bif Nat.beq i 249 then false else false)) else (bif Nat.blt i 251 then (bif Nat.beq i 250 then false else false) else (bif Nat.beq i 251 then false else false))) else (bif Nat.blt i 254 then (bif Nat.blt i 253 then (bif Nat.beq i 252 then false else false) else (bif Nat.beq i 253 then false else false)) else (bif Nat.blt i 255 then (bif Nat.beq i 254 then true else false) else (bif Nat.beq i 255 then false else false)))
def am_stc_32 : Nat → Bool := fun i => bif Nat.blt i 260 then (bif Nat.blt i 258 then (bif Nat.blt i 257 then (bif Nat.beq i 256 then false else false) else (bif Nat.beq i 257 then false else false)) else (bif Nat.blt i 259 then (bif Nat.beq i 258 then false else false) else (bif Nat.beq i 259 then false else false))) else (bif Nat.blt i 262 then (bif Nat.blt i 261 then (bif Nat.beq i 260 then false else false) else (bif Nat.beq i 261 then false else false)) else (bif Nat.blt i 263 then (bif Nat.beq i 262 then false else false) else (bif Nat.beq i 263 then false else false)))
def am_stc_33 : Nat → Bool := fun i => bif Nat.blt i 268 then (bif Nat.blt i 266 then (bif Nat.blt i 265 then (bif Nat.beq i 264 then false else false) else (bif Nat.beq i 265 then false else false)) else (bif Nat.blt i 267 then (bif Nat.beq i 266 then false else false) else (bif Nat.beq i 267 then false else false))) else (bif Nat.blt i 270 then (bif Nat.blt i 269 then (bif Nat.beq i 268 then false else false) else (bif Nat.beq i 269 then false else false)) else (bif Nat.blt i 271 then (bif Nat.beq i 270 then false else false) else (bif Nat.beq i 271 then false else false)))
def am_stc_34 : Nat → Bool := fun i => bif Nat.blt i 275 then (bif Nat.blt i 273 then (bif Nat.beq i 272 then false else false) else (bif Nat.blt i 274 then (bif Nat.beq i 273 then false else false) else (bif Nat.beq i 274 then false else false))) else (bif Nat.blt i 276 then (bif Nat.beq i 275 then false else false) else (bif Nat.blt i 277 then (bif Nat.beq i 276 then false else false) else (bif Nat.beq i 277 then true else false)))
def am_stc_0_2 : Nat → Bool := fun i => bif Nat.blt i 8 then am_stc_0 i else am_stc_1 i
def am_stc_2_4 : Nat → Bool := fun i => bif Nat.blt i 24 then am_stc_2 i else am_stc_3 i
def am_stc_0_4 : Nat → Bool := fun i => bif Nat.blt i 16 then am_stc_0_2 i else am_stc_2_4 i
def am_stc_4_6 : Nat → Bool := fun i => bif Nat.blt i 40 then am_stc_4 i else am_stc_5 i
def am_stc_6_8 : Nat → Bool := fun i => bif Nat.blt i 56 then am_stc_6 i else am_stc_7 i
def am_stc_4_8 : Nat → Bool := fun i => bif Nat.blt i 48 then am_stc_4_6 i else am_stc_6_8 i
def am_stc_0_8 : Nat → Bool := fun i => bif Nat.blt i 32 then am_stc_0_4 i else am_stc_4_8 i
def am_stc_8_10 : Nat → Bool := fun i => bif Nat.blt i 72 then am_stc_8 i else am_stc_9 i
def am_stc_10_12 : Nat → Bool := fun i => bif Nat.blt i 88 then am_stc_10 i else am_stc_11 i
def am_stc_8_12 : Nat → Bool := fun i => bif Nat.blt i 80 then am_stc_8_10 i else am_stc_10_12 i
def am_stc_12_14 : Nat → Bool := fun i => bif Nat.blt i 104 then am_stc_12 i else am_stc_13 i
def am_stc_15_17 : Nat → Bool := fun i => bif Nat.blt i 128 then am_stc_15 i else am_stc_16 i
def am_stc_14_17 : Nat → Bool := fun i => bif Nat.blt i 120 then am_stc_14 i else am_stc_15_17 i
def am_stc_12_17 : Nat → Bool := fun i => bif Nat.blt i 112 then am_stc_12_14 i else am_stc_14_17 i
def am_stc_8_17 : Nat → Bool := fun i => bif Nat.blt i 96 then am_stc_8_12 i else am_stc_12_17 i
def am_stc_0_17 : Nat → Bool := fun i => bif Nat.blt i 64 then am_stc_0_8 i else am_stc_8_17 i
def am_stc_17_19 : Nat → Bool := fun i => bif Nat.blt i 144 then am_stc_17 i else am_stc_18 i
def am_stc_19_21 : Nat → Bool := fun i => bif Nat.blt i 160 then am_stc_19 i else am_stc_20 i
def am_stc_17_21 : Nat → Bool := fun i => bif Nat.blt i 152 then am_stc_17_19 i else am_stc_19_21 i
def am_stc_21_23 : Nat → Bool := fun i => bif Nat.blt i 176 then am_stc_21 i else am_stc_22 i
def am_stc_24_26 : Nat → Bool := fun i => bif Nat.blt i 200 then am_stc_24 i else am_stc_25 i
def am_stc_23_26 : Nat → Bool := fun i => bif Nat.blt i 192 then am_stc_23 i else am_stc_24_26 i
def am_stc_21_26 : Nat → Bool := fun i => bif Nat.blt i 184 then am_stc_21_23 i else am_stc_23_26 i
def am_stc_17_26 : Nat → Bool := fun i => bif Nat.blt i 168 then am_stc_17_21 i else am_stc_21_26 i
def am_stc_26_28 : Nat → Bool := fun i => bif Nat.blt i 216 then am_stc_26 i else am_stc_27 i
def am_stc_28_30 : Nat → Bool := fun i => bif Nat.blt i 232 then am_stc_28 i else am_stc_29 i
def am_stc_26_30 : Nat → Bool := fun i => bif Nat.blt i 224 then am_stc_26_28 i else am_stc_28_30 i
def am_stc_30_32 : Nat → Bool := fun i => bif Nat.blt i 248 then am_stc_30 i else am_stc_31 i
def am_stc_33_35 : Nat → Bool := fun i => bif Nat.blt i 272 then am_stc_33 i else am_stc_34 i
def am_stc_32_35 : Nat → Bool := fun i => bif Nat.blt i 264 then am_stc_32 i else am_stc_33_35 i
def am_stc_30_35 : Nat → Bool := fun i => bif Nat.blt i 256 then am_stc_30_32 i else am_stc_32_35 i
def am_stc_26_35 : Nat → Bool := fun i => bif Nat.blt i 240 then am_stc_26_30 i else am_stc_30_35 i
def am_stc_17_35 : Nat → Bool := fun i => bif Nat.blt i 208 then am_stc_17_26 i else am_stc_26_35 i
def am_stc : Nat → Bool := fun i => bif Nat.blt i 136 then am_stc_0_17 i else am_stc_17_35 i
def am_ipos : Nat → Nat := fun i => bif Nat.blt i 9 then (bif Nat.blt i 4 then (bif Nat.blt i 2 then (bif Nat.blt i 1 then (bif Nat.beq i 0 then 1008 else 0) else (bif Nat.beq i 1 then 1006 else 0)) else (bif Nat.blt i 3 then (bif Nat.beq i 2 then 1004 else 0) else (bif Nat.beq i 3 then 1002 else 0))) else (bif Nat.blt i 6 then (bif Nat.blt i 5 then (bif Nat.beq i 4 then 1010 else 0) else (bif Nat.beq i 5 then 1009 else 0)) else (bif Nat.blt i 7 then (bif Nat.beq i 6 then 1011 else 0) else (bif Nat.blt i 8 then (bif Nat.beq i 7 then 1005 else 0) else (bif Nat.beq i 8 then 1007 else 0))))) else (bif Nat.blt i 13 then (bif Nat.blt i 11 then (bif Nat.blt i 10 then (bif Nat.beq i 9 then 1001 else 0) else (bif Nat.beq i 10 then 1012 else 0)) else (bif Nat.blt i 12 then (bif Nat.beq i 11 then 1000 else 0) else (bif Nat.beq i 12 then 1019 else 0))) else (bif Nat.blt i 15 then (bif Nat.blt i 14 then (bif Nat.beq i 13 then 1014 else 0) else (bif Nat.beq i 14 then 1015 else 0)) else (bif Nat.blt i 16 then (bif Nat.beq i 15 then 1016 else 0) else (bif Nat.blt i 17 then (bif Nat.beq i 16 then 1017 else 0) else (bif Nat.beq i 17 then 1003 else 0)))))
def am_mpos : Nat → Nat := fun i => bif Nat.blt i 5 then (bif Nat.blt i 2 then (bif Nat.blt i 1 then (bif Nat.beq i 0 then 1219 else 0) else (bif Nat.beq i 1 then 1207 else 0)) else (bif Nat.blt i 3 then (bif Nat.beq i 2 then 1139 else 0) else (bif Nat.blt i 4 then (bif Nat.beq i 3 then 1031 else 0) else (bif Nat.beq i 4 then 2145 else 0)))) else (bif Nat.blt i 8 then (bif Nat.blt i 6 then (bif Nat.beq i 5 then 2091 else 0) else (bif Nat.blt i 7 then (bif Nat.beq i 6 then 2165 else 0) else (bif Nat.beq i 7 then 1185 else 0))) else (bif Nat.blt i 9 then (bif Nat.beq i 8 then 1213 else 0) else (bif Nat.blt i 10 then (bif Nat.beq i 9 then 1021 else 0) else (bif Nat.beq i 10 then 6058 else 0))))
def am_lpos : Nat → List Nat := fun i => bif Nat.blt i 5 then (bif Nat.blt i 2 then (bif Nat.blt i 1 then (bif Nat.beq i 0 then [1231, 1233, 1235, 1237, 1239, 2001] else []) else (bif Nat.beq i 1 then [2075, 2077, 2079, 2081, 2083, 2085, 2087] else [])) else (bif Nat.blt i 3 then (bif Nat.beq i 2 then [1159, 1161, 1163, 1165, 1167, 1169, 1171, 1173, 1175, 1177, 1179, 1181] else []) else (bif Nat.blt i 4 then (bif Nat.beq i 3 then [1099, 1101, 1103, 1105, 1107, 1109, 1111, 1113, 1115, 1117, 1119, 1121, 1123, 1125, 1127, 1129, 1131, 1133] else []) else (bif Nat.beq i 4 then [2156, 2158, 2160, 2162] else [])))) else (bif Nat.blt i 8 then (bif Nat.blt i 6 then (bif Nat.beq i 5 then [2111, 2113, 2115, 2117, 2119, 2121, 2123, 2125, 2127, 2129, 2131, 2133, 2135, 2137, 2139] else []) else (bif Nat.blt i 7 then (bif Nat.beq i 6 then [2179, 2181, 2183, 2185] else []) else (bif Nat.beq i 7 then [1195, 1197, 1199, 1201, 1203] else []))) else (bif Nat.blt i 9 then (bif Nat.beq i 8 then [2033, 2035, 2037, 2039, 2041, 2043, 2045, 2047, 2049, 2051, 2053, 2055, 2057, 2059, 2061, 2063] else []) else (bif Nat.blt i 10 then (bif Nat.beq i 9 then [2201, 2203, 2205, 2207, 2209, 2211, 2213, 2215, 2217, 2219, 2221, 2223, 2225] else []) else (bif Nat.beq i 10 then [6142, 6144, 6146, 6148, 6150, 6152, 6154, 6156, 6158, 6160, 6162, 6164, 6166, 6168, 6170, 6172, 6174, 6176, 6178, 6180, 6182, 6184, 6186, 6188, 6190, 6192, 6194, 6196, 6198, 6200, 6202, 6204, 6206, 6208, 6210, 6212, 6214, 6216, 6218, 6220, 6222, 6224, 6226, 6228, 6230, 6232, 6234, 6236, 6238, 7000, 7002, 7004, 7006, 7008, 7010, 7012, 7014, 7016, 7018, 7020, 7022, 7024, 7026, 7028, 7030, 7032, 7034, 7036, 7038, 7040, 7042, 7044, 7046, 7048, 7050, 7052, 7054, 7056, 7058] else []))))
def am_fwd (own idx ci k : Nat) : Cond := bif Nat.beq ci 16 then (bif Nat.beq k 0 then .fieldLink (am_cn own) idx "java/lang/String" "value" "[B" else .fieldLink (am_cn own) idx "java/lang/String" "code\x72" "B") else .fieldLink (am_cn own) idx (am_T ci k).1 (am_T ci k).2.1 (am_T ci k).2.2.1
def am_fll (own : Nat) : List (Nat × Cond) := (am_flk own).map fun e => (e.2.2.2, am_fwd own e.1 e.2.1 e.2.2.1)
set_option maxRecDepth 100000 in
theorem am_fl0 : am_rows (am_fll 0) := rfl
set_option maxRecDepth 100000 in
theorem am_fl0_g : (am_fll 0).all (fun q => goodWord q.2) = true := by decide +kernel
set_option maxRecDepth 100000 in
theorem am_fl1 : am_rows (am_fll 1) := rfl
set_option maxRecDepth 100000 in
theorem am_fl1_g : (am_fll 1).all (fun q => goodWord q.2) = true := by decide +kernel
set_option maxRecDepth 100000 in
theorem am_fl2 : am_rows (am_fll 2) := rfl
set_option maxRecDepth 100000 in
theorem am_fl2_g : (am_fll 2).all (fun q => goodWord q.2) = true := by decide +kernel
set_option maxRecDepth 100000 in
theorem am_fl3 : am_rows (am_fll 3) := rfl
set_option maxRecDepth 100000 in
theorem am_fl3_g : (am_fll 3).all (fun q => goodWord q.2) = true := by decide +kernel
set_option maxRecDepth 100000 in
theorem am_fl4 : am_rows (am_fll 4) := rfl
set_option maxRecDepth 100000 in
theorem am_fl4_g : (am_fll 4).all (fun q => goodWord q.2) = true := by decide +kernel
set_option maxRecDepth 100000 in
theorem am_fl5 : am_rows (am_fll 5) := rfl
set_option maxRecDepth 100000 in
theorem am_fl5_g : (am_fll 5).all (fun q => goodWord q.2) = true := by decide +kernel
set_option maxRecDepth 100000 in
theorem am_fl6 : am_rows (am_fll 6) := rfl
set_option maxRecDepth 100000 in
theorem am_fl6_g : (am_fll 6).all (fun q => goodWord q.2) = true := by decide +kernel
set_option maxRecDepth 100000 in
theorem am_fl7 : am_rows (am_fll 7) := rfl
set_option maxRecDepth 100000 in
theorem am_fl7_g : (am_fll 7).all (fun q => goodWord q.2) = true := by decide +kernel
set_option maxRecDepth 100000 in
theorem am_fl8 : am_rows (am_fll 8) := rfl
set_option maxRecDepth 100000 in
theorem am_fl8_g : (am_fll 8).all (fun q => goodWord q.2) = true := by decide +kernel
set_option maxRecDepth 100000 in
theorem am_fl9 : am_rows (am_fll 9) := rfl
set_option maxRecDepth 100000 in
theorem am_fl9_g : (am_fll 9).all (fun q => goodWord q.2) = true := by decide +kernel
set_option maxRecDepth 100000 in
theorem am_fl10_p0 : am_rows (((am_fll 10).drop 0).take 40) := rfl
set_option maxRecDepth 100000 in
theorem am_fl10_p1 : am_rows (((am_fll 10).drop 40).take 40) := rfl
theorem am_fl10_d1 : am_rows ((am_fll 10).drop 40) := am_rows_td 40 am_fl10_p1 rfl
theorem am_fl10_d0 : am_rows ((am_fll 10).drop 0) := am_rows_td 40 am_fl10_p0 (by rw [List.drop_drop]; exact am_fl10_d1)
theorem am_fl10 : am_rows (am_fll 10) := am_fl10_d0
set_option maxRecDepth 100000 in
theorem am_fl10_g : (am_fll 10).all (fun q => goodWord q.2) = true := by decide +kernel
set_option maxRecDepth 100000 in
theorem am_fl11 : am_rows (am_fll 11) := rfl
set_option maxRecDepth 100000 in
theorem am_fl11_g : (am_fll 11).all (fun q => goodWord q.2) = true := by decide +kernel
set_option maxRecDepth 100000 in
theorem am_fl12 : am_rows (am_fll 12) := rfl
set_option maxRecDepth 100000 in
theorem am_fl12_g : (am_fll 12).all (fun q => goodWord q.2) = true := by decide +kernel
set_option maxRecDepth 100000 in
theorem am_fl13 : am_rows (am_fll 13) := rfl
set_option maxRecDepth 100000 in
theorem am_fl13_g : (am_fll 13).all (fun q => goodWord q.2) = true := by decide +kernel
set_option maxRecDepth 100000 in
theorem am_fl14 : am_rows (am_fll 14) := rfl
set_option maxRecDepth 100000 in
theorem am_fl14_g : (am_fll 14).all (fun q => goodWord q.2) = true := by decide +kernel
set_option maxRecDepth 100000 in
theorem am_fl15 : am_rows (am_fll 15) := rfl
set_option maxRecDepth 100000 in
theorem am_fl15_g : (am_fll 15).all (fun q => goodWord q.2) = true := by decide +kernel
set_option maxRecDepth 100000 in
theorem am_fl16 : am_rows (am_fll 16) := rfl
set_option maxRecDepth 100000 in
theorem am_fl16_g : (am_fll 16).all (fun q => goodWord q.2) = true := by decide +kernel
set_option maxRecDepth 100000 in
theorem am_fl17 : am_rows (am_fll 17) := rfl
set_option maxRecDepth 100000 in
theorem am_fl17_g : (am_fll 17).all (fun q => goodWord q.2) = true := by decide +kernel
theorem am_fll_ok : ∀ own, own < 18 → ∀ q ∈ am_fll own, q.2 ∈ am_wa := by
  intro own h
  rcases own with _ | _ | _ | _ | _ | _ | _ | _ | _ | _ | _ | _ | _ | _ | _ | _ | _ | _ | own
  · exact am_rows_in am_fl0 am_fl0_g
  · exact am_rows_in am_fl1 am_fl1_g
  · exact am_rows_in am_fl2 am_fl2_g
  · exact am_rows_in am_fl3 am_fl3_g
  · exact am_rows_in am_fl4 am_fl4_g
  · exact am_rows_in am_fl5 am_fl5_g
  · exact am_rows_in am_fl6 am_fl6_g
  · exact am_rows_in am_fl7 am_fl7_g
  · exact am_rows_in am_fl8 am_fl8_g
  · exact am_rows_in am_fl9 am_fl9_g
  · exact am_rows_in am_fl10 am_fl10_g
  · exact am_rows_in am_fl11 am_fl11_g
  · exact am_rows_in am_fl12 am_fl12_g
  · exact am_rows_in am_fl13 am_fl13_g
  · exact am_rows_in am_fl14 am_fl14_g
  · exact am_rows_in am_fl15 am_fl15_g
  · exact am_rows_in am_fl16 am_fl16_g
  · exact am_rows_in am_fl17 am_fl17_g
  · exact absurd h (by omega)
def am_lyl (c : Nat) : List (Nat × Cond) := (List.range (am_lpos c).length).map fun k => (am_at 0 (am_lpos c) k, u_lay (am_cn c) (am_T c) k)
set_option maxRecDepth 100000 in
theorem am_ly0 : am_rows (am_lyl 0) := rfl
set_option maxRecDepth 100000 in
theorem am_ly0_g : (am_lyl 0).all (fun q => goodWord q.2) = true := by decide +kernel
set_option maxRecDepth 100000 in
theorem am_ly1 : am_rows (am_lyl 1) := rfl
set_option maxRecDepth 100000 in
theorem am_ly1_g : (am_lyl 1).all (fun q => goodWord q.2) = true := by decide +kernel
set_option maxRecDepth 100000 in
theorem am_ly2 : am_rows (am_lyl 2) := rfl
set_option maxRecDepth 100000 in
theorem am_ly2_g : (am_lyl 2).all (fun q => goodWord q.2) = true := by decide +kernel
set_option maxRecDepth 100000 in
theorem am_ly3 : am_rows (am_lyl 3) := rfl
set_option maxRecDepth 100000 in
theorem am_ly3_g : (am_lyl 3).all (fun q => goodWord q.2) = true := by decide +kernel
set_option maxRecDepth 100000 in
theorem am_ly4 : am_rows (am_lyl 4) := rfl
set_option maxRecDepth 100000 in
theorem am_ly4_g : (am_lyl 4).all (fun q => goodWord q.2) = true := by decide +kernel
set_option maxRecDepth 100000 in
theorem am_ly5 : am_rows (am_lyl 5) := rfl
set_option maxRecDepth 100000 in
theorem am_ly5_g : (am_lyl 5).all (fun q => goodWord q.2) = true := by decide +kernel
set_option maxRecDepth 100000 in
theorem am_ly6 : am_rows (am_lyl 6) := rfl
set_option maxRecDepth 100000 in
theorem am_ly6_g : (am_lyl 6).all (fun q => goodWord q.2) = true := by decide +kernel
set_option maxRecDepth 100000 in
theorem am_ly7 : am_rows (am_lyl 7) := rfl
set_option maxRecDepth 100000 in
theorem am_ly7_g : (am_lyl 7).all (fun q => goodWord q.2) = true := by decide +kernel
set_option maxRecDepth 100000 in
theorem am_ly8 : am_rows (am_lyl 8) := rfl
set_option maxRecDepth 100000 in
theorem am_ly8_g : (am_lyl 8).all (fun q => goodWord q.2) = true := by decide +kernel
set_option maxRecDepth 100000 in
theorem am_ly9 : am_rows (am_lyl 9) := rfl
set_option maxRecDepth 100000 in
theorem am_ly9_g : (am_lyl 9).all (fun q => goodWord q.2) = true := by decide +kernel
set_option maxRecDepth 100000 in
theorem am_ly10_p0 : am_rows (((am_lyl 10).drop 0).take 40) := rfl
set_option maxRecDepth 100000 in
theorem am_ly10_p1 : am_rows (((am_lyl 10).drop 40).take 40) := rfl
theorem am_ly10_d1 : am_rows ((am_lyl 10).drop 40) := am_rows_td 40 am_ly10_p1 rfl
theorem am_ly10_d0 : am_rows ((am_lyl 10).drop 0) := am_rows_td 40 am_ly10_p0 (by rw [List.drop_drop]; exact am_ly10_d1)
theorem am_ly10 : am_rows (am_lyl 10) := am_ly10_d0
set_option maxRecDepth 100000 in
theorem am_ly10_g : (am_lyl 10).all (fun q => goodWord q.2) = true := by decide +kernel
theorem am_lyl_ok : ∀ own, own < 11 → ∀ q ∈ am_lyl own, q.2 ∈ am_wa := by
  intro own h
  rcases own with _ | _ | _ | _ | _ | _ | _ | _ | _ | _ | _ | own
  · exact am_rows_in am_ly0 am_ly0_g
  · exact am_rows_in am_ly1 am_ly1_g
  · exact am_rows_in am_ly2 am_ly2_g
  · exact am_rows_in am_ly3 am_ly3_g
  · exact am_rows_in am_ly4 am_ly4_g
  · exact am_rows_in am_ly5 am_ly5_g
  · exact am_rows_in am_ly6 am_ly6_g
  · exact am_rows_in am_ly7 am_ly7_g
  · exact am_rows_in am_ly8 am_ly8_g
  · exact am_rows_in am_ly9 am_ly9_g
  · exact am_rows_in am_ly10 am_ly10_g
  · exact absurd h (by omega)
set_option maxRecDepth 100000 in
theorem am_lpos_len : ∀ c, c < 11 → (am_lpos c).length = (am_ft c).length := by decide +kernel
def am_kwd (own idx t v neg : Nat) : Cond := bif Nat.beq t 1 then .constantLong (am_cn own) idx (Int64.ofInt (bif Nat.beq neg 1 then -(v : Int) else v)) else .constant (am_cn own) idx (Int32.ofInt (bif Nat.beq neg 1 then -(v : Int) else v))
def am_kll (own : Nat) : List (Nat × Cond) := ((am_klk own).filter fun e => !Nat.beq e.2.1 16).map fun e => (e.2.2.2.2, am_kwd own e.1 e.2.1 e.2.2.1 e.2.2.2.1)
set_option maxRecDepth 100000 in
theorem am_kl0 : am_rows (am_kll 0) := rfl
set_option maxRecDepth 100000 in
theorem am_kl0_g : (am_kll 0).all (fun q => goodWord q.2) = true := by decide +kernel
set_option maxRecDepth 100000 in
theorem am_kl1 : am_rows (am_kll 1) := rfl
set_option maxRecDepth 100000 in
theorem am_kl1_g : (am_kll 1).all (fun q => goodWord q.2) = true := by decide +kernel
set_option maxRecDepth 100000 in
theorem am_kl2 : am_rows (am_kll 2) := rfl
set_option maxRecDepth 100000 in
theorem am_kl2_g : (am_kll 2).all (fun q => goodWord q.2) = true := by decide +kernel
set_option maxRecDepth 100000 in
theorem am_kl3 : am_rows (am_kll 3) := rfl
set_option maxRecDepth 100000 in
theorem am_kl3_g : (am_kll 3).all (fun q => goodWord q.2) = true := by decide +kernel
set_option maxRecDepth 100000 in
theorem am_kl4 : am_rows (am_kll 4) := rfl
set_option maxRecDepth 100000 in
theorem am_kl4_g : (am_kll 4).all (fun q => goodWord q.2) = true := by decide +kernel
set_option maxRecDepth 100000 in
theorem am_kl5 : am_rows (am_kll 5) := rfl
set_option maxRecDepth 100000 in
theorem am_kl5_g : (am_kll 5).all (fun q => goodWord q.2) = true := by decide +kernel
set_option maxRecDepth 100000 in
theorem am_kl6 : am_rows (am_kll 6) := rfl
set_option maxRecDepth 100000 in
theorem am_kl6_g : (am_kll 6).all (fun q => goodWord q.2) = true := by decide +kernel
set_option maxRecDepth 100000 in
theorem am_kl7 : am_rows (am_kll 7) := rfl
set_option maxRecDepth 100000 in
theorem am_kl7_g : (am_kll 7).all (fun q => goodWord q.2) = true := by decide +kernel
set_option maxRecDepth 100000 in
theorem am_kl8 : am_rows (am_kll 8) := rfl
set_option maxRecDepth 100000 in
theorem am_kl8_g : (am_kll 8).all (fun q => goodWord q.2) = true := by decide +kernel
set_option maxRecDepth 100000 in
theorem am_kl9 : am_rows (am_kll 9) := rfl
set_option maxRecDepth 100000 in
theorem am_kl9_g : (am_kll 9).all (fun q => goodWord q.2) = true := by decide +kernel
set_option maxRecDepth 100000 in
theorem am_kl10 : am_rows (am_kll 10) := rfl
set_option maxRecDepth 100000 in
theorem am_kl10_g : (am_kll 10).all (fun q => goodWord q.2) = true := by decide +kernel
set_option maxRecDepth 100000 in
theorem am_kl11 : am_rows (am_kll 11) := rfl
set_option maxRecDepth 100000 in
theorem am_kl11_g : (am_kll 11).all (fun q => goodWord q.2) = true := by decide +kernel
set_option maxRecDepth 100000 in
theorem am_kl12 : am_rows (am_kll 12) := rfl
set_option maxRecDepth 100000 in
theorem am_kl12_g : (am_kll 12).all (fun q => goodWord q.2) = true := by decide +kernel
set_option maxRecDepth 100000 in
theorem am_kl13 : am_rows (am_kll 13) := rfl
set_option maxRecDepth 100000 in
theorem am_kl13_g : (am_kll 13).all (fun q => goodWord q.2) = true := by decide +kernel
set_option maxRecDepth 100000 in
theorem am_kl14 : am_rows (am_kll 14) := rfl
set_option maxRecDepth 100000 in
theorem am_kl14_g : (am_kll 14).all (fun q => goodWord q.2) = true := by decide +kernel
set_option maxRecDepth 100000 in
theorem am_kl15 : am_rows (am_kll 15) := rfl
set_option maxRecDepth 100000 in
theorem am_kl15_g : (am_kll 15).all (fun q => goodWord q.2) = true := by decide +kernel
set_option maxRecDepth 100000 in
theorem am_kl16 : am_rows (am_kll 16) := rfl
set_option maxRecDepth 100000 in
theorem am_kl16_g : (am_kll 16).all (fun q => goodWord q.2) = true := by decide +kernel
set_option maxRecDepth 100000 in
theorem am_kl17 : am_rows (am_kll 17) := rfl
set_option maxRecDepth 100000 in
theorem am_kl17_g : (am_kll 17).all (fun q => goodWord q.2) = true := by decide +kernel
theorem am_kll_ok : ∀ own, own < 18 → ∀ q ∈ am_kll own, q.2 ∈ am_wa := by
  intro own h
  rcases own with _ | _ | _ | _ | _ | _ | _ | _ | _ | _ | _ | _ | _ | _ | _ | _ | _ | _ | own
  · exact am_rows_in am_kl0 am_kl0_g
  · exact am_rows_in am_kl1 am_kl1_g
  · exact am_rows_in am_kl2 am_kl2_g
  · exact am_rows_in am_kl3 am_kl3_g
  · exact am_rows_in am_kl4 am_kl4_g
  · exact am_rows_in am_kl5 am_kl5_g
  · exact am_rows_in am_kl6 am_kl6_g
  · exact am_rows_in am_kl7 am_kl7_g
  · exact am_rows_in am_kl8 am_kl8_g
  · exact am_rows_in am_kl9 am_kl9_g
  · exact am_rows_in am_kl10 am_kl10_g
  · exact am_rows_in am_kl11 am_kl11_g
  · exact am_rows_in am_kl12 am_kl12_g
  · exact am_rows_in am_kl13 am_kl13_g
  · exact am_rows_in am_kl14 am_kl14_g
  · exact am_rows_in am_kl15 am_kl15_g
  · exact am_rows_in am_kl16 am_kl16_g
  · exact am_rows_in am_kl17 am_kl17_g
  · exact absurd h (by omega)
def am_nll (own : Nat) : List (Nat × Cond) := (am_nlk own).map fun e => (e.2.2, .classLink (am_cn own) e.1 (am_cn e.2.1))
set_option maxRecDepth 100000 in
theorem am_nl0 : am_rows (am_nll 0) := rfl
set_option maxRecDepth 100000 in
theorem am_nl0_g : (am_nll 0).all (fun q => goodWord q.2) = true := by decide +kernel
set_option maxRecDepth 100000 in
theorem am_nl1 : am_rows (am_nll 1) := rfl
set_option maxRecDepth 100000 in
theorem am_nl1_g : (am_nll 1).all (fun q => goodWord q.2) = true := by decide +kernel
set_option maxRecDepth 100000 in
theorem am_nl2 : am_rows (am_nll 2) := rfl
set_option maxRecDepth 100000 in
theorem am_nl2_g : (am_nll 2).all (fun q => goodWord q.2) = true := by decide +kernel
set_option maxRecDepth 100000 in
theorem am_nl3 : am_rows (am_nll 3) := rfl
set_option maxRecDepth 100000 in
theorem am_nl3_g : (am_nll 3).all (fun q => goodWord q.2) = true := by decide +kernel
set_option maxRecDepth 100000 in
theorem am_nl4 : am_rows (am_nll 4) := rfl
set_option maxRecDepth 100000 in
theorem am_nl4_g : (am_nll 4).all (fun q => goodWord q.2) = true := by decide +kernel
set_option maxRecDepth 100000 in
theorem am_nl5 : am_rows (am_nll 5) := rfl
set_option maxRecDepth 100000 in
theorem am_nl5_g : (am_nll 5).all (fun q => goodWord q.2) = true := by decide +kernel
set_option maxRecDepth 100000 in
theorem am_nl6 : am_rows (am_nll 6) := rfl
set_option maxRecDepth 100000 in
theorem am_nl6_g : (am_nll 6).all (fun q => goodWord q.2) = true := by decide +kernel
set_option maxRecDepth 100000 in
theorem am_nl7 : am_rows (am_nll 7) := rfl
set_option maxRecDepth 100000 in
theorem am_nl7_g : (am_nll 7).all (fun q => goodWord q.2) = true := by decide +kernel
set_option maxRecDepth 100000 in
theorem am_nl8 : am_rows (am_nll 8) := rfl
set_option maxRecDepth 100000 in
theorem am_nl8_g : (am_nll 8).all (fun q => goodWord q.2) = true := by decide +kernel
set_option maxRecDepth 100000 in
theorem am_nl9 : am_rows (am_nll 9) := rfl
set_option maxRecDepth 100000 in
theorem am_nl9_g : (am_nll 9).all (fun q => goodWord q.2) = true := by decide +kernel
set_option maxRecDepth 100000 in
theorem am_nl10 : am_rows (am_nll 10) := rfl
set_option maxRecDepth 100000 in
theorem am_nl10_g : (am_nll 10).all (fun q => goodWord q.2) = true := by decide +kernel
set_option maxRecDepth 100000 in
theorem am_nl11 : am_rows (am_nll 11) := rfl
set_option maxRecDepth 100000 in
theorem am_nl11_g : (am_nll 11).all (fun q => goodWord q.2) = true := by decide +kernel
set_option maxRecDepth 100000 in
theorem am_nl12 : am_rows (am_nll 12) := rfl
set_option maxRecDepth 100000 in
theorem am_nl12_g : (am_nll 12).all (fun q => goodWord q.2) = true := by decide +kernel
set_option maxRecDepth 100000 in
theorem am_nl13 : am_rows (am_nll 13) := rfl
set_option maxRecDepth 100000 in
theorem am_nl13_g : (am_nll 13).all (fun q => goodWord q.2) = true := by decide +kernel
set_option maxRecDepth 100000 in
theorem am_nl14 : am_rows (am_nll 14) := rfl
set_option maxRecDepth 100000 in
theorem am_nl14_g : (am_nll 14).all (fun q => goodWord q.2) = true := by decide +kernel
set_option maxRecDepth 100000 in
theorem am_nl15 : am_rows (am_nll 15) := rfl
set_option maxRecDepth 100000 in
theorem am_nl15_g : (am_nll 15).all (fun q => goodWord q.2) = true := by decide +kernel
set_option maxRecDepth 100000 in
theorem am_nl16 : am_rows (am_nll 16) := rfl
set_option maxRecDepth 100000 in
theorem am_nl16_g : (am_nll 16).all (fun q => goodWord q.2) = true := by decide +kernel
set_option maxRecDepth 100000 in
theorem am_nl17 : am_rows (am_nll 17) := rfl
set_option maxRecDepth 100000 in
theorem am_nl17_g : (am_nll 17).all (fun q => goodWord q.2) = true := by decide +kernel
theorem am_nll_ok : ∀ own, own < 18 → ∀ q ∈ am_nll own, q.2 ∈ am_wa := by
  intro own h
  rcases own with _ | _ | _ | _ | _ | _ | _ | _ | _ | _ | _ | _ | _ | _ | _ | _ | _ | _ | own
  · exact am_rows_in am_nl0 am_nl0_g
  · exact am_rows_in am_nl1 am_nl1_g
  · exact am_rows_in am_nl2 am_nl2_g
  · exact am_rows_in am_nl3 am_nl3_g
  · exact am_rows_in am_nl4 am_nl4_g
  · exact am_rows_in am_nl5 am_nl5_g
  · exact am_rows_in am_nl6 am_nl6_g
  · exact am_rows_in am_nl7 am_nl7_g
  · exact am_rows_in am_nl8 am_nl8_g
  · exact am_rows_in am_nl9 am_nl9_g
  · exact am_rows_in am_nl10 am_nl10_g
  · exact am_rows_in am_nl11 am_nl11_g
  · exact am_rows_in am_nl12 am_nl12_g
  · exact am_rows_in am_nl13 am_nl13_g
  · exact am_rows_in am_nl14 am_nl14_g
  · exact am_rows_in am_nl15 am_nl15_g
  · exact am_rows_in am_nl16 am_nl16_g
  · exact am_rows_in am_nl17 am_nl17_g
  · exact absurd h (by omega)
def am_sfn : Nat → String × String × String := fun i => bif Nat.blt i 4 then (bif Nat.blt i 2 then (bif Nat.blt i 1 then (bif Nat.beq i 0 then ("PlanMemo", "EXPRESSION_ABOVE", "[I") else ("", "", "")) else (bif Nat.beq i 1 then ("PlanMemo", "RULE_TAKES", "[I") else ("", "", ""))) else (bif Nat.blt i 3 then (bif Nat.beq i 2 then ("PlanMemo", "WAY_ABOVE", "[I") else ("", "", "")) else (bif Nat.beq i 3 then ("PlanMemo", "READS_BODY", "[I") else ("", "", "")))) else (bif Nat.blt i 6 then (bif Nat.blt i 5 then (bif Nat.beq i 4 then ("PlanMemo", "WORKS_BODY", "[I") else ("", "", "")) else (bif Nat.beq i 5 then ("PlanMemo", "FIRST_WAY_OF", "[I") else ("", "", ""))) else (bif Nat.blt i 7 then (bif Nat.beq i 6 then ("PlanMemo", "SLOTS_OF", "[I") else ("", "", "")) else (bif Nat.blt i 8 then (bif Nat.beq i 7 then ("java/lang/String", "COMPACT_STRINGS", "Z") else ("", "", "")) else (bif Nat.beq i 8 then ("jdk/internal/util/Preconditions", "SIOOBE_FORMATTE\x52", "Ljava/util/function/BiFunction;") else ("", "", "")))))
def am_gll (own : Nat) : List (Nat × Cond) := ((am_glk own).filter fun e => Nat.beq e.2.2.1 0).map fun e => (e.2.2.2, .fieldLink (am_cn own) e.1 (am_sfn e.2.1).1 (am_sfn e.2.1).2.1 (am_sfn e.2.1).2.2)
set_option maxRecDepth 100000 in
theorem am_gl0 : am_rows (am_gll 0) := rfl
set_option maxRecDepth 100000 in
theorem am_gl0_g : (am_gll 0).all (fun q => goodWord q.2) = true := by decide +kernel
set_option maxRecDepth 100000 in
theorem am_gl1 : am_rows (am_gll 1) := rfl
set_option maxRecDepth 100000 in
theorem am_gl1_g : (am_gll 1).all (fun q => goodWord q.2) = true := by decide +kernel
set_option maxRecDepth 100000 in
theorem am_gl2 : am_rows (am_gll 2) := rfl
set_option maxRecDepth 100000 in
theorem am_gl2_g : (am_gll 2).all (fun q => goodWord q.2) = true := by decide +kernel
set_option maxRecDepth 100000 in
theorem am_gl3 : am_rows (am_gll 3) := rfl
set_option maxRecDepth 100000 in
theorem am_gl3_g : (am_gll 3).all (fun q => goodWord q.2) = true := by decide +kernel
set_option maxRecDepth 100000 in
theorem am_gl4 : am_rows (am_gll 4) := rfl
set_option maxRecDepth 100000 in
theorem am_gl4_g : (am_gll 4).all (fun q => goodWord q.2) = true := by decide +kernel
set_option maxRecDepth 100000 in
theorem am_gl5 : am_rows (am_gll 5) := rfl
set_option maxRecDepth 100000 in
theorem am_gl5_g : (am_gll 5).all (fun q => goodWord q.2) = true := by decide +kernel
set_option maxRecDepth 100000 in
theorem am_gl6 : am_rows (am_gll 6) := rfl
set_option maxRecDepth 100000 in
theorem am_gl6_g : (am_gll 6).all (fun q => goodWord q.2) = true := by decide +kernel
set_option maxRecDepth 100000 in
theorem am_gl7 : am_rows (am_gll 7) := rfl
set_option maxRecDepth 100000 in
theorem am_gl7_g : (am_gll 7).all (fun q => goodWord q.2) = true := by decide +kernel
set_option maxRecDepth 100000 in
theorem am_gl8 : am_rows (am_gll 8) := rfl
set_option maxRecDepth 100000 in
theorem am_gl8_g : (am_gll 8).all (fun q => goodWord q.2) = true := by decide +kernel
set_option maxRecDepth 100000 in
theorem am_gl9 : am_rows (am_gll 9) := rfl
set_option maxRecDepth 100000 in
theorem am_gl9_g : (am_gll 9).all (fun q => goodWord q.2) = true := by decide +kernel
set_option maxRecDepth 100000 in
theorem am_gl10 : am_rows (am_gll 10) := rfl
set_option maxRecDepth 100000 in
theorem am_gl10_g : (am_gll 10).all (fun q => goodWord q.2) = true := by decide +kernel
set_option maxRecDepth 100000 in
theorem am_gl11 : am_rows (am_gll 11) := rfl
set_option maxRecDepth 100000 in
theorem am_gl11_g : (am_gll 11).all (fun q => goodWord q.2) = true := by decide +kernel
set_option maxRecDepth 100000 in
theorem am_gl12 : am_rows (am_gll 12) := rfl
set_option maxRecDepth 100000 in
theorem am_gl12_g : (am_gll 12).all (fun q => goodWord q.2) = true := by decide +kernel
set_option maxRecDepth 100000 in
theorem am_gl13 : am_rows (am_gll 13) := rfl
set_option maxRecDepth 100000 in
theorem am_gl13_g : (am_gll 13).all (fun q => goodWord q.2) = true := by decide +kernel
set_option maxRecDepth 100000 in
theorem am_gl14 : am_rows (am_gll 14) := rfl
set_option maxRecDepth 100000 in
theorem am_gl14_g : (am_gll 14).all (fun q => goodWord q.2) = true := by decide +kernel
set_option maxRecDepth 100000 in
theorem am_gl15 : am_rows (am_gll 15) := rfl
set_option maxRecDepth 100000 in
theorem am_gl15_g : (am_gll 15).all (fun q => goodWord q.2) = true := by decide +kernel
set_option maxRecDepth 100000 in
theorem am_gl16 : am_rows (am_gll 16) := rfl
set_option maxRecDepth 100000 in
theorem am_gl16_g : (am_gll 16).all (fun q => goodWord q.2) = true := by decide +kernel
set_option maxRecDepth 100000 in
theorem am_gl17 : am_rows (am_gll 17) := rfl
set_option maxRecDepth 100000 in
theorem am_gl17_g : (am_gll 17).all (fun q => goodWord q.2) = true := by decide +kernel
theorem am_gll_ok : ∀ own, own < 18 → ∀ q ∈ am_gll own, q.2 ∈ am_wa := by
  intro own h
  rcases own with _ | _ | _ | _ | _ | _ | _ | _ | _ | _ | _ | _ | _ | _ | _ | _ | _ | _ | own
  · exact am_rows_in am_gl0 am_gl0_g
  · exact am_rows_in am_gl1 am_gl1_g
  · exact am_rows_in am_gl2 am_gl2_g
  · exact am_rows_in am_gl3 am_gl3_g
  · exact am_rows_in am_gl4 am_gl4_g
  · exact am_rows_in am_gl5 am_gl5_g
  · exact am_rows_in am_gl6 am_gl6_g
  · exact am_rows_in am_gl7 am_gl7_g
  · exact am_rows_in am_gl8 am_gl8_g
  · exact am_rows_in am_gl9 am_gl9_g
  · exact am_rows_in am_gl10 am_gl10_g
  · exact am_rows_in am_gl11 am_gl11_g
  · exact am_rows_in am_gl12 am_gl12_g
  · exact am_rows_in am_gl13 am_gl13_g
  · exact am_rows_in am_gl14 am_gl14_g
  · exact am_rows_in am_gl15 am_gl15_g
  · exact am_rows_in am_gl16 am_gl16_g
  · exact am_rows_in am_gl17 am_gl17_g
  · exact absurd h (by omega)
def am_gnl (own : Nat) : List (Nat × Cond) := ((am_glk own).filter fun e => Nat.beq e.2.2.1 1).map fun e => (e.2.2.2, .fieldLinkNest (am_cn own) e.1 (am_sfn e.2.1).1 (am_sfn e.2.1).2.1 (am_sfn e.2.1).2.2 "PlanMemo")
def am_nrows (l : List (Nat × Cond)) : Prop := l.map (fun q => am_nest[q.1]?) = l.map (fun q => some q.2)
theorem am_nrows_in : ∀ {l : List (Nat × Cond)}, am_nrows l → ∀ q ∈ l, q.2 ∈ am_nest := by
  intro l
  induction l with
  | nil => intro _ q hq; cases hq
  | cons a l ih =>
    intro h q hq
    unfold am_nrows at h
    rw [List.map_cons, List.map_cons, List.cons.injEq] at h
    rcases List.mem_cons.mp hq with e | hq
    · subst e
      exact List.mem_of_getElem? h.1
    · exact ih h.2 q hq
set_option maxRecDepth 100000 in
theorem am_gnl_ok0 : am_nrows (am_gnl 0) := rfl
set_option maxRecDepth 100000 in
theorem am_gnl_ok1 : am_nrows (am_gnl 1) := rfl
set_option maxRecDepth 100000 in
theorem am_gnl_ok2 : am_nrows (am_gnl 2) := rfl
set_option maxRecDepth 100000 in
theorem am_gnl_ok3 : am_nrows (am_gnl 3) := rfl
set_option maxRecDepth 100000 in
theorem am_gnl_ok4 : am_nrows (am_gnl 4) := rfl
set_option maxRecDepth 100000 in
theorem am_gnl_ok5 : am_nrows (am_gnl 5) := rfl
set_option maxRecDepth 100000 in
theorem am_gnl_ok6 : am_nrows (am_gnl 6) := rfl
set_option maxRecDepth 100000 in
theorem am_gnl_ok7 : am_nrows (am_gnl 7) := rfl
set_option maxRecDepth 100000 in
theorem am_gnl_ok8 : am_nrows (am_gnl 8) := rfl
set_option maxRecDepth 100000 in
theorem am_gnl_ok9 : am_nrows (am_gnl 9) := rfl
set_option maxRecDepth 100000 in
theorem am_gnl_ok10 : am_nrows (am_gnl 10) := rfl
set_option maxRecDepth 100000 in
theorem am_gnl_ok11 : am_nrows (am_gnl 11) := rfl
set_option maxRecDepth 100000 in
theorem am_gnl_ok12 : am_nrows (am_gnl 12) := rfl
set_option maxRecDepth 100000 in
theorem am_gnl_ok13 : am_nrows (am_gnl 13) := rfl
set_option maxRecDepth 100000 in
theorem am_gnl_ok14 : am_nrows (am_gnl 14) := rfl
set_option maxRecDepth 100000 in
theorem am_gnl_ok15 : am_nrows (am_gnl 15) := rfl
set_option maxRecDepth 100000 in
theorem am_gnl_ok16 : am_nrows (am_gnl 16) := rfl
set_option maxRecDepth 100000 in
theorem am_gnl_ok17 : am_nrows (am_gnl 17) := rfl
theorem am_gnl_ok : ∀ own, own < 18 → ∀ q ∈ am_gnl own, q.2 ∈ am_nest := by
  intro own h
  rcases own with _ | _ | _ | _ | _ | _ | _ | _ | _ | _ | _ | _ | _ | _ | _ | _ | _ | _ | own
  · exact am_nrows_in am_gnl_ok0
  · exact am_nrows_in am_gnl_ok1
  · exact am_nrows_in am_gnl_ok2
  · exact am_nrows_in am_gnl_ok3
  · exact am_nrows_in am_gnl_ok4
  · exact am_nrows_in am_gnl_ok5
  · exact am_nrows_in am_gnl_ok6
  · exact am_nrows_in am_gnl_ok7
  · exact am_nrows_in am_gnl_ok8
  · exact am_nrows_in am_gnl_ok9
  · exact am_nrows_in am_gnl_ok10
  · exact am_nrows_in am_gnl_ok11
  · exact am_nrows_in am_gnl_ok12
  · exact am_nrows_in am_gnl_ok13
  · exact am_nrows_in am_gnl_ok14
  · exact am_nrows_in am_gnl_ok15
  · exact am_nrows_in am_gnl_ok16
  · exact am_nrows_in am_gnl_ok17
  · exact absurd h (by omega)
def am_mnm (i : Nat) : MethodName := bif Nat.beq i 0 then Lib.Math.min.name else bif Nat.beq i 1 then Lib.Math.max.name else bif Nat.beq i 2 then Lib.MathLoose.min_long.x else Lib.MathLoose.max_long.x
def am_mcd (i : Nat) : Cond := bif Nat.beq i 0 then .code Lib.Math.min.name Lib.Math.min.code 2 (some .int) else bif Nat.beq i 1 then .code Lib.Math.max.name Lib.Math.max.code 2 (some .int) else bif Nat.beq i 2 then .code Lib.MathLoose.min_long.x Lib.MathLoose.min_long.code 4 (some .long) else .code Lib.MathLoose.max_long.x Lib.MathLoose.max_long.code 4 (some .long)
def am_cws (own : Nat) (e : Nat × Nat × Nat × Nat × Nat × Nat) : List (Nat × Cond) :=
  bif Nat.beq e.2.2.1 0 then [(e.2.2.2.1, .methodLink (am_cn own) e.1 (am_nm e.2.1)), (e.2.2.2.2.1, .instanceMethod (am_nm e.2.1)), (e.2.2.2.2.2, .selects (am_nm e.2.1).cls (am_nm e.2.1) (am_nm e.2.1))]
  else bif Nat.beq e.2.2.1 1 then [(e.2.2.2.1, .methodLink (am_cn own) e.1 (am_nm e.2.1)), (e.2.2.2.2.1, .static (am_nm e.2.1))]
  else bif Nat.beq e.2.2.1 2 then [(e.2.2.2.1, .methodLink (am_cn own) e.1 (am_nm e.2.1)), (e.2.2.2.2.1, .instanceMethod (am_nm e.2.1))]
  else bif Nat.beq e.2.2.1 3 then [(e.2.2.2.2.1, .static (am_nm e.2.1))]
  else bif Nat.beq e.2.2.1 4 then [(e.2.2.2.2.1, .instanceMethod (am_nm e.2.1))]
  else bif Nat.beq e.2.2.1 5 then [(e.2.2.2.1, .methodLink (am_cn own) e.1 objectInit), (e.2.2.2.2.1, .instanceMethod objectInit)]
  else bif Nat.beq e.2.2.1 6 then [(e.2.2.2.1, .methodLink (am_cn own) e.1 arraycopyName), (e.2.2.2.2.1, .static arraycopyName), (e.2.2.2.2.2, .native arraycopyName)]
  else [(e.2.2.2.1, .methodLink (am_cn own) e.1 (am_mnm e.2.1)), (e.2.2.2.2.1, .static (am_mnm e.2.1)), (e.2.2.2.2.2, am_mcd e.2.1)]
def am_cll (own : Nat) : List (Nat × Cond) := (am_clk own).flatMap (am_cws own)
def am_cnl (own : Nat) : List (Nat × Cond) := ((am_clk own).filter fun e => Nat.beq e.2.2.1 3 || Nat.beq e.2.2.1 4).map fun e => (e.2.2.2.1, .methodLinkNest (am_cn own) e.1 (am_nm e.2.1) "PlanMemo")
set_option maxRecDepth 100000 in
theorem am_cnl_ok0 : am_nrows (am_cnl 0) := rfl
set_option maxRecDepth 100000 in
theorem am_cnl_ok1 : am_nrows (am_cnl 1) := rfl
set_option maxRecDepth 100000 in
theorem am_cnl_ok2 : am_nrows (am_cnl 2) := rfl
set_option maxRecDepth 100000 in
theorem am_cnl_ok3 : am_nrows (am_cnl 3) := rfl
set_option maxRecDepth 100000 in
theorem am_cnl_ok4 : am_nrows (am_cnl 4) := rfl
set_option maxRecDepth 100000 in
theorem am_cnl_ok5 : am_nrows (am_cnl 5) := rfl
set_option maxRecDepth 100000 in
theorem am_cnl_ok6 : am_nrows (am_cnl 6) := rfl
set_option maxRecDepth 100000 in
theorem am_cnl_ok7 : am_nrows (am_cnl 7) := rfl
set_option maxRecDepth 100000 in
theorem am_cnl_ok8 : am_nrows (am_cnl 8) := rfl
set_option maxRecDepth 100000 in
theorem am_cnl_ok9 : am_nrows (am_cnl 9) := rfl
set_option maxRecDepth 100000 in
theorem am_cnl_ok10 : am_nrows (am_cnl 10) := rfl
set_option maxRecDepth 100000 in
theorem am_cnl_ok11 : am_nrows (am_cnl 11) := rfl
set_option maxRecDepth 100000 in
theorem am_cnl_ok12 : am_nrows (am_cnl 12) := rfl
set_option maxRecDepth 100000 in
theorem am_cnl_ok13 : am_nrows (am_cnl 13) := rfl
set_option maxRecDepth 100000 in
theorem am_cnl_ok14 : am_nrows (am_cnl 14) := rfl
set_option maxRecDepth 100000 in
theorem am_cnl_ok15 : am_nrows (am_cnl 15) := rfl
set_option maxRecDepth 100000 in
theorem am_cnl_ok16 : am_nrows (am_cnl 16) := rfl
set_option maxRecDepth 100000 in
theorem am_cnl_ok17 : am_nrows (am_cnl 17) := rfl
theorem am_cnl_ok : ∀ own, own < 18 → ∀ q ∈ am_cnl own, q.2 ∈ am_nest := by
  intro own h
  rcases own with _ | _ | _ | _ | _ | _ | _ | _ | _ | _ | _ | _ | _ | _ | _ | _ | _ | _ | own
  · exact am_nrows_in am_cnl_ok0
  · exact am_nrows_in am_cnl_ok1
  · exact am_nrows_in am_cnl_ok2
  · exact am_nrows_in am_cnl_ok3
  · exact am_nrows_in am_cnl_ok4
  · exact am_nrows_in am_cnl_ok5
  · exact am_nrows_in am_cnl_ok6
  · exact am_nrows_in am_cnl_ok7
  · exact am_nrows_in am_cnl_ok8
  · exact am_nrows_in am_cnl_ok9
  · exact am_nrows_in am_cnl_ok10
  · exact am_nrows_in am_cnl_ok11
  · exact am_nrows_in am_cnl_ok12
  · exact am_nrows_in am_cnl_ok13
  · exact am_nrows_in am_cnl_ok14
  · exact am_nrows_in am_cnl_ok15
  · exact am_nrows_in am_cnl_ok16
  · exact am_nrows_in am_cnl_ok17
  · exact absurd h (by omega)
set_option maxRecDepth 100000 in
theorem am_cx0 : am_rows (am_cll 0) := rfl
set_option maxRecDepth 100000 in
theorem am_cx0_g : (am_cll 0).all (fun q => goodWord q.2) = true := by decide +kernel
set_option maxRecDepth 100000 in
theorem am_cx1_p0 : am_rows (((am_cll 1).drop 0).take 30) := rfl
set_option maxRecDepth 100000 in
theorem am_cx1_p1 : am_rows (((am_cll 1).drop 30).take 30) := rfl
theorem am_cx1_d1 : am_rows ((am_cll 1).drop 30) := am_rows_td 30 am_cx1_p1 rfl
theorem am_cx1_d0 : am_rows ((am_cll 1).drop 0) := am_rows_td 30 am_cx1_p0 (by rw [List.drop_drop]; exact am_cx1_d1)
theorem am_cx1 : am_rows (am_cll 1) := am_cx1_d0
set_option maxRecDepth 100000 in
theorem am_cx1_g : (am_cll 1).all (fun q => goodWord q.2) = true := by decide +kernel
set_option maxRecDepth 100000 in
theorem am_cx2_p0 : am_rows (((am_cll 2).drop 0).take 30) := rfl
set_option maxRecDepth 100000 in
theorem am_cx2_p1 : am_rows (((am_cll 2).drop 30).take 30) := rfl
theorem am_cx2_d1 : am_rows ((am_cll 2).drop 30) := am_rows_td 30 am_cx2_p1 rfl
theorem am_cx2_d0 : am_rows ((am_cll 2).drop 0) := am_rows_td 30 am_cx2_p0 (by rw [List.drop_drop]; exact am_cx2_d1)
theorem am_cx2 : am_rows (am_cll 2) := am_cx2_d0
set_option maxRecDepth 100000 in
theorem am_cx2_g : (am_cll 2).all (fun q => goodWord q.2) = true := by decide +kernel
set_option maxRecDepth 100000 in
theorem am_cx3_p0 : am_rows (((am_cll 3).drop 0).take 30) := rfl
set_option maxRecDepth 100000 in
theorem am_cx3_p1 : am_rows (((am_cll 3).drop 30).take 30) := rfl
theorem am_cx3_d1 : am_rows ((am_cll 3).drop 30) := am_rows_td 30 am_cx3_p1 rfl
theorem am_cx3_d0 : am_rows ((am_cll 3).drop 0) := am_rows_td 30 am_cx3_p0 (by rw [List.drop_drop]; exact am_cx3_d1)
theorem am_cx3 : am_rows (am_cll 3) := am_cx3_d0
set_option maxRecDepth 100000 in
theorem am_cx3_g : (am_cll 3).all (fun q => goodWord q.2) = true := by decide +kernel
set_option maxRecDepth 100000 in
theorem am_cx4_p0 : am_rows (((am_cll 4).drop 0).take 30) := rfl
set_option maxRecDepth 100000 in
theorem am_cx4_p1 : am_rows (((am_cll 4).drop 30).take 30) := rfl
theorem am_cx4_d1 : am_rows ((am_cll 4).drop 30) := am_rows_td 30 am_cx4_p1 rfl
theorem am_cx4_d0 : am_rows ((am_cll 4).drop 0) := am_rows_td 30 am_cx4_p0 (by rw [List.drop_drop]; exact am_cx4_d1)
theorem am_cx4 : am_rows (am_cll 4) := am_cx4_d0
set_option maxRecDepth 100000 in
theorem am_cx4_g : (am_cll 4).all (fun q => goodWord q.2) = true := by decide +kernel
set_option maxRecDepth 100000 in
theorem am_cx5_p0 : am_rows (((am_cll 5).drop 0).take 30) := rfl
set_option maxRecDepth 100000 in
theorem am_cx5_p1 : am_rows (((am_cll 5).drop 30).take 30) := rfl
theorem am_cx5_d1 : am_rows ((am_cll 5).drop 30) := am_rows_td 30 am_cx5_p1 rfl
theorem am_cx5_d0 : am_rows ((am_cll 5).drop 0) := am_rows_td 30 am_cx5_p0 (by rw [List.drop_drop]; exact am_cx5_d1)
theorem am_cx5 : am_rows (am_cll 5) := am_cx5_d0
set_option maxRecDepth 100000 in
theorem am_cx5_g : (am_cll 5).all (fun q => goodWord q.2) = true := by decide +kernel
set_option maxRecDepth 100000 in
theorem am_cx6 : am_rows (am_cll 6) := rfl
set_option maxRecDepth 100000 in
theorem am_cx6_g : (am_cll 6).all (fun q => goodWord q.2) = true := by decide +kernel
set_option maxRecDepth 100000 in
theorem am_cx7 : am_rows (am_cll 7) := rfl
set_option maxRecDepth 100000 in
theorem am_cx7_g : (am_cll 7).all (fun q => goodWord q.2) = true := by decide +kernel
set_option maxRecDepth 100000 in
theorem am_cx8_p0 : am_rows (((am_cll 8).drop 0).take 30) := rfl
set_option maxRecDepth 100000 in
theorem am_cx8_p1 : am_rows (((am_cll 8).drop 30).take 30) := rfl
theorem am_cx8_d1 : am_rows ((am_cll 8).drop 30) := am_rows_td 30 am_cx8_p1 rfl
theorem am_cx8_d0 : am_rows ((am_cll 8).drop 0) := am_rows_td 30 am_cx8_p0 (by rw [List.drop_drop]; exact am_cx8_d1)
theorem am_cx8 : am_rows (am_cll 8) := am_cx8_d0
set_option maxRecDepth 100000 in
theorem am_cx8_g : (am_cll 8).all (fun q => goodWord q.2) = true := by decide +kernel
set_option maxRecDepth 100000 in
theorem am_cx9_p0 : am_rows (((am_cll 9).drop 0).take 30) := rfl
set_option maxRecDepth 100000 in
theorem am_cx9_p1 : am_rows (((am_cll 9).drop 30).take 30) := rfl
set_option maxRecDepth 100000 in
theorem am_cx9_p2 : am_rows (((am_cll 9).drop 60).take 30) := rfl
set_option maxRecDepth 100000 in
theorem am_cx9_p3 : am_rows (((am_cll 9).drop 90).take 30) := rfl
set_option maxRecDepth 100000 in
theorem am_cx9_p4 : am_rows (((am_cll 9).drop 120).take 30) := rfl
set_option maxRecDepth 100000 in
theorem am_cx9_p5 : am_rows (((am_cll 9).drop 150).take 30) := rfl
set_option maxRecDepth 100000 in
theorem am_cx9_p6 : am_rows (((am_cll 9).drop 180).take 30) := rfl
theorem am_cx9_d6 : am_rows ((am_cll 9).drop 180) := am_rows_td 30 am_cx9_p6 rfl
theorem am_cx9_d5 : am_rows ((am_cll 9).drop 150) := am_rows_td 30 am_cx9_p5 (by rw [List.drop_drop]; exact am_cx9_d6)
theorem am_cx9_d4 : am_rows ((am_cll 9).drop 120) := am_rows_td 30 am_cx9_p4 (by rw [List.drop_drop]; exact am_cx9_d5)
theorem am_cx9_d3 : am_rows ((am_cll 9).drop 90) := am_rows_td 30 am_cx9_p3 (by rw [List.drop_drop]; exact am_cx9_d4)
theorem am_cx9_d2 : am_rows ((am_cll 9).drop 60) := am_rows_td 30 am_cx9_p2 (by rw [List.drop_drop]; exact am_cx9_d3)
theorem am_cx9_d1 : am_rows ((am_cll 9).drop 30) := am_rows_td 30 am_cx9_p1 (by rw [List.drop_drop]; exact am_cx9_d2)
theorem am_cx9_d0 : am_rows ((am_cll 9).drop 0) := am_rows_td 30 am_cx9_p0 (by rw [List.drop_drop]; exact am_cx9_d1)
theorem am_cx9 : am_rows (am_cll 9) := am_cx9_d0
set_option maxRecDepth 100000 in
theorem am_cx9_g : (am_cll 9).all (fun q => goodWord q.2) = true := by decide +kernel
set_option maxRecDepth 100000 in
theorem am_cx10_p0 : am_rows (((am_cll 10).drop 0).take 30) := rfl
set_option maxRecDepth 100000 in
theorem am_cx10_p1 : am_rows (((am_cll 10).drop 30).take 30) := rfl
set_option maxRecDepth 100000 in
theorem am_cx10_p2 : am_rows (((am_cll 10).drop 60).take 30) := rfl
set_option maxRecDepth 100000 in
theorem am_cx10_p3 : am_rows (((am_cll 10).drop 90).take 30) := rfl
set_option maxRecDepth 100000 in
theorem am_cx10_p4 : am_rows (((am_cll 10).drop 120).take 30) := rfl
set_option maxRecDepth 100000 in
theorem am_cx10_p5 : am_rows (((am_cll 10).drop 150).take 30) := rfl
theorem am_cx10_d5 : am_rows ((am_cll 10).drop 150) := am_rows_td 30 am_cx10_p5 rfl
theorem am_cx10_d4 : am_rows ((am_cll 10).drop 120) := am_rows_td 30 am_cx10_p4 (by rw [List.drop_drop]; exact am_cx10_d5)
theorem am_cx10_d3 : am_rows ((am_cll 10).drop 90) := am_rows_td 30 am_cx10_p3 (by rw [List.drop_drop]; exact am_cx10_d4)
theorem am_cx10_d2 : am_rows ((am_cll 10).drop 60) := am_rows_td 30 am_cx10_p2 (by rw [List.drop_drop]; exact am_cx10_d3)
theorem am_cx10_d1 : am_rows ((am_cll 10).drop 30) := am_rows_td 30 am_cx10_p1 (by rw [List.drop_drop]; exact am_cx10_d2)
theorem am_cx10_d0 : am_rows ((am_cll 10).drop 0) := am_rows_td 30 am_cx10_p0 (by rw [List.drop_drop]; exact am_cx10_d1)
theorem am_cx10 : am_rows (am_cll 10) := am_cx10_d0
set_option maxRecDepth 100000 in
theorem am_cx10_g : (am_cll 10).all (fun q => goodWord q.2) = true := by decide +kernel
set_option maxRecDepth 100000 in
theorem am_cx11_p0 : am_rows (((am_cll 11).drop 0).take 30) := rfl
set_option maxRecDepth 100000 in
theorem am_cx11_p1 : am_rows (((am_cll 11).drop 30).take 30) := rfl
set_option maxRecDepth 100000 in
theorem am_cx11_p2 : am_rows (((am_cll 11).drop 60).take 30) := rfl
set_option maxRecDepth 100000 in
theorem am_cx11_p3 : am_rows (((am_cll 11).drop 90).take 30) := rfl
set_option maxRecDepth 100000 in
theorem am_cx11_p4 : am_rows (((am_cll 11).drop 120).take 30) := rfl
set_option maxRecDepth 100000 in
theorem am_cx11_p5 : am_rows (((am_cll 11).drop 150).take 30) := rfl
set_option maxRecDepth 100000 in
theorem am_cx11_p6 : am_rows (((am_cll 11).drop 180).take 30) := rfl
set_option maxRecDepth 100000 in
theorem am_cx11_p7 : am_rows (((am_cll 11).drop 210).take 30) := rfl
set_option maxRecDepth 100000 in
theorem am_cx11_p8 : am_rows (((am_cll 11).drop 240).take 30) := rfl
theorem am_cx11_d8 : am_rows ((am_cll 11).drop 240) := am_rows_td 30 am_cx11_p8 rfl
theorem am_cx11_d7 : am_rows ((am_cll 11).drop 210) := am_rows_td 30 am_cx11_p7 (by rw [List.drop_drop]; exact am_cx11_d8)
theorem am_cx11_d6 : am_rows ((am_cll 11).drop 180) := am_rows_td 30 am_cx11_p6 (by rw [List.drop_drop]; exact am_cx11_d7)
theorem am_cx11_d5 : am_rows ((am_cll 11).drop 150) := am_rows_td 30 am_cx11_p5 (by rw [List.drop_drop]; exact am_cx11_d6)
theorem am_cx11_d4 : am_rows ((am_cll 11).drop 120) := am_rows_td 30 am_cx11_p4 (by rw [List.drop_drop]; exact am_cx11_d5)
theorem am_cx11_d3 : am_rows ((am_cll 11).drop 90) := am_rows_td 30 am_cx11_p3 (by rw [List.drop_drop]; exact am_cx11_d4)
theorem am_cx11_d2 : am_rows ((am_cll 11).drop 60) := am_rows_td 30 am_cx11_p2 (by rw [List.drop_drop]; exact am_cx11_d3)
theorem am_cx11_d1 : am_rows ((am_cll 11).drop 30) := am_rows_td 30 am_cx11_p1 (by rw [List.drop_drop]; exact am_cx11_d2)
theorem am_cx11_d0 : am_rows ((am_cll 11).drop 0) := am_rows_td 30 am_cx11_p0 (by rw [List.drop_drop]; exact am_cx11_d1)
theorem am_cx11 : am_rows (am_cll 11) := am_cx11_d0
set_option maxRecDepth 100000 in
theorem am_cx11_g : (am_cll 11).all (fun q => goodWord q.2) = true := by decide +kernel
set_option maxRecDepth 100000 in
theorem am_cx12 : am_rows (am_cll 12) := rfl
set_option maxRecDepth 100000 in
theorem am_cx12_g : (am_cll 12).all (fun q => goodWord q.2) = true := by decide +kernel
set_option maxRecDepth 100000 in
theorem am_cx13 : am_rows (am_cll 13) := rfl
set_option maxRecDepth 100000 in
theorem am_cx13_g : (am_cll 13).all (fun q => goodWord q.2) = true := by decide +kernel
set_option maxRecDepth 100000 in
theorem am_cx14 : am_rows (am_cll 14) := rfl
set_option maxRecDepth 100000 in
theorem am_cx14_g : (am_cll 14).all (fun q => goodWord q.2) = true := by decide +kernel
set_option maxRecDepth 100000 in
theorem am_cx15 : am_rows (am_cll 15) := rfl
set_option maxRecDepth 100000 in
theorem am_cx15_g : (am_cll 15).all (fun q => goodWord q.2) = true := by decide +kernel
set_option maxRecDepth 100000 in
theorem am_cx16 : am_rows (am_cll 16) := rfl
set_option maxRecDepth 100000 in
theorem am_cx16_g : (am_cll 16).all (fun q => goodWord q.2) = true := by decide +kernel
set_option maxRecDepth 100000 in
theorem am_cx17 : am_rows (am_cll 17) := rfl
set_option maxRecDepth 100000 in
theorem am_cx17_g : (am_cll 17).all (fun q => goodWord q.2) = true := by decide +kernel
theorem am_cll_ok : ∀ own, own < 18 → ∀ q ∈ am_cll own, q.2 ∈ am_wa := by
  intro own h
  rcases own with _ | _ | _ | _ | _ | _ | _ | _ | _ | _ | _ | _ | _ | _ | _ | _ | _ | _ | own
  · exact am_rows_in am_cx0 am_cx0_g
  · exact am_rows_in am_cx1 am_cx1_g
  · exact am_rows_in am_cx2 am_cx2_g
  · exact am_rows_in am_cx3 am_cx3_g
  · exact am_rows_in am_cx4 am_cx4_g
  · exact am_rows_in am_cx5 am_cx5_g
  · exact am_rows_in am_cx6 am_cx6_g
  · exact am_rows_in am_cx7 am_cx7_g
  · exact am_rows_in am_cx8 am_cx8_g
  · exact am_rows_in am_cx9 am_cx9_g
  · exact am_rows_in am_cx10 am_cx10_g
  · exact am_rows_in am_cx11 am_cx11_g
  · exact am_rows_in am_cx12 am_cx12_g
  · exact am_rows_in am_cx13 am_cx13_g
  · exact am_rows_in am_cx14 am_cx14_g
  · exact am_rows_in am_cx15 am_cx15_g
  · exact am_rows_in am_cx16 am_cx16_g
  · exact am_rows_in am_cx17 am_cx17_g
  · exact absurd h (by omega)
def am_inl : List (Nat × Cond) := (List.range 18).map fun c => (am_ipos c, .initialized (am_cn c))
set_option maxRecDepth 100000 in
theorem am_in_ : am_rows (am_inl) := rfl
set_option maxRecDepth 100000 in
theorem am_in__g : (am_inl).all (fun q => goodWord q.2) = true := by decide +kernel
def am_isl : List (Nat × Cond) := (List.range 11).map fun c => (am_mpos c, .instantiable (am_cn c) (am_ft c).length)
set_option maxRecDepth 100000 in
theorem am_is_ : am_rows (am_isl) := rfl
set_option maxRecDepth 100000 in
theorem am_is__g : (am_isl).all (fun q => goodWord q.2) = true := by decide +kernel
def am_cdl (a m : Nat) : List (Nat × Cond) := (List.range m).map fun i => (am_cpos (i + a), .code (am_nm (i + a)) (am_by (i + a)) (am_ml (i + a)) (am_rt (i + a)))
set_option maxRecDepth 100000 in
theorem am_cd0 : am_rows (am_cdl 0 20) := rfl
set_option maxRecDepth 100000 in
theorem am_cd0_g : (am_cdl 0 20).all (fun q => goodWord q.2) = true := by decide +kernel
set_option maxRecDepth 100000 in
theorem am_cd1 : am_rows (am_cdl 20 20) := rfl
set_option maxRecDepth 100000 in
theorem am_cd1_g : (am_cdl 20 20).all (fun q => goodWord q.2) = true := by decide +kernel
set_option maxRecDepth 100000 in
theorem am_cd2 : am_rows (am_cdl 40 20) := rfl
set_option maxRecDepth 100000 in
theorem am_cd2_g : (am_cdl 40 20).all (fun q => goodWord q.2) = true := by decide +kernel
set_option maxRecDepth 100000 in
theorem am_cd3 : am_rows (am_cdl 60 20) := rfl
set_option maxRecDepth 100000 in
theorem am_cd3_g : (am_cdl 60 20).all (fun q => goodWord q.2) = true := by decide +kernel
set_option maxRecDepth 100000 in
theorem am_cd4 : am_rows (am_cdl 80 20) := rfl
set_option maxRecDepth 100000 in
theorem am_cd4_g : (am_cdl 80 20).all (fun q => goodWord q.2) = true := by decide +kernel
set_option maxRecDepth 100000 in
theorem am_cd5 : am_rows (am_cdl 100 20) := rfl
set_option maxRecDepth 100000 in
theorem am_cd5_g : (am_cdl 100 20).all (fun q => goodWord q.2) = true := by decide +kernel
set_option maxRecDepth 100000 in
theorem am_cd6 : am_rows (am_cdl 120 20) := rfl
set_option maxRecDepth 100000 in
theorem am_cd6_g : (am_cdl 120 20).all (fun q => goodWord q.2) = true := by decide +kernel
set_option maxRecDepth 100000 in
theorem am_cd7 : am_rows (am_cdl 140 20) := rfl
set_option maxRecDepth 100000 in
theorem am_cd7_g : (am_cdl 140 20).all (fun q => goodWord q.2) = true := by decide +kernel
set_option maxRecDepth 100000 in
theorem am_cd8 : am_rows (am_cdl 160 20) := rfl
set_option maxRecDepth 100000 in
theorem am_cd8_g : (am_cdl 160 20).all (fun q => goodWord q.2) = true := by decide +kernel
set_option maxRecDepth 100000 in
theorem am_cd9 : am_rows (am_cdl 180 20) := rfl
set_option maxRecDepth 100000 in
theorem am_cd9_g : (am_cdl 180 20).all (fun q => goodWord q.2) = true := by decide +kernel
set_option maxRecDepth 100000 in
theorem am_cd10 : am_rows (am_cdl 200 20) := rfl
set_option maxRecDepth 100000 in
theorem am_cd10_g : (am_cdl 200 20).all (fun q => goodWord q.2) = true := by decide +kernel
set_option maxRecDepth 100000 in
theorem am_cd11 : am_rows (am_cdl 220 20) := rfl
set_option maxRecDepth 100000 in
theorem am_cd11_g : (am_cdl 220 20).all (fun q => goodWord q.2) = true := by decide +kernel
set_option maxRecDepth 100000 in
theorem am_cd12 : am_rows (am_cdl 240 20) := rfl
set_option maxRecDepth 100000 in
theorem am_cd12_g : (am_cdl 240 20).all (fun q => goodWord q.2) = true := by decide +kernel
set_option maxRecDepth 100000 in
theorem am_cd13 : am_rows (am_cdl 260 17) := rfl
set_option maxRecDepth 100000 in
theorem am_cd13_g : (am_cdl 260 17).all (fun q => goodWord q.2) = true := by decide +kernel
theorem am_cdu {m a y : Nat} (h : ∀ q ∈ am_cdl a m, q.2 ∈ am_wa) (h1 : a ≤ y) (h2 : y < a + m) : Cond.code (am_nm y) (am_by y) (am_ml y) (am_rt y) ∈ am_wa := by
  have := h _ (List.mem_map.mpr ⟨y - a, List.mem_range.mpr (by omega), rfl⟩)
  rw [Nat.sub_add_cancel h1] at this
  exact this
theorem am_cd_ok {y : Nat} (h : y < 277) : Cond.code (am_nm y) (am_by y) (am_ml y) (am_rt y) ∈ am_wa := by
  rcases Nat.lt_or_ge y 20 with q | q
  · exact am_cdu (am_rows_in am_cd0 am_cd0_g) (by omega) (by omega)
  rcases Nat.lt_or_ge y 40 with q | q
  · exact am_cdu (am_rows_in am_cd1 am_cd1_g) (by omega) (by omega)
  rcases Nat.lt_or_ge y 60 with q | q
  · exact am_cdu (am_rows_in am_cd2 am_cd2_g) (by omega) (by omega)
  rcases Nat.lt_or_ge y 80 with q | q
  · exact am_cdu (am_rows_in am_cd3 am_cd3_g) (by omega) (by omega)
  rcases Nat.lt_or_ge y 100 with q | q
  · exact am_cdu (am_rows_in am_cd4 am_cd4_g) (by omega) (by omega)
  rcases Nat.lt_or_ge y 120 with q | q
  · exact am_cdu (am_rows_in am_cd5 am_cd5_g) (by omega) (by omega)
  rcases Nat.lt_or_ge y 140 with q | q
  · exact am_cdu (am_rows_in am_cd6 am_cd6_g) (by omega) (by omega)
  rcases Nat.lt_or_ge y 160 with q | q
  · exact am_cdu (am_rows_in am_cd7 am_cd7_g) (by omega) (by omega)
  rcases Nat.lt_or_ge y 180 with q | q
  · exact am_cdu (am_rows_in am_cd8 am_cd8_g) (by omega) (by omega)
  rcases Nat.lt_or_ge y 200 with q | q
  · exact am_cdu (am_rows_in am_cd9 am_cd9_g) (by omega) (by omega)
  rcases Nat.lt_or_ge y 220 with q | q
  · exact am_cdu (am_rows_in am_cd10 am_cd10_g) (by omega) (by omega)
  rcases Nat.lt_or_ge y 240 with q | q
  · exact am_cdu (am_rows_in am_cd11 am_cd11_g) (by omega) (by omega)
  rcases Nat.lt_or_ge y 260 with q | q
  · exact am_cdu (am_rows_in am_cd12 am_cd12_g) (by omega) (by omega)
  exact am_cdu (am_rows_in am_cd13 am_cd13_g) (by omega) (by omega)
set_option maxRecDepth 100000 in
theorem am_y_cls : ∀ y, y < 278 → (am_nm y).cls = am_cn (am_own y) := by
  intro y h
  have key : (List.range 278).map (fun y => (am_nm y).cls) = (List.range 278).map (fun y => am_cn (am_own y)) := rfl
  have h1 := congrArg (fun l => l[y]?) key
  simp only [List.getElem?_map, List.getElem?_range h, Option.map_some, Option.some.injEq] at h1
  exact h1
theorem am_cn_plain : ∀ c, c < 18 → c ≠ 13 → plainName (am_cn c) = true ∧ am_cn c ≠ "java/lang/invoke/MethodHandle" ∧ am_cn c ≠ "java/lang/invoke/VarHandle" := by decide +kernel
set_option maxRecDepth 100000 in
theorem am_y_own : ∀ y, y < 278 → am_own y < 18 ∧ am_own y ≠ 13 ∧ am_ml y ≤ 40 := by decide +kernel
set_option maxRecDepth 100000 in
theorem am_y_par : ∀ y, y < 278 → (parseMethodDescriptor (am_nm y).desc).map (fun d => d.parameters.length) = some (am_npar y) := by decide +kernel
