/-! THE CONSTRUCTORS: what the memory is when both objects are made -/
def am_o0 : am_M := fun _ _ => 0
def am_ia0 : am_M := am_new (am_o0) 0
def am_ib0 : am_M := am_new (am_wr (am_new (am_wr (am_wr (am_new (am_wr (am_new (am_wr (am_new (am_wr (am_new (am_ia0) 1) 0 0 1) 2) 2 0 0) 3) 2 1 3) 4) 2 2 4) 2 3 0) 5) 2 4 5) 6
def am_ib1 : am_M := am_wr (am_new (am_wr (am_new (am_wr (am_wr (am_new (am_wr (am_new (am_wr (am_new (am_wr (am_ib0) 2 5 6) 7) 2 6 7) 8) 2 7 8) 9) 2 8 9) 2 9 0) 10) 2 10 10) 11) 2 11 11
def am_ib2 : am_M := am_wr (am_wr (am_wr (am_wr (am_wr (am_wr (am_wr (am_new (am_wr (am_new (am_wr (am_new (am_ib1) 12) 2 12 12) 13) 2 13 13) 14) 2 14 14) 2 15 4095) 2 16 1) 2 17 0) 4 0 100) 4 1 100) 4 2 100
def am_ib3 : am_M := am_new (am_wr (am_new (am_wr (am_wr (am_new (am_wr (am_new (am_wr (am_new (am_wr (am_wr (am_ib2) 4 3 100) 0 1 2) 15) 15 0 0) 16) 15 1 16) 17) 15 2 17) 15 3 0) 18) 15 4 18) 19
def am_ib4 : am_M := am_wr (am_new (am_wr (am_new (am_wr (am_wr (am_new (am_wr (am_new (am_wr (am_new (am_wr (am_ib3) 15 5 19) 20) 15 6 20) 21) 15 7 21) 22) 15 8 22) 15 9 0) 23) 15 10 23) 24) 15 11 24
def am_ib5 : am_M := am_wr (am_wr (am_wr (am_wr (am_wr (am_wr (am_wr (am_new (am_wr (am_new (am_wr (am_new (am_ib4) 25) 15 12 25) 26) 15 13 26) 27) 15 14 27) 15 15 4095) 15 16 1) 15 17 0) 17 0 100) 17 1 100) 17 2 100
def am_ib6 : am_M := am_new (am_wr (am_new (am_new (am_wr (am_wr (am_wr (am_wr (am_wr (am_new (am_wr (am_wr (am_ib5) 17 3 100) 0 2 15) 28) 28 1 (-1)) 28 2 (-1)) 28 3 (-1)) 28 0 2) 0 3 28) 29) 30) 29 1 30) 31
def am_ib7 : am_M := am_new (am_wr (am_new (am_wr (am_new (am_new (am_wr (am_wr (am_wr (am_wr (am_new (am_wr (am_ib6) 29 2 31) 32) 29 3 32) 29 4 (-1)) 29 0 2) 0 4 29) 33) 34) 33 2 34) 35) 33 3 35) 36
def am_ib8 : am_M := am_wr (am_wr (am_wr (am_new (am_wr (am_new (am_new (am_new (am_wr (am_wr (am_wr (am_wr (am_ib7) 33 4 36) 33 5 0) 33 6 (-1)) 33 0 2) 37) 38) 39) 38 0 39) 40) 38 1 40) 38 2 0) 37 2 38
def am_ib9 : am_M := am_wr (am_wr (am_new (am_wr (am_wr (am_wr (am_wr (am_wr (am_wr (am_new (am_wr (am_new (am_ib8) 41) 37 3 41) 42) 37 4 42) 37 5 4095) 37 0 2) 37 1 29) 33 1 37) 0 5 33) 43) 43 1 (-1)) 43 2 0
def am_ib10 : am_M := am_new (am_wr (am_new (am_wr (am_new (am_wr (am_new (am_wr (am_new (am_wr (am_new (am_wr (am_ib9) 43 3 0) 44) 43 4 44) 45) 43 5 45) 46) 43 6 46) 47) 43 7 47) 48) 43 8 48) 49
def am_ib11 : am_M := am_wr (am_wr (am_wr (am_new (am_wr (am_new (am_wr (am_new (am_wr (am_new (am_wr (am_wr (am_ib10) 43 9 49) 43 10 0) 50) 43 11 50) 51) 43 12 51) 52) 43 13 52) 53) 43 14 53) 43 0 2) 0 6 43
def am_ib12 : am_M := am_wr (am_new (am_new (am_wr (am_new (am_wr (am_wr (am_wr (am_new (am_wr (am_new (am_new (am_ib11) 54) 55) 54 0 55) 56) 54 1 56) 54 2 0) 0 7 54) 57) 0 8 57) 58) 59) 58 0 59
def am_ib13 : am_M := am_new (am_wr (am_new (am_wr (am_new (am_new (am_wr (am_wr (am_wr (am_new (am_wr (am_new (am_ib12) 60) 58 1 60) 61) 58 2 61) 58 3 0) 0 9 58) 62) 63) 62 0 63) 64) 62 1 64) 65
def am_ib14 : am_M := am_wr (am_wr (am_wr (am_wr (am_wr (am_new (am_new (am_wr (am_wr (am_wr (am_wr (am_wr (am_ib13) 62 2 65) 62 3 0) 0 10 62) 0 11 0) 0 12 (-1)) 66) 67) 66 0 67) 66 1 0) 66 2 (-1)) 66 3 (-1)) 1 0 66
def am_ib15 : am_M := am_wr (am_wr (am_wr (am_new (am_new (am_wr (am_wr (am_wr (am_wr (am_wr (am_new (am_new (am_ib14) 68) 69) 68 0 69) 68 1 0) 68 2 (-1)) 68 3 (-1)) 1 1 68) 70) 71) 70 0 71) 70 1 0) 70 2 (-1)
def am_ib16 : am_M := am_wr (am_new (am_new (am_wr (am_wr (am_wr (am_wr (am_wr (am_new (am_new (am_wr (am_wr (am_ib15) 70 3 (-1)) 1 2 70) 72) 73) 72 0 73) 72 1 0) 72 2 (-1)) 72 3 (-1)) 1 3 72) 74) 75) 74 0 75
def am_ib17 : am_M := am_new (am_wr (am_wr (am_wr (am_wr (am_wr (am_new (am_new (am_wr (am_wr (am_wr (am_wr (am_ib16) 74 1 0) 74 2 (-1)) 74 3 (-1)) 1 4 74) 76) 77) 76 0 77) 76 1 0) 76 2 (-1)) 76 3 (-1)) 1 5 76) 78
def am_ib18 : am_M := am_wr (am_wr (am_wr (am_wr (am_new (am_new (am_wr (am_wr (am_wr (am_wr (am_wr (am_new (am_ib17) 79) 78 0 79) 78 1 0) 78 2 (-1)) 78 3 (-1)) 1 6 78) 80) 81) 80 0 81) 80 1 0) 80 2 (-1)) 80 3 (-1)
def am_ib19 : am_M := am_wr (am_ib18) 1 7 80
def am_ic0 : am_M := am_new (am_ib19) 82
def am_id0 : am_M := am_new (am_wr (am_wr (am_wr (am_wr (am_wr (am_new (am_wr (am_new (am_wr (am_wr (am_wr (am_ic0) 82 4 4095) 82 5 1) 82 6 (-1)) 83) 82 9 83) 84) 84 0 100) 84 1 100) 84 2 100) 84 3 100) 82 10 84) 85
def am_id1 : am_M := am_new (am_wr (am_new (am_wr (am_new (am_wr (am_new (am_wr (am_new (am_wr (am_new (am_wr (am_id0) 82 11 85) 86) 82 12 86) 87) 82 13 87) 88) 82 14 88) 89) 82 15 89) 90) 82 16 90) 91
def am_id2 : am_M := am_new (am_wr (am_new (am_wr (am_new (am_wr (am_new (am_wr (am_new (am_wr (am_new (am_wr (am_id1) 82 17 91) 92) 82 18 92) 93) 82 19 93) 94) 82 20 94) 95) 82 21 95) 96) 82 22 96) 97
def am_id3 : am_M := am_new (am_wr (am_new (am_wr (am_new (am_wr (am_new (am_wr (am_new (am_wr (am_new (am_wr (am_id2) 82 23 97) 98) 82 24 98) 99) 82 25 99) 100) 82 26 100) 101) 82 27 101) 102) 82 28 102) 103
def am_id4 : am_M := am_new (am_wr (am_new (am_wr (am_new (am_wr (am_new (am_wr (am_new (am_wr (am_new (am_wr (am_id3) 82 29 103) 104) 82 30 104) 105) 82 31 105) 106) 82 32 106) 107) 82 33 107) 108) 82 34 108) 109
def am_id5 : am_M := am_new (am_wr (am_new (am_wr (am_new (am_wr (am_new (am_wr (am_new (am_wr (am_new (am_wr (am_id4) 82 36 109) 110) 82 37 110) 111) 82 38 111) 112) 82 39 112) 113) 82 40 113) 114) 82 41 114) 115
def am_id6 : am_M := am_new (am_wr (am_new (am_wr (am_new (am_wr (am_new (am_wr (am_new (am_wr (am_new (am_wr (am_id5) 82 42 115) 116) 82 43 116) 117) 82 44 117) 118) 82 45 118) 119) 82 46 119) 120) 82 47 120) 121
def am_id7 : am_M := am_new (am_wr (am_new (am_wr (am_new (am_wr (am_new (am_wr (am_new (am_wr (am_new (am_wr (am_id6) 82 48 121) 122) 82 49 122) 123) 82 50 123) 124) 82 51 124) 125) 82 53 125) 126) 82 54 126) 127
def am_id8 : am_M := am_new (am_wr (am_new (am_wr (am_new (am_wr (am_new (am_wr (am_new (am_wr (am_new (am_wr (am_id7) 82 55 127) 128) 82 56 128) 129) 82 57 129) 130) 82 58 130) 131) 82 59 131) 132) 82 60 132) 133
def am_id9 : am_M := am_new (am_wr (am_new (am_wr (am_new (am_wr (am_new (am_wr (am_new (am_wr (am_new (am_wr (am_id8) 82 61 133) 134) 82 62 134) 135) 82 63 135) 136) 82 68 136) 137) 82 75 137) 138) 82 76 138) 139
def am_id10 : am_M := am_wr (am_new (am_wr (am_id9) 82 77 139) 140) 82 78 140
set_option maxRecDepth 1000000 in
set_option maxHeartbeats 8000000 in
theorem am_init1 : am_ex false 1500 10 10 (am_entry 10 [(109, 0)] am_ia0 1) = some (0, am_ib19, 82) := rfl
set_option maxRecDepth 1000000 in
set_option maxHeartbeats 8000000 in
theorem am_init2 : am_ex false 1500 10 11 (am_entry 11 [(110, 82)] am_ic0 83) = some (0, am_id10, 141) := rfl
