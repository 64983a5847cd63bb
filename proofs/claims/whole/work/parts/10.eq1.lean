set_option maxRecDepth 100000 in
set_option maxHeartbeats 4000000 in
theorem si_rowsOf_e (d : Nat) (v1 : Int) (σ : am_M) (n : Nat) : si_rowsOf (d + 1) v1 σ n = (me_isGroup d v1 σ n).bind fun q1 => if q1.1 = 0 then (some (0, q1.2.1, q1.2.2)) else am_ix 30 v1 (some (q1.2.1 30 v1.toNat, q1.2.1, q1.2.2)) := (am_rn_eq true d 127 12 (0, [(107, 29), (0, v1)], [], σ, n)).trans rfl
set_option maxRecDepth 100000 in
set_option maxHeartbeats 4000000 in
theorem si_rowsBy_e (d : Nat) (v1 : Int) (σ : am_M) (n : Nat) : si_rowsBy (d + 1) v1 σ n = am_ix 6 v1 (am_ix 5 v1 (if σ 5 v1.toNat = 1 then ((me_factOfTable d (σ 6 v1.toNat) 0 σ n).bind fun q3 => some (q3.1, q3.2.1, q3.2.2)) else am_ix 7 v1 ((si_rowsOf d (σ 7 v1.toNat) σ n).bind fun q1 => if σ 5 v1.toNat = 3 then (if Int.tmod (σ 6 v1.toNat) 2 = 0 then (some (am_x (Int.tdiv q1.1 10), q1.2.1, q1.2.2)) else some (am_x (Int.tdiv q1.1 2), q1.2.1, q1.2.2)) else am_ix 4 (σ 6 v1.toNat) (if σ 5 v1.toNat = 4 then (some (am_mn q1.1 (am_mx 1 (q1.2.1 4 (σ 6 v1.toNat).toNat)), q1.2.1, q1.2.2)) else am_ix 8 v1 ((si_rowsOf d (q1.2.1 8 v1.toNat) q1.2.1 q1.2.2).bind fun q2 => am_if (¬ am_mx 1 (q1.2.1 4 (σ 6 v1.toNat).toNat) = 0) (if σ 5 v1.toNat = 6 then (some (am_mn q1.1 (am_mn 1000000 (am_mx 1 (am_x (Int.tdiv (am_x (q1.1 * q2.1)) (am_mx 1 (q1.2.1 4 (σ 6 v1.toNat).toNat)))))), q2.2.1, q2.2.2)) else some (am_mn 1000000 (am_mx 1 (am_x (Int.tdiv (am_x (q1.1 * q2.1)) (am_mx 1 (q1.2.1 4 (σ 6 v1.toNat).toNat))))), q2.2.1, q2.2.2))))))) := (am_rn_eq true d 128 65 (0, [(107, 29), (0, v1), (9, 0), (9, 0), (9, 0), (9, 0), (9, 0), (9, 0), (9, 0), (9, 0)], [], σ, n)).trans rfl
set_option maxRecDepth 100000 in
set_option maxHeartbeats 4000000 in
theorem si_refresh_e (d : Nat) (σ : am_M) (n : Nat) : si_refresh (d + 1) σ n = if σ 29 4 = σ 2 17 then (some (0, σ, n)) else am_m (am_wr σ 29 4 (σ 2 17)) fun σ1 => (ar_fill d 30 0 σ1 n).bind fun q1 => si_refresh_36 d 0 q1.2.1 q1.2.2 := (am_rn_eq true d 129 18 (0, [(107, 29), (9, 0), (9, 0)], [], σ, n)).trans rfl
set_option maxRecDepth 100000 in
set_option maxHeartbeats 4000000 in
theorem si_refresh_36_e (d : Nat) (v1 : Int) (σ : am_M) (n : Nat) : si_refresh_36 d v1 σ n = if v1 < σ 2 3 then (am_ix 9 v1 (if σ 9 v1.toNat = (-1) then (si_refresh_36 d (am_w (v1 + 1)) σ n) else am_ix 30 (σ 9 v1.toNat) (if σ 30 (σ 9 v1.toNat).toNat = 0 then ((si_rowsBy d v1 σ n).bind fun q1 => am_ix 30 (σ 9 v1.toNat) (am_m (am_wr q1.2.1 30 (σ 9 v1.toNat).toNat (am_w (am_mx 1 q1.1))) fun σ1 => si_refresh_36 d (am_w (v1 + 1)) σ1 q1.2.2)) else si_refresh_36 d (am_w (v1 + 1)) σ n))) else some (0, σ, n) := (am_rn_eq true d 129 32 _).trans rfl
set_option maxRecDepth 100000 in
set_option maxHeartbeats 4000000 in
theorem me_memberFrom_e (d : Nat) (v1 v2 : Int) (σ : am_M) (n : Nat) : me_memberFrom (d + 1) v1 v2 σ n = (me_isGroup d v1 σ n).bind fun q1 => if q1.1 = 0 then (me_memberFrom_30 d v2 0 q1.2.1 q1.2.2) else if v2 < 0 then (me_memberFrom_30 d v2 0 q1.2.1 q1.2.2) else if v2 < 64 then (am_ix 12 v1 (me_memberFrom_30 d v2 (am_lushr (q1.2.1 12 v1.toNat) v2) q1.2.1 q1.2.2)) else me_memberFrom_30 d v2 0 q1.2.1 q1.2.2 := (am_rn_eq true d 130 17 (0, [(103, 2), (0, v1), (0, v2), (9, 0), (9, 0)], [], σ, n)).trans rfl
set_option maxRecDepth 100000 in
set_option maxHeartbeats 4000000 in
theorem me_memberFrom_30_e (d : Nat) (v2 s0 : Int) (σ : am_M) (n : Nat) : me_memberFrom_30 d v2 s0 σ n = if am_cmp s0 0 = 0 then (some (σ 2 3, σ, n)) else (lo_bitCount d (am_x (am_land s0 (am_x (-s0)) - 1)) σ n).bind fun q1 => some (am_w (v2 + q1.1), q1.2.1, q1.2.2) := (am_rn_eq true d 130 16 _).trans rfl
set_option maxRecDepth 100000 in
set_option maxHeartbeats 4000000 in
theorem me_usersOf_e (d : Nat) (v1 : Int) (σ : am_M) (n : Nat) : me_usersOf (d + 1) v1 σ n = me_usersOf_4 d v1 0 0 σ n := (am_rn_eq true d 131 5 (0, [(103, 2), (0, v1), (9, 0), (9, 0)], [], σ, n)).trans rfl
set_option maxRecDepth 100000 in
set_option maxHeartbeats 4000000 in
theorem me_usersOf_4_e (d : Nat) (v1 v2 v3 : Int) (σ : am_M) (n : Nat) : me_usersOf_4 d v1 v2 v3 σ n = if v3 < σ 2 3 then (am_ix 7 v3 (if σ 7 v3.toNat = v1 then (me_usersOf_4 d v1 (am_w (v2 + 1)) (am_w (v3 + 1)) σ n) else am_ix 8 v3 (if σ 8 v3.toNat = v1 then (me_usersOf_4 d v1 (am_w (v2 + 1)) (am_w (v3 + 1)) σ n) else me_usersOf_4 d v1 v2 (am_w (v3 + 1)) σ n))) else some (v2, σ, n) := (am_rn_eq true d 131 20 _).trans rfl
set_option maxRecDepth 100000 in
set_option maxHeartbeats 4000000 in
theorem pm_group_e (d : Nat) (v1 v2 : Int) (σ : am_M) (n : Nat) : pm_group (d + 1) v1 v2 σ n = (me_isGroup d v1 σ n).bind fun q1 => if q1.1 = 0 then ((pm_refuse d 5 q1.2.1 q1.2.2).bind fun q10 => some (q10.1, q10.2.1, q10.2.2)) else (me_root d v1 q1.2.1 q1.2.2).bind fun q2 => if v2 = 0 then (am_ix 12 q2.1 ((lo_bitCount d (q2.2.1 12 q2.1.toNat) q2.2.1 q2.2.2).bind fun q3 => some (q3.1, q3.2.1, q3.2.2))) else if v2 = 1 then ((si_refresh d q2.2.1 q2.2.2).bind fun q4 => (si_rowsOf d q2.1 q4.2.1 q4.2.2).bind fun q5 => some (q5.1, q5.2.1, q5.2.2)) else if v2 = 2 then ((me_columnsOf d q2.1 q2.2.1 q2.2.2).bind fun q6 => some (q6.1, q6.2.1, q6.2.2)) else if v2 = 3 then ((me_memberFrom d q2.1 0 q2.2.1 q2.2.2).bind fun q7 => some (q7.1, q7.2.1, q7.2.2)) else if v2 = 4 then ((me_usersOf d q2.1 q2.2.1 q2.2.2).bind fun q8 => some (q8.1, q8.2.1, q8.2.2)) else (pm_refuse d 5 q2.2.1 q2.2.2).bind fun q9 => some (q9.1, q9.2.1, q9.2.2) := (am_rn_eq true d 132 21 (0, [(109, 0), (0, v1), (0, v2), (9, 0)], [], σ, n)).trans rfl
set_option maxRecDepth 100000 in
set_option maxHeartbeats 4000000 in
theorem mo_group_e (d : Nat) (v1 v2 : Int) (σ : am_M) (n : Nat) : mo_group (d + 1) v1 v2 σ n = (mo_isGroup d v1 σ n).bind fun q1 => if q1.1 = 0 then ((mo_no d (-5) q1.2.1 q1.2.2).bind fun q2 => some (q2.1, q2.2.1, q2.2.2)) else (mo_isFrom d v2 0 4 q1.2.1 q1.2.2).bind fun q3 => if q3.1 = 0 then ((mo_no d (-5) q3.2.1 q3.2.2).bind fun q6 => some (q6.1, q6.2.1, q6.2.2)) else (mo_tells d q3.2.1 q3.2.2).bind fun q4 => (mo_root d v1 q4.2.1 q4.2.2).bind fun q5 => if v2 = 1 then (am_ix 104 q5.1 (some (q5.2.1 104 q5.1.toNat, q5.2.1, q5.2.2))) else if v2 = 2 then (am_ix 105 q5.1 (some (q5.2.1 105 q5.1.toNat, q5.2.1, q5.2.2))) else if v2 = 3 then (am_ix 106 q5.1 (some (q5.2.1 106 q5.1.toNat, q5.2.1, q5.2.2))) else mo_group_77 d v2 q5.1 0 0 q5.2.1 q5.2.2 := (am_rn_eq true d 133 31 (0, [(110, 82), (0, v1), (0, v2), (9, 0), (9, 0), (9, 0), (9, 0)], [], σ, n)).trans rfl
set_option maxRecDepth 100000 in
set_option maxHeartbeats 4000000 in
theorem mo_group_77_e (d : Nat) (v2 v3 v4 v5 : Int) (σ : am_M) (n : Nat) : mo_group_77 d v2 v3 v4 v5 σ n = if v5 < σ 82 1 then (am_ix 95 v5 (if σ 95 v5.toNat = 0 then (am_ix 89 v5 (if σ 89 v5.toNat = 1 then (mo_group_125 d v2 v3 v4 v5 σ n) else am_ix 91 v5 ((mo_root d (σ 91 v5.toNat) σ n).bind fun q1 => if q1.1 = v3 then (mo_group_156 d v2 v3 v4 v5 1 q1.2.1 q1.2.2) else mo_group_125 d v2 v3 v4 v5 q1.2.1 q1.2.2))) else mo_group_77 d v2 v3 v4 (am_w (v5 + 1)) σ n)) else some (v4, σ, n) := (am_rn_eq true d 133 26 _).trans rfl
set_option maxRecDepth 100000 in
set_option maxHeartbeats 4000000 in
theorem mo_group_125_e (d : Nat) (v2 v3 v4 v5 : Int) (σ : am_M) (n : Nat) : mo_group_125 d v2 v3 v4 v5 σ n = am_ix 89 v5 (if σ 89 v5.toNat < 5 then (mo_group_156 d v2 v3 v4 v5 0 σ n) else am_ix 92 v5 ((mo_root d (σ 92 v5.toNat) σ n).bind fun q1 => if q1.1 = v3 then (mo_group_156 d v2 v3 v4 v5 1 q1.2.1 q1.2.2) else mo_group_156 d v2 v3 v4 v5 0 q1.2.1 q1.2.2)) := (am_rn_eq true d 133 17 _).trans rfl
set_option maxRecDepth 100000 in
set_option maxHeartbeats 4000000 in
theorem mo_group_156_e (d : Nat) (v2 v3 v4 v5 s0 : Int) (σ : am_M) (n : Nat) : mo_group_156 d v2 v3 v4 v5 s0 σ n = if v2 = 0 then (am_ix 93 v5 ((mo_root d (σ 93 v5.toNat) σ n).bind fun q1 => if q1.1 = v3 then (mo_group_77 d v2 v3 (am_w (v4 + 1)) (am_w (v5 + 1)) q1.2.1 q1.2.2) else mo_group_77 d v2 v3 (am_w (v4 + 0)) (am_w (v5 + 1)) q1.2.1 q1.2.2)) else if s0 = 0 then (mo_group_77 d v2 v3 (am_w (v4 + 0)) (am_w (v5 + 1)) σ n) else mo_group_77 d v2 v3 (am_w (v4 + 1)) (am_w (v5 + 1)) σ n := (am_rn_eq true d 133 19 _).trans rfl
set_option maxRecDepth 100000 in
set_option maxHeartbeats 4000000 in
theorem pm_expression_e (d : Nat) (v1 v2 : Int) (σ : am_M) (n : Nat) : pm_expression (d + 1) v1 v2 σ n = (me_isExpression d v1 σ n).bind fun q1 => if q1.1 = 0 then ((pm_refuse d 5 q1.2.1 q1.2.2).bind fun q4 => some (q4.1, q4.2.1, q4.2.2)) else if v2 = 0 then (am_ix 5 v1 (some (q1.2.1 5 v1.toNat, q1.2.1, q1.2.2))) else if v2 = 1 then (am_ix 6 v1 (some (q1.2.1 6 v1.toNat, q1.2.1, q1.2.2))) else if v2 = 2 then (am_ix 7 v1 (some (q1.2.1 7 v1.toNat, q1.2.1, q1.2.2))) else if v2 = 3 then (am_ix 8 v1 (some (q1.2.1 8 v1.toNat, q1.2.1, q1.2.2))) else if v2 = 4 then (am_ix 9 v1 (some (q1.2.1 9 v1.toNat, q1.2.1, q1.2.2))) else if v2 = 5 then ((me_isGone d v1 q1.2.1 q1.2.2).bind fun q2 => if q2.1 = 0 then (some (0, q2.2.1, q2.2.2)) else some (1, q2.2.1, q2.2.2)) else (pm_refuse d 5 q1.2.1 q1.2.2).bind fun q3 => some (q3.1, q3.2.1, q3.2.2) := (am_rn_eq true d 134 16 (0, [(109, 0), (0, v1), (0, v2)], [], σ, n)).trans rfl
set_option maxRecDepth 100000 in
set_option maxHeartbeats 4000000 in
theorem mo_expression_e (d : Nat) (v1 v2 : Int) (σ : am_M) (n : Nat) : mo_expression (d + 1) v1 v2 σ n = (mo_isExpression d v1 σ n).bind fun q1 => if q1.1 = 0 then ((mo_no d (-5) q1.2.1 q1.2.2).bind fun q2 => some (q2.1, q2.2.1, q2.2.2)) else (mo_isFrom d v2 0 5 q1.2.1 q1.2.2).bind fun q3 => if q3.1 = 0 then ((mo_no d (-5) q3.2.1 q3.2.2).bind fun q4 => some (q4.1, q4.2.1, q4.2.2)) else if v2 = 0 then (am_ix 89 v1 (some (q3.2.1 89 v1.toNat, q3.2.1, q3.2.2))) else if v2 = 1 then (am_ix 90 v1 (some (q3.2.1 90 v1.toNat, q3.2.1, q3.2.2))) else if v2 = 5 then (am_ix 95 v1 (if q3.2.1 95 v1.toNat = 0 then (some (0, q3.2.1, q3.2.2)) else some (1, q3.2.1, q3.2.2))) else am_ix 95 v1 (if q3.2.1 95 v1.toNat = 0 then (if v2 = 2 then (am_ix 89 v1 (if q3.2.1 89 v1.toNat = 1 then (some ((-1), q3.2.1, q3.2.2)) else if v2 = 3 then (am_ix 89 v1 (if q3.2.1 89 v1.toNat < 5 then (some ((-1), q3.2.1, q3.2.2)) else mo_expression_109 d v1 v2 q3.2.1 q3.2.2)) else mo_expression_109 d v1 v2 q3.2.1 q3.2.2)) else if v2 = 3 then (am_ix 89 v1 (if q3.2.1 89 v1.toNat < 5 then (some ((-1), q3.2.1, q3.2.2)) else mo_expression_109 d v1 v2 q3.2.1 q3.2.2)) else mo_expression_109 d v1 v2 q3.2.1 q3.2.2) else some ((-1), q3.2.1, q3.2.2)) := (am_rn_eq true d 135 44 (0, [(110, 82), (0, v1), (0, v2)], [], σ, n)).trans rfl
set_option maxRecDepth 100000 in
set_option maxHeartbeats 4000000 in
theorem mo_expression_109_e (d : Nat) (v1 v2 : Int) (σ : am_M) (n : Nat) : mo_expression_109 d v1 v2 σ n = if v2 = 2 then (am_ix 91 v1 ((mo_root d (σ 91 v1.toNat) σ n).bind fun q3 => some (q3.1, q3.2.1, q3.2.2))) else if v2 = 3 then (am_ix 92 v1 ((mo_root d (σ 92 v1.toNat) σ n).bind fun q2 => some (q2.1, q2.2.1, q2.2.2))) else am_ix 93 v1 ((mo_root d (σ 93 v1.toNat) σ n).bind fun q1 => some (q1.1, q1.2.1, q1.2.2)) := (am_rn_eq true d 135 15 _).trans rfl
set_option maxRecDepth 100000 in
set_option maxHeartbeats 4000000 in
theorem fi_isPair_e (d : Nat) (σ : am_M) (n : Nat) : fi_isPair (d + 1) σ n = am_ix 5 (σ 28 3) (am_ix 6 (σ 28 1) (am_ix 6 (σ 28 3) (if σ 28 2 = 1 then (if σ 5 (σ 28 3).toNat = 5 then (am_ix 8 (σ 28 3) ((me_columnsOf d (σ 8 (σ 28 3).toNat) σ n).bind fun q1 => (pm_hasColumn d q1.1 (σ 6 (σ 28 1).toNat) q1.2.1 q1.2.2).bind fun q2 => if q2.1 = 0 then (some (0, q2.2.1, q2.2.2)) else some (1, q2.2.1, q2.2.2))) else some (0, σ, n)) else if σ 28 2 = 2 then (if σ 5 (σ 28 3).toNat = 5 then (fi_isPair_128 d (σ 6 (σ 28 1).toNat) σ n) else if σ 5 (σ 28 3).toNat = 6 then (fi_isPair_128 d (σ 6 (σ 28 1).toNat) σ n) else some (0, σ, n)) else if σ 28 2 = 3 then (if σ 5 (σ 28 3).toNat = 3 then (if σ 6 (σ 28 3).toNat = σ 6 (σ 28 1).toNat then (some (0, σ, n)) else some (1, σ, n)) else some (0, σ, n)) else if σ 28 2 = 4 then (am_ix 5 (σ 28 1) (if σ 5 (σ 28 3).toNat = σ 5 (σ 28 1).toNat then (if σ 6 (σ 28 3).toNat = σ 6 (σ 28 1).toNat then (some (1, σ, n)) else some (0, σ, n)) else some (0, σ, n))) else if σ 28 2 = 5 then (if σ 5 (σ 28 3).toNat = 3 then (if am_w (Int.tdiv (σ 6 (σ 28 3).toNat) 2) = σ 6 (σ 28 1).toNat then (some (1, σ, n)) else some (0, σ, n)) else some (0, σ, n)) else if σ 28 2 = 6 then (if σ 5 (σ 28 3).toNat = 6 then (some (1, σ, n)) else some (0, σ, n)) else some (0, σ, n)))) := (am_rn_eq true d 136 43 (0, [(102, 28), (9, 0), (9, 0), (9, 0)], [], σ, n)).trans rfl
set_option maxRecDepth 100000 in
set_option maxHeartbeats 4000000 in
theorem fi_isPair_128_e (d : Nat) (v2 : Int) (σ : am_M) (n : Nat) : fi_isPair_128 d v2 σ n = am_ix 7 (σ 28 3) ((me_columnsOf d (σ 7 (σ 28 3).toNat) σ n).bind fun q1 => (pm_hasColumn d q1.1 (am_w (Int.tdiv v2 2)) q1.2.1 q1.2.2).bind fun q2 => if q2.1 = 0 then (some (0, q2.2.1, q2.2.2)) else some (1, q2.2.1, q2.2.2)) := (am_rn_eq true d 136 18 _).trans rfl
set_option maxRecDepth 100000 in
set_option maxHeartbeats 4000000 in
theorem fi_findPartner_e (d : Nat) (σ : am_M) (n : Nat) : fi_findPartner (d + 1) σ n = if σ 28 2 = 0 then (am_m (am_wr σ 28 3 (-1)) fun σ2 => am_ix 13 (am_w (am_w (σ 28 1 * 7) + σ 28 2)) (if am_cmp (σ2 13 (am_w (am_w (σ 28 1 * 7) + σ 28 2)).toNat) 0 = 0 then (some (1, σ2, n)) else some (0, σ2, n))) else am_ix 7 (σ 28 1) ((me_isGroup d (σ 7 (σ 28 1).toNat) σ n).bind fun q1 => if q1.1 = 0 then (some (0, q1.2.1, q1.2.2)) else am_ix 12 (σ 7 (σ 28 1).toNat) (am_ix 13 (am_w (am_w (σ 28 1 * 7) + σ 28 2)) (am_m (am_wr q1.2.1 28 3 0) fun σ1 => fi_findPartner_100 d (am_w (am_w (σ 28 1 * 7) + σ 28 2)) (am_land (q1.2.1 12 (σ 7 (σ 28 1).toNat).toNat) (am_lxor (q1.2.1 13 (am_w (am_w (σ 28 1 * 7) + σ 28 2)).toNat) (-1))) σ1 q1.2.2))) := (am_rn_eq true d 137 41 (0, [(102, 28), (9, 0), (9, 0), (9, 0), (9, 0), (9, 0), (9, 0)], [], σ, n)).trans rfl
set_option maxRecDepth 100000 in
set_option maxHeartbeats 4000000 in
theorem fi_findPartner_100_e (d : Nat) (v1 v3 : Int) (σ : am_M) (n : Nat) : fi_findPartner_100 d v1 v3 σ n = if am_cmp v3 0 = 0 then (some (0, σ, n)) else if σ 28 3 < σ 2 3 then (if am_cmp (am_land v3 (am_lshl 1 (σ 28 3))) 0 = 0 then (am_m (am_wr σ 28 3 (am_w (σ 28 3 + 1))) fun σ3 => fi_findPartner_100 d v1 v3 σ3 n) else (fi_isPair d σ n).bind fun q1 => if q1.1 = 0 then (am_ix 13 v1 (am_ix 13 v1 (am_m (am_wr q1.2.1 13 v1.toNat (am_lor (q1.2.1 13 v1.toNat) (am_lshl 1 (σ 28 3)))) fun σ1 => am_m (am_wr σ1 28 3 (am_w (σ1 28 3 + 1))) fun σ2 => fi_findPartner_100 d v1 (am_land v3 (am_lxor (am_lshl 1 (σ 28 3)) (-1))) σ2 q1.2.2))) else some (1, q1.2.1, q1.2.2)) else some (0, σ, n) := (am_rn_eq true d 137 47 _).trans rfl
set_option maxRecDepth 100000 in
set_option maxHeartbeats 4000000 in
theorem fi_find_e (d : Nat) (σ : am_M) (n : Nat) : fi_find (d + 1) σ n = am_m (am_wr σ 28 1 0) fun σ1 => fi_find_5 d σ1 n := (am_rn_eq true d 138 4 (0, [(102, 28)], [], σ, n)).trans rfl
set_option maxRecDepth 100000 in
set_option maxHeartbeats 4000000 in
theorem fi_find_5_e (d : Nat) (σ : am_M) (n : Nat) : fi_find_5 d σ n = if σ 28 1 < σ 2 3 then ((me_isGone d (σ 28 1) σ n).bind fun q1 => if q1.1 = 0 then (am_m (am_wr q1.2.1 28 2 0) fun σ1 => fi_find_41 d σ1 q1.2.2) else am_m (am_wr q1.2.1 28 1 (am_w (q1.2.1 28 1 + 1))) fun σ2 => fi_find_5 d σ2 q1.2.2) else some (0, σ, n) := (am_rn_eq true d 138 21 _).trans rfl
set_option maxRecDepth 100000 in
set_option maxHeartbeats 4000000 in
theorem fi_find_41_e (d : Nat) (σ : am_M) (n : Nat) : fi_find_41 d σ n = if σ 28 2 < 7 then (am_cx 1001 (σ 28 2) (am_ix 5 (σ 28 1) (if am_and (am_shr (am_kc 1001 (σ 28 2).toNat) (σ 5 (σ 28 1).toNat)) 1 = 1 then ((fi_findPartner d σ n).bind fun q1 => if q1.1 = 0 then (am_m (am_wr q1.2.1 28 2 (am_w (q1.2.1 28 2 + 1))) fun σ3 => fi_find_41 d σ3 q1.2.2) else some (1, q1.2.1, q1.2.2)) else am_m (am_wr σ 28 2 (am_w (σ 28 2 + 1))) fun σ2 => fi_find_41 d σ2 n))) else am_m (am_wr σ 28 1 (am_w (σ 28 1 + 1))) fun σ1 => fi_find_5 d σ1 n := (am_rn_eq true d 138 30 _).trans rfl
set_option maxRecDepth 100000 in
set_option maxHeartbeats 4000000 in
theorem fi_inner_e (d : Nat) (v1 v2 v3 v4 : Int) (σ : am_M) (n : Nat) : fi_inner (d + 1) v1 v2 v3 v4 σ n = am_m (am_wr σ 28 4 v1) fun σ1 => am_m (am_wr σ1 28 5 v2) fun σ2 => am_m (am_wr σ2 28 6 v3) fun σ3 => am_m (am_wr σ3 28 7 v4) fun σ4 => some (0, σ4, n) := (am_rn_eq true d 139 14 (0, [(102, 28), (0, v1), (0, v2), (0, v3), (0, v4)], [], σ, n)).trans rfl
set_option maxRecDepth 100000 in
set_option maxHeartbeats 4000000 in
theorem fi_outcome_e (d : Nat) (v1 v2 v3 v4 : Int) (σ : am_M) (n : Nat) : fi_outcome (d + 1) v1 v2 v3 v4 σ n = am_m (am_wr σ 28 8 v1) fun σ1 => am_m (am_wr σ1 28 9 v2) fun σ2 => am_m (am_wr σ2 28 10 v3) fun σ3 => am_m (am_wr σ3 28 11 v4) fun σ4 => some (0, σ4, n) := (am_rn_eq true d 140 14 (0, [(102, 28), (0, v1), (0, v2), (0, v3), (0, v4)], [], σ, n)).trans rfl
set_option maxRecDepth 100000 in
set_option maxHeartbeats 4000000 in
theorem fi_shape_e (d : Nat) (σ : am_M) (n : Nat) : fi_shape (d + 1) σ n = am_ix 8 (σ 28 1) (am_ix 6 (σ 28 1) (if σ 28 3 = (-1) then (fi_shape_50 d (σ 8 (σ 28 1).toNat) (σ 6 (σ 28 1).toNat) (-1) σ n) else am_ix 7 (σ 28 3) (fi_shape_50 d (σ 8 (σ 28 1).toNat) (σ 6 (σ 28 1).toNat) (σ 7 (σ 28 3).toNat) σ n))) := (am_rn_eq true d 141 25 (0, [(102, 28), (9, 0), (9, 0), (9, 0), (9, 0), (9, 0)], [], σ, n)).trans rfl
set_option maxRecDepth 100000 in
set_option maxHeartbeats 4000000 in
theorem fi_shape_50_e (d : Nat) (v1 v2 s0 : Int) (σ : am_M) (n : Nat) : fi_shape_50 d v1 v2 s0 σ n = if σ 28 3 = (-1) then (fi_shape_75 d v1 v2 s0 (-1) σ n) else am_ix 8 (σ 28 3) (fi_shape_75 d v1 v2 s0 (σ 8 (σ 28 3).toNat) σ n) := (am_rn_eq true d 141 12 _).trans rfl
set_option maxRecDepth 100000 in
set_option maxHeartbeats 4000000 in
theorem fi_shape_75_e (d : Nat) (v1 v2 v3 s0 : Int) (σ : am_M) (n : Nat) : fi_shape_75 d v1 v2 v3 s0 σ n = if σ 28 3 = (-1) then (fi_shape_101 d v1 v2 v3 s0 (-1) σ n) else am_ix 6 (σ 28 3) (fi_shape_101 d v1 v2 v3 s0 (σ 6 (σ 28 3).toNat) σ n) := (am_rn_eq true d 141 12 _).trans rfl
set_option maxRecDepth 100000 in
set_option maxHeartbeats 4000000 in
theorem fi_shape_101_e (d : Nat) (v1 v2 v3 v4 s0 : Int) (σ : am_M) (n : Nat) : fi_shape_101 d v1 v2 v3 v4 s0 σ n = (fi_inner d (-1) (-1) (-1) (-1) σ n).bind fun q1 => (fi_outcome d (-1) (-1) (-1) (-1) q1.2.1 q1.2.2).bind fun q2 => if q2.2.1 28 2 = 0 then (am_ix 7 (q2.2.1 28 1) ((fi_outcome d 5 v2 v1 (q2.2.1 7 (q2.2.1 28 1).toNat) q2.2.1 q2.2.2).bind fun q3 => some (0, q3.2.1, q3.2.2))) else if q2.2.1 28 2 = 1 then ((fi_inner d 5 v2 v4 v1 q2.2.1 q2.2.2).bind fun q4 => (fi_outcome d 5 s0 v3 (-2) q4.2.1 q4.2.2).bind fun q5 => some (0, q5.2.1, q5.2.2)) else if q2.2.1 28 2 = 2 then ((fi_inner d 3 v2 v3 (-1) q2.2.1 q2.2.2).bind fun q6 => am_ix 5 (q6.2.1 28 3) ((fi_outcome d (q6.2.1 5 (q6.2.1 28 3).toNat) s0 (-2) v4 q6.2.1 q6.2.2).bind fun q7 => some (0, q7.2.1, q7.2.2))) else if q2.2.1 28 2 = 3 then ((fi_inner d 3 v2 v3 (-1) q2.2.1 q2.2.2).bind fun q8 => (fi_outcome d 3 s0 (-2) (-1) q8.2.1 q8.2.2).bind fun q9 => some (0, q9.2.1, q9.2.2)) else if q2.2.1 28 2 = 4 then (some (0, q2.2.1, q2.2.2)) else if q2.2.1 28 2 = 5 then ((fi_inner d 4 v2 v3 (-1) q2.2.1 q2.2.2).bind fun q10 => (fi_outcome d 3 s0 (-2) (-1) q10.2.1 q10.2.2).bind fun q11 => some (0, q11.2.1, q11.2.2)) else if q2.2.1 28 2 = 6 then ((fi_inner d 6 v2 v3 v1 q2.2.1 q2.2.2).bind fun q12 => (fi_outcome d 6 s0 (-2) v4 q12.2.1 q12.2.2).bind fun q13 => some (0, q13.2.1, q13.2.2)) else some (0, q2.2.1, q2.2.2) := (am_rn_eq true d 141 36 _).trans rfl
set_option maxRecDepth 100000 in
set_option maxHeartbeats 4000000 in
theorem fi_filled_e (d : Nat) (v0 v1 : Int) (σ : am_M) (n : Nat) : fi_filled (d + 1) v0 v1 σ n = if v0 = (-2) then (some (v1, σ, n)) else some (v0, σ, n) := (am_rn_eq true d 142 7 (0, [(0, v0), (0, v1)], [], σ, n)).trans rfl
set_option maxRecDepth 100000 in
set_option maxHeartbeats 4000000 in
theorem fi_newOnes_e (d : Nat) (σ : am_M) (n : Nat) : fi_newOnes (d + 1) σ n = if σ 28 8 = (-1) then (some (0, σ, n)) else if σ 28 4 = (-1) then (fi_newOnes_61 d (-1) σ n) else (me_alike d (σ 28 4) (σ 28 5) (σ 28 6) (σ 28 7) σ n).bind fun q1 => if q1.1 = (-1) then (some (2, q1.2.1, q1.2.2)) else am_ix 9 q1.1 (fi_newOnes_61 d (q1.2.1 9 q1.1.toNat) q1.2.1 q1.2.2) := (am_rn_eq true d 143 32 (0, [(102, 28), (9, 0), (9, 0)], [], σ, n)).trans rfl
set_option maxRecDepth 100000 in
set_option maxHeartbeats 4000000 in
theorem fi_newOnes_61_e (d : Nat) (v1 : Int) (σ : am_M) (n : Nat) : fi_newOnes_61 d v1 σ n = (fi_filled d (σ 28 10) v1 σ n).bind fun q1 => (fi_filled d (q1.2.1 28 11) v1 q1.2.1 q1.2.2).bind fun q2 => (me_alike d (σ 28 8) (σ 28 9) q1.1 q2.1 q2.2.1 q2.2.2).bind fun q3 => if q3.1 = (-1) then (some (1, q3.2.1, q3.2.2)) else some (0, q3.2.1, q3.2.2) := (am_rn_eq true d 143 21 _).trans rfl
set_option maxRecDepth 100000 in
set_option maxHeartbeats 4000000 in
theorem fi_hasRoom_e (d : Nat) (σ : am_M) (n : Nat) : fi_hasRoom (d + 1) σ n = (fi_shape d σ n).bind fun q1 => (fi_newOnes d q1.2.1 q1.2.2).bind fun q2 => if 64 < am_w (q1.2.1 2 3 + q2.1) then (some (0, q2.2.1, q2.2.2)) else some (1, q2.2.1, q2.2.2) := (am_rn_eq true d 144 14 (0, [(102, 28)], [], σ, n)).trans rfl
set_option maxRecDepth 100000 in
set_option maxHeartbeats 4000000 in
theorem fi_fire_e (d : Nat) (σ : am_M) (n : Nat) : fi_fire (d + 1) σ n = (fi_shape d σ n).bind fun q1 => am_ix 13 (am_w (am_w (q1.2.1 28 1 * 7) + q1.2.1 28 2)) (if q1.2.1 28 2 = 0 then (fi_fire_42 d (am_w (am_w (q1.2.1 28 1 * 7) + q1.2.1 28 2)) (q1.2.1 13 (am_w (am_w (q1.2.1 28 1 * 7) + q1.2.1 28 2)).toNat) 1 q1.2.1 q1.2.2) else fi_fire_42 d (am_w (am_w (q1.2.1 28 1 * 7) + q1.2.1 28 2)) (q1.2.1 13 (am_w (am_w (q1.2.1 28 1 * 7) + q1.2.1 28 2)).toNat) (am_lshl 1 (q1.2.1 28 3)) q1.2.1 q1.2.2) := (am_rn_eq true d 145 22 (0, [(102, 28), (9, 0), (9, 0), (9, 0), (9, 0)], [], σ, n)).trans rfl
set_option maxRecDepth 100000 in
set_option maxHeartbeats 4000000 in
theorem fi_fire_42_e (d : Nat) (s1 s2 s3 : Int) (σ : am_M) (n : Nat) : fi_fire_42 d s1 s2 s3 σ n = am_ix 13 s1 (am_m (am_wr σ 13 s1.toNat (am_lor s2 s3)) fun σ1 => am_ix 14 (σ1 28 2) (am_ix 14 (σ1 28 2) (am_m (am_wr σ1 14 (σ1 28 2).toNat (am_w (σ1 14 (σ1 28 2).toNat + 1))) fun σ2 => if σ2 28 8 = (-1) then (am_ix 9 (σ2 28 1) (am_ix 9 (σ2 28 3) ((me_unify d (σ2 9 (σ2 28 1).toNat) (σ2 9 (σ2 28 3).toNat) σ2 n).bind fun q2 => some (0, q2.2.1, q2.2.2)))) else if σ2 28 4 = (-1) then (fi_fire_134 d (-1) σ2 n) else (me_tell d (σ2 28 4) (σ2 28 5) (σ2 28 6) (σ2 28 7) σ2 n).bind fun q1 => fi_fire_134 d q1.1 q1.2.1 q1.2.2))) := (am_rn_eq true d 145 35 _).trans rfl
set_option maxRecDepth 100000 in
set_option maxHeartbeats 4000000 in
theorem fi_fire_134_e (d : Nat) (v1 : Int) (σ : am_M) (n : Nat) : fi_fire_134 d v1 σ n = (fi_filled d (σ 28 10) v1 σ n).bind fun q1 => (fi_filled d (q1.2.1 28 11) v1 q1.2.1 q1.2.2).bind fun q2 => (me_alike d (q2.2.1 28 8) (q2.2.1 28 9) q1.1 q2.1 q2.2.1 q2.2.2).bind fun q3 => if q3.1 = (-1) then (am_ix 9 (q3.2.1 28 1) ((me_addTo d (q3.2.1 9 (q3.2.1 28 1).toNat) (q3.2.1 28 8) (q3.2.1 28 9) q1.1 q2.1 q3.2.1 q3.2.2).bind fun q5 => some (0, q5.2.1, q5.2.2))) else am_ix 9 q3.1 (am_ix 9 (q3.2.1 28 1) ((me_unify d (q3.2.1 9 q3.1.toNat) (q3.2.1 9 (q3.2.1 28 1).toNat) q3.2.1 q3.2.2).bind fun q4 => some (0, q4.2.1, q4.2.2))) := (am_rn_eq true d 145 41 _).trans rfl
set_option maxRecDepth 100000 in
set_option maxHeartbeats 4000000 in
theorem pm_explore_e (d : Nat) (v1 : Int) (σ : am_M) (n : Nat) : pm_explore (d + 1) v1 σ n = if v1 < 1 then ((pm_refuse d 6 σ n).bind fun q1 => some (q1.1, q1.2.1, q1.2.2)) else if 200 < v1 then ((pm_refuse d 6 σ n).bind fun q2 => some (q2.1, q2.2.1, q2.2.2)) else pm_explore_21 d v1 0 σ n := (am_rn_eq true d 146 11 (0, [(109, 0), (0, v1), (9, 0)], [], σ, n)).trans rfl
set_option maxRecDepth 100000 in
set_option maxHeartbeats 4000000 in
theorem pm_explore_21_e (d : Nat) (v1 v2 : Int) (σ : am_M) (n : Nat) : pm_explore_21 d v1 v2 σ n = if v2 < v1 then ((fi_find d σ n).bind fun q1 => if q1.1 = 0 then (some (v2, q1.2.1, q1.2.2)) else (fi_hasRoom d q1.2.1 q1.2.2).bind fun q2 => if q2.1 = 0 then (some (v2, q2.2.1, q2.2.2)) else (fi_fire d q2.2.1 q2.2.2).bind fun q3 => pm_explore_21 d v1 (am_w (v2 + 1)) q3.2.1 q3.2.2) else some (v1, σ, n) := (am_rn_eq true d 146 17 _).trans rfl
set_option maxRecDepth 100000 in
set_option maxHeartbeats 4000000 in
theorem mo_fits_e (d : Nat) (v1 v2 v3 : Int) (σ : am_M) (n : Nat) : mo_fits (d + 1) v1 v2 v3 σ n = am_ix 89 v1 (am_ix 89 v3 (if v2 = 1 then (if σ 89 v1.toNat = 5 then (if σ 89 v3.toNat = 5 then (am_ix 92 v3 ((mo_root d (σ 92 v3.toNat) σ n).bind fun q1 => am_ix 105 q1.1 (am_ix 90 v1 ((mo_isColumn d (q1.2.1 105 q1.1.toNat) (q1.2.1 90 v1.toNat) q1.2.1 q1.2.2).bind fun q2 => if q2.1 = 0 then (some (0, q2.2.1, q2.2.2)) else some (1, q2.2.1, q2.2.2))))) else some (0, σ, n)) else some (0, σ, n)) else if v2 = 2 then (if σ 89 v1.toNat = 3 then (if σ 89 v3.toNat < 5 then (some (0, σ, n)) else am_ix 91 v3 ((mo_root d (σ 91 v3.toNat) σ n).bind fun q3 => am_ix 105 q3.1 (am_ix 90 v1 ((mo_isColumn d (q3.2.1 105 q3.1.toNat) (am_w (Int.tdiv (q3.2.1 90 v1.toNat) 2)) q3.2.1 q3.2.2).bind fun q4 => if q4.1 = 0 then (some (0, q4.2.1, q4.2.2)) else some (1, q4.2.1, q4.2.2))))) else some (0, σ, n)) else if v2 = 3 then (if σ 89 v1.toNat = 3 then (if σ 89 v3.toNat = 3 then (am_ix 90 v1 (am_ix 90 v3 (if σ 90 v1.toNat = σ 90 v3.toNat then (some (0, σ, n)) else some (1, σ, n)))) else some (0, σ, n)) else some (0, σ, n)) else if v2 = 4 then (if σ 89 v1.toNat = σ 89 v3.toNat then (if σ 89 v1.toNat = 3 then (mo_fits_198 d v1 v3 σ n) else if σ 89 v1.toNat = 4 then (mo_fits_198 d v1 v3 σ n) else some (0, σ, n)) else some (0, σ, n)) else if v2 = 5 then (if σ 89 v1.toNat = 4 then (if σ 89 v3.toNat = 3 then (am_ix 90 v3 (am_ix 90 v1 (if am_w (Int.tdiv (σ 90 v3.toNat) 2) = σ 90 v1.toNat then (some (1, σ, n)) else some (0, σ, n)))) else some (0, σ, n)) else some (0, σ, n)) else if σ 89 v1.toNat = 6 then (if σ 89 v3.toNat = 6 then (some (1, σ, n)) else some (0, σ, n)) else some (0, σ, n))) := (am_rn_eq true d 147 40 (0, [(110, 82), (0, v1), (0, v2), (0, v3), (9, 0), (9, 0)], [], σ, n)).trans rfl
set_option maxRecDepth 100000 in
set_option maxHeartbeats 4000000 in
theorem mo_fits_198_e (d : Nat) (v1 v3 : Int) (σ : am_M) (n : Nat) : mo_fits_198 d v1 v3 σ n = am_ix 90 v1 (am_ix 90 v3 (if σ 90 v1.toNat = σ 90 v3.toNat then (some (1, σ, n)) else some (0, σ, n))) := (am_rn_eq true d 147 13 _).trans rfl
set_option maxRecDepth 100000 in
set_option maxHeartbeats 4000000 in
theorem mo_finds_e (d : Nat) (σ : am_M) (n : Nat) : mo_finds (d + 1) σ n = (mo_tells d σ n).bind fun q1 => mo_finds_6 d 0 q1.2.1 q1.2.2 := (am_rn_eq true d 148 5 (0, [(110, 82), (9, 0), (9, 0), (9, 0)], [], σ, n)).trans rfl
set_option maxRecDepth 100000 in
set_option maxHeartbeats 4000000 in
theorem mo_finds_6_e (d : Nat) (v1 : Int) (σ : am_M) (n : Nat) : mo_finds_6 d v1 σ n = if v1 < σ 82 1 then (am_ix 95 v1 (if σ 95 v1.toNat = 0 then (mo_finds_28 d v1 0 σ n) else mo_finds_6 d (am_w (v1 + 1)) σ n)) else some (0, σ, n) := (am_rn_eq true d 148 13 _).trans rfl
set_option maxRecDepth 100000 in
set_option maxHeartbeats 4000000 in
theorem mo_finds_28_e (d : Nat) (v1 v2 : Int) (σ : am_M) (n : Nat) : mo_finds_28 d v1 v2 σ n = if v2 < 7 then (if v2 = 0 then (am_ix 89 v1 (if σ 89 v1.toNat = 5 then (am_ix 96 (am_w (am_w (am_w (v1 * 7) * 65) + 64)) (if σ 96 (am_w (am_w (am_w (v1 * 7) * 65) + 64)).toNat = 0 then (am_m (am_wr σ 82 65 v1) fun σ1 => am_m (am_wr σ1 82 66 0) fun σ2 => am_m (am_wr σ2 82 67 (-1)) fun σ3 => some (1, σ3, n)) else mo_finds_28 d v1 (am_w (v2 + 1)) σ n)) else mo_finds_28 d v1 (am_w (v2 + 1)) σ n)) else mo_finds_85 d v1 v2 0 σ n) else mo_finds_6 d (am_w (v1 + 1)) σ n := (am_rn_eq true d 148 34 _).trans rfl
set_option maxRecDepth 100000 in
set_option maxHeartbeats 4000000 in
theorem mo_finds_85_e (d : Nat) (v1 v2 v3 : Int) (σ : am_M) (n : Nat) : mo_finds_85 d v1 v2 v3 σ n = if v3 < σ 82 1 then (am_ix 89 v1 (if σ 89 v1.toNat = 1 then (mo_finds_28 d v1 (am_w (v2 + 1)) σ n) else am_ix 95 v3 (if σ 95 v3.toNat = 0 then (am_ix 93 v3 ((mo_root d (σ 93 v3.toNat) σ n).bind fun q1 => am_ix 91 v1 ((mo_root d (q1.2.1 91 v1.toNat) q1.2.1 q1.2.2).bind fun q2 => if q1.1 = q2.1 then ((mo_fits d v1 v2 v3 q2.2.1 q2.2.2).bind fun q3 => if q3.1 = 0 then (mo_finds_85 d v1 v2 (am_w (v3 + 1)) q3.2.1 q3.2.2) else am_ix 96 (am_w (am_w (am_w (am_w (v1 * 7) + v2) * 65) + v3)) (if q3.2.1 96 (am_w (am_w (am_w (am_w (v1 * 7) + v2) * 65) + v3)).toNat = 0 then (am_m (am_wr q3.2.1 82 65 v1) fun σ1 => am_m (am_wr σ1 82 66 v2) fun σ2 => am_m (am_wr σ2 82 67 v3) fun σ3 => some (1, σ3, q3.2.2)) else mo_finds_85 d v1 v2 (am_w (v3 + 1)) q3.2.1 q3.2.2)) else mo_finds_85 d v1 v2 (am_w (v3 + 1)) q2.2.1 q2.2.2))) else mo_finds_85 d v1 v2 (am_w (v3 + 1)) σ n))) else mo_finds_28 d v1 (am_w (v2 + 1)) σ n := (am_rn_eq true d 148 59 _).trans rfl
set_option maxRecDepth 100000 in
set_option maxHeartbeats 4000000 in
theorem mo_says2_e (d : Nat) (v1 v2 v3 v4 : Int) (σ : am_M) (n : Nat) : mo_says2 (d + 1) v1 v2 v3 v4 σ n = am_ix 137 0 (am_m (am_wr σ 137 0 v1) fun σ1 => am_ix 137 1 (am_m (am_wr σ1 137 1 v2) fun σ2 => am_ix 137 2 (am_m (am_wr σ2 137 2 v3) fun σ3 => am_ix 137 3 (am_m (am_wr σ3 137 3 v4) fun σ4 => some (0, σ4, n))))) := (am_rn_eq true d 149 22 (0, [(110, 82), (0, v1), (0, v2), (0, v3), (0, v4)], [], σ, n)).trans rfl
set_option maxRecDepth 100000 in
set_option maxHeartbeats 4000000 in
theorem mo_bracket_e (d : Nat) (σ : am_M) (n : Nat) : mo_bracket (d + 1) σ n = if σ 82 66 = 1 then (am_ix 90 (σ 82 65) (am_ix 92 (σ 82 67) (am_ix 92 (σ 82 65) ((mo_says2 d 5 (σ 90 (σ 82 65).toNat) (σ 92 (σ 82 67).toNat) (σ 92 (σ 82 65).toNat) σ n).bind fun q1 => some (0, q1.2.1, q1.2.2))))) else if σ 82 66 = 2 then (am_ix 90 (σ 82 65) (am_ix 91 (σ 82 67) (am_ix 91 (σ 82 67) ((mo_says2 d 3 (σ 90 (σ 82 65).toNat) (σ 91 (σ 82 67).toNat) (σ 91 (σ 82 67).toNat) σ n).bind fun q2 => some (0, q2.2.1, q2.2.2))))) else if σ 82 66 = 3 then (am_ix 90 (σ 82 65) (am_ix 91 (σ 82 67) (am_ix 91 (σ 82 67) ((mo_says2 d 3 (σ 90 (σ 82 65).toNat) (σ 91 (σ 82 67).toNat) (σ 91 (σ 82 67).toNat) σ n).bind fun q3 => some (0, q3.2.1, q3.2.2))))) else if σ 82 66 = 4 then (am_ix 90 (σ 82 65) (am_ix 91 (σ 82 67) (am_ix 92 (σ 82 65) ((mo_says2 d 6 (σ 90 (σ 82 65).toNat) (σ 91 (σ 82 67).toNat) (σ 92 (σ 82 65).toNat) σ n).bind fun q4 => some (0, q4.2.1, q4.2.2))))) else if σ 82 66 = 5 then (am_ix 90 (σ 82 65) (am_ix 91 (σ 82 67) (am_ix 91 (σ 82 67) ((mo_says2 d 4 (σ 90 (σ 82 65).toNat) (σ 91 (σ 82 67).toNat) (σ 91 (σ 82 67).toNat) σ n).bind fun q5 => some (0, q5.2.1, q5.2.2))))) else am_ix 90 (σ 82 65) (am_ix 91 (σ 82 67) (am_ix 92 (σ 82 65) ((mo_says2 d 6 (σ 90 (σ 82 65).toNat) (σ 91 (σ 82 67).toNat) (σ 92 (σ 82 65).toNat) σ n).bind fun q6 => some (0, q6.2.1, q6.2.2)))) := (am_rn_eq true d 150 27 (0, [(110, 82), (9, 0), (9, 0)], [], σ, n)).trans rfl
set_option maxRecDepth 100000 in
set_option maxHeartbeats 4000000 in
theorem mo_comes_e (d : Nat) (v1 : Int) (σ : am_M) (n : Nat) : mo_comes (d + 1) v1 σ n = if σ 82 66 = 0 then (am_ix 90 (σ 82 65) (am_ix 92 (σ 82 65) (am_ix 91 (σ 82 65) ((mo_says2 d 5 (σ 90 (σ 82 65).toNat) (σ 92 (σ 82 65).toNat) (σ 91 (σ 82 65).toNat) σ n).bind fun q1 => some (0, q1.2.1, q1.2.2))))) else if σ 82 66 = 1 then (am_ix 90 (σ 82 67) (am_ix 91 (σ 82 67) ((mo_says2 d 5 (σ 90 (σ 82 67).toNat) (σ 91 (σ 82 67).toNat) v1 σ n).bind fun q2 => some (0, q2.2.1, q2.2.2)))) else if σ 82 66 = 2 then (am_ix 89 (σ 82 67) (am_ix 90 (σ 82 67) (am_ix 92 (σ 82 67) ((mo_says2 d (σ 89 (σ 82 67).toNat) (σ 90 (σ 82 67).toNat) v1 (σ 92 (σ 82 67).toNat) σ n).bind fun q3 => some (0, q3.2.1, q3.2.2))))) else if σ 82 66 = 3 then (am_ix 90 (σ 82 67) ((mo_says2 d 3 (σ 90 (σ 82 67).toNat) v1 v1 σ n).bind fun q4 => some (0, q4.2.1, q4.2.2))) else if σ 82 66 = 4 then (am_ix 90 (σ 82 67) ((mo_says2 d 3 (σ 90 (σ 82 67).toNat) v1 v1 σ n).bind fun q5 => some (0, q5.2.1, q5.2.2))) else if σ 82 66 = 5 then (am_ix 90 (σ 82 67) ((mo_says2 d 3 (σ 90 (σ 82 67).toNat) v1 v1 σ n).bind fun q6 => some (0, q6.2.1, q6.2.2))) else if σ 82 66 = 6 then (am_ix 90 (σ 82 67) (am_ix 92 (σ 82 67) ((mo_says2 d 6 (σ 90 (σ 82 67).toNat) v1 (σ 92 (σ 82 67).toNat) σ n).bind fun q7 => some (0, q7.2.1, q7.2.2)))) else am_ix 90 (σ 82 67) ((mo_says2 d 3 (σ 90 (σ 82 67).toNat) v1 v1 σ n).bind fun q8 => some (0, q8.2.1, q8.2.2)) := (am_rn_eq true d 151 27 (0, [(110, 82), (0, v1), (9, 0), (9, 0)], [], σ, n)).trans rfl
set_option maxRecDepth 100000 in
set_option maxHeartbeats 4000000 in
theorem mo_news_e (d : Nat) (σ : am_M) (n : Nat) : mo_news (d + 1) σ n = if σ 82 66 = 4 then (some (0, σ, n)) else if 0 < σ 82 66 then ((mo_bracket d σ n).bind fun q1 => am_ix 137 0 (am_ix 137 1 (am_ix 137 2 (am_ix 137 3 ((mo_alike d (q1.2.1 137 0) (q1.2.1 137 1) (q1.2.1 137 2) (q1.2.1 137 3) q1.2.1 q1.2.2).bind fun q2 => if q2.1 = (-1) then (some (2, q2.2.1, q2.2.2)) else if q2.1 = (-1) then (mo_news_79 d 0 q2.2.1 q2.2.2) else am_ix 93 q2.1 ((mo_root d (q2.2.1 93 q2.1.toNat) q2.2.1 q2.2.2).bind fun q3 => mo_news_79 d q3.1 q3.2.1 q3.2.2)))))) else mo_news_79 d 0 σ n := (am_rn_eq true d 152 44 (0, [(110, 82), (9, 0)], [], σ, n)).trans rfl
set_option maxRecDepth 100000 in
set_option maxHeartbeats 4000000 in
theorem mo_news_79_e (d : Nat) (s1 : Int) (σ : am_M) (n : Nat) : mo_news_79 d s1 σ n = (mo_comes d s1 σ n).bind fun q1 => am_ix 137 0 (am_ix 137 1 (am_ix 137 2 (am_ix 137 3 ((mo_alike d (q1.2.1 137 0) (q1.2.1 137 1) (q1.2.1 137 2) (q1.2.1 137 3) q1.2.1 q1.2.2).bind fun q2 => if q2.1 = (-1) then (some (1, q2.2.1, q2.2.2)) else some (0, q2.2.1, q2.2.2))))) := (am_rn_eq true d 152 25 _).trans rfl
set_option maxRecDepth 100000 in
set_option maxHeartbeats 4000000 in
theorem mo_fires_e (d : Nat) (σ : am_M) (n : Nat) : mo_fires (d + 1) σ n = if σ 82 67 = (-1) then (mo_fires_38 d (σ 82 65) (am_w (am_w (am_w (σ 82 65 * 7) + σ 82 66) * 65)) 64 σ n) else mo_fires_38 d (σ 82 65) (am_w (am_w (am_w (σ 82 65 * 7) + σ 82 66) * 65)) (σ 82 67) σ n := (am_rn_eq true d 153 20 (0, [(110, 82), (9, 0), (9, 0), (9, 0)], [], σ, n)).trans rfl
set_option maxRecDepth 100000 in
set_option maxHeartbeats 4000000 in
theorem mo_fires_38_e (d : Nat) (v1 s1 s2 : Int) (σ : am_M) (n : Nat) : mo_fires_38 d v1 s1 s2 σ n = am_ix 96 (am_w (s1 + s2)) (am_m (am_wr σ 96 (am_w (s1 + s2)).toNat (1 % 2)) fun σ1 => am_ix 97 (σ1 82 66) (am_ix 97 (σ1 82 66) (am_m (am_wr σ1 97 (σ1 82 66).toNat (am_w (σ1 97 (σ1 82 66).toNat + 1))) fun σ2 => am_m (am_wr σ2 82 3 (am_w (σ2 82 3 + 1))) fun σ3 => if σ3 82 66 = 4 then (am_ix 93 v1 (am_ix 93 (σ3 82 67) ((mo_merges d (σ3 93 v1.toNat) (σ3 93 (σ3 82 67).toNat) σ3 n).bind fun q3 => some (0, q3.2.1, q3.2.2)))) else if 0 < σ3 82 66 then ((mo_bracket d σ3 n).bind fun q1 => am_ix 137 0 (am_ix 137 1 (am_ix 137 2 (am_ix 137 3 ((mo_told d (q1.2.1 137 0) (q1.2.1 137 1) (q1.2.1 137 2) (q1.2.1 137 3) q1.2.1 q1.2.2).bind fun q2 => mo_fires_134 d v1 q2.1 q2.2.1 q2.2.2))))) else mo_fires_134 d v1 0 σ3 n))) := (am_rn_eq true d 153 49 _).trans rfl
set_option maxRecDepth 100000 in
set_option maxHeartbeats 4000000 in
theorem mo_fires_134_e (d : Nat) (v1 v2 : Int) (σ : am_M) (n : Nat) : mo_fires_134 d v1 v2 σ n = (mo_comes d v2 σ n).bind fun q1 => am_ix 137 0 (am_ix 137 1 (am_ix 137 2 (am_ix 137 3 ((mo_alike d (q1.2.1 137 0) (q1.2.1 137 1) (q1.2.1 137 2) (q1.2.1 137 3) q1.2.1 q1.2.2).bind fun q2 => if q2.1 = (-1) then (am_ix 137 0 (am_ix 137 1 (am_ix 137 2 (am_ix 137 3 (am_ix 93 v1 ((mo_root d (q2.2.1 93 v1.toNat) q2.2.1 q2.2.2).bind fun q4 => (mo_adds d (q2.2.1 137 0) (q2.2.1 137 1) (q2.2.1 137 2) (q2.2.1 137 3) q4.1 q4.2.1 q4.2.2).bind fun q5 => some (0, q5.2.1, q5.2.2))))))) else am_ix 93 q2.1 (am_ix 93 v1 ((mo_merges d (q2.2.1 93 q2.1.toNat) (q2.2.1 93 v1.toNat) q2.2.1 q2.2.2).bind fun q3 => some (0, q3.2.1, q3.2.2))))))) := (am_rn_eq true d 153 53 _).trans rfl
set_option maxRecDepth 100000 in
set_option maxHeartbeats 4000000 in
theorem mo_explore_e (d : Nat) (v1 : Int) (σ : am_M) (n : Nat) : mo_explore (d + 1) v1 σ n = (mo_isFrom d v1 1 200 σ n).bind fun q1 => if q1.1 = 0 then ((mo_no d (-6) q1.2.1 q1.2.2).bind fun q2 => some (q2.1, q2.2.1, q2.2.2)) else mo_explore_21 d v1 0 q1.2.1 q1.2.2 := (am_rn_eq true d 154 11 (0, [(110, 82), (0, v1), (9, 0)], [], σ, n)).trans rfl
set_option maxRecDepth 100000 in
set_option maxHeartbeats 4000000 in
theorem mo_explore_21_e (d : Nat) (v1 v2 : Int) (σ : am_M) (n : Nat) : mo_explore_21 d v1 v2 σ n = if v2 < v1 then ((mo_finds d σ n).bind fun q1 => if q1.1 = 0 then (some (v2, q1.2.1, q1.2.2)) else (mo_news d q1.2.1 q1.2.2).bind fun q2 => if 64 < am_w (q1.2.1 82 1 + q2.1) then (some (v2, q2.2.1, q2.2.2)) else (mo_fires d q2.2.1 q2.2.2).bind fun q3 => mo_explore_21 d v1 (am_w (v2 + 1)) q3.2.1 q3.2.2) else some (v2, σ, n) := (am_rn_eq true d 154 18 _).trans rfl
set_option maxRecDepth 100000 in
set_option maxHeartbeats 4000000 in
theorem pm_next_e (d : Nat) (v1 : Int) (σ : am_M) (n : Nat) : pm_next (d + 1) v1 σ n = if v1 < 0 then ((pm_refuse d 5 σ n).bind fun q1 => some (q1.1, q1.2.1, q1.2.2)) else if 3 < v1 then ((pm_refuse d 5 σ n).bind fun q4 => some (q4.1, q4.2.1, q4.2.2)) else (fi_find d σ n).bind fun q2 => if q2.1 = 0 then (some ((-1), q2.2.1, q2.2.2)) else if v1 = 0 then (some (q2.2.1 28 1, q2.2.1, q2.2.2)) else if v1 = 1 then (some (q2.2.1 28 2, q2.2.1, q2.2.2)) else if v1 = 2 then (some (q2.2.1 28 3, q2.2.1, q2.2.2)) else (fi_hasRoom d q2.2.1 q2.2.2).bind fun q3 => if q3.1 = 0 then (some (0, q3.2.1, q3.2.2)) else some (1, q3.2.1, q3.2.2) := (am_rn_eq true d 155 19 (0, [(109, 0), (0, v1)], [], σ, n)).trans rfl
set_option maxRecDepth 100000 in
set_option maxHeartbeats 4000000 in
theorem mo_next_e (d : Nat) (v1 : Int) (σ : am_M) (n : Nat) : mo_next (d + 1) v1 σ n = (mo_isFrom d v1 0 3 σ n).bind fun q1 => if q1.1 = 0 then ((mo_no d (-5) q1.2.1 q1.2.2).bind fun q4 => some (q4.1, q4.2.1, q4.2.2)) else (mo_finds d q1.2.1 q1.2.2).bind fun q2 => if q2.1 = 0 then (some ((-1), q2.2.1, q2.2.2)) else if v1 = 0 then (some (q2.2.1 82 65, q2.2.1, q2.2.2)) else if v1 = 1 then (some (q2.2.1 82 66, q2.2.1, q2.2.2)) else if v1 = 2 then (some (q2.2.1 82 67, q2.2.1, q2.2.2)) else (mo_news d q2.2.1 q2.2.2).bind fun q3 => if 64 < am_w (q2.2.1 82 1 + q3.1) then (some (0, q3.2.1, q3.2.2)) else some (1, q3.2.1, q3.2.2) := (am_rn_eq true d 156 28 (0, [(110, 82), (0, v1)], [], σ, n)).trans rfl
set_option maxRecDepth 100000 in
set_option maxHeartbeats 4000000 in
theorem pm_fired_e (d : Nat) (v1 : Int) (σ : am_M) (n : Nat) : pm_fired (d + 1) v1 σ n = if v1 < 0 then ((pm_refuse d 5 σ n).bind fun q1 => some (q1.1, q1.2.1, q1.2.2)) else if v1 < 7 then (am_ix 14 v1 (some (σ 14 v1.toNat, σ, n))) else (pm_refuse d 5 σ n).bind fun q2 => some (q2.1, q2.2.1, q2.2.2) := (am_rn_eq true d 157 12 (0, [(109, 0), (0, v1)], [], σ, n)).trans rfl
set_option maxRecDepth 100000 in
set_option maxHeartbeats 4000000 in
theorem mo_fired_e (d : Nat) (v1 : Int) (σ : am_M) (n : Nat) : mo_fired (d + 1) v1 σ n = (mo_isFrom d v1 0 6 σ n).bind fun q1 => if q1.1 = 0 then ((mo_no d (-5) q1.2.1 q1.2.2).bind fun q2 => some (q2.1, q2.2.1, q2.2.2)) else am_ix 97 v1 (some (q1.2.1 97 v1.toNat, q1.2.1, q1.2.2)) := (am_rn_eq true d 158 13 (0, [(110, 82), (0, v1)], [], σ, n)).trans rfl
set_option maxRecDepth 100000 in
set_option maxHeartbeats 4000000 in
theorem pm_isAllowable_e (d : Nat) (v0 : Int) (σ : am_M) (n : Nat) : pm_isAllowable (d + 1) v0 σ n = if v0 < 0 then (some (0, σ, n)) else if v0 < 12 then (if am_and (am_shr 3958 v0) 1 = 1 then (some (1, σ, n)) else some (0, σ, n)) else some (0, σ, n) := (am_rn_eq true d 159 16 (0, [(0, v0)], [], σ, n)).trans rfl
set_option maxRecDepth 100000 in
set_option maxHeartbeats 4000000 in
theorem pm_allow_e (d : Nat) (v1 v2 : Int) (σ : am_M) (n : Nat) : pm_allow (d + 1) v1 v2 σ n = (pm_isAllowable d v1 σ n).bind fun q1 => if q1.1 = 0 then ((pm_refuse d 1 q1.2.1 q1.2.2).bind fun q2 => some (q2.1, q2.2.1, q2.2.2)) else if v2 = 0 then (am_m (am_wr q1.2.1 2 15 (am_and (q1.2.1 2 15) (am_xor (am_shl 1 v1) (-1)))) fun σ1 => some (am_and (am_shr (q1.2.1 2 15) v1) 1, σ1, q1.2.2)) else am_m (am_wr q1.2.1 2 15 (am_or (am_and (q1.2.1 2 15) (am_xor (am_shl 1 v1) (-1))) (am_shl 1 v1))) fun σ2 => some (am_and (am_shr (q1.2.1 2 15) v1) 1, σ2, q1.2.2) := (am_rn_eq true d 160 35 (0, [(109, 0), (0, v1), (0, v2), (9, 0), (9, 0)], [], σ, n)).trans rfl
set_option maxRecDepth 100000 in
set_option maxHeartbeats 4000000 in
theorem mo_isWay_e (d : Nat) (v1 : Int) (σ : am_M) (n : Nat) : mo_isWay (d + 1) v1 σ n = if v1 = 1 then (some (1, σ, n)) else if v1 = 2 then (some (1, σ, n)) else if v1 < 4 then (mo_isWay_21 d v1 σ n) else if 6 < v1 then (mo_isWay_21 d v1 σ n) else some (1, σ, n) := (am_rn_eq true d 161 16 (0, [(110, 82), (0, v1)], [], σ, n)).trans rfl
set_option maxRecDepth 100000 in
set_option maxHeartbeats 4000000 in
theorem mo_isWay_21_e (d : Nat) (v1 : Int) (σ : am_M) (n : Nat) : mo_isWay_21 d v1 σ n = if v1 < 8 then (some (0, σ, n)) else if 11 < v1 then (some (0, σ, n)) else some (1, σ, n) := (am_rn_eq true d 161 10 _).trans rfl
set_option maxRecDepth 100000 in
set_option maxHeartbeats 4000000 in
theorem mo_allow_e (d : Nat) (v1 v2 : Int) (σ : am_M) (n : Nat) : mo_allow (d + 1) v1 v2 σ n = (mo_isWay d v1 σ n).bind fun q1 => if q1.1 = 0 then ((mo_no d (-1) q1.2.1 q1.2.2).bind fun q2 => some (q2.1, q2.2.1, q2.2.2)) else if v2 = 0 then (am_m (am_wr q1.2.1 82 4 (am_and (q1.2.1 82 4) (am_xor (am_shl 1 v1) (-1)))) fun σ1 => some (am_and (am_shr (q1.2.1 82 4) v1) 1, σ1, q1.2.2)) else am_m (am_wr q1.2.1 82 4 (am_or (q1.2.1 82 4) (am_shl 1 v1))) fun σ2 => some (am_and (am_shr (q1.2.1 82 4) v1) 1, σ2, q1.2.2) := (am_rn_eq true d 162 26 (0, [(110, 82), (0, v1), (0, v2), (9, 0)], [], σ, n)).trans rfl
set_option maxRecDepth 100000 in
set_option maxHeartbeats 4000000 in
theorem pm_refuseFar_e (d : Nat) (v1 : Int) (σ : am_M) (n : Nat) : pm_refuseFar (d + 1) v1 σ n = (pm_refuse d v1 σ n).bind fun q1 => some (am_w (q1.1 - 10), q1.2.1, q1.2.2) := (am_rn_eq true d 163 7 (0, [(109, 0), (0, v1)], [], σ, n)).trans rfl
set_option maxRecDepth 100000 in
set_option maxHeartbeats 4000000 in
theorem pm_isOrder_e (d : Nat) (v0 : Int) (σ : am_M) (n : Nat) : pm_isOrder (d + 1) v0 σ n = if v0 = (-1) then (some (1, σ, n)) else (pm_isColumn d v0 σ n).bind fun q1 => if q1.1 = 0 then (some (0, q1.2.1, q1.2.2)) else some (1, q1.2.1, q1.2.2) := (am_rn_eq true d 164 10 (0, [(0, v0)], [], σ, n)).trans rfl
set_option maxRecDepth 100000 in
set_option maxHeartbeats 4000000 in
theorem pm_isPlace_e (d : Nat) (v0 : Int) (σ : am_M) (n : Nat) : pm_isPlace (d + 1) v0 σ n = (pm_isOrder d v0 σ n).bind fun q1 => if q1.1 = 0 then (if v0 = 4 then (some (1, q1.2.1, q1.2.2)) else some (0, q1.2.1, q1.2.2)) else some (1, q1.2.1, q1.2.2) := (am_rn_eq true d 165 10 (0, [(0, v0)], [], σ, n)).trans rfl
set_option maxRecDepth 100000 in
set_option maxHeartbeats 4000000 in
theorem bo_beginA_e (d : Nat) (v1 : Int) (σ : am_M) (n : Nat) : bo_beginA (d + 1) v1 σ n = if σ 54 2 < 20 then (am_ix 55 (σ 54 2) (am_m (am_wr σ 55 (σ 54 2).toNat v1) fun σ2 => am_m (am_wr σ2 54 2 (am_w (σ2 54 2 + 1))) fun σ3 => some (0, σ3, n))) else am_m (am_wr σ 54 2 (am_w (σ 54 2 + 1))) fun σ1 => some (0, σ1, n) := (am_rn_eq true d 166 18 (0, [(100, 54), (0, v1)], [], σ, n)).trans rfl
set_option maxRecDepth 100000 in
set_option maxHeartbeats 4000000 in
theorem bo_beginB_e (d : Nat) (v1 : Int) (σ : am_M) (n : Nat) : bo_beginB (d + 1) v1 σ n = if σ 38 2 < 20 then (am_ix 39 (σ 38 2) (am_m (am_wr σ 39 (σ 38 2).toNat v1) fun σ2 => am_m (am_wr σ2 38 2 (am_w (σ2 38 2 + 1))) fun σ3 => some (0, σ3, n))) else am_m (am_wr σ 38 2 (am_w (σ 38 2 + 1))) fun σ1 => some (0, σ1, n) := (am_rn_eq true d 166 18 (0, [(100, 38), (0, v1)], [], σ, n)).trans rfl
set_option maxRecDepth 100000 in
set_option maxHeartbeats 4000000 in
theorem bo_digitsOf_e (d : Nat) (v0 : Int) (σ : am_M) (n : Nat) : bo_digitsOf (d + 1) v0 σ n = bo_digitsOf_2 d v0 0 σ n := (am_rn_eq true d 167 3 (0, [(1, v0), (9, 0), (9, 0)], [], σ, n)).trans rfl
set_option maxRecDepth 100000 in
set_option maxHeartbeats 4000000 in
theorem bo_digitsOf_2_e (d : Nat) (v0 v2 : Int) (σ : am_M) (n : Nat) : bo_digitsOf_2 d v0 v2 σ n = if v2 < 63 then (if am_cmp (am_lshr v0 v2) 0 = 0 then (some (v2, σ, n)) else bo_digitsOf_2 d v0 (am_w (v2 + 1)) σ n) else some (v2, σ, n) := (am_rn_eq true d 167 12 _).trans rfl
set_option maxRecDepth 100000 in
set_option maxHeartbeats 4000000 in
theorem bo_endOfA_e (d : Nat) (v1 v2 : Int) (σ : am_M) (n : Nat) : bo_endOfA (d + 1) v1 v2 σ n = if v1 = 10 then (some (σ 54 3, σ, n)) else if v1 = 30 then (some (am_x (v2 + σ 54 4), σ, n)) else if v1 = 31 then (some (am_x (v2 + σ 54 5), σ, n)) else if v1 = 40 then (some (am_x (v2 + σ 54 4), σ, n)) else if v1 = 50 then (some (am_x (v2 + σ 54 5), σ, n)) else if v1 = 60 then (some (am_x (v2 + am_x (σ 54 3 * σ 54 4)), σ, n)) else if v1 = 70 then (some (am_x (v2 + σ 54 5), σ, n)) else if v1 = 80 then (some (am_x (v2 * 2), σ, n)) else if v1 = 100 then ((bo_digitsOf d (σ 54 3) σ n).bind fun q1 => some (am_x (v2 + am_x (σ 54 3 * q1.1)), q1.2.1, q1.2.2)) else some (0, σ, n) := (am_rn_eq true d 168 13 (0, [(100, 54), (0, v1), (1, v2), (9, 0)], [], σ, n)).trans rfl
set_option maxRecDepth 100000 in
set_option maxHeartbeats 4000000 in
theorem bo_endOfB_e (d : Nat) (v1 v2 : Int) (σ : am_M) (n : Nat) : bo_endOfB (d + 1) v1 v2 σ n = if v1 = 10 then (some (σ 38 3, σ, n)) else if v1 = 30 then (some (am_x (v2 + σ 38 4), σ, n)) else if v1 = 31 then (some (am_x (v2 + σ 38 5), σ, n)) else if v1 = 40 then (some (am_x (v2 + σ 38 4), σ, n)) else if v1 = 50 then (some (am_x (v2 + σ 38 5), σ, n)) else if v1 = 60 then (some (am_x (v2 + am_x (σ 38 3 * σ 38 4)), σ, n)) else if v1 = 70 then (some (am_x (v2 + σ 38 5), σ, n)) else if v1 = 80 then (some (am_x (v2 * 2), σ, n)) else if v1 = 100 then ((bo_digitsOf d (σ 38 3) σ n).bind fun q1 => some (am_x (v2 + am_x (σ 38 3 * q1.1)), q1.2.1, q1.2.2)) else some (0, σ, n) := (am_rn_eq true d 168 13 (0, [(100, 38), (0, v1), (1, v2), (9, 0)], [], σ, n)).trans rfl
set_option maxRecDepth 100000 in
set_option maxHeartbeats 4000000 in
theorem bo_runFromA_e (d : Nat) (v1 v2 : Int) (σ : am_M) (n : Nat) : bo_runFromA (d + 1) v1 v2 σ n = bo_runFromA_8 d v2 0 v1 0 σ n := (am_rn_eq true d 169 7 (0, [(100, 54), (0, v1), (21, v2), (9, 0), (9, 0), (9, 0), (9, 0), (9, 0)], [], σ, n)).trans rfl
set_option maxRecDepth 100000 in
set_option maxHeartbeats 4000000 in
theorem bo_runFromA_8_e (d : Nat) (v2 v3 v4 v5 : Int) (σ : am_M) (n : Nat) : bo_runFromA_8 d v2 v3 v4 v5 σ n = if v5 < 12 then (if v4 < 0 then (bo_runFromA_77 d 0 (am_w (v3 - 1)) σ n) else if v4 < 12 then (am_cx v2 v4 (if am_kc v2.toNat v4.toNat = 0 then (am_cx 1002 v4 (bo_runFromA_8 d v2 v3 (am_kc 1002 v4.toNat) (am_w (v5 + 1)) σ n)) else am_cx v2 v4 ((bo_beginA d (am_kc v2.toNat v4.toNat) σ n).bind fun q1 => am_cx v2 v4 (am_ix 56 v3 (am_m (am_wr q1.2.1 56 v3.toNat (am_kc v2.toNat v4.toNat)) fun σ1 => am_cx 1002 v4 (bo_runFromA_8 d v2 (am_w (v3 + 1)) (am_kc 1002 v4.toNat) (am_w (v5 + 1)) σ1 q1.2.2)))))) else bo_runFromA_77 d 0 (am_w (v3 - 1)) σ n) else bo_runFromA_77 d 0 (am_w (v3 - 1)) σ n := (am_rn_eq true d 169 32 _).trans rfl
set_option maxRecDepth 100000 in
set_option maxHeartbeats 4000000 in
theorem bo_runFromA_77_e (d : Nat) (v5 v7 : Int) (σ : am_M) (n : Nat) : bo_runFromA_77 d v5 v7 σ n = if v7 < 0 then (some (v5, σ, n)) else am_ix 56 v7 ((bo_endOfA d (σ 56 v7.toNat) v5 σ n).bind fun q1 => bo_runFromA_77 d q1.1 (am_w (v7 + (-1))) q1.2.1 q1.2.2) := (am_rn_eq true d 169 13 _).trans rfl
set_option maxRecDepth 100000 in
set_option maxHeartbeats 4000000 in
theorem bo_runFromB_e (d : Nat) (v1 v2 : Int) (σ : am_M) (n : Nat) : bo_runFromB (d + 1) v1 v2 σ n = bo_runFromB_8 d v2 0 v1 0 σ n := (am_rn_eq true d 169 7 (0, [(100, 38), (0, v1), (21, v2), (9, 0), (9, 0), (9, 0), (9, 0), (9, 0)], [], σ, n)).trans rfl
set_option maxRecDepth 100000 in
set_option maxHeartbeats 4000000 in
theorem bo_runFromB_8_e (d : Nat) (v2 v3 v4 v5 : Int) (σ : am_M) (n : Nat) : bo_runFromB_8 d v2 v3 v4 v5 σ n = if v5 < 12 then (if v4 < 0 then (bo_runFromB_77 d 0 (am_w (v3 - 1)) σ n) else if v4 < 12 then (am_cx v2 v4 (if am_kc v2.toNat v4.toNat = 0 then (am_cx 1002 v4 (bo_runFromB_8 d v2 v3 (am_kc 1002 v4.toNat) (am_w (v5 + 1)) σ n)) else am_cx v2 v4 ((bo_beginB d (am_kc v2.toNat v4.toNat) σ n).bind fun q1 => am_cx v2 v4 (am_ix 40 v3 (am_m (am_wr q1.2.1 40 v3.toNat (am_kc v2.toNat v4.toNat)) fun σ1 => am_cx 1002 v4 (bo_runFromB_8 d v2 (am_w (v3 + 1)) (am_kc 1002 v4.toNat) (am_w (v5 + 1)) σ1 q1.2.2)))))) else bo_runFromB_77 d 0 (am_w (v3 - 1)) σ n) else bo_runFromB_77 d 0 (am_w (v3 - 1)) σ n := (am_rn_eq true d 169 32 _).trans rfl
set_option maxRecDepth 100000 in
set_option maxHeartbeats 4000000 in
theorem bo_runFromB_77_e (d : Nat) (v5 v7 : Int) (σ : am_M) (n : Nat) : bo_runFromB_77 d v5 v7 σ n = if v7 < 0 then (some (v5, σ, n)) else am_ix 40 v7 ((bo_endOfB d (σ 40 v7.toNat) v5 σ n).bind fun q1 => bo_runFromB_77 d q1.1 (am_w (v7 + (-1))) q1.2.1 q1.2.2) := (am_rn_eq true d 169 13 _).trans rfl
set_option maxRecDepth 100000 in
set_option maxHeartbeats 4000000 in
theorem bo_priceByA_e (d : Nat) (v1 v2 v3 v4 : Int) (σ : am_M) (n : Nat) : bo_priceByA (d + 1) v1 v2 v3 v4 σ n = am_m (am_wr σ 54 3 v2) fun σ1 => am_m (am_wr σ1 54 4 v3) fun σ2 => am_m (am_wr σ2 54 5 v4) fun σ3 => am_m (am_wr σ3 54 2 0) fun σ4 => if v1 = 11 then ((bo_beginA d 110 σ4 n).bind fun q1 => bo_priceByA_36 d v1 q1.2.1 q1.2.2) else bo_priceByA_36 d v1 σ4 n := (am_rn_eq true d 170 22 (0, [(100, 54), (0, v1), (0, v2), (0, v3), (0, v4), (9, 0), (9, 0), (9, 0), (9, 0)], [], σ, n)).trans rfl
set_option maxRecDepth 100000 in
set_option maxHeartbeats 4000000 in
theorem bo_priceByA_36_e (d : Nat) (v1 : Int) (σ : am_M) (n : Nat) : bo_priceByA_36 d v1 σ n = (bo_beginA d 12 σ n).bind fun q1 => (bo_runFromA d v1 1003 q1.2.1 q1.2.2).bind fun q2 => (bo_runFromA d v1 1004 q2.2.1 q2.2.2).bind fun q3 => if v1 = 11 then (some (am_x (am_x (q2.1 + q3.1) * 3), q3.2.1, q3.2.2)) else some (am_x (q2.1 + q3.1), q3.2.1, q3.2.2) := (am_rn_eq true d 170 24 _).trans rfl
set_option maxRecDepth 100000 in
set_option maxHeartbeats 4000000 in
theorem bo_priceByB_e (d : Nat) (v1 v2 v3 v4 : Int) (σ : am_M) (n : Nat) : bo_priceByB (d + 1) v1 v2 v3 v4 σ n = am_m (am_wr σ 38 3 v2) fun σ1 => am_m (am_wr σ1 38 4 v3) fun σ2 => am_m (am_wr σ2 38 5 v4) fun σ3 => am_m (am_wr σ3 38 2 0) fun σ4 => if v1 = 11 then ((bo_beginB d 110 σ4 n).bind fun q1 => bo_priceByB_36 d v1 q1.2.1 q1.2.2) else bo_priceByB_36 d v1 σ4 n := (am_rn_eq true d 170 22 (0, [(100, 38), (0, v1), (0, v2), (0, v3), (0, v4), (9, 0), (9, 0), (9, 0), (9, 0)], [], σ, n)).trans rfl
set_option maxRecDepth 100000 in
set_option maxHeartbeats 4000000 in
theorem bo_priceByB_36_e (d : Nat) (v1 : Int) (σ : am_M) (n : Nat) : bo_priceByB_36 d v1 σ n = (bo_beginB d 12 σ n).bind fun q1 => (bo_runFromB d v1 1003 q1.2.1 q1.2.2).bind fun q2 => (bo_runFromB d v1 1004 q2.2.1 q2.2.2).bind fun q3 => if v1 = 11 then (some (am_x (am_x (q2.1 + q3.1) * 3), q3.2.1, q3.2.2)) else some (am_x (q2.1 + q3.1), q3.2.1, q3.2.2) := (am_rn_eq true d 170 24 _).trans rfl
set_option maxRecDepth 100000 in
set_option maxHeartbeats 4000000 in
theorem wa_reckonPricesOf_e (d : Nat) (v1 : Int) (σ : am_M) (n : Nat) : wa_reckonPricesOf (d + 1) v1 σ n = am_ix 9 v1 ((si_rowsOf d (σ 9 v1.toNat) σ n).bind fun q1 => am_ix 5 v1 (if q1.2.1 5 v1.toNat = 1 then (wa_reckonPricesOf_50 d v1 q1.1 q1.1 q1.2.1 q1.2.2) else am_ix 7 v1 ((si_rowsOf d (q1.2.1 7 v1.toNat) q1.2.1 q1.2.2).bind fun q2 => wa_reckonPricesOf_50 d v1 q1.1 q2.1 q2.2.1 q2.2.2))) := (am_rn_eq true d 171 25 (0, [(108, 37), (0, v1), (9, 0), (9, 0), (9, 0), (9, 0), (9, 0)], [], σ, n)).trans rfl
set_option maxRecDepth 100000 in
set_option maxHeartbeats 4000000 in
theorem wa_reckonPricesOf_50_e (d : Nat) (v1 v2 s0 : Int) (σ : am_M) (n : Nat) : wa_reckonPricesOf_50 d v1 v2 s0 σ n = am_ix 8 v1 ((si_rowsOf d (σ 8 v1.toNat) σ n).bind fun q1 => am_ix 5 v1 (wa_reckonPricesOf_83 d v1 v2 s0 q1.1 (q1.2.1 5 v1.toNat) 0 q1.2.1 q1.2.2)) := (am_rn_eq true d 171 19 _).trans rfl
set_option maxRecDepth 100000 in
set_option maxHeartbeats 4000000 in
theorem wa_reckonPricesOf_83_e (d : Nat) (v1 v2 v3 v4 v5 v6 : Int) (σ : am_M) (n : Nat) : wa_reckonPricesOf_83 d v1 v2 v3 v4 v5 v6 σ n = am_cx 1006 v5 (if v6 < am_w (Int.tdiv (am_w (am_kc 1006 v5.toNat + 1)) 2) then (am_cx 1005 v5 ((bo_priceByB d (am_w (am_kc 1005 v5.toNat + v6)) v3 v4 v2 σ n).bind fun q1 => am_ix 41 (am_w (am_w (v1 * 3) + v6)) (am_m (am_wr q1.2.1 41 (am_w (am_w (v1 * 3) + v6)).toNat q1.1) fun σ1 => wa_reckonPricesOf_83 d v1 v2 v3 v4 v5 (am_w (v6 + 1)) σ1 q1.2.2))) else some (0, σ, n)) := (am_rn_eq true d 171 31 _).trans rfl
set_option maxRecDepth 100000 in
set_option maxHeartbeats 4000000 in
theorem wa_reckonPrices_e (d : Nat) (σ : am_M) (n : Nat) : wa_reckonPrices (d + 1) σ n = (si_refresh d σ n).bind fun q1 => wa_reckonPrices_9 d 0 q1.2.1 q1.2.2 := (am_rn_eq true d 172 6 (0, [(108, 37), (9, 0), (9, 0)], [], σ, n)).trans rfl
set_option maxRecDepth 100000 in
set_option maxHeartbeats 4000000 in
theorem wa_reckonPrices_9_e (d : Nat) (v1 : Int) (σ : am_M) (n : Nat) : wa_reckonPrices_9 d v1 σ n = if v1 < σ 2 3 then ((me_isGone d v1 σ n).bind fun q1 => if q1.1 = 0 then ((wa_reckonPricesOf d v1 q1.2.1 q1.2.2).bind fun q2 => wa_reckonPrices_9 d (am_w (v1 + 1)) q2.2.1 q2.2.2) else wa_reckonPrices_9 d (am_w (v1 + 1)) q1.2.1 q1.2.2) else wa_reckonPrices_44 d 0 σ n := (am_rn_eq true d 172 16 _).trans rfl
set_option maxRecDepth 100000 in
set_option maxHeartbeats 4000000 in
theorem wa_reckonPrices_44_e (d : Nat) (v1 : Int) (σ : am_M) (n : Nat) : wa_reckonPrices_44 d v1 σ n = if v1 < σ 2 9 then ((me_root d v1 σ n).bind fun q1 => (si_rowsOf d q1.1 q1.2.1 q1.2.2).bind fun q2 => (bo_priceByB d 10 q2.1 0 q2.1 q2.2.1 q2.2.2).bind fun q3 => am_ix 42 (am_w (v1 * 2)) (am_m (am_wr q3.2.1 42 (am_w (v1 * 2)).toNat q3.1) fun σ1 => (bo_priceByB d 11 q2.1 0 q2.1 σ1 q3.2.2).bind fun q4 => am_ix 42 (am_w (am_w (v1 * 2) + 1)) (am_m (am_wr q4.2.1 42 (am_w (am_w (v1 * 2) + 1)).toNat q4.1) fun σ2 => wa_reckonPrices_44 d (am_w (v1 + 1)) σ2 q4.2.2))) else some (0, σ, n) := (am_rn_eq true d 172 44 _).trans rfl
set_option maxRecDepth 100000 in
set_option maxHeartbeats 4000000 in
theorem co_prepare_e (d : Nat) (v1 : Int) (σ : am_M) (n : Nat) : co_prepare (d + 1) v1 σ n = if σ 33 6 = σ 2 17 then (if σ 37 5 = v1 then (some (0, σ, n)) else if σ 33 6 = σ 2 17 then (co_prepare_47 d v1 σ n) else (wa_reckonPrices d σ n).bind fun q2 => co_prepare_47 d v1 q2.2.1 q2.2.2) else if σ 33 6 = σ 2 17 then (co_prepare_47 d v1 σ n) else (wa_reckonPrices d σ n).bind fun q1 => co_prepare_47 d v1 q1.2.1 q1.2.2 := (am_rn_eq true d 173 21 (0, [(101, 33), (0, v1)], [], σ, n)).trans rfl
set_option maxRecDepth 100000 in
set_option maxHeartbeats 4000000 in
theorem co_prepare_47_e (d : Nat) (v1 : Int) (σ : am_M) (n : Nat) : co_prepare_47 d v1 σ n = (ar_fill2 d 34 (-1) σ n).bind fun q1 => am_m (am_wr q1.2.1 33 6 (q1.2.1 2 17)) fun σ1 => am_m (am_wr σ1 37 5 v1) fun σ2 => some (0, σ2, q1.2.2) := (am_rn_eq true d 173 15 _).trans rfl
set_option maxRecDepth 100000 in
set_option maxHeartbeats 4000000 in
theorem pm_demandOf_e (d : Nat) (v0 v1 v2 : Int) (σ : am_M) (n : Nat) : pm_demandOf (d + 1) v0 v1 v2 σ n = some (am_w (am_w (am_w (am_w (v0 * 30) + am_w (am_w (v1 + 1) * 6)) + v2) + 1), σ, n) := (am_rn_eq true d 174 15 (0, [(0, v0), (0, v1), (0, v2)], [], σ, n)).trans rfl
set_option maxRecDepth 100000 in
set_option maxHeartbeats 4000000 in
theorem co_listIfUnknown_e (d : Nat) (v1 : Int) (σ : am_M) (n : Nat) : co_listIfUnknown (d + 1) v1 σ n = if v1 = (-1) then (some (0, σ, n)) else am_ix 34 v1 (if am_cmp (σ 34 v1.toNat) (-1) = 0 then (if σ 33 5 < 1920 then (am_ix 34 v1 (am_m (am_wr σ 34 v1.toNat 1000000000001) fun σ1 => am_ix 35 (σ1 33 5) (am_m (am_wr σ1 35 (σ1 33 5).toNat v1) fun σ2 => am_m (am_wr σ2 33 5 (am_w (σ2 33 5 + 1))) fun σ3 => some (0, σ3, n)))) else some (0, σ, n)) else some (0, σ, n)) := (am_rn_eq true d 175 33 (0, [(101, 33), (0, v1)], [], σ, n)).trans rfl
set_option maxRecDepth 100000 in
set_option maxHeartbeats 4000000 in
theorem wa_beginAll_e (d : Nat) (v1 : Int) (σ : am_M) (n : Nat) : wa_beginAll (d + 1) v1 σ n = am_m (am_wr σ 37 6 (am_w (Int.tdiv v1 30))) fun σ1 => am_m (am_wr σ1 37 7 (am_w (am_w (Int.tdiv (Int.tmod v1 30) 6) - 1))) fun σ2 => am_m (am_wr σ2 37 8 (am_w (Int.tmod v1 6 - 1))) fun σ3 => (me_memberFrom d (σ3 37 6) 0 σ3 n).bind fun q1 => am_m (am_wr q1.2.1 37 9 q1.1) fun σ4 => am_m (am_wr σ4 37 10 0) fun σ5 => some (0, σ5, q1.2.2) := (am_rn_eq true d 176 34 (0, [(108, 37), (0, v1)], [], σ, n)).trans rfl
set_option maxRecDepth 100000 in
set_option maxHeartbeats 4000000 in
theorem wa_isAllowed_e (d : Nat) (v1 : Int) (σ : am_M) (n : Nat) : wa_isAllowed (d + 1) v1 σ n = if am_and (am_shr (σ 37 5) v1) 1 = 1 then (some (1, σ, n)) else some (0, σ, n) := (am_rn_eq true d 177 12 (0, [(108, 37), (0, v1)], [], σ, n)).trans rfl
set_option maxRecDepth 100000 in
set_option maxHeartbeats 4000000 in
theorem wa_offersSort_e (d : Nat) (σ : am_M) (n : Nat) : wa_offersSort (d + 1) σ n = am_m (am_wr σ 37 11 10) fun σ1 => am_m (am_wr σ1 37 12 (-1)) fun σ2 => (pm_demandOf d (σ2 37 6) (-1) (σ2 37 8) σ2 n).bind fun q1 => am_m (am_wr q1.2.1 37 13 q1.1) fun σ3 => am_m (am_wr σ3 37 14 (-1)) fun σ4 => am_ix 42 (am_w (σ4 37 6 * 2)) (am_m (am_wr σ4 37 15 (σ4 42 (am_w (σ4 37 6 * 2)).toNat)) fun σ5 => (wa_isAllowed d 10 σ5 q1.2.2).bind fun q2 => if q2.1 = 0 then (some (0, q2.2.1, q2.2.2)) else (me_columnsOf d (q2.2.1 37 6) q2.2.1 q2.2.2).bind fun q3 => (pm_hasColumn d q3.1 (q3.2.1 37 7) q3.2.1 q3.2.2).bind fun q4 => if q4.1 = 0 then (some (0, q4.2.1, q4.2.2)) else some (1, q4.2.1, q4.2.2)) := (am_rn_eq true d 178 43 (0, [(108, 37)], [], σ, n)).trans rfl
set_option maxRecDepth 100000 in
set_option maxHeartbeats 4000000 in
theorem wa_offersShip_e (d : Nat) (σ : am_M) (n : Nat) : wa_offersShip (d + 1) σ n = am_m (am_wr σ 37 11 11) fun σ1 => am_m (am_wr σ1 37 12 (-1)) fun σ2 => (pm_demandOf d (σ2 37 6) (-1) (-1) σ2 n).bind fun q1 => am_m (am_wr q1.2.1 37 13 q1.1) fun σ3 => am_m (am_wr σ3 37 14 (-1)) fun σ4 => am_ix 42 (am_w (am_w (σ4 37 6 * 2) + 1)) (am_m (am_wr σ4 37 15 (σ4 42 (am_w (am_w (σ4 37 6 * 2) + 1)).toNat)) fun σ5 => if σ5 37 8 = 4 then (wa_offersShip_80 d 1 σ5 q1.2.2) else (me_columnsOf d (σ5 37 6) σ5 q1.2.2).bind fun q2 => (pm_hasColumn d q2.1 (q2.2.1 37 8) q2.2.1 q2.2.2).bind fun q3 => if q3.1 = 0 then (wa_offersShip_80 d 0 q3.2.1 q3.2.2) else wa_offersShip_80 d 1 q3.2.1 q3.2.2) := (am_rn_eq true d 179 43 (0, [(108, 37), (9, 0)], [], σ, n)).trans rfl
set_option maxRecDepth 100000 in
set_option maxHeartbeats 4000000 in
theorem wa_offersShip_80_e (d : Nat) (s0 : Int) (σ : am_M) (n : Nat) : wa_offersShip_80 d s0 σ n = (wa_isAllowed d 11 σ n).bind fun q1 => if q1.1 = 0 then (some (0, q1.2.1, q1.2.2)) else if q1.2.1 37 7 = (-1) then (if s0 = 0 then (some (0, q1.2.1, q1.2.2)) else some (1, q1.2.1, q1.2.2)) else some (0, q1.2.1, q1.2.2) := (am_rn_eq true d 179 15 _).trans rfl
set_option maxRecDepth 100000 in
set_option maxHeartbeats 4000000 in
theorem pm_meets_e (d : Nat) (v0 v1 : Int) (σ : am_M) (n : Nat) : pm_meets (d + 1) v0 v1 σ n = if v1 = (-1) then (some (1, σ, n)) else if v1 = v0 then (some (1, σ, n)) else some (0, σ, n) := (am_rn_eq true d 180 10 (0, [(0, v0), (0, v1)], [], σ, n)).trans rfl
set_option maxRecDepth 100000 in
set_option maxHeartbeats 4000000 in
theorem wa_offersSingle_e (d : Nat) (σ : am_M) (n : Nat) : wa_offersSingle (d + 1) σ n = am_ix 6 (σ 37 9) (am_m (am_wr σ 37 12 (-1)) fun σ1 => am_m (am_wr σ1 37 14 (-1)) fun σ2 => am_ix 41 (am_w (σ2 37 9 * 3)) (am_m (am_wr σ2 37 15 (σ2 41 (am_w (σ2 37 9 * 3)).toNat)) fun σ3 => am_ix 5 (σ3 37 9) (if σ3 5 (σ3 37 9).toNat = 1 then (am_m (am_wr σ3 37 11 1) fun σ6 => am_m (am_wr σ6 37 13 (-1)) fun σ7 => (wa_isAllowed d 1 σ7 n).bind fun q3 => if q3.1 = 0 then (some (0, q3.2.1, q3.2.2)) else (me_factOfTable d (σ 6 (σ 37 9).toNat) 2 q3.2.1 q3.2.2).bind fun q4 => (pm_meets d q4.1 (q4.2.1 37 7) q4.2.1 q4.2.2).bind fun q5 => if q5.1 = 0 then (some (0, q5.2.1, q5.2.2)) else (me_factOfTable d (σ 6 (σ 37 9).toNat) 3 q5.2.1 q5.2.2).bind fun q6 => (pm_meets d q6.1 (q6.2.1 37 8) q6.2.1 q6.2.2).bind fun q7 => if q7.1 = 0 then (some (0, q7.2.1, q7.2.2)) else some (1, q7.2.1, q7.2.2)) else am_m (am_wr σ3 37 11 2) fun σ4 => am_ix 7 (σ4 37 9) ((pm_demandOf d (σ4 7 (σ4 37 9).toNat) (σ4 37 7) (σ4 37 8) σ4 n).bind fun q1 => am_m (am_wr q1.2.1 37 13 q1.1) fun σ5 => (wa_isAllowed d 2 σ5 q1.2.2).bind fun q2 => am_if (q2.1 = 0 ∨ q2.1 = 1) (some (q2.1, q2.2.1, q2.2.2)))))) := (am_rn_eq true d 181 62 (0, [(108, 37), (9, 0)], [], σ, n)).trans rfl
set_option maxRecDepth 100000 in
set_option maxHeartbeats 4000000 in
theorem wa_offersAt_e (d : Nat) (v1 : Int) (σ : am_M) (n : Nat) : wa_offersAt (d + 1) v1 σ n = am_ix 6 (σ 37 9) (am_ix 5 (σ 37 9) (am_cx 1005 (σ 5 (σ 37 9).toNat) (am_m (am_wr σ 37 11 (am_w (am_kc 1005 (σ 5 (σ 37 9).toNat).toNat + am_w (Int.tdiv v1 2)))) fun σ1 => if Int.tmod v1 2 = 0 then (wa_offersAt_49 d v1 (σ 6 (σ 37 9).toNat) (σ 6 (σ 37 9).toNat) σ1 n) else wa_offersAt_49 d v1 (σ 6 (σ 37 9).toNat) 4 σ1 n))) := (am_rn_eq true d 182 29 (0, [(108, 37), (0, v1), (9, 0), (9, 0), (9, 0)], [], σ, n)).trans rfl
set_option maxRecDepth 100000 in
set_option maxHeartbeats 4000000 in
theorem wa_offersAt_49_e (d : Nat) (v1 v2 s1 : Int) (σ : am_M) (n : Nat) : wa_offersAt_49 d v1 v2 s1 σ n = am_m (am_wr σ 37 12 s1) fun σ1 => if σ1 37 11 = 4 then (wa_offersAt_69 d v1 v2 σ1 n) else if σ1 37 11 = 8 then (wa_offersAt_69 d v1 v2 σ1 n) else if σ1 37 11 = 6 then (wa_offersAt_93 d v1 v2 0 0 σ1 n) else wa_offersAt_93 d v1 v2 0 1 σ1 n := (am_rn_eq true d 182 20 _).trans rfl
set_option maxRecDepth 100000 in
set_option maxHeartbeats 4000000 in
theorem wa_offersAt_69_e (d : Nat) (v1 v2 : Int) (σ : am_M) (n : Nat) : wa_offersAt_69 d v1 v2 σ n = wa_offersAt_93 d v1 v2 1 0 σ n := (am_rn_eq true d 182 7 _).trans rfl
set_option maxRecDepth 100000 in
set_option maxHeartbeats 4000000 in
theorem wa_offersAt_93_e (d : Nat) (v1 v2 v3 s0 : Int) (σ : am_M) (n : Nat) : wa_offersAt_93 d v1 v2 v3 s0 σ n = (wa_isAllowed d (σ 37 11) σ n).bind fun q1 => if q1.1 = 0 then (some (0, q1.2.1, q1.2.2)) else (pm_meets d (q1.2.1 37 12) (q1.2.1 37 8) q1.2.1 q1.2.2).bind fun q2 => if q2.1 = 0 then (some (0, q2.2.1, q2.2.2)) else if v3 = 0 then (if s0 = 0 then (wa_offersAt_150 d v1 v2 s0 q2.2.1 q2.2.2) else (pm_meets d v2 (q2.2.1 37 7) q2.2.1 q2.2.2).bind fun q3 => if q3.1 = 0 then (some (0, q3.2.1, q3.2.2)) else wa_offersAt_150 d v1 v2 s0 q3.2.1 q3.2.2) else if q2.2.1 37 7 = (-1) then (if s0 = 0 then (wa_offersAt_150 d v1 v2 s0 q2.2.1 q2.2.2) else (pm_meets d v2 (q2.2.1 37 7) q2.2.1 q2.2.2).bind fun q4 => if q4.1 = 0 then (some (0, q4.2.1, q4.2.2)) else wa_offersAt_150 d v1 v2 s0 q4.2.1 q4.2.2) else some (0, q2.2.1, q2.2.2) := (am_rn_eq true d 182 28 _).trans rfl
set_option maxRecDepth 100000 in
set_option maxHeartbeats 4000000 in
theorem wa_offersAt_150_e (d : Nat) (v1 v2 v4 : Int) (σ : am_M) (n : Nat) : wa_offersAt_150 d v1 v2 v4 σ n = am_ix 7 (σ 37 9) (if v4 = 0 then (wa_offersAt_176 d v1 v2 v4 (σ 7 (σ 37 9).toNat) (σ 37 7) σ n) else wa_offersAt_176 d v1 v2 v4 (σ 7 (σ 37 9).toNat) v2 σ n) := (am_rn_eq true d 182 12 _).trans rfl
set_option maxRecDepth 100000 in
set_option maxHeartbeats 4000000 in
theorem wa_offersAt_176_e (d : Nat) (v1 v2 v4 s1 s2 : Int) (σ : am_M) (n : Nat) : wa_offersAt_176 d v1 v2 v4 s1 s2 σ n = (pm_demandOf d s1 s2 (σ 37 12) σ n).bind fun q1 => am_m (am_wr q1.2.1 37 13 q1.1) fun σ1 => am_ix 8 (σ1 37 9) (if σ1 8 (σ1 37 9).toNat = (-1) then (wa_offersAt_236 d v1 (-1) σ1 q1.2.2) else am_ix 8 (σ1 37 9) (if v4 = 0 then ((pm_demandOf d (σ1 8 (σ1 37 9).toNat) (-1) (σ1 37 12) σ1 q1.2.2).bind fun q2 => wa_offersAt_236 d v1 q2.1 q2.2.1 q2.2.2) else (pm_demandOf d (σ1 8 (σ1 37 9).toNat) v2 (σ1 37 12) σ1 q1.2.2).bind fun q3 => wa_offersAt_236 d v1 q3.1 q3.2.1 q3.2.2)) := (am_rn_eq true d 182 27 _).trans rfl
set_option maxRecDepth 100000 in
set_option maxHeartbeats 4000000 in
theorem wa_offersAt_236_e (d : Nat) (v1 s1 : Int) (σ : am_M) (n : Nat) : wa_offersAt_236 d v1 s1 σ n = am_m (am_wr σ 37 14 s1) fun σ1 => am_ix 41 (am_w (am_w (σ1 37 9 * 3) + am_w (Int.tdiv v1 2))) (am_m (am_wr σ1 37 15 (σ1 41 (am_w (am_w (σ1 37 9 * 3) + am_w (Int.tdiv v1 2))).toNat)) fun σ2 => some (1, σ2, n)) := (am_rn_eq true d 182 17 _).trans rfl
set_option maxRecDepth 100000 in
set_option maxHeartbeats 4000000 in
theorem wa_advance_e (d : Nat) (σ : am_M) (n : Nat) : wa_advance (d + 1) σ n = wa_advance_2 d 0 σ n := (am_rn_eq true d 183 3 (0, [(108, 37), (9, 0), (9, 0)], [], σ, n)).trans rfl
set_option maxRecDepth 100000 in
set_option maxHeartbeats 4000000 in
theorem wa_advance_2_e (d : Nat) (v1 : Int) (σ : am_M) (n : Nat) : wa_advance_2 d v1 σ n = if v1 < 1000 then (am_m (am_wr σ 37 10 (am_w (σ 37 10 + 1))) fun σ1 => if σ1 37 9 < σ1 2 3 then (am_ix 5 (σ1 37 9) (am_cx 1006 (σ1 5 (σ1 37 9).toNat) (if σ 37 10 < am_kc 1006 (σ1 5 (σ1 37 9).toNat).toNat then (am_ix 5 (σ1 37 9) (if σ1 5 (σ1 37 9).toNat = 1 then ((wa_offersSingle d σ1 n).bind fun q1 => if q1.1 = 0 then (wa_advance_2 d (am_w (v1 + 1)) q1.2.1 q1.2.2) else some (1, q1.2.1, q1.2.2)) else am_ix 5 (σ1 37 9) (if σ1 5 (σ1 37 9).toNat = 3 then ((wa_offersSingle d σ1 n).bind fun q3 => if q3.1 = 0 then (wa_advance_2 d (am_w (v1 + 1)) q3.2.1 q3.2.2) else some (1, q3.2.1, q3.2.2)) else (wa_offersAt d (σ 37 10) σ1 n).bind fun q2 => if q2.1 = 0 then (wa_advance_2 d (am_w (v1 + 1)) q2.2.1 q2.2.2) else some (1, q2.2.1, q2.2.2)))) else (me_memberFrom d (σ1 37 6) (am_w (σ1 37 9 + 1)) σ1 n).bind fun q4 => am_m (am_wr q4.2.1 37 9 q4.1) fun σ2 => am_m (am_wr σ2 37 10 0) fun σ3 => wa_advance_2 d (am_w (v1 + 1)) σ3 q4.2.2))) else if 1 < σ 37 10 then (some (0, σ1, n)) else if σ 37 10 = 0 then ((wa_offersSort d σ1 n).bind fun q6 => if q6.1 = 0 then (wa_advance_2 d (am_w (v1 + 1)) q6.2.1 q6.2.2) else some (1, q6.2.1, q6.2.2)) else (wa_offersShip d σ1 n).bind fun q5 => if q5.1 = 0 then (wa_advance_2 d (am_w (v1 + 1)) q5.2.1 q5.2.2) else some (1, q5.2.1, q5.2.2)) else some (0, σ, n) := (am_rn_eq true d 183 51 _).trans rfl
set_option maxRecDepth 100000 in
set_option maxHeartbeats 4000000 in
theorem co_listUnknown_e (d : Nat) (v1 : Int) (σ : am_M) (n : Nat) : co_listUnknown (d + 1) v1 σ n = am_m (am_wr σ 33 5 0) fun σ1 => (co_listIfUnknown d v1 σ1 n).bind fun q1 => co_listUnknown_12 d 0 q1.2.1 q1.2.2 := (am_rn_eq true d 184 9 (0, [(101, 33), (0, v1), (9, 0), (9, 0)], [], σ, n)).trans rfl
set_option maxRecDepth 100000 in
set_option maxHeartbeats 4000000 in
theorem co_listUnknown_12_e (d : Nat) (v2 : Int) (σ : am_M) (n : Nat) : co_listUnknown_12 d v2 σ n = if v2 < σ 33 5 then (if v2 < 1920 then (am_ix 35 v2 ((wa_beginAll d (σ 35 v2.toNat) σ n).bind fun q1 => co_listUnknown_42 d v2 0 q1.2.1 q1.2.2)) else some (0, σ, n)) else some (0, σ, n) := (am_rn_eq true d 184 17 _).trans rfl
set_option maxRecDepth 100000 in
set_option maxHeartbeats 4000000 in
theorem co_listUnknown_42_e (d : Nat) (v2 v3 : Int) (σ : am_M) (n : Nat) : co_listUnknown_42 d v2 v3 σ n = if v3 < 1000 then ((wa_advance d σ n).bind fun q1 => if q1.1 = 0 then (co_listUnknown_12 d (am_w (v2 + 1)) q1.2.1 q1.2.2) else (co_listIfUnknown d (q1.2.1 37 13) q1.2.1 q1.2.2).bind fun q2 => (co_listIfUnknown d (q2.2.1 37 14) q2.2.1 q2.2.2).bind fun q3 => co_listUnknown_42 d v2 (am_w (v3 + 1)) q3.2.1 q3.2.2) else co_listUnknown_12 d (am_w (v2 + 1)) σ n := (am_rn_eq true d 184 20 _).trans rfl
set_option maxRecDepth 100000 in
set_option maxHeartbeats 4000000 in
theorem co_inputCost_e (d : Nat) (v1 : Int) (σ : am_M) (n : Nat) : co_inputCost (d + 1) v1 σ n = if v1 = (-1) then (some (0, σ, n)) else am_ix 34 v1 (if am_cmp (σ 34 v1.toNat) (-1) = 0 then (some (1000000000001, σ, n)) else am_ix 34 v1 (some (σ 34 v1.toNat, σ, n))) := (am_rn_eq true d 185 16 (0, [(101, 33), (0, v1)], [], σ, n)).trans rfl
set_option maxRecDepth 100000 in
set_option maxHeartbeats 4000000 in
theorem co_costOfWay_e (d : Nat) (σ : am_M) (n : Nat) : co_costOfWay (d + 1) σ n = (co_inputCost d (σ 37 13) σ n).bind fun q1 => (co_inputCost d (q1.2.1 37 14) q1.2.1 q1.2.2).bind fun q2 => some (am_mn (am_x (am_x (σ 37 15 + q1.1) + q2.1)) 1000000000001, q2.2.1, q2.2.2) := (am_rn_eq true d 186 21 (0, [(101, 33), (9, 0), (9, 0)], [], σ, n)).trans rfl
set_option maxRecDepth 100000 in
set_option maxHeartbeats 4000000 in
theorem co_cheapestOf_e (d : Nat) (v1 : Int) (σ : am_M) (n : Nat) : co_cheapestOf (d + 1) v1 σ n = (wa_beginAll d v1 σ n).bind fun q1 => co_cheapestOf_15 d 1000000000001 0 q1.2.1 q1.2.2 := (am_rn_eq true d 187 9 (0, [(101, 33), (0, v1), (9, 0), (9, 0), (9, 0)], [], σ, n)).trans rfl
set_option maxRecDepth 100000 in
set_option maxHeartbeats 4000000 in
theorem co_cheapestOf_15_e (d : Nat) (v2 v4 : Int) (σ : am_M) (n : Nat) : co_cheapestOf_15 d v2 v4 σ n = if v4 < 1000 then ((wa_advance d σ n).bind fun q1 => if q1.1 = 0 then (some (v2, q1.2.1, q1.2.2)) else (co_costOfWay d q1.2.1 q1.2.2).bind fun q2 => co_cheapestOf_15 d (am_mn v2 q2.1) (am_w (v4 + 1)) q2.2.1 q2.2.2) else some (v2, σ, n) := (am_rn_eq true d 187 15 _).trans rfl
set_option maxRecDepth 100000 in
set_option maxHeartbeats 4000000 in
theorem co_lowerAll_e (d : Nat) (σ : am_M) (n : Nat) : co_lowerAll (d + 1) σ n = co_lowerAll_4 d 1 0 σ n := (am_rn_eq true d 188 5 (0, [(101, 33), (9, 0), (9, 0), (9, 0), (9, 0), (9, 0)], [], σ, n)).trans rfl
set_option maxRecDepth 100000 in
set_option maxHeartbeats 4000000 in
theorem co_lowerAll_4_e (d : Nat) (v1 v2 : Int) (σ : am_M) (n : Nat) : co_lowerAll_4 d v1 v2 σ n = if v1 = 0 then (some (0, σ, n)) else if σ 33 5 < v2 then (some (0, σ, n)) else co_lowerAll_25 d 0 v2 (am_w (σ 33 5 - 1)) σ n := (am_rn_eq true d 188 14 _).trans rfl
set_option maxRecDepth 100000 in
set_option maxHeartbeats 4000000 in
theorem co_lowerAll_25_e (d : Nat) (v1 v2 v3 : Int) (σ : am_M) (n : Nat) : co_lowerAll_25 d v1 v2 v3 σ n = if v3 < 0 then (co_lowerAll_4 d v1 (am_w (v2 + 1)) σ n) else am_ix 35 v3 ((co_cheapestOf d (σ 35 v3.toNat) σ n).bind fun q1 => am_ix 35 v3 (am_ix 34 (q1.2.1 35 v3.toNat) (if am_cmp q1.1 (q1.2.1 34 (q1.2.1 35 v3.toNat).toNat) < 0 then (am_ix 35 v3 (am_ix 34 (q1.2.1 35 v3.toNat) (am_m (am_wr q1.2.1 34 (q1.2.1 35 v3.toNat).toNat q1.1) fun σ1 => co_lowerAll_25 d 1 v2 (am_w (v3 + (-1))) σ1 q1.2.2))) else co_lowerAll_25 d v1 v2 (am_w (v3 + (-1))) q1.2.1 q1.2.2))) := (am_rn_eq true d 188 32 _).trans rfl
set_option maxRecDepth 100000 in
set_option maxHeartbeats 4000000 in
theorem co_costOf_e (d : Nat) (v1 : Int) (σ : am_M) (n : Nat) : co_costOf (d + 1) v1 σ n = am_ix 34 v1 (if am_cmp (σ 34 v1.toNat) (-1) = 0 then ((co_listUnknown d v1 σ n).bind fun q1 => (co_lowerAll d q1.2.1 q1.2.2).bind fun q2 => am_ix 34 v1 (some (q2.2.1 34 v1.toNat, q2.2.1, q2.2.2))) else am_ix 34 v1 (some (σ 34 v1.toNat, σ, n))) := (am_rn_eq true d 189 18 (0, [(101, 33), (0, v1)], [], σ, n)).trans rfl
set_option maxRecDepth 100000 in
set_option maxHeartbeats 4000000 in
theorem pm_orNone_e (d : Nat) (v0 : Int) (σ : am_M) (n : Nat) : pm_orNone (d + 1) v0 σ n = if 0 < am_cmp v0 1000000000000 then (some ((-1), σ, n)) else some (v0, σ, n) := (am_rn_eq true d 190 8 (0, [(1, v0), (9, 0)], [], σ, n)).trans rfl
set_option maxRecDepth 100000 in
set_option maxHeartbeats 4000000 in
theorem pm_cost_e (d : Nat) (v1 v2 v3 : Int) (σ : am_M) (n : Nat) : pm_cost (d + 1) v1 v2 v3 σ n = (me_isGroup d v1 σ n).bind fun q1 => if q1.1 = 0 then ((pm_refuseFar d 1 q1.2.1 q1.2.2).bind fun q11 => some (q11.1, q11.2.1, q11.2.2)) else (pm_isOrder d v2 q1.2.1 q1.2.2).bind fun q2 => if q2.1 = 0 then ((pm_refuseFar d 6 q2.2.1 q2.2.2).bind fun q3 => some (q3.1, q3.2.1, q3.2.2)) else (pm_isPlace d v3 q2.2.1 q2.2.2).bind fun q4 => if q4.1 = 0 then ((pm_refuseFar d 6 q4.2.1 q4.2.2).bind fun q10 => some (q10.1, q10.2.1, q10.2.2)) else (co_prepare d (q4.2.1 2 15) q4.2.1 q4.2.2).bind fun q5 => (me_root d v1 q5.2.1 q5.2.2).bind fun q6 => (pm_demandOf d q6.1 v2 v3 q6.2.1 q6.2.2).bind fun q7 => (co_costOf d q7.1 q7.2.1 q7.2.2).bind fun q8 => (pm_orNone d q8.1 q8.2.1 q8.2.2).bind fun q9 => some (q9.1, q9.2.1, q9.2.2) := (am_rn_eq true d 191 30 (0, [(109, 0), (0, v1), (0, v2), (0, v3)], [], σ, n)).trans rfl
set_option maxRecDepth 100000 in
set_option maxHeartbeats 4000000 in
theorem mo_noTen_e (d : Nat) (v1 : Int) (σ : am_M) (n : Nat) : mo_noTen (d + 1) v1 σ n = am_ix 83 (am_w (-v1)) (am_ix 83 (am_w (-v1)) (am_m (am_wr σ 83 (am_w (-v1)).toNat (am_w (σ 83 (am_w (-v1)).toNat + 1))) fun σ1 => some (am_w (v1 - 10), σ1, n))) := (am_rn_eq true d 192 14 (0, [(110, 82), (0, v1)], [], σ, n)).trans rfl
set_option maxRecDepth 100000 in
set_option maxHeartbeats 4000000 in
theorem mo_isDemand_e (d : Nat) (v1 v2 : Int) (σ : am_M) (n : Nat) : mo_isDemand (d + 1) v1 v2 σ n = (mo_isFrom d v1 (-1) 3 σ n).bind fun q1 => if q1.1 = 0 then (some (0, q1.2.1, q1.2.2)) else (mo_isFrom d v2 (-1) 4 q1.2.1 q1.2.2).bind fun q2 => if q2.1 = 0 then (some (0, q2.2.1, q2.2.2)) else some (1, q2.2.1, q2.2.2) := (am_rn_eq true d 193 16 (0, [(110, 82), (0, v1), (0, v2)], [], σ, n)).trans rfl
set_option maxRecDepth 100000 in
set_option maxHeartbeats 4000000 in
theorem mo_meets_e (d : Nat) (v0 v1 : Int) (σ : am_M) (n : Nat) : mo_meets (d + 1) v0 v1 σ n = if v0 = (-1) then (some (1, σ, n)) else if v0 = v1 then (some (1, σ, n)) else some (0, σ, n) := (am_rn_eq true d 194 10 (0, [(0, v0), (0, v1)], [], σ, n)).trans rfl
set_option maxRecDepth 100000 in
set_option maxHeartbeats 4000000 in
theorem mo_runs_e (d : Nat) (v1 : Int) (σ : am_M) (n : Nat) : mo_runs (d + 1) v1 σ n = if σ 82 7 < 20 then (am_ix 134 (σ 82 7) (am_m (am_wr σ 134 (σ 82 7).toNat v1) fun σ2 => am_m (am_wr σ2 82 7 (am_w (σ2 82 7 + 1))) fun σ3 => some (0, σ3, n))) else am_m (am_wr σ 82 7 (am_w (σ 82 7 + 1))) fun σ1 => some (0, σ1, n) := (am_rn_eq true d 195 18 (0, [(110, 82), (0, v1)], [], σ, n)).trans rfl
set_option maxRecDepth 100000 in
set_option maxHeartbeats 4000000 in
theorem mo_under_e (d : Nat) (v0 : Int) (σ : am_M) (n : Nat) : mo_under (d + 1) v0 σ n = if v0 = 0 then (some ((-1), σ, n)) else if v0 < 4 then (mo_under_23 d v0 σ n) else if 6 < v0 then (mo_under_23 d v0 σ n) else some (3, σ, n) := (am_rn_eq true d 196 12 (0, [(0, v0)], [], σ, n)).trans rfl
set_option maxRecDepth 100000 in
set_option maxHeartbeats 4000000 in
theorem mo_under_23_e (d : Nat) (v0 : Int) (σ : am_M) (n : Nat) : mo_under_23 d v0 σ n = if v0 = 8 then (some (7, σ, n)) else if v0 = 9 then (some (7, σ, n)) else some (0, σ, n) := (am_rn_eq true d 196 10 _).trans rfl
set_option maxRecDepth 100000 in
set_option maxHeartbeats 4000000 in
theorem mo_reads2_e (d : Nat) (v1 v2 v4 v6 : Int) (σ : am_M) (n : Nat) : mo_reads2 (d + 1) v1 v2 v4 v6 σ n = if v1 = 0 then ((mo_runs d 10 σ n).bind fun q1 => some (v2, q1.2.1, q1.2.2)) else if v1 = 1 then ((mo_under d v1 σ n).bind fun q2 => (mo_reads2 d q2.1 v2 v4 v6 q2.2.1 q2.2.2).bind fun q3 => some (q3.1, q3.2.1, q3.2.2)) else if v1 = 2 then ((mo_under d v1 σ n).bind fun q4 => (mo_reads2 d q4.1 v2 v4 v6 q4.2.1 q4.2.2).bind fun q5 => some (q5.1, q5.2.1, q5.2.2)) else if v1 = 3 then ((mo_runs d 30 σ n).bind fun q6 => (mo_reads2 d 0 v2 v4 v6 q6.2.1 q6.2.2).bind fun q7 => some (am_x (q7.1 + v4), q7.2.1, q7.2.2)) else if v1 = 4 then ((mo_under d v1 σ n).bind fun q8 => (mo_reads2 d q8.1 v2 v4 v6 q8.2.1 q8.2.2).bind fun q9 => some (q9.1, q9.2.1, q9.2.2)) else if v1 = 5 then ((mo_runs d 50 σ n).bind fun q10 => (mo_reads2 d 3 v2 v4 v6 q10.2.1 q10.2.2).bind fun q11 => some (am_x (q11.1 + v6), q11.2.1, q11.2.2)) else if v1 = 6 then ((mo_under d v1 σ n).bind fun q12 => (mo_reads2 d q12.1 v2 v4 v6 q12.2.1 q12.2.2).bind fun q13 => some (q13.1, q13.2.1, q13.2.2)) else if v1 = 7 then ((mo_under d v1 σ n).bind fun q14 => (mo_reads2 d q14.1 v2 v4 v6 q14.2.1 q14.2.2).bind fun q15 => some (q15.1, q15.2.1, q15.2.2)) else if v1 = 8 then ((mo_runs d 80 σ n).bind fun q16 => (mo_reads2 d 7 v2 v4 v6 q16.2.1 q16.2.2).bind fun q17 => some (am_x (q17.1 * 2), q17.2.1, q17.2.2)) else (mo_under d v1 σ n).bind fun q18 => (mo_reads2 d q18.1 v2 v4 v6 q18.2.1 q18.2.2).bind fun q19 => some (q19.1, q19.2.1, q19.2.2) := (am_rn_eq true d 197 15 (0, [(110, 82), (0, v1), (1, v2), (9, 0), (1, v4), (9, 0), (1, v6), (9, 0)], [], σ, n)).trans rfl
set_option maxRecDepth 100000 in
set_option maxHeartbeats 4000000 in
theorem mo_works_e (d : Nat) (v1 v2 v4 v6 : Int) (σ : am_M) (n : Nat) : mo_works (d + 1) v1 v2 v4 v6 σ n = if v1 = 0 then ((mo_runs d 11 σ n).bind fun q1 => some (0, q1.2.1, q1.2.2)) else if v1 = 1 then ((mo_under d v1 σ n).bind fun q2 => (mo_works d q2.1 v2 v4 v6 q2.2.1 q2.2.2).bind fun q3 => some (q3.1, q3.2.1, q3.2.2)) else if v1 = 2 then ((mo_under d v1 σ n).bind fun q4 => (mo_works d q4.1 v2 v4 v6 q4.2.1 q4.2.2).bind fun q5 => some (q5.1, q5.2.1, q5.2.2)) else if v1 = 3 then ((mo_runs d 31 σ n).bind fun q6 => (mo_works d 0 v2 v4 v6 q6.2.1 q6.2.2).bind fun q7 => some (am_x (q7.1 + v6), q7.2.1, q7.2.2)) else if v1 = 4 then ((mo_runs d 40 σ n).bind fun q8 => (mo_works d 3 v2 v4 v6 q8.2.1 q8.2.2).bind fun q9 => some (am_x (q9.1 + v4), q9.2.1, q9.2.2)) else if v1 = 5 then ((mo_under d v1 σ n).bind fun q10 => (mo_works d q10.1 v2 v4 v6 q10.2.1 q10.2.2).bind fun q11 => some (q11.1, q11.2.1, q11.2.2)) else if v1 = 6 then ((mo_runs d 60 σ n).bind fun q12 => (mo_works d 3 v2 v4 v6 q12.2.1 q12.2.2).bind fun q13 => some (am_x (q13.1 + am_x (v2 * v4)), q13.2.1, q13.2.2)) else if v1 = 7 then ((mo_runs d 70 σ n).bind fun q14 => (mo_works d 0 v2 v4 v6 q14.2.1 q14.2.2).bind fun q15 => some (am_x (q15.1 + v6), q15.2.1, q15.2.2)) else if v1 = 8 then ((mo_under d v1 σ n).bind fun q16 => (mo_works d q16.1 v2 v4 v6 q16.2.1 q16.2.2).bind fun q17 => some (q17.1, q17.2.1, q17.2.2)) else if v1 = 9 then ((mo_under d v1 σ n).bind fun q18 => (mo_works d q18.1 v2 v4 v6 q18.2.1 q18.2.2).bind fun q19 => some (q19.1, q19.2.1, q19.2.2)) else if v1 = 10 then ((mo_runs d 100 σ n).bind fun q20 => mo_works_162 d v2 v4 v6 0 v2 q20.2.1 q20.2.2) else (mo_under d v1 σ n).bind fun q21 => (mo_works d q21.1 v2 v4 v6 q21.2.1 q21.2.2).bind fun q22 => some (q22.1, q22.2.1, q22.2.2) := (am_rn_eq true d 198 17 (0, [(110, 82), (0, v1), (1, v2), (9, 0), (1, v4), (9, 0), (1, v6), (9, 0), (9, 0), (9, 0), (9, 0), (9, 0)], [], σ, n)).trans rfl
set_option maxRecDepth 100000 in
set_option maxHeartbeats 4000000 in
theorem mo_works_162_e (d : Nat) (v2 v4 v6 v8 v10 : Int) (σ : am_M) (n : Nat) : mo_works_162 d v2 v4 v6 v8 v10 σ n = if 0 < am_cmp v10 0 then (mo_works_162 d v2 v4 v6 (am_x (v8 + 1)) (am_x (Int.tdiv v10 2)) σ n) else (mo_works d 0 v2 v4 v6 σ n).bind fun q1 => some (am_x (q1.1 + am_x (v2 * v8)), q1.2.1, q1.2.2) := (am_rn_eq true d 198 16 _).trans rfl
set_option maxRecDepth 100000 in
set_option maxHeartbeats 4000000 in
theorem mo_priceOf_e (d : Nat) (v1 v2 v4 v6 : Int) (σ : am_M) (n : Nat) : mo_priceOf (d + 1) v1 v2 v4 v6 σ n = if v1 = 11 then ((mo_runs d 110 σ n).bind fun q4 => (mo_runs d 12 q4.2.1 q4.2.2).bind fun q5 => (mo_reads2 d v1 v2 v4 v6 q5.2.1 q5.2.2).bind fun q6 => (mo_works d v1 v2 v4 v6 q6.2.1 q6.2.2).bind fun q7 => some (am_x (am_x (q6.1 + q7.1) * 3), q7.2.1, q7.2.2)) else (mo_runs d 12 σ n).bind fun q1 => (mo_reads2 d v1 v2 v4 v6 q1.2.1 q1.2.2).bind fun q2 => (mo_works d v1 v2 v4 v6 q2.2.1 q2.2.2).bind fun q3 => some (am_x (q2.1 + q3.1), q3.2.1, q3.2.2) := (am_rn_eq true d 199 26 (0, [(110, 82), (0, v1), (1, v2), (9, 0), (1, v4), (9, 0), (1, v6), (9, 0), (9, 0), (9, 0)], [], σ, n)).trans rfl
set_option maxRecDepth 100000 in
set_option maxHeartbeats 4000000 in
theorem mo_silent_e (d : Nat) (v1 v2 v4 v6 : Int) (σ : am_M) (n : Nat) : mo_silent (d + 1) v1 v2 v4 v6 σ n = am_m (am_wr σ 82 7 20) fun σ1 => (mo_priceOf d v1 v2 v4 v6 σ1 n).bind fun q1 => am_m (am_wr q1.2.1 82 7 (σ 82 7)) fun σ2 => some (q1.1, σ2, q1.2.2) := (am_rn_eq true d 200 19 (0, [(110, 82), (0, v1), (1, v2), (9, 0), (1, v4), (9, 0), (1, v6), (9, 0), (9, 0), (9, 0), (9, 0)], [], σ, n)).trans rfl
set_option maxRecDepth 100000 in
set_option maxHeartbeats 4000000 in
theorem mo_way_e (d : Nat) (v1 v2 v3 v4 v5 v6 v8 v10 : Int) (σ : am_M) (n : Nat) : mo_way (d + 1) v1 v2 v3 v4 v5 v6 v8 v10 σ n = if am_and (am_shr (σ 82 4) v1) 1 = 0 then (some (0, σ, n)) else am_ix 109 (σ 82 35) (am_m (am_wr σ 109 (σ 82 35).toNat v1) fun σ1 => am_ix 110 (σ1 82 35) (am_m (am_wr σ1 110 (σ1 82 35).toNat v2) fun σ2 => am_ix 111 (σ2 82 35) (am_m (am_wr σ2 111 (σ2 82 35).toNat v3) fun σ3 => am_ix 112 (σ3 82 35) (am_m (am_wr σ3 112 (σ3 82 35).toNat v4) fun σ4 => am_ix 113 (σ4 82 35) (am_m (am_wr σ4 113 (σ4 82 35).toNat v5) fun σ5 => (mo_silent d v1 v6 v8 v10 σ5 n).bind fun q1 => am_ix 114 (σ5 82 35) (am_m (am_wr q1.2.1 114 (σ5 82 35).toNat q1.1) fun σ6 => am_m (am_wr σ6 82 35 (am_w (σ6 82 35 + 1))) fun σ7 => some (0, σ7, q1.2.2))))))) := (am_rn_eq true d 201 56 (0, [(110, 82), (0, v1), (0, v2), (0, v3), (0, v4), (0, v5), (1, v6), (9, 0), (1, v8), (9, 0), (1, v10), (9, 0)], [], σ, n)).trans rfl
set_option maxRecDepth 100000 in
set_option maxHeartbeats 4000000 in
theorem mo_demand_e (d : Nat) (v0 v1 v2 : Int) (σ : am_M) (n : Nat) : mo_demand (d + 1) v0 v1 v2 σ n = some (am_w (am_w (am_w (am_w (v0 * 30) + am_w (am_w (v1 + 1) * 6)) + v2) + 1), σ, n) := (am_rn_eq true d 202 15 (0, [(0, v0), (0, v1), (0, v2)], [], σ, n)).trans rfl
set_option maxRecDepth 100000 in
set_option maxHeartbeats 4000000 in
theorem mo_waysBy_e (d : Nat) (v1 v2 v3 : Int) (σ : am_M) (n : Nat) : mo_waysBy (d + 1) v1 v2 v3 σ n = am_ix 93 v1 ((mo_root d (σ 93 v1.toNat) σ n).bind fun q1 => am_ix 104 q1.1 (am_ix 90 v1 (am_ix 89 v1 (if q1.2.1 89 v1.toNat = 1 then (am_ix 87 (q1.2.1 90 v1.toNat) ((mo_meets d v2 (q1.2.1 87 (q1.2.1 90 v1.toNat).toNat) q1.2.1 q1.2.2).bind fun q6 => if q6.1 = 0 then (some (0, q6.2.1, q6.2.2)) else am_ix 88 (q1.2.1 90 v1.toNat) ((mo_meets d v3 (q6.2.1 88 (q1.2.1 90 v1.toNat).toNat) q6.2.1 q6.2.2).bind fun q7 => if q7.1 = 0 then (some (0, q7.2.1, q7.2.2)) else (mo_way d 1 v1 (-1) (-1) (-1) (q1.2.1 104 q1.1.toNat) 0 (q1.2.1 104 q1.1.toNat) q7.2.1 q7.2.2).bind fun q8 => some (0, q8.2.1, q8.2.2)))) else am_ix 91 v1 ((mo_root d (q1.2.1 91 v1.toNat) q1.2.1 q1.2.2).bind fun q2 => am_ix 89 v1 (if q2.2.1 89 v1.toNat = 3 then ((mo_demand d q2.1 v2 v3 q2.2.1 q2.2.2).bind fun q4 => am_ix 104 q2.1 ((mo_way d 2 v1 q4.1 (-1) (-1) (q4.2.1 104 q2.1.toNat) 0 (q1.2.1 104 q1.1.toNat) q4.2.1 q4.2.2).bind fun q5 => some (0, q5.2.1, q5.2.2))) else am_ix 89 v1 (if q2.2.1 89 v1.toNat < 5 then (mo_waysBy_154 d v1 v2 v3 (q1.2.1 104 q1.1.toNat) (q1.2.1 90 v1.toNat) q2.1 (-1) q2.2.1 q2.2.2) else am_ix 92 v1 ((mo_root d (q2.2.1 92 v1.toNat) q2.2.1 q2.2.2).bind fun q3 => mo_waysBy_154 d v1 v2 v3 (q1.2.1 104 q1.1.toNat) (q1.2.1 90 v1.toNat) q2.1 q3.1 q3.2.1 q3.2.2)))))))) := (am_rn_eq true d 203 54 (0, [(110, 82), (0, v1), (0, v2), (0, v3), (9, 0), (9, 0), (9, 0), (9, 0), (9, 0), (9, 0), (9, 0), (9, 0), (9, 0)], [], σ, n)).trans rfl
set_option maxRecDepth 100000 in
set_option maxHeartbeats 4000000 in
theorem mo_waysBy_154_e (d : Nat) (v1 v2 v3 v4 v5 v6 s0 : Int) (σ : am_M) (n : Nat) : mo_waysBy_154 d v1 v2 v3 v4 v5 v6 s0 σ n = if s0 = (-1) then (if s0 = (-1) then (mo_waysBy_185 d v1 v2 v3 v4 v5 v6 s0 9 8 σ n) else mo_waysBy_185 d v1 v2 v3 v4 v5 v6 s0 9 4 σ n) else if s0 = (-1) then (mo_waysBy_185 d v1 v2 v3 v4 v5 v6 s0 6 8 σ n) else mo_waysBy_185 d v1 v2 v3 v4 v5 v6 s0 6 4 σ n := (am_rn_eq true d 203 14 _).trans rfl
set_option maxRecDepth 100000 in
set_option maxHeartbeats 4000000 in
theorem mo_waysBy_185_e (d : Nat) (v1 v2 v3 v4 v5 v6 v7 v8 v9 : Int) (σ : am_M) (n : Nat) : mo_waysBy_185 d v1 v2 v3 v4 v5 v6 v7 v8 v9 σ n = if v8 < v9 then (some (0, σ, n)) else mo_waysBy_195 d v1 v2 v3 v4 v5 v6 v7 v8 v9 0 σ n := (am_rn_eq true d 203 6 _).trans rfl
set_option maxRecDepth 100000 in
set_option maxHeartbeats 4000000 in
theorem mo_waysBy_195_e (d : Nat) (v1 v2 v3 v4 v5 v6 v7 v8 v9 v10 : Int) (σ : am_M) (n : Nat) : mo_waysBy_195 d v1 v2 v3 v4 v5 v6 v7 v8 v9 v10 σ n = if v10 < 2 then (if v10 = 0 then (mo_waysBy_212 d v1 v2 v3 v4 v5 v6 v7 v8 v9 v10 v5 σ n) else mo_waysBy_212 d v1 v2 v3 v4 v5 v6 v7 v8 v9 v10 4 σ n) else mo_waysBy_185 d v1 v2 v3 v4 v5 v6 v7 v8 (am_w (v9 + 1)) σ n := (am_rn_eq true d 203 8 _).trans rfl
set_option maxRecDepth 100000 in
set_option maxHeartbeats 4000000 in
theorem mo_waysBy_212_e (d : Nat) (v1 v2 v3 v4 v5 v6 v7 v8 v9 v10 s0 : Int) (σ : am_M) (n : Nat) : mo_waysBy_212 d v1 v2 v3 v4 v5 v6 v7 v8 v9 v10 s0 σ n = (mo_meets d v3 s0 σ n).bind fun q1 => if q1.1 = 0 then (mo_waysBy_195 d v1 v2 v3 v4 v5 v6 v7 v8 v9 (am_w (v10 + 1)) q1.2.1 q1.2.2) else if v9 = 4 then (if v2 = (-1) then (mo_waysBy_244 d v1 v2 v3 v4 v5 v6 v7 v8 v9 v10 s0 q1.2.1 q1.2.2) else mo_waysBy_195 d v1 v2 v3 v4 v5 v6 v7 v8 v9 (am_w (v10 + 1)) q1.2.1 q1.2.2) else if v9 = 8 then (if v2 = (-1) then (mo_waysBy_244 d v1 v2 v3 v4 v5 v6 v7 v8 v9 v10 s0 q1.2.1 q1.2.2) else mo_waysBy_195 d v1 v2 v3 v4 v5 v6 v7 v8 v9 (am_w (v10 + 1)) q1.2.1 q1.2.2) else mo_waysBy_244 d v1 v2 v3 v4 v5 v6 v7 v8 v9 v10 s0 q1.2.1 q1.2.2 := (am_rn_eq true d 203 17 _).trans rfl
set_option maxRecDepth 100000 in
set_option maxHeartbeats 4000000 in
theorem mo_waysBy_244_e (d : Nat) (v1 v2 v3 v4 v5 v6 v7 v8 v9 v10 v11 : Int) (σ : am_M) (n : Nat) : mo_waysBy_244 d v1 v2 v3 v4 v5 v6 v7 v8 v9 v10 v11 σ n = if v9 = 5 then ((mo_meets d v2 v5 σ n).bind fun q1 => if q1.1 = 0 then (mo_waysBy_195 d v1 v2 v3 v4 v5 v6 v7 v8 v9 (am_w (v10 + 1)) q1.2.1 q1.2.2) else mo_waysBy_269 d v1 v2 v3 v4 v5 v6 v7 v8 v9 v10 v11 q1.2.1 q1.2.2) else if v9 = 9 then ((mo_meets d v2 v5 σ n).bind fun q2 => if q2.1 = 0 then (mo_waysBy_195 d v1 v2 v3 v4 v5 v6 v7 v8 v9 (am_w (v10 + 1)) q2.2.1 q2.2.2) else mo_waysBy_269 d v1 v2 v3 v4 v5 v6 v7 v8 v9 v10 v11 q2.2.1 q2.2.2) else mo_waysBy_269 d v1 v2 v3 v4 v5 v6 v7 v8 v9 v10 v11 σ n := (am_rn_eq true d 203 14 _).trans rfl
set_option maxRecDepth 100000 in
set_option maxHeartbeats 4000000 in
theorem mo_waysBy_269_e (d : Nat) (v1 v2 v3 v4 v5 v6 v7 v8 v9 v10 v11 : Int) (σ : am_M) (n : Nat) : mo_waysBy_269 d v1 v2 v3 v4 v5 v6 v7 v8 v9 v10 v11 σ n = if v9 = 5 then (mo_waysBy_299 d v1 v2 v3 v4 v5 v6 v7 v8 v9 v10 v11 v5 σ n) else if v9 = 9 then (mo_waysBy_299 d v1 v2 v3 v4 v5 v6 v7 v8 v9 v10 v11 v5 σ n) else if v9 = 6 then (mo_waysBy_299 d v1 v2 v3 v4 v5 v6 v7 v8 v9 v10 v11 v2 σ n) else mo_waysBy_299 d v1 v2 v3 v4 v5 v6 v7 v8 v9 v10 v11 (-1) σ n := (am_rn_eq true d 203 12 _).trans rfl
set_option maxRecDepth 100000 in
set_option maxHeartbeats 4000000 in
theorem mo_waysBy_299_e (d : Nat) (v1 v2 v3 v4 v5 v6 v7 v8 v9 v10 v11 s0 : Int) (σ : am_M) (n : Nat) : mo_waysBy_299 d v1 v2 v3 v4 v5 v6 v7 v8 v9 v10 v11 s0 σ n = if v7 = (-1) then ((mo_demand d v6 s0 v11 σ n).bind fun q2 => am_ix 104 v6 ((mo_way d v9 v1 q2.1 (-1) v11 (q2.2.1 104 v6.toNat) 0 v4 q2.2.1 q2.2.2).bind fun q3 => mo_waysBy_195 d v1 v2 v3 v4 v5 v6 v7 v8 v9 (am_w (v10 + 1)) q3.2.1 q3.2.2)) else (mo_demand d v6 s0 v11 σ n).bind fun q1 => if v9 = 5 then (mo_waysBy_368 d v1 v2 v3 v4 v5 v6 v7 v8 v9 v10 v11 v9 v1 q1.1 v7 v5 q1.2.1 q1.2.2) else mo_waysBy_368 d v1 v2 v3 v4 v5 v6 v7 v8 v9 v10 v11 v9 v1 q1.1 v7 (-1) q1.2.1 q1.2.2 := (am_rn_eq true d 203 26 _).trans rfl
set_option maxRecDepth 100000 in
set_option maxHeartbeats 4000000 in
theorem mo_waysBy_368_e (d : Nat) (v1 v2 v3 v4 v5 v6 v7 v8 v9 v10 v11 s1 s2 s3 s4 s5 : Int) (σ : am_M) (n : Nat) : mo_waysBy_368 d v1 v2 v3 v4 v5 v6 v7 v8 v9 v10 v11 s1 s2 s3 s4 s5 σ n = (mo_demand d s4 s5 v11 σ n).bind fun q1 => am_ix 104 v6 (am_ix 104 v7 ((mo_way d s1 s2 s3 q1.1 v11 (q1.2.1 104 v6.toNat) (q1.2.1 104 v7.toNat) v4 q1.2.1 q1.2.2).bind fun q2 => mo_waysBy_195 d v1 v2 v3 v4 v5 v6 v7 v8 v9 (am_w (v10 + 1)) q2.2.1 q2.2.2)) := (am_rn_eq true d 203 19 _).trans rfl
set_option maxRecDepth 100000 in
set_option maxHeartbeats 4000000 in
theorem mo_waysOf_e (d : Nat) (v1 : Int) (σ : am_M) (n : Nat) : mo_waysOf (d + 1) v1 σ n = am_m (am_wr σ 82 35 0) fun σ1 => mo_waysOf_31 d (am_w (Int.tdiv v1 30)) (am_w (am_w (Int.tdiv (Int.tmod v1 30) 6) - 1)) (am_w (Int.tmod v1 6 - 1)) 0 σ1 n := (am_rn_eq true d 204 24 (0, [(110, 82), (0, v1), (9, 0), (9, 0), (9, 0), (9, 0)], [], σ, n)).trans rfl
set_option maxRecDepth 100000 in
set_option maxHeartbeats 4000000 in
theorem mo_waysOf_31_e (d : Nat) (v2 v3 v4 v5 : Int) (σ : am_M) (n : Nat) : mo_waysOf_31 d v2 v3 v4 v5 σ n = if v5 < σ 82 1 then (am_ix 95 v5 (if σ 95 v5.toNat = 0 then (am_ix 93 v5 ((mo_root d (σ 93 v5.toNat) σ n).bind fun q4 => if q4.1 = v2 then ((mo_waysBy d v5 v3 v4 q4.2.1 q4.2.2).bind fun q5 => mo_waysOf_31 d v2 v3 v4 (am_w (v5 + 1)) q5.2.1 q5.2.2) else mo_waysOf_31 d v2 v3 v4 (am_w (v5 + 1)) q4.2.1 q4.2.2)) else mo_waysOf_31 d v2 v3 v4 (am_w (v5 + 1)) σ n)) else am_ix 104 v2 (if v3 = (-1) then (mo_waysOf_130 d v2 v3 v4 (σ 104 v2.toNat) σ n) else am_ix 105 v2 ((mo_isColumn d (σ 105 v2.toNat) v3 σ n).bind fun q1 => if q1.1 = 0 then (mo_waysOf_130 d v2 v3 v4 (σ 104 v2.toNat) q1.2.1 q1.2.2) else (mo_demand d v2 (-1) v4 q1.2.1 q1.2.2).bind fun q2 => (mo_way d 10 (-1) q2.1 (-1) (-1) (σ 104 v2.toNat) 0 (σ 104 v2.toNat) q2.2.1 q2.2.2).bind fun q3 => mo_waysOf_130 d v2 v3 v4 (σ 104 v2.toNat) q3.2.1 q3.2.2)) := (am_rn_eq true d 204 36 _).trans rfl
set_option maxRecDepth 100000 in
set_option maxHeartbeats 4000000 in
theorem mo_waysOf_130_e (d : Nat) (v2 v3 v4 v5 : Int) (σ : am_M) (n : Nat) : mo_waysOf_130 d v2 v3 v4 v5 σ n = if v3 = (-1) then (if v4 = (-1) then (some (0, σ, n)) else if v4 = 4 then (mo_waysOf_162 d v2 v5 σ n) else am_ix 105 v2 ((mo_isColumn d (σ 105 v2.toNat) v4 σ n).bind fun q1 => if q1.1 = 0 then (some (0, q1.2.1, q1.2.2)) else mo_waysOf_162 d v2 v5 q1.2.1 q1.2.2)) else some (0, σ, n) := (am_rn_eq true d 204 19 _).trans rfl
set_option maxRecDepth 100000 in
set_option maxHeartbeats 4000000 in
theorem mo_waysOf_162_e (d : Nat) (v2 v5 : Int) (σ : am_M) (n : Nat) : mo_waysOf_162 d v2 v5 σ n = (mo_demand d v2 (-1) (-1) σ n).bind fun q1 => (mo_way d 11 (-1) q1.1 (-1) (-1) v5 0 v5 q1.2.1 q1.2.2).bind fun q2 => some (0, q2.2.1, q2.2.2) := (am_rn_eq true d 204 17 _).trans rfl
set_option maxRecDepth 100000 in
set_option maxHeartbeats 4000000 in
theorem mo_sum_e (d : Nat) (v1 : Int) (σ : am_M) (n : Nat) : mo_sum (d + 1) v1 σ n = am_ix 114 v1 (am_ix 111 v1 (if σ 111 v1.toNat = (-1) then (mo_sum_31 d v1 (σ 114 v1.toNat) σ n) else am_ix 111 v1 (am_ix 107 (σ 111 v1.toNat) (mo_sum_31 d v1 (am_x (σ 114 v1.toNat + σ 107 (σ 111 v1.toNat).toNat)) σ n)))) := (am_rn_eq true d 205 22 (0, [(110, 82), (0, v1), (9, 0), (9, 0)], [], σ, n)).trans rfl
set_option maxRecDepth 100000 in
set_option maxHeartbeats 4000000 in
theorem mo_sum_31_e (d : Nat) (v1 v2 : Int) (σ : am_M) (n : Nat) : mo_sum_31 d v1 v2 σ n = am_ix 112 v1 (if σ 112 v1.toNat = (-1) then (if 0 < am_cmp v2 1000000000000 then (some (4000000000000, σ, n)) else some (v2, σ, n)) else am_ix 112 v1 (am_ix 107 (σ 112 v1.toNat) (if 0 < am_cmp (am_x (v2 + σ 107 (σ 112 v1.toNat).toNat)) 1000000000000 then (some (4000000000000, σ, n)) else some (am_x (v2 + σ 107 (σ 112 v1.toNat).toNat), σ, n)))) := (am_rn_eq true d 205 24 _).trans rfl
set_option maxRecDepth 100000 in
set_option maxHeartbeats 4000000 in
theorem mo_costs_e (d : Nat) (σ : am_M) (n : Nat) : mo_costs (d + 1) σ n = (mo_tells d σ n).bind fun q1 => mo_costs_6 d 0 q1.2.1 q1.2.2 := (am_rn_eq true d 206 5 (0, [(110, 82), (9, 0), (9, 0), (9, 0), (9, 0), (9, 0)], [], σ, n)).trans rfl
set_option maxRecDepth 100000 in
set_option maxHeartbeats 4000000 in
theorem mo_costs_6_e (d : Nat) (v1 : Int) (σ : am_M) (n : Nat) : mo_costs_6 d v1 σ n = if v1 < 1920 then (am_ix 107 v1 (am_m (am_wr σ 107 v1.toNat 4000000000000) fun σ1 => mo_costs_6 d (am_w (v1 + 1)) σ1 n)) else mo_costs_30 d 1 σ n := (am_rn_eq true d 206 11 _).trans rfl
set_option maxRecDepth 100000 in
set_option maxHeartbeats 4000000 in
theorem mo_costs_30_e (d : Nat) (v1 : Int) (σ : am_M) (n : Nat) : mo_costs_30 d v1 σ n = if v1 = 0 then (some (0, σ, n)) else mo_costs_38 d 0 0 σ n := (am_rn_eq true d 206 7 _).trans rfl
set_option maxRecDepth 100000 in
set_option maxHeartbeats 4000000 in
theorem mo_costs_38_e (d : Nat) (v1 v2 : Int) (σ : am_M) (n : Nat) : mo_costs_38 d v1 v2 σ n = if v2 < am_w (σ 82 2 * 30) then ((mo_root d (am_w (Int.tdiv v2 30)) σ n).bind fun q1 => if q1.1 = am_w (Int.tdiv v2 30) then ((mo_waysOf d v2 q1.2.1 q1.2.2).bind fun q2 => mo_costs_74 d v1 v2 0 q2.2.1 q2.2.2) else mo_costs_38 d v1 (am_w (v2 + 1)) q1.2.1 q1.2.2) else mo_costs_30 d v1 σ n := (am_rn_eq true d 206 21 _).trans rfl
set_option maxRecDepth 100000 in
set_option maxHeartbeats 4000000 in
theorem mo_costs_74_e (d : Nat) (v1 v2 v3 : Int) (σ : am_M) (n : Nat) : mo_costs_74 d v1 v2 v3 σ n = if v3 < σ 82 35 then ((mo_sum d v3 σ n).bind fun q1 => am_ix 107 v2 (if am_cmp q1.1 (q1.2.1 107 v2.toNat) < 0 then (am_ix 107 v2 (am_m (am_wr q1.2.1 107 v2.toNat q1.1) fun σ1 => mo_costs_74 d 1 v2 (am_w (v3 + 1)) σ1 q1.2.2)) else mo_costs_74 d v1 v2 (am_w (v3 + 1)) q1.2.1 q1.2.2)) else mo_costs_38 d v1 (am_w (v2 + 1)) σ n := (am_rn_eq true d 206 25 _).trans rfl
set_option maxRecDepth 100000 in
set_option maxHeartbeats 4000000 in
theorem mo_orNone_e (d : Nat) (v0 : Int) (σ : am_M) (n : Nat) : mo_orNone (d + 1) v0 σ n = if 0 < am_cmp v0 1000000000000 then (some ((-1), σ, n)) else some (v0, σ, n) := (am_rn_eq true d 207 8 (0, [(1, v0), (9, 0)], [], σ, n)).trans rfl
set_option maxRecDepth 100000 in
set_option maxHeartbeats 4000000 in
theorem mo_cost_e (d : Nat) (v1 v2 v3 : Int) (σ : am_M) (n : Nat) : mo_cost (d + 1) v1 v2 v3 σ n = (mo_isGroup d v1 σ n).bind fun q1 => if q1.1 = 0 then ((mo_noTen d (-1) q1.2.1 q1.2.2).bind fun q8 => some (q8.1, q8.2.1, q8.2.2)) else (mo_isDemand d v2 v3 q1.2.1 q1.2.2).bind fun q2 => if q2.1 = 0 then ((mo_noTen d (-6) q2.2.1 q2.2.2).bind fun q7 => some (q7.1, q7.2.1, q7.2.2)) else (mo_costs d q2.2.1 q2.2.2).bind fun q3 => (mo_root d v1 q3.2.1 q3.2.2).bind fun q4 => (mo_demand d q4.1 v2 v3 q4.2.1 q4.2.2).bind fun q5 => am_ix 107 q5.1 ((mo_orNone d (q5.2.1 107 q5.1.toNat) q5.2.1 q5.2.2).bind fun q6 => some (q6.1, q6.2.1, q6.2.2)) := (am_rn_eq true d 208 23 (0, [(110, 82), (0, v1), (0, v2), (0, v3)], [], σ, n)).trans rfl
set_option maxRecDepth 100000 in
set_option maxHeartbeats 4000000 in
theorem co_cheapestBy_e (d : Nat) (v1 v2 : Int) (σ : am_M) (n : Nat) : co_cheapestBy (d + 1) v1 v2 σ n = (wa_beginAll d v2 σ n).bind fun q1 => co_cheapestBy_15 d v1 1000000000001 0 q1.2.1 q1.2.2 := (am_rn_eq true d 209 9 (0, [(101, 33), (0, v1), (0, v2), (9, 0), (9, 0), (9, 0)], [], σ, n)).trans rfl
set_option maxRecDepth 100000 in
set_option maxHeartbeats 4000000 in
theorem co_cheapestBy_15_e (d : Nat) (v1 v3 v5 : Int) (σ : am_M) (n : Nat) : co_cheapestBy_15 d v1 v3 v5 σ n = if v5 < 1000 then ((wa_advance d σ n).bind fun q1 => if q1.1 = 0 then (some (v3, q1.2.1, q1.2.2)) else if q1.2.1 37 9 = v1 then ((co_costOfWay d q1.2.1 q1.2.2).bind fun q2 => co_cheapestBy_15 d v1 (am_mn v3 q2.1) (am_w (v5 + 1)) q2.2.1 q2.2.2) else co_cheapestBy_15 d v1 v3 (am_w (v5 + 1)) q1.2.1 q1.2.2) else some (v3, σ, n) := (am_rn_eq true d 209 20 _).trans rfl
set_option maxRecDepth 100000 in
set_option maxHeartbeats 4000000 in
theorem pm_costBy_e (d : Nat) (v1 v2 v3 : Int) (σ : am_M) (n : Nat) : pm_costBy (d + 1) v1 v2 v3 σ n = (me_isExpression d v1 σ n).bind fun q1 => if q1.1 = 0 then ((pm_refuseFar d 1 q1.2.1 q1.2.2).bind fun q2 => some (q2.1, q2.2.1, q2.2.2)) else (me_isGone d v1 q1.2.1 q1.2.2).bind fun q3 => if q3.1 = 0 then ((pm_isOrder d v2 q3.2.1 q3.2.2).bind fun q4 => if q4.1 = 0 then ((pm_refuseFar d 6 q4.2.1 q4.2.2).bind fun q5 => some (q5.1, q5.2.1, q5.2.2)) else (pm_isPlace d v3 q4.2.1 q4.2.2).bind fun q6 => if q6.1 = 0 then ((pm_refuseFar d 6 q6.2.1 q6.2.2).bind fun q12 => some (q12.1, q12.2.1, q12.2.2)) else am_ix 9 v1 ((pm_demandOf d (q6.2.1 9 v1.toNat) v2 v3 q6.2.1 q6.2.2).bind fun q7 => (co_prepare d (q7.2.1 2 15) q7.2.1 q7.2.2).bind fun q8 => (co_costOf d q7.1 q8.2.1 q8.2.2).bind fun q9 => (co_cheapestBy d v1 q7.1 q9.2.1 q9.2.2).bind fun q10 => (pm_orNone d q10.1 q10.2.1 q10.2.2).bind fun q11 => some (q11.1, q11.2.1, q11.2.2))) else (pm_refuseFar d 1 q3.2.1 q3.2.2).bind fun q13 => some (q13.1, q13.2.1, q13.2.2) := (am_rn_eq true d 210 44 (0, [(109, 0), (0, v1), (0, v2), (0, v3), (9, 0)], [], σ, n)).trans rfl
set_option maxRecDepth 100000 in
set_option maxHeartbeats 4000000 in
theorem mo_costBy_e (d : Nat) (v1 v2 v3 : Int) (σ : am_M) (n : Nat) : mo_costBy (d + 1) v1 v2 v3 σ n = (mo_isExpression d v1 σ n).bind fun q1 => if q1.1 = 0 then ((mo_noTen d (-1) q1.2.1 q1.2.2).bind fun q2 => some (q2.1, q2.2.1, q2.2.2)) else am_ix 95 v1 (if q1.2.1 95 v1.toNat = 0 then ((mo_isDemand d v2 v3 q1.2.1 q1.2.2).bind fun q3 => if q3.1 = 0 then ((mo_noTen d (-6) q3.2.1 q3.2.2).bind fun q6 => some (q6.1, q6.2.1, q6.2.2)) else (mo_costs d q3.2.1 q3.2.2).bind fun q4 => am_m (am_wr q4.2.1 82 35 0) fun σ1 => (mo_waysBy d v1 v2 v3 σ1 q4.2.2).bind fun q5 => mo_costBy_65 d 4000000000000 0 q5.2.1 q5.2.2) else (mo_noTen d (-1) q1.2.1 q1.2.2).bind fun q7 => some (q7.1, q7.2.1, q7.2.2)) := (am_rn_eq true d 211 29 (0, [(110, 82), (0, v1), (0, v2), (0, v3), (9, 0), (9, 0), (9, 0)], [], σ, n)).trans rfl
set_option maxRecDepth 100000 in
set_option maxHeartbeats 4000000 in
theorem mo_costBy_65_e (d : Nat) (v4 v6 : Int) (σ : am_M) (n : Nat) : mo_costBy_65 d v4 v6 σ n = if v6 < σ 82 35 then ((mo_sum d v6 σ n).bind fun q2 => mo_costBy_65 d (am_mn v4 q2.1) (am_w (v6 + 1)) q2.2.1 q2.2.2) else (mo_orNone d v4 σ n).bind fun q1 => some (q1.1, q1.2.1, q1.2.2) := (am_rn_eq true d 211 13 _).trans rfl
set_option maxRecDepth 100000 in
set_option maxHeartbeats 4000000 in
theorem pm_demandRefusal_e (d : Nat) (v1 v2 v3 : Int) (σ : am_M) (n : Nat) : pm_demandRefusal (d + 1) v1 v2 v3 σ n = (me_isGroup d v1 σ n).bind fun q1 => if q1.1 = 0 then (some (1, q1.2.1, q1.2.2)) else (pm_isOrder d v2 q1.2.1 q1.2.2).bind fun q2 => if q2.1 = 0 then (some (6, q2.2.1, q2.2.2)) else (pm_isPlace d v3 q2.2.1 q2.2.2).bind fun q3 => if q3.1 = 0 then (some (6, q3.2.1, q3.2.2)) else some (0, q3.2.1, q3.2.2) := (am_rn_eq true d 212 15 (0, [(109, 0), (0, v1), (0, v2), (0, v3)], [], σ, n)).trans rfl
set_option maxRecDepth 100000 in
set_option maxHeartbeats 4000000 in
theorem ar_fill3_e (d : Nat) (v0 v1 : Int) (σ : am_M) (n : Nat) : ar_fill3 (d + 1) v0 v1 σ n = am_if (¬ v0 < 0) (ar_fill3_5 d v0 v1 0 (am_len v0.toNat : Int) σ n) := (am_rn_eq true d 213 6 (0, [(13, v0), (0, v1), (9, 0), (9, 0)], [], σ, n)).trans rfl
set_option maxRecDepth 100000 in
set_option maxHeartbeats 4000000 in
theorem ar_fill3_5_e (d : Nat) (v0 v1 v2 v3 : Int) (σ : am_M) (n : Nat) : ar_fill3_5 d v0 v1 v2 v3 σ n = if v2 < v3 then (am_ix v0 v2 (am_m (am_wr σ v0.toNat v2.toNat (am_w8 v1)) fun σ1 => ar_fill3_5 d v0 v1 (am_w (v2 + 1)) v3 σ1 n)) else some (0, σ, n) := (am_rn_eq true d 213 10 _).trans rfl
set_option maxRecDepth 100000 in
set_option maxHeartbeats 4000000 in
theorem co_listIfUnmarked_e (d : Nat) (v1 : Int) (σ : am_M) (n : Nat) : co_listIfUnmarked (d + 1) v1 σ n = if v1 = (-1) then (some (0, σ, n)) else am_ix 36 v1 (if σ 36 v1.toNat = 0 then (if σ 33 5 < 1920 then (am_ix 36 v1 (am_m (am_wr σ 36 v1.toNat (am_w8 1)) fun σ1 => am_ix 35 (σ1 33 5) (am_m (am_wr σ1 35 (σ1 33 5).toNat v1) fun σ2 => am_m (am_wr σ2 33 5 (am_w (σ2 33 5 + 1))) fun σ3 => some (0, σ3, n)))) else some (0, σ, n)) else some (0, σ, n)) := (am_rn_eq true d 214 31 (0, [(101, 33), (0, v1)], [], σ, n)).trans rfl
set_option maxRecDepth 100000 in
set_option maxHeartbeats 4000000 in
theorem co_demandedBy_e (d : Nat) (v1 : Int) (σ : am_M) (n : Nat) : co_demandedBy (d + 1) v1 σ n = (ar_fill3 d 36 0 σ n).bind fun q1 => am_m (am_wr q1.2.1 33 5 0) fun σ1 => (co_listIfUnmarked d v1 σ1 q1.2.2).bind fun q2 => co_demandedBy_20 d 0 q2.2.1 q2.2.2 := (am_rn_eq true d 215 13 (0, [(101, 33), (0, v1), (9, 0), (9, 0)], [], σ, n)).trans rfl
set_option maxRecDepth 100000 in
set_option maxHeartbeats 4000000 in
theorem co_demandedBy_20_e (d : Nat) (v2 : Int) (σ : am_M) (n : Nat) : co_demandedBy_20 d v2 σ n = if v2 < σ 33 5 then (if v2 < 1920 then (am_ix 35 v2 ((wa_beginAll d (σ 35 v2.toNat) σ n).bind fun q1 => co_demandedBy_50 d v2 0 q1.2.1 q1.2.2)) else some (σ 33 5, σ, n)) else some (σ 33 5, σ, n) := (am_rn_eq true d 215 17 _).trans rfl
set_option maxRecDepth 100000 in
set_option maxHeartbeats 4000000 in
theorem co_demandedBy_50_e (d : Nat) (v2 v3 : Int) (σ : am_M) (n : Nat) : co_demandedBy_50 d v2 v3 σ n = if v3 < 1000 then ((wa_advance d σ n).bind fun q1 => if q1.1 = 0 then (co_demandedBy_20 d (am_w (v2 + 1)) q1.2.1 q1.2.2) else (co_listIfUnmarked d (q1.2.1 37 13) q1.2.1 q1.2.2).bind fun q2 => (co_listIfUnmarked d (q2.2.1 37 14) q2.2.1 q2.2.2).bind fun q3 => co_demandedBy_50 d v2 (am_w (v3 + 1)) q3.2.1 q3.2.2) else co_demandedBy_20 d (am_w (v2 + 1)) σ n := (am_rn_eq true d 215 20 _).trans rfl
set_option maxRecDepth 100000 in
set_option maxHeartbeats 4000000 in
theorem pm_demands_e (d : Nat) (v1 v2 v3 : Int) (σ : am_M) (n : Nat) : pm_demands (d + 1) v1 v2 v3 σ n = (pm_demandRefusal d v1 v2 v3 σ n).bind fun q1 => if q1.1 = 0 then ((co_prepare d (q1.2.1 2 15) q1.2.1 q1.2.2).bind fun q2 => (me_root d v1 q2.2.1 q2.2.2).bind fun q3 => (pm_demandOf d q3.1 v2 v3 q3.2.1 q3.2.2).bind fun q4 => (co_demandedBy d q4.1 q4.2.1 q4.2.2).bind fun q5 => some (q5.1, q5.2.1, q5.2.2)) else (pm_refuse d q1.1 q1.2.1 q1.2.2).bind fun q6 => some (q6.1, q6.2.1, q6.2.2) := (am_rn_eq true d 216 26 (0, [(109, 0), (0, v1), (0, v2), (0, v3), (9, 0)], [], σ, n)).trans rfl
set_option maxRecDepth 100000 in
set_option maxHeartbeats 4000000 in
theorem mo_closes_e (d : Nat) (v1 : Int) (σ : am_M) (n : Nat) : mo_closes (d + 1) v1 σ n = mo_closes_2 d v1 0 σ n := (am_rn_eq true d 217 3 (0, [(110, 82), (0, v1), (9, 0), (9, 0), (9, 0), (9, 0), (9, 0), (9, 0)], [], σ, n)).trans rfl
set_option maxRecDepth 100000 in
set_option maxHeartbeats 4000000 in
theorem mo_closes_2_e (d : Nat) (v1 v2 : Int) (σ : am_M) (n : Nat) : mo_closes_2 d v1 v2 σ n = if v2 < 1920 then (if v2 = v1 then (am_ix 138 v2 (am_m (am_wr σ 138 v2.toNat (1 % 2)) fun σ2 => mo_closes_2 d v1 (am_w (v2 + 1)) σ2 n)) else am_ix 138 v2 (am_m (am_wr σ 138 v2.toNat (0 % 2)) fun σ1 => mo_closes_2 d v1 (am_w (v2 + 1)) σ1 n)) else mo_closes_37 d 1 1 σ n := (am_rn_eq true d 217 17 _).trans rfl
set_option maxRecDepth 100000 in
set_option maxHeartbeats 4000000 in
theorem mo_closes_37_e (d : Nat) (v2 v3 : Int) (σ : am_M) (n : Nat) : mo_closes_37 d v2 v3 σ n = if v3 = 0 then (some (v2, σ, n)) else mo_closes_46 d v2 0 0 σ n := (am_rn_eq true d 217 7 _).trans rfl
set_option maxRecDepth 100000 in
set_option maxHeartbeats 4000000 in
theorem mo_closes_46_e (d : Nat) (v2 v3 v4 : Int) (σ : am_M) (n : Nat) : mo_closes_46 d v2 v3 v4 σ n = if v4 < 1920 then (am_ix 138 v4 (if σ 138 v4.toNat = 0 then (mo_closes_46 d v2 v3 (am_w (v4 + 1)) σ n) else (mo_waysOf d v4 σ n).bind fun q1 => mo_closes_78 d v2 v3 v4 0 q1.2.1 q1.2.2)) else mo_closes_37 d v2 v3 σ n := (am_rn_eq true d 217 16 _).trans rfl
