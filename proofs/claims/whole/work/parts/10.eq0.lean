set_option maxRecDepth 100000 in
set_option maxHeartbeats 4000000 in
theorem ar_fill_e (d : Nat) (v0 v1 : Int) (σ : am_M) (n : Nat) : ar_fill (d + 1) v0 v1 σ n = am_if (¬ v0 < 0) (ar_fill_5 d v0 v1 0 (am_len v0.toNat : Int) σ n) := (am_rn_eq true d 0 6 (0, [(11, v0), (0, v1), (9, 0), (9, 0)], [], σ, n)).trans rfl
set_option maxRecDepth 100000 in
set_option maxHeartbeats 4000000 in
theorem ar_fill_5_e (d : Nat) (v0 v1 v2 v3 : Int) (σ : am_M) (n : Nat) : ar_fill_5 d v0 v1 v2 v3 σ n = if v2 < v3 then (am_ix v0 v2 (am_m (am_wr σ v0.toNat v2.toNat v1) fun σ1 => ar_fill_5 d v0 v1 (am_w (v2 + 1)) v3 σ1 n)) else some (0, σ, n) := (am_rn_eq true d 0 10 _).trans rfl
set_option maxRecDepth 100000 in
set_option maxHeartbeats 4000000 in
theorem pm_isShelf_e (d : Nat) (v0 : Int) (σ : am_M) (n : Nat) : pm_isShelf (d + 1) v0 σ n = if v0 < 0 then (some (0, σ, n)) else if v0 < 8 then (some (1, σ, n)) else some (0, σ, n) := (am_rn_eq true d 12 9 (0, [(0, v0)], [], σ, n)).trans rfl
set_option maxRecDepth 100000 in
set_option maxHeartbeats 4000000 in
theorem pm_refuse_e (d : Nat) (v1 : Int) (σ : am_M) (n : Nat) : pm_refuse (d + 1) v1 σ n = if v1 < 1 then (some (am_w (-v1), σ, n)) else if 7 < v1 then (some (am_w (-v1), σ, n)) else am_ix 57 v1 (am_ix 57 v1 (am_m (am_wr σ 57 v1.toNat (am_w (σ 57 v1.toNat + 1))) fun σ1 => some (am_w (-v1), σ1, n))) := (am_rn_eq true d 13 18 (0, [(109, 0), (0, v1)], [], σ, n)).trans rfl
set_option maxRecDepth 100000 in
set_option maxHeartbeats 4000000 in
theorem ar_fill2_e (d : Nat) (v0 v1 : Int) (σ : am_M) (n : Nat) : ar_fill2 (d + 1) v0 v1 σ n = am_if (¬ v0 < 0) (ar_fill2_6 d v0 v1 0 (am_len v0.toNat : Int) σ n) := (am_rn_eq true d 14 6 (0, [(12, v0), (1, v1), (9, 0), (9, 0), (9, 0)], [], σ, n)).trans rfl
set_option maxRecDepth 100000 in
set_option maxHeartbeats 4000000 in
theorem ar_fill2_6_e (d : Nat) (v0 v1 v3 v4 : Int) (σ : am_M) (n : Nat) : ar_fill2_6 d v0 v1 v3 v4 σ n = if v3 < v4 then (am_ix v0 v3 (am_m (am_wr σ v0.toNat v3.toNat v1) fun σ1 => ar_fill2_6 d v0 v1 (am_w (v3 + 1)) v4 σ1 n)) else some (0, σ, n) := (am_rn_eq true d 14 10 _).trans rfl
set_option maxRecDepth 100000 in
set_option maxHeartbeats 4000000 in
theorem sh_takeRow_e (d : Nat) (v0 v1 v2 : Int) (σ : am_M) (n : Nat) : sh_takeRow (d + 1) v0 v1 v2 σ n = am_if (¬ v0 < 0) ((ar_fill2 d (am_fin v0.toNat 0) 0 σ n).bind fun q1 => am_if (¬ v0 < 0) (am_m (am_wr q1.2.1 v0.toNat 2 v1) fun σ1 => am_if (¬ v0 < 0) (am_m (am_wr σ1 v0.toNat 1 v2) fun σ2 => am_if (¬ v0 < 0) (am_m (am_wr σ2 v0.toNat 3 (-1)) fun σ3 => some (0, σ3, q1.2.2))))) := (am_rn_eq true d 15 15 (0, [(106, v0), (0, v1), (0, v2)], [], σ, n)).trans rfl
set_option maxRecDepth 100000 in
set_option maxHeartbeats 4000000 in
theorem pm_row_e (d : Nat) (v1 v2 v3 : Int) (σ : am_M) (n : Nat) : pm_row (d + 1) v1 v2 v3 σ n = (pm_isShelf d v1 σ n).bind fun q1 => if q1.1 = 0 then ((pm_refuse d 1 q1.2.1 q1.2.2).bind fun q7 => some (q7.1, q7.2.1, q7.2.2)) else if v3 < 0 then ((pm_refuse d 4 q1.2.1 q1.2.2).bind fun q6 => some (q6.1, q6.2.1, q6.2.2)) else if v2 < 0 then ((pm_refuse d 6 q1.2.1 q1.2.2).bind fun q2 => some (q2.1, q2.2.1, q2.2.2)) else if 3 < v2 then ((pm_refuse d 6 q1.2.1 q1.2.2).bind fun q5 => some (q5.1, q5.2.1, q5.2.2)) else if 160 < v3 then ((pm_refuse d 7 q1.2.1 q1.2.2).bind fun q4 => some (q4.1, q4.2.1, q4.2.2)) else am_ix 1 v1 (am_if (¬ am_fin 1 v1.toNat < 0) ((sh_takeRow d (am_fin 1 v1.toNat) v2 v3 q1.2.1 q1.2.2).bind fun q3 => some (1, q3.2.1, q3.2.2))) := (am_rn_eq true d 16 23 (0, [(109, 0), (0, v1), (0, v2), (0, v3)], [], σ, n)).trans rfl
set_option maxRecDepth 100000 in
set_option maxHeartbeats 4000000 in
theorem mo_isShelf_e (d : Nat) (v1 : Int) (σ : am_M) (n : Nat) : mo_isShelf (d + 1) v1 σ n = if v1 < 0 then (some (0, σ, n)) else if v1 < 8 then (some (1, σ, n)) else some (0, σ, n) := (am_rn_eq true d 17 9 (0, [(110, 82), (0, v1)], [], σ, n)).trans rfl
set_option maxRecDepth 100000 in
set_option maxHeartbeats 4000000 in
theorem mo_no_e (d : Nat) (v1 : Int) (σ : am_M) (n : Nat) : mo_no (d + 1) v1 σ n = am_ix 83 (am_w (-v1)) (am_ix 83 (am_w (-v1)) (am_m (am_wr σ 83 (am_w (-v1)).toNat (am_w (σ 83 (am_w (-v1)).toNat + 1))) fun σ1 => some (v1, σ1, n))) := (am_rn_eq true d 18 12 (0, [(110, 82), (0, v1)], [], σ, n)).trans rfl
set_option maxRecDepth 100000 in
set_option maxHeartbeats 4000000 in
theorem mo_row_e (d : Nat) (v1 v2 v3 : Int) (σ : am_M) (n : Nat) : mo_row (d + 1) v1 v2 v3 σ n = (mo_isShelf d v1 σ n).bind fun q1 => if q1.1 = 0 then ((mo_no d (-1) q1.2.1 q1.2.2).bind fun q6 => some (q6.1, q6.2.1, q6.2.2)) else if v3 < 0 then ((mo_no d (-4) q1.2.1 q1.2.2).bind fun q5 => some (q5.1, q5.2.1, q5.2.2)) else if v2 < 0 then ((mo_no d (-6) q1.2.1 q1.2.2).bind fun q2 => some (q2.1, q2.2.1, q2.2.2)) else if 3 < v2 then ((mo_no d (-6) q1.2.1 q1.2.2).bind fun q4 => some (q4.1, q4.2.1, q4.2.2)) else if 160 < v3 then ((mo_no d (-7) q1.2.1 q1.2.2).bind fun q3 => some (q3.1, q3.2.1, q3.2.2)) else am_ix 98 v1 (am_m (am_wr q1.2.1 98 v1.toNat 1) fun σ1 => am_ix 99 v1 (am_m (am_wr σ1 99 v1.toNat v2) fun σ2 => am_ix 100 v1 (am_m (am_wr σ2 100 v1.toNat v3) fun σ3 => mo_row_79 d v1 0 σ3 q1.2.2))) := (am_rn_eq true d 19 32 (0, [(110, 82), (0, v1), (0, v2), (0, v3), (9, 0)], [], σ, n)).trans rfl
set_option maxRecDepth 100000 in
set_option maxHeartbeats 4000000 in
theorem mo_row_79_e (d : Nat) (v1 v4 : Int) (σ : am_M) (n : Nat) : mo_row_79 d v1 v4 σ n = if v4 < 160 then (am_ix 102 (am_w (am_w (160 * v1) + v4)) (am_m (am_wr σ 102 (am_w (am_w (160 * v1) + v4)).toNat 0) fun σ1 => mo_row_79 d v1 (am_w (v4 + 1)) σ1 n)) else some (1, σ, n) := (am_rn_eq true d 19 15 _).trans rfl
set_option maxRecDepth 100000 in
set_option maxHeartbeats 4000000 in
theorem sh_isExpression_e (d : Nat) (v0 : Int) (σ : am_M) (n : Nat) : sh_isExpression (d + 1) v0 σ n = am_if (¬ v0 < 0) (if σ v0.toNat 3 = (-1) then (some (0, σ, n)) else some (1, σ, n)) := (am_rn_eq true d 20 8 (0, [(106, v0)], [], σ, n)).trans rfl
set_option maxRecDepth 100000 in
set_option maxHeartbeats 4000000 in
theorem sh_isRow_e (d : Nat) (v0 : Int) (σ : am_M) (n : Nat) : sh_isRow (d + 1) v0 σ n = am_if (¬ v0 < 0) (if σ v0.toNat 2 = (-1) then (some (0, σ, n)) else some (1, σ, n)) := (am_rn_eq true d 21 8 (0, [(106, v0)], [], σ, n)).trans rfl
set_option maxRecDepth 100000 in
set_option maxHeartbeats 4000000 in
theorem pm_rowRefusal_e (d : Nat) (v1 : Int) (σ : am_M) (n : Nat) : pm_rowRefusal (d + 1) v1 σ n = (pm_isShelf d v1 σ n).bind fun q1 => if q1.1 = 0 then (some (1, q1.2.1, q1.2.2)) else am_ix 1 v1 (am_if (¬ am_fin 1 v1.toNat < 0) ((sh_isExpression d (am_fin 1 v1.toNat) q1.2.1 q1.2.2).bind fun q2 => if q2.1 = 0 then (am_ix 1 v1 (am_if (¬ am_fin 1 v1.toNat < 0) ((sh_isRow d (am_fin 1 v1.toNat) q2.2.1 q2.2.2).bind fun q3 => if q3.1 = 0 then (some (3, q3.2.1, q3.2.2)) else some (0, q3.2.1, q3.2.2)))) else some (2, q2.2.1, q2.2.2))) := (am_rn_eq true d 22 19 (0, [(109, 0), (0, v1)], [], σ, n)).trans rfl
set_option maxRecDepth 100000 in
set_option maxHeartbeats 4000000 in
theorem sh_hasElements_e (d : Nat) (v0 v1 v2 : Int) (σ : am_M) (n : Nat) : sh_hasElements (d + 1) v0 v1 v2 σ n = if v1 < 0 then (some (0, σ, n)) else if v2 < 0 then (some (0, σ, n)) else am_if (¬ v0 < 0) (if 0 < am_cmp (am_x (v1 + v2)) (σ v0.toNat 1) then (some (0, σ, n)) else some (1, σ, n)) := (am_rn_eq true d 23 18 (0, [(106, v0), (0, v1), (0, v2)], [], σ, n)).trans rfl
set_option maxRecDepth 100000 in
set_option maxHeartbeats 4000000 in
theorem sh_put_e (d : Nat) (v0 v1 v2 : Int) (σ : am_M) (n : Nat) : sh_put (d + 1) v0 v1 v2 σ n = am_if (¬ v0 < 0) ((sh_hasElements d v0 v1 1 σ n).bind fun q1 => if q1.1 = 0 then (some (0, q1.2.1, q1.2.2)) else am_if (¬ v0 < 0) (if q1.2.1 v0.toNat 2 = 0 then (am_if (¬ v0 < 0) (am_ix (am_fin v0.toNat 0) v1 (am_m (am_wr q1.2.1 (am_fin v0.toNat 0).toNat v1.toNat (am_w8 (am_w v2))) fun σ1 => some (0, σ1, q1.2.2)))) else if q1.2.1 v0.toNat 2 = 1 then (am_if (¬ v0 < 0) (am_ix (am_fin v0.toNat 0) v1 (am_m (am_wr q1.2.1 (am_fin v0.toNat 0).toNat v1.toNat (am_w16 (am_w v2))) fun σ2 => some (0, σ2, q1.2.2)))) else if q1.2.1 v0.toNat 2 = 2 then (am_if (¬ v0 < 0) (am_ix (am_fin v0.toNat 0) v1 (am_m (am_wr q1.2.1 (am_fin v0.toNat 0).toNat v1.toNat (am_w v2)) fun σ3 => some (0, σ3, q1.2.2)))) else am_if (¬ v0 < 0) (am_ix (am_fin v0.toNat 0) v1 (am_m (am_wr q1.2.1 (am_fin v0.toNat 0).toNat v1.toNat v2) fun σ4 => some (0, σ4, q1.2.2))))) := (am_rn_eq true d 24 19 (0, [(106, v0), (0, v1), (1, v2), (9, 0)], [], σ, n)).trans rfl
set_option maxRecDepth 100000 in
set_option maxHeartbeats 4000000 in
theorem pm_set_e (d : Nat) (v1 v2 v3 : Int) (σ : am_M) (n : Nat) : pm_set (d + 1) v1 v2 v3 σ n = (pm_rowRefusal d v1 σ n).bind fun q1 => if q1.1 = 0 then (am_ix 1 v1 (am_if (¬ am_fin 1 v1.toNat < 0) ((sh_hasElements d (am_fin 1 v1.toNat) v2 1 q1.2.1 q1.2.2).bind fun q2 => if q2.1 = 0 then ((pm_refuse d 5 q2.2.1 q2.2.2).bind fun q4 => some (q4.1, q4.2.1, q4.2.2)) else am_ix 1 v1 (am_if (¬ am_fin 1 v1.toNat < 0) ((sh_put d (am_fin 1 v1.toNat) v2 v3 q2.2.1 q2.2.2).bind fun q3 => some (1, q3.2.1, q3.2.2)))))) else (pm_refuse d q1.1 q1.2.1 q1.2.2).bind fun q5 => some (q5.1, q5.2.1, q5.2.2) := (am_rn_eq true d 25 24 (0, [(109, 0), (0, v1), (0, v2), (1, v3), (9, 0), (9, 0)], [], σ, n)).trans rfl
set_option maxRecDepth 100000 in
set_option maxHeartbeats 4000000 in
theorem mo_puts_e (d : Nat) (v1 v2 v3 : Int) (σ : am_M) (n : Nat) : mo_puts (d + 1) v1 v2 v3 σ n = am_ix 99 v1 (if σ 99 v1.toNat = 0 then (am_ix 102 (am_w (am_w (160 * v1) + v2)) (am_m (am_wr σ 102 (am_w (am_w (160 * v1) + v2)).toNat (am_w8 (am_w v3))) fun σ4 => some (0, σ4, n))) else am_ix 99 v1 (if σ 99 v1.toNat = 1 then (am_ix 102 (am_w (am_w (160 * v1) + v2)) (am_m (am_wr σ 102 (am_w (am_w (160 * v1) + v2)).toNat (am_w16 (am_w v3))) fun σ3 => some (0, σ3, n))) else am_ix 99 v1 (if σ 99 v1.toNat = 2 then (am_ix 102 (am_w (am_w (160 * v1) + v2)) (am_m (am_wr σ 102 (am_w (am_w (160 * v1) + v2)).toNat (am_w v3)) fun σ2 => some (0, σ2, n))) else am_ix 102 (am_w (am_w (160 * v1) + v2)) (am_m (am_wr σ 102 (am_w (am_w (160 * v1) + v2)).toNat v3) fun σ1 => some (0, σ1, n))))) := (am_rn_eq true d 26 31 (0, [(110, 82), (0, v1), (0, v2), (1, v3), (9, 0)], [], σ, n)).trans rfl
set_option maxRecDepth 100000 in
set_option maxHeartbeats 4000000 in
theorem mo_set_e (d : Nat) (v1 v2 v3 : Int) (σ : am_M) (n : Nat) : mo_set (d + 1) v1 v2 v3 σ n = (mo_isShelf d v1 σ n).bind fun q1 => if q1.1 = 0 then ((mo_no d (-1) q1.2.1 q1.2.2).bind fun q7 => some (q7.1, q7.2.1, q7.2.2)) else am_ix 98 v1 (if q1.2.1 98 v1.toNat = 2 then ((mo_no d (-2) q1.2.1 q1.2.2).bind fun q6 => some (q6.1, q6.2.1, q6.2.2)) else am_ix 98 v1 (if q1.2.1 98 v1.toNat = 0 then ((mo_no d (-3) q1.2.1 q1.2.2).bind fun q5 => some (q5.1, q5.2.1, q5.2.2)) else if v2 < 0 then ((mo_no d (-5) q1.2.1 q1.2.2).bind fun q2 => some (q2.1, q2.2.1, q2.2.2)) else am_ix 100 v1 (if v2 < q1.2.1 100 v1.toNat then ((mo_puts d v1 v2 v3 q1.2.1 q1.2.2).bind fun q3 => some (1, q3.2.1, q3.2.2)) else (mo_no d (-5) q1.2.1 q1.2.2).bind fun q4 => some (q4.1, q4.2.1, q4.2.2)))) := (am_rn_eq true d 27 31 (0, [(110, 82), (0, v1), (0, v2), (1, v3), (9, 0)], [], σ, n)).trans rfl
set_option maxRecDepth 100000 in
set_option maxHeartbeats 4000000 in
theorem pm_copy_e (d : Nat) (v1 v2 v3 v4 v5 : Int) (σ : am_M) (n : Nat) : pm_copy (d + 1) v1 v2 v3 v4 v5 σ n = (pm_isShelf d v1 σ n).bind fun q1 => if q1.1 = 0 then ((pm_refuse d 1 q1.2.1 q1.2.2).bind fun q2 => some (q2.1, q2.2.1, q2.2.2)) else (pm_isShelf d v2 q1.2.1 q1.2.2).bind fun q3 => if q3.1 = 0 then ((pm_refuse d 1 q3.2.1 q3.2.2).bind fun q6 => some (q6.1, q6.2.1, q6.2.2)) else am_ix 1 v1 (am_ix 1 v2 (am_if (¬ am_fin 1 v1.toNat < 0) ((sh_isRow d (am_fin 1 v1.toNat) q3.2.1 q3.2.2).bind fun q4 => if q4.1 = 0 then (pm_copy_70 d v3 v4 v5 (am_fin 1 v1.toNat) (am_fin 1 v2.toNat) 0 q4.2.1 q4.2.2) else am_if (¬ am_fin 1 v2.toNat < 0) ((sh_isRow d (am_fin 1 v2.toNat) q4.2.1 q4.2.2).bind fun q5 => if q5.1 = 0 then (pm_copy_70 d v3 v4 v5 (am_fin 1 v1.toNat) (am_fin 1 v2.toNat) 0 q5.2.1 q5.2.2) else am_if (¬ am_fin 1 v1.toNat < 0) (am_if (¬ am_fin 1 v2.toNat < 0) (if q5.2.1 (am_fin 1 v1.toNat).toNat 2 = q5.2.1 (am_fin 1 v2.toNat).toNat 2 then (pm_copy_70 d v3 v4 v5 (am_fin 1 v1.toNat) (am_fin 1 v2.toNat) 0 q5.2.1 q5.2.2) else pm_copy_70 d v3 v4 v5 (am_fin 1 v1.toNat) (am_fin 1 v2.toNat) 1 q5.2.1 q5.2.2)))))) := (am_rn_eq true d 28 30 (0, [(109, 0), (0, v1), (0, v2), (0, v3), (0, v4), (0, v5), (9, 0), (9, 0), (9, 0)], [], σ, n)).trans rfl
set_option maxRecDepth 100000 in
set_option maxHeartbeats 4000000 in
theorem pm_copy_70_e (d : Nat) (v3 v4 v5 v6 v7 s0 : Int) (σ : am_M) (n : Nat) : pm_copy_70 d v3 v4 v5 v6 v7 s0 σ n = am_if (¬ v6 < 0) ((sh_isExpression d v6 σ n).bind fun q1 => if q1.1 = 0 then (am_if (¬ v7 < 0) ((sh_isExpression d v7 q1.2.1 q1.2.2).bind fun q3 => if q3.1 = 0 then (if s0 = 0 then (am_if (¬ v6 < 0) ((sh_isRow d v6 q3.2.1 q3.2.2).bind fun q5 => if q5.1 = 0 then ((pm_refuse d 3 q5.2.1 q5.2.2).bind fun q6 => some (q6.1, q6.2.1, q6.2.2)) else am_if (¬ v7 < 0) ((sh_isRow d v7 q5.2.1 q5.2.2).bind fun q7 => if q7.1 = 0 then ((pm_refuse d 3 q7.2.1 q7.2.2).bind fun q13 => some (q13.1, q13.2.1, q13.2.2)) else if v5 < 0 then ((pm_refuse d 4 q7.2.1 q7.2.2).bind fun q12 => some (q12.1, q12.2.1, q12.2.2)) else am_if (¬ v6 < 0) ((sh_hasElements d v6 v3 v5 q7.2.1 q7.2.2).bind fun q8 => if q8.1 = 0 then ((pm_refuse d 5 q8.2.1 q8.2.2).bind fun q9 => some (q9.1, q9.2.1, q9.2.2)) else am_if (¬ v7 < 0) ((sh_hasElements d v7 v4 v5 q8.2.1 q8.2.2).bind fun q10 => if q10.1 = 0 then ((pm_refuse d 5 q10.2.1 q10.2.2).bind fun q11 => some (q11.1, q11.2.1, q11.2.2)) else am_if (¬ v6 < 0) (am_if (¬ v7 < 0) (am_a (am_fin v6.toNat 0) v3 (am_fin v7.toNat 0) v4 v5 (am_m (am_cp q10.2.1 (am_fin v6.toNat 0).toNat v3.toNat (am_fin v7.toNat 0).toNat v4.toNat v5.toNat) fun σ1 => some (1, σ1, q10.2.2))))))))) else (pm_refuse d 2 q3.2.1 q3.2.2).bind fun q14 => some (q14.1, q14.2.1, q14.2.2)) else (pm_refuse d 2 q3.2.1 q3.2.2).bind fun q4 => some (q4.1, q4.2.1, q4.2.2))) else (pm_refuse d 2 q1.2.1 q1.2.2).bind fun q2 => some (q2.1, q2.2.1, q2.2.2)) := (am_rn_eq true d 28 38 _).trans rfl
set_option maxRecDepth 100000 in
set_option maxHeartbeats 4000000 in
theorem mo_copy_e (d : Nat) (v1 v2 v3 v4 v5 : Int) (σ : am_M) (n : Nat) : mo_copy (d + 1) v1 v2 v3 v4 v5 σ n = (mo_isShelf d v1 σ n).bind fun q1 => if q1.1 = 0 then ((mo_no d (-1) q1.2.1 q1.2.2).bind fun q2 => some (q2.1, q2.2.1, q2.2.2)) else (mo_isShelf d v2 q1.2.1 q1.2.2).bind fun q3 => if q3.1 = 0 then ((mo_no d (-1) q3.2.1 q3.2.2).bind fun q7 => some (q7.1, q7.2.1, q7.2.2)) else am_ix 98 v1 (if q3.2.1 98 v1.toNat = 2 then ((mo_no d (-2) q3.2.1 q3.2.2).bind fun q4 => some (q4.1, q4.2.1, q4.2.2)) else am_ix 98 v2 (if q3.2.1 98 v2.toNat = 2 then ((mo_no d (-2) q3.2.1 q3.2.2).bind fun q5 => some (q5.1, q5.2.1, q5.2.2)) else am_ix 98 v1 (if q3.2.1 98 v1.toNat = 1 then (am_ix 98 v2 (if q3.2.1 98 v2.toNat = 1 then (am_ix 99 v1 (am_ix 99 v2 (if q3.2.1 99 v1.toNat = q3.2.1 99 v2.toNat then (mo_copy_84 d v1 v2 v3 v4 v5 q3.2.1 q3.2.2) else (mo_no d (-2) q3.2.1 q3.2.2).bind fun q6 => some (q6.1, q6.2.1, q6.2.2)))) else mo_copy_84 d v1 v2 v3 v4 v5 q3.2.1 q3.2.2)) else mo_copy_84 d v1 v2 v3 v4 v5 q3.2.1 q3.2.2))) := (am_rn_eq true d 29 46 (0, [(110, 82), (0, v1), (0, v2), (0, v3), (0, v4), (0, v5), (9, 0)], [], σ, n)).trans rfl
set_option maxRecDepth 100000 in
set_option maxHeartbeats 4000000 in
theorem mo_copy_84_e (d : Nat) (v1 v2 v3 v4 v5 : Int) (σ : am_M) (n : Nat) : mo_copy_84 d v1 v2 v3 v4 v5 σ n = am_ix 98 v1 (if σ 98 v1.toNat = 0 then ((mo_no d (-3) σ n).bind fun q1 => some (q1.1, q1.2.1, q1.2.2)) else am_ix 98 v2 (if σ 98 v2.toNat = 0 then ((mo_no d (-3) σ n).bind fun q7 => some (q7.1, q7.2.1, q7.2.2)) else if v5 < 0 then ((mo_no d (-4) σ n).bind fun q6 => some (q6.1, q6.2.1, q6.2.2)) else if v3 < 0 then ((mo_no d (-5) σ n).bind fun q2 => some (q2.1, q2.2.1, q2.2.2)) else if v4 < 0 then ((mo_no d (-5) σ n).bind fun q3 => some (q3.1, q3.2.1, q3.2.2)) else am_ix 100 v1 (if am_w (σ 100 v1.toNat - v5) < v3 then ((mo_no d (-5) σ n).bind fun q4 => some (q4.1, q4.2.1, q4.2.2)) else am_ix 100 v2 (if am_w (σ 100 v2.toNat - v5) < v4 then ((mo_no d (-5) σ n).bind fun q5 => some (q5.1, q5.2.1, q5.2.2)) else mo_copy_167 d v1 v2 v3 v4 v5 0 σ n)))) := (am_rn_eq true d 29 37 _).trans rfl
set_option maxRecDepth 100000 in
set_option maxHeartbeats 4000000 in
theorem mo_copy_167_e (d : Nat) (v1 v2 v3 v4 v5 v6 : Int) (σ : am_M) (n : Nat) : mo_copy_167 d v1 v2 v3 v4 v5 v6 σ n = if v6 < v5 then (am_ix 102 (am_w (am_w (am_w (160 * v1) + v3) + v6)) (am_ix 103 v6 (am_m (am_wr σ 103 v6.toNat (σ 102 (am_w (am_w (am_w (160 * v1) + v3) + v6)).toNat)) fun σ1 => mo_copy_167 d v1 v2 v3 v4 v5 (am_w (v6 + 1)) σ1 n))) else mo_copy_205 d v2 v4 v5 0 σ n := (am_rn_eq true d 29 20 _).trans rfl
set_option maxRecDepth 100000 in
set_option maxHeartbeats 4000000 in
theorem mo_copy_205_e (d : Nat) (v2 v4 v5 v6 : Int) (σ : am_M) (n : Nat) : mo_copy_205 d v2 v4 v5 v6 σ n = if v6 < v5 then (am_ix 103 v6 (am_ix 102 (am_w (am_w (am_w (160 * v2) + v4) + v6)) (am_m (am_wr σ 102 (am_w (am_w (am_w (160 * v2) + v4) + v6)).toNat (σ 103 v6.toNat)) fun σ1 => mo_copy_205 d v2 v4 v5 (am_w (v6 + 1)) σ1 n))) else some (1, σ, n) := (am_rn_eq true d 29 20 _).trans rfl
set_option maxRecDepth 100000 in
set_option maxHeartbeats 4000000 in
theorem pm_element_e (d : Nat) (v1 v2 : Int) (σ : am_M) (n : Nat) : pm_element (d + 1) v1 v2 σ n = (pm_isShelf d v1 σ n).bind fun q1 => if q1.1 = 0 then (some (0, q1.2.1, q1.2.2)) else am_ix 1 v1 (am_if (¬ am_fin 1 v1.toNat < 0) ((sh_isRow d (am_fin 1 v1.toNat) q1.2.1 q1.2.2).bind fun q2 => if q2.1 = 0 then (some (0, q2.2.1, q2.2.2)) else am_ix 1 v1 (am_if (¬ am_fin 1 v1.toNat < 0) ((sh_hasElements d (am_fin 1 v1.toNat) v2 1 q2.2.1 q2.2.2).bind fun q3 => if q3.1 = 0 then (some (0, q3.2.1, q3.2.2)) else am_ix 1 v1 (am_if (¬ am_fin 1 v1.toNat < 0) (am_ix (am_fin (am_fin 1 v1.toNat).toNat 0) v2 (some (q3.2.1 (am_fin (am_fin 1 v1.toNat).toNat 0).toNat v2.toNat, q3.2.1, q3.2.2)))))))) := (am_rn_eq true d 30 26 (0, [(109, 0), (0, v1), (0, v2)], [], σ, n)).trans rfl
set_option maxRecDepth 100000 in
set_option maxHeartbeats 4000000 in
theorem mo_element_e (d : Nat) (v1 v2 : Int) (σ : am_M) (n : Nat) : mo_element (d + 1) v1 v2 σ n = (mo_isShelf d v1 σ n).bind fun q1 => if q1.1 = 0 then (some (0, q1.2.1, q1.2.2)) else am_ix 98 v1 (if q1.2.1 98 v1.toNat = 1 then (if v2 < 0 then (some (0, q1.2.1, q1.2.2)) else am_ix 100 v1 (if v2 < q1.2.1 100 v1.toNat then (am_ix 102 (am_w (am_w (160 * v1) + v2)) (some (q1.2.1 102 (am_w (am_w (160 * v1) + v2)).toNat, q1.2.1, q1.2.2))) else some (0, q1.2.1, q1.2.2))) else some (0, q1.2.1, q1.2.2)) := (am_rn_eq true d 31 29 (0, [(110, 82), (0, v1), (0, v2)], [], σ, n)).trans rfl
set_option maxRecDepth 100000 in
set_option maxHeartbeats 4000000 in
theorem me_isExpression_e (d : Nat) (v1 : Int) (σ : am_M) (n : Nat) : me_isExpression (d + 1) v1 σ n = if v1 < 0 then (some (0, σ, n)) else if v1 < σ 2 3 then (some (1, σ, n)) else some (0, σ, n) := (am_rn_eq true d 32 10 (0, [(103, 2), (0, v1)], [], σ, n)).trans rfl
set_option maxRecDepth 100000 in
set_option maxHeartbeats 4000000 in
theorem sh_takeExpression_e (d : Nat) (v0 v1 : Int) (σ : am_M) (n : Nat) : sh_takeExpression (d + 1) v0 v1 σ n = am_if (¬ v0 < 0) (am_m (am_wr σ v0.toNat 2 (-1)) fun σ1 => am_if (¬ v0 < 0) (am_m (am_wr σ1 v0.toNat 1 0) fun σ2 => am_if (¬ v0 < 0) (am_m (am_wr σ2 v0.toNat 3 v1) fun σ3 => some (0, σ3, n)))) := (am_rn_eq true d 33 11 (0, [(106, v0), (0, v1)], [], σ, n)).trans rfl
set_option maxRecDepth 100000 in
set_option maxHeartbeats 4000000 in
theorem pm_show_e (d : Nat) (v1 v2 : Int) (σ : am_M) (n : Nat) : pm_show (d + 1) v1 v2 σ n = (pm_isShelf d v1 σ n).bind fun q1 => if q1.1 = 0 then ((pm_refuse d 1 q1.2.1 q1.2.2).bind fun q2 => some (q2.1, q2.2.1, q2.2.2)) else if v2 = (-1) then (pm_show_29 d v1 v2 q1.2.1 q1.2.2) else (me_isExpression d v2 q1.2.1 q1.2.2).bind fun q3 => if q3.1 = 0 then ((pm_refuse d 1 q3.2.1 q3.2.2).bind fun q4 => some (q4.1, q4.2.1, q4.2.2)) else pm_show_29 d v1 v2 q3.2.1 q3.2.2 := (am_rn_eq true d 34 16 (0, [(109, 0), (0, v1), (0, v2)], [], σ, n)).trans rfl
set_option maxRecDepth 100000 in
set_option maxHeartbeats 4000000 in
theorem pm_show_29_e (d : Nat) (v1 v2 : Int) (σ : am_M) (n : Nat) : pm_show_29 d v1 v2 σ n = am_ix 1 v1 (am_if (¬ am_fin 1 v1.toNat < 0) ((sh_takeExpression d (am_fin 1 v1.toNat) v2 σ n).bind fun q1 => if v2 = (-1) then (some (0, q1.2.1, q1.2.2)) else some (1, q1.2.1, q1.2.2))) := (am_rn_eq true d 34 13 _).trans rfl
set_option maxRecDepth 100000 in
set_option maxHeartbeats 4000000 in
theorem mo_isExpression_e (d : Nat) (v1 : Int) (σ : am_M) (n : Nat) : mo_isExpression (d + 1) v1 σ n = if v1 < 0 then (some (0, σ, n)) else if v1 < σ 82 1 then (some (1, σ, n)) else some (0, σ, n) := (am_rn_eq true d 35 10 (0, [(110, 82), (0, v1)], [], σ, n)).trans rfl
set_option maxRecDepth 100000 in
set_option maxHeartbeats 4000000 in
theorem mo_show_e (d : Nat) (v1 v2 : Int) (σ : am_M) (n : Nat) : mo_show (d + 1) v1 v2 σ n = (mo_isShelf d v1 σ n).bind fun q1 => if q1.1 = 0 then ((mo_no d (-1) q1.2.1 q1.2.2).bind fun q2 => some (q2.1, q2.2.1, q2.2.2)) else if v2 = (-1) then (if v2 = (-1) then (mo_show_42 d v1 v2 v1 0 q1.2.1 q1.2.2) else mo_show_42 d v1 v2 v1 2 q1.2.1 q1.2.2) else (mo_isExpression d v2 q1.2.1 q1.2.2).bind fun q3 => if q3.1 = 0 then ((mo_no d (-1) q3.2.1 q3.2.2).bind fun q4 => some (q4.1, q4.2.1, q4.2.2)) else if v2 = (-1) then (mo_show_42 d v1 v2 v1 0 q3.2.1 q3.2.2) else mo_show_42 d v1 v2 v1 2 q3.2.1 q3.2.2 := (am_rn_eq true d 36 20 (0, [(110, 82), (0, v1), (0, v2)], [], σ, n)).trans rfl
set_option maxRecDepth 100000 in
set_option maxHeartbeats 4000000 in
theorem mo_show_42_e (d : Nat) (v1 v2 s1 s2 : Int) (σ : am_M) (n : Nat) : mo_show_42 d v1 v2 s1 s2 σ n = am_ix 98 s1 (am_m (am_wr σ 98 s1.toNat s2) fun σ1 => am_ix 101 v1 (am_m (am_wr σ1 101 v1.toNat v2) fun σ2 => if v2 = (-1) then (some (0, σ2, n)) else some (1, σ2, n))) := (am_rn_eq true d 36 13 _).trans rfl
set_option maxRecDepth 100000 in
set_option maxHeartbeats 4000000 in
theorem pm_holds_e (d : Nat) (v1 : Int) (σ : am_M) (n : Nat) : pm_holds (d + 1) v1 σ n = (pm_isShelf d v1 σ n).bind fun q1 => if q1.1 = 0 then (some ((-1), q1.2.1, q1.2.2)) else am_ix 1 v1 (am_if (¬ am_fin 1 v1.toNat < 0) ((sh_isRow d (am_fin 1 v1.toNat) q1.2.1 q1.2.2).bind fun q2 => if q2.1 = 0 then (am_if (¬ am_fin 1 v1.toNat < 0) (some (q2.2.1 (am_fin 1 v1.toNat).toNat 3, q2.2.1, q2.2.2))) else am_if (¬ am_fin 1 v1.toNat < 0) (some (am_w (100 + q2.2.1 (am_fin 1 v1.toNat).toNat 2), q2.2.1, q2.2.2)))) := (am_rn_eq true d 37 18 (0, [(109, 0), (0, v1), (9, 0)], [], σ, n)).trans rfl
set_option maxRecDepth 100000 in
set_option maxHeartbeats 4000000 in
theorem mo_holds_e (d : Nat) (v1 : Int) (σ : am_M) (n : Nat) : mo_holds (d + 1) v1 σ n = (mo_isShelf d v1 σ n).bind fun q1 => if q1.1 = 0 then (some ((-1), q1.2.1, q1.2.2)) else am_ix 98 v1 (if q1.2.1 98 v1.toNat = 0 then (some ((-1), q1.2.1, q1.2.2)) else am_ix 98 v1 (if q1.2.1 98 v1.toNat = 1 then (am_ix 99 v1 (some (am_w (100 + q1.2.1 99 v1.toNat), q1.2.1, q1.2.2))) else am_ix 101 v1 (some (q1.2.1 101 v1.toNat, q1.2.1, q1.2.2)))) := (am_rn_eq true d 38 24 (0, [(110, 82), (0, v1)], [], σ, n)).trans rfl
set_option maxRecDepth 100000 in
set_option maxHeartbeats 4000000 in
theorem pm_isUnder_e (d : Nat) (v0 v1 : Int) (σ : am_M) (n : Nat) : pm_isUnder (d + 1) v0 v1 σ n = pm_isUnder_4 d v1 v0 0 σ n := (am_rn_eq true d 39 5 (0, [(0, v0), (0, v1), (9, 0), (9, 0)], [], σ, n)).trans rfl
set_option maxRecDepth 100000 in
set_option maxHeartbeats 4000000 in
theorem pm_isUnder_4_e (d : Nat) (v1 v2 v3 : Int) (σ : am_M) (n : Nat) : pm_isUnder_4 d v1 v2 v3 σ n = if 6 < v3 then (pm_isUnder_37 d v1 v2 σ n) else if v2 < 0 then (pm_isUnder_37 d v1 v2 σ n) else if 6 < v2 then (pm_isUnder_37 d v1 v2 σ n) else if v2 = v1 then (pm_isUnder_37 d v1 v2 σ n) else am_cx 1000 v2 (pm_isUnder_4 d v1 (am_kc 1000 v2.toNat) (am_w (v3 + 1)) σ n) := (am_rn_eq true d 39 18 _).trans rfl
set_option maxRecDepth 100000 in
set_option maxHeartbeats 4000000 in
theorem pm_isUnder_37_e (d : Nat) (v1 v2 : Int) (σ : am_M) (n : Nat) : pm_isUnder_37 d v1 v2 σ n = if v2 = v1 then (some (1, σ, n)) else some (0, σ, n) := (am_rn_eq true d 39 7 _).trans rfl
set_option maxRecDepth 100000 in
set_option maxHeartbeats 4000000 in
theorem me_isGone_e (d : Nat) (v1 : Int) (σ : am_M) (n : Nat) : me_isGone (d + 1) v1 σ n = am_ix 9 v1 (if σ 9 v1.toNat = (-1) then (some (1, σ, n)) else some (0, σ, n)) := (am_rn_eq true d 40 10 (0, [(103, 2), (0, v1)], [], σ, n)).trans rfl
set_option maxRecDepth 100000 in
set_option maxHeartbeats 4000000 in
theorem pm_saying_e (d : Nat) (v1 v2 : Int) (σ : am_M) (n : Nat) : pm_saying (d + 1) v1 v2 σ n = (me_isGone d v1 σ n).bind fun q1 => if v2 = 0 then (if q1.1 = 0 then (am_ix 9 v1 (some (q1.2.1 9 v1.toNat, q1.2.1, q1.2.2))) else some (99, q1.2.1, q1.2.2)) else if v2 = 2 then (if q1.1 = 0 then (am_ix 7 v1 (some (q1.2.1 7 v1.toNat, q1.2.1, q1.2.2))) else some (99, q1.2.1, q1.2.2)) else if v2 = 6 then (am_ix 6 v1 (some (am_w (10 + q1.2.1 6 v1.toNat), q1.2.1, q1.2.2))) else am_ix 6 v1 (some (q1.2.1 6 v1.toNat, q1.2.1, q1.2.2)) := (am_rn_eq true d 41 16 (0, [(109, 0), (0, v1), (0, v2), (9, 0)], [], σ, n)).trans rfl
set_option maxRecDepth 100000 in
set_option maxHeartbeats 4000000 in
theorem pm_says_e (d : Nat) (v1 v2 : Int) (σ : am_M) (n : Nat) : pm_says (d + 1) v1 v2 σ n = (pm_isShelf d v1 σ n).bind fun q1 => if q1.1 = 0 then ((pm_refuse d 1 q1.2.1 q1.2.2).bind fun q2 => some (q2.1, q2.2.1, q2.2.2)) else if v2 < 0 then ((pm_refuse d 1 q1.2.1 q1.2.2).bind fun q3 => some (q3.1, q3.2.1, q3.2.2)) else if 6 < v2 then ((pm_refuse d 1 q1.2.1 q1.2.2).bind fun q11 => some (q11.1, q11.2.1, q11.2.2)) else am_ix 1 v1 (am_if (¬ am_fin 1 v1.toNat < 0) ((sh_isRow d (am_fin 1 v1.toNat) q1.2.1 q1.2.2).bind fun q4 => if q4.1 = 0 then (am_if (¬ am_fin 1 v1.toNat < 0) ((me_isExpression d (q4.2.1 (am_fin 1 v1.toNat).toNat 3) q4.2.1 q4.2.2).bind fun q5 => if q5.1 = 0 then ((pm_refuse d 3 q5.2.1 q5.2.2).bind fun q9 => some (q9.1, q9.2.1, q9.2.2)) else am_ix 5 (q4.2.1 (am_fin 1 v1.toNat).toNat 3) ((pm_isUnder d (q5.2.1 5 (q4.2.1 (am_fin 1 v1.toNat).toNat 3).toNat) v2 q5.2.1 q5.2.2).bind fun q6 => if q6.1 = 0 then ((pm_refuse d 2 q6.2.1 q6.2.2).bind fun q8 => some (q8.1, q8.2.1, q8.2.2)) else (pm_saying d (q4.2.1 (am_fin 1 v1.toNat).toNat 3) v2 q6.2.1 q6.2.2).bind fun q7 => some (q7.1, q7.2.1, q7.2.2)))) else (pm_refuse d 2 q4.2.1 q4.2.2).bind fun q10 => some (q10.1, q10.2.1, q10.2.2))) := (am_rn_eq true d 42 38 (0, [(109, 0), (0, v1), (0, v2), (9, 0), (9, 0)], [], σ, n)).trans rfl
set_option maxRecDepth 100000 in
set_option maxHeartbeats 4000000 in
theorem mo_isFrom_e (d : Nat) (v1 v2 v3 : Int) (σ : am_M) (n : Nat) : mo_isFrom (d + 1) v1 v2 v3 σ n = if v1 < v2 then (some (0, σ, n)) else if v3 < v1 then (some (0, σ, n)) else some (1, σ, n) := (am_rn_eq true d 43 10 (0, [(110, 82), (0, v1), (0, v2), (0, v3)], [], σ, n)).trans rfl
set_option maxRecDepth 100000 in
set_option maxHeartbeats 4000000 in
theorem mo_isOf_e (d : Nat) (v1 v2 : Int) (σ : am_M) (n : Nat) : mo_isOf (d + 1) v1 v2 σ n = if v2 = 0 then (some (1, σ, n)) else if v1 = v2 then (some (1, σ, n)) else if v2 = 2 then (if v1 = 3 then (some (1, σ, n)) else if v1 = 4 then (some (1, σ, n)) else mo_isOf_24 d v1 v2 σ n) else mo_isOf_24 d v1 v2 σ n := (am_rn_eq true d 44 18 (0, [(110, 82), (0, v1), (0, v2)], [], σ, n)).trans rfl
set_option maxRecDepth 100000 in
set_option maxHeartbeats 4000000 in
theorem mo_isOf_24_e (d : Nat) (v1 v2 : Int) (σ : am_M) (n : Nat) : mo_isOf_24 d v1 v2 σ n = if v2 = 5 then (if v1 = 6 then (some (1, σ, n)) else some (0, σ, n)) else some (0, σ, n) := (am_rn_eq true d 44 10 _).trans rfl
set_option maxRecDepth 100000 in
set_option maxHeartbeats 4000000 in
theorem mo_root_e (d : Nat) (v1 : Int) (σ : am_M) (n : Nat) : mo_root (d + 1) v1 σ n = mo_root_2 d v1 σ n := (am_rn_eq true d 45 3 (0, [(110, 82), (0, v1), (9, 0)], [], σ, n)).trans rfl
set_option maxRecDepth 100000 in
set_option maxHeartbeats 4000000 in
theorem mo_root_2_e (d : Nat) (v2 : Int) (σ : am_M) (n : Nat) : mo_root_2 d v2 σ n = am_ix 94 v2 (if σ 94 v2.toNat = v2 then (some (v2, σ, n)) else am_ix 94 v2 (mo_root_2 d (σ 94 v2.toNat) σ n)) := (am_rn_eq true d 45 13 _).trans rfl
set_option maxRecDepth 100000 in
set_option maxHeartbeats 4000000 in
theorem mo_says_e (d : Nat) (v1 v2 : Int) (σ : am_M) (n : Nat) : mo_says (d + 1) v1 v2 σ n = (mo_isShelf d v1 σ n).bind fun q1 => if q1.1 = 0 then ((mo_no d (-1) q1.2.1 q1.2.2).bind fun q2 => some (q2.1, q2.2.1, q2.2.2)) else (mo_isFrom d v2 0 6 q1.2.1 q1.2.2).bind fun q3 => if q3.1 = 0 then ((mo_no d (-1) q3.2.1 q3.2.2).bind fun q7 => some (q7.1, q7.2.1, q7.2.2)) else am_ix 98 v1 (if q3.2.1 98 v1.toNat = 1 then ((mo_no d (-2) q3.2.1 q3.2.2).bind fun q4 => some (q4.1, q4.2.1, q4.2.2)) else am_ix 98 v1 (if q3.2.1 98 v1.toNat = 2 then (am_ix 101 v1 (am_ix 89 (q3.2.1 101 v1.toNat) ((mo_isOf d (q3.2.1 89 (q3.2.1 101 v1.toNat).toNat) v2 q3.2.1 q3.2.2).bind fun q5 => if q5.1 = 0 then ((mo_no d (-2) q5.2.1 q5.2.2).bind fun q6 => some (q6.1, q6.2.1, q6.2.2)) else mo_says_71 d v1 v2 q5.2.1 q5.2.2))) else mo_says_71 d v1 v2 q3.2.1 q3.2.2)) := (am_rn_eq true d 46 38 (0, [(110, 82), (0, v1), (0, v2), (9, 0)], [], σ, n)).trans rfl
set_option maxRecDepth 100000 in
set_option maxHeartbeats 4000000 in
theorem mo_says_71_e (d : Nat) (v1 v2 : Int) (σ : am_M) (n : Nat) : mo_says_71 d v1 v2 σ n = am_ix 98 v1 (if σ 98 v1.toNat = 0 then ((mo_no d (-3) σ n).bind fun q3 => some (q3.1, q3.2.1, q3.2.2)) else am_ix 101 v1 (if v2 = 0 then (am_ix 95 (σ 101 v1.toNat) (if σ 95 (σ 101 v1.toNat).toNat = 0 then (am_ix 93 (σ 101 v1.toNat) ((mo_root d (σ 93 (σ 101 v1.toNat).toNat) σ n).bind fun q2 => some (q2.1, q2.2.1, q2.2.2))) else some (99, σ, n))) else if v2 = 2 then (am_ix 95 (σ 101 v1.toNat) (if σ 95 (σ 101 v1.toNat).toNat = 0 then (am_ix 91 (σ 101 v1.toNat) ((mo_root d (σ 91 (σ 101 v1.toNat).toNat) σ n).bind fun q1 => some (q1.1, q1.2.1, q1.2.2))) else some (99, σ, n))) else if v2 = 6 then (am_ix 90 (σ 101 v1.toNat) (some (am_w (10 + σ 90 (σ 101 v1.toNat).toNat), σ, n))) else am_ix 90 (σ 101 v1.toNat) (some (σ 90 (σ 101 v1.toNat).toNat, σ, n)))) := (am_rn_eq true d 46 28 _).trans rfl
set_option maxRecDepth 100000 in
set_option maxHeartbeats 4000000 in
theorem pm_isColumn_e (d : Nat) (v0 : Int) (σ : am_M) (n : Nat) : pm_isColumn (d + 1) v0 σ n = if v0 < 0 then (some (0, σ, n)) else if v0 < 4 then (some (1, σ, n)) else some (0, σ, n) := (am_rn_eq true d 47 9 (0, [(0, v0)], [], σ, n)).trans rfl
set_option maxRecDepth 100000 in
set_option maxHeartbeats 4000000 in
theorem pm_hasColumn_e (d : Nat) (v0 v1 : Int) (σ : am_M) (n : Nat) : pm_hasColumn (d + 1) v0 v1 σ n = (pm_isColumn d v1 σ n).bind fun q1 => if q1.1 = 0 then (some (0, q1.2.1, q1.2.2)) else if am_and (am_shr v0 v1) 1 = 1 then (some (1, q1.2.1, q1.2.2)) else some (0, q1.2.1, q1.2.2) := (am_rn_eq true d 48 14 (0, [(0, v0), (0, v1)], [], σ, n)).trans rfl
set_option maxRecDepth 100000 in
set_option maxHeartbeats 4000000 in
theorem me_addTable_e (d : Nat) (v1 v2 v3 v4 : Int) (σ : am_M) (n : Nat) : me_addTable (d + 1) v1 v2 v3 v4 σ n = am_m (am_wr σ 2 0 (am_w (σ 2 0 + 1))) fun σ1 => am_ix 3 (am_w (σ 2 0 * 4)) (am_m (am_wr σ1 3 (am_w (σ 2 0 * 4)).toNat v1) fun σ2 => am_ix 3 (am_w (am_w (σ 2 0 * 4) + 1)) (am_m (am_wr σ2 3 (am_w (am_w (σ 2 0 * 4) + 1)).toNat v2) fun σ3 => am_ix 3 (am_w (am_w (σ 2 0 * 4) + 2)) (am_m (am_wr σ3 3 (am_w (am_w (σ 2 0 * 4) + 2)).toNat v3) fun σ4 => am_ix 3 (am_w (am_w (σ 2 0 * 4) + 3)) (am_m (am_wr σ4 3 (am_w (am_w (σ 2 0 * 4) + 3)).toNat v4) fun σ5 => some (σ 2 0, σ5, n))))) := (am_rn_eq true d 49 46 (0, [(103, 2), (0, v1), (0, v2), (0, v3), (0, v4), (9, 0)], [], σ, n)).trans rfl
set_option maxRecDepth 100000 in
set_option maxHeartbeats 4000000 in
theorem pm_table_e (d : Nat) (v1 v2 v3 v4 : Int) (σ : am_M) (n : Nat) : pm_table (d + 1) v1 v2 v3 v4 σ n = if v3 = (-1) then (pm_table_18 d v1 v2 v3 v4 1 σ n) else (pm_hasColumn d v2 v3 σ n).bind fun q1 => if q1.1 = 0 then (pm_table_18 d v1 v2 v3 v4 0 q1.2.1 q1.2.2) else pm_table_18 d v1 v2 v3 v4 1 q1.2.1 q1.2.2 := (am_rn_eq true d 50 10 (0, [(109, 0), (0, v1), (0, v2), (0, v3), (0, v4), (9, 0), (9, 0)], [], σ, n)).trans rfl
set_option maxRecDepth 100000 in
set_option maxHeartbeats 4000000 in
theorem pm_table_18_e (d : Nat) (v1 v2 v3 v4 s0 : Int) (σ : am_M) (n : Nat) : pm_table_18 d v1 v2 v3 v4 s0 σ n = if v4 = 4 then (pm_table_40 d v1 v2 v3 v4 s0 1 σ n) else (pm_hasColumn d v2 v4 σ n).bind fun q1 => if q1.1 = 0 then (pm_table_40 d v1 v2 v3 v4 s0 0 q1.2.1 q1.2.2) else pm_table_40 d v1 v2 v3 v4 s0 1 q1.2.1 q1.2.2 := (am_rn_eq true d 50 11 _).trans rfl
set_option maxRecDepth 100000 in
set_option maxHeartbeats 4000000 in
theorem pm_table_40_e (d : Nat) (v1 v2 v3 v4 v5 s0 : Int) (σ : am_M) (n : Nat) : pm_table_40 d v1 v2 v3 v4 v5 s0 σ n = if v1 < 1 then ((pm_refuse d 6 σ n).bind fun q1 => some (q1.1, q1.2.1, q1.2.2)) else if 1000000 < v1 then ((pm_refuse d 6 σ n).bind fun q2 => some (q2.1, q2.2.1, q2.2.2)) else if v2 < 1 then ((pm_refuse d 6 σ n).bind fun q3 => some (q3.1, q3.2.1, q3.2.2)) else if 15 < v2 then ((pm_refuse d 6 σ n).bind fun q4 => some (q4.1, q4.2.1, q4.2.2)) else if v5 = 0 then ((pm_refuse d 6 σ n).bind fun q5 => some (q5.1, q5.2.1, q5.2.2)) else if s0 = 0 then ((pm_refuse d 6 σ n).bind fun q8 => some (q8.1, q8.2.1, q8.2.2)) else if σ 2 0 < 8 then ((me_addTable d v1 v2 v3 v4 σ n).bind fun q6 => some (q6.1, q6.2.1, q6.2.2)) else (pm_refuse d 7 σ n).bind fun q7 => some (q7.1, q7.2.1, q7.2.2) := (am_rn_eq true d 50 31 _).trans rfl
set_option maxRecDepth 100000 in
set_option maxHeartbeats 4000000 in
theorem mo_isColumn_e (d : Nat) (v1 v2 : Int) (σ : am_M) (n : Nat) : mo_isColumn (d + 1) v1 v2 σ n = if v2 < 0 then (some (0, σ, n)) else if v2 < 4 then (if am_and (am_shr v1 v2) 1 = 1 then (some (1, σ, n)) else some (0, σ, n)) else some (0, σ, n) := (am_rn_eq true d 51 16 (0, [(110, 82), (0, v1), (0, v2)], [], σ, n)).trans rfl
set_option maxRecDepth 100000 in
set_option maxHeartbeats 4000000 in
theorem mo_table_e (d : Nat) (v1 v2 v3 v4 : Int) (σ : am_M) (n : Nat) : mo_table (d + 1) v1 v2 v3 v4 σ n = if v1 < 1 then ((mo_no d (-6) σ n).bind fun q1 => some (q1.1, q1.2.1, q1.2.2)) else if 1000000 < v1 then ((mo_no d (-6) σ n).bind fun q2 => some (q2.1, q2.2.1, q2.2.2)) else if v2 < 1 then ((mo_no d (-6) σ n).bind fun q3 => some (q3.1, q3.2.1, q3.2.2)) else if 15 < v2 then ((mo_no d (-6) σ n).bind fun q4 => some (q4.1, q4.2.1, q4.2.2)) else if v3 = (-1) then (if v4 = 4 then (mo_table_59 d v1 v2 v3 v4 σ n) else (mo_isColumn d v2 v4 σ n).bind fun q5 => if q5.1 = 0 then ((mo_no d (-6) q5.2.1 q5.2.2).bind fun q6 => some (q6.1, q6.2.1, q6.2.2)) else mo_table_59 d v1 v2 v3 v4 q5.2.1 q5.2.2) else (mo_isColumn d v2 v3 σ n).bind fun q7 => if q7.1 = 0 then ((mo_no d (-6) q7.2.1 q7.2.2).bind fun q8 => some (q8.1, q8.2.1, q8.2.2)) else if v4 = 4 then (mo_table_59 d v1 v2 v3 v4 q7.2.1 q7.2.2) else (mo_isColumn d v2 v4 q7.2.1 q7.2.2).bind fun q9 => if q9.1 = 0 then ((mo_no d (-6) q9.2.1 q9.2.2).bind fun q10 => some (q10.1, q10.2.1, q10.2.2)) else mo_table_59 d v1 v2 v3 v4 q9.2.1 q9.2.2 := (am_rn_eq true d 52 33 (0, [(110, 82), (0, v1), (0, v2), (0, v3), (0, v4)], [], σ, n)).trans rfl
set_option maxRecDepth 100000 in
set_option maxHeartbeats 4000000 in
theorem mo_table_59_e (d : Nat) (v1 v2 v3 v4 : Int) (σ : am_M) (n : Nat) : mo_table_59 d v1 v2 v3 v4 σ n = if σ 82 0 = 8 then ((mo_no d (-7) σ n).bind fun q1 => some (q1.1, q1.2.1, q1.2.2)) else am_ix 85 (σ 82 0) (am_m (am_wr σ 85 (σ 82 0).toNat v1) fun σ1 => am_ix 86 (σ1 82 0) (am_m (am_wr σ1 86 (σ1 82 0).toNat v2) fun σ2 => am_ix 87 (σ2 82 0) (am_m (am_wr σ2 87 (σ2 82 0).toNat v3) fun σ3 => am_ix 88 (σ3 82 0) (am_m (am_wr σ3 88 (σ3 82 0).toNat v4) fun σ4 => am_m (am_wr σ4 82 0 (am_w (σ4 82 0 + 1))) fun σ5 => some (am_w (σ5 82 0 - 1), σ5, n))))) := (am_rn_eq true d 52 40 _).trans rfl
set_option maxRecDepth 100000 in
set_option maxHeartbeats 4000000 in
theorem me_isTable_e (d : Nat) (v1 : Int) (σ : am_M) (n : Nat) : me_isTable (d + 1) v1 σ n = if v1 < 0 then (some (0, σ, n)) else if v1 < σ 2 0 then (some (1, σ, n)) else some (0, σ, n) := (am_rn_eq true d 53 10 (0, [(103, 2), (0, v1)], [], σ, n)).trans rfl
set_option maxRecDepth 100000 in
set_option maxHeartbeats 4000000 in
theorem me_factOfTable_e (d : Nat) (v1 v2 : Int) (σ : am_M) (n : Nat) : me_factOfTable (d + 1) v1 v2 σ n = (me_isTable d v1 σ n).bind fun q1 => if q1.1 = 0 then (some (0, q1.2.1, q1.2.2)) else if v2 < 0 then (some (0, q1.2.1, q1.2.2)) else if v2 < 4 then (am_ix 3 (am_w (am_w (v1 * 4) + v2)) (some (q1.2.1 3 (am_w (am_w (v1 * 4) + v2)).toNat, q1.2.1, q1.2.2))) else some (0, q1.2.1, q1.2.2) := (am_rn_eq true d 54 20 (0, [(103, 2), (0, v1), (0, v2)], [], σ, n)).trans rfl
set_option maxRecDepth 100000 in
set_option maxHeartbeats 4000000 in
theorem pm_tableOf_e (d : Nat) (v1 v2 : Int) (σ : am_M) (n : Nat) : pm_tableOf (d + 1) v1 v2 σ n = (me_isTable d v1 σ n).bind fun q1 => if q1.1 = 0 then ((pm_refuse d 5 q1.2.1 q1.2.2).bind fun q2 => some (q2.1, q2.2.1, q2.2.2)) else if v2 < 0 then ((pm_refuse d 5 q1.2.1 q1.2.2).bind fun q3 => some (q3.1, q3.2.1, q3.2.2)) else if 3 < v2 then ((pm_refuse d 5 q1.2.1 q1.2.2).bind fun q5 => some (q5.1, q5.2.1, q5.2.2)) else (me_factOfTable d v1 v2 q1.2.1 q1.2.2).bind fun q4 => some (q4.1, q4.2.1, q4.2.2) := (am_rn_eq true d 55 17 (0, [(109, 0), (0, v1), (0, v2)], [], σ, n)).trans rfl
set_option maxRecDepth 100000 in
set_option maxHeartbeats 4000000 in
theorem mo_tableOf_e (d : Nat) (v1 v2 : Int) (σ : am_M) (n : Nat) : mo_tableOf (d + 1) v1 v2 σ n = if v1 < 0 then ((mo_no d (-5) σ n).bind fun q1 => some (q1.1, q1.2.1, q1.2.2)) else if v1 < σ 82 0 then ((mo_isFrom d v2 0 3 σ n).bind fun q3 => if q3.1 = 0 then ((mo_no d (-5) q3.2.1 q3.2.2).bind fun q4 => some (q4.1, q4.2.1, q4.2.2)) else if v2 = 0 then (am_ix 85 v1 (some (q3.2.1 85 v1.toNat, q3.2.1, q3.2.2))) else if v2 = 1 then (am_ix 86 v1 (some (q3.2.1 86 v1.toNat, q3.2.1, q3.2.2))) else if v2 = 2 then (am_ix 87 v1 (some (q3.2.1 87 v1.toNat, q3.2.1, q3.2.2))) else am_ix 88 v1 (some (q3.2.1 88 v1.toNat, q3.2.1, q3.2.2))) else (mo_no d (-5) σ n).bind fun q2 => some (q2.1, q2.2.1, q2.2.2) := (am_rn_eq true d 56 27 (0, [(110, 82), (0, v1), (0, v2)], [], σ, n)).trans rfl
set_option maxRecDepth 100000 in
set_option maxHeartbeats 4000000 in
theorem pm_distinct_e (d : Nat) (v1 v2 : Int) (σ : am_M) (n : Nat) : pm_distinct (d + 1) v1 v2 σ n = (pm_isColumn d v1 σ n).bind fun q1 => if q1.1 = 0 then ((pm_refuse d 1 q1.2.1 q1.2.2).bind fun q4 => some (q4.1, q4.2.1, q4.2.2)) else if v2 < 1 then ((pm_refuse d 6 q1.2.1 q1.2.2).bind fun q2 => some (q2.1, q2.2.1, q2.2.2)) else if 1000000 < v2 then ((pm_refuse d 6 q1.2.1 q1.2.2).bind fun q3 => some (q3.1, q3.2.1, q3.2.2)) else am_ix 4 v1 (am_ix 4 v1 (am_m (am_wr q1.2.1 4 v1.toNat v2) fun σ1 => am_m (am_wr σ1 2 17 (am_w (σ1 2 17 + 1))) fun σ2 => some (q1.2.1 4 v1.toNat, σ2, q1.2.2))) := (am_rn_eq true d 57 31 (0, [(109, 0), (0, v1), (0, v2), (9, 0)], [], σ, n)).trans rfl
set_option maxRecDepth 100000 in
set_option maxHeartbeats 4000000 in
theorem mo_distinct_e (d : Nat) (v1 v2 : Int) (σ : am_M) (n : Nat) : mo_distinct (d + 1) v1 v2 σ n = (mo_isFrom d v1 0 3 σ n).bind fun q1 => if q1.1 = 0 then ((mo_no d (-1) q1.2.1 q1.2.2).bind fun q4 => some (q4.1, q4.2.1, q4.2.2)) else if v2 < 1 then ((mo_no d (-6) q1.2.1 q1.2.2).bind fun q2 => some (q2.1, q2.2.1, q2.2.2)) else if 1000000 < v2 then ((mo_no d (-6) q1.2.1 q1.2.2).bind fun q3 => some (q3.1, q3.2.1, q3.2.2)) else am_ix 84 v1 (am_ix 84 v1 (am_m (am_wr q1.2.1 84 v1.toNat v2) fun σ1 => some (q1.2.1 84 v1.toNat, σ1, q1.2.2))) := (am_rn_eq true d 58 25 (0, [(110, 82), (0, v1), (0, v2), (9, 0)], [], σ, n)).trans rfl
set_option maxRecDepth 100000 in
set_option maxHeartbeats 4000000 in
theorem me_alike_e (d : Nat) (v1 v2 v3 v4 : Int) (σ : am_M) (n : Nat) : me_alike (d + 1) v1 v2 v3 v4 σ n = me_alike_3 d v1 v2 v3 v4 0 σ n := (am_rn_eq true d 59 3 (0, [(103, 2), (0, v1), (0, v2), (0, v3), (0, v4), (9, 0)], [], σ, n)).trans rfl
set_option maxRecDepth 100000 in
set_option maxHeartbeats 4000000 in
theorem me_alike_3_e (d : Nat) (v1 v2 v3 v4 v5 : Int) (σ : am_M) (n : Nat) : me_alike_3 d v1 v2 v3 v4 v5 σ n = if v5 < σ 2 3 then (am_ix 5 v5 (if σ 5 v5.toNat = v1 then (am_ix 6 v5 (if σ 6 v5.toNat = v2 then (am_ix 7 v5 (if σ 7 v5.toNat = v3 then (am_ix 8 v5 (if σ 8 v5.toNat = v4 then ((me_isGone d v5 σ n).bind fun q1 => if q1.1 = 0 then (some (v5, q1.2.1, q1.2.2)) else me_alike_3 d v1 v2 v3 v4 (am_w (v5 + 1)) q1.2.1 q1.2.2) else me_alike_3 d v1 v2 v3 v4 (am_w (v5 + 1)) σ n)) else me_alike_3 d v1 v2 v3 v4 (am_w (v5 + 1)) σ n)) else me_alike_3 d v1 v2 v3 v4 (am_w (v5 + 1)) σ n)) else me_alike_3 d v1 v2 v3 v4 (am_w (v5 + 1)) σ n)) else some ((-1), σ, n) := (am_rn_eq true d 59 35 _).trans rfl
set_option maxRecDepth 100000 in
set_option maxHeartbeats 4000000 in
theorem me_isGroup_e (d : Nat) (v1 : Int) (σ : am_M) (n : Nat) : me_isGroup (d + 1) v1 σ n = if v1 < 0 then (some (0, σ, n)) else if v1 < σ 2 9 then (some (1, σ, n)) else some (0, σ, n) := (am_rn_eq true d 60 10 (0, [(103, 2), (0, v1)], [], σ, n)).trans rfl
set_option maxRecDepth 100000 in
set_option maxHeartbeats 4000000 in
theorem me_columnsOf_e (d : Nat) (v1 : Int) (σ : am_M) (n : Nat) : me_columnsOf (d + 1) v1 σ n = (me_isGroup d v1 σ n).bind fun q1 => if q1.1 = 0 then (some (0, q1.2.1, q1.2.2)) else am_ix 11 v1 (some (q1.2.1 11 v1.toNat, q1.2.1, q1.2.2)) := (am_rn_eq true d 61 11 (0, [(103, 2), (0, v1)], [], σ, n)).trans rfl
set_option maxRecDepth 100000 in
set_option maxHeartbeats 4000000 in
theorem pm_columnsBy_e (d : Nat) (v0 v1 v2 v3 : Int) (σ : am_M) (n : Nat) : pm_columnsBy (d + 1) v0 v1 v2 v3 σ n = if v0 = 4 then ((pm_isColumn d v1 σ n).bind fun q1 => if q1.1 = 0 then (some (0, q1.2.1, q1.2.2)) else some (am_shl 1 v1, q1.2.1, q1.2.2)) else if v0 = 5 then (some (am_or v2 v3, σ, n)) else some (v2, σ, n) := (am_rn_eq true d 62 11 (0, [(0, v0), (0, v1), (0, v2), (0, v3)], [], σ, n)).trans rfl
set_option maxRecDepth 100000 in
set_option maxHeartbeats 4000000 in
theorem me_addTo_e (d : Nat) (v1 v2 v3 v4 v5 : Int) (σ : am_M) (n : Nat) : me_addTo (d + 1) v1 v2 v3 v4 v5 σ n = if σ 2 3 < 64 then (am_m (am_wr σ 2 3 (am_w (σ 2 3 + 1))) fun σ1 => am_ix 5 (σ 2 3) (am_m (am_wr σ1 5 (σ 2 3).toNat v2) fun σ2 => am_ix 6 (σ 2 3) (am_m (am_wr σ2 6 (σ 2 3).toNat v3) fun σ3 => am_ix 7 (σ 2 3) (am_m (am_wr σ3 7 (σ 2 3).toNat v4) fun σ4 => am_ix 8 (σ 2 3) (am_m (am_wr σ4 8 (σ 2 3).toNat v5) fun σ5 => am_ix 9 (σ 2 3) (am_m (am_wr σ5 9 (σ 2 3).toNat v1) fun σ6 => am_ix 12 v1 (am_ix 12 v1 (am_m (am_wr σ6 12 v1.toNat (am_lor (σ6 12 v1.toNat) (am_lshl 1 (σ 2 3)))) fun σ7 => am_m (am_wr σ7 2 17 (am_w (σ7 2 17 + 1))) fun σ8 => some (0, σ8, n))))))))) else some (0, σ, n) := (am_rn_eq true d 63 56 (0, [(103, 2), (0, v1), (0, v2), (0, v3), (0, v4), (0, v5), (9, 0)], [], σ, n)).trans rfl
set_option maxRecDepth 100000 in
set_option maxHeartbeats 4000000 in
theorem me_tell_e (d : Nat) (v1 v2 v3 v4 : Int) (σ : am_M) (n : Nat) : me_tell (d + 1) v1 v2 v3 v4 σ n = (me_alike d v1 v2 v3 v4 σ n).bind fun q1 => if q1.1 = (-1) then (if q1.2.1 2 3 < 64 then (if q1.2.1 2 9 < 64 then (if v1 = 1 then ((me_factOfTable d v2 1 q1.2.1 q1.2.2).bind fun q3 => me_tell_64 d v1 v2 v3 v4 q3.1 q3.2.1 q3.2.2) else (me_columnsOf d v3 q1.2.1 q1.2.2).bind fun q2 => me_tell_64 d v1 v2 v3 v4 q2.1 q2.2.1 q2.2.2) else some ((-1), q1.2.1, q1.2.2)) else some ((-1), q1.2.1, q1.2.2)) else am_ix 9 q1.1 (some (q1.2.1 9 q1.1.toNat, q1.2.1, q1.2.2)) := (am_rn_eq true d 64 27 (0, [(103, 2), (0, v1), (0, v2), (0, v3), (0, v4), (9, 0), (9, 0), (9, 0)], [], σ, n)).trans rfl
set_option maxRecDepth 100000 in
set_option maxHeartbeats 4000000 in
theorem me_tell_64_e (d : Nat) (v1 v2 v3 v4 s0 : Int) (σ : am_M) (n : Nat) : me_tell_64 d v1 v2 v3 v4 s0 σ n = am_m (am_wr σ 2 9 (am_w (σ 2 9 + 1))) fun σ1 => am_ix 10 (σ 2 9) (am_m (am_wr σ1 10 (σ 2 9).toNat (σ 2 9)) fun σ2 => (me_columnsOf d v4 σ2 n).bind fun q1 => (pm_columnsBy d v1 v2 s0 q1.1 q1.2.1 q1.2.2).bind fun q2 => am_ix 11 (σ 2 9) (am_m (am_wr q2.2.1 11 (σ 2 9).toNat q2.1) fun σ3 => am_ix 12 (σ 2 9) (am_m (am_wr σ3 12 (σ 2 9).toNat 0) fun σ4 => (me_addTo d (σ 2 9) v1 v2 v3 v4 σ4 q2.2.2).bind fun q3 => some (σ 2 9, q3.2.1, q3.2.2)))) := (am_rn_eq true d 64 41 _).trans rfl
set_option maxRecDepth 100000 in
set_option maxHeartbeats 4000000 in
theorem pm_told_e (d : Nat) (v1 v2 v3 v4 : Int) (σ : am_M) (n : Nat) : pm_told (d + 1) v1 v2 v3 v4 σ n = (me_tell d v1 v2 v3 v4 σ n).bind fun q1 => if q1.1 = (-1) then ((pm_refuse d 7 q1.2.1 q1.2.2).bind fun q2 => some (q2.1, q2.2.1, q2.2.2)) else some (q1.1, q1.2.1, q1.2.2) := (am_rn_eq true d 65 17 (0, [(109, 0), (0, v1), (0, v2), (0, v3), (0, v4), (9, 0)], [], σ, n)).trans rfl
set_option maxRecDepth 100000 in
set_option maxHeartbeats 4000000 in
theorem pm_scan_e (d : Nat) (v1 : Int) (σ : am_M) (n : Nat) : pm_scan (d + 1) v1 σ n = (me_isTable d v1 σ n).bind fun q1 => if q1.1 = 0 then ((pm_refuse d 1 q1.2.1 q1.2.2).bind fun q3 => some (q3.1, q3.2.1, q3.2.2)) else (pm_told d 1 v1 (-1) (-1) q1.2.1 q1.2.2).bind fun q2 => some (q2.1, q2.2.1, q2.2.2) := (am_rn_eq true d 66 13 (0, [(109, 0), (0, v1)], [], σ, n)).trans rfl
set_option maxRecDepth 100000 in
set_option maxHeartbeats 4000000 in
theorem mo_alike_e (d : Nat) (v1 v2 v3 v4 : Int) (σ : am_M) (n : Nat) : mo_alike (d + 1) v1 v2 v3 v4 σ n = mo_alike_3 d v1 v2 v3 v4 0 σ n := (am_rn_eq true d 67 3 (0, [(110, 82), (0, v1), (0, v2), (0, v3), (0, v4), (9, 0)], [], σ, n)).trans rfl
set_option maxRecDepth 100000 in
set_option maxHeartbeats 4000000 in
theorem mo_alike_3_e (d : Nat) (v1 v2 v3 v4 v5 : Int) (σ : am_M) (n : Nat) : mo_alike_3 d v1 v2 v3 v4 v5 σ n = if v5 < σ 82 1 then (am_ix 95 v5 (if σ 95 v5.toNat = 0 then (am_ix 89 v5 (if σ 89 v5.toNat = v1 then (am_ix 90 v5 (if σ 90 v5.toNat = v2 then (if v1 = 1 then (mo_alike_74 d v1 v2 v3 v4 v5 σ n) else am_ix 91 v5 ((mo_root d (σ 91 v5.toNat) σ n).bind fun q1 => (mo_root d v3 q1.2.1 q1.2.2).bind fun q2 => if q1.1 = q2.1 then (mo_alike_74 d v1 v2 v3 v4 v5 q2.2.1 q2.2.2) else mo_alike_3 d v1 v2 v3 v4 (am_w (v5 + 1)) q2.2.1 q2.2.2)) else mo_alike_3 d v1 v2 v3 v4 (am_w (v5 + 1)) σ n)) else mo_alike_3 d v1 v2 v3 v4 (am_w (v5 + 1)) σ n)) else mo_alike_3 d v1 v2 v3 v4 (am_w (v5 + 1)) σ n)) else some ((-1), σ, n) := (am_rn_eq true d 67 38 _).trans rfl
set_option maxRecDepth 100000 in
set_option maxHeartbeats 4000000 in
theorem mo_alike_74_e (d : Nat) (v1 v2 v3 v4 v5 : Int) (σ : am_M) (n : Nat) : mo_alike_74 d v1 v2 v3 v4 v5 σ n = if v1 < 5 then (some (v5, σ, n)) else am_ix 92 v5 ((mo_root d (σ 92 v5.toNat) σ n).bind fun q1 => (mo_root d v4 q1.2.1 q1.2.2).bind fun q2 => if q1.1 = q2.1 then (some (v5, q2.2.1, q2.2.2)) else mo_alike_3 d v1 v2 v3 v4 (am_w (v5 + 1)) q2.2.1 q2.2.2) := (am_rn_eq true d 67 17 _).trans rfl
set_option maxRecDepth 100000 in
set_option maxHeartbeats 4000000 in
theorem mo_adds_e (d : Nat) (v1 v2 v3 v4 v5 : Int) (σ : am_M) (n : Nat) : mo_adds (d + 1) v1 v2 v3 v4 v5 σ n = am_ix 89 (σ 82 1) (am_m (am_wr σ 89 (σ 82 1).toNat v1) fun σ1 => am_ix 90 (σ1 82 1) (am_m (am_wr σ1 90 (σ1 82 1).toNat v2) fun σ2 => if v1 = 1 then (mo_adds_42 d v1 v4 v5 (σ2 82 1) (-1) σ2 n) else (mo_root d v3 σ2 n).bind fun q1 => mo_adds_42 d v1 v4 v5 (σ2 82 1) q1.1 q1.2.1 q1.2.2)) := (am_rn_eq true d 68 23 (0, [(110, 82), (0, v1), (0, v2), (0, v3), (0, v4), (0, v5)], [], σ, n)).trans rfl
set_option maxRecDepth 100000 in
set_option maxHeartbeats 4000000 in
theorem mo_adds_42_e (d : Nat) (v1 v4 v5 s1 s2 : Int) (σ : am_M) (n : Nat) : mo_adds_42 d v1 v4 v5 s1 s2 σ n = am_ix 91 s1 (am_m (am_wr σ 91 s1.toNat s2) fun σ1 => if v1 < 5 then (mo_adds_66 d v5 (σ1 82 1) (-1) σ1 n) else (mo_root d v4 σ1 n).bind fun q1 => mo_adds_66 d v5 (σ1 82 1) q1.1 q1.2.1 q1.2.2) := (am_rn_eq true d 68 13 _).trans rfl
set_option maxRecDepth 100000 in
set_option maxHeartbeats 4000000 in
theorem mo_adds_66_e (d : Nat) (v5 s1 s2 : Int) (σ : am_M) (n : Nat) : mo_adds_66 d v5 s1 s2 σ n = am_ix 92 s1 (am_m (am_wr σ 92 s1.toNat s2) fun σ1 => am_ix 95 (σ1 82 1) (am_m (am_wr σ1 95 (σ1 82 1).toNat (0 % 2)) fun σ2 => if v5 = (-1) then (am_ix 94 (σ2 82 2) (am_m (am_wr σ2 94 (σ2 82 2).toNat (σ2 82 2)) fun σ4 => am_ix 93 (σ4 82 1) (am_m (am_wr σ4 93 (σ4 82 1).toNat (σ4 82 2)) fun σ5 => am_m (am_wr σ5 82 2 (am_w (σ5 82 2 + 1))) fun σ6 => mo_adds_133 d σ6 n))) else am_ix 93 (σ2 82 1) (am_m (am_wr σ2 93 (σ2 82 1).toNat v5) fun σ3 => mo_adds_133 d σ3 n))) := (am_rn_eq true d 68 32 _).trans rfl
set_option maxRecDepth 100000 in
set_option maxHeartbeats 4000000 in
theorem mo_adds_133_e (d : Nat) (σ : am_M) (n : Nat) : mo_adds_133 d σ n = am_m (am_wr σ 82 1 (am_w (σ 82 1 + 1))) fun σ1 => am_ix 93 (am_w (σ1 82 1 - 1)) (some (σ1 93 (am_w (σ1 82 1 - 1)).toNat, σ1, n)) := (am_rn_eq true d 68 15 _).trans rfl
set_option maxRecDepth 100000 in
set_option maxHeartbeats 4000000 in
theorem mo_told_e (d : Nat) (v1 v2 v3 v4 : Int) (σ : am_M) (n : Nat) : mo_told (d + 1) v1 v2 v3 v4 σ n = (mo_alike d v1 v2 v3 v4 σ n).bind fun q1 => if q1.1 = (-1) then ((mo_adds d v1 v2 v3 v4 (-1) q1.2.1 q1.2.2).bind fun q3 => some (q3.1, q3.2.1, q3.2.2)) else am_ix 93 q1.1 ((mo_root d (q1.2.1 93 q1.1.toNat) q1.2.1 q1.2.2).bind fun q2 => some (q2.1, q2.2.1, q2.2.2)) := (am_rn_eq true d 69 20 (0, [(110, 82), (0, v1), (0, v2), (0, v3), (0, v4), (9, 0)], [], σ, n)).trans rfl
set_option maxRecDepth 100000 in
set_option maxHeartbeats 4000000 in
theorem mo_tellOf_e (d : Nat) (v1 v2 v3 v4 : Int) (σ : am_M) (n : Nat) : mo_tellOf (d + 1) v1 v2 v3 v4 σ n = (mo_alike d v1 v2 v3 v4 σ n).bind fun q1 => if q1.1 = (-1) then (if q1.2.1 82 1 = 64 then ((mo_no d (-7) q1.2.1 q1.2.2).bind fun q4 => some (q4.1, q4.2.1, q4.2.2)) else (mo_told d v1 v2 v3 v4 q1.2.1 q1.2.2).bind fun q3 => some (q3.1, q3.2.1, q3.2.2)) else (mo_told d v1 v2 v3 v4 q1.2.1 q1.2.2).bind fun q2 => some (q2.1, q2.2.1, q2.2.2) := (am_rn_eq true d 70 20 (0, [(110, 82), (0, v1), (0, v2), (0, v3), (0, v4)], [], σ, n)).trans rfl
set_option maxRecDepth 100000 in
set_option maxHeartbeats 4000000 in
theorem mo_scan_e (d : Nat) (v1 : Int) (σ : am_M) (n : Nat) : mo_scan (d + 1) v1 σ n = if v1 < 0 then ((mo_no d (-1) σ n).bind fun q1 => some (q1.1, q1.2.1, q1.2.2)) else if v1 < σ 82 0 then ((mo_tellOf d 1 v1 0 0 σ n).bind fun q2 => some (q2.1, q2.2.1, q2.2.2)) else (mo_no d (-1) σ n).bind fun q3 => some (q3.1, q3.2.1, q3.2.2) := (am_rn_eq true d 71 14 (0, [(110, 82), (0, v1)], [], σ, n)).trans rfl
set_option maxRecDepth 100000 in
set_option maxHeartbeats 4000000 in
theorem me_root_e (d : Nat) (v1 : Int) (σ : am_M) (n : Nat) : me_root (d + 1) v1 σ n = (me_isGroup d v1 σ n).bind fun q1 => if q1.1 = 0 then (some ((-1), q1.2.1, q1.2.2)) else am_ix 10 v1 (some (q1.2.1 10 v1.toNat, q1.2.1, q1.2.2)) := (am_rn_eq true d 72 11 (0, [(103, 2), (0, v1)], [], σ, n)).trans rfl
set_option maxRecDepth 100000 in
set_option maxHeartbeats 4000000 in
theorem pm_fitsColumns_e (d : Nat) (v0 v1 v2 v3 : Int) (σ : am_M) (n : Nat) : pm_fitsColumns (d + 1) v0 v1 v2 v3 σ n = if v0 = 1 then (some (1, σ, n)) else if v0 = 2 then ((pm_hasColumn d v2 v1 σ n).bind fun q1 => if q1.1 = 0 then (some (0, q1.2.1, q1.2.2)) else (pm_hasColumn d v3 v1 q1.2.1 q1.2.2).bind fun q2 => if q2.1 = 0 then (some (0, q2.2.1, q2.2.2)) else some (1, q2.2.1, q2.2.2)) else if v0 = 3 then ((pm_hasColumn d v2 (am_w (Int.tdiv v1 2)) σ n).bind fun q3 => am_if (q3.1 = 0 ∨ q3.1 = 1) (some (q3.1, q3.2.1, q3.2.2))) else if v0 = 4 then ((pm_hasColumn d v2 v1 σ n).bind fun q4 => am_if (q4.1 = 0 ∨ q4.1 = 1) (some (q4.1, q4.2.1, q4.2.2))) else (pm_hasColumn d v2 v1 σ n).bind fun q5 => if q5.1 = 0 then (some (0, q5.2.1, q5.2.2)) else (pm_hasColumn d v3 v1 q5.2.1 q5.2.2).bind fun q6 => if q6.1 = 0 then (some (0, q6.2.1, q6.2.2)) else some (1, q6.2.1, q6.2.2) := (am_rn_eq true d 73 14 (0, [(0, v0), (0, v1), (0, v2), (0, v3)], [], σ, n)).trans rfl
set_option maxRecDepth 100000 in
set_option maxHeartbeats 4000000 in
theorem me_mayBe_e (d : Nat) (v1 v2 v3 v4 : Int) (σ : am_M) (n : Nat) : me_mayBe (d + 1) v1 v2 v3 v4 σ n = (me_columnsOf d v3 σ n).bind fun q1 => (me_columnsOf d v4 q1.2.1 q1.2.2).bind fun q2 => (pm_fitsColumns d v1 v2 q1.1 q2.1 q2.2.1 q2.2.2).bind fun q3 => am_if (q3.1 = 0 ∨ q3.1 = 1) (some (q3.1, q3.2.1, q3.2.2)) := (am_rn_eq true d 74 11 (0, [(103, 2), (0, v1), (0, v2), (0, v3), (0, v4)], [], σ, n)).trans rfl
set_option maxRecDepth 100000 in
set_option maxHeartbeats 4000000 in
theorem pm_keep_e (d : Nat) (v1 v2 : Int) (σ : am_M) (n : Nat) : pm_keep (d + 1) v1 v2 σ n = (me_isGroup d v2 σ n).bind fun q1 => if q1.1 = 0 then ((pm_refuse d 1 q1.2.1 q1.2.2).bind fun q9 => some (q9.1, q9.2.1, q9.2.2)) else if v1 < 0 then ((pm_refuse d 6 q1.2.1 q1.2.2).bind fun q2 => some (q2.1, q2.2.1, q2.2.2)) else if v1 < 8 then ((me_root d v2 q1.2.1 q1.2.2).bind fun q4 => (me_mayBe d 3 v1 q4.1 (-1) q4.2.1 q4.2.2).bind fun q5 => if q5.1 = 0 then ((pm_refuse d 6 q5.2.1 q5.2.2).bind fun q8 => some (q8.1, q8.2.1, q8.2.2)) else (me_root d v2 q5.2.1 q5.2.2).bind fun q6 => (pm_told d 3 v1 q6.1 (-1) q6.2.1 q6.2.2).bind fun q7 => some (q7.1, q7.2.1, q7.2.2)) else (pm_refuse d 6 q1.2.1 q1.2.2).bind fun q3 => some (q3.1, q3.2.1, q3.2.2) := (am_rn_eq true d 75 32 (0, [(109, 0), (0, v1), (0, v2)], [], σ, n)).trans rfl
set_option maxRecDepth 100000 in
set_option maxHeartbeats 4000000 in
theorem mo_isGroup_e (d : Nat) (v1 : Int) (σ : am_M) (n : Nat) : mo_isGroup (d + 1) v1 σ n = if v1 < 0 then (some (0, σ, n)) else if v1 < σ 82 2 then (some (1, σ, n)) else some (0, σ, n) := (am_rn_eq true d 76 10 (0, [(110, 82), (0, v1)], [], σ, n)).trans rfl
set_option maxRecDepth 100000 in
set_option maxHeartbeats 4000000 in
theorem mo_tells_e (d : Nat) (σ : am_M) (n : Nat) : mo_tells (d + 1) σ n = mo_tells_2 d 0 σ n := (am_rn_eq true d 77 3 (0, [(110, 82), (9, 0), (9, 0), (9, 0), (9, 0), (9, 0), (9, 0), (9, 0), (9, 0)], [], σ, n)).trans rfl
set_option maxRecDepth 100000 in
set_option maxHeartbeats 4000000 in
theorem mo_tells_2_e (d : Nat) (v1 : Int) (σ : am_M) (n : Nat) : mo_tells_2 d v1 σ n = if v1 < σ 82 2 then (am_ix 106 v1 (am_m (am_wr σ 106 v1.toNat (-1)) fun σ1 => mo_tells_2 d (am_w (v1 + 1)) σ1 n)) else mo_tells_25 d 0 σ n := (am_rn_eq true d 77 12 _).trans rfl
set_option maxRecDepth 100000 in
set_option maxHeartbeats 4000000 in
theorem mo_tells_25_e (d : Nat) (v1 : Int) (σ : am_M) (n : Nat) : mo_tells_25 d v1 σ n = if v1 < σ 82 1 then (am_ix 95 v1 (if σ 95 v1.toNat = 0 then (am_ix 93 v1 ((mo_root d (σ 93 v1.toNat) σ n).bind fun q1 => am_ix 106 q1.1 (if q1.2.1 106 q1.1.toNat = (-1) then (am_ix 93 v1 ((mo_root d (q1.2.1 93 v1.toNat) q1.2.1 q1.2.2).bind fun q2 => am_ix 106 q2.1 (am_m (am_wr q2.2.1 106 q2.1.toNat v1) fun σ1 => am_ix 89 v1 (if σ1 89 v1.toNat = 1 then (mo_tells_106 d v1 q2.1 0 σ1 q2.2.2) else am_ix 91 v1 ((mo_root d (σ1 91 v1.toNat) σ1 q2.2.2).bind fun q3 => mo_tells_106 d v1 q2.1 q3.1 q3.2.1 q3.2.2))))) else mo_tells_25 d (am_w (v1 + 1)) q1.2.1 q1.2.2))) else mo_tells_25 d (am_w (v1 + 1)) σ n)) else some (0, σ, n) := (am_rn_eq true d 77 45 _).trans rfl
set_option maxRecDepth 100000 in
set_option maxHeartbeats 4000000 in
theorem mo_tells_106_e (d : Nat) (v1 v2 s0 : Int) (σ : am_M) (n : Nat) : mo_tells_106 d v1 v2 s0 σ n = am_ix 89 v1 (if σ 89 v1.toNat < 5 then (mo_tells_131 d v1 v2 s0 0 σ n) else am_ix 92 v1 ((mo_root d (σ 92 v1.toNat) σ n).bind fun q1 => mo_tells_131 d v1 v2 s0 q1.1 q1.2.1 q1.2.2)) := (am_rn_eq true d 77 15 _).trans rfl
set_option maxRecDepth 100000 in
set_option maxHeartbeats 4000000 in
theorem mo_tells_131_e (d : Nat) (v1 v2 v3 s0 : Int) (σ : am_M) (n : Nat) : mo_tells_131 d v1 v2 v3 s0 σ n = am_ix 89 v1 (if σ 89 v1.toNat < 5 then (mo_tells_176 d v1 v2 v3 s0 0 σ n) else am_ix 104 v3 (am_ix 104 s0 (am_ix 90 v1 (am_ix 84 (σ 90 v1.toNat) (am_if (¬ σ 84 (σ 90 v1.toNat).toNat = 0) (mo_tells_176 d v1 v2 v3 s0 (am_x (Int.tdiv (am_x (σ 104 v3.toNat * σ 104 s0.toNat)) (σ 84 (σ 90 v1.toNat).toNat))) σ n)))))) := (am_rn_eq true d 77 29 _).trans rfl
set_option maxRecDepth 100000 in
set_option maxHeartbeats 4000000 in
theorem mo_tells_176_e (d : Nat) (v1 v2 v3 v4 s0 : Int) (σ : am_M) (n : Nat) : mo_tells_176 d v1 v2 v3 v4 s0 σ n = am_ix 89 v1 (if σ 89 v1.toNat = 1 then (am_ix 90 v1 (am_ix 85 (σ 90 v1.toNat) (mo_tells_313 d v1 v2 v3 v4 (σ 85 (σ 90 v1.toNat).toNat) σ n))) else am_ix 89 v1 (if σ 89 v1.toNat = 3 then (am_ix 104 v3 (am_ix 90 v1 (if Int.tmod (σ 90 v1.toNat) 2 = 0 then (mo_tells_313 d v1 v2 v3 v4 (am_w (Int.tdiv (σ 104 v3.toNat) 10)) σ n) else mo_tells_313 d v1 v2 v3 v4 (am_w (Int.tdiv (σ 104 v3.toNat) 2)) σ n))) else am_ix 89 v1 (if σ 89 v1.toNat = 4 then (am_ix 104 v3 (am_ix 90 v1 (am_ix 84 (σ 90 v1.toNat) (mo_tells_313 d v1 v2 v3 v4 (am_mn (σ 104 v3.toNat) (σ 84 (σ 90 v1.toNat).toNat)) σ n)))) else am_ix 89 v1 (if σ 89 v1.toNat = 5 then (mo_tells_313 d v1 v2 v3 v4 (am_w (am_mx 1 (am_mn 1000000 s0))) σ n) else am_ix 104 v3 (mo_tells_313 d v1 v2 v3 v4 (am_mn (σ 104 v3.toNat) (am_w (am_mx 1 (am_mn 1000000 s0)))) σ n))))) := (am_rn_eq true d 77 40 _).trans rfl
set_option maxRecDepth 100000 in
set_option maxHeartbeats 4000000 in
theorem mo_tells_313_e (d : Nat) (v1 v2 v3 v4 s0 : Int) (σ : am_M) (n : Nat) : mo_tells_313 d v1 v2 v3 v4 s0 σ n = am_ix 104 v2 (am_m (am_wr σ 104 v2.toNat (am_mx 1 s0)) fun σ1 => am_ix 89 v1 (if σ1 89 v1.toNat = 1 then (am_ix 90 v1 (am_ix 86 (σ1 90 v1.toNat) (am_ix 105 v2 (am_m (am_wr σ1 105 v2.toNat (σ1 86 (σ1 90 v1.toNat).toNat)) fun σ5 => mo_tells_25 d (am_w (v1 + 1)) σ5 n)))) else am_ix 89 v1 (if σ1 89 v1.toNat = 4 then (am_ix 90 v1 (am_ix 105 v2 (am_m (am_wr σ1 105 v2.toNat (am_shl 1 (σ1 90 v1.toNat))) fun σ4 => mo_tells_25 d (am_w (v1 + 1)) σ4 n))) else am_ix 89 v1 (if σ1 89 v1.toNat = 5 then (am_ix 105 v3 (am_ix 105 v4 (am_ix 105 v2 (am_m (am_wr σ1 105 v2.toNat (am_or (σ1 105 v3.toNat) (σ1 105 v4.toNat))) fun σ3 => mo_tells_25 d (am_w (v1 + 1)) σ3 n)))) else am_ix 105 v3 (am_ix 105 v2 (am_m (am_wr σ1 105 v2.toNat (σ1 105 v3.toNat)) fun σ2 => mo_tells_25 d (am_w (v1 + 1)) σ2 n)))))) := (am_rn_eq true d 77 43 _).trans rfl
set_option maxRecDepth 100000 in
set_option maxHeartbeats 4000000 in
theorem mo_may_e (d : Nat) (v1 v2 v3 v4 : Int) (σ : am_M) (n : Nat) : mo_may (d + 1) v1 v2 v3 v4 σ n = (mo_tells d σ n).bind fun q1 => if v1 = 3 then (mo_may_16 d v1 v3 v4 (am_w (Int.tdiv v2 2)) q1.2.1 q1.2.2) else mo_may_16 d v1 v3 v4 v2 q1.2.1 q1.2.2 := (am_rn_eq true d 78 10 (0, [(110, 82), (0, v1), (0, v2), (0, v3), (0, v4), (9, 0)], [], σ, n)).trans rfl
set_option maxRecDepth 100000 in
set_option maxHeartbeats 4000000 in
theorem mo_may_16_e (d : Nat) (v1 v3 v4 s0 : Int) (σ : am_M) (n : Nat) : mo_may_16 d v1 v3 v4 s0 σ n = (mo_root d v3 σ n).bind fun q1 => am_ix 105 q1.1 ((mo_isColumn d (q1.2.1 105 q1.1.toNat) s0 q1.2.1 q1.2.2).bind fun q2 => if q2.1 = 0 then (some (0, q2.2.1, q2.2.2)) else if v1 < 5 then (some (1, q2.2.1, q2.2.2)) else (mo_root d v4 q2.2.1 q2.2.2).bind fun q3 => am_ix 105 q3.1 ((mo_isColumn d (q3.2.1 105 q3.1.toNat) s0 q3.2.1 q3.2.2).bind fun q4 => if q4.1 = 0 then (some (0, q4.2.1, q4.2.2)) else some (1, q4.2.1, q4.2.2))) := (am_rn_eq true d 78 28 _).trans rfl
set_option maxRecDepth 100000 in
set_option maxHeartbeats 4000000 in
theorem mo_keep_e (d : Nat) (v1 v2 : Int) (σ : am_M) (n : Nat) : mo_keep (d + 1) v1 v2 σ n = (mo_isGroup d v2 σ n).bind fun q1 => if q1.1 = 0 then ((mo_no d (-1) q1.2.1 q1.2.2).bind fun q7 => some (q7.1, q7.2.1, q7.2.2)) else (mo_isFrom d v1 0 7 q1.2.1 q1.2.2).bind fun q2 => if q2.1 = 0 then ((mo_no d (-6) q2.2.1 q2.2.2).bind fun q3 => some (q3.1, q3.2.1, q3.2.2)) else (mo_may d 3 v1 v2 v2 q2.2.1 q2.2.2).bind fun q4 => if q4.1 = 0 then ((mo_no d (-6) q4.2.1 q4.2.2).bind fun q6 => some (q6.1, q6.2.1, q6.2.2)) else (mo_tellOf d 3 v1 v2 v2 q4.2.1 q4.2.2).bind fun q5 => some (q5.1, q5.2.1, q5.2.2) := (am_rn_eq true d 79 25 (0, [(110, 82), (0, v1), (0, v2)], [], σ, n)).trans rfl
set_option maxRecDepth 100000 in
set_option maxHeartbeats 4000000 in
theorem pm_tally_e (d : Nat) (v1 v2 : Int) (σ : am_M) (n : Nat) : pm_tally (d + 1) v1 v2 σ n = (pm_isColumn d v1 σ n).bind fun q1 => if q1.1 = 0 then ((pm_refuse d 1 q1.2.1 q1.2.2).bind fun q2 => some (q2.1, q2.2.1, q2.2.2)) else (me_isGroup d v2 q1.2.1 q1.2.2).bind fun q3 => if q3.1 = 0 then ((pm_refuse d 1 q3.2.1 q3.2.2).bind fun q9 => some (q9.1, q9.2.1, q9.2.2)) else (me_root d v2 q3.2.1 q3.2.2).bind fun q4 => (me_mayBe d 4 v1 q4.1 (-1) q4.2.1 q4.2.2).bind fun q5 => if q5.1 = 0 then ((pm_refuse d 6 q5.2.1 q5.2.2).bind fun q8 => some (q8.1, q8.2.1, q8.2.2)) else (me_root d v2 q5.2.1 q5.2.2).bind fun q6 => (pm_told d 4 v1 q6.1 (-1) q6.2.1 q6.2.2).bind fun q7 => some (q7.1, q7.2.1, q7.2.2) := (am_rn_eq true d 80 30 (0, [(109, 0), (0, v1), (0, v2)], [], σ, n)).trans rfl
set_option maxRecDepth 100000 in
set_option maxHeartbeats 4000000 in
theorem mo_tally_e (d : Nat) (v1 v2 : Int) (σ : am_M) (n : Nat) : mo_tally (d + 1) v1 v2 σ n = (mo_isFrom d v1 0 3 σ n).bind fun q1 => if q1.1 = 0 then ((mo_no d (-1) q1.2.1 q1.2.2).bind fun q2 => some (q2.1, q2.2.1, q2.2.2)) else (mo_isGroup d v2 q1.2.1 q1.2.2).bind fun q3 => if q3.1 = 0 then ((mo_no d (-1) q3.2.1 q3.2.2).bind fun q7 => some (q7.1, q7.2.1, q7.2.2)) else (mo_may d 4 v1 v2 v2 q3.2.1 q3.2.2).bind fun q4 => if q4.1 = 0 then ((mo_no d (-6) q4.2.1 q4.2.2).bind fun q6 => some (q6.1, q6.2.1, q6.2.2)) else (mo_tellOf d 4 v1 v2 v2 q4.2.1 q4.2.2).bind fun q5 => some (q5.1, q5.2.1, q5.2.2) := (am_rn_eq true d 81 25 (0, [(110, 82), (0, v1), (0, v2)], [], σ, n)).trans rfl
set_option maxRecDepth 100000 in
set_option maxHeartbeats 4000000 in
theorem pm_toldOfTwo_e (d : Nat) (v1 v2 v3 v4 : Int) (σ : am_M) (n : Nat) : pm_toldOfTwo (d + 1) v1 v2 v3 v4 σ n = (pm_isColumn d v2 σ n).bind fun q1 => if q1.1 = 0 then ((pm_refuse d 1 q1.2.1 q1.2.2).bind fun q2 => some (q2.1, q2.2.1, q2.2.2)) else (me_isGroup d v3 q1.2.1 q1.2.2).bind fun q3 => if q3.1 = 0 then ((pm_refuse d 1 q3.2.1 q3.2.2).bind fun q4 => some (q4.1, q4.2.1, q4.2.2)) else (me_isGroup d v4 q3.2.1 q3.2.2).bind fun q5 => if q5.1 = 0 then ((pm_refuse d 1 q5.2.1 q5.2.2).bind fun q13 => some (q13.1, q13.2.1, q13.2.2)) else (me_root d v3 q5.2.1 q5.2.2).bind fun q6 => (me_root d v4 q6.2.1 q6.2.2).bind fun q7 => (me_mayBe d v1 v2 q6.1 q7.1 q7.2.1 q7.2.2).bind fun q8 => if q8.1 = 0 then ((pm_refuse d 6 q8.2.1 q8.2.2).bind fun q12 => some (q12.1, q12.2.1, q12.2.2)) else (me_root d v3 q8.2.1 q8.2.2).bind fun q9 => (me_root d v4 q9.2.1 q9.2.2).bind fun q10 => (pm_told d v1 v2 q9.1 q10.1 q10.2.1 q10.2.2).bind fun q11 => some (q11.1, q11.2.1, q11.2.2) := (am_rn_eq true d 82 41 (0, [(109, 0), (0, v1), (0, v2), (0, v3), (0, v4)], [], σ, n)).trans rfl
set_option maxRecDepth 100000 in
set_option maxHeartbeats 4000000 in
theorem pm_join_e (d : Nat) (v1 v2 v3 : Int) (σ : am_M) (n : Nat) : pm_join (d + 1) v1 v2 v3 σ n = (pm_toldOfTwo d 5 v1 v2 v3 σ n).bind fun q1 => some (q1.1, q1.2.1, q1.2.2) := (am_rn_eq true d 83 8 (0, [(109, 0), (0, v1), (0, v2), (0, v3)], [], σ, n)).trans rfl
set_option maxRecDepth 100000 in
set_option maxHeartbeats 4000000 in
theorem mo_two_e (d : Nat) (v1 v2 v3 v4 : Int) (σ : am_M) (n : Nat) : mo_two (d + 1) v1 v2 v3 v4 σ n = (mo_isFrom d v2 0 3 σ n).bind fun q1 => if q1.1 = 0 then ((mo_no d (-1) q1.2.1 q1.2.2).bind fun q2 => some (q2.1, q2.2.1, q2.2.2)) else (mo_isGroup d v3 q1.2.1 q1.2.2).bind fun q3 => if q3.1 = 0 then ((mo_no d (-1) q3.2.1 q3.2.2).bind fun q4 => some (q4.1, q4.2.1, q4.2.2)) else (mo_isGroup d v4 q3.2.1 q3.2.2).bind fun q5 => if q5.1 = 0 then ((mo_no d (-1) q5.2.1 q5.2.2).bind fun q9 => some (q9.1, q9.2.1, q9.2.2)) else (mo_may d v1 v2 v3 v4 q5.2.1 q5.2.2).bind fun q6 => if q6.1 = 0 then ((mo_no d (-6) q6.2.1 q6.2.2).bind fun q8 => some (q8.1, q8.2.1, q8.2.2)) else (mo_tellOf d v1 v2 v3 v4 q6.2.1 q6.2.2).bind fun q7 => some (q7.1, q7.2.1, q7.2.2) := (am_rn_eq true d 84 29 (0, [(110, 82), (0, v1), (0, v2), (0, v3), (0, v4)], [], σ, n)).trans rfl
set_option maxRecDepth 100000 in
set_option maxHeartbeats 4000000 in
theorem mo_join_e (d : Nat) (v1 v2 v3 : Int) (σ : am_M) (n : Nat) : mo_join (d + 1) v1 v2 v3 σ n = (mo_two d 5 v1 v2 v3 σ n).bind fun q1 => some (q1.1, q1.2.1, q1.2.2) := (am_rn_eq true d 85 8 (0, [(110, 82), (0, v1), (0, v2), (0, v3)], [], σ, n)).trans rfl
set_option maxRecDepth 100000 in
set_option maxHeartbeats 4000000 in
theorem pm_half_e (d : Nat) (v1 v2 v3 : Int) (σ : am_M) (n : Nat) : pm_half (d + 1) v1 v2 v3 σ n = (pm_toldOfTwo d 6 v1 v2 v3 σ n).bind fun q1 => some (q1.1, q1.2.1, q1.2.2) := (am_rn_eq true d 86 8 (0, [(109, 0), (0, v1), (0, v2), (0, v3)], [], σ, n)).trans rfl
set_option maxRecDepth 100000 in
set_option maxHeartbeats 4000000 in
theorem mo_half_e (d : Nat) (v1 v2 v3 : Int) (σ : am_M) (n : Nat) : mo_half (d + 1) v1 v2 v3 σ n = (mo_two d 6 v1 v2 v3 σ n).bind fun q1 => some (q1.1, q1.2.1, q1.2.2) := (am_rn_eq true d 87 8 (0, [(110, 82), (0, v1), (0, v2), (0, v3)], [], σ, n)).trans rfl
set_option maxRecDepth 100000 in
set_option maxHeartbeats 4000000 in
theorem sh_letterAt_e (d : Nat) (v0 v1 : Int) (σ : am_M) (n : Nat) : sh_letterAt (d + 1) v0 v1 σ n = am_if (¬ v0 < 0) ((sh_hasElements d v0 v1 1 σ n).bind fun q1 => if q1.1 = 0 then (some ((-1), q1.2.1, q1.2.2)) else am_if (¬ v0 < 0) (am_ix (am_fin v0.toNat 0) v1 (some (am_w (q1.2.1 (am_fin v0.toNat 0).toNat v1.toNat), q1.2.1, q1.2.2)))) := (am_rn_eq true d 88 13 (0, [(106, v0), (0, v1)], [], σ, n)).trans rfl
set_option maxRecDepth 100000 in
set_option maxHeartbeats 4000000 in
theorem re_letter_e (d : Nat) (σ : am_M) (n : Nat) : re_letter (d + 1) σ n = if σ 43 1 < 0 then (some ((-1), σ, n)) else am_if (¬ σ 43 1 < 0) ((sh_letterAt d (σ 43 1) (σ 43 2) σ n).bind fun q1 => some (q1.1, q1.2.1, q1.2.2)) := (am_rn_eq true d 89 10 (0, [(105, 43)], [], σ, n)).trans rfl
set_option maxRecDepth 100000 in
set_option maxHeartbeats 4000000 in
theorem re_kindBy_e (d : Nat) (v0 : Int) (σ : am_M) (n : Nat) : re_kindBy (d + 1) v0 σ n = if v0 = 104 then (some (6, σ, n)) else if v0 = 105 then (some ((-1), σ, n)) else if v0 = 106 then (some (5, σ, n)) else if v0 = 107 then (some (3, σ, n)) else if v0 = 108 then (some ((-1), σ, n)) else if v0 = 109 then (some ((-1), σ, n)) else if v0 = 110 then (some ((-1), σ, n)) else if v0 = 111 then (some ((-1), σ, n)) else if v0 = 112 then (some ((-1), σ, n)) else if v0 = 113 then (some ((-1), σ, n)) else if v0 = 114 then (some ((-1), σ, n)) else if v0 = 115 then (some (1, σ, n)) else if v0 = 116 then (some (4, σ, n)) else some ((-1), σ, n) := (am_rn_eq true d 90 5 (0, [(0, v0)], [], σ, n)).trans rfl
set_option maxRecDepth 100000 in
set_option maxHeartbeats 4000000 in
theorem pm_wordOf_e (d : Nat) (v0 : Int) (σ : am_M) (n : Nat) : pm_wordOf (d + 1) v0 σ n = if v0 = 1 then (some (2000, σ, n)) else if v0 = 2 then (some (2004, σ, n)) else if v0 = 3 then (some (2001, σ, n)) else if v0 = 4 then (some (2002, σ, n)) else if v0 = 5 then (some (2003, σ, n)) else some (2004, σ, n) := (am_rn_eq true d 91 5 (0, [(0, v0)], [], σ, n)).trans rfl
set_option maxRecDepth 100000 in
set_option maxHeartbeats 4000000 in
theorem st_coder_e (d : Nat) (v0 : Int) (σ : am_M) (n : Nat) : st_coder (d + 1) v0 σ n = some (0, σ, n) := (am_rn_eq true d 92 7 (0, [(16, v0)], [], σ, n)).trans rfl
set_option maxRecDepth 100000 in
set_option maxHeartbeats 4000000 in
theorem st_length_e (d : Nat) (v0 : Int) (σ : am_M) (n : Nat) : st_length (d + 1) v0 σ n = am_if (¬ v0 < 0) ((st_coder d v0 σ n).bind fun q1 => some (am_shr (am_len (v0 - 900).toNat : Int) q1.1, q1.2.1, q1.2.2)) := (am_rn_eq true d 93 8 (0, [(16, v0)], [], σ, n)).trans rfl
set_option maxRecDepth 100000 in
set_option maxHeartbeats 4000000 in
theorem st_isLatin1_e (d : Nat) (v0 : Int) (σ : am_M) (n : Nat) : st_isLatin1 (d + 1) v0 σ n = some (1, σ, n) := (am_rn_eq true d 94 9 (0, [(16, v0)], [], σ, n)).trans rfl
set_option maxRecDepth 100000 in
set_option maxHeartbeats 4000000 in
theorem pr_checkIndex_e (d : Nat) (v0 v1 v2 : Int) (σ : am_M) (n : Nat) : pr_checkIndex (d + 1) v0 v1 v2 σ n = if v0 < 0 then (none) else if v0 < v1 then (some (v0, σ, n)) else none := (am_rn_eq true d 95 10 (0, [(0, v0), (0, v1), (17, v2)], [], σ, n)).trans rfl
set_option maxRecDepth 100000 in
set_option maxHeartbeats 4000000 in
theorem st_checkIndex_e (d : Nat) (v0 v1 : Int) (σ : am_M) (n : Nat) : st_checkIndex (d + 1) v0 v1 σ n = (pr_checkIndex d v0 v1 0 σ n).bind fun q1 => some (0, q1.2.1, q1.2.2) := (am_rn_eq true d 96 7 (0, [(0, v0), (0, v1)], [], σ, n)).trans rfl
set_option maxRecDepth 100000 in
set_option maxHeartbeats 4000000 in
theorem sl_charAt_e (d : Nat) (v0 v1 : Int) (σ : am_M) (n : Nat) : sl_charAt (d + 1) v0 v1 σ n = (st_checkIndex d v1 (am_len v0.toNat : Int) σ n).bind fun q1 => am_cx v0 v1 (am_if (0 ≤ (am_and (am_kc v0.toNat v1.toNat) 255) % 65536 ∧ (am_and (am_kc v0.toNat v1.toNat) 255) % 65536 < 65536) (some ((am_and (am_kc v0.toNat v1.toNat) 255) % 65536, q1.2.1, q1.2.2))) := (am_rn_eq true d 97 12 (0, [(23, v0), (0, v1)], [], σ, n)).trans rfl
set_option maxRecDepth 100000 in
set_option maxHeartbeats 4000000 in
theorem st_charAt_e (d : Nat) (v0 v1 : Int) (σ : am_M) (n : Nat) : st_charAt (d + 1) v0 v1 σ n = am_if (¬ v0 < 0) ((st_isLatin1 d v0 σ n).bind fun q1 => if q1.1 = 0 then (none) else (sl_charAt d (v0 - 900) v1 q1.2.1 q1.2.2).bind fun q2 => am_if (0 ≤ q2.1 ∧ q2.1 < 65536) (some (q2.1, q2.2.1, q2.2.2))) := (am_rn_eq true d 98 9 (0, [(16, v0), (0, v1)], [], σ, n)).trans rfl
set_option maxRecDepth 100000 in
set_option maxHeartbeats 4000000 in
theorem re_take_e (d : Nat) (v1 : Int) (σ : am_M) (n : Nat) : re_take (d + 1) v1 σ n = (re_letter d σ n).bind fun q1 => if q1.1 = v1 then (am_m (am_wr q1.2.1 43 2 (am_w (q1.2.1 43 2 + 1))) fun σ1 => some (1, σ1, q1.2.2)) else some (0, q1.2.1, q1.2.2) := (am_rn_eq true d 99 13 (0, [(105, 43), (0, v1)], [], σ, n)).trans rfl
set_option maxRecDepth 100000 in
set_option maxHeartbeats 4000000 in
theorem re_digitsOf_e (d : Nat) (v1 : Int) (σ : am_M) (n : Nat) : re_digitsOf (d + 1) v1 σ n = if v1 = 1 then (some (σ 2 0, σ, n)) else if v1 = 3 then (some (8, σ, n)) else some (4, σ, n) := (am_rn_eq true d 100 10 (0, [(105, 43), (0, v1)], [], σ, n)).trans rfl
set_option maxRecDepth 100000 in
set_option maxHeartbeats 4000000 in
theorem re_beginOne_e (d : Nat) (σ : am_M) (n : Nat) : re_beginOne (d + 1) σ n = (re_letter d σ n).bind fun q1 => (re_kindBy d q1.1 q1.2.1 q1.2.2).bind fun q2 => if q2.1 = (-1) then (some (0, q2.2.1, q2.2.2)) else if q2.2.1 43 10 < 32 then (if q2.2.1 43 3 < 32 then ((pm_wordOf d q2.1 q2.2.1 q2.2.2).bind fun q3 => re_beginOne_46 d (σ 43 2) q2.1 q3.1 0 q3.2.1 q3.2.2) else some (0, q2.2.1, q2.2.2)) else some (0, q2.2.1, q2.2.2) := (am_rn_eq true d 101 24 (0, [(105, 43), (9, 0), (9, 0), (9, 0), (9, 0)], [], σ, n)).trans rfl
set_option maxRecDepth 100000 in
set_option maxHeartbeats 4000000 in
theorem re_beginOne_46_e (d : Nat) (v1 v2 v3 v4 : Int) (σ : am_M) (n : Nat) : re_beginOne_46 d v1 v2 v3 v4 σ n = am_if (¬ v3 < 0) ((st_length d v3 σ n).bind fun q1 => if v4 < q1.1 then (am_if (¬ v3 < 0) ((st_charAt d v3 v4 q1.2.1 q1.2.2).bind fun q4 => (re_take d q4.1 q4.2.1 q4.2.2).bind fun q5 => if q5.1 = 0 then (some (0, q5.2.1, q5.2.2)) else re_beginOne_46 d v1 v2 v3 (am_w (v4 + 1)) q5.2.1 q5.2.2)) else (re_letter d q1.2.1 q1.2.2).bind fun q2 => if am_w (q2.1 - 48) < 0 then (some (0, q2.2.1, q2.2.2)) else (re_digitsOf d v2 q2.2.1 q2.2.2).bind fun q3 => if am_w (q2.1 - 48) < q3.1 then (am_m (am_wr q3.2.1 43 2 (am_w (q3.2.1 43 2 + 1))) fun σ1 => am_ix 50 (σ1 43 10) (am_m (am_wr σ1 50 (σ1 43 10).toNat v2) fun σ2 => am_ix 51 (σ2 43 10) (am_m (am_wr σ2 51 (σ2 43 10).toNat (am_w (q2.1 - 48))) fun σ3 => am_ix 52 (σ3 43 10) (am_m (am_wr σ3 52 (σ3 43 10).toNat (-1)) fun σ4 => am_ix 53 (σ4 43 10) (am_m (am_wr σ4 53 (σ4 43 10).toNat v1) fun σ5 => am_m (am_wr σ5 43 10 (am_w (σ5 43 10 + 1))) fun σ6 => some (1, σ6, q3.2.2)))))) else some (0, q3.2.1, q3.2.2)) := (am_rn_eq true d 101 55 _).trans rfl
set_option maxRecDepth 100000 in
set_option maxHeartbeats 4000000 in
theorem re_kindOpen_e (d : Nat) (σ : am_M) (n : Nat) : re_kindOpen (d + 1) σ n = if 0 < σ 43 10 then (am_ix 50 (am_w (σ 43 10 - 1)) (some (σ 50 (am_w (σ 43 10 - 1)).toNat, σ, n))) else some ((-1), σ, n) := (am_rn_eq true d 102 13 (0, [(105, 43)], [], σ, n)).trans rfl
set_option maxRecDepth 100000 in
set_option maxHeartbeats 4000000 in
theorem re_columnsOf_e (d : Nat) (v1 : Int) (σ : am_M) (n : Nat) : re_columnsOf (d + 1) v1 σ n = if v1 < 0 then (some (0, σ, n)) else if v1 < σ 43 3 then (am_ix 48 v1 (some (σ 48 v1.toNat, σ, n))) else some (0, σ, n) := (am_rn_eq true d 103 13 (0, [(105, 43), (0, v1)], [], σ, n)).trans rfl
set_option maxRecDepth 100000 in
set_option maxHeartbeats 4000000 in
theorem re_endOne_e (d : Nat) (v1 v2 : Int) (σ : am_M) (n : Nat) : re_endOne (d + 1) v1 v2 σ n = if σ 43 10 < 1 then (some (0, σ, n)) else if σ 43 3 < 32 then (am_m (am_wr σ 43 10 (am_w (σ 43 10 - 1))) fun σ1 => am_ix 50 (σ1 43 10) (am_ix 51 (σ1 43 10) (if σ1 50 (σ1 43 10).toNat = 1 then ((me_factOfTable d (σ1 51 (σ1 43 10).toNat) 1 σ1 n).bind fun q2 => re_endOne_72 d v1 v2 (σ1 50 (σ1 43 10).toNat) (σ1 51 (σ1 43 10).toNat) q2.1 q2.2.1 q2.2.2) else (re_columnsOf d v1 σ1 n).bind fun q1 => re_endOne_72 d v1 v2 (σ1 50 (σ1 43 10).toNat) (σ1 51 (σ1 43 10).toNat) q1.1 q1.2.1 q1.2.2))) else some (0, σ, n) := (am_rn_eq true d 104 36 (0, [(105, 43), (0, v1), (0, v2), (9, 0), (9, 0), (9, 0)], [], σ, n)).trans rfl
set_option maxRecDepth 100000 in
set_option maxHeartbeats 4000000 in
theorem re_endOne_72_e (d : Nat) (v1 v2 v3 v4 s0 : Int) (σ : am_M) (n : Nat) : re_endOne_72 d v1 v2 v3 v4 s0 σ n = am_ix 44 (σ 43 3) (am_m (am_wr σ 44 (σ 43 3).toNat v3) fun σ1 => am_ix 45 (σ1 43 3) (am_m (am_wr σ1 45 (σ1 43 3).toNat v4) fun σ2 => am_ix 46 (σ2 43 3) (am_m (am_wr σ2 46 (σ2 43 3).toNat v1) fun σ3 => am_ix 47 (σ3 43 3) (am_m (am_wr σ3 47 (σ3 43 3).toNat v2) fun σ4 => (re_columnsOf d v2 σ4 n).bind fun q1 => (pm_columnsBy d v3 v4 s0 q1.1 q1.2.1 q1.2.2).bind fun q2 => am_ix 48 (σ4 43 3) (am_m (am_wr q2.2.1 48 (σ4 43 3).toNat q2.1) fun σ5 => am_m (am_wr σ5 43 3 (am_w (σ5 43 3 + 1))) fun σ6 => some (0, σ6, q2.2.2)))))) := (am_rn_eq true d 104 45 _).trans rfl
set_option maxRecDepth 100000 in
set_option maxHeartbeats 4000000 in
theorem re_endAround_e (d : Nat) (σ : am_M) (n : Nat) : re_endAround (d + 1) σ n = re_endAround_2 d 0 σ n := (am_rn_eq true d 105 3 (0, [(105, 43), (9, 0), (9, 0), (9, 0), (9, 0), (9, 0), (9, 0)], [], σ, n)).trans rfl
set_option maxRecDepth 100000 in
set_option maxHeartbeats 4000000 in
theorem re_endAround_2_e (d : Nat) (v1 : Int) (σ : am_M) (n : Nat) : re_endAround_2 d v1 σ n = if v1 < 32 then (if 0 < σ 43 10 then (am_ix 50 (am_w (σ 43 10 - 1)) (if σ 50 (am_w (σ 43 10 - 1)).toNat = 5 then (re_endAround_55 d v1 (am_w (σ 43 10 - 1)) (am_w (σ 43 3 - 1)) 1 σ n) else am_ix 50 (am_w (σ 43 10 - 1)) (if σ 50 (am_w (σ 43 10 - 1)).toNat = 6 then (re_endAround_55 d v1 (am_w (σ 43 10 - 1)) (am_w (σ 43 3 - 1)) 1 σ n) else re_endAround_55 d v1 (am_w (σ 43 10 - 1)) (am_w (σ 43 3 - 1)) 0 σ n))) else some ((-1), σ, n)) else some ((-1), σ, n) := (am_rn_eq true d 105 31 _).trans rfl
set_option maxRecDepth 100000 in
set_option maxHeartbeats 4000000 in
theorem re_endAround_55_e (d : Nat) (v1 v2 v3 s0 : Int) (σ : am_M) (n : Nat) : re_endAround_55 d v1 v2 v3 s0 σ n = if s0 = 0 then (re_endAround_97 d v1 v2 v3 s0 σ n) else am_ix 52 v2 (if σ 52 v2.toNat = (-1) then (am_ix 52 v2 (am_m (am_wr σ 52 v2.toNat v3) fun σ1 => (re_take d 44 σ1 n).bind fun q1 => if q1.1 = 0 then (some (q1.2.1 43 2, q1.2.1, q1.2.2)) else some ((-1), q1.2.1, q1.2.2))) else re_endAround_97 d v1 v2 v3 s0 σ n) := (am_rn_eq true d 105 22 _).trans rfl
set_option maxRecDepth 100000 in
set_option maxHeartbeats 4000000 in
theorem re_endAround_97_e (d : Nat) (v1 v2 v3 v4 : Int) (σ : am_M) (n : Nat) : re_endAround_97 d v1 v2 v3 v4 σ n = (re_take d 41 σ n).bind fun q1 => if q1.1 = 0 then (some (q1.2.1 43 2, q1.2.1, q1.2.2)) else if v4 = 0 then (if v4 = 0 then (re_endAround_138 d v1 v2 v3 (-1) q1.2.1 q1.2.2) else re_endAround_138 d v1 v2 v3 v3 q1.2.1 q1.2.2) else am_ix 52 v2 (if v4 = 0 then (re_endAround_138 d v1 v2 (q1.2.1 52 v2.toNat) (-1) q1.2.1 q1.2.2) else re_endAround_138 d v1 v2 (q1.2.1 52 v2.toNat) v3 q1.2.1 q1.2.2) := (am_rn_eq true d 105 17 _).trans rfl
set_option maxRecDepth 100000 in
set_option maxHeartbeats 4000000 in
theorem re_endAround_138_e (d : Nat) (v1 v2 v5 s0 : Int) (σ : am_M) (n : Nat) : re_endAround_138 d v1 v2 v5 s0 σ n = am_ix 50 v2 (am_ix 51 v2 ((re_columnsOf d v5 σ n).bind fun q1 => (re_columnsOf d s0 q1.2.1 q1.2.2).bind fun q2 => (pm_fitsColumns d (σ 50 v2.toNat) (σ 51 v2.toNat) q1.1 q2.1 q2.2.1 q2.2.2).bind fun q3 => if q3.1 = 0 then (am_ix 53 v2 (some (q3.2.1 53 v2.toNat, q3.2.1, q3.2.2))) else (re_endOne d v5 s0 q3.2.1 q3.2.2).bind fun q4 => re_endAround_2 d (am_w (v1 + 1)) q4.2.1 q4.2.2)) := (am_rn_eq true d 105 24 _).trans rfl
set_option maxRecDepth 100000 in
set_option maxHeartbeats 4000000 in
theorem re_faultIn_e (d : Nat) (v1 : Int) (σ : am_M) (n : Nat) : re_faultIn (d + 1) v1 σ n = am_m (am_wr σ 43 1 v1) fun σ1 => am_m (am_wr σ1 43 2 0) fun σ2 => am_m (am_wr σ2 43 3 0) fun σ3 => am_m (am_wr σ3 43 10 0) fun σ4 => re_faultIn_22 d v1 0 σ4 n := (am_rn_eq true d 106 15 (0, [(105, 43), (106, v1), (9, 0), (9, 0), (9, 0)], [], σ, n)).trans rfl
set_option maxRecDepth 100000 in
set_option maxHeartbeats 4000000 in
theorem re_faultIn_22_e (d : Nat) (v1 v2 : Int) (σ : am_M) (n : Nat) : re_faultIn_22 d v1 v2 σ n = if v2 < 64 then ((re_beginOne d σ n).bind fun q1 => if q1.1 = 0 then (some (q1.2.1 43 2, q1.2.1, q1.2.2)) else (re_kindOpen d q1.2.1 q1.2.2).bind fun q2 => if q2.1 = 1 then (re_faultIn_72 d v1 v2 1 q2.2.1 q2.2.2) else (re_take d 40 q2.2.1 q2.2.2).bind fun q3 => if q3.1 = 0 then (some (q3.2.1 43 2, q3.2.1, q3.2.2)) else re_faultIn_72 d v1 v2 0 q3.2.1 q3.2.2) else some (σ 43 2, σ, n) := (am_rn_eq true d 106 22 _).trans rfl
set_option maxRecDepth 100000 in
set_option maxHeartbeats 4000000 in
theorem re_faultIn_72_e (d : Nat) (v1 v2 v3 : Int) (σ : am_M) (n : Nat) : re_faultIn_72 d v1 v2 v3 σ n = if v3 = 0 then (re_faultIn_22 d v1 (am_w (v2 + 1)) σ n) else (re_endOne d (-1) (-1) σ n).bind fun q1 => (re_endAround d q1.2.1 q1.2.2).bind fun q2 => if q2.1 = (-1) then (if q2.2.1 43 10 = 0 then (am_if (¬ v1 < 0) (if q2.2.1 43 2 = q2.2.1 v1.toNat 1 then (some ((-1), q2.2.1, q2.2.2)) else some (q2.2.1 43 2, q2.2.1, q2.2.2))) else re_faultIn_22 d v1 (am_w (v2 + 1)) q2.2.1 q2.2.2) else some (q2.1, q2.2.1, q2.2.2) := (am_rn_eq true d 106 24 _).trans rfl
set_option maxRecDepth 100000 in
set_option maxHeartbeats 4000000 in
theorem re_groupOfPart_e (d : Nat) (v1 : Int) (σ : am_M) (n : Nat) : re_groupOfPart (d + 1) v1 σ n = if v1 = (-1) then (some ((-1), σ, n)) else am_ix 49 v1 (some (σ 49 v1.toNat, σ, n)) := (am_rn_eq true d 107 9 (0, [(105, 43), (0, v1)], [], σ, n)).trans rfl
set_option maxRecDepth 100000 in
set_option maxHeartbeats 4000000 in
theorem me_takeBack_e (d : Nat) (v1 v2 : Int) (σ : am_M) (n : Nat) : me_takeBack (d + 1) v1 v2 σ n = am_m (am_wr σ 2 3 v1) fun σ1 => am_m (am_wr σ1 2 9 v2) fun σ2 => am_m (am_wr σ2 2 17 (am_w (σ2 2 17 + 1))) fun σ3 => some (0, σ3, n) := (am_rn_eq true d 108 14 (0, [(103, 2), (0, v1), (0, v2)], [], σ, n)).trans rfl
set_option maxRecDepth 100000 in
set_option maxHeartbeats 4000000 in
theorem re_tellAll_e (d : Nat) (σ : am_M) (n : Nat) : re_tellAll (d + 1) σ n = re_tellAll_21 d (σ 2 3) (σ 2 9) (-1) 0 σ n := (am_rn_eq true d 109 13 (0, [(105, 43), (9, 0), (9, 0), (9, 0), (9, 0)], [], σ, n)).trans rfl
set_option maxRecDepth 100000 in
set_option maxHeartbeats 4000000 in
theorem re_tellAll_21_e (d : Nat) (v1 v2 v3 v4 : Int) (σ : am_M) (n : Nat) : re_tellAll_21 d v1 v2 v3 v4 σ n = if v4 < σ 43 3 then (am_ix 44 v4 (am_ix 45 v4 (am_ix 46 v4 ((re_groupOfPart d (σ 46 v4.toNat) σ n).bind fun q1 => am_ix 47 v4 ((re_groupOfPart d (q1.2.1 47 v4.toNat) q1.2.1 q1.2.2).bind fun q2 => (me_tell d (σ 44 v4.toNat) (σ 45 v4.toNat) q1.1 q2.1 q2.2.1 q2.2.2).bind fun q3 => if q3.1 = (-1) then ((me_takeBack d v1 v2 q3.2.1 q3.2.2).bind fun q4 => some ((-1), q4.2.1, q4.2.2)) else am_ix 49 v4 (am_m (am_wr q3.2.1 49 v4.toNat q3.1) fun σ1 => re_tellAll_21 d v1 v2 q3.1 (am_w (v4 + 1)) σ1 q3.2.2)))))) else some (v3, σ, n) := (am_rn_eq true d 109 39 _).trans rfl
set_option maxRecDepth 100000 in
set_option maxHeartbeats 4000000 in
theorem pm_read_e (d : Nat) (v1 : Int) (σ : am_M) (n : Nat) : pm_read (d + 1) v1 σ n = (pm_rowRefusal d v1 σ n).bind fun q1 => if q1.1 = 0 then (am_ix 1 v1 ((re_faultIn d (am_fin 1 v1.toNat) q1.2.1 q1.2.2).bind fun q2 => am_m (am_wr q2.2.1 0 12 q2.1) fun σ1 => if σ1 0 12 = (-1) then ((re_tellAll d σ1 q2.2.2).bind fun q3 => if q3.1 = (-1) then ((pm_refuse d 7 q3.2.1 q3.2.2).bind fun q4 => some (q4.1, q4.2.1, q4.2.2)) else some (q3.1, q3.2.1, q3.2.2)) else (pm_refuse d 6 σ1 q2.2.2).bind fun q5 => some (q5.1, q5.2.1, q5.2.2))) else (pm_refuse d q1.1 q1.2.1 q1.2.2).bind fun q6 => some (q6.1, q6.2.1, q6.2.2) := (am_rn_eq true d 110 32 (0, [(109, 0), (0, v1), (9, 0), (9, 0)], [], σ, n)).trans rfl
set_option maxRecDepth 100000 in
set_option maxHeartbeats 4000000 in
theorem mo_goes_e (d : Nat) (v1 : Int) (σ : am_M) (n : Nat) : mo_goes (d + 1) v1 σ n = if σ 82 6 = (-1) then (if σ 82 70 < σ 82 69 then (am_ix 136 (σ 82 70) (if σ 136 (σ 82 70).toNat = v1 then (am_m (am_wr σ 82 70 (am_w (σ 82 70 + 1))) fun σ2 => some (1, σ2, n)) else am_m (am_wr σ 82 6 (σ 82 70)) fun σ3 => some (0, σ3, n))) else am_m (am_wr σ 82 6 (σ 82 70)) fun σ1 => some (0, σ1, n)) else some (0, σ, n) := (am_rn_eq true d 111 25 (0, [(110, 82), (0, v1)], [], σ, n)).trans rfl
set_option maxRecDepth 100000 in
set_option maxHeartbeats 4000000 in
theorem mo_goes2_e (d : Nat) (v1 : Int) (σ : am_M) (n : Nat) : mo_goes2 (d + 1) v1 σ n = mo_goes2_2 d v1 0 σ n := (am_rn_eq true d 112 3 (0, [(110, 82), (16, v1), (9, 0)], [], σ, n)).trans rfl
set_option maxRecDepth 100000 in
set_option maxHeartbeats 4000000 in
theorem mo_goes2_2_e (d : Nat) (v1 v2 : Int) (σ : am_M) (n : Nat) : mo_goes2_2 d v1 v2 σ n = am_if (¬ v1 < 0) ((st_length d v1 σ n).bind fun q1 => if v2 < q1.1 then (am_if (¬ v1 < 0) ((st_charAt d v1 v2 q1.2.1 q1.2.2).bind fun q2 => (mo_goes d q2.1 q2.2.1 q2.2.2).bind fun q3 => mo_goes2_2 d v1 (am_w (v2 + 1)) q3.2.1 q3.2.2)) else if q1.2.1 82 6 = (-1) then (some (1, q1.2.1, q1.2.2)) else some (0, q1.2.1, q1.2.2)) := (am_rn_eq true d 112 13 _).trans rfl
set_option maxRecDepth 100000 in
set_option maxHeartbeats 4000000 in
theorem mo_digit_e (d : Nat) (v1 : Int) (σ : am_M) (n : Nat) : mo_digit (d + 1) v1 σ n = if σ 82 6 = (-1) then (if σ 82 70 < σ 82 69 then (am_ix 136 (σ 82 70) (if σ 136 (σ 82 70).toNat < 48 then (am_m (am_wr σ 82 6 (σ 82 70)) fun σ2 => some (0, σ2, n)) else am_ix 136 (σ 82 70) (if σ 136 (σ 82 70).toNat < am_w (48 + v1) then (am_m (am_wr σ 82 70 (am_w (σ 82 70 + 1))) fun σ3 => am_ix 136 (am_w (σ3 82 70 - 1)) (some (am_w (σ3 136 (am_w (σ3 82 70 - 1)).toNat - 48), σ3, n))) else am_m (am_wr σ 82 6 (σ 82 70)) fun σ4 => some (0, σ4, n)))) else am_m (am_wr σ 82 6 (σ 82 70)) fun σ1 => some (0, σ1, n)) else some (0, σ, n) := (am_rn_eq true d 113 42 (0, [(110, 82), (0, v1)], [], σ, n)).trans rfl
set_option maxRecDepth 100000 in
set_option maxHeartbeats 4000000 in
theorem mo_reads_e (d : Nat) (σ : am_M) (n : Nat) : mo_reads (d + 1) σ n = if σ 82 70 < σ 82 69 then (am_ix 136 (σ 82 70) (mo_reads_29 d (σ 82 70) (σ 136 (σ 82 70).toNat) σ n)) else mo_reads_29 d (σ 82 70) 0 σ n := (am_rn_eq true d 114 15 (0, [(110, 82), (9, 0), (9, 0), (9, 0), (9, 0), (9, 0), (9, 0)], [], σ, n)).trans rfl
set_option maxRecDepth 100000 in
set_option maxHeartbeats 4000000 in
theorem mo_reads_29_e (d : Nat) (v1 s0 : Int) (σ : am_M) (n : Nat) : mo_reads_29 d v1 s0 σ n = if s0 = 115 then (mo_reads_82 d v1 1 σ n) else if s0 = 107 then (mo_reads_82 d v1 3 σ n) else if s0 = 116 then (mo_reads_82 d v1 4 σ n) else if s0 = 106 then (mo_reads_82 d v1 5 σ n) else if s0 = 104 then (mo_reads_82 d v1 6 σ n) else mo_reads_82 d v1 0 σ n := (am_rn_eq true d 114 19 _).trans rfl
set_option maxRecDepth 100000 in
set_option maxHeartbeats 4000000 in
theorem mo_reads_82_e (d : Nat) (v1 s0 : Int) (σ : am_M) (n : Nat) : mo_reads_82 d v1 s0 σ n = if s0 = 0 then (am_m (am_wr σ 82 6 (σ 82 70)) fun σ1 => some ((-1), σ1, n)) else if s0 = 1 then (mo_reads_145 d v1 s0 2000 σ n) else if s0 = 3 then (mo_reads_145 d v1 s0 2001 σ n) else if s0 = 4 then (mo_reads_145 d v1 s0 2002 σ n) else if s0 = 5 then (mo_reads_145 d v1 s0 2003 σ n) else mo_reads_145 d v1 s0 2004 σ n := (am_rn_eq true d 114 19 _).trans rfl
set_option maxRecDepth 100000 in
set_option maxHeartbeats 4000000 in
theorem mo_reads_145_e (d : Nat) (v1 v3 s1 : Int) (σ : am_M) (n : Nat) : mo_reads_145 d v1 v3 s1 σ n = (mo_goes2 d s1 σ n).bind fun q1 => if v3 = 1 then (mo_reads_173 d v1 v3 (q1.2.1 82 0) q1.2.1 q1.2.2) else if v3 = 3 then (mo_reads_173 d v1 v3 8 q1.2.1 q1.2.2) else mo_reads_173 d v1 v3 4 q1.2.1 q1.2.2 := (am_rn_eq true d 114 12 _).trans rfl
set_option maxRecDepth 100000 in
set_option maxHeartbeats 4000000 in
theorem mo_reads_173_e (d : Nat) (v1 v3 s1 : Int) (σ : am_M) (n : Nat) : mo_reads_173 d v1 v3 s1 σ n = (mo_digit d s1 σ n).bind fun q1 => if q1.2.1 82 6 = (-1) then (if v3 = 1 then ((mo_told d v3 q1.1 0 0 q1.2.1 q1.2.2).bind fun q6 => some (q6.1, q6.2.1, q6.2.2)) else (mo_goes d 40 q1.2.1 q1.2.2).bind fun q2 => if q2.1 = 0 then (some ((-1), q2.2.1, q2.2.2)) else (mo_reads d q2.2.1 q2.2.2).bind fun q3 => if q3.2.1 82 6 = (-1) then (if v3 < 5 then (mo_reads_266 d v1 v3 q1.1 q3.1 q3.1 q3.2.1 q3.2.2) else (mo_goes d 44 q3.2.1 q3.2.2).bind fun q4 => if q4.1 = 0 then (some ((-1), q4.2.1, q4.2.2)) else (mo_reads d q4.2.1 q4.2.2).bind fun q5 => if q5.2.1 82 6 = (-1) then (mo_reads_266 d v1 v3 q1.1 q3.1 q5.1 q5.2.1 q5.2.2) else some ((-1), q5.2.1, q5.2.2)) else some ((-1), q3.2.1, q3.2.2)) else some ((-1), q1.2.1, q1.2.2) := (am_rn_eq true d 114 39 _).trans rfl
set_option maxRecDepth 100000 in
set_option maxHeartbeats 4000000 in
theorem mo_reads_266_e (d : Nat) (v1 v3 v4 v5 v6 : Int) (σ : am_M) (n : Nat) : mo_reads_266 d v1 v3 v4 v5 v6 σ n = (mo_goes d 41 σ n).bind fun q1 => if q1.1 = 0 then (some ((-1), q1.2.1, q1.2.2)) else (mo_may d v3 v4 v5 v6 q1.2.1 q1.2.2).bind fun q2 => if q2.1 = 0 then (am_m (am_wr q2.2.1 82 6 v1) fun σ1 => some ((-1), σ1, q2.2.2)) else (mo_told d v3 v4 v5 v6 q2.2.1 q2.2.2).bind fun q3 => some (q3.1, q3.2.1, q3.2.2) := (am_rn_eq true d 114 19 _).trans rfl
set_option maxRecDepth 100000 in
set_option maxHeartbeats 4000000 in
theorem mo_read_e (d : Nat) (v1 : Int) (σ : am_M) (n : Nat) : mo_read (d + 1) v1 σ n = (mo_isShelf d v1 σ n).bind fun q1 => if q1.1 = 0 then ((mo_no d (-1) q1.2.1 q1.2.2).bind fun q4 => some (q4.1, q4.2.1, q4.2.2)) else am_ix 98 v1 (if q1.2.1 98 v1.toNat = 2 then ((mo_no d (-2) q1.2.1 q1.2.2).bind fun q3 => some (q3.1, q3.2.1, q3.2.2)) else am_ix 98 v1 (if q1.2.1 98 v1.toNat = 0 then ((mo_no d (-3) q1.2.1 q1.2.2).bind fun q2 => some (q2.1, q2.2.1, q2.2.2)) else am_ix 100 v1 (am_m (am_wr q1.2.1 82 69 (q1.2.1 100 v1.toNat)) fun σ1 => mo_read_59 d v1 0 σ1 q1.2.2))) := (am_rn_eq true d 115 24 (0, [(110, 82), (0, v1), (9, 0), (9, 0), (9, 0)], [], σ, n)).trans rfl
set_option maxRecDepth 100000 in
set_option maxHeartbeats 4000000 in
theorem mo_read_59_e (d : Nat) (v1 v2 : Int) (σ : am_M) (n : Nat) : mo_read_59 d v1 v2 σ n = if v2 < σ 82 69 then (am_ix 102 (am_w (am_w (160 * v1) + v2)) (am_ix 136 v2 (am_m (am_wr σ 136 v2.toNat (am_w (σ 102 (am_w (am_w (160 * v1) + v2)).toNat))) fun σ4 => mo_read_59 d v1 (am_w (v2 + 1)) σ4 n))) else am_m (am_wr σ 82 70 0) fun σ1 => am_m (am_wr σ1 82 6 (-1)) fun σ2 => (mo_reads d σ2 n).bind fun q1 => if q1.2.1 82 6 = (-1) then (if q1.2.1 82 70 < q1.2.1 82 69 then (am_m (am_wr q1.2.1 82 6 (q1.2.1 82 70)) fun σ3 => mo_read_145 d (σ2 82 1) (σ2 82 2) q1.1 σ3 q1.2.2) else mo_read_145 d (σ2 82 1) (σ2 82 2) q1.1 q1.2.1 q1.2.2) else mo_read_145 d (σ2 82 1) (σ2 82 2) q1.1 q1.2.1 q1.2.2 := (am_rn_eq true d 115 33 _).trans rfl
set_option maxRecDepth 100000 in
set_option maxHeartbeats 4000000 in
theorem mo_read_145_e (d : Nat) (v2 v3 v4 : Int) (σ : am_M) (n : Nat) : mo_read_145 d v2 v3 v4 σ n = if σ 82 6 = (-1) then (if 64 < σ 82 1 then (mo_read_162 d v2 v3 σ n) else some (v4, σ, n)) else mo_read_162 d v2 v3 σ n := (am_rn_eq true d 115 11 _).trans rfl
set_option maxRecDepth 100000 in
set_option maxHeartbeats 4000000 in
theorem mo_read_162_e (d : Nat) (v2 v3 : Int) (σ : am_M) (n : Nat) : mo_read_162 d v2 v3 σ n = am_m (am_wr σ 82 1 v2) fun σ1 => am_m (am_wr σ1 82 2 v3) fun σ2 => if σ2 82 6 = (-1) then ((mo_no d (-7) σ2 n).bind fun q1 => some (q1.1, q1.2.1, q1.2.2)) else (mo_no d (-6) σ2 n).bind fun q2 => some (q2.1, q2.2.1, q2.2.2) := (am_rn_eq true d 115 16 _).trans rfl
set_option maxRecDepth 100000 in
set_option maxHeartbeats 4000000 in
theorem pm_fault_e (d : Nat) (σ : am_M) (n : Nat) : pm_fault (d + 1) σ n = some (σ 0 12, σ, n) := (am_rn_eq true d 116 4 (0, [(109, 0)], [], σ, n)).trans rfl
set_option maxRecDepth 100000 in
set_option maxHeartbeats 4000000 in
theorem mo_fault_e (d : Nat) (σ : am_M) (n : Nat) : mo_fault (d + 1) σ n = some (σ 82 6, σ, n) := (am_rn_eq true d 117 4 (0, [(110, 82)], [], σ, n)).trans rfl
set_option maxRecDepth 100000 in
set_option maxHeartbeats 4000000 in
theorem me_mergePair_e (d : Nat) (v1 v2 : Int) (σ : am_M) (n : Nat) : me_mergePair (d + 1) v1 v2 σ n = if am_mn v1 v2 = am_mx v1 v2 then (some (0, σ, n)) else am_ix 12 (am_mn v1 v2) (am_ix 12 (am_mx v1 v2) (am_ix 12 (am_mn v1 v2) (am_m (am_wr σ 12 (am_mn v1 v2).toNat (am_lor (σ 12 (am_mn v1 v2).toNat) (σ 12 (am_mx v1 v2).toNat))) fun σ1 => am_ix 12 (am_mx v1 v2) (am_m (am_wr σ1 12 (am_mx v1 v2).toNat 0) fun σ2 => me_mergePair_47 d (am_mn v1 v2) (am_mx v1 v2) 0 σ2 n)))) := (am_rn_eq true d 118 30 (0, [(103, 2), (0, v1), (0, v2), (9, 0), (9, 0), (9, 0)], [], σ, n)).trans rfl
set_option maxRecDepth 100000 in
set_option maxHeartbeats 4000000 in
theorem me_mergePair_47_e (d : Nat) (v3 v4 v5 : Int) (σ : am_M) (n : Nat) : me_mergePair_47 d v3 v4 v5 σ n = if v5 < σ 2 3 then (am_ix 7 v5 (if σ 7 v5.toNat = v4 then (me_mergePair_85 d v3 v4 v5 v5 v3 σ n) else am_ix 7 v5 (me_mergePair_85 d v3 v4 v5 v5 (σ 7 v5.toNat) σ n))) else me_mergePair_155 d v3 v4 0 σ n := (am_rn_eq true d 118 18 _).trans rfl
set_option maxRecDepth 100000 in
set_option maxHeartbeats 4000000 in
theorem me_mergePair_85_e (d : Nat) (v3 v4 v5 s1 s2 : Int) (σ : am_M) (n : Nat) : me_mergePair_85 d v3 v4 v5 s1 s2 σ n = am_ix 7 s1 (am_m (am_wr σ 7 s1.toNat s2) fun σ1 => am_ix 8 v5 (if σ1 8 v5.toNat = v4 then (me_mergePair_115 d v3 v4 v5 v5 v3 σ1 n) else am_ix 8 v5 (me_mergePair_115 d v3 v4 v5 v5 (σ1 8 v5.toNat) σ1 n))) := (am_rn_eq true d 118 15 _).trans rfl
set_option maxRecDepth 100000 in
set_option maxHeartbeats 4000000 in
theorem me_mergePair_115_e (d : Nat) (v3 v4 v5 s1 s2 : Int) (σ : am_M) (n : Nat) : me_mergePair_115 d v3 v4 v5 s1 s2 σ n = am_ix 8 s1 (am_m (am_wr σ 8 s1.toNat s2) fun σ1 => am_ix 9 v5 (if σ1 9 v5.toNat = v4 then (am_ix 9 v5 (am_m (am_wr σ1 9 v5.toNat v3) fun σ3 => me_mergePair_47 d v3 v4 (am_w (v5 + 1)) σ3 n)) else am_ix 9 v5 (am_ix 9 v5 (am_m (am_wr σ1 9 v5.toNat (σ1 9 v5.toNat)) fun σ2 => me_mergePair_47 d v3 v4 (am_w (v5 + 1)) σ2 n)))) := (am_rn_eq true d 118 18 _).trans rfl
set_option maxRecDepth 100000 in
set_option maxHeartbeats 4000000 in
theorem me_mergePair_155_e (d : Nat) (v3 v4 v5 : Int) (σ : am_M) (n : Nat) : me_mergePair_155 d v3 v4 v5 σ n = if v5 < σ 2 9 then (am_ix 10 v5 (if σ 10 v5.toNat = v4 then (am_ix 10 v5 (am_m (am_wr σ 10 v5.toNat v3) fun σ2 => me_mergePair_155 d v3 v4 (am_w (v5 + 1)) σ2 n)) else am_ix 10 v5 (am_ix 10 v5 (am_m (am_wr σ 10 v5.toNat (σ 10 v5.toNat)) fun σ1 => me_mergePair_155 d v3 v4 (am_w (v5 + 1)) σ1 n)))) else some (0, σ, n) := (am_rn_eq true d 118 21 _).trans rfl
set_option maxRecDepth 100000 in
set_option maxHeartbeats 4000000 in
theorem me_dropOneAlike_e (d : Nat) (σ : am_M) (n : Nat) : me_dropOneAlike (d + 1) σ n = me_dropOneAlike_2 d 1 σ n := (am_rn_eq true d 119 3 (0, [(103, 2), (9, 0), (9, 0), (9, 0)], [], σ, n)).trans rfl
set_option maxRecDepth 100000 in
set_option maxHeartbeats 4000000 in
theorem me_dropOneAlike_2_e (d : Nat) (v1 : Int) (σ : am_M) (n : Nat) : me_dropOneAlike_2 d v1 σ n = if v1 < σ 2 3 then ((me_isGone d v1 σ n).bind fun q1 => if q1.1 = 0 then (am_ix 5 v1 (am_ix 6 v1 (am_ix 7 v1 (am_ix 8 v1 ((me_alike d (q1.2.1 5 v1.toNat) (q1.2.1 6 v1.toNat) (q1.2.1 7 v1.toNat) (q1.2.1 8 v1.toNat) q1.2.1 q1.2.2).bind fun q2 => if q2.1 = (-1) then (me_dropOneAlike_2 d (am_w (v1 + 1)) q2.2.1 q2.2.2) else if q2.1 < v1 then (am_ix 9 v1 (am_ix 12 (q2.2.1 9 v1.toNat) (am_ix 12 (q2.2.1 9 v1.toNat) (am_m (am_wr q2.2.1 12 (q2.2.1 9 v1.toNat).toNat (am_land (q2.2.1 12 (q2.2.1 9 v1.toNat).toNat) (am_lxor (am_lshl 1 v1) (-1)))) fun σ1 => am_ix 7 v1 (am_m (am_wr σ1 7 v1.toNat (-1)) fun σ2 => am_ix 8 v1 (am_m (am_wr σ2 8 v1.toNat (-1)) fun σ3 => am_ix 9 v1 (am_m (am_wr σ3 9 v1.toNat (-1)) fun σ4 => am_ix 9 q2.1 ((me_mergePair d (σ4 9 q2.1.toNat) (q2.2.1 9 v1.toNat) σ4 q2.2.2).bind fun q3 => some (1, q3.2.1, q3.2.2))))))))) else me_dropOneAlike_2 d (am_w (v1 + 1)) q2.2.1 q2.2.2))))) else me_dropOneAlike_2 d (am_w (v1 + 1)) q1.2.1 q1.2.2) else some (0, σ, n) := (am_rn_eq true d 119 75 _).trans rfl
set_option maxRecDepth 100000 in
set_option maxHeartbeats 4000000 in
theorem me_unify_e (d : Nat) (v1 v2 : Int) (σ : am_M) (n : Nat) : me_unify (d + 1) v1 v2 σ n = if v1 = v2 then (some (0, σ, n)) else (me_mergePair d v1 v2 σ n).bind fun q1 => me_unify_14 d 0 q1.2.1 q1.2.2 := (am_rn_eq true d 120 10 (0, [(103, 2), (0, v1), (0, v2), (9, 0)], [], σ, n)).trans rfl
set_option maxRecDepth 100000 in
set_option maxHeartbeats 4000000 in
theorem me_unify_14_e (d : Nat) (v3 : Int) (σ : am_M) (n : Nat) : me_unify_14 d v3 σ n = if v3 < 64 then ((me_dropOneAlike d σ n).bind fun q1 => if q1.1 = 0 then (am_m (am_wr q1.2.1 2 17 (am_w (q1.2.1 2 17 + 1))) fun σ2 => some (0, σ2, q1.2.2)) else me_unify_14 d (am_w (v3 + 1)) q1.2.1 q1.2.2) else am_m (am_wr σ 2 17 (am_w (σ 2 17 + 1))) fun σ1 => some (0, σ1, n) := (am_rn_eq true d 120 15 _).trans rfl
set_option maxRecDepth 100000 in
set_option maxHeartbeats 4000000 in
theorem pm_same_e (d : Nat) (v1 v2 : Int) (σ : am_M) (n : Nat) : pm_same (d + 1) v1 v2 σ n = (me_isGroup d v1 σ n).bind fun q1 => if q1.1 = 0 then ((pm_refuse d 1 q1.2.1 q1.2.2).bind fun q2 => some (q2.1, q2.2.1, q2.2.2)) else (me_isGroup d v2 q1.2.1 q1.2.2).bind fun q3 => if q3.1 = 0 then ((pm_refuse d 1 q3.2.1 q3.2.2).bind fun q11 => some (q11.1, q11.2.1, q11.2.2)) else (me_columnsOf d v1 q3.2.1 q3.2.2).bind fun q4 => (me_columnsOf d v2 q4.2.1 q4.2.2).bind fun q5 => if q4.1 = q5.1 then ((me_root d v1 q5.2.1 q5.2.2).bind fun q6 => (me_root d v2 q6.2.1 q6.2.2).bind fun q7 => (me_unify d q6.1 q7.1 q7.2.1 q7.2.2).bind fun q8 => (me_root d v1 q8.2.1 q8.2.2).bind fun q9 => some (q9.1, q9.2.1, q9.2.2)) else (pm_refuse d 6 q5.2.1 q5.2.2).bind fun q10 => some (q10.1, q10.2.1, q10.2.2) := (am_rn_eq true d 121 36 (0, [(109, 0), (0, v1), (0, v2)], [], σ, n)).trans rfl
set_option maxRecDepth 100000 in
set_option maxHeartbeats 4000000 in
theorem mo_merges_e (d : Nat) (v1 v2 : Int) (σ : am_M) (n : Nat) : mo_merges (d + 1) v1 v2 σ n = (mo_root d v1 σ n).bind fun q1 => (mo_root d v2 q1.2.1 q1.2.2).bind fun q2 => am_ix 94 (am_mx q1.1 q2.1) (am_m (am_wr q2.2.1 94 (am_mx q1.1 q2.1).toNat (am_mn q1.1 q2.1)) fun σ1 => mo_merges_33 d 1 σ1 q2.2.2) := (am_rn_eq true d 122 20 (0, [(110, 82), (0, v1), (0, v2), (9, 0), (9, 0), (9, 0), (9, 0), (9, 0)], [], σ, n)).trans rfl
set_option maxRecDepth 100000 in
set_option maxHeartbeats 4000000 in
theorem mo_merges_33_e (d : Nat) (v5 : Int) (σ : am_M) (n : Nat) : mo_merges_33 d v5 σ n = if v5 = 0 then (some (0, σ, n)) else mo_merges_44 d 0 0 σ n := (am_rn_eq true d 122 7 _).trans rfl
set_option maxRecDepth 100000 in
set_option maxHeartbeats 4000000 in
theorem mo_merges_44_e (d : Nat) (v5 v6 : Int) (σ : am_M) (n : Nat) : mo_merges_44 d v5 v6 σ n = if v6 < σ 82 1 then (am_ix 95 v6 (if σ 95 v6.toNat = 0 then (am_ix 89 v6 (am_ix 90 v6 (am_ix 91 v6 (am_ix 92 v6 ((mo_alike d (σ 89 v6.toNat) (σ 90 v6.toNat) (σ 91 v6.toNat) (σ 92 v6.toNat) σ n).bind fun q1 => if q1.1 = v6 then (mo_merges_44 d v5 (am_w (v6 + 1)) q1.2.1 q1.2.2) else am_ix 95 v6 (am_m (am_wr q1.2.1 95 v6.toNat (1 % 2)) fun σ1 => am_ix 93 q1.1 ((mo_root d (σ1 93 q1.1.toNat) σ1 q1.2.2).bind fun q2 => am_ix 93 v6 ((mo_root d (q2.2.1 93 v6.toNat) q2.2.1 q2.2.2).bind fun q3 => am_ix 94 (am_mx q2.1 q3.1) (am_m (am_wr q3.2.1 94 (am_mx q2.1 q3.1).toNat (am_mn q2.1 q3.1)) fun σ2 => mo_merges_44 d 1 (am_w (v6 + 1)) σ2 q3.2.2))))))))) else mo_merges_44 d v5 (am_w (v6 + 1)) σ n)) else mo_merges_33 d v5 σ n := (am_rn_eq true d 122 64 _).trans rfl
set_option maxRecDepth 100000 in
set_option maxHeartbeats 4000000 in
theorem mo_same_e (d : Nat) (v1 v2 : Int) (σ : am_M) (n : Nat) : mo_same (d + 1) v1 v2 σ n = (mo_isGroup d v1 σ n).bind fun q1 => if q1.1 = 0 then ((mo_no d (-1) q1.2.1 q1.2.2).bind fun q2 => some (q2.1, q2.2.1, q2.2.2)) else (mo_isGroup d v2 q1.2.1 q1.2.2).bind fun q3 => if q3.1 = 0 then ((mo_no d (-1) q3.2.1 q3.2.2).bind fun q10 => some (q10.1, q10.2.1, q10.2.2)) else (mo_tells d q3.2.1 q3.2.2).bind fun q4 => (mo_root d v1 q4.2.1 q4.2.2).bind fun q5 => am_ix 105 q5.1 ((mo_root d v2 q5.2.1 q5.2.2).bind fun q6 => am_ix 105 q6.1 (if q5.2.1 105 q5.1.toNat = q6.2.1 105 q6.1.toNat then ((mo_merges d v1 v2 q6.2.1 q6.2.2).bind fun q7 => (mo_root d v1 q7.2.1 q7.2.2).bind fun q8 => some (q8.1, q8.2.1, q8.2.2)) else (mo_no d (-6) q6.2.1 q6.2.2).bind fun q9 => some (q9.1, q9.2.1, q9.2.2))) := (am_rn_eq true d 123 32 (0, [(110, 82), (0, v1), (0, v2)], [], σ, n)).trans rfl
set_option maxRecDepth 100000 in
set_option maxHeartbeats 4000000 in
theorem pm_groupOf_e (d : Nat) (v1 : Int) (σ : am_M) (n : Nat) : pm_groupOf (d + 1) v1 σ n = (me_isGroup d v1 σ n).bind fun q1 => if q1.1 = 0 then ((pm_refuse d 1 q1.2.1 q1.2.2).bind fun q2 => some (q2.1, q2.2.1, q2.2.2)) else (me_root d v1 q1.2.1 q1.2.2).bind fun q3 => some (q3.1, q3.2.1, q3.2.2) := (am_rn_eq true d 124 12 (0, [(109, 0), (0, v1)], [], σ, n)).trans rfl
set_option maxRecDepth 100000 in
set_option maxHeartbeats 4000000 in
theorem mo_groupOf_e (d : Nat) (v1 : Int) (σ : am_M) (n : Nat) : mo_groupOf (d + 1) v1 σ n = (mo_isGroup d v1 σ n).bind fun q1 => if q1.1 = 0 then ((mo_no d (-1) q1.2.1 q1.2.2).bind fun q2 => some (q2.1, q2.2.1, q2.2.2)) else (mo_root d v1 q1.2.1 q1.2.2).bind fun q3 => some (q3.1, q3.2.1, q3.2.2) := (am_rn_eq true d 125 10 (0, [(110, 82), (0, v1)], [], σ, n)).trans rfl
set_option maxRecDepth 100000 in
set_option maxHeartbeats 4000000 in
theorem lo_bitCount_e (d : Nat) (v0 : Int) (σ : am_M) (n : Nat) : lo_bitCount (d + 1) v0 σ n = some (am_and (am_w (am_x (am_x (am_x (am_land (am_x (am_x (am_land (am_x (v0 - am_land (am_lushr v0 1) 6148914691236517205)) 3689348814741910323 + am_land (am_lushr (am_x (v0 - am_land (am_lushr v0 1) 6148914691236517205)) 2) 3689348814741910323) + am_lushr (am_x (am_land (am_x (v0 - am_land (am_lushr v0 1) 6148914691236517205)) 3689348814741910323 + am_land (am_lushr (am_x (v0 - am_land (am_lushr v0 1) 6148914691236517205)) 2) 3689348814741910323)) 4)) 1085102592571150095 + am_lushr (am_land (am_x (am_x (am_land (am_x (v0 - am_land (am_lushr v0 1) 6148914691236517205)) 3689348814741910323 + am_land (am_lushr (am_x (v0 - am_land (am_lushr v0 1) 6148914691236517205)) 2) 3689348814741910323) + am_lushr (am_x (am_land (am_x (v0 - am_land (am_lushr v0 1) 6148914691236517205)) 3689348814741910323 + am_land (am_lushr (am_x (v0 - am_land (am_lushr v0 1) 6148914691236517205)) 2) 3689348814741910323)) 4)) 1085102592571150095) 8) + am_lushr (am_x (am_land (am_x (am_x (am_land (am_x (v0 - am_land (am_lushr v0 1) 6148914691236517205)) 3689348814741910323 + am_land (am_lushr (am_x (v0 - am_land (am_lushr v0 1) 6148914691236517205)) 2) 3689348814741910323) + am_lushr (am_x (am_land (am_x (v0 - am_land (am_lushr v0 1) 6148914691236517205)) 3689348814741910323 + am_land (am_lushr (am_x (v0 - am_land (am_lushr v0 1) 6148914691236517205)) 2) 3689348814741910323)) 4)) 1085102592571150095 + am_lushr (am_land (am_x (am_x (am_land (am_x (v0 - am_land (am_lushr v0 1) 6148914691236517205)) 3689348814741910323 + am_land (am_lushr (am_x (v0 - am_land (am_lushr v0 1) 6148914691236517205)) 2) 3689348814741910323) + am_lushr (am_x (am_land (am_x (v0 - am_land (am_lushr v0 1) 6148914691236517205)) 3689348814741910323 + am_land (am_lushr (am_x (v0 - am_land (am_lushr v0 1) 6148914691236517205)) 2) 3689348814741910323)) 4)) 1085102592571150095) 8)) 16) + am_lushr (am_x (am_x (am_land (am_x (am_x (am_land (am_x (v0 - am_land (am_lushr v0 1) 6148914691236517205)) 3689348814741910323 + am_land (am_lushr (am_x (v0 - am_land (am_lushr v0 1) 6148914691236517205)) 2) 3689348814741910323) + am_lushr (am_x (am_land (am_x (v0 - am_land (am_lushr v0 1) 6148914691236517205)) 3689348814741910323 + am_land (am_lushr (am_x (v0 - am_land (am_lushr v0 1) 6148914691236517205)) 2) 3689348814741910323)) 4)) 1085102592571150095 + am_lushr (am_land (am_x (am_x (am_land (am_x (v0 - am_land (am_lushr v0 1) 6148914691236517205)) 3689348814741910323 + am_land (am_lushr (am_x (v0 - am_land (am_lushr v0 1) 6148914691236517205)) 2) 3689348814741910323) + am_lushr (am_x (am_land (am_x (v0 - am_land (am_lushr v0 1) 6148914691236517205)) 3689348814741910323 + am_land (am_lushr (am_x (v0 - am_land (am_lushr v0 1) 6148914691236517205)) 2) 3689348814741910323)) 4)) 1085102592571150095) 8) + am_lushr (am_x (am_land (am_x (am_x (am_land (am_x (v0 - am_land (am_lushr v0 1) 6148914691236517205)) 3689348814741910323 + am_land (am_lushr (am_x (v0 - am_land (am_lushr v0 1) 6148914691236517205)) 2) 3689348814741910323) + am_lushr (am_x (am_land (am_x (v0 - am_land (am_lushr v0 1) 6148914691236517205)) 3689348814741910323 + am_land (am_lushr (am_x (v0 - am_land (am_lushr v0 1) 6148914691236517205)) 2) 3689348814741910323)) 4)) 1085102592571150095 + am_lushr (am_land (am_x (am_x (am_land (am_x (v0 - am_land (am_lushr v0 1) 6148914691236517205)) 3689348814741910323 + am_land (am_lushr (am_x (v0 - am_land (am_lushr v0 1) 6148914691236517205)) 2) 3689348814741910323) + am_lushr (am_x (am_land (am_x (v0 - am_land (am_lushr v0 1) 6148914691236517205)) 3689348814741910323 + am_land (am_lushr (am_x (v0 - am_land (am_lushr v0 1) 6148914691236517205)) 2) 3689348814741910323)) 4)) 1085102592571150095) 8)) 16)) 32))) 127, σ, n) := (am_rn_eq true d 126 50 (0, [(1, v0), (9, 0)], [], σ, n)).trans rfl
