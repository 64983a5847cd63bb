set_option maxRecDepth 100000 in
set_option maxHeartbeats 4000000 in
theorem pm_row_e (d : Nat) (v1 v2 v3 : Int) (σ : am_M) (n : Nat) : pm_row (d + 1) v1 v2 v3 σ n = (pm_isShelf d v1 σ n).bind fun q1 => if q1.1 = 0 then ((pm_refuse d 1 q1.2.1 q1.2.2).bind fun q7 => some (q7.1, q7.2.1, q7.2.2)) else if v3 < 0 then ((pm_refuse d 4 q1.2.1 q1.2.2).bind fun q6 => some (q6.1, q6.2.1, q6.2.2)) else if v2 < 0 then ((pm_refuse d 6 q1.2.1 q1.2.2).bind fun q2 => some (q2.1, q2.2.1, q2.2.2)) else if 3 < v2 then ((pm_refuse d 6 q1.2.1 q1.2.2).bind fun q5 => some (q5.1, q5.2.1, q5.2.2)) else if 160 < v3 then ((pm_refuse d 7 q1.2.1 q1.2.2).bind fun q4 => some (q4.1, q4.2.1, q4.2.2)) else am_ix 1 v1 (am_if (¬ am_fin 1 v1.toNat < 0) ((sh_takeRow d (am_fin 1 v1.toNat) v2 v3 q1.2.1 q1.2.2).bind fun q3 => some (1, q3.2.1, q3.2.2))) := (am_rn_eq true d 16 23 (0, [(109, 0), (0, v1), (0, v2), (0, v3)], [], σ, n)).trans rfl
set_option maxRecDepth 100000 in
set_option maxHeartbeats 4000000 in
theorem sh_put_e (d : Nat) (v0 v1 v2 : Int) (σ : am_M) (n : Nat) : sh_put (d + 1) v0 v1 v2 σ n = am_if (¬ v0 < 0) ((sh_hasElements d v0 v1 1 σ n).bind fun q1 => if q1.1 = 0 then (some (0, q1.2.1, q1.2.2)) else am_if (¬ v0 < 0) (if q1.2.1 v0.toNat 2 = 0 then (am_if (¬ v0 < 0) (am_ix (am_fin v0.toNat 0) v1 (am_m (am_wr q1.2.1 (am_fin v0.toNat 0).toNat v1.toNat (am_w8 (am_w v2))) fun σ1 => some (0, σ1, q1.2.2)))) else if q1.2.1 v0.toNat 2 = 1 then (am_if (¬ v0 < 0) (am_ix (am_fin v0.toNat 0) v1 (am_m (am_wr q1.2.1 (am_fin v0.toNat 0).toNat v1.toNat (am_w16 (am_w v2))) fun σ2 => some (0, σ2, q1.2.2)))) else if q1.2.1 v0.toNat 2 = 2 then (am_if (¬ v0 < 0) (am_ix (am_fin v0.toNat 0) v1 (am_m (am_wr q1.2.1 (am_fin v0.toNat 0).toNat v1.toNat (am_w v2)) fun σ3 => some (0, σ3, q1.2.2)))) else am_if (¬ v0 < 0) (am_ix (am_fin v0.toNat 0) v1 (am_m (am_wr q1.2.1 (am_fin v0.toNat 0).toNat v1.toNat v2) fun σ4 => some (0, σ4, q1.2.2))))) := (am_rn_eq true d 24 19 (0, [(106, v0), (0, v1), (1, v2), (9, 0)], [], σ, n)).trans rfl
set_option maxRecDepth 100000 in
set_option maxHeartbeats 4000000 in
theorem me_alike_e (d : Nat) (v1 v2 v3 v4 : Int) (σ : am_M) (n : Nat) : me_alike (d + 1) v1 v2 v3 v4 σ n = me_alike_3 d v1 v2 v3 v4 0 σ n := (am_rn_eq true d 59 3 (0, [(103, 2), (0, v1), (0, v2), (0, v3), (0, v4), (9, 0)], [], σ, n)).trans rfl
set_option maxRecDepth 100000 in
set_option maxHeartbeats 4000000 in
theorem me_alike_3_e (d : Nat) (v1 v2 v3 v4 v5 : Int) (σ : am_M) (n : Nat) : me_alike_3 d v1 v2 v3 v4 v5 σ n = if v5 < σ 2 3 then (am_ix 5 v5 (if σ 5 v5.toNat = v1 then (am_ix 6 v5 (if σ 6 v5.toNat = v2 then (am_ix 7 v5 (if σ 7 v5.toNat = v3 then (am_ix 8 v5 (if σ 8 v5.toNat = v4 then ((me_isGone d v5 σ n).bind fun q1 => if q1.1 = 0 then (some (v5, q1.2.1, q1.2.2)) else me_alike_3 d v1 v2 v3 v4 (am_w (v5 + 1)) q1.2.1 q1.2.2) else me_alike_3 d v1 v2 v3 v4 (am_w (v5 + 1)) σ n)) else me_alike_3 d v1 v2 v3 v4 (am_w (v5 + 1)) σ n)) else me_alike_3 d v1 v2 v3 v4 (am_w (v5 + 1)) σ n)) else me_alike_3 d v1 v2 v3 v4 (am_w (v5 + 1)) σ n)) else some ((-1), σ, n) := (am_rn_eq true d 59 35 _).trans rfl
set_option maxRecDepth 100000 in
set_option maxHeartbeats 4000000 in
theorem me_tell_e (d : Nat) (v1 v2 v3 v4 : Int) (σ : am_M) (n : Nat) : me_tell (d + 1) v1 v2 v3 v4 σ n = (me_alike d v1 v2 v3 v4 σ n).bind fun q1 => if q1.1 = (-1) then (if q1.2.1 2 3 < 64 then (if q1.2.1 2 9 < 64 then (if v1 = 1 then ((me_factOfTable d v2 1 q1.2.1 q1.2.2).bind fun q3 => me_tell_64 d v1 v2 v3 v4 q3.1 q3.2.1 q3.2.2) else (me_columnsOf d v3 q1.2.1 q1.2.2).bind fun q2 => me_tell_64 d v1 v2 v3 v4 q2.1 q2.2.1 q2.2.2) else some ((-1), q1.2.1, q1.2.2)) else some ((-1), q1.2.1, q1.2.2)) else am_ix 9 q1.1 (some (q1.2.1 9 q1.1.toNat, q1.2.1, q1.2.2)) := (am_rn_eq true d 64 27 (0, [(103, 2), (0, v1), (0, v2), (0, v3), (0, v4), (9, 0), (9, 0), (9, 0)], [], σ, n)).trans rfl
set_option maxRecDepth 100000 in
set_option maxHeartbeats 4000000 in
theorem me_tell_64_e (d : Nat) (v1 v2 v3 v4 s0 : Int) (σ : am_M) (n : Nat) : me_tell_64 d v1 v2 v3 v4 s0 σ n = am_m (am_wr σ 2 9 (am_w (σ 2 9 + 1))) fun σ1 => am_ix 10 (σ 2 9) (am_m (am_wr σ1 10 (σ 2 9).toNat (σ 2 9)) fun σ2 => (me_columnsOf d v4 σ2 n).bind fun q1 => (pm_columnsBy d v1 v2 s0 q1.1 q1.2.1 q1.2.2).bind fun q2 => am_ix 11 (σ 2 9) (am_m (am_wr q2.2.1 11 (σ 2 9).toNat q2.1) fun σ3 => am_ix 12 (σ 2 9) (am_m (am_wr σ3 12 (σ 2 9).toNat 0) fun σ4 => (me_addTo d (σ 2 9) v1 v2 v3 v4 σ4 q2.2.2).bind fun q3 => some (σ 2 9, q3.2.1, q3.2.2)))) := (am_rn_eq true d 64 41 _).trans rfl
set_option maxRecDepth 100000 in
set_option maxHeartbeats 4000000 in
theorem me_mergePair_e (d : Nat) (v1 v2 : Int) (σ : am_M) (n : Nat) : me_mergePair (d + 1) v1 v2 σ n = (ma_min2 d v1 v2 σ n).bind fun q1 => (ma_max2 d v1 v2 q1.2.1 q1.2.2).bind fun q2 => if q1.1 = q2.1 then (some (0, q2.2.1, q2.2.2)) else am_ix 12 q1.1 (am_ix 12 q2.1 (am_ix 12 q1.1 (am_m (am_wr q2.2.1 12 q1.1.toNat (am_lor (q2.2.1 12 q1.1.toNat) (q2.2.1 12 q2.1.toNat))) fun σ1 => am_ix 12 q2.1 (am_m (am_wr σ1 12 q2.1.toNat 0) fun σ2 => me_mergePair_47 d q1.1 q2.1 0 σ2 q2.2.2)))) := (am_rn_eq true d 121 30 (0, [(103, 2), (0, v1), (0, v2), (9, 0), (9, 0), (9, 0)], [], σ, n)).trans rfl
set_option maxRecDepth 100000 in
set_option maxHeartbeats 4000000 in
theorem me_mergePair_47_e (d : Nat) (v3 v4 v5 : Int) (σ : am_M) (n : Nat) : me_mergePair_47 d v3 v4 v5 σ n = if v5 < σ 2 3 then (am_ix 7 v5 (if σ 7 v5.toNat = v4 then (me_mergePair_85 d v3 v4 v5 7 v5 v3 σ n) else am_ix 7 v5 (me_mergePair_85 d v3 v4 v5 7 v5 (σ 7 v5.toNat) σ n))) else me_mergePair_155 d v3 v4 0 σ n := (am_rn_eq true d 121 18 _).trans rfl
set_option maxRecDepth 100000 in
set_option maxHeartbeats 4000000 in
theorem me_mergePair_85_e (d : Nat) (v3 v4 v5 s0 s1 s2 : Int) (σ : am_M) (n : Nat) : me_mergePair_85 d v3 v4 v5 s0 s1 s2 σ n = am_ix s0 s1 (am_m (am_wr σ s0.toNat s1.toNat s2) fun σ1 => am_ix 8 v5 (if σ1 8 v5.toNat = v4 then (me_mergePair_115 d v3 v4 v5 8 v5 v3 σ1 n) else am_ix 8 v5 (me_mergePair_115 d v3 v4 v5 8 v5 (σ1 8 v5.toNat) σ1 n))) := (am_rn_eq true d 121 15 _).trans rfl
set_option maxRecDepth 100000 in
set_option maxHeartbeats 4000000 in
theorem me_mergePair_115_e (d : Nat) (v3 v4 v5 s0 s1 s2 : Int) (σ : am_M) (n : Nat) : me_mergePair_115 d v3 v4 v5 s0 s1 s2 σ n = am_ix s0 s1 (am_m (am_wr σ s0.toNat s1.toNat s2) fun σ1 => am_ix 9 v5 (if σ1 9 v5.toNat = v4 then (am_ix 9 v5 (am_m (am_wr σ1 9 v5.toNat v3) fun σ3 => me_mergePair_47 d v3 v4 (am_w (v5 + 1)) σ3 n)) else am_ix 9 v5 (am_ix 9 v5 (am_m (am_wr σ1 9 v5.toNat (σ1 9 v5.toNat)) fun σ2 => me_mergePair_47 d v3 v4 (am_w (v5 + 1)) σ2 n)))) := (am_rn_eq true d 121 18 _).trans rfl
set_option maxRecDepth 100000 in
set_option maxHeartbeats 4000000 in
theorem me_mergePair_155_e (d : Nat) (v3 v4 v5 : Int) (σ : am_M) (n : Nat) : me_mergePair_155 d v3 v4 v5 σ n = if v5 < σ 2 9 then (am_ix 10 v5 (if σ 10 v5.toNat = v4 then (am_ix 10 v5 (am_m (am_wr σ 10 v5.toNat v3) fun σ2 => me_mergePair_155 d v3 v4 (am_w (v5 + 1)) σ2 n)) else am_ix 10 v5 (am_ix 10 v5 (am_m (am_wr σ 10 v5.toNat (σ 10 v5.toNat)) fun σ1 => me_mergePair_155 d v3 v4 (am_w (v5 + 1)) σ1 n)))) else some (0, σ, n) := (am_rn_eq true d 121 21 _).trans rfl
set_option maxRecDepth 100000 in
set_option maxHeartbeats 4000000 in
theorem bo_runFromA_e (d : Nat) (v1 v2 : Int) (σ : am_M) (n : Nat) : bo_runFromA (d + 1) v1 v2 σ n = bo_runFromA_8 d v2 0 v1 0 σ n := (am_rn_eq true d 172 7 (0, [(100, 54), (0, v1), (21, v2), (9, 0), (9, 0), (9, 0), (9, 0), (9, 0)], [], σ, n)).trans rfl
set_option maxRecDepth 100000 in
set_option maxHeartbeats 4000000 in
theorem bo_runFromA_8_e (d : Nat) (v2 v3 v4 v5 : Int) (σ : am_M) (n : Nat) : bo_runFromA_8 d v2 v3 v4 v5 σ n = if v5 < 12 then (if v4 < 0 then (bo_runFromA_77 d 0 (am_w (v3 - 1)) σ n) else if v4 < 12 then (am_cx v2 v4 (if am_kc v2.toNat v4.toNat = 0 then (am_cx 1002 v4 (bo_runFromA_8 d v2 v3 (am_kc 1002 v4.toNat) (am_w (v5 + 1)) σ n)) else am_cx v2 v4 ((bo_beginA d (am_kc v2.toNat v4.toNat) σ n).bind fun q1 => am_cx v2 v4 (am_ix 56 v3 (am_m (am_wr q1.2.1 56 v3.toNat (am_kc v2.toNat v4.toNat)) fun σ1 => am_cx 1002 v4 (bo_runFromA_8 d v2 (am_w (v3 + 1)) (am_kc 1002 v4.toNat) (am_w (v5 + 1)) σ1 q1.2.2)))))) else bo_runFromA_77 d 0 (am_w (v3 - 1)) σ n) else bo_runFromA_77 d 0 (am_w (v3 - 1)) σ n := (am_rn_eq true d 172 32 _).trans rfl
set_option maxRecDepth 100000 in
set_option maxHeartbeats 4000000 in
theorem bo_runFromA_77_e (d : Nat) (v5 v7 : Int) (σ : am_M) (n : Nat) : bo_runFromA_77 d v5 v7 σ n = if v7 < 0 then (some (v5, σ, n)) else am_ix 56 v7 ((bo_endOfA d (σ 56 v7.toNat) v5 σ n).bind fun q1 => bo_runFromA_77 d q1.1 (am_w (v7 + (-1))) q1.2.1 q1.2.2) := (am_rn_eq true d 172 13 _).trans rfl
set_option maxRecDepth 100000 in
set_option maxHeartbeats 4000000 in
theorem bo_runFromB_e (d : Nat) (v1 v2 : Int) (σ : am_M) (n : Nat) : bo_runFromB (d + 1) v1 v2 σ n = bo_runFromB_8 d v2 0 v1 0 σ n := (am_rn_eq true d 172 7 (0, [(100, 38), (0, v1), (21, v2), (9, 0), (9, 0), (9, 0), (9, 0), (9, 0)], [], σ, n)).trans rfl
set_option maxRecDepth 100000 in
set_option maxHeartbeats 4000000 in
theorem bo_runFromB_8_e (d : Nat) (v2 v3 v4 v5 : Int) (σ : am_M) (n : Nat) : bo_runFromB_8 d v2 v3 v4 v5 σ n = if v5 < 12 then (if v4 < 0 then (bo_runFromB_77 d 0 (am_w (v3 - 1)) σ n) else if v4 < 12 then (am_cx v2 v4 (if am_kc v2.toNat v4.toNat = 0 then (am_cx 1002 v4 (bo_runFromB_8 d v2 v3 (am_kc 1002 v4.toNat) (am_w (v5 + 1)) σ n)) else am_cx v2 v4 ((bo_beginB d (am_kc v2.toNat v4.toNat) σ n).bind fun q1 => am_cx v2 v4 (am_ix 40 v3 (am_m (am_wr q1.2.1 40 v3.toNat (am_kc v2.toNat v4.toNat)) fun σ1 => am_cx 1002 v4 (bo_runFromB_8 d v2 (am_w (v3 + 1)) (am_kc 1002 v4.toNat) (am_w (v5 + 1)) σ1 q1.2.2)))))) else bo_runFromB_77 d 0 (am_w (v3 - 1)) σ n) else bo_runFromB_77 d 0 (am_w (v3 - 1)) σ n := (am_rn_eq true d 172 32 _).trans rfl
set_option maxRecDepth 100000 in
set_option maxHeartbeats 4000000 in
theorem bo_runFromB_77_e (d : Nat) (v5 v7 : Int) (σ : am_M) (n : Nat) : bo_runFromB_77 d v5 v7 σ n = if v7 < 0 then (some (v5, σ, n)) else am_ix 40 v7 ((bo_endOfB d (σ 40 v7.toNat) v5 σ n).bind fun q1 => bo_runFromB_77 d q1.1 (am_w (v7 + (-1))) q1.2.1 q1.2.2) := (am_rn_eq true d 172 13 _).trans rfl
