/-! PRICES of the reference, by kinds; the two together -/
set_option maxRecDepth 100000 in
set_option maxHeartbeats 4000000 in
theorem mo_q0 (d : Nat) (a b r : Int) (σ : am_M) (n : Nat) : mo_priceOf (d + 8) 0 a b r (am_wr σ 82 7 0) n = some (am_x (a + 0), am_wr (am_wr (am_wr (am_wr (am_wr (am_wr (am_wr σ 82 7 0) 134 0 12) 82 7 1) 134 1 10) 82 7 2) 134 2 11) 82 7 3, n) := am_run_iff.mpr ⟨400, rfl⟩
set_option maxRecDepth 100000 in
set_option maxHeartbeats 4000000 in
theorem mo_s0 (d : Nat) (a b r : Int) (σ : am_M) (n : Nat) : mo_priceOf (d + 8) 0 a b r (am_wr σ 82 7 20) n = some (am_x (a + 0), am_wr (am_wr (am_wr (am_wr σ 82 7 20) 82 7 21) 82 7 22) 82 7 23, n) := am_run_iff.mpr ⟨400, rfl⟩
set_option maxRecDepth 100000 in
set_option maxHeartbeats 4000000 in
theorem mo_q1 (d : Nat) (a b r : Int) (σ : am_M) (n : Nat) : mo_priceOf (d + 8) 1 a b r (am_wr σ 82 7 0) n = some (am_x (a + 0), am_wr (am_wr (am_wr (am_wr (am_wr (am_wr (am_wr σ 82 7 0) 134 0 12) 82 7 1) 134 1 10) 82 7 2) 134 2 11) 82 7 3, n) := am_run_iff.mpr ⟨400, rfl⟩
set_option maxRecDepth 100000 in
set_option maxHeartbeats 4000000 in
theorem mo_s1 (d : Nat) (a b r : Int) (σ : am_M) (n : Nat) : mo_priceOf (d + 8) 1 a b r (am_wr σ 82 7 20) n = some (am_x (a + 0), am_wr (am_wr (am_wr (am_wr σ 82 7 20) 82 7 21) 82 7 22) 82 7 23, n) := am_run_iff.mpr ⟨400, rfl⟩
set_option maxRecDepth 100000 in
set_option maxHeartbeats 4000000 in
theorem mo_q2 (d : Nat) (a b r : Int) (σ : am_M) (n : Nat) : mo_priceOf (d + 8) 2 a b r (am_wr σ 82 7 0) n = some (am_x (a + 0), am_wr (am_wr (am_wr (am_wr (am_wr (am_wr (am_wr σ 82 7 0) 134 0 12) 82 7 1) 134 1 10) 82 7 2) 134 2 11) 82 7 3, n) := am_run_iff.mpr ⟨400, rfl⟩
set_option maxRecDepth 100000 in
set_option maxHeartbeats 4000000 in
theorem mo_s2 (d : Nat) (a b r : Int) (σ : am_M) (n : Nat) : mo_priceOf (d + 8) 2 a b r (am_wr σ 82 7 20) n = some (am_x (a + 0), am_wr (am_wr (am_wr (am_wr σ 82 7 20) 82 7 21) 82 7 22) 82 7 23, n) := am_run_iff.mpr ⟨400, rfl⟩
set_option maxRecDepth 100000 in
set_option maxHeartbeats 4000000 in
theorem mo_q3 (d : Nat) (a b r : Int) (σ : am_M) (n : Nat) : mo_priceOf (d + 8) 3 a b r (am_wr σ 82 7 0) n = some (am_x (am_x (a + b) + am_x (0 + r)), am_wr (am_wr (am_wr (am_wr (am_wr (am_wr (am_wr (am_wr (am_wr (am_wr (am_wr σ 82 7 0) 134 0 12) 82 7 1) 134 1 30) 82 7 2) 134 2 10) 82 7 3) 134 3 31) 82 7 4) 134 4 11) 82 7 5, n) := am_run_iff.mpr ⟨400, rfl⟩
set_option maxRecDepth 100000 in
set_option maxHeartbeats 4000000 in
theorem mo_s3 (d : Nat) (a b r : Int) (σ : am_M) (n : Nat) : mo_priceOf (d + 8) 3 a b r (am_wr σ 82 7 20) n = some (am_x (am_x (a + b) + am_x (0 + r)), am_wr (am_wr (am_wr (am_wr (am_wr (am_wr σ 82 7 20) 82 7 21) 82 7 22) 82 7 23) 82 7 24) 82 7 25, n) := am_run_iff.mpr ⟨400, rfl⟩
set_option maxRecDepth 100000 in
set_option maxHeartbeats 4000000 in
theorem mo_q4 (d : Nat) (a b r : Int) (σ : am_M) (n : Nat) : mo_priceOf (d + 8) 4 a b r (am_wr σ 82 7 0) n = some (am_x (am_x (a + b) + am_x (am_x (0 + r) + b)), am_wr (am_wr (am_wr (am_wr (am_wr (am_wr (am_wr (am_wr (am_wr (am_wr (am_wr (am_wr (am_wr σ 82 7 0) 134 0 12) 82 7 1) 134 1 30) 82 7 2) 134 2 10) 82 7 3) 134 3 40) 82 7 4) 134 4 31) 82 7 5) 134 5 11) 82 7 6, n) := am_run_iff.mpr ⟨400, rfl⟩
set_option maxRecDepth 100000 in
set_option maxHeartbeats 4000000 in
theorem mo_s4 (d : Nat) (a b r : Int) (σ : am_M) (n : Nat) : mo_priceOf (d + 8) 4 a b r (am_wr σ 82 7 20) n = some (am_x (am_x (a + b) + am_x (am_x (0 + r) + b)), am_wr (am_wr (am_wr (am_wr (am_wr (am_wr (am_wr σ 82 7 20) 82 7 21) 82 7 22) 82 7 23) 82 7 24) 82 7 25) 82 7 26, n) := am_run_iff.mpr ⟨400, rfl⟩
set_option maxRecDepth 100000 in
set_option maxHeartbeats 4000000 in
theorem mo_q5 (d : Nat) (a b r : Int) (σ : am_M) (n : Nat) : mo_priceOf (d + 8) 5 a b r (am_wr σ 82 7 0) n = some (am_x (am_x (am_x (a + b) + r) + am_x (0 + r)), am_wr (am_wr (am_wr (am_wr (am_wr (am_wr (am_wr (am_wr (am_wr (am_wr (am_wr (am_wr (am_wr σ 82 7 0) 134 0 12) 82 7 1) 134 1 50) 82 7 2) 134 2 30) 82 7 3) 134 3 10) 82 7 4) 134 4 31) 82 7 5) 134 5 11) 82 7 6, n) := am_run_iff.mpr ⟨400, rfl⟩
set_option maxRecDepth 100000 in
set_option maxHeartbeats 4000000 in
theorem mo_s5 (d : Nat) (a b r : Int) (σ : am_M) (n : Nat) : mo_priceOf (d + 8) 5 a b r (am_wr σ 82 7 20) n = some (am_x (am_x (am_x (a + b) + r) + am_x (0 + r)), am_wr (am_wr (am_wr (am_wr (am_wr (am_wr (am_wr σ 82 7 20) 82 7 21) 82 7 22) 82 7 23) 82 7 24) 82 7 25) 82 7 26, n) := am_run_iff.mpr ⟨400, rfl⟩
set_option maxRecDepth 100000 in
set_option maxHeartbeats 4000000 in
theorem mo_q6 (d : Nat) (a b r : Int) (σ : am_M) (n : Nat) : mo_priceOf (d + 8) 6 a b r (am_wr σ 82 7 0) n = some (am_x (am_x (a + b) + am_x (am_x (0 + r) + am_x (a * b))), am_wr (am_wr (am_wr (am_wr (am_wr (am_wr (am_wr (am_wr (am_wr (am_wr (am_wr (am_wr (am_wr σ 82 7 0) 134 0 12) 82 7 1) 134 1 30) 82 7 2) 134 2 10) 82 7 3) 134 3 60) 82 7 4) 134 4 31) 82 7 5) 134 5 11) 82 7 6, n) := am_run_iff.mpr ⟨400, rfl⟩
set_option maxRecDepth 100000 in
set_option maxHeartbeats 4000000 in
theorem mo_s6 (d : Nat) (a b r : Int) (σ : am_M) (n : Nat) : mo_priceOf (d + 8) 6 a b r (am_wr σ 82 7 20) n = some (am_x (am_x (a + b) + am_x (am_x (0 + r) + am_x (a * b))), am_wr (am_wr (am_wr (am_wr (am_wr (am_wr (am_wr σ 82 7 20) 82 7 21) 82 7 22) 82 7 23) 82 7 24) 82 7 25) 82 7 26, n) := am_run_iff.mpr ⟨400, rfl⟩
set_option maxRecDepth 100000 in
set_option maxHeartbeats 4000000 in
theorem mo_q7 (d : Nat) (a b r : Int) (σ : am_M) (n : Nat) : mo_priceOf (d + 8) 7 a b r (am_wr σ 82 7 0) n = some (am_x (a + am_x (0 + r)), am_wr (am_wr (am_wr (am_wr (am_wr (am_wr (am_wr (am_wr (am_wr σ 82 7 0) 134 0 12) 82 7 1) 134 1 10) 82 7 2) 134 2 70) 82 7 3) 134 3 11) 82 7 4, n) := am_run_iff.mpr ⟨400, rfl⟩
set_option maxRecDepth 100000 in
set_option maxHeartbeats 4000000 in
theorem mo_s7 (d : Nat) (a b r : Int) (σ : am_M) (n : Nat) : mo_priceOf (d + 8) 7 a b r (am_wr σ 82 7 20) n = some (am_x (a + am_x (0 + r)), am_wr (am_wr (am_wr (am_wr (am_wr σ 82 7 20) 82 7 21) 82 7 22) 82 7 23) 82 7 24, n) := am_run_iff.mpr ⟨400, rfl⟩
set_option maxRecDepth 100000 in
set_option maxHeartbeats 4000000 in
theorem mo_q8 (d : Nat) (a b r : Int) (σ : am_M) (n : Nat) : mo_priceOf (d + 8) 8 a b r (am_wr σ 82 7 0) n = some (am_x (am_x (a * 2) + am_x (0 + r)), am_wr (am_wr (am_wr (am_wr (am_wr (am_wr (am_wr (am_wr (am_wr (am_wr (am_wr σ 82 7 0) 134 0 12) 82 7 1) 134 1 80) 82 7 2) 134 2 10) 82 7 3) 134 3 70) 82 7 4) 134 4 11) 82 7 5, n) := am_run_iff.mpr ⟨400, rfl⟩
set_option maxRecDepth 100000 in
set_option maxHeartbeats 4000000 in
theorem mo_s8 (d : Nat) (a b r : Int) (σ : am_M) (n : Nat) : mo_priceOf (d + 8) 8 a b r (am_wr σ 82 7 20) n = some (am_x (am_x (a * 2) + am_x (0 + r)), am_wr (am_wr (am_wr (am_wr (am_wr (am_wr σ 82 7 20) 82 7 21) 82 7 22) 82 7 23) 82 7 24) 82 7 25, n) := am_run_iff.mpr ⟨400, rfl⟩
set_option maxRecDepth 100000 in
set_option maxHeartbeats 4000000 in
theorem mo_q9 (d : Nat) (a b r : Int) (σ : am_M) (n : Nat) : mo_priceOf (d + 8) 9 a b r (am_wr σ 82 7 0) n = some (am_x (a + am_x (0 + r)), am_wr (am_wr (am_wr (am_wr (am_wr (am_wr (am_wr (am_wr (am_wr σ 82 7 0) 134 0 12) 82 7 1) 134 1 10) 82 7 2) 134 2 70) 82 7 3) 134 3 11) 82 7 4, n) := am_run_iff.mpr ⟨400, rfl⟩
set_option maxRecDepth 100000 in
set_option maxHeartbeats 4000000 in
theorem mo_s9 (d : Nat) (a b r : Int) (σ : am_M) (n : Nat) : mo_priceOf (d + 8) 9 a b r (am_wr σ 82 7 20) n = some (am_x (a + am_x (0 + r)), am_wr (am_wr (am_wr (am_wr (am_wr σ 82 7 20) 82 7 21) 82 7 22) 82 7 23) 82 7 24, n) := am_run_iff.mpr ⟨400, rfl⟩
set_option maxRecDepth 100000 in
set_option maxHeartbeats 4000000 in
theorem mo_q11 (d : Nat) (a b r : Int) (σ : am_M) (n : Nat) : mo_priceOf (d + 8) 11 a b r (am_wr σ 82 7 0) n = some (am_x (am_x (a + 0) * 3), am_wr (am_wr (am_wr (am_wr (am_wr (am_wr (am_wr (am_wr (am_wr σ 82 7 0) 134 0 110) 82 7 1) 134 1 12) 82 7 2) 134 2 10) 82 7 3) 134 3 11) 82 7 4, n) := am_run_iff.mpr ⟨400, rfl⟩
set_option maxRecDepth 100000 in
set_option maxHeartbeats 4000000 in
theorem mo_s11 (d : Nat) (a b r : Int) (σ : am_M) (n : Nat) : mo_priceOf (d + 8) 11 a b r (am_wr σ 82 7 20) n = some (am_x (am_x (a + 0) * 3), am_wr (am_wr (am_wr (am_wr (am_wr σ 82 7 20) 82 7 21) 82 7 22) 82 7 23) 82 7 24, n) := am_run_iff.mpr ⟨400, rfl⟩
