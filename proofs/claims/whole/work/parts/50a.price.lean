/-! PRICES -/
def mx_dg : Nat → Nat → Nat
  | 0, _ => 0
  | f + 1, a => if a = 0 then 0 else mx_dg f (a / 2) + 1
def mx_digits (a : Int) : Int := (mx_dg 63 a.toNat : Nat)
def mx_reads (k a b r : Int) : Int := if k = 3 ∨ k = 4 ∨ k = 6 then a + b else if k = 5 then a + b + r else if k = 8 then a * 2 else a
def mx_works (k a b r : Int) : Int := if k = 3 ∨ k = 5 ∨ k = 7 ∨ k = 8 ∨ k = 9 then r else if k = 4 then r + b else if k = 6 then r + a * b else if k = 10 then a * mx_digits a else 0
def mx_pr (k a b r : Int) : Int := if k = 11 then (mx_reads k a b r + mx_works k a b r) * 3 else mx_reads k a b r + mx_works k a b r
def mx_trl (k : Int) : List Int := if k = 0 then [12, 10, 11] else if k = 1 then [12, 10, 11] else if k = 2 then [12, 10, 11] else if k = 3 then [12, 30, 10, 31, 11] else if k = 4 then [12, 30, 10, 40, 31, 11] else if k = 5 then [12, 50, 30, 10, 31, 11] else if k = 6 then [12, 30, 10, 60, 31, 11] else if k = 7 then [12, 10, 70, 11] else if k = 8 then [12, 80, 10, 70, 11] else if k = 9 then [12, 10, 70, 11] else if k = 10 then [12, 10, 100, 11] else [110, 12, 10, 11]
set_option maxRecDepth 100000 in
set_option maxHeartbeats 4000000 in
theorem bo_qB0 (d : Nat) (a b r : Int) (σ : am_M) (n : Nat) : bo_priceByB (d + 4) 0 a b r σ n = some (am_x (a + 0), am_wr (am_wr (am_wr (am_wr (am_wr (am_wr (am_wr (am_wr (am_wr (am_wr (am_wr (am_wr (σ) 38 3 a) 38 4 b) 38 5 r) 38 2 0) 39 0 12) 38 2 1) 39 1 10) 38 2 2) 40 0 10) 39 2 11) 38 2 3) 40 0 11, n) := am_run_iff.mpr ⟨400, rfl⟩
theorem bo_pB0 (d : Nat) (a b r : Int) (σ : am_M) (n : Nat) : ∃ σ' : am_M, bo_priceByB (d + 4) 0 a b r σ n = some (am_x (a + 0), σ', n) ∧ mx_Fr [38, 39, 40] σ σ' ∧ σ' 38 2 = 3 ∧ σ' 39 0 = 12 ∧ σ' 39 1 = 10 ∧ σ' 39 2 = 11 :=
  ⟨_, bo_qB0 d a b r σ n, by (intro i hi; simp only [List.mem_cons, List.not_mem_nil, or_false, not_or] at hi; simp (disch := first | omega | decide) only [mx_wr_ne]), rfl, rfl, rfl, rfl⟩
set_option maxRecDepth 100000 in
set_option maxHeartbeats 4000000 in
theorem bo_qA0 (d : Nat) (a b r : Int) (σ : am_M) (n : Nat) : bo_priceByA (d + 4) 0 a b r σ n = some (am_x (a + 0), am_wr (am_wr (am_wr (am_wr (am_wr (am_wr (am_wr (am_wr (am_wr (am_wr (am_wr (am_wr (σ) 54 3 a) 54 4 b) 54 5 r) 54 2 0) 55 0 12) 54 2 1) 55 1 10) 54 2 2) 56 0 10) 55 2 11) 54 2 3) 56 0 11, n) := am_run_iff.mpr ⟨400, rfl⟩
theorem bo_pA0 (d : Nat) (a b r : Int) (σ : am_M) (n : Nat) : ∃ σ' : am_M, bo_priceByA (d + 4) 0 a b r σ n = some (am_x (a + 0), σ', n) ∧ mx_Fr [54, 55, 56] σ σ' ∧ σ' 54 2 = 3 ∧ σ' 55 0 = 12 ∧ σ' 55 1 = 10 ∧ σ' 55 2 = 11 :=
  ⟨_, bo_qA0 d a b r σ n, by (intro i hi; simp only [List.mem_cons, List.not_mem_nil, or_false, not_or] at hi; simp (disch := first | omega | decide) only [mx_wr_ne]), rfl, rfl, rfl, rfl⟩
set_option maxRecDepth 100000 in
set_option maxHeartbeats 4000000 in
theorem bo_qB1 (d : Nat) (a b r : Int) (σ : am_M) (n : Nat) : bo_priceByB (d + 4) 1 a b r σ n = some (am_x (a + 0), am_wr (am_wr (am_wr (am_wr (am_wr (am_wr (am_wr (am_wr (am_wr (am_wr (am_wr (am_wr (σ) 38 3 a) 38 4 b) 38 5 r) 38 2 0) 39 0 12) 38 2 1) 39 1 10) 38 2 2) 40 0 10) 39 2 11) 38 2 3) 40 0 11, n) := am_run_iff.mpr ⟨400, rfl⟩
theorem bo_pB1 (d : Nat) (a b r : Int) (σ : am_M) (n : Nat) : ∃ σ' : am_M, bo_priceByB (d + 4) 1 a b r σ n = some (am_x (a + 0), σ', n) ∧ mx_Fr [38, 39, 40] σ σ' ∧ σ' 38 2 = 3 ∧ σ' 39 0 = 12 ∧ σ' 39 1 = 10 ∧ σ' 39 2 = 11 :=
  ⟨_, bo_qB1 d a b r σ n, by (intro i hi; simp only [List.mem_cons, List.not_mem_nil, or_false, not_or] at hi; simp (disch := first | omega | decide) only [mx_wr_ne]), rfl, rfl, rfl, rfl⟩
set_option maxRecDepth 100000 in
set_option maxHeartbeats 4000000 in
theorem bo_qA1 (d : Nat) (a b r : Int) (σ : am_M) (n : Nat) : bo_priceByA (d + 4) 1 a b r σ n = some (am_x (a + 0), am_wr (am_wr (am_wr (am_wr (am_wr (am_wr (am_wr (am_wr (am_wr (am_wr (am_wr (am_wr (σ) 54 3 a) 54 4 b) 54 5 r) 54 2 0) 55 0 12) 54 2 1) 55 1 10) 54 2 2) 56 0 10) 55 2 11) 54 2 3) 56 0 11, n) := am_run_iff.mpr ⟨400, rfl⟩
theorem bo_pA1 (d : Nat) (a b r : Int) (σ : am_M) (n : Nat) : ∃ σ' : am_M, bo_priceByA (d + 4) 1 a b r σ n = some (am_x (a + 0), σ', n) ∧ mx_Fr [54, 55, 56] σ σ' ∧ σ' 54 2 = 3 ∧ σ' 55 0 = 12 ∧ σ' 55 1 = 10 ∧ σ' 55 2 = 11 :=
  ⟨_, bo_qA1 d a b r σ n, by (intro i hi; simp only [List.mem_cons, List.not_mem_nil, or_false, not_or] at hi; simp (disch := first | omega | decide) only [mx_wr_ne]), rfl, rfl, rfl, rfl⟩
set_option maxRecDepth 100000 in
set_option maxHeartbeats 4000000 in
theorem bo_qB2 (d : Nat) (a b r : Int) (σ : am_M) (n : Nat) : bo_priceByB (d + 4) 2 a b r σ n = some (am_x (a + 0), am_wr (am_wr (am_wr (am_wr (am_wr (am_wr (am_wr (am_wr (am_wr (am_wr (am_wr (am_wr (σ) 38 3 a) 38 4 b) 38 5 r) 38 2 0) 39 0 12) 38 2 1) 39 1 10) 38 2 2) 40 0 10) 39 2 11) 38 2 3) 40 0 11, n) := am_run_iff.mpr ⟨400, rfl⟩
theorem bo_pB2 (d : Nat) (a b r : Int) (σ : am_M) (n : Nat) : ∃ σ' : am_M, bo_priceByB (d + 4) 2 a b r σ n = some (am_x (a + 0), σ', n) ∧ mx_Fr [38, 39, 40] σ σ' ∧ σ' 38 2 = 3 ∧ σ' 39 0 = 12 ∧ σ' 39 1 = 10 ∧ σ' 39 2 = 11 :=
  ⟨_, bo_qB2 d a b r σ n, by (intro i hi; simp only [List.mem_cons, List.not_mem_nil, or_false, not_or] at hi; simp (disch := first | omega | decide) only [mx_wr_ne]), rfl, rfl, rfl, rfl⟩
set_option maxRecDepth 100000 in
set_option maxHeartbeats 4000000 in
theorem bo_qA2 (d : Nat) (a b r : Int) (σ : am_M) (n : Nat) : bo_priceByA (d + 4) 2 a b r σ n = some (am_x (a + 0), am_wr (am_wr (am_wr (am_wr (am_wr (am_wr (am_wr (am_wr (am_wr (am_wr (am_wr (am_wr (σ) 54 3 a) 54 4 b) 54 5 r) 54 2 0) 55 0 12) 54 2 1) 55 1 10) 54 2 2) 56 0 10) 55 2 11) 54 2 3) 56 0 11, n) := am_run_iff.mpr ⟨400, rfl⟩
theorem bo_pA2 (d : Nat) (a b r : Int) (σ : am_M) (n : Nat) : ∃ σ' : am_M, bo_priceByA (d + 4) 2 a b r σ n = some (am_x (a + 0), σ', n) ∧ mx_Fr [54, 55, 56] σ σ' ∧ σ' 54 2 = 3 ∧ σ' 55 0 = 12 ∧ σ' 55 1 = 10 ∧ σ' 55 2 = 11 :=
  ⟨_, bo_qA2 d a b r σ n, by (intro i hi; simp only [List.mem_cons, List.not_mem_nil, or_false, not_or] at hi; simp (disch := first | omega | decide) only [mx_wr_ne]), rfl, rfl, rfl, rfl⟩
set_option maxRecDepth 100000 in
set_option maxHeartbeats 4000000 in
theorem bo_qB3 (d : Nat) (a b r : Int) (σ : am_M) (n : Nat) : bo_priceByB (d + 4) 3 a b r σ n = some (am_x (am_x (a + b) + am_x (0 + r)), am_wr (am_wr (am_wr (am_wr (am_wr (am_wr (am_wr (am_wr (am_wr (am_wr (am_wr (am_wr (am_wr (am_wr (am_wr (am_wr (am_wr (am_wr (σ) 38 3 a) 38 4 b) 38 5 r) 38 2 0) 39 0 12) 38 2 1) 39 1 30) 38 2 2) 40 0 30) 39 2 10) 38 2 3) 40 1 10) 39 3 31) 38 2 4) 40 0 31) 39 4 11) 38 2 5) 40 1 11, n) := am_run_iff.mpr ⟨400, rfl⟩
theorem bo_pB3 (d : Nat) (a b r : Int) (σ : am_M) (n : Nat) : ∃ σ' : am_M, bo_priceByB (d + 4) 3 a b r σ n = some (am_x (am_x (a + b) + am_x (0 + r)), σ', n) ∧ mx_Fr [38, 39, 40] σ σ' ∧ σ' 38 2 = 5 ∧ σ' 39 0 = 12 ∧ σ' 39 1 = 30 ∧ σ' 39 2 = 10 ∧ σ' 39 3 = 31 ∧ σ' 39 4 = 11 :=
  ⟨_, bo_qB3 d a b r σ n, by (intro i hi; simp only [List.mem_cons, List.not_mem_nil, or_false, not_or] at hi; simp (disch := first | omega | decide) only [mx_wr_ne]), rfl, rfl, rfl, rfl, rfl, rfl⟩
set_option maxRecDepth 100000 in
set_option maxHeartbeats 4000000 in
theorem bo_qA3 (d : Nat) (a b r : Int) (σ : am_M) (n : Nat) : bo_priceByA (d + 4) 3 a b r σ n = some (am_x (am_x (a + b) + am_x (0 + r)), am_wr (am_wr (am_wr (am_wr (am_wr (am_wr (am_wr (am_wr (am_wr (am_wr (am_wr (am_wr (am_wr (am_wr (am_wr (am_wr (am_wr (am_wr (σ) 54 3 a) 54 4 b) 54 5 r) 54 2 0) 55 0 12) 54 2 1) 55 1 30) 54 2 2) 56 0 30) 55 2 10) 54 2 3) 56 1 10) 55 3 31) 54 2 4) 56 0 31) 55 4 11) 54 2 5) 56 1 11, n) := am_run_iff.mpr ⟨400, rfl⟩
theorem bo_pA3 (d : Nat) (a b r : Int) (σ : am_M) (n : Nat) : ∃ σ' : am_M, bo_priceByA (d + 4) 3 a b r σ n = some (am_x (am_x (a + b) + am_x (0 + r)), σ', n) ∧ mx_Fr [54, 55, 56] σ σ' ∧ σ' 54 2 = 5 ∧ σ' 55 0 = 12 ∧ σ' 55 1 = 30 ∧ σ' 55 2 = 10 ∧ σ' 55 3 = 31 ∧ σ' 55 4 = 11 :=
  ⟨_, bo_qA3 d a b r σ n, by (intro i hi; simp only [List.mem_cons, List.not_mem_nil, or_false, not_or] at hi; simp (disch := first | omega | decide) only [mx_wr_ne]), rfl, rfl, rfl, rfl, rfl, rfl⟩
set_option maxRecDepth 100000 in
set_option maxHeartbeats 4000000 in
theorem bo_qB4 (d : Nat) (a b r : Int) (σ : am_M) (n : Nat) : bo_priceByB (d + 4) 4 a b r σ n = some (am_x (am_x (a + b) + am_x (am_x (0 + r) + b)), am_wr (am_wr (am_wr (am_wr (am_wr (am_wr (am_wr (am_wr (am_wr (am_wr (am_wr (am_wr (am_wr (am_wr (am_wr (am_wr (am_wr (am_wr (am_wr (am_wr (am_wr (σ) 38 3 a) 38 4 b) 38 5 r) 38 2 0) 39 0 12) 38 2 1) 39 1 30) 38 2 2) 40 0 30) 39 2 10) 38 2 3) 40 1 10) 39 3 40) 38 2 4) 40 0 40) 39 4 31) 38 2 5) 40 1 31) 39 5 11) 38 2 6) 40 2 11, n) := am_run_iff.mpr ⟨400, rfl⟩
theorem bo_pB4 (d : Nat) (a b r : Int) (σ : am_M) (n : Nat) : ∃ σ' : am_M, bo_priceByB (d + 4) 4 a b r σ n = some (am_x (am_x (a + b) + am_x (am_x (0 + r) + b)), σ', n) ∧ mx_Fr [38, 39, 40] σ σ' ∧ σ' 38 2 = 6 ∧ σ' 39 0 = 12 ∧ σ' 39 1 = 30 ∧ σ' 39 2 = 10 ∧ σ' 39 3 = 40 ∧ σ' 39 4 = 31 ∧ σ' 39 5 = 11 :=
  ⟨_, bo_qB4 d a b r σ n, by (intro i hi; simp only [List.mem_cons, List.not_mem_nil, or_false, not_or] at hi; simp (disch := first | omega | decide) only [mx_wr_ne]), rfl, rfl, rfl, rfl, rfl, rfl, rfl⟩
set_option maxRecDepth 100000 in
set_option maxHeartbeats 4000000 in
theorem bo_qA4 (d : Nat) (a b r : Int) (σ : am_M) (n : Nat) : bo_priceByA (d + 4) 4 a b r σ n = some (am_x (am_x (a + b) + am_x (am_x (0 + r) + b)), am_wr (am_wr (am_wr (am_wr (am_wr (am_wr (am_wr (am_wr (am_wr (am_wr (am_wr (am_wr (am_wr (am_wr (am_wr (am_wr (am_wr (am_wr (am_wr (am_wr (am_wr (σ) 54 3 a) 54 4 b) 54 5 r) 54 2 0) 55 0 12) 54 2 1) 55 1 30) 54 2 2) 56 0 30) 55 2 10) 54 2 3) 56 1 10) 55 3 40) 54 2 4) 56 0 40) 55 4 31) 54 2 5) 56 1 31) 55 5 11) 54 2 6) 56 2 11, n) := am_run_iff.mpr ⟨400, rfl⟩
theorem bo_pA4 (d : Nat) (a b r : Int) (σ : am_M) (n : Nat) : ∃ σ' : am_M, bo_priceByA (d + 4) 4 a b r σ n = some (am_x (am_x (a + b) + am_x (am_x (0 + r) + b)), σ', n) ∧ mx_Fr [54, 55, 56] σ σ' ∧ σ' 54 2 = 6 ∧ σ' 55 0 = 12 ∧ σ' 55 1 = 30 ∧ σ' 55 2 = 10 ∧ σ' 55 3 = 40 ∧ σ' 55 4 = 31 ∧ σ' 55 5 = 11 :=
  ⟨_, bo_qA4 d a b r σ n, by (intro i hi; simp only [List.mem_cons, List.not_mem_nil, or_false, not_or] at hi; simp (disch := first | omega | decide) only [mx_wr_ne]), rfl, rfl, rfl, rfl, rfl, rfl, rfl⟩
set_option maxRecDepth 100000 in
set_option maxHeartbeats 4000000 in
theorem bo_qB5 (d : Nat) (a b r : Int) (σ : am_M) (n : Nat) : bo_priceByB (d + 4) 5 a b r σ n = some (am_x (am_x (am_x (a + b) + r) + am_x (0 + r)), am_wr (am_wr (am_wr (am_wr (am_wr (am_wr (am_wr (am_wr (am_wr (am_wr (am_wr (am_wr (am_wr (am_wr (am_wr (am_wr (am_wr (am_wr (am_wr (am_wr (am_wr (σ) 38 3 a) 38 4 b) 38 5 r) 38 2 0) 39 0 12) 38 2 1) 39 1 50) 38 2 2) 40 0 50) 39 2 30) 38 2 3) 40 1 30) 39 3 10) 38 2 4) 40 2 10) 39 4 31) 38 2 5) 40 0 31) 39 5 11) 38 2 6) 40 1 11, n) := am_run_iff.mpr ⟨400, rfl⟩
theorem bo_pB5 (d : Nat) (a b r : Int) (σ : am_M) (n : Nat) : ∃ σ' : am_M, bo_priceByB (d + 4) 5 a b r σ n = some (am_x (am_x (am_x (a + b) + r) + am_x (0 + r)), σ', n) ∧ mx_Fr [38, 39, 40] σ σ' ∧ σ' 38 2 = 6 ∧ σ' 39 0 = 12 ∧ σ' 39 1 = 50 ∧ σ' 39 2 = 30 ∧ σ' 39 3 = 10 ∧ σ' 39 4 = 31 ∧ σ' 39 5 = 11 :=
  ⟨_, bo_qB5 d a b r σ n, by (intro i hi; simp only [List.mem_cons, List.not_mem_nil, or_false, not_or] at hi; simp (disch := first | omega | decide) only [mx_wr_ne]), rfl, rfl, rfl, rfl, rfl, rfl, rfl⟩
set_option maxRecDepth 100000 in
set_option maxHeartbeats 4000000 in
theorem bo_qA5 (d : Nat) (a b r : Int) (σ : am_M) (n : Nat) : bo_priceByA (d + 4) 5 a b r σ n = some (am_x (am_x (am_x (a + b) + r) + am_x (0 + r)), am_wr (am_wr (am_wr (am_wr (am_wr (am_wr (am_wr (am_wr (am_wr (am_wr (am_wr (am_wr (am_wr (am_wr (am_wr (am_wr (am_wr (am_wr (am_wr (am_wr (am_wr (σ) 54 3 a) 54 4 b) 54 5 r) 54 2 0) 55 0 12) 54 2 1) 55 1 50) 54 2 2) 56 0 50) 55 2 30) 54 2 3) 56 1 30) 55 3 10) 54 2 4) 56 2 10) 55 4 31) 54 2 5) 56 0 31) 55 5 11) 54 2 6) 56 1 11, n) := am_run_iff.mpr ⟨400, rfl⟩
theorem bo_pA5 (d : Nat) (a b r : Int) (σ : am_M) (n : Nat) : ∃ σ' : am_M, bo_priceByA (d + 4) 5 a b r σ n = some (am_x (am_x (am_x (a + b) + r) + am_x (0 + r)), σ', n) ∧ mx_Fr [54, 55, 56] σ σ' ∧ σ' 54 2 = 6 ∧ σ' 55 0 = 12 ∧ σ' 55 1 = 50 ∧ σ' 55 2 = 30 ∧ σ' 55 3 = 10 ∧ σ' 55 4 = 31 ∧ σ' 55 5 = 11 :=
  ⟨_, bo_qA5 d a b r σ n, by (intro i hi; simp only [List.mem_cons, List.not_mem_nil, or_false, not_or] at hi; simp (disch := first | omega | decide) only [mx_wr_ne]), rfl, rfl, rfl, rfl, rfl, rfl, rfl⟩
set_option maxRecDepth 100000 in
set_option maxHeartbeats 4000000 in
theorem bo_qB6 (d : Nat) (a b r : Int) (σ : am_M) (n : Nat) : bo_priceByB (d + 4) 6 a b r σ n = some (am_x (am_x (a + b) + am_x (am_x (0 + r) + am_x (a * b))), am_wr (am_wr (am_wr (am_wr (am_wr (am_wr (am_wr (am_wr (am_wr (am_wr (am_wr (am_wr (am_wr (am_wr (am_wr (am_wr (am_wr (am_wr (am_wr (am_wr (am_wr (σ) 38 3 a) 38 4 b) 38 5 r) 38 2 0) 39 0 12) 38 2 1) 39 1 30) 38 2 2) 40 0 30) 39 2 10) 38 2 3) 40 1 10) 39 3 60) 38 2 4) 40 0 60) 39 4 31) 38 2 5) 40 1 31) 39 5 11) 38 2 6) 40 2 11, n) := am_run_iff.mpr ⟨400, rfl⟩
theorem bo_pB6 (d : Nat) (a b r : Int) (σ : am_M) (n : Nat) : ∃ σ' : am_M, bo_priceByB (d + 4) 6 a b r σ n = some (am_x (am_x (a + b) + am_x (am_x (0 + r) + am_x (a * b))), σ', n) ∧ mx_Fr [38, 39, 40] σ σ' ∧ σ' 38 2 = 6 ∧ σ' 39 0 = 12 ∧ σ' 39 1 = 30 ∧ σ' 39 2 = 10 ∧ σ' 39 3 = 60 ∧ σ' 39 4 = 31 ∧ σ' 39 5 = 11 :=
  ⟨_, bo_qB6 d a b r σ n, by (intro i hi; simp only [List.mem_cons, List.not_mem_nil, or_false, not_or] at hi; simp (disch := first | omega | decide) only [mx_wr_ne]), rfl, rfl, rfl, rfl, rfl, rfl, rfl⟩
set_option maxRecDepth 100000 in
set_option maxHeartbeats 4000000 in
theorem bo_qA6 (d : Nat) (a b r : Int) (σ : am_M) (n : Nat) : bo_priceByA (d + 4) 6 a b r σ n = some (am_x (am_x (a + b) + am_x (am_x (0 + r) + am_x (a * b))), am_wr (am_wr (am_wr (am_wr (am_wr (am_wr (am_wr (am_wr (am_wr (am_wr (am_wr (am_wr (am_wr (am_wr (am_wr (am_wr (am_wr (am_wr (am_wr (am_wr (am_wr (σ) 54 3 a) 54 4 b) 54 5 r) 54 2 0) 55 0 12) 54 2 1) 55 1 30) 54 2 2) 56 0 30) 55 2 10) 54 2 3) 56 1 10) 55 3 60) 54 2 4) 56 0 60) 55 4 31) 54 2 5) 56 1 31) 55 5 11) 54 2 6) 56 2 11, n) := am_run_iff.mpr ⟨400, rfl⟩
theorem bo_pA6 (d : Nat) (a b r : Int) (σ : am_M) (n : Nat) : ∃ σ' : am_M, bo_priceByA (d + 4) 6 a b r σ n = some (am_x (am_x (a + b) + am_x (am_x (0 + r) + am_x (a * b))), σ', n) ∧ mx_Fr [54, 55, 56] σ σ' ∧ σ' 54 2 = 6 ∧ σ' 55 0 = 12 ∧ σ' 55 1 = 30 ∧ σ' 55 2 = 10 ∧ σ' 55 3 = 60 ∧ σ' 55 4 = 31 ∧ σ' 55 5 = 11 :=
  ⟨_, bo_qA6 d a b r σ n, by (intro i hi; simp only [List.mem_cons, List.not_mem_nil, or_false, not_or] at hi; simp (disch := first | omega | decide) only [mx_wr_ne]), rfl, rfl, rfl, rfl, rfl, rfl, rfl⟩
set_option maxRecDepth 100000 in
set_option maxHeartbeats 4000000 in
theorem bo_qB7 (d : Nat) (a b r : Int) (σ : am_M) (n : Nat) : bo_priceByB (d + 4) 7 a b r σ n = some (am_x (a + am_x (0 + r)), am_wr (am_wr (am_wr (am_wr (am_wr (am_wr (am_wr (am_wr (am_wr (am_wr (am_wr (am_wr (am_wr (am_wr (am_wr (σ) 38 3 a) 38 4 b) 38 5 r) 38 2 0) 39 0 12) 38 2 1) 39 1 10) 38 2 2) 40 0 10) 39 2 70) 38 2 3) 40 0 70) 39 3 11) 38 2 4) 40 1 11, n) := am_run_iff.mpr ⟨400, rfl⟩
theorem bo_pB7 (d : Nat) (a b r : Int) (σ : am_M) (n : Nat) : ∃ σ' : am_M, bo_priceByB (d + 4) 7 a b r σ n = some (am_x (a + am_x (0 + r)), σ', n) ∧ mx_Fr [38, 39, 40] σ σ' ∧ σ' 38 2 = 4 ∧ σ' 39 0 = 12 ∧ σ' 39 1 = 10 ∧ σ' 39 2 = 70 ∧ σ' 39 3 = 11 :=
  ⟨_, bo_qB7 d a b r σ n, by (intro i hi; simp only [List.mem_cons, List.not_mem_nil, or_false, not_or] at hi; simp (disch := first | omega | decide) only [mx_wr_ne]), rfl, rfl, rfl, rfl, rfl⟩
set_option maxRecDepth 100000 in
set_option maxHeartbeats 4000000 in
theorem bo_qA7 (d : Nat) (a b r : Int) (σ : am_M) (n : Nat) : bo_priceByA (d + 4) 7 a b r σ n = some (am_x (a + am_x (0 + r)), am_wr (am_wr (am_wr (am_wr (am_wr (am_wr (am_wr (am_wr (am_wr (am_wr (am_wr (am_wr (am_wr (am_wr (am_wr (σ) 54 3 a) 54 4 b) 54 5 r) 54 2 0) 55 0 12) 54 2 1) 55 1 10) 54 2 2) 56 0 10) 55 2 70) 54 2 3) 56 0 70) 55 3 11) 54 2 4) 56 1 11, n) := am_run_iff.mpr ⟨400, rfl⟩
theorem bo_pA7 (d : Nat) (a b r : Int) (σ : am_M) (n : Nat) : ∃ σ' : am_M, bo_priceByA (d + 4) 7 a b r σ n = some (am_x (a + am_x (0 + r)), σ', n) ∧ mx_Fr [54, 55, 56] σ σ' ∧ σ' 54 2 = 4 ∧ σ' 55 0 = 12 ∧ σ' 55 1 = 10 ∧ σ' 55 2 = 70 ∧ σ' 55 3 = 11 :=
  ⟨_, bo_qA7 d a b r σ n, by (intro i hi; simp only [List.mem_cons, List.not_mem_nil, or_false, not_or] at hi; simp (disch := first | omega | decide) only [mx_wr_ne]), rfl, rfl, rfl, rfl, rfl⟩
set_option maxRecDepth 100000 in
set_option maxHeartbeats 4000000 in
theorem bo_qB8 (d : Nat) (a b r : Int) (σ : am_M) (n : Nat) : bo_priceByB (d + 4) 8 a b r σ n = some (am_x (am_x (a * 2) + am_x (0 + r)), am_wr (am_wr (am_wr (am_wr (am_wr (am_wr (am_wr (am_wr (am_wr (am_wr (am_wr (am_wr (am_wr (am_wr (am_wr (am_wr (am_wr (am_wr (σ) 38 3 a) 38 4 b) 38 5 r) 38 2 0) 39 0 12) 38 2 1) 39 1 80) 38 2 2) 40 0 80) 39 2 10) 38 2 3) 40 1 10) 39 3 70) 38 2 4) 40 0 70) 39 4 11) 38 2 5) 40 1 11, n) := am_run_iff.mpr ⟨400, rfl⟩
theorem bo_pB8 (d : Nat) (a b r : Int) (σ : am_M) (n : Nat) : ∃ σ' : am_M, bo_priceByB (d + 4) 8 a b r σ n = some (am_x (am_x (a * 2) + am_x (0 + r)), σ', n) ∧ mx_Fr [38, 39, 40] σ σ' ∧ σ' 38 2 = 5 ∧ σ' 39 0 = 12 ∧ σ' 39 1 = 80 ∧ σ' 39 2 = 10 ∧ σ' 39 3 = 70 ∧ σ' 39 4 = 11 :=
  ⟨_, bo_qB8 d a b r σ n, by (intro i hi; simp only [List.mem_cons, List.not_mem_nil, or_false, not_or] at hi; simp (disch := first | omega | decide) only [mx_wr_ne]), rfl, rfl, rfl, rfl, rfl, rfl⟩
set_option maxRecDepth 100000 in
set_option maxHeartbeats 4000000 in
theorem bo_qA8 (d : Nat) (a b r : Int) (σ : am_M) (n : Nat) : bo_priceByA (d + 4) 8 a b r σ n = some (am_x (am_x (a * 2) + am_x (0 + r)), am_wr (am_wr (am_wr (am_wr (am_wr (am_wr (am_wr (am_wr (am_wr (am_wr (am_wr (am_wr (am_wr (am_wr (am_wr (am_wr (am_wr (am_wr (σ) 54 3 a) 54 4 b) 54 5 r) 54 2 0) 55 0 12) 54 2 1) 55 1 80) 54 2 2) 56 0 80) 55 2 10) 54 2 3) 56 1 10) 55 3 70) 54 2 4) 56 0 70) 55 4 11) 54 2 5) 56 1 11, n) := am_run_iff.mpr ⟨400, rfl⟩
theorem bo_pA8 (d : Nat) (a b r : Int) (σ : am_M) (n : Nat) : ∃ σ' : am_M, bo_priceByA (d + 4) 8 a b r σ n = some (am_x (am_x (a * 2) + am_x (0 + r)), σ', n) ∧ mx_Fr [54, 55, 56] σ σ' ∧ σ' 54 2 = 5 ∧ σ' 55 0 = 12 ∧ σ' 55 1 = 80 ∧ σ' 55 2 = 10 ∧ σ' 55 3 = 70 ∧ σ' 55 4 = 11 :=
  ⟨_, bo_qA8 d a b r σ n, by (intro i hi; simp only [List.mem_cons, List.not_mem_nil, or_false, not_or] at hi; simp (disch := first | omega | decide) only [mx_wr_ne]), rfl, rfl, rfl, rfl, rfl, rfl⟩
set_option maxRecDepth 100000 in
set_option maxHeartbeats 4000000 in
theorem bo_qB9 (d : Nat) (a b r : Int) (σ : am_M) (n : Nat) : bo_priceByB (d + 4) 9 a b r σ n = some (am_x (a + am_x (0 + r)), am_wr (am_wr (am_wr (am_wr (am_wr (am_wr (am_wr (am_wr (am_wr (am_wr (am_wr (am_wr (am_wr (am_wr (am_wr (σ) 38 3 a) 38 4 b) 38 5 r) 38 2 0) 39 0 12) 38 2 1) 39 1 10) 38 2 2) 40 0 10) 39 2 70) 38 2 3) 40 0 70) 39 3 11) 38 2 4) 40 1 11, n) := am_run_iff.mpr ⟨400, rfl⟩
theorem bo_pB9 (d : Nat) (a b r : Int) (σ : am_M) (n : Nat) : ∃ σ' : am_M, bo_priceByB (d + 4) 9 a b r σ n = some (am_x (a + am_x (0 + r)), σ', n) ∧ mx_Fr [38, 39, 40] σ σ' ∧ σ' 38 2 = 4 ∧ σ' 39 0 = 12 ∧ σ' 39 1 = 10 ∧ σ' 39 2 = 70 ∧ σ' 39 3 = 11 :=
  ⟨_, bo_qB9 d a b r σ n, by (intro i hi; simp only [List.mem_cons, List.not_mem_nil, or_false, not_or] at hi; simp (disch := first | omega | decide) only [mx_wr_ne]), rfl, rfl, rfl, rfl, rfl⟩
set_option maxRecDepth 100000 in
set_option maxHeartbeats 4000000 in
theorem bo_qA9 (d : Nat) (a b r : Int) (σ : am_M) (n : Nat) : bo_priceByA (d + 4) 9 a b r σ n = some (am_x (a + am_x (0 + r)), am_wr (am_wr (am_wr (am_wr (am_wr (am_wr (am_wr (am_wr (am_wr (am_wr (am_wr (am_wr (am_wr (am_wr (am_wr (σ) 54 3 a) 54 4 b) 54 5 r) 54 2 0) 55 0 12) 54 2 1) 55 1 10) 54 2 2) 56 0 10) 55 2 70) 54 2 3) 56 0 70) 55 3 11) 54 2 4) 56 1 11, n) := am_run_iff.mpr ⟨400, rfl⟩
theorem bo_pA9 (d : Nat) (a b r : Int) (σ : am_M) (n : Nat) : ∃ σ' : am_M, bo_priceByA (d + 4) 9 a b r σ n = some (am_x (a + am_x (0 + r)), σ', n) ∧ mx_Fr [54, 55, 56] σ σ' ∧ σ' 54 2 = 4 ∧ σ' 55 0 = 12 ∧ σ' 55 1 = 10 ∧ σ' 55 2 = 70 ∧ σ' 55 3 = 11 :=
  ⟨_, bo_qA9 d a b r σ n, by (intro i hi; simp only [List.mem_cons, List.not_mem_nil, or_false, not_or] at hi; simp (disch := first | omega | decide) only [mx_wr_ne]), rfl, rfl, rfl, rfl, rfl⟩
set_option maxRecDepth 100000 in
set_option maxHeartbeats 4000000 in
theorem bo_qB11 (d : Nat) (a b r : Int) (σ : am_M) (n : Nat) : bo_priceByB (d + 4) 11 a b r σ n = some (am_x (am_x (a + 0) * 3), am_wr (am_wr (am_wr (am_wr (am_wr (am_wr (am_wr (am_wr (am_wr (am_wr (am_wr (am_wr (am_wr (am_wr (σ) 38 3 a) 38 4 b) 38 5 r) 38 2 0) 39 0 110) 38 2 1) 39 1 12) 38 2 2) 39 2 10) 38 2 3) 40 0 10) 39 3 11) 38 2 4) 40 0 11, n) := am_run_iff.mpr ⟨400, rfl⟩
theorem bo_pB11 (d : Nat) (a b r : Int) (σ : am_M) (n : Nat) : ∃ σ' : am_M, bo_priceByB (d + 4) 11 a b r σ n = some (am_x (am_x (a + 0) * 3), σ', n) ∧ mx_Fr [38, 39, 40] σ σ' ∧ σ' 38 2 = 4 ∧ σ' 39 0 = 110 ∧ σ' 39 1 = 12 ∧ σ' 39 2 = 10 ∧ σ' 39 3 = 11 :=
  ⟨_, bo_qB11 d a b r σ n, by (intro i hi; simp only [List.mem_cons, List.not_mem_nil, or_false, not_or] at hi; simp (disch := first | omega | decide) only [mx_wr_ne]), rfl, rfl, rfl, rfl, rfl⟩
set_option maxRecDepth 100000 in
set_option maxHeartbeats 4000000 in
theorem bo_qA11 (d : Nat) (a b r : Int) (σ : am_M) (n : Nat) : bo_priceByA (d + 4) 11 a b r σ n = some (am_x (am_x (a + 0) * 3), am_wr (am_wr (am_wr (am_wr (am_wr (am_wr (am_wr (am_wr (am_wr (am_wr (am_wr (am_wr (am_wr (am_wr (σ) 54 3 a) 54 4 b) 54 5 r) 54 2 0) 55 0 110) 54 2 1) 55 1 12) 54 2 2) 55 2 10) 54 2 3) 56 0 10) 55 3 11) 54 2 4) 56 0 11, n) := am_run_iff.mpr ⟨400, rfl⟩
theorem bo_pA11 (d : Nat) (a b r : Int) (σ : am_M) (n : Nat) : ∃ σ' : am_M, bo_priceByA (d + 4) 11 a b r σ n = some (am_x (am_x (a + 0) * 3), σ', n) ∧ mx_Fr [54, 55, 56] σ σ' ∧ σ' 54 2 = 4 ∧ σ' 55 0 = 110 ∧ σ' 55 1 = 12 ∧ σ' 55 2 = 10 ∧ σ' 55 3 = 11 :=
  ⟨_, bo_qA11 d a b r σ n, by (intro i hi; simp only [List.mem_cons, List.not_mem_nil, or_false, not_or] at hi; simp (disch := first | omega | decide) only [mx_wr_ne]), rfl, rfl, rfl, rfl, rfl⟩
