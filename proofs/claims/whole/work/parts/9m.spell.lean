/-! SPELL: words and letters -/
section
variable {n : Nat} {σ : am_M} {K P H : Nat → Int}
def mx_ww (k : Nat) : List Int := if k = 0 then [115, 99, 97, 110, 32] else if k = 1 then [107, 101, 101, 112, 32] else if k = 2 then [116, 97, 108, 108, 121, 32] else if k = 3 then [106, 111, 105, 110, 32] else if k = 4 then [104, 97, 108, 102, 32] else if k = 5 then [40] else if k = 6 then [44] else [41]
theorem mx_ww_l : ∀ k, k < 8 → am_len (1100 + k) = (mx_ww k).length := by decide +kernel
theorem mx_ww_c : ∀ k, k < 8 → ∀ i, i < (mx_ww k).length → am_and (am_kc (1100 + k) i) 255 % 65536 = (mx_ww k).getD i 0 := by decide +kernel
theorem st_length_s (dp k : Nat) (hk : k < 8) (σ : am_M) : st_length (dp + 2) ((2000 + k : Nat) : Int) σ n = some ((((mx_ww k).length : Nat) : Int), σ, n) := by
  rw [st_length_e, mx_if_t (by omega), st_coder_e, Option.bind_some, show (((2000 + k : Nat) : Int) - 900).toNat = 1100 + k by omega, mx_ww_l k hk]
  dsimp only
  unfold am_shr
  rw [show ((2 : Int) ^ ((0 : Int) % 32).toNat) = 1 from rfl, Int.ediv_one]
theorem st_charAt_s (dp k i : Nat) (hk : k < 8) {v : Int} (hi : (mx_ww k)[i]? = some v) (σ : am_M) : st_charAt (dp + 4) ((2000 + k : Nat) : Int) i σ n = some (v, σ, n) := by
  have hl := (List.getElem?_eq_some_iff.mp hi).1
  have hc := mx_ww_c k hk i hl
  have hg : (mx_ww k).getD i 0 = v := by rw [List.getD_eq_getElem?_getD, hi]; rfl
  rw [hg] at hc
  have e : ((2000 + k : Nat) : Int) - 900 = ((1100 + k : Nat) : Int) := by omega
  have ln := mx_ww_l k hk
  have b : 0 ≤ am_and (am_kc (1100 + k) i) 255 % 65536 ∧ am_and (am_kc (1100 + k) i) 255 % 65536 < 65536 := ⟨Int.emod_nonneg _ (by decide), Int.emod_lt_of_pos _ (by decide)⟩
  rw [st_charAt_e, mx_if_t (by omega), st_isLatin1_e, Option.bind_some]
  dsimp only
  rw [if_neg (by decide), e, sl_charAt_e, st_checkIndex_e, pr_checkIndex_e, Int.toNat_natCast, Int.toNat_natCast, ln, if_neg (by omega), if_pos (by omega), Option.bind_some, Option.bind_some]
  unfold am_cx
  rw [Int.toNat_natCast, ln, mx_if_t ⟨by omega, by omega⟩, mx_if_t b, Option.bind_some]
  dsimp only
  rw [mx_if_t b, hc]
def mx_wd (K H : Nat → Int) (i : Nat) : Nat := if K i = 1 then 0 else if K i = 2 then 1 else if K i < 8 then (if H i = 1 then 4 else 3) else 2
/-- from a node on: its letters, the node behind its inputs -/
def mx_sp (K P H : Nat → Int) : Nat → Nat → Option (List Int × Nat)
  | 0, _ => none
  | f + 1, i => if 10 ≤ K i then mx_sp K P H f (i + 1) else
    if K i = 1 then some (mx_ww 0 ++ [am_w (48 + P i)], i + 1) else
    (mx_sp K P H f (i + 1)).bind fun a => if K i < 4 ∨ 6 < K i then some (mx_ww (mx_wd K H i) ++ [am_w (48 + P i)] ++ mx_ww 5 ++ a.1 ++ mx_ww 7, a.2) else
      (mx_sp K P H f a.2).bind fun b => some (mx_ww (mx_wd K H i) ++ [am_w (48 + P i)] ++ mx_ww 5 ++ a.1 ++ mx_ww 6 ++ b.1 ++ mx_ww 7, b.2)
/-- how many letters a node has of its own -/
def mx_lc (K H : Nat → Int) (i : Nat) : Nat := if 10 ≤ K i then 0 else (mx_ww (mx_wd K H i)).length + 1 + (if K i = 1 then 0 else if K i < 4 ∨ 6 < K i then 2 else 3)
def mx_ls' (K H : Nat → Int) : Nat → Nat
  | 0 => 0
  | i + 1 => mx_ls' K H i + mx_lc K H i
theorem mx_wd_lt (i : Nat) : mx_wd K H i < 5 := by
  unfold mx_wd
  (repeat' split) <;> decide
theorem mx_ww_6 : ∀ k, k < 5 → (mx_ww k).length ≤ 6 := by decide
theorem mx_lc_10 (i : Nat) : mx_lc K H i ≤ 10 := by
  have := mx_ww_6 _ (mx_wd_lt (K := K) (H := H) i)
  unfold mx_lc
  (repeat' split) <;> omega
theorem mx_ls_10 : ∀ i : Nat, mx_ls' K H i ≤ 10 * i := by
  intro i
  induction i with
  | zero => exact Nat.le_refl _
  | succ i ih =>
    have := mx_lc_10 (K := K) (H := H) i
    show mx_ls' K H i + mx_lc K H i ≤ _
    omega
theorem mx_sp_ex {M : Nat} (hk : ∀ i, i < M → mx_wk (K i)) (hn : ∀ i, i < M → 1 ≤ mx_nd K i) (hM : mx_nd K M = 0) : ∀ f i : Nat, i < M → M ≤ i + f → ∃ L j, mx_sp K P H f i = some (L, j) ∧ i < j ∧ j ≤ M ∧ mx_nd K j = mx_nd K i - 1 ∧ mx_ls' K H i + L.length = mx_ls' K H j := by
  intro f
  induction f with
  | zero => intro i hi hf; omega
  | succ f ih =>
    intro i hi hf
    have wk := hk i hi
    have ni := hn i hi
    have ns : mx_nd K (i + 1) = mx_nd K i - 1 + mx_ar (K i) := rfl
    have ss : mx_ls' K H (i + 1) = mx_ls' K H i + mx_lc K H i := rfl
    have e : mx_sp K P H (f + 1) i = if 10 ≤ K i then mx_sp K P H f (i + 1) else
      if K i = 1 then some (mx_ww 0 ++ [am_w (48 + P i)], i + 1) else
      (mx_sp K P H f (i + 1)).bind fun a => if K i < 4 ∨ 6 < K i then some (mx_ww (mx_wd K H i) ++ [am_w (48 + P i)] ++ mx_ww 5 ++ a.1 ++ mx_ww 7, a.2) else
        (mx_sp K P H f a.2).bind fun b => some (mx_ww (mx_wd K H i) ++ [am_w (48 + P i)] ++ mx_ww 5 ++ a.1 ++ mx_ww 6 ++ b.1 ++ mx_ww 7, b.2) := rfl
    rw [e]
    have l5 : (mx_ww 5).length = 1 ∧ (mx_ww 6).length = 1 ∧ (mx_ww 7).length = 1 := by decide
    obtain ⟨l5, l6, l7⟩ := l5
    have nM : ∀ x, x ≤ M → 1 ≤ mx_nd K x → x < M := fun x h1 h2 => by
      by_cases q : x = M
      · rw [q, hM] at h2; omega
      · omega
    unfold mx_wk at wk
    by_cases k10 : 10 ≤ K i
    · have ar : mx_ar (K i) = 1 := by unfold mx_ar; rw [if_neg (by omega), if_neg (by omega)]
      have lc : mx_lc K H i = 0 := by unfold mx_lc; rw [if_pos k10]
      rw [if_pos k10]
      obtain ⟨L, j, a1, a2, a3, a4, a5⟩ := ih (i + 1) (nM _ (by omega) (by omega)) (by omega)
      exact ⟨L, j, a1, by omega, a3, by omega, by omega⟩
    · rw [if_neg k10]
      by_cases k1 : K i = 1
      · have ar : mx_ar (K i) = 0 := by unfold mx_ar; rw [if_pos k1]
        have lc : mx_lc K H i = (mx_ww 0).length + 1 := by unfold mx_lc mx_wd; rw [if_neg k10, if_pos k1, if_pos k1]
        rw [if_pos k1]
        refine ⟨_, _, rfl, by omega, by omega, by omega, ?_⟩
        rw [List.length_append, List.length_singleton, ss, lc]
      · rw [if_neg k1]
        by_cases k2 : K i < 4 ∨ 6 < K i
        · have ar : mx_ar (K i) = 1 := by unfold mx_ar; rw [if_neg k1, if_neg (by omega)]
          have lc : mx_lc K H i = (mx_ww (mx_wd K H i)).length + 1 + 2 := by unfold mx_lc; rw [if_neg k10, if_neg k1, if_pos k2]
          obtain ⟨L, j, a1, a2, a3, a4, a5⟩ := ih (i + 1) (nM _ (by omega) (by omega)) (by omega)
          rw [a1, Option.bind_some, if_pos k2]
          refine ⟨_, _, rfl, by show i < j; omega, a3, by show mx_nd K j = _; omega, ?_⟩
          simp only [List.length_append, List.length_singleton, l5, l7]
          show _ = mx_ls' K H j
          omega
        · have ar : mx_ar (K i) = 2 := by unfold mx_ar; rw [if_neg k1, if_pos (by omega)]
          have lc : mx_lc K H i = (mx_ww (mx_wd K H i)).length + 1 + 3 := by unfold mx_lc; rw [if_neg k10, if_neg k1, if_neg k2]
          obtain ⟨L, j, a1, a2, a3, a4, a5⟩ := ih (i + 1) (nM _ (by omega) (by omega)) (by omega)
          obtain ⟨L', k, b1, b2, b3, b4, b5⟩ := ih j (nM _ a3 (by omega)) (by omega)
          rw [a1, Option.bind_some, if_neg k2]
          rw [show (mx_sp K P H f ((L, j) : List Int × Nat).2) = some (L', k) from b1, Option.bind_some]
          refine ⟨_, _, rfl, by show i < k; omega, b3, by show mx_nd K k = _; omega, ?_⟩
          simp only [List.length_append, List.length_singleton, l5, l6, l7]
          show _ = mx_ls' K H k
          omega
/-- letters are written -/
def mx_lw (σ σ' : am_M) (a : Nat) (L : List Int) : Prop := mx_Fq [135] [(82, 64)] σ σ' ∧ σ' 82 64 = ((a + L.length : Nat) : Int) ∧ (∀ x v, L[x]? = some v → σ' 135 (a + x) = v) ∧ ∀ x, x < a → σ' 135 x = σ 135 x
theorem mx_lw_tr {σ1 σ2 : am_M} {a : Nat} {L L' : List Int} (h1 : mx_lw σ σ1 a L) (h2 : mx_lw σ1 σ2 (a + L.length) L') : mx_lw σ σ2 a (L ++ L') := by
  obtain ⟨a1, a2, a3, a4⟩ := h1
  obtain ⟨b1, b2, b3, b4⟩ := h2
  refine ⟨mx_fq_tr a1 b1, by rw [b2, List.length_append, Nat.add_assoc], fun x v hx => ?_, fun x hx => by rw [b4 x (by omega), a4 x hx]⟩
  by_cases q : x < L.length
  · rw [List.getElem?_append_left q] at hx
    rw [b4 _ (by omega)]; exact a3 x v hx
  · rw [List.getElem?_append_right (by omega)] at hx
    have := b3 _ v hx
    rw [show a + L.length + (x - L.length) = a + x by omega] at this
    exact this
theorem mx_lw_nil {a : Nat} (h : σ 82 64 = (a : Nat)) : mx_lw σ σ a [] := ⟨mx_fq_rf, h, fun x v hx => (by cases hx), fun _ _ => rfl⟩
theorem mx_lw_one {a : Nat} {v : Int} : mx_lw σ (am_wr (am_wr σ 135 a v) 82 64 ((a + 1 : Nat) : Int)) a [v] := by
  refine ⟨mx_fq_wr (mx_fq_wr mx_fq_rf rfl) rfl, by rw [mx_wr_at]; rfl, fun x w hx => ?_, fun x hx => by rw [mx_wr_ne (by decide), mx_wr_off (by omega)]⟩
  cases x with
  | zero =>
    cases hx
    rw [mx_wr_ne (by decide)]
    exact mx_wr_at
  | succ x => cases hx
/-- a letter is put down -/
theorem mx_lw_step {a : Nat} (h : σ 82 64 = (a : Nat)) (ha : a < 4000) (v : Int) (X : am_M → Option am_R) : am_ix 135 (σ 82 64) (am_m (am_wr σ 135 (σ 82 64).toNat v) fun σ1 => am_m (am_wr σ1 82 64 (am_w (σ1 82 64 + 1))) X) = X (am_wr (am_wr σ 135 a v) 82 64 ((a + 1 : Nat) : Int)) := by
  have I : (0 : Int) ≤ (a : Int) ∧ (a : Int) < 4000 := ⟨by omega, by omega⟩
  rw [h, ix_135 I.1 I.2, mx_m, mx_m, Int.toNat_natCast, mx_wr_ne (show (82 : Nat) ≠ 135 by decide), h, mx_w_id (by omega) (by omega)]
  rfl
theorem mo_writes_2_s (dp k : Nat) (hk : k < 8) : ∀ (R A : List Int) (a : Nat) (σ : am_M), mx_ww k = A ++ R → σ 82 64 = (a : Nat) → a + R.length ≤ 4000 → ∃ σ' : am_M, mo_writes_2 (dp + 4) ((2000 + k : Nat) : Int) A.length σ n = some (0, σ', n) ∧ mx_lw σ σ' a R := by
  have v0 : ¬ ((2000 + k : Nat) : Int) < 0 := by omega
  intro R
  induction R with
  | nil =>
    intro A a σ hA h ha
    refine ⟨σ, ?_, mx_lw_nil h⟩
    have l : (mx_ww k).length = A.length := by rw [hA, List.append_nil]
    rw [mo_writes_2_e, mx_if_t v0, st_length_s (dp + 2) k hk, Option.bind_some, if_neg (by show ¬ ((A.length : Nat) : Int) < ((mx_ww k).length : Nat); omega)]
  | cons v R ih =>
    intro A a σ hA h ha
    rw [List.length_cons] at ha
    have l : (mx_ww k).length = A.length + (R.length + 1) := by rw [hA, List.length_append, List.length_cons]
    have l6 : (mx_ww k).length ≤ 6 := by
      have : ∀ k, k < 8 → (mx_ww k).length ≤ 6 := by decide
      exact this k hk
    have hv : (mx_ww k)[A.length]? = some v := by rw [hA, List.getElem?_append_right (Nat.le_refl _), Nat.sub_self]; rfl
    obtain ⟨σ', a1, a2⟩ := ih (A ++ [v]) (a + 1) (am_wr (am_wr σ 135 a v) 82 64 ((a + 1 : Nat) : Int)) (by rw [hA, List.append_assoc]; rfl) (by rw [mx_wr_at]) (by omega)
    refine ⟨σ', ?_, mx_lw_tr mx_lw_one a2⟩
    rw [List.length_append, List.length_singleton] at a1
    rw [mo_writes_2_e, mx_if_t v0, st_length_s (dp + 2) k hk, Option.bind_some, if_pos (by show ((A.length : Nat) : Int) < ((mx_ww k).length : Nat); omega), mx_if_t v0]
    dsimp only
    rw [st_charAt_s dp k A.length hk hv, Option.bind_some]
    dsimp only
    rw [mx_lw_step h (by omega) v, mx_w_nat (by omega)]
    exact a1
theorem mo_writes_s (dp k : Nat) (hk : k < 8) {a : Nat} (h : σ 82 64 = (a : Nat)) (ha : a ≤ 3900) : ∃ σ' : am_M, mo_writes (dp + 5) ((2000 + k : Nat) : Int) σ n = some (0, σ', n) ∧ mx_lw σ σ' a (mx_ww k) := by
  have l6 : (mx_ww k).length ≤ 6 := by
    have : ∀ k, k < 8 → (mx_ww k).length ≤ 6 := by decide
    exact this k hk
  obtain ⟨σ', a1, a2⟩ := mo_writes_2_s (n := n) dp k hk (mx_ww k) [] a σ rfl h (by omega)
  exact ⟨σ', by rw [mo_writes_e]; exact a1, a2⟩
/-- what a node's letters are made of -/
theorem mx_sp_cs {M : Nat} (hk : ∀ i, i < M → mx_wk (K i)) (hn : ∀ i, i < M → 1 ≤ mx_nd K i) (hM : mx_nd K M = 0) {f i : Nat} (hi : i < M) (hf : M ≤ i + (f + 1)) {L : List Int} {j : Nat} (h : mx_sp K P H (f + 1) i = some (L, j)) :
    (10 ≤ K i ∧ i + 1 < M ∧ mx_sp K P H f (i + 1) = some (L, j)) ∨
    (K i = 1 ∧ L = mx_ww 0 ++ [am_w (48 + P i)] ∧ j = i + 1) ∨
    (¬ 10 ≤ K i ∧ K i ≠ 1 ∧ (K i < 4 ∨ 6 < K i) ∧ i + 1 < M ∧ i + 1 < j ∧ ∃ L1, mx_sp K P H f (i + 1) = some (L1, j) ∧ L = mx_ww (mx_wd K H i) ++ [am_w (48 + P i)] ++ mx_ww 5 ++ L1 ++ mx_ww 7) ∨
    (¬ 10 ≤ K i ∧ K i ≠ 1 ∧ ¬ (K i < 4 ∨ 6 < K i) ∧ i + 1 < M ∧ ∃ L1 j1 L2, mx_sp K P H f (i + 1) = some (L1, j1) ∧ i + 1 < j1 ∧ j1 < M ∧ j1 < j ∧ mx_sp K P H f j1 = some (L2, j) ∧ L = mx_ww (mx_wd K H i) ++ [am_w (48 + P i)] ++ mx_ww 5 ++ L1 ++ mx_ww 6 ++ L2 ++ mx_ww 7) := by
  have ni := hn i hi
  have ns : mx_nd K (i + 1) = mx_nd K i - 1 + mx_ar (K i) := rfl
  have e : mx_sp K P H (f + 1) i = if 10 ≤ K i then mx_sp K P H f (i + 1) else
    if K i = 1 then some (mx_ww 0 ++ [am_w (48 + P i)], i + 1) else
    (mx_sp K P H f (i + 1)).bind fun a => if K i < 4 ∨ 6 < K i then some (mx_ww (mx_wd K H i) ++ [am_w (48 + P i)] ++ mx_ww 5 ++ a.1 ++ mx_ww 7, a.2) else
      (mx_sp K P H f a.2).bind fun b => some (mx_ww (mx_wd K H i) ++ [am_w (48 + P i)] ++ mx_ww 5 ++ a.1 ++ mx_ww 6 ++ b.1 ++ mx_ww 7, b.2) := rfl
  rw [e] at h
  have nM : ∀ x, x ≤ M → 1 ≤ mx_nd K x → x < M := fun x h1 h2 => by
    by_cases q : x = M
    · rw [q, hM] at h2; omega
    · omega
  by_cases k10 : 10 ≤ K i
  · have ar : mx_ar (K i) = 1 := by unfold mx_ar; rw [if_neg (by omega), if_neg (by omega)]
    rw [if_pos k10] at h
    exact Or.inl ⟨k10, nM _ (by omega) (by omega), h⟩
  · rw [if_neg k10] at h
    by_cases k1 : K i = 1
    · rw [if_pos k1] at h
      cases h
      exact Or.inr (Or.inl ⟨k1, rfl, rfl⟩)
    · rw [if_neg k1] at h
      by_cases k2 : K i < 4 ∨ 6 < K i
      · have ar : mx_ar (K i) = 1 := by unfold mx_ar; rw [if_neg k1, if_neg (by omega)]
        have i1 := nM (i + 1) (by omega) (by omega)
        obtain ⟨L1, j1, a1, a2, a3, a4, a5⟩ := mx_sp_ex (P := P) (H := H) hk hn hM f (i + 1) i1 (by omega)
        rw [a1, Option.bind_some, if_pos k2] at h
        cases h
        exact Or.inr (Or.inr (Or.inl ⟨k10, k1, k2, i1, a2, L1, a1, rfl⟩))
      · have ar : mx_ar (K i) = 2 := by unfold mx_ar; rw [if_neg k1, if_pos (by omega)]
        have i1 := nM (i + 1) (by omega) (by omega)
        obtain ⟨L1, j1, a1, a2, a3, a4, a5⟩ := mx_sp_ex (P := P) (H := H) hk hn hM f (i + 1) i1 (by omega)
        have j1M := nM j1 a3 (by omega)
        obtain ⟨L2, k, b1, b2, b3, b4, b5⟩ := mx_sp_ex (P := P) (H := H) hk hn hM f j1 j1M (by omega)
        rw [a1, Option.bind_some, if_neg k2, show (mx_sp K P H f ((L1, j1) : List Int × Nat).2) = some (L2, k) from b1, Option.bind_some] at h
        cases h
        exact Or.inr (Or.inr (Or.inr ⟨k10, k1, k2, i1, L1, j1, L2, a1, a2, j1M, b2, b1, rfl⟩))
/-- spells() -/
theorem mo_spells_s {M : Nat} (hk : ∀ i, i < M → mx_wk (K i)) (hn : ∀ i, i < M → 1 ≤ mx_nd K i) (hM : mx_nd K M = 0) (h120 : M ≤ 120) : ∀ (f i : Nat) (σ : am_M) (a D : Nat) (L : List Int) (j : Nat), i < M → M ≤ i + f → f + 5 ≤ D → mx_sp K P H f i = some (L, j) → σ 115 = K → σ 116 = P → σ 122 = H → σ 82 64 = (a : Nat) → a + L.length ≤ 3900 →
    ∃ σ' : am_M, mo_spells D i σ n = some ((j : Int), σ', n) ∧ mx_lw σ σ' a L := by
  intro f
  induction f with
  | zero => intro i σ a D L j hi hf hD h; cases h
  | succ f ih =>
    intro i σ a D L j hi hf hD h eK eP eH ha hl
    obtain ⟨e, rfl⟩ : ∃ e, D = e + 6 := ⟨D - 6, by omega⟩
    have I : (0 : Int) ≤ (i : Int) ∧ (i : Int) < 121 := ⟨by omega, by omega⟩
    have i1 : am_w ((i : Int) + 1) = ((i + 1 : Nat) : Int) := mx_w_nat (by omega)
    have wk := hk i hi
    have l57 : (mx_ww 5).length = 1 ∧ (mx_ww 6).length = 1 ∧ (mx_ww 7).length = 1 := by decide
    obtain ⟨l5, l6, l7⟩ := l57
    have keep : ∀ (τ τ' : am_M) (b : Nat) (R : List Int), mx_lw τ τ' b R → (τ 115 = K ∧ τ 116 = P ∧ τ 122 = H) → τ' 115 = K ∧ τ' 116 = P ∧ τ' 122 = H := fun τ τ' b R w q => by
      have k : ∀ c, c ≠ 135 → c ≠ 82 → τ' c = τ c := fun c q1 q2 => funext fun x => w.1 c x (by simp only [List.mem_cons, List.not_mem_nil, or_false]; exact q1) (by simp only [List.mem_cons, List.not_mem_nil, or_false, Prod.mk.injEq]; omega)
      rw [k 115 (by decide) (by decide), k 116 (by decide) (by decide), k 122 (by decide) (by decide)]
      exact q
    have k0 : σ 115 = K ∧ σ 116 = P ∧ σ 122 = H := ⟨eK, eP, eH⟩
    rw [mo_spells_e, ix_115 I.1 I.2, Int.toNat_natCast, eK]
    -- the word, the digit, what opens
    have head : ∀ (w : Nat), w < 5 → (∀ R, L = mx_ww w ++ [am_w (48 + P i)] ++ mx_ww 5 ++ R → ∃ τ : am_M, mx_lw σ τ a (mx_ww w ++ [am_w (48 + P i)] ++ mx_ww 5) ∧ ∀ v2, mo_spells_108 (e + 5) i v2 ((2000 + w : Nat) : Int) σ n =
        (mo_spells (e + 5) ((i + 1 : Nat) : Int) τ n).bind fun q3 => if v2 < 4 then ((mo_writes (e + 5) 2007 q3.2.1 q3.2.2).bind fun q4 => some (q3.1, q4.2.1, q4.2.2)) else if 6 < v2 then ((mo_writes (e + 5) 2007 q3.2.1 q3.2.2).bind fun q5 => some (q3.1, q5.2.1, q5.2.2)) else (mo_writes (e + 5) 2006 q3.2.1 q3.2.2).bind fun q6 => (mo_spells (e + 5) q3.1 q6.2.1 q6.2.2).bind fun q7 => (mo_writes (e + 5) 2007 q7.2.1 q7.2.2).bind fun q8 => some (q7.1, q8.2.1, q8.2.2)) := fun w hw R hR => by
      have ll : L.length = (mx_ww w).length + 1 + 1 + R.length := by rw [hR]; simp only [List.length_append, List.length_singleton, l5]
      obtain ⟨τ1, a1, a2⟩ := mo_writes_s (n := n) (σ := σ) e w (by omega) ha (by omega)
      have q1 := keep _ _ _ _ a2 k0
      have s1 := mx_lw_step a2.2.1 (by omega) (am_w (48 + P i))
      have w2 : mx_lw τ1 (am_wr (am_wr τ1 135 (a + (mx_ww w).length) (am_w (48 + P i))) 82 64 ((a + (mx_ww w).length + 1 : Nat) : Int)) (a + (mx_ww w).length) [am_w (48 + P i)] := mx_lw_one
      have w12 := mx_lw_tr a2 w2
      obtain ⟨τ3, b1, b2⟩ := mo_writes_s (n := n) (σ := am_wr (am_wr τ1 135 (a + (mx_ww w).length) (am_w (48 + P i))) 82 64 ((a + (mx_ww w).length + 1 : Nat) : Int)) e 5 (by decide) (a := a + (mx_ww w ++ [am_w (48 + P i)]).length) w12.2.1 (by rw [List.length_append, List.length_singleton]; omega)
      refine ⟨τ3, mx_lw_tr w12 b2, fun v2 => ?_⟩
      rw [mo_spells_108_e, a1, Option.bind_some]
      dsimp only
      rw [ix_116 I.1 I.2, q1.2.1, Int.toNat_natCast, s1, show mo_writes (e + 5) 2005 _ n = _ from b1, Option.bind_some]
      dsimp only
      rw [i1]
    rcases mx_sp_cs hk hn hM hi hf h with ⟨c1, c2, c3⟩ | ⟨c1, c2, c3⟩ | ⟨c1, c2, c3, c4, c5, L1, c6, c7⟩ | ⟨c1, c2, c3, c4, L1, j1, L2, c5, c6, c7, c8, c9, c10⟩
    · obtain ⟨σ', a1, a2⟩ := ih (i + 1) σ a (e + 5) L j c2 (by omega) (by omega) c3 eK eP eH ha hl
      exact ⟨σ', by rw [if_neg (by omega), i1, a1, Option.bind_some], a2⟩
    · have ll : L.length = (mx_ww 0).length + 1 := by rw [c2, List.length_append, List.length_singleton]
      obtain ⟨τ1, a1, a2⟩ := mo_writes_s (n := n) (σ := σ) e 0 (by decide) ha (by omega)
      have q1 := keep _ _ _ _ a2 k0
      have s1 := mx_lw_step a2.2.1 (by omega) (am_w (48 + P i))
      have w2 : mx_lw τ1 (am_wr (am_wr τ1 135 (a + (mx_ww 0).length) (am_w (48 + P i))) 82 64 ((a + (mx_ww 0).length + 1 : Nat) : Int)) (a + (mx_ww 0).length) [am_w (48 + P i)] := mx_lw_one
      refine ⟨_, ?_, by rw [c2]; exact mx_lw_tr a2 w2⟩
      rw [if_pos (by omega), if_pos c1, show mo_writes (e + 5) 2000 σ n = _ from a1, Option.bind_some]
      dsimp only
      rw [ix_116 I.1 I.2, q1.2.1, s1, i1, c3]
    · obtain ⟨τ, b1, b2⟩ := head (mx_wd K H i) (mx_wd_lt i) (L1 ++ mx_ww 7) (by rw [c7, List.append_assoc])
      have ll : L.length = (mx_ww (mx_wd K H i) ++ [am_w (48 + P i)] ++ mx_ww 5).length + L1.length + 1 := by rw [c7, List.length_append, List.length_append, l7]
      have q1 := keep _ _ _ _ b1 k0
      obtain ⟨τ2, d1, d2⟩ := ih (i + 1) τ _ (e + 5) L1 j c4 (by omega) (by omega) c6 q1.1 q1.2.1 q1.2.2 b1.2.1 (by omega)
      have w12 := mx_lw_tr b1 d2
      obtain ⟨τ3, u1, u2⟩ := mo_writes_s (n := n) e 7 (by decide) w12.2.1 (by rw [List.length_append]; omega)
      have st : ∀ v2, (v2 < 4 ∨ 6 < v2) → mo_spells_108 (e + 5) i v2 ((2000 + mx_wd K H i : Nat) : Int) σ n = some ((j : Int), τ3, n) := fun v2 hv => by
        rw [b2 v2, d1, Option.bind_some]
        dsimp only
        by_cases z : v2 < 4
        · rw [if_pos z, show mo_writes (e + 5) 2007 τ2 n = _ from u1, Option.bind_some]
        · rw [if_neg z, if_pos (by omega), show mo_writes (e + 5) 2007 τ2 n = _ from u1, Option.bind_some]
      refine ⟨τ3, ?_, by rw [c7]; exact mx_lw_tr w12 u2⟩
      rw [if_pos (by omega), if_neg c2]
      by_cases k2 : K i = 2
      · have wd : mx_wd K H i = 1 := by unfold mx_wd; rw [if_neg c2, if_pos k2]
        rw [if_pos k2]
        rw [wd] at st
        exact st (K i) c3
      · have wd : mx_wd K H i = 2 := by unfold mx_wd; rw [if_neg c2, if_neg k2, if_neg (by unfold mx_wk at wk; omega)]
        rw [if_neg k2, if_neg (by unfold mx_wk at wk; omega)]
        rw [wd] at st
        exact st (K i) c3
    · obtain ⟨τ, b1, b2⟩ := head (mx_wd K H i) (mx_wd_lt i) (L1 ++ mx_ww 6 ++ L2 ++ mx_ww 7) (by rw [c10]; simp only [List.append_assoc])
      have ll : L.length = (mx_ww (mx_wd K H i) ++ [am_w (48 + P i)] ++ mx_ww 5).length + L1.length + 1 + L2.length + 1 := by rw [c10, List.length_append, List.length_append, List.length_append, List.length_append, l6, l7]
      have q1 := keep _ _ _ _ b1 k0
      obtain ⟨τ2, d1, d2⟩ := ih (i + 1) τ _ (e + 5) L1 j1 c4 (by omega) (by omega) c5 q1.1 q1.2.1 q1.2.2 b1.2.1 (by omega)
      have w12 := mx_lw_tr b1 d2
      have q2 := keep _ _ _ _ w12 k0
      obtain ⟨τ3, u1, u2⟩ := mo_writes_s (n := n) e 6 (by decide) w12.2.1 (by rw [List.length_append]; omega)
      have w13 := mx_lw_tr w12 u2
      have q3 := keep _ _ _ _ w13 k0
      obtain ⟨τ4, x1, x2⟩ := ih j1 τ3 _ (e + 5) L2 j c7 (by omega) (by omega) c9 q3.1 q3.2.1 q3.2.2 w13.2.1 (by rw [List.length_append, List.length_append, l6]; omega)
      have w14 := mx_lw_tr w13 x2
      obtain ⟨τ5, y1, y2⟩ := mo_writes_s (n := n) e 7 (by decide) w14.2.1 (by rw [List.length_append, List.length_append, List.length_append, l6]; omega)
      have st : ∀ v2, ¬ (v2 < 4 ∨ 6 < v2) → mo_spells_108 (e + 5) i v2 ((2000 + mx_wd K H i : Nat) : Int) σ n = some ((j : Int), τ5, n) := fun v2 hv => by
        rw [b2 v2, d1, Option.bind_some]
        dsimp only
        rw [if_neg (by omega), if_neg (by omega), show mo_writes (e + 5) 2006 τ2 n = _ from u1, Option.bind_some]
        dsimp only
        rw [x1, Option.bind_some]
        dsimp only
        rw [show mo_writes (e + 5) 2007 τ4 n = _ from y1, Option.bind_some]
      refine ⟨τ5, ?_, by rw [c10]; exact mx_lw_tr w14 y2⟩
      rw [if_pos (by omega), if_neg c2, if_neg (by omega), if_pos (by omega), ix_122 I.1 I.2, eH]
      by_cases k4 : H i = 1
      · have wd : mx_wd K H i = 4 := by unfold mx_wd; rw [if_neg c2, if_neg (by omega), if_pos (by omega), if_pos k4]
        rw [wd] at st
        rw [if_pos k4]
        exact st (K i) c3
      · have wd : mx_wd K H i = 3 := by unfold mx_wd; rw [if_neg c2, if_neg (by omega), if_pos (by omega), if_neg k4]
        rw [wd] at st
        rw [if_neg k4]
        exact st (K i) c3
end
