/-! READ: the whole text; what is taken back -/
section
variable {n : Nat} {σ μ τ τb : am_M}
/-- the class's memory, taken back -/
theorem mx_back_gd (hg : mx_gd μ) {σf : am_M} (k2 : σf 2 0 = μ 2 0 ∧ σf 2 3 = μ 2 3 ∧ σf 2 9 = μ 2 9) (k3 : σf 3 = μ 3) (k4 : σf 4 = μ 4) (ke : ∀ e : Nat, (e : Int) < μ 2 3 → σf 5 e = μ 5 e ∧ σf 6 e = μ 6 e ∧ σf 7 e = μ 7 e ∧ σf 8 e = μ 8 e ∧ σf 9 e = μ 9 e) (ki : ∀ i : Nat, (i : Int) < μ 2 9 → σf 10 i = μ 10 i ∧ σf 11 i = μ 11 i ∧ σf 12 i = μ 12 i) :
    mx_gd σf ∧ (∀ S W, mx_Fs μ S W → mx_Fs σf S W) ∧ ∀ τ, mx_rl μ τ → mx_rl σf τ := by
  obtain ⟨w, h64, mb⟩ := hg
  refine ⟨⟨?_, by rw [k2.2.1]; exact h64, ?_⟩, fun S W h => ?_, fun τ h => ⟨?_, ?_⟩⟩
  · show mx_W (σf 2 0) (σf 2 3) (σf 2 9) (σf 3) (σf 4) (σf 5) (σf 6) (σf 7) (σf 8) (σf 9) (σf 10) (σf 11)
    rw [k2.1, k2.2.1, k2.2.2, k3, k4]
    exact mx_W_cong w (fun _ _ => rfl) (fun _ _ => rfl) ke (fun i hi => ⟨(ki i hi).1, (ki i hi).2.1⟩)
  · rw [k2.2.1, k2.2.2]
    exact mx_Mb_cong mb (fun e he => (ke e he).2.2.2.2) (fun i hi => (ki i hi).2.2)
  · show mx_Fg (σf 2 3) (σf 5) (σf 6) (σf 7) (σf 8) (σf 9) (σf 11) S W
    rw [k2.2.1]
    exact mx_Fg_cong w.2.2.1 h ke (fun i hi => (ki i hi).2.1) (fun _ _ => rfl) (fun _ _ => rfl)
  · show mx_R (σf 2 3) (σf 2 9) (σf 5) (σf 6) (σf 7) (σf 8) (σf 9) (σf 10) τ
    rw [k2.2.1, k2.2.2]
    exact mx_R_cong h.1 (fun e he => ⟨(ke e he).1, (ke e he).2.1, (ke e he).2.2.2.2, fun _ => ⟨(ke e he).2.2.1, (ke e he).2.2.2.1⟩⟩) (fun i hi => (ki i hi).1)
  · rw [k2.1, k3, k4]; exact h.2
/-- the reference's memory, taken back -/
theorem mx_back_rl (hg : mx_gd μ) {L : List mx_pt} {V : am_M × List Int} (hj : mx_vj μ L V) (hr : mx_rl V.1 τ) {τ2 : am_M} (c : ∀ i j, 84 ≤ i → i ≤ 95 → τ2 i j = τ i j) (c0 : τ2 82 0 = τ 82 0) (c1 : τ2 82 1 = μ 2 3) (c2 : τ2 82 2 = μ 2 9) : mx_rl μ τ2 := by
  obtain ⟨w, b3, b9, -, -, ae, ag, ar, F, -⟩ := hj
  obtain ⟨⟨hRe, hRi, -, -, -, -, -⟩, t0, t1, t2⟩ := hr
  have k : ∀ i, 84 ≤ i → i ≤ 95 → τ2 i = τ i := fun i q q' => funext fun j => c i j q q'
  have w2 := hg.1.2.1
  have w2' := w.2.1
  have sh := hg.1.2.2.1
  have F20 : V.1 2 0 = μ 2 0 := F 2 0 (by decide) (by decide)
  have F3 : V.1 3 = μ 3 := funext fun j => F 3 j (by decide) (by simp)
  have F4 : V.1 4 = μ 4 := funext fun j => F 4 j (by decide) (by simp)
  -- a group whose meaning is old is old
  have old : ∀ z : Int, 0 ≤ z → z < V.1 2 9 → V.1 10 z.toNat < μ 2 9 → z < μ 2 9 := fun z h0 h1 h2 => by
    by_cases q : z < μ 2 9
    · exact q
    · have := ar z.toNat (by omega) (by omega)
      omega
  refine ⟨⟨fun e he => ?_, fun i hi => ?_, c1, c2, w2.1, w2.2.1, w2.2.2⟩, ?_, ?_, ?_⟩
  · rw [k 89 (by decide) (by decide), k 90 (by decide) (by decide), k 91 (by decide) (by decide), k 92 (by decide) (by decide), k 93 (by decide) (by decide), k 95 (by decide) (by decide)]
    obtain ⟨r1, r2, r3, r4⟩ := hRe e (by omega)
    obtain ⟨a5, a6, a7, a8, a9⟩ := ae e he
    rw [a5] at r1 r4
    rw [a6] at r2
    rw [a9] at r3 r4
    rw [a7, a8] at r4
    refine ⟨r1, r2, r3, fun hH => ?_⟩
    obtain ⟨x1, x2, x3, x4, x5⟩ := r4 hH
    obtain ⟨s1, s2, s3⟩ := sh.1 e he hH
    have kk := (hg.1.2.2.2.1 e he).2.2.2.2.2 hH
    have T : ∀ z : Int, 0 ≤ z → z < μ 2 9 → μ 10 z.toNat = V.1 10 z.toNat := fun z h0 h1 => ((ag z.toNat (by omega)).1).symm
    refine ⟨?_, fun q => ?_, x3, fun q => ?_, x5⟩
    · have := old _ x1.1 x1.2.1 (by rw [x1.2.2]; exact s1.2.1)
      exact ⟨x1.1, this, by rw [T _ x1.1 this]; exact x1.2.2⟩
    · obtain ⟨y1, y2, y3⟩ := x2 q
      have xx : 0 ≤ μ 7 e ∧ μ 7 e < μ 2 9 := by
        rcases s2 with z | z
        · exact absurd (kk.1.mpr z) q
        · exact ⟨z.1, z.2.1⟩
      have := old _ y1 y2 (by rw [y3]; exact xx.2)
      exact ⟨y1, this, by rw [T _ y1 this]; exact y3⟩
    · obtain ⟨y1, y2, y3⟩ := x4 q
      have yy : 0 ≤ μ 8 e ∧ μ 8 e < μ 2 9 := by
        rcases s3 with z | z
        · have := kk.2.mpr z; omega
        · exact ⟨z.1, z.2.1⟩
      have := old _ y1 y2 (by rw [y3]; exact yy.2)
      exact ⟨y1, this, by rw [T _ y1 this]; exact y3⟩
  · rw [k 94 (by decide) (by decide)]
    obtain ⟨r1, r2, r3, r4⟩ := hRi i (by omega)
    have a := (ag i hi).1
    have a' := (ag (τ 94 i).toNat (by omega)).1
    rw [a] at r3 r4
    rw [a'] at r4
    exact ⟨r1, r2, r3, r4⟩
  · rw [c0, t0, F20]
  · rw [k 85 (by decide) (by decide), k 86 (by decide) (by decide), k 87 (by decide) (by decide), k 88 (by decide) (by decide), ← F20, ← F3]; exact t1
  · rw [k 84 (by decide) (by decide), ← F4]; exact t2
/-- faultIn() and reads(), all of a text -/
theorem read_top (hg : mx_gd μ) {s S : Nat} (hs : s < 8) (hS : μ (66 + 2 * s) 1 = S) (hS2 : S ≤ 160) (hv : 0 ≤ μ 2 17 ∧ μ 2 17 < 1900000000) (h0 : τb 82 0 = μ 2 0) (dp D : Nat) (hD : 31 ≤ D) (hc : mx_rcs μ σ s 0 [] []) (hr : mx_jr μ τb τ (mx_tx (μ (67 + 2 * s)) S) S 0 []) :
    (∃ (f : Nat) (σ' τ' : am_M) (L : List mx_pt) (g : Int), re_faultIn_22 (dp + 8) ((66 + 2 * s : Nat) : Int) 0 σ n = some ((f : Int), σ', n) ∧ mx_Fq mx_CR mx_Prr μ σ' ∧ mo_reads D τ n = some (g, τ', n) ∧ (τ' 82 6 = (f : Nat) ∨ (τ' 82 6 = -1 ∧ τ' 82 70 = (f : Nat) ∧ f < S)) ∧ mx_vj μ L (mx_tal μ L) ∧ mx_rl (mx_tal μ L).1 τ' ∧ L.length ≤ 27 ∧ mx_Fq mx_CT mx_PT τb τ') ∨
    (∃ (σ' τ' : am_M) (L : List mx_pt) (g : Int), re_faultIn_22 (dp + 8) ((66 + 2 * s : Nat) : Int) 0 σ n = some (-1, σ', n) ∧ mx_rcs μ σ' s S L [] ∧ mo_reads D τ n = some (g, τ', n) ∧ τ' 82 6 = -1 ∧ τ' 82 70 = (S : Nat) ∧ mx_vj μ L (mx_tal μ L) ∧ mx_rl (mx_tal μ L).1 τ' ∧ 0 < L.length ∧ L.length ≤ 27 ∧ (mx_tal μ L).2[L.length - 1]? = some g ∧ mx_Fq mx_CT mx_PT τb τ') := by
  have J := re_reads_j (n := n) hg hs hS hS2 hv h0 dp 23 0 0 [] [] σ τ D (by omega) (by decide) (by decide) hc hr (by omega)
  rcases J with ⟨f, σ', τ', L', j1, j2, j3, j4, j5, j6, j7, j8⟩ | ⟨a', i', j, R, g, σ', τ', j1, j2, j3, j4, j5, j6, j7, j8, j9, j10⟩
  · exact Or.inl ⟨f, σ', τ', L', -1, j1, j2, j3, Or.inl j4, j5, j6, j7, j8⟩
  · rw [List.nil_append] at j2 j4 j5 j6 j8 j10
    obtain ⟨⟨g1, g2, g3, -, -, g6, -⟩, v1, v2, v3⟩ := j4
    have e10 : σ' 43 10 = 0 := j2.2.2.2.1
    have s0 : ¬ ((66 + 2 * s : Nat) : Int) < 0 := by omega
    have ea : re_endAround_2 (dp + 7) j σ' n = some (-1, σ', n) := by
      rw [re_endAround_2_e]
      split
      · rw [if_neg (by rw [e10]; decide)]
      · rfl
    have eS : σ' (66 + 2 * s) 1 = S := by rw [mx_rcs_k j2 (by omega)]; exact hS
    have ek : mx_Kr dp ((66 + 2 * s : Nat) : Int) i' (-1, σ', n) = if a' = S then some (-1, σ', n) else some ((a' : Int), σ', n) := by
      unfold mx_Kr
      dsimp only
      have eSS : σ' ((66 + 2 * s : Nat) : Int).toNat 1 = S := by rw [Int.toNat_natCast]; exact eS
      rw [if_pos rfl, if_pos e10, mx_if_t s0]
      by_cases z : a' = S
      · rw [if_pos (show σ' 43 2 = σ' ((66 + 2 * s : Nat) : Int).toNat 1 by rw [eSS, j2.2.1]; omega), if_pos z]
      · rw [if_neg (show ¬ σ' 43 2 = σ' ((66 + 2 * s : Nat) : Int).toNat 1 by rw [eSS, j2.2.1]; omega), if_neg z, j2.2.1]
    rw [ea, Option.bind_some, ek] at j1
    have l27 : R.length ≤ 27 := by
      rw [List.length_nil] at j8
      omega
    by_cases z : a' = S
    · rw [if_pos z] at j1
      subst z
      exact Or.inr ⟨σ', τ', R, g, j1, j2, j3, g3, g2, v1, v2, j5, l27, j6, v3⟩
    · rw [if_neg z] at j1
      exact Or.inl ⟨a', σ', τ', R, g, j1, j2.2.2.2.2.2.2, j3, Or.inr ⟨g3, g2, by omega⟩, v1, v2, l27, v3⟩
/-- the parts are told by the class's arrays -/
theorem mx_rcs_L {σ1 : am_M} {s a : Nat} {L L' : List mx_pt} (h : mx_rcs μ σ1 s a L []) (h' : mx_rcs μ σ1 s a L' []) : L = L' := by
  have l : L.length = L'.length := by
    have a1 := h.2.2.1
    have a2 := h'.2.2.1
    omega
  refine List.ext_getElem? fun i => ?_
  by_cases z : i < L.length
  · have h1 : L[i]? = some L[i] := List.getElem?_eq_getElem z
    have h2 : L'[i]? = some (L'[i]'(by omega)) := List.getElem?_eq_getElem (by omega)
    rw [h1, h2]
    obtain ⟨b1, b2, b3, b4, b5⟩ := h.2.2.2.2.1 i _ h1
    obtain ⟨d1, d2, d3, d4, d5⟩ := h'.2.2.2.2.1 i _ h2
    congr 1
    exact Prod.ext (b1.symm.trans d1) (Prod.ext (b2.symm.trans d2) (Prod.ext (b3.symm.trans d3) (Prod.ext (b4.symm.trans d4) (b5.symm.trans d5))))
  · rw [List.getElem?_eq_none (by omega), List.getElem?_eq_none (by omega)]
end
