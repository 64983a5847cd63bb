/-! READ: the class's reader -/
section
variable {n : Nat} {σ μ : am_M}
abbrev mx_po : Type := Int × Int × Int × Int
abbrev mx_CR : List Nat := [44, 45, 46, 47, 48, 50, 51, 52, 53]
abbrev mx_Prr : List (Nat × Nat) := [(43, 1), (43, 2), (43, 3), (43, 10)]
/-- parts that have been read, what is open -/
def mx_rcs (μ σ : am_M) (s a : Nat) (L : List mx_pt) (O : List mx_po) : Prop := σ 43 1 = ((66 + 2 * s : Nat) : Int) ∧ σ 43 2 = a ∧ σ 43 3 = L.length ∧ σ 43 10 = O.length ∧
  (∀ (i : Nat) (q : mx_pt), L[i]? = some q → σ 44 i = q.1 ∧ σ 45 i = q.2.1 ∧ σ 46 i = q.2.2.1 ∧ σ 47 i = q.2.2.2.1 ∧ σ 48 i = q.2.2.2.2) ∧
  (∀ (i : Nat) (w : mx_po), O[i]? = some w → σ 50 i = w.1 ∧ σ 51 i = w.2.1 ∧ σ 52 i = w.2.2.1 ∧ σ 53 i = w.2.2.2) ∧ mx_Fq mx_CR mx_Prr μ σ
def mx_pcl (L : List mx_pt) (z : Int) : Int := if z = -1 then 0 else match L[z.toNat]? with | none => 0 | some q => q.2.2.2.2
theorem mx_rcs_at {s a a' : Nat} {L : List mx_pt} {O : List mx_po} (h : mx_rcs μ σ s a L O) : mx_rcs μ (am_wr σ 43 2 (a' : Nat)) s a' L O := by
  obtain ⟨h1, h2, h3, h4, h5, h6, h7⟩ := h
  refine ⟨by rw [mx_wr_off (by decide)]; exact h1, mx_wr_at, by rw [mx_wr_off (by decide)]; exact h3, by rw [mx_wr_off (by decide)]; exact h4, fun i q hq => ?_, fun i w hw => ?_, mx_fq_wr h7 rfl⟩
  · rw [mx_wr_ne (by decide), mx_wr_ne (by decide), mx_wr_ne (by decide), mx_wr_ne (by decide), mx_wr_ne (by decide)]; exact h5 i q hq
  · rw [mx_wr_ne (by decide), mx_wr_ne (by decide), mx_wr_ne (by decide), mx_wr_ne (by decide)]; exact h6 i w hw
/-- what reading leaves alone -/
theorem mx_rcs_k {s a : Nat} {L : List mx_pt} {O : List mx_po} (h : mx_rcs μ σ s a L O) {i : Nat} (hi : i < 43 ∨ 53 < i ∨ i = 49) : σ i = μ i := funext fun j => h.2.2.2.2.2.2 i j (by simp only [List.mem_cons, List.not_mem_nil, or_false, not_or]; omega) (by simp only [List.mem_cons, List.not_mem_nil, or_false, Prod.mk.injEq]; omega)
theorem re_columnsOf_s {s a : Nat} {L : List mx_pt} {O : List mx_po} (h3 : σ 43 3 = L.length) (h48 : ∀ (i : Nat) (q : mx_pt), L[i]? = some q → σ 48 i = q.2.2.2.2) (hl : L.length ≤ 32) (dp : Nat) {z : Int} (hz : z = -1 ∨ ∃ i : Nat, z = i ∧ i < L.length) : re_columnsOf (dp + 1) z σ n = some (mx_pcl L z, σ, n) := by
  rw [re_columnsOf_e]
  unfold mx_pcl
  rcases hz with q | ⟨i, q, hi⟩
  · rw [if_pos (by omega), if_pos q]
  · have hx : L[i]? = some L[i] := List.getElem?_eq_getElem hi
    rw [if_neg (by omega), if_pos (by rw [h3]; omega), if_neg (by omega), q, ix_48 (by omega) (by omega), Int.toNat_natCast, hx, h48 i _ hx]
/-- an expression is read whole -/
theorem re_endOne_s {s a : Nat} {L : List mx_pt} {O : List mx_po} {k o l f : Int} (h : mx_rcs μ σ s a L (O ++ [(k, o, l, f)])) (hl : L.length < 32) (hO : O.length < 32) (ht : μ 2 0 ≤ 8) (ho : k = 1 → 0 ≤ o ∧ o < μ 2 0) (dp : Nat) {x y : Int} (hx : x = -1 ∨ ∃ i : Nat, x = i ∧ i < L.length) (hy : y = -1 ∨ ∃ i : Nat, y = i ∧ i < L.length) :
    ∃ σ' : am_M, re_endOne (dp + 3) x y σ n = some (0, σ', n) ∧ mx_rcs μ σ' s a (L ++ [(k, o, x, y, mx_cb k o (if k = 1 then μ 3 (4 * o + 1).toNat else mx_pcl L x) (mx_pcl L y))]) O := by
  have hk := h
  obtain ⟨h1, h2, h3, h4, h5, h6, h7⟩ := h
  have k2 := mx_rcs_k hk (i := 2) (by decide)
  have k3 := mx_rcs_k hk (i := 3) (by decide)
  rw [List.length_append, List.length_singleton] at h4
  have top := h6 O.length (k, o, l, f) (by rw [List.getElem?_append_right (Nat.le_refl _), Nat.sub_self]; rfl)
  obtain ⟨t1, t2, -, -⟩ := top
  dsimp only at t1 t2
  have e10 : am_w (σ 43 10 - 1) = (O.length : Nat) := by rw [h4, mx_w_id (by omega) (by omega)]; omega
  obtain ⟨σ1, hσ1⟩ : ∃ σ1, σ1 = am_wr σ 43 10 (O.length : Nat) := ⟨_, rfl⟩
  have f10 : σ1 43 10 = (O.length : Nat) := by rw [hσ1, mx_wr_at]
  have f3 : σ1 43 3 = (L.length : Nat) := by rw [hσ1, mx_wr_off (by decide)]; exact h3
  have g : ∀ i, i ≠ 43 → σ1 i = σ i := fun i q => by rw [hσ1, mx_wr_ne q]
  obtain ⟨fst, hfst⟩ : ∃ fst : Int, fst = (if k = 1 then μ 3 (4 * o + 1).toNat else mx_pcl L x) := ⟨_, rfl⟩
  have I : (0 : Int) ≤ (L.length : Int) ∧ (L.length : Int) < 32 := ⟨by omega, by omega⟩
  have Io : (0 : Int) ≤ (O.length : Int) ∧ (O.length : Int) < 32 := ⟨by omega, by omega⟩
  have go : re_endOne (dp + 3) x y σ n = re_endOne_72 (dp + 2) x y k o fst σ1 n := by
    rw [re_endOne_e, if_neg (by omega), if_pos (by rw [h3]; exact I.2), mx_m, e10, ← hσ1, f10, ix_50 Io.1 Io.2, ix_51 Io.1 Io.2, Int.toNat_natCast, g 50 (by decide), g 51 (by decide), t1, t2]
    by_cases z : k = 1
    · have := ho z
      rw [if_pos z, me_factOfTable_s dp o 1 σ1 n (by rw [g 2 (by decide), k2]; exact ht), if_pos ⟨⟨this.1, by rw [g 2 (by decide), k2]; exact this.2⟩, by decide, by decide⟩, Option.bind_some, g 3 (by decide), k3, hfst, if_pos z]
    · rw [if_neg z, re_columnsOf_s (s := s) (a := a) (O := O) f3 (fun i q hq => by rw [g 48 (by decide)]; exact (h5 i q hq).2.2.2.2) (by omega) (dp + 1) hx, Option.bind_some, hfst, if_neg z]
  obtain ⟨σ2, hσ2⟩ : ∃ σ2, σ2 = am_wr (am_wr (am_wr (am_wr σ1 44 L.length k) 45 L.length o) 46 L.length x) 47 L.length y := ⟨_, rfl⟩
  have F2 : mx_Fq [44, 45, 46, 47] [] σ1 σ2 := by rw [hσ2]; exact mx_fq_wr (mx_fq_wr (mx_fq_wr (mx_fq_wr mx_fq_rf rfl) rfl) rfl) rfl
  have O2 : ∀ b j, j ≠ L.length → σ2 b j = σ1 b j := fun b j hj => by
    rw [hσ2]
    unfold am_wr
    rw [if_neg (fun q => hj q.2), if_neg (fun q => hj q.2), if_neg (fun q => hj q.2), if_neg (fun q => hj q.2)]
  have k43 : σ2 43 = σ1 43 := funext fun j => F2 43 j (by decide) (by simp)
  have cy := re_columnsOf_s (n := n) (s := s) (a := a) (O := O) (σ := σ2) (L := L) (by rw [k43]; exact f3) (fun i q hq => by rw [F2 48 i (by decide) (by simp), g 48 (by decide)]; exact (h5 i q hq).2.2.2.2) (by omega) (dp + 1) hy
  obtain ⟨σ3, hσ3⟩ : ∃ σ3, σ3 = am_wr (am_wr σ2 48 L.length (mx_cb k o fst (mx_pcl L y))) 43 3 ((L.length + 1 : Nat) : Int) := ⟨_, rfl⟩
  refine ⟨σ3, ?_, ?_⟩
  · have e44 : σ1 43 3 = ((L.length : Nat) : Int) := f3
    rw [go, re_endOne_72_e, f3, ix_44 I.1 I.2, mx_m, mx_wr_ne (show (43 : Nat) ≠ 44 by decide), f3, ix_45 I.1 I.2, mx_m, mx_wr_ne (show (43 : Nat) ≠ 45 by decide), mx_wr_ne (show (43 : Nat) ≠ 44 by decide), f3, ix_46 I.1 I.2, mx_m, mx_wr_ne (show (43 : Nat) ≠ 46 by decide), mx_wr_ne (show (43 : Nat) ≠ 45 by decide), mx_wr_ne (show (43 : Nat) ≠ 44 by decide), f3, ix_47 I.1 I.2, mx_m, Int.toNat_natCast, ← hσ2, cy, Option.bind_some]
    dsimp only
    rw [pm_columnsBy_s, Option.bind_some]
    dsimp only
    rw [k43, f3, ix_48 I.1 I.2, mx_m, mx_m, Int.toNat_natCast, mx_wr_ne (show (43 : Nat) ≠ 48 by decide), k43, f3, mx_w_nat (by omega), hσ3]
  · have k3' : ∀ b, b ≠ 43 → b ≠ 48 → σ3 b = σ2 b := fun b q1 q2 => by rw [hσ3, mx_wr_ne q1, mx_wr_ne q2]
    have G : mx_Fq mx_CR mx_Prr σ σ3 := by
      rw [hσ3]
      refine mx_fq_wr (mx_fq_wr (mx_fq_tr ?_ (mx_fq_up F2 rfl)) rfl) rfl
      rw [hσ1]
      exact mx_fq_wr mx_fq_rf rfl
    have k43' : ∀ j, j ≠ 3 → σ3 43 j = σ1 43 j := fun j q => by rw [hσ3, mx_wr_off q, mx_wr_ne (by decide), k43]
    refine ⟨?_, ?_, ?_, ?_, fun i q hq => ?_, fun i w hw => ?_, mx_fq_tr h7 G⟩
    · rw [k43' 1 (by decide), hσ1, mx_wr_off (by decide)]; exact h1
    · rw [k43' 2 (by decide), hσ1, mx_wr_off (by decide)]; exact h2
    · rw [hσ3, mx_wr_at, List.length_append, List.length_singleton]
    · rw [k43' 10 (by decide)]; exact f10
    · by_cases z : i < L.length
      · rw [List.getElem?_append_left z] at hq
        rw [k3' 44 (by decide) (by decide), k3' 45 (by decide) (by decide), k3' 46 (by decide) (by decide), k3' 47 (by decide) (by decide), hσ3, mx_wr_ne (show (48 : Nat) ≠ 43 by decide), mx_wr_off (by omega), O2 _ _ (by omega), O2 _ _ (by omega), O2 _ _ (by omega), O2 _ _ (by omega), O2 _ _ (by omega), g 44 (by decide), g 45 (by decide), g 46 (by decide), g 47 (by decide), g 48 (by decide)]
        exact h5 i q hq
      · have hl' := (List.getElem?_eq_some_iff.mp hq).1
        rw [List.length_append, List.length_singleton] at hl'
        have : i = L.length := by omega
        rw [List.getElem?_append_right (by omega), this, Nat.sub_self] at hq
        cases hq
        subst this
        rw [k3' 44 (by decide) (by decide), k3' 45 (by decide) (by decide), k3' 46 (by decide) (by decide), k3' 47 (by decide) (by decide), hσ3, mx_wr_ne (show (48 : Nat) ≠ 43 by decide), mx_wr_at, hσ2, hfst]
        refine ⟨?_, ?_, ?_, ?_, rfl⟩
        · rw [mx_wr_ne (by decide), mx_wr_ne (by decide), mx_wr_ne (by decide), mx_wr_at]
        · rw [mx_wr_ne (by decide), mx_wr_ne (by decide), mx_wr_at]
        · rw [mx_wr_ne (by decide), mx_wr_at]
        · rw [mx_wr_at]
    · have hl' := (List.getElem?_eq_some_iff.mp hw).1
      have := h6 i w (by rw [List.getElem?_append_left hl']; exact hw)
      rw [k3' 50 (by decide) (by decide), k3' 51 (by decide) (by decide), k3' 52 (by decide) (by decide), k3' 53 (by decide) (by decide)]
      have F := fun b (q : 48 < b) => show σ2 b i = σ b i from by rw [F2 b i (by simp only [List.mem_cons, List.not_mem_nil, or_false, not_or]; omega) (by simp), g b (by omega)]
      rw [F 50 (by decide), F 51 (by decide), F 52 (by decide), F 53 (by decide)]
      exact this
end
