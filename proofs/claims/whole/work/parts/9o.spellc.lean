/-! SPELL: the call -/
section
variable {t n : Nat} {σ : am_M} {K P H : Nat → Int}
theorem mo_spell_94_s (dp s : Nat) (hs : s < 8) (L : List Int) (hl : L.length ≤ 160) : ∀ (k x : Nat) (τ : am_M), x + k = L.length → τ 82 64 = (L.length : Nat) → (∀ y v, L[y]? = some v → τ 135 y = v) →
    ∃ τ' : am_M, mo_spell_94 (dp + 1) s x τ n = some (((L.length : Nat) : Int), τ', n) ∧ mx_Fq [102] [] τ τ' ∧ (∀ y v, x ≤ y → L[y]? = some v → τ' 102 (160 * s + y) = mx_pw (τ 99 s) v) ∧ ∀ z, (z < 160 * s + x ∨ 160 * s + L.length ≤ z) → τ' 102 z = τ 102 z := by
  intro k
  induction k with
  | zero =>
    intro x τ hx h64 hL
    refine ⟨τ, ?_, mx_fq_rf, fun y v h1 h2 => ?_, fun _ _ => rfl⟩
    · rw [mo_spell_94_e, if_neg (by rw [h64]; omega), h64]
    · have := (List.getElem?_eq_some_iff.mp h2).1
      omega
  | succ k ih =>
    intro x τ hx h64 hL
    obtain ⟨v, hv⟩ : ∃ v, L[x]? = some v := ⟨L[x]'(by omega), List.getElem?_eq_getElem (by omega)⟩
    have I : (0 : Int) ≤ (x : Int) ∧ (x : Int) < 4000 := ⟨by omega, by omega⟩
    obtain ⟨τ1, h1⟩ : ∃ τ1, τ1 = am_wr τ 102 (160 * s + x) (mx_pw (τ 99 s) v) := ⟨_, rfl⟩
    have F1 : mx_Fq [102] [] τ τ1 := by rw [h1]; exact mx_fq_wr mx_fq_rf rfl
    obtain ⟨τ', a1, a2, a3, a4⟩ := ih (x + 1) τ1 (by omega) (by rw [F1 82 64 (by decide) (by simp)]; exact h64) (fun y v hy => by rw [F1 135 y (by decide) (by simp)]; exact hL y v hy)
    refine ⟨τ', ?_, mx_fq_tr F1 a2, fun y w h2 h3 => ?_, fun z hz => by rw [a4 z (by omega), h1, mx_wr_off (by omega)]⟩
    · rw [mo_spell_94_e, if_pos (by rw [h64]; omega), ix_135 I.1 I.2, Int.toNat_natCast, hL x v hv, mo_puts_s dp s x v hs ⟨by omega, by omega⟩, Option.bind_some]
      dsimp only
      rw [Int.toNat_natCast, ← h1, mx_w_nat (by omega)]
      exact a1
    · by_cases q : y = x
      · rw [q, hv] at h3
        cases h3
        rw [q, a4 _ (by omega), h1, mx_wr_at]
      · rw [a3 y w (by omega) h3, F1 99 s (by decide) (by simp)]
/-- what a plan spells -/
theorem mx_spelled (hI : mx_Inv t n σ) (h1 : 1 ≤ σ 82 8) : ∃ M p : Nat, σ 82 8 = M ∧ M ≤ 120 ∧ σ 0 9 = p ∧ (p = 58 ∨ p = 62) ∧ mx_pv σ (σ 115) (σ 116) (σ 122) M p ∧ (∀ i, i < M → mx_wk (σ 115 i)) ∧ (∀ i, i < M → 1 ≤ mx_nd (σ 115) i) ∧ mx_nd (σ 115) M = 0 ∧
    ∃ L, mx_sp (σ 115) (σ 116) (σ 122) M 0 = some (L, M) ∧ L.length = mx_ls' (σ 115) (σ 122) M := by
  have h7 := mx_I_7 hI
  obtain ⟨a1, a2, a3, a4, a5⟩ := h7
  obtain ⟨p, hp1, hp2⟩ : ∃ p : Nat, σ 0 9 = p ∧ (p = 58 ∨ p = 62) := ⟨(σ 0 9).toNat, by omega, by omega⟩
  rw [hp1, Int.toNat_natCast] at a2 a4
  obtain ⟨M, hM⟩ : ∃ M : Nat, σ 82 8 = M := ⟨(σ 82 8).toNat, by omega⟩
  rw [hM] at a2 a3 a4 a5 h1
  have n0 := a5 h1
  rw [Int.toNat_natCast] at n0
  have hk : ∀ i, i < M → mx_wk (σ 115 i) := fun i hi => (a4 i (by omega)).2.2.2.2.2.2.2.2.2.1
  have hn : ∀ i, i < M → 1 ≤ mx_nd (σ 115) i := fun i hi => (a4 i (by omega)).2.2.2.2.2.2.2.2.2.2.2.2
  obtain ⟨L, j, b1, b2, b3, b4, b5⟩ := mx_sp_ex (P := σ 116) (H := σ 122) hk hn n0 M 0 (by omega) (by omega)
  have jM : j = M := by
    by_cases q : j < M
    · have := hn j q
      have z : mx_nd (σ 115) 0 = 1 := rfl
      omega
    · omega
  subst jM
  refine ⟨j, p, hM, by omega, hp1, hp2, ⟨a2, fun i hi => ?_⟩, hk, hn, n0, L, b1, ?_⟩
  · obtain ⟨c1, c2, -, -, -, -, -, c8, -⟩ := a4 i (by omega)
    exact ⟨c1, c2, c8⟩
  · have : mx_ls' (σ 115) (σ 122) 0 = 0 := rfl
    omega
/-- spell() -/
theorem spell_c (hI : mx_Inv t n σ) (d : Nat) (v1 : Int) : mx_C t n σ (fun σ n => pm_spell (d + 150) v1 σ n) (fun σ n => mo_spell (d + 150) v1 σ n) := by
  have i7 := mx_I_7 hI
  by_cases h1 : 0 ≤ v1 ∧ v1 < 8
  · obtain ⟨s, rfl⟩ : ∃ s : Nat, v1 = s := ⟨v1.toNat, by omega⟩
    have hs : s < 8 := by omega
    have S : (0 : Int) ≤ (s : Int) ∧ (s : Int) < 8 := ⟨by omega, by omega⟩
    have h6 := mx_I_6 hI s hs
    have rr : pm_rowRefusal (d + 149) s σ n = _ := pm_rowRefusal_s (d + 147) s hs
    have ref : ∀ (k : Nat) (σ' : am_M), (∀ a, a ≠ 57 → σ' a = σ a) → mo_spell (d + 150) s σ' n = if σ 98 s = 2 then some (-2, mx_no σ' 2, n) else if σ 98 s = 0 then some (-3, mx_no σ' 3, n) else if σ 82 8 = 0 then some (-5, mx_no σ' 5, n) else (mo_spells (d + 149) 0 (am_wr σ' 82 64 0) n).bind fun q2 => am_ix 100 s (if q2.2.1 100 s < q2.2.1 82 64 then ((mo_no (d + 149) (-7) q2.2.1 q2.2.2).bind fun q3 => some (q3.1, q3.2.1, q3.2.2)) else mo_spell_94 (d + 149) s 0 q2.2.1 q2.2.2) := fun k σ' hσ' => by
      rw [mo_spell_e, mo_isShelf_s, Option.bind_some]
      dsimp only
      have e98 : σ' 98 s = σ 98 s := congrFun (hσ' 98 (by decide)) s
      have e82 : σ' 82 8 = σ 82 8 := congrFun (hσ' 82 (by decide)) 8
      rw [mx_bi_p h1, ix_98 S.1 S.2]
      simp only [Int.toNat_natCast]
      by_cases z2 : σ 98 s = 2
      · rw [if_pos (e98.trans z2), if_pos z2, mo_no_s _ _ _ _ (by decide), Option.bind_some]; rfl
      · rw [if_neg (fun q => z2 (e98.symm.trans q)), if_neg z2, ix_98 S.1 S.2]
        by_cases z0 : σ 98 s = 0
        · rw [if_pos (e98.trans z0), if_pos z0, mo_no_s _ _ _ _ (by decide), Option.bind_some]; rfl
        · rw [if_neg (fun q => z0 (e98.symm.trans q)), if_neg z0]
          by_cases z5 : σ 82 8 = 0
          · rw [if_pos (e82.trans z5), if_pos z5, mo_no_s _ _ _ _ (by decide), Option.bind_some]; rfl
          · rw [if_neg (fun q => z5 (e82.symm.trans q)), if_neg z5, mx_m]
    have rfk : ∀ k a, a ≠ 57 → (mx_rf σ k) a = σ a := fun k a q => mx_rf_ne q
    unfold mx_I6s at h6
    rcases h6 with a | a | a
    · refine mx_C_ref hI 3 (-3) ?_ (by rw [ref 3 _ (rfk 3), if_neg (by omega), if_pos a.1])
      rw [pm_spell_e, rr, if_neg (by rw [a.2.2.1]; decide), if_neg (by rw [a.2.1]; decide), Option.bind_some]
      dsimp only
      rw [if_neg (by decide), pm_refuse_s _ _ _ _ (by decide), Option.bind_some]; rfl
    · have r0 : pm_rowRefusal (d + 149) s σ n = some (0, σ, n) := by rw [rr, if_neg (by rw [a.2.2.2.1]; decide), if_pos (by omega)]
      have pq : ∃ p : Nat, σ 0 9 = p ∧ (p = 58 ∨ p = 62) := ⟨(σ 0 9).toNat, by have := i7.1; omega, by have := i7.1; omega⟩
      by_cases z5 : σ 82 8 = 0
      · refine mx_C_ref hI 5 (-5) ?_ (by rw [ref 5 _ (rfk 5), if_neg (by omega), if_neg (by omega), if_pos z5])
        obtain ⟨p, hp1, hp2⟩ := pq
        have n3 := i7.2.1
        rw [hp1, Int.toNat_natCast, z5] at n3
        rw [pm_spell_e, r0, Option.bind_some]
        dsimp only
        have n3' : σ (σ 0 9).toNat 3 = 0 := by rw [hp1, Int.toNat_natCast]; exact n3
        rw [if_pos rfl, mx_if_t (show ¬ σ 0 9 < 0 by omega), if_pos n3', pm_refuse_s _ _ _ _ (by decide), Option.bind_some]; rfl
      · obtain ⟨M, p, hM, h120, hp1, hp2, pv, hk, hn, n0, L, sp, ll⟩ := mx_spelled hI (by have := i7.2.2.1; omega)
        have p0 : ¬ (p : Int) < 0 := by omega
        have s0 : ¬ ((66 + 2 * s : Nat) : Int) < 0 := by omega
        have M1 : 0 < M := by omega
        have l10 := mx_ls_10 (K := σ 115) (H := σ 122) M
        have let1 : pl_letters (d + 149) p σ n = some (((L.length : Nat) : Int), σ, n) := by
          have := pl_letters_4_s (n := n) hp2 h120 pv hk (d + 146) M 0 (by omega)
          rw [pl_letters_e, ll]
          exact this
        have one : ∀ v : Nat, am_fin 1 v = ((66 + 2 * v : Nat) : Int) := fun _ => rfl
        have ix1 : ∀ x : Option am_R, am_ix 1 (s : Int) x = x := fun x => ix_1 S.1 S.2
        have go : pm_spell (d + 150) s σ n = if σ 100 s < (L.length : Nat) then some (-7, mx_rf σ 7, n) else (pl_writeTo (d + 149) p ((66 + 2 * s : Nat) : Int) σ n).bind fun q3 => some (((L.length : Nat) : Int), q3.2.1, q3.2.2) := by
          have n3 : ¬ σ p 3 = 0 := by rw [pv.1]; omega
          rw [pm_spell_e, r0, Option.bind_some]
          dsimp only
          have n3' : ¬ σ (σ 0 9).toNat 3 = 0 := by rw [hp1, Int.toNat_natCast]; exact n3
          have p9 : ¬ σ 0 9 < 0 := by omega
          rw [if_pos rfl, mx_if_t p9, if_neg n3', mx_if_t p9, hp1, let1, Option.bind_some]
          dsimp only
          rw [ix1]
          simp only [Int.toNat_natCast, one]
          rw [mx_if_t s0]
          have a1 := a.2.2.2.2.1
          by_cases z : σ 100 s < (L.length : Nat)
          · rw [if_pos (by rw [a1]; exact z), if_pos z, pm_refuse_s _ _ _ _ (by decide), Option.bind_some]; rfl
          · rw [if_neg (by rw [a1]; exact z), if_neg z, ix1, mx_if_t p9, hp1]
        -- the reference spells
        have spell2 : ∀ σ' : am_M, (∀ a, a ≠ 57 → a ≠ 67 + 2 * s → a ≠ p + 3 → σ' a = σ a) → ∃ τ : am_M, mo_spells (d + 149) 0 (am_wr σ' 82 64 0) n = some ((M : Int), τ, n) ∧ mx_lw (am_wr σ' 82 64 0) τ 0 L := fun σ' hσ' => by
          have k : ∀ a, a ≠ 57 → a ≠ 67 + 2 * s → a ≠ p + 3 → a ≠ 82 → am_wr σ' 82 64 0 a = σ a := fun a q1 q2 q3 q4 => by rw [mx_wr_ne q4]; exact hσ' a q1 q2 q3
          exact mo_spells_s (n := n) hk hn n0 h120 M 0 (am_wr σ' 82 64 0) 0 (d + 149) L M M1 (by omega) (by omega) sp (k 115 (by decide) (by omega) (by omega) (by decide)) (k 116 (by decide) (by omega) (by omega) (by decide)) (k 122 (by decide) (by omega) (by omega) (by decide)) (by rw [mx_wr_at]; rfl) (by omega)
        by_cases z : σ 100 s < (L.length : Nat)
        · obtain ⟨τ, b1, b2⟩ := spell2 (mx_rf σ 7) (fun a q _ _ => mx_rf_ne q)
          have F : mx_Fq [135] [(82, 64)] (mx_rf σ 7) τ := mx_fq_tr (mx_fq_wr mx_fq_rf rfl) b2.1
          have t100 : τ 100 s = σ 100 s := by rw [F 100 s (by decide) (by simp), mx_rf_ne (by decide)]
          have t64 : τ 82 64 = (L.length : Nat) := by rw [b2.2.1, Nat.zero_add]
          refine mx_C_of (-7) (mx_rf σ 7) (mx_no τ 7) (by rw [go, if_pos z]) ?_ ?_
          · show mo_spell (d + 150) s (mx_rf σ 7) n = _
            rw [ref 7 _ (rfk 7), if_neg (by omega), if_neg (by omega), if_neg z5, b1, Option.bind_some]
            dsimp only
            rw [ix_100 S.1 S.2]
            rw [if_pos (by rw [t100, t64]; exact z), mo_no_s _ _ _ _ (by decide), Option.bind_some]; rfl
          · obtain ⟨i1, i2, i3, i4, i5, i6, i7, i8, i9, iA⟩ := mx_ref_I hI 7
            have F' := mx_no_fq (k := 7) F (by decide) (by simp)
            exact ⟨mx_I1_fr F' rfl i1, mx_I2_fr F' rfl i2, mx_I3_fr F' rfl i3, mx_I4_fr F' rfl i4, mx_I5_fr F' rfl i5, mx_I6_fr F' rfl i6, mx_I7_fr F' rfl i7, mx_I8_fr F' rfl i8, mx_I9_fr F' (by decide +kernel) i9, mx_IA_fr F' rfl iA⟩
        · have hl160 : L.length ≤ 160 := by omega
          obtain ⟨σ1, w1, w2, -⟩ := pl_writeTo_7_s (n := n) hp2 hs hk hn n0 h120 (d + 144) M 0 0 0 σ L M M1 (by omega) sp (Nat.le_refl _) pv (by rw [a.2.2.2.2.1]; omega) (by omega)
          have k1 : ∀ a, a ≠ 67 + 2 * s → a ≠ p + 3 → σ1 a = σ a := fun a q1 q2 => funext fun x => w2.1 a x q1 q2
          have wt : pl_writeTo (d + 149) p ((66 + 2 * s : Nat) : Int) σ n = some (0, σ1, n) := by
            rw [pl_writeTo_e]
            refine Eq.trans w1 ?_
            rw [pl_writeTo_152_e, if_neg (by decide), if_neg (by decide), mx_w_nat (by omega), show M - 1 + 1 = M by omega, pl_writeTo_7_e, mx_if_t p0, Int.toNat_natCast, k1 p (by omega) (by omega), pv.1, if_neg (by omega)]
          obtain ⟨τ, b1, b2⟩ := spell2 σ1 (fun a _ q1 q2 => k1 a q1 q2)
          have F : mx_Fq [135] [(82, 64)] σ1 τ := mx_fq_tr (mx_fq_wr mx_fq_rf rfl) b2.1
          have t100 : τ 100 s = σ 100 s := by rw [F 100 s (by decide) (by simp), k1 100 (by omega) (by omega)]
          have t99 : τ 99 s = σ 99 s := by rw [F 99 s (by decide) (by simp), k1 99 (by omega) (by omega)]
          have t64 : τ 82 64 = (L.length : Nat) := by rw [b2.2.1, Nat.zero_add]
          obtain ⟨τ', c1, c2, c3, c4⟩ := mo_spell_94_s (n := n) (d + 148) s hs L hl160 L.length 0 τ (by omega) t64 (fun y v hy => by have := b2.2.2.1 y v hy; rw [Nat.zero_add] at this; exact this)
          refine mx_C_of ((L.length : Nat) : Int) σ1 τ' (by rw [go, if_neg z, wt, Option.bind_some]) ?_ ?_
          · show mo_spell (d + 150) s σ1 n = _
            have ref1 : mo_spell (d + 150) s σ1 n = (mo_spells (d + 149) 0 (am_wr σ1 82 64 0) n).bind fun q2 => am_ix 100 s (if q2.2.1 100 s < q2.2.1 82 64 then ((mo_no (d + 149) (-7) q2.2.1 q2.2.2).bind fun q3 => some (q3.1, q3.2.1, q3.2.2)) else mo_spell_94 (d + 149) s 0 q2.2.1 q2.2.2) := by
              rw [mo_spell_e, mo_isShelf_s, Option.bind_some]
              dsimp only
              have e98 : σ1 98 s = σ 98 s := congrFun (k1 98 (by omega) (by omega)) s
              have e82 : σ1 82 8 = σ 82 8 := congrFun (k1 82 (by omega) (by omega)) 8
              rw [mx_bi_p h1, ix_98 S.1 S.2]
              simp only [Int.toNat_natCast]
              rw [if_neg (show ¬ σ1 98 s = 2 by rw [e98]; omega), ix_98 S.1 S.2, if_neg (show ¬ σ1 98 s = 0 by rw [e98]; omega), if_neg (show ¬ σ1 82 8 = 0 by rw [e82]; exact z5), mx_m]
            rw [ref1, b1, Option.bind_some]
            dsimp only
            rw [ix_100 S.1 S.2]
            rw [if_neg (show ¬ τ 100 s < τ 82 64 by rw [t100, t64]; exact z)]
            exact c1
          · have F2 : mx_Fq [102, 135] [(82, 64)] σ1 τ' := mx_fq_tr (mx_fq_up F rfl) (mx_fq_up c2 rfl)
            have kt : ∀ a, a ≠ 102 → a ≠ 135 → a ≠ 82 → τ' a = σ1 a := fun a q1 q2 q3 => funext fun x => F2 a x (by simp only [List.mem_cons, List.not_mem_nil, or_false, not_or]; exact ⟨q1, q2⟩) (by simp only [List.mem_cons, List.not_mem_nil, or_false, Prod.mk.injEq]; omega)
            have k2 : ∀ a, a ≠ 102 → a ≠ 135 → a ≠ 82 → a ≠ 67 + 2 * s → a ≠ p + 3 → τ' a = σ a := fun a q1 q2 q3 q4 q5 => (kt a q1 q2 q3).trans (k1 a q4 q5)
            have G : mx_Fq (mx_CS ++ [61, 65, 135]) [(82, 64)] σ τ' := fun a x q1 q2 => by
              have q3 : a ≠ 67 + 2 * s := fun e => q1 (by
                rw [e]
                exact List.mem_append_left _ (by simpa using mx_CS_2 hs))
              simp only [List.mem_append, mx_CS, List.mem_cons, List.not_mem_nil, or_false, not_or] at q1
              rw [F2 a x (by simp only [List.mem_cons, List.not_mem_nil, or_false, not_or]; omega) q2, w2.1 a x q3 (by omega)]
            have t102 : ∀ z, (z < 160 * s ∨ 160 * s + L.length ≤ z) → τ' 102 z = σ 102 z := fun z hz => by
              rw [c4 z (by omega), F 102 z (by decide) (by simp), k1 102 (by omega) (by omega)]
            have I6 : mx_I6 τ' := mx_I6_one hI hs (by rw [k2 2 (by decide) (by decide) (by decide) (by omega) (by omega)]) (fun s' hs' q => ⟨k2 _ (by omega) (by omega) (by omega) (by omega) (by omega), k2 _ (by omega) (by omega) (by omega) (by omega) (by omega)⟩)
              (fun s' q => ⟨by rw [k2 98 (by decide) (by decide) (by decide) (by omega) (by omega)], by rw [k2 99 (by decide) (by decide) (by decide) (by omega) (by omega)], by rw [k2 100 (by decide) (by decide) (by decide) (by omega) (by omega)], by rw [k2 101 (by decide) (by decide) (by decide) (by omega) (by omega)]⟩)
              (fun j hj => t102 j (by omega)) (by
                unfold mx_I6s
                refine Or.inr (Or.inl ?_)
                rw [k2 98 (by decide) (by decide) (by decide) (by omega) (by omega), k2 99 (by decide) (by decide) (by decide) (by omega) (by omega), k2 100 (by decide) (by decide) (by decide) (by omega) (by omega), k2 (66 + 2 * s) (by omega) (by omega) (by omega) (by omega) (by omega)]
                refine ⟨a.1, a.2.1, a.2.2.1, a.2.2.2.1, a.2.2.2.2.1, a.2.2.2.2.2.1, fun i hi => ?_⟩
                rw [kt (67 + 2 * s) (by omega) (by omega) (by omega)]
                by_cases q : i < L.length
                · have hx : L[i]? = some L[i] := List.getElem?_eq_getElem q
                  have e1 := w2.2.1 i _ hx
                  rw [Nat.zero_add] at e1
                  rw [e1, c3 i _ (Nat.zero_le _) hx, t99, a.2.2.1]
                · rw [w2.2.2 i (by omega), t102 _ (by omega)]
                  exact a.2.2.2.2.2.2 i hi)
            exact mx_Inv_by hI G (h6 := Or.inr I6)
    · refine mx_C_ref hI 2 (-2) ?_ (by rw [ref 2 _ (rfk 2), if_pos a.1])
      rw [pm_spell_e, rr, if_pos (by omega), Option.bind_some]
      dsimp only
      rw [if_neg (by decide), pm_refuse_s _ _ _ _ (by decide), Option.bind_some]; rfl
  · refine mx_C_ref hI 1 (-1) ?_ ?_
    · rw [pm_spell_e, show pm_rowRefusal (d + 149) v1 σ n = _ from pm_rowRefusal_n (d + 147) v1 h1, Option.bind_some]
      dsimp only
      rw [if_neg (by decide), pm_refuse_s _ _ _ _ (by decide), Option.bind_some]; rfl
    · rw [mo_spell_e, mo_isShelf_s, Option.bind_some]
      dsimp only
      rw [mx_bi_n h1, mo_no_s _ _ _ _ (by decide), Option.bind_some]; rfl
end
