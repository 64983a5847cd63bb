section
variable {t n : Nat} {σ : am_M}
/-- read() -/
theorem read_c (hI : mx_Inv t n σ) (ht : t < 1000) (d : Nat) (v1 : Int) : mx_C t n σ (fun σ n => pm_read (d + 150) v1 σ n) (fun σ n => mo_read (d + 150) v1 σ n) := by
  by_cases h1 : 0 ≤ v1 ∧ v1 < 8
  · obtain ⟨s, rfl⟩ : ∃ s : Nat, v1 = s := ⟨v1.toNat, by omega⟩
    have hs : s < 8 := by omega
    have Sb : (0 : Int) ≤ (s : Int) ∧ (s : Int) < 8 := ⟨by omega, by omega⟩
    have h6 := mx_I_6 hI s hs
    have rr : pm_rowRefusal (d + 149) s σ n = _ := pm_rowRefusal_s (d + 147) s hs
    unfold mx_I6s at h6
    rcases h6 with a | a | a
    · refine mx_C_ref hI 3 (-3) ?_ ?_
      · rw [pm_read_e, rr, if_neg (by rw [a.2.2.1]; decide), if_neg (by rw [a.2.1]; decide), Option.bind_some]
        dsimp only
        rw [if_neg (by decide), pm_refuse_s _ _ _ _ (by decide), Option.bind_some]; rfl
      · have e98 : (mx_rf σ 3) 98 s = 0 := by rw [mx_rf_ne (by decide)]; exact a.1
        rw [mo_read_e, mo_isShelf_s, Option.bind_some]
        dsimp only
        rw [mx_bi_p h1, ix_98 Sb.1 Sb.2]
        simp only [Int.toNat_natCast]
        rw [if_neg (show ¬ (mx_rf σ 3) 98 s = 2 by rw [e98]; decide), ix_98 Sb.1 Sb.2, if_pos e98, mo_no_s _ _ _ _ (by decide), Option.bind_some]; rfl
    · obtain ⟨S, hS, hS2⟩ : ∃ S : Nat, σ 100 s = S ∧ S ≤ 160 := ⟨(σ 100 s).toNat, by omega, by omega⟩
      have hg := mx_I_gd hI
      have hb := mx_I_b hI
      have hA := mx_I_A hI
      have hv : 0 ≤ σ 2 17 ∧ σ 2 17 < 1900000000 := ⟨hA.1.1, by have := hA.1.2; omega⟩
      have eS : σ (66 + 2 * s) 1 = S := a.2.2.2.2.1.trans hS
      have r0 : pm_rowRefusal (d + 149) s σ n = some (0, σ, n) := by rw [rr, if_neg (by rw [a.2.2.2.1]; decide), if_pos (by omega)]
      obtain ⟨σ0, hσ0⟩ : ∃ σ0, σ0 = am_wr (am_wr (am_wr (am_wr σ 43 1 ((66 + 2 * s : Nat) : Int)) 43 2 0) 43 3 0) 43 10 0 := ⟨_, rfl⟩
      have c0 : mx_rcs σ σ0 s 0 [] [] := by
        refine ⟨?_, ?_, ?_, ?_, fun i q hq => (by cases hq), fun i w hw => (by cases hw), ?_⟩
        · rw [hσ0, mx_wr_off (by decide), mx_wr_off (by decide), mx_wr_off (by decide), mx_wr_at]
        · rw [hσ0, mx_wr_off (by decide), mx_wr_off (by decide), mx_wr_at]; rfl
        · rw [hσ0, mx_wr_off (by decide), mx_wr_at]; rfl
        · rw [hσ0, mx_wr_at]; rfl
        · rw [hσ0]; exact mx_fq_wr (mx_fq_wr (mx_fq_wr (mx_fq_wr mx_fq_rf rfl) rfl) rfl) rfl
      -- whatever state the reference begins from
      have R : ∀ ρ : am_M, (∀ a x, 82 ≤ a → a ≠ 83 → ρ a x = σ a x) → _ := fun ρ hρ => mo_read_p (n := n) hI hs hS2 a.1 hS a.2.2.2.2.2.2 d hρ
      have J : ∀ τ2 : am_M, mx_jr σ τ2 τ2 (mx_tx (σ (67 + 2 * s)) S) S 0 [] → _ := fun τ2 h => read_top (n := n) hg hs eS hS2 hv (by have := h.2.2.1.2.1; exact this) (d + 140) (d + 149) (by omega) c0 h
      have one : ∀ v : Nat, am_fin 1 v = ((66 + 2 * v : Nat) : Int) := fun _ => rfl
      have ix1 : ∀ x : Option am_R, am_ix 1 (s : Int) x = x := fun x => ix_1 Sb.1 Sb.2
      have fi : re_faultIn (d + 149) ((66 + 2 * s : Nat) : Int) σ n = re_faultIn_22 (d + 140 + 8) 0 σ0 n := by
        rw [re_faultIn_e, mx_m, mx_m, mx_m, mx_m, ← hσ0]
      have go : pm_read (d + 150) s σ n = (re_faultIn_22 (d + 140 + 8) 0 σ0 n).bind fun q2 => am_m (am_wr q2.2.1 0 12 q2.1) fun σ1 => if σ1 0 12 = (-1) then ((re_tellAll (d + 149) σ1 q2.2.2).bind fun q3 => if q3.1 = (-1) then ((pm_refuse (d + 149) 7 q3.2.1 q3.2.2).bind fun q4 => some (q4.1, q4.2.1, q4.2.2)) else some (q3.1, q3.2.1, q3.2.2)) else (pm_refuse (d + 149) 6 σ1 q2.2.2).bind fun q5 => some (q5.1, q5.2.1, q5.2.2) := by
        rw [pm_read_e, r0, Option.bind_some]
        dsimp only
        rw [if_pos rfl, ix1]
        simp only [Int.toNat_natCast, one]
        rw [fi]
      -- the reference takes back
      have back : ∀ (τ3 : am_M) (z : Int), (τ3 82 6 ≠ -1 → mo_read_162 (d + 149) (σ 2 3) (σ 2 9) τ3 n = some (-6, mx_no (am_wr (am_wr τ3 82 1 (σ 2 3)) 82 2 (σ 2 9)) 6, n)) ∧ (τ3 82 6 = -1 → mo_read_162 (d + 149) (σ 2 3) (σ 2 9) τ3 n = some (-7, mx_no (am_wr (am_wr τ3 82 1 (σ 2 3)) 82 2 (σ 2 9)) 7, n)) := fun τ3 z => by
        have e6 : am_wr (am_wr τ3 82 1 (σ 2 3)) 82 2 (σ 2 9) 82 6 = τ3 82 6 := by rw [mx_wr_off (by decide), mx_wr_off (by decide)]
        refine ⟨fun q => ?_, fun q => ?_⟩
        · rw [mo_read_162_e, mx_m, mx_m, if_neg (by rw [e6]; exact q), mo_no_s _ _ _ _ (by decide), Option.bind_some]; rfl
        · rw [mo_read_162_e, mx_m, mx_m, if_pos (by rw [e6]; exact q), mo_no_s _ _ _ _ (by decide), Option.bind_some]; rfl
      obtain ⟨τa, -, -, ja⟩ := R σ (fun _ _ _ _ => rfl)
      rcases J τa ja with ⟨f, σc, τ', L, g, x1, x2, -, -, -, -, -, -⟩ | ⟨σc, τ', L, g, x1, x2, -, -, -, y1, -, y3, y4, y5, -⟩
      · -- a fault
        obtain ⟨σ1, hσ1⟩ : ∃ σ1, σ1 = am_wr σc 0 12 (f : Nat) := ⟨_, rfl⟩
        have cls : pm_read (d + 150) s σ n = some (-6, mx_rf σ1 6, n) := by
          have n12 : ¬ σ1 0 12 = -1 := by rw [hσ1, mx_wr_at]; omega
          rw [go, x1, Option.bind_some, mx_m]
          dsimp only
          rw [← hσ1, if_neg n12, pm_refuse_s _ _ _ _ (by decide), Option.bind_some]; rfl
        have F1 : mx_Fq (57 :: mx_CR) ((0, 12) :: mx_Prr) σ (mx_rf σ1 6) := by
          unfold mx_rf
          rw [hσ1]
          exact mx_fq_wr (mx_fq_wr (mx_fq_up x2 rfl) rfl) rfl
        obtain ⟨τ2, u1, u2, u3⟩ := R (mx_rf σ1 6) (fun a x q q' => F1 a x (by simp only [List.mem_cons, List.not_mem_nil, or_false, not_or]; omega) (by simp only [List.mem_cons, List.not_mem_nil, or_false, Prod.mk.injEq]; omega))
        have key : ∃ (τ4 : am_M) (L : List mx_pt), mo_read (d + 150) s (mx_rf σ1 6) n = some (-6, mx_no (am_wr (am_wr τ4 82 1 (σ 2 3)) 82 2 (σ 2 9)) 6, n) ∧ τ4 82 6 = (f : Nat) ∧ mx_vj σ L (mx_tal σ L) ∧ mx_rl (mx_tal σ L).1 τ4 ∧ mx_Fq mx_CT mx_PT τ2 τ4 := by
          rcases J τ2 u3 with ⟨f2, σc2, τ4, L2, g2, z1, -, z3, z4, z5, z6, -, z8⟩ | ⟨σc2, τ4, L2, g2, z1, -⟩
          · rw [x1] at z1
            have ff : f2 = f := by
              cases z1
              rfl
            subst ff
            rcases z4 with q | ⟨q, q1, q2⟩
            · refine ⟨τ4, L2, ?_, q, z5, z6, z8⟩
              have nf : τ4 82 6 ≠ -1 := by rw [q]; omega
              rw [u1, z3]
              unfold mx_rtl
              rw [Option.bind_some]
              dsimp only
              rw [if_neg nf, mo_read_145_e, if_neg nf]
              exact (back τ4 0).1 nf
            · have e69 : τ4 82 69 = S := by rw [z8 82 69 (by decide) (by decide)]; exact u3.1.1
              refine ⟨am_wr τ4 82 6 (f2 : Nat), L2, ?_, mx_wr_at, z5, mx_rl_82 z6 (by decide), mx_fq_wr z8 rfl⟩
              have nf : am_wr τ4 82 6 (f2 : Nat) 82 6 ≠ -1 := by rw [mx_wr_at]; omega
              have lt : τ4 82 70 < τ4 82 69 := by rw [q1, e69]; omega
              rw [u1, z3]
              unfold mx_rtl
              rw [Option.bind_some]
              dsimp only
              rw [if_pos q, if_pos lt, mx_m, q1, mo_read_145_e, if_neg nf]
              exact (back _ 0).1 nf
          · rw [x1] at z1
            cases z1
        obtain ⟨τ4, L4, k1, k2, k3, k4, k5⟩ := key
        obtain ⟨τf, hτf⟩ : ∃ τf, τf = mx_no (am_wr (am_wr τ4 82 1 (σ 2 3)) 82 2 (σ 2 9)) 6 := ⟨_, rfl⟩
        rw [← hτf] at k1
        have Fr : mx_Fq (136 :: mx_CT) ((82, 69) :: mx_PT) (mx_rf σ1 6) τ4 := mx_fq_tr (mx_fq_up u2 rfl) (mx_fq_up k5 rfl)
        have G : mx_Fq (57 :: 83 :: 136 :: (mx_CR ++ mx_CT)) ((0, 12) :: (82, 69) :: (mx_Prr ++ mx_PT)) σ τf := by
          rw [hτf]
          unfold mx_no
          exact mx_fq_wr (mx_fq_wr (mx_fq_wr (mx_fq_tr (mx_fq_up F1 rfl) (mx_fq_up Fr rfl)) rfl) rfl) rfl
        have kf : ∀ i, i ≠ 82 → i ≠ 83 → τf i = τ4 i := fun i q q' => by
          rw [hτf]
          unfold mx_no
          rw [mx_wr_ne q', mx_wr_ne q, mx_wr_ne q]
        have rl : mx_rl σ τf := mx_back_rl hg k3 k4 (fun i j q q' => by rw [kf i (by omega) (by omega)]) (by rw [hτf]; unfold mx_no; rw [mx_wr_ne (by decide), mx_wr_off (by decide), mx_wr_off (by decide)]) (by rw [hτf]; unfold mx_no; rw [mx_wr_ne (by decide), mx_wr_off (by decide), mx_wr_at]) (by rw [hτf]; unfold mx_no; rw [mx_wr_ne (by decide), mx_wr_at])
        have gc : ∀ i j, 2 ≤ i → i ≤ 14 → τf i j = σ i j := fun i j q q' => G i j (by simp only [List.mem_cons, List.mem_append, List.not_mem_nil, or_false, not_or]; omega) (by simp only [List.mem_cons, List.mem_append, List.not_mem_nil, or_false, Prod.mk.injEq]; omega)
        refine mx_C_of (-6) (mx_rf σ1 6) τf cls k1 (mx_Inv_by hI G (h1 := Or.inr (mx_I1_of hg rl gc)) (h4 := Or.inr ?_) (h5 := Or.inr ?_))
        · unfold mx_I4
          rw [kf 0 (by decide) (by decide), Fr 0 12 (by decide) (by decide), mx_rf_ne (by decide), hσ1, mx_wr_at, hτf]
          unfold mx_no
          rw [mx_wr_ne (by decide), mx_wr_off (by decide), mx_wr_off (by decide)]
          exact k2
        · refine mx_I5_ref (σ1 := σ1) (k := 6) (mx_I_5 hI) (fun j => by rw [kf 57 (by decide) (by decide)]; exact Fr 57 j (by decide) (by simp)) ?_ (fun j => ?_)
          · rw [hσ1, mx_wr_ne (by decide)]
            exact funext fun j => x2 57 j (by decide) (by simp)
          · rw [hτf]
            unfold mx_no
            have e83 : ∀ j, am_wr (am_wr τ4 82 1 (σ 2 3)) 82 2 (σ 2 9) 83 j = σ 83 j := fun j => by
              rw [mx_wr_ne (by decide), mx_wr_ne (by decide), Fr 83 j (by decide) (by simp), F1 83 j (by decide) (by simp)]
            rw [mx_wr_if, mx_wr_if, e83, e83]
      · sorry
    · refine mx_C_ref hI 2 (-2) ?_ ?_
      · rw [pm_read_e, rr, if_pos (by omega), Option.bind_some]
        dsimp only
        rw [if_neg (by decide), pm_refuse_s _ _ _ _ (by decide), Option.bind_some]; rfl
      · have e98 : (mx_rf σ 2) 98 s = 2 := by rw [mx_rf_ne (by decide)]; exact a.1
        rw [mo_read_e, mo_isShelf_s, Option.bind_some]
        dsimp only
        rw [mx_bi_p h1, ix_98 Sb.1 Sb.2]
        simp only [Int.toNat_natCast]
        rw [if_pos e98, mo_no_s _ _ _ _ (by decide), Option.bind_some]; rfl
  · refine mx_C_ref hI 1 (-1) ?_ ?_
    · rw [pm_read_e, show pm_rowRefusal (d + 149) v1 σ n = _ from pm_rowRefusal_n (d + 147) v1 h1, Option.bind_some]
      dsimp only
      rw [if_neg (by decide), pm_refuse_s _ _ _ _ (by decide), Option.bind_some]; rfl
    · rw [mo_read_e, mo_isShelf_s, Option.bind_some]
      dsimp only
      rw [mx_bi_n h1, mo_no_s _ _ _ _ (by decide), Option.bind_some]; rfl
end
