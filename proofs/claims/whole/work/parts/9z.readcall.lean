section
variable {t n : Nat} {σ : am_M}
abbrev mx_CF : List Nat := 136 :: (mx_C2 ++ mx_CR ++ mx_CT)
abbrev mx_PF : List (Nat × Nat) := (0, 12) :: (82, 69) :: (mx_Prr ++ mx_PT)
abbrev mx_CG : List Nat := 49 :: 136 :: (mx_CR ++ mx_CT)
theorem mx_rd_sub : (∀ x ∈ mx_CF, x ∈ mx_CM ∨ (2 ≤ x ∧ x ≤ 12)) ∧ (∀ x ∈ mx_PF, x ∈ mx_PM ∨ x.1 = 43) ∧ (∀ x ∈ ([5, 6, 7, 8, 9, 10, 11, 12] : List Nat), x ∈ mx_CM) ∧ (∀ x ∈ ([(2, 3), (2, 9), (2, 17)] : List (Nat × Nat)), x ∈ mx_PM) ∧ (∀ x ∈ mx_CF, x ∈ mx_CG ∨ (2 ≤ x ∧ x ≤ 12)) ∧ 43 ∈ mx_CM := by decide
theorem mx_rd_out : ∀ i, i = 13 ∨ i = 14 → i ∉ mx_CF ∧ i ∉ mx_CG ∧ i ∉ ([5, 6, 7, 8, 9, 10, 11, 12] : List Nat) ∧ (∀ x ∈ mx_PF, x.1 ≠ i) ∧ ∀ x ∈ ([(2, 3), (2, 9), (2, 17)] : List (Nat × Nat)), x.1 ≠ i := by
  rintro i (rfl | rfl) <;> decide
/-- what was told stands on both sides -/
theorem mx_rd_told (hI : mx_Inv t n σ) {L : List mx_pt} (y1 : mx_vj σ L (mx_tal σ L)) (y4 : L.length ≤ 27) {τ4 : am_M} (kc : ∀ c, 2 ≤ c → c ≤ 12 → τ4 c = (mx_tal σ L).1 c) (F3 : mx_Fq mx_CF mx_PF σ τ4) (w4 : mx_rl (mx_tal σ L).1 τ4) (i4 : mx_I4 τ4) (t3 : (mx_tal σ L).1 2 3 ≤ 64) : mx_Inv (t + 1) n τ4 := by
  have hg := mx_I_gd hI
  have hA := mx_I_A hI
  have FV : mx_Fq [5, 6, 7, 8, 9, 10, 11, 12] [(2, 3), (2, 9), (2, 17)] σ (mx_tal σ L).1 := y1.2.2.2.2.2.2.2.2.1
  obtain ⟨s1, s2, s3, s4, s5, s6⟩ := mx_rd_sub
  by_cases hv17 : (mx_tal σ L).1 2 17 = σ 2 17
  · have Ve : (mx_tal σ L).1 = σ := y1.2.2.2.2.2.2.2.2.2.2.1 hv17
    rw [Ve] at kc w4
    have G : mx_Fq mx_CG mx_PF σ τ4 := fun i j q q' => by
      by_cases z : 2 ≤ i ∧ i ≤ 12
      · rw [kc i z.1 z.2]
      · exact F3 i j (fun h => (s5 i h).elim q z) q'
    exact mx_Inv_by hI G (h1 := Or.inr (mx_I1_of hg w4 (fun i j q q' => by
      by_cases z : i ≤ 12
      · rw [kc i q z]
      · obtain ⟨-, o2, -, o4, -⟩ := mx_rd_out i (by omega)
        exact G i j o2 (fun h => o4 _ h rfl)))) (h4 := Or.inr i4)
  · have v17 := y1.2.2.2.2.2.2.2.2.2.1
    have gdV := y1.2.2.2.2.2.2.2.2.2.2.2.1 t3
    have fsV := y1.2.2.2.2.2.2.2.2.2.2.2.2.1
    have c3 := y1.2.1
    have hi2 := mx_I_2 hI
    have hi3 := mx_I_3 hI
    have G : mx_Fq mx_CM mx_PM σ τ4 := fun i j q q' => by
      by_cases z : 2 ≤ i ∧ i ≤ 12
      · rw [kc i z.1 z.2]
        exact FV i j (fun h => q (s3 i h)) (fun h => q' (s4 _ h))
      · exact F3 i j (fun h => (s1 i h).elim q z) (fun h => (s2 _ h).elim q' (fun e => q (by rw [show i = 43 from e]; exact s6)))
    have gc : ∀ i j, 2 ≤ i → i ≤ 14 → τ4 i j = (mx_tal σ L).1 i j := fun i j q q' => by
      by_cases z : i ≤ 12
      · rw [kc i q z]
      · obtain ⟨o1, -, o3, o4, o5⟩ := mx_rd_out i (by omega)
        rw [F3 i j o1 (fun h => o4 _ h rfl), FV i j o3 (fun h => o5 _ h rfl)]
    have V13 : (mx_tal σ L).1 13 = σ 13 := funext fun j => FV 13 j (by decide) (by simp)
    have V14 : (mx_tal σ L).1 14 = σ 14 := funext fun j => FV 14 j (by decide) (by simp)
    have k96 : τ4 96 = σ 96 := funext fun j => F3 96 j (by decide) (by simp)
    have k97 : τ4 97 = σ 97 := funext fun j => F3 97 j (by decide) (by simp)
    have e217 : τ4 2 17 = (mx_tal σ L).1 2 17 := by rw [kc 2 (by decide) (by decide)]
    have hA1 := hA.1
    refine mx_Inv_memo hI G (mx_I1_of gdV w4 gc) (mx_I2_of (μ := (mx_tal σ L).1) ?_ ?_ ?_ gc) ?_ i4 ?_ ?_ ?_
    · rw [V13, k96]; exact fsV _ _ hi2.1
    · rw [V14, k97]; exact hi2.2.1
    · rw [V14, F3 82 3 (by decide) (by decide)]; exact hi2.2.2
    · unfold mx_I3
      rw [F3 82 4 (by decide) (by decide), F3 82 5 (by decide) (by decide), kc 2 (by decide) (by decide), FV 2 15 (by decide) (by decide), FV 2 16 (by decide) (by decide)]
      exact hi3
    · rw [kc 2 (by decide) (by decide)]; exact c3.1
    · rw [e217]; omega
    · rw [e217]; omega
abbrev mx_CH : List Nat := 5 :: 6 :: 7 :: 8 :: 9 :: 10 :: 11 :: 12 :: 49 :: 57 :: 83 :: 136 :: (mx_CR ++ mx_CT)
abbrev mx_PH : List (Nat × Nat) := (2, 17) :: (0, 12) :: (82, 6) :: (82, 69) :: (82, 70) :: mx_Prr
/-- what was told is taken back on both sides -/
theorem mx_rd_back (hI : mx_Inv t n σ) (ht : t < 1000) {L B R' : List mx_pt} (y1 : mx_vj σ L (mx_tal σ L)) (y4 : L.length ≤ 27) (hB : L = B ++ R') {τ4 τf σ2 : am_M} (G0 : mx_Fq (57 :: 83 :: mx_CF) ((82, 1) :: (82, 2) :: mx_PF) σ τf) (w4 : mx_rl (mx_tal σ L).1 τ4) (i4 : mx_I4 τf) (i5 : mx_I5 τf)
    (kr : ∀ i, 84 ≤ i → i ≤ 95 → τf i = τ4 i) (k0 : τf 82 0 = τ4 82 0) (k1 : τf 82 1 = σ 2 3) (k2 : τf 82 2 = σ 2 9)
    (e3 : τf 2 3 = σ 2 3) (e9 : τf 2 9 = σ 2 9) (e17 : τf 2 17 = am_w ((mx_tal σ B).1 2 17 + 1)) (e2 : ∀ j, j ≠ 3 → j ≠ 9 → j ≠ 17 → τf 2 j = (mx_tal σ B).1 2 j) (ec : ∀ c, 3 ≤ c → c ≤ 12 → τf c = (mx_tal σ B).1 c) : mx_Inv (t + 1) n τf := by
  have hg := mx_I_gd hI
  have hA := mx_I_A hI
  have hb := mx_I_b hI
  have hA1 := hA.1
  have okl : mx_okl σ L := y1.2.2.2.2.2.2.2.2.2.2.2.2.2
  have lB : B.length ≤ 27 := by have := congrArg List.length hB; rw [List.length_append] at this; omega
  have vB := mx_vj_pre hg okl (by omega) ⟨hA1.1, by omega⟩ B R' hB
  have FV : mx_Fq [5, 6, 7, 8, 9, 10, 11, 12] [(2, 3), (2, 9), (2, 17)] σ (mx_tal σ B).1 := vB.2.2.2.2.2.2.2.2.1
  have v17 := vB.2.2.2.2.2.2.2.2.2.1
  have ae := vB.2.2.2.2.2.1
  have ag := vB.2.2.2.2.2.2.1
  have e17' : τf 2 17 = (mx_tal σ B).1 2 17 + 1 := by rw [e17]; exact mx_w_id (by omega) (by omega)
  clear e17
  have f20 : τf 2 0 = σ 2 0 := by rw [e2 0 (by decide) (by decide) (by decide)]; exact FV 2 0 (by decide) (by decide)
  have f3 : τf 3 = σ 3 := by rw [ec 3 (by decide) (by decide)]; exact funext fun j => FV 3 j (by decide) (by simp)
  have f4 : τf 4 = σ 4 := by rw [ec 4 (by decide) (by decide)]; exact funext fun j => FV 4 j (by decide) (by simp)
  obtain ⟨gd, fs, rlc⟩ := mx_back_gd hg (σf := τf) ⟨f20, e3, e9⟩ f3 f4 (fun e he => by rw [ec 5 (by decide) (by decide), ec 6 (by decide) (by decide), ec 7 (by decide) (by decide), ec 8 (by decide) (by decide), ec 9 (by decide) (by decide)]; exact ae e he) (fun i hi => by rw [ec 10 (by decide) (by decide), ec 11 (by decide) (by decide), ec 12 (by decide) (by decide)]; exact ag i hi)
  have rl : mx_rl σ τf := mx_back_rl hg y1 w4 (fun i j a b => by rw [kr i a b]) k0 k1 k2
  have sub : (∀ x ∈ (57 :: 83 :: mx_CF), x ∈ mx_CH ∨ (2 ≤ x ∧ x ≤ 4)) ∧ (∀ x ∈ ((82, 1) :: (82, 2) :: mx_PF), x ∈ mx_PH ∨ x = (82, 1) ∨ x = (82, 2)) := by decide
  have G : mx_Fq mx_CH mx_PH σ τf := fun i j q q' => by
    by_cases z2 : i = 2
    · subst z2
      by_cases j3 : j = 3
      · rw [j3, e3]
      · by_cases j9 : j = 9
        · rw [j9, e9]
        · have j17 : j ≠ 17 := fun z => q' (by rw [z]; decide)
          rw [e2 j j3 j9 j17]
          exact FV 2 j (by decide) (by simp only [List.mem_cons, List.not_mem_nil, or_false, Prod.mk.injEq]; omega)
    · by_cases z3 : i = 3
      · rw [z3, f3]
      · by_cases z4 : i = 4
        · rw [z4, f4]
        · by_cases w1 : (i, j) = (82, 1)
          · injection w1 with w1 w1'
            rw [w1, w1', k1, hb.2.2.1]
          · by_cases w2 : (i, j) = (82, 2)
            · injection w2 with w2 w2'
              rw [w2, w2', k2, hb.2.2.2]
            · exact G0 i j (fun h => (sub.1 i h).elim q (fun e => by omega)) (fun h => by
                rcases sub.2 _ h with e | e | e
                · exact q' e
                · exact w1 e
                · exact w2 e)
  have hi2 := mx_I_2 hI
  have k13 : τf 13 = σ 13 := funext fun j => G 13 j (by decide) (by simp)
  have k14 : τf 14 = σ 14 := funext fun j => G 14 j (by decide) (by simp)
  have k96 : τf 96 = σ 96 := funext fun j => G 96 j (by decide) (by simp)
  have k97 : τf 97 = σ 97 := funext fun j => G 97 j (by decide) (by simp)
  exact mx_Inv_by hI G (h1 := Or.inr (mx_I1_of gd (rlc _ rl) (fun _ _ _ _ => rfl))) (h2 := Or.inr (mx_I2_of (μ := τf) (by rw [k13, k96]; exact fs _ _ hi2.1) (by rw [k14, k97]; exact hi2.2.1) (by rw [k14, G 82 3 (by decide) (by decide)]; exact hi2.2.2) (fun _ _ _ _ => rfl))) (h4 := Or.inr i4) (h5 := Or.inr i5) (hA := Or.inr (mx_IA_new hA (by omega) (by omega) (G 29 4 (by decide) (by decide)) (G 33 6 (by decide) (by decide)) (G 29 2 (by decide) (by decide)) (G 29 3 (by decide) (by decide))))
/-- read() -/
theorem read_c (hI : mx_Inv t n σ) (ht : t < 1000) (d : Nat) (v1 : Int) : mx_C t n σ (fun σ n => pm_read (d + 150) v1 σ n) (fun σ n => mo_read (d + 150) v1 σ n) := by
  by_cases h1 : 0 ≤ v1 ∧ v1 < 8
  · obtain ⟨s, rfl⟩ : ∃ s : Nat, v1 = s := ⟨v1.toNat, by omega⟩
    have hs : s < 8 := by omega
    have Sb : (0 : Int) ≤ (s : Int) ∧ (s : Int) < 8 := ⟨by omega, by omega⟩
    have h6 := mx_I_6 hI s hs
    have rr : pm_rowRefusal (d + 149) s σ n = _ := pm_rowRefusal_s (d + 147) s hs
    unfold mx_I6s at h6
    rcases h6 with a | a | a
    · refine mx_C_ref hI 3 (-3) ?_ ?_
      · rw [pm_read_e, rr, if_neg (by rw [a.2.2.1]; decide), if_neg (by rw [a.2.1]; decide), Option.bind_some]
        dsimp only
        rw [if_neg (by decide), pm_refuse_s _ _ _ _ (by decide), Option.bind_some]; rfl
      · have e98 : (mx_rf σ 3) 98 s = 0 := by rw [mx_rf_ne (by decide)]; exact a.1
        rw [mo_read_e, mo_isShelf_s, Option.bind_some]
        dsimp only
        rw [mx_bi_p h1, ix_98 Sb.1 Sb.2]
        simp only [Int.toNat_natCast]
        rw [if_neg (show ¬ (mx_rf σ 3) 98 s = 2 by rw [e98]; decide), ix_98 Sb.1 Sb.2, if_pos e98, mo_no_s _ _ _ _ (by decide), Option.bind_some]; rfl
    · obtain ⟨S, hS, hS2⟩ : ∃ S : Nat, σ 100 s = S ∧ S ≤ 160 := ⟨(σ 100 s).toNat, by omega, by omega⟩
      have hg := mx_I_gd hI
      have hb := mx_I_b hI
      have hA := mx_I_A hI
      have hv : 0 ≤ σ 2 17 ∧ σ 2 17 < 1900000000 := ⟨hA.1.1, by have := hA.1.2; omega⟩
      have eS : σ (66 + 2 * s) 1 = S := a.2.2.2.2.1.trans hS
      have r0 : pm_rowRefusal (d + 149) s σ n = some (0, σ, n) := by rw [rr, if_neg (by rw [a.2.2.2.1]; decide), if_pos (by omega)]
      obtain ⟨σ0, hσ0⟩ : ∃ σ0, σ0 = am_wr (am_wr (am_wr (am_wr σ 43 1 ((66 + 2 * s : Nat) : Int)) 43 2 0) 43 3 0) 43 10 0 := ⟨_, rfl⟩
      have c0 : mx_rcs σ σ0 s 0 [] [] := by
        refine ⟨?_, ?_, ?_, ?_, fun i q hq => (by cases hq), fun i w hw => (by cases hw), ?_⟩
        · rw [hσ0, mx_wr_off (by decide), mx_wr_off (by decide), mx_wr_off (by decide), mx_wr_at]
        · rw [hσ0, mx_wr_off (by decide), mx_wr_off (by decide), mx_wr_at]; rfl
        · rw [hσ0, mx_wr_off (by decide), mx_wr_at]; rfl
        · rw [hσ0, mx_wr_at]; rfl
        · rw [hσ0]; exact mx_fq_wr (mx_fq_wr (mx_fq_wr (mx_fq_wr mx_fq_rf rfl) rfl) rfl) rfl
      -- whatever state the reference begins from
      have R : ∀ ρ : am_M, (∀ a x, 82 ≤ a → a ≠ 83 → ρ a x = σ a x) → _ := fun ρ hρ => mo_read_p (n := n) hI hs hS2 a.1 hS a.2.2.2.2.2.2 d hρ
      have J : ∀ τ2 : am_M, mx_jr σ τ2 τ2 (mx_tx (σ (67 + 2 * s)) S) S 0 [] → _ := fun τ2 h => read_top (n := n) hg hs eS hS2 hv (by have := h.2.2.1.2.1; exact this) (d + 140) (d + 149) (by omega) c0 h
      have one : ∀ v : Nat, am_fin 1 v = ((66 + 2 * v : Nat) : Int) := fun _ => rfl
      have ix1 : ∀ x : Option am_R, am_ix 1 (s : Int) x = x := fun x => ix_1 Sb.1 Sb.2
      have fi : re_faultIn (d + 149) ((66 + 2 * s : Nat) : Int) σ n = re_faultIn_22 (d + 140 + 8) ((66 + 2 * s : Nat) : Int) 0 σ0 n := by
        rw [re_faultIn_e, mx_m, mx_m, mx_m, mx_m, ← hσ0]
      have go : pm_read (d + 150) s σ n = (re_faultIn_22 (d + 140 + 8) ((66 + 2 * s : Nat) : Int) 0 σ0 n).bind fun q2 => am_m (am_wr q2.2.1 0 12 q2.1) fun σ1 => if σ1 0 12 = (-1) then ((re_tellAll (d + 149) σ1 q2.2.2).bind fun q3 => if q3.1 = (-1) then ((pm_refuse (d + 149) 7 q3.2.1 q3.2.2).bind fun q4 => some (q4.1, q4.2.1, q4.2.2)) else some (q3.1, q3.2.1, q3.2.2)) else (pm_refuse (d + 149) 6 σ1 q2.2.2).bind fun q5 => some (q5.1, q5.2.1, q5.2.2) := by
        rw [pm_read_e, r0, Option.bind_some]
        dsimp only
        rw [if_pos rfl, ix1]
        simp only [Int.toNat_natCast, one]
        rw [fi]
      -- the reference takes back
      have back : ∀ (τ3 : am_M) (z : Int), (τ3 82 6 ≠ -1 → mo_read_162 (d + 149) (σ 2 3) (σ 2 9) τ3 n = some (-6, mx_no (am_wr (am_wr τ3 82 1 (σ 2 3)) 82 2 (σ 2 9)) 6, n)) ∧ (τ3 82 6 = -1 → mo_read_162 (d + 149) (σ 2 3) (σ 2 9) τ3 n = some (-7, mx_no (am_wr (am_wr τ3 82 1 (σ 2 3)) 82 2 (σ 2 9)) 7, n)) := fun τ3 z => by
        have e6 : am_wr (am_wr τ3 82 1 (σ 2 3)) 82 2 (σ 2 9) 82 6 = τ3 82 6 := by rw [mx_wr_off (by decide), mx_wr_off (by decide)]
        refine ⟨fun q => ?_, fun q => ?_⟩
        · rw [mo_read_162_e, mx_m, mx_m, if_neg (by rw [e6]; exact q), mo_no_s _ _ _ _ (by decide), Option.bind_some]; rfl
        · rw [mo_read_162_e, mx_m, mx_m, if_pos (by rw [e6]; exact q), mo_no_s _ _ _ _ (by decide), Option.bind_some]; rfl
      obtain ⟨τa, -, -, ja⟩ := R σ (fun _ _ _ _ => rfl)
      rcases J τa ja with ⟨f, σc, τ', L, g, x1, x2, -, -, -, -, -, -⟩ | ⟨σc, τ', L, g, x1, x2, -, -, -, y1, -, y3, y4, y5, -⟩
      · -- a fault
        obtain ⟨σ1, hσ1⟩ : ∃ σ1, σ1 = am_wr σc 0 12 (f : Nat) := ⟨_, rfl⟩
        have cls : pm_read (d + 150) s σ n = some (-6, mx_rf σ1 6, n) := by
          have n12 : ¬ σ1 0 12 = -1 := by rw [hσ1, mx_wr_at]; omega
          rw [go, x1, Option.bind_some, mx_m]
          dsimp only
          rw [← hσ1, if_neg n12, pm_refuse_s _ _ _ _ (by decide), Option.bind_some]; rfl
        have F1 : mx_Fq (57 :: mx_CR) ((0, 12) :: mx_Prr) σ (mx_rf σ1 6) := by
          unfold mx_rf
          rw [hσ1]
          exact mx_fq_wr (mx_fq_wr (mx_fq_up x2 rfl) rfl) rfl
        obtain ⟨τ2, u1, u2, u3⟩ := R (mx_rf σ1 6) (fun a x q q' => F1 a x (by simp only [List.mem_cons, List.not_mem_nil, or_false, not_or]; omega) (by simp only [List.mem_cons, List.not_mem_nil, or_false, Prod.mk.injEq]; omega))
        have key : ∃ (τ4 : am_M) (L : List mx_pt), mo_read (d + 150) s (mx_rf σ1 6) n = some (-6, mx_no (am_wr (am_wr τ4 82 1 (σ 2 3)) 82 2 (σ 2 9)) 6, n) ∧ τ4 82 6 = (f : Nat) ∧ mx_vj σ L (mx_tal σ L) ∧ mx_rl (mx_tal σ L).1 τ4 ∧ mx_Fq mx_CT mx_PT τ2 τ4 := by
          rcases J τ2 u3 with ⟨f2, σc2, τ4, L2, g2, z1, -, z3, z4, z5, z6, -, z8⟩ | ⟨σc2, τ4, L2, g2, z1, -⟩
          · rw [x1] at z1
            have ff : f2 = f := by
              cases z1
              rfl
            subst ff
            rcases z4 with q | ⟨q, q1, q2⟩
            · refine ⟨τ4, L2, ?_, q, z5, z6, z8⟩
              have nf : τ4 82 6 ≠ -1 := by rw [q]; omega
              rw [u1, z3]
              unfold mx_rtl
              rw [Option.bind_some]
              dsimp only
              rw [if_neg nf, mo_read_145_e, if_neg nf]
              exact (back τ4 0).1 nf
            · have e69 : τ4 82 69 = S := by rw [z8 82 69 (by decide) (by decide)]; exact u3.1.1
              refine ⟨am_wr τ4 82 6 (f2 : Nat), L2, ?_, mx_wr_at, z5, mx_rl_82 z6 (by decide), mx_fq_wr z8 rfl⟩
              have nf : am_wr τ4 82 6 (f2 : Nat) 82 6 ≠ -1 := by rw [mx_wr_at]; omega
              have lt : τ4 82 70 < τ4 82 69 := by rw [q1, e69]; omega
              rw [u1, z3]
              unfold mx_rtl
              rw [Option.bind_some]
              dsimp only
              rw [if_pos q, if_pos lt, mx_m, q1, mo_read_145_e, if_neg nf]
              exact (back _ 0).1 nf
          · rw [x1] at z1
            cases z1
        obtain ⟨τ4, L4, k1, k2, k3, k4, k5⟩ := key
        obtain ⟨τf, hτf⟩ : ∃ τf, τf = mx_no (am_wr (am_wr τ4 82 1 (σ 2 3)) 82 2 (σ 2 9)) 6 := ⟨_, rfl⟩
        rw [← hτf] at k1
        have Fr : mx_Fq (136 :: mx_CT) ((82, 69) :: mx_PT) (mx_rf σ1 6) τ4 := mx_fq_tr (mx_fq_up u2 rfl) (mx_fq_up k5 rfl)
        have G : mx_Fq (57 :: 83 :: 136 :: (mx_CR ++ mx_CT)) ((0, 12) :: (82, 69) :: (mx_Prr ++ mx_PT)) σ τf := by
          rw [hτf]
          unfold mx_no
          exact mx_fq_wr (mx_fq_wr (mx_fq_wr (mx_fq_tr (mx_fq_up F1 rfl) (mx_fq_up Fr rfl)) rfl) rfl) rfl
        have kf : ∀ i, i ≠ 82 → i ≠ 83 → τf i = τ4 i := fun i q q' => by
          rw [hτf]
          unfold mx_no
          rw [mx_wr_ne q', mx_wr_ne q, mx_wr_ne q]
        have rl : mx_rl σ τf := mx_back_rl hg k3 k4 (fun i j q q' => by rw [kf i (by omega) (by omega)]) (by rw [hτf]; unfold mx_no; rw [mx_wr_ne (by decide), mx_wr_off (by decide), mx_wr_off (by decide)]) (by rw [hτf]; unfold mx_no; rw [mx_wr_ne (by decide), mx_wr_off (by decide), mx_wr_at]) (by rw [hτf]; unfold mx_no; rw [mx_wr_ne (by decide), mx_wr_at])
        have gc : ∀ i j, 2 ≤ i → i ≤ 14 → τf i j = σ i j := fun i j q q' => G i j (by simp only [List.mem_cons, List.mem_append, List.not_mem_nil, or_false, not_or]; omega) (by simp only [List.mem_cons, List.mem_append, List.not_mem_nil, or_false, Prod.mk.injEq]; omega)
        refine mx_C_of (-6) (mx_rf σ1 6) τf cls k1 (mx_Inv_by hI G (h1 := Or.inr (mx_I1_of hg rl gc)) (h4 := Or.inr ?_) (h5 := Or.inr ?_))
        · unfold mx_I4
          rw [kf 0 (by decide) (by decide), Fr 0 12 (by decide) (by decide), mx_rf_ne (by decide), hσ1, mx_wr_at, hτf]
          unfold mx_no
          rw [mx_wr_ne (by decide), mx_wr_off (by decide), mx_wr_off (by decide)]
          exact k2
        · refine mx_I5_ref (σ1 := σ1) (k := 6) (mx_I_5 hI) (fun j => by rw [kf 57 (by decide) (by decide)]; exact Fr 57 j (by decide) (by simp)) ?_ (fun j => ?_)
          · rw [hσ1, mx_wr_ne (by decide)]
            exact funext fun j => x2 57 j (by decide) (by simp)
          · rw [hτf]
            unfold mx_no
            have e83 : ∀ j, am_wr (am_wr τ4 82 1 (σ 2 3)) 82 2 (σ 2 9) 83 j = σ 83 j := fun j => by
              rw [mx_wr_ne (by decide), mx_wr_ne (by decide), Fr 83 j (by decide) (by simp), F1 83 j (by decide) (by simp)]
            rw [mx_wr_if, mx_wr_if, e83, e83]
      · -- no fault
        have okl : mx_okl σ L := y1.2.2.2.2.2.2.2.2.2.2.2.2.2
        have FV : mx_Fq [5, 6, 7, 8, 9, 10, 11, 12] [(2, 3), (2, 9), (2, 17)] σ (mx_tal σ L).1 := y1.2.2.2.2.2.2.2.2.1
        obtain ⟨σ1, hσ1⟩ : ∃ σ1, σ1 = am_wr σc 0 12 (-1) := ⟨_, rfl⟩
        have F1 : mx_Fq mx_CR ((0, 12) :: mx_Prr) σ σ1 := by rw [hσ1]; exact mx_fq_wr (mx_fq_up x2.2.2.2.2.2.2 rfl) rfl
        have g1 : ∀ i, i ≠ 0 → σ1 i = σc i := fun i q => by rw [hσ1, mx_wr_ne q]
        have c12 : ∀ c, 2 ≤ c → c ≤ 12 → σ1 c = σ c := fun c q q' => funext fun j => F1 c j (by simp only [List.mem_cons, List.not_mem_nil, or_false, not_or]; omega) (by simp only [List.mem_cons, List.not_mem_nil, or_false, Prod.mk.injEq]; omega)
        have T1 := re_tellAll_21_s (n := n) hg okl y4 hv (d + 144) (σ 2 3) (σ 2 9) L [] (-1) σ1 rfl hg.2.1 c12 (by rw [g1 43 (by decide)]; exact x2.2.2.1) (fun i q hq => by
          rw [g1 44 (by decide), g1 45 (by decide), g1 46 (by decide), g1 47 (by decide)]
          have := x2.2.2.2.2.1 i q hq
          exact ⟨this.1, this.2.1, this.2.2.1, this.2.2.2.1⟩) (fun i g hg' => by cases hg') (fun z => by rw [z] at y3; exact absurd y3 (by decide))
        have tl : re_tellAll (d + 149) σ1 n = re_tellAll_21 (d + 144 + 4) (σ 2 3) (σ 2 9) (-1) (([] : List mx_pt).length : Nat) σ1 n := by
          rw [re_tellAll_e, c12 2 (by decide) (by decide)]; rfl
        have go2 : pm_read (d + 150) s σ n = (re_tellAll_21 (d + 144 + 4) (σ 2 3) (σ 2 9) (-1) (([] : List mx_pt).length : Nat) σ1 n).bind fun q3 => if q3.1 = (-1) then ((pm_refuse (d + 149) 7 q3.2.1 q3.2.2).bind fun q4 => some (q4.1, q4.2.1, q4.2.2)) else some (q3.1, q3.2.1, q3.2.2) := by
          have y12 : σ1 0 12 = -1 := by rw [hσ1, mx_wr_at]
          rw [go, x1, Option.bind_some, mx_m]
          dsimp only
          rw [← hσ1, if_pos y12, tl]
        -- what the reference reads then
        have key : ∀ τ2 : am_M, mx_jr σ τ2 τ2 (mx_tx (σ (67 + 2 * s)) S) S 0 [] → ∃ (τ4 : am_M) (g2 : Int), mo_reads (d + 149) τ2 n = some (g2, τ4, n) ∧ τ4 82 6 = -1 ∧ ¬ τ4 82 70 < τ4 82 69 ∧ mx_rl (mx_tal σ L).1 τ4 ∧ (mx_tal σ L).2[L.length - 1]? = some g2 ∧ mx_Fq mx_CT mx_PT τ2 τ4 := fun τ2 u3 => by
          rcases J τ2 u3 with ⟨f2, σc2, τ4, L2, g2, z1, -⟩ | ⟨σc2, τ4, L2, g2, z1, z2, z3, z4, z5, z6, z7, z8, z9, z10, z11⟩
          · rw [x1] at z1
            injection z1 with z1
            injection z1 with z1 _
            omega
          · rw [x1] at z1
            injection z1 with z1
            injection z1 with _ z1
            injection z1 with z1 _
            rw [← z1] at z2
            have e := mx_rcs_L x2 z2
            subst e
            have e69 : τ4 82 69 = S := by rw [z11 82 69 (by decide) (by decide)]; exact u3.1.1
            exact ⟨τ4, g2, z3, z4, by rw [z5, e69]; exact Int.lt_irrefl _, z7, z10, z11⟩
        rcases T1 with ⟨σ2, F2, ⟨v, t1, t2, t3, t4⟩ | ⟨B, R', t1, t2, t3, t4, t5, t6, t7, t8⟩⟩
        · -- told
          obtain ⟨gN, gN1, -⟩ := mx_vj_at y1 (i := L.length - 1) (by omega)
          have v0 : v ≠ -1 := by
            rw [t2] at gN1
            injection gN1 with gN1
            omega
          have cls : pm_read (d + 150) s σ n = some (v, σ2, n) := by
            rw [go2, t1, Option.bind_some]
            dsimp only
            rw [if_neg v0]
          obtain ⟨τ2, u1, u2, u3⟩ := R σ2 (fun b x q q' => by
            rw [F2 b x (by simp only [List.mem_cons, List.not_mem_nil, or_false, not_or]; omega) (by simp)]
            exact F1 b x (by simp only [List.mem_cons, List.not_mem_nil, or_false, not_or]; omega) (by simp only [List.mem_cons, List.not_mem_nil, or_false, Prod.mk.injEq]; omega))
          obtain ⟨τ4, g2, w1, w2, w3, w4, w5, w6⟩ := key τ2 u3
          have gv : g2 = v := by rw [t2] at w5; injection w5 with w5; exact w5.symm
          subst gv
          have m1 : ¬ 64 < τ4 82 1 := by rw [w4.1.2.2.1]; omega
          have ref : mo_read (d + 150) s σ2 n = some (g2, τ4, n) := by
            rw [u1, w1]
            unfold mx_rtl
            rw [Option.bind_some]
            dsimp only
            rw [if_pos w2, if_neg w3, mo_read_145_e, if_pos w2, if_neg m1]
          refine mx_C_of g2 σ2 τ4 cls ref ?_
          have Ft : mx_Fq (136 :: mx_CT) ((82, 69) :: mx_PT) σ2 τ4 := mx_fq_tr (mx_fq_up u2 rfl) (mx_fq_up w6 rfl)
          have kc : ∀ c, 2 ≤ c → c ≤ 12 → τ4 c = (mx_tal σ L).1 c := fun c q q' => funext fun j => by
            rw [Ft c j (by simp only [List.mem_cons, List.not_mem_nil, or_false, not_or]; omega) (by simp only [List.mem_cons, List.not_mem_nil, or_false, Prod.mk.injEq]; omega), t4 c q q']
          have F3 : mx_Fq (136 :: (mx_C2 ++ mx_CR ++ mx_CT)) ((0, 12) :: (82, 69) :: (mx_Prr ++ mx_PT)) σ τ4 := mx_fq_tr (mx_fq_up F1 rfl) (mx_fq_tr (mx_fq_up F2 rfl) (mx_fq_up Ft rfl))
          have e012 : τ4 0 12 = -1 := by
            rw [Ft 0 12 (by decide) (by decide), F2 0 12 (by decide) (by simp), hσ1, mx_wr_at]
          have i4 : mx_I4 τ4 := by unfold mx_I4; rw [w2, e012]
          exact mx_rd_told hI y1 y4 kc F3 w4 i4 t3
        · -- no room
          have cls : pm_read (d + 150) s σ n = some (-7, mx_rf σ2 7, n) := by
            rw [go2, t1, Option.bind_some]
            dsimp only
            rw [if_pos rfl, pm_refuse_s _ _ _ _ (by decide), Option.bind_some]; rfl
          obtain ⟨τ2, u1, u2, u3⟩ := R (mx_rf σ2 7) (fun b x q q' => by
            rw [mx_rf_ne (by omega), F2 b x (by simp only [List.mem_cons, List.not_mem_nil, or_false, not_or]; omega) (by simp)]
            exact F1 b x (by simp only [List.mem_cons, List.not_mem_nil, or_false, not_or]; omega) (by simp only [List.mem_cons, List.not_mem_nil, or_false, Prod.mk.injEq]; omega))
          obtain ⟨τ4, g2, w1, w2, w3, w4, w5, w6⟩ := key τ2 u3
          have m1 : 64 < τ4 82 1 := by rw [w4.1.2.2.1]; exact t2
          obtain ⟨τf, hτf⟩ : ∃ τf, τf = mx_no (am_wr (am_wr τ4 82 1 (σ 2 3)) 82 2 (σ 2 9)) 7 := ⟨_, rfl⟩
          have ref : mo_read (d + 150) s (mx_rf σ2 7) n = some (-7, τf, n) := by
            rw [u1, w1]
            unfold mx_rtl
            rw [Option.bind_some]
            dsimp only
            rw [if_pos w2, if_neg w3, mo_read_145_e, if_pos w2, if_pos m1, hτf]
            exact (back τ4 0).2 w2
          refine mx_C_of (-7) (mx_rf σ2 7) τf cls ref ?_
          have Ft : mx_Fq (136 :: mx_CT) ((82, 69) :: mx_PT) (mx_rf σ2 7) τ4 := mx_fq_tr (mx_fq_up u2 rfl) (mx_fq_up w6 rfl)
          have kf : ∀ i, i ≠ 82 → i ≠ 83 → τf i = τ4 i := fun i q q' => by
            rw [hτf]
            unfold mx_no
            rw [mx_wr_ne q', mx_wr_ne q, mx_wr_ne q]
          have kc : ∀ i, i < 57 → τf i = σ2 i := fun i q => by
            rw [kf i (by omega) (by omega)]
            funext j
            rw [Ft i j (by simp only [List.mem_cons, List.not_mem_nil, or_false, not_or]; omega) (by simp only [List.mem_cons, List.not_mem_nil, or_false, Prod.mk.injEq]; omega), mx_rf_ne (by omega)]
          have F57 : mx_Fq [57] [] σ2 (mx_rf σ2 7) := by unfold mx_rf; exact mx_fq_wr mx_fq_rf rfl
          have F3 : mx_Fq (57 :: mx_CF) mx_PF σ τ4 := mx_fq_tr (mx_fq_up F1 rfl) (mx_fq_tr (mx_fq_up F2 rfl) (mx_fq_tr (mx_fq_up F57 rfl) (mx_fq_up Ft rfl)))
          have G0 : mx_Fq (57 :: 83 :: mx_CF) ((82, 1) :: (82, 2) :: mx_PF) σ τf := by
            rw [hτf]
            unfold mx_no
            exact mx_fq_wr (mx_fq_wr (mx_fq_wr (mx_fq_up F3 rfl) rfl) rfl) rfl
          have s57 : σ2 57 = σ 57 := funext fun j => by rw [F2 57 j (by decide) (by simp)]; exact F1 57 j (by decide) (by simp)
          have i4 : mx_I4 τf := by
            unfold mx_I4
            rw [kc 0 (by decide), F2 0 12 (by decide) (by simp), hσ1, mx_wr_at, hτf]
            unfold mx_no
            rw [mx_wr_ne (by decide), mx_wr_off (by decide), mx_wr_off (by decide)]
            exact w2
          have i5 : mx_I5 τf := by
            refine mx_I5_ref (σ1 := σ2) (k := 7) (mx_I_5 hI) (fun j => by rw [kf 57 (by decide) (by decide)]; exact Ft 57 j (by decide) (by simp)) s57 (fun j => ?_)
            rw [hτf]
            unfold mx_no
            have e83 : ∀ j, am_wr (am_wr τ4 82 1 (σ 2 3)) 82 2 (σ 2 9) 83 j = σ 83 j := fun j => by
              rw [mx_wr_ne (by decide), mx_wr_ne (by decide)]
              exact F3 83 j (by decide) (by simp)
            rw [mx_wr_if, mx_wr_if, e83, e83]
          exact mx_rd_back hI ht (σ2 := σ2) y1 y4 t3 G0 w4 i4 i5 (fun i q q' => kf i (by omega) (by omega))
            (by rw [hτf]; unfold mx_no; rw [mx_wr_ne (by decide), mx_wr_off (by decide), mx_wr_off (by decide)])
            (by rw [hτf]; unfold mx_no; rw [mx_wr_ne (by decide), mx_wr_off (by decide), mx_wr_at])
            (by rw [hτf]; unfold mx_no; rw [mx_wr_ne (by decide), mx_wr_at])
            (by rw [kc 2 (by decide)]; exact t4) (by rw [kc 2 (by decide)]; exact t5) (by rw [kc 2 (by decide)]; exact t6) (fun j q1 q2 q3 => by rw [kc 2 (by decide)]; exact t7 j q1 q2 q3) (fun c q q' => by rw [kc c (by omega)]; exact t8 c q q')
    · refine mx_C_ref hI 2 (-2) ?_ ?_
      · rw [pm_read_e, rr, if_pos (by omega), Option.bind_some]
        dsimp only
        rw [if_neg (by decide), pm_refuse_s _ _ _ _ (by decide), Option.bind_some]; rfl
      · have e98 : (mx_rf σ 2) 98 s = 2 := by rw [mx_rf_ne (by decide)]; exact a.1
        rw [mo_read_e, mo_isShelf_s, Option.bind_some]
        dsimp only
        rw [mx_bi_p h1, ix_98 Sb.1 Sb.2]
        simp only [Int.toNat_natCast]
        rw [if_pos e98, mo_no_s _ _ _ _ (by decide), Option.bind_some]; rfl
  · refine mx_C_ref hI 1 (-1) ?_ ?_
    · rw [pm_read_e, show pm_rowRefusal (d + 149) v1 σ n = _ from pm_rowRefusal_n (d + 147) v1 h1, Option.bind_some]
      dsimp only
      rw [if_neg (by decide), pm_refuse_s _ _ _ _ (by decide), Option.bind_some]; rfl
    · rw [mo_read_e, mo_isShelf_s, Option.bind_some]
      dsimp only
      rw [mx_bi_n h1, mo_no_s _ _ _ _ (by decide), Option.bind_some]; rfl
end
