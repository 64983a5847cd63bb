section
variable {n : Nat} {σ μ : am_M} {al : Int} {c : Nat → Int}
def mx_own (μ : am_M) (d : Nat) (w : mx_wt) : Int := if w.1 = 10 then ((d % 30 / 6 : Nat) : Int) - 1 else if w.1 = 11 then ((d % 6 : Nat) : Int) - 1 else μ 6 w.2.1.toNat
def mx_hlf (μ : am_M) (w : mx_wt) : Int := if w.2.1 = -1 then 0 else if μ 5 w.2.1.toNat = 6 then 1 else 0
/-- a node as the reference writes it -/
def mx_nr (μ τ : am_M) (c : Nat → Int) (i : Nat) (x : Nat × mx_wt) : Prop := τ 125 i = x.2.1 ∧ τ 126 i = mx_own μ x.1 x.2 ∧ τ 127 i = ((x.1 / 30 : Nat) : Int) ∧ τ 128 i = ((x.1 % 30 / 6 : Nat) : Int) - 1 ∧ τ 129 i = ((x.1 % 6 : Nat) : Int) - 1 ∧ τ 130 i = x.2.2.2.2.2.1 ∧ τ 132 i = mx_hlf μ x.2 ∧ τ 133 i = c x.1
theorem mo_plans_216_s (d : Nat) (D i : Nat) (hD : D < 1920) (hi : i < 120) (one two h : Int) (σ : am_M) : mo_plans_216 d D i one two i h σ n =
    if one = -1 then mo_plans_244 d i two (am_wr (am_wr σ 132 i h) 133 i (σ 107 D)) n else (mo_plans d one (am_wr (am_wr σ 132 i h) 133 i (σ 107 D)) n).bind fun q1 => if q1.1 = 0 then some (0, q1.2.1, q1.2.2) else mo_plans_244 d i two q1.2.1 q1.2.2 := by
  have I : (0 : Int) ≤ (i : Int) ∧ (i : Int) < 121 := ⟨by omega, by omega⟩
  have J : (0 : Int) ≤ (D : Int) ∧ (D : Int) < 1920 := ⟨by omega, by omega⟩
  rw [mo_plans_216_e, ix_132 I.1 I.2, mx_m, ix_107 J.1 J.2, ix_133 I.1 I.2, mx_m, Int.toNat_natCast, Int.toNat_natCast, mx_wr_ne (show (107 : Nat) ≠ 132 by decide)]
theorem mo_plans_175_s (hr : mx_rl μ σ) (d : Nat) (D i j : Nat) (hD : D < 1920) (hi : i < 120) (hj : j < 400) (by1 one two own : Int) (hb : by1 = -1 ∨ ∃ e : Nat, by1 = e ∧ (e : Int) < μ 2 3) : mo_plans_175 d D i j by1 one two i own σ n =
    mo_plans_216 d D i one two i (if by1 = -1 then 0 else if μ 5 by1.toNat = 6 then 1 else 0) (am_wr (am_wr σ 126 i own) 130 i (σ 113 j)) n := by
  have I : (0 : Int) ≤ (i : Int) ∧ (i : Int) < 121 := ⟨by omega, by omega⟩
  have J : (0 : Int) ≤ (j : Int) ∧ (j : Int) < 400 := ⟨by omega, by omega⟩
  rw [mo_plans_175_e, ix_126 I.1 I.2, mx_m, ix_113 J.1 J.2, ix_130 I.1 I.2, mx_m, Int.toNat_natCast, Int.toNat_natCast, mx_wr_ne (show (113 : Nat) ≠ 126 by decide)]
  rcases hb with q | ⟨e, q1, q2⟩
  · rw [if_pos q, if_pos q]
  · have ne : ¬ by1 = -1 := by omega
    obtain ⟨hRe, -, -, -, -, -, r5⟩ := hr.1
    have E : (0 : Int) ≤ (e : Int) ∧ (e : Int) < 144 := ⟨by omega, by omega⟩
    have k := (hRe e q2).1
    rw [if_neg ne, if_neg ne, q1, ix_89 E.1 E.2, Int.toNat_natCast, mx_wr_ne (show (89 : Nat) ≠ 130 by decide), mx_wr_ne (show (89 : Nat) ≠ 126 by decide)]
    by_cases z : μ 5 e = 6
    · rw [if_pos (k.trans z), if_pos z]
    · rw [if_neg (fun a => z (k.symm.trans a)), if_neg z]
end
