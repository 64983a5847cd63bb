/-! MATHEMATICS over the equations: words for memories, checks and numbers -/
abbrev mx_Fr (C : List Nat) (σ σ' : am_M) : Prop := ∀ i, i ∉ C → σ' i = σ i
theorem mx_fr_rf {C : List Nat} {σ : am_M} : mx_Fr C σ σ := fun _ _ => rfl
theorem mx_fr_tr {C : List Nat} {σ σ1 σ2 : am_M} (h1 : mx_Fr C σ σ1) (h2 : mx_Fr C σ1 σ2) : mx_Fr C σ σ2 := fun i hi => (h2 i hi).trans (h1 i hi)
theorem mx_fr_up {C1 C : List Nat} {σ σ1 : am_M} (h : mx_Fr C1 σ σ1) (hc : (C1.all fun i => C.contains i) = true) : mx_Fr C σ σ1 := fun i hi => h i fun hi1 => hi (by
  have := List.all_eq_true.mp hc i hi1
  simpa using this)
theorem mx_wr_ne {σ : am_M} {a k i : Nat} {v : Int} (h : i ≠ a) : am_wr σ a k v i = σ i := funext fun j => if_neg fun q => h q.1
theorem mx_wr_at {σ : am_M} {a k : Nat} {v : Int} : am_wr σ a k v a k = v := if_pos ⟨rfl, rfl⟩
theorem mx_wr_off {σ : am_M} {a k j : Nat} {v : Int} (h : j ≠ k) : am_wr σ a k v a j = σ a j := if_neg fun q => h q.2
theorem mx_wr_if {σ : am_M} {a k j : Nat} {v : Int} : am_wr σ a k v a j = if j = k then v else σ a j := by
  unfold am_wr
  by_cases h : j = k
  · rw [if_pos ⟨rfl, h⟩, if_pos h]
  · rw [if_neg fun q => h q.2, if_neg h]
theorem mx_wr_same {σ : am_M} {a k : Nat} : am_wr σ a k (σ a k) = σ := funext fun i => funext fun j => by
  unfold am_wr
  split
  · rename_i h; rw [h.1, h.2]
  · rfl
theorem mx_fr_wr {C : List Nat} {σ σ1 : am_M} {a k : Nat} {v : Int} (h : mx_Fr C σ σ1) (ha : a ∈ C) : mx_Fr C σ (am_wr σ1 a k v) := fun i hi => (mx_wr_ne (fun e => hi (by rw [e]; exact ha))).trans (h i hi)
theorem mx_fr_w1 {σ : am_M} {a k : Nat} {v : Int} : mx_Fr [a] σ (am_wr σ a k v) := fun _ hi => mx_wr_ne fun e => hi (by rw [e]; exact List.mem_singleton_self _)
theorem mx_cp_ne {σ : am_M} {a sp b dp z i : Nat} (h : i ≠ b) : am_cp σ a sp b dp z i = σ i := funext fun j => if_neg fun q => h q.1
theorem mx_cp_in {σ : am_M} {a sp b dp z j : Nat} (h : dp ≤ j) (h2 : j < dp + z) : am_cp σ a sp b dp z b j = σ a (sp + (j - dp)) := if_pos ⟨rfl, h, h2⟩
theorem mx_cp_out {σ : am_M} {a sp b dp z j : Nat} (h : j < dp ∨ dp + z ≤ j) : am_cp σ a sp b dp z b j = σ b j := if_neg fun q => by omega
theorem mx_w_id {z : Int} (h1 : -2147483648 ≤ z) (h2 : z < 2147483648) : am_w z = z := by
  unfold am_w Int.bmod
  dsimp only
  omega
theorem mx_x_id {z : Int} (h1 : -9223372036854775808 ≤ z) (h2 : z < 9223372036854775808) : am_x z = z := by
  unfold am_x Int.bmod
  dsimp only
  omega
theorem mx_w_nat {e : Nat} (h : (e : Int) < 1000) : am_w ((e : Int) + 1) = ((e + 1 : Nat) : Int) := by rw [mx_w_id (by omega) (by omega)]; rfl
theorem mx_w_rg (z : Int) : -2147483648 ≤ am_w z ∧ am_w z < 2147483648 := by
  unfold am_w Int.bmod
  dsimp only
  omega
theorem mx_x_rg (z : Int) : -9223372036854775808 ≤ am_x z ∧ am_x z < 9223372036854775808 := by
  unfold am_x Int.bmod
  dsimp only
  omega
theorem mx_if_t {p : Prop} {dp : Decidable p} {x : Option am_R} (h : p) : @am_if p dp x = x := if_pos h
theorem mx_ix_t {r j : Int} {x : Option am_R} (L : Nat) (hr : 0 ≤ r) (hl : am_len r.toNat = L) (h0 : 0 ≤ j) (h1 : j < L) : am_ix r j x = x := if_pos ⟨by omega, h0, by rw [hl]; exact h1⟩
theorem mx_cx_t {r j : Int} {x : Option am_R} (L : Nat) (hl : am_len r.toNat = L) (h0 : 0 ≤ j) (h1 : j < L) : am_cx r j x = x := if_pos ⟨h0, by rw [hl]; exact h1⟩
theorem mx_a_t {a sp b dp z : Int} {x : Option am_R} (La Lb : Nat) (ha : 0 ≤ a) (hb : 0 ≤ b) (hla : am_len a.toNat = La) (hlb : am_len b.toNat = Lb) (h1 : 0 ≤ sp) (h2 : 0 ≤ dp) (h3 : 0 ≤ z) (h4 : sp + z ≤ La) (h5 : dp + z ≤ Lb) : am_a a sp b dp z x = x := if_pos ⟨by omega, by omega, h1, h2, h3, by rw [hla]; exact h4, by rw [hlb]; exact h5⟩
theorem ix_1 {j : Int} {x : Option am_R} (h0 : 0 ≤ j) (h1 : j < 8) : am_ix 1 j x = x := mx_ix_t (L := 8) (by decide) rfl h0 h1
theorem ix_3 {j : Int} {x : Option am_R} (h0 : 0 ≤ j) (h1 : j < 32) : am_ix 3 j x = x := mx_ix_t (L := 32) (by decide) rfl h0 h1
theorem ix_4 {j : Int} {x : Option am_R} (h0 : 0 ≤ j) (h1 : j < 4) : am_ix 4 j x = x := mx_ix_t (L := 4) (by decide) rfl h0 h1
theorem ix_5 {j : Int} {x : Option am_R} (h0 : 0 ≤ j) (h1 : j < 64) : am_ix 5 j x = x := mx_ix_t (L := 64) (by decide) rfl h0 h1
theorem ix_6 {j : Int} {x : Option am_R} (h0 : 0 ≤ j) (h1 : j < 64) : am_ix 6 j x = x := mx_ix_t (L := 64) (by decide) rfl h0 h1
theorem ix_7 {j : Int} {x : Option am_R} (h0 : 0 ≤ j) (h1 : j < 64) : am_ix 7 j x = x := mx_ix_t (L := 64) (by decide) rfl h0 h1
theorem ix_8 {j : Int} {x : Option am_R} (h0 : 0 ≤ j) (h1 : j < 64) : am_ix 8 j x = x := mx_ix_t (L := 64) (by decide) rfl h0 h1
theorem ix_9 {j : Int} {x : Option am_R} (h0 : 0 ≤ j) (h1 : j < 64) : am_ix 9 j x = x := mx_ix_t (L := 64) (by decide) rfl h0 h1
theorem ix_10 {j : Int} {x : Option am_R} (h0 : 0 ≤ j) (h1 : j < 64) : am_ix 10 j x = x := mx_ix_t (L := 64) (by decide) rfl h0 h1
theorem ix_11 {j : Int} {x : Option am_R} (h0 : 0 ≤ j) (h1 : j < 64) : am_ix 11 j x = x := mx_ix_t (L := 64) (by decide) rfl h0 h1
theorem ix_12 {j : Int} {x : Option am_R} (h0 : 0 ≤ j) (h1 : j < 64) : am_ix 12 j x = x := mx_ix_t (L := 64) (by decide) rfl h0 h1
theorem ix_13 {j : Int} {x : Option am_R} (h0 : 0 ≤ j) (h1 : j < 448) : am_ix 13 j x = x := mx_ix_t (L := 448) (by decide) rfl h0 h1
theorem ix_14 {j : Int} {x : Option am_R} (h0 : 0 ≤ j) (h1 : j < 7) : am_ix 14 j x = x := mx_ix_t (L := 7) (by decide) rfl h0 h1
theorem ix_16 {j : Int} {x : Option am_R} (h0 : 0 ≤ j) (h1 : j < 32) : am_ix 16 j x = x := mx_ix_t (L := 32) (by decide) rfl h0 h1
theorem ix_17 {j : Int} {x : Option am_R} (h0 : 0 ≤ j) (h1 : j < 4) : am_ix 17 j x = x := mx_ix_t (L := 4) (by decide) rfl h0 h1
theorem ix_18 {j : Int} {x : Option am_R} (h0 : 0 ≤ j) (h1 : j < 64) : am_ix 18 j x = x := mx_ix_t (L := 64) (by decide) rfl h0 h1
theorem ix_19 {j : Int} {x : Option am_R} (h0 : 0 ≤ j) (h1 : j < 64) : am_ix 19 j x = x := mx_ix_t (L := 64) (by decide) rfl h0 h1
theorem ix_20 {j : Int} {x : Option am_R} (h0 : 0 ≤ j) (h1 : j < 64) : am_ix 20 j x = x := mx_ix_t (L := 64) (by decide) rfl h0 h1
theorem ix_21 {j : Int} {x : Option am_R} (h0 : 0 ≤ j) (h1 : j < 64) : am_ix 21 j x = x := mx_ix_t (L := 64) (by decide) rfl h0 h1
theorem ix_22 {j : Int} {x : Option am_R} (h0 : 0 ≤ j) (h1 : j < 64) : am_ix 22 j x = x := mx_ix_t (L := 64) (by decide) rfl h0 h1
theorem ix_23 {j : Int} {x : Option am_R} (h0 : 0 ≤ j) (h1 : j < 64) : am_ix 23 j x = x := mx_ix_t (L := 64) (by decide) rfl h0 h1
theorem ix_24 {j : Int} {x : Option am_R} (h0 : 0 ≤ j) (h1 : j < 64) : am_ix 24 j x = x := mx_ix_t (L := 64) (by decide) rfl h0 h1
theorem ix_25 {j : Int} {x : Option am_R} (h0 : 0 ≤ j) (h1 : j < 64) : am_ix 25 j x = x := mx_ix_t (L := 64) (by decide) rfl h0 h1
theorem ix_26 {j : Int} {x : Option am_R} (h0 : 0 ≤ j) (h1 : j < 448) : am_ix 26 j x = x := mx_ix_t (L := 448) (by decide) rfl h0 h1
theorem ix_27 {j : Int} {x : Option am_R} (h0 : 0 ≤ j) (h1 : j < 7) : am_ix 27 j x = x := mx_ix_t (L := 7) (by decide) rfl h0 h1
theorem ix_30 {j : Int} {x : Option am_R} (h0 : 0 ≤ j) (h1 : j < 64) : am_ix 30 j x = x := mx_ix_t (L := 64) (by decide) rfl h0 h1
theorem ix_31 {j : Int} {x : Option am_R} (h0 : 0 ≤ j) (h1 : j < 64) : am_ix 31 j x = x := mx_ix_t (L := 64) (by decide) rfl h0 h1
theorem ix_32 {j : Int} {x : Option am_R} (h0 : 0 ≤ j) (h1 : j < 64) : am_ix 32 j x = x := mx_ix_t (L := 64) (by decide) rfl h0 h1
theorem ix_34 {j : Int} {x : Option am_R} (h0 : 0 ≤ j) (h1 : j < 1920) : am_ix 34 j x = x := mx_ix_t (L := 1920) (by decide) rfl h0 h1
theorem ix_35 {j : Int} {x : Option am_R} (h0 : 0 ≤ j) (h1 : j < 1920) : am_ix 35 j x = x := mx_ix_t (L := 1920) (by decide) rfl h0 h1
theorem ix_36 {j : Int} {x : Option am_R} (h0 : 0 ≤ j) (h1 : j < 1920) : am_ix 36 j x = x := mx_ix_t (L := 1920) (by decide) rfl h0 h1
theorem ix_39 {j : Int} {x : Option am_R} (h0 : 0 ≤ j) (h1 : j < 20) : am_ix 39 j x = x := mx_ix_t (L := 20) (by decide) rfl h0 h1
theorem ix_40 {j : Int} {x : Option am_R} (h0 : 0 ≤ j) (h1 : j < 12) : am_ix 40 j x = x := mx_ix_t (L := 12) (by decide) rfl h0 h1
theorem ix_41 {j : Int} {x : Option am_R} (h0 : 0 ≤ j) (h1 : j < 192) : am_ix 41 j x = x := mx_ix_t (L := 192) (by decide) rfl h0 h1
theorem ix_42 {j : Int} {x : Option am_R} (h0 : 0 ≤ j) (h1 : j < 128) : am_ix 42 j x = x := mx_ix_t (L := 128) (by decide) rfl h0 h1
theorem ix_44 {j : Int} {x : Option am_R} (h0 : 0 ≤ j) (h1 : j < 32) : am_ix 44 j x = x := mx_ix_t (L := 32) (by decide) rfl h0 h1
theorem ix_45 {j : Int} {x : Option am_R} (h0 : 0 ≤ j) (h1 : j < 32) : am_ix 45 j x = x := mx_ix_t (L := 32) (by decide) rfl h0 h1
theorem ix_46 {j : Int} {x : Option am_R} (h0 : 0 ≤ j) (h1 : j < 32) : am_ix 46 j x = x := mx_ix_t (L := 32) (by decide) rfl h0 h1
theorem ix_47 {j : Int} {x : Option am_R} (h0 : 0 ≤ j) (h1 : j < 32) : am_ix 47 j x = x := mx_ix_t (L := 32) (by decide) rfl h0 h1
theorem ix_48 {j : Int} {x : Option am_R} (h0 : 0 ≤ j) (h1 : j < 32) : am_ix 48 j x = x := mx_ix_t (L := 32) (by decide) rfl h0 h1
theorem ix_49 {j : Int} {x : Option am_R} (h0 : 0 ≤ j) (h1 : j < 32) : am_ix 49 j x = x := mx_ix_t (L := 32) (by decide) rfl h0 h1
theorem ix_50 {j : Int} {x : Option am_R} (h0 : 0 ≤ j) (h1 : j < 32) : am_ix 50 j x = x := mx_ix_t (L := 32) (by decide) rfl h0 h1
theorem ix_51 {j : Int} {x : Option am_R} (h0 : 0 ≤ j) (h1 : j < 32) : am_ix 51 j x = x := mx_ix_t (L := 32) (by decide) rfl h0 h1
theorem ix_52 {j : Int} {x : Option am_R} (h0 : 0 ≤ j) (h1 : j < 32) : am_ix 52 j x = x := mx_ix_t (L := 32) (by decide) rfl h0 h1
theorem ix_53 {j : Int} {x : Option am_R} (h0 : 0 ≤ j) (h1 : j < 32) : am_ix 53 j x = x := mx_ix_t (L := 32) (by decide) rfl h0 h1
theorem ix_55 {j : Int} {x : Option am_R} (h0 : 0 ≤ j) (h1 : j < 20) : am_ix 55 j x = x := mx_ix_t (L := 20) (by decide) rfl h0 h1
theorem ix_56 {j : Int} {x : Option am_R} (h0 : 0 ≤ j) (h1 : j < 12) : am_ix 56 j x = x := mx_ix_t (L := 12) (by decide) rfl h0 h1
theorem ix_57 {j : Int} {x : Option am_R} (h0 : 0 ≤ j) (h1 : j < 8) : am_ix 57 j x = x := mx_ix_t (L := 8) (by decide) rfl h0 h1
theorem ix_59 {j : Int} {x : Option am_R} (h0 : 0 ≤ j) (h1 : j < 960) : am_ix 59 j x = x := mx_ix_t (L := 960) (by decide) rfl h0 h1
theorem ix_60 {j : Int} {x : Option am_R} (h0 : 0 ≤ j) (h1 : j < 120) : am_ix 60 j x = x := mx_ix_t (L := 120) (by decide) rfl h0 h1
theorem ix_61 {j : Int} {x : Option am_R} (h0 : 0 ≤ j) (h1 : j < 120) : am_ix 61 j x = x := mx_ix_t (L := 120) (by decide) rfl h0 h1
theorem ix_63 {j : Int} {x : Option am_R} (h0 : 0 ≤ j) (h1 : j < 960) : am_ix 63 j x = x := mx_ix_t (L := 960) (by decide) rfl h0 h1
theorem ix_64 {j : Int} {x : Option am_R} (h0 : 0 ≤ j) (h1 : j < 120) : am_ix 64 j x = x := mx_ix_t (L := 120) (by decide) rfl h0 h1
theorem ix_65 {j : Int} {x : Option am_R} (h0 : 0 ≤ j) (h1 : j < 120) : am_ix 65 j x = x := mx_ix_t (L := 120) (by decide) rfl h0 h1
theorem ix_67 {j : Int} {x : Option am_R} (h0 : 0 ≤ j) (h1 : j < 160) : am_ix 67 j x = x := mx_ix_t (L := 160) (by decide) rfl h0 h1
theorem ix_69 {j : Int} {x : Option am_R} (h0 : 0 ≤ j) (h1 : j < 160) : am_ix 69 j x = x := mx_ix_t (L := 160) (by decide) rfl h0 h1
theorem ix_71 {j : Int} {x : Option am_R} (h0 : 0 ≤ j) (h1 : j < 160) : am_ix 71 j x = x := mx_ix_t (L := 160) (by decide) rfl h0 h1
theorem ix_73 {j : Int} {x : Option am_R} (h0 : 0 ≤ j) (h1 : j < 160) : am_ix 73 j x = x := mx_ix_t (L := 160) (by decide) rfl h0 h1
theorem ix_75 {j : Int} {x : Option am_R} (h0 : 0 ≤ j) (h1 : j < 160) : am_ix 75 j x = x := mx_ix_t (L := 160) (by decide) rfl h0 h1
theorem ix_77 {j : Int} {x : Option am_R} (h0 : 0 ≤ j) (h1 : j < 160) : am_ix 77 j x = x := mx_ix_t (L := 160) (by decide) rfl h0 h1
theorem ix_79 {j : Int} {x : Option am_R} (h0 : 0 ≤ j) (h1 : j < 160) : am_ix 79 j x = x := mx_ix_t (L := 160) (by decide) rfl h0 h1
theorem ix_81 {j : Int} {x : Option am_R} (h0 : 0 ≤ j) (h1 : j < 160) : am_ix 81 j x = x := mx_ix_t (L := 160) (by decide) rfl h0 h1
theorem ix_83 {j : Int} {x : Option am_R} (h0 : 0 ≤ j) (h1 : j < 8) : am_ix 83 j x = x := mx_ix_t (L := 8) (by decide) rfl h0 h1
theorem ix_84 {j : Int} {x : Option am_R} (h0 : 0 ≤ j) (h1 : j < 4) : am_ix 84 j x = x := mx_ix_t (L := 4) (by decide) rfl h0 h1
theorem ix_85 {j : Int} {x : Option am_R} (h0 : 0 ≤ j) (h1 : j < 8) : am_ix 85 j x = x := mx_ix_t (L := 8) (by decide) rfl h0 h1
theorem ix_86 {j : Int} {x : Option am_R} (h0 : 0 ≤ j) (h1 : j < 8) : am_ix 86 j x = x := mx_ix_t (L := 8) (by decide) rfl h0 h1
theorem ix_87 {j : Int} {x : Option am_R} (h0 : 0 ≤ j) (h1 : j < 8) : am_ix 87 j x = x := mx_ix_t (L := 8) (by decide) rfl h0 h1
theorem ix_88 {j : Int} {x : Option am_R} (h0 : 0 ≤ j) (h1 : j < 8) : am_ix 88 j x = x := mx_ix_t (L := 8) (by decide) rfl h0 h1
theorem ix_89 {j : Int} {x : Option am_R} (h0 : 0 ≤ j) (h1 : j < 144) : am_ix 89 j x = x := mx_ix_t (L := 144) (by decide) rfl h0 h1
theorem ix_90 {j : Int} {x : Option am_R} (h0 : 0 ≤ j) (h1 : j < 144) : am_ix 90 j x = x := mx_ix_t (L := 144) (by decide) rfl h0 h1
theorem ix_91 {j : Int} {x : Option am_R} (h0 : 0 ≤ j) (h1 : j < 144) : am_ix 91 j x = x := mx_ix_t (L := 144) (by decide) rfl h0 h1
theorem ix_92 {j : Int} {x : Option am_R} (h0 : 0 ≤ j) (h1 : j < 144) : am_ix 92 j x = x := mx_ix_t (L := 144) (by decide) rfl h0 h1
theorem ix_93 {j : Int} {x : Option am_R} (h0 : 0 ≤ j) (h1 : j < 144) : am_ix 93 j x = x := mx_ix_t (L := 144) (by decide) rfl h0 h1
theorem ix_94 {j : Int} {x : Option am_R} (h0 : 0 ≤ j) (h1 : j < 144) : am_ix 94 j x = x := mx_ix_t (L := 144) (by decide) rfl h0 h1
theorem ix_95 {j : Int} {x : Option am_R} (h0 : 0 ≤ j) (h1 : j < 144) : am_ix 95 j x = x := mx_ix_t (L := 144) (by decide) rfl h0 h1
theorem ix_96 {j : Int} {x : Option am_R} (h0 : 0 ≤ j) (h1 : j < 29120) : am_ix 96 j x = x := mx_ix_t (L := 29120) (by decide) rfl h0 h1
theorem ix_97 {j : Int} {x : Option am_R} (h0 : 0 ≤ j) (h1 : j < 7) : am_ix 97 j x = x := mx_ix_t (L := 7) (by decide) rfl h0 h1
theorem ix_98 {j : Int} {x : Option am_R} (h0 : 0 ≤ j) (h1 : j < 8) : am_ix 98 j x = x := mx_ix_t (L := 8) (by decide) rfl h0 h1
theorem ix_99 {j : Int} {x : Option am_R} (h0 : 0 ≤ j) (h1 : j < 8) : am_ix 99 j x = x := mx_ix_t (L := 8) (by decide) rfl h0 h1
theorem ix_100 {j : Int} {x : Option am_R} (h0 : 0 ≤ j) (h1 : j < 8) : am_ix 100 j x = x := mx_ix_t (L := 8) (by decide) rfl h0 h1
theorem ix_101 {j : Int} {x : Option am_R} (h0 : 0 ≤ j) (h1 : j < 8) : am_ix 101 j x = x := mx_ix_t (L := 8) (by decide) rfl h0 h1
theorem ix_102 {j : Int} {x : Option am_R} (h0 : 0 ≤ j) (h1 : j < 1280) : am_ix 102 j x = x := mx_ix_t (L := 1280) (by decide) rfl h0 h1
theorem ix_103 {j : Int} {x : Option am_R} (h0 : 0 ≤ j) (h1 : j < 160) : am_ix 103 j x = x := mx_ix_t (L := 160) (by decide) rfl h0 h1
theorem ix_104 {j : Int} {x : Option am_R} (h0 : 0 ≤ j) (h1 : j < 144) : am_ix 104 j x = x := mx_ix_t (L := 144) (by decide) rfl h0 h1
theorem ix_105 {j : Int} {x : Option am_R} (h0 : 0 ≤ j) (h1 : j < 144) : am_ix 105 j x = x := mx_ix_t (L := 144) (by decide) rfl h0 h1
theorem ix_106 {j : Int} {x : Option am_R} (h0 : 0 ≤ j) (h1 : j < 144) : am_ix 106 j x = x := mx_ix_t (L := 144) (by decide) rfl h0 h1
theorem ix_107 {j : Int} {x : Option am_R} (h0 : 0 ≤ j) (h1 : j < 1920) : am_ix 107 j x = x := mx_ix_t (L := 1920) (by decide) rfl h0 h1
theorem ix_108 {j : Int} {x : Option am_R} (h0 : 0 ≤ j) (h1 : j < 2) : am_ix 108 j x = x := mx_ix_t (L := 2) (by decide) rfl h0 h1
theorem ix_109 {j : Int} {x : Option am_R} (h0 : 0 ≤ j) (h1 : j < 400) : am_ix 109 j x = x := mx_ix_t (L := 400) (by decide) rfl h0 h1
theorem ix_110 {j : Int} {x : Option am_R} (h0 : 0 ≤ j) (h1 : j < 400) : am_ix 110 j x = x := mx_ix_t (L := 400) (by decide) rfl h0 h1
theorem ix_111 {j : Int} {x : Option am_R} (h0 : 0 ≤ j) (h1 : j < 400) : am_ix 111 j x = x := mx_ix_t (L := 400) (by decide) rfl h0 h1
theorem ix_112 {j : Int} {x : Option am_R} (h0 : 0 ≤ j) (h1 : j < 400) : am_ix 112 j x = x := mx_ix_t (L := 400) (by decide) rfl h0 h1
theorem ix_113 {j : Int} {x : Option am_R} (h0 : 0 ≤ j) (h1 : j < 400) : am_ix 113 j x = x := mx_ix_t (L := 400) (by decide) rfl h0 h1
theorem ix_114 {j : Int} {x : Option am_R} (h0 : 0 ≤ j) (h1 : j < 400) : am_ix 114 j x = x := mx_ix_t (L := 400) (by decide) rfl h0 h1
theorem ix_115 {j : Int} {x : Option am_R} (h0 : 0 ≤ j) (h1 : j < 121) : am_ix 115 j x = x := mx_ix_t (L := 121) (by decide) rfl h0 h1
theorem ix_116 {j : Int} {x : Option am_R} (h0 : 0 ≤ j) (h1 : j < 121) : am_ix 116 j x = x := mx_ix_t (L := 121) (by decide) rfl h0 h1
theorem ix_117 {j : Int} {x : Option am_R} (h0 : 0 ≤ j) (h1 : j < 121) : am_ix 117 j x = x := mx_ix_t (L := 121) (by decide) rfl h0 h1
theorem ix_118 {j : Int} {x : Option am_R} (h0 : 0 ≤ j) (h1 : j < 121) : am_ix 118 j x = x := mx_ix_t (L := 121) (by decide) rfl h0 h1
theorem ix_119 {j : Int} {x : Option am_R} (h0 : 0 ≤ j) (h1 : j < 121) : am_ix 119 j x = x := mx_ix_t (L := 121) (by decide) rfl h0 h1
theorem ix_120 {j : Int} {x : Option am_R} (h0 : 0 ≤ j) (h1 : j < 121) : am_ix 120 j x = x := mx_ix_t (L := 121) (by decide) rfl h0 h1
theorem ix_121 {j : Int} {x : Option am_R} (h0 : 0 ≤ j) (h1 : j < 121) : am_ix 121 j x = x := mx_ix_t (L := 121) (by decide) rfl h0 h1
theorem ix_122 {j : Int} {x : Option am_R} (h0 : 0 ≤ j) (h1 : j < 121) : am_ix 122 j x = x := mx_ix_t (L := 121) (by decide) rfl h0 h1
theorem ix_123 {j : Int} {x : Option am_R} (h0 : 0 ≤ j) (h1 : j < 121) : am_ix 123 j x = x := mx_ix_t (L := 121) (by decide) rfl h0 h1
theorem ix_124 {j : Int} {x : Option am_R} (h0 : 0 ≤ j) (h1 : j < 121) : am_ix 124 j x = x := mx_ix_t (L := 121) (by decide) rfl h0 h1
theorem ix_125 {j : Int} {x : Option am_R} (h0 : 0 ≤ j) (h1 : j < 121) : am_ix 125 j x = x := mx_ix_t (L := 121) (by decide) rfl h0 h1
theorem ix_126 {j : Int} {x : Option am_R} (h0 : 0 ≤ j) (h1 : j < 121) : am_ix 126 j x = x := mx_ix_t (L := 121) (by decide) rfl h0 h1
theorem ix_127 {j : Int} {x : Option am_R} (h0 : 0 ≤ j) (h1 : j < 121) : am_ix 127 j x = x := mx_ix_t (L := 121) (by decide) rfl h0 h1
theorem ix_128 {j : Int} {x : Option am_R} (h0 : 0 ≤ j) (h1 : j < 121) : am_ix 128 j x = x := mx_ix_t (L := 121) (by decide) rfl h0 h1
theorem ix_129 {j : Int} {x : Option am_R} (h0 : 0 ≤ j) (h1 : j < 121) : am_ix 129 j x = x := mx_ix_t (L := 121) (by decide) rfl h0 h1
theorem ix_130 {j : Int} {x : Option am_R} (h0 : 0 ≤ j) (h1 : j < 121) : am_ix 130 j x = x := mx_ix_t (L := 121) (by decide) rfl h0 h1
theorem ix_131 {j : Int} {x : Option am_R} (h0 : 0 ≤ j) (h1 : j < 121) : am_ix 131 j x = x := mx_ix_t (L := 121) (by decide) rfl h0 h1
theorem ix_132 {j : Int} {x : Option am_R} (h0 : 0 ≤ j) (h1 : j < 121) : am_ix 132 j x = x := mx_ix_t (L := 121) (by decide) rfl h0 h1
theorem ix_133 {j : Int} {x : Option am_R} (h0 : 0 ≤ j) (h1 : j < 121) : am_ix 133 j x = x := mx_ix_t (L := 121) (by decide) rfl h0 h1
theorem ix_134 {j : Int} {x : Option am_R} (h0 : 0 ≤ j) (h1 : j < 20) : am_ix 134 j x = x := mx_ix_t (L := 20) (by decide) rfl h0 h1
theorem ix_135 {j : Int} {x : Option am_R} (h0 : 0 ≤ j) (h1 : j < 4000) : am_ix 135 j x = x := mx_ix_t (L := 4000) (by decide) rfl h0 h1
theorem ix_136 {j : Int} {x : Option am_R} (h0 : 0 ≤ j) (h1 : j < 160) : am_ix 136 j x = x := mx_ix_t (L := 160) (by decide) rfl h0 h1
theorem ix_137 {j : Int} {x : Option am_R} (h0 : 0 ≤ j) (h1 : j < 4) : am_ix 137 j x = x := mx_ix_t (L := 4) (by decide) rfl h0 h1
theorem ix_138 {j : Int} {x : Option am_R} (h0 : 0 ≤ j) (h1 : j < 1920) : am_ix 138 j x = x := mx_ix_t (L := 1920) (by decide) rfl h0 h1
theorem ix_139 {j : Int} {x : Option am_R} (h0 : 0 ≤ j) (h1 : j < 144) : am_ix 139 j x = x := mx_ix_t (L := 144) (by decide) rfl h0 h1
theorem ix_140 {j : Int} {x : Option am_R} (h0 : 0 ≤ j) (h1 : j < 144) : am_ix 140 j x = x := mx_ix_t (L := 144) (by decide) rfl h0 h1
theorem ix_141 {j : Int} {x : Option am_R} (h0 : 0 ≤ j) (h1 : j < 600) : am_ix 141 j x = x := mx_ix_t (L := 600) (by decide) rfl h0 h1
theorem ix_142 {j : Int} {x : Option am_R} (h0 : 0 ≤ j) (h1 : j < 64) : am_ix 142 j x = x := mx_ix_t (L := 64) (by decide) rfl h0 h1
theorem ix_143 {j : Int} {x : Option am_R} (h0 : 0 ≤ j) (h1 : j < 29120) : am_ix 143 j x = x := mx_ix_t (L := 29120) (by decide) rfl h0 h1
theorem mx_bind_ite {c : Prop} {dc : Decidable c} {a b : Option am_R} {f : am_R → Option am_R} : (@ite _ c dc a b).bind f = @ite _ c dc (a.bind f) (b.bind f) := by
  split <;> rfl
/-! the first place at which something holds, from e on, t places; -1: none -/
def mx_fi (p : Nat → Bool) : Nat → Nat → Int
  | 0, _ => -1
  | t + 1, e => bif p e then (e : Int) else mx_fi p t (e + 1)
theorem mx_fi_S (p : Nat → Bool) (t e : Nat) : mx_fi p (t + 1) e = bif p e then (e : Int) else mx_fi p t (e + 1) := rfl
theorem mx_fi_cong {p q : Nat → Bool} : ∀ {t e : Nat}, (∀ i, e ≤ i → i < e + t → p i = q i) → mx_fi p t e = mx_fi q t e := by
  intro t
  induction t with
  | zero => intro e _; rfl
  | succ t ih =>
    intro e h
    show (bif p e then (e : Int) else mx_fi p t (e + 1)) = bif q e then (e : Int) else mx_fi q t (e + 1)
    rw [h e (Nat.le_refl _) (by omega), ih fun i h1 h2 => h i (by omega) (by omega)]
theorem mx_fi_spec (p : Nat → Bool) : ∀ (t e : Nat), (mx_fi p t e = -1 ∧ ∀ i, e ≤ i → i < e + t → p i = false) ∨ ∃ i : Nat, mx_fi p t e = (i : Int) ∧ e ≤ i ∧ i < e + t ∧ p i = true ∧ ∀ j, e ≤ j → j < i → p j = false := by
  intro t
  induction t with
  | zero => intro e; exact Or.inl ⟨rfl, fun i _ _ => by omega⟩
  | succ t ih =>
    intro e
    show ((bif p e then (e : Int) else mx_fi p t (e + 1)) = -1 ∧ _) ∨ ∃ i : Nat, (bif p e then (e : Int) else mx_fi p t (e + 1)) = (i : Int) ∧ _
    cases hp : p e with
    | true => exact Or.inr ⟨e, rfl, Nat.le_refl _, by omega, hp, fun j _ _ => by omega⟩
    | false =>
      rcases ih (e + 1) with ⟨h1, h2⟩ | ⟨i, h1, h2, h3, h4, h5⟩
      · refine Or.inl ⟨h1, fun i hi hi2 => ?_⟩
        by_cases he : i = e
        · rw [he]; exact hp
        · exact h2 i (by omega) (by omega)
      · refine Or.inr ⟨i, h1, by omega, by omega, h4, fun j hj hj2 => ?_⟩
        by_cases he : j = e
        · rw [he]; exact hp
        · exact h5 j (by omega) hj2
theorem mx_fi_at {p : Nat → Bool} {t e i : Nat} (h1 : e ≤ i) (h2 : i < e + t) (hp : p i = true) (h : ∀ j, e ≤ j → j < i → p j = false) : mx_fi p t e = (i : Int) := by
  rcases mx_fi_spec p t e with ⟨-, h3⟩ | ⟨i', e1, h3, h4, h5, h6⟩
  · rw [h3 i h1 h2] at hp; cases hp
  · have : i = i' := by
      rcases Nat.lt_trichotomy i i' with h7 | h7 | h7
      · rw [h6 i h1 h7] at hp; cases hp
      · exact h7
      · rw [h i' h3 h7] at h5; cases h5
    rw [e1, this]
theorem mx_fi_no {p : Nat → Bool} {t e : Nat} (h : ∀ i, e ≤ i → i < e + t → p i = false) : mx_fi p t e = -1 := by
  rcases mx_fi_spec p t e with ⟨h1, -⟩ | ⟨i, -, h3, h4, h5, -⟩
  · exact h1
  · rw [h i h3 h4] at h5; cases h5
