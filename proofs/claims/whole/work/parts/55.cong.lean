/-! groups that merge: what the end is, by itself -/
def mx_q (Q : Nat → Int) (v : Int) : Int := if v < 0 then v else Q v.toNat
theorem mx_q_neg {Q : Nat → Int} {v : Int} (h : v < 0) : mx_q Q v = v := if_pos h
theorem mx_q_nn {Q : Nat → Int} {v : Int} (h : 0 ≤ v) : mx_q Q v = Q v.toNat := if_neg (by omega)
/-- at the start: m expressions, g groups, kinds and own K and P, inputs X and Y, homes H (-1: gone), groups' numbers T -/
def mx_clo (m g : Int) (K P X Y H T : Nat → Int) (a b : Int) (Q : Nat → Int) : Prop :=
  (∀ i j : Nat, (i : Int) < g → (j : Int) < g → T i = T j → Q i = Q j) ∧ Q a.toNat = Q b.toNat ∧
  ∀ e f : Nat, (e : Int) < m → (f : Int) < m → H e ≠ -1 → H f ≠ -1 → K e = K f → P e = P f → mx_q Q (X e) = mx_q Q (X f) → mx_q Q (Y e) = mx_q Q (Y f) → mx_q Q (H e) = mx_q Q (H f)
/-- shapes at the start -/
def mx_sh (m g : Int) (K X Y H T : Nat → Int) : Prop :=
  (∀ e : Nat, (e : Int) < m → H e ≠ -1 → (0 ≤ H e ∧ H e < g ∧ T (H e).toNat = H e) ∧ (X e = -1 ∨ (0 ≤ X e ∧ X e < g ∧ T (X e).toNat = X e)) ∧ (Y e = -1 ∨ (0 ≤ Y e ∧ Y e < g ∧ T (Y e).toNat = Y e))) ∧
  (∀ i : Nat, (i : Int) < g → 0 ≤ T i ∧ T i ≤ i ∧ T (T i).toNat = T i)
/-- a stage: groups' numbers U, who is gone -/
def mx_J (m g : Int) (K P X Y H T : Nat → Int) (a b : Int) (U : Nat → Int) : Prop :=
  (∀ i : Nat, (i : Int) < g → 0 ≤ U i ∧ U i ≤ i ∧ U (U i).toNat = U i) ∧ (∀ i : Nat, (i : Int) < g → U (T i).toNat = U i) ∧
  ∀ Q, mx_clo m g K P X Y H T a b Q → ∀ i j : Nat, (i : Int) < g → (j : Int) < g → U i = U j → Q i = Q j
def mx_lk (K P X Y : Nat → Int) (U : Nat → Int) (e f : Nat) : Prop := K e = K f ∧ P e = P f ∧ mx_q U (X e) = mx_q U (X f) ∧ mx_q U (Y e) = mx_q U (Y f)
def mx_G (m : Int) (K P X Y H U : Nat → Int) (gone : Nat → Prop) : Prop :=
  (∀ e : Nat, (e : Int) < m → H e = -1 → gone e) ∧
  ∀ e : Nat, (e : Int) < m → H e ≠ -1 → gone e → ∃ f : Nat, f < e ∧ H f ≠ -1 ∧ mx_lk K P X Y U f e ∧ mx_q U (H f) = mx_q U (H e)
def mx_F (m : Int) (K P X Y U : Nat → Int) (gone : Nat → Prop) : Prop := ∀ e f : Nat, e < f → (f : Int) < m → ¬ gone e → ¬ gone f → ¬ mx_lk K P X Y U e f
section
variable {m g : Int} {K P X Y H T U : Nat → Int} {a b : Int} {gone : Nat → Prop}
/-- who is gone has one alike that isn't, of a lesser number, in the same group -/
theorem mx_G_rep (hG : mx_G m K P X Y H U gone) : ∀ e : Nat, (e : Int) < m → H e ≠ -1 → ∃ f : Nat, f ≤ e ∧ ¬ gone f ∧ H f ≠ -1 ∧ mx_lk K P X Y U f e ∧ mx_q U (H f) = mx_q U (H e) := by
  intro e
  induction e using Nat.strongRecOn with
  | _ e ih =>
    intro he hH
    by_cases hg : gone e
    · obtain ⟨f, h1, h2, h3, h4⟩ := hG.2 e he hH hg
      obtain ⟨f', a1, a2, a3, a4, a5⟩ := ih f h1 (by omega) h2
      exact ⟨f', by omega, a2, a3, ⟨a4.1.trans h3.1, a4.2.1.trans h3.2.1, a4.2.2.1.trans h3.2.2.1, a4.2.2.2.trans h3.2.2.2⟩, a5.trans h4⟩
    · exact ⟨e, Nat.le_refl _, hg, hH, ⟨rfl, rfl, rfl, rfl⟩, rfl⟩
/-- at the end the groups' numbers are closed -/
theorem mx_end_clo (hJ : mx_J m g K P X Y H T a b U) (hab : U a.toNat = U b.toNat) (hG : mx_G m K P X Y H U gone) (hF : mx_F m K P X Y U gone) : mx_clo m g K P X Y H T a b U := by
  refine ⟨fun i j hi hj e => ?_, hab, fun e f he hf h1 h2 k p x y => ?_⟩
  · rw [← hJ.2.1 i hi, ← hJ.2.1 j hj, e]
  · obtain ⟨e', a1, a2, a3, a4, a5⟩ := mx_G_rep hG e he h1
    obtain ⟨f', b1, b2, b3, b4, b5⟩ := mx_G_rep hG f hf h2
    have hl : mx_lk K P X Y U e' f' := ⟨a4.1.trans (k.trans b4.1.symm), a4.2.1.trans (p.trans b4.2.1.symm), a4.2.2.1.trans (x.trans b4.2.2.1.symm), a4.2.2.2.trans (y.trans b4.2.2.2.symm)⟩
    have : e' = f' := by
      rcases Nat.lt_trichotomy e' f' with q | q | q
      · exact absurd hl (hF e' f' q (by omega) a2 b2)
      · exact q
      · exact absurd ⟨hl.1.symm, hl.2.1.symm, hl.2.2.1.symm, hl.2.2.2.symm⟩ (hF f' e' q (by omega) b2 a2)
    rw [← a5, ← b5, this]
theorem mx_q_eq {Q U : Nat → Int} (h : ∀ i j : Nat, (i : Int) < g → (j : Int) < g → U i = U j → Q i = Q j) {v w : Int} (hv : v = -1 ∨ (0 ≤ v ∧ v < g)) (hw : w = -1 ∨ (0 ≤ w ∧ w < g)) (hU : ∀ i : Nat, (i : Int) < g → 0 ≤ U i) (e : mx_q U v = mx_q U w) : mx_q Q v = mx_q Q w := by
  rcases hv with hv | hv
  · subst hv
    rcases hw with hw | hw
    · subst hw; rfl
    · rw [mx_q_neg (by decide), mx_q_nn hw.1] at e
      have := hU w.toNat (by omega)
      omega
  · rcases hw with hw | hw
    · subst hw
      rw [mx_q_neg (v := -1) (by decide), mx_q_nn hv.1] at e
      have := hU v.toNat (by omega)
      omega
    · rw [mx_q_nn hv.1, mx_q_nn hw.1] at e
      rw [mx_q_nn hv.1, mx_q_nn hw.1]
      exact h _ _ (by omega) (by omega) e
theorem mx_sh_x (h : mx_sh m g K X Y H T) {e : Nat} (he : (e : Int) < m) (hH : H e ≠ -1) : (X e = -1 ∨ (0 ≤ X e ∧ X e < g)) ∧ (Y e = -1 ∨ (0 ≤ Y e ∧ Y e < g)) ∧ (H e = -1 ∨ (0 ≤ H e ∧ H e < g)) := by
  obtain ⟨h1, h2, h3⟩ := h.1 e he hH
  refine ⟨?_, ?_, Or.inr ⟨h1.1, h1.2.1⟩⟩
  · rcases h2 with q | q
    · exact Or.inl q
    · exact Or.inr ⟨q.1, q.2.1⟩
  · rcases h3 with q | q
    · exact Or.inl q
    · exact Or.inr ⟨q.1, q.2.1⟩
/-- two ends are one -/
theorem mx_uniq {U' : Nat → Int} {gone' : Nat → Prop} (hS : mx_sh m g K X Y H T) (hJ : mx_J m g K P X Y H T a b U) (hab : U a.toNat = U b.toNat) (hG : mx_G m K P X Y H U gone) (hF : mx_F m K P X Y U gone)
    (hJ' : mx_J m g K P X Y H T a b U') (hab' : U' a.toNat = U' b.toNat) (hG' : mx_G m K P X Y H U' gone') (hF' : mx_F m K P X Y U' gone') : (∀ i : Nat, (i : Int) < g → U i = U' i) ∧ ∀ e : Nat, (e : Int) < m → (gone e ↔ gone' e) := by
  have c := mx_end_clo hJ hab hG hF
  have c' := mx_end_clo hJ' hab' hG' hF'
  have e1 := hJ.2.2 U' c'
  have e2 := hJ'.2.2 U c
  have hT : ∀ i : Nat, (i : Int) < g → U i = U' i := by
    intro i hi
    obtain ⟨p1, p2, p3⟩ := hJ.1 i hi
    obtain ⟨q1, q2, q3⟩ := hJ'.1 i hi
    have r1 := e1 i (U i).toNat hi (by omega) p3.symm
    have r2 := e2 i (U' i).toNat hi (by omega) q3.symm
    have s1 := (hJ.1 (U' i).toNat (by omega)).2.1
    have s2 := (hJ'.1 (U i).toNat (by omega)).2.1
    omega
  have key : ∀ {U1 U2 : Nat → Int} {g1 g2 : Nat → Prop}, (∀ i : Nat, (i : Int) < g → 0 ≤ U1 i) → (∀ i : Nat, (i : Int) < g → U1 i = U2 i) → mx_G m K P X Y H U1 g1 → mx_F m K P X Y U2 g2 → mx_G m K P X Y H U2 g2 → ∀ e : Nat, (e : Int) < m → g1 e → g2 e := by
    intro U1 U2 g1 g2 hp hU h1 h2 h3 e he hg
    by_cases hH : H e = -1
    · exact h3.1 e he hH
    · obtain ⟨f, a1, a2, a3, a4⟩ := h1.2 e he hH hg
      have hx := mx_sh_x hS he hH
      have hx2 := mx_sh_x hS (e := f) (by omega) a2
      have imp : ∀ i j : Nat, (i : Int) < g → (j : Int) < g → U1 i = U1 j → U2 i = U2 j := fun i j hi hj q => by rw [← hU i hi, ← hU j hj, q]
      have a3' : mx_lk K P X Y U2 f e := ⟨a3.1, a3.2.1, mx_q_eq imp hx2.1 hx.1 hp a3.2.2.1, mx_q_eq imp hx2.2.1 hx.2.1 hp a3.2.2.2⟩
      obtain ⟨f', b1, b2, b3, b4, b5⟩ := mx_G_rep h3 f (by omega) a2
      by_cases hc : g2 e
      · exact hc
      · exact absurd ⟨b4.1.trans a3'.1, b4.2.1.trans a3'.2.1, b4.2.2.1.trans a3'.2.2.1, b4.2.2.2.trans a3'.2.2.2⟩ (h2 f' e (by omega) he b2 hc)
  exact ⟨hT, fun e he => ⟨key (fun i hi => (hJ.1 i hi).1) hT hG hF' hG' e he, key (fun i hi => (hJ'.1 i hi).1) (fun i hi => (hT i hi).symm) hG' hF hG e he⟩⟩
/-! one link: hi goes into lo -/
def mx_rn (lo hi v : Int) : Int := if v = hi then lo else v
theorem mx_rn_hi {lo hi : Int} : mx_rn lo hi hi = lo := if_pos rfl
theorem mx_rn_ne {lo hi v : Int} (h : v ≠ hi) : mx_rn lo hi v = v := if_neg h
theorem mx_rn_same {lo v : Int} : mx_rn lo lo v = v := by
  unfold mx_rn
  split <;> omega
theorem mx_q_rn {lo hi v : Int} (h : 0 ≤ hi) : mx_q (fun i => mx_rn lo hi (U i)) v = mx_rn lo hi (mx_q U v) := by
  unfold mx_q
  by_cases hv : v < 0
  · rw [if_pos hv, if_pos hv, mx_rn_ne (by omega)]
  · rw [if_neg hv, if_neg hv]
theorem mx_J_start (hS : mx_sh m g K X Y H T) : mx_J m g K P X Y H T a b T := ⟨hS.2, fun i hi => (hS.2 i hi).2.2, fun _ hQ i j hi hj e => hQ.1 i j hi hj e⟩
theorem mx_J_link (hJ : mx_J m g K P X Y H T a b U) {lo hi : Int} (h0 : 0 ≤ lo) (h1 : lo ≤ hi) (h2 : hi < g) (hl : U lo.toNat = lo) (hh : U hi.toNat = hi) (hq : ∀ Q, mx_clo m g K P X Y H T a b Q → Q lo.toNat = Q hi.toNat) :
    mx_J m g K P X Y H T a b (fun i => mx_rn lo hi (U i)) := by
  have hlo : mx_rn lo hi lo = lo := by
    by_cases e : lo = hi
    · rw [← e]; exact mx_rn_same
    · exact mx_rn_ne e
  refine ⟨fun i hi' => ?_, fun i hi' => ?_, fun Q hQ i j hi' hj' e => ?_⟩
  · obtain ⟨p1, p2, p3⟩ := hJ.1 i hi'
    show 0 ≤ mx_rn lo hi (U i) ∧ mx_rn lo hi (U i) ≤ (i : Int) ∧ mx_rn lo hi (U (mx_rn lo hi (U i)).toNat) = mx_rn lo hi (U i)
    by_cases q : U i = hi
    · rw [q, mx_rn_hi]
      exact ⟨h0, by omega, by rw [hl]; exact hlo⟩
    · rw [mx_rn_ne q]
      exact ⟨p1, p2, by rw [p3]; exact mx_rn_ne q⟩
  · show mx_rn lo hi (U (T i).toNat) = mx_rn lo hi (U i)
    rw [hJ.2.1 i hi']
  · have hs := hJ.2.2 Q hQ
    have root : ∀ i : Nat, (i : Int) < g → Q i = Q (U i).toNat := fun i hi => by
      obtain ⟨p1, p2, p3⟩ := hJ.1 i hi
      exact hs i _ hi (by omega) p3.symm
    have e : mx_rn lo hi (U i) = mx_rn lo hi (U j) := e
    rw [root i hi', root j hj']
    have hql := hq Q hQ
    unfold mx_rn at e
    by_cases q1 : U i = hi <;> by_cases q2 : U j = hi
    · rw [q1, q2]
    · rw [if_pos q1, if_neg q2] at e
      rw [q1, ← e, hql]
    · rw [if_neg q1, if_pos q2] at e
      rw [q2, e, hql]
    · rw [if_neg q1, if_neg q2] at e
      rw [e]
theorem mx_lk_link {lo hi : Int} (h : 0 ≤ hi) {e f : Nat} (hl : mx_lk K P X Y U e f) : mx_lk K P X Y (fun i => mx_rn lo hi (U i)) e f :=
  ⟨hl.1, hl.2.1, by rw [mx_q_rn h, mx_q_rn h, hl.2.2.1], by rw [mx_q_rn h, mx_q_rn h, hl.2.2.2]⟩
theorem mx_G_link (hG : mx_G m K P X Y H U gone) {lo hi : Int} (h : 0 ≤ hi) : mx_G m K P X Y H (fun i => mx_rn lo hi (U i)) gone := by
  refine ⟨hG.1, fun e he hH hg => ?_⟩
  obtain ⟨f, h1, h2, h3, h4⟩ := hG.2 e he hH hg
  exact ⟨f, h1, h2, mx_lk_link h h3, by rw [mx_q_rn h, mx_q_rn h, h4]⟩
/-- e, alike to f, is dropped, and their groups are linked -/
theorem mx_G_drop (hG : mx_G m K P X Y H U gone) {lo hi : Int} (h : 0 ≤ hi) {e f : Nat} (hf : f < e) (hHf : H f ≠ -1) (hl : mx_lk K P X Y U f e) (hh : mx_rn lo hi (mx_q U (H f)) = mx_rn lo hi (mx_q U (H e))) :
    mx_G m K P X Y H (fun i => mx_rn lo hi (U i)) (fun j => gone j ∨ j = e) := by
  refine ⟨fun j hj hH => Or.inl (hG.1 j hj hH), fun j hj hH hg => ?_⟩
  rcases hg with hg | hg
  · obtain ⟨f, h1, h2, h3, h4⟩ := hG.2 j hj hH hg
    exact ⟨f, h1, h2, mx_lk_link h h3, by rw [mx_q_rn h, mx_q_rn h, h4]⟩
  · subst hg
    exact ⟨f, hf, hHf, mx_lk_link h hl, by rw [mx_q_rn h, mx_q_rn h]; exact hh⟩
/-- alike two have equal groups in all that is closed -/
theorem mx_clo_homes (hS : mx_sh m g K X Y H T) (hJ : mx_J m g K P X Y H T a b U) {e f : Nat} (he : (e : Int) < m) (hf : (f : Int) < m) (hHe : H e ≠ -1) (hHf : H f ≠ -1) (hl : mx_lk K P X Y U e f) (Q : Nat → Int) (hQ : mx_clo m g K P X Y H T a b Q) : Q (mx_q U (H e)).toNat = Q (mx_q U (H f)).toNat := by
  have hs := hJ.2.2 Q hQ
  have xe := mx_sh_x hS he hHe
  have xf := mx_sh_x hS hf hHf
  have hp := fun i hi => (hJ.1 i hi).1
  have hh := hQ.2.2 e f he hf hHe hHf hl.1 hl.2.1 (mx_q_eq hs xe.1 xf.1 hp hl.2.2.1) (mx_q_eq hs xe.2.1 xf.2.1 hp hl.2.2.2)
  obtain ⟨h1, -, -⟩ := hS.1 e he hHe
  obtain ⟨h2, -, -⟩ := hS.1 f hf hHf
  rw [mx_q_nn h1.1, mx_q_nn h2.1] at hh
  rw [mx_q_nn h1.1, mx_q_nn h2.1]
  have r : ∀ i : Nat, (i : Int) < g → Q i = Q (U i).toNat := fun i hi => by
    obtain ⟨p1, p2, p3⟩ := hJ.1 i hi
    exact hs i _ hi (by omega) p3.symm
  rw [← r _ (by omega), ← r _ (by omega), hh]
end
