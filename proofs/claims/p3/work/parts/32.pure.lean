theorem frow_t {l g h : Int32} (h1 : ¬ g.toInt = 0) (h2 : 0 < (l - l / 5 * 5).toInt) (h3 : ((h >>> ((l - l / 5 * 5) &&& 31)) &&& 1).toInt = 0) : frow l (g, h) = (1, h ||| ((1 : Int32) <<< ((l - l / 5 * 5) &&& 31))) := by
  unfold frow
  rw [if_pos ⟨h1, h2, h3⟩]
theorem frow_f {l g h : Int32} (h1 : ¬ (¬ g.toInt = 0 ∧ 0 < (l - l / 5 * 5).toInt ∧ ((h >>> ((l - l / 5 * 5) &&& 31)) &&& 1).toInt = 0)) : frow l (g, h) = (0, h ||| ((1 : Int32) <<< ((l - l / 5 * 5) &&& 31))) := by
  unfold frow
  rw [if_neg h1]
theorem fwith_e {s l x y : Int32} (h : (l - l / 5 * 5).toInt = (s + 1).toInt) : fwith s l (x, y) = (x, y) := by
  unfold fwith
  rw [if_pos h]
theorem fwith_n {s l x y : Int32} (h : ¬ (l - l / 5 * 5).toInt = (s + 1).toInt) : fwith s l (x, y) = (x + (l - l / 5 * 5) * y, y * 5) := by
  unfold fwith
  rw [if_neg h]
theorem dv_le {x y : Int32} (h : 0 ≤ x.toInt) (hy : 0 < y.toInt) : (x / y).toInt ≤ 0 ↔ x.toInt < y.toInt := by
  rw [Int32.toInt_div_of_ne_right _ _ (fun h9 => by rw [h9] at hy; exact absurd hy (by decide)), Int.tdiv_eq_ediv_of_nonneg h]
  constructor
  · intro h9
    refine Int.not_le.mp fun h8 => ?_
    have := Int.le_ediv_of_mul_le (a := 1) (b := x.toInt) hy (by omega)
    omega
  · intro h9
    rw [Int.ediv_eq_zero_of_lt h h9]
    exact Int.le_refl _
theorem pl_eq {a p : Int32} (h0 : 0 ≤ a.toInt) (hp : p.toInt = 1 ∨ (p.toInt = 5 ∧ 1 ≤ a.toInt) ∨ (p.toInt = 25 ∧ 5 ≤ a.toInt) ∨ (p.toInt = 125 ∧ 25 ≤ a.toInt) ∨ (p.toInt = 625 ∧ 125 ≤ a.toInt)) (h : a.toInt < p.toInt) (h6 : a.toInt < 625) : p = plI a := by
  refine i_eq.mpr ?_
  unfold plI
  have e1 : (1 : Int32).toInt = 1 := by decide
  have e2 : (5 : Int32).toInt = 5 := by decide
  have e3 : (25 : Int32).toInt = 25 := by decide
  have e4 : (125 : Int32).toInt = 125 := by decide
  have e5 : (625 : Int32).toInt = 625 := by decide
  by_cases c1 : a.toInt < 1
  · rw [if_pos c1]; omega
  rw [if_neg c1]
  by_cases c2 : a.toInt < 5
  · rw [if_pos c2]; omega
  rw [if_neg c2]
  by_cases c3 : a.toInt < 25
  · rw [if_pos c3]; omega
  rw [if_neg c3]
  by_cases c4 : a.toInt < 125
  · rw [if_pos c4]; omega
  rw [if_neg c4]
  omega
theorem MB_1 {mg tl : Nat → Int32} {ml o : Int32} (h0 : ¬ o.toInt = 0) (h1 : ml.toInt < 2) (h2 : ml.toInt = 0) : AG mg tl (lastI o) ↔ MB mg tl ml o := by
  constructor
  · exact fun h => Or.inr (Or.inl ⟨h0, h1, h2, h⟩)
  · rintro (h | ⟨_, _, _, h⟩ | ⟨_, _, h, _⟩ | ⟨_, h, _⟩)
    · exact absurd h h0
    · exact h
    · exact absurd h2 h
    · exact absurd h1 h
theorem MB_2 {mg tl : Nat → Int32} {ml o : Int32} (h0 : ¬ o.toInt = 0) (h1 : ml.toInt < 2) (h2 : ¬ ml.toInt = 0) : AG mg tl (o - o / 5 * 5 - 1) ↔ MB mg tl ml o := by
  constructor
  · exact fun h => Or.inr (Or.inr (Or.inl ⟨h0, h1, h2, h⟩))
  · rintro (h | ⟨_, _, h, _⟩ | ⟨_, _, _, h⟩ | ⟨_, h, _⟩)
    · exact absurd h h0
    · exact absurd h h2
    · exact h
    · exact absurd h1 h
theorem MB_3 {mg tl : Nat → Int32} {ml o x : Int32} (h0 : ¬ o.toInt = 0) (h1 : ¬ ml.toInt < 2) (hx : x.toInt = 4) : EX (fun y => bit1 (setI o) y ∧ AG mg tl y) x ↔ MB mg tl ml o := by
  rw [i_eq.mpr (hx.trans t4_.symm)]
  constructor
  · exact fun h => Or.inr (Or.inr (Or.inr ⟨h0, h1, h⟩))
  · rintro (h | ⟨_, h, _⟩ | ⟨_, h, _⟩ | ⟨_, _, h⟩)
    · exact absurd h h0
    · exact absurd h h1
    · exact absurd h h1
    · exact h
theorem EX.at {Q : Int32 → Prop} {x z : Int32} (hx : x.toInt = z.toInt) : EX Q x ↔ EX Q z := by rw [i_eq.mpr hx]
theorem AX.at {Q : Int32 → Prop} {x z : Int32} (hx : x.toInt = z.toInt) : AX Q x ↔ AX Q z := by rw [i_eq.mpr hx]
section WHY
variable {ma mg mt wf wp wt : Nat → Int32} {mw ml : Int32} {tl : Nat → Int32} {o s se dr : Int32}
theorem whyF_1 (h : (tl s.toNatClampNeg).toInt = (ma s.toNatClampNeg).toInt) : 1 = whyF ma mg mt wf wp wt mw ml tl o s se dr := by unfold whyF; rw [ifc_t h]
theorem whyF_2 (h : ¬ (tl s.toNatClampNeg).toInt = (ma s.toNatClampNeg).toInt) (h1 : 0 < (tl s.toNatClampNeg).toInt) (h2 : ¬ MayP ml o s) : 2 = whyF ma mg mt wf wp wt mw ml tl o s se dr := by unfold whyF; rw [ifc_f h, ifc_t h1, ifc_f h2]
theorem whyF_5 (h : ¬ (tl s.toNatClampNeg).toInt = (ma s.toNatClampNeg).toInt) (h1 : 0 < (tl s.toNatClampNeg).toInt) (h2 : MayP ml o s) (h3 : IW ma wf wp wt mw tl s se dr) : 5 = whyF ma mg mt wf wp wt mw ml tl o s se dr := by unfold whyF; rw [ifc_f h, ifc_t h1, ifc_t h2, ifc_t h3]
theorem whyF_6 (h : ¬ (tl s.toNatClampNeg).toInt = (ma s.toNatClampNeg).toInt) (h1 : 0 < (tl s.toNatClampNeg).toInt) (h2 : MayP ml o s) (h3 : ¬ IW ma wf wp wt mw tl s se dr) : (-6) = whyF ma mg mt wf wp wt mw ml tl o s se dr := by unfold whyF; rw [ifc_f h, ifc_t h1, ifc_t h2, ifc_f h3]
theorem whyF_3 (h : ¬ (tl s.toNatClampNeg).toInt = (ma s.toNatClampNeg).toInt) (h1 : ¬ 0 < (tl s.toNatClampNeg).toInt) (h2 : ¬ MB mg tl ml o) : 3 = whyF ma mg mt wf wp wt mw ml tl o s se dr := by unfold whyF; rw [ifc_f h, ifc_f h1, ifc_f h2]
theorem whyF_4 (h : ¬ (tl s.toNatClampNeg).toInt = (ma s.toNatClampNeg).toInt) (h1 : ¬ 0 < (tl s.toNatClampNeg).toInt) (h2 : MB mg tl ml o) (h3 : HO mt o (mt s.toNatClampNeg)) : 4 = whyF ma mg mt wf wp wt mw ml tl o s se dr := by unfold whyF; rw [ifc_f h, ifc_f h1, ifc_t h2, ifc_t h3]
theorem whyF_5b (h : ¬ (tl s.toNatClampNeg).toInt = (ma s.toNatClampNeg).toInt) (h1 : ¬ 0 < (tl s.toNatClampNeg).toInt) (h2 : MB mg tl ml o) (h3 : ¬ HO mt o (mt s.toNatClampNeg)) (h4 : IW ma wf wp wt mw tl s se dr) : 5 = whyF ma mg mt wf wp wt mw ml tl o s se dr := by unfold whyF; rw [ifc_f h, ifc_f h1, ifc_t h2, ifc_f h3, ifc_t h4]
theorem whyF_6b (h : ¬ (tl s.toNatClampNeg).toInt = (ma s.toNatClampNeg).toInt) (h1 : ¬ 0 < (tl s.toNatClampNeg).toInt) (h2 : MB mg tl ml o) (h3 : ¬ HO mt o (mt s.toNatClampNeg)) (h4 : ¬ IW ma wf wp wt mw tl s se dr) : (-6) = whyF ma mg mt wf wp wt mw ml tl o s se dr := by unfold whyF; rw [ifc_f h, ifc_f h1, ifc_t h2, ifc_f h3, ifc_f h4]
end WHY
/-- the waits' stories -/
def SOk (wt : Nat → Int32) : Prop := ∀ j : Nat, j < 6 → 0 ≤ (wt j).toInt ∧ (wt j).toInt ≤ 3
theorem SOk.at {wt : Nat → Int32} {x : Int32} (h : SOk wt) (hv : vp_in x 6) : 0 ≤ (wt x.toNatClampNeg).toInt ∧ (wt x.toNatClampNeg).toInt ≤ 3 := h _ (vi_lt hv)
theorem SOk.upd {te : Nat → Int32} {k : Nat} {x : Int32} (h : SOk te) (hx : 0 ≤ x.toInt ∧ x.toInt ≤ 3) : SOk (upd te k x) := fun j hj => by
  rw [upd_eq]
  by_cases h9 : j = k
  · rw [if_pos h9]; exact hx
  · rw [if_neg h9]; exact h j hj
theorem td_upd {tl : Nat → Int32} {a : Int32} : ∀ j, j < 4 → upd (upd (upd (upd tl (Int32.toNatClampNeg 0) (a - a / 5 * 5)) (Int32.toNatClampNeg 1) (a / 5 - a / 5 / 5 * 5)) (Int32.toNatClampNeg 2) (a / 5 / 5 - a / 5 / 5 / 5 * 5)) (Int32.toNatClampNeg 3) (a / 5 / 5 / 5 - a / 5 / 5 / 5 / 5 * 5) j = tdn a j := by
  intro j hj
  rw [upd_eq, upd_eq, upd_eq, upd_eq]
  rcases lt4 hj with rfl | rfl | rfl | rfl <;> rfl
