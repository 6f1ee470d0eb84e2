theorem frow_t {l g h : Int32} (h1 : ¬ g.toInt = 0) (h2 : 0 < (l - l / 5 * 5).toInt) (h3 : ((h >>> ((l - l / 5 * 5) &&& 31)) &&& 1).toInt = 0) : frow l (g, h) = (1, h ||| ((1 : Int32) <<< ((l - l / 5 * 5) &&& 31))) := by
  unfold frow
  rw [if_pos ⟨h1, h2, h3⟩]
theorem frow_f {l g h : Int32} (h1 : ¬ (¬ g.toInt = 0 ∧ 0 < (l - l / 5 * 5).toInt ∧ ((h >>> ((l - l / 5 * 5) &&& 31)) &&& 1).toInt = 0)) : frow l (g, h) = (0, h ||| ((1 : Int32) <<< ((l - l / 5 * 5) &&& 31))) := by
  unfold frow
  rw [if_neg h1]
theorem fwith_e {s l x y : Int32} (h : (l - l / 5 * 5).toInt = (s + 1).toInt) : fwith s l (x, y) = (x, y) := by
  unfold fwith
  rw [if_pos h]
theorem fwith_n {s l x y : Int32} (h : ¬ (l - l / 5 * 5).toInt = (s + 1).toInt) : fwith s l (x, y) = (x + (l - l / 5 * 5) * y, y * 5) := by
  unfold fwith
  rw [if_neg h]
theorem dv_le {x y : Int32} (h : 0 ≤ x.toInt) (hy : 0 < y.toInt) : (x / y).toInt ≤ 0 ↔ x.toInt < y.toInt := by
  rw [Int32.toInt_div_of_ne_right _ _ (fun h9 => by rw [h9] at hy; exact absurd hy (by decide)), Int.tdiv_eq_ediv_of_nonneg h]
  constructor
  · intro h9
    refine Int.not_le.mp fun h8 => ?_
    have := Int.le_ediv_of_mul_le (a := 1) (b := x.toInt) hy (by omega)
    omega
  · intro h9
    rw [Int.ediv_eq_zero_of_lt h h9]
    exact Int.le_refl _
theorem pl_eq {a p : Int32} (h0 : 0 ≤ a.toInt) (hp : p.toInt = 1 ∨ (p.toInt = 5 ∧ 1 ≤ a.toInt) ∨ (p.toInt = 25 ∧ 5 ≤ a.toInt) ∨ (p.toInt = 125 ∧ 25 ≤ a.toInt) ∨ (p.toInt = 625 ∧ 125 ≤ a.toInt)) (h : a.toInt < p.toInt) (h6 : a.toInt < 625) : p = plI a := by
  refine i_eq.mpr ?_
  unfold plI
  have e1 : (1 : Int32).toInt = 1 := by decide
  have e2 : (5 : Int32).toInt = 5 := by decide
  have e3 : (25 : Int32).toInt = 25 := by decide
  have e4 : (125 : Int32).toInt = 125 := by decide
  have e5 : (625 : Int32).toInt = 625 := by decide
  by_cases c1 : a.toInt < 1
  · rw [if_pos c1]; omega
  rw [if_neg c1]
  by_cases c2 : a.toInt < 5
  · rw [if_pos c2]; omega
  rw [if_neg c2]
  by_cases c3 : a.toInt < 25
  · rw [if_pos c3]; omega
  rw [if_neg c3]
  by_cases c4 : a.toInt < 125
  · rw [if_pos c4]; omega
  rw [if_neg c4]
  omega
theorem MB_1 {mg tl : Nat → Int32} {ml o : Int32} (h0 : ¬ o.toInt = 0) (h1 : ml.toInt < 2) (h2 : ml.toInt = 0) : AG mg tl (lastI o) ↔ MB mg tl ml o := by
  constructor
  · exact fun h => Or.inr (Or.inl ⟨h0, h1, h2, h⟩)
  · rintro (h | ⟨_, _, _, h⟩ | ⟨_, _, h, _⟩ | ⟨_, h, _⟩)
    · exact absurd h h0
    · exact h
    · exact absurd h2 h
    · exact absurd h1 h
theorem MB_2 {mg tl : Nat → Int32} {ml o : Int32} (h0 : ¬ o.toInt = 0) (h1 : ml.toInt < 2) (h2 : ¬ ml.toInt = 0) : AG mg tl (o - o / 5 * 5 - 1) ↔ MB mg tl ml o := by
  constructor
  · exact fun h => Or.inr (Or.inr (Or.inl ⟨h0, h1, h2, h⟩))
  · rintro (h | ⟨_, _, h, _⟩ | ⟨_, _, _, h⟩ | ⟨_, h, _⟩)
    · exact absurd h h0
    · exact absurd h h2
    · exact h
    · exact absurd h1 h
theorem MB_3 {mg tl : Nat → Int32} {ml o x : Int32} (h0 : ¬ o.toInt = 0) (h1 : ¬ ml.toInt < 2) (hx : x.toInt = 4) : EX (fun y => bit1 (setI o) y ∧ AG mg tl y) x ↔ MB mg tl ml o := by
  rw [i_eq.mpr (hx.trans t4_.symm)]
  constructor
  · exact fun h => Or.inr (Or.inr (Or.inr ⟨h0, h1, h⟩))
  · rintro (h | ⟨_, h, _⟩ | ⟨_, h, _⟩ | ⟨_, _, h⟩)
    · exact absurd h h0
    · exact absurd h h1
    · exact absurd h h1
    · exact h
theorem EX.at {Q : Int32 → Prop} {x z : Int32} (hx : x.toInt = z.toInt) : EX Q x ↔ EX Q z := by rw [i_eq.mpr hx]
theorem AX.at {Q : Int32 → Prop} {x z : Int32} (hx : x.toInt = z.toInt) : AX Q x ↔ AX Q z := by rw [i_eq.mpr hx]
section WHY
variable {ma mg mt wf wp wt : Nat → Int32} {mw ml : Int32} {tl : Nat → Int32} {o s se dr : Int32}
theorem whyF_1 (h : (tl s.toNatClampNeg).toInt = (ma s.toNatClampNeg).toInt) : 1 = whyF ma mg mt wf wp wt mw ml tl o s se dr := by unfold whyF; rw [ifc_t h]
theorem whyF_2 (h : ¬ (tl s.toNatClampNeg).toInt = (ma s.toNatClampNeg).toInt) (h1 : 0 < (tl s.toNatClampNeg).toInt) (h2 : ¬ MayP ml o s) : 2 = whyF ma mg mt wf wp wt mw ml tl o s se dr := by unfold whyF; rw [ifc_f h, ifc_t h1, ifc_f h2]
theorem whyF_5 (h : ¬ (tl s.toNatClampNeg).toInt = (ma s.toNatClampNeg).toInt) (h1 : 0 < (tl s.toNatClampNeg).toInt) (h2 : MayP ml o s) (h3 : IW ma wf wp wt mw tl s se dr) : 5 = whyF ma mg mt wf wp wt mw ml tl o s se dr := by unfold whyF; rw [ifc_f h, ifc_t h1, ifc_t h2, ifc_t h3]
theorem whyF_6 (h : ¬ (tl s.toNatClampNeg).toInt = (ma s.toNatClampNeg).toInt) (h1 : 0 < (tl s.toNatClampNeg).toInt) (h2 : MayP ml o s) (h3 : ¬ IW ma wf wp wt mw tl s se dr) : (-6) = whyF ma mg mt wf wp wt mw ml tl o s se dr := by unfold whyF; rw [ifc_f h, ifc_t h1, ifc_t h2, ifc_f h3]
theorem whyF_3 (h : ¬ (tl s.toNatClampNeg).toInt = (ma s.toNatClampNeg).toInt) (h1 : ¬ 0 < (tl s.toNatClampNeg).toInt) (h2 : ¬ MB mg tl ml o) : 3 = whyF ma mg mt wf wp wt mw ml tl o s se dr := by unfold whyF; rw [ifc_f h, ifc_f h1, ifc_f h2]
theorem whyF_4 (h : ¬ (tl s.toNatClampNeg).toInt = (ma s.toNatClampNeg).toInt) (h1 : ¬ 0 < (tl s.toNatClampNeg).toInt) (h2 : MB mg tl ml o) (h3 : HO mt o (mt s.toNatClampNeg)) : 4 = whyF ma mg mt wf wp wt mw ml tl o s se dr := by unfold whyF; rw [ifc_f h, ifc_f h1, ifc_t h2, ifc_t h3]
theorem whyF_5b (h : ¬ (tl s.toNatClampNeg).toInt = (ma s.toNatClampNeg).toInt) (h1 : ¬ 0 < (tl s.toNatClampNeg).toInt) (h2 : MB mg tl ml o) (h3 : ¬ HO mt o (mt s.toNatClampNeg)) (h4 : IW ma wf wp wt mw tl s se dr) : 5 = whyF ma mg mt wf wp wt mw ml tl o s se dr := by unfold whyF; rw [ifc_f h, ifc_f h1, ifc_t h2, ifc_f h3, ifc_t h4]
theorem whyF_6b (h : ¬ (tl s.toNatClampNeg).toInt = (ma s.toNatClampNeg).toInt) (h1 : ¬ 0 < (tl s.toNatClampNeg).toInt) (h2 : MB mg tl ml o) (h3 : ¬ HO mt o (mt s.toNatClampNeg)) (h4 : ¬ IW ma wf wp wt mw tl s se dr) : (-6) = whyF ma mg mt wf wp wt mw ml tl o s se dr := by unfold whyF; rw [ifc_f h, ifc_f h1, ifc_t h2, ifc_f h3, ifc_f h4]
end WHY
/-- the waits' stories -/
def SOk (wt : Nat → Int32) : Prop := ∀ j : Nat, j < 6 → 0 ≤ (wt j).toInt ∧ (wt j).toInt ≤ 3
theorem SOk.at {wt : Nat → Int32} {x : Int32} (h : SOk wt) (hv : vp_in x 6) : 0 ≤ (wt x.toNatClampNeg).toInt ∧ (wt x.toNatClampNeg).toInt ≤ 3 := h _ (vi_lt hv)
theorem SOk.upd {te : Nat → Int32} {k : Nat} {x : Int32} (h : SOk te) (hx : 0 ≤ x.toInt ∧ x.toInt ≤ 3) : SOk (upd te k x) := fun j hj => by
  rw [upd_eq]
  by_cases h9 : j = k
  · rw [if_pos h9]; exact hx
  · rw [if_neg h9]; exact h j hj
theorem td_upd {tl : Nat → Int32} {a : Int32} : ∀ j, j < 4 → upd (upd (upd (upd tl (Int32.toNatClampNeg 0) (a - a / 5 * 5)) (Int32.toNatClampNeg 1) (a / 5 - a / 5 / 5 * 5)) (Int32.toNatClampNeg 2) (a / 5 / 5 - a / 5 / 5 / 5 * 5)) (Int32.toNatClampNeg 3) (a / 5 / 5 / 5 - a / 5 / 5 / 5 / 5 * 5) j = tdn a j := by
  intro j hj
  rw [upd_eq, upd_eq, upd_eq, upd_eq]
  rcases lt4 hj with rfl | rfl | rfl | rfl <;> rfl
theorem ge0 {x : Int32} (h : (0 : Int32).toInt ≤ x.toInt) : ¬ x.toInt < 0 := by rw [t0_] at h; omega
theorem nl0 {x : Int32} (h : ¬ x.toInt < (0 : Int32).toInt) : ¬ x.toInt < 0 := by rw [t0_] at h; exact h
theorem opS_row {co ro : Nat → Int32} (hR : RT co ro) {a : Int32} (h0 : 0 ≤ a.toInt) : RowI (opS co a) := by
  have h1 := i_rem65 h0
  refine hR.1 _ ?_
  show (a - a / 65 * 65).toInt.toNat < 65
  omega
theorem ex_one {x : Int32} (h : ((x &&& 1).toInt = 0)) : ¬ (x &&& 1).toInt = 1 := by omega
/-- the sum of a number's digits, by fives -/
def fs (a : Int) : Int := a % 5 + a / 5 % 5 + a / 25 % 5 + a / 125 % 5
theorem fs_rng (a : Int) : 0 ≤ fs a ∧ fs a ≤ 16 := by unfold fs; omega
theorem sm_fs {a : Int32} (h : 0 ≤ a.toInt) : sm a = fs (a.toInt / 65) := by
  have d := i_div65 h
  have h1 := tdn_i (a := a / 65) (by omega)
  rw [d] at h1
  unfold sm fs tds
  omega
theorem sm_at {a : Int32} {n r : Int} (h0 : 0 ≤ n) (hr : 0 ≤ r ∧ r < 65) (h : a.toInt = 65 * n + r) : sm a = fs n := by
  rw [sm_fs (by omega), show a.toInt / 65 = n by omega]
theorem sm_rng {a : Int32} (h : 0 ≤ a.toInt) : 0 ≤ sm a ∧ sm a ≤ 16 := by rw [sm_fs h]; exact fs_rng _
theorem cl_inj {x y : Int32} (hx : 0 ≤ x.toInt) (hy : 0 ≤ y.toInt) (h : x.toNatClampNeg = y.toNatClampNeg) : x = y := by
  have h1 : x.toInt.toNat = y.toInt.toNat := h
  exact i_eq.mpr (by omega)
theorem updL_eq {f : Nat → Int64} {k j : Nat} {x : Int64} : vp_updL f k x j = if j = k then x else f j := rfl
/-- a table that is filled from the longest evenings down -/
def Lc (F : (Nat → Int64) → Int32 → Int64) : Prop := ∀ (w w' : Nat → Int64) (st : Int32), 0 ≤ st.toInt → st.toInt < 40625 → (∀ u : Int32, 0 ≤ u.toInt → u.toInt < 40625 → sm u = sm st + 1 → w u.toNatClampNeg = w' u.toNatClampNeg) → F w st = F w' st
def DW (F : (Nat → Int64) → Int32 → Int64) (w : Nat → Int64) (all b : Int) : Prop := ∀ st : Int32, 0 ≤ st.toInt → st.toInt < 40625 → (all < sm st ∨ (sm st = all ∧ st.toInt < b)) → w st.toNatClampNeg = F w st
theorem DW.top {F : (Nat → Int64) → Int32 → Int64} {w : Nat → Int64} {all : Int} (h : all = 16) : DW F w all 0 := fun st h0 h1 h2 => by
  have := sm_rng h0
  rcases h2 with h2 | h2 <;> omega
theorem DW.step {F : (Nat → Int64) → Int32 → Int64} {w : Nat → Int64} {all b b' : Int} {st : Int32} (hF : Lc F) (h : DW F w all b) (h0 : 0 ≤ st.toInt) (h1 : st.toInt < 40625) (hb : st.toInt = b) (hs : sm st = all) (hb' : b' = b + 1) : DW F (vp_updL w st.toNatClampNeg (F w st)) all b' := by
  intro u u0 u1 hu
  have e : F (vp_updL w st.toNatClampNeg (F w st)) u = F w u := by
    refine hF _ _ u u0 u1 fun v v0 v1 hv => ?_
    rw [updL_eq, if_neg]
    intro h9
    have := cl_inj v0 h0 h9
    rw [this] at hv
    rcases hu with hu | hu <;> omega
  rw [e, updL_eq]
  by_cases h9 : u.toNatClampNeg = st.toNatClampNeg
  · rw [if_pos h9, cl_inj u0 h0 h9]
  · rw [if_neg h9]
    refine h u u0 u1 ?_
    rcases hu with hu | hu
    · exact Or.inl hu
    · refine Or.inr ⟨hu.1, ?_⟩
      have : ¬ u.toInt = st.toInt := fun h8 => h9 (by rw [i_eq.mpr h8])
      omega
theorem DW.skip {F : (Nat → Int64) → Int32 → Int64} {w : Nat → Int64} {all n r : Int} (h : DW F w all (65 * n + r)) (h0 : 0 ≤ n) (hr : 0 ≤ r) (hn : ¬ fs n = all) {b' : Int} (hb' : b' = 65 * n + 65) : DW F w all b' := by
  intro u u0 u1 hu
  refine h u u0 u1 ?_
  rcases hu with hu | hu
  · exact Or.inl hu
  · by_cases h9 : u.toInt < 65 * n + r
    · exact Or.inr ⟨hu.1, h9⟩
    · have := sm_at (a := u) (n := n) (r := u.toInt - 65 * n) h0 (by omega) (by omega)
      omega
theorem DW.mono {F : (Nat → Int64) → Int32 → Int64} {w : Nat → Int64} {all b b' : Int} (h : DW F w all b) (hb : b' = b) : DW F w all b' := hb ▸ h
theorem DW.next {F : (Nat → Int64) → Int32 → Int64} {w : Nat → Int64} {all all' b : Int} (h : DW F w all b) (hb : 40625 ≤ b) (ha : all' = all - 1) : DW F w all' 0 := by
  intro u u0 u1 hu
  refine h u u0 u1 ?_
  rcases hu with hu | hu <;> omega
theorem DW.all {F : (Nat → Int64) → Int32 → Int64} {w : Nat → Int64} {all b : Int} (h : DW F w all b) (ha : all < 0) : ∀ st : Int32, 0 ≤ st.toInt → st.toInt < 40625 → w st.toNatClampNeg = F w st := fun st h0 h1 => h st h0 h1 (Or.inl (by have := sm_rng h0; omega))
/-- a sum over the stories that come -/
def swF (nx : Int32 → Int32) (wy : Nat → Int64) : Nat → Int64
  | 0 => 0
  | n + 1 => swF nx wy n + (if (nx (nI n)).toInt < 0 then 0 else wy (nx (nI n)).toNatClampNeg)
theorem swF_n {nx : Int32 → Int32} {wy : Nat → Int64} {x y : Int32} (h0 : 0 ≤ x.toInt) (hy : y.toInt = x.toInt + 1) (h : (nx x).toInt < 0) : swF nx wy y.toInt.toNat = swF nx wy x.toInt.toNat + 0 := by
  rw [show y.toInt.toNat = x.toInt.toNat + 1 by omega, swF, ← nI_self h0, if_pos h]
theorem swF_p {nx : Int32 → Int32} {wy : Nat → Int64} {x y : Int32} (h0 : 0 ≤ x.toInt) (hy : y.toInt = x.toInt + 1) (h : ¬ (nx x).toInt < 0) : swF nx wy y.toInt.toNat = swF nx wy x.toInt.toNat + wy (nx x).toNatClampNeg := by
  rw [show y.toInt.toNat = x.toInt.toNat + 1 by omega, swF, ← nI_self h0, if_neg h]
theorem swF_congr {nx : Int32 → Int32} {w w' : Nat → Int64} {n : Nat} (hn : n ≤ 4) (h : ∀ j, j < n → ¬ (nx (nI j)).toInt < 0 → w (nx (nI j)).toNatClampNeg = w' (nx (nI j)).toNatClampNeg) : swF nx w n = swF nx w' n := by
  induction n with
  | zero => rfl
  | succ n ih =>
    rw [swF, swF, ih (by omega) (fun j hj => h j (by omega))]
    by_cases h9 : (nx (nI n)).toInt < 0
    · rw [if_pos h9, if_pos h9]
    · rw [if_neg h9, if_neg h9, h n (by omega) h9]
theorem swF_ex {nx : Int32 → Int32} {w : Nat → Int64} {n : Nat} (hn : n ≤ 4) (h : ¬ swF nx w n = 0) : ∃ s : Int32, (0 ≤ s.toInt ∧ s.toInt < n) ∧ ¬ (nx s).toInt < 0 ∧ ¬ w (nx s).toNatClampNeg = 0 := by
  induction n with
  | zero => exact absurd rfl h
  | succ n ih =>
    by_cases h1 : swF nx w n = 0
    · rw [swF, h1] at h
      have e : (nI n).toInt = (n : Int) := nI_toInt (by omega)
      by_cases h9 : (nx (nI n)).toInt < 0
      · rw [if_pos h9] at h; exact absurd (by decide) h
      · rw [if_neg h9, Int64.zero_add] at h
        exact ⟨nI n, by omega, h9, h⟩
    · obtain ⟨s, h2, h3, h4⟩ := ih (by omega) h1
      exact ⟨s, by omega, h3, h4⟩
section WS
variable {ma mg mt wf wp wt : Nat → Int32} {mw ml : Int32} {co ro : Nat → Int32} {se dp dr : Int32}
noncomputable def wsF (ma mg mt wf wp wt : Nat → Int32) (mw ml : Int32) (co ro : Nat → Int32) (se dp dr : Int32) (wy : Nat → Int64) (st : Int32) : Int64 :=
  ifc (CB ma (tds st) (opS co st) se) (ifc (WH ma (tds st) se) 1 (swF (fun s => nxF ma mg mt wf wp wt mw ml co ro st s se dp dr) wy 4)) 0
theorem wsF_0 {wy : Nat → Int64} {st : Int32} (h : ¬ CB ma (tds st) (opS co st) se) : 0 = wsF ma mg mt wf wp wt mw ml co ro se dp dr wy st := by unfold wsF; rw [ifc_f h]
theorem wsF_1 {wy : Nat → Int64} {st : Int32} (h : CB ma (tds st) (opS co st) se) (h1 : WH ma (tds st) se) : 1 = wsF ma mg mt wf wp wt mw ml co ro se dp dr wy st := by unfold wsF; rw [ifc_t h, ifc_t h1]
theorem wsF_s {wy : Nat → Int64} {st : Int32} (h : CB ma (tds st) (opS co st) se) (h1 : ¬ WH ma (tds st) se) : swF (fun s => nxF ma mg mt wf wp wt mw ml co ro st s se dp dr) wy 4 = wsF ma mg mt wf wp wt mw ml co ro se dp dr wy st := by unfold wsF; rw [ifc_t h, ifc_f h1]
theorem ws_lc (hp : POk ma) (hR : RT co ro) : Lc (wsF ma mg mt wf wp wt mw ml co ro se dp dr) := by
  intro w w' st h0 h1 h
  unfold wsF
  by_cases c1 : CB ma (tds st) (opS co st) se
  · rw [ifc_t c1, ifc_t c1]
    by_cases c2 : WH ma (tds st) se
    · rw [ifc_t c2, ifc_t c2]
    · rw [ifc_f c2, ifc_f c2]
      refine swF_congr (Nat.le_refl 4) fun j hj hn => ?_
      have e : (nI j).toInt = (j : Int) := nI_toInt (by omega)
      have h9 := nx_ok hR h0 (c1.gd hp hR.1 h0) (by omega) hn
      exact h _ h9.1.1 h9.1.2 h9.2.2
  · rw [ifc_f c1, ifc_f c1]
end WS
theorem told_i {a : Int32} (h : 0 ≤ a.toInt) : (tds a 0 + tds a 1 + tds a 2 + tds a 3).toInt = sm a := by
  have a0 := tds_rng h (j := 0) (by omega)
  have a1 := tds_rng h (j := 1) (by omega)
  have a2 := tds_rng h (j := 2) (by omega)
  have a3 := tds_rng h (j := 3) (by omega)
  have s1 := i_add (x := tds a 0) (y := tds a 1) (by omega) (by omega)
  have s2 := i_add (x := tds a 0 + tds a 1) (y := tds a 2) (by omega) (by omega)
  have s3 := i_add (x := tds a 0 + tds a 1 + tds a 2) (y := tds a 3) (by omega) (by omega)
  unfold sm
  omega
/-- minutes of parts -/
def MOk (mm : Nat → Int32) : Prop := ∀ j : Nat, j < 16 → 0 ≤ (mm j).toInt ∧ (mm j).toInt ≤ 9
theorem MOk.at {mm : Nat → Int32} {x : Int32} (h : MOk mm) (hv : vp_in x 16) : 0 ≤ (mm x.toNatClampNeg).toInt ∧ (mm x.toNatClampNeg).toInt ≤ 9 := h _ (vi_lt hv)
theorem MOk.upd {te : Nat → Int32} {k : Nat} {x : Int32} (h : MOk te) (hx : 0 ≤ x.toInt ∧ x.toInt ≤ 9) : MOk (upd te k x) := fun j hj => by
  rw [upd_eq]
  by_cases h9 : j = k
  · rw [if_pos h9]; exact hx
  · rw [if_neg h9]; exact h j hj
/-- no story beyond four parts -/
def T4 (tl : Nat → Int32) : Prop := ∀ j : Nat, j < 4 → 0 ≤ (tl j).toInt ∧ (tl j).toInt ≤ 4
theorem T4.at {tl : Nat → Int32} {x : Int32} (h : T4 tl) (hv : vp_in x 4) : 0 ≤ (tl x.toNatClampNeg).toInt ∧ (tl x.toNatClampNeg).toInt ≤ 4 := h _ (vi_lt hv)
theorem tds_4 {a : Int32} (h : 0 ≤ a.toInt) : T4 (tds a) := fun j hj => tds_rng h hj
def Z01 (f : Nat → Int32) : Prop := ∀ j : Nat, (f j).toInt = 0 ∨ (f j).toInt = 1
theorem Z01.upd {f : Nat → Int32} {k : Nat} {x : Int32} (h : Z01 f) (hx : x.toInt = 0 ∨ x.toInt = 1) : Z01 (upd f k x) := fun j => by
  rw [upd_eq]
  by_cases h9 : j = k
  · rw [if_pos h9]; exact hx
  · rw [if_neg h9]; exact h j
/-- all that is marked, as far as b, may have been reached -/
def RCH (ma co : Nat → Int32) (ir : Nat → Int32) (b : Int) : Prop := ∀ st : Int32, 0 ≤ st.toInt → st.toInt < b → ¬ (ir st.toNatClampNeg).toInt = 0 → GS ma co st
theorem RCH.z {ma co ir : Nat → Int32} {b : Int} (h : b ≤ 0) : RCH ma co ir b := fun st h0 h1 => by omega
theorem RCH.upd {ma co ir : Nat → Int32} {u x : Int32} {b b' : Int} (h : RCH ma co ir b) (hu : 0 ≤ u.toInt) (hg : ¬ x.toInt = 0 → GS ma co u) (hb : b' ≤ b ∨ (b = u.toInt ∧ b' ≤ b + 1)) : RCH ma co (upd ir u.toNatClampNeg x) b' := fun st h0 h1 hn => by
  rw [upd_eq] at hn
  by_cases h9 : st.toNatClampNeg = u.toNatClampNeg
  · rw [if_pos h9] at hn
    rw [cl_inj h0 hu h9]
    exact hg hn
  · rw [if_neg h9] at hn
    refine h st h0 ?_ hn
    have : ¬ st.toInt = u.toInt := fun h8 => h9 (by rw [i_eq.mpr h8])
    omega
theorem RCH.mono {ma co ir : Nat → Int32} {b b' : Int} (h : RCH ma co ir b) (hb : b' ≤ b) : RCH ma co ir b' := fun st h0 h1 => h st h0 (by omega)
