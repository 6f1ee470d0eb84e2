theorem l0_ : (0 : Int64).toInt = 0 := by decide
theorem l_eq {x y : Int64} : x = y ↔ x.toInt = y.toInt := Int64.toInt_inj.symm
theorem l_ne0 {x : Int64} (h : ¬ x.toInt = 0) : ¬ x = 0 := fun h9 => h (by rw [h9]; exact l0_)
theorem l_nz {x : Int64} (h : ¬ x = 0) : ¬ x.toInt = 0 := fun h9 => h (l_eq.mpr (by rw [h9, l0_]))
theorem ix5 {u t : Int32} (h0 : 0 ≤ u.toInt) (h1 : u.toInt < 40625) (ht : 0 ≤ t.toInt ∧ t.toInt < 5) : (5 * u + t).toInt = 5 * u.toInt + t.toInt := by
  have := t5_
  have := i_mull (x := 5) (y := u) (d := 5) (by decide) (by omega) (by omega)
  have := i_add (x := 5 * u) (y := t) (by omega) (by omega)
  omega
noncomputable def cbF (nx : Int32 → Int32) (mt : Nat → Int32) (mb : Int32) (wy : Nat → Int64) (cg : Nat → Int32) (l s : Int32) : Int32 :=
  ifc ((nx s).toInt < 0 ∨ (wy (nx s).toNatClampNeg).toInt = 0) (-6) (cg (5 * nx s + mt s.toNatClampNeg).toNatClampNeg + (if 0 < mb.toInt ∧ l.toInt < 4 ∧ ¬ l.toInt = (mt s.toNatClampNeg).toInt then 1 else 0))
theorem cbF_n {nx : Int32 → Int32} {mt : Nat → Int32} {mb : Int32} {wy : Nat → Int64} {cg : Nat → Int32} {l s : Int32} (h : (nx s).toInt < 0 ∨ (wy (nx s).toNatClampNeg).toInt = 0) : (-6) = cbF nx mt mb wy cg l s := by unfold cbF; rw [ifc_t h]
theorem cbF_1 {nx : Int32 → Int32} {mt : Nat → Int32} {mb : Int32} {wy : Nat → Int64} {cg : Nat → Int32} {l s : Int32} (h : ¬ ((nx s).toInt < 0 ∨ (wy (nx s).toNatClampNeg).toInt = 0)) (h1 : 0 < mb.toInt ∧ l.toInt < 4 ∧ ¬ l.toInt = (mt s.toNatClampNeg).toInt) : cg (5 * nx s + mt s.toNatClampNeg).toNatClampNeg + 1 = cbF nx mt mb wy cg l s := by unfold cbF; rw [ifc_f h, if_pos h1]
theorem cbF_0 {nx : Int32 → Int32} {mt : Nat → Int32} {mb : Int32} {wy : Nat → Int64} {cg : Nat → Int32} {l s : Int32} (h : ¬ ((nx s).toInt < 0 ∨ (wy (nx s).toNatClampNeg).toInt = 0)) (h1 : ¬ (0 < mb.toInt ∧ l.toInt < 4 ∧ ¬ l.toInt = (mt s.toNatClampNeg).toInt)) : cg (5 * nx s + mt s.toNatClampNeg).toNatClampNeg + 0 = cbF nx mt mb wy cg l s := by unfold cbF; rw [ifc_f h, if_neg h1]
def bsF (c : Int32 → Int32) : Nat → Int32
  | 0 => -6
  | n + 1 => if 0 ≤ (c (nI n)).toInt ∧ ((bsF c n).toInt < 0 ∨ (c (nI n)).toInt < (bsF c n).toInt) then c (nI n) else bsF c n
theorem bs_t {c : Int32 → Int32} {x y : Int32} (h0 : 0 ≤ x.toInt) (hy : y.toInt = x.toInt + 1) (h : 0 ≤ (c x).toInt ∧ ((bsF c x.toInt.toNat).toInt < 0 ∨ (c x).toInt < (bsF c x.toInt.toNat).toInt)) : c x = bsF c y.toInt.toNat := by
  rw [show y.toInt.toNat = x.toInt.toNat + 1 by omega, bsF, ← nI_self h0, if_pos h]
theorem bs_f {c : Int32 → Int32} {x y : Int32} (h0 : 0 ≤ x.toInt) (hy : y.toInt = x.toInt + 1) (h : ¬ (0 ≤ (c x).toInt ∧ ((bsF c x.toInt.toNat).toInt < 0 ∨ (c x).toInt < (bsF c x.toInt.toNat).toInt))) : bsF c x.toInt.toNat = bsF c y.toInt.toNat := by
  rw [show y.toInt.toNat = x.toInt.toNat + 1 by omega, bsF, ← nI_self h0, if_neg h]
theorem bs_ex {c : Int32 → Int32} {n : Nat} (hn : n ≤ 4) : (bsF c n = -6 ∧ ∀ s : Int32, 0 ≤ s.toInt → s.toInt < n → ¬ 0 ≤ (c s).toInt) ∨ (0 ≤ (bsF c n).toInt ∧ ∃ s : Int32, (0 ≤ s.toInt ∧ s.toInt < n) ∧ c s = bsF c n) := by
  induction n with
  | zero => exact Or.inl ⟨rfl, fun s h0 h1 => by omega⟩
  | succ n ih =>
    have e : (nI n).toInt = (n : Int) := nI_toInt (by omega)
    have ih := ih (by omega)
    by_cases h : 0 ≤ (c (nI n)).toInt ∧ ((bsF c n).toInt < 0 ∨ (c (nI n)).toInt < (bsF c n).toInt)
    · rw [bsF, if_pos h]
      exact Or.inr ⟨h.1, nI n, by omega, rfl⟩
    · rw [bsF, if_neg h]
      rcases ih with ih | ih
      · refine Or.inl ⟨ih.1, fun s h0 h1 h9 => ?_⟩
        by_cases hs : s.toInt = n
        · rw [show s = nI n from i_eq.mpr (by omega)] at h9
          rw [ih.1, tm6_] at h
          omega
        · exact ih.2 s h0 (by omega) h9
      · obtain ⟨h1, s, h2, h3⟩ := ih
        exact Or.inr ⟨h1, s, by omega, h3⟩
theorem bs_congr {c c' : Int32 → Int32} {n : Nat} (hn : n ≤ 4) (h : ∀ s : Int32, 0 ≤ s.toInt → s.toInt < n → c s = c' s) : bsF c n = bsF c' n := by
  induction n with
  | zero => rfl
  | succ n ih =>
    have e : (nI n).toInt = (n : Int) := nI_toInt (by omega)
    rw [bsF, bsF, ih (by omega) (fun s h0 h1 => h s h0 (by omega)), h (nI n) (by omega) (by omega)]
noncomputable def chF (ma mg mt wf wp wt : Nat → Int32) (mw ml mb : Int32) (co ro : Nat → Int32) (se dp : Int32) (wy : Nat → Int64) (cg : Nat → Int32) (st l : Int32) : Int32 :=
  ifc ((wy st.toNatClampNeg).toInt = 0) (-6) (ifc (WH ma (tds st) se) 0 (bsF (fun s => cbF (fun s => nxF ma mg mt wf wp wt mw ml co ro st s se dp 0) mt mb wy cg l s) 4))
def DC (F : (Nat → Int32) → Int32 → Int32 → Int32) (w : Nat → Int32) (all b : Int) : Prop := ∀ st l : Int32, 0 ≤ st.toInt → st.toInt < 40625 → 0 ≤ l.toInt → l.toInt < 5 → (all < sm st ∨ (sm st = all ∧ 5 * st.toInt + l.toInt < b)) → w (5 * st + l).toNatClampNeg = F w st l
def LC (F : (Nat → Int32) → Int32 → Int32 → Int32) : Prop := ∀ (w w' : Nat → Int32) (st l : Int32), 0 ≤ st.toInt → st.toInt < 40625 → (∀ u t : Int32, 0 ≤ u.toInt → u.toInt < 40625 → 0 ≤ t.toInt → t.toInt < 5 → sm u = sm st + 1 → w (5 * u + t).toNatClampNeg = w' (5 * u + t).toNatClampNeg) → F w st l = F w' st l
section DCs
variable {F : (Nat → Int32) → Int32 → Int32 → Int32} {w : Nat → Int32} {al al' b b' : Int} {st l : Int32}
theorem DC.top (h : al = 16) : DC F w al 0 := fun st l h0 h1 l0 l1 h2 => by
  have := sm_rng h0
  rcases h2 with h2 | h2 <;> omega
theorem DC.step (hF : LC F) (h : DC F w al b) (h0 : 0 ≤ st.toInt) (h1 : st.toInt < 40625) (l0 : 0 ≤ l.toInt) (l1 : l.toInt < 5) (hb : 5 * st.toInt + l.toInt = b) (hs : sm st = al) (hb' : b' = b + 1) : DC F (upd w (5 * st + l).toNatClampNeg (F w st l)) al b' := by
  have e0 := ix5 h0 h1 ⟨l0, l1⟩
  intro u t u0 u1 t0 t1 hu
  have e1 := ix5 u0 u1 ⟨t0, t1⟩
  have e : F (upd w (5 * st + l).toNatClampNeg (F w st l)) u t = F w u t := by
    refine hF _ _ u t u0 u1 fun v k v0 v1 k0 k1 hv => ?_
    have e2 := ix5 v0 v1 ⟨k0, k1⟩
    rw [upd_eq, if_neg]
    intro h9
    have h8 := congrArg Int32.toInt (cl_inj (by omega) (by omega) h9)
    have : v = st := i_eq.mpr (by omega)
    rw [this] at hv
    rcases hu with hu | hu <;> omega
  rw [e, upd_eq]
  by_cases h9 : (5 * u + t).toNatClampNeg = (5 * st + l).toNatClampNeg
  · have h8 := congrArg Int32.toInt (cl_inj (by omega) (by omega) h9)
    rw [if_pos h9, show u = st from i_eq.mpr (by omega), show t = l from i_eq.mpr (by omega)]
  · rw [if_neg h9]
    refine h u t u0 u1 t0 t1 ?_
    rcases hu with hu | hu
    · exact Or.inl hu
    · refine Or.inr ⟨hu.1, ?_⟩
      have : ¬ (5 * u + t).toInt = (5 * st + l).toInt := fun h8 => h9 (by rw [i_eq.mpr h8])
      omega
theorem DC.skip {n r : Int} (h : DC F w al (5 * (65 * n + r))) (h0 : 0 ≤ n) (hr : 0 ≤ r) (hn : ¬ fs n = al) (hb' : b' = 5 * (65 * n + 65)) : DC F w al b' := by
  intro u t u0 u1 t0 t1 hu
  refine h u t u0 u1 t0 t1 ?_
  rcases hu with hu | hu
  · exact Or.inl hu
  · by_cases h9 : 5 * u.toInt + t.toInt < 5 * (65 * n + r)
    · exact Or.inr ⟨hu.1, h9⟩
    · have := sm_at (a := u) (n := n) (r := u.toInt - 65 * n) h0 (by omega) (by omega)
      omega
theorem DC.mono (h : DC F w al b) (hb : b' = b) : DC F w al b' := hb ▸ h
theorem DC.next (h : DC F w al b) (hb : 203125 ≤ b) (ha : al' = al - 1) : DC F w al' 0 := by
  intro u t u0 u1 t0 t1 hu
  refine h u t u0 u1 t0 t1 ?_
  rcases hu with hu | hu <;> omega
theorem DC.all (h : DC F w al b) (ha : al < 0) : ∀ st l : Int32, 0 ≤ st.toInt → st.toInt < 40625 → 0 ≤ l.toInt → l.toInt < 5 → w (5 * st + l).toNatClampNeg = F w st l := fun st l h0 h1 l0 l1 => h st l h0 h1 l0 l1 (Or.inl (by have := sm_rng h0; omega))
end DCs
section SH
variable {ma mg mt wf wp wt : Nat → Int32} {mw ml mb : Int32} {co ro : Nat → Int32} {se dp dr : Int32} {wy : Nat → Int64} {cg : Nat → Int32}
theorem wy_cb {st : Int32} (h : wy st.toNatClampNeg = wsF ma mg mt wf wp wt mw ml co ro se dp dr wy st) (hn : ¬ (wy st.toNatClampNeg).toInt = 0) : CB ma (tds st) (opS co st) se := by
  refine Classical.byContradiction fun c => hn ?_
  rw [h, ← wsF_0 c]
  exact l0_
theorem wy_ex {st : Int32} (h : wy st.toNatClampNeg = wsF ma mg mt wf wp wt mw ml co ro se dp dr wy st) (hn : ¬ (wy st.toNatClampNeg).toInt = 0) (hw : ¬ WH ma (tds st) se) : ∃ s : Int32, (0 ≤ s.toInt ∧ s.toInt < 4) ∧ ¬ (nxF ma mg mt wf wp wt mw ml co ro st s se dp dr).toInt < 0 ∧ ¬ (wy (nxF ma mg mt wf wp wt mw ml co ro st s se dp dr).toNatClampNeg).toInt = 0 := by
  have c := wy_cb h hn
  rw [← wsF_s c hw] at h
  obtain ⟨s, h1, h2, h3⟩ := swF_ex (Nat.le_refl 4) (fun h9 => hn (by rw [h, h9]; exact l0_))
  exact ⟨s, by omega, h2, l_nz h3⟩
theorem ch_lc (hp : POk ma) (hR : RT co ro) (ht : TOk mt) (hW : ∀ st : Int32, 0 ≤ st.toInt → st.toInt < 40625 → wy st.toNatClampNeg = wsF ma mg mt wf wp wt mw ml co ro se dp 0 wy st) : LC (chF ma mg mt wf wp wt mw ml mb co ro se dp wy) := by
  intro w w' st l h0 h1 h
  unfold chF
  by_cases c1 : (wy st.toNatClampNeg).toInt = 0
  · rw [ifc_t c1, ifc_t c1]
  rw [ifc_f c1, ifc_f c1]
  by_cases c2 : WH ma (tds st) se
  · rw [ifc_t c2, ifc_t c2]
  rw [ifc_f c2, ifc_f c2]
  refine bs_congr (Nat.le_refl 4) fun s s0 s1 => ?_
  unfold cbF
  by_cases c3 : ((nxF ma mg mt wf wp wt mw ml co ro st s se dp 0).toInt < 0 ∨ (wy (nxF ma mg mt wf wp wt mw ml co ro st s se dp 0).toNatClampNeg).toInt = 0)
  · rw [ifc_t c3, ifc_t c3]
  rw [ifc_f c3, ifc_f c3]
  have hG := (wy_cb (hW st h0 h1) c1).gd hp hR.1 h0
  have n9 := nx_ok hR h0 hG (by omega) (fun h9 => c3 (Or.inl h9))
  have h2 := ht s.toNatClampNeg (show s.toInt.toNat < 4 by omega)
  rw [h _ _ n9.1.1 n9.1.2 h2.1 (by omega) n9.2.2]
/-- from a night with ways the least changes are those of some story -/
theorem ch_ok (hp : POk ma) (hR : RT co ro) (ht : TOk mt) (hW : ∀ st : Int32, 0 ≤ st.toInt → st.toInt < 40625 → wy st.toNatClampNeg = wsF ma mg mt wf wp wt mw ml co ro se dp 0 wy st) (hC : ∀ st l : Int32, 0 ≤ st.toInt → st.toInt < 40625 → 0 ≤ l.toInt → l.toInt < 5 → cg (5 * st + l).toNatClampNeg = chF ma mg mt wf wp wt mw ml mb co ro se dp wy cg st l) :
    ∀ (k : Nat) (st : Int32), 0 ≤ st.toInt → st.toInt < 40625 → sm st = 16 - (k : Int) → ¬ (wy st.toNatClampNeg).toInt = 0 → ∀ l : Int32, 0 ≤ l.toInt → l.toInt < 5 →
      (0 ≤ (cg (5 * st + l).toNatClampNeg).toInt ∧ (cg (5 * st + l).toNatClampNeg).toInt ≤ k) ∧ (¬ WH ma (tds st) se → ∃ s : Int32, (0 ≤ s.toInt ∧ s.toInt ≤ 3) ∧ cbF (fun s => nxF ma mg mt wf wp wt mw ml co ro st s se dp 0) mt mb wy cg l s = cg (5 * st + l).toNatClampNeg) := by
  intro k
  induction k with
  | zero =>
    intro st h0 h1 hs hn l l0 l1
    have hG := (wy_cb (hW st h0 h1) hn).gd hp hR.1 h0
    have hw : WH ma (tds st) se := Classical.byContradiction fun c => by
      obtain ⟨s, h2, h3, h4⟩ := wy_ex (hW st h0 h1) hn c
      have n9 := nx_ok hR h0 hG (by omega) h3
      have := sm_rng n9.1.1
      omega
    refine ⟨?_, fun h9 => absurd hw h9⟩
    rw [hC st l h0 h1 l0 l1]
    unfold chF
    rw [ifc_f hn, ifc_t hw, t0_]
    omega
  | succ k ih =>
    intro st h0 h1 hs hn l l0 l1
    have hG := (wy_cb (hW st h0 h1) hn).gd hp hR.1 h0
    by_cases hw : WH ma (tds st) se
    · refine ⟨?_, fun h9 => absurd hw h9⟩
      rw [hC st l h0 h1 l0 l1]
      unfold chF
      rw [ifc_f hn, ifc_t hw, t0_]
      omega
    · have e : cg (5 * st + l).toNatClampNeg = bsF (fun s => cbF (fun s => nxF ma mg mt wf wp wt mw ml co ro st s se dp 0) mt mb wy cg l s) 4 := by
        rw [hC st l h0 h1 l0 l1]
        show chF ma mg mt wf wp wt mw ml mb co ro se dp wy cg st l = _
        unfold chF
        rw [ifc_f hn, ifc_f hw]
      have hv : ∀ s : Int32, 0 ≤ s.toInt → s.toInt < 4 → ¬ (nxF ma mg mt wf wp wt mw ml co ro st s se dp 0).toInt < 0 → ¬ (wy (nxF ma mg mt wf wp wt mw ml co ro st s se dp 0).toNatClampNeg).toInt = 0 → 0 ≤ (cbF (fun s => nxF ma mg mt wf wp wt mw ml co ro st s se dp 0) mt mb wy cg l s).toInt ∧ (cbF (fun s => nxF ma mg mt wf wp wt mw ml co ro st s se dp 0) mt mb wy cg l s).toInt ≤ (k : Int) + 1 := by
        intro s s0 s1 h3 h4
        have n9 := nx_ok hR h0 hG (by omega) h3
        have h2 := ht s.toNatClampNeg (show s.toInt.toNat < 4 by omega)
        have h5 := (ih _ n9.1.1 n9.1.2 (by omega) h4 (mt s.toNatClampNeg) h2.1 (by omega)).1
        have hk := sm_rng h0
        unfold cbF
        rw [ifc_f (fun h9 => h9.elim h3 h4)]
        have := t1_
        have := t0_
        by_cases c : 0 < mb.toInt ∧ l.toInt < 4 ∧ ¬ l.toInt = (mt s.toNatClampNeg).toInt
        · rw [if_pos c]
          dsimp only
          have := i_add (x := cg (5 * nxF ma mg mt wf wp wt mw ml co ro st s se dp 0 + mt s.toNatClampNeg).toNatClampNeg) (y := 1) (by omega) (by omega)
          omega
        · rw [if_neg c]
          dsimp only
          have := i_add (x := cg (5 * nxF ma mg mt wf wp wt mw ml co ro st s se dp 0 + mt s.toNatClampNeg).toNatClampNeg) (y := 0) (by omega) (by omega)
          omega
      obtain ⟨s, s01, h3, h4⟩ := wy_ex (hW st h0 h1) hn hw
      have hs9 := hv s s01.1 s01.2 h3 h4
      rcases bs_ex (c := fun s => cbF (fun s => nxF ma mg mt wf wp wt mw ml co ro st s se dp 0) mt mb wy cg l s) (Nat.le_refl 4) with hb | hb
      · exact absurd hs9.1 (hb.2 s s01.1 (by omega))
      · obtain ⟨b0, u, u01, hu⟩ := hb
        rw [e]
        refine ⟨⟨b0, ?_⟩, fun _ => ⟨u, by omega, hu⟩⟩
        have hu' : cbF (fun s => nxF ma mg mt wf wp wt mw ml co ro st s se dp 0) mt mb wy cg l u = bsF (fun s => cbF (fun s => nxF ma mg mt wf wp wt mw ml co ro st s se dp 0) mt mb wy cg l s) 4 := hu
        by_cases c3 : ((nxF ma mg mt wf wp wt mw ml co ro st u se dp 0).toInt < 0 ∨ (wy (nxF ma mg mt wf wp wt mw ml co ro st u se dp 0).toNatClampNeg).toInt = 0)
        · rw [← hu', ← cbF_n (nx := fun s => nxF ma mg mt wf wp wt mw ml co ro st s se dp 0) (s := u) c3, tm6_] at b0
          omega
        · have := hv u u01.1 (by omega) (fun h9 => c3 (Or.inl h9)) (fun h9 => c3 (Or.inr h9))
          rw [hu'] at this
          omega
theorem cb_nx {nx : Int32 → Int32} {l s : Int32} (h : 0 ≤ (cbF nx mt mb wy cg l s).toInt) : ¬ (nx s).toInt < 0 ∧ ¬ (wy (nx s).toNatClampNeg).toInt = 0 := by
  by_cases c3 : ((nx s).toInt < 0 ∨ (wy (nx s).toNatClampNeg).toInt = 0)
  · rw [← cbF_n c3, tm6_] at h; omega
  · exact ⟨fun h9 => c3 (Or.inl h9), fun h9 => c3 (Or.inr h9)⟩
end SH
/-- how many parts a set has -/
def ptF (ma : Nat → Int32) (se : Int32) : Nat → Int
  | 0 => 0
  | n + 1 => ptF ma se n + (if ((se >>> (nI n &&& 31)) &&& 1).toInt = 1 then (ma n).toInt else 0)
theorem pt_t {ma : Nat → Int32} {se x y : Int32} (h0 : 0 ≤ x.toInt) (hy : y.toInt = x.toInt + 1) (h : ((se >>> (x &&& 31)) &&& 1).toInt = 1) : ptF ma se y.toInt.toNat = ptF ma se x.toInt.toNat + (ma x.toNatClampNeg).toInt := by
  rw [show y.toInt.toNat = x.toInt.toNat + 1 by omega, ptF, ← nI_self h0, if_pos h]
  rfl
theorem pt_f {ma : Nat → Int32} {se x y : Int32} (h0 : 0 ≤ x.toInt) (hy : y.toInt = x.toInt + 1) (h : ¬ ((se >>> (x &&& 31)) &&& 1).toInt = 1) : ptF ma se y.toInt.toNat = ptF ma se x.toInt.toNat := by
  rw [show y.toInt.toNat = x.toInt.toNat + 1 by omega, ptF, ← nI_self h0, if_neg h]
  omega
theorem wh_pt {ma : Nat → Int32} {st o se : Int32} (h0 : 0 ≤ st.toInt) (hc : CB ma (tds st) o se) (hw : WH ma (tds st) se) : sm st = ptF ma se 4 := by
  have h4 := t4_
  have h : ∀ j : Nat, j < 4 → (tds st j).toInt = if ((se >>> (nI j &&& 31)) &&& 1).toInt = 1 then (ma j).toInt else 0 := by
    intro j hj
    have e : (nI j).toInt = (j : Int) := nI_toInt (by omega)
    have c := hc.1 (nI j) (by omega) (by omega)
    have w := hw (nI j) (by omega) (by omega)
    simp only [nI_clamp (show j < 2 ^ 31 by omega)] at c w
    have r := tds_rng h0 hj
    unfold bit1 at c
    by_cases h9 : ((se >>> (nI j &&& 31)) &&& 1).toInt = 1
    · rw [if_pos h9]; omega
    · rw [if_neg h9]; omega
  have a0 := h 0 (by omega)
  have a1 := h 1 (by omega)
  have a2 := h 2 (by omega)
  have a3 := h 3 (by omega)
  unfold sm
  rw [ptF, ptF, ptF, ptF, ptF]
  omega
