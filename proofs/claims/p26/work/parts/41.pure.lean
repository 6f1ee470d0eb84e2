section HD
variable {ma mg mt wf wp wt : Nat → Int32} {mw ml : Int32} {co ro mm mp : Nat → Int32} {mz : Int32} {wy : Nat → Int64}
noncomputable def hnF (ma mg mt wf wp wt : Nat → Int32) (mw ml : Int32) (co ro mm mp : Nat → Int32) (mz st s : Int32) : Int32 :=
  ifc (mz.toInt ≤ (tds st 0 + tds st 1 + tds st 2 + tds st 3).toInt ∨ (tds st s.toNatClampNeg).toInt = (ma s.toNatClampNeg).toInt ∨ ¬ (mm (Int32.toNatClampNeg (4 * s + tds st s.toNatClampNeg))).toInt = (mp (Int32.toNatClampNeg (tds st 0 + tds st 1 + tds st 2 + tds st 3)) - 48).toInt) (-6) (nxF ma mg mt wf wp wt mw ml co ro st s 15 4 0)
theorem hn_ok {st s : Int32} (hR : RT co ro) (h0 : 0 ≤ st.toInt) (hG : GS ma co st) (hs : 0 ≤ s.toInt ∧ s.toInt ≤ 3) (h : ¬ (hnF ma mg mt wf wp wt mw ml co ro mm mp mz st s).toInt < 0) : (0 ≤ (hnF ma mg mt wf wp wt mw ml co ro mm mp mz st s).toInt ∧ (hnF ma mg mt wf wp wt mw ml co ro mm mp mz st s).toInt < 40625) ∧ GS ma co (hnF ma mg mt wf wp wt mw ml co ro mm mp mz st s) ∧ sm (hnF ma mg mt wf wp wt mw ml co ro mm mp mz st s) = sm st + 1 := by
  revert h
  unfold hnF
  by_cases c : mz.toInt ≤ (tds st 0 + tds st 1 + tds st 2 + tds st 3).toInt ∨ (tds st s.toNatClampNeg).toInt = (ma s.toNatClampNeg).toInt ∨ ¬ (mm (Int32.toNatClampNeg (4 * s + tds st s.toNatClampNeg))).toInt = (mp (Int32.toNatClampNeg (tds st 0 + tds st 1 + tds st 2 + tds st 3)) - 48).toInt
  · rw [ifc_t c, tm6_]; omega
  · rw [ifc_f c]; exact nx_ok hR h0 hG hs
noncomputable def hdF (ma mg mt wf wp wt : Nat → Int32) (mw ml : Int32) (co ro mm mp : Nat → Int32) (mz : Int32) (wy : Nat → Int64) (st : Int32) : Int64 :=
  ifc (CB ma (tds st) (opS co st) 15) (ifc (sm st = mz.toInt) 1 (ifc (sm st < mz.toInt) (swF (fun s => hnF ma mg mt wf wp wt mw ml co ro mm mp mz st s) wy 4) 0)) 0
theorem hd_0 {st : Int32} (h : ¬ CB ma (tds st) (opS co st) 15) : 0 = hdF ma mg mt wf wp wt mw ml co ro mm mp mz wy st := by unfold hdF; rw [ifc_f h]
theorem hd_1 {st : Int32} (h : CB ma (tds st) (opS co st) 15) (h1 : sm st = mz.toInt) : 1 = hdF ma mg mt wf wp wt mw ml co ro mm mp mz wy st := by unfold hdF; rw [ifc_t h, ifc_t h1]
theorem hd_b {st : Int32} (h1 : ¬ sm st = mz.toInt) (h2 : ¬ sm st < mz.toInt) : 0 = hdF ma mg mt wf wp wt mw ml co ro mm mp mz wy st := by
  by_cases h : CB ma (tds st) (opS co st) 15
  · unfold hdF; rw [ifc_t h, ifc_f h1, ifc_f h2]
  · exact hd_0 h
theorem hd_s {st : Int32} (h : CB ma (tds st) (opS co st) 15) (h2 : sm st < mz.toInt) : swF (fun s => hnF ma mg mt wf wp wt mw ml co ro mm mp mz st s) wy 4 = hdF ma mg mt wf wp wt mw ml co ro mm mp mz wy st := by unfold hdF; rw [ifc_t h, ifc_f (by omega), ifc_t h2]
theorem hd_lc (hp : POk ma) (hR : RT co ro) : Lc (hdF ma mg mt wf wp wt mw ml co ro mm mp mz) := by
  intro w w' st h0 h1 h
  by_cases c1 : CB ma (tds st) (opS co st) 15
  · by_cases c2 : sm st < mz.toInt
    · rw [← hd_s c1 c2, ← hd_s c1 c2]
      refine swF_congr (Nat.le_refl 4) fun j hj hn => ?_
      have e : (nI j).toInt = (j : Int) := nI_toInt (by omega)
      have h9 := hn_ok hR h0 (c1.gd hp hR.1 h0) (by omega) hn
      exact h _ h9.1.1 h9.1.2 h9.2.2
    · by_cases c3 : sm st = mz.toInt
      · rw [← hd_1 c1 c3, ← hd_1 c1 c3]
      · rw [← hd_b c3 c2, ← hd_b c3 c2]
  · rw [← hd_0 c1, ← hd_0 c1]
theorem hd_cb {st : Int32} (h : wy st.toNatClampNeg = hdF ma mg mt wf wp wt mw ml co ro mm mp mz wy st) (hn : ¬ (wy st.toNatClampNeg).toInt = 0) : CB ma (tds st) (opS co st) 15 := by
  refine Classical.byContradiction fun c => hn ?_
  rw [h, ← hd_0 c]
  exact l0_
theorem hd_ex {st : Int32} (h : wy st.toNatClampNeg = hdF ma mg mt wf wp wt mw ml co ro mm mp mz wy st) (hn : ¬ (wy st.toNatClampNeg).toInt = 0) (hs : sm st < mz.toInt) : ∃ y : Int32, (0 : Int32).toInt ≤ y.toInt ∧ y.toInt ≤ 3 ∧ ¬ (hnF ma mg mt wf wp wt mw ml co ro mm mp mz st y).toInt < 0 ∧ ¬ (wy (hnF ma mg mt wf wp wt mw ml co ro mm mp mz st y).toNatClampNeg).toInt = 0 := by
  have c := hd_cb h hn
  rw [← hd_s c hs] at h
  obtain ⟨s, h1, h2, h3⟩ := swF_ex (Nat.le_refl 4) (fun h9 => hn (by rw [h, h9]; exact l0_))
  exact ⟨s, by rw [t0_]; omega, by omega, h2, l_nz h3⟩
end HD
