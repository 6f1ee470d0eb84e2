/-! LEVEL 4: the reference's table of ways, as a fixed point; rings, waits to drop -/
def WFX (ma mg mt wf wp wt : Nat → Int32) (mw ml : Int32) (co ro : Nat → Int32) (se de dr : Int32) (wy : Nat → Int64) : Prop := ∀ st : Int32, 0 ≤ st.toInt → st.toInt < 40625 → wy st.toNatClampNeg = wsF ma mg mt wf wp wt mw ml co ro se de dr wy st
theorem l_0 {x : Int64} : x = 0 ↔ x.toInt = (0 : Int64).toInt := Int64.toInt_inj.symm
/-- the best as far up as x -/
def EVD (W : Int32 → (Nat → Int64) → Prop) (d : Int32) : Prop := ∃ wy : Nat → Int64, W d wy ∧ (0 : Int64).toInt < (wy 0).toInt
def NVD (W : Int32 → (Nat → Int64) → Prop) (d : Int32) : Prop := ∃ wy : Nat → Int64, W d wy ∧ ¬ (0 : Int64).toInt < (wy 0).toInt
def pcO (d : Nat) : Int := (onesF (nI d)).toInt
def LXO (b d : Nat) : Prop := pcO b < pcO d ∨ (pcO b = pcO d ∧ b ≤ d)
def RDI (W : Int32 → (Nat → Int64) → Prop) (best : Int32) (x : Int) : Prop := (best = -6 ∧ ∀ d : Nat, (d : Int) < x → NVD W (nI d)) ∨ ∃ b : Nat, (b : Int) < x ∧ best = nI b ∧ EVD W (nI b) ∧ ∀ d : Nat, (d : Int) < x → NVD W (nI d) ∨ LXO b d
theorem RDI.z {W : Int32 → (Nat → Int64) → Prop} {x : Int} (h : x = 0) : RDI W (-6) x := Or.inl ⟨rfl, fun d hd => by omega⟩
theorem RDI.skip {W : Int32 → (Nat → Int64) → Prop} {best x : Int32} {y : Int} (h : RDI W best x.toInt) (h0 : 0 ≤ x.toInt) (hy : y = x.toInt + 1) (hb : ¬ best.toInt < 0) (hg : (onesF best).toInt ≤ (onesF x).toInt) : RDI W best y := by
  rcases h with ⟨e, _⟩ | ⟨b, b1, b2, b3, b4⟩
  · rw [e, tm6_] at hb; omega
  · refine Or.inr ⟨b, by omega, b2, b3, fun d hd => ?_⟩
    by_cases c : (d : Int) = x.toInt
    · right
      have ex : x = nI d := by rw [show d = x.toInt.toNat by omega]; exact nI_self h0
      have le : pcO b ≤ pcO d := by unfold pcO; rw [← ex, ← b2]; exact hg
      by_cases q : pcO b = pcO d
      · exact Or.inr ⟨q, by omega⟩
      · exact Or.inl (by omega)
    · exact b4 d (by omega)
theorem RDI.no {W : Int32 → (Nat → Int64) → Prop} {best x : Int32} {y : Int} {wy : Nat → Int64} (h : RDI W best x.toInt) (h0 : 0 ≤ x.toInt) (hy : y = x.toInt + 1) (hw : W x wy) (hn : ¬ (0 : Int64).toInt < (wy 0).toInt) : RDI W best y := by
  have z : NVD W (nI x.toInt.toNat) := by rw [← nI_self h0]; exact ⟨wy, hw, hn⟩
  rcases h with ⟨e, e2⟩ | ⟨b, b1, b2, b3, b4⟩
  · refine Or.inl ⟨e, fun d hd => ?_⟩
    by_cases c : d = x.toInt.toNat
    · rw [c]; exact z
    · exact e2 d (by omega)
  · refine Or.inr ⟨b, by omega, b2, b3, fun d hd => ?_⟩
    by_cases c : d = x.toInt.toNat
    · rw [c]; exact Or.inl z
    · exact b4 d (by omega)
theorem RDI.take {W : Int32 → (Nat → Int64) → Prop} {best x : Int32} {y : Int} {wy : Nat → Int64} (h : RDI W best x.toInt) (h0 : 0 ≤ x.toInt) (hy : y = x.toInt + 1) (hl : best.toInt < 0 ∨ (onesF x).toInt < (onesF best).toInt) (hr : 0 ≤ best.toInt ∨ best = -6) (hw : W x wy) (hn : (0 : Int64).toInt < (wy 0).toInt) : RDI W x y := by
  have ex : x = nI x.toInt.toNat := nI_self h0
  refine Or.inr ⟨x.toInt.toNat, by omega, ex, by rw [← ex]; exact ⟨wy, hw, hn⟩, fun d hd => ?_⟩
  by_cases c : d = x.toInt.toNat
  · right; right; rw [c]; exact ⟨rfl, Nat.le_refl _⟩
  · rcases h with ⟨_, e2⟩ | ⟨b, b1, b2, b3, b4⟩
    · exact Or.inl (e2 d (by omega))
    · have bb : ¬ best.toInt < 0 := by
        rw [b2]
        by_cases q : b < 2 ^ 31
        · rw [nI_toInt q]; omega
        · exfalso; have := i_rng x; omega
      have lt : pcO x.toInt.toNat < pcO b := by
        unfold pcO; rw [← ex, ← b2]
        rcases hl with q | q
        · exact absurd q bb
        · exact q
      rcases b4 d (by omega) with q | q | q
      · exact Or.inl q
      · right; left; omega
      · right; left; omega
