/-! LEVEL 6: the reference's first evening -/
noncomputable def okR (ma mg mt wf wp wt : Nat → Int32) (mw ml : Int32) (co ro mm mp : Nat → Int32) (mz : Int32) (wy : Nat → Int64) (st : Int32) (k : Nat) : Bool := decide (¬ (hnF ma mg mt wf wp wt mw ml co ro mm mp mz st (nI k)).toInt < 0 ∧ ¬ (wy (Int32.toNatClampNeg (hnF ma mg mt wf wp wt mw ml co ro mm mp mz st (nI k)))).toInt = 0)
def frV (p : Int32 → Nat → Bool) (nt : Int32 → Int32 → Int32) (i : Int32) : Nat → Int32 → Int32 → Int32
  | 0, _, _ => -6
  | n + 1, st, k => if k = i then 97 + fs4 (p st) else frV p nt i n (nt st (fs4 (p st))) (k + 1)
/-- where the walk stands -/
def FRI (p : Int32 → Nat → Bool) (nt : Int32 → Int32 → Int32) (i T st s k : Int32) : Prop := (k.toInt ≤ i.toInt ∧ frV p nt i (i.toInt + 1 - k.toInt).toNat st k = T) ∨ (k.toInt = i.toInt + 1 ∧ 97 + s = T)
theorem FRI.z {p : Int32 → Nat → Bool} {nt : Int32 → Int32 → Int32} {i s : Int32} (h : 0 ≤ i.toInt) : FRI p nt i (frV p nt i (i.toInt + 1).toNat 0 0) 0 s 0 := Or.inl ⟨by rw [t0_]; exact h, by rw [t0_, Int.sub_zero]⟩
theorem FRI.go {p : Int32 → Nat → Bool} {nt : Int32 → Int32 → Int32} {i T st s0 s k k2 st2 : Int32} (h : FRI p nt i T st s0 k) (hk : k.toInt ≤ i.toInt) (h2 : k2.toInt = k.toInt + 1) (e2 : k2 = k + 1) (hs : fs4 (p st) = s) (hn : st2 = nt st s) : FRI p nt i T st2 s k2 := by
  rcases h with ⟨_, h⟩ | ⟨h, _⟩
  · rw [show (i.toInt + 1 - k.toInt).toNat = (i.toInt + 1 - k2.toInt).toNat + 1 by omega, frV, hs] at h
    by_cases c : k = i
    · rw [if_pos c] at h
      exact Or.inr ⟨by rw [h2, c], h⟩
    · rw [if_neg c, ← hn, ← e2] at h
      have : ¬ k.toInt = i.toInt := fun q => c (i_eq.mpr q)
      exact Or.inl ⟨by omega, h⟩
  · omega
theorem FRI.out {p : Int32 → Nat → Bool} {nt : Int32 → Int32 → Int32} {i T st s k : Int32} (h : FRI p nt i T st s k) (hk : i.toInt < k.toInt) : 97 + s = T := by
  rcases h with ⟨h, _⟩ | ⟨_, h⟩
  · omega
  · exact h
