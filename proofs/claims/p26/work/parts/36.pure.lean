theorem i_shl1x {x : Int32} (h : 0 ≤ x.toInt ∧ x.toInt ≤ 6) : 1 ≤ ((1 : Int32) <<< (x &&& 31)).toInt ∧ ((1 : Int32) <<< (x &&& 31)).toInt ≤ 64 := by
  obtain ⟨j, hj, rfl⟩ : ∃ j : Nat, j ≤ 6 ∧ x = nI j := ⟨x.toInt.toNat, by omega, nI_self h.1⟩
  have h9 : ∀ j : Fin 7, 1 ≤ ((1 : Int32) <<< (nI j.val &&& 31)).toInt ∧ ((1 : Int32) <<< (nI j.val &&& 31)).toInt ≤ 64 := by decide
  exact h9 ⟨j, by omega⟩
/-- where a number may stand in an image -/
def okv (o : Nat) (v : Int32) : Prop := (o = 0 → 0 ≤ v.toInt ∧ v.toInt ≤ 6) ∧ (3 ≤ o ∧ o < 19 ∧ o % 4 = 3 → 0 ≤ v.toInt ∧ v.toInt ≤ 4) ∧ (3 ≤ o ∧ o < 19 ∧ o % 4 = 1 → 0 ≤ v.toInt ∧ v.toInt ≤ 3) ∧ (19 ≤ o ∧ o < 35 → 0 ≤ v.toInt ∧ v.toInt ≤ 9) ∧ (35 ≤ o ∧ o < 53 → 0 ≤ v.toInt ∧ v.toInt ≤ 3)
def KOk (kt : Nat → Int32) : Prop := ∀ n o : Nat, n < 2 → o < 53 → okv o (kt (60 * n + o))
theorem KOk.put {kt : Nat → Int32} {ka kc r v : Int32} (off : Nat) (h : KOk kt) (hb : ka.toInt = 0 ∨ ka.toInt = 60) (hk : kc.toInt = ka.toInt + off) (ho : off < 53) (hr : r = v ∨ r = kt (Int32.toNatClampNeg kc)) (hv : okv off v) : okv off r ∧ KOk (upd kt (Int32.toNatClampNeg kc) r) := by
  have hc : Int32.toNatClampNeg kc = kc.toInt.toNat := rfl
  obtain ⟨m, hm, e⟩ : ∃ m : Nat, m < 2 ∧ Int32.toNatClampNeg kc = 60 * m + off := by
    rcases hb with hb | hb
    · exact ⟨0, by omega, by omega⟩
    · exact ⟨1, by omega, by omega⟩
  have h1 : okv off r := by
    rcases hr with hr | hr
    · rw [hr]; exact hv
    · rw [hr, e]; exact h m off hm ho
  refine ⟨h1, fun n o hn ho2 => ?_⟩
  rw [upd_eq]
  by_cases h9 : 60 * n + o = Int32.toNatClampNeg kc
  · rw [if_pos h9]
    have : o = off := by omega
    rw [this]; exact h1
  · rw [if_neg h9]; exact h n o hn ho2
theorem KOk.z : KOk (fun _ => 0) := fun n o hn ho => by
  show okv o 0
  unfold okv
  have := t0_
  omega
theorem FR.at {f : Nat → Int32} {z x : Int32} {lo hi : Int} {n : Nat} (h : FR f z lo hi) (hv : vp_in x n) (hx : x.toInt < z.toInt) : lo ≤ (f x.toNatClampNeg).toInt ∧ (f x.toNatClampNeg).toInt ≤ hi := h.2 _ (by have := vi_cl hv; omega)
theorem sf_rng {f : Nat → Int32} {n : Nat} : ∀ {i p d : Int32}, 0 ≤ i.toInt → i.toInt + n < 2147483648 → (sf f n i p d = -6 ∨ 0 ≤ (sf f n i p d).toInt) := by
  induction n with
  | zero =>
    intro i p d h0 _
    rw [sf]
    by_cases h : d = 0
    · rw [if_pos h]; exact Or.inl rfl
    · rw [if_neg h]; exact Or.inr h0
  | succ n ih =>
    intro i p d h0 h1
    have := t1_
    have e := i_add (x := i) (y := 1) (by omega) (by omega)
    rw [sf]
    by_cases h : (49 ≤ (f i.toNatClampNeg).toInt ∧ (f i.toNatClampNeg).toInt ≤ 57) ∧ p.toInt < 4
    · rw [if_pos h]; exact ih (by omega) (by omega)
    · rw [if_neg h]
      by_cases h2 : f i.toNatClampNeg = 58 ∧ d = 0 ∧ p.toInt < 4
      · rw [if_pos h2]; exact ih (by omega) (by omega)
      · rw [if_neg h2]; exact Or.inr h0
theorem sfZ_rng {f : Nat → Int32} {z : Int32} (h : 0 ≤ z.toInt ∧ z.toInt ≤ 30) : sfZ f z = -6 ∨ 0 ≤ (sfZ f z).toInt := sf_rng (by rw [t0_]; omega) (by rw [t0_]; omega)
theorem sf_inv {f : Nat → Int32} {z i p d : Int32} (h0 : 0 ≤ i.toInt) (h1 : i.toInt < z.toInt) (h : sf f (z.toInt - i.toInt).toNat i p d = -6) : ((49 ≤ (f i.toNatClampNeg).toInt ∧ (f i.toNatClampNeg).toInt ≤ 57) ∧ p.toInt < 4 ∧ sf f (z.toInt - (i + 1).toInt).toNat (i + 1) (p + 1) 0 = -6) ∨ (f i.toNatClampNeg = 58 ∧ p.toInt < 4 ∧ sf f (z.toInt - (i + 1).toInt).toNat (i + 1) p 1 = -6) := by
  by_cases c : (49 ≤ (f i.toNatClampNeg).toInt ∧ (f i.toNatClampNeg).toInt ≤ 57) ∧ p.toInt < 4
  · rw [sf_dig h0 h1 c.1 c.2] at h
    exact Or.inl ⟨c.1, c.2, h⟩
  · by_cases c2 : f i.toNatClampNeg = 58 ∧ d = 0 ∧ p.toInt < 4
    · rw [sf_col h0 h1 c2.1 c2.2.1 c2.2.2] at h
      exact Or.inr ⟨c2.1, c2.2.2, h⟩
    · rw [sf_bad h0 h1 c c2] at h
      rw [h, tm6_] at h0
      omega
