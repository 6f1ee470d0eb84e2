/-- how many rows have a lesser code -/
def cntR : Nat → Nat
  | 0 => 0
  | n + 1 => cntR n + (if rowN n then 1 else 0)
theorem cnt_mono {a b : Nat} (h : a ≤ b) : cntR a ≤ cntR b := by
  induction b with
  | zero => rw [Nat.le_zero.mp h]; exact Nat.le_refl _
  | succ b ih =>
    by_cases h9 : a = b + 1
    · rw [h9]; exact Nat.le_refl _
    · have := ih (by omega)
      rw [cntR]; omega
set_option maxRecDepth 100000 in
theorem cnt_all : cntR 625 = 65 := by decide +kernel
theorem cnt_lt {a b : Nat} (h : a < b) (hr : rowN a = true) : cntR a < cntR b := by
  have := cnt_mono (show a + 1 ≤ b from h)
  rw [cntR, if_pos hr] at this
  omega
/-- the tables of rows, as far as n -/
def RI (ro co : Nat → Int32) (n : Nat) : Prop := (∀ c : Nat, c < n → rowN c = true → ro c = nI (cntR c) ∧ co (cntR c) = nI c) ∧ ∀ j : Nat, j < cntR n → ∃ c : Nat, c < n ∧ rowN c = true ∧ co j = nI c
theorem RI.z {ro co : Nat → Int32} : RI ro co 0 := ⟨fun c h => by omega, fun j h => by rw [cntR] at h; omega⟩
theorem RI.no {ro co : Nat → Int32} {n : Nat} (h : RI ro co n) (hr : rowN n = false) : RI ro co (n + 1) := by
  have e : cntR (n + 1) = cntR n := by rw [cntR, hr]; rfl
  refine ⟨fun c hc hcr => ?_, fun j hj => ?_⟩
  · have : ¬ c = n := fun h9 => by rw [h9, hr] at hcr; exact absurd hcr (by decide)
    exact h.1 c (by omega) hcr
  · rw [e] at hj
    obtain ⟨c, h1, h2⟩ := h.2 j hj
    exact ⟨c, by omega, h2⟩
theorem RI.yes {ro co : Nat → Int32} {n : Nat} (h : RI ro co n) (hr : rowN n = true) : RI (upd ro n (nI (cntR n))) (upd co (cntR n) (nI n)) (n + 1) := by
  have e : cntR (n + 1) = cntR n + 1 := by rw [cntR, hr]; rfl
  refine ⟨fun c hc hcr => ?_, fun j hj => ?_⟩
  · by_cases h9 : c = n
    · rw [h9, upd_eq, if_pos rfl, upd_eq, if_pos rfl]; exact ⟨rfl, rfl⟩
    · have h8 := cnt_lt (show c < n by omega) hcr
      rw [upd_eq, if_neg h9, upd_eq, if_neg (by omega)]
      exact h.1 c (by omega) hcr
  · rw [e] at hj
    by_cases h9 : j = cntR n
    · exact ⟨n, by omega, hr, by rw [upd_eq, if_pos h9]⟩
    · obtain ⟨c, h1, h2, h3⟩ := h.2 j (by omega)
      exact ⟨c, by omega, h2, by rw [upd_eq, if_neg h9]; exact h3⟩
theorem RI.rt {ro co : Nat → Int32} (h : RI ro co 625) : RT co ro := by
  refine ⟨fun j hj => ?_, ?_, fun o ho => ?_⟩
  · obtain ⟨c, h1, h2, h3⟩ := h.2 j (by rw [cnt_all]; exact hj)
    exact ⟨c, h1, beq_iff_eq.mp h2, h3⟩
  · exact (h.1 0 (by omega) (by decide +kernel)).2
  · obtain ⟨c, h1, h2, rfl⟩ := ho
    have hr : rowN c = true := beq_iff_eq.mpr h2
    have h3 := h.1 c h1 hr
    have h4 := cnt_lt h1 hr
    rw [cnt_all] at h4
    rw [nI_clamp (show c < 2 ^ 31 by omega), h3.1, nI_toInt (by omega), nI_clamp (by omega)]
    exact ⟨by omega, by omega, h3.2⟩
theorem row_t {x r : Int32} {n : Nat} (hx : x = nI n) (h : r = rowP x) (h0 : ¬ r.toInt = 0) (h1 : r.toInt = 0 ∨ r.toInt = 1) : rowN n = true := by
  refine beq_iff_eq.mpr ?_
  rw [← hx, ← h]
  exact i_eq.mpr (by rw [t1_]; omega)
theorem row_f {x r : Int32} {n : Nat} (hx : x = nI n) (h : r = rowP x) (h0 : r.toInt = 0) : rowN n = false := by
  refine beq_eq_false_iff_ne.mpr fun h9 => ?_
  rw [← hx, ← h] at h9
  rw [h9, t1_] at h0
  omega
theorem RI.yes2 {ro co : Nat → Int32} {x y : Int32} (h0 : 0 ≤ x.toInt) (h1 : x.toInt < 625) (h : RI ro co x.toInt.toNat) (hy : y.toInt = (cntR x.toInt.toNat : Int)) (hr : rowN x.toInt.toNat = true) {x' : Int32} (hx' : x'.toInt = x.toInt + 1) : RI (upd ro x.toNatClampNeg y) (upd co y.toNatClampNeg x) x'.toInt.toNat := by
  have e := h.yes hr
  have hy2 : y = nI (cntR x.toInt.toNat) := by
    refine i_eq.mpr ?_
    have := cnt_mono (show x.toInt.toNat ≤ 625 by omega)
    rw [cnt_all] at this
    rw [nI_toInt (by omega)]
    exact hy
  have hy3 : y.toNatClampNeg = cntR x.toInt.toNat := by show y.toInt.toNat = _; omega
  rw [show x'.toInt.toNat = x.toInt.toNat + 1 by omega, hy3, hy2]
  rw [← nI_self h0] at e
  exact e
theorem POk.z : POk (fun _ => 0) := fun j hj => by show 0 ≤ (0 : Int32).toInt ∧ (0 : Int32).toInt ≤ 4; decide
theorem TOk.z : TOk (fun _ => 0) := fun j hj => by show 0 ≤ (0 : Int32).toInt ∧ (0 : Int32).toInt ≤ 3; decide
theorem MOk.z : MOk (fun _ => 0) := fun j hj => by show 0 ≤ (0 : Int32).toInt ∧ (0 : Int32).toInt ≤ 9; decide
theorem SOk.z : SOk (fun _ => 0) := fun j hj => by show 0 ≤ (0 : Int32).toInt ∧ (0 : Int32).toInt ≤ 3; decide
theorem Z01.z : Z01 (fun _ => 0) := fun j => Or.inl t0_
