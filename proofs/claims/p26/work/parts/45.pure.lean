/-- how many rows have a lesser code -/
def cntR : Nat → Nat
  | 0 => 0
  | n + 1 => cntR n + (if rowN n then 1 else 0)
theorem cnt_mono {a b : Nat} (h : a ≤ b) : cntR a ≤ cntR b := by
  induction b with
  | zero => rw [Nat.le_zero.mp h]; exact Nat.le_refl _
  | succ b ih =>
    by_cases h9 : a = b + 1
    · rw [h9]; exact Nat.le_refl _
    · have := ih (by omega)
      rw [cntR]; omega
set_option maxRecDepth 100000 in
theorem cnt_all : cntR 625 = 65 := by decide +kernel
theorem cnt_lt {a b : Nat} (h : a < b) (hr : rowN a = true) : cntR a < cntR b := by
  have := cnt_mono (show a + 1 ≤ b from h)
  rw [cntR, if_pos hr] at this
  omega
/-- the tables of rows, as far as n -/
def RI (ro co : Nat → Int32) (n : Nat) : Prop := (∀ c : Nat, c < n → rowN c = true → ro c = nI (cntR c) ∧ co (cntR c) = nI c) ∧ ∀ j : Nat, j < cntR n → ∃ c : Nat, c < n ∧ rowN c = true ∧ co j = nI c
theorem RI.z {ro co : Nat → Int32} : RI ro co 0 := ⟨fun c h => by omega, fun j h => by rw [cntR] at h; omega⟩
theorem RI.no {ro co : Nat → Int32} {n : Nat} (h : RI ro co n) (hr : rowN n = false) : RI ro co (n + 1) := by
  have e : cntR (n + 1) = cntR n := by rw [cntR, hr]; rfl
  refine ⟨fun c hc hcr => ?_, fun j hj => ?_⟩
  · have : ¬ c = n := fun h9 => by rw [h9, hr] at hcr; exact absurd hcr (by decide)
    exact h.1 c (by omega) hcr
  · rw [e] at hj
    obtain ⟨c, h1, h2⟩ := h.2 j hj
    exact ⟨c, by omega, h2⟩
theorem RI.yes {ro co : Nat → Int32} {n : Nat} (h : RI ro co n) (hr : rowN n = true) : RI (upd ro n (nI (cntR n))) (upd co (cntR n) (nI n)) (n + 1) := by
  have e : cntR (n + 1) = cntR n + 1 := by rw [cntR, hr]; rfl
  refine ⟨fun c hc hcr => ?_, fun j hj => ?_⟩
  · by_cases h9 : c = n
    · rw [h9, upd_eq, if_pos rfl, upd_eq, if_pos rfl]; exact ⟨rfl, rfl⟩
    · have h8 := cnt_lt (show c < n by omega) hcr
      rw [upd_eq, if_neg h9, upd_eq, if_neg (by omega)]
      exact h.1 c (by omega) hcr
  · rw [e] at hj
    by_cases h9 : j = cntR n
    · exact ⟨n, by omega, hr, by rw [upd_eq, if_pos h9]⟩
    · obtain ⟨c, h1, h2, h3⟩ := h.2 j (by omega)
      exact ⟨c, by omega, h2, by rw [upd_eq, if_neg h9]; exact h3⟩
theorem RI.rt {ro co : Nat → Int32} (h : RI ro co 625) : RT co ro := by
  refine ⟨fun j hj => ?_, ?_, fun o ho => ?_⟩
  · obtain ⟨c, h1, h2, h3⟩ := h.2 j (by rw [cnt_all]; exact hj)
    exact ⟨c, h1, beq_iff_eq.mp h2, h3⟩
  · exact (h.1 0 (by omega) (by decide +kernel)).2
  · obtain ⟨c, h1, h2, rfl⟩ := ho
    have hr : rowN c = true := beq_iff_eq.mpr h2
    have h3 := h.1 c h1 hr
    have h4 := cnt_lt h1 hr
    rw [cnt_all] at h4
    rw [nI_clamp (show c < 2 ^ 31 by omega), h3.1, nI_toInt (by omega), nI_clamp (by omega)]
    exact ⟨by omega, by omega, h3.2⟩
theorem row_t {x r : Int32} {n : Nat} (hx : x = nI n) (h : r = rowP x) (h0 : ¬ r.toInt = 0) (h1 : r.toInt = 0 ∨ r.toInt = 1) : rowN n = true := by
  refine beq_iff_eq.mpr ?_
  rw [← hx, ← h]
  exact i_eq.mpr (by rw [t1_]; omega)
theorem row_f {x r : Int32} {n : Nat} (hx : x = nI n) (h : r = rowP x) (h0 : r.toInt = 0) : rowN n = false := by
  refine beq_eq_false_iff_ne.mpr fun h9 => ?_
  rw [← hx, ← h] at h9
  rw [h9, t1_] at h0
  omega
theorem RI.yes2 {ro co : Nat → Int32} {x y : Int32} (h0 : 0 ≤ x.toInt) (h1 : x.toInt < 625) (h : RI ro co x.toInt.toNat) (hy : y.toInt = (cntR x.toInt.toNat : Int)) (hr : rowN x.toInt.toNat = true) {x' : Int32} (hx' : x'.toInt = x.toInt + 1) : RI (upd ro x.toNatClampNeg y) (upd co y.toNatClampNeg x) x'.toInt.toNat := by
  have e := h.yes hr
  have hy2 : y = nI (cntR x.toInt.toNat) := by
    refine i_eq.mpr ?_
    have := cnt_mono (show x.toInt.toNat ≤ 625 by omega)
    rw [cnt_all] at this
    rw [nI_toInt (by omega)]
    exact hy
  have hy3 : y.toNatClampNeg = cntR x.toInt.toNat := by show y.toInt.toNat = _; omega
  rw [show x'.toInt.toNat = x.toInt.toNat + 1 by omega, hy3, hy2]
  rw [← nI_self h0] at e
  exact e
theorem POk.z : POk (fun _ => 0) := fun j hj => by show 0 ≤ (0 : Int32).toInt ∧ (0 : Int32).toInt ≤ 4; decide
theorem TOk.z : TOk (fun _ => 0) := fun j hj => by show 0 ≤ (0 : Int32).toInt ∧ (0 : Int32).toInt ≤ 3; decide
theorem MOk.z : MOk (fun _ => 0) := fun j hj => by show 0 ≤ (0 : Int32).toInt ∧ (0 : Int32).toInt ≤ 9; decide
theorem SOk.z : SOk (fun _ => 0) := fun j hj => by show 0 ≤ (0 : Int32).toInt ∧ (0 : Int32).toInt ≤ 3; decide
theorem Z01.z : Z01 (fun _ => 0) := fun j => Or.inl t0_
theorem upd_self (f : Nat → Int32) (k j : Nat) : upd f k (f k) j = f j := by
  rw [upd_eq]
  by_cases h : j = k
  · rw [if_pos h, h]
  · rw [if_neg h]
/-- what stands at a place of an image -/
def fo (ma mm mg mt mk wf wp wt : Nat → Int32) (mw ml mb : Int32) (o : Nat) : Int32 :=
  if o = 0 then mw else if o = 1 then ml else if o = 2 then mb else if o < 19 then (if o % 4 = 3 then ma ((o - 3) / 4) else if o % 4 = 0 then mg ((o - 3) / 4) else if o % 4 = 1 then mt ((o - 3) / 4) else mk ((o - 3) / 4)) else if o < 35 then mm (o - 19) else if o % 3 = 2 then wf ((o - 35) / 3) else if o % 3 = 0 then wp ((o - 35) / 3) else wt ((o - 35) / 3)
section FO
variable {ma mm mg mt mk wf wp wt : Nat → Int32} {mw ml mb : Int32}
theorem fo_ma {j : Nat} (h : j < 4) : fo ma mm mg mt mk wf wp wt mw ml mb (3 + 4 * j) = ma j := by
  unfold fo
  rw [if_neg (by omega), if_neg (by omega), if_neg (by omega), if_pos (by omega), if_pos (by omega), show (3 + 4 * j - 3) / 4 = j by omega]
theorem fo_mg {j : Nat} (h : j < 4) : fo ma mm mg mt mk wf wp wt mw ml mb (4 + 4 * j) = mg j := by
  unfold fo
  rw [if_neg (by omega), if_neg (by omega), if_neg (by omega), if_pos (by omega), if_neg (by omega), if_pos (by omega), show (4 + 4 * j - 3) / 4 = j by omega]
theorem fo_mt {j : Nat} (h : j < 4) : fo ma mm mg mt mk wf wp wt mw ml mb (5 + 4 * j) = mt j := by
  unfold fo
  rw [if_neg (by omega), if_neg (by omega), if_neg (by omega), if_pos (by omega), if_neg (by omega), if_neg (by omega), if_pos (by omega), show (5 + 4 * j - 3) / 4 = j by omega]
theorem fo_mk {j : Nat} (h : j < 4) : fo ma mm mg mt mk wf wp wt mw ml mb (6 + 4 * j) = mk j := by
  unfold fo
  rw [if_neg (by omega), if_neg (by omega), if_neg (by omega), if_pos (by omega), if_neg (by omega), if_neg (by omega), if_neg (by omega), show (6 + 4 * j - 3) / 4 = j by omega]
theorem fo_mm {j : Nat} (h : j < 16) : fo ma mm mg mt mk wf wp wt mw ml mb (19 + j) = mm j := by
  unfold fo
  rw [if_neg (by omega), if_neg (by omega), if_neg (by omega), if_neg (by omega), if_pos (by omega), show 19 + j - 19 = j by omega]
theorem fo_wf {j : Nat} (h : j < 6) : fo ma mm mg mt mk wf wp wt mw ml mb (35 + 3 * j) = wf j := by
  unfold fo
  rw [if_neg (by omega), if_neg (by omega), if_neg (by omega), if_neg (by omega), if_neg (by omega), if_pos (by omega), show (35 + 3 * j - 35) / 3 = j by omega]
theorem fo_wp {j : Nat} (h : j < 6) : fo ma mm mg mt mk wf wp wt mw ml mb (36 + 3 * j) = wp j := by
  unfold fo
  rw [if_neg (by omega), if_neg (by omega), if_neg (by omega), if_neg (by omega), if_neg (by omega), if_neg (by omega), if_pos (by omega), show (36 + 3 * j - 35) / 3 = j by omega]
theorem fo_wt {j : Nat} (h : j < 6) : fo ma mm mg mt mk wf wp wt mw ml mb (37 + 3 * j) = wt j := by
  unfold fo
  rw [if_neg (by omega), if_neg (by omega), if_neg (by omega), if_neg (by omega), if_neg (by omega), if_neg (by omega), if_neg (by omega), show (37 + 3 * j - 35) / 3 = j by omega]
theorem fo_ok (hmw : 0 ≤ mw.toInt ∧ mw.toInt ≤ 6) (hpa : POk ma) (hte : TOk mt) (hmm : MOk mm) (hwf : SOk wf) (hwp : SOk wp) (hwt : SOk wt) {o : Nat} (ho : o < 53) : okv o (fo ma mm mg mt mk wf wp wt mw ml mb o) := by
  refine ⟨fun h => ?_, fun h => ?_, fun h => ?_, fun h => ?_, fun h => ?_⟩
  · subst h; exact hmw
  · obtain ⟨j, hj, e⟩ : ∃ j : Nat, j < 4 ∧ o = 3 + 4 * j := ⟨(o - 3) / 4, by omega, by omega⟩
    rw [e, fo_ma hj]; exact hpa j hj
  · obtain ⟨j, hj, e⟩ : ∃ j : Nat, j < 4 ∧ o = 5 + 4 * j := ⟨(o - 5) / 4, by omega, by omega⟩
    rw [e, fo_mt hj]; exact hte j hj
  · obtain ⟨j, hj, e⟩ : ∃ j : Nat, j < 16 ∧ o = 19 + j := ⟨o - 19, by omega, by omega⟩
    rw [e, fo_mm hj]; exact hmm j hj
  · rcases (show o % 3 = 2 ∨ o % 3 = 0 ∨ o % 3 = 1 by omega) with c | c | c
    · obtain ⟨j, hj, e⟩ : ∃ j : Nat, j < 6 ∧ o = 35 + 3 * j := ⟨(o - 35) / 3, by omega, by omega⟩
      rw [e, fo_wf hj]; exact hwf j hj
    · obtain ⟨j, hj, e⟩ : ∃ j : Nat, j < 6 ∧ o = 36 + 3 * j := ⟨(o - 36) / 3, by omega, by omega⟩
      rw [e, fo_wp hj]; exact hwp j hj
    · obtain ⟨j, hj, e⟩ : ∃ j : Nat, j < 6 ∧ o = 37 + 3 * j := ⟨(o - 37) / 3, by omega, by omega⟩
      rw [e, fo_wt hj]; exact hwt j hj
end FO
/-- an image's row, written as far as n -/
def kw (kt : Nat → Int32) (b : Nat) (g : Nat → Int32) (n : Nat) : Nat → Int32 := fun j => if b ≤ j ∧ j < b + n then g (j - b) else kt j
theorem kw_z {kt : Nat → Int32} {b : Nat} {g : Nat → Int32} : kw kt b g 0 = kt := funext fun j => if_neg (by omega)
theorem kw_step {kt f : Nat → Int32} {b n n' : Nat} {g : Nat → Int32} {kc x : Int32} (h : f = kw kt b g n) (hk : kc.toInt = (b : Int) + n) (hx : x = g n) (hn : n' = n + 1) : upd f (Int32.toNatClampNeg kc) x = kw kt b g n' := by
  subst h hx hn
  have hc : Int32.toNatClampNeg kc = b + n := by show kc.toInt.toNat = b + n; omega
  refine funext fun j => ?_
  rw [upd_eq, hc]
  unfold kw
  by_cases c : j = b + n
  · rw [if_pos c, if_pos (by omega), c, show b + n - b = n by omega]
  · rw [if_neg c]
    by_cases c2 : b ≤ j ∧ j < b + n
    · rw [if_pos c2, if_pos (by omega)]
    · rw [if_neg c2, if_neg (by omega)]
theorem kw_in {kt : Nat → Int32} {b n o : Nat} {g : Nat → Int32} (h : o < n) : kw kt b g n (b + o) = g o := by
  unfold kw
  rw [if_pos (by omega), show b + o - b = o by omega]
theorem kw_out {kt : Nat → Int32} {b n j : Nat} {g : Nat → Int32} (h : ¬ (b ≤ j ∧ j < b + n)) : kw kt b g n j = kt j := if_neg h
theorem KOk.kw {kt g : Nat → Int32} {b : Nat} (h : KOk kt) (hb : b = 0 ∨ b = 60) (hg : ∀ o, o < 53 → okv o (g o)) : KOk (kw kt b g 53) := fun n o hn ho => by
  by_cases c : b ≤ 60 * n + o ∧ 60 * n + o < b + 53
  · rw [show 60 * n + o = b + o by omega, kw_in ho]; exact hg o ho
  · rw [kw_out c]; exact h n o hn ho
/-- a row read out of an image -/
def VW (kt : Nat → Int32) (c d : Nat) (f : Nat → Int32) (x : Int) : Prop := ∀ j : Nat, (j : Int) < x → f j = kt (c + d * j)
theorem VW.z {kt f : Nat → Int32} {c d : Nat} {x : Int} (h : x = 0) : VW kt c d f x := fun j hj => by omega
theorem VW.go {kt f : Nat → Int32} {c d : Nat} {x x' : Int} {y kc : Int32} (h : VW kt c d f x) (hy : y.toInt = x) (h0 : 0 ≤ x) (hk : kc.toInt = (c : Int) + d * x) (hx : x' = x + 1) : VW kt c d (upd f (Int32.toNatClampNeg y) (kt (Int32.toNatClampNeg kc))) x' := by
  subst hx
  intro j hj
  rw [upd_eq]
  have e : Int32.toNatClampNeg y = x.toNat := by show y.toInt.toNat = x.toNat; omega
  rw [e]
  by_cases c9 : j = x.toNat
  · rw [if_pos c9]
    congr 1
    show kc.toInt.toNat = _
    have : (j : Int) = x := by omega
    rw [hk, ← this]
    have : (c : Int) + d * (j : Int) = ((c + d * j : Nat) : Int) := by simp
    rw [this]
    rfl
  · rw [if_neg c9]; exact h j (by omega)
def mkK (wf wp : Nat → Int32) (s c : Int32) (j : Nat) : Bool := decide (¬ ((wf j).toInt = s.toInt ∧ c.toInt ≤ (wp j).toInt))
theorem mkK_t {wf wp : Nat → Int32} {s c : Int32} {j : Nat} (h : ¬ ((wf j).toInt = s.toInt ∧ c.toInt ≤ (wp j).toInt)) : mkK wf wp s c j = true := by unfold mkK; rw [decide_eq_true_eq]; exact h
theorem mkK_f {wf wp : Nat → Int32} {s c : Int32} {j : Nat} (h : (wf j).toInt = s.toInt ∧ c.toInt ≤ (wp j).toInt) : mkK wf wp s c j = false := by unfold mkK; rw [decide_eq_false_iff_not]; exact fun h9 => h9 h
def WM (ma : Nat → Int32) (s p o mw : Int32) (wf wp wt : Nat → Int32) (E : Prop) (r mw2 : Int32) (wf2 wp2 wt2 : Nat → Int32) : Prop :=
  (¬ (((0 ≤ s.toInt ∧ s.toInt ≤ 3) ∧ (0 ≤ o.toInt ∧ o.toInt ≤ 3) ∧ ¬ s.toInt = o.toInt) ∧ 0 ≤ p.toInt ∧ p.toInt < (ma (Int32.toNatClampNeg s)).toInt) ∧ r = -1 ∧ mw2 = mw ∧ wf2 = wf ∧ wp2 = wp ∧ wt2 = wt) ∨
  ((((0 ≤ s.toInt ∧ s.toInt ≤ 3) ∧ (0 ≤ o.toInt ∧ o.toInt ≤ 3) ∧ ¬ s.toInt = o.toInt) ∧ 0 ≤ p.toInt ∧ p.toInt < (ma (Int32.toNatClampNeg s)).toInt) ∧
    ((E ∧ r = -5 ∧ mw2 = mw ∧ wf2 = wf ∧ wp2 = wp ∧ wt2 = wt) ∨ (¬ E ∧ 6 ≤ mw.toInt ∧ r = -4 ∧ mw2 = mw ∧ wf2 = wf ∧ wp2 = wp ∧ wt2 = wt) ∨ (¬ E ∧ mw.toInt < 6 ∧ r = mw ∧ mw2 = mw + 1 ∧ wf2 = upd wf (Int32.toNatClampNeg mw) s ∧ wp2 = upd wp (Int32.toNatClampNeg mw) p ∧ wt2 = upd wt (Int32.toNatClampNeg mw) o)))
/-- those that are kept behind w, moved up to it; those as far as w still stand -/
def UB (K : Nat → Bool) (n : Int) (f0 f : Nat → Int32) (w cnt : Int) : Prop := cnt = (w + 1) + ((kc K n.toNat : Int) - (kc K (w + 1).toNat : Int)) ∧ (∀ j : Nat, (j : Int) ≤ w → f j = f0 j) ∧ ∀ j : Nat, w < (j : Int) → (j : Int) < n → K j = true → f ((w + 1).toNat + (kc K j - kc K (w + 1).toNat)) = f0 j
theorem UB.z {K : Nat → Bool} {n w cnt : Int} {f0 : Nat → Int32} (hw : w = n - 1) (h0 : 0 ≤ n) (hc : cnt = n) : UB K n f0 f0 w cnt := by
  subst hw hc
  refine ⟨?_, fun j _ => rfl, fun j h1 h2 => by omega⟩
  rw [show cnt - 1 + 1 = cnt by omega]
  omega
theorem UB.keep {K : Nat → Bool} {n w w' cnt : Int} {f0 f : Nat → Int32} (h : UB K n f0 f w cnt) (h0 : 0 ≤ w) (hw : w' = w - 1) (hK : K w.toNat = true) : UB K n f0 f w' cnt := by
  subst hw
  have e : (w + 1).toNat = w.toNat + 1 := by omega
  have e2 : (w - 1 + 1).toNat = w.toNat := by omega
  have k1 := kc_t hK
  obtain ⟨h1, h2, h3⟩ := h
  rw [e, k1] at h1 h3
  refine ⟨by rw [e2]; omega, fun j hj => h2 j (by omega), fun j ha hb hc => ?_⟩
  rw [e2]
  by_cases c : j = w.toNat
  · rw [c, Nat.sub_self, Nat.add_zero]
    exact h2 _ (by omega)
  · have k2 := kc_mono (K := K) (show w.toNat + 1 ≤ j by omega)
    rw [k1] at k2
    have h9 := h3 j (by omega) hb hc
    rw [show w.toNat + 1 + (kc K j - (kc K w.toNat + 1)) = w.toNat + (kc K j - kc K w.toNat) by omega] at h9
    exact h9
theorem UB.drop {K : Nat → Bool} {n w w' cnt cnt' : Int} {f0 f f' : Nat → Int32} (h : UB K n f0 f w cnt) (h0 : 0 ≤ w) (hn : w < n) (hw : w' = w - 1) (hK : K w.toNat = false) (hc : cnt' = cnt - 1) (hs : SHf w cnt' f f') : UB K n f0 f' w' cnt' := by
  subst hw hc
  have e : (w + 1).toNat = w.toNat + 1 := by omega
  have e2 : (w - 1 + 1).toNat = w.toNat := by omega
  have k1 := kc_f hK
  obtain ⟨h1, h2, h3⟩ := h
  rw [e, k1] at h1 h3
  have km := kc_mono (K := K) (show w.toNat ≤ n.toNat by omega)
  refine ⟨by rw [e2]; omega, fun j hj => ?_, fun j ha hb hc2 => ?_⟩
  · rw [hs j (by omega), if_pos (by omega)]
    exact h2 j (by omega)
  · rw [e2]
    have hj : ¬ j = w.toNat := fun h9 => by rw [h9, hK] at hc2; exact absurd hc2 (by decide)
    have k2 := kc_lt (show j < n.toNat by omega) hc2
    have k3 := kc_mono (K := K) (show w.toNat ≤ j by omega)
    have h9 := h3 j (by omega) hb hc2
    rw [hs _ (by omega), if_neg (by omega), show w.toNat + (kc K j - kc K w.toNat) + 1 = w.toNat + 1 + (kc K j - kc K w.toNat) by omega]
    exact h9
theorem UB.fl {K : Nat → Bool} {n cnt : Int32} {w : Int} {f0 f : Nat → Int32} (h : UB K n.toInt f0 f w cnt.toInt) (hw : w = -1) : FL K n f0 cnt f := by
  subst hw
  obtain ⟨h1, _, h3⟩ := h
  refine ⟨?_, fun j hj hK => ?_⟩
  · have : ((-1 : Int) + 1).toNat = 0 := by decide
    rw [this, kc] at h1
    omega
  · have := h3 j (by omega) hj hK
    rw [show ((-1 : Int) + 1).toNat = 0 by decide, kc, Nat.zero_add, Nat.sub_zero] at this
    exact this
theorem UPJ {f m : Nat → Int32} {k : Nat} {a b v : Int32} (h : ∀ j, f j = upd m k a j) (hv : v = b) : ∀ j, upd f k v j = upd m k b j := fun j => by
  subst hv
  rw [upd_eq, upd_eq]
  by_cases c : j = k
  · rw [if_pos c, if_pos c]
  · rw [if_neg c, if_neg c, h j, upd_eq, if_neg c]
theorem UPJ_at {f m : Nat → Int32} {k : Nat} {a : Int32} (h : ∀ j, f j = upd m k a j) : f k = a := by rw [h k, upd_eq, if_pos rfl]
