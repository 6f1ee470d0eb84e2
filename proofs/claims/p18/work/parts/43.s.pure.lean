/-! LEVEL 3: the reference's evening -/
theorem whyF_v (ma mg mt wf wp wt : Nat → Int32) (mw ml : Int32) (tl : Nat → Int32) (o s se dr : Int32) : whyF ma mg mt wf wp wt mw ml tl o s se dr = -6 ∨ 0 ≤ (whyF ma mg mt wf wp wt mw ml tl o s se dr).toInt := by
  unfold whyF
  by_cases h1 : (tl s.toNatClampNeg).toInt = (ma s.toNatClampNeg).toInt
  · rw [ifc_t h1]; right; decide
  rw [ifc_f h1]
  by_cases h2 : 0 < (tl s.toNatClampNeg).toInt
  · rw [ifc_t h2]
    by_cases h3 : MayP ml o s
    · rw [ifc_t h3]
      by_cases h4 : IW ma wf wp wt mw tl s se dr
      · rw [ifc_t h4]; right; decide
      · rw [ifc_f h4]; left; rfl
    · rw [ifc_f h3]; right; decide
  · rw [ifc_f h2]
    by_cases h3 : MB mg tl ml o
    · rw [ifc_t h3]
      by_cases h5 : HO mt o (mt s.toNatClampNeg)
      · rw [ifc_t h5]; right; decide
      · rw [ifc_f h5]
        by_cases h4 : IW ma wf wp wt mw tl s se dr
        · rw [ifc_t h4]; right; decide
        · rw [ifc_f h4]; left; rfl
    · rw [ifc_f h3]; right; decide
def tR (f : Nat → Int32) : Nat → Nat → Int32
  | 0 => tds 0
  | i + 1 => upd (tR f i) (Int32.toNatClampNeg (f i - 97)) (tR f i (Int32.toNatClampNeg (f i - 97)) + 1)
def oR (ma co f : Nat → Int32) : Nat → Int32
  | 0 => opS co 0
  | i + 1 => o2F ma (tR f i) (oR ma co f i) (f i - 97)
def dR (ma co f : Nat → Int32) : Nat → Int32
  | 0 => 0
  | i + 1 => if onesF (setI (o1F (tR f i) (oR ma co f i) (f i - 97))) ≤ dR ma co f i then dR ma co f i else onesF (setI (o1F (tR f i) (oR ma co f i) (f i - 97)))
def kR (mm mt f : Nat → Int32) (mb : Int32) : Nat → Int32
  | 0 => 0
  | i + 1 => kR mm mt f mb i + (mm (Int32.toNatClampNeg (4 * (f i - 97) + tR f i (Int32.toNatClampNeg (f i - 97)))) + (if 0 < i ∧ ¬ mt (Int32.toNatClampNeg (f (i - 1) - 97)) = mt (Int32.toNatClampNeg (f i - 97)) then mb else 0))
noncomputable def yR (ma mg mt wf wp wt : Nat → Int32) (mw ml : Int32) (co f : Nat → Int32) (i : Nat) : Int32 := whyF ma mg mt wf wp wt mw ml (tR f i) (oR ma co f i) (f i - 97) 15 0
def GEB (ma mg mt wf wp wt : Nat → Int32) (mw ml : Int32) (co f : Nat → Int32) (z : Nat) (bp by0 : Int32) : Prop := ∃ k : Nat, k < z ∧ (∀ j : Nat, j < k → yR ma mg mt wf wp wt mw ml co f j = -6) ∧ ¬ yR ma mg mt wf wp wt mw ml co f k = -6 ∧ bp = nI k ∧ by0 = yR ma mg mt wf wp wt mw ml co f k
def GEG (ma mg mt mm wf wp wt : Nat → Int32) (mw ml mb : Int32) (co f : Nat → Int32) (i : Nat) (tl : Nat → Int32) (op bp by0 dp tk : Int32) : Prop := (bp = -6 ∧ by0 = -6) ∧ (tl = tR f i ∧ op = oR ma co f i ∧ dp = dR ma co f i ∧ tk = kR mm mt f mb i) ∧ ∀ k : Nat, k < i → yR ma mg mt wf wp wt mw ml co f k = -6
def GEI (ma mg mt mm wf wp wt : Nat → Int32) (mw ml mb : Int32) (co f : Nat → Int32) (z i : Nat) (tl : Nat → Int32) (op bp by0 dp tk : Int32) : Prop := GEG ma mg mt mm wf wp wt mw ml mb co f i tl op bp by0 dp tk ∨ (0 ≤ bp.toInt ∧ GEB ma mg mt wf wp wt mw ml co f z bp by0)
section GEI
variable {ma mg mt mm wf wp wt co f tl : Nat → Int32} {mw ml mb op bp by0 dp tk s : Int32} {z i j : Nat}
theorem GEI.ini : GEI ma mg mt mm wf wp wt mw ml mb co f z 0 (tds 0) (opS co 0) (-6) (-6) 0 0 := Or.inl ⟨⟨rfl, rfl⟩, ⟨rfl, rfl, rfl, rfl⟩, fun k hk => absurd hk (Nat.not_lt_zero _)⟩
theorem GEI.g (h : GEI ma mg mt mm wf wp wt mw ml mb co f z i tl op bp by0 dp tk) (hb : bp.toInt < 0) : GEG ma mg mt mm wf wp wt mw ml mb co f i tl op bp by0 dp tk := by
  rcases h with h | h
  · exact h
  · exfalso; have := h.1; omega
theorem GEG.bad {x y : Int32} (h : GEG ma mg mt mm wf wp wt mw ml mb co f i tl op bp by0 dp tk) (hs : s = f i - 97) (hz : i < z) (hx : x = nI i) (hi : i < 30) (hy : y = whyF ma mg mt wf wp wt mw ml tl op s 15 0) (h0 : ¬ y.toInt < 0) : GEI ma mg mt mm wf wp wt mw ml mb co f z j tl op x y dp tk := by
  obtain ⟨_, ⟨rfl, rfl, _, _⟩, h7⟩ := h
  subst hs
  have e : y = yR ma mg mt wf wp wt mw ml co f i := hy
  refine Or.inr ⟨by rw [hx, nI_toInt (by omega)]; omega, i, hz, h7, ?_, hx, e⟩
  rw [← e]
  intro h9
  rw [h9, tm6_] at h0
  omega
theorem GEG.go {op2 dp2 tk2 : Int32} (h : GEG ma mg mt mm wf wp wt mw ml mb co f i tl op bp by0 dp tk) (hs : s = f i - 97) (hj : j = i + 1) (h0 : (whyF ma mg mt wf wp wt mw ml tl op s 15 0).toInt < 0) (h1 : op2 = o2F ma tl op s)
    (h2 : dp2 = if onesF (setI (o1F tl op s)) ≤ dp then dp else onesF (setI (o1F tl op s))) (h3 : tk2 = tk + (mm (Int32.toNatClampNeg (4 * s + tl (Int32.toNatClampNeg s))) + (if 0 < i ∧ ¬ mt (Int32.toNatClampNeg (f (i - 1) - 97)) = mt (Int32.toNatClampNeg s) then mb else 0))) :
    GEI ma mg mt mm wf wp wt mw ml mb co f z j (upd tl (Int32.toNatClampNeg s) (tl (Int32.toNatClampNeg s) + 1)) op2 bp by0 dp2 tk2 := by
  obtain ⟨hb, ⟨rfl, rfl, rfl, rfl⟩, h7⟩ := h
  subst hs hj
  refine Or.inl ⟨hb, ⟨rfl, h1, h2, h3⟩, fun k hk => ?_⟩
  by_cases c : k = i
  · rw [c]
    rcases whyF_v ma mg mt wf wp wt mw ml (tR f i) (oR ma co f i) (f i - 97) 15 0 with q | q
    · exact q
    · exfalso; omega
  · exact h7 k (by omega)
end GEI
/-- how the reference judged an evening -/
def GEV (ma mg mt mm wf wp wt : Nat → Int32) (mw ml mb : Int32) (co f : Nat → Int32) (z : Nat) (op bp by0 dp tk : Int32) : Prop := ((bp = -6 ∧ by0 = -6) ∧ (op = oR ma co f z ∧ dp = dR ma co f z ∧ tk = kR mm mt f mb z) ∧ ∀ k : Nat, k < z → yR ma mg mt wf wp wt mw ml co f k = -6) ∨ (0 ≤ bp.toInt ∧ GEB ma mg mt wf wp wt mw ml co f z bp by0)
theorem GEI.out {ma mg mt mm wf wp wt co f tl : Nat → Int32} {mw ml mb op bp by0 dp tk : Int32} {z i : Nat} (h : GEI ma mg mt mm wf wp wt mw ml mb co f z i tl op bp by0 dp tk) (hi : i = z ∨ 0 ≤ bp.toInt) : GEV ma mg mt mm wf wp wt mw ml mb co f z op bp by0 dp tk := by
  rcases h with ⟨h1, h2, h3⟩ | h
  · rcases hi with hi | hi
    · subst hi
      exact Or.inl ⟨h1, ⟨h2.2.1, h2.2.2.1, h2.2.2.2⟩, h3⟩
    · rw [h1.1, tm6_] at hi; omega
  · exact Or.inr h
/-- what a teller leaves open, who can close it -/
def lfP (mt : Nat → Int32) (o t : Int32) (k : Nat) : Bool := decide (((setI o >>> (nI k &&& 31)) &&& 1).toInt = 1 ∧ (mt k).toInt = t.toInt)
theorem lf_t {mt : Nat → Int32} {o t x : Int32} (h0 : 0 ≤ x.toInt) (h : bit1 (setI o) x ∧ (mt x.toNatClampNeg).toInt = t.toInt) : lfP mt o t x.toNatClampNeg = true := by
  unfold lfP
  rw [decide_eq_true_eq, show nI x.toNatClampNeg = x from (nI_sl h0).symm]
  exact h
theorem lf_f {mt : Nat → Int32} {o t x : Int32} (h0 : 0 ≤ x.toInt) (h : ¬ (bit1 (setI o) x ∧ (mt x.toNatClampNeg).toInt = t.toInt)) : lfP mt o t x.toNatClampNeg = false := by
  unfold lfP
  rw [decide_eq_false_iff_not, show nI x.toNatClampNeg = x from (nI_sl h0).symm]
  exact h
theorem rf_m6 {f : Nat → Int32} {lo hi : Int} {z r : Int32} (h : r = rfZ f lo hi z) (hn : r.toInt < 0) : rfZ f lo hi z = -6 := by
  have := i_rng z
  rcases rf_fr (f := f) (lo := lo) (hi := hi) (n := z.toInt.toNat) (i := 0) (by decide) (by decide) (by rw [t0_]; omega) with q | q
  · rw [h] at hn; unfold rfZ at hn; exfalso; omega
  · unfold rfZ; exact q.1
/-- a number whose bits are those below x that are so -/
def TBI (g x : Int32) (P : Nat → Prop) : Prop := ∃ p : Nat → Bool, (∀ k : Nat, (k : Int) < x.toInt → (p k = true ↔ P k)) ∧ g = btn p x.toInt.toNat
def TBS (g : Int32) (P : Nat → Prop) : Prop := ∃ p : Nat → Bool, (∀ k : Nat, k < 4 → (p k = true ↔ P k)) ∧ g = btn p 4
theorem TBI.z {x : Int32} {P : Nat → Prop} (h : x.toInt = 0) : TBI 0 x P := ⟨fun _ => false, fun k hk => by omega, by rw [h]; rfl⟩
theorem btn_cg {p q : Nat → Bool} : ∀ n : Nat, (∀ k : Nat, k < n → p k = q k) → btn p n = btn q n := by
  intro n
  induction n with
  | zero => intro _; rfl
  | succ n ih => intro h; rw [btn, btn, ih (fun k hk => h k (by omega)), h n (by omega)]
theorem TBI.yes {g x y : Int32} {P : Nat → Prop} (h : TBI g x P) (h0 : 0 ≤ x.toInt) (hy : y.toInt = x.toInt + 1) (hp : P x.toInt.toNat) : TBI (g ||| ((1 : Int32) <<< (x &&& 31))) y P := by
  obtain ⟨p, h1, h2⟩ := h
  refine ⟨fun k => if k = x.toInt.toNat then true else p k, fun k hk => ?_, ?_⟩
  · show (if k = x.toInt.toNat then true else p k) = true ↔ P k
    by_cases c : k = x.toInt.toNat
    · rw [if_pos c, c]; exact ⟨fun _ => hp, fun _ => rfl⟩
    · rw [if_neg c]; exact h1 k (by omega)
  · rw [btn_t (x := x) h0 hy (if_pos rfl), h2]
    congr 1
    refine btn_cg _ fun k hk => ?_
    show p k = if k = x.toInt.toNat then true else p k
    rw [if_neg (by omega)]
theorem TBI.no {g x y : Int32} {P : Nat → Prop} (h : TBI g x P) (h0 : 0 ≤ x.toInt) (hy : y.toInt = x.toInt + 1) (hp : ¬ P x.toInt.toNat) : TBI (g ||| 0) y P := by
  obtain ⟨p, h1, h2⟩ := h
  refine ⟨fun k => if k = x.toInt.toNat then false else p k, fun k hk => ?_, ?_⟩
  · show (if k = x.toInt.toNat then false else p k) = true ↔ P k
    by_cases c : k = x.toInt.toNat
    · rw [if_pos c, c]; exact ⟨fun h => absurd h (by decide), fun h => absurd h hp⟩
    · rw [if_neg c]; exact h1 k (by omega)
  · rw [btn_f (x := x) h0 hy (if_pos rfl), h2]
    congr 1
    refine btn_cg _ fun k hk => ?_
    rw [if_neg (by omega)]
theorem TBI.out {g x : Int32} {P : Nat → Prop} (h : TBI g x P) (hx : x.toInt = 4) : TBS g P := by
  obtain ⟨p, h1, h2⟩ := h
  exact ⟨p, fun k hk => h1 k (by omega), by rw [h2, show x.toInt.toNat = 4 by omega]⟩
