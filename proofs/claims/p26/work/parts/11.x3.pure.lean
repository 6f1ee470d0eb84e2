/-! LEVEL 3: the reference's evening -/
theorem whyF_v (ma mg mt wf wp wt : Nat → Int32) (mw ml : Int32) (tl : Nat → Int32) (o s se dr : Int32) : whyF ma mg mt wf wp wt mw ml tl o s se dr = -6 ∨ 0 ≤ (whyF ma mg mt wf wp wt mw ml tl o s se dr).toInt := by
  unfold whyF
  by_cases h1 : (tl s.toNatClampNeg).toInt = (ma s.toNatClampNeg).toInt
  · rw [ifc_t h1]; right; decide
  rw [ifc_f h1]
  by_cases h2 : 0 < (tl s.toNatClampNeg).toInt
  · rw [ifc_t h2]
    by_cases h3 : MayP ml o s
    · rw [ifc_t h3]
      by_cases h4 : IW ma wf wp wt mw tl s se dr
      · rw [ifc_t h4]; right; decide
      · rw [ifc_f h4]; left; rfl
    · rw [ifc_f h3]; right; decide
  · rw [ifc_f h2]
    by_cases h3 : MB mg tl ml o
    · rw [ifc_t h3]
      by_cases h5 : HO mt o (mt s.toNatClampNeg)
      · rw [ifc_t h5]; right; decide
      · rw [ifc_f h5]
        by_cases h4 : IW ma wf wp wt mw tl s se dr
        · rw [ifc_t h4]; right; decide
        · rw [ifc_f h4]; left; rfl
    · rw [ifc_f h3]; right; decide
def tR (f : Nat → Int32) : Nat → Nat → Int32
  | 0 => tds 0
  | i + 1 => upd (tR f i) (Int32.toNatClampNeg (f i - 97)) (tR f i (Int32.toNatClampNeg (f i - 97)) + 1)
def oR (ma co f : Nat → Int32) : Nat → Int32
  | 0 => opS co 0
  | i + 1 => o2F ma (tR f i) (oR ma co f i) (f i - 97)
def dR (ma co f : Nat → Int32) : Nat → Int32
  | 0 => 0
  | i + 1 => if onesF (setI (o1F (tR f i) (oR ma co f i) (f i - 97))) ≤ dR ma co f i then dR ma co f i else onesF (setI (o1F (tR f i) (oR ma co f i) (f i - 97)))
def kR (mm mt f : Nat → Int32) (mb : Int32) : Nat → Int32
  | 0 => 0
  | i + 1 => kR mm mt f mb i + (mm (Int32.toNatClampNeg (4 * (f i - 97) + tR f i (Int32.toNatClampNeg (f i - 97)))) + (if 0 < i ∧ ¬ mt (Int32.toNatClampNeg (f (i - 1) - 97)) = mt (Int32.toNatClampNeg (f i - 97)) then mb else 0))
noncomputable def yR (ma mg mt wf wp wt : Nat → Int32) (mw ml : Int32) (co f : Nat → Int32) (i : Nat) : Int32 := whyF ma mg mt wf wp wt mw ml (tR f i) (oR ma co f i) (f i - 97) 15 0
def GEB (ma mg mt wf wp wt : Nat → Int32) (mw ml : Int32) (co f : Nat → Int32) (z : Nat) (bp by0 : Int32) : Prop := ∃ k : Nat, k < z ∧ (∀ j : Nat, j < k → yR ma mg mt wf wp wt mw ml co f j = -6) ∧ ¬ yR ma mg mt wf wp wt mw ml co f k = -6 ∧ bp = nI k ∧ by0 = yR ma mg mt wf wp wt mw ml co f k
def GEG (ma mg mt mm wf wp wt : Nat → Int32) (mw ml mb : Int32) (co f : Nat → Int32) (i : Nat) (tl : Nat → Int32) (op bp by0 dp tk : Int32) : Prop := (bp = -6 ∧ by0 = -6) ∧ (tl = tR f i ∧ op = oR ma co f i ∧ dp = dR ma co f i ∧ tk = kR mm mt f mb i) ∧ ∀ k : Nat, k < i → yR ma mg mt wf wp wt mw ml co f k = -6
def GEI (ma mg mt mm wf wp wt : Nat → Int32) (mw ml mb : Int32) (co f : Nat → Int32) (z i : Nat) (tl : Nat → Int32) (op bp by0 dp tk : Int32) : Prop := GEG ma mg mt mm wf wp wt mw ml mb co f i tl op bp by0 dp tk ∨ (0 ≤ bp.toInt ∧ GEB ma mg mt wf wp wt mw ml co f z bp by0)
section GEI
variable {ma mg mt mm wf wp wt co f tl : Nat → Int32} {mw ml mb op bp by0 dp tk s : Int32} {z i j : Nat}
theorem GEI.ini : GEI ma mg mt mm wf wp wt mw ml mb co f z 0 (tds 0) (opS co 0) (-6) (-6) 0 0 := Or.inl ⟨⟨rfl, rfl⟩, ⟨rfl, rfl, rfl, rfl⟩, fun k hk => absurd hk (Nat.not_lt_zero _)⟩
theorem GEI.g (h : GEI ma mg mt mm wf wp wt mw ml mb co f z i tl op bp by0 dp tk) (hb : bp.toInt < 0) : GEG ma mg mt mm wf wp wt mw ml mb co f i tl op bp by0 dp tk := by
  rcases h with h | h
  · exact h
  · exfalso; have := h.1; omega
theorem GEG.bad {x y : Int32} (h : GEG ma mg mt mm wf wp wt mw ml mb co f i tl op bp by0 dp tk) (hs : s = f i - 97) (hz : i < z) (hx : x = nI i) (hi : i < 30) (hy : y = whyF ma mg mt wf wp wt mw ml tl op s 15 0) (h0 : ¬ y.toInt < 0) : GEI ma mg mt mm wf wp wt mw ml mb co f z j tl op x y dp tk := by
  obtain ⟨_, ⟨rfl, rfl, _, _⟩, h7⟩ := h
  subst hs
  have e : y = yR ma mg mt wf wp wt mw ml co f i := hy
  refine Or.inr ⟨by rw [hx, nI_toInt (by omega)]; omega, i, hz, h7, ?_, hx, e⟩
  rw [← e]
  intro h9
  rw [h9, tm6_] at h0
  omega
theorem GEG.go {op2 dp2 tk2 : Int32} (h : GEG ma mg mt mm wf wp wt mw ml mb co f i tl op bp by0 dp tk) (hs : s = f i - 97) (hj : j = i + 1) (h0 : (whyF ma mg mt wf wp wt mw ml tl op s 15 0).toInt < 0) (h1 : op2 = o2F ma tl op s)
    (h2 : dp2 = if onesF (setI (o1F tl op s)) ≤ dp then dp else onesF (setI (o1F tl op s))) (h3 : tk2 = tk + (mm (Int32.toNatClampNeg (4 * s + tl (Int32.toNatClampNeg s))) + (if 0 < i ∧ ¬ mt (Int32.toNatClampNeg (f (i - 1) - 97)) = mt (Int32.toNatClampNeg s) then mb else 0))) :
    GEI ma mg mt mm wf wp wt mw ml mb co f z j (upd tl (Int32.toNatClampNeg s) (tl (Int32.toNatClampNeg s) + 1)) op2 bp by0 dp2 tk2 := by
  obtain ⟨hb, ⟨rfl, rfl, rfl, rfl⟩, h7⟩ := h
  subst hs hj
  refine Or.inl ⟨hb, ⟨rfl, h1, h2, h3⟩, fun k hk => ?_⟩
  by_cases c : k = i
  · rw [c]
    rcases whyF_v ma mg mt wf wp wt mw ml (tR f i) (oR ma co f i) (f i - 97) 15 0 with q | q
    · exact q
    · exfalso; omega
  · exact h7 k (by omega)
end GEI
/-- how the reference judged an evening -/
def GEV (ma mg mt mm wf wp wt : Nat → Int32) (mw ml mb : Int32) (co f : Nat → Int32) (z : Nat) (op bp by0 dp tk : Int32) : Prop := ((bp = -6 ∧ by0 = -6) ∧ (op = oR ma co f z ∧ dp = dR ma co f z ∧ tk = kR mm mt f mb z) ∧ ∀ k : Nat, k < z → yR ma mg mt wf wp wt mw ml co f k = -6) ∨ (0 ≤ bp.toInt ∧ GEB ma mg mt wf wp wt mw ml co f z bp by0)
theorem GEI.out {ma mg mt mm wf wp wt co f tl : Nat → Int32} {mw ml mb op bp by0 dp tk : Int32} {z i : Nat} (h : GEI ma mg mt mm wf wp wt mw ml mb co f z i tl op bp by0 dp tk) (hi : i = z ∨ 0 ≤ bp.toInt) : GEV ma mg mt mm wf wp wt mw ml mb co f z op bp by0 dp tk := by
  rcases h with ⟨h1, h2, h3⟩ | h
  · rcases hi with hi | hi
    · subst hi
      exact Or.inl ⟨h1, ⟨h2.2.1, h2.2.2.1, h2.2.2.2⟩, h3⟩
    · rw [h1.1, tm6_] at hi; omega
  · exact Or.inr h
/-- what a teller leaves open, who can close it -/
def lfP (mt : Nat → Int32) (o t : Int32) (k : Nat) : Bool := decide (((setI o >>> (nI k &&& 31)) &&& 1).toInt = 1 ∧ (mt k).toInt = t.toInt)
theorem lf_t {mt : Nat → Int32} {o t x : Int32} (h0 : 0 ≤ x.toInt) (h : bit1 (setI o) x ∧ (mt x.toNatClampNeg).toInt = t.toInt) : lfP mt o t x.toNatClampNeg = true := by
  unfold lfP
  rw [decide_eq_true_eq, show nI x.toNatClampNeg = x from (nI_sl h0).symm]
  exact h
theorem lf_f {mt : Nat → Int32} {o t x : Int32} (h0 : 0 ≤ x.toInt) (h : ¬ (bit1 (setI o) x ∧ (mt x.toNatClampNeg).toInt = t.toInt)) : lfP mt o t x.toNatClampNeg = false := by
  unfold lfP
  rw [decide_eq_false_iff_not, show nI x.toNatClampNeg = x from (nI_sl h0).symm]
  exact h
theorem rf_m6 {f : Nat → Int32} {lo hi : Int} {z r : Int32} (h : r = rfZ f lo hi z) (hn : r.toInt < 0) : rfZ f lo hi z = -6 := by
  have := i_rng z
  rcases rf_fr (f := f) (lo := lo) (hi := hi) (n := z.toInt.toNat) (i := 0) (by decide) (by decide) (by rw [t0_]; omega) with q | q
  · rw [h] at hn; unfold rfZ at hn; exfalso; omega
  · unfold rfZ; exact q.1
/-- a number whose bits are those below x that are so -/
def TBI (g x : Int32) (P : Nat → Prop) : Prop := ∃ p : Nat → Bool, (∀ k : Nat, (k : Int) < x.toInt → (p k = true ↔ P k)) ∧ g = btn p x.toInt.toNat
def TBS (g : Int32) (P : Nat → Prop) : Prop := ∃ p : Nat → Bool, (∀ k : Nat, k < 4 → (p k = true ↔ P k)) ∧ g = btn p 4
theorem TBI.z {x : Int32} {P : Nat → Prop} (h : x.toInt = 0) : TBI 0 x P := ⟨fun _ => false, fun k hk => by omega, by rw [h]; rfl⟩
theorem btn_cg {p q : Nat → Bool} : ∀ n : Nat, (∀ k : Nat, k < n → p k = q k) → btn p n = btn q n := by
  intro n
  induction n with
  | zero => intro _; rfl
  | succ n ih => intro h; rw [btn, btn, ih (fun k hk => h k (by omega)), h n (by omega)]
theorem TBI.yes {g x y : Int32} {P : Nat → Prop} (h : TBI g x P) (h0 : 0 ≤ x.toInt) (hy : y.toInt = x.toInt + 1) (hp : P x.toInt.toNat) : TBI (g ||| ((1 : Int32) <<< (x &&& 31))) y P := by
  obtain ⟨p, h1, h2⟩ := h
  refine ⟨fun k => if k = x.toInt.toNat then true else p k, fun k hk => ?_, ?_⟩
  · show (if k = x.toInt.toNat then true else p k) = true ↔ P k
    by_cases c : k = x.toInt.toNat
    · rw [if_pos c, c]; exact ⟨fun _ => hp, fun _ => rfl⟩
    · rw [if_neg c]; exact h1 k (by omega)
  · rw [btn_t (x := x) h0 hy (if_pos rfl), h2]
    congr 1
    refine btn_cg _ fun k hk => ?_
    show p k = if k = x.toInt.toNat then true else p k
    rw [if_neg (by omega)]
theorem TBI.no {g x y : Int32} {P : Nat → Prop} (h : TBI g x P) (h0 : 0 ≤ x.toInt) (hy : y.toInt = x.toInt + 1) (hp : ¬ P x.toInt.toNat) : TBI (g ||| 0) y P := by
  obtain ⟨p, h1, h2⟩ := h
  refine ⟨fun k => if k = x.toInt.toNat then false else p k, fun k hk => ?_, ?_⟩
  · show (if k = x.toInt.toNat then false else p k) = true ↔ P k
    by_cases c : k = x.toInt.toNat
    · rw [if_pos c, c]; exact ⟨fun h => absurd h (by decide), fun h => absurd h hp⟩
    · rw [if_neg c]; exact h1 k (by omega)
  · rw [btn_f (x := x) h0 hy (if_pos rfl), h2]
    congr 1
    refine btn_cg _ fun k hk => ?_
    rw [if_neg (by omega)]
theorem TBI.out {g x : Int32} {P : Nat → Prop} (h : TBI g x P) (hx : x.toInt = 4) : TBS g P := by
  obtain ⟨p, h1, h2⟩ := h
  exact ⟨p, fun k hk => h1 k (by omega), by rw [h2, show x.toInt.toNat = 4 by omega]⟩
/-! LEVEL 3: a night beside what the reference lays out -/
theorem bt_all : ∀ v : Fin 16, ∀ j t : Fin 4, (0 ≤ (nI v.val ||| (1 : Int32) <<< (nI j.val &&& 31)).toInt ∧ (nI v.val ||| (1 : Int32) <<< (nI j.val &&& 31)).toInt < 16) ∧ ((nI v.val ||| (1 : Int32) <<< (nI j.val &&& 31)) >>> (nI t.val &&& 31)) &&& 1 = (if t = j then 1 else (nI v.val >>> (nI t.val &&& 31)) &&& 1) := by decide +kernel
/-- the bits of a number of four -/
def FB (g : Int32) (P : Nat → Prop) : Prop := (0 ≤ g.toInt ∧ g.toInt < 16) ∧ ∀ t : Nat, t < 4 → (((g >>> (nI t &&& 31)) &&& 1 = 1 ∧ P t) ∨ ((g >>> (nI t &&& 31)) &&& 1 = 0 ∧ ¬ P t))
theorem FB.iff {g : Int32} {P Q : Nat → Prop} (h : FB g P) (e : ∀ t : Nat, t < 4 → (P t ↔ Q t)) : FB g Q := by
  refine ⟨h.1, fun t ht => ?_⟩
  rcases h.2 t ht with q | q
  · exact Or.inl ⟨q.1, (e t ht).mp q.2⟩
  · exact Or.inr ⟨q.1, fun h9 => q.2 ((e t ht).mpr h9)⟩
theorem FB.z : FB 0 (fun _ => False) := by
  refine ⟨by decide, fun t ht => Or.inr ⟨?_, fun h => h⟩⟩
  have h9 : ∀ t : Fin 4, ((0 : Int32) >>> (nI t.val &&& 31)) &&& 1 = 0 := by decide
  exact h9 ⟨t, ht⟩
theorem FB.on {g : Int32} {P : Nat → Prop} (h : FB g P) {j : Nat} (hj : j < 4) : FB (g ||| (1 : Int32) <<< (nI j &&& 31)) (fun t => t = j ∨ P t) := by
  obtain ⟨v, hv, e⟩ : ∃ v : Nat, v < 16 ∧ g = nI v := ⟨g.toInt.toNat, by have := h.1; omega, nI_sl h.1.1⟩
  rw [e] at h ⊢
  refine ⟨(bt_all ⟨v, hv⟩ ⟨j, hj⟩ ⟨0, by omega⟩).1, fun t ht => ?_⟩
  have h9 := (bt_all ⟨v, hv⟩ ⟨j, hj⟩ ⟨t, ht⟩).2
  have h9 : ((nI v ||| (1 : Int32) <<< (nI j &&& 31)) >>> (nI t &&& 31)) &&& 1 = (if (⟨t, ht⟩ : Fin 4) = ⟨j, hj⟩ then 1 else (nI v >>> (nI t &&& 31)) &&& 1) := h9
  by_cases c : t = j
  · rw [if_pos (by subst c; rfl)] at h9
    exact Or.inl ⟨h9, Or.inl c⟩
  · rw [if_neg (fun q => c (Fin.mk.inj q))] at h9
    rcases h.2 t ht with q | q
    · exact Or.inl ⟨h9.trans q.1, Or.inr q.2⟩
    · refine Or.inr ⟨h9.trans q.1, fun h8 => ?_⟩
      rcases h8 with h8 | h8
      · exact c h8
      · exact q.2 h8
theorem FB.b0 {g : Int32} {P : Nat → Prop} (h : FB g P) {t : Nat} (ht : t < 4) : (g >>> (nI t &&& 31)) &&& 1 = 0 ↔ ¬ P t := by
  rcases h.2 t ht with q | q
  · rw [q.1]; exact ⟨fun h => absurd h (by decide), fun h => absurd q.2 h⟩
  · exact ⟨fun _ => q.2, fun _ => q.1⟩
theorem bt4_and1 : ∀ b0 b1 b2 b3 : Bool, ((bt4 b0 b1 b2 b3 &&& (1 : Int32) <<< (nI 0 &&& 31) = 0) ↔ b0 = false) ∧ ((bt4 b0 b1 b2 b3 &&& (1 : Int32) <<< (nI 1 &&& 31) = 0) ↔ b1 = false) ∧ ((bt4 b0 b1 b2 b3 &&& (1 : Int32) <<< (nI 2 &&& 31) = 0) ↔ b2 = false) ∧ ((bt4 b0 b1 b2 b3 &&& (1 : Int32) <<< (nI 3 &&& 31) = 0) ↔ b3 = false) := by decide +kernel
theorem btn_and1 (p : Nat → Bool) {j : Nat} (hj : j < 4) : (btn p 4 &&& (1 : Int32) <<< (nI j &&& 31) = 0) ↔ p j = false := by
  rw [btn4]
  have h := bt4_and1 (p 0) (p 1) (p 2) (p 3)
  rcases lt4 hj with rfl | rfl | rfl | rfl
  · exact h.1
  · exact h.2.1
  · exact h.2.2.1
  · exact h.2.2.2
theorem bt4_and : ∀ b0 b1 b2 b3 c0 c1 c2 c3 : Bool, bt4 b0 b1 b2 b3 &&& bt4 c0 c1 c2 c3 = bt4 (b0 && c0) (b1 && c1) (b2 && c2) (b3 && c3) := by decide +kernel
theorem btn_and (p q : Nat → Bool) : btn p 4 &&& btn q 4 = btn (fun k => p k && q k) 4 := by rw [btn4, btn4, btn4]; exact bt4_and ..
theorem bt4_0 : ∀ b0 b1 b2 b3 : Bool, bt4 b0 b1 b2 b3 = 0 ↔ (b0 = false ∧ b1 = false ∧ b2 = false ∧ b3 = false) := by decide +kernel
theorem btn_0 (p : Nat → Bool) : btn p 4 = 0 ↔ ∀ k : Nat, k < 4 → p k = false := by
  rw [btn4, bt4_0]
  constructor
  · intro h k hk
    rcases lt4 hk with rfl | rfl | rfl | rfl
    · exact h.1
    · exact h.2.1
    · exact h.2.2.1
    · exact h.2.2.2
  · intro h
    exact ⟨h 0 (by omega), h 1 (by omega), h 2 (by omega), h 3 (by omega)⟩
theorem bt4_sub : ∀ v : Fin 16, ∀ b0 b1 b2 b3 : Bool, (nI v.val &&& (bt4 b0 b1 b2 b3 ^^^ (-1)) = 0) ↔ (((nI v.val >>> (nI 0 &&& 31)) &&& 1 = 0 ∨ b0 = true) ∧ ((nI v.val >>> (nI 1 &&& 31)) &&& 1 = 0 ∨ b1 = true) ∧ ((nI v.val >>> (nI 2 &&& 31)) &&& 1 = 0 ∨ b2 = true) ∧ ((nI v.val >>> (nI 3 &&& 31)) &&& 1 = 0 ∨ b3 = true)) := by decide +kernel
theorem fb_sub {g : Int32} {P : Nat → Prop} (h : FB g P) (p : Nat → Bool) : (g &&& (btn p 4 ^^^ (-1)) = 0) ↔ ∀ t : Nat, t < 4 → P t → p t = true := by
  obtain ⟨v, hv, e⟩ : ∃ v : Nat, v < 16 ∧ g = nI v := ⟨g.toInt.toNat, by have := h.1; omega, nI_sl h.1.1⟩
  rw [e] at h ⊢
  have k := bt4_sub ⟨v, hv⟩ (p 0) (p 1) (p 2) (p 3)
  rw [btn4]
  refine k.trans ?_
  have h0 := h.b0 (t := 0) (by omega)
  have h1 := h.b0 (t := 1) (by omega)
  have h2 := h.b0 (t := 2) (by omega)
  have h3 := h.b0 (t := 3) (by omega)
  rw [h0, h1, h2, h3]
  constructor
  · intro q t ht hp
    rcases lt4 ht with rfl | rfl | rfl | rfl
    · exact q.1.resolve_left (fun h => h hp)
    · exact q.2.1.resolve_left (fun h => h hp)
    · exact q.2.2.1.resolve_left (fun h => h hp)
    · exact q.2.2.2.resolve_left (fun h => h hp)
  · intro q
    have z : ∀ t : Nat, t < 4 → (¬ P t ∨ p t = true) := fun t ht => by
      by_cases c : P t
      · exact Or.inr (q t ht c)
      · exact Or.inl c
    exact ⟨z 0 (by omega), z 1 (by omega), z 2 (by omega), z 3 (by omega)⟩
theorem and_all : ∀ v e : Fin 16, ∀ t : Fin 4, (0 ≤ (nI v.val &&& nI e.val).toInt ∧ (nI v.val &&& nI e.val).toInt < 16) ∧ ((nI v.val &&& nI e.val) >>> (nI t.val &&& 31)) &&& 1 = (if (nI e.val >>> (nI t.val &&& 31)) &&& 1 = 0 then 0 else (nI v.val >>> (nI t.val &&& 31)) &&& 1) := by decide +kernel
theorem FB.and {g e : Int32} {P : Nat → Prop} (h : FB g P) (he : 0 ≤ e.toInt ∧ e.toInt < 16) : FB (g &&& e) (fun t => P t ∧ ¬ (e >>> (nI t &&& 31)) &&& 1 = 0) := by
  obtain ⟨v, hv, e1⟩ : ∃ v : Nat, v < 16 ∧ g = nI v := ⟨g.toInt.toNat, by have := h.1; omega, nI_sl h.1.1⟩
  obtain ⟨u, hu, e2⟩ : ∃ u : Nat, u < 16 ∧ e = nI u := ⟨e.toInt.toNat, by omega, nI_sl he.1⟩
  rw [e1] at h ⊢
  rw [e2]
  refine ⟨(and_all ⟨v, hv⟩ ⟨u, hu⟩ ⟨0, by omega⟩).1, fun t ht => ?_⟩
  have h9 : ((nI v &&& nI u) >>> (nI t &&& 31)) &&& 1 = (if (nI u >>> (nI t &&& 31)) &&& 1 = 0 then 0 else (nI v >>> (nI t &&& 31)) &&& 1) := (and_all ⟨v, hv⟩ ⟨u, hu⟩ ⟨t, ht⟩).2
  by_cases c : (nI u >>> (nI t &&& 31)) &&& 1 = 0
  · rw [if_pos c] at h9
    exact Or.inr ⟨h9, fun q => q.2 c⟩
  · rw [if_neg c] at h9
    rcases h.2 t ht with q | q
    · exact Or.inl ⟨h9.trans q.1, q.2, c⟩
    · exact Or.inr ⟨h9.trans q.1, fun q2 => q.2 q2.1⟩
theorem sh_ij : ∀ i j : Fin 4, ((1 : Int32) <<< (nI i.val &&& 31)) &&& ((1 : Int32) <<< (nI j.val &&& 31)) = 0 ↔ ¬ i = j := by decide +kernel
theorem bc_all : ∀ v : Fin 16, bcF (nI v.val) = onesF (nI v.val) := by decide +kernel
theorem shl0 : ∀ n : Fin 4, (0 : Int32) <<< (nI n.val &&& 31) = 0 := by decide
/-! what a look finds -/
section LKA
variable {pa ga te tl : Nat → Int32} {a : Int32}
def pO (pa tl : Nat → Int32) (k : Nat) : Bool := decide ((pa k).toInt ≤ (tl k).toInt)
def pG (pa ga tl : Nat → Int32) (k : Nat) : Bool := opn pa tl k && decide ((ga k >>> ((tl k - 1) &&& 31)) &&& 1 = 1)
theorem lk_1 (hN : ∀ j : Nat, j < 4 → ptI a (nI j) = tl j) : ∀ n : Nat, n ≤ 4 → (lk pa ga te a n).1 = btn (pO pa tl) n := by
  intro n
  induction n with
  | zero => intro _; rfl
  | succ n ih =>
    intro hn
    have h1 := ih (by omega)
    rw [lk, btn, hN n (by omega)]
    by_cases c : (pa n).toInt ≤ (tl n).toInt
    · rw [if_pos c, show pO pa tl n = true from decide_eq_true c, if_pos rfl]
      show (lk pa ga te a n).1 ||| _ = _
      rw [h1]
    · rw [if_neg c, show pO pa tl n = false from decide_eq_false c]
      show (if 0 < (tl n).toInt then _ else lk pa ga te a n).1 = btn (pO pa tl) n ||| 0
      rw [or0]
      by_cases d : 0 < (tl n).toInt
      · rw [if_pos d]; exact h1
      · rw [if_neg d]; exact h1
theorem lk_2 (hN : ∀ j : Nat, j < 4 → ptI a (nI j) = tl j) : ∀ n : Nat, n ≤ 4 → (lk pa ga te a n).2.1 = btn (opn pa tl) n := by
  intro n
  induction n with
  | zero => intro _; rfl
  | succ n ih =>
    intro hn
    have h1 := ih (by omega)
    rw [lk, btn, hN n (by omega)]
    by_cases c : (pa n).toInt ≤ (tl n).toInt
    · rw [if_pos c, opn_f (by omega)]
      show (lk pa ga te a n).2.1 = btn (opn pa tl) n ||| 0
      rw [or0]; exact h1
    · rw [if_neg c]
      by_cases d : 0 < (tl n).toInt
      · rw [if_pos d, opn_t (by omega), if_pos rfl]
        show (lk pa ga te a n).2.1 ||| _ = _
        rw [h1]
      · rw [if_neg d, opn_f (by omega)]
        show (lk pa ga te a n).2.1 = btn (opn pa tl) n ||| 0
        rw [or0]; exact h1
theorem lk_4 (hN : ∀ j : Nat, j < 4 → ptI a (nI j) = tl j) : ∀ n : Nat, n ≤ 4 → (lk pa ga te a n).2.2.2 = btn (pG pa ga tl) n := by
  intro n
  induction n with
  | zero => intro _; rfl
  | succ n ih =>
    intro hn
    have h1 := ih (by omega)
    rw [lk, btn, hN n (by omega)]
    by_cases c : (pa n).toInt ≤ (tl n).toInt
    · rw [if_pos c, show pG pa ga tl n = false by unfold pG; rw [opn_f (by omega)]; rfl]
      show (lk pa ga te a n).2.2.2 = btn (pG pa ga tl) n ||| 0
      rw [or0]; exact h1
    · rw [if_neg c]
      by_cases d : 0 < (tl n).toInt
      · rw [if_pos d]
        show (lk pa ga te a n).2.2.2 ||| (((ga n >>> ((tl n - 1) &&& 31)) &&& 1) <<< (nI n &&& 31)) = _
        rw [h1]
        rcases i_and1 (ga n >>> ((tl n - 1) &&& 31)) with e | e
        · have e0 : (ga n >>> ((tl n - 1) &&& 31)) &&& 1 = 0 := i_eq.mpr (e.trans t0_.symm)
          rw [show pG pa ga tl n = false by unfold pG; rw [e0]; simp, e0, shl0 ⟨n, by omega⟩]
          rfl
        · have e1 : (ga n >>> ((tl n - 1) &&& 31)) &&& 1 = 1 := i_eq.mpr (e.trans t1_.symm)
          rw [show pG pa ga tl n = true by unfold pG; rw [e1, opn_t (by omega)]; rfl, e1, if_pos rfl]
      · rw [if_neg d, show pG pa ga tl n = false by unfold pG; rw [opn_f (by omega)]; rfl]
        show (lk pa ga te a n).2.2.2 = btn (pG pa ga tl) n ||| 0
        rw [or0]; exact h1
theorem lk_3 (hN : ∀ j : Nat, j < 4 → ptI a (nI j) = tl j) (hT : TOk te) : ∀ n : Nat, n ≤ 4 → FB (lk pa ga te a n).2.2.1 (fun t => ∃ i : Nat, i < n ∧ opn pa tl i = true ∧ te i = nI t) := by
  intro n
  induction n with
  | zero => intro _; exact FB.z.iff fun t ht => ⟨fun h => h.elim, fun ⟨i, hi, _⟩ => absurd hi (Nat.not_lt_zero _)⟩
  | succ n ih =>
    intro hn
    have h1 := ih (by omega)
    have keep : opn pa tl n = false → ∀ t : Nat, t < 4 → ((∃ i : Nat, i < n ∧ opn pa tl i = true ∧ te i = nI t) ↔ ∃ i : Nat, i < n + 1 ∧ opn pa tl i = true ∧ te i = nI t) := fun hf t ht => by
      constructor
      · rintro ⟨i, h2, h3⟩
        exact ⟨i, by omega, h3⟩
      · rintro ⟨i, h2, h3⟩
        have : ¬ i = n := fun h9 => by rw [h9, hf] at h3; exact absurd h3.1 (by decide)
        exact ⟨i, by omega, h3⟩
    rw [lk, hN n (by omega)]
    by_cases c : (pa n).toInt ≤ (tl n).toInt
    · rw [if_pos c]
      exact h1.iff (keep (opn_f (by omega)))
    · rw [if_neg c]
      by_cases d : 0 < (tl n).toInt
      · rw [if_pos d]
        have q := hT n (by omega)
        have e : te n = nI (te n).toInt.toNat := nI_sl q.1
        show FB ((lk pa ga te a n).2.2.1 ||| (1 : Int32) <<< (te n &&& 31)) _
        have h2 := h1.on (j := (te n).toInt.toNat) (by omega)
        rw [← e] at h2
        refine h2.iff fun t ht => ?_
        constructor
        · rintro (h3 | ⟨i, h3, h4⟩)
          · exact ⟨n, by omega, opn_t (by omega), by rw [h3]; exact e⟩
          · exact ⟨i, by omega, h4⟩
        · rintro ⟨i, h3, h4, h5⟩
          by_cases c2 : i = n
          · left
            rw [c2] at h5
            have h6 := congrArg Int32.toInt h5
            rw [nI_toInt (by omega)] at h6
            omega
          · exact Or.inr ⟨i, by omega, h4, h5⟩
      · rw [if_neg d]
        exact h1.iff (keep (opn_f (by omega)))
end LKA
/-! nights as numbers -/
def tN (tl : Nat → Int32) : Nat := (tl 0).toInt.toNat + 8 * (tl 1).toInt.toNat + 64 * (tl 2).toInt.toNat + 512 * (tl 3).toInt.toNat
def NG (R : Nat) (tl : Nat → Int32) (n : Int32) : Prop := R < 4096 ∧ (∀ j : Nat, j < 4 → 0 ≤ (tl j).toInt ∧ (tl j).toInt ≤ 7) ∧ n = nI (4096 * R + tN tl)
theorem tN_lt {tl : Nat → Int32} (h : ∀ j : Nat, j < 4 → 0 ≤ (tl j).toInt ∧ (tl j).toInt ≤ 7) : tN tl < 4096 := by
  have a0 := h 0 (by omega)
  have a1 := h 1 (by omega)
  have a2 := h 2 (by omega)
  have a3 := h 3 (by omega)
  unfold tN
  omega
theorem NG.pt {R : Nat} {tl : Nat → Int32} {n : Int32} (h : NG R tl n) {j : Nat} (hj : j < 4) : ptI n (nI j) = tl j := by
  have a0 := h.2.1 0 (by omega)
  have a1 := h.2.1 1 (by omega)
  have a2 := h.2.1 2 (by omega)
  have a3 := h.2.1 3 (by omega)
  have b := tN_lt h.2.1
  have hR := h.1
  unfold ptI
  rw [h.2.2]
  rcases lt4 hj with rfl | rfl | rfl | rfl
  · rw [pk_shrN (by omega) _ 0 (by decide), pk_andN (by omega) 3 (by decide)]
    refine i_eq.mpr ?_
    rw [nI_toInt (by omega)]
    unfold tN at *
    omega
  · rw [pk_shrN (by omega) _ 3 (by decide), pk_andN (by omega) 3 (by decide)]
    refine i_eq.mpr ?_
    rw [nI_toInt (by omega)]
    unfold tN at *
    omega
  · rw [pk_shrN (by omega) _ 6 (by decide), pk_andN (by omega) 3 (by decide)]
    refine i_eq.mpr ?_
    rw [nI_toInt (by omega)]
    unfold tN at *
    omega
  · rw [pk_shrN (by omega) _ 9 (by decide), pk_andN (by omega) 3 (by decide)]
    refine i_eq.mpr ?_
    rw [nI_toInt (by omega)]
    unfold tN at *
    omega
theorem NG.row {R : Nat} {tl : Nat → Int32} {n : Int32} (h : NG R tl n) : n >>> (12 &&& 31) = nI R := by
  have b := tN_lt h.2.1
  have hR := h.1
  rw [h.2.2, pk_shrN (by omega) _ 12 (by decide)]
  congr 1
  omega
theorem NG.low {R : Nat} {tl : Nat → Int32} {n : Int32} (h : NG R tl n) : n &&& 4095 = nI (tN tl) := by
  have b := tN_lt h.2.1
  have hR := h.1
  rw [h.2.2, pk_andN (by omega) 12 (by decide)]
  congr 1
  omega
theorem nI_orlt {a b : Nat} (k : Nat) (hb : b < 2 ^ k) (hs : 2 ^ k * a + b < 2 ^ 31) : nI (2 ^ k * a) ||| nI b = nI (2 ^ k * a + b) := by
  apply Int32.toBitVec_inj.mp
  apply BitVec.eq_of_toNat_eq
  rw [Int32.toBitVec_or, BitVec.toNat_or, pk_tn (by omega), pk_tn (by omega), pk_tn (by omega)]
  exact (Nat.two_pow_add_eq_or_of_lt hb a).symm
theorem NG.mk {R T : Nat} (hR : R < 4096) (hT : T < 4096) : (nI R <<< (12 &&& 31)) ||| nI T = nI (4096 * R + T) := by
  rw [pk_shlN (n := R) _ 12 (by decide) (by omega), Nat.mul_comm]
  exact nI_orlt 12 (by omega) (by omega)
theorem sh3_all : ∀ j : Fin 4, (1 : Int32) <<< ((3 * nI j.val) &&& 31) = nI (8 ^ j.val) := by decide +kernel
theorem tN_upd {tl : Nat → Int32} {j : Nat} (hj : j < 4) (h : ∀ j : Nat, j < 4 → 0 ≤ (tl j).toInt ∧ (tl j).toInt ≤ 7) (hi : (tl j + 1).toInt = (tl j).toInt + 1) : tN (upd tl j (tl j + 1)) = tN tl + 8 ^ j := by
  have a0 := h 0 (by omega)
  have a1 := h 1 (by omega)
  have a2 := h 2 (by omega)
  have a3 := h 3 (by omega)
  unfold tN
  rw [upd_eq, upd_eq, upd_eq, upd_eq]
  rcases lt4 hj with rfl | rfl | rfl | rfl
  · rw [if_pos rfl, if_neg (by omega), if_neg (by omega), if_neg (by omega)]; omega
  · rw [if_pos rfl, if_neg (by omega), if_neg (by omega), if_neg (by omega)]; omega
  · rw [if_pos rfl, if_neg (by omega), if_neg (by omega), if_neg (by omega)]; omega
  · rw [if_pos rfl, if_neg (by omega), if_neg (by omega), if_neg (by omega)]; omega
theorem NG.cn {R : Nat} {tl : Nat → Int32} {n : Int32} (h : NG R tl n) {j : Nat} (hj : j < 4) (hi : (tl j + 1).toInt = (tl j).toInt + 1) : cnF n (nI j) = nI (tN (upd tl j (tl j + 1))) := by
  unfold cnF
  rw [h.low, sh3_all ⟨j, hj⟩, nI_add, tN_upd hj h.2.1 hi]
/-! rows as numbers -/
def r0N (c : Nat) : Nat := if c < 5 then c else if c < 25 then c / 5 + 8 * (c % 5) else if c < 125 then c / 25 + 8 * (c / 5 % 5) + 64 * (c % 5) else c / 125 + 8 * (c / 25 % 5) + 64 * (c / 5 % 5) + 512 * (c % 5)
def r1N (c : Nat) : Nat := c % 5 + 8 * (c / 5 % 5) + 64 * (c / 25 % 5) + 512 * (c / 125)
def ctN (c : Nat) : Nat := (onesF (setI (nI c))).toInt.toNat
def chkR (c : Nat) : Bool := !rowN c || (decide (r1N c < 8 ^ ctN c) && decide (ctN c ≤ 4) && decide (0 ≤ (onesF (setI (nI c))).toInt) && ((setI (nI c) == 0) == (c == 0)) && decide (0 ≤ (setI (nI c)).toInt) && decide ((setI (nI c)).toInt < 16))
def chkR1 (c : Nat) : Bool := !rowN c || c == 0 || (lastI (nI c) == nI (r0N c % 8 - 1) && decide (1 ≤ r0N c % 8) && decide (r0N c % 8 ≤ 4) && (nI c - nI c / 5 * 5 - 1 == nI (r1N c % 8 - 1)) && decide (1 ≤ r1N c % 8) && decide (r1N c % 8 ≤ 4) && ((setI (nI c) >>> (nI (r0N c % 8 - 1) &&& 31)) &&& 1 == 1) && ((setI (nI c) >>> (nI (r1N c % 8 - 1) &&& 31)) &&& 1 == 1) && (r0N (withI (nI c) (nI (r0N c % 8 - 1))).toInt.toNat == r0N c / 8) && (r1N (withI (nI c) (nI (r1N c % 8 - 1))).toInt.toNat == r1N c / 8))
def chkR2 (c : Nat) : Bool := !rowN c || (List.range 4).all fun j => !((setI (nI c) >>> (nI j &&& 31)) &&& 1 == 0) || (decide (r0N (moreI (nI c) (nI j)).toInt.toNat = 8 * r0N c + (j + 1)) && decide (r1N (moreI (nI c) (nI j)).toInt.toNat = 8 ^ ctN c * (j + 1) + r1N c) && decide (ctN c ≤ 3) && (withI (moreI (nI c) (nI j)) (nI j) == nI c))
set_option maxRecDepth 100000 in
theorem chkR_all : ∀ c : Nat, c < 625 → chkR c = true := by decide +kernel
set_option maxRecDepth 100000 in
theorem chkR1_all : ∀ c : Nat, c < 625 → chkR1 c = true := by decide +kernel
set_option maxRecDepth 100000 in
theorem chkR2_all : ∀ c : Nat, c < 625 → chkR2 c = true := by decide +kernel
theorem r0_lt {c : Nat} (h : c < 625) : r0N c < 4096 := by
  unfold r0N
  by_cases h1 : c < 5
  · rw [if_pos h1]; omega
  rw [if_neg h1]
  by_cases h2 : c < 25
  · rw [if_pos h2]; omega
  rw [if_neg h2]
  by_cases h3 : c < 125
  · rw [if_pos h3]; omega
  rw [if_neg h3]; omega
theorem r1_lt {c : Nat} (h : c < 625) : r1N c < 4096 := by unfold r1N; omega
theorem rowR {c : Nat} (hc : c < 625) (hr : rowP (nI c) = 1) : (r1N c < 8 ^ ctN c ∧ ctN c ≤ 4 ∧ 0 ≤ (onesF (setI (nI c))).toInt) ∧ (setI (nI c) = 0 ↔ c = 0) := by
  have h1 := chkR_all c hc
  rw [chkR, Bool.or_eq_true] at h1
  rcases h1 with h1 | h1
  · rw [rowN, hr] at h1; exact absurd h1 (by decide)
  · simp only [Bool.and_eq_true, decide_eq_true_eq, beq_iff_eq] at h1
    obtain ⟨⟨⟨⟨⟨a, b⟩, d⟩, e⟩, _⟩, _⟩ := h1
    refine ⟨⟨a, b, d⟩, ?_⟩
    constructor
    · intro q
      have : (c == 0) = true := by rw [← e, q]; rfl
      exact beq_iff_eq.mp this
    · intro q
      have : (setI (nI c) == 0) = true := by rw [e, q]; rfl
      exact beq_iff_eq.mp this
theorem chk_set {c : Nat} (hc : c < 625) (hr : rowP (nI c) = 1) : 0 ≤ (setI (nI c)).toInt ∧ (setI (nI c)).toInt < 16 := by
  have h1 := chkR_all c hc
  rw [chkR, Bool.or_eq_true] at h1
  rcases h1 with h1 | h1
  · rw [rowN, hr] at h1; exact absurd h1 (by decide)
  · simp only [Bool.and_eq_true, decide_eq_true_eq] at h1
    exact ⟨h1.1.2, h1.2⟩
theorem rowR1 {c : Nat} (hc : c < 625) (hr : rowP (nI c) = 1) (h0 : ¬ c = 0) : (lastI (nI c) = nI (r0N c % 8 - 1) ∧ 1 ≤ r0N c % 8 ∧ r0N c % 8 ≤ 4) ∧ (nI c - nI c / 5 * 5 - 1 = nI (r1N c % 8 - 1) ∧ 1 ≤ r1N c % 8 ∧ r1N c % 8 ≤ 4) ∧ ((setI (nI c) >>> (nI (r0N c % 8 - 1) &&& 31)) &&& 1 = 1 ∧ (setI (nI c) >>> (nI (r1N c % 8 - 1) &&& 31)) &&& 1 = 1) ∧ r0N (withI (nI c) (nI (r0N c % 8 - 1))).toInt.toNat = r0N c / 8 ∧ r1N (withI (nI c) (nI (r1N c % 8 - 1))).toInt.toNat = r1N c / 8 := by
  have h1 := chkR1_all c hc
  rw [chkR1, Bool.or_eq_true, Bool.or_eq_true] at h1
  rcases h1 with (h1 | h1) | h1
  · rw [rowN, hr] at h1; exact absurd h1 (by decide)
  · exact absurd (beq_iff_eq.mp h1) h0
  · simp only [Bool.and_eq_true, decide_eq_true_eq, beq_iff_eq] at h1
    obtain ⟨⟨⟨⟨⟨⟨⟨⟨⟨a, b⟩, d⟩, e⟩, f⟩, g⟩, i⟩, j⟩, k⟩, l⟩ := h1
    exact ⟨⟨a, b, d⟩, ⟨e, f, g⟩, ⟨i, j⟩, k, l⟩
theorem rowR2 {c j : Nat} (hc : c < 625) (hr : rowP (nI c) = 1) (hj : j < 4) (hb : (setI (nI c) >>> (nI j &&& 31)) &&& 1 = 0) : r0N (moreI (nI c) (nI j)).toInt.toNat = 8 * r0N c + (j + 1) ∧ r1N (moreI (nI c) (nI j)).toInt.toNat = 8 ^ ctN c * (j + 1) + r1N c ∧ ctN c ≤ 3 ∧ withI (moreI (nI c) (nI j)) (nI j) = nI c := by
  have h1 := chkR2_all c hc
  rw [chkR2, Bool.or_eq_true] at h1
  rcases h1 with h1 | h1
  · rw [rowN, hr] at h1; exact absurd h1 (by decide)
  · have h2 := List.all_eq_true.mp h1 j (List.mem_range.mpr hj)
    rw [Bool.or_eq_true] at h2
    rcases h2 with h2 | h2
    · rw [hb] at h2; exact absurd h2 (by decide)
    · simp only [Bool.and_eq_true, decide_eq_true_eq, beq_iff_eq] at h2
      obtain ⟨⟨⟨a, b⟩, d⟩, e⟩ := h2
      exact ⟨a, b, d, e⟩
def rN (la : Int32) (c : Nat) : Nat := if la = 2 then 0 else if la = 0 then r0N c else r1N c
theorem rN_lt {la : Int32} {c : Nat} (h : c < 625) : rN la c < 4096 := by
  unfold rN
  have := r0_lt h
  have := r1_lt h
  split
  · omega
  · split <;> omega
/-- a night is that of what is told, by the law -/
def NR (la : Int32) (tl : Nat → Int32) (o n : Int32) : Prop := NG (rN la o.toInt.toNat) tl n
/-! LEVEL 3: who may come, on both sides -/
/-- the books tell the same of who may come -/
def SB (pa ga te ne ma mg mt wf wp wt : Nat → Int32) (la mw : Int32) : Prop := (∀ j : Nat, j < 4 → pa j = ma j) ∧ (∀ j : Nat, j < 4 → ga j = mg j) ∧ (∀ j : Nat, j < 4 → te j = mt j) ∧ (TOk te) ∧ (0 ≤ la.toInt ∧ la.toInt ≤ 2) ∧ (0 ≤ mw.toInt ∧ mw.toInt ≤ 6) ∧ (SOk wt) ∧ (∀ s p : Nat, s < 4 → p < 4 → FB (ne (4 * s + p)) (fun t => ∃ w : Nat, (w : Int) < mw.toInt ∧ wf w = nI s ∧ wp w = nI p ∧ wt w = nI t))
theorem SB.hp {pa ga te ne ma mg mt wf wp wt : Nat → Int32} {la mw : Int32} (h : SB pa ga te ne ma mg mt wf wp wt la mw) : ∀ j : Nat, j < 4 → pa j = ma j := h.1
theorem SB.hg {pa ga te ne ma mg mt wf wp wt : Nat → Int32} {la mw : Int32} (h : SB pa ga te ne ma mg mt wf wp wt la mw) : ∀ j : Nat, j < 4 → ga j = mg j := h.2.1
theorem SB.ht {pa ga te ne ma mg mt wf wp wt : Nat → Int32} {la mw : Int32} (h : SB pa ga te ne ma mg mt wf wp wt la mw) : ∀ j : Nat, j < 4 → te j = mt j := h.2.2.1
theorem SB.hT {pa ga te ne ma mg mt wf wp wt : Nat → Int32} {la mw : Int32} (h : SB pa ga te ne ma mg mt wf wp wt la mw) : TOk te := h.2.2.2.1
theorem SB.hl {pa ga te ne ma mg mt wf wp wt : Nat → Int32} {la mw : Int32} (h : SB pa ga te ne ma mg mt wf wp wt la mw) : 0 ≤ la.toInt ∧ la.toInt ≤ 2 := h.2.2.2.2.1
theorem SB.hw {pa ga te ne ma mg mt wf wp wt : Nat → Int32} {la mw : Int32} (h : SB pa ga te ne ma mg mt wf wp wt la mw) : 0 ≤ mw.toInt ∧ mw.toInt ≤ 6 := h.2.2.2.2.2.1
theorem SB.hv {pa ga te ne ma mg mt wf wp wt : Nat → Int32} {la mw : Int32} (h : SB pa ga te ne ma mg mt wf wp wt la mw) : SOk wt := h.2.2.2.2.2.2.1
theorem SB.hn {pa ga te ne ma mg mt wf wp wt : Nat → Int32} {la mw : Int32} (h : SB pa ga te ne ma mg mt wf wp wt la mw) : ∀ s p : Nat, s < 4 → p < 4 → FB (ne (4 * s + p)) (fun t => ∃ w : Nat, (w : Int) < mw.toInt ∧ wf w = nI s ∧ wp w = nI p ∧ wt w = nI t) := h.2.2.2.2.2.2.2
theorem nI_tt {c : Nat} (h : c < 2 ^ 31) : (nI c).toInt.toNat = c := by rw [nI_toInt h]; exact Int.toNat_natCast c
theorem x1_i {x : Int32} : x = 1 ↔ x.toInt = 1 := ⟨fun h => by rw [h]; exact t1_, fun h => i_eq.mpr (h.trans t1_.symm)⟩
section EVE
variable {pa ga te ne ma mg mt wf wp wt tl : Nat → Int32} {la mw o n : Int32} {j : Nat}
theorem SB.op (sb : SB pa ga te ne ma mg mt wf wp wt la mw) (hG : Gd ma tl o) (h : NR la tl o n) : opC pa ga te n = setI o := by
  unfold opC
  rw [lk_2 (fun j hj => NG.pt h hj) 4 (by omega), hG.2.2]
  exact btn_cg 4 fun k hk => by unfold opn; rw [sb.hp k hk]
theorem SB.ou (sb : SB pa ga te ne ma mg mt wf wp wt la mw) (h : NR la tl o n) : ouC pa ga te n = btn (pO ma tl) 4 := by
  unfold ouC
  rw [lk_1 (fun j hj => NG.pt h hj) 4 (by omega)]
  exact btn_cg 4 fun k hk => by unfold pO; rw [sb.hp k hk]
theorem SB.gs (sb : SB pa ga te ne ma mg mt wf wp wt la mw) (h : NR la tl o n) : gaC pa ga te n = btn (pG ma mg tl) 4 := by
  unfold gaC
  rw [lk_4 (fun j hj => NG.pt h hj) 4 (by omega)]
  exact btn_cg 4 fun k hk => by unfold pG opn; rw [sb.hp k hk, sb.hg k hk]
theorem SB.bu (sb : SB pa ga te ne ma mg mt wf wp wt la mw) (h : NR la tl o n) : FB (buC pa ga te n) (fun t => ∃ i : Nat, i < 4 ∧ opn ma tl i = true ∧ mt i = nI t) := by
  refine (lk_3 (pa := pa) (ga := ga) (fun j hj => NG.pt h hj) sb.hT 4 (by omega)).iff fun t ht => ?_
  constructor
  · rintro ⟨i, h1, h2, h3⟩
    exact ⟨i, h1, by rw [← h2]; unfold opn; rw [sb.hp i h1], by rw [← sb.ht i h1]; exact h3⟩
  · rintro ⟨i, h1, h2, h3⟩
    exact ⟨i, h1, by rw [← h2]; unfold opn; rw [sb.hp i h1], by rw [sb.ht i h1]; exact h3⟩
theorem gd_bit (hG : Gd ma tl o) (hj : j < 4) : (setI o >>> (nI j &&& 31)) &&& 1 = if opn ma tl j then 1 else 0 := by rw [hG.2.2, btn_bit _ hj]
theorem gd_b1 (hG : Gd ma tl o) (hj : j < 4) : bit1 (setI o) (nI j) ↔ opn ma tl j = true := by
  unfold bit1
  rw [gd_bit hG hj]
  by_cases c : opn ma tl j = true
  · rw [if_pos c]; exact ⟨fun _ => c, fun _ => t1_⟩
  · rw [if_neg c]; exact ⟨fun h => by rw [t0_] at h; omega, fun h => absurd h c⟩
theorem low_i {R : Nat} (h : NG R tl n) : lowI n = if R % 8 = 0 then 0 else (1 : Int32) <<< (nI (R % 8 - 1) &&& 31) := by
  have hR := h.1
  have e8 : (nI R) &&& 7 = nI (R % 8) := pk_andN (by omega) 3 (by decide)
  unfold lowI
  rw [h.row, e8]
  by_cases e : R % 8 = 0
  · rw [if_pos (by rw [e]; rfl), if_pos e]
  · rw [if_neg (nI_ne0 (by omega) (by omega)), if_neg e]
    obtain ⟨k, hk⟩ : ∃ k : Nat, R % 8 = k + 1 := ⟨R % 8 - 1, by omega⟩
    rw [hk, nI_pred]
    rfl
/-- the one that alone may go on, by the law -/
theorem low_r {c : Nat} (hc : c < 625) (hr : rowP (nI c) = 1) (h0 : ¬ c = 0) (h2 : ¬ la = 2) : ∃ i : Nat, i < 4 ∧ rN la c % 8 = i + 1 ∧ (setI (nI c) >>> (nI i &&& 31)) &&& 1 = 1 ∧ (la = 0 → lastI (nI c) = nI i) ∧ (¬ la = 0 → nI c - nI c / 5 * 5 - 1 = nI i) ∧ rN la (withI (nI c) (nI i)).toInt.toNat = rN la c / 8 := by
  obtain ⟨⟨a1, a2, a3⟩, ⟨b1, b2, b3⟩, ⟨d1, d2⟩, e1, e2⟩ := rowR1 hc hr h0
  unfold rN
  by_cases c0 : la = 0
  · refine ⟨r0N c % 8 - 1, by omega, ?_, d1, fun _ => a1, fun h => absurd c0 h, ?_⟩
    · rw [if_neg h2, if_pos c0]; omega
    · rw [if_neg h2, if_pos c0, if_neg h2, if_pos c0]; exact e1
  · refine ⟨r1N c % 8 - 1, by omega, ?_, d2, fun h => absurd h c0, fun _ => b1, ?_⟩
    · rw [if_neg h2, if_neg c0]; omega
    · rw [if_neg h2, if_neg c0, if_neg h2, if_neg c0]; exact e2
theorem la_2 (h : 0 ≤ la.toInt ∧ la.toInt ≤ 2) (h2 : ¬ la = 2) : ¬ la.toInt = 2 ∧ (la = 0 ↔ la.toInt = 0) := ⟨fun h9 => h2 (i_eq.mpr (h9.trans t2_.symm)), ⟨fun h9 => by rw [h9]; exact t0_, fun h9 => i_eq.mpr (h9.trans t0_.symm)⟩⟩
theorem SB.may (sb : SB pa ga te ne ma mg mt wf wp wt la mw) (hG : Gd ma tl o) (h : NR la tl o n) (hj : j < 4) (ho : opn ma tl j = true) : (mgC pa ga te la n &&& ((1 : Int32) <<< (nI j &&& 31)) = 0) ↔ ¬ MayP la o (nI j) := by
  unfold mgC
  have ej : (nI j).toInt = (j : Int) := nI_toInt (by omega)
  by_cases c2 : la = 2
  · rw [if_pos c2, sb.op hG h, hG.2.2, btn_and1 _ hj, ho]
    exact ⟨fun h => absurd h (by decide), fun h => absurd (Or.inl (by rw [c2]; exact t2_)) h⟩
  · rw [if_neg c2]
    obtain ⟨l2, l0⟩ := la_2 sb.hl c2
    obtain ⟨c, hc, hr, rfl⟩ := hG.2.1
    unfold NR at h
    rw [nI_tt (by omega)] at h
    have c0 : ¬ c = 0 := fun h9 => by
      have := ((rowR hc hr).2).mpr h9
      have b := gd_bit hG hj
      rw [this, ho, if_pos rfl] at b
      have z : ∀ j : Fin 4, ¬ ((0 : Int32) >>> (nI j.val &&& 31)) &&& 1 = 1 := by decide
      exact z ⟨j, hj⟩ b
    obtain ⟨i, hi, e1, e2, e3, e4, e5⟩ := low_r (la := la) hc hr c0 c2
    rw [low_i h, if_neg (by omega), show rN la c % 8 - 1 = i by omega]
    have q := sh_ij ⟨i, hi⟩ ⟨j, hj⟩
    refine q.trans (not_congr ?_)
    have ei : (nI i).toInt = (i : Int) := nI_toInt (by omega)
    unfold MayP
    constructor
    · intro h9
      have h9 : i = j := Fin.mk.inj h9
      by_cases d : la = 0
      · exact Or.inr (Or.inl ⟨l0.mp d, by rw [e3 d, h9]⟩)
      · exact Or.inr (Or.inr ⟨l2, fun h8 => d (l0.mpr h8), by rw [e4 d, h9]⟩)
    · intro h9
      have : i = j := by
        rcases h9 with h9 | ⟨h8, h9⟩ | ⟨_, h8, h9⟩
        · exact absurd h9 l2
        · rw [e3 (l0.mpr h8)] at h9; omega
        · rw [e4 (fun h7 => h8 (l0.mp h7))] at h9; omega
      subst this
      rfl
theorem pG_ag {i : Nat} (hi : i < 4) (ho : opn ma tl i = true) : pG ma mg tl i = false ↔ ¬ AG mg tl (nI i) := by
  unfold pG AG
  rw [nI_clamp (show i < 2 ^ 31 by omega), ho, Bool.true_and, decide_eq_false_iff_not, x1_i]
theorem SB.mb (sb : SB pa ga te ne ma mg mt wf wp wt la mw) (hG : Gd ma tl o) (h : NR la tl o n) : (mbC pa ga te la n = 0) ↔ ¬ MB mg tl la o := by
  unfold mbC
  rw [sb.op hG h, sb.gs h]
  have hG9 := hG
  obtain ⟨c, hc, hr, rfl⟩ := hG.2.1
  have ec : (nI c).toInt = (c : Int) := nI_toInt (by omega)
  by_cases c0 : c = 0
  · rw [if_pos (((rowR hc hr).2).mpr c0)]
    exact ⟨fun h => absurd h (by decide), fun h => absurd (Or.inl (by omega)) h⟩
  · rw [if_neg (fun h9 => c0 (((rowR hc hr).2).mp h9))]
    have z : ∀ x : Int32, ((if x = 0 then (0 : Int32) else 1) = 0) ↔ x = 0 := fun x => by
      by_cases d : x = 0
      · rw [if_pos d]; exact ⟨fun _ => d, fun _ => rfl⟩
      · rw [if_neg d]; exact ⟨fun h => absurd h (by decide), fun h => absurd h d⟩
    rw [z]
    unfold mgC
    by_cases c2 : la = 2
    · rw [if_pos c2, sb.op hG9 h, hG9.2.2, btn_and, btn_0]
      have m3 := MB_3 (mg := mg) (tl := tl) (ml := la) (o := nI c) (x := 4) (by omega) (by rw [c2, t2_]; omega) t4_
      rw [← m3]
      constructor
      · rintro q ⟨y, h1, h2, h3, h4⟩
        rw [t4_] at h2
        have ey : y = nI y.toInt.toNat := nI_sl h1
        rw [ey] at h3 h4
        have hk : y.toInt.toNat < 4 := by omega
        have o1 := (gd_b1 hG9 hk).mp h3
        have q1 := q y.toInt.toNat hk
        have p1 : pG ma mg tl y.toInt.toNat = true := by
          by_cases p9 : pG ma mg tl y.toInt.toNat = true
          · exact p9
          · exact absurd h4 ((pG_ag hk o1).mp (Bool.eq_false_iff.mpr p9))
        have q1 : (pG ma mg tl y.toInt.toNat && opn ma tl y.toInt.toNat) = false := q1
        rw [p1, o1] at q1
        exact absurd q1 (by decide)
      · intro q k hk
        show (pG ma mg tl k && opn ma tl k) = false
        by_cases o1 : opn ma tl k = true
        · rw [o1, Bool.and_true]
          refine (pG_ag hk o1).mpr fun h9 => q ⟨nI k, ?_, ?_, (gd_b1 hG9 hk).mpr o1, h9⟩
          · rw [nI_toInt (by omega)]; omega
          · rw [nI_toInt (by omega), t4_]; omega
        · rw [Bool.eq_false_iff.mpr o1, Bool.and_false]
    · rw [if_neg c2]
      obtain ⟨l2, l0⟩ := la_2 sb.hl c2
      have hl := sb.hl
      unfold NR at h
      rw [nI_tt (by omega)] at h
      obtain ⟨i, hi, e1, e2, e3, e4, e5⟩ := low_r (la := la) hc hr c0 c2
      rw [low_i h, if_neg (by omega), show rN la c % 8 - 1 = i by omega, btn_and1 _ hi]
      have o1 : opn ma tl i = true := by
        have b := gd_bit hG9 hi
        rw [e2] at b
        by_cases p9 : opn ma tl i = true
        · exact p9
        · rw [if_neg p9] at b; exact absurd b (by decide)
      rw [pG_ag hi o1]
      refine not_congr ?_
      by_cases d : la = 0
      · rw [← MB_1 (mg := mg) (tl := tl) (ml := la) (o := nI c) (by omega) (by omega) (l0.mp d), e3 d]
      · rw [← MB_2 (mg := mg) (tl := tl) (ml := la) (o := nI c) (by omega) (by omega) (fun h8 => d (l0.mpr h8)), e4 d]
theorem SB.ho (sb : SB pa ga te ne ma mg mt wf wp wt la mw) (hG : Gd ma tl o) (h : NR la tl o n) (hj : j < 4) : ((buC pa ga te n >>> (te j &&& 31)) &&& 1 = 0) ↔ ¬ HO mt o (mt j) := by
  have q := sb.hT j hj
  have e : te j = nI (te j).toInt.toNat := nI_sl q.1
  have b := (sb.bu h).b0 (t := (te j).toInt.toNat) (by omega)
  rw [← e] at b
  refine b.trans (not_congr ?_)
  unfold HO
  constructor
  · rintro ⟨i, h1, h2, h3⟩
    refine ⟨nI i, ?_, ?_, (gd_b1 hG h1).mpr h2, ?_⟩
    · rw [nI_toInt (by omega)]; omega
    · rw [nI_toInt (by omega), t4_]; omega
    · rw [nI_clamp (show i < 2 ^ 31 by omega), h3, sb.ht j hj]
  · rintro ⟨y, h1, h2, h3, h4⟩
    rw [t4_] at h2
    have ey : y = nI y.toInt.toNat := nI_sl h1
    rw [ey] at h3
    refine ⟨y.toInt.toNat, by omega, (gd_b1 hG (by omega)).mp h3, ?_⟩
    rw [sb.ht j hj]
    exact i_eq.mpr h4
theorem SB.iw (sb : SB pa ga te ne ma mg mt wf wp wt la mw) (hG : Gd ma tl o) (h : NR la tl o n) (hj : j < 4) (h4 : (tl j).toInt < 4) {se : Int32} (hse : 0 ≤ se.toInt ∧ se.toInt < 16) : (wfF ne n (ouC pa ga te n) (nI j) se = 0) ↔ ¬ IW ma wf wp wt mw tl (nI j) se 0 := by
  have g := hG.1 j hj
  have ej : (nI j).toInt = (j : Int) := nI_toInt (by omega)
  have hw := sb.hw
  unfold wfF
  rw [NG.pt h hj, if_pos h4]
  have ix : Int32.toNatClampNeg (nI j * 4 + tl j) = 4 * j + (tl j).toInt.toNat := by
    have m := i_mulr (x := nI j) (y := 4) (d := 4) (by decide) (by omega) (by omega)
    have s := i_add (x := nI j * 4) (y := tl j) (by omega) (by omega)
    show (nI j * 4 + tl j).toInt.toNat = _
    omega
  rw [ix, sb.ou h, fb_sub ((sb.hn j (tl j).toInt.toNat hj (by omega)).and hse) (pO ma tl)]
  have et : tl j = nI (tl j).toInt.toNat := nI_sl g.1
  constructor
  · rintro q ⟨y, h1, h2, ⟨_, h3⟩, h5, h6, h7⟩
    rw [nI_clamp (show j < 2 ^ 31 by omega)] at h6
    have hv := sb.hv y.toInt.toNat (by omega)
    have e5 : wf y.toInt.toNat = nI j := i_eq.mpr h5
    have e6 : wp y.toInt.toNat = nI (tl j).toInt.toNat := by rw [← et]; exact i_eq.mpr h6
    have e7 : wt y.toInt.toNat = nI (wt y.toInt.toNat).toInt.toNat := nI_sl hv.1
    have h3 : ((se >>> (wt y.toInt.toNat &&& 31)) &&& 1).toInt = 1 := h3
    have q1 := q (wt y.toInt.toNat).toInt.toNat (by omega) ⟨⟨y.toInt.toNat, by omega, e5, e6, e7⟩, fun h9 => by rw [← e7] at h9; rw [h9, t0_] at h3; omega⟩
    have q2 : (ma (wt y.toInt.toNat).toInt.toNat).toInt ≤ (tl (wt y.toInt.toNat).toInt.toNat).toInt := of_decide_eq_true q1
    have g2 := hG.1 (wt y.toInt.toNat).toInt.toNat (by omega)
    have h7 : ¬ (tl (wt y.toInt.toNat).toInt.toNat).toInt = (ma (wt y.toInt.toNat).toInt.toNat).toInt := h7
    omega
  · intro q t ht
    rintro ⟨⟨w, w1, w2, w3, w4⟩, w5⟩
    refine decide_eq_true ?_
    have g2 := hG.1 t ht
    by_cases d : (tl t).toInt = (ma t).toInt
    · omega
    · exfalso
      have ew : (nI w).toInt = (w : Int) := nI_toInt (by omega)
      have cw : Int32.toNatClampNeg (nI w) = w := nI_clamp (show w < 2 ^ 31 by omega)
      have z1 : ∀ w : Fin 6, (((0 : Int32) >>> (nI w.val &&& 31)) &&& 1).toInt = 0 := by decide
      refine q ⟨nI w, by omega, by omega, ⟨z1 ⟨w, by omega⟩, ?_⟩, ?_, ?_, ?_⟩
      · rw [cw, w4]
        rcases i_and1 (se >>> (nI t &&& 31)) with e | e
        · exact absurd (i_eq.mpr (e.trans t0_.symm)) w5
        · exact e
      · rw [cw, w2]
      · rw [cw, w3, nI_clamp (show j < 2 ^ 31 by omega), ← et]
      · rw [cw, w4, nI_clamp (show t < 2 ^ 31 by omega)]; exact d
/-- why the next part can not come: the same on both sides -/
theorem SB.why (sb : SB pa ga te ne ma mg mt wf wp wt la mw) (hG : Gd ma tl o) (h : NR la tl o n) (hj : j < 4) {se : Int32} (hse : 0 ≤ se.toInt ∧ se.toInt < 16) :
    (whyF ma mg mt wf wp wt mw la tl o (nI j) se 0 = -6 ∧ wnF te ne n (opC pa ga te n) (ouC pa ga te n) (mgC pa ga te la n) (buC pa ga te n) (mbC pa ga te la n) (nI j) se = 0) ∨
    (¬ whyF ma mg mt wf wp wt mw la tl o (nI j) se 0 = -6 ∧ wnF te ne n (opC pa ga te n) (ouC pa ga te n) (mgC pa ga te la n) (buC pa ga te n) (mbC pa ga te la n) (nI j) se = whyF ma mg mt wf wp wt mw la tl o (nI j) se 0 ∧ ¬ wnF te ne n (opC pa ga te n) (ouC pa ga te n) (mgC pa ga te la n) (buC pa ga te n) (mbC pa ga te la n) (nI j) se = 0) := by
  have g := hG.1 j hj
  have cj : Int32.toNatClampNeg (nI j) = j := nI_clamp (show j < 2 ^ 31 by omega)
  have fin : ∀ {W y k : Int32}, k = y → W = k → ¬ k = -6 → ¬ k = 0 → (y = -6 ∧ W = 0) ∨ (¬ y = -6 ∧ W = y ∧ ¬ W = 0) := by
    rintro W y k rfl rfl h1 h2
    exact Or.inr ⟨h1, rfl, h2⟩
  have hou : (ouC pa ga te n &&& ((1 : Int32) <<< (nI j &&& 31)) = 0) ↔ ¬ (tl j).toInt = (ma j).toInt := by
    rw [sb.ou h, btn_and1 _ hj]
    unfold pO
    rw [decide_eq_false_iff_not]
    omega
  have hop : (opC pa ga te n &&& ((1 : Int32) <<< (nI j &&& 31)) = 0) ↔ ¬ opn ma tl j = true := by
    rw [sb.op hG h, hG.2.2, btn_and1 _ hj, Bool.eq_false_iff]
  unfold wnF
  by_cases c1 : (tl j).toInt = (ma j).toInt
  · rw [if_neg (fun h9 => (hou.mp h9) c1)]
    exact fin (whyF_1 (by rw [cj]; exact c1)) rfl (by decide) (by decide)
  have n1 : ¬ (tl (nI j).toNatClampNeg).toInt = (ma (nI j).toNatClampNeg).toInt := by rw [cj]; exact c1
  rw [if_pos (hou.mpr c1)]
  by_cases c2 : 0 < (tl j).toInt
  · have ho : opn ma tl j = true := opn_t (by omega)
    have n2 : 0 < (tl (nI j).toNatClampNeg).toInt := by rw [cj]; exact c2
    rw [if_neg (fun h9 => (hop.mp h9) ho)]
    have hm := sb.may hG h hj ho
    by_cases c3 : MayP la o (nI j)
    · rw [if_neg (fun h9 => (hm.mp h9) c3)]
      have hi := sb.iw hG h hj (by omega) hse
      by_cases c4 : IW ma wf wp wt mw tl (nI j) se 0
      · rw [if_neg (fun h9 => (hi.mp h9) c4)]
        exact fin (whyF_5 n1 n2 c3 c4) rfl (by decide) (by decide)
      · rw [if_pos (hi.mpr c4)]
        exact Or.inl ⟨(whyF_6 n1 n2 c3 c4).symm, rfl⟩
    · rw [if_pos (hm.mpr c3)]
      exact fin (whyF_2 n1 n2 c3) rfl (by decide) (by decide)
  · have ho : ¬ opn ma tl j = true := by rw [opn_f (by omega)]; decide
    have n2 : ¬ 0 < (tl (nI j).toNatClampNeg).toInt := by rw [cj]; exact c2
    rw [if_pos (hop.mpr ho)]
    have hb := sb.mb hG h
    by_cases c3 : MB mg tl la o
    · rw [if_neg (fun h9 => (hb.mp h9) c3), cj]
      have hh := sb.ho hG h hj
      by_cases c5 : HO mt o (mt j)
      · rw [if_neg (fun h9 => (hh.mp h9) c5)]
        exact fin (whyF_4 n1 n2 c3 (by rw [cj]; exact c5)) rfl (by decide) (by decide)
      · have n5 : ¬ HO mt o (mt (nI j).toNatClampNeg) := by rw [cj]; exact c5
        rw [if_pos (hh.mpr c5)]
        have hi := sb.iw hG h hj (by omega) hse
        by_cases c4 : IW ma wf wp wt mw tl (nI j) se 0
        · rw [if_neg (fun h9 => (hi.mp h9) c4)]
          exact fin (whyF_5b n1 n2 c3 n5 c4) rfl (by decide) (by decide)
        · rw [if_pos (hi.mpr c4)]
          exact Or.inl ⟨(whyF_6b n1 n2 c3 n5 c4).symm, rfl⟩
    · rw [if_pos (hb.mpr c3)]
      exact fin (whyF_3 n1 n2 c3) rfl (by decide) (by decide)
theorem why6 {se : Int32} (hj : j < 4) (hy : whyF ma mg mt wf wp wt mw la tl o (nI j) se 0 = -6) : ¬ (tl j).toInt = (ma j).toInt ∧ (0 < (tl j).toInt → MayP la o (nI j)) := by
  have cj : Int32.toNatClampNeg (nI j) = j := nI_clamp (show j < 2 ^ 31 by omega)
  have h1 := whyF_out (ma := ma) (mg := mg) (mt := mt) (wf := wf) (wp := wp) (wt := wt) (mw := mw) (ml := la) (tl := tl) (o := o) (s := nI j) (se := se) (dr := 0) (by rw [hy, tm6_]; omega)
  rw [cj] at h1
  refine ⟨h1, fun h2 => ?_⟩
  by_cases c : MayP la o (nI j)
  · exact c
  · have := whyF_2 (ma := ma) (mg := mg) (mt := mt) (wf := wf) (wp := wp) (wt := wt) (mw := mw) (se := se) (dr := 0) (by rw [cj]; exact h1) (by rw [cj]; exact h2) c
    rw [hy] at this
    exact absurd this (by decide)
theorem sh_ct : ∀ k j : Fin 4, nI (j.val + 1) <<< ((3 * nI k.val) &&& 31) = nI (8 ^ k.val * (j.val + 1)) := by decide +kernel
theorem nI_orrt {a b : Nat} (k : Nat) (hb : b < 2 ^ k) (hs : 2 ^ k * a + b < 2 ^ 31) : nI b ||| nI (2 ^ k * a) = nI (2 ^ k * a + b) := by
  apply Int32.toBitVec_inj.mp
  apply BitVec.eq_of_toNat_eq
  rw [Int32.toBitVec_or, BitVec.toNat_or, pk_tn (by omega), pk_tn (by omega), pk_tn (by omega), Nat.or_comm]
  exact (Nat.two_pow_add_eq_or_of_lt hb a).symm
/-- the row behind a part more -/
theorem rw_ok {c : Nat} (hl : 0 ≤ la.toInt ∧ la.toInt ≤ 2) (hc : c < 625) (hr : rowP (nI c) = 1) (hG : Gd ma tl (nI c)) (hj : j < 4) (hR : n >>> (12 &&& 31) = nI (rN la c)) (hn : ¬ (tl j).toInt = (ma j).toInt) (hm : 0 < (tl j).toInt → MayP la (nI c) (nI j)) (hi : (tl j + 1).toInt = (tl j).toInt + 1) :
    rwF la n (setI (nI c)) (nI j) (if (tl j + 1).toInt < (ma j).toInt then 0 else 1) = nI (rN la (o2F ma tl (nI c) (nI j)).toInt.toNat) := by
  have g := hG.1 j hj
  have cj : Int32.toNatClampNeg (nI j) = j := nI_clamp (show j < 2 ^ 31 by omega)
  have ej : (nI j).toInt = (j : Int) := nI_toInt (by omega)
  unfold rwF
  rw [hR]
  by_cases c2 : la = 2
  · have z : ∀ x : Nat, rN la x = 0 := fun x => by unfold rN; rw [if_pos c2]
    rw [z, z, if_pos c2, if_pos c2]
    split <;> rfl
  obtain ⟨l2, l0⟩ := la_2 hl c2
  have b := gd_bit hG hj
  rw [if_neg c2, if_neg c2, b]
  unfold o2F o1F
  rw [cj]
  have hlt := rN_lt (la := la) hc
  by_cases t0 : (tl j).toInt = 0
  · have ho : opn ma tl j = false := opn_f (by omega)
    rw [ho] at b ⊢
    rw [if_pos (show (if false = true then (1 : Int32) else 0) = 0 from rfl), if_pos t0]
    have b0 : (setI (nI c) >>> (nI j &&& 31)) &&& 1 = 0 := b
    obtain ⟨q1, q2, q3, q4⟩ := rowR2 hc hr hj b0
    by_cases d : (tl j + 1).toInt < (ma j).toInt
    · rw [if_pos d, if_pos rfl, if_neg (show ¬ (tl j + 1).toInt = (ma j).toInt by omega), nI_1]
      have hmo := (row_more ⟨c, hc, hr, rfl⟩ hj b0).1.rng
      have lt := rN_lt (la := la) (c := (moreI (nI c) (nI j)).toInt.toNat) (by omega)
      by_cases d0 : la = 0
      · rw [if_pos d0]
        unfold rN at lt ⊢
        rw [if_neg c2, if_pos d0] at lt ⊢
        rw [if_neg c2, if_pos d0]
        rw [q1] at lt ⊢
        rw [pk_shlN (n := r0N c) _ 3 (by decide) (by omega), Nat.mul_comm]
        exact nI_orlt 3 (by omega) (by omega)
      · rw [if_neg d0]
        unfold rN at lt ⊢
        rw [if_neg c2, if_neg d0] at lt ⊢
        rw [if_neg c2, if_neg d0]
        rw [q2] at lt ⊢
        obtain ⟨⟨r1, r2, r3⟩, _⟩ := rowR hc hr
        have hs := chk_set hc hr
        have eb : bcF (setI (nI c)) = nI (ctN c) := by
          obtain ⟨v, hv, e⟩ : ∃ v : Nat, v < 16 ∧ setI (nI c) = nI v := ⟨(setI (nI c)).toInt.toNat, by omega, nI_sl hs.1⟩
          have e1 := bc_all ⟨v, hv⟩
          have e1 : bcF (nI v) = onesF (nI v) := e1
          rw [e, e1, ← e]
          exact nI_sl r3
        rw [eb, sh_ct ⟨ctN c, by omega⟩ ⟨j, hj⟩]
        have e8 : 8 ^ ctN c = 2 ^ (3 * ctN c) := (Nat.pow_mul 2 3 (ctN c)).symm
        show nI (r1N c) ||| nI (8 ^ ctN c * (j + 1)) = _
        rw [e8] at lt r1 ⊢
        exact nI_orrt (3 * ctN c) r1 (by omega)
    · rw [if_neg d, if_neg (by decide), if_pos (by omega), q4, nI_tt (by omega)]
  · have ho : opn ma tl j = true := opn_t (by omega)
    rw [ho]
    rw [if_neg (show ¬ (if true = true then (1 : Int32) else 0) = 0 by decide), if_neg t0]
    by_cases d : (tl j + 1).toInt < (ma j).toInt
    · rw [if_pos d, if_neg (by decide), if_neg (by omega), nI_tt (by omega)]
    · rw [if_neg d, if_pos rfl, if_pos (by omega)]
      have c0 : ¬ c = 0 := fun h9 => by
        have := ((rowR hc hr).2).mpr h9
        rw [this, ho, if_pos rfl] at b
        have z : ∀ j : Fin 4, ¬ ((0 : Int32) >>> (nI j.val &&& 31)) &&& 1 = 1 := by decide
        exact z ⟨j, hj⟩ b
      obtain ⟨i, hi2, e1, e2, e3, e4, e5⟩ := low_r (la := la) hc hr c0 c2
      have ei : (nI i).toInt = (i : Int) := nI_toInt (by omega)
      have eq : i = j := by
        rcases hm (by omega) with h9 | ⟨h8, h9⟩ | ⟨_, h8, h9⟩
        · exact absurd h9 l2
        · rw [e3 (l0.mpr h8)] at h9; omega
        · rw [e4 (fun h7 => h8 (l0.mp h7))] at h9; omega
      subst eq
      rw [e5]
      exact pk_shrN (by omega) _ 3 (by decide)
theorem SB.aft (sb : SB pa ga te ne ma mg mt wf wp wt la mw) (hG : Gd ma tl o) (h : NR la tl o n) (hj : j < 4) {se : Int32} (hy : whyF ma mg mt wf wp wt mw la tl o (nI j) se 0 = -6) : NR la (upd tl j (tl j + 1)) (o2F ma tl o (nI j)) (afF pa la n (opC pa ga te n) (nI j)) := by
  have g := hG.1 j hj
  have cj : Int32.toNatClampNeg (nI j) = j := nI_clamp (show j < 2 ^ 31 by omega)
  have ej : (nI j).toInt = (j : Int) := nI_toInt (by omega)
  obtain ⟨w1, w2⟩ := why6 hj hy
  have hi : (tl j + 1).toInt = (tl j).toInt + 1 := by have := t1_; have := i_add (x := tl j) (y := 1) (by omega) (by omega); omega
  have hT : ∀ k : Nat, k < 4 → 0 ≤ (upd tl j (tl j + 1) k).toInt ∧ (upd tl j (tl j + 1) k).toInt ≤ 7 := fun k hk => by
    have := hG.1 k hk
    rw [upd_eq]
    by_cases c : k = j
    · rw [if_pos c]; omega
    · rw [if_neg c]; omega
  have hT2 := (hG.tell (s := nI j) ⟨by omega, by omega⟩ (by rw [cj]; exact w1)).2.1.rng
  have e1 : cnF n (nI j) = nI (tN (upd tl j (tl j + 1))) := NG.cn h hj hi
  have e2 : ptI (cnF n (nI j)) (nI j) = tl j + 1 := by
    have z : NG 0 (upd tl j (tl j + 1)) (cnF n (nI j)) := ⟨by omega, hT, by rw [e1, Nat.mul_zero, Nat.zero_add]⟩
    rw [z.pt hj, upd_eq, if_pos rfl]
  unfold afF
  rw [e2, e1, cj, sb.hp j hj, sb.op hG h]
  obtain ⟨c, hc, hr, rfl⟩ := hG.2.1
  have hR := NG.row h
  rw [nI_tt (by omega)] at hR
  rw [rw_ok sb.hl hc hr hG hj hR w1 w2 hi, NG.mk (rN_lt (by omega)) (tN_lt hT)]
  exact ⟨rN_lt (by omega), hT, rfl⟩
end EVE
/-! LEVEL 3: evenings, on both sides -/
theorem tds0 : ∀ j, j < 4 → (tds 0 j).toInt = 0 := by decide +kernel
theorem nr_0 {la : Int32} {co : Nat → Int32} (h0 : co 0 = 0) : NR la (tds 0) (opS co 0) 0 := by
  unfold NR
  rw [show opS co 0 = co 0 from rfl, h0, t0_]
  have e : rN la (Int.toNat 0) = 0 := by
    unfold rN
    split
    · rfl
    · split <;> rfl
  rw [e]
  refine ⟨by omega, fun j hj => by rw [tds0 j hj]; omega, ?_⟩
  unfold tN
  rw [tds0 0 (by omega), tds0 1 (by omega), tds0 2 (by omega), tds0 3 (by omega)]
  rfl
theorem bc_set {o : Int32} (h : RowI o) : bcF (setI o) = onesF (setI o) := by
  obtain ⟨c, hc, hr, rfl⟩ := h
  have hs := chk_set hc hr
  obtain ⟨v, hv, e⟩ : ∃ v : Nat, v < 16 ∧ setI (nI c) = nI v := ⟨(setI (nI c)).toInt.toNat, by omega, nI_sl hs.1⟩
  have e1 : bcF (nI v) = onesF (nI v) := bc_all ⟨v, hv⟩
  rw [e]; exact e1
theorem mx_c {d b : Int32} : (if d < b then b else d) = if b ≤ d then d else b := by
  by_cases c : d < b
  · rw [if_pos c, if_neg (fun h => by have := i_lt.mp c; have := i_le.mp h; omega)]
  · rw [if_neg c, if_pos (i_le.mpr (by have : ¬ d.toInt < b.toInt := fun h => c (i_lt.mpr h); omega))]
section EV2
variable {pa ga te mi ne ma mg mt mm wf wp wt co f : Nat → Int32} {la br mw : Int32} {z : Nat}
theorem sg_r {i : Nat} (hf : 97 ≤ (f i).toInt ∧ (f i).toInt ≤ 100) : 0 ≤ (f i - 97).toInt ∧ (f i - 97).toInt ≤ 3 := by
  have : (97 : Int32).toInt = 97 := by decide
  have := i_sub (x := f i) (y := 97) (by omega) (by omega)
  omega
theorem ix_eq {j : Nat} {x : Int32} (hj : j < 4) (hx : 0 ≤ x.toInt ∧ x.toInt < 4) : Int32.toNatClampNeg (nI j * 4 + x) = 4 * j + x.toInt.toNat ∧ Int32.toNatClampNeg (4 * nI j + x) = 4 * j + x.toInt.toNat := by
  have ej : (nI j).toInt = (j : Int) := nI_toInt (by omega)
  have m := i_mulr (x := nI j) (y := 4) (d := 4) (by decide) (by omega) (by omega)
  have s := i_add (x := nI j * 4) (y := x) (by omega) (by omega)
  have m2 := i_mull (x := 4) (y := nI j) (d := 4) (by decide) (by omega) (by omega)
  have s2 := i_add (x := 4 * nI j) (y := x) (by omega) (by omega)
  constructor
  · show (nI j * 4 + x).toInt.toNat = _; omega
  · show (4 * nI j + x).toInt.toNat = _; omega
/-- where both stand behind the first signs -/
def EQI (pa ga te mi ma mt mm co f : Nat → Int32) (la br : Int32) (i : Nat) : Prop := (Gd ma (tR f i) (oR ma co f i) ∧ NR la (tR f i) (oR ma co f i) (nC pa ga te la f i)) ∧ dC pa ga te la f i = dR ma co f i ∧ mC pa ga te mi la br f i = kR mm mt f br i
theorem EQI.go (sb : SB pa ga te ne ma mg mt wf wp wt la mw) (hm : ∀ j : Nat, j < 16 → mi j = mm j) (hf : ∀ k : Nat, k < z → 97 ≤ (f k).toInt ∧ (f k).toInt ≤ 100) {i : Nat} (hi : i < z) (h : EQI pa ga te mi ma mt mm co f la br i) (hy : yR ma mg mt wf wp wt mw la co f i = -6) : EQI pa ga te mi ma mt mm co f la br (i + 1) := by
  obtain ⟨⟨hG, hN⟩, hd, hk⟩ := h
  have hs := sg_r (hf i hi)
  obtain ⟨j, hj, es, cs⟩ := s_nI hs
  have hy2 : whyF ma mg mt wf wp wt mw la (tR f i) (oR ma co f i) (nI j) 15 0 = -6 := by rw [← es]; exact hy
  obtain ⟨w1, w2⟩ := why6 hj hy2
  have g := hG.1 j hj
  have hn : ¬ (tR f i (f i - 97).toNatClampNeg).toInt = (ma (f i - 97).toNatClampNeg).toInt := by rw [cs]; exact w1
  have cj : Int32.toNatClampNeg (nI j) = j := nI_clamp (show j < 2 ^ 31 by omega)
  refine ⟨⟨hG.tell hs hn, ?_⟩, ?_, ?_⟩
  · show NR la (upd (tR f i) (Int32.toNatClampNeg (f i - 97)) (tR f i (Int32.toNatClampNeg (f i - 97)) + 1)) (o2F ma (tR f i) (oR ma co f i) (f i - 97)) (afF pa la (nC pa ga te la f i) (opC pa ga te (nC pa ga te la f i)) (f i - 97))
    rw [cs, es]
    exact sb.aft hG hN hj hy2
  · show dpF (opC pa ga te (nC pa ga te la f i)) (f i - 97) (dC pa ga te la f i) = if onesF (setI (o1F (tR f i) (oR ma co f i) (f i - 97))) ≤ dR ma co f i then dR ma co f i else onesF (setI (o1F (tR f i) (oR ma co f i) (f i - 97)))
    have g1 := hG.one hs hn
    unfold dpF
    rw [sb.op hG hN, ← g1.2, bc_set g1.1, hd, mx_c]
  · show tmF mi te br (nC pa ga te la f i) (f i - 97) (laC f i) (mC pa ga te mi la br f i) = kR mm mt f br i + (mm (Int32.toNatClampNeg (4 * (f i - 97) + tR f i (Int32.toNatClampNeg (f i - 97)))) + (if 0 < i ∧ ¬ mt (Int32.toNatClampNeg (f (i - 1) - 97)) = mt (Int32.toNatClampNeg (f i - 97)) then br else 0))
    have x4 : 0 ≤ (tR f i j).toInt ∧ (tR f i j).toInt < 4 := by omega
    have ix := ix_eq hj x4
    have em : mnF mi (f i - 97) (ptI (nC pa ga te la f i) (f i - 97)) = mm (Int32.toNatClampNeg (4 * (f i - 97) + tR f i (Int32.toNatClampNeg (f i - 97)))) := by
      rw [cs, es, NG.pt hN hj]
      unfold mnF
      rw [if_pos (by omega), ix.1, ix.2]
      exact hm _ (by omega)
    unfold tmF
    rw [em, hk]
    cases i with
    | zero =>
      rw [if_neg (fun h9 => by have h8 := h9.1; rw [show laC f 0 = -6 from rfl, tm6_] at h8; omega), if_neg (fun h9 => absurd h9.1 (Nat.lt_irrefl 0))]
      rw [Int32.add_zero]
    | succ k =>
      have hs2 := sg_r (hf k (by omega))
      have e1 : te (Int32.toNatClampNeg (f k - 97)) = mt (Int32.toNatClampNeg (f k - 97)) := sb.ht _ (by show (f k - 97).toInt.toNat < 4; omega)
      have e2 : te (Int32.toNatClampNeg (f (k + 1) - 97)) = mt (Int32.toNatClampNeg (f (k + 1) - 97)) := sb.ht _ (by rw [cs]; exact hj)
      rw [show laC f (k + 1) = f k - 97 from rfl, e1, e2, show f (k + 1 - 1) = f k from rfl]
      by_cases c : mt (Int32.toNatClampNeg (f k - 97)) = mt (Int32.toNatClampNeg (f (k + 1) - 97))
      · rw [if_neg (fun h9 => h9.2 c), if_neg (fun h9 => h9.2 c), Int32.add_zero]
      · rw [if_pos ⟨hs2, c⟩, if_pos ⟨by omega, c⟩, Int32.add_assoc]
theorem EQI.all (sb : SB pa ga te ne ma mg mt wf wp wt la mw) (hm : ∀ j : Nat, j < 16 → mi j = mm j) (hp : POk ma) (h0 : co 0 = 0) (hf : ∀ k : Nat, k < z → 97 ≤ (f k).toInt ∧ (f k).toInt ≤ 100) : ∀ i : Nat, i ≤ z → (∀ k : Nat, k < i → yR ma mg mt wf wp wt mw la co f k = -6) → EQI pa ga te mi ma mt mm co f la br i := by
  intro i
  induction i with
  | zero => intro _ _; exact ⟨⟨GS.z hp h0, nr_0 h0⟩, rfl, rfl⟩
  | succ i ih => intro hi hk; exact (ih (by omega) fun k h => hk k (by omega)).go sb hm hf (by omega) (hk i (by omega))
theorem cmp_at (sb : SB pa ga te ne ma mg mt wf wp wt la mw) (hm : ∀ j : Nat, j < 16 → mi j = mm j) (hp : POk ma) (h0 : co 0 = 0) (hf : ∀ k : Nat, k < z → 97 ≤ (f k).toInt ∧ (f k).toInt ≤ 100) {k : Nat} (hk : k < z) (ha : ∀ j : Nat, j < k → yR ma mg mt wf wp wt mw la co f j = -6) : (yR ma mg mt wf wp wt mw la co f k = -6 ∧ wyC pa ga te ne la f k = 0) ∨ (¬ yR ma mg mt wf wp wt mw la co f k = -6 ∧ wyC pa ga te ne la f k = yR ma mg mt wf wp wt mw la co f k ∧ ¬ wyC pa ga te ne la f k = 0) := by
  obtain ⟨⟨hG, hN⟩, _⟩ := EQI.all (mi := mi) (mm := mm) (br := 0) sb hm hp h0 hf k (by omega) ha
  have hs := sg_r (hf k hk)
  obtain ⟨j, hj, es, cs⟩ := s_nI hs
  unfold yR wyC
  rw [es]
  exact sb.why hG hN hj ⟨by decide, by decide⟩
theorem cmp_up (sb : SB pa ga te ne ma mg mt wf wp wt la mw) (hm : ∀ j : Nat, j < 16 → mi j = mm j) (hp : POk ma) (h0 : co 0 = 0) (hf : ∀ k : Nat, k < z → 97 ≤ (f k).toInt ∧ (f k).toInt ≤ 100) : ∀ k : Nat, k ≤ z → (∀ j : Nat, j < k → wyC pa ga te ne la f j = 0) → ∀ j : Nat, j < k → yR ma mg mt wf wp wt mw la co f j = -6 := by
  intro k
  induction k with
  | zero => intro _ _ j hj; exact absurd hj (Nat.not_lt_zero _)
  | succ k ih =>
    intro hk ha j hj
    have h1 := ih (by omega) fun j h => ha j (by omega)
    by_cases c : j = k
    · rw [c]
      rcases cmp_at sb hm hp h0 hf (show k < z by omega) h1 with q | q
      · exact q.1
      · exact absurd (ha k (by omega)) q.2.2
    · exact h1 j (by omega)
/-- the evening judged: the same on both sides -/
theorem eve_eq {r ep ew eo ed em op bp by0 dp tk : Int32} (sb : SB pa ga te ne ma mg mt wf wp wt la mw) (hm : ∀ j : Nat, j < 16 → mi j = mm j) (hp : POk ma) (h0 : co 0 = 0) (hf : ∀ k : Nat, k < z → 97 ≤ (f k).toInt ∧ (f k).toInt ≤ 100) (h : JDG pa ga te mi ne la br f z r ep ew eo ed em) (h' : GEV ma mg mt mm wf wp wt mw la br co f z op bp by0 dp tk) :
    (r.toInt = 1 ∧ (bp = -6 ∧ by0 = -6) ∧ (eo = setI op ∧ ed = dp ∧ em = tk) ∧ ∃ tl : Nat → Int32, Gd ma tl op) ∨ (r.toInt = 0 ∧ 0 ≤ bp.toInt ∧ ep = bp ∧ ew = by0) := by
  rcases h with ⟨hr, hg, h1, h2, h3⟩ | ⟨hr, k, hk, hg, hb, h1, h2⟩
  · have hy := cmp_up sb hm hp h0 hf z (Nat.le_refl _) hg
    rcases h' with ⟨hb, ⟨g1, g2, g3⟩, _⟩ | ⟨_, k, hk, _, hb, _⟩
    · obtain ⟨⟨hG, hN⟩, e2, e3⟩ := EQI.all (br := br) sb hm hp h0 hf z (Nat.le_refl _) hy
      refine Or.inl ⟨hr, hb, ⟨?_, ?_, ?_⟩, tR f z, ?_⟩
      · rw [h1, sb.op hG hN, g1]
      · rw [h2, e2, g2]
      · rw [h3, e3, g3]
      · rw [g1]; exact hG
    · exact absurd (hy k hk) hb
  · have hy := cmp_up sb hm hp h0 hf k (by omega) hg
    have q := (cmp_at sb hm hp h0 hf hk hy).resolve_left (fun q => hb q.2)
    rcases h' with ⟨_, _, ha⟩ | ⟨p0, k2, hk2, ha, hb2, g1, g2⟩
    · exact absurd (ha k hk) q.1
    · have : k = k2 := by
        by_cases c : k < k2
        · exact absurd (ha k c) q.1
        · by_cases c2 : k2 < k
          · exact absurd (hy k2 c2) hb2
          · omega
      subst this
      exact Or.inr ⟨hr, p0, by rw [h1, g1], by rw [h2, q.2.1, g2]⟩
end EV2
