/-- a walk over the digits of a number, by fives -/
def dg {β : Type} (f : Int32 → β → β) : Nat → Int32 → β → β
  | 0, _, b => b
  | n + 1, l, b => if 0 < l.toInt then dg f n (l / 5) (f l b) else b
def DG {β : Type} (f : Int32 → β → β) (l : Int32) (b S : β) : Prop := ∃ n : Nat, dg f n l b = S ∧ l.toInt < ((5 ^ n : Nat) : Int)
theorem i_div5 {x : Int32} (h : 0 ≤ x.toInt) : (x / 5).toInt = x.toInt / 5 := by
  have := i_div (x := x) (y := 5) h (by decide)
  rw [t5_] at this
  exact this
theorem i_rem5 {x : Int32} (h : 0 ≤ x.toInt) : (x - x / 5 * 5).toInt = x.toInt % 5 := by
  have := i_rem (x := x) (y := 5) h (by decide)
  rw [t5_] at this
  exact this
theorem i_div65 {x : Int32} (h : 0 ≤ x.toInt) : (x / 65).toInt = x.toInt / 65 := by
  have := i_div (x := x) (y := 65) h (by decide)
  rw [t65_] at this
  exact this
theorem i_rem65 {x : Int32} (h : 0 ≤ x.toInt) : (x - x / 65 * 65).toInt = x.toInt % 65 := by
  have := i_rem (x := x) (y := 65) h (by decide)
  rw [t65_] at this
  exact this
theorem DG.go {β : Type} {f : Int32 → β → β} {l : Int32} {b S : β} (h : DG f l b S) (h0 : 0 < l.toInt) : DG f (l / 5) (f l b) S := by
  obtain ⟨n, h1, h2⟩ := h
  cases n with
  | zero => simp at h2; omega
  | succ n =>
    rw [dg, if_pos h0] at h1
    refine ⟨n, h1, ?_⟩
    rw [i_div5 (by omega)]
    rw [Nat.pow_succ] at h2
    omega
theorem DG.out {β : Type} {f : Int32 → β → β} {l : Int32} {b S : β} (h : DG f l b S) (h0 : ¬ 0 < l.toInt) : b = S := by
  obtain ⟨n, h1, h2⟩ := h
  cases n with
  | zero => exact h1
  | succ n => rw [dg, if_neg h0] at h1; exact h1
theorem DG.of {β : Type} {f : Int32 → β → β} {l : Int32} {b : β} (h : l.toInt < 625) : DG f l b (dg f 4 l b) := ⟨4, rfl, h⟩
def fset (l b : Int32) : Int32 := b ||| ((1 : Int32) <<< ((l - l / 5 * 5 - 1) &&& 31))
def flast (l _b : Int32) : Int32 := l - l / 5 * 5 - 1
def frow (l : Int32) (b : Int32 × Int32) : Int32 × Int32 := (if ¬ b.1.toInt = 0 ∧ 0 < (l - l / 5 * 5).toInt ∧ ((b.2 >>> ((l - l / 5 * 5) &&& 31)) &&& 1).toInt = 0 then 1 else 0, b.2 ||| ((1 : Int32) <<< ((l - l / 5 * 5) &&& 31)))
def fwith (s l : Int32) (b : Int32 × Int32) : Int32 × Int32 := if (l - l / 5 * 5).toInt = (s + 1).toInt then b else (b.1 + (l - l / 5 * 5) * b.2, b.2 * 5)
def setI (a : Int32) : Int32 := dg fset 4 a 0
def lastI (a : Int32) : Int32 := dg flast 4 a (-6)
def rowP (a : Int32) : Int32 := (dg frow 4 a (1, 0)).1
def withI (a s : Int32) : Int32 := (dg (fwith s) 4 a (0, 1)).1
def plI (a : Int32) : Int32 := if a.toInt < 1 then 1 else if a.toInt < 5 then 5 else if a.toInt < 25 then 25 else if a.toInt < 125 then 125 else 625
def moreI (a s : Int32) : Int32 := a + (s + 1) * plI a
/-- the code of a row -/
def RowI (o : Int32) : Prop := ∃ c : Nat, c < 625 ∧ rowP (nI c) = 1 ∧ o = nI c
def rowN (c : Nat) : Bool := rowP (nI c) == 1
/-- which of the four stories are so -/
def btn (p : Nat → Bool) : Nat → Int32
  | 0 => 0
  | n + 1 => btn p n ||| (if p n then (1 : Int32) <<< (nI n &&& 31) else 0)
def chkM (c : Nat) : Bool := !rowN c || (List.range 4).all fun j => !((setI (nI c) >>> (nI j &&& 31)) &&& 1 == 0) || (decide (0 ≤ (moreI (nI c) (nI j)).toInt) && decide ((moreI (nI c) (nI j)).toInt < 625) && rowN (moreI (nI c) (nI j)).toInt.toNat && (setI (moreI (nI c) (nI j)) == (setI (nI c) ||| (1 : Int32) <<< (nI j &&& 31))))
def chkW (c : Nat) : Bool := !rowN c || (List.range 4).all fun j => (decide (0 ≤ (withI (nI c) (nI j)).toInt) && decide ((withI (nI c) (nI j)).toInt < 625) && rowN (withI (nI c) (nI j)).toInt.toNat && (setI (withI (nI c) (nI j)) == (setI (nI c) &&& ~~~ ((1 : Int32) <<< (nI j &&& 31)))))
def chkL (c : Nat) : Bool := !rowN c || c == 0 || (decide (0 ≤ (lastI (nI c)).toInt) && decide ((lastI (nI c)).toInt ≤ 3) && decide (0 ≤ (nI c - nI c / 5 * 5 - 1).toInt) && decide ((nI c - nI c / 5 * 5 - 1).toInt ≤ 3))
set_option maxRecDepth 100000 in
theorem chkM_all : ∀ c : Nat, c < 625 → chkM c = true := by decide +kernel
set_option maxRecDepth 100000 in
theorem chkW_all : ∀ c : Nat, c < 625 → chkW c = true := by decide +kernel
set_option maxRecDepth 100000 in
theorem chkL_all : ∀ c : Nat, c < 625 → chkL c = true := by decide +kernel
theorem nI_self {x : Int32} (h : 0 ≤ x.toInt) : x = nI x.toInt.toNat := by
  have := i_rng x
  refine i_eq.mpr ?_
  rw [nI_toInt (by omega)]
  omega
theorem RowI.rng {o : Int32} (h : RowI o) : 0 ≤ o.toInt ∧ o.toInt < 625 := by
  obtain ⟨c, hc, _, rfl⟩ := h
  rw [nI_toInt (by omega)]
  omega
theorem RowI.ofN {o : Int32} (h0 : 0 ≤ o.toInt) (h1 : o.toInt < 625) (h : rowN o.toInt.toNat = true) : RowI o := by
  refine ⟨o.toInt.toNat, by omega, ?_, nI_self h0⟩
  exact beq_iff_eq.mp h
theorem row_more {o : Int32} {j : Nat} (h : RowI o) (hj : j < 4) (hb : (setI o >>> (nI j &&& 31)) &&& 1 = 0) : RowI (moreI o (nI j)) ∧ setI (moreI o (nI j)) = (setI o ||| ((1 : Int32) <<< (nI j &&& 31))) := by
  obtain ⟨c, hc, hr, rfl⟩ := h
  have h1 := chkM_all c hc
  rw [chkM, Bool.or_eq_true] at h1
  rcases h1 with h1 | h1
  · rw [rowN, hr] at h1; exact absurd h1 (by decide)
  · have h2 := List.all_eq_true.mp h1 j (List.mem_range.mpr hj)
    rw [Bool.or_eq_true] at h2
    rcases h2 with h2 | h2
    · rw [hb] at h2; exact absurd h2 (by decide)
    · simp only [Bool.and_eq_true, decide_eq_true_eq] at h2
      obtain ⟨⟨⟨a, b⟩, c2⟩, d⟩ := h2
      exact ⟨RowI.ofN a b c2, beq_iff_eq.mp d⟩
theorem row_with {o : Int32} {j : Nat} (h : RowI o) (hj : j < 4) : RowI (withI o (nI j)) ∧ setI (withI o (nI j)) = (setI o &&& ~~~ ((1 : Int32) <<< (nI j &&& 31))) := by
  obtain ⟨c, hc, hr, rfl⟩ := h
  have h1 := chkW_all c hc
  rw [chkW, Bool.or_eq_true] at h1
  rcases h1 with h1 | h1
  · rw [rowN, hr] at h1; exact absurd h1 (by decide)
  · have h2 := List.all_eq_true.mp h1 j (List.mem_range.mpr hj)
    simp only [Bool.and_eq_true, decide_eq_true_eq] at h2
    obtain ⟨⟨⟨a, b⟩, c2⟩, d⟩ := h2
    exact ⟨RowI.ofN a b c2, beq_iff_eq.mp d⟩
theorem row_last {o : Int32} (h : RowI o) (h0 : ¬ o.toInt = 0) : (0 ≤ (lastI o).toInt ∧ (lastI o).toInt ≤ 3) ∧ 0 ≤ (o - o / 5 * 5 - 1).toInt ∧ (o - o / 5 * 5 - 1).toInt ≤ 3 := by
  obtain ⟨c, hc, hr, rfl⟩ := h
  have h1 := chkL_all c hc
  rw [nI_toInt (by omega)] at h0
  rw [chkL, Bool.or_eq_true, Bool.or_eq_true] at h1
  rcases h1 with (h1 | h1) | h1
  · rw [rowN, hr] at h1; exact absurd h1 (by decide)
  · have := beq_iff_eq.mp h1; omega
  · simp only [Bool.and_eq_true, decide_eq_true_eq] at h1
    obtain ⟨⟨⟨a, b⟩, c2⟩, d⟩ := h1
    exact ⟨⟨a, b⟩, c2, d⟩
def bt4 (b0 b1 b2 b3 : Bool) : Int32 := (((0 ||| (if b0 then (1 : Int32) <<< (nI 0 &&& 31) else 0)) ||| (if b1 then (1 : Int32) <<< (nI 1 &&& 31) else 0)) ||| (if b2 then (1 : Int32) <<< (nI 2 &&& 31) else 0)) ||| (if b3 then (1 : Int32) <<< (nI 3 &&& 31) else 0)
theorem btn4 (p : Nat → Bool) : btn p 4 = bt4 (p 0) (p 1) (p 2) (p 3) := rfl
theorem bt4_bit : ∀ b0 b1 b2 b3 : Bool, ((bt4 b0 b1 b2 b3 >>> (nI 0 &&& 31)) &&& 1 = if b0 then 1 else 0) ∧ ((bt4 b0 b1 b2 b3 >>> (nI 1 &&& 31)) &&& 1 = if b1 then 1 else 0) ∧ ((bt4 b0 b1 b2 b3 >>> (nI 2 &&& 31)) &&& 1 = if b2 then 1 else 0) ∧ ((bt4 b0 b1 b2 b3 >>> (nI 3 &&& 31)) &&& 1 = if b3 then 1 else 0) := by decide +kernel
theorem bt4_on : ∀ b0 b1 b2 b3 : Bool, ((bt4 b0 b1 b2 b3 ||| (1 : Int32) <<< (nI 0 &&& 31)) = bt4 true b1 b2 b3) ∧ ((bt4 b0 b1 b2 b3 ||| (1 : Int32) <<< (nI 1 &&& 31)) = bt4 b0 true b2 b3) ∧ ((bt4 b0 b1 b2 b3 ||| (1 : Int32) <<< (nI 2 &&& 31)) = bt4 b0 b1 true b3) ∧ ((bt4 b0 b1 b2 b3 ||| (1 : Int32) <<< (nI 3 &&& 31)) = bt4 b0 b1 b2 true) := by decide +kernel
theorem bt4_off : ∀ b0 b1 b2 b3 : Bool, ((bt4 b0 b1 b2 b3 &&& ~~~ ((1 : Int32) <<< (nI 0 &&& 31))) = bt4 false b1 b2 b3) ∧ ((bt4 b0 b1 b2 b3 &&& ~~~ ((1 : Int32) <<< (nI 1 &&& 31))) = bt4 b0 false b2 b3) ∧ ((bt4 b0 b1 b2 b3 &&& ~~~ ((1 : Int32) <<< (nI 2 &&& 31))) = bt4 b0 b1 false b3) ∧ ((bt4 b0 b1 b2 b3 &&& ~~~ ((1 : Int32) <<< (nI 3 &&& 31))) = bt4 b0 b1 b2 false) := by decide +kernel
theorem lt4 {j : Nat} (h : j < 4) : j = 0 ∨ j = 1 ∨ j = 2 ∨ j = 3 := by omega
theorem btn_bit (p : Nat → Bool) {j : Nat} (hj : j < 4) : (btn p 4 >>> (nI j &&& 31)) &&& 1 = if p j then 1 else 0 := by
  rw [btn4]
  have h := bt4_bit (p 0) (p 1) (p 2) (p 3)
  rcases lt4 hj with rfl | rfl | rfl | rfl
  · exact h.1
  · exact h.2.1
  · exact h.2.2.1
  · exact h.2.2.2
theorem btn_on (p q : Nat → Bool) {j : Nat} (hj : j < 4) (h : ∀ i, i < 4 → q i = if i = j then true else p i) : (btn p 4 ||| (1 : Int32) <<< (nI j &&& 31)) = btn q 4 := by
  rw [btn4, btn4, h 0 (by omega), h 1 (by omega), h 2 (by omega), h 3 (by omega)]
  have h9 := bt4_on (p 0) (p 1) (p 2) (p 3)
  rcases lt4 hj with rfl | rfl | rfl | rfl
  · exact h9.1
  · exact h9.2.1
  · exact h9.2.2.1
  · exact h9.2.2.2
theorem btn_off (p q : Nat → Bool) {j : Nat} (hj : j < 4) (h : ∀ i, i < 4 → q i = if i = j then false else p i) : (btn p 4 &&& ~~~ ((1 : Int32) <<< (nI j &&& 31))) = btn q 4 := by
  rw [btn4, btn4, h 0 (by omega), h 1 (by omega), h 2 (by omega), h 3 (by omega)]
  have h9 := bt4_off (p 0) (p 1) (p 2) (p 3)
  rcases lt4 hj with rfl | rfl | rfl | rfl
  · exact h9.1
  · exact h9.2.1
  · exact h9.2.2.1
  · exact h9.2.2.2
/-- a story is open -/
def opn (ma tl : Nat → Int32) (j : Nat) : Bool := decide (0 < (tl j).toInt ∧ (tl j).toInt < (ma j).toInt)
/-- how far an evening has come: no story beyond its parts; the row is of those that are open -/
def Gd (ma tl : Nat → Int32) (o : Int32) : Prop := (∀ j : Nat, j < 4 → 0 ≤ (tl j).toInt ∧ (tl j).toInt ≤ (ma j).toInt ∧ (ma j).toInt ≤ 4) ∧ RowI o ∧ setI o = btn (opn ma tl) 4
def o1F (tl : Nat → Int32) (o s : Int32) : Int32 := if (tl s.toNatClampNeg).toInt = 0 then moreI o s else o
def o2F (ma tl : Nat → Int32) (o s : Int32) : Int32 := if (tl s.toNatClampNeg + 1).toInt = (ma s.toNatClampNeg).toInt then withI (o1F tl o s) s else o1F tl o s
theorem s_nI {s : Int32} (h : 0 ≤ s.toInt ∧ s.toInt ≤ 3) : ∃ j : Nat, j < 4 ∧ s = nI j ∧ s.toNatClampNeg = j := ⟨s.toInt.toNat, by omega, nI_self h.1, rfl⟩
theorem Gd.congr {ma tl tl2 : Nat → Int32} {o : Int32} (h : Gd ma tl o) (h9 : ∀ j, j < 4 → tl2 j = tl j) : Gd ma tl2 o := by
  refine ⟨fun j hj => by rw [h9 j hj]; exact h.1 j hj, h.2.1, ?_⟩
  rw [h.2.2, btn4, btn4]
  unfold opn
  rw [h9 0 (by omega), h9 1 (by omega), h9 2 (by omega), h9 3 (by omega)]
theorem Gd.one {ma tl : Nat → Int32} {o s : Int32} (h : Gd ma tl o) (hs : 0 ≤ s.toInt ∧ s.toInt ≤ 3) (hn : ¬ (tl s.toNatClampNeg).toInt = (ma s.toNatClampNeg).toInt) : RowI (o1F tl o s) ∧ setI (o1F tl o s) = (setI o ||| ((1 : Int32) <<< (s &&& 31))) := by
  obtain ⟨j, hj, rfl, e⟩ := s_nI hs
  rw [e] at hn
  have h1 := h.1 j hj
  unfold o1F
  rw [e]
  by_cases h0 : (tl j).toInt = 0
  · rw [if_pos h0]
    refine row_more h.2.1 hj ?_
    rw [h.2.2, btn_bit _ hj, if_neg]
    unfold opn
    rw [decide_eq_true_eq]
    omega
  · rw [if_neg h0]
    refine ⟨h.2.1, ?_⟩
    rw [h.2.2]
    refine (btn_on _ _ hj fun i hi => ?_).symm
    by_cases h9 : i = j
    · rw [if_pos h9, h9]; unfold opn; rw [decide_eq_true_eq]; omega
    · rw [if_neg h9]
theorem Gd.inc {ma tl : Nat → Int32} {o s : Int32} (h : Gd ma tl o) (hs : 0 ≤ s.toInt ∧ s.toInt ≤ 3) (hn : ¬ (tl s.toNatClampNeg).toInt = (ma s.toNatClampNeg).toInt) : (tl s.toNatClampNeg + 1).toInt = (tl s.toNatClampNeg).toInt + 1 ∧ 0 ≤ (tl s.toNatClampNeg).toInt ∧ (tl s.toNatClampNeg).toInt < (ma s.toNatClampNeg).toInt ∧ (ma s.toNatClampNeg).toInt ≤ 4 := by
  obtain ⟨j, hj, rfl, e⟩ := s_nI hs
  rw [e] at hn ⊢
  have h1 := h.1 j hj
  have := t1_
  have := i_add (x := tl j) (y := 1) (by omega) (by omega)
  omega
theorem Gd.tell {ma tl : Nat → Int32} {o s : Int32} (h : Gd ma tl o) (hs : 0 ≤ s.toInt ∧ s.toInt ≤ 3) (hn : ¬ (tl s.toNatClampNeg).toInt = (ma s.toNatClampNeg).toInt) : Gd ma (upd tl s.toNatClampNeg (tl s.toNatClampNeg + 1)) (o2F ma tl o s) := by
  have h1 := h.one hs hn
  have hi := h.inc hs hn
  obtain ⟨j, hj, rfl, e⟩ := s_nI hs
  unfold o2F
  rw [e] at hn hi ⊢
  have hu : ∀ i, i < 4 → opn ma (upd tl j (tl j + 1)) i = if i = j then decide (0 < (tl j + 1).toInt ∧ (tl j + 1).toInt < (ma j).toInt) else opn ma tl i := fun i hi2 => by
    unfold opn
    rw [upd_eq]
    by_cases h9 : i = j
    · rw [if_pos h9, if_pos h9, h9]
    · rw [if_neg h9, if_neg h9]
  refine ⟨fun i hi2 => ?_, ?_⟩
  · rw [upd_eq]
    have := h.1 i hi2
    by_cases h9 : i = j
    · rw [if_pos h9, h9]; omega
    · rw [if_neg h9]; exact this
  by_cases h0 : (tl j + 1).toInt = (ma j).toInt
  · rw [if_pos h0]
    have h2 := row_with h1.1 hj
    refine ⟨h2.1, ?_⟩
    rw [h2.2, h1.2, h.2.2, btn_on _ (fun i => if i = j then true else opn ma tl i) hj (fun i hi2 => rfl)]
    refine btn_off _ _ hj fun i hi2 => ?_
    rw [hu i hi2]
    by_cases h9 : i = j
    · rw [if_pos h9, if_pos h9, decide_eq_false_iff_not]; omega
    · rw [if_neg h9, if_neg h9]; exact (if_neg h9).symm
  · rw [if_neg h0]
    refine ⟨h1.1, ?_⟩
    rw [h1.2, h.2.2]
    refine btn_on _ _ hj fun i hi2 => ?_
    rw [hu i hi2]
    by_cases h9 : i = j
    · rw [if_pos h9, if_pos h9, decide_eq_true_eq]; omega
    · rw [if_neg h9, if_neg h9]
/-- a stand: parts told, by fives, times 65, and the row's number -/
def tdn (a : Int32) : Nat → Int32
  | 0 => a - a / 5 * 5
  | 1 => a / 5 - a / 5 / 5 * 5
  | 2 => a / 5 / 5 - a / 5 / 5 / 5 * 5
  | 3 => a / 5 / 5 / 5 - a / 5 / 5 / 5 / 5 * 5
  | _ => 0
def tds (a : Int32) : Nat → Int32 := tdn (a / 65)
def opS (co : Nat → Int32) (a : Int32) : Int32 := co (Int32.toNatClampNeg (a - a / 65 * 65))
def sm (a : Int32) : Int := (tds a 0).toInt + (tds a 1).toInt + (tds a 2).toInt + (tds a 3).toInt
def pw (a : Int32) : Int32 := if a = 0 then 1 else if a = 1 then 5 else if a = 2 then 25 else 125
def stF (ro tl : Nat → Int32) (o : Int32) : Int32 := 65 * (0 + pw 0 * tl 0 + pw 1 * tl 1 + pw 2 * tl 2 + pw 3 * tl 3) + ro (Int32.toNatClampNeg o)
def RT (co ro : Nat → Int32) : Prop := (∀ j : Nat, j < 65 → RowI (co j)) ∧ co 0 = 0 ∧ ∀ o : Int32, RowI o → 0 ≤ (ro o.toNatClampNeg).toInt ∧ (ro o.toNatClampNeg).toInt < 65 ∧ co (ro o.toNatClampNeg).toNatClampNeg = o
theorem tdn_i {a : Int32} (h : 0 ≤ a.toInt) : (tdn a 0).toInt = a.toInt % 5 ∧ (tdn a 1).toInt = a.toInt / 5 % 5 ∧ (tdn a 2).toInt = a.toInt / 25 % 5 ∧ (tdn a 3).toInt = a.toInt / 125 % 5 := by
  have d1 := i_div5 h
  have d2 := i_div5 (x := a / 5) (by omega)
  have d3 := i_div5 (x := a / 5 / 5) (by omega)
  have e0 := i_rem5 h
  have e1 := i_rem5 (x := a / 5) (by omega)
  have e2 := i_rem5 (x := a / 5 / 5) (by omega)
  have e3 := i_rem5 (x := a / 5 / 5 / 5) (by omega)
  refine ⟨e0, ?_, ?_, ?_⟩
  · rw [show (tdn a 1).toInt = _ from e1]; omega
  · rw [show (tdn a 2).toInt = _ from e2]; omega
  · rw [show (tdn a 3).toInt = _ from e3]; omega
theorem tds_i {a : Int32} (h : 0 ≤ a.toInt) : (tds a 0).toInt = a.toInt / 65 % 5 ∧ (tds a 1).toInt = a.toInt / 325 % 5 ∧ (tds a 2).toInt = a.toInt / 1625 % 5 ∧ (tds a 3).toInt = a.toInt / 8125 % 5 := by
  have d := i_div65 h
  have h1 := tdn_i (a := a / 65) (by omega)
  unfold tds
  omega
theorem tds_rng {a : Int32} (h : 0 ≤ a.toInt) {j : Nat} (hj : j < 4) : 0 ≤ (tds a j).toInt ∧ (tds a j).toInt ≤ 4 := by
  have h1 := tds_i h
  rcases lt4 hj with rfl | rfl | rfl | rfl <;> omega
theorem i_lit {d : Int32} {k : Int} (hd : d.toInt = k) {x : Int32} {lo hi : Int} (h : lo ≤ x.toInt ∧ x.toInt ≤ hi) (h1 : -2147483648 ≤ k * x.toInt) (h2 : k * x.toInt < 2147483648) : (d * x).toInt = k * x.toInt := by
  subst hd
  exact i_mul h1 h2
theorem st_i {ro tl : Nat → Int32} {o : Int32} (h : ∀ j : Nat, j < 4 → 0 ≤ (tl j).toInt ∧ (tl j).toInt ≤ 4) (hr : 0 ≤ (ro o.toNatClampNeg).toInt ∧ (ro o.toNatClampNeg).toInt < 65) : (stF ro tl o).toInt = 65 * ((tl 0).toInt + 5 * (tl 1).toInt + 25 * (tl 2).toInt + 125 * (tl 3).toInt) + (ro o.toNatClampNeg).toInt := by
  have a0 := h 0 (by omega)
  have a1 := h 1 (by omega)
  have a2 := h 2 (by omega)
  have a3 := h 3 (by omega)
  have m0 := i_lit (d := pw 0) (k := 1) (by decide) a0 (by omega) (by omega)
  have m1 := i_lit (d := pw 1) (k := 5) (by decide) a1 (by omega) (by omega)
  have m2 := i_lit (d := pw 2) (k := 25) (by decide) a2 (by omega) (by omega)
  have m3 := i_lit (d := pw 3) (k := 125) (by decide) a3 (by omega) (by omega)
  have := t0_
  have s0 := i_add (x := 0) (y := pw 0 * tl 0) (by omega) (by omega)
  have s1 := i_add (x := 0 + pw 0 * tl 0) (y := pw 1 * tl 1) (by omega) (by omega)
  have s2 := i_add (x := 0 + pw 0 * tl 0 + pw 1 * tl 1) (y := pw 2 * tl 2) (by omega) (by omega)
  have s3 := i_add (x := 0 + pw 0 * tl 0 + pw 1 * tl 1 + pw 2 * tl 2) (y := pw 3 * tl 3) (by omega) (by omega)
  have m := i_lit (d := 65) (k := 65) (by decide) (x := 0 + pw 0 * tl 0 + pw 1 * tl 1 + pw 2 * tl 2 + pw 3 * tl 3) (lo := 0) (hi := 1000) (by omega) (by omega) (by omega)
  have s4 := i_add (x := 65 * (0 + pw 0 * tl 0 + pw 1 * tl 1 + pw 2 * tl 2 + pw 3 * tl 3)) (y := ro o.toNatClampNeg) (by omega) (by omega)
  unfold stF
  omega
theorem st_ok {ma tl co ro : Nat → Int32} {o : Int32} (hR : RT co ro) (hG : Gd ma tl o) : (0 ≤ (stF ro tl o).toInt ∧ (stF ro tl o).toInt < 40625) ∧ (∀ j, j < 4 → tds (stF ro tl o) j = tl j) ∧ opS co (stF ro tl o) = o := by
  have h4 : ∀ j : Nat, j < 4 → 0 ≤ (tl j).toInt ∧ (tl j).toInt ≤ 4 := fun j hj => by have := hG.1 j hj; omega
  have hr := hR.2.2 o hG.2.1
  have e := st_i h4 ⟨hr.1, hr.2.1⟩
  have a0 := h4 0 (by omega)
  have a1 := h4 1 (by omega)
  have a2 := h4 2 (by omega)
  have a3 := h4 3 (by omega)
  have h0 : 0 ≤ (stF ro tl o).toInt := by omega
  have d := tds_i h0
  refine ⟨by omega, fun j hj => ?_, ?_⟩
  · refine i_eq.mpr ?_
    rcases lt4 hj with rfl | rfl | rfl | rfl <;> omega
  · unfold opS
    rw [show (stF ro tl o - stF ro tl o / 65 * 65) = ro o.toNatClampNeg from i_eq.mpr (by rw [i_rem65 h0]; omega)]
    exact hr.2.2
theorem on_dec {x : Int32} (h : ¬ x = 0) : (x &&& (x - 1)).toBitVec.toNat < x.toBitVec.toNat := by
  have h0 : ¬ x.toBitVec.toNat = 0 := fun h9 => h (Int32.toBitVec_inj.mp (BitVec.eq_of_toNat_eq (by rw [h9]; rfl)))
  have h1 : (x &&& (x - 1)).toBitVec.toNat ≤ (x - 1).toBitVec.toNat := by
    rw [Int32.toBitVec_and, BitVec.toNat_and]
    exact Nat.and_le_right
  have h2 : (x - 1).toBitVec.toNat = x.toBitVec.toNat - 1 := by
    rw [Int32.toBitVec_sub, BitVec.toNat_sub]
    have h3 : (1 : Int32).toBitVec.toNat = 1 := by decide
    have h4 : x.toBitVec.toNat < 2 ^ 32 := x.toBitVec.isLt
    rw [h3]
    omega
  omega
def onL : Nat → Int32 → Int32 → Int32
  | 0, _, n => n
  | k + 1, l, n => if l = 0 then n else onL k (l &&& (l - 1)) (n + 1)
def onesF (x : Int32) : Int32 := onL x.toBitVec.toNat x 0
def ON (l n S : Int32) : Prop := ∃ k : Nat, onL k l n = S ∧ l.toBitVec.toNat ≤ k
theorem ON.of (x : Int32) : ON x 0 (onesF x) := ⟨_, rfl, Nat.le_refl _⟩
theorem ON.go {l n S : Int32} (h : ON l n S) (h0 : ¬ l = 0) : ON (l &&& (l - 1)) (n + 1) S := by
  obtain ⟨k, h1, h2⟩ := h
  have h3 := on_dec h0
  cases k with
  | zero => omega
  | succ k => rw [onL, if_neg h0] at h1; exact ⟨k, h1, by omega⟩
theorem ON.out {l n S : Int32} (h : ON l n S) (h0 : l = 0) : n = S := by
  obtain ⟨k, h1, h2⟩ := h
  cases k with
  | zero => exact h1
  | succ k => rw [onL, if_pos h0] at h1; exact h1
/-- at a gate -/
def AG (mg tl : Nat → Int32) (s : Int32) : Prop := ((mg s.toNatClampNeg >>> ((tl s.toNatClampNeg - 1) &&& 31)) &&& 1).toInt = 1
def bit1 (x s : Int32) : Prop := ((x >>> (s &&& 31)) &&& 1).toInt = 1
def MB (mg tl : Nat → Int32) (ml o : Int32) : Prop := o.toInt = 0 ∨ (¬ o.toInt = 0 ∧ ml.toInt < 2 ∧ ml.toInt = 0 ∧ AG mg tl (lastI o)) ∨ (¬ o.toInt = 0 ∧ ml.toInt < 2 ∧ ¬ ml.toInt = 0 ∧ AG mg tl (o - o / 5 * 5 - 1)) ∨ (¬ o.toInt = 0 ∧ ¬ ml.toInt < 2 ∧ EX (fun y => bit1 (setI o) y ∧ AG mg tl y) 4)
def HO (mt : Nat → Int32) (o t : Int32) : Prop := EX (fun y => bit1 (setI o) y ∧ (mt y.toNatClampNeg).toInt = t.toInt) 4
def IW (ma wf wp wt : Nat → Int32) (mw : Int32) (tl : Nat → Int32) (s se dr : Int32) : Prop := EX (fun y => (((dr >>> (y &&& 31)) &&& 1).toInt = 0 ∧ ((se >>> (wt y.toNatClampNeg &&& 31)) &&& 1).toInt = 1) ∧ (wf y.toNatClampNeg).toInt = s.toInt ∧ (wp y.toNatClampNeg).toInt = (tl s.toNatClampNeg).toInt ∧ ¬ (tl (wt y.toNatClampNeg).toNatClampNeg).toInt = (ma (wt y.toNatClampNeg).toNatClampNeg).toInt) mw
def MayP (ml o s : Int32) : Prop := ml.toInt = 2 ∨ (ml.toInt = 0 ∧ s.toInt = (lastI o).toInt) ∨ (¬ ml.toInt = 2 ∧ ¬ ml.toInt = 0 ∧ s.toInt = (o - o / 5 * 5 - 1).toInt)
noncomputable def whyF (ma mg mt wf wp wt : Nat → Int32) (mw ml : Int32) (tl : Nat → Int32) (o s se dr : Int32) : Int32 :=
  ifc ((tl s.toNatClampNeg).toInt = (ma s.toNatClampNeg).toInt) 1 (ifc (0 < (tl s.toNatClampNeg).toInt) (ifc (MayP ml o s) (ifc (IW ma wf wp wt mw tl s se dr) 5 (-6)) 2) (ifc (MB mg tl ml o) (ifc (HO mt o (mt s.toNatClampNeg)) 4 (ifc (IW ma wf wp wt mw tl s se dr) 5 (-6))) 3))
theorem whyF_out {ma mg mt wf wp wt : Nat → Int32} {mw ml : Int32} {tl : Nat → Int32} {o s se dr : Int32} (h : ¬ 0 ≤ (whyF ma mg mt wf wp wt mw ml tl o s se dr).toInt) : ¬ (tl s.toNatClampNeg).toInt = (ma s.toNatClampNeg).toInt := fun h9 => h (by unfold whyF; rw [ifc_t h9]; decide)
noncomputable def nxF (ma mg mt wf wp wt : Nat → Int32) (mw ml : Int32) (co ro : Nat → Int32) (st s se dp dr : Int32) : Int32 :=
  ifc (((se >>> (s &&& 31)) &&& 1).toInt = 0) (-6) (ifc (0 ≤ (whyF ma mg mt wf wp wt mw ml (tds st) (opS co st) s se dr).toInt) (-6) (ifc (dp.toInt < (onesF (setI (o1F (tds st) (opS co st) s))).toInt) (-6) (stF ro (upd (tds st) s.toNatClampNeg (tds st s.toNatClampNeg + 1)) (o2F ma (tds st) (opS co st) s))))
/-- a stand to which an evening may have come -/
def GS (ma co : Nat → Int32) (st : Int32) : Prop := Gd ma (tds st) (opS co st)
theorem nx_ok {ma mg mt wf wp wt : Nat → Int32} {mw ml : Int32} {co ro : Nat → Int32} {st s se dp dr : Int32} (hR : RT co ro) (h0 : 0 ≤ st.toInt) (hG : GS ma co st) (hs : 0 ≤ s.toInt ∧ s.toInt ≤ 3) (h : ¬ (nxF ma mg mt wf wp wt mw ml co ro st s se dp dr).toInt < 0) :
    (0 ≤ (nxF ma mg mt wf wp wt mw ml co ro st s se dp dr).toInt ∧ (nxF ma mg mt wf wp wt mw ml co ro st s se dp dr).toInt < 40625) ∧ GS ma co (nxF ma mg mt wf wp wt mw ml co ro st s se dp dr) ∧ sm (nxF ma mg mt wf wp wt mw ml co ro st s se dp dr) = sm st + 1 := by
  revert h
  unfold nxF
  by_cases h1 : ((se >>> (s &&& 31)) &&& 1).toInt = 0
  · rw [ifc_t h1, tm6_]; omega
  rw [ifc_f h1]
  by_cases h2 : 0 ≤ (whyF ma mg mt wf wp wt mw ml (tds st) (opS co st) s se dr).toInt
  · rw [ifc_t h2, tm6_]; omega
  rw [ifc_f h2]
  by_cases h3 : dp.toInt < (onesF (setI (o1F (tds st) (opS co st) s))).toInt
  · rw [ifc_t h3, tm6_]; omega
  rw [ifc_f h3]
  intro _
  have hn := whyF_out h2
  have hT := hG.tell hs hn
  have hi := hG.inc hs hn
  have hk := st_ok hR hT
  refine ⟨hk.1, ?_, ?_⟩
  · unfold GS
    rw [hk.2.2]
    exact hT.congr hk.2.1
  · unfold sm
    rw [hk.2.1 0 (by omega), hk.2.1 1 (by omega), hk.2.1 2 (by omega), hk.2.1 3 (by omega)]
    obtain ⟨j, hj, rfl, e⟩ := s_nI hs
    rw [e] at hi ⊢
    rw [upd_eq, upd_eq, upd_eq, upd_eq]
    rcases lt4 hj with rfl | rfl | rfl | rfl
    · rw [if_pos rfl, if_neg (by omega), if_neg (by omega), if_neg (by omega)]; omega
    · rw [if_pos rfl, if_neg (by omega), if_neg (by omega), if_neg (by omega)]; omega
    · rw [if_pos rfl, if_neg (by omega), if_neg (by omega), if_neg (by omega)]; omega
    · rw [if_pos rfl, if_neg (by omega), if_neg (by omega), if_neg (by omega)]; omega
/-- the array's elements alone count -/
theorem x_arr {X : Cx} {nL : Nat} {ws : va_W} {lv : List (Nat × Value)} {st : List Value} {pc k n : Nat} (q0 : Nat) {a : Nat} {cA : ClassId} {N : Nat} {f : Nat → Int32} (g : Nat → Int32) (ws' : va_W) (ha : ws[q0]? = some (a, .inl (cA, N, .inl f))) (hfg : ∀ j, j < N → f j = g j) (hs : ws.set q0 (a, .inl (cA, N, .inl g)) = ws') (kk : V X nL ws' lv st pc k n) : V X nL ws lv st pc k n :=
  fun H locs ls hP hD hS hl => by
    have h1 : va_at (xD X) vwCl (a, .inl (cA, N, .inl g)) H := by
      have h2 : va_at (xD X) vwCl (a, .inl (cA, N, .inl f)) H := hP q0 _ ha
      have h3 : vp_cell cA (N, .inl f) = vp_cell cA (N, .inl g) := by
        rw [vp_cell_i, vp_cell_i]
        unfold arrV
        congr 1
        exact congrArg Array.ofFn (funext fun j => by show Value.int (f j.val) = Value.int (g j.val); rw [hfg j.val j.isLt])
      show H[a]? = some (vp_cell cA (N, .inl g))
      rw [← h3]
      exact h2
    exact kk H locs ls (hs ▸ hP.set hD ha h1 (fun _ _ => rfl)) (hs ▸ hD.set ha) hS hl
/-- the sum of what is told is that of a stand's number -/
def CB (ma tl : Nat → Int32) (o se : Int32) : Prop := AX (fun y => (bit1 se y ∧ (tl y.toNatClampNeg).toInt ≤ (ma y.toNatClampNeg).toInt) ∨ (¬ bit1 se y ∧ (tl y.toNatClampNeg).toInt ≤ 0)) 4 ∧ btn (opn ma tl) 4 = setI o
def WH (ma tl : Nat → Int32) (se : Int32) : Prop := AX (fun y => ((se >>> (y &&& 31)) &&& 1).toInt = 0 ∨ (tl y.toNatClampNeg).toInt = (ma y.toNatClampNeg).toInt) 4
theorem CB.gd {ma co : Nat → Int32} {st se : Int32} (hp : POk ma) (hc : ∀ j : Nat, j < 65 → RowI (co j)) (h0 : 0 ≤ st.toInt) (h : CB ma (tds st) (opS co st) se) : GS ma co st := by
  refine ⟨fun j hj => ?_, ?_, h.2.symm⟩
  · have h1 := tds_rng h0 hj
    have h2 := hp j hj
    have e : (nI j).toInt = (j : Int) := nI_toInt (by omega)
    have e4 := t4_
    have h3 := h.1 (nI j) (by omega) (by omega)
    simp only [nI_clamp (show j < 2 ^ 31 by omega)] at h3
    rcases h3 with h3 | h3 <;> omega
  · have h1 := i_rem65 h0
    refine hc _ ?_
    show (st - st / 65 * 65).toInt.toNat < 65
    omega
theorem GS.z {ma co : Nat → Int32} (hp : POk ma) (h0 : co 0 = 0) : GS ma co 0 := by
  have e : ∀ j, j < 4 → (tds 0 j).toInt = 0 := by decide +kernel
  refine ⟨fun j hj => ?_, ?_, ?_⟩
  · have := e j hj; have := hp j hj; omega
  · rw [show opS co 0 = co 0 from rfl, h0]; exact ⟨0, by omega, by decide +kernel, rfl⟩
  · rw [show opS co 0 = co 0 from rfl, h0, btn4]
    have h9 : ∀ j, j < 4 → opn ma (tds 0) j = false := fun j hj => by
      unfold opn
      have := e j hj
      rw [decide_eq_false_iff_not]; omega
    rw [h9 0 (by omega), h9 1 (by omega), h9 2 (by omega), h9 3 (by omega)]
    decide +kernel
theorem btn_t {p : Nat → Bool} {x y : Int32} (h0 : 0 ≤ x.toInt) (hx : y.toInt = x.toInt + 1) (hp : p x.toNatClampNeg = true) : btn p y.toInt.toNat = (btn p x.toInt.toNat ||| (1 : Int32) <<< (x &&& 31)) := by
  rw [show y.toInt.toNat = x.toInt.toNat + 1 by omega, btn, show p x.toInt.toNat = true from hp, ← nI_self h0]
  rfl
theorem btn_f {p : Nat → Bool} {x y : Int32} (h0 : 0 ≤ x.toInt) (hx : y.toInt = x.toInt + 1) (hp : p x.toNatClampNeg = false) : btn p y.toInt.toNat = (btn p x.toInt.toNat ||| 0) := by
  rw [show y.toInt.toNat = x.toInt.toNat + 1 by omega, btn, show p x.toInt.toNat = false from hp]
  rfl
theorem opn_t {ma tl : Nat → Int32} {j : Nat} (h : 0 < (tl j).toInt ∧ (tl j).toInt < (ma j).toInt) : opn ma tl j = true := by unfold opn; rw [decide_eq_true_eq]; exact h
theorem opn_f {ma tl : Nat → Int32} {j : Nat} (h : ¬ (0 < (tl j).toInt ∧ (tl j).toInt < (ma j).toInt)) : opn ma tl j = false := by unfold opn; rw [decide_eq_false_iff_not]; exact h
