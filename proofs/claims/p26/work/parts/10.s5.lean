theorem i_and7 (x : Int32) : 0 ≤ (x &&& 7).toInt ∧ (x &&& 7).toInt ≤ 7 := by
  obtain ⟨j, hj, h⟩ := pk_andE x (m := 7) 3 (by decide)
  rw [h, nI_toInt (by omega)]
  omega
theorem i_and1 (x : Int32) : (x &&& 1).toInt = 0 ∨ (x &&& 1).toInt = 1 := by
  obtain ⟨j, hj, h⟩ := pk_andE x (m := 1) 1 (by decide)
  rw [h, nI_toInt (by omega)]
  omega
/-- a boolean field takes 0 and 1 -/
theorem z_nar {x : Int32} (h : x.toInt = 0 ∨ x.toInt = 1) : narrow .boolean (.int x) = .int x ∧ fits .boolean (.int x) = true := by
  rcases h with h | h
  · rw [i_eq.mpr (show x.toInt = (0 : Int32).toInt by rw [h]; rfl)]; exact ⟨rfl, rfl⟩
  · rw [i_eq.mpr (show x.toInt = (1 : Int32).toInt by rw [h]; rfl)]; exact ⟨rfl, rfl⟩
/-! LEVEL 3: the moment, exactly -/
theorem or0 (x : Int32) : x ||| 0 = x := by
  apply Int32.toBitVec_inj.mp
  rw [Int32.toBitVec_or]
  exact BitVec.or_zero
/-- how many parts of a story are told, as a night holds them -/
def ptI (a b : Int32) : Int32 := (a >>> ((3 * b) &&& 31)) &&& 7
def lowI (a : Int32) : Int32 := if (a >>> (12 &&& 31)) &&& 7 = 0 then 0 else (1 : Int32) <<< ((((a >>> (12 &&& 31)) &&& 7) - 1) &&& 31)
def usI (x n : Int32) : Int32 := (Int32.toUInt32 x >>> (Int32.toUInt32 n &&& Int32.toUInt32 31)).toInt32
def bc1 (x : Int32) : Int32 := x - (usI x 1 &&& 1431655765)
def bc2 (x : Int32) : Int32 := (x &&& 858993459) + (usI x 2 &&& 858993459)
def bc3 (x : Int32) : Int32 := (x + usI x 4) &&& 252645135
def bc4 (x : Int32) : Int32 := x + usI x 8
def bc5 (x : Int32) : Int32 := x + usI x 16
def bcF (x : Int32) : Int32 := bc5 (bc4 (bc3 (bc2 (bc1 x)))) &&& 63
/-- told out, open, tellers busy, at a gate: of the first stories -/
def lk (pa ga te : Nat → Int32) (a : Int32) : Nat → Int32 × Int32 × Int32 × Int32
  | 0 => (0, 0, 0, 0)
  | k + 1 => if (pa k).toInt ≤ (ptI a (nI k)).toInt then ((lk pa ga te a k).1 ||| ((1 : Int32) <<< (nI k &&& 31)), (lk pa ga te a k).2.1, (lk pa ga te a k).2.2.1, (lk pa ga te a k).2.2.2)
    else if 0 < (ptI a (nI k)).toInt then ((lk pa ga te a k).1, (lk pa ga te a k).2.1 ||| ((1 : Int32) <<< (nI k &&& 31)), (lk pa ga te a k).2.2.1 ||| ((1 : Int32) <<< (te k &&& 31)), (lk pa ga te a k).2.2.2 ||| (((ga k >>> ((ptI a (nI k) - 1) &&& 31)) &&& 1) <<< (nI k &&& 31)))
    else lk pa ga te a k
section LK
variable {pa ga te : Nat → Int32} {a u o t g x y : Int32}
theorem lk_out (h : lk pa ga te a x.toInt.toNat = (u, o, t, g)) (h0 : 0 ≤ x.toInt) (hy : y.toInt = x.toInt + 1) (hc : ¬ (ptI a x).toInt < (pa x.toNatClampNeg).toInt) : lk pa ga te a y.toInt.toNat = (u ||| ((1 : Int32) <<< (x &&& 31)), o, t, g) := by
  have hc : ¬ (ptI a x).toInt < (pa x.toInt.toNat).toInt := hc
  rw [show y.toInt.toNat = x.toInt.toNat + 1 by omega, lk, ← nI_sl h0, if_pos (by omega), h]
theorem lk_no (h : lk pa ga te a x.toInt.toNat = (u, o, t, g)) (h0 : 0 ≤ x.toInt) (hy : y.toInt = x.toInt + 1) (hc : (ptI a x).toInt < (pa x.toNatClampNeg).toInt) (hn : (ptI a x).toInt ≤ (0 : Int32).toInt) : lk pa ga te a y.toInt.toNat = (u, o, t, g) := by
  have hc : (ptI a x).toInt < (pa x.toInt.toNat).toInt := hc
  rw [t0_] at hn
  rw [show y.toInt.toNat = x.toInt.toNat + 1 by omega, lk, ← nI_sl h0, if_neg (by omega), if_neg (by omega), h]
theorem lk_op (h : lk pa ga te a x.toInt.toNat = (u, o, t, g)) (h0 : 0 ≤ x.toInt) (hy : y.toInt = x.toInt + 1) (hc : (ptI a x).toInt < (pa x.toNatClampNeg).toInt) (hn : ¬ (ptI a x).toInt ≤ (0 : Int32).toInt) : lk pa ga te a y.toInt.toNat = (u, o ||| ((1 : Int32) <<< (x &&& 31)), t ||| ((1 : Int32) <<< (te x.toNatClampNeg &&& 31)), g ||| (((ga x.toNatClampNeg >>> ((ptI a x - 1) &&& 31)) &&& 1) <<< (x &&& 31))) := by
  have hc : (ptI a x).toInt < (pa x.toInt.toNat).toInt := hc
  rw [t0_] at hn
  rw [show y.toInt.toNat = x.toInt.toNat + 1 by omega, lk, ← nI_sl h0, if_neg (by omega), if_pos (by omega), h]
  rfl
end LK
def ouC (pa ga te : Nat → Int32) (a : Int32) : Int32 := (lk pa ga te a 4).1
def opC (pa ga te : Nat → Int32) (a : Int32) : Int32 := (lk pa ga te a 4).2.1
def buC (pa ga te : Nat → Int32) (a : Int32) : Int32 := (lk pa ga te a 4).2.2.1
def gaC (pa ga te : Nat → Int32) (a : Int32) : Int32 := (lk pa ga te a 4).2.2.2
def mgC (pa ga te : Nat → Int32) (la a : Int32) : Int32 := if la = 2 then opC pa ga te a else lowI a
def mbC (pa ga te : Nat → Int32) (la a : Int32) : Int32 := if opC pa ga te a = 0 then 1 else if gaC pa ga te a &&& mgC pa ga te la a = 0 then 0 else 1
/-- the moment's fields are those of its night -/
def MOM (pa ga te : Nat → Int32) (la a mo mu mg mt mb : Int32) : Prop := mo = opC pa ga te a ∧ mu = ouC pa ga te a ∧ mg = mgC pa ga te la a ∧ mt = buC pa ga te a ∧ mb = mbC pa ga te la a
theorem MOM.of {pa ga te : Nat → Int32} {la a mo mu mg mt mb g : Int32} (h : lk pa ga te a 4 = (mu, mo, mt, g)) (h1 : mg = if la = 2 then mo else lowI a) (h2 : mb = if mo = 0 then 1 else if g &&& mg = 0 then 0 else 1) : MOM pa ga te la a mo mu mg mt mb := by
  have e1 : mo = opC pa ga te a := by unfold opC; rw [h]
  have e2 : mg = mgC pa ga te la a := by unfold mgC; rw [← e1]; exact h1
  refine ⟨e1, by unfold ouC; rw [h], e2, by unfold buC; rw [h], ?_⟩
  unfold mbC
  rw [← e1, ← e2, show gaC pa ga te a = g by unfold gaC; rw [h]]
  exact h2
def wfF (ne : Nat → Int32) (mn mu s a : Int32) : Int32 := if (ptI mn s).toInt < 4 then (ne (Int32.toNatClampNeg (s * 4 + ptI mn s)) &&& a) &&& (mu ^^^ (-1)) else 0
def wnF (te ne : Nat → Int32) (mn mo mu mg mt mb s a : Int32) : Int32 :=
  if mu &&& ((1 : Int32) <<< (s &&& 31)) = 0 then
    (if mo &&& ((1 : Int32) <<< (s &&& 31)) = 0 then (if mb = 0 then 3 else if (mt >>> (te (Int32.toNatClampNeg s) &&& 31)) &&& 1 = 0 then (if wfF ne mn mu s a = 0 then 0 else 5) else 4)
    else if mg &&& ((1 : Int32) <<< (s &&& 31)) = 0 then 2 else (if wfF ne mn mu s a = 0 then 0 else 5))
  else 1
def rwF (la mn mo s a : Int32) : Int32 :=
  if (mo >>> (s &&& 31)) &&& 1 = 0 then (if la = 2 then mn >>> (12 &&& 31) else if (0 : Int32) = a then (if la = 0 then ((mn >>> (12 &&& 31)) <<< (3 &&& 31)) ||| (s + 1) else (mn >>> (12 &&& 31)) ||| ((s + 1) <<< ((3 * bcF mo) &&& 31))) else mn >>> (12 &&& 31))
  else (if la = 2 then mn >>> (12 &&& 31) else if (1 : Int32) = a then (mn >>> (12 &&& 31)) >>> (3 &&& 31) else mn >>> (12 &&& 31))
def cnF (mn s : Int32) : Int32 := (mn &&& 4095) + ((1 : Int32) <<< ((3 * s) &&& 31))
def afF (pa : Nat → Int32) (la mn mo s : Int32) : Int32 := (rwF la mn mo s (if (ptI (cnF mn s) s).toInt < (pa (Int32.toNatClampNeg s)).toInt then 0 else 1) <<< (12 &&& 31)) ||| cnF mn s
/-! the evening on the pad -/
def dpF (mo s d : Int32) : Int32 := if d < bcF (mo ||| ((1 : Int32) <<< (s &&& 31))) then bcF (mo ||| ((1 : Int32) <<< (s &&& 31))) else d
def mnF (mi : Nat → Int32) (s p : Int32) : Int32 := if 0 ≤ p.toInt ∧ p.toInt ≤ 3 then mi (s * 4 + p).toNatClampNeg else 0
def tmF (mi te : Nat → Int32) (br mn s t m : Int32) : Int32 := if (0 ≤ t.toInt ∧ t.toInt ≤ 3) ∧ ¬ te (Int32.toNatClampNeg t) = te (Int32.toNatClampNeg s) then (m + mnF mi s (ptI mn s)) + br else m + mnF mi s (ptI mn s)
/-- the nights of an evening, how deep it comes, how long it takes -/
def nC (pa ga te : Nat → Int32) (la : Int32) (f : Nat → Int32) : Nat → Int32
  | 0 => 0
  | i + 1 => afF pa la (nC pa ga te la f i) (opC pa ga te (nC pa ga te la f i)) (f i - 97)
def dC (pa ga te : Nat → Int32) (la : Int32) (f : Nat → Int32) : Nat → Int32
  | 0 => 0
  | i + 1 => dpF (opC pa ga te (nC pa ga te la f i)) (f i - 97) (dC pa ga te la f i)
def laC (f : Nat → Int32) : Nat → Int32
  | 0 => -6
  | i + 1 => f i - 97
def mC (pa ga te mi : Nat → Int32) (la br : Int32) (f : Nat → Int32) : Nat → Int32
  | 0 => 0
  | i + 1 => tmF mi te br (nC pa ga te la f i) (f i - 97) (laC f i) (mC pa ga te mi la br f i)
def wyC (pa ga te ne : Nat → Int32) (la : Int32) (f : Nat → Int32) (i : Nat) : Int32 :=
  wnF te ne (nC pa ga te la f i) (opC pa ga te (nC pa ga te la f i)) (ouC pa ga te (nC pa ga te la f i)) (mgC pa ga te la (nC pa ga te la f i)) (buC pa ga te (nC pa ga te la f i)) (mbC pa ga te la (nC pa ga te la f i)) (f i - 97) 15
/-- where an evening stands behind its first signs -/
def EVI (pa ga te mi ne : Nat → Int32) (la br : Int32) (f : Nat → Int32) (i : Nat) (mn mo mu mg mt mb d m t : Int32) : Prop := (MOM pa ga te la mn mo mu mg mt mb ∧ mn = nC pa ga te la f i) ∧ (d = dC pa ga te la f i ∧ m = mC pa ga te mi la br f i ∧ t = laC f i) ∧ ∀ k : Nat, k < i → wyC pa ga te ne la f k = 0
theorem EVI.z {pa ga te mi ne f : Nat → Int32} {la br mo mu mg mt mb : Int32} (h : MOM pa ga te la 0 mo mu mg mt mb) : EVI pa ga te mi ne la br f 0 0 mo mu mg mt mb 0 0 (-6) := ⟨⟨h, rfl⟩, ⟨rfl, rfl, rfl⟩, fun k hk => absurd hk (Nat.not_lt_zero _)⟩
theorem EVI.why {pa ga te mi ne f : Nat → Int32} {la br mn mo mu mg mt mb d m t s : Int32} {i : Nat} (h : EVI pa ga te mi ne la br f i mn mo mu mg mt mb d m t) (hs : s = f i - 97) : wnF te ne mn mo mu mg mt mb s 15 = wyC pa ga te ne la f i := by
  obtain ⟨⟨⟨rfl, rfl, rfl, rfl, rfl⟩, rfl⟩, _, _⟩ := h
  subst hs
  rfl
theorem EVI.go {pa ga te mi ne f : Nat → Int32} {la br mn mo mu mg mt mb d m t s mn2 mo2 mu2 mg2 mt2 mb2 : Int32} {i j : Nat} (h : EVI pa ga te mi ne la br f i mn mo mu mg mt mb d m t) (hs : s = f i - 97) (hj : j = i + 1) (hw : wnF te ne mn mo mu mg mt mb s 15 = 0) (hn : mn2 = afF pa la mn mo s) (h2 : MOM pa ga te la mn2 mo2 mu2 mg2 mt2 mb2) : EVI pa ga te mi ne la br f j mn2 mo2 mu2 mg2 mt2 mb2 (dpF mo s d) (tmF mi te br mn s t m) s := by
  have e := h.why hs
  rw [hw] at e
  obtain ⟨⟨⟨h1, _, _, _, _⟩, h3⟩, ⟨h4, h5, h6⟩, h7⟩ := h
  subst hj hs
  refine ⟨⟨h2, by rw [hn, h1, h3]; rfl⟩, ⟨by rw [h1, h3, h4]; rfl, by rw [h3, h5, h6]; rfl, rfl⟩, fun k hk => ?_⟩
  by_cases c : k = i
  · rw [c]; exact e.symm
  · exact h7 k (by omega)
/-- how an evening was judged -/
def JDG (pa ga te mi ne : Nat → Int32) (la br : Int32) (f : Nat → Int32) (z : Nat) (r ep ew eo ed em : Int32) : Prop :=
  (r.toInt = 1 ∧ (∀ k : Nat, k < z → wyC pa ga te ne la f k = 0) ∧ eo = opC pa ga te (nC pa ga te la f z) ∧ ed = dC pa ga te la f z ∧ em = mC pa ga te mi la br f z)
  ∨ (r.toInt = 0 ∧ ∃ k : Nat, k < z ∧ (∀ j : Nat, j < k → wyC pa ga te ne la f j = 0) ∧ ¬ wyC pa ga te ne la f k = 0 ∧ ep = nI k ∧ ew = wyC pa ga te ne la f k)
theorem JDG.bad {pa ga te mi ne f : Nat → Int32} {la br mn mo mu mg mt mb d m t s ep ew eo ed em : Int32} {i z : Nat} (h : EVI pa ga te mi ne la br f i mn mo mu mg mt mb d m t) (hs : s = f i - 97) (hx : ep = nI i) (hz : i < z) (he : ew = wnF te ne mn mo mu mg mt mb s 15) (hn : ¬ ew = 0) : JDG pa ga te mi ne la br f z 0 ep ew eo ed em := by
  have e := h.why hs
  rw [← he] at e
  exact Or.inr ⟨by decide, i, hz, h.2.2, by rw [← e]; exact hn, hx, e⟩
theorem JDG.good {pa ga te mi ne f : Nat → Int32} {la br mn mo mu mg mt mb d m t ep ew : Int32} {i z : Nat} (h : EVI pa ga te mi ne la br f i mn mo mu mg mt mb d m t) (hz : i = z) : JDG pa ga te mi ne la br f z 1 ep ew mo d m := by
  subst hz
  exact Or.inl ⟨by decide, h.2.2, by rw [h.1.1.1, h.1.2], h.2.1.1, h.2.1.2.1⟩
theorem wn_rng (te ne : Nat → Int32) (mn mo mu mg mt mb s a : Int32) : 0 ≤ (wnF te ne mn mo mu mg mt mb s a).toInt ∧ (wnF te ne mn mo mu mg mt mb s a).toInt ≤ 5 := by
  unfold wnF
  repeat' split
  all_goals decide
abbrev rm_X3_partsTold : Room := { frames := 0, cells := 0, slots := 0, locals := 0 }
set_option maxHeartbeats 4000000 in
set_option maxRecDepth 100000 in
theorem c_X3_partsTold (l : Launch) (D : va_G) (tys : List (ClassId × FieldType)) {cI cJ cZ cB : ClassId} (hT : Ty tys cI cJ cZ cB) (a b : Int32)  : Cn l D tys yX3_partsTold cX3_partsTold 2 (some .int) rm_X3_partsTold [] [.int a, .int b] (fun v W1 => ∃ (_ : Unit), v = some (.int (ptI a b)) ∧ W1 = [] ∧ (0 ≤ (ptI a b).toInt ∧ (ptI a b).toInt ≤ 7)) := by
  refine Cn.of (by decide) (Nat.le_of_ble_eq_true rfl) ?_ ?_ (fun X eL eD eT eO eK eN eM C => ?_)
  · intro h; cases h
  · intro v ws h; obtain ⟨_, rfl, rfl, _⟩ := h; exact Or.inl rfl
  subst eL eD eT
  show V X 2 [] [(0, .int a), (1, .int b)] [] 0 0 0
  refine x_iload_n C 0 dX3_partsTold_0 rfl rfl ?_
  refine x_iconst C 3 dX3_partsTold_1 (by decide) ?_
  refine x_iload_n C 1 dX3_partsTold_2 rfl rfl ?_
  refine x_imul C dX3_partsTold_3 ?_
  refine x_ishr C dX3_partsTold_4 ?_
  refine x_bipush C 7 dX3_partsTold_5 (by decide) ?_
  refine x_iand C dX3_partsTold_7 ?_
  exact x_iret C dX3_partsTold_8 (Nat.zero_le _) (Nat.zero_le _) (by rw [eO]; exact ⟨(), rfl, rfl, (i_and7 _)⟩)
abbrev rm_X3_allPartsTold : Room := { frames := 1, cells := 0, slots := 0, locals := 21 }
set_option maxHeartbeats 4000000 in
set_option maxRecDepth 100000 in
theorem c_X3_allPartsTold (l : Launch) (D : va_G) (tys : List (ClassId × FieldType)) {cI cJ cZ cB : ClassId} (hT : Ty tys cI cJ cZ cB) (a : Int32)  : Cn l D tys yX3_allPartsTold cX3_allPartsTold 1 (some .int) rm_X3_allPartsTold [] [.int a] (fun v W1 => ∃ (_ : Unit), v = some (.int (ptI a 0 + ptI a 1 + ptI a 2 + ptI a 3)) ∧ W1 = [] ∧ (0 ≤ (ptI a 0 + ptI a 1 + ptI a 2 + ptI a 3).toInt ∧ (ptI a 0 + ptI a 1 + ptI a 2 + ptI a 3).toInt ≤ 28)) := by
  refine Cn.of (by decide) (Nat.le_of_ble_eq_true rfl) ?_ ?_ (fun X eL eD eT eO eK eN eM C => ?_)
  · intro h; cases h
  · intro v ws h; obtain ⟨_, rfl, rfl, _⟩ := h; exact Or.inl rfl
  subst eL eD eT
  show V X 1 [] [(0, .int a)] [] 0 0 0
  refine x_iload_n C 0 dX3_allPartsTold_0 rfl rfl ?_
  refine x_iconst C 0 dX3_allPartsTold_1 (by decide) ?_
  refine x_callS C [.int a, .int 0] [] [] [] (c_X3_partsTold (xl X) (xD X) (xt X) hT a 0 ) dX3_allPartsTold_2 wd_372 wd_373 wd_71 wd_374 (np := 2) ⟨by decide, by decide, by decide +kernel⟩ rfl rfl (Nat.le_of_ble_eq_true rfl) (by decide) rfl (by decide) rfl (by decide) (by decide) (fun v W1 h => ?_)
  obtain ⟨_, rfl, rfl, h_2⟩ := h
  have : (0 : Int32).toInt = 0 := by decide
  show V X 1 [] [(0, .int a)] [.int (ptI a 0)] 5 0 0
  refine x_iload_n C 0 dX3_allPartsTold_5 rfl rfl ?_
  refine x_iconst C 1 dX3_allPartsTold_6 (by decide) ?_
  refine x_callS C [.int a, .int 1] [] [] [] (c_X3_partsTold (xl X) (xD X) (xt X) hT a 1 ) dX3_allPartsTold_7 wd_372 wd_373 wd_71 wd_374 (np := 2) ⟨by decide, by decide, by decide +kernel⟩ rfl rfl (Nat.le_of_ble_eq_true rfl) (by decide) rfl (by decide) rfl (by decide) (by decide) (fun v W1 h => ?_)
  obtain ⟨_, rfl, rfl, h_7⟩ := h
  have : (1 : Int32).toInt = 1 := by decide
  show V X 1 [] [(0, .int a)] [.int (ptI a 1), .int (ptI a 0)] 10 0 0
  refine x_iadd C dX3_allPartsTold_10 ?_
  refine x_iload_n C 0 dX3_allPartsTold_11 rfl rfl ?_
  refine x_iconst C 2 dX3_allPartsTold_12 (by decide) ?_
  refine x_callS C [.int a, .int 2] [] [] [] (c_X3_partsTold (xl X) (xD X) (xt X) hT a 2 ) dX3_allPartsTold_13 wd_372 wd_373 wd_71 wd_374 (np := 2) ⟨by decide, by decide, by decide +kernel⟩ rfl rfl (Nat.le_of_ble_eq_true rfl) (by decide) rfl (by decide) rfl (by decide) (by decide) (fun v W1 h => ?_)
  obtain ⟨_, rfl, rfl, h_13⟩ := h
  have : (2 : Int32).toInt = 2 := by decide
  show V X 1 [] [(0, .int a)] [.int (ptI a 2), .int ((ptI a 0) + (ptI a 1))] 16 0 0
  refine x_iadd C dX3_allPartsTold_16 ?_
  refine x_iload_n C 0 dX3_allPartsTold_17 rfl rfl ?_
  refine x_iconst C 3 dX3_allPartsTold_18 (by decide) ?_
  refine x_callS C [.int a, .int 3] [] [] [] (c_X3_partsTold (xl X) (xD X) (xt X) hT a 3 ) dX3_allPartsTold_19 wd_372 wd_373 wd_71 wd_374 (np := 2) ⟨by decide, by decide, by decide +kernel⟩ rfl rfl (Nat.le_of_ble_eq_true rfl) (by decide) rfl (by decide) rfl (by decide) (by decide) (fun v W1 h => ?_)
  obtain ⟨_, rfl, rfl, h_19⟩ := h
  have : (3 : Int32).toInt = 3 := by decide
  show V X 1 [] [(0, .int a)] [.int (ptI a 3), .int (((ptI a 0) + (ptI a 1)) + (ptI a 2))] 22 0 0
  refine x_iadd C dX3_allPartsTold_22 ?_
  have t1 := i_add (x := ptI a 0) (y := ptI a 1) (by omega) (by omega)
  have t2 := i_add (x := ptI a 0 + ptI a 1) (y := ptI a 2) (by omega) (by omega)
  have t3 := i_add (x := ptI a 0 + ptI a 1 + ptI a 2) (y := ptI a 3) (by omega) (by omega)
  exact x_iret C dX3_allPartsTold_23 (Nat.zero_le _) (Nat.zero_le _) (by rw [eO]; exact ⟨(), rfl, rfl, (by omega)⟩)
abbrev rm_X3_lowestOfRow : Room := { frames := 0, cells := 0, slots := 0, locals := 0 }
set_option maxHeartbeats 4000000 in
set_option maxRecDepth 100000 in
theorem c_X3_lowestOfRow (l : Launch) (D : va_G) (tys : List (ClassId × FieldType)) {cI cJ cZ cB : ClassId} (hT : Ty tys cI cJ cZ cB) (hm : Nat) (mn mo mu mg mt mb : Int32) (hb : Nat)  : Cn l D tys yX3_lowestOfRow cX3_lowestOfRow 2 (some .int) rm_X3_lowestOfRow [(hm, .inr (3, [.ref hb, .int mn, .int mo, .int mu, .int mg, .int mt, .int mb]))] [.ref hm] (fun v W1 => ∃ (_ : Unit), v = some (.int (lowI mn)) ∧ W1 = [(hm, .inr (3, [.ref hb, .int mn, .int mo, .int mu, .int mg, .int mt, .int mb]))] ∧ (True)) := by
  refine Cn.of (by decide) (Nat.le_of_ble_eq_true rfl) ?_ ?_ (fun X eL eD eT eO eK eN eM C => ?_)
  · intro h; cases h
  · intro v ws h; obtain ⟨_, rfl, rfl, _⟩ := h; exact Or.inl rfl
  subst eL eD eT
  show V X 2 [(hm, .inr (3, [.ref hb, .int mn, .int mo, .int mu, .int mg, .int mt, .int mb]))] [(0, .ref hm)] [] 0 0 0
  refine x_aload_n C 0 dX3_lowestOfRow_0 rfl rfl ?_
  refine x_get C 0 1 dX3_lowestOfRow_1 inlX3 rfl (by decide) wd_366 rfl rfl rfl ?_
  refine x_bipush C 12 dX3_lowestOfRow_4 (by decide) ?_
  refine x_ishr C dX3_lowestOfRow_6 ?_
  refine x_bipush C 7 dX3_lowestOfRow_7 (by decide) ?_
  refine x_iand C dX3_lowestOfRow_9 ?_
  refine x_istore_n C [(1, .int ((mn >>> (12 &&& 31)) &&& 7)), (0, .ref hm)] dX3_lowestOfRow_10 rfl (by decide) rfl ?_
  refine x_iload_n C 0 dX3_lowestOfRow_11 rfl rfl ?_
  refine x_if_ne C 19 dX3_lowestOfRow_12 (by decide) (fun c_12 => ?_) (fun c_12 => ?_)
  · skip
    have e_12 : ¬ (((mn >>> (12 &&& 31)) &&& 7 : Int32).toInt = (0 : Int32).toInt) := fun h => c_12 (i_eq.mpr h)
    have : (0 : Int32).toInt = 0 := by decide
    refine x_iconst C 1 dX3_lowestOfRow_19 (by decide) ?_
    refine x_iload_n C 0 dX3_lowestOfRow_20 rfl rfl ?_
    refine x_iconst C 1 dX3_lowestOfRow_21 (by decide) ?_
    refine x_isub C dX3_lowestOfRow_22 ?_
    refine x_ishl C dX3_lowestOfRow_23 ?_
    exact x_iret C dX3_lowestOfRow_24 (Nat.zero_le _) (Nat.zero_le _) (by rw [eO]; exact ⟨(), (congrArg (fun z => some (Value.int z)) (by unfold lowI; rw [if_neg c_12])), rfl, trivial⟩)
  · skip
    have e_12 : ((mn >>> (12 &&& 31)) &&& 7 : Int32).toInt = (0 : Int32).toInt := i_eq.mp c_12
    have : (0 : Int32).toInt = 0 := by decide
    refine x_iconst C 0 dX3_lowestOfRow_15 (by decide) ?_
    refine x_goto C 24 dX3_lowestOfRow_16 (by decide) ?_
    have : (0 : Int32).toInt = 0 := by decide
    exact x_iret C dX3_lowestOfRow_24 (Nat.zero_le _) (Nat.zero_le _) (by rw [eO]; exact ⟨(), (congrArg (fun z => some (Value.int z)) (by unfold lowI; rw [if_pos c_12])), rfl, trivial⟩)
abbrev rm_X3_look : Room := { frames := 1, cells := 0, slots := 0, locals := 21 }
set_option maxHeartbeats 4000000 in
set_option maxRecDepth 100000 in
theorem c_X3_look (l : Launch) (D : va_G) (tys : List (ClassId × FieldType)) {cI cJ cZ cB : ClassId} (hT : Ty tys cI cJ cZ cB) (hm : Nat) (mn mo mu mg mt mb : Int32) (hb b0 b1 b2 b3 b4 b5 b6 : Nat) (pa mi ga te kn wa ne : Nat → Int32) (wc la br : Int32) (a : Int32)  : Cn l D tys yX3_look cX3_look 5 none rm_X3_look [(hm, .inr (3, [.ref hb, .int mn, .int mo, .int mu, .int mg, .int mt, .int mb])), (hb, .inr (0, [.ref b0, .ref b1, .ref b2, .ref b3, .ref b4, .ref b5, .ref b6, .int wc, .int la, .int br])), (b0, .inl (cI, 4, .inl pa)), (b1, .inl (cI, 16, .inl mi)), (b2, .inl (cI, 4, .inl ga)), (b3, .inl (cI, 4, .inl te)), (b4, .inl (cI, 4, .inl kn)), (b5, .inl (cI, 6, .inl wa)), (b6, .inl (cI, 16, .inl ne))] [.ref hm, .int a] (fun v W1 => ∃ (mo2 mu2 mg2 mt2 mb2 : Int32), v = none ∧ W1 = [(hm, .inr (3, [.ref hb, .int a, .int mo2, .int mu2, .int mg2, .int mt2, .int mb2])), (hb, .inr (0, [.ref b0, .ref b1, .ref b2, .ref b3, .ref b4, .ref b5, .ref b6, .int wc, .int la, .int br])), (b0, .inl (cI, 4, .inl pa)), (b1, .inl (cI, 16, .inl mi)), (b2, .inl (cI, 4, .inl ga)), (b3, .inl (cI, 4, .inl te)), (b4, .inl (cI, 4, .inl kn)), (b5, .inl (cI, 6, .inl wa)), (b6, .inl (cI, 16, .inl ne))] ∧ ((mb2.toInt = 0 ∨ mb2.toInt = 1) ∧ MOM pa ga te la a mo2 mu2 mg2 mt2 mb2)) := by
  refine Cn.of (by decide) (Nat.le_of_ble_eq_true rfl) ?_ ?_ (fun X eL eD eT eO eK eN eM C => ?_)
  · intro h; cases h
  · intro v ws h; obtain ⟨_, _, _, _, _, rfl, rfl, _⟩ := h; rfl
  subst eL eD eT
  show V X 5 [(hm, .inr (3, [.ref hb, .int mn, .int mo, .int mu, .int mg, .int mt, .int mb])), (hb, .inr (0, [.ref b0, .ref b1, .ref b2, .ref b3, .ref b4, .ref b5, .ref b6, .int wc, .int la, .int br])), (b0, .inl (cI, 4, .inl pa)), (b1, .inl (cI, 16, .inl mi)), (b2, .inl (cI, 4, .inl ga)), (b3, .inl (cI, 4, .inl te)), (b4, .inl (cI, 4, .inl kn)), (b5, .inl (cI, 6, .inl wa)), (b6, .inl (cI, 16, .inl ne))] [(0, .ref hm), (1, .int a)] [] 0 0 0
  refine x_aload_n C 0 dX3_look_0 rfl rfl ?_
  refine x_iload_n C 1 dX3_look_1 rfl rfl ?_
  refine x_put C 0 1 (ty := .int) [(hm, .inr (3, [.ref hb, .int a, .int mo, .int mu, .int mg, .int mt, .int mb])), (hb, .inr (0, [.ref b0, .ref b1, .ref b2, .ref b3, .ref b4, .ref b5, .ref b6, .int wc, .int la, .int br])), (b0, .inl (cI, 4, .inl pa)), (b1, .inl (cI, 16, .inl mi)), (b2, .inl (cI, 4, .inl ga)), (b3, .inl (cI, 4, .inl te)), (b4, .inl (cI, 4, .inl kn)), (b5, .inl (cI, 6, .inl wa)), (b6, .inl (cI, 16, .inl ne))] dX3_look_2 inlX3 tyX3 tyX3_ok nmX3 rfl (by decide) wd_366 rfl rfl rfl rfl rfl rfl (Nat.le_of_ble_eq_true rfl) rfl ?_
  refine x_aload_n C 0 dX3_look_5 rfl rfl ?_
  refine x_iconst C 0 dX3_look_6 (by decide) ?_
  refine x_put C 0 2 (ty := .int) [(hm, .inr (3, [.ref hb, .int a, .int 0, .int mu, .int mg, .int mt, .int mb])), (hb, .inr (0, [.ref b0, .ref b1, .ref b2, .ref b3, .ref b4, .ref b5, .ref b6, .int wc, .int la, .int br])), (b0, .inl (cI, 4, .inl pa)), (b1, .inl (cI, 16, .inl mi)), (b2, .inl (cI, 4, .inl ga)), (b3, .inl (cI, 4, .inl te)), (b4, .inl (cI, 4, .inl kn)), (b5, .inl (cI, 6, .inl wa)), (b6, .inl (cI, 16, .inl ne))] dX3_look_7 inlX3 tyX3 tyX3_ok nmX3 rfl (by decide) wd_367 rfl rfl rfl rfl rfl rfl (Nat.le_of_ble_eq_true rfl) rfl ?_
  refine x_aload_n C 0 dX3_look_10 rfl rfl ?_
  refine x_iconst C 0 dX3_look_11 (by decide) ?_
  refine x_put C 0 3 (ty := .int) [(hm, .inr (3, [.ref hb, .int a, .int 0, .int 0, .int mg, .int mt, .int mb])), (hb, .inr (0, [.ref b0, .ref b1, .ref b2, .ref b3, .ref b4, .ref b5, .ref b6, .int wc, .int la, .int br])), (b0, .inl (cI, 4, .inl pa)), (b1, .inl (cI, 16, .inl mi)), (b2, .inl (cI, 4, .inl ga)), (b3, .inl (cI, 4, .inl te)), (b4, .inl (cI, 4, .inl kn)), (b5, .inl (cI, 6, .inl wa)), (b6, .inl (cI, 16, .inl ne))] dX3_look_12 inlX3 tyX3 tyX3_ok nmX3 rfl (by decide) wd_368 rfl rfl rfl rfl rfl rfl (Nat.le_of_ble_eq_true rfl) rfl ?_
  refine x_aload_n C 0 dX3_look_15 rfl rfl ?_
  refine x_iconst C 0 dX3_look_16 (by decide) ?_
  refine x_put C 0 5 (ty := .int) [(hm, .inr (3, [.ref hb, .int a, .int 0, .int 0, .int mg, .int 0, .int mb])), (hb, .inr (0, [.ref b0, .ref b1, .ref b2, .ref b3, .ref b4, .ref b5, .ref b6, .int wc, .int la, .int br])), (b0, .inl (cI, 4, .inl pa)), (b1, .inl (cI, 16, .inl mi)), (b2, .inl (cI, 4, .inl ga)), (b3, .inl (cI, 4, .inl te)), (b4, .inl (cI, 4, .inl kn)), (b5, .inl (cI, 6, .inl wa)), (b6, .inl (cI, 16, .inl ne))] dX3_look_17 inlX3 tyX3 tyX3_ok nmX3 rfl (by decide) wd_369 rfl rfl rfl rfl rfl rfl (Nat.le_of_ble_eq_true rfl) rfl ?_
  refine x_iconst C 0 dX3_look_20 (by decide) ?_
  refine x_istore_n C [(2, .int 0), (0, .ref hm), (1, .int a)] dX3_look_21 rfl (by decide) rfl ?_
  refine x_iconst C 0 dX3_look_22 (by decide) ?_
  refine x_istore_n C [(3, .int 0), (2, .int 0), (0, .ref hm), (1, .int a)] dX3_look_23 rfl (by decide) rfl ?_
  have L_24 : ∀ (n_24 : Nat) (x3_24 : Int32) (x2_24 : Int32) (ghm2_24 : Int32) (ghm3_24 : Int32) (ghm5_24 : Int32), ((0 ≤ x3_24.toInt ∧ x3_24.toInt ≤ 4) ∧ lk pa ga te a x3_24.toInt.toNat = (ghm3_24, ghm2_24, ghm5_24, x2_24)) → ((4 - x3_24.toInt).toNat < n_24) → V X 5 [(hm, .inr (3, [.ref hb, .int a, .int ghm2_24, .int ghm3_24, .int mg, .int ghm5_24, .int mb])), (hb, .inr (0, [.ref b0, .ref b1, .ref b2, .ref b3, .ref b4, .ref b5, .ref b6, .int wc, .int la, .int br])), (b0, .inl (cI, 4, .inl pa)), (b1, .inl (cI, 16, .inl mi)), (b2, .inl (cI, 4, .inl ga)), (b3, .inl (cI, 4, .inl te)), (b4, .inl (cI, 4, .inl kn)), (b5, .inl (cI, 6, .inl wa)), (b6, .inl (cI, 16, .inl ne))] [(3, .int x3_24), (2, .int x2_24), (0, .ref hm), (1, .int a)] [] 24 0 0 := by
    intro n_24
    induction n_24 with
    | zero =>
      intro x3_24 x2_24 ghm2_24 ghm3_24 ghm5_24 i_24 m_24
      exact absurd m_24 (Nat.not_lt_zero _)
    | succ n_24 ih_24 =>
      intro x3_24 x2_24 ghm2_24 ghm3_24 ghm5_24 i_24 m_24
      refine x_iload_n C 0 dX3_look_24 rfl rfl ?_
      refine x_iconst C 4 dX3_look_25 (by decide) ?_
      refine x_icmp_ge C 129 dX3_look_26 (by decide) (fun c_26 => ?_) (fun c_26 => ?_)
      · skip
        have e_26 : (4 : Int32).toInt ≤ (x3_24 : Int32).toInt := i_le.mp c_26
        have : (4 : Int32).toInt = 4 := by decide
        refine x_aload_n C 2 dX3_look_129 rfl rfl ?_
        refine x_aload_n C 2 dX3_look_130 rfl rfl ?_
        refine x_get C 0 0 dX3_look_131 inlX3 rfl (by decide) wd_77 rfl rfl rfl ?_
        refine x_getN C 1 8 dX3_look_134 inlX0 rfl (by decide) nt_19 rfl rfl rfl ?_
        refine x_iconst C 2 dX3_look_137 (by decide) ?_
        refine x_icmp_ne C 148 dX3_look_138 (by decide) (fun c_138 => ?_) (fun c_138 => ?_)
        · skip
          have e_138 : ¬ ((la : Int32).toInt = (2 : Int32).toInt) := fun h => c_138 (i_eq.mpr h)
          have : (2 : Int32).toInt = 2 := by decide
          refine x_aload_n C 2 dX3_look_148 rfl rfl ?_
          refine x_callV C [] [(hb, .inr (0, [.ref b0, .ref b1, .ref b2, .ref b3, .ref b4, .ref b5, .ref b6, .int wc, .int la, .int br])), (b0, .inl (cI, 4, .inl pa)), (b1, .inl (cI, 16, .inl mi)), (b2, .inl (cI, 4, .inl ga)), (b3, .inl (cI, 4, .inl te)), (b4, .inl (cI, 4, .inl kn)), (b5, .inl (cI, 6, .inl wa)), (b6, .inl (cI, 16, .inl ne))] [0] [1, 2, 3, 4, 5, 6, 7, 8] (q0 := 0) (c_X3_lowestOfRow (xl X) (xD X) (xt X) hT hm a ghm2_24 ghm3_24 mg ghm5_24 mb hb ) dX3_look_149 wd_375 wd_376 wd_377 wd_71 wd_378 (np := 0) ⟨by decide, by decide, by decide +kernel⟩ rfl rfl (Nat.le_of_ble_eq_true rfl) (by decide) rfl rfl rfl rfl (by decide) rfl (by decide) (by decide) (fun v W1 h => ?_)
          obtain ⟨_, rfl, rfl, h_149⟩ := h
          show V X 5 [(hb, .inr (0, [.ref b0, .ref b1, .ref b2, .ref b3, .ref b4, .ref b5, .ref b6, .int wc, .int la, .int br])), (b0, .inl (cI, 4, .inl pa)), (b1, .inl (cI, 16, .inl mi)), (b2, .inl (cI, 4, .inl ga)), (b3, .inl (cI, 4, .inl te)), (b4, .inl (cI, 4, .inl kn)), (b5, .inl (cI, 6, .inl wa)), (b6, .inl (cI, 16, .inl ne)), (hm, .inr (3, [.ref hb, .int a, .int ghm2_24, .int ghm3_24, .int mg, .int ghm5_24, .int mb]))] [(3, .int x3_24), (2, .int x2_24), (0, .ref hm), (1, .int a)] [.int (lowI a), .ref hm] 152 0 0
          refine x_put C 8 4 (ty := .int) [(hb, .inr (0, [.ref b0, .ref b1, .ref b2, .ref b3, .ref b4, .ref b5, .ref b6, .int wc, .int la, .int br])), (b0, .inl (cI, 4, .inl pa)), (b1, .inl (cI, 16, .inl mi)), (b2, .inl (cI, 4, .inl ga)), (b3, .inl (cI, 4, .inl te)), (b4, .inl (cI, 4, .inl kn)), (b5, .inl (cI, 6, .inl wa)), (b6, .inl (cI, 16, .inl ne)), (hm, .inr (3, [.ref hb, .int a, .int ghm2_24, .int ghm3_24, .int (lowI a), .int ghm5_24, .int mb]))] dX3_look_152 inlX3 tyX3 tyX3_ok nmX3 rfl (by decide) wd_370 rfl rfl rfl rfl rfl rfl (Nat.le_of_ble_eq_true rfl) rfl ?_
          refine x_aload_n C 2 dX3_look_155 rfl rfl ?_
          refine x_aload_n C 2 dX3_look_156 rfl rfl ?_
          refine x_get C 8 2 dX3_look_157 inlX3 rfl (by decide) wd_367 rfl rfl rfl ?_
          refine x_if_eq C 172 dX3_look_160 (by decide) (fun c_160 => ?_) (fun c_160 => ?_)
          · skip
            have e_160 : (ghm2_24 : Int32).toInt = (0 : Int32).toInt := i_eq.mp c_160
            have : (0 : Int32).toInt = 0 := by decide
            refine x_iconst C 1 dX3_look_172 (by decide) ?_
            refine x_goto C 177 dX3_look_173 (by decide) ?_
            refine x_put C 8 6 (ty := .boolean) [(hb, .inr (0, [.ref b0, .ref b1, .ref b2, .ref b3, .ref b4, .ref b5, .ref b6, .int wc, .int la, .int br])), (b0, .inl (cI, 4, .inl pa)), (b1, .inl (cI, 16, .inl mi)), (b2, .inl (cI, 4, .inl ga)), (b3, .inl (cI, 4, .inl te)), (b4, .inl (cI, 4, .inl kn)), (b5, .inl (cI, 6, .inl wa)), (b6, .inl (cI, 16, .inl ne)), (hm, .inr (3, [.ref hb, .int a, .int ghm2_24, .int ghm3_24, .int (lowI a), .int ghm5_24, .int 1]))] dX3_look_177 inlX3 tyX3 tyX3_ok nmX3 rfl (by decide) wd_371 rfl rfl rfl rfl rfl rfl (Nat.le_of_ble_eq_true rfl) rfl ?_
            refine x_sub [(hm, .inr (3, [.ref hb, .int a, .int ghm2_24, .int ghm3_24, .int (lowI a), .int ghm5_24, .int 1])), (hb, .inr (0, [.ref b0, .ref b1, .ref b2, .ref b3, .ref b4, .ref b5, .ref b6, .int wc, .int la, .int br])), (b0, .inl (cI, 4, .inl pa)), (b1, .inl (cI, 16, .inl mi)), (b2, .inl (cI, 4, .inl ga)), (b3, .inl (cI, 4, .inl te)), (b4, .inl (cI, 4, .inl kn)), (b5, .inl (cI, 6, .inl wa)), (b6, .inl (cI, 16, .inl ne))] [8, 0, 1, 2, 3, 4, 5, 6, 7] (by decide) rfl ?_
            exact x_vret C dX3_look_180 (Nat.zero_le _) (Nat.zero_le _) (by rw [eO]; exact ⟨ghm2_24, ghm3_24, (lowI a), ghm5_24, 1, rfl, rfl, ⟨by decide, MOM.of (g := x2_24) (by rw [show (4 : Nat) = x3_24.toInt.toNat by omega]; exact i_24.2) (if_neg c_138).symm (if_pos c_160).symm⟩⟩)
          · skip
            have e_160 : ¬ ((ghm2_24 : Int32).toInt = (0 : Int32).toInt) := fun h => c_160 (i_eq.mpr h)
            have : (0 : Int32).toInt = 0 := by decide
            refine x_iload_n C 1 dX3_look_163 rfl rfl ?_
            refine x_aload_n C 2 dX3_look_164 rfl rfl ?_
            refine x_get C 8 4 dX3_look_165 inlX3 rfl (by decide) wd_370 rfl rfl rfl ?_
            refine x_iand C dX3_look_168 ?_
            refine x_if_eq C 176 dX3_look_169 (by decide) (fun c_169 => ?_) (fun c_169 => ?_)
            · skip
              have e_169 : (x2_24 &&& (lowI a) : Int32).toInt = (0 : Int32).toInt := i_eq.mp c_169
              have : (0 : Int32).toInt = 0 := by decide
              refine x_iconst C 0 dX3_look_176 (by decide) ?_
              refine x_put C 8 6 (ty := .boolean) [(hb, .inr (0, [.ref b0, .ref b1, .ref b2, .ref b3, .ref b4, .ref b5, .ref b6, .int wc, .int la, .int br])), (b0, .inl (cI, 4, .inl pa)), (b1, .inl (cI, 16, .inl mi)), (b2, .inl (cI, 4, .inl ga)), (b3, .inl (cI, 4, .inl te)), (b4, .inl (cI, 4, .inl kn)), (b5, .inl (cI, 6, .inl wa)), (b6, .inl (cI, 16, .inl ne)), (hm, .inr (3, [.ref hb, .int a, .int ghm2_24, .int ghm3_24, .int (lowI a), .int ghm5_24, .int 0]))] dX3_look_177 inlX3 tyX3 tyX3_ok nmX3 rfl (by decide) wd_371 rfl rfl rfl rfl rfl rfl (Nat.le_of_ble_eq_true rfl) rfl ?_
              refine x_sub [(hm, .inr (3, [.ref hb, .int a, .int ghm2_24, .int ghm3_24, .int (lowI a), .int ghm5_24, .int 0])), (hb, .inr (0, [.ref b0, .ref b1, .ref b2, .ref b3, .ref b4, .ref b5, .ref b6, .int wc, .int la, .int br])), (b0, .inl (cI, 4, .inl pa)), (b1, .inl (cI, 16, .inl mi)), (b2, .inl (cI, 4, .inl ga)), (b3, .inl (cI, 4, .inl te)), (b4, .inl (cI, 4, .inl kn)), (b5, .inl (cI, 6, .inl wa)), (b6, .inl (cI, 16, .inl ne))] [8, 0, 1, 2, 3, 4, 5, 6, 7] (by decide) rfl ?_
              exact x_vret C dX3_look_180 (Nat.zero_le _) (Nat.zero_le _) (by rw [eO]; exact ⟨ghm2_24, ghm3_24, (lowI a), ghm5_24, 0, rfl, rfl, ⟨by decide, MOM.of (g := x2_24) (by rw [show (4 : Nat) = x3_24.toInt.toNat by omega]; exact i_24.2) (if_neg c_138).symm (by rw [if_neg c_160, if_pos c_169])⟩⟩)
            · skip
              have e_169 : ¬ ((x2_24 &&& (lowI a) : Int32).toInt = (0 : Int32).toInt) := fun h => c_169 (i_eq.mpr h)
              have : (0 : Int32).toInt = 0 := by decide
              refine x_iconst C 1 dX3_look_172 (by decide) ?_
              refine x_goto C 177 dX3_look_173 (by decide) ?_
              refine x_put C 8 6 (ty := .boolean) [(hb, .inr (0, [.ref b0, .ref b1, .ref b2, .ref b3, .ref b4, .ref b5, .ref b6, .int wc, .int la, .int br])), (b0, .inl (cI, 4, .inl pa)), (b1, .inl (cI, 16, .inl mi)), (b2, .inl (cI, 4, .inl ga)), (b3, .inl (cI, 4, .inl te)), (b4, .inl (cI, 4, .inl kn)), (b5, .inl (cI, 6, .inl wa)), (b6, .inl (cI, 16, .inl ne)), (hm, .inr (3, [.ref hb, .int a, .int ghm2_24, .int ghm3_24, .int (lowI a), .int ghm5_24, .int 1]))] dX3_look_177 inlX3 tyX3 tyX3_ok nmX3 rfl (by decide) wd_371 rfl rfl rfl rfl rfl rfl (Nat.le_of_ble_eq_true rfl) rfl ?_
              refine x_sub [(hm, .inr (3, [.ref hb, .int a, .int ghm2_24, .int ghm3_24, .int (lowI a), .int ghm5_24, .int 1])), (hb, .inr (0, [.ref b0, .ref b1, .ref b2, .ref b3, .ref b4, .ref b5, .ref b6, .int wc, .int la, .int br])), (b0, .inl (cI, 4, .inl pa)), (b1, .inl (cI, 16, .inl mi)), (b2, .inl (cI, 4, .inl ga)), (b3, .inl (cI, 4, .inl te)), (b4, .inl (cI, 4, .inl kn)), (b5, .inl (cI, 6, .inl wa)), (b6, .inl (cI, 16, .inl ne))] [8, 0, 1, 2, 3, 4, 5, 6, 7] (by decide) rfl ?_
              exact x_vret C dX3_look_180 (Nat.zero_le _) (Nat.zero_le _) (by rw [eO]; exact ⟨ghm2_24, ghm3_24, (lowI a), ghm5_24, 1, rfl, rfl, ⟨by decide, MOM.of (g := x2_24) (by rw [show (4 : Nat) = x3_24.toInt.toNat by omega]; exact i_24.2) (if_neg c_138).symm (by rw [if_neg c_160, if_neg c_169])⟩⟩)
        · skip
          have e_138 : (la : Int32).toInt = (2 : Int32).toInt := i_eq.mp c_138
          have : (2 : Int32).toInt = 2 := by decide
          refine x_aload_n C 2 dX3_look_141 rfl rfl ?_
          refine x_get C 0 2 dX3_look_142 inlX3 rfl (by decide) wd_367 rfl rfl rfl ?_
          refine x_goto C 152 dX3_look_145 (by decide) ?_
          refine x_put C 0 4 (ty := .int) [(hm, .inr (3, [.ref hb, .int a, .int ghm2_24, .int ghm3_24, .int ghm2_24, .int ghm5_24, .int mb])), (hb, .inr (0, [.ref b0, .ref b1, .ref b2, .ref b3, .ref b4, .ref b5, .ref b6, .int wc, .int la, .int br])), (b0, .inl (cI, 4, .inl pa)), (b1, .inl (cI, 16, .inl mi)), (b2, .inl (cI, 4, .inl ga)), (b3, .inl (cI, 4, .inl te)), (b4, .inl (cI, 4, .inl kn)), (b5, .inl (cI, 6, .inl wa)), (b6, .inl (cI, 16, .inl ne))] dX3_look_152 inlX3 tyX3 tyX3_ok nmX3 rfl (by decide) wd_370 rfl rfl rfl rfl rfl rfl (Nat.le_of_ble_eq_true rfl) rfl ?_
          refine x_aload_n C 2 dX3_look_155 rfl rfl ?_
          refine x_aload_n C 2 dX3_look_156 rfl rfl ?_
          refine x_get C 0 2 dX3_look_157 inlX3 rfl (by decide) wd_367 rfl rfl rfl ?_
          refine x_if_eq C 172 dX3_look_160 (by decide) (fun c_160 => ?_) (fun c_160 => ?_)
          · skip
            have e_160 : (ghm2_24 : Int32).toInt = (0 : Int32).toInt := i_eq.mp c_160
            have : (0 : Int32).toInt = 0 := by decide
            refine x_iconst C 1 dX3_look_172 (by decide) ?_
            refine x_goto C 177 dX3_look_173 (by decide) ?_
            refine x_put C 0 6 (ty := .boolean) [(hm, .inr (3, [.ref hb, .int a, .int ghm2_24, .int ghm3_24, .int ghm2_24, .int ghm5_24, .int 1])), (hb, .inr (0, [.ref b0, .ref b1, .ref b2, .ref b3, .ref b4, .ref b5, .ref b6, .int wc, .int la, .int br])), (b0, .inl (cI, 4, .inl pa)), (b1, .inl (cI, 16, .inl mi)), (b2, .inl (cI, 4, .inl ga)), (b3, .inl (cI, 4, .inl te)), (b4, .inl (cI, 4, .inl kn)), (b5, .inl (cI, 6, .inl wa)), (b6, .inl (cI, 16, .inl ne))] dX3_look_177 inlX3 tyX3 tyX3_ok nmX3 rfl (by decide) wd_371 rfl rfl rfl rfl rfl rfl (Nat.le_of_ble_eq_true rfl) rfl ?_
            exact x_vret C dX3_look_180 (Nat.zero_le _) (Nat.zero_le _) (by rw [eO]; exact ⟨ghm2_24, ghm3_24, ghm2_24, ghm5_24, 1, rfl, rfl, ⟨by decide, MOM.of (g := x2_24) (by rw [show (4 : Nat) = x3_24.toInt.toNat by omega]; exact i_24.2) (if_pos c_138).symm (if_pos c_160).symm⟩⟩)
          · skip
            have e_160 : ¬ ((ghm2_24 : Int32).toInt = (0 : Int32).toInt) := fun h => c_160 (i_eq.mpr h)
            have : (0 : Int32).toInt = 0 := by decide
            refine x_iload_n C 1 dX3_look_163 rfl rfl ?_
            refine x_aload_n C 2 dX3_look_164 rfl rfl ?_
            refine x_get C 0 4 dX3_look_165 inlX3 rfl (by decide) wd_370 rfl rfl rfl ?_
            refine x_iand C dX3_look_168 ?_
            refine x_if_eq C 176 dX3_look_169 (by decide) (fun c_169 => ?_) (fun c_169 => ?_)
            · skip
              have e_169 : (x2_24 &&& ghm2_24 : Int32).toInt = (0 : Int32).toInt := i_eq.mp c_169
              have : (0 : Int32).toInt = 0 := by decide
              refine x_iconst C 0 dX3_look_176 (by decide) ?_
              refine x_put C 0 6 (ty := .boolean) [(hm, .inr (3, [.ref hb, .int a, .int ghm2_24, .int ghm3_24, .int ghm2_24, .int ghm5_24, .int 0])), (hb, .inr (0, [.ref b0, .ref b1, .ref b2, .ref b3, .ref b4, .ref b5, .ref b6, .int wc, .int la, .int br])), (b0, .inl (cI, 4, .inl pa)), (b1, .inl (cI, 16, .inl mi)), (b2, .inl (cI, 4, .inl ga)), (b3, .inl (cI, 4, .inl te)), (b4, .inl (cI, 4, .inl kn)), (b5, .inl (cI, 6, .inl wa)), (b6, .inl (cI, 16, .inl ne))] dX3_look_177 inlX3 tyX3 tyX3_ok nmX3 rfl (by decide) wd_371 rfl rfl rfl rfl rfl rfl (Nat.le_of_ble_eq_true rfl) rfl ?_
              exact x_vret C dX3_look_180 (Nat.zero_le _) (Nat.zero_le _) (by rw [eO]; exact ⟨ghm2_24, ghm3_24, ghm2_24, ghm5_24, 0, rfl, rfl, ⟨by decide, MOM.of (g := x2_24) (by rw [show (4 : Nat) = x3_24.toInt.toNat by omega]; exact i_24.2) (if_pos c_138).symm (by rw [if_neg c_160, if_pos c_169])⟩⟩)
            · skip
              have e_169 : ¬ ((x2_24 &&& ghm2_24 : Int32).toInt = (0 : Int32).toInt) := fun h => c_169 (i_eq.mpr h)
              have : (0 : Int32).toInt = 0 := by decide
              refine x_iconst C 1 dX3_look_172 (by decide) ?_
              refine x_goto C 177 dX3_look_173 (by decide) ?_
              refine x_put C 0 6 (ty := .boolean) [(hm, .inr (3, [.ref hb, .int a, .int ghm2_24, .int ghm3_24, .int ghm2_24, .int ghm5_24, .int 1])), (hb, .inr (0, [.ref b0, .ref b1, .ref b2, .ref b3, .ref b4, .ref b5, .ref b6, .int wc, .int la, .int br])), (b0, .inl (cI, 4, .inl pa)), (b1, .inl (cI, 16, .inl mi)), (b2, .inl (cI, 4, .inl ga)), (b3, .inl (cI, 4, .inl te)), (b4, .inl (cI, 4, .inl kn)), (b5, .inl (cI, 6, .inl wa)), (b6, .inl (cI, 16, .inl ne))] dX3_look_177 inlX3 tyX3 tyX3_ok nmX3 rfl (by decide) wd_371 rfl rfl rfl rfl rfl rfl (Nat.le_of_ble_eq_true rfl) rfl ?_
              exact x_vret C dX3_look_180 (Nat.zero_le _) (Nat.zero_le _) (by rw [eO]; exact ⟨ghm2_24, ghm3_24, ghm2_24, ghm5_24, 1, rfl, rfl, ⟨by decide, MOM.of (g := x2_24) (by rw [show (4 : Nat) = x3_24.toInt.toNat by omega]; exact i_24.2) (if_pos c_138).symm (by rw [if_neg c_160, if_neg c_169])⟩⟩)
      · skip
        have e_26 : ¬ ((4 : Int32).toInt ≤ (x3_24 : Int32).toInt) := fun h => c_26 (i_le.mpr h)
        have : (4 : Int32).toInt = 4 := by decide
        refine x_iload_n C 3 dX3_look_29 rfl rfl ?_
        refine x_iload_n C 0 dX3_look_30 rfl rfl ?_
        refine x_callS C [.int a, .int x3_24] [(hm, .inr (3, [.ref hb, .int a, .int ghm2_24, .int ghm3_24, .int mg, .int ghm5_24, .int mb])), (hb, .inr (0, [.ref b0, .ref b1, .ref b2, .ref b3, .ref b4, .ref b5, .ref b6, .int wc, .int la, .int br])), (b0, .inl (cI, 4, .inl pa)), (b1, .inl (cI, 16, .inl mi)), (b2, .inl (cI, 4, .inl ga)), (b3, .inl (cI, 4, .inl te)), (b4, .inl (cI, 4, .inl kn)), (b5, .inl (cI, 6, .inl wa)), (b6, .inl (cI, 16, .inl ne))] [] [0, 1, 2, 3, 4, 5, 6, 7, 8] (c_X3_partsTold (xl X) (xD X) (xt X) hT a x3_24 ) dX3_look_31 wd_372 wd_373 wd_71 wd_374 (np := 2) ⟨by decide, by decide, by decide +kernel⟩ rfl rfl (Nat.le_of_ble_eq_true rfl) (by decide) rfl (by decide) rfl (by decide) (by decide) (fun v W1 h => ?_)
        obtain ⟨_, rfl, rfl, h_31⟩ := h
        show V X 5 [(hm, .inr (3, [.ref hb, .int a, .int ghm2_24, .int ghm3_24, .int mg, .int ghm5_24, .int mb])), (hb, .inr (0, [.ref b0, .ref b1, .ref b2, .ref b3, .ref b4, .ref b5, .ref b6, .int wc, .int la, .int br])), (b0, .inl (cI, 4, .inl pa)), (b1, .inl (cI, 16, .inl mi)), (b2, .inl (cI, 4, .inl ga)), (b3, .inl (cI, 4, .inl te)), (b4, .inl (cI, 4, .inl kn)), (b5, .inl (cI, 6, .inl wa)), (b6, .inl (cI, 16, .inl ne))] [(3, .int x3_24), (2, .int x2_24), (0, .ref hm), (1, .int a)] [.int (ptI a x3_24)] 34 0 0
        refine x_istore C [(4, .int (ptI a x3_24)), (3, .int x3_24), (2, .int x2_24), (0, .ref hm), (1, .int a)] dX3_look_34 (by decide) rfl ?_
        refine x_iload C 0 dX3_look_36 rfl ?_
        refine x_aload_n C 3 dX3_look_38 rfl rfl ?_
        refine x_get C 0 0 dX3_look_39 inlX3 rfl (by decide) wd_77 rfl rfl rfl ?_
        refine x_getN C 1 0 dX3_look_42 inlX0 rfl (by decide) nt_5 rfl rfl rfl ?_
        refine x_iload_n C 1 dX3_look_45 rfl rfl ?_
        have v_46 : vp_in x3_24 4 := (vp_in_iff.mpr (by omega))
        refine x_iald C 2 0 dX3_look_46 hT.1 rfl v_46 ?_
        refine x_icmp_lt C 65 dX3_look_47 (by decide) (fun c_47 => ?_) (fun c_47 => ?_)
        · skip
          have e_47 : (ptI a x3_24 : Int32).toInt < (pa (Int32.toNatClampNeg x3_24) : Int32).toInt := i_lt.mp c_47
          refine x_iload C 0 dX3_look_65 rfl ?_
          refine x_if_le C 123 dX3_look_67 (by decide) (fun c_67 => ?_) (fun c_67 => ?_)
          · skip
            have e_67 : (ptI a x3_24 : Int32).toInt ≤ (0 : Int32).toInt := i_le.mp c_67
            have : (0 : Int32).toInt = 0 := by decide
            refine x_iinc C 1 (x3_24 + 1) [(3, .int (x3_24 + 1)), (4, .int (ptI a x3_24)), (2, .int x2_24), (0, .ref hm), (1, .int a)] dX3_look_123 rfl rfl (by decide) rfl ?_
            refine x_goto C 24 dX3_look_126 (by decide) ?_
            refine x_lv [(3, .int (x3_24 + 1)), (2, .int x2_24), (0, .ref hm), (1, .int a)] [0, 2, 3, 4] rfl ?_
            have : (1 : Int32).toInt = 1 := by decide
            have := i_add (x := x3_24) (y := 1) (by omega) (by omega)
            exact ih_24 (x3_24 + 1) x2_24 ghm2_24 ghm3_24 ghm5_24 ⟨by omega, lk_no i_24.2 (by omega) (by omega) e_47 e_67⟩ (by omega)
          · skip
            have e_67 : ¬ ((ptI a x3_24 : Int32).toInt ≤ (0 : Int32).toInt) := fun h => c_67 (i_le.mpr h)
            have : (0 : Int32).toInt = 0 := by decide
            refine x_aload_n C 3 dX3_look_70 rfl rfl ?_
            refine x_dup C dX3_look_71 rfl ?_
            refine x_get C 0 2 dX3_look_72 inlX3 rfl (by decide) wd_367 rfl rfl rfl ?_
            refine x_iconst C 1 dX3_look_75 (by decide) ?_
            refine x_iload_n C 1 dX3_look_76 rfl rfl ?_
            refine x_ishl C dX3_look_77 ?_
            refine x_ior C dX3_look_78 ?_
            refine x_put C 0 2 (ty := .int) [(hm, .inr (3, [.ref hb, .int a, .int (ghm2_24 ||| ((1 : Int32) <<< (x3_24 &&& 31))), .int ghm3_24, .int mg, .int ghm5_24, .int mb])), (hb, .inr (0, [.ref b0, .ref b1, .ref b2, .ref b3, .ref b4, .ref b5, .ref b6, .int wc, .int la, .int br])), (b0, .inl (cI, 4, .inl pa)), (b1, .inl (cI, 16, .inl mi)), (b2, .inl (cI, 4, .inl ga)), (b3, .inl (cI, 4, .inl te)), (b4, .inl (cI, 4, .inl kn)), (b5, .inl (cI, 6, .inl wa)), (b6, .inl (cI, 16, .inl ne))] dX3_look_79 inlX3 tyX3 tyX3_ok nmX3 rfl (by decide) wd_367 rfl rfl rfl rfl rfl rfl (Nat.le_of_ble_eq_true rfl) rfl ?_
            refine x_aload_n C 3 dX3_look_82 rfl rfl ?_
            refine x_dup C dX3_look_83 rfl ?_
            refine x_get C 0 5 dX3_look_84 inlX3 rfl (by decide) wd_369 rfl rfl rfl ?_
            refine x_iconst C 1 dX3_look_87 (by decide) ?_
            refine x_aload_n C 3 dX3_look_88 rfl rfl ?_
            refine x_get C 0 0 dX3_look_89 inlX3 rfl (by decide) wd_77 rfl rfl rfl ?_
            refine x_getN C 1 3 dX3_look_92 inlX0 rfl (by decide) nt_12 rfl rfl rfl ?_
            refine x_iload_n C 1 dX3_look_95 rfl rfl ?_
            have v_96 : vp_in x3_24 4 := (vp_in_iff.mpr (by omega))
            refine x_iald C 5 0 dX3_look_96 hT.1 rfl v_96 ?_
            refine x_ishl C dX3_look_97 ?_
            refine x_ior C dX3_look_98 ?_
            refine x_put C 0 5 (ty := .int) [(hm, .inr (3, [.ref hb, .int a, .int (ghm2_24 ||| ((1 : Int32) <<< (x3_24 &&& 31))), .int ghm3_24, .int mg, .int (ghm5_24 ||| ((1 : Int32) <<< ((te (Int32.toNatClampNeg x3_24)) &&& 31))), .int mb])), (hb, .inr (0, [.ref b0, .ref b1, .ref b2, .ref b3, .ref b4, .ref b5, .ref b6, .int wc, .int la, .int br])), (b0, .inl (cI, 4, .inl pa)), (b1, .inl (cI, 16, .inl mi)), (b2, .inl (cI, 4, .inl ga)), (b3, .inl (cI, 4, .inl te)), (b4, .inl (cI, 4, .inl kn)), (b5, .inl (cI, 6, .inl wa)), (b6, .inl (cI, 16, .inl ne))] dX3_look_99 inlX3 tyX3 tyX3_ok nmX3 rfl (by decide) wd_369 rfl rfl rfl rfl rfl rfl (Nat.le_of_ble_eq_true rfl) rfl ?_
            refine x_iload_n C 2 dX3_look_102 rfl rfl ?_
            refine x_aload_n C 3 dX3_look_103 rfl rfl ?_
            refine x_get C 0 0 dX3_look_104 inlX3 rfl (by decide) wd_77 rfl rfl rfl ?_
            refine x_getN C 1 2 dX3_look_107 inlX0 rfl (by decide) nt_8 rfl rfl rfl ?_
            refine x_iload_n C 1 dX3_look_110 rfl rfl ?_
            have v_111 : vp_in x3_24 4 := (vp_in_iff.mpr (by omega))
            refine x_iald C 4 0 dX3_look_111 hT.1 rfl v_111 ?_
            refine x_iload C 0 dX3_look_112 rfl ?_
            refine x_iconst C 1 dX3_look_114 (by decide) ?_
            refine x_isub C dX3_look_115 ?_
            refine x_ishr C dX3_look_116 ?_
            refine x_iconst C 1 dX3_look_117 (by decide) ?_
            refine x_iand C dX3_look_118 ?_
            refine x_iload_n C 1 dX3_look_119 rfl rfl ?_
            refine x_ishl C dX3_look_120 ?_
            refine x_ior C dX3_look_121 ?_
            refine x_istore_n C [(2, .int (x2_24 ||| ((((ga (Int32.toNatClampNeg x3_24)) >>> (((ptI a x3_24) - 1) &&& 31)) &&& 1) <<< (x3_24 &&& 31)))), (4, .int (ptI a x3_24)), (3, .int x3_24), (0, .ref hm), (1, .int a)] dX3_look_122 rfl (by decide) rfl ?_
            refine x_iinc C 2 (x3_24 + 1) [(3, .int (x3_24 + 1)), (2, .int (x2_24 ||| ((((ga (Int32.toNatClampNeg x3_24)) >>> (((ptI a x3_24) - 1) &&& 31)) &&& 1) <<< (x3_24 &&& 31)))), (4, .int (ptI a x3_24)), (0, .ref hm), (1, .int a)] dX3_look_123 rfl rfl (by decide) rfl ?_
            refine x_goto C 24 dX3_look_126 (by decide) ?_
            refine x_lv [(3, .int (x3_24 + 1)), (2, .int (x2_24 ||| ((((ga (Int32.toNatClampNeg x3_24)) >>> (((ptI a x3_24) - 1) &&& 31)) &&& 1) <<< (x3_24 &&& 31)))), (0, .ref hm), (1, .int a)] [0, 1, 3, 4] rfl ?_
            have : (1 : Int32).toInt = 1 := by decide
            have := i_add (x := x3_24) (y := 1) (by omega) (by omega)
            exact ih_24 (x3_24 + 1) (x2_24 ||| ((((ga (Int32.toNatClampNeg x3_24)) >>> (((ptI a x3_24) - 1) &&& 31)) &&& 1) <<< (x3_24 &&& 31))) (ghm2_24 ||| ((1 : Int32) <<< (x3_24 &&& 31))) ghm3_24 (ghm5_24 ||| ((1 : Int32) <<< ((te (Int32.toNatClampNeg x3_24)) &&& 31))) ⟨by omega, lk_op i_24.2 (by omega) (by omega) e_47 e_67⟩ (by omega)
        · skip
          have e_47 : ¬ ((ptI a x3_24 : Int32).toInt < (pa (Int32.toNatClampNeg x3_24) : Int32).toInt) := fun h => c_47 (i_lt.mpr h)
          refine x_aload_n C 3 dX3_look_50 rfl rfl ?_
          refine x_dup C dX3_look_51 rfl ?_
          refine x_get C 0 3 dX3_look_52 inlX3 rfl (by decide) wd_368 rfl rfl rfl ?_
          refine x_iconst C 1 dX3_look_55 (by decide) ?_
          refine x_iload_n C 1 dX3_look_56 rfl rfl ?_
          refine x_ishl C dX3_look_57 ?_
          refine x_ior C dX3_look_58 ?_
          refine x_put C 0 3 (ty := .int) [(hm, .inr (3, [.ref hb, .int a, .int ghm2_24, .int (ghm3_24 ||| ((1 : Int32) <<< (x3_24 &&& 31))), .int mg, .int ghm5_24, .int mb])), (hb, .inr (0, [.ref b0, .ref b1, .ref b2, .ref b3, .ref b4, .ref b5, .ref b6, .int wc, .int la, .int br])), (b0, .inl (cI, 4, .inl pa)), (b1, .inl (cI, 16, .inl mi)), (b2, .inl (cI, 4, .inl ga)), (b3, .inl (cI, 4, .inl te)), (b4, .inl (cI, 4, .inl kn)), (b5, .inl (cI, 6, .inl wa)), (b6, .inl (cI, 16, .inl ne))] dX3_look_59 inlX3 tyX3 tyX3_ok nmX3 rfl (by decide) wd_368 rfl rfl rfl rfl rfl rfl (Nat.le_of_ble_eq_true rfl) rfl ?_
          refine x_goto C 123 dX3_look_62 (by decide) ?_
          refine x_iinc C 1 (x3_24 + 1) [(3, .int (x3_24 + 1)), (4, .int (ptI a x3_24)), (2, .int x2_24), (0, .ref hm), (1, .int a)] dX3_look_123 rfl rfl (by decide) rfl ?_
          refine x_goto C 24 dX3_look_126 (by decide) ?_
          refine x_lv [(3, .int (x3_24 + 1)), (2, .int x2_24), (0, .ref hm), (1, .int a)] [0, 2, 3, 4] rfl ?_
          have : (1 : Int32).toInt = 1 := by decide
          have := i_add (x := x3_24) (y := 1) (by omega) (by omega)
          exact ih_24 (x3_24 + 1) x2_24 ghm2_24 (ghm3_24 ||| ((1 : Int32) <<< (x3_24 &&& 31))) ghm5_24 ⟨by omega, lk_out i_24.2 (by omega) (by omega) e_47⟩ (by omega)
  have : (0 : Int32).toInt = 0 := by decide
  have : (0 : Int32).toInt = 0 := by decide
  have : (0 : Int32).toInt = 0 := by decide
  have : (0 : Int32).toInt = 0 := by decide
  have : (0 : Int32).toInt = 0 := by decide
  exact L_24 _ 0 0 0 0 0 ⟨by omega, by rw [t0_]; rfl⟩ (Nat.lt_succ_self _)
abbrev rm_X3_waitsFor : Room := { frames := 1, cells := 0, slots := 0, locals := 21 }
set_option maxHeartbeats 4000000 in
set_option maxRecDepth 100000 in
theorem c_X3_waitsFor (l : Launch) (D : va_G) (tys : List (ClassId × FieldType)) {cI cJ cZ cB : ClassId} (hT : Ty tys cI cJ cZ cB) (hm : Nat) (mn mo mu mg mt mb : Int32) (hb b0 b1 b2 b3 b4 b5 b6 : Nat) (pa mi ga te kn wa ne : Nat → Int32) (wc la br : Int32) (s a : Int32) (hs : 0 ≤ s.toInt ∧ s.toInt ≤ 3) : Cn l D tys yX3_waitsFor cX3_waitsFor 4 (some .int) rm_X3_waitsFor [(hm, .inr (3, [.ref hb, .int mn, .int mo, .int mu, .int mg, .int mt, .int mb])), (hb, .inr (0, [.ref b0, .ref b1, .ref b2, .ref b3, .ref b4, .ref b5, .ref b6, .int wc, .int la, .int br])), (b0, .inl (cI, 4, .inl pa)), (b1, .inl (cI, 16, .inl mi)), (b2, .inl (cI, 4, .inl ga)), (b3, .inl (cI, 4, .inl te)), (b4, .inl (cI, 4, .inl kn)), (b5, .inl (cI, 6, .inl wa)), (b6, .inl (cI, 16, .inl ne))] [.ref hm, .int s, .int a] (fun v W1 => ∃ (_ : Unit), v = some (.int (wfF ne mn mu s a)) ∧ W1 = [(hm, .inr (3, [.ref hb, .int mn, .int mo, .int mu, .int mg, .int mt, .int mb])), (hb, .inr (0, [.ref b0, .ref b1, .ref b2, .ref b3, .ref b4, .ref b5, .ref b6, .int wc, .int la, .int br])), (b0, .inl (cI, 4, .inl pa)), (b1, .inl (cI, 16, .inl mi)), (b2, .inl (cI, 4, .inl ga)), (b3, .inl (cI, 4, .inl te)), (b4, .inl (cI, 4, .inl kn)), (b5, .inl (cI, 6, .inl wa)), (b6, .inl (cI, 16, .inl ne))] ∧ (True)) := by
  refine Cn.of (by decide) (Nat.le_of_ble_eq_true rfl) ?_ ?_ (fun X eL eD eT eO eK eN eM C => ?_)
  · intro h; cases h
  · intro v ws h; obtain ⟨_, rfl, rfl, _⟩ := h; exact Or.inl rfl
  subst eL eD eT
  show V X 4 [(hm, .inr (3, [.ref hb, .int mn, .int mo, .int mu, .int mg, .int mt, .int mb])), (hb, .inr (0, [.ref b0, .ref b1, .ref b2, .ref b3, .ref b4, .ref b5, .ref b6, .int wc, .int la, .int br])), (b0, .inl (cI, 4, .inl pa)), (b1, .inl (cI, 16, .inl mi)), (b2, .inl (cI, 4, .inl ga)), (b3, .inl (cI, 4, .inl te)), (b4, .inl (cI, 4, .inl kn)), (b5, .inl (cI, 6, .inl wa)), (b6, .inl (cI, 16, .inl ne))] [(0, .ref hm), (1, .int s), (2, .int a)] [] 0 0 0
  refine x_aload_n C 0 dX3_waitsFor_0 rfl rfl ?_
  refine x_get C 0 1 dX3_waitsFor_1 inlX3 rfl (by decide) wd_366 rfl rfl rfl ?_
  refine x_iload_n C 1 dX3_waitsFor_4 rfl rfl ?_
  refine x_callS C [.int mn, .int s] [(hm, .inr (3, [.ref hb, .int mn, .int mo, .int mu, .int mg, .int mt, .int mb])), (hb, .inr (0, [.ref b0, .ref b1, .ref b2, .ref b3, .ref b4, .ref b5, .ref b6, .int wc, .int la, .int br])), (b0, .inl (cI, 4, .inl pa)), (b1, .inl (cI, 16, .inl mi)), (b2, .inl (cI, 4, .inl ga)), (b3, .inl (cI, 4, .inl te)), (b4, .inl (cI, 4, .inl kn)), (b5, .inl (cI, 6, .inl wa)), (b6, .inl (cI, 16, .inl ne))] [] [0, 1, 2, 3, 4, 5, 6, 7, 8] (c_X3_partsTold (xl X) (xD X) (xt X) hT mn s ) dX3_waitsFor_5 wd_372 wd_373 wd_71 wd_374 (np := 2) ⟨by decide, by decide, by decide +kernel⟩ rfl rfl (Nat.le_of_ble_eq_true rfl) (by decide) rfl (by decide) rfl (by decide) (by decide) (fun v W1 h => ?_)
  obtain ⟨_, rfl, rfl, h_5⟩ := h
  show V X 4 [(hm, .inr (3, [.ref hb, .int mn, .int mo, .int mu, .int mg, .int mt, .int mb])), (hb, .inr (0, [.ref b0, .ref b1, .ref b2, .ref b3, .ref b4, .ref b5, .ref b6, .int wc, .int la, .int br])), (b0, .inl (cI, 4, .inl pa)), (b1, .inl (cI, 16, .inl mi)), (b2, .inl (cI, 4, .inl ga)), (b3, .inl (cI, 4, .inl te)), (b4, .inl (cI, 4, .inl kn)), (b5, .inl (cI, 6, .inl wa)), (b6, .inl (cI, 16, .inl ne))] [(0, .ref hm), (1, .int s), (2, .int a)] [.int (ptI mn s)] 8 0 0
  refine x_istore_n C [(3, .int (ptI mn s)), (0, .ref hm), (1, .int s), (2, .int a)] dX3_waitsFor_8 rfl (by decide) rfl ?_
  refine x_iload_n C 0 dX3_waitsFor_9 rfl rfl ?_
  refine x_iconst C 4 dX3_waitsFor_10 (by decide) ?_
  refine x_icmp_ge C 39 dX3_waitsFor_11 (by decide) (fun c_11 => ?_) (fun c_11 => ?_)
  · skip
    have e_11 : (4 : Int32).toInt ≤ (ptI mn s : Int32).toInt := i_le.mp c_11
    have : (4 : Int32).toInt = 4 := by decide
    refine x_iconst C 0 dX3_waitsFor_39 (by decide) ?_
    have : (0 : Int32).toInt = 0 := by decide
    exact x_iret C dX3_waitsFor_40 (Nat.zero_le _) (Nat.zero_le _) (by rw [eO]; exact ⟨(), (congrArg (fun z => some (Value.int z)) (by unfold wfF; rw [if_neg (by omega)])), rfl, trivial⟩)
  · skip
    have e_11 : ¬ ((4 : Int32).toInt ≤ (ptI mn s : Int32).toInt) := fun h => c_11 (i_le.mpr h)
    have : (4 : Int32).toInt = 4 := by decide
    refine x_aload_n C 1 dX3_waitsFor_14 rfl rfl ?_
    refine x_get C 0 0 dX3_waitsFor_15 inlX3 rfl (by decide) wd_77 rfl rfl rfl ?_
    refine x_getN C 1 6 dX3_waitsFor_18 inlX0 rfl (by decide) nt_16 rfl rfl rfl ?_
    refine x_iload_n C 2 dX3_waitsFor_21 rfl rfl ?_
    refine x_iconst C 4 dX3_waitsFor_22 (by decide) ?_
    refine x_imul C dX3_waitsFor_23 ?_
    refine x_iload_n C 0 dX3_waitsFor_24 rfl rfl ?_
    refine x_iadd C dX3_waitsFor_25 ?_
    have : (4 : Int32).toInt = 4 := by decide
    have := i_mulr (x := s) (y := 4) (d := 4) (by decide) (by omega) (by omega)
    have := i_add (x := (s * 4)) (y := (ptI mn s)) (by omega) (by omega)
    have v_26 : vp_in ((s * 4) + (ptI mn s)) 16 := (vp_in_iff.mpr (by omega))
    refine x_iald C 8 0 dX3_waitsFor_26 hT.1 rfl v_26 ?_
    refine x_iload_n C 3 dX3_waitsFor_27 rfl rfl ?_
    refine x_iand C dX3_waitsFor_28 ?_
    refine x_aload_n C 1 dX3_waitsFor_29 rfl rfl ?_
    refine x_get C 0 3 dX3_waitsFor_30 inlX3 rfl (by decide) wd_368 rfl rfl rfl ?_
    refine x_iconst C (-1) dX3_waitsFor_33 (by decide) ?_
    refine x_ixor C dX3_waitsFor_34 ?_
    refine x_iand C dX3_waitsFor_35 ?_
    refine x_goto C 40 dX3_waitsFor_36 (by decide) ?_
    exact x_iret C dX3_waitsFor_40 (Nat.zero_le _) (Nat.zero_le _) (by rw [eO]; exact ⟨(), (congrArg (fun z => some (Value.int z)) (by unfold wfF; rw [if_pos (by omega)])), rfl, trivial⟩)
abbrev rm_X3_whyNot : Room := { frames := 2, cells := 0, slots := 0, locals := 44 }
set_option maxHeartbeats 4000000 in
set_option maxRecDepth 100000 in
theorem c_X3_whyNot (l : Launch) (D : va_G) (tys : List (ClassId × FieldType)) {cI cJ cZ cB : ClassId} (hT : Ty tys cI cJ cZ cB) (hm : Nat) (mn mo mu mg mt mb : Int32) (hb b0 b1 b2 b3 b4 b5 b6 : Nat) (pa mi ga te kn wa ne : Nat → Int32) (wc la br : Int32) (s a : Int32) (hs : 0 ≤ s.toInt ∧ s.toInt ≤ 3) : Cn l D tys yX3_whyNot cX3_whyNot 4 (some .int) rm_X3_whyNot [(hm, .inr (3, [.ref hb, .int mn, .int mo, .int mu, .int mg, .int mt, .int mb])), (hb, .inr (0, [.ref b0, .ref b1, .ref b2, .ref b3, .ref b4, .ref b5, .ref b6, .int wc, .int la, .int br])), (b0, .inl (cI, 4, .inl pa)), (b1, .inl (cI, 16, .inl mi)), (b2, .inl (cI, 4, .inl ga)), (b3, .inl (cI, 4, .inl te)), (b4, .inl (cI, 4, .inl kn)), (b5, .inl (cI, 6, .inl wa)), (b6, .inl (cI, 16, .inl ne))] [.ref hm, .int s, .int a] (fun v W1 => ∃ (_ : Unit), v = some (.int (wnF te ne mn mo mu mg mt mb s a)) ∧ W1 = [(hm, .inr (3, [.ref hb, .int mn, .int mo, .int mu, .int mg, .int mt, .int mb])), (hb, .inr (0, [.ref b0, .ref b1, .ref b2, .ref b3, .ref b4, .ref b5, .ref b6, .int wc, .int la, .int br])), (b0, .inl (cI, 4, .inl pa)), (b1, .inl (cI, 16, .inl mi)), (b2, .inl (cI, 4, .inl ga)), (b3, .inl (cI, 4, .inl te)), (b4, .inl (cI, 4, .inl kn)), (b5, .inl (cI, 6, .inl wa)), (b6, .inl (cI, 16, .inl ne))] ∧ (0 ≤ (wnF te ne mn mo mu mg mt mb s a).toInt ∧ (wnF te ne mn mo mu mg mt mb s a).toInt ≤ 5)) := by
  refine Cn.of (by decide) (Nat.le_of_ble_eq_true rfl) ?_ ?_ (fun X eL eD eT eO eK eN eM C => ?_)
  · intro h; cases h
  · intro v ws h; obtain ⟨_, rfl, rfl, _⟩ := h; exact Or.inl rfl
  subst eL eD eT
  show V X 4 [(hm, .inr (3, [.ref hb, .int mn, .int mo, .int mu, .int mg, .int mt, .int mb])), (hb, .inr (0, [.ref b0, .ref b1, .ref b2, .ref b3, .ref b4, .ref b5, .ref b6, .int wc, .int la, .int br])), (b0, .inl (cI, 4, .inl pa)), (b1, .inl (cI, 16, .inl mi)), (b2, .inl (cI, 4, .inl ga)), (b3, .inl (cI, 4, .inl te)), (b4, .inl (cI, 4, .inl kn)), (b5, .inl (cI, 6, .inl wa)), (b6, .inl (cI, 16, .inl ne))] [(0, .ref hm), (1, .int s), (2, .int a)] [] 0 0 0
  refine x_iconst C 1 dX3_whyNot_0 (by decide) ?_
  refine x_iload_n C 1 dX3_whyNot_1 rfl rfl ?_
  refine x_ishl C dX3_whyNot_2 ?_
  refine x_istore_n C [(3, .int ((1 : Int32) <<< (s &&& 31))), (0, .ref hm), (1, .int s), (2, .int a)] dX3_whyNot_3 rfl (by decide) rfl ?_
  refine x_aload_n C 1 dX3_whyNot_4 rfl rfl ?_
  refine x_get C 0 3 dX3_whyNot_5 inlX3 rfl (by decide) wd_368 rfl rfl rfl ?_
  refine x_iload_n C 0 dX3_whyNot_8 rfl rfl ?_
  refine x_iand C dX3_whyNot_9 ?_
  refine x_if_eq C 15 dX3_whyNot_10 (by decide) (fun c_10 => ?_) (fun c_10 => ?_)
  · skip
    have e_10 : (mu &&& ((1 : Int32) <<< (s &&& 31)) : Int32).toInt = (0 : Int32).toInt := i_eq.mp c_10
    have : (0 : Int32).toInt = 0 := by decide
    refine x_aload_n C 1 dX3_whyNot_15 rfl rfl ?_
    refine x_get C 0 2 dX3_whyNot_16 inlX3 rfl (by decide) wd_367 rfl rfl rfl ?_
    refine x_iload_n C 0 dX3_whyNot_19 rfl rfl ?_
    refine x_iand C dX3_whyNot_20 ?_
    refine x_if_eq C 35 dX3_whyNot_21 (by decide) (fun c_21 => ?_) (fun c_21 => ?_)
    · skip
      have e_21 : (mo &&& ((1 : Int32) <<< (s &&& 31)) : Int32).toInt = (0 : Int32).toInt := i_eq.mp c_21
      have : (0 : Int32).toInt = 0 := by decide
      refine x_aload_n C 1 dX3_whyNot_35 rfl rfl ?_
      refine x_get C 0 6 dX3_whyNot_36 inlX3 rfl (by decide) wd_371 rfl rfl rfl ?_
      refine x_if_ne C 44 dX3_whyNot_39 (by decide) (fun c_39 => ?_) (fun c_39 => ?_)
      · skip
        have e_39 : ¬ ((mb : Int32).toInt = (0 : Int32).toInt) := fun h => c_39 (i_eq.mpr h)
        have : (0 : Int32).toInt = 0 := by decide
        refine x_aload_n C 1 dX3_whyNot_44 rfl rfl ?_
        refine x_get C 0 5 dX3_whyNot_45 inlX3 rfl (by decide) wd_369 rfl rfl rfl ?_
        refine x_aload_n C 1 dX3_whyNot_48 rfl rfl ?_
        refine x_get C 0 0 dX3_whyNot_49 inlX3 rfl (by decide) wd_77 rfl rfl rfl ?_
        refine x_getN C 1 3 dX3_whyNot_52 inlX0 rfl (by decide) nt_12 rfl rfl rfl ?_
        refine x_iload_n C 2 dX3_whyNot_55 rfl rfl ?_
        have v_56 : vp_in s 4 := (vp_in_iff.mpr (by omega))
        refine x_iald C 5 0 dX3_whyNot_56 hT.1 rfl v_56 ?_
        refine x_ishr C dX3_whyNot_57 ?_
        refine x_iconst C 1 dX3_whyNot_58 (by decide) ?_
        refine x_iand C dX3_whyNot_59 ?_
        refine x_if_eq C 65 dX3_whyNot_60 (by decide) (fun c_60 => ?_) (fun c_60 => ?_)
        · skip
          have e_60 : ((mt >>> ((te (Int32.toNatClampNeg s)) &&& 31)) &&& 1 : Int32).toInt = (0 : Int32).toInt := i_eq.mp c_60
          have : (0 : Int32).toInt = 0 := by decide
          refine x_aload_n C 1 dX3_whyNot_65 rfl rfl ?_
          refine x_iload_n C 2 dX3_whyNot_66 rfl rfl ?_
          refine x_iload_n C 3 dX3_whyNot_67 rfl rfl ?_
          refine x_callV C [.int s, .int a] [] [0, 1, 2, 3, 4, 5, 6, 7, 8] [] (q0 := 0) (c_X3_waitsFor (xl X) (xD X) (xt X) hT hm mn mo mu mg mt mb hb b0 b1 b2 b3 b4 b5 b6 pa mi ga te kn wa ne wc la br s a (by omega)) dX3_whyNot_68 wd_384 wd_385 wd_386 wd_71 wd_387 (np := 2) ⟨by decide, by decide, by decide +kernel⟩ rfl rfl (Nat.le_of_ble_eq_true rfl) (by decide) rfl rfl rfl rfl (by decide) rfl (by decide) (by decide) (fun v W1 h => ?_)
          obtain ⟨_, rfl, rfl, h_68⟩ := h
          show V X 4 [(hm, .inr (3, [.ref hb, .int mn, .int mo, .int mu, .int mg, .int mt, .int mb])), (hb, .inr (0, [.ref b0, .ref b1, .ref b2, .ref b3, .ref b4, .ref b5, .ref b6, .int wc, .int la, .int br])), (b0, .inl (cI, 4, .inl pa)), (b1, .inl (cI, 16, .inl mi)), (b2, .inl (cI, 4, .inl ga)), (b3, .inl (cI, 4, .inl te)), (b4, .inl (cI, 4, .inl kn)), (b5, .inl (cI, 6, .inl wa)), (b6, .inl (cI, 16, .inl ne))] [(3, .int ((1 : Int32) <<< (s &&& 31))), (0, .ref hm), (1, .int s), (2, .int a)] [.int (wfF ne mn mu s a)] 71 0 0
          refine x_if_eq C 78 dX3_whyNot_71 (by decide) (fun c_71 => ?_) (fun c_71 => ?_)
          · skip
            have e_71 : (wfF ne mn mu s a : Int32).toInt = (0 : Int32).toInt := i_eq.mp c_71
            have : (0 : Int32).toInt = 0 := by decide
            refine x_iconst C 0 dX3_whyNot_78 (by decide) ?_
            have : (0 : Int32).toInt = 0 := by decide
            exact x_iret C dX3_whyNot_79 (Nat.zero_le _) (Nat.zero_le _) (by rw [eO]; exact ⟨(), (congrArg (fun z => some (Value.int z)) (by unfold wnF; rw [if_pos c_10, if_pos c_21, if_neg c_39, if_pos c_60, if_pos c_71])), rfl, (wn_rng ..)⟩)
          · skip
            have e_71 : ¬ ((wfF ne mn mu s a : Int32).toInt = (0 : Int32).toInt) := fun h => c_71 (i_eq.mpr h)
            have : (0 : Int32).toInt = 0 := by decide
            refine x_iconst C 5 dX3_whyNot_74 (by decide) ?_
            refine x_goto C 79 dX3_whyNot_75 (by decide) ?_
            have : (5 : Int32).toInt = 5 := by decide
            exact x_iret C dX3_whyNot_79 (Nat.zero_le _) (Nat.zero_le _) (by rw [eO]; exact ⟨(), (congrArg (fun z => some (Value.int z)) (by unfold wnF; rw [if_pos c_10, if_pos c_21, if_neg c_39, if_pos c_60, if_neg c_71])), rfl, (wn_rng ..)⟩)
        · skip
          have e_60 : ¬ (((mt >>> ((te (Int32.toNatClampNeg s)) &&& 31)) &&& 1 : Int32).toInt = (0 : Int32).toInt) := fun h => c_60 (i_eq.mpr h)
          have : (0 : Int32).toInt = 0 := by decide
          refine x_iconst C 4 dX3_whyNot_63 (by decide) ?_
          have : (4 : Int32).toInt = 4 := by decide
          exact x_iret C dX3_whyNot_64 (Nat.zero_le _) (Nat.zero_le _) (by rw [eO]; exact ⟨(), (congrArg (fun z => some (Value.int z)) (by unfold wnF; rw [if_pos c_10, if_pos c_21, if_neg c_39, if_neg c_60])), rfl, (wn_rng ..)⟩)
      · skip
        have e_39 : (mb : Int32).toInt = (0 : Int32).toInt := i_eq.mp c_39
        have : (0 : Int32).toInt = 0 := by decide
        refine x_iconst C 3 dX3_whyNot_42 (by decide) ?_
        have : (3 : Int32).toInt = 3 := by decide
        exact x_iret C dX3_whyNot_43 (Nat.zero_le _) (Nat.zero_le _) (by rw [eO]; exact ⟨(), (congrArg (fun z => some (Value.int z)) (by unfold wnF; rw [if_pos c_10, if_pos c_21, if_pos c_39])), rfl, (wn_rng ..)⟩)
    · skip
      have e_21 : ¬ ((mo &&& ((1 : Int32) <<< (s &&& 31)) : Int32).toInt = (0 : Int32).toInt) := fun h => c_21 (i_eq.mpr h)
      have : (0 : Int32).toInt = 0 := by decide
      refine x_aload_n C 1 dX3_whyNot_24 rfl rfl ?_
      refine x_get C 0 4 dX3_whyNot_25 inlX3 rfl (by decide) wd_370 rfl rfl rfl ?_
      refine x_iload_n C 0 dX3_whyNot_28 rfl rfl ?_
      refine x_iand C dX3_whyNot_29 ?_
      refine x_if_ne C 65 dX3_whyNot_30 (by decide) (fun c_30 => ?_) (fun c_30 => ?_)
      · skip
        have e_30 : ¬ ((mg &&& ((1 : Int32) <<< (s &&& 31)) : Int32).toInt = (0 : Int32).toInt) := fun h => c_30 (i_eq.mpr h)
        have : (0 : Int32).toInt = 0 := by decide
        refine x_aload_n C 1 dX3_whyNot_65 rfl rfl ?_
        refine x_iload_n C 2 dX3_whyNot_66 rfl rfl ?_
        refine x_iload_n C 3 dX3_whyNot_67 rfl rfl ?_
        refine x_callV C [.int s, .int a] [] [0, 1, 2, 3, 4, 5, 6, 7, 8] [] (q0 := 0) (c_X3_waitsFor (xl X) (xD X) (xt X) hT hm mn mo mu mg mt mb hb b0 b1 b2 b3 b4 b5 b6 pa mi ga te kn wa ne wc la br s a (by omega)) dX3_whyNot_68 wd_384 wd_385 wd_386 wd_71 wd_387 (np := 2) ⟨by decide, by decide, by decide +kernel⟩ rfl rfl (Nat.le_of_ble_eq_true rfl) (by decide) rfl rfl rfl rfl (by decide) rfl (by decide) (by decide) (fun v W1 h => ?_)
        obtain ⟨_, rfl, rfl, h_68⟩ := h
        show V X 4 [(hm, .inr (3, [.ref hb, .int mn, .int mo, .int mu, .int mg, .int mt, .int mb])), (hb, .inr (0, [.ref b0, .ref b1, .ref b2, .ref b3, .ref b4, .ref b5, .ref b6, .int wc, .int la, .int br])), (b0, .inl (cI, 4, .inl pa)), (b1, .inl (cI, 16, .inl mi)), (b2, .inl (cI, 4, .inl ga)), (b3, .inl (cI, 4, .inl te)), (b4, .inl (cI, 4, .inl kn)), (b5, .inl (cI, 6, .inl wa)), (b6, .inl (cI, 16, .inl ne))] [(3, .int ((1 : Int32) <<< (s &&& 31))), (0, .ref hm), (1, .int s), (2, .int a)] [.int (wfF ne mn mu s a)] 71 0 0
        refine x_if_eq C 78 dX3_whyNot_71 (by decide) (fun c_71 => ?_) (fun c_71 => ?_)
        · skip
          have e_71 : (wfF ne mn mu s a : Int32).toInt = (0 : Int32).toInt := i_eq.mp c_71
          have : (0 : Int32).toInt = 0 := by decide
          refine x_iconst C 0 dX3_whyNot_78 (by decide) ?_
          have : (0 : Int32).toInt = 0 := by decide
          exact x_iret C dX3_whyNot_79 (Nat.zero_le _) (Nat.zero_le _) (by rw [eO]; exact ⟨(), (congrArg (fun z => some (Value.int z)) (by unfold wnF; rw [if_pos c_10, if_neg c_21, if_neg c_30, if_pos c_71])), rfl, (wn_rng ..)⟩)
        · skip
          have e_71 : ¬ ((wfF ne mn mu s a : Int32).toInt = (0 : Int32).toInt) := fun h => c_71 (i_eq.mpr h)
          have : (0 : Int32).toInt = 0 := by decide
          refine x_iconst C 5 dX3_whyNot_74 (by decide) ?_
          refine x_goto C 79 dX3_whyNot_75 (by decide) ?_
          have : (5 : Int32).toInt = 5 := by decide
          exact x_iret C dX3_whyNot_79 (Nat.zero_le _) (Nat.zero_le _) (by rw [eO]; exact ⟨(), (congrArg (fun z => some (Value.int z)) (by unfold wnF; rw [if_pos c_10, if_neg c_21, if_neg c_30, if_neg c_71])), rfl, (wn_rng ..)⟩)
      · skip
        have e_30 : (mg &&& ((1 : Int32) <<< (s &&& 31)) : Int32).toInt = (0 : Int32).toInt := i_eq.mp c_30
        have : (0 : Int32).toInt = 0 := by decide
        refine x_iconst C 2 dX3_whyNot_33 (by decide) ?_
        have : (2 : Int32).toInt = 2 := by decide
        exact x_iret C dX3_whyNot_34 (Nat.zero_le _) (Nat.zero_le _) (by rw [eO]; exact ⟨(), (congrArg (fun z => some (Value.int z)) (by unfold wnF; rw [if_pos c_10, if_neg c_21, if_pos c_30])), rfl, (wn_rng ..)⟩)
  · skip
    have e_10 : ¬ ((mu &&& ((1 : Int32) <<< (s &&& 31)) : Int32).toInt = (0 : Int32).toInt) := fun h => c_10 (i_eq.mpr h)
    have : (0 : Int32).toInt = 0 := by decide
    refine x_iconst C 1 dX3_whyNot_13 (by decide) ?_
    have : (1 : Int32).toInt = 1 := by decide
    exact x_iret C dX3_whyNot_14 (Nat.zero_le _) (Nat.zero_le _) (by rw [eO]; exact ⟨(), (congrArg (fun z => some (Value.int z)) (by unfold wnF; rw [if_neg c_10])), rfl, (wn_rng ..)⟩)
abbrev rm_J6_bitCount_0f7a4 : Room := { frames := 0, cells := 0, slots := 0, locals := 0 }
set_option maxHeartbeats 4000000 in
set_option maxRecDepth 100000 in
theorem c_J6_bitCount_0f7a4 (l : Launch) (D : va_G) (tys : List (ClassId × FieldType)) {cI cJ cZ cB : ClassId} (hT : Ty tys cI cJ cZ cB) (a : Int32)  : Cn l D tys yJ6_bitCount_0f7a4 cJ6_bitCount_0f7a4 1 (some .int) rm_J6_bitCount_0f7a4 [] [.int a] (fun v W1 => ∃ (_ : Unit), v = some (.int (bcF a)) ∧ W1 = [] ∧ (True)) := by
  refine Cn.of (by decide) (Nat.le_of_ble_eq_true rfl) ?_ ?_ (fun X eL eD eT eO eK eN eM C => ?_)
  · intro h; cases h
  · intro v ws h; obtain ⟨_, rfl, rfl, _⟩ := h; exact Or.inl rfl
  subst eL eD eT
  show V X 1 [] [(0, .int a)] [] 0 0 0
  refine x_iload_n C 0 dJ6_bitCount_0f7a4_0 rfl rfl ?_
  refine x_iload_n C 0 dJ6_bitCount_0f7a4_1 rfl rfl ?_
  refine x_iconst C 1 dJ6_bitCount_0f7a4_2 (by decide) ?_
  refine x_iushr C dJ6_bitCount_0f7a4_3 ?_
  refine x_ldcw C dJ6_bitCount_0f7a4_4 wd_404 ?_
  refine x_iand C dJ6_bitCount_0f7a4_7 ?_
  refine x_isub C dJ6_bitCount_0f7a4_8 ?_
  refine x_istore_n C [(0, .int (a - (((Int32.toUInt32 a >>> (Int32.toUInt32 1 &&& Int32.toUInt32 31)).toInt32) &&& 1431655765)))] dJ6_bitCount_0f7a4_9 rfl (by decide) rfl ?_
  refine x_iload_n C 0 dJ6_bitCount_0f7a4_10 rfl rfl ?_
  refine x_ldcw C dJ6_bitCount_0f7a4_11 wd_405 ?_
  refine x_iand C dJ6_bitCount_0f7a4_14 ?_
  refine x_iload_n C 0 dJ6_bitCount_0f7a4_15 rfl rfl ?_
  refine x_iconst C 2 dJ6_bitCount_0f7a4_16 (by decide) ?_
  refine x_iushr C dJ6_bitCount_0f7a4_17 ?_
  refine x_ldcw C dJ6_bitCount_0f7a4_18 wd_405 ?_
  refine x_iand C dJ6_bitCount_0f7a4_21 ?_
  refine x_iadd C dJ6_bitCount_0f7a4_22 ?_
  refine x_istore_n C [(0, .int (((a - (((Int32.toUInt32 a >>> (Int32.toUInt32 1 &&& Int32.toUInt32 31)).toInt32) &&& 1431655765)) &&& 858993459) + (((Int32.toUInt32 (a - (((Int32.toUInt32 a >>> (Int32.toUInt32 1 &&& Int32.toUInt32 31)).toInt32) &&& 1431655765)) >>> (Int32.toUInt32 2 &&& Int32.toUInt32 31)).toInt32) &&& 858993459)))] dJ6_bitCount_0f7a4_23 rfl (by decide) rfl ?_
  refine x_iload_n C 0 dJ6_bitCount_0f7a4_24 rfl rfl ?_
  refine x_iload_n C 0 dJ6_bitCount_0f7a4_25 rfl rfl ?_
  refine x_iconst C 4 dJ6_bitCount_0f7a4_26 (by decide) ?_
  refine x_iushr C dJ6_bitCount_0f7a4_27 ?_
  refine x_iadd C dJ6_bitCount_0f7a4_28 ?_
  refine x_ldcw C dJ6_bitCount_0f7a4_29 wd_406 ?_
  refine x_iand C dJ6_bitCount_0f7a4_32 ?_
  refine x_istore_n C [(0, .int (((((a - (((Int32.toUInt32 a >>> (Int32.toUInt32 1 &&& Int32.toUInt32 31)).toInt32) &&& 1431655765)) &&& 858993459) + (((Int32.toUInt32 (a - (((Int32.toUInt32 a >>> (Int32.toUInt32 1 &&& Int32.toUInt32 31)).toInt32) &&& 1431655765)) >>> (Int32.toUInt32 2 &&& Int32.toUInt32 31)).toInt32) &&& 858993459)) + ((Int32.toUInt32 (((a - (((Int32.toUInt32 a >>> (Int32.toUInt32 1 &&& Int32.toUInt32 31)).toInt32) &&& 1431655765)) &&& 858993459) + (((Int32.toUInt32 (a - (((Int32.toUInt32 a >>> (Int32.toUInt32 1 &&& Int32.toUInt32 31)).toInt32) &&& 1431655765)) >>> (Int32.toUInt32 2 &&& Int32.toUInt32 31)).toInt32) &&& 858993459)) >>> (Int32.toUInt32 4 &&& Int32.toUInt32 31)).toInt32)) &&& 252645135))] dJ6_bitCount_0f7a4_33 rfl (by decide) rfl ?_
  refine x_iload_n C 0 dJ6_bitCount_0f7a4_34 rfl rfl ?_
  refine x_iload_n C 0 dJ6_bitCount_0f7a4_35 rfl rfl ?_
  refine x_bipush C 8 dJ6_bitCount_0f7a4_36 (by decide) ?_
  refine x_iushr C dJ6_bitCount_0f7a4_38 ?_
  refine x_iadd C dJ6_bitCount_0f7a4_39 ?_
  refine x_istore_n C [(0, .int ((((((a - (((Int32.toUInt32 a >>> (Int32.toUInt32 1 &&& Int32.toUInt32 31)).toInt32) &&& 1431655765)) &&& 858993459) + (((Int32.toUInt32 (a - (((Int32.toUInt32 a >>> (Int32.toUInt32 1 &&& Int32.toUInt32 31)).toInt32) &&& 1431655765)) >>> (Int32.toUInt32 2 &&& Int32.toUInt32 31)).toInt32) &&& 858993459)) + ((Int32.toUInt32 (((a - (((Int32.toUInt32 a >>> (Int32.toUInt32 1 &&& Int32.toUInt32 31)).toInt32) &&& 1431655765)) &&& 858993459) + (((Int32.toUInt32 (a - (((Int32.toUInt32 a >>> (Int32.toUInt32 1 &&& Int32.toUInt32 31)).toInt32) &&& 1431655765)) >>> (Int32.toUInt32 2 &&& Int32.toUInt32 31)).toInt32) &&& 858993459)) >>> (Int32.toUInt32 4 &&& Int32.toUInt32 31)).toInt32)) &&& 252645135) + ((Int32.toUInt32 (((((a - (((Int32.toUInt32 a >>> (Int32.toUInt32 1 &&& Int32.toUInt32 31)).toInt32) &&& 1431655765)) &&& 858993459) + (((Int32.toUInt32 (a - (((Int32.toUInt32 a >>> (Int32.toUInt32 1 &&& Int32.toUInt32 31)).toInt32) &&& 1431655765)) >>> (Int32.toUInt32 2 &&& Int32.toUInt32 31)).toInt32) &&& 858993459)) + ((Int32.toUInt32 (((a - (((Int32.toUInt32 a >>> (Int32.toUInt32 1 &&& Int32.toUInt32 31)).toInt32) &&& 1431655765)) &&& 858993459) + (((Int32.toUInt32 (a - (((Int32.toUInt32 a >>> (Int32.toUInt32 1 &&& Int32.toUInt32 31)).toInt32) &&& 1431655765)) >>> (Int32.toUInt32 2 &&& Int32.toUInt32 31)).toInt32) &&& 858993459)) >>> (Int32.toUInt32 4 &&& Int32.toUInt32 31)).toInt32)) &&& 252645135) >>> (Int32.toUInt32 8 &&& Int32.toUInt32 31)).toInt32)))] dJ6_bitCount_0f7a4_40 rfl (by decide) rfl ?_
  refine x_iload_n C 0 dJ6_bitCount_0f7a4_41 rfl rfl ?_
  refine x_iload_n C 0 dJ6_bitCount_0f7a4_42 rfl rfl ?_
  refine x_bipush C 16 dJ6_bitCount_0f7a4_43 (by decide) ?_
  refine x_iushr C dJ6_bitCount_0f7a4_45 ?_
  refine x_iadd C dJ6_bitCount_0f7a4_46 ?_
  refine x_istore_n C [(0, .int (((((((a - (((Int32.toUInt32 a >>> (Int32.toUInt32 1 &&& Int32.toUInt32 31)).toInt32) &&& 1431655765)) &&& 858993459) + (((Int32.toUInt32 (a - (((Int32.toUInt32 a >>> (Int32.toUInt32 1 &&& Int32.toUInt32 31)).toInt32) &&& 1431655765)) >>> (Int32.toUInt32 2 &&& Int32.toUInt32 31)).toInt32) &&& 858993459)) + ((Int32.toUInt32 (((a - (((Int32.toUInt32 a >>> (Int32.toUInt32 1 &&& Int32.toUInt32 31)).toInt32) &&& 1431655765)) &&& 858993459) + (((Int32.toUInt32 (a - (((Int32.toUInt32 a >>> (Int32.toUInt32 1 &&& Int32.toUInt32 31)).toInt32) &&& 1431655765)) >>> (Int32.toUInt32 2 &&& Int32.toUInt32 31)).toInt32) &&& 858993459)) >>> (Int32.toUInt32 4 &&& Int32.toUInt32 31)).toInt32)) &&& 252645135) + ((Int32.toUInt32 (((((a - (((Int32.toUInt32 a >>> (Int32.toUInt32 1 &&& Int32.toUInt32 31)).toInt32) &&& 1431655765)) &&& 858993459) + (((Int32.toUInt32 (a - (((Int32.toUInt32 a >>> (Int32.toUInt32 1 &&& Int32.toUInt32 31)).toInt32) &&& 1431655765)) >>> (Int32.toUInt32 2 &&& Int32.toUInt32 31)).toInt32) &&& 858993459)) + ((Int32.toUInt32 (((a - (((Int32.toUInt32 a >>> (Int32.toUInt32 1 &&& Int32.toUInt32 31)).toInt32) &&& 1431655765)) &&& 858993459) + (((Int32.toUInt32 (a - (((Int32.toUInt32 a >>> (Int32.toUInt32 1 &&& Int32.toUInt32 31)).toInt32) &&& 1431655765)) >>> (Int32.toUInt32 2 &&& Int32.toUInt32 31)).toInt32) &&& 858993459)) >>> (Int32.toUInt32 4 &&& Int32.toUInt32 31)).toInt32)) &&& 252645135) >>> (Int32.toUInt32 8 &&& Int32.toUInt32 31)).toInt32)) + ((Int32.toUInt32 ((((((a - (((Int32.toUInt32 a >>> (Int32.toUInt32 1 &&& Int32.toUInt32 31)).toInt32) &&& 1431655765)) &&& 858993459) + (((Int32.toUInt32 (a - (((Int32.toUInt32 a >>> (Int32.toUInt32 1 &&& Int32.toUInt32 31)).toInt32) &&& 1431655765)) >>> (Int32.toUInt32 2 &&& Int32.toUInt32 31)).toInt32) &&& 858993459)) + ((Int32.toUInt32 (((a - (((Int32.toUInt32 a >>> (Int32.toUInt32 1 &&& Int32.toUInt32 31)).toInt32) &&& 1431655765)) &&& 858993459) + (((Int32.toUInt32 (a - (((Int32.toUInt32 a >>> (Int32.toUInt32 1 &&& Int32.toUInt32 31)).toInt32) &&& 1431655765)) >>> (Int32.toUInt32 2 &&& Int32.toUInt32 31)).toInt32) &&& 858993459)) >>> (Int32.toUInt32 4 &&& Int32.toUInt32 31)).toInt32)) &&& 252645135) + ((Int32.toUInt32 (((((a - (((Int32.toUInt32 a >>> (Int32.toUInt32 1 &&& Int32.toUInt32 31)).toInt32) &&& 1431655765)) &&& 858993459) + (((Int32.toUInt32 (a - (((Int32.toUInt32 a >>> (Int32.toUInt32 1 &&& Int32.toUInt32 31)).toInt32) &&& 1431655765)) >>> (Int32.toUInt32 2 &&& Int32.toUInt32 31)).toInt32) &&& 858993459)) + ((Int32.toUInt32 (((a - (((Int32.toUInt32 a >>> (Int32.toUInt32 1 &&& Int32.toUInt32 31)).toInt32) &&& 1431655765)) &&& 858993459) + (((Int32.toUInt32 (a - (((Int32.toUInt32 a >>> (Int32.toUInt32 1 &&& Int32.toUInt32 31)).toInt32) &&& 1431655765)) >>> (Int32.toUInt32 2 &&& Int32.toUInt32 31)).toInt32) &&& 858993459)) >>> (Int32.toUInt32 4 &&& Int32.toUInt32 31)).toInt32)) &&& 252645135) >>> (Int32.toUInt32 8 &&& Int32.toUInt32 31)).toInt32)) >>> (Int32.toUInt32 16 &&& Int32.toUInt32 31)).toInt32)))] dJ6_bitCount_0f7a4_47 rfl (by decide) rfl ?_
  refine x_iload_n C 0 dJ6_bitCount_0f7a4_48 rfl rfl ?_
  refine x_bipush C 63 dJ6_bitCount_0f7a4_49 (by decide) ?_
  refine x_iand C dJ6_bitCount_0f7a4_51 ?_
  exact x_iret C dJ6_bitCount_0f7a4_52 (Nat.zero_le _) (Nat.zero_le _) (by rw [eO]; exact ⟨(), rfl, rfl, trivial⟩)
abbrev rm_X3_deepWith : Room := { frames := 1, cells := 0, slots := 0, locals := 20 }
set_option maxHeartbeats 4000000 in
set_option maxRecDepth 100000 in
theorem c_X3_deepWith (l : Launch) (D : va_G) (tys : List (ClassId × FieldType)) {cI cJ cZ cB : ClassId} (hT : Ty tys cI cJ cZ cB) (hm : Nat) (mn mo mu mg mt mb : Int32) (hb : Nat) (s : Int32)  : Cn l D tys yX3_deepWith cX3_deepWith 2 (some .int) rm_X3_deepWith [(hm, .inr (3, [.ref hb, .int mn, .int mo, .int mu, .int mg, .int mt, .int mb]))] [.ref hm, .int s] (fun v W1 => ∃ (_ : Unit), v = some (.int (bcF (mo ||| ((1 : Int32) <<< (s &&& 31))))) ∧ W1 = [(hm, .inr (3, [.ref hb, .int mn, .int mo, .int mu, .int mg, .int mt, .int mb]))] ∧ (True)) := by
  refine Cn.of (by decide) (Nat.le_of_ble_eq_true rfl) ?_ ?_ (fun X eL eD eT eO eK eN eM C => ?_)
  · intro h; cases h
  · intro v ws h; obtain ⟨_, rfl, rfl, _⟩ := h; exact Or.inl rfl
  subst eL eD eT
  show V X 2 [(hm, .inr (3, [.ref hb, .int mn, .int mo, .int mu, .int mg, .int mt, .int mb]))] [(0, .ref hm), (1, .int s)] [] 0 0 0
  refine x_aload_n C 0 dX3_deepWith_0 rfl rfl ?_
  refine x_get C 0 2 dX3_deepWith_1 inlX3 rfl (by decide) wd_367 rfl rfl rfl ?_
  refine x_iconst C 1 dX3_deepWith_4 (by decide) ?_
  refine x_iload_n C 1 dX3_deepWith_5 rfl rfl ?_
  refine x_ishl C dX3_deepWith_6 ?_
  refine x_ior C dX3_deepWith_7 ?_
  refine x_callS C [.int (mo ||| ((1 : Int32) <<< (s &&& 31)))] [(hm, .inr (3, [.ref hb, .int mn, .int mo, .int mu, .int mg, .int mt, .int mb]))] [] [0] (c_J6_bitCount_0f7a4 (xl X) (xD X) (xt X) hT (mo ||| ((1 : Int32) <<< (s &&& 31))) ) dX3_deepWith_8 wd_400 wd_401 wd_402 wd_403 (np := 1) ⟨by decide, by decide, by decide +kernel⟩ rfl rfl (Nat.le_of_ble_eq_true rfl) (by decide) rfl (by decide) rfl (by decide) (by decide) (fun v W1 h => ?_)
  obtain ⟨_, rfl, rfl, h_8⟩ := h
  show V X 2 [(hm, .inr (3, [.ref hb, .int mn, .int mo, .int mu, .int mg, .int mt, .int mb]))] [(0, .ref hm), (1, .int s)] [.int (bcF (mo ||| ((1 : Int32) <<< (s &&& 31))))] 11 0 0
  exact x_iret C dX3_deepWith_11 (Nat.zero_le _) (Nat.zero_le _) (by rw [eO]; exact ⟨(), rfl, rfl, trivial⟩)
abbrev rm_X3_rowAfter : Room := { frames := 1, cells := 0, slots := 0, locals := 20 }
set_option maxHeartbeats 4000000 in
set_option maxRecDepth 100000 in
theorem c_X3_rowAfter (l : Launch) (D : va_G) (tys : List (ClassId × FieldType)) {cI cJ cZ cB : ClassId} (hT : Ty tys cI cJ cZ cB) (hm : Nat) (mn mo mu mg mt mb : Int32) (hb b0 b1 b2 b3 b4 b5 b6 : Nat) (pa mi ga te kn wa ne : Nat → Int32) (wc la br : Int32) (s a : Int32)  : Cn l D tys yX3_rowAfter cX3_rowAfter 6 (some .int) rm_X3_rowAfter [(hm, .inr (3, [.ref hb, .int mn, .int mo, .int mu, .int mg, .int mt, .int mb])), (hb, .inr (0, [.ref b0, .ref b1, .ref b2, .ref b3, .ref b4, .ref b5, .ref b6, .int wc, .int la, .int br])), (b0, .inl (cI, 4, .inl pa)), (b1, .inl (cI, 16, .inl mi)), (b2, .inl (cI, 4, .inl ga)), (b3, .inl (cI, 4, .inl te)), (b4, .inl (cI, 4, .inl kn)), (b5, .inl (cI, 6, .inl wa)), (b6, .inl (cI, 16, .inl ne))] [.ref hm, .int s, .int a] (fun v W1 => ∃ (_ : Unit), v = some (.int (rwF la mn mo s a)) ∧ W1 = [(hm, .inr (3, [.ref hb, .int mn, .int mo, .int mu, .int mg, .int mt, .int mb])), (hb, .inr (0, [.ref b0, .ref b1, .ref b2, .ref b3, .ref b4, .ref b5, .ref b6, .int wc, .int la, .int br])), (b0, .inl (cI, 4, .inl pa)), (b1, .inl (cI, 16, .inl mi)), (b2, .inl (cI, 4, .inl ga)), (b3, .inl (cI, 4, .inl te)), (b4, .inl (cI, 4, .inl kn)), (b5, .inl (cI, 6, .inl wa)), (b6, .inl (cI, 16, .inl ne))] ∧ (True)) := by
  refine Cn.of (by decide) (Nat.le_of_ble_eq_true rfl) ?_ ?_ (fun X eL eD eT eO eK eN eM C => ?_)
  · intro h; cases h
  · intro v ws h; obtain ⟨_, rfl, rfl, _⟩ := h; exact Or.inl rfl
  subst eL eD eT
  show V X 6 [(hm, .inr (3, [.ref hb, .int mn, .int mo, .int mu, .int mg, .int mt, .int mb])), (hb, .inr (0, [.ref b0, .ref b1, .ref b2, .ref b3, .ref b4, .ref b5, .ref b6, .int wc, .int la, .int br])), (b0, .inl (cI, 4, .inl pa)), (b1, .inl (cI, 16, .inl mi)), (b2, .inl (cI, 4, .inl ga)), (b3, .inl (cI, 4, .inl te)), (b4, .inl (cI, 4, .inl kn)), (b5, .inl (cI, 6, .inl wa)), (b6, .inl (cI, 16, .inl ne))] [(0, .ref hm), (1, .int s), (2, .int a)] [] 0 0 0
  refine x_aload_n C 0 dX3_rowAfter_0 rfl rfl ?_
  refine x_get C 0 1 dX3_rowAfter_1 inlX3 rfl (by decide) wd_366 rfl rfl rfl ?_
  refine x_bipush C 12 dX3_rowAfter_4 (by decide) ?_
  refine x_ishr C dX3_rowAfter_6 ?_
  refine x_istore_n C [(3, .int (mn >>> (12 &&& 31))), (0, .ref hm), (1, .int s), (2, .int a)] dX3_rowAfter_7 rfl (by decide) rfl ?_
  refine x_aload_n C 1 dX3_rowAfter_8 rfl rfl ?_
  refine x_get C 0 2 dX3_rowAfter_9 inlX3 rfl (by decide) wd_367 rfl rfl rfl ?_
  refine x_iload_n C 2 dX3_rowAfter_12 rfl rfl ?_
  refine x_ishr C dX3_rowAfter_13 ?_
  refine x_iconst C 1 dX3_rowAfter_14 (by decide) ?_
  refine x_iand C dX3_rowAfter_15 ?_
  refine x_if_eq C 23 dX3_rowAfter_16 (by decide) (fun c_16 => ?_) (fun c_16 => ?_)
  · skip
    have e_16 : ((mo >>> (s &&& 31)) &&& 1 : Int32).toInt = (0 : Int32).toInt := i_eq.mp c_16
    have : (0 : Int32).toInt = 0 := by decide
    refine x_iconst C 0 dX3_rowAfter_23 (by decide) ?_
    refine x_istore C [(4, .int 0), (3, .int (mn >>> (12 &&& 31))), (0, .ref hm), (1, .int s), (2, .int a)] dX3_rowAfter_24 (by decide) rfl ?_
    refine x_aload_n C 2 dX3_rowAfter_26 rfl rfl ?_
    refine x_get C 0 0 dX3_rowAfter_27 inlX3 rfl (by decide) wd_77 rfl rfl rfl ?_
    refine x_getN C 1 8 dX3_rowAfter_30 inlX0 rfl (by decide) nt_19 rfl rfl rfl ?_
    refine x_iconst C 2 dX3_rowAfter_33 (by decide) ?_
    refine x_icmp_eq C 43 dX3_rowAfter_34 (by decide) (fun c_34 => ?_) (fun c_34 => ?_)
    · skip
      have e_34 : (la : Int32).toInt = (2 : Int32).toInt := i_eq.mp c_34
      have : (2 : Int32).toInt = 2 := by decide
      refine x_iload_n C 1 dX3_rowAfter_43 rfl rfl ?_
      exact x_iret C dX3_rowAfter_44 (Nat.zero_le _) (Nat.zero_le _) (by rw [eO]; exact ⟨(), (congrArg (fun z => some (Value.int z)) (by unfold rwF; rw [if_pos c_16, if_pos c_34])), rfl, trivial⟩)
    · skip
      have e_34 : ¬ ((la : Int32).toInt = (2 : Int32).toInt) := fun h => c_34 (i_eq.mpr h)
      have : (2 : Int32).toInt = 2 := by decide
      refine x_iload C 0 dX3_rowAfter_37 rfl ?_
      refine x_iload_n C 4 dX3_rowAfter_39 rfl rfl ?_
      refine x_icmp_eq C 45 dX3_rowAfter_40 (by decide) (fun c_40 => ?_) (fun c_40 => ?_)
      · skip
        have e_40 : (0 : Int32).toInt = (a : Int32).toInt := i_eq.mp c_40
        have : (0 : Int32).toInt = 0 := by decide
        refine x_iload C 0 dX3_rowAfter_45 rfl ?_
        refine x_if_eq C 54 dX3_rowAfter_47 (by decide) (fun c_47 => ?_) (fun c_47 => ?_)
        · skip
          have e_47 : (0 : Int32).toInt = (0 : Int32).toInt := i_eq.mp c_47
          have : (0 : Int32).toInt = 0 := by decide
          have : (0 : Int32).toInt = 0 := by decide
          refine x_iload_n C 3 dX3_rowAfter_54 rfl rfl ?_
          refine x_iconst C 1 dX3_rowAfter_55 (by decide) ?_
          refine x_iadd C dX3_rowAfter_56 ?_
          refine x_istore C [(5, .int (s + 1)), (4, .int 0), (3, .int (mn >>> (12 &&& 31))), (0, .ref hm), (1, .int s), (2, .int a)] dX3_rowAfter_57 (by decide) rfl ?_
          refine x_aload_n C 3 dX3_rowAfter_59 rfl rfl ?_
          refine x_get C 0 0 dX3_rowAfter_60 inlX3 rfl (by decide) wd_77 rfl rfl rfl ?_
          refine x_getN C 1 8 dX3_rowAfter_63 inlX0 rfl (by decide) nt_19 rfl rfl rfl ?_
          refine x_if_ne C 78 dX3_rowAfter_66 (by decide) (fun c_66 => ?_) (fun c_66 => ?_)
          · skip
            have e_66 : ¬ ((la : Int32).toInt = (0 : Int32).toInt) := fun h => c_66 (i_eq.mpr h)
            have : (0 : Int32).toInt = 0 := by decide
            refine x_iload_n C 2 dX3_rowAfter_78 rfl rfl ?_
            refine x_iload C 0 dX3_rowAfter_79 rfl ?_
            refine x_iconst C 3 dX3_rowAfter_81 (by decide) ?_
            refine x_aload_n C 3 dX3_rowAfter_82 rfl rfl ?_
            refine x_get C 0 2 dX3_rowAfter_83 inlX3 rfl (by decide) wd_367 rfl rfl rfl ?_
            refine x_callS C [.int mo] [(hm, .inr (3, [.ref hb, .int mn, .int mo, .int mu, .int mg, .int mt, .int mb])), (hb, .inr (0, [.ref b0, .ref b1, .ref b2, .ref b3, .ref b4, .ref b5, .ref b6, .int wc, .int la, .int br])), (b0, .inl (cI, 4, .inl pa)), (b1, .inl (cI, 16, .inl mi)), (b2, .inl (cI, 4, .inl ga)), (b3, .inl (cI, 4, .inl te)), (b4, .inl (cI, 4, .inl kn)), (b5, .inl (cI, 6, .inl wa)), (b6, .inl (cI, 16, .inl ne))] [] [0, 1, 2, 3, 4, 5, 6, 7, 8] (c_J6_bitCount_0f7a4 (xl X) (xD X) (xt X) hT mo ) dX3_rowAfter_86 wd_400 wd_401 wd_402 wd_403 (np := 1) ⟨by decide, by decide, by decide +kernel⟩ rfl rfl (Nat.le_of_ble_eq_true rfl) (by decide) rfl (by decide) rfl (by decide) (by decide) (fun v W1 h => ?_)
            obtain ⟨_, rfl, rfl, h_86⟩ := h
            show V X 6 [(hm, .inr (3, [.ref hb, .int mn, .int mo, .int mu, .int mg, .int mt, .int mb])), (hb, .inr (0, [.ref b0, .ref b1, .ref b2, .ref b3, .ref b4, .ref b5, .ref b6, .int wc, .int la, .int br])), (b0, .inl (cI, 4, .inl pa)), (b1, .inl (cI, 16, .inl mi)), (b2, .inl (cI, 4, .inl ga)), (b3, .inl (cI, 4, .inl te)), (b4, .inl (cI, 4, .inl kn)), (b5, .inl (cI, 6, .inl wa)), (b6, .inl (cI, 16, .inl ne))] [(5, .int (s + 1)), (4, .int 0), (3, .int (mn >>> (12 &&& 31))), (0, .ref hm), (1, .int s), (2, .int a)] [.int (bcF mo), .int 3, .int (s + 1), .int (mn >>> (12 &&& 31))] 89 0 0
            refine x_imul C dX3_rowAfter_89 ?_
            refine x_ishl C dX3_rowAfter_90 ?_
            refine x_ior C dX3_rowAfter_91 ?_
            exact x_iret C dX3_rowAfter_92 (Nat.zero_le _) (Nat.zero_le _) (by rw [eO]; exact ⟨(), (congrArg (fun z => some (Value.int z)) (by unfold rwF; rw [if_pos c_16, if_neg c_34, if_pos c_40, if_neg c_66])), rfl, trivial⟩)
          · skip
            have e_66 : (la : Int32).toInt = (0 : Int32).toInt := i_eq.mp c_66
            have : (0 : Int32).toInt = 0 := by decide
            refine x_iload_n C 2 dX3_rowAfter_69 rfl rfl ?_
            refine x_iconst C 3 dX3_rowAfter_70 (by decide) ?_
            refine x_ishl C dX3_rowAfter_71 ?_
            refine x_iload C 0 dX3_rowAfter_72 rfl ?_
            refine x_ior C dX3_rowAfter_74 ?_
            refine x_goto C 92 dX3_rowAfter_75 (by decide) ?_
            exact x_iret C dX3_rowAfter_92 (Nat.zero_le _) (Nat.zero_le _) (by rw [eO]; exact ⟨(), (congrArg (fun z => some (Value.int z)) (by unfold rwF; rw [if_pos c_16, if_neg c_34, if_pos c_40, if_pos c_66])), rfl, trivial⟩)
        · skip
          have e_47 : ¬ ((0 : Int32).toInt = (0 : Int32).toInt) := fun h => c_47 (i_eq.mpr h)
          have : (0 : Int32).toInt = 0 := by decide
          have : (0 : Int32).toInt = 0 := by decide
          exfalso
          omega
      · skip
        have e_40 : ¬ ((0 : Int32).toInt = (a : Int32).toInt) := fun h => c_40 (i_eq.mpr h)
        have : (0 : Int32).toInt = 0 := by decide
        refine x_iload_n C 1 dX3_rowAfter_43 rfl rfl ?_
        exact x_iret C dX3_rowAfter_44 (Nat.zero_le _) (Nat.zero_le _) (by rw [eO]; exact ⟨(), (congrArg (fun z => some (Value.int z)) (by unfold rwF; rw [if_pos c_16, if_neg c_34, if_neg c_40])), rfl, trivial⟩)
  · skip
    have e_16 : ¬ (((mo >>> (s &&& 31)) &&& 1 : Int32).toInt = (0 : Int32).toInt) := fun h => c_16 (i_eq.mpr h)
    have : (0 : Int32).toInt = 0 := by decide
    refine x_iconst C 1 dX3_rowAfter_19 (by decide) ?_
    refine x_goto C 24 dX3_rowAfter_20 (by decide) ?_
    refine x_istore C [(4, .int 1), (3, .int (mn >>> (12 &&& 31))), (0, .ref hm), (1, .int s), (2, .int a)] dX3_rowAfter_24 (by decide) rfl ?_
    refine x_aload_n C 2 dX3_rowAfter_26 rfl rfl ?_
    refine x_get C 0 0 dX3_rowAfter_27 inlX3 rfl (by decide) wd_77 rfl rfl rfl ?_
    refine x_getN C 1 8 dX3_rowAfter_30 inlX0 rfl (by decide) nt_19 rfl rfl rfl ?_
    refine x_iconst C 2 dX3_rowAfter_33 (by decide) ?_
    refine x_icmp_eq C 43 dX3_rowAfter_34 (by decide) (fun c_34 => ?_) (fun c_34 => ?_)
    · skip
      have e_34 : (la : Int32).toInt = (2 : Int32).toInt := i_eq.mp c_34
      have : (2 : Int32).toInt = 2 := by decide
      refine x_iload_n C 1 dX3_rowAfter_43 rfl rfl ?_
      exact x_iret C dX3_rowAfter_44 (Nat.zero_le _) (Nat.zero_le _) (by rw [eO]; exact ⟨(), (congrArg (fun z => some (Value.int z)) (by unfold rwF; rw [if_neg c_16, if_pos c_34])), rfl, trivial⟩)
    · skip
      have e_34 : ¬ ((la : Int32).toInt = (2 : Int32).toInt) := fun h => c_34 (i_eq.mpr h)
      have : (2 : Int32).toInt = 2 := by decide
      refine x_iload C 0 dX3_rowAfter_37 rfl ?_
      refine x_iload_n C 4 dX3_rowAfter_39 rfl rfl ?_
      refine x_icmp_eq C 45 dX3_rowAfter_40 (by decide) (fun c_40 => ?_) (fun c_40 => ?_)
      · skip
        have e_40 : (1 : Int32).toInt = (a : Int32).toInt := i_eq.mp c_40
        have : (1 : Int32).toInt = 1 := by decide
        refine x_iload C 0 dX3_rowAfter_45 rfl ?_
        refine x_if_eq C 54 dX3_rowAfter_47 (by decide) (fun c_47 => ?_) (fun c_47 => ?_)
        · skip
          have e_47 : (1 : Int32).toInt = (0 : Int32).toInt := i_eq.mp c_47
          have : (1 : Int32).toInt = 1 := by decide
          have : (0 : Int32).toInt = 0 := by decide
          exfalso
          omega
        · skip
          have e_47 : ¬ ((1 : Int32).toInt = (0 : Int32).toInt) := fun h => c_47 (i_eq.mpr h)
          have : (1 : Int32).toInt = 1 := by decide
          have : (0 : Int32).toInt = 0 := by decide
          refine x_iload_n C 1 dX3_rowAfter_50 rfl rfl ?_
          refine x_iconst C 3 dX3_rowAfter_51 (by decide) ?_
          refine x_ishr C dX3_rowAfter_52 ?_
          exact x_iret C dX3_rowAfter_53 (Nat.zero_le _) (Nat.zero_le _) (by rw [eO]; exact ⟨(), (congrArg (fun z => some (Value.int z)) (by unfold rwF; rw [if_neg c_16, if_neg c_34, if_pos c_40])), rfl, trivial⟩)
      · skip
        have e_40 : ¬ ((1 : Int32).toInt = (a : Int32).toInt) := fun h => c_40 (i_eq.mpr h)
        have : (1 : Int32).toInt = 1 := by decide
        refine x_iload_n C 1 dX3_rowAfter_43 rfl rfl ?_
        exact x_iret C dX3_rowAfter_44 (Nat.zero_le _) (Nat.zero_le _) (by rw [eO]; exact ⟨(), (congrArg (fun z => some (Value.int z)) (by unfold rwF; rw [if_neg c_16, if_neg c_34, if_neg c_40])), rfl, trivial⟩)
abbrev rm_X3_after : Room := { frames := 2, cells := 0, slots := 0, locals := 45 }
set_option maxHeartbeats 4000000 in
set_option maxRecDepth 100000 in
theorem c_X3_after (l : Launch) (D : va_G) (tys : List (ClassId × FieldType)) {cI cJ cZ cB : ClassId} (hT : Ty tys cI cJ cZ cB) (hm : Nat) (mn mo mu mg mt mb : Int32) (hb b0 b1 b2 b3 b4 b5 b6 : Nat) (pa mi ga te kn wa ne : Nat → Int32) (wc la br : Int32) (s : Int32) (hs : 0 ≤ s.toInt ∧ s.toInt ≤ 3) : Cn l D tys yX3_after cX3_after 4 (some .int) rm_X3_after [(hm, .inr (3, [.ref hb, .int mn, .int mo, .int mu, .int mg, .int mt, .int mb])), (hb, .inr (0, [.ref b0, .ref b1, .ref b2, .ref b3, .ref b4, .ref b5, .ref b6, .int wc, .int la, .int br])), (b0, .inl (cI, 4, .inl pa)), (b1, .inl (cI, 16, .inl mi)), (b2, .inl (cI, 4, .inl ga)), (b3, .inl (cI, 4, .inl te)), (b4, .inl (cI, 4, .inl kn)), (b5, .inl (cI, 6, .inl wa)), (b6, .inl (cI, 16, .inl ne))] [.ref hm, .int s] (fun v W1 => ∃ (_ : Unit), v = some (.int (afF pa la mn mo s)) ∧ W1 = [(hm, .inr (3, [.ref hb, .int mn, .int mo, .int mu, .int mg, .int mt, .int mb])), (hb, .inr (0, [.ref b0, .ref b1, .ref b2, .ref b3, .ref b4, .ref b5, .ref b6, .int wc, .int la, .int br])), (b0, .inl (cI, 4, .inl pa)), (b1, .inl (cI, 16, .inl mi)), (b2, .inl (cI, 4, .inl ga)), (b3, .inl (cI, 4, .inl te)), (b4, .inl (cI, 4, .inl kn)), (b5, .inl (cI, 6, .inl wa)), (b6, .inl (cI, 16, .inl ne))] ∧ (True)) := by
  refine Cn.of (by decide) (Nat.le_of_ble_eq_true rfl) ?_ ?_ (fun X eL eD eT eO eK eN eM C => ?_)
  · intro h; cases h
  · intro v ws h; obtain ⟨_, rfl, rfl, _⟩ := h; exact Or.inl rfl
  subst eL eD eT
  show V X 4 [(hm, .inr (3, [.ref hb, .int mn, .int mo, .int mu, .int mg, .int mt, .int mb])), (hb, .inr (0, [.ref b0, .ref b1, .ref b2, .ref b3, .ref b4, .ref b5, .ref b6, .int wc, .int la, .int br])), (b0, .inl (cI, 4, .inl pa)), (b1, .inl (cI, 16, .inl mi)), (b2, .inl (cI, 4, .inl ga)), (b3, .inl (cI, 4, .inl te)), (b4, .inl (cI, 4, .inl kn)), (b5, .inl (cI, 6, .inl wa)), (b6, .inl (cI, 16, .inl ne))] [(0, .ref hm), (1, .int s)] [] 0 0 0
  refine x_aload_n C 0 dX3_after_0 rfl rfl ?_
  refine x_get C 0 1 dX3_after_1 inlX3 rfl (by decide) wd_366 rfl rfl rfl ?_
  refine x_sipush C 4095 dX3_after_4 (by decide) ?_
  refine x_iand C dX3_after_7 ?_
  refine x_iconst C 1 dX3_after_8 (by decide) ?_
  refine x_iconst C 3 dX3_after_9 (by decide) ?_
  refine x_iload_n C 1 dX3_after_10 rfl rfl ?_
  refine x_imul C dX3_after_11 ?_
  refine x_ishl C dX3_after_12 ?_
  refine x_iadd C dX3_after_13 ?_
  refine x_istore_n C [(2, .int ((mn &&& 4095) + ((1 : Int32) <<< ((3 * s) &&& 31)))), (0, .ref hm), (1, .int s)] dX3_after_14 rfl (by decide) rfl ?_
  refine x_iload_n C 0 dX3_after_15 rfl rfl ?_
  refine x_iload_n C 2 dX3_after_16 rfl rfl ?_
  refine x_callS C [.int ((mn &&& 4095) + ((1 : Int32) <<< ((3 * s) &&& 31))), .int s] [(hm, .inr (3, [.ref hb, .int mn, .int mo, .int mu, .int mg, .int mt, .int mb])), (hb, .inr (0, [.ref b0, .ref b1, .ref b2, .ref b3, .ref b4, .ref b5, .ref b6, .int wc, .int la, .int br])), (b0, .inl (cI, 4, .inl pa)), (b1, .inl (cI, 16, .inl mi)), (b2, .inl (cI, 4, .inl ga)), (b3, .inl (cI, 4, .inl te)), (b4, .inl (cI, 4, .inl kn)), (b5, .inl (cI, 6, .inl wa)), (b6, .inl (cI, 16, .inl ne))] [] [0, 1, 2, 3, 4, 5, 6, 7, 8] (c_X3_partsTold (xl X) (xD X) (xt X) hT ((mn &&& 4095) + ((1 : Int32) <<< ((3 * s) &&& 31))) s ) dX3_after_17 wd_372 wd_373 wd_71 wd_374 (np := 2) ⟨by decide, by decide, by decide +kernel⟩ rfl rfl (Nat.le_of_ble_eq_true rfl) (by decide) rfl (by decide) rfl (by decide) (by decide) (fun v W1 h => ?_)
  obtain ⟨_, rfl, rfl, h_17⟩ := h
  show V X 4 [(hm, .inr (3, [.ref hb, .int mn, .int mo, .int mu, .int mg, .int mt, .int mb])), (hb, .inr (0, [.ref b0, .ref b1, .ref b2, .ref b3, .ref b4, .ref b5, .ref b6, .int wc, .int la, .int br])), (b0, .inl (cI, 4, .inl pa)), (b1, .inl (cI, 16, .inl mi)), (b2, .inl (cI, 4, .inl ga)), (b3, .inl (cI, 4, .inl te)), (b4, .inl (cI, 4, .inl kn)), (b5, .inl (cI, 6, .inl wa)), (b6, .inl (cI, 16, .inl ne))] [(2, .int ((mn &&& 4095) + ((1 : Int32) <<< ((3 * s) &&& 31)))), (0, .ref hm), (1, .int s)] [.int (ptI ((mn &&& 4095) + ((1 : Int32) <<< ((3 * s) &&& 31))) s)] 20 0 0
  refine x_aload_n C 1 dX3_after_20 rfl rfl ?_
  refine x_get C 0 0 dX3_after_21 inlX3 rfl (by decide) wd_77 rfl rfl rfl ?_
  refine x_getN C 1 0 dX3_after_24 inlX0 rfl (by decide) nt_5 rfl rfl rfl ?_
  refine x_iload_n C 2 dX3_after_27 rfl rfl ?_
  have v_28 : vp_in s 4 := (vp_in_iff.mpr (by omega))
  refine x_iald C 2 0 dX3_after_28 hT.1 rfl v_28 ?_
  refine x_icmp_lt C 36 dX3_after_29 (by decide) (fun c_29 => ?_) (fun c_29 => ?_)
  · skip
    have e_29 : (ptI ((mn &&& 4095) + ((1 : Int32) <<< ((3 * s) &&& 31))) s : Int32).toInt < (pa (Int32.toNatClampNeg s) : Int32).toInt := i_lt.mp c_29
    refine x_iconst C 0 dX3_after_36 (by decide) ?_
    refine x_istore_n C [(3, .int 0), (2, .int ((mn &&& 4095) + ((1 : Int32) <<< ((3 * s) &&& 31)))), (0, .ref hm), (1, .int s)] dX3_after_37 rfl (by decide) rfl ?_
    refine x_aload_n C 2 dX3_after_38 rfl rfl ?_
    refine x_iload_n C 3 dX3_after_39 rfl rfl ?_
    refine x_iload_n C 0 dX3_after_40 rfl rfl ?_
    refine x_callV C [.int s, .int 0] [] [0, 1, 2, 3, 4, 5, 6, 7, 8] [] (q0 := 0) (c_X3_rowAfter (xl X) (xD X) (xt X) hT hm mn mo mu mg mt mb hb b0 b1 b2 b3 b4 b5 b6 pa mi ga te kn wa ne wc la br s 0 ) dX3_after_41 wd_413 wd_414 wd_415 wd_71 wd_416 (np := 2) ⟨by decide, by decide, by decide +kernel⟩ rfl rfl (Nat.le_of_ble_eq_true rfl) (by decide) rfl rfl rfl rfl (by decide) rfl (by decide) (by decide) (fun v W1 h => ?_)
    obtain ⟨_, rfl, rfl, h_41⟩ := h
    have : (0 : Int32).toInt = 0 := by decide
    show V X 4 [(hm, .inr (3, [.ref hb, .int mn, .int mo, .int mu, .int mg, .int mt, .int mb])), (hb, .inr (0, [.ref b0, .ref b1, .ref b2, .ref b3, .ref b4, .ref b5, .ref b6, .int wc, .int la, .int br])), (b0, .inl (cI, 4, .inl pa)), (b1, .inl (cI, 16, .inl mi)), (b2, .inl (cI, 4, .inl ga)), (b3, .inl (cI, 4, .inl te)), (b4, .inl (cI, 4, .inl kn)), (b5, .inl (cI, 6, .inl wa)), (b6, .inl (cI, 16, .inl ne))] [(3, .int 0), (2, .int ((mn &&& 4095) + ((1 : Int32) <<< ((3 * s) &&& 31)))), (0, .ref hm), (1, .int s)] [.int (rwF la mn mo s 0)] 44 0 0
    refine x_bipush C 12 dX3_after_44 (by decide) ?_
    refine x_ishl C dX3_after_46 ?_
    refine x_iload_n C 1 dX3_after_47 rfl rfl ?_
    refine x_ior C dX3_after_48 ?_
    exact x_iret C dX3_after_49 (Nat.zero_le _) (Nat.zero_le _) (by rw [eO]; exact ⟨(), (congrArg (fun z => some (Value.int z)) (by unfold afF cnF; rw [if_pos e_29])), rfl, trivial⟩)
  · skip
    have e_29 : ¬ ((ptI ((mn &&& 4095) + ((1 : Int32) <<< ((3 * s) &&& 31))) s : Int32).toInt < (pa (Int32.toNatClampNeg s) : Int32).toInt) := fun h => c_29 (i_lt.mpr h)
    refine x_iconst C 1 dX3_after_32 (by decide) ?_
    refine x_goto C 37 dX3_after_33 (by decide) ?_
    refine x_istore_n C [(3, .int 1), (2, .int ((mn &&& 4095) + ((1 : Int32) <<< ((3 * s) &&& 31)))), (0, .ref hm), (1, .int s)] dX3_after_37 rfl (by decide) rfl ?_
    refine x_aload_n C 2 dX3_after_38 rfl rfl ?_
    refine x_iload_n C 3 dX3_after_39 rfl rfl ?_
    refine x_iload_n C 0 dX3_after_40 rfl rfl ?_
    refine x_callV C [.int s, .int 1] [] [0, 1, 2, 3, 4, 5, 6, 7, 8] [] (q0 := 0) (c_X3_rowAfter (xl X) (xD X) (xt X) hT hm mn mo mu mg mt mb hb b0 b1 b2 b3 b4 b5 b6 pa mi ga te kn wa ne wc la br s 1 ) dX3_after_41 wd_413 wd_414 wd_415 wd_71 wd_416 (np := 2) ⟨by decide, by decide, by decide +kernel⟩ rfl rfl (Nat.le_of_ble_eq_true rfl) (by decide) rfl rfl rfl rfl (by decide) rfl (by decide) (by decide) (fun v W1 h => ?_)
    obtain ⟨_, rfl, rfl, h_41⟩ := h
    have : (1 : Int32).toInt = 1 := by decide
    show V X 4 [(hm, .inr (3, [.ref hb, .int mn, .int mo, .int mu, .int mg, .int mt, .int mb])), (hb, .inr (0, [.ref b0, .ref b1, .ref b2, .ref b3, .ref b4, .ref b5, .ref b6, .int wc, .int la, .int br])), (b0, .inl (cI, 4, .inl pa)), (b1, .inl (cI, 16, .inl mi)), (b2, .inl (cI, 4, .inl ga)), (b3, .inl (cI, 4, .inl te)), (b4, .inl (cI, 4, .inl kn)), (b5, .inl (cI, 6, .inl wa)), (b6, .inl (cI, 16, .inl ne))] [(3, .int 1), (2, .int ((mn &&& 4095) + ((1 : Int32) <<< ((3 * s) &&& 31)))), (0, .ref hm), (1, .int s)] [.int (rwF la mn mo s 1)] 44 0 0
    refine x_bipush C 12 dX3_after_44 (by decide) ?_
    refine x_ishl C dX3_after_46 ?_
    refine x_iload_n C 1 dX3_after_47 rfl rfl ?_
    refine x_ior C dX3_after_48 ?_
    exact x_iret C dX3_after_49 (Nat.zero_le _) (Nat.zero_le _) (by rw [eO]; exact ⟨(), (congrArg (fun z => some (Value.int z)) (by unfold afF cnF; rw [if_neg e_29])), rfl, trivial⟩)
