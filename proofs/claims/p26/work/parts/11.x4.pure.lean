theorem i_ushr19 (x : Int32) : 0 ≤ ((Int32.toUInt32 x >>> (Int32.toUInt32 19 &&& Int32.toUInt32 31)).toInt32).toInt ∧ ((Int32.toUInt32 x >>> (Int32.toUInt32 19 &&& Int32.toUInt32 31)).toInt32).toInt ≤ 8191 := by
  have h := pk_ushr x 19 19 (by decide)
  have h2 : x.toBitVec.toNat < 2 ^ 32 := x.toBitVec.isLt
  generalize (Int32.toUInt32 x >>> (Int32.toUInt32 19 &&& Int32.toUInt32 31)).toInt32 = y at h ⊢
  have h3 : y.toInt = (y.toBitVec.toNat : Int) := BitVec.toInt_eq_toNat_of_lt (by omega)
  omega
theorem i_and8191 (x : Int32) : 0 ≤ (x &&& 8191).toInt ∧ (x &&& 8191).toInt ≤ 8191 := by
  obtain ⟨j, hj, h⟩ := pk_andE x (m := 8191) 13 (by decide)
  rw [h, nI_toInt (by omega)]
  omega
theorem i_and4095 (x : Int32) : 0 ≤ (x &&& 4095).toInt ∧ (x &&& 4095).toInt ≤ 4095 := by
  obtain ⟨j, hj, h⟩ := pk_andE x (m := 4095) 12 (by decide)
  rw [h, nI_toInt (by omega)]
  omega
/-! LEVEL 5: how many nights there can be -/
theorem pigeon {f : Nat → Nat} : ∀ (n : Nat) (M : List Nat), (∀ i : Nat, i < n → f i ∈ M) → (∀ i j : Nat, i < n → j < n → f i = f j → i = j) → n ≤ M.length := by
  intro n
  induction n with
  | zero => intro M _ _; exact Nat.zero_le _
  | succ n ih =>
    intro M h1 h2
    have hm := h1 n (by omega)
    have hl := List.length_erase_of_mem hm
    have hp := List.length_pos_of_mem hm
    have := ih (M.erase (f n)) (fun i hi => (List.mem_erase_of_ne (fun e => by have := h2 i n (by omega) (by omega) e; omega)).mpr (h1 i (by omega))) (fun i j hi hj e => h2 i j (by omega) (by omega) e)
    omega
/-- what may be told of a story, if it is in the row, or not -/
def dgL (c j : Nat) : List Nat := if (setI (nI c) >>> (nI j &&& 31)) &&& 1 = 0 then [0, 4] else [1, 2, 3]
def uniR (c : Nat) : List Nat := (dgL c 0).flatMap fun a => (dgL c 1).flatMap fun b => (dgL c 2).flatMap fun d => (dgL c 3).map fun e => 625 * c + (a + 5 * b + 25 * d + 125 * e)
def uni : List Nat := (List.range 625).flatMap fun c => if rowN c then uniR c else []
set_option maxRecDepth 100000 in
theorem uni_len : uni.length = 3784 := by decide +kernel
def gN (pa tl : Nat → Int32) (j : Nat) : Nat := if (tl j).toInt = (pa j).toInt then 4 else (tl j).toInt.toNat
def cdN (pa tl : Nat → Int32) (o : Int32) : Nat := 625 * o.toInt.toNat + (gN pa tl 0 + 5 * gN pa tl 1 + 25 * gN pa tl 2 + 125 * gN pa tl 3)
theorem gN_in {ma tl : Nat → Int32} {c j : Nat} (hG : Gd ma tl (nI c)) (hj : j < 4) : gN ma tl j ∈ dgL c j := by
  have g := hG.1 j hj
  have b := gd_bit hG hj
  unfold dgL gN
  by_cases o1 : opn ma tl j = true
  · rw [if_pos o1] at b
    have q := of_decide_eq_true o1
    rw [if_neg (show ¬ (tl j).toInt = (ma j).toInt by omega), if_neg (show ¬ (setI (nI c) >>> (nI j &&& 31)) &&& 1 = 0 by rw [b]; decide)]
    have : (tl j).toInt.toNat = 1 ∨ (tl j).toInt.toNat = 2 ∨ (tl j).toInt.toNat = 3 := by omega
    rcases this with e | e | e <;> rw [e] <;> decide
  · rw [if_neg o1] at b
    rw [if_pos b]
    have q : ¬ (0 < (tl j).toInt ∧ (tl j).toInt < (ma j).toInt) := fun h => o1 (opn_t h)
    by_cases e : (tl j).toInt = (ma j).toInt
    · rw [if_pos e]; decide
    · rw [if_neg e, show (tl j).toInt.toNat = 0 by omega]; decide
theorem gN_5 {ma tl : Nat → Int32} {o : Int32} (hG : Gd ma tl o) {j : Nat} (hj : j < 4) : gN ma tl j < 5 := by
  have g := hG.1 j hj
  unfold gN
  split <;> omega
theorem cd_in {ma tl : Nat → Int32} {o : Int32} (hG : Gd ma tl o) : cdN ma tl o ∈ uni := by
  obtain ⟨c, hc, hr, rfl⟩ := hG.2.1
  unfold uni
  refine List.mem_flatMap.mpr ⟨c, List.mem_range.mpr hc, ?_⟩
  rw [if_pos (show rowN c = true by unfold rowN; rw [hr]; rfl)]
  unfold uniR cdN
  rw [nI_tt (by omega)]
  exact List.mem_flatMap.mpr ⟨_, gN_in hG (by omega), List.mem_flatMap.mpr ⟨_, gN_in hG (by omega), List.mem_flatMap.mpr ⟨_, gN_in hG (by omega), List.mem_map.mpr ⟨_, gN_in hG (by omega), rfl⟩⟩⟩⟩
theorem cd_inj {ma tl tl2 : Nat → Int32} {o o2 : Int32} (hG : Gd ma tl o) (hG2 : Gd ma tl2 o2) (h : cdN ma tl o = cdN ma tl2 o2) : o = o2 ∧ ∀ j : Nat, j < 4 → tl j = tl2 j := by
  have a0 := gN_5 hG (j := 0) (by omega)
  have a1 := gN_5 hG (j := 1) (by omega)
  have a2 := gN_5 hG (j := 2) (by omega)
  have a3 := gN_5 hG (j := 3) (by omega)
  have b0 := gN_5 hG2 (j := 0) (by omega)
  have b1 := gN_5 hG2 (j := 1) (by omega)
  have b2 := gN_5 hG2 (j := 2) (by omega)
  have b3 := gN_5 hG2 (j := 3) (by omega)
  have r1 := hG.2.1.rng
  have r2 := hG2.2.1.rng
  unfold cdN at h
  have key : ∀ j : Nat, j < 4 → gN ma tl j = gN ma tl2 j → tl j = tl2 j := fun j hj e => by
    have g := hG.1 j hj
    have g2 := hG2.1 j hj
    unfold gN at e
    refine i_eq.mpr ?_
    by_cases c : (tl j).toInt = (ma j).toInt
    · rw [if_pos c] at e
      by_cases d : (tl2 j).toInt = (ma j).toInt
      · omega
      · rw [if_neg d] at e; omega
    · rw [if_neg c] at e
      by_cases d : (tl2 j).toInt = (ma j).toInt
      · rw [if_pos d] at e; omega
      · rw [if_neg d] at e; omega
  refine ⟨i_eq.mpr (by omega), fun j hj => key j hj ?_⟩
  rcases lt4 hj with rfl | rfl | rfl | rfl <;> omega
/-! LEVEL 5: the graph of nights, the slots by which a night is found -/
def hsI (a : Int32) : Int32 := (Int32.toUInt32 (a * (-1640531535)) >>> (Int32.toUInt32 19 &&& Int32.toUInt32 31)).toInt32
def hN (a : Int32) : Nat := (hsI a).toInt.toNat
def OCC (ns : Nat → Int32) (nr : Int32) (q : Nat) : Prop := (ns q) >>> (12 &&& 31) = nr
def slV (nr : Int32) (i : Nat) : Int32 := nI (4096 * nr.toInt.toNat + i)
/-- rounds that were before, or this one -/
def HTR (ns : Nat → Int32) (nr : Int32) : Prop := (0 ≤ nr.toInt ∧ nr.toInt < 500000) ∧ ∀ q : Nat, q < 8192 → 0 ≤ (ns q).toInt ∧ (ns q).toInt < 4096 * (nr.toInt + 1)
/-- the nodes of this round are found by their slots -/
def HTI (ns : Nat → Int32) (nr : Int32) (na : Nat → Int32) (nz : Nat) : Prop := (1 ≤ nr.toInt ∧ HTR ns nr) ∧ (∀ q : Nat, q < 8192 → OCC ns nr q → ∃ i : Nat, i < nz ∧ ns q = slV nr i ∧ ∀ d : Nat, d < (q + 8192 - hN (na i)) % 8192 → OCC ns nr ((hN (na i) + d) % 8192)) ∧ (∀ i : Nat, i < nz → ∃ q : Nat, q < 8192 ∧ ns q = slV nr i) ∧ ∀ q q' i : Nat, q < 8192 → q' < 8192 → ns q = slV nr i → ns q' = slV nr i → i < nz → q = q'
theorem hN_lt (a : Int32) : hN a < 8192 := by
  have := i_ushr19 (a * (-1640531535))
  unfold hN hsI
  omega
section SL
variable {ns na : Nat → Int32} {nr : Int32} {nz : Nat}
theorem slV_i {i : Nat} (h : 0 ≤ nr.toInt ∧ nr.toInt < 500000) (hi : i < 4096) : (slV nr i).toInt = 4096 * nr.toInt + i ∧ (slV nr i) >>> (12 &&& 31) = nr ∧ (slV nr i) &&& 4095 = nI i := by
  have b : 4096 * nr.toInt.toNat + i < 2 ^ 31 := by omega
  unfold slV
  refine ⟨by rw [nI_toInt b]; omega, ?_, ?_⟩
  · rw [pk_shrN b _ 12 (by decide), show (4096 * nr.toInt.toNat + i) / 2 ^ 12 = nr.toInt.toNat by omega]
    exact (nI_sl h.1).symm
  · rw [pk_andN (by omega) 12 (by decide), show (4096 * nr.toInt.toNat + i) % 2 ^ 12 = i by omega]
theorem slV_inj {i j : Nat} (h : 0 ≤ nr.toInt ∧ nr.toInt < 500000) (hi : i < 4096) (hj : j < 4096) (e : slV nr i = slV nr j) : i = j := by
  have a := (slV_i h hi).1
  have b := (slV_i h hj).1
  rw [e] at a
  omega
/-- an earlier round's slot is free -/
theorem old_free {nr' : Int32} {q : Nat} (h : HTR ns nr) (hq : q < 8192) (hr : nr'.toInt = nr.toInt + 1) : ¬ OCC ns nr' q := by
  intro o
  have b := h.2 q hq
  unfold OCC at o
  have e : ns q = nI (ns q).toInt.toNat := nI_sl b.1
  have s : (ns q) >>> (12 &&& 31) = nI ((ns q).toInt.toNat / 2 ^ 12) := by
    have := i_rng (ns q)
    rw [e, pk_shrN (by omega) _ 12 (by decide), ← e]
  rw [s] at o
  have t := congrArg Int32.toInt o
  have := i_rng (ns q)
  rw [nI_toInt (by omega)] at t
  omega
theorem HTI.z {nr' : Int32} (h : HTR ns nr) (hr : nr'.toInt = nr.toInt + 1) (h5 : nr'.toInt < 500000) : HTI ns nr' na 0 := by
  refine ⟨⟨by have := h.1; omega, ⟨by have := h.1; omega, fun q hq => by have := h.2 q hq; omega⟩⟩, fun q hq o => absurd o (old_free h hq hr), fun i hi => absurd hi (Nat.not_lt_zero _), fun q q' i _ _ _ _ hi => absurd hi (Nat.not_lt_zero _)⟩
theorem HTR.clr {ns : Nat → Int32} (h : ∀ q : Nat, q < 8192 → ns q = 0) : HTR ns 0 := ⟨by decide, fun q hq => by rw [h q hq, t0_]; omega⟩
/-- where a look for a night has come -/
def PRB (ns : Nat → Int32) (nr : Int32) (na : Nat → Int32) (nz : Nat) (a x : Int32) (k : Nat) : Prop := x.toInt = (((hN a + k) % 8192 : Nat) : Int) ∧ ∀ d : Nat, d < k → OCC ns nr ((hN a + d) % 8192) ∧ ∀ i : Nat, i < nz → ns ((hN a + d) % 8192) = slV nr i → ¬ na i = a
theorem PRB.z {a : Int32} : PRB ns nr na nz a (hsI a) 0 := by
  have := i_ushr19 (a * (-1640531535))
  have l := hN_lt a
  refine ⟨?_, fun d hd => absurd hd (Nat.not_lt_zero _)⟩
  rw [Nat.add_zero, Nat.mod_eq_of_lt l]
  unfold hN hsI
  omega
theorem nxt_i {x : Int32} {k h : Nat} (hx : x.toInt = (((h + k) % 8192 : Nat) : Int)) : ((x + 1) &&& 8191).toInt = (((h + (k + 1)) % 8192 : Nat) : Int) := by
  have t := t1_
  have m : (h + k) % 8192 < 8192 := Nat.mod_lt _ (by omega)
  have a := i_add (x := x) (y := 1) (by omega) (by omega)
  have e : x + 1 = nI ((h + k) % 8192 + 1) := by
    rw [nI_sl (x := x + 1) (by omega)]
    congr 1
    omega
  rw [e, pk_andN (by omega) 13 (by decide), nI_toInt (by omega)]
  omega
theorem PRB.go {a x y : Int32} {k : Nat} {j : Nat} (h : PRB ns nr na nz a x k) (hT : HTI ns nr na nz) (h4 : nz ≤ 3784) (hj : j = k + 1) (hy : y = (x + 1) &&& 8191) (ho : (ns x.toNatClampNeg) >>> (12 &&& 31) = nr) (hn : ((ns x.toNatClampNeg) &&& 4095).toInt < (nz : Int) → ¬ na ((ns x.toNatClampNeg) &&& 4095).toNatClampNeg = a) : PRB ns nr na nz a y j := by
  subst hj hy
  have ex : x.toNatClampNeg = (hN a + k) % 8192 := by show x.toInt.toNat = _; have := h.1; omega
  rw [ex] at ho hn
  refine ⟨nxt_i h.1, fun d hd => ?_⟩
  by_cases c : d = k
  · rw [c]
    refine ⟨ho, fun i hi e => ?_⟩
    have q := slV_i (nr := nr) hT.1.2.1 (show i < 4096 by omega)
    rw [e, q.2.2, nI_toInt (by omega), nI_clamp (show i < 2 ^ 31 by omega)] at hn
    exact hn (by omega)
  · exact h.2 d (by omega)
/-- a free slot: the night is new -/
theorem PRB.new {a x : Int32} {k : Nat} (h : PRB ns nr na nz a x k) (hT : HTI ns nr na nz) (h4 : nz ≤ 3784) (ho : ¬ OCC ns nr x.toNatClampNeg) : ∀ i : Nat, i < nz → ¬ na i = a := by
  intro i hi e
  have ex : x.toNatClampNeg = (hN a + k) % 8192 := by show x.toInt.toNat = _; have := h.1; omega
  rw [ex] at ho
  obtain ⟨q, hq, eq⟩ := hT.2.2.1 i hi
  have l := hN_lt a
  have oq : OCC ns nr q := by unfold OCC; rw [eq]; exact (slV_i hT.1.2.1 (by omega)).2.1
  obtain ⟨i2, hi2, e2, path⟩ := hT.2.1 q hq oq
  have ii : i2 = i := slV_inj hT.1.2.1 (by omega) (by omega) (e2.symm.trans eq)
  rw [ii, e] at path
  have dm : (q + 8192 - hN a) % 8192 < 8192 := Nat.mod_lt _ (by omega)
  have pos : (hN a + (q + 8192 - hN a) % 8192) % 8192 = q := by omega
  by_cases c : (q + 8192 - hN a) % 8192 < k
  · exact (h.2 _ c).2 i hi (by rw [pos]; exact eq) e
  · by_cases c2 : (q + 8192 - hN a) % 8192 = k
    · rw [c2] at pos; rw [pos] at ho; exact ho oq
    · exact ho (path k (by omega))
theorem occ_up {p q : Nat} {i : Nat} (h : 0 ≤ nr.toInt ∧ nr.toInt < 500000) (hi : i < 4096) (ho : OCC ns nr q) : OCC (upd ns p (slV nr i)) nr q := by
  unfold OCC
  rw [upd_eq]
  by_cases c : q = p
  · rw [if_pos c]; exact (slV_i h hi).2.1
  · rw [if_neg c]; exact ho
/-- a night that is new is put there -/
theorem HTI.add {a x : Int32} {k : Nat} (hT : HTI ns nr na nz) (h : PRB ns nr na nz a x k) (h4 : nz < 3784) (hk : k < 8192) (ho : ¬ OCC ns nr x.toNatClampNeg) : HTI (upd ns x.toNatClampNeg (slV nr nz)) nr (upd na nz a) (nz + 1) := by
  have ex : x.toNatClampNeg = (hN a + k) % 8192 := by show x.toInt.toNat = _; have := h.1; omega
  have hr := hT.1.2.1
  have l := hN_lt a
  have lp : (hN a + k) % 8192 < 8192 := Nat.mod_lt _ (by omega)
  rw [ex] at ho ⊢
  have nz4 : nz < 4096 := by omega
  have notp : ∀ q i : Nat, i < nz → ns q = slV nr i → ¬ q = (hN a + k) % 8192 := fun q i hi e c => by
    rw [← c] at ho
    exact ho (by unfold OCC; rw [e]; exact (slV_i hr (by omega)).2.1)
  have un : ∀ i : Nat, i < nz → upd na nz a i = na i := fun i hi => by rw [upd_eq, if_neg (by omega)]
  refine ⟨⟨hT.1.1, hr, fun q hq => ?_⟩, fun q hq oq => ?_, fun i hi => ?_, fun q q' i hq hq' e e' hi => ?_⟩
  · rw [upd_eq]
    by_cases c : q = (hN a + k) % 8192
    · rw [if_pos c, (slV_i hr nz4).1]; omega
    · rw [if_neg c]; exact hT.1.2.2 q hq
  · by_cases c : q = (hN a + k) % 8192
    · refine ⟨nz, by omega, by rw [upd_eq, if_pos c], fun d hd => ?_⟩
      have ea : upd na nz a nz = a := by rw [upd_eq, if_pos rfl]
      rw [ea] at hd ⊢
      exact occ_up hr nz4 (h.2 d (by omega)).1
    · unfold OCC at oq
      rw [upd_eq, if_neg c] at oq
      obtain ⟨i, hi, e, path⟩ := hT.2.1 q hq oq
      refine ⟨i, by omega, by rw [upd_eq, if_neg c]; exact e, fun d hd => ?_⟩
      rw [un i hi] at hd ⊢
      exact occ_up hr nz4 (path d hd)
  · by_cases c : i = nz
    · exact ⟨(hN a + k) % 8192, lp, by rw [upd_eq, if_pos rfl, c]⟩
    · obtain ⟨q, hq, e⟩ := hT.2.2.1 i (by omega)
      exact ⟨q, hq, by rw [upd_eq, if_neg (notp q i (by omega) e)]; exact e⟩
  · have old : ∀ q : Nat, q < 8192 → upd ns ((hN a + k) % 8192) (slV nr nz) q = slV nr i → ¬ q = (hN a + k) % 8192 → ns q = slV nr i ∧ i < nz := fun q hq e c => by
      rw [upd_eq, if_neg c] at e
      refine ⟨e, ?_⟩
      have oq : OCC ns nr q := by unfold OCC; rw [e]; exact (slV_i hr (by omega)).2.1
      obtain ⟨i2, hi2, e2, _⟩ := hT.2.1 q hq oq
      have := slV_inj hr (by omega) (by omega) (e2.symm.trans e)
      omega
    have atp : ∀ q : Nat, upd ns ((hN a + k) % 8192) (slV nr nz) q = slV nr i → q = (hN a + k) % 8192 → i = nz := fun q e c => by
      rw [upd_eq, if_pos c] at e
      exact (slV_inj hr nz4 (by omega) e).symm
    by_cases c : q = (hN a + k) % 8192
    · by_cases c' : q' = (hN a + k) % 8192
      · rw [c, c']
      · have := atp q e c
        have := (old q' hq' e' c').2
        omega
    · by_cases c' : q' = (hN a + k) % 8192
      · have := atp q' e' c'
        have := (old q hq e c).2
        omega
      · exact hT.2.2.2 q q' i hq hq' (old q hq e c).1 (old q' hq' e' c').1 (old q hq e c).2
/-- not all slots are taken -/
theorem HTI.free {h0 : Nat} (hT : HTI ns nr na nz) (h4 : nz ≤ 3784) (h1 : h0 < 8192) (h : ∀ d : Nat, d < 8192 → OCC ns nr ((h0 + d) % 8192)) : False := by
  have hr := hT.1.2.1
  have occ : ∀ q : Nat, q < 8192 → OCC ns nr q := fun q hq => by
    have := h ((q + 8192 - h0) % 8192) (Nat.mod_lt _ (by omega))
    rw [show (h0 + (q + 8192 - h0) % 8192) % 8192 = q by omega] at this
    exact this
  have ix : ∀ q i : Nat, i < nz → ns q = slV nr i → (ns q).toInt.toNat % 4096 = i := fun q i hi e => by
    rw [e, (slV_i hr (by omega)).1]; omega
  have := pigeon (f := fun q => (ns q).toInt.toNat % 4096) 8192 (List.range nz) (fun q hq => by
    obtain ⟨i, hi, e, _⟩ := hT.2.1 q hq (occ q hq)
    show (ns q).toInt.toNat % 4096 ∈ _
    rw [ix q i hi e]
    exact List.mem_range.mpr hi) (fun q q' hq hq' e => by
    obtain ⟨i, hi, e1, _⟩ := hT.2.1 q hq (occ q hq)
    obtain ⟨i', hi', e2, _⟩ := hT.2.1 q' hq' (occ q' hq')
    have e : (ns q).toInt.toNat % 4096 = (ns q').toInt.toNat % 4096 := e
    rw [ix q i hi e1, ix q' i' hi' e2] at e
    rw [← e] at e2
    exact hT.2.2.2 q q' i hq hq' e1 e2 hi)
  rw [List.length_range] at this
  omega
end SL
/-! nights that can be; the ways between them -/
def prt (n : Int32) : Int := (ptI n (nI 0)).toInt + (ptI n (nI 1)).toInt + (ptI n (nI 2)).toInt + (ptI n (nI 3)).toInt
def VN (pa : Nat → Int32) (la n : Int32) : Prop := ∃ (tl : Nat → Int32) (o : Int32), Gd pa tl o ∧ NR la tl o n
def ccP (pa ga te ne : Nat → Int32) (la set deep n s : Int32) : Prop := (¬ (set >>> (s &&& 31)) &&& 1 = 0 ∧ ¬ deep.toInt < (bcF (opC pa ga te n ||| ((1 : Int32) <<< (s &&& 31)))).toInt) ∧ wnF te ne n (opC pa ga te n) (ouC pa ga te n) (mgC pa ga te la n) (buC pa ga te n) (mbC pa ga te la n) s set = 0
def nxN (pa ga te : Nat → Int32) (la n s : Int32) : Int32 := afF pa la n (opC pa ga te n) s
theorem prt_tl {la o n : Int32} {tl : Nat → Int32} (h : NR la tl o n) : prt n = (tl 0).toInt + (tl 1).toInt + (tl 2).toInt + (tl 3).toInt := by
  unfold prt
  rw [NG.pt h (by omega), NG.pt h (by omega), NG.pt h (by omega), NG.pt h (by omega)]
theorem vn_0 {pa : Nat → Int32} {la : Int32} (hp : POk pa) : VN pa la 0 := ⟨tds 0, opS (fun _ => 0) 0, GS.z (co := fun _ => 0) hp rfl, nr_0 (co := fun _ => 0) rfl⟩
section VNG
variable {pa ga te ne wf wp wt : Nat → Int32} {la mw set deep n : Int32} {j : Nat}
theorem vn_go (sb : SB pa ga te ne pa ga te wf wp wt la mw) (hset : 0 ≤ set.toInt ∧ set.toInt < 16) (h : VN pa la n) (hj : j < 4) (hc : ccP pa ga te ne la set deep n (nI j)) : VN pa la (nxN pa ga te la n (nI j)) ∧ prt (nxN pa ga te la n (nI j)) = prt n + 1 := by
  obtain ⟨tl, o, hG, hN⟩ := h
  have cj : Int32.toNatClampNeg (nI j) = j := nI_clamp (show j < 2 ^ 31 by omega)
  have ej : (nI j).toInt = (j : Int) := nI_toInt (by omega)
  rcases sb.why hG hN hj hset with q | q
  · have w := why6 hj q.1
    have nr := sb.aft hG hN hj q.1
    have gt := hG.tell (s := nI j) ⟨by omega, by omega⟩ (by rw [cj]; exact w.1)
    rw [cj] at gt
    refine ⟨⟨_, _, gt, nr⟩, ?_⟩
    have p2 := prt_tl nr
    have p1 := prt_tl hN
    have g := hG.1 j hj
    have t := t1_
    have ad := i_add (x := tl j) (y := 1) (by omega) (by omega)
    show prt (afF pa la n (opC pa ga te n) (nI j)) = _
    rw [p2, p1, upd_eq, upd_eq, upd_eq, upd_eq]
    rcases lt4 hj with rfl | rfl | rfl | rfl
    · rw [if_pos rfl, if_neg (by omega), if_neg (by omega), if_neg (by omega)]; omega
    · rw [if_pos rfl, if_neg (by omega), if_neg (by omega), if_neg (by omega)]; omega
    · rw [if_pos rfl, if_neg (by omega), if_neg (by omega), if_neg (by omega)]; omega
    · rw [if_pos rfl, if_neg (by omega), if_neg (by omega), if_neg (by omega)]; omega
  · exact absurd hc.2 q.2.2
/-- there are not more nights than that -/
theorem vn_count {na : Nat → Int32} {N : Nat} (hv : ∀ i : Nat, i < N → VN pa la (na i)) (hd : ∀ i j : Nat, i < j → j < N → ¬ na i = na j) : N ≤ 3784 := by
  have ex : ∀ i : Nat, ∃ c : Nat, i < N → ∃ (tl : Nat → Int32) (o : Int32), (Gd pa tl o ∧ NR la tl o (na i)) ∧ c = cdN pa tl o := fun i => by
    by_cases c : i < N
    · obtain ⟨tl, o, h1, h2⟩ := hv i c
      exact ⟨cdN pa tl o, fun _ => ⟨tl, o, ⟨h1, h2⟩, rfl⟩⟩
    · exact ⟨0, fun h => absurd h c⟩
  rw [← uni_len]
  refine pigeon (f := fun i => Classical.choose (ex i)) N uni (fun i hi => ?_) (fun i j hi hj e => ?_)
  · obtain ⟨tl, o, h, e⟩ := Classical.choose_spec (ex i) hi
    show Classical.choose (ex i) ∈ uni
    rw [e]; exact cd_in h.1
  · obtain ⟨tl, o, h, e1⟩ := Classical.choose_spec (ex i) hi
    obtain ⟨tl2, o2, h2, e2⟩ := Classical.choose_spec (ex j) hj
    have e : Classical.choose (ex i) = Classical.choose (ex j) := e
    rw [e1, e2] at e
    obtain ⟨q1, q2⟩ := cd_inj h.1 h2.1 e
    have en : na i = na j := by
      have n1 := h.2.2.2
      have n2 := h2.2.2.2
      rw [n1, n2, q1]
      unfold tN
      rw [q2 0 (by omega), q2 1 (by omega), q2 2 (by omega), q2 3 (by omega)]
    by_cases c : i < j
    · exact absurd en (hd i j c hj)
    · by_cases c2 : j < i
      · exact absurd en.symm (hd j i c2 hi)
      · omega
end VNG
/-! the graph, as far as it is laid -/
def GRB (pa : Nat → Int32) (la : Int32) (na : Nat → Int32) (nz : Nat) : Prop := (1 ≤ nz ∧ nz ≤ 3784 ∧ na 0 = 0) ∧ (∀ i : Nat, i < nz → VN pa la (na i)) ∧ (∀ i j : Nat, i < j → j < nz → ¬ na i = na j) ∧ ∀ i j : Nat, i < j → j < nz → prt (na i) ≤ prt (na j)
def EDG (pa ga te ne : Nat → Int32) (la set deep : Int32) (na nx : Nat → Int32) (nz i j : Nat) : Prop := (ccP pa ga te ne la set deep (na i) (nI j) ∧ ∃ k : Nat, (i < k ∧ k < nz) ∧ nx (4 * i + j) = nI k ∧ na k = nxN pa ga te la (na i) (nI j)) ∨ (¬ ccP pa ga te ne la set deep (na i) (nI j) ∧ nx (4 * i + j) = -6)
def GRI (pa ga te ne : Nat → Int32) (la set deep : Int32) (na nx : Nat → Int32) (nz cur jj : Nat) : Prop := GRB pa la na nz ∧ (cur < nz → ∀ j : Nat, j < nz → prt (na j) ≤ prt (na cur) + 1) ∧ ∀ i j : Nat, j < 4 → i < nz → (i < cur ∨ (i = cur ∧ j < jj)) → EDG pa ga te ne la set deep na nx nz i j
def GRF (pa ga te ne : Nat → Int32) (la set deep : Int32) (na nx : Nat → Int32) (nz : Nat) : Prop := GRB pa la na nz ∧ ∀ i j : Nat, j < 4 → i < nz → EDG pa ga te ne la set deep na nx nz i j
section GR
variable {pa ga te ne wf wp wt na nx : Nat → Int32} {la mw set deep : Int32} {nz cur jj : Nat}
theorem GRB.z {na : Nat → Int32} (hp : POk pa) (h0 : na 0 = 0) : GRB pa la na 1 := ⟨⟨by omega, by omega, h0⟩, fun i hi => by rw [show i = 0 by omega, h0]; exact vn_0 hp, fun i j h1 h2 => by omega, fun i j h1 h2 => by omega⟩
theorem GRI.z {na : Nat → Int32} (hp : POk pa) (h0 : na 0 = 0) : GRI pa ga te ne la set deep na nx 1 0 0 := ⟨GRB.z hp h0, fun _ j hj => by rw [show j = 0 by omega]; omega, fun i j _ _ h => by omega⟩
theorem edg_nx {nx2 : Nat → Int32} {i j : Nat} (h : EDG pa ga te ne la set deep na nx nz i j) (e : nx2 (4 * i + j) = nx (4 * i + j)) : EDG pa ga te ne la set deep na nx2 nz i j := by
  unfold EDG
  rw [e]
  exact h
theorem GRI.no (h : GRI pa ga te ne la set deep na nx nz cur jj) (hj : jj < 4) (hc : ¬ ccP pa ga te ne la set deep (na cur) (nI jj)) : GRI pa ga te ne la set deep na (upd nx (4 * cur + jj) (-6)) nz cur (jj + 1) := by
  refine ⟨h.1, h.2.1, fun i j h4 hi hij => ?_⟩
  by_cases c : i = cur ∧ j = jj
  · obtain ⟨rfl, rfl⟩ := c
    exact Or.inr ⟨hc, by rw [upd_eq, if_pos rfl]⟩
  · exact edg_nx (h.2.2 i j h4 hi (by omega)) (by rw [upd_eq, if_neg (by omega)])
theorem GRI.old {k : Nat} (h : GRI pa ga te ne la set deep na nx nz cur jj) (sb : SB pa ga te ne pa ga te wf wp wt la mw) (hset : 0 ≤ set.toInt ∧ set.toInt < 16) (hcur : cur < nz) (hj : jj < 4) (hc : ccP pa ga te ne la set deep (na cur) (nI jj)) (hk : k < nz) (ek : na k = nxN pa ga te la (na cur) (nI jj)) : GRI pa ga te ne la set deep na (upd nx (4 * cur + jj) (nI k)) nz cur (jj + 1) := by
  have v := vn_go sb hset (h.1.2.1 cur hcur) hj hc
  have lt : cur < k := by
    by_cases c : k = cur
    · rw [c] at ek; have := v.2; rw [← ek] at this; omega
    · by_cases c2 : k < cur
      · have o := h.1.2.2.2 k cur c2 hcur
        have := v.2; rw [← ek] at this; omega
      · omega
  refine ⟨h.1, h.2.1, fun i j h4 hi hij => ?_⟩
  by_cases c : i = cur ∧ j = jj
  · obtain ⟨rfl, rfl⟩ := c
    exact Or.inl ⟨hc, k, ⟨lt, hk⟩, by rw [upd_eq, if_pos rfl], ek⟩
  · exact edg_nx (h.2.2 i j h4 hi (by omega)) (by rw [upd_eq, if_neg (by omega)])
theorem GRI.new (h : GRI pa ga te ne la set deep na nx nz cur jj) (sb : SB pa ga te ne pa ga te wf wp wt la mw) (hset : 0 ≤ set.toInt ∧ set.toInt < 16) (hcur : cur < nz) (hj : jj < 4) (hc : ccP pa ga te ne la set deep (na cur) (nI jj)) (hz : nz < 3784) (hn : ∀ i : Nat, i < nz → ¬ na i = nxN pa ga te la (na cur) (nI jj)) : GRI pa ga te ne la set deep (upd na nz (nxN pa ga te la (na cur) (nI jj))) (upd nx (4 * cur + jj) (nI nz)) (nz + 1) cur (jj + 1) := by
  have v := vn_go sb hset (h.1.2.1 cur hcur) hj hc
  have un : ∀ i : Nat, i < nz → upd na nz (nxN pa ga te la (na cur) (nI jj)) i = na i := fun i hi => by rw [upd_eq, if_neg (by omega)]
  have up : upd na nz (nxN pa ga te la (na cur) (nI jj)) nz = nxN pa ga te la (na cur) (nI jj) := by rw [upd_eq, if_pos rfl]
  have b := h.1
  refine ⟨⟨⟨by omega, by omega, by rw [un 0 (by omega)]; exact b.1.2.2⟩, fun i hi => ?_, fun i j h1 h2 => ?_, fun i j h1 h2 => ?_⟩, fun _ j hj2 => ?_, fun i j h4 hi hij => ?_⟩
  · by_cases c : i = nz
    · rw [c, up]; exact v.1
    · rw [un i (by omega)]; exact b.2.1 i (by omega)
  · by_cases c : j = nz
    · rw [c, up, un i (by omega)]; exact hn i (by omega)
    · rw [un i (by omega), un j (by omega)]; exact b.2.2.1 i j h1 (by omega)
  · by_cases c : j = nz
    · rw [c, up, un i (by omega), v.2]; exact h.2.1 hcur i (by omega)
    · rw [un i (by omega), un j (by omega)]; exact b.2.2.2 i j h1 (by omega)
  · rw [un cur hcur]
    by_cases c : j = nz
    · rw [c, up, v.2]; omega
    · rw [un j (by omega)]; exact h.2.1 hcur j (by omega)
  · have hi2 : i < nz := by omega
    unfold EDG
    rw [un i hi2]
    by_cases c : i = cur ∧ j = jj
    · obtain ⟨rfl, rfl⟩ := c
      exact Or.inl ⟨hc, nz, ⟨hi2, by omega⟩, by rw [upd_eq, if_pos rfl], up⟩
    · rw [upd_eq, if_neg (by omega)]
      rcases h.2.2 i j h4 hi2 (by omega) with ⟨q1, k, ⟨q2, q3⟩, q4, q5⟩ | q
      · exact Or.inl ⟨q1, k, ⟨q2, by omega⟩, q4, by rw [un k q3]; exact q5⟩
      · exact Or.inr q
theorem GRI.full (h : GRI pa ga te ne la set deep na nx nz cur jj) (sb : SB pa ga te ne pa ga te wf wp wt la mw) (hset : 0 ≤ set.toInt ∧ set.toInt < 16) (hcur : cur < nz) (hj : jj < 4) (hc : ccP pa ga te ne la set deep (na cur) (nI jj)) (hn : ∀ i : Nat, i < nz → ¬ na i = nxN pa ga te la (na cur) (nI jj)) : nz < 3784 := by
  have v := vn_go sb hset (h.1.2.1 cur hcur) hj hc
  have b := h.1
  have := vn_count (pa := pa) (la := la) (na := upd na nz (nxN pa ga te la (na cur) (nI jj))) (N := nz + 1) (fun i hi => by
    rw [upd_eq]
    by_cases c : i = nz
    · rw [if_pos c]; exact v.1
    · rw [if_neg c]; exact b.2.1 i (by omega)) (fun i j h1 h2 => by
    rw [upd_eq, upd_eq, if_neg (by omega)]
    by_cases c : j = nz
    · rw [if_pos c]; exact hn i (by omega)
    · rw [if_neg c]; exact b.2.2.1 i j h1 (by omega))
  omega
theorem GRI.next (h : GRI pa ga te ne la set deep na nx nz cur 4) (hcur : cur < nz) : GRI pa ga te ne la set deep na nx nz (cur + 1) 0 := by
  refine ⟨h.1, fun hc j hj => ?_, fun i j h4 hi hij => h.2.2 i j h4 hi (by omega)⟩
  have a := h.2.1 hcur j hj
  have b := h.1.2.2.2 cur (cur + 1) (by omega) hc
  omega
theorem GRI.out (h : GRI pa ga te ne la set deep na nx nz cur 0) (hcur : nz ≤ cur) : GRF pa ga te ne la set deep na nx nz := ⟨h.1, fun i j h4 hi => h.2.2 i j h4 hi (by omega)⟩
end GR
/-! what a look for a night's node answers -/
theorem slV_mk {nr nz : Int32} (h : 0 ≤ nr.toInt ∧ nr.toInt < 500000) (hz : 0 ≤ nz.toInt ∧ nz.toInt < 4096) : (nr <<< (12 &&& 31)) ||| nz = slV nr nz.toInt.toNat := by
  have e1 : nr = nI nr.toInt.toNat := nI_sl h.1
  have e2 : nz = nI nz.toInt.toNat := nI_sl hz.1
  unfold slV
  have s : nr <<< (12 &&& 31) = nI (2 ^ 12 * nr.toInt.toNat) := by
    rw [e1, pk_shlN (n := nr.toInt.toNat) _ 12 (by decide) (by omega), Nat.mul_comm, ← e1]
  rw [s, e2, ← e2]
  have := nI_orlt (a := nr.toInt.toNat) (b := nz.toInt.toNat) 12 (by omega) (by omega)
  rw [← e2] at this
  exact this
def ADN (a b nr nz : Int32) (na ns : Nat → Int32) (r nz2 : Int32) (na2 ns2 : Nat → Int32) : Prop := (¬ nz.toInt < 3784 ∧ r = -6 ∧ nz2 = nz ∧ na2 = na ∧ ns2 = ns) ∨ (nz.toInt < 3784 ∧ r = nz ∧ nz2 = nz + 1 ∧ na2 = upd na (Int32.toNatClampNeg nz) a ∧ ns2 = upd ns (Int32.toNatClampNeg b) ((nr <<< (12 &&& 31)) ||| nz))
def NOD (a nz : Int32) (na : Nat → Int32) (r nz2 : Int32) (na2 : Nat → Int32) : Prop := (∃ i : Nat, (i : Int) < nz.toInt ∧ r = nI i ∧ na i = a ∧ nz2 = nz ∧ na2 = na) ∨ ((∀ i : Nat, (i : Int) < nz.toInt → ¬ na i = a) ∧ ((¬ nz.toInt < 3784 ∧ r = -6 ∧ nz2 = nz ∧ na2 = na) ∨ (nz.toInt < 3784 ∧ r = nz ∧ nz2 = nz + 1 ∧ na2 = upd na (Int32.toNatClampNeg nz) a)))
theorem nod_add {a x nr nz r nz2 : Int32} {na ns na2 ns2 : Nat → Int32} {k : Nat} (hz : 0 ≤ nz.toInt ∧ nz.toInt ≤ 3784) (hT : HTI ns nr na nz.toInt.toNat) (hP : PRB ns nr na nz.toInt.toNat a x k) (hk : k < 8192) (ho : ¬ (ns x.toNatClampNeg) >>> (12 &&& 31) = nr) (h : ADN a x nr nz na ns r nz2 na2 ns2) : (0 ≤ nz2.toInt ∧ nz2.toInt ≤ 3784) ∧ HTI ns2 nr na2 nz2.toInt.toNat ∧ NOD a nz na r nz2 na2 := by
  have new := hP.new hT (by omega) ho
  rcases h with ⟨c, e1, e2, e3, e4⟩ | ⟨c, e1, e2, e3, e4⟩
  · subst e2 e3 e4
    exact ⟨hz, hT, Or.inr ⟨fun i hi => new i (by omega), Or.inl ⟨c, e1, rfl, rfl⟩⟩⟩
  · have t := t1_
    have ad := i_add (x := nz) (y := 1) (by omega) (by omega)
    rw [slV_mk hT.1.2.1 (by omega)] at e4
    have q := hT.add hP (by omega) hk ho
    refine ⟨by rw [e2]; omega, ?_, Or.inr ⟨fun i hi => new i (by omega), Or.inr ⟨c, e1, e2, e3⟩⟩⟩
    rw [e4, e3, e2, show (nz + 1).toInt.toNat = nz.toInt.toNat + 1 by omega]
    exact q
section GC
variable {pa ga te ne wf wp wt na nx na2 : Nat → Int32} {la mw set deep r nz nz2 : Int32} {cur jj : Nat}
theorem ccp_iff {n mo mu mg mt mb s : Int32} (h : MOM pa ga te la n mo mu mg mt mb) : ((¬ (set >>> (s &&& 31)) &&& 1 = 0 ∧ ¬ deep.toInt < (bcF (mo ||| ((1 : Int32) <<< (s &&& 31)))).toInt) ∧ wnF te ne n mo mu mg mt mb s set = 0) ↔ ccP pa ga te ne la set deep n s := by
  obtain ⟨rfl, rfl, rfl, rfl, rfl⟩ := h
  exact Iff.rfl
theorem GRI.come {a : Int32} (h : GRI pa ga te ne la set deep na nx nz.toInt.toNat cur jj) (sb : SB pa ga te ne pa ga te wf wp wt la mw) (hset : 0 ≤ set.toInt ∧ set.toInt < 16) (hz : 0 ≤ nz.toInt ∧ nz.toInt ≤ 3784) (hcur : (cur : Int) < nz.toInt) (hj : jj < 4) (hc : ccP pa ga te ne la set deep (na cur) (nI jj)) (ha : a = nxN pa ga te la (na cur) (nI jj)) (hd : NOD a nz na r nz2 na2) : GRI pa ga te ne la set deep na2 (upd nx (4 * cur + jj) r) nz2.toInt.toNat cur (jj + 1) ∧ na2 cur = na cur ∧ nz.toInt ≤ nz2.toInt := by
  rcases hd with ⟨i, i1, i2, i3, i4, i5⟩ | ⟨n1, ⟨n2, _⟩ | ⟨n2, n3, n4, n5⟩⟩
  · subst i4 i5
    rw [i2]
    exact ⟨h.old sb hset (by omega) hj hc (by omega) (i3.trans ha), rfl, Int.le_refl _⟩
  · have := h.full sb hset (by omega) hj hc (fun i hi => by rw [← ha]; exact n1 i (by omega))
    exfalso; omega
  · have t := t1_
    have ad := i_add (x := nz) (y := 1) (by omega) (by omega)
    have ez : Int32.toNatClampNeg nz = nz.toInt.toNat := rfl
    have q := h.new sb hset (by omega) hj hc (by omega) (fun i hi => by rw [← ha]; exact n1 i (by omega))
    rw [n3, n4, n5, ez, show (nz + 1).toInt.toNat = nz.toInt.toNat + 1 by omega, ha]
    refine ⟨?_, by rw [upd_eq, if_neg (by omega)], by omega⟩
    rw [← nI_sl hz.1] at q
    exact q
end GC
theorem ax_go {Q : Int32 → Prop} {x y : Int32} (h : AX Q x) (hy : y.toInt = x.toInt + 1) (hq : Q x) : AX Q y := fun u h0 h1 => by
  by_cases c : u.toInt = x.toInt
  · rw [i_eq.mpr c]; exact hq
  · exact h u h0 (by omega)
/-! worths, from the last node down -/
def ndA (nx : Nat → Int32) (nz a s : Int32) : Int32 := if 0 ≤ (nx (Int32.toNatClampNeg (a * 4 + s))).toInt ∧ (nx (Int32.toNatClampNeg (a * 4 + s))).toInt < nz.toInt then nx (Int32.toNatClampNeg (a * 4 + s)) else -6
def swC (nx : Nat → Int32) (nz : Int32) (nw : Nat → Int64) (i : Nat) (w0 : Int64) : Nat → Int64
  | 0 => w0
  | k + 1 => swC nx nz nw i w0 k + (if 0 ≤ (nx (4 * i + k)).toInt ∧ (nx (4 * i + k)).toInt < nz.toInt then nw (nx (4 * i + k)).toInt.toNat else 0)
def UPG (nx : Nat → Int32) (nz : Int32) : Prop := ∀ i j : Nat, j < 4 → (i : Int) < nz.toInt → 0 ≤ (nx (4 * i + j)).toInt → (nx (4 * i + j)).toInt < nz.toInt → (i : Int) < (nx (4 * i + j)).toInt
def AOt (pa na : Nat → Int32) (nt : Int32) (i : Nat) : Prop := AX (fun y => (nt >>> (y &&& 31)) &&& 1 = 0 ∨ ¬ (ptI (na i) y).toInt < (pa y.toNatClampNeg).toInt) 4
noncomputable def aoW (pa na : Nat → Int32) (nt : Int32) (i : Nat) : Int64 := ifc (AOt pa na nt i) 1 0
/-- each night's worth is that of those behind it -/
def WGX (pa na nx : Nat → Int32) (nt nz : Int32) (nw : Nat → Int64) (lo : Int) : Prop := ∀ i : Nat, lo < (i : Int) → (i : Int) < nz.toInt → nw i = swC nx nz nw i (aoW pa na nt i) 4
theorem swC_cg {nx : Nat → Int32} {nz : Int32} {nw nv : Nat → Int64} {i : Nat} {w0 : Int64} : ∀ n : Nat, (∀ k : Nat, k < n → 0 ≤ (nx (4 * i + k)).toInt → (nx (4 * i + k)).toInt < nz.toInt → nw (nx (4 * i + k)).toInt.toNat = nv (nx (4 * i + k)).toInt.toNat) → swC nx nz nw i w0 n = swC nx nz nv i w0 n := by
  intro n
  induction n with
  | zero => intro _; rfl
  | succ n ih =>
    intro h
    rw [swC, swC, ih (fun k hk => h k (by omega))]
    by_cases c : 0 ≤ (nx (4 * i + n)).toInt ∧ (nx (4 * i + n)).toInt < nz.toInt
    · rw [if_pos c, if_pos c, h n (by omega) c.1 c.2]
    · rw [if_neg c, if_neg c]
theorem WGX.put {pa na nx : Nat → Int32} {nt nz x : Int32} {nw : Nat → Int64} {y : Int} {w : Int64} (h : WGX pa na nx nt nz nw x.toInt) (hu : UPG nx nz) (h0 : 0 ≤ x.toInt) (hy : y = x.toInt - 1) (hw : w = swC nx nz nw x.toInt.toNat (aoW pa na nt x.toInt.toNat) 4) : WGX pa na nx nt nz (vp_updL nw (Int32.toNatClampNeg x) w) y := by
  have ex : Int32.toNatClampNeg x = x.toInt.toNat := rfl
  intro i h1 h2
  have e : swC nx nz (vp_updL nw (Int32.toNatClampNeg x) w) i (aoW pa na nt i) 4 = swC nx nz nw i (aoW pa na nt i) 4 := by
    refine swC_cg 4 fun k hk q0 q1 => ?_
    have := hu i k hk h2 q0 q1
    rw [updL_eq, if_neg (by rw [ex]; omega)]
  rw [e]
  rw [updL_eq]
  by_cases c : i = x.toInt.toNat
  · rw [if_pos (by rw [ex]; exact c), c]; exact hw
  · rw [if_neg (by rw [ex]; exact c)]; exact h i (by omega) h2
theorem GRF.up {pa ga te ne na nx : Nat → Int32} {la set deep nz : Int32} (h : GRF pa ga te ne la set deep na nx nz.toInt.toNat) : UPG nx nz := by
  intro i j hj hi h0 h1
  rcases h.2 i j hj (by omega) with ⟨_, k, ⟨k1, k2⟩, k3, _⟩ | ⟨_, e⟩
  · rw [k3, nI_toInt (by have := h.1.1.2.1; omega)]; omega
  · rw [e, tm6_] at h0; omega
theorem nd_ix {a s : Int32} (ha : 0 ≤ a.toInt ∧ a.toInt < 3784) (hs : 0 ≤ s.toInt ∧ s.toInt ≤ 3) : Int32.toNatClampNeg (a * 4 + s) = 4 * a.toInt.toNat + s.toInt.toNat := by
  have := t4_
  have m := i_mulr (x := a) (y := 4) (d := 4) (by decide) (by omega) (by omega)
  have d := i_add (x := a * 4) (y := s) (by omega) (by omega)
  show (a * 4 + s).toInt.toNat = _
  omega
theorem swC_n {nx : Nat → Int32} {nz a s y : Int32} {nw : Nat → Int64} {w0 : Int64} (ha : 0 ≤ a.toInt ∧ a.toInt < 3784) (hs : 0 ≤ s.toInt ∧ s.toInt ≤ 3) (hy : y.toInt = s.toInt + 1) (h : ndA nx nz a s = -6) : swC nx nz nw a.toInt.toNat w0 y.toInt.toNat = swC nx nz nw a.toInt.toNat w0 s.toInt.toNat + 0 := by
  unfold ndA at h
  rw [nd_ix ha hs] at h
  rw [show y.toInt.toNat = s.toInt.toNat + 1 by omega, swC]
  by_cases c : 0 ≤ (nx (4 * a.toInt.toNat + s.toInt.toNat)).toInt ∧ (nx (4 * a.toInt.toNat + s.toInt.toNat)).toInt < nz.toInt
  · rw [if_pos c] at h
    rw [h, tm6_] at c
    omega
  · rw [if_neg c]
theorem swC_p {nx : Nat → Int32} {nz a s y : Int32} {nw : Nat → Int64} {w0 : Int64} (ha : 0 ≤ a.toInt ∧ a.toInt < 3784) (hs : 0 ≤ s.toInt ∧ s.toInt ≤ 3) (hy : y.toInt = s.toInt + 1) (h : ¬ ndA nx nz a s = -6) : swC nx nz nw a.toInt.toNat w0 y.toInt.toNat = swC nx nz nw a.toInt.toNat w0 s.toInt.toNat + nw (Int32.toNatClampNeg (ndA nx nz a s)) := by
  unfold ndA at h ⊢
  rw [nd_ix ha hs] at h ⊢
  rw [show y.toInt.toNat = s.toInt.toNat + 1 by omega, swC]
  by_cases c : 0 ≤ (nx (4 * a.toInt.toNat + s.toInt.toNat)).toInt ∧ (nx (4 * a.toInt.toNat + s.toInt.toNat)).toInt < nz.toInt
  · rw [if_pos c, if_pos c]; rfl
  · rw [if_neg c] at h
    exact absurd rfl h
/-! LEVEL 5: what was heard: worths -/
def ptA (n : Int32) : Int32 := ptI n 0 + ptI n 1 + ptI n 2 + ptI n 3
def sdA (mi na nx f : Nat → Int32) (z nz a s t : Int32) : Int32 := if t.toInt < z.toInt ∧ mnF mi s (ptI (na (Int32.toNatClampNeg a)) s) = f (Int32.toNatClampNeg t) - 48 then ndA nx nz a s else -6
def shC (mi na nx f : Nat → Int32) (z nz a t : Int32) (nw : Nat → Int64) (w0 : Int64) : Nat → Int64
  | 0 => w0
  | k + 1 => shC mi na nx f z nz a t nw w0 k + (if sdA mi na nx f z nz a (nI k) t = -6 then 0 else nw (Int32.toNatClampNeg (sdA mi na nx f z nz a (nI k) t)))
def hgW (na : Nat → Int32) (z : Int32) (i : Nat) : Int64 := if ptA (na i) = z then 1 else 0
def HGX (mi na nx f : Nat → Int32) (z nz : Int32) (nw : Nat → Int64) (lo : Int) : Prop := ∀ i : Nat, lo < (i : Int) → (i : Int) < nz.toInt → nw i = shC mi na nx f z nz (nI i) (ptA (na i)) nw (hgW na z i) 4
section SH
variable {mi na nx f : Nat → Int32} {z nz a s t y : Int32} {nw nv : Nat → Int64} {w0 : Int64}
theorem nd_rng : ndA nx nz a s = -6 ∨ (0 ≤ (ndA nx nz a s).toInt ∧ (ndA nx nz a s).toInt < nz.toInt) := by
  unfold ndA
  by_cases c : 0 ≤ (nx (Int32.toNatClampNeg (a * 4 + s))).toInt ∧ (nx (Int32.toNatClampNeg (a * 4 + s))).toInt < nz.toInt
  · rw [if_pos c]; exact Or.inr c
  · rw [if_neg c]; exact Or.inl rfl
theorem sd_rng : sdA mi na nx f z nz a s t = -6 ∨ (sdA mi na nx f z nz a s t = ndA nx nz a s ∧ 0 ≤ (ndA nx nz a s).toInt ∧ (ndA nx nz a s).toInt < nz.toInt) := by
  unfold sdA
  by_cases c : t.toInt < z.toInt ∧ mnF mi s (ptI (na (Int32.toNatClampNeg a)) s) = f (Int32.toNatClampNeg t) - 48
  · rw [if_pos c]
    rcases nd_rng (nx := nx) (nz := nz) (a := a) (s := s) with q | q
    · exact Or.inl q
    · exact Or.inr ⟨rfl, q⟩
  · rw [if_neg c]; exact Or.inl rfl
theorem shC_n (hs : 0 ≤ s.toInt) (hy : y.toInt = s.toInt + 1) (h : sdA mi na nx f z nz a s t = -6) : shC mi na nx f z nz a t nw w0 y.toInt.toNat = shC mi na nx f z nz a t nw w0 s.toInt.toNat + 0 := by
  rw [show y.toInt.toNat = s.toInt.toNat + 1 by omega, shC, ← nI_sl hs, if_pos h]
theorem shC_p (hs : 0 ≤ s.toInt) (hy : y.toInt = s.toInt + 1) (h : ¬ sdA mi na nx f z nz a s t = -6) : shC mi na nx f z nz a t nw w0 y.toInt.toNat = shC mi na nx f z nz a t nw w0 s.toInt.toNat + nw (Int32.toNatClampNeg (sdA mi na nx f z nz a s t)) := by
  rw [show y.toInt.toNat = s.toInt.toNat + 1 by omega, shC, ← nI_sl hs, if_neg h]
theorem shC_cg : ∀ n : Nat, n ≤ 4 → (∀ k : Nat, k < n → ¬ sdA mi na nx f z nz a (nI k) t = -6 → nw (Int32.toNatClampNeg (sdA mi na nx f z nz a (nI k) t)) = nv (Int32.toNatClampNeg (sdA mi na nx f z nz a (nI k) t))) → shC mi na nx f z nz a t nw w0 n = shC mi na nx f z nz a t nv w0 n := by
  intro n
  induction n with
  | zero => intro _ _; rfl
  | succ n ih =>
    intro hn h
    rw [shC, shC, ih (by omega) (fun k hk => h k (by omega))]
    by_cases c : sdA mi na nx f z nz a (nI n) t = -6
    · rw [if_pos c, if_pos c]
    · rw [if_neg c, if_neg c, h n (by omega) c]
/-- the node behind is a later one -/
theorem sd_up {i k : Nat} (hu : UPG nx nz) (hi : (i : Int) < nz.toInt) (h4 : nz.toInt ≤ 3784) (hk : k < 4) (h : ¬ sdA mi na nx f z nz (nI i) (nI k) t = -6) : (i : Int) < (sdA mi na nx f z nz (nI i) (nI k) t).toInt ∧ (sdA mi na nx f z nz (nI i) (nI k) t).toInt < nz.toInt := by
  have ei : (nI i).toInt = (i : Int) := nI_toInt (by omega)
  have ek : (nI k).toInt = (k : Int) := nI_toInt (by omega)
  rcases sd_rng (mi := mi) (na := na) (nx := nx) (f := f) (z := z) (nz := nz) (a := nI i) (s := nI k) (t := t) with q | ⟨q, q0, q1⟩
  · exact absurd q h
  · rw [q]
    have ix := nd_ix (a := nI i) (s := nI k) (by omega) (by omega)
    unfold ndA at q0 q1 ⊢
    rw [ix, ei, ek] at q0 q1 ⊢
    by_cases c : 0 ≤ (nx (4 * (i : Int).toNat + (k : Int).toNat)).toInt ∧ (nx (4 * (i : Int).toNat + (k : Int).toNat)).toInt < nz.toInt
    · rw [if_pos c]
      have := hu i k hk hi c.1 c.2
      exact ⟨this, c.2⟩
    · rw [if_neg c, tm6_] at q0; omega
theorem HGX.put {x : Int32} {y : Int} {w : Int64} (h : HGX mi na nx f z nz nw x.toInt) (hu : UPG nx nz) (h4 : nz.toInt ≤ 3784) (h0 : 0 ≤ x.toInt) (hy : y = x.toInt - 1) (hw : w = shC mi na nx f z nz x (ptA (na (Int32.toNatClampNeg x))) nw (hgW na z (Int32.toNatClampNeg x)) 4) : HGX mi na nx f z nz (vp_updL nw (Int32.toNatClampNeg x) w) y := by
  have ex : Int32.toNatClampNeg x = x.toInt.toNat := rfl
  intro i h1 h2
  have e : shC mi na nx f z nz (nI i) (ptA (na i)) (vp_updL nw (Int32.toNatClampNeg x) w) (hgW na z i) 4 = shC mi na nx f z nz (nI i) (ptA (na i)) nw (hgW na z i) 4 := by
    refine shC_cg 4 (Nat.le_refl 4) fun k hk q => ?_
    have u := sd_up hu h2 h4 hk q
    have es : Int32.toNatClampNeg (sdA mi na nx f z nz (nI i) (nI k) (ptA (na i))) = (sdA mi na nx f z nz (nI i) (nI k) (ptA (na i))).toInt.toNat := rfl
    rw [updL_eq, if_neg (by rw [ex, es]; omega)]
  rw [e]
  rw [updL_eq]
  by_cases c : i = x.toInt.toNat
  · rw [if_pos (by rw [ex]; exact c), hw, ex, c, ← nI_sl h0]
  · rw [if_neg (by rw [ex]; exact c)]; exact h i (by omega) h2
end SH
/-! LEVEL 5: the first evening that was heard -/
def okV (mi na nx f : Nat → Int32) (z nz : Int32) (nw : Nat → Int64) (a t : Int32) (k : Nat) : Bool := decide (¬ sdA mi na nx f z nz a (nI k) t = -6 ∧ (0 : Int64).toInt < (nw (Int32.toNatClampNeg (sdA mi na nx f z nz a (nI k) t))).toInt)
/-- the first of the four that is so -/
def fs4 (p : Nat → Bool) : Int32 := if p 0 then 0 else if p 1 then 1 else if p 2 then 2 else if p 3 then 3 else -6
theorem fs4_at {p : Nat → Bool} {x : Int32} (h0 : 0 ≤ x.toInt ∧ x.toInt ≤ 3) (hb : ∀ k : Nat, (k : Int) < x.toInt → p k = false) (hx : p x.toInt.toNat = true) : fs4 p = x := by
  have e : x = nI x.toInt.toNat := nI_sl h0.1
  unfold fs4
  rcases lt4 (show x.toInt.toNat < 4 by omega) with q | q | q | q
  · rw [q] at hx e; rw [if_pos hx, e]; rfl
  · rw [q] at hx e; rw [hb 0 (by omega), hx, e]; rfl
  · rw [q] at hx e; rw [hb 0 (by omega), hb 1 (by omega), hx, e]; rfl
  · rw [q] at hx e; rw [hb 0 (by omega), hb 1 (by omega), hb 2 (by omega), hx, e]; rfl
theorem fs4_no {p : Nat → Bool} (hb : ∀ k : Nat, k < 4 → p k = false) : fs4 p = -6 := by
  unfold fs4
  rw [hb 0 (by omega), hb 1 (by omega), hb 2 (by omega), hb 3 (by omega)]
  rfl
theorem fs4_cg {p q : Nat → Bool} (h : ∀ k : Nat, k < 4 → p k = q k) : fs4 p = fs4 q := by
  unfold fs4
  rw [h 0 (by omega), h 1 (by omega), h 2 (by omega), h 3 (by omega)]
theorem fs4_v (p : Nat → Bool) : (fs4 p = -6 ∧ ∀ k : Nat, k < 4 → p k = false) ∨ ∃ s : Nat, s < 4 ∧ fs4 p = nI s ∧ p s = true ∧ ∀ k : Nat, k < s → p k = false := by
  by_cases c0 : p 0 = true
  · exact Or.inr ⟨0, by omega, by unfold fs4; rw [if_pos c0]; rfl, c0, fun k hk => by omega⟩
  have f0 := Bool.eq_false_iff.mpr c0
  by_cases c1 : p 1 = true
  · exact Or.inr ⟨1, by omega, by unfold fs4; rw [f0, c1]; rfl, c1, fun k hk => by rw [show k = 0 by omega]; exact f0⟩
  have f1 := Bool.eq_false_iff.mpr c1
  by_cases c2 : p 2 = true
  · exact Or.inr ⟨2, by omega, by unfold fs4; rw [f0, f1, c2]; rfl, c2, fun k hk => by rcases (show k = 0 ∨ k = 1 by omega) with e | e <;> rw [e] <;> assumption⟩
  have f2 := Bool.eq_false_iff.mpr c2
  by_cases c3 : p 3 = true
  · exact Or.inr ⟨3, by omega, by unfold fs4; rw [f0, f1, f2, c3]; rfl, c3, fun k hk => by rcases (show k = 0 ∨ k = 1 ∨ k = 2 by omega) with e | e | e <;> rw [e] <;> assumption⟩
  have f3 := Bool.eq_false_iff.mpr c3
  have all : ∀ k : Nat, k < 4 → p k = false := fun k hk => by rcases lt4 hk with e | e | e | e <;> rw [e] <;> assumption
  exact Or.inl ⟨fs4_no all, all⟩
/-- the letter at a place, found by going from night to night -/
def flV (st nt : Int32 → Int32 → Int32) (i : Int32) : Nat → Int32 → Int32 → Int32
  | 0, _, _ => -6
  | n + 1, a, t => if a = -6 then -6 else if st a t = -6 then -6 else if t = i then 97 + st a t else flV st nt i n (nt a (st a t)) (t + 1)
theorem flV_6 {st nt : Int32 → Int32 → Int32} {i t : Int32} : ∀ n : Nat, flV st nt i n (-6) t = -6 := by
  intro n
  cases n with
  | zero => rfl
  | succ n => rw [flV, if_pos rfl]
theorem okV_t {mi na nx f : Nat → Int32} {z nz a t x r : Int32} {nw : Nat → Int64} (h0 : 0 ≤ x.toInt) (e : r = sdA mi na nx f z nz a x t) (h1 : ¬ r = -6) (h2 : ¬ (nw (Int32.toNatClampNeg r)).toInt ≤ (0 : Int64).toInt) : okV mi na nx f z nz nw a t x.toInt.toNat = true := by
  unfold okV
  rw [← nI_sl h0, ← e]
  exact decide_eq_true ⟨h1, by omega⟩
theorem okV_f {mi na nx f : Nat → Int32} {z nz a t x r : Int32} {nw : Nat → Int64} (h0 : 0 ≤ x.toInt) (e : r = sdA mi na nx f z nz a x t) (h : r = -6 ∨ (nw (Int32.toNatClampNeg r)).toInt ≤ (0 : Int64).toInt) : okV mi na nx f z nz nw a t x.toInt.toNat = false := by
  unfold okV
  rw [← nI_sl h0, ← e]
  refine decide_eq_false fun q => ?_
  rcases h with h | h
  · exact q.1 h
  · have := q.2; omega
theorem ok_go {p : Nat → Bool} {x y : Int32} (h : ∀ k : Nat, (k : Int) < x.toInt → p k = false) (h0 : 0 ≤ x.toInt) (hy : y.toInt = x.toInt + 1) (hx : p x.toInt.toNat = false) : ∀ k : Nat, (k : Int) < y.toInt → p k = false := fun k hk => by
  by_cases c : k = x.toInt.toNat
  · rw [c]; exact hx
  · exact h k (by omega)
