/-! the pad: where a text can't be a story -/
def sf (f : Nat → Int32) : Nat → Int32 → Int32 → Int32 → Int32
  | 0, i, _, d => if d = 0 then -6 else i
  | n + 1, i, p, d => if (49 ≤ (f i.toNatClampNeg).toInt ∧ (f i.toNatClampNeg).toInt ≤ 57) ∧ p.toInt < 4 then sf f n (i + 1) (p + 1) 0 else if f i.toNatClampNeg = 58 ∧ d = 0 ∧ p.toInt < 4 then sf f n (i + 1) p 1 else i
def sfZ (f : Nat → Int32) (z : Int32) : Int32 := sf f z.toInt.toNat 0 0 1
theorem sf_at {z i : Int32} (h0 : 0 ≤ i.toInt) (h1 : i.toInt < z.toInt) : (z.toInt - i.toInt).toNat = (z.toInt - (i + 1).toInt).toNat + 1 := by
  have hz := i_rng z
  have h9 : (1 : Int32).toInt = 1 := by decide
  have := i_add (x := i) (y := 1) (by omega) (by omega)
  omega
theorem sf_dig {f : Nat → Int32} {z i p d : Int32} (h0 : 0 ≤ i.toInt) (h1 : i.toInt < z.toInt) (ha : 49 ≤ (f i.toNatClampNeg).toInt ∧ (f i.toNatClampNeg).toInt ≤ 57) (hp : p.toInt < 4) : sf f (z.toInt - i.toInt).toNat i p d = sf f (z.toInt - (i + 1).toInt).toNat (i + 1) (p + 1) 0 := by
  rw [sf_at h0 h1, sf, if_pos ⟨ha, hp⟩]
theorem sf_col {f : Nat → Int32} {z i p d : Int32} (h0 : 0 ≤ i.toInt) (h1 : i.toInt < z.toInt) (ha : f i.toNatClampNeg = 58) (hd : d = 0) (hp : p.toInt < 4) : sf f (z.toInt - i.toInt).toNat i p d = sf f (z.toInt - (i + 1).toInt).toNat (i + 1) p 1 := by
  have h58 : (58 : Int32).toInt = 58 := by decide
  rw [sf_at h0 h1, sf, if_neg (by rw [ha]; omega), if_pos ⟨ha, hd, hp⟩]
theorem sf_bad {f : Nat → Int32} {z i p d : Int32} (h0 : 0 ≤ i.toInt) (h1 : i.toInt < z.toInt) (ha : ¬ ((49 ≤ (f i.toNatClampNeg).toInt ∧ (f i.toNatClampNeg).toInt ≤ 57) ∧ p.toInt < 4)) (hb : ¬ (f i.toNatClampNeg = 58 ∧ d = 0 ∧ p.toInt < 4)) : sf f (z.toInt - i.toInt).toNat i p d = i := by
  rw [sf_at h0 h1, sf, if_neg ha, if_neg hb]
theorem sf_end {f : Nat → Int32} {z i p d : Int32} (h1 : z.toInt ≤ i.toInt) : sf f (z.toInt - i.toInt).toNat i p d = if d = 0 then -6 else i := by
  rw [show (z.toInt - i.toInt).toNat = 0 by omega, sf]
/-- where a row of signs fails -/
def rfL (f : Nat → Int32) (lo hi : Int) : Nat → Int32 → Int32
  | 0, _ => -6
  | n + 1, i => if i.toInt < 16 ∧ lo ≤ (f i.toNatClampNeg).toInt ∧ (f i.toNatClampNeg).toInt ≤ hi then rfL f lo hi n (i + 1) else i
def rfZ (f : Nat → Int32) (lo hi : Int) (z : Int32) : Int32 := rfL f lo hi z.toInt.toNat 0
theorem rf_go {f : Nat → Int32} {lo hi : Int} {z i : Int32} (h0 : 0 ≤ i.toInt) (h1 : i.toInt < z.toInt) (h : i.toInt < 16 ∧ lo ≤ (f i.toNatClampNeg).toInt ∧ (f i.toNatClampNeg).toInt ≤ hi) : rfL f lo hi (z.toInt - i.toInt).toNat i = rfL f lo hi (z.toInt - (i + 1).toInt).toNat (i + 1) := by
  rw [sf_at h0 h1, rfL, if_pos h]
theorem rf_bad {f : Nat → Int32} {lo hi : Int} {z i : Int32} (h0 : 0 ≤ i.toInt) (h1 : i.toInt < z.toInt) (h : ¬ (i.toInt < 16 ∧ lo ≤ (f i.toNatClampNeg).toInt ∧ (f i.toNatClampNeg).toInt ≤ hi)) : rfL f lo hi (z.toInt - i.toInt).toNat i = i := by
  rw [sf_at h0 h1, rfL, if_neg h]
theorem rf_end {f : Nat → Int32} {lo hi : Int} {z i : Int32} (h1 : z.toInt ≤ i.toInt) : rfL f lo hi (z.toInt - i.toInt).toNat i = -6 := by
  rw [show (z.toInt - i.toInt).toNat = 0 by omega, rfL]
/-- a text that is a row of signs -/
def FR (f : Nat → Int32) (z : Int32) (lo hi : Int) : Prop := z.toInt ≤ 16 ∧ ∀ j : Nat, (j : Int) < z.toInt → lo ≤ (f j).toInt ∧ (f j).toInt ≤ hi
theorem rf_fr {f : Nat → Int32} {lo hi : Int} {n : Nat} : ∀ {i : Int32}, 0 ≤ i.toInt → i.toInt ≤ 16 → i.toInt + n < 2147483648 → ((0 ≤ (rfL f lo hi n i).toInt) ∨ (rfL f lo hi n i = -6 ∧ i.toInt + n ≤ 16 ∧ ∀ j : Nat, i.toInt ≤ (j : Int) → (j : Int) < i.toInt + n → lo ≤ (f j).toInt ∧ (f j).toInt ≤ hi)) := by
  induction n with
  | zero => intro i h0 h1 h2; exact Or.inr ⟨rfl, by omega, fun j h3 h4 => by omega⟩
  | succ n ih =>
    intro i h0 h1 h2
    have t1 : (1 : Int32).toInt = 1 := by decide
    have e := i_add (x := i) (y := 1) (by omega) (by omega)
    rw [rfL]
    by_cases h : i.toInt < 16 ∧ lo ≤ (f i.toNatClampNeg).toInt ∧ (f i.toNatClampNeg).toInt ≤ hi
    · rw [if_pos h]
      rcases ih (i := i + 1) (by omega) (by omega) (by omega) with h9 | ⟨h9, h8, h7⟩
      · exact Or.inl h9
      · refine Or.inr ⟨h9, by omega, fun j h3 h4 => ?_⟩
        by_cases hj : (j : Int) = i.toInt
        · have : i.toNatClampNeg = j := by show i.toInt.toNat = j; omega
          rw [← this]; exact h.2
        · exact h7 j (by omega) (by omega)
    · rw [if_neg h]; exact Or.inl h0
theorem FR_of {f : Nat → Int32} {lo hi : Int} {z r : Int32} (h : r = rfZ f lo hi z) (hz : 0 ≤ z.toInt ∧ z.toInt ≤ 30) (hn : r.toInt < 0) : FR f z lo hi := by
  have t0 : (0 : Int32).toInt = 0 := by decide
  rcases rf_fr (f := f) (lo := lo) (hi := hi) (n := z.toInt.toNat) (i := 0) (by omega) (by omega) (by omega) with h9 | ⟨_, h8, h7⟩
  · rw [h] at hn; exact absurd h9 (by unfold rfZ at hn; omega)
  · exact ⟨by omega, fun j hj => h7 j (by omega) (by omega)⟩
abbrev rm_X6_isFull : Room := { frames := 0, cells := 0, slots := 0, locals := 0 }
set_option maxHeartbeats 4000000 in
set_option maxRecDepth 100000 in
theorem c_X6_isFull (l : Launch) (D : va_G) (tys : List (ClassId × FieldType)) {cI cJ cZ cB : ClassId} (hT : Ty tys cI cJ cZ cB) (hp hs : Nat) (f : Nat → Int32) (z : Int32)  : Cn l D tys yX6_isFull cX6_isFull 1 (some .boolean) rm_X6_isFull [(hp, .inr (6, [.ref hs, .int z])), (hs, .inl (cI, 30, .inl f))] [.ref hp] (fun v W1 => ∃ (r : Int32), v = some (.int r) ∧ W1 = [(hp, .inr (6, [.ref hs, .int z])), (hs, .inl (cI, 30, .inl f))] ∧ (((r.toInt = 1 ∧ 30 ≤ z.toInt) ∨ (r.toInt = 0 ∧ ¬ (30 ≤ z.toInt))))) := by
  refine Cn.of (by decide) (Nat.le_of_ble_eq_true rfl) ?_ ?_ (fun X eL eD eT eO eK eN eM C => ?_)
  · intro _ v ws h; obtain ⟨_, rfl, rfl, h⟩ := h; exact z_of (by omega)
  · intro v ws h; obtain ⟨_, rfl, rfl, _⟩ := h; exact Or.inr rfl
  subst eL eD eT
  show V X 1 [(hp, .inr (6, [.ref hs, .int z])), (hs, .inl (cI, 30, .inl f))] [(0, .ref hp)] [] 0 0 0
  refine x_aload_n C 0 dX6_isFull_0 rfl rfl ?_
  refine x_get C 0 1 dX6_isFull_1 inlX6 rfl (by decide) wd_154 rfl rfl rfl ?_
  refine x_bipush C 30 dX6_isFull_4 (by decide) ?_
  refine x_icmp_lt C 13 dX6_isFull_6 (by decide) (fun c_6 => ?_) (fun c_6 => ?_)
  · skip
    have e_6 : (z : Int32).toInt < (30 : Int32).toInt := i_lt.mp c_6
    have : (30 : Int32).toInt = 30 := by decide
    refine x_iconst C 0 dX6_isFull_13 (by decide) ?_
    have : (0 : Int32).toInt = 0 := by decide
    exact x_iret C dX6_isFull_14 (Nat.zero_le _) (Nat.zero_le _) (by rw [eO]; exact ⟨0, rfl, rfl, (by omega)⟩)
  · skip
    have e_6 : ¬ ((z : Int32).toInt < (30 : Int32).toInt) := fun h => c_6 (i_lt.mpr h)
    have : (30 : Int32).toInt = 30 := by decide
    refine x_iconst C 1 dX6_isFull_9 (by decide) ?_
    refine x_goto C 14 dX6_isFull_10 (by decide) ?_
    have : (1 : Int32).toInt = 1 := by decide
    exact x_iret C dX6_isFull_14 (Nat.zero_le _) (Nat.zero_le _) (by rw [eO]; exact ⟨1, rfl, rfl, (by omega)⟩)
abbrev rm_X6_add : Room := { frames := 1, cells := 0, slots := 0, locals := 20 }
set_option maxHeartbeats 4000000 in
set_option maxRecDepth 100000 in
theorem c_X6_add (l : Launch) (D : va_G) (tys : List (ClassId × FieldType)) {cI cJ cZ cB : ClassId} (hT : Ty tys cI cJ cZ cB) (hp hs : Nat) (f : Nat → Int32) (z : Int32) (x : Int32) (hz : 0 ≤ z.toInt ∧ z.toInt < 30) : Cn l D tys yX6_add cX6_add 2 (some .int) rm_X6_add [(hp, .inr (6, [.ref hs, .int z])), (hs, .inl (cI, 30, .inl f))] [.ref hp, .int x] (fun v W1 => ∃ (_ : Unit), v = some (.int (z + 1)) ∧ W1 = [(hp, .inr (6, [.ref hs, .int (z + 1)])), (hs, .inl (cI, 30, .inl (upd f (Int32.toNatClampNeg z) x)))] ∧ (True)) := by
  refine Cn.of (by decide) (Nat.le_of_ble_eq_true rfl) ?_ ?_ (fun X eL eD eT eO eK eN eM C => ?_)
  · intro h; cases h
  · intro v ws h; obtain ⟨_, rfl, rfl, _⟩ := h; exact Or.inl rfl
  subst eL eD eT
  show V X 2 [(hp, .inr (6, [.ref hs, .int z])), (hs, .inl (cI, 30, .inl f))] [(0, .ref hp), (1, .int x)] [] 0 0 0
  refine x_aload_n C 0 dX6_add_0 rfl rfl ?_
  refine x_callV C [] [] [0, 1] [] (q0 := 0) (c_X6_isFull (xl X) (xD X) (xt X) hT hp hs f z ) dX6_add_1 wd_159 wd_151 wd_152 wd_14 wd_153 (np := 0) ⟨by decide, by decide, by decide +kernel⟩ rfl rfl (Nat.le_of_ble_eq_true rfl) (by decide) rfl rfl rfl rfl (by decide) rfl (by decide) (by decide) (fun v W1 h => ?_)
  obtain ⟨r_1, rfl, rfl, h_1⟩ := h
  show V X 2 [(hp, .inr (6, [.ref hs, .int z])), (hs, .inl (cI, 30, .inl f))] [(0, .ref hp), (1, .int x)] [.int r_1] 4 0 0
  refine x_if_ne C 27 dX6_add_4 (by decide) (fun c_4 => ?_) (fun c_4 => ?_)
  · skip
    have e_4 : ¬ ((r_1 : Int32).toInt = (0 : Int32).toInt) := fun h => c_4 (i_eq.mpr h)
    have : (0 : Int32).toInt = 0 := by decide
    exfalso
    omega
  · skip
    have e_4 : (r_1 : Int32).toInt = (0 : Int32).toInt := i_eq.mp c_4
    have : (0 : Int32).toInt = 0 := by decide
    refine x_aload_n C 0 dX6_add_7 rfl rfl ?_
    refine x_get C 0 0 dX6_add_8 inlX6 rfl (by decide) wd_50 rfl rfl rfl ?_
    refine x_aload_n C 0 dX6_add_11 rfl rfl ?_
    refine x_get C 0 1 dX6_add_12 inlX6 rfl (by decide) wd_154 rfl rfl rfl ?_
    refine x_iload_n C 1 dX6_add_15 rfl rfl ?_
    have v_16 : vp_in z 30 := (vp_in_iff.mpr (by omega))
    refine x_iast C 1 0 [(hp, .inr (6, [.ref hs, .int z])), (hs, .inl (cI, 30, .inl (upd f (Int32.toNatClampNeg z) x)))] dX6_add_16 hT.1 rfl v_16 rfl ?_
    refine x_aload_n C 0 dX6_add_17 rfl rfl ?_
    refine x_dup C dX6_add_18 rfl ?_
    refine x_get C 0 1 dX6_add_19 inlX6 rfl (by decide) wd_154 rfl rfl rfl ?_
    refine x_iconst C 1 dX6_add_22 (by decide) ?_
    refine x_iadd C dX6_add_23 ?_
    refine x_put C 0 1 (ty := .int) [(hp, .inr (6, [.ref hs, .int (z + 1)])), (hs, .inl (cI, 30, .inl (upd f (Int32.toNatClampNeg z) x)))] dX6_add_24 inlX6 tyX6 tyX6_ok nmX6 rfl (by decide) wd_154 rfl rfl rfl rfl rfl rfl (Nat.le_of_ble_eq_true rfl) rfl ?_
    refine x_aload_n C 0 dX6_add_27 rfl rfl ?_
    refine x_get C 0 1 dX6_add_28 inlX6 rfl (by decide) wd_154 rfl rfl rfl ?_
    exact x_iret C dX6_add_31 (Nat.zero_le _) (Nat.zero_le _) (by rw [eO]; exact ⟨(), rfl, rfl, trivial⟩)
abbrev rm_X6_clear : Room := { frames := 0, cells := 0, slots := 0, locals := 0 }
set_option maxHeartbeats 4000000 in
set_option maxRecDepth 100000 in
theorem c_X6_clear (l : Launch) (D : va_G) (tys : List (ClassId × FieldType)) {cI cJ cZ cB : ClassId} (hT : Ty tys cI cJ cZ cB) (hp hs : Nat) (f : Nat → Int32) (z : Int32)  : Cn l D tys yX6_clear cX6_clear 2 (some .int) rm_X6_clear [(hp, .inr (6, [.ref hs, .int z])), (hs, .inl (cI, 30, .inl f))] [.ref hp] (fun v W1 => ∃ (_ : Unit), v = some (.int z) ∧ W1 = [(hp, .inr (6, [.ref hs, .int 0])), (hs, .inl (cI, 30, .inl f))] ∧ (True)) := by
  refine Cn.of (by decide) (Nat.le_of_ble_eq_true rfl) ?_ ?_ (fun X eL eD eT eO eK eN eM C => ?_)
  · intro h; cases h
  · intro v ws h; obtain ⟨_, rfl, rfl, _⟩ := h; exact Or.inl rfl
  subst eL eD eT
  show V X 2 [(hp, .inr (6, [.ref hs, .int z])), (hs, .inl (cI, 30, .inl f))] [(0, .ref hp)] [] 0 0 0
  refine x_aload_n C 0 dX6_clear_0 rfl rfl ?_
  refine x_get C 0 1 dX6_clear_1 inlX6 rfl (by decide) wd_154 rfl rfl rfl ?_
  refine x_istore_n C [(1, .int z), (0, .ref hp)] dX6_clear_4 rfl (by decide) rfl ?_
  refine x_aload_n C 1 dX6_clear_5 rfl rfl ?_
  refine x_iconst C 0 dX6_clear_6 (by decide) ?_
  refine x_put C 0 1 (ty := .int) [(hp, .inr (6, [.ref hs, .int 0])), (hs, .inl (cI, 30, .inl f))] dX6_clear_7 inlX6 tyX6 tyX6_ok nmX6 rfl (by decide) wd_154 rfl rfl rfl rfl rfl rfl (Nat.le_of_ble_eq_true rfl) rfl ?_
  refine x_iload_n C 0 dX6_clear_10 rfl rfl ?_
  exact x_iret C dX6_clear_11 (Nat.zero_le _) (Nat.zero_le _) (by rw [eO]; exact ⟨(), rfl, rfl, trivial⟩)
abbrev rm_X6_signAt : Room := { frames := 1, cells := 0, slots := 0, locals := 22 }
set_option maxHeartbeats 4000000 in
set_option maxRecDepth 100000 in
theorem c_X6_signAt (l : Launch) (D : va_G) (tys : List (ClassId × FieldType)) {cI cJ cZ cB : ClassId} (hT : Ty tys cI cJ cZ cB) (hp hs : Nat) (f : Nat → Int32) (z : Int32) (a : Int32) (hz : 0 ≤ z.toInt ∧ z.toInt ≤ 30) : Cn l D tys yX6_signAt cX6_signAt 2 (some .int) rm_X6_signAt [(hp, .inr (6, [.ref hs, .int z])), (hs, .inl (cI, 30, .inl f))] [.ref hp, .int a] (fun v W1 => ∃ (r : Int32), v = some (.int r) ∧ W1 = [(hp, .inr (6, [.ref hs, .int z])), (hs, .inl (cI, 30, .inl f))] ∧ ((0 ≤ a.toInt ∧ a.toInt < z.toInt → r = f a.toNatClampNeg) ∧ (¬ (0 ≤ a.toInt ∧ a.toInt < z.toInt) → r = 0))) := by
  refine Cn.of (by decide) (Nat.le_of_ble_eq_true rfl) ?_ ?_ (fun X eL eD eT eO eK eN eM C => ?_)
  · intro h; cases h
  · intro v ws h; obtain ⟨_, rfl, rfl, _⟩ := h; exact Or.inl rfl
  subst eL eD eT
  show V X 2 [(hp, .inr (6, [.ref hs, .int z])), (hs, .inl (cI, 30, .inl f))] [(0, .ref hp), (1, .int a)] [] 0 0 0
  refine x_iload_n C 1 dX6_signAt_0 rfl rfl ?_
  refine x_iconst C 0 dX6_signAt_1 (by decide) ?_
  refine x_aload_n C 0 dX6_signAt_2 rfl rfl ?_
  refine x_get C 0 1 dX6_signAt_3 inlX6 rfl (by decide) wd_154 rfl rfl rfl ?_
  refine x_iconst C 1 dX6_signAt_6 (by decide) ?_
  refine x_isub C dX6_signAt_7 ?_
  refine x_callSN C [.int a, .int 0, .int (z - 1)] [(hp, .inr (6, [.ref hs, .int z])), (hs, .inl (cI, 30, .inl f))] [] [0, 1] (c_X9_isIn (xl X) (xD X) (xt X) hT a 0 (z - 1) ) dX6_signAt_8 nt_41 wd_187 wd_2 wd_188 (np := 3) ⟨by decide, by decide, by decide +kernel⟩ rfl rfl (Nat.le_of_ble_eq_true rfl) (by decide) rfl (by decide) rfl (by decide) (by decide) (fun v W1 h => ?_)
  obtain ⟨r_8, rfl, rfl, h_8⟩ := h
  have : (0 : Int32).toInt = 0 := by decide
  have : (1 : Int32).toInt = 1 := by decide
  have := i_sub (x := z) (y := 1) (by omega) (by omega)
  show V X 2 [(hp, .inr (6, [.ref hs, .int z])), (hs, .inl (cI, 30, .inl f))] [(0, .ref hp), (1, .int a)] [.int r_8] 11 0 0
  refine x_if_eq C 23 dX6_signAt_11 (by decide) (fun c_11 => ?_) (fun c_11 => ?_)
  · skip
    have e_11 : (r_8 : Int32).toInt = (0 : Int32).toInt := i_eq.mp c_11
    have : (0 : Int32).toInt = 0 := by decide
    refine x_iconst C 0 dX6_signAt_23 (by decide) ?_
    have : (0 : Int32).toInt = 0 := by decide
    exact x_iret C dX6_signAt_24 (Nat.zero_le _) (Nat.zero_le _) (by rw [eO]; exact ⟨0, rfl, rfl, (by constructor <;> intro h <;> first | rfl | (exfalso; omega))⟩)
  · skip
    have e_11 : ¬ ((r_8 : Int32).toInt = (0 : Int32).toInt) := fun h => c_11 (i_eq.mpr h)
    have : (0 : Int32).toInt = 0 := by decide
    refine x_aload_n C 0 dX6_signAt_14 rfl rfl ?_
    refine x_get C 0 0 dX6_signAt_15 inlX6 rfl (by decide) wd_50 rfl rfl rfl ?_
    refine x_iload_n C 1 dX6_signAt_18 rfl rfl ?_
    have v_19 : vp_in a 30 := (vp_in_iff.mpr (by omega))
    refine x_iald C 1 0 dX6_signAt_19 hT.1 rfl v_19 ?_
    refine x_goto C 24 dX6_signAt_20 (by decide) ?_
    exact x_iret C dX6_signAt_24 (Nat.zero_le _) (Nat.zero_le _) (by rw [eO]; exact ⟨(f (Int32.toNatClampNeg a)), rfl, rfl, (by constructor <;> intro h <;> first | rfl | (exfalso; omega))⟩)
abbrev rm_X6_storyFault : Room := { frames := 1, cells := 0, slots := 0, locals := 22 }
set_option maxHeartbeats 4000000 in
set_option maxRecDepth 100000 in
theorem c_X6_storyFault (l : Launch) (D : va_G) (tys : List (ClassId × FieldType)) {cI cJ cZ cB : ClassId} (hT : Ty tys cI cJ cZ cB) (hp hs : Nat) (f : Nat → Int32) (z : Int32) (hz : 0 ≤ z.toInt ∧ z.toInt ≤ 30) : Cn l D tys yX6_storyFault cX6_storyFault 5 (some .int) rm_X6_storyFault [(hp, .inr (6, [.ref hs, .int z])), (hs, .inl (cI, 30, .inl f))] [.ref hp] (fun v W1 => ∃ (r : Int32), v = some (.int r) ∧ W1 = [(hp, .inr (6, [.ref hs, .int z])), (hs, .inl (cI, 30, .inl f))] ∧ (r = sfZ f z)) := by
  refine Cn.of (by decide) (Nat.le_of_ble_eq_true rfl) ?_ ?_ (fun X eL eD eT eO eK eN eM C => ?_)
  · intro h; cases h
  · intro v ws h; obtain ⟨_, rfl, rfl, _⟩ := h; exact Or.inl rfl
  subst eL eD eT
  show V X 5 [(hp, .inr (6, [.ref hs, .int z])), (hs, .inl (cI, 30, .inl f))] [(0, .ref hp)] [] 0 0 0
  refine x_iconst C 0 dX6_storyFault_0 (by decide) ?_
  refine x_istore_n C [(1, .int 0), (0, .ref hp)] dX6_storyFault_1 rfl (by decide) rfl ?_
  refine x_iconst C 1 dX6_storyFault_2 (by decide) ?_
  refine x_istore_n C [(2, .int 1), (1, .int 0), (0, .ref hp)] dX6_storyFault_3 rfl (by decide) rfl ?_
  refine x_iconst C 0 dX6_storyFault_4 (by decide) ?_
  refine x_istore_n C [(3, .int 0), (2, .int 1), (1, .int 0), (0, .ref hp)] dX6_storyFault_5 rfl (by decide) rfl ?_
  have L_6 : ∀ (n_6 : Nat) (x3_6 : Int32) (x2_6 : Int32) (x1_6 : Int32), ((0 ≤ x3_6.toInt ∧ x3_6.toInt ≤ z.toInt ∧ 0 ≤ x1_6.toInt ∧ x1_6.toInt ≤ x3_6.toInt) ∧ sf f (z.toInt - x3_6.toInt).toNat x3_6 x1_6 x2_6 = sfZ f z) → ((z.toInt - x3_6.toInt).toNat < n_6) → V X 5 [(hp, .inr (6, [.ref hs, .int z])), (hs, .inl (cI, 30, .inl f))] [(3, .int x3_6), (2, .int x2_6), (1, .int x1_6), (0, .ref hp)] [] 6 0 0 := by
    intro n_6
    induction n_6 with
    | zero =>
      intro x3_6 x2_6 x1_6 i_6 m_6
      exact absurd m_6 (Nat.not_lt_zero _)
    | succ n_6 ih_6 =>
      intro x3_6 x2_6 x1_6 i_6 m_6
      refine x_iload_n C 0 dX6_storyFault_6 rfl rfl ?_
      refine x_aload_n C 3 dX6_storyFault_7 rfl rfl ?_
      refine x_get C 0 1 dX6_storyFault_8 inlX6 rfl (by decide) wd_154 rfl rfl rfl ?_
      refine x_icmp_ge C 76 dX6_storyFault_11 (by decide) (fun c_11 => ?_) (fun c_11 => ?_)
      · skip
        have e_11 : (z : Int32).toInt ≤ (x3_6 : Int32).toInt := i_le.mp c_11
        refine x_iload_n C 1 dX6_storyFault_76 rfl rfl ?_
        refine x_if_eq C 87 dX6_storyFault_77 (by decide) (fun c_77 => ?_) (fun c_77 => ?_)
        · skip
          have e_77 : (x2_6 : Int32).toInt = (0 : Int32).toInt := i_eq.mp c_77
          have : (0 : Int32).toInt = 0 := by decide
          refine x_bipush C (-6) dX6_storyFault_87 (by decide) ?_
          have : ((-6) : Int32).toInt = -6 := by decide
          exact x_iret C dX6_storyFault_89 (Nat.zero_le _) (Nat.zero_le _) (by rw [eO]; exact ⟨((-6)), rfl, rfl, (by have h9 := (sf_end (f := f) (z := z) (i := x3_6) (p := x1_6) (d := x2_6) (by omega)).symm.trans i_6.2; first | (rw [if_pos (by assumption)] at h9; exact h9) | (rw [if_neg (by assumption)] at h9; rw [← h9]; exact i_eq.mpr (by omega)))⟩)
        · skip
          have e_77 : ¬ ((x2_6 : Int32).toInt = (0 : Int32).toInt) := fun h => c_77 (i_eq.mpr h)
          have : (0 : Int32).toInt = 0 := by decide
          refine x_aload_n C 3 dX6_storyFault_80 rfl rfl ?_
          refine x_get C 0 1 dX6_storyFault_81 inlX6 rfl (by decide) wd_154 rfl rfl rfl ?_
          refine x_goto C 89 dX6_storyFault_84 (by decide) ?_
          exact x_iret C dX6_storyFault_89 (Nat.zero_le _) (Nat.zero_le _) (by rw [eO]; exact ⟨z, rfl, rfl, (by have h9 := (sf_end (f := f) (z := z) (i := x3_6) (p := x1_6) (d := x2_6) (by omega)).symm.trans i_6.2; first | (rw [if_pos (by assumption)] at h9; exact h9) | (rw [if_neg (by assumption)] at h9; rw [← h9]; exact i_eq.mpr (by omega)))⟩)
      · skip
        have e_11 : ¬ ((z : Int32).toInt ≤ (x3_6 : Int32).toInt) := fun h => c_11 (i_le.mpr h)
        refine x_aload_n C 3 dX6_storyFault_14 rfl rfl ?_
        refine x_get C 0 0 dX6_storyFault_15 inlX6 rfl (by decide) wd_50 rfl rfl rfl ?_
        refine x_iload_n C 0 dX6_storyFault_18 rfl rfl ?_
        have v_19 : vp_in x3_6 30 := (vp_in_iff.mpr (by omega))
        refine x_iald C 1 0 dX6_storyFault_19 hT.1 rfl v_19 ?_
        refine x_istore C [(4, .int (f (Int32.toNatClampNeg x3_6))), (3, .int x3_6), (2, .int x2_6), (1, .int x1_6), (0, .ref hp)] dX6_storyFault_20 (by decide) rfl ?_
        refine x_iload C 0 dX6_storyFault_22 rfl ?_
        refine x_bipush C 49 dX6_storyFault_24 (by decide) ?_
        refine x_bipush C 57 dX6_storyFault_26 (by decide) ?_
        refine x_callSN C [.int (f (Int32.toNatClampNeg x3_6)), .int 49, .int 57] [(hp, .inr (6, [.ref hs, .int z])), (hs, .inl (cI, 30, .inl f))] [] [0, 1] (c_X9_isIn (xl X) (xD X) (xt X) hT (f (Int32.toNatClampNeg x3_6)) 49 57 ) dX6_storyFault_28 nt_41 wd_187 wd_2 wd_188 (np := 3) ⟨by decide, by decide, by decide +kernel⟩ rfl rfl (Nat.le_of_ble_eq_true rfl) (by decide) rfl (by decide) rfl (by decide) (by decide) (fun v W1 h => ?_)
        obtain ⟨r_28, rfl, rfl, h_28⟩ := h
        have : (49 : Int32).toInt = 49 := by decide
        have : (57 : Int32).toInt = 57 := by decide
        show V X 5 [(hp, .inr (6, [.ref hs, .int z])), (hs, .inl (cI, 30, .inl f))] [(4, .int (f (Int32.toNatClampNeg x3_6))), (3, .int x3_6), (2, .int x2_6), (1, .int x1_6), (0, .ref hp)] [.int r_28] 31 0 0
        refine x_if_eq C 47 dX6_storyFault_31 (by decide) (fun c_31 => ?_) (fun c_31 => ?_)
        · skip
          have e_31 : (r_28 : Int32).toInt = (0 : Int32).toInt := i_eq.mp c_31
          have : (0 : Int32).toInt = 0 := by decide
          refine x_iload C 0 dX6_storyFault_47 rfl ?_
          refine x_bipush C 58 dX6_storyFault_49 (by decide) ?_
          refine x_icmp_ne C 68 dX6_storyFault_51 (by decide) (fun c_51 => ?_) (fun c_51 => ?_)
          · skip
            have e_51 : ¬ ((f (Int32.toNatClampNeg x3_6) : Int32).toInt = (58 : Int32).toInt) := fun h => c_51 (i_eq.mpr h)
            have : (58 : Int32).toInt = 58 := by decide
            refine x_iload_n C 1 dX6_storyFault_68 rfl rfl ?_
            exact x_iret C dX6_storyFault_69 (Nat.zero_le _) (Nat.zero_le _) (by rw [eO]; exact ⟨x3_6, rfl, rfl, ((sf_bad (by omega) (by omega) (by omega) (by intro h; obtain ⟨h1, h2, h3⟩ := h; first | exact absurd h1 (by assumption) | exact absurd h2 (by assumption) | omega)).symm.trans i_6.2)⟩)
          · skip
            have e_51 : (f (Int32.toNatClampNeg x3_6) : Int32).toInt = (58 : Int32).toInt := i_eq.mp c_51
            have : (58 : Int32).toInt = 58 := by decide
            refine x_iload_n C 2 dX6_storyFault_54 rfl rfl ?_
            refine x_if_ne C 68 dX6_storyFault_55 (by decide) (fun c_55 => ?_) (fun c_55 => ?_)
            · skip
              have e_55 : ¬ ((x2_6 : Int32).toInt = (0 : Int32).toInt) := fun h => c_55 (i_eq.mpr h)
              have : (0 : Int32).toInt = 0 := by decide
              refine x_iload_n C 1 dX6_storyFault_68 rfl rfl ?_
              exact x_iret C dX6_storyFault_69 (Nat.zero_le _) (Nat.zero_le _) (by rw [eO]; exact ⟨x3_6, rfl, rfl, ((sf_bad (by omega) (by omega) (by omega) (by intro h; obtain ⟨h1, h2, h3⟩ := h; first | exact absurd h1 (by assumption) | exact absurd h2 (by assumption) | omega)).symm.trans i_6.2)⟩)
            · skip
              have e_55 : (x2_6 : Int32).toInt = (0 : Int32).toInt := i_eq.mp c_55
              have : (0 : Int32).toInt = 0 := by decide
              refine x_iload_n C 3 dX6_storyFault_58 rfl rfl ?_
              refine x_iconst C 4 dX6_storyFault_59 (by decide) ?_
              refine x_icmp_ge C 68 dX6_storyFault_60 (by decide) (fun c_60 => ?_) (fun c_60 => ?_)
              · skip
                have e_60 : (4 : Int32).toInt ≤ (x1_6 : Int32).toInt := i_le.mp c_60
                have : (4 : Int32).toInt = 4 := by decide
                refine x_iload_n C 1 dX6_storyFault_68 rfl rfl ?_
                exact x_iret C dX6_storyFault_69 (Nat.zero_le _) (Nat.zero_le _) (by rw [eO]; exact ⟨x3_6, rfl, rfl, ((sf_bad (by omega) (by omega) (by omega) (by intro h; obtain ⟨h1, h2, h3⟩ := h; first | exact absurd h1 (by assumption) | exact absurd h2 (by assumption) | omega)).symm.trans i_6.2)⟩)
              · skip
                have e_60 : ¬ ((4 : Int32).toInt ≤ (x1_6 : Int32).toInt) := fun h => c_60 (i_le.mpr h)
                have : (4 : Int32).toInt = 4 := by decide
                refine x_iconst C 1 dX6_storyFault_63 (by decide) ?_
                refine x_istore_n C [(2, .int 1), (4, .int (f (Int32.toNatClampNeg x3_6))), (3, .int x3_6), (1, .int x1_6), (0, .ref hp)] dX6_storyFault_64 rfl (by decide) rfl ?_
                refine x_goto C 70 dX6_storyFault_65 (by decide) ?_
                refine x_iinc C 2 (x3_6 + 1) [(3, .int (x3_6 + 1)), (2, .int 1), (4, .int (f (Int32.toNatClampNeg x3_6))), (1, .int x1_6), (0, .ref hp)] dX6_storyFault_70 rfl rfl (by decide) rfl ?_
                refine x_goto C 6 dX6_storyFault_73 (by decide) ?_
                refine x_lv [(3, .int (x3_6 + 1)), (2, .int 1), (1, .int x1_6), (0, .ref hp)] [0, 1, 3, 4] rfl ?_
                have : (1 : Int32).toInt = 1 := by decide
                have := i_add (x := x3_6) (y := 1) (by omega) (by omega)
                have : (1 : Int32).toInt = 1 := by decide
                exact ih_6 (x3_6 + 1) 1 x1_6 ⟨by omega, (sf_col (by omega) (by omega) (by assumption) (by assumption) (by omega)).symm.trans i_6.2⟩ (by omega)
        · skip
          have e_31 : ¬ ((r_28 : Int32).toInt = (0 : Int32).toInt) := fun h => c_31 (i_eq.mpr h)
          have : (0 : Int32).toInt = 0 := by decide
          refine x_iload_n C 3 dX6_storyFault_34 rfl rfl ?_
          refine x_iconst C 4 dX6_storyFault_35 (by decide) ?_
          refine x_icmp_ge C 47 dX6_storyFault_36 (by decide) (fun c_36 => ?_) (fun c_36 => ?_)
          · skip
            have e_36 : (4 : Int32).toInt ≤ (x1_6 : Int32).toInt := i_le.mp c_36
            have : (4 : Int32).toInt = 4 := by decide
            refine x_iload C 0 dX6_storyFault_47 rfl ?_
            refine x_bipush C 58 dX6_storyFault_49 (by decide) ?_
            refine x_icmp_ne C 68 dX6_storyFault_51 (by decide) (fun c_51 => ?_) (fun c_51 => ?_)
            · skip
              have e_51 : ¬ ((f (Int32.toNatClampNeg x3_6) : Int32).toInt = (58 : Int32).toInt) := fun h => c_51 (i_eq.mpr h)
              have : (58 : Int32).toInt = 58 := by decide
              refine x_iload_n C 1 dX6_storyFault_68 rfl rfl ?_
              exact x_iret C dX6_storyFault_69 (Nat.zero_le _) (Nat.zero_le _) (by rw [eO]; exact ⟨x3_6, rfl, rfl, ((sf_bad (by omega) (by omega) (by omega) (by intro h; obtain ⟨h1, h2, h3⟩ := h; first | exact absurd h1 (by assumption) | exact absurd h2 (by assumption) | omega)).symm.trans i_6.2)⟩)
            · skip
              have e_51 : (f (Int32.toNatClampNeg x3_6) : Int32).toInt = (58 : Int32).toInt := i_eq.mp c_51
              have : (58 : Int32).toInt = 58 := by decide
              refine x_iload_n C 2 dX6_storyFault_54 rfl rfl ?_
              refine x_if_ne C 68 dX6_storyFault_55 (by decide) (fun c_55 => ?_) (fun c_55 => ?_)
              · skip
                have e_55 : ¬ ((x2_6 : Int32).toInt = (0 : Int32).toInt) := fun h => c_55 (i_eq.mpr h)
                have : (0 : Int32).toInt = 0 := by decide
                refine x_iload_n C 1 dX6_storyFault_68 rfl rfl ?_
                exact x_iret C dX6_storyFault_69 (Nat.zero_le _) (Nat.zero_le _) (by rw [eO]; exact ⟨x3_6, rfl, rfl, ((sf_bad (by omega) (by omega) (by omega) (by intro h; obtain ⟨h1, h2, h3⟩ := h; first | exact absurd h1 (by assumption) | exact absurd h2 (by assumption) | omega)).symm.trans i_6.2)⟩)
              · skip
                have e_55 : (x2_6 : Int32).toInt = (0 : Int32).toInt := i_eq.mp c_55
                have : (0 : Int32).toInt = 0 := by decide
                refine x_iload_n C 3 dX6_storyFault_58 rfl rfl ?_
                refine x_iconst C 4 dX6_storyFault_59 (by decide) ?_
                refine x_icmp_ge C 68 dX6_storyFault_60 (by decide) (fun c_60 => ?_) (fun c_60 => ?_)
                · skip
                  have e_60 : (4 : Int32).toInt ≤ (x1_6 : Int32).toInt := i_le.mp c_60
                  have : (4 : Int32).toInt = 4 := by decide
                  refine x_iload_n C 1 dX6_storyFault_68 rfl rfl ?_
                  exact x_iret C dX6_storyFault_69 (Nat.zero_le _) (Nat.zero_le _) (by rw [eO]; exact ⟨x3_6, rfl, rfl, ((sf_bad (by omega) (by omega) (by omega) (by intro h; obtain ⟨h1, h2, h3⟩ := h; first | exact absurd h1 (by assumption) | exact absurd h2 (by assumption) | omega)).symm.trans i_6.2)⟩)
                · skip
                  have e_60 : ¬ ((4 : Int32).toInt ≤ (x1_6 : Int32).toInt) := fun h => c_60 (i_le.mpr h)
                  have : (4 : Int32).toInt = 4 := by decide
                  refine x_iconst C 1 dX6_storyFault_63 (by decide) ?_
                  refine x_istore_n C [(2, .int 1), (4, .int (f (Int32.toNatClampNeg x3_6))), (3, .int x3_6), (1, .int x1_6), (0, .ref hp)] dX6_storyFault_64 rfl (by decide) rfl ?_
                  refine x_goto C 70 dX6_storyFault_65 (by decide) ?_
                  refine x_iinc C 2 (x3_6 + 1) [(3, .int (x3_6 + 1)), (2, .int 1), (4, .int (f (Int32.toNatClampNeg x3_6))), (1, .int x1_6), (0, .ref hp)] dX6_storyFault_70 rfl rfl (by decide) rfl ?_
                  refine x_goto C 6 dX6_storyFault_73 (by decide) ?_
                  refine x_lv [(3, .int (x3_6 + 1)), (2, .int 1), (1, .int x1_6), (0, .ref hp)] [0, 1, 3, 4] rfl ?_
                  have : (1 : Int32).toInt = 1 := by decide
                  have := i_add (x := x3_6) (y := 1) (by omega) (by omega)
                  have : (1 : Int32).toInt = 1 := by decide
                  exact ih_6 (x3_6 + 1) 1 x1_6 ⟨by omega, (sf_col (by omega) (by omega) (by assumption) (by assumption) (by omega)).symm.trans i_6.2⟩ (by omega)
          · skip
            have e_36 : ¬ ((4 : Int32).toInt ≤ (x1_6 : Int32).toInt) := fun h => c_36 (i_le.mpr h)
            have : (4 : Int32).toInt = 4 := by decide
            refine x_iinc C 3 (x1_6 + 1) [(1, .int (x1_6 + 1)), (4, .int (f (Int32.toNatClampNeg x3_6))), (3, .int x3_6), (2, .int x2_6), (0, .ref hp)] dX6_storyFault_39 rfl rfl (by decide) rfl ?_
            refine x_iconst C 0 dX6_storyFault_42 (by decide) ?_
            refine x_istore_n C [(2, .int 0), (1, .int (x1_6 + 1)), (4, .int (f (Int32.toNatClampNeg x3_6))), (3, .int x3_6), (0, .ref hp)] dX6_storyFault_43 rfl (by decide) rfl ?_
            refine x_goto C 70 dX6_storyFault_44 (by decide) ?_
            refine x_iinc C 3 (x3_6 + 1) [(3, .int (x3_6 + 1)), (2, .int 0), (1, .int (x1_6 + 1)), (4, .int (f (Int32.toNatClampNeg x3_6))), (0, .ref hp)] dX6_storyFault_70 rfl rfl (by decide) rfl ?_
            refine x_goto C 6 dX6_storyFault_73 (by decide) ?_
            refine x_lv [(3, .int (x3_6 + 1)), (2, .int 0), (1, .int (x1_6 + 1)), (0, .ref hp)] [0, 1, 2, 4] rfl ?_
            have : (1 : Int32).toInt = 1 := by decide
            have := i_add (x := x3_6) (y := 1) (by omega) (by omega)
            have : (0 : Int32).toInt = 0 := by decide
            have : (1 : Int32).toInt = 1 := by decide
            have := i_add (x := x1_6) (y := 1) (by omega) (by omega)
            exact ih_6 (x3_6 + 1) 0 (x1_6 + 1) ⟨by omega, (sf_dig (by omega) (by omega) (by omega) (by omega)).symm.trans i_6.2⟩ (by omega)
  have : (0 : Int32).toInt = 0 := by decide
  have : (1 : Int32).toInt = 1 := by decide
  have : (0 : Int32).toInt = 0 := by decide
  exact L_6 _ 0 1 0 ⟨by omega, by rw [show (0 : Int32).toInt = 0 from rfl, Int.sub_zero]; rfl⟩ (Nat.lt_succ_self _)
abbrev rm_X6_rowFault : Room := { frames := 1, cells := 0, slots := 0, locals := 22 }
set_option maxHeartbeats 4000000 in
set_option maxRecDepth 100000 in
theorem c_X6_rowFault (l : Launch) (D : va_G) (tys : List (ClassId × FieldType)) {cI cJ cZ cB : ClassId} (hT : Ty tys cI cJ cZ cB) (hp hs : Nat) (f : Nat → Int32) (z : Int32) (a b : Int32) (hz : 0 ≤ z.toInt ∧ z.toInt ≤ 30) : Cn l D tys yX6_rowFault cX6_rowFault 4 (some .int) rm_X6_rowFault [(hp, .inr (6, [.ref hs, .int z])), (hs, .inl (cI, 30, .inl f))] [.ref hp, .int a, .int b] (fun v W1 => ∃ (r : Int32), v = some (.int r) ∧ W1 = [(hp, .inr (6, [.ref hs, .int z])), (hs, .inl (cI, 30, .inl f))] ∧ (r = rfZ f a.toInt b.toInt z)) := by
  refine Cn.of (by decide) (Nat.le_of_ble_eq_true rfl) ?_ ?_ (fun X eL eD eT eO eK eN eM C => ?_)
  · intro h; cases h
  · intro v ws h; obtain ⟨_, rfl, rfl, _⟩ := h; exact Or.inl rfl
  subst eL eD eT
  show V X 4 [(hp, .inr (6, [.ref hs, .int z])), (hs, .inl (cI, 30, .inl f))] [(0, .ref hp), (1, .int a), (2, .int b)] [] 0 0 0
  refine x_iconst C 0 dX6_rowFault_0 (by decide) ?_
  refine x_istore_n C [(3, .int 0), (0, .ref hp), (1, .int a), (2, .int b)] dX6_rowFault_1 rfl (by decide) rfl ?_
  have L_2 : ∀ (n_2 : Nat) (x3_2 : Int32), ((0 ≤ x3_2.toInt ∧ x3_2.toInt ≤ z.toInt ∧ x3_2.toInt ≤ 16) ∧ rfL f a.toInt b.toInt (z.toInt - x3_2.toInt).toNat x3_2 = rfZ f a.toInt b.toInt z) → ((z.toInt - x3_2.toInt).toNat < n_2) → V X 4 [(hp, .inr (6, [.ref hs, .int z])), (hs, .inl (cI, 30, .inl f))] [(3, .int x3_2), (0, .ref hp), (1, .int a), (2, .int b)] [] 2 0 0 := by
    intro n_2
    induction n_2 with
    | zero =>
      intro x3_2 i_2 m_2
      exact absurd m_2 (Nat.not_lt_zero _)
    | succ n_2 ih_2 =>
      intro x3_2 i_2 m_2
      refine x_iload_n C 0 dX6_rowFault_2 rfl rfl ?_
      refine x_aload_n C 1 dX6_rowFault_3 rfl rfl ?_
      refine x_get C 0 1 dX6_rowFault_4 inlX6 rfl (by decide) wd_154 rfl rfl rfl ?_
      refine x_icmp_ge C 38 dX6_rowFault_7 (by decide) (fun c_7 => ?_) (fun c_7 => ?_)
      · skip
        have e_7 : (z : Int32).toInt ≤ (x3_2 : Int32).toInt := i_le.mp c_7
        refine x_bipush C (-6) dX6_rowFault_38 (by decide) ?_
        have : ((-6) : Int32).toInt = -6 := by decide
        exact x_iret C dX6_rowFault_40 (Nat.zero_le _) (Nat.zero_le _) (by rw [eO]; exact ⟨((-6)), rfl, rfl, ((rf_end (by omega)).symm.trans i_2.2)⟩)
      · skip
        have e_7 : ¬ ((z : Int32).toInt ≤ (x3_2 : Int32).toInt) := fun h => c_7 (i_le.mpr h)
        refine x_iload_n C 0 dX6_rowFault_10 rfl rfl ?_
        refine x_bipush C 16 dX6_rowFault_11 (by decide) ?_
        refine x_icmp_ge C 30 dX6_rowFault_13 (by decide) (fun c_13 => ?_) (fun c_13 => ?_)
        · skip
          have e_13 : (16 : Int32).toInt ≤ (x3_2 : Int32).toInt := i_le.mp c_13
          have : (16 : Int32).toInt = 16 := by decide
          refine x_iload_n C 0 dX6_rowFault_30 rfl rfl ?_
          exact x_iret C dX6_rowFault_31 (Nat.zero_le _) (Nat.zero_le _) (by rw [eO]; exact ⟨x3_2, rfl, rfl, ((rf_bad (by omega) (by omega) (by omega)).symm.trans i_2.2)⟩)
        · skip
          have e_13 : ¬ ((16 : Int32).toInt ≤ (x3_2 : Int32).toInt) := fun h => c_13 (i_le.mpr h)
          have : (16 : Int32).toInt = 16 := by decide
          refine x_aload_n C 1 dX6_rowFault_16 rfl rfl ?_
          refine x_get C 0 0 dX6_rowFault_17 inlX6 rfl (by decide) wd_50 rfl rfl rfl ?_
          refine x_iload_n C 0 dX6_rowFault_20 rfl rfl ?_
          have v_21 : vp_in x3_2 30 := (vp_in_iff.mpr (by omega))
          refine x_iald C 1 0 dX6_rowFault_21 hT.1 rfl v_21 ?_
          refine x_iload_n C 2 dX6_rowFault_22 rfl rfl ?_
          refine x_iload_n C 3 dX6_rowFault_23 rfl rfl ?_
          refine x_callSN C [.int (f (Int32.toNatClampNeg x3_2)), .int a, .int b] [(hp, .inr (6, [.ref hs, .int z])), (hs, .inl (cI, 30, .inl f))] [] [0, 1] (c_X9_isIn (xl X) (xD X) (xt X) hT (f (Int32.toNatClampNeg x3_2)) a b ) dX6_rowFault_24 nt_41 wd_187 wd_2 wd_188 (np := 3) ⟨by decide, by decide, by decide +kernel⟩ rfl rfl (Nat.le_of_ble_eq_true rfl) (by decide) rfl (by decide) rfl (by decide) (by decide) (fun v W1 h => ?_)
          obtain ⟨r_24, rfl, rfl, h_24⟩ := h
          show V X 4 [(hp, .inr (6, [.ref hs, .int z])), (hs, .inl (cI, 30, .inl f))] [(3, .int x3_2), (0, .ref hp), (1, .int a), (2, .int b)] [.int r_24] 27 0 0
          refine x_if_ne C 32 dX6_rowFault_27 (by decide) (fun c_27 => ?_) (fun c_27 => ?_)
          · skip
            have e_27 : ¬ ((r_24 : Int32).toInt = (0 : Int32).toInt) := fun h => c_27 (i_eq.mpr h)
            have : (0 : Int32).toInt = 0 := by decide
            refine x_iinc C 0 (x3_2 + 1) [(3, .int (x3_2 + 1)), (0, .ref hp), (1, .int a), (2, .int b)] dX6_rowFault_32 rfl rfl (by decide) rfl ?_
            refine x_goto C 2 dX6_rowFault_35 (by decide) ?_
            have : (1 : Int32).toInt = 1 := by decide
            have := i_add (x := x3_2) (y := 1) (by omega) (by omega)
            exact ih_2 (x3_2 + 1) ⟨by omega, (rf_go (by omega) (by omega) (by omega)).symm.trans i_2.2⟩ (by omega)
          · skip
            have e_27 : (r_24 : Int32).toInt = (0 : Int32).toInt := i_eq.mp c_27
            have : (0 : Int32).toInt = 0 := by decide
            refine x_iload_n C 0 dX6_rowFault_30 rfl rfl ?_
            exact x_iret C dX6_rowFault_31 (Nat.zero_le _) (Nat.zero_le _) (by rw [eO]; exact ⟨x3_2, rfl, rfl, ((rf_bad (by omega) (by omega) (by omega)).symm.trans i_2.2)⟩)
  have : (0 : Int32).toInt = 0 := by decide
  exact L_2 _ 0 ⟨by omega, by rw [show (0 : Int32).toInt = 0 from rfl, Int.sub_zero]; rfl⟩ (Nat.lt_succ_self _)
abbrev rm_X6_faultAs : Room := { frames := 2, cells := 0, slots := 0, locals := 46 }
set_option maxHeartbeats 4000000 in
set_option maxRecDepth 100000 in
theorem c_X6_faultAs (l : Launch) (D : va_G) (tys : List (ClassId × FieldType)) {cI cJ cZ cB : ClassId} (hT : Ty tys cI cJ cZ cB) (hp hs : Nat) (f : Nat → Int32) (z : Int32) (a : Int32) (hz : 0 ≤ z.toInt ∧ z.toInt ≤ 30) : Cn l D tys yX6_faultAs cX6_faultAs 2 (some .int) rm_X6_faultAs [(hp, .inr (6, [.ref hs, .int z])), (hs, .inl (cI, 30, .inl f))] [.ref hp, .int a] (fun v W1 => ∃ (r : Int32), v = some (.int r) ∧ W1 = [(hp, .inr (6, [.ref hs, .int z])), (hs, .inl (cI, 30, .inl f))] ∧ ((a.toInt = 0 → r = sfZ f z) ∧ (a.toInt = 1 → r = rfZ f 97 100 z) ∧ (¬ a.toInt = 0 → ¬ a.toInt = 1 → r = rfZ f 49 57 z))) := by
  refine Cn.of (by decide) (Nat.le_of_ble_eq_true rfl) ?_ ?_ (fun X eL eD eT eO eK eN eM C => ?_)
  · intro h; cases h
  · intro v ws h; obtain ⟨_, rfl, rfl, _⟩ := h; exact Or.inl rfl
  subst eL eD eT
  show V X 2 [(hp, .inr (6, [.ref hs, .int z])), (hs, .inl (cI, 30, .inl f))] [(0, .ref hp), (1, .int a)] [] 0 0 0
  refine x_iload_n C 1 dX6_faultAs_0 rfl rfl ?_
  refine x_if_ne C 9 dX6_faultAs_1 (by decide) (fun c_1 => ?_) (fun c_1 => ?_)
  · skip
    have e_1 : ¬ ((a : Int32).toInt = (0 : Int32).toInt) := fun h => c_1 (i_eq.mpr h)
    have : (0 : Int32).toInt = 0 := by decide
    refine x_iload_n C 1 dX6_faultAs_9 rfl rfl ?_
    refine x_iconst C 1 dX6_faultAs_10 (by decide) ?_
    refine x_icmp_ne C 25 dX6_faultAs_11 (by decide) (fun c_11 => ?_) (fun c_11 => ?_)
    · skip
      have e_11 : ¬ ((a : Int32).toInt = (1 : Int32).toInt) := fun h => c_11 (i_eq.mpr h)
      have : (1 : Int32).toInt = 1 := by decide
      refine x_aload_n C 0 dX6_faultAs_25 rfl rfl ?_
      refine x_bipush C 49 dX6_faultAs_26 (by decide) ?_
      refine x_bipush C 57 dX6_faultAs_28 (by decide) ?_
      refine x_callV C [.int 49, .int 57] [] [0, 1] [] (q0 := 0) (c_X6_rowFault (xl X) (xD X) (xt X) hT hp hs f z 49 57 (by omega)) dX6_faultAs_30 wd_197 wd_198 wd_199 wd_14 wd_200 (np := 2) ⟨by decide, by decide, by decide +kernel⟩ rfl rfl (Nat.le_of_ble_eq_true rfl) (by decide) rfl rfl rfl rfl (by decide) rfl (by decide) (by decide) (fun v W1 h => ?_)
      obtain ⟨r_30, rfl, rfl, h_30⟩ := h
      have : (49 : Int32).toInt = 49 := by decide
      have : (57 : Int32).toInt = 57 := by decide
      show V X 2 [(hp, .inr (6, [.ref hs, .int z])), (hs, .inl (cI, 30, .inl f))] [(0, .ref hp), (1, .int a)] [.int r_30] 33 0 0
      exact x_iret C dX6_faultAs_33 (Nat.zero_le _) (Nat.zero_le _) (by rw [eO]; exact ⟨r_30, rfl, rfl, (by refine ⟨fun h => ?_, fun h => ?_, fun h h2 => ?_⟩ <;> first | (exfalso; omega) | exact h_5 | exact h_19 | exact h_30)⟩)
    · skip
      have e_11 : (a : Int32).toInt = (1 : Int32).toInt := i_eq.mp c_11
      have : (1 : Int32).toInt = 1 := by decide
      refine x_aload_n C 0 dX6_faultAs_14 rfl rfl ?_
      refine x_bipush C 97 dX6_faultAs_15 (by decide) ?_
      refine x_bipush C 100 dX6_faultAs_17 (by decide) ?_
      refine x_callV C [.int 97, .int 100] [] [0, 1] [] (q0 := 0) (c_X6_rowFault (xl X) (xD X) (xt X) hT hp hs f z 97 100 (by omega)) dX6_faultAs_19 wd_197 wd_198 wd_199 wd_14 wd_200 (np := 2) ⟨by decide, by decide, by decide +kernel⟩ rfl rfl (Nat.le_of_ble_eq_true rfl) (by decide) rfl rfl rfl rfl (by decide) rfl (by decide) (by decide) (fun v W1 h => ?_)
      obtain ⟨r_19, rfl, rfl, h_19⟩ := h
      have : (100 : Int32).toInt = 100 := by decide
      have : (97 : Int32).toInt = 97 := by decide
      show V X 2 [(hp, .inr (6, [.ref hs, .int z])), (hs, .inl (cI, 30, .inl f))] [(0, .ref hp), (1, .int a)] [.int r_19] 22 0 0
      refine x_goto C 33 dX6_faultAs_22 (by decide) ?_
      exact x_iret C dX6_faultAs_33 (Nat.zero_le _) (Nat.zero_le _) (by rw [eO]; exact ⟨r_19, rfl, rfl, (by refine ⟨fun h => ?_, fun h => ?_, fun h h2 => ?_⟩ <;> first | (exfalso; omega) | exact h_5 | exact h_19 | exact h_30)⟩)
  · skip
    have e_1 : (a : Int32).toInt = (0 : Int32).toInt := i_eq.mp c_1
    have : (0 : Int32).toInt = 0 := by decide
    refine x_aload_n C 0 dX6_faultAs_4 rfl rfl ?_
    refine x_callV C [] [] [0, 1] [] (q0 := 0) (c_X6_storyFault (xl X) (xD X) (xt X) hT hp hs f z (by omega)) dX6_faultAs_5 wd_193 wd_194 wd_195 wd_14 wd_196 (np := 0) ⟨by decide, by decide, by decide +kernel⟩ rfl rfl (Nat.le_of_ble_eq_true rfl) (by decide) rfl rfl rfl rfl (by decide) rfl (by decide) (by decide) (fun v W1 h => ?_)
    obtain ⟨r_5, rfl, rfl, h_5⟩ := h
    show V X 2 [(hp, .inr (6, [.ref hs, .int z])), (hs, .inl (cI, 30, .inl f))] [(0, .ref hp), (1, .int a)] [.int r_5] 8 0 0
    exact x_iret C dX6_faultAs_8 (Nat.zero_le _) (Nat.zero_le _) (by rw [eO]; exact ⟨r_5, rfl, rfl, (by refine ⟨fun h => ?_, fun h => ?_, fun h h2 => ?_⟩ <;> first | (exfalso; omega) | exact h_5 | exact h_19 | exact h_30)⟩)
