abbrev rm_X10_in : Room := { frames := 0, cells := 0, slots := 0, locals := 0 }
set_option maxHeartbeats 4000000 in
set_option maxRecDepth 100000 in
theorem c_X10_in (l : Launch) (D : va_G) (tys : List (ClassId × FieldType)) {cI cJ cZ cB : ClassId} (hT : Ty tys cI cJ cZ cB) (a b c : Int64)  : Cn l D tys yX10_in cX10_in 6 (some .boolean) rm_X10_in [] [.long a, .long b, .long c] (fun v W1 => ∃ (r : Int32), v = some (.int r) ∧ W1 = [] ∧ (((r.toInt = 1 ∧ b.toInt ≤ a.toInt ∧ a.toInt ≤ c.toInt) ∨ (r.toInt = 0 ∧ ¬ (b.toInt ≤ a.toInt ∧ a.toInt ≤ c.toInt))))) := by
  refine Cn.of (by decide) (Nat.le_of_ble_eq_true rfl) ?_ ?_ (fun X eL eD eT eO eK eN eM C => ?_)
  · intro _ v ws h; obtain ⟨_, rfl, rfl, h⟩ := h; exact z_of (by omega)
  · intro v ws h; obtain ⟨_, rfl, rfl, _⟩ := h; exact Or.inr rfl
  subst eL eD eT
  show V X 6 [] [(0, .long a), (2, .long b), (4, .long c)] [] 0 0 0
  refine x_lload_n C 0 dX10_in_0 rfl rfl ?_
  refine x_lload_n C 1 dX10_in_1 rfl rfl ?_
  refine x_lcmp C dX10_in_2 ?_
  refine x_if_lt C 17 dX10_in_3 (by decide) (fun c_3 => ?_) (fun c_3 => ?_)
  · skip
    have e_3 : (a : Int64).toInt < (b : Int64).toInt := lc_lt.mp c_3
    refine x_iconst C 0 dX10_in_17 (by decide) ?_
    have : (0 : Int32).toInt = 0 := by decide
    exact x_iret C dX10_in_18 (Nat.zero_le _) (Nat.zero_le _) (by rw [eO]; exact ⟨0, rfl, rfl, (by omega)⟩)
  · skip
    have e_3 : ¬ ((a : Int64).toInt < (b : Int64).toInt) := fun h => c_3 (lc_lt.mpr h)
    refine x_lload_n C 0 dX10_in_6 rfl rfl ?_
    refine x_lload C 2 dX10_in_7 rfl ?_
    refine x_lcmp C dX10_in_9 ?_
    refine x_if_gt C 17 dX10_in_10 (by decide) (fun c_10 => ?_) (fun c_10 => ?_)
    · skip
      have e_10 : (a : Int64).toInt > (c : Int64).toInt := lc_gt.mp c_10
      refine x_iconst C 0 dX10_in_17 (by decide) ?_
      have : (0 : Int32).toInt = 0 := by decide
      exact x_iret C dX10_in_18 (Nat.zero_le _) (Nat.zero_le _) (by rw [eO]; exact ⟨0, rfl, rfl, (by omega)⟩)
    · skip
      have e_10 : ¬ ((a : Int64).toInt > (c : Int64).toInt) := fun h => c_10 (lc_gt.mpr h)
      refine x_iconst C 1 dX10_in_13 (by decide) ?_
      refine x_goto C 18 dX10_in_14 (by decide) ?_
      have : (1 : Int32).toInt = 1 := by decide
      exact x_iret C dX10_in_18 (Nat.zero_le _) (Nat.zero_le _) (by rw [eO]; exact ⟨1, rfl, rfl, (by omega)⟩)
abbrev rm_X10_isStory : Room := { frames := 1, cells := 0, slots := 0, locals := 25 }
set_option maxHeartbeats 4000000 in
set_option maxRecDepth 100000 in
theorem c_X10_isStory (l : Launch) (D : va_G) (tys : List (ClassId × FieldType)) {cI cJ cZ cB : ClassId} (hT : Ty tys cI cJ cZ cB) (a : Int32)  : Cn l D tys yX10_isStory cX10_isStory 1 (some .boolean) rm_X10_isStory [] [.int a] (fun v W1 => ∃ (r : Int32), v = some (.int r) ∧ W1 = [] ∧ (((r.toInt = 1 ∧ 0 ≤ a.toInt ∧ a.toInt ≤ 3) ∨ (r.toInt = 0 ∧ ¬ (0 ≤ a.toInt ∧ a.toInt ≤ 3))))) := by
  refine Cn.of (by decide) (Nat.le_of_ble_eq_true rfl) ?_ ?_ (fun X eL eD eT eO eK eN eM C => ?_)
  · intro _ v ws h; obtain ⟨_, rfl, rfl, h⟩ := h; exact z_of (by omega)
  · intro v ws h; obtain ⟨_, rfl, rfl, _⟩ := h; exact Or.inr rfl
  subst eL eD eT
  show V X 1 [] [(0, .int a)] [] 0 0 0
  refine x_iload_n C 0 dX10_isStory_0 rfl rfl ?_
  refine x_i2l C dX10_isStory_1 ?_
  refine x_lconst C 0 dX10_isStory_2 (by decide) ?_
  refine x_ldc2 C dX10_isStory_3 wd_264 ?_
  refine x_callS C [.long (Int32.toInt64 a), .long 0, .long 3] [] [] [] (c_X10_in (xl X) (xD X) (xt X) hT (Int32.toInt64 a) 0 3 ) dX10_isStory_6 wd_167 wd_168 wd_5 wd_169 (np := 3) ⟨by decide, by decide, by decide +kernel⟩ rfl rfl (Nat.le_of_ble_eq_true rfl) (by decide) rfl (by decide) rfl (by decide) (by decide) (fun v W1 h => ?_)
  obtain ⟨r_6, rfl, rfl, h_6⟩ := h
  have : (Int32.toInt64 a : Int64).toInt = (a : Int32).toInt := Int32.toInt_toInt64 _
  have : (0 : Int64).toInt = 0 := by decide
  have : (3 : Int64).toInt = 3 := by decide
  show V X 1 [] [(0, .int a)] [.int r_6] 9 0 0
  exact x_iret C dX10_isStory_9 (Nat.zero_le _) (Nat.zero_le _) (by rw [eO]; exact ⟨r_6, rfl, rfl, (by omega)⟩)
abbrev rm_X10_isSet : Room := { frames := 1, cells := 0, slots := 0, locals := 25 }
set_option maxHeartbeats 4000000 in
set_option maxRecDepth 100000 in
theorem c_X10_isSet (l : Launch) (D : va_G) (tys : List (ClassId × FieldType)) {cI cJ cZ cB : ClassId} (hT : Ty tys cI cJ cZ cB) (a : Int32)  : Cn l D tys yX10_isSet cX10_isSet 1 (some .boolean) rm_X10_isSet [] [.int a] (fun v W1 => ∃ (r : Int32), v = some (.int r) ∧ W1 = [] ∧ (((r.toInt = 1 ∧ 1 ≤ a.toInt ∧ a.toInt ≤ 15) ∨ (r.toInt = 0 ∧ ¬ (1 ≤ a.toInt ∧ a.toInt ≤ 15))))) := by
  refine Cn.of (by decide) (Nat.le_of_ble_eq_true rfl) ?_ ?_ (fun X eL eD eT eO eK eN eM C => ?_)
  · intro _ v ws h; obtain ⟨_, rfl, rfl, h⟩ := h; exact z_of (by omega)
  · intro v ws h; obtain ⟨_, rfl, rfl, _⟩ := h; exact Or.inr rfl
  subst eL eD eT
  show V X 1 [] [(0, .int a)] [] 0 0 0
  refine x_iload_n C 0 dX10_isSet_0 rfl rfl ?_
  refine x_i2l C dX10_isSet_1 ?_
  refine x_lconst C 1 dX10_isSet_2 (by decide) ?_
  refine x_ldc2 C dX10_isSet_3 wd_311 ?_
  refine x_callS C [.long (Int32.toInt64 a), .long 1, .long 15] [] [] [] (c_X10_in (xl X) (xD X) (xt X) hT (Int32.toInt64 a) 1 15 ) dX10_isSet_6 wd_167 wd_168 wd_5 wd_169 (np := 3) ⟨by decide, by decide, by decide +kernel⟩ rfl rfl (Nat.le_of_ble_eq_true rfl) (by decide) rfl (by decide) rfl (by decide) (by decide) (fun v W1 h => ?_)
  obtain ⟨r_6, rfl, rfl, h_6⟩ := h
  have : (Int32.toInt64 a : Int64).toInt = (a : Int32).toInt := Int32.toInt_toInt64 _
  have : (1 : Int64).toInt = 1 := by decide
  have : (15 : Int64).toInt = 15 := by decide
  show V X 1 [] [(0, .int a)] [.int r_6] 9 0 0
  exact x_iret C dX10_isSet_9 (Nat.zero_le _) (Nat.zero_le _) (by rw [eO]; exact ⟨r_6, rfl, rfl, (by omega)⟩)
abbrev rm_X10_say : Room := { frames := 1, cells := 0, slots := 0, locals := 25 }
set_option maxHeartbeats 4000000 in
set_option maxRecDepth 100000 in
theorem c_X10_say (l : Launch) (D : va_G) (tys : List (ClassId × FieldType)) {cI cJ cZ cB : ClassId} (hT : Ty tys cI cJ cZ cB) (hy m0 m1 m2 m3 m4 m5 m6 m7 m8 m9 m10 m11 m12 m13 m14 m15 m16 m17 m18 : Nat) (mp : Nat → Int32) (mw ml mb mz op bp by0 dp tk ka iw : Int32) (x : Int32) (hz : 0 ≤ mz.toInt ∧ mz.toInt ≤ 30) : Cn l D tys yX10_say cX10_say 2 (some .int) rm_X10_say [(hy, .inr (10, [.ref m0, .ref m1, .ref m2, .ref m3, .ref m4, .ref m5, .ref m6, .ref m7, .ref m8, .ref m9, .int mw, .int ml, .int mb, .ref m10, .int mz, .ref m11, .int op, .int bp, .int by0, .int dp, .int tk, .ref m12, .ref m13, .ref m14, .ref m15, .ref m16, .ref m17, .ref m18, .int ka, .int iw])), (m10, .inl (cI, 30, .inl mp))] [.ref hy, .int x] (fun v W1 => ∃ (r z2 : Int32) (f2 : Nat → Int32), v = some (.int r) ∧ W1 = [(hy, .inr (10, [.ref m0, .ref m1, .ref m2, .ref m3, .ref m4, .ref m5, .ref m6, .ref m7, .ref m8, .ref m9, .int mw, .int ml, .int mb, .ref m10, .int z2, .ref m11, .int op, .int bp, .int by0, .int dp, .int tk, .ref m12, .ref m13, .ref m14, .ref m15, .ref m16, .ref m17, .ref m18, .int ka, .int iw])), (m10, .inl (cI, 30, .inl f2))] ∧ ((¬ (33 ≤ x.toInt ∧ x.toInt ≤ 126) ∧ r = -2 ∧ z2 = mz ∧ f2 = mp) ∨ ((33 ≤ x.toInt ∧ x.toInt ≤ 126) ∧ mz.toInt = 30 ∧ r = -4 ∧ z2 = mz ∧ f2 = mp) ∨ ((33 ≤ x.toInt ∧ x.toInt ≤ 126) ∧ mz.toInt < 30 ∧ r = mz + 1 ∧ z2 = mz + 1 ∧ f2 = upd mp mz.toNatClampNeg x))) := by
  refine Cn.of (by decide) (Nat.le_of_ble_eq_true rfl) ?_ ?_ (fun X eL eD eT eO eK eN eM C => ?_)
  · intro h; cases h
  · intro v ws h; obtain ⟨_, _, _, rfl, rfl, _⟩ := h; exact Or.inl rfl
  subst eL eD eT
  show V X 2 [(hy, .inr (10, [.ref m0, .ref m1, .ref m2, .ref m3, .ref m4, .ref m5, .ref m6, .ref m7, .ref m8, .ref m9, .int mw, .int ml, .int mb, .ref m10, .int mz, .ref m11, .int op, .int bp, .int by0, .int dp, .int tk, .ref m12, .ref m13, .ref m14, .ref m15, .ref m16, .ref m17, .ref m18, .int ka, .int iw])), (m10, .inl (cI, 30, .inl mp))] [(0, .ref hy), (1, .int x)] [] 0 0 0
  refine x_iload_n C 1 dX10_say_0 rfl rfl ?_
  refine x_i2l C dX10_say_1 ?_
  refine x_ldc2 C dX10_say_2 wd_164 ?_
  refine x_ldc2 C dX10_say_5 wd_165 ?_
  refine x_callS C [.long (Int32.toInt64 x), .long 33, .long 126] [(hy, .inr (10, [.ref m0, .ref m1, .ref m2, .ref m3, .ref m4, .ref m5, .ref m6, .ref m7, .ref m8, .ref m9, .int mw, .int ml, .int mb, .ref m10, .int mz, .ref m11, .int op, .int bp, .int by0, .int dp, .int tk, .ref m12, .ref m13, .ref m14, .ref m15, .ref m16, .ref m17, .ref m18, .int ka, .int iw])), (m10, .inl (cI, 30, .inl mp))] [] [0, 1] (c_X10_in (xl X) (xD X) (xt X) hT (Int32.toInt64 x) 33 126 ) dX10_say_8 wd_167 wd_168 wd_5 wd_169 (np := 3) ⟨by decide, by decide, by decide +kernel⟩ rfl rfl (Nat.le_of_ble_eq_true rfl) (by decide) rfl (by decide) rfl (by decide) (by decide) (fun v W1 h => ?_)
  obtain ⟨r_8, rfl, rfl, h_8⟩ := h
  have : (Int32.toInt64 x : Int64).toInt = (x : Int32).toInt := Int32.toInt_toInt64 _
  have : (33 : Int64).toInt = 33 := by decide
  have : (126 : Int64).toInt = 126 := by decide
  show V X 2 [(hy, .inr (10, [.ref m0, .ref m1, .ref m2, .ref m3, .ref m4, .ref m5, .ref m6, .ref m7, .ref m8, .ref m9, .int mw, .int ml, .int mb, .ref m10, .int mz, .ref m11, .int op, .int bp, .int by0, .int dp, .int tk, .ref m12, .ref m13, .ref m14, .ref m15, .ref m16, .ref m17, .ref m18, .int ka, .int iw])), (m10, .inl (cI, 30, .inl mp))] [(0, .ref hy), (1, .int x)] [.int r_8] 11 0 0
  refine x_if_ne C 17 dX10_say_11 (by decide) (fun c_11 => ?_) (fun c_11 => ?_)
  · skip
    have e_11 : ¬ ((r_8 : Int32).toInt = (0 : Int32).toInt) := fun h => c_11 (i_eq.mpr h)
    have : (0 : Int32).toInt = 0 := by decide
    refine x_aload_n C 0 dX10_say_17 rfl rfl ?_
    refine x_get C 0 14 dX10_say_18 inlX10 rfl (by decide) wd_166 rfl rfl rfl ?_
    refine x_bipush C 30 dX10_say_21 (by decide) ?_
    refine x_icmp_ne C 29 dX10_say_23 (by decide) (fun c_23 => ?_) (fun c_23 => ?_)
    · skip
      have e_23 : ¬ ((mz : Int32).toInt = (30 : Int32).toInt) := fun h => c_23 (i_eq.mpr h)
      have : (30 : Int32).toInt = 30 := by decide
      refine x_aload_n C 0 dX10_say_29 rfl rfl ?_
      refine x_get C 0 13 dX10_say_30 inlX10 rfl (by decide) wd_132 rfl rfl rfl ?_
      refine x_aload_n C 0 dX10_say_33 rfl rfl ?_
      refine x_get C 0 14 dX10_say_34 inlX10 rfl (by decide) wd_166 rfl rfl rfl ?_
      refine x_iload_n C 1 dX10_say_37 rfl rfl ?_
      have v_38 : vp_in mz 30 := (vp_in_iff.mpr (by omega))
      refine x_iast C 1 0 [(hy, .inr (10, [.ref m0, .ref m1, .ref m2, .ref m3, .ref m4, .ref m5, .ref m6, .ref m7, .ref m8, .ref m9, .int mw, .int ml, .int mb, .ref m10, .int mz, .ref m11, .int op, .int bp, .int by0, .int dp, .int tk, .ref m12, .ref m13, .ref m14, .ref m15, .ref m16, .ref m17, .ref m18, .int ka, .int iw])), (m10, .inl (cI, 30, .inl (upd mp (Int32.toNatClampNeg mz) x)))] dX10_say_38 hT.1 rfl v_38 rfl ?_
      refine x_aload_n C 0 dX10_say_39 rfl rfl ?_
      refine x_dup C dX10_say_40 rfl ?_
      refine x_get C 0 14 dX10_say_41 inlX10 rfl (by decide) wd_166 rfl rfl rfl ?_
      refine x_iconst C 1 dX10_say_44 (by decide) ?_
      refine x_iadd C dX10_say_45 ?_
      refine x_put C 0 14 (ty := .int) [(hy, .inr (10, [.ref m0, .ref m1, .ref m2, .ref m3, .ref m4, .ref m5, .ref m6, .ref m7, .ref m8, .ref m9, .int mw, .int ml, .int mb, .ref m10, .int (mz + 1), .ref m11, .int op, .int bp, .int by0, .int dp, .int tk, .ref m12, .ref m13, .ref m14, .ref m15, .ref m16, .ref m17, .ref m18, .int ka, .int iw])), (m10, .inl (cI, 30, .inl (upd mp (Int32.toNatClampNeg mz) x)))] dX10_say_46 inlX10 tyX10 tyX10_ok nmX10 rfl (by decide) wd_166 rfl rfl rfl rfl rfl rfl (Nat.le_of_ble_eq_true rfl) rfl ?_
      refine x_aload_n C 0 dX10_say_49 rfl rfl ?_
      refine x_get C 0 14 dX10_say_50 inlX10 rfl (by decide) wd_166 rfl rfl rfl ?_
      exact x_iret C dX10_say_53 (Nat.zero_le _) (Nat.zero_le _) (by rw [eO]; exact ⟨(mz + 1), (mz + 1), (upd mp (Int32.toNatClampNeg mz) x), rfl, rfl, (by first | exact Or.inl ⟨by omega, rfl, rfl, rfl⟩ | exact Or.inr (Or.inl ⟨by omega, by omega, rfl, rfl, rfl⟩) | exact Or.inr (Or.inr ⟨by omega, by omega, rfl, rfl, rfl⟩))⟩)
    · skip
      have e_23 : (mz : Int32).toInt = (30 : Int32).toInt := i_eq.mp c_23
      have : (30 : Int32).toInt = 30 := by decide
      refine x_bipush C (-4) dX10_say_26 (by decide) ?_
      have : ((-4) : Int32).toInt = -4 := by decide
      exact x_iret C dX10_say_28 (Nat.zero_le _) (Nat.zero_le _) (by rw [eO]; exact ⟨((-4)), mz, mp, rfl, rfl, (by first | exact Or.inl ⟨by omega, rfl, rfl, rfl⟩ | exact Or.inr (Or.inl ⟨by omega, by omega, rfl, rfl, rfl⟩) | exact Or.inr (Or.inr ⟨by omega, by omega, rfl, rfl, rfl⟩))⟩)
  · skip
    have e_11 : (r_8 : Int32).toInt = (0 : Int32).toInt := i_eq.mp c_11
    have : (0 : Int32).toInt = 0 := by decide
    refine x_bipush C (-2) dX10_say_14 (by decide) ?_
    have : ((-2) : Int32).toInt = -2 := by decide
    exact x_iret C dX10_say_16 (Nat.zero_le _) (Nat.zero_le _) (by rw [eO]; exact ⟨((-2)), mz, mp, rfl, rfl, (by first | exact Or.inl ⟨by omega, rfl, rfl, rfl⟩ | exact Or.inr (Or.inl ⟨by omega, by omega, rfl, rfl, rfl⟩) | exact Or.inr (Or.inr ⟨by omega, by omega, rfl, rfl, rfl⟩))⟩)
abbrev rm_X10_wipe : Room := { frames := 0, cells := 0, slots := 0, locals := 0 }
set_option maxHeartbeats 4000000 in
set_option maxRecDepth 100000 in
theorem c_X10_wipe (l : Launch) (D : va_G) (tys : List (ClassId × FieldType)) {cI cJ cZ cB : ClassId} (hT : Ty tys cI cJ cZ cB) (hy m0 m1 m2 m3 m4 m5 m6 m7 m8 m9 m10 m11 m12 m13 m14 m15 m16 m17 m18 : Nat) (mw ml mb mz op bp by0 dp tk ka iw : Int32)  : Cn l D tys yX10_wipe cX10_wipe 2 (some .int) rm_X10_wipe [(hy, .inr (10, [.ref m0, .ref m1, .ref m2, .ref m3, .ref m4, .ref m5, .ref m6, .ref m7, .ref m8, .ref m9, .int mw, .int ml, .int mb, .ref m10, .int mz, .ref m11, .int op, .int bp, .int by0, .int dp, .int tk, .ref m12, .ref m13, .ref m14, .ref m15, .ref m16, .ref m17, .ref m18, .int ka, .int iw]))] [.ref hy] (fun v W1 => ∃ (_ : Unit), v = some (.int mz) ∧ W1 = [(hy, .inr (10, [.ref m0, .ref m1, .ref m2, .ref m3, .ref m4, .ref m5, .ref m6, .ref m7, .ref m8, .ref m9, .int mw, .int ml, .int mb, .ref m10, .int 0, .ref m11, .int op, .int bp, .int by0, .int dp, .int tk, .ref m12, .ref m13, .ref m14, .ref m15, .ref m16, .ref m17, .ref m18, .int ka, .int iw]))] ∧ (True)) := by
  refine Cn.of (by decide) (Nat.le_of_ble_eq_true rfl) ?_ ?_ (fun X eL eD eT eO eK eN eM C => ?_)
  · intro h; cases h
  · intro v ws h; obtain ⟨_, rfl, rfl, _⟩ := h; exact Or.inl rfl
  subst eL eD eT
  show V X 2 [(hy, .inr (10, [.ref m0, .ref m1, .ref m2, .ref m3, .ref m4, .ref m5, .ref m6, .ref m7, .ref m8, .ref m9, .int mw, .int ml, .int mb, .ref m10, .int mz, .ref m11, .int op, .int bp, .int by0, .int dp, .int tk, .ref m12, .ref m13, .ref m14, .ref m15, .ref m16, .ref m17, .ref m18, .int ka, .int iw]))] [(0, .ref hy)] [] 0 0 0
  refine x_aload_n C 0 dX10_wipe_0 rfl rfl ?_
  refine x_get C 0 14 dX10_wipe_1 inlX10 rfl (by decide) wd_166 rfl rfl rfl ?_
  refine x_istore_n C [(1, .int mz), (0, .ref hy)] dX10_wipe_4 rfl (by decide) rfl ?_
  refine x_aload_n C 1 dX10_wipe_5 rfl rfl ?_
  refine x_iconst C 0 dX10_wipe_6 (by decide) ?_
  refine x_put C 0 14 (ty := .int) [(hy, .inr (10, [.ref m0, .ref m1, .ref m2, .ref m3, .ref m4, .ref m5, .ref m6, .ref m7, .ref m8, .ref m9, .int mw, .int ml, .int mb, .ref m10, .int 0, .ref m11, .int op, .int bp, .int by0, .int dp, .int tk, .ref m12, .ref m13, .ref m14, .ref m15, .ref m16, .ref m17, .ref m18, .int ka, .int iw]))] dX10_wipe_7 inlX10 tyX10 tyX10_ok nmX10 rfl (by decide) wd_166 rfl rfl rfl rfl rfl rfl (Nat.le_of_ble_eq_true rfl) rfl ?_
  refine x_iload_n C 0 dX10_wipe_10 rfl rfl ?_
  exact x_iret C dX10_wipe_11 (Nat.zero_le _) (Nat.zero_le _) (by rw [eO]; exact ⟨(), rfl, rfl, trivial⟩)
abbrev rm_X10_faultOfStory : Room := { frames := 1, cells := 0, slots := 0, locals := 25 }
set_option maxHeartbeats 4000000 in
set_option maxRecDepth 100000 in
theorem c_X10_faultOfStory (l : Launch) (D : va_G) (tys : List (ClassId × FieldType)) {cI cJ cZ cB : ClassId} (hT : Ty tys cI cJ cZ cB) (hy m0 m1 m2 m3 m4 m5 m6 m7 m8 m9 m10 m11 m12 m13 m14 m15 m16 m17 m18 : Nat) (mp : Nat → Int32) (mw ml mb mz op bp by0 dp tk ka iw : Int32) (hz : 0 ≤ mz.toInt ∧ mz.toInt ≤ 30) : Cn l D tys yX10_faultOfStory cX10_faultOfStory 5 (some .int) rm_X10_faultOfStory [(hy, .inr (10, [.ref m0, .ref m1, .ref m2, .ref m3, .ref m4, .ref m5, .ref m6, .ref m7, .ref m8, .ref m9, .int mw, .int ml, .int mb, .ref m10, .int mz, .ref m11, .int op, .int bp, .int by0, .int dp, .int tk, .ref m12, .ref m13, .ref m14, .ref m15, .ref m16, .ref m17, .ref m18, .int ka, .int iw])), (m10, .inl (cI, 30, .inl mp))] [.ref hy] (fun v W1 => ∃ (r : Int32), v = some (.int r) ∧ W1 = [(hy, .inr (10, [.ref m0, .ref m1, .ref m2, .ref m3, .ref m4, .ref m5, .ref m6, .ref m7, .ref m8, .ref m9, .int mw, .int ml, .int mb, .ref m10, .int mz, .ref m11, .int op, .int bp, .int by0, .int dp, .int tk, .ref m12, .ref m13, .ref m14, .ref m15, .ref m16, .ref m17, .ref m18, .int ka, .int iw])), (m10, .inl (cI, 30, .inl mp))] ∧ (r = sfZ mp mz)) := by
  refine Cn.of (by decide) (Nat.le_of_ble_eq_true rfl) ?_ ?_ (fun X eL eD eT eO eK eN eM C => ?_)
  · intro h; cases h
  · intro v ws h; obtain ⟨_, rfl, rfl, _⟩ := h; exact Or.inl rfl
  subst eL eD eT
  show V X 5 [(hy, .inr (10, [.ref m0, .ref m1, .ref m2, .ref m3, .ref m4, .ref m5, .ref m6, .ref m7, .ref m8, .ref m9, .int mw, .int ml, .int mb, .ref m10, .int mz, .ref m11, .int op, .int bp, .int by0, .int dp, .int tk, .ref m12, .ref m13, .ref m14, .ref m15, .ref m16, .ref m17, .ref m18, .int ka, .int iw])), (m10, .inl (cI, 30, .inl mp))] [(0, .ref hy)] [] 0 0 0
  refine x_iconst C 0 dX10_faultOfStory_0 (by decide) ?_
  refine x_istore_n C [(1, .int 0), (0, .ref hy)] dX10_faultOfStory_1 rfl (by decide) rfl ?_
  refine x_iconst C 1 dX10_faultOfStory_2 (by decide) ?_
  refine x_istore_n C [(2, .int 1), (1, .int 0), (0, .ref hy)] dX10_faultOfStory_3 rfl (by decide) rfl ?_
  refine x_iconst C 0 dX10_faultOfStory_4 (by decide) ?_
  refine x_istore_n C [(3, .int 0), (2, .int 1), (1, .int 0), (0, .ref hy)] dX10_faultOfStory_5 rfl (by decide) rfl ?_
  have L_6 : ∀ (n_6 : Nat) (x3_6 : Int32) (x2_6 : Int32) (x1_6 : Int32), ((0 ≤ x3_6.toInt ∧ x3_6.toInt ≤ mz.toInt ∧ 0 ≤ x1_6.toInt ∧ x1_6.toInt ≤ x3_6.toInt) ∧ sf mp (mz.toInt - x3_6.toInt).toNat x3_6 x1_6 x2_6 = sfZ mp mz) → ((mz.toInt - x3_6.toInt).toNat < n_6) → V X 5 [(hy, .inr (10, [.ref m0, .ref m1, .ref m2, .ref m3, .ref m4, .ref m5, .ref m6, .ref m7, .ref m8, .ref m9, .int mw, .int ml, .int mb, .ref m10, .int mz, .ref m11, .int op, .int bp, .int by0, .int dp, .int tk, .ref m12, .ref m13, .ref m14, .ref m15, .ref m16, .ref m17, .ref m18, .int ka, .int iw])), (m10, .inl (cI, 30, .inl mp))] [(3, .int x3_6), (2, .int x2_6), (1, .int x1_6), (0, .ref hy)] [] 6 0 0 := by
    intro n_6
    induction n_6 with
    | zero =>
      intro x3_6 x2_6 x1_6 i_6 m_6
      exact absurd m_6 (Nat.not_lt_zero _)
    | succ n_6 ih_6 =>
      intro x3_6 x2_6 x1_6 i_6 m_6
      refine x_iload_n C 0 dX10_faultOfStory_6 rfl rfl ?_
      refine x_aload_n C 3 dX10_faultOfStory_7 rfl rfl ?_
      refine x_get C 0 14 dX10_faultOfStory_8 inlX10 rfl (by decide) wd_166 rfl rfl rfl ?_
      refine x_icmp_ge C 115 dX10_faultOfStory_11 (by decide) (fun c_11 => ?_) (fun c_11 => ?_)
      · skip
        have e_11 : (mz : Int32).toInt ≤ (x3_6 : Int32).toInt := i_le.mp c_11
        refine x_iload_n C 1 dX10_faultOfStory_115 rfl rfl ?_
        refine x_if_eq C 126 dX10_faultOfStory_116 (by decide) (fun c_116 => ?_) (fun c_116 => ?_)
        · skip
          have e_116 : (x2_6 : Int32).toInt = (0 : Int32).toInt := i_eq.mp c_116
          have : (0 : Int32).toInt = 0 := by decide
          refine x_bipush C (-6) dX10_faultOfStory_126 (by decide) ?_
          have : ((-6) : Int32).toInt = -6 := by decide
          exact x_iret C dX10_faultOfStory_128 (Nat.zero_le _) (Nat.zero_le _) (by rw [eO]; exact ⟨((-6)), rfl, rfl, (by have h9 := (sf_end (f := mp) (z := mz) (i := x3_6) (p := x1_6) (d := x2_6) (by omega)).symm.trans i_6.2; first | (rw [if_pos (by assumption)] at h9; exact h9) | (rw [if_neg (by assumption)] at h9; rw [← h9]; exact i_eq.mpr (by omega)))⟩)
        · skip
          have e_116 : ¬ ((x2_6 : Int32).toInt = (0 : Int32).toInt) := fun h => c_116 (i_eq.mpr h)
          have : (0 : Int32).toInt = 0 := by decide
          refine x_aload_n C 3 dX10_faultOfStory_119 rfl rfl ?_
          refine x_get C 0 14 dX10_faultOfStory_120 inlX10 rfl (by decide) wd_166 rfl rfl rfl ?_
          refine x_goto C 128 dX10_faultOfStory_123 (by decide) ?_
          exact x_iret C dX10_faultOfStory_128 (Nat.zero_le _) (Nat.zero_le _) (by rw [eO]; exact ⟨mz, rfl, rfl, (by have h9 := (sf_end (f := mp) (z := mz) (i := x3_6) (p := x1_6) (d := x2_6) (by omega)).symm.trans i_6.2; first | (rw [if_pos (by assumption)] at h9; exact h9) | (rw [if_neg (by assumption)] at h9; rw [← h9]; exact i_eq.mpr (by omega)))⟩)
      · skip
        have e_11 : ¬ ((mz : Int32).toInt ≤ (x3_6 : Int32).toInt) := fun h => c_11 (i_le.mpr h)
        refine x_aload_n C 3 dX10_faultOfStory_14 rfl rfl ?_
        refine x_get C 0 13 dX10_faultOfStory_15 inlX10 rfl (by decide) wd_132 rfl rfl rfl ?_
        refine x_iload_n C 0 dX10_faultOfStory_18 rfl rfl ?_
        have v_19 : vp_in x3_6 30 := (vp_in_iff.mpr (by omega))
        refine x_iald C 1 0 dX10_faultOfStory_19 hT.1 rfl v_19 ?_
        refine x_i2l C dX10_faultOfStory_20 ?_
        refine x_ldc2 C dX10_faultOfStory_21 wd_209 ?_
        refine x_ldc2 C dX10_faultOfStory_24 wd_210 ?_
        refine x_callS C [.long (Int32.toInt64 (mp (Int32.toNatClampNeg x3_6))), .long 49, .long 57] [(hy, .inr (10, [.ref m0, .ref m1, .ref m2, .ref m3, .ref m4, .ref m5, .ref m6, .ref m7, .ref m8, .ref m9, .int mw, .int ml, .int mb, .ref m10, .int mz, .ref m11, .int op, .int bp, .int by0, .int dp, .int tk, .ref m12, .ref m13, .ref m14, .ref m15, .ref m16, .ref m17, .ref m18, .int ka, .int iw])), (m10, .inl (cI, 30, .inl mp))] [] [0, 1] (c_X10_in (xl X) (xD X) (xt X) hT (Int32.toInt64 (mp (Int32.toNatClampNeg x3_6))) 49 57 ) dX10_faultOfStory_27 wd_167 wd_168 wd_5 wd_169 (np := 3) ⟨by decide, by decide, by decide +kernel⟩ rfl rfl (Nat.le_of_ble_eq_true rfl) (by decide) rfl (by decide) rfl (by decide) (by decide) (fun v W1 h => ?_)
        obtain ⟨r_27, rfl, rfl, h_27⟩ := h
        have : (Int32.toInt64 (mp (Int32.toNatClampNeg x3_6)) : Int64).toInt = ((mp (Int32.toNatClampNeg x3_6)) : Int32).toInt := Int32.toInt_toInt64 _
        have : (49 : Int64).toInt = 49 := by decide
        have : (57 : Int64).toInt = 57 := by decide
        show V X 5 [(hy, .inr (10, [.ref m0, .ref m1, .ref m2, .ref m3, .ref m4, .ref m5, .ref m6, .ref m7, .ref m8, .ref m9, .int mw, .int ml, .int mb, .ref m10, .int mz, .ref m11, .int op, .int bp, .int by0, .int dp, .int tk, .ref m12, .ref m13, .ref m14, .ref m15, .ref m16, .ref m17, .ref m18, .int ka, .int iw])), (m10, .inl (cI, 30, .inl mp))] [(3, .int x3_6), (2, .int x2_6), (1, .int x1_6), (0, .ref hy)] [.int r_27] 30 0 0
        refine x_if_eq C 46 dX10_faultOfStory_30 (by decide) (fun c_30 => ?_) (fun c_30 => ?_)
        · skip
          have e_30 : (r_27 : Int32).toInt = (0 : Int32).toInt := i_eq.mp c_30
          have : (0 : Int32).toInt = 0 := by decide
          refine x_aload_n C 3 dX10_faultOfStory_46 rfl rfl ?_
          refine x_get C 0 13 dX10_faultOfStory_47 inlX10 rfl (by decide) wd_132 rfl rfl rfl ?_
          refine x_iload_n C 0 dX10_faultOfStory_50 rfl rfl ?_
          have v_51 : vp_in x3_6 30 := (vp_in_iff.mpr (by omega))
          refine x_iald C 1 0 dX10_faultOfStory_51 hT.1 rfl v_51 ?_
          refine x_bipush C 58 dX10_faultOfStory_52 (by decide) ?_
          refine x_icmp_ne C 70 dX10_faultOfStory_54 (by decide) (fun c_54 => ?_) (fun c_54 => ?_)
          · skip
            have e_54 : ¬ ((mp (Int32.toNatClampNeg x3_6) : Int32).toInt = (58 : Int32).toInt) := fun h => c_54 (i_eq.mpr h)
            have : (58 : Int32).toInt = 58 := by decide
            refine x_iconst C 0 dX10_faultOfStory_70 (by decide) ?_
            refine x_istore C [(4, .int 0), (3, .int x3_6), (2, .int x2_6), (1, .int x1_6), (0, .ref hy)] dX10_faultOfStory_71 (by decide) rfl ?_
            refine x_iload C 0 dX10_faultOfStory_73 rfl ?_
            refine x_if_ne C 80 dX10_faultOfStory_75 (by decide) (fun c_75 => ?_) (fun c_75 => ?_)
            · skip
              have e_75 : ¬ ((0 : Int32).toInt = (0 : Int32).toInt) := fun h => c_75 (i_eq.mpr h)
              have : (0 : Int32).toInt = 0 := by decide
              have : (0 : Int32).toInt = 0 := by decide
              exfalso
              omega
            · skip
              have e_75 : (0 : Int32).toInt = (0 : Int32).toInt := i_eq.mp c_75
              have : (0 : Int32).toInt = 0 := by decide
              have : (0 : Int32).toInt = 0 := by decide
              refine x_iload_n C 1 dX10_faultOfStory_78 rfl rfl ?_
              exact x_iret C dX10_faultOfStory_79 (Nat.zero_le _) (Nat.zero_le _) (by rw [eO]; exact ⟨x3_6, rfl, rfl, ((sf_bad (by omega) (by omega) (by omega) (by intro h; obtain ⟨h1, h2, h3⟩ := h; first | exact absurd h1 (by assumption) | exact absurd h2 (by assumption) | omega | (have := i_eq.mp h1; have : (58 : Int32).toInt = 58 := rfl; omega))).symm.trans i_6.2)⟩)
          · skip
            have e_54 : (mp (Int32.toNatClampNeg x3_6) : Int32).toInt = (58 : Int32).toInt := i_eq.mp c_54
            have : (58 : Int32).toInt = 58 := by decide
            refine x_iload_n C 1 dX10_faultOfStory_57 rfl rfl ?_
            refine x_if_ne C 70 dX10_faultOfStory_58 (by decide) (fun c_58 => ?_) (fun c_58 => ?_)
            · skip
              have e_58 : ¬ ((x2_6 : Int32).toInt = (0 : Int32).toInt) := fun h => c_58 (i_eq.mpr h)
              have : (0 : Int32).toInt = 0 := by decide
              refine x_iconst C 0 dX10_faultOfStory_70 (by decide) ?_
              refine x_istore C [(4, .int 0), (3, .int x3_6), (2, .int x2_6), (1, .int x1_6), (0, .ref hy)] dX10_faultOfStory_71 (by decide) rfl ?_
              refine x_iload C 0 dX10_faultOfStory_73 rfl ?_
              refine x_if_ne C 80 dX10_faultOfStory_75 (by decide) (fun c_75 => ?_) (fun c_75 => ?_)
              · skip
                have e_75 : ¬ ((0 : Int32).toInt = (0 : Int32).toInt) := fun h => c_75 (i_eq.mpr h)
                have : (0 : Int32).toInt = 0 := by decide
                have : (0 : Int32).toInt = 0 := by decide
                exfalso
                omega
              · skip
                have e_75 : (0 : Int32).toInt = (0 : Int32).toInt := i_eq.mp c_75
                have : (0 : Int32).toInt = 0 := by decide
                have : (0 : Int32).toInt = 0 := by decide
                refine x_iload_n C 1 dX10_faultOfStory_78 rfl rfl ?_
                exact x_iret C dX10_faultOfStory_79 (Nat.zero_le _) (Nat.zero_le _) (by rw [eO]; exact ⟨x3_6, rfl, rfl, ((sf_bad (by omega) (by omega) (by omega) (by intro h; obtain ⟨h1, h2, h3⟩ := h; first | exact absurd h1 (by assumption) | exact absurd h2 (by assumption) | omega | (have := i_eq.mp h1; have : (58 : Int32).toInt = 58 := rfl; omega))).symm.trans i_6.2)⟩)
            · skip
              have e_58 : (x2_6 : Int32).toInt = (0 : Int32).toInt := i_eq.mp c_58
              have : (0 : Int32).toInt = 0 := by decide
              refine x_iload_n C 2 dX10_faultOfStory_61 rfl rfl ?_
              refine x_iconst C 4 dX10_faultOfStory_62 (by decide) ?_
              refine x_icmp_ge C 70 dX10_faultOfStory_63 (by decide) (fun c_63 => ?_) (fun c_63 => ?_)
              · skip
                have e_63 : (4 : Int32).toInt ≤ (x1_6 : Int32).toInt := i_le.mp c_63
                have : (4 : Int32).toInt = 4 := by decide
                refine x_iconst C 0 dX10_faultOfStory_70 (by decide) ?_
                refine x_istore C [(4, .int 0), (3, .int x3_6), (2, .int x2_6), (1, .int x1_6), (0, .ref hy)] dX10_faultOfStory_71 (by decide) rfl ?_
                refine x_iload C 0 dX10_faultOfStory_73 rfl ?_
                refine x_if_ne C 80 dX10_faultOfStory_75 (by decide) (fun c_75 => ?_) (fun c_75 => ?_)
                · skip
                  have e_75 : ¬ ((0 : Int32).toInt = (0 : Int32).toInt) := fun h => c_75 (i_eq.mpr h)
                  have : (0 : Int32).toInt = 0 := by decide
                  have : (0 : Int32).toInt = 0 := by decide
                  exfalso
                  omega
                · skip
                  have e_75 : (0 : Int32).toInt = (0 : Int32).toInt := i_eq.mp c_75
                  have : (0 : Int32).toInt = 0 := by decide
                  have : (0 : Int32).toInt = 0 := by decide
                  refine x_iload_n C 1 dX10_faultOfStory_78 rfl rfl ?_
                  exact x_iret C dX10_faultOfStory_79 (Nat.zero_le _) (Nat.zero_le _) (by rw [eO]; exact ⟨x3_6, rfl, rfl, ((sf_bad (by omega) (by omega) (by omega) (by intro h; obtain ⟨h1, h2, h3⟩ := h; first | exact absurd h1 (by assumption) | exact absurd h2 (by assumption) | omega | (have := i_eq.mp h1; have : (58 : Int32).toInt = 58 := rfl; omega))).symm.trans i_6.2)⟩)
              · skip
                have e_63 : ¬ ((4 : Int32).toInt ≤ (x1_6 : Int32).toInt) := fun h => c_63 (i_le.mpr h)
                have : (4 : Int32).toInt = 4 := by decide
                refine x_iconst C 1 dX10_faultOfStory_66 (by decide) ?_
                refine x_goto C 71 dX10_faultOfStory_67 (by decide) ?_
                refine x_istore C [(4, .int 1), (3, .int x3_6), (2, .int x2_6), (1, .int x1_6), (0, .ref hy)] dX10_faultOfStory_71 (by decide) rfl ?_
                refine x_iload C 0 dX10_faultOfStory_73 rfl ?_
                refine x_if_ne C 80 dX10_faultOfStory_75 (by decide) (fun c_75 => ?_) (fun c_75 => ?_)
                · skip
                  have e_75 : ¬ ((1 : Int32).toInt = (0 : Int32).toInt) := fun h => c_75 (i_eq.mpr h)
                  have : (1 : Int32).toInt = 1 := by decide
                  have : (0 : Int32).toInt = 0 := by decide
                  refine x_aload_n C 4 dX10_faultOfStory_80 rfl rfl ?_
                  refine x_get C 0 13 dX10_faultOfStory_81 inlX10 rfl (by decide) wd_132 rfl rfl rfl ?_
                  refine x_iload_n C 1 dX10_faultOfStory_84 rfl rfl ?_
                  have v_85 : vp_in x3_6 30 := (vp_in_iff.mpr (by omega))
                  refine x_iald C 1 0 dX10_faultOfStory_85 hT.1 rfl v_85 ?_
                  refine x_bipush C 58 dX10_faultOfStory_86 (by decide) ?_
                  refine x_icmp_ne C 95 dX10_faultOfStory_88 (by decide) (fun c_88 => ?_) (fun c_88 => ?_)
                  · skip
                    have e_88 : ¬ ((mp (Int32.toNatClampNeg x3_6) : Int32).toInt = (58 : Int32).toInt) := fun h => c_88 (i_eq.mpr h)
                    have : (58 : Int32).toInt = 58 := by decide
                    refine x_iconst C 0 dX10_faultOfStory_95 (by decide) ?_
                    refine x_istore_n C [(2, .int 0), (4, .int 1), (3, .int x3_6), (1, .int x1_6), (0, .ref hy)] dX10_faultOfStory_96 rfl (by decide) rfl ?_
                    refine x_iload_n C 3 dX10_faultOfStory_97 rfl rfl ?_
                    refine x_iload_n C 0 dX10_faultOfStory_98 rfl rfl ?_
                    refine x_if_eq C 106 dX10_faultOfStory_99 (by decide) (fun c_99 => ?_) (fun c_99 => ?_)
                    · skip
                      have e_99 : (0 : Int32).toInt = (0 : Int32).toInt := i_eq.mp c_99
                      have : (0 : Int32).toInt = 0 := by decide
                      have : (0 : Int32).toInt = 0 := by decide
                      refine x_iconst C 1 dX10_faultOfStory_106 (by decide) ?_
                      refine x_iadd C dX10_faultOfStory_107 ?_
                      refine x_istore_n C [(1, .int (x1_6 + 1)), (2, .int 0), (4, .int 1), (3, .int x3_6), (0, .ref hy)] dX10_faultOfStory_108 rfl (by decide) rfl ?_
                      refine x_iinc C 3 (x3_6 + 1) [(3, .int (x3_6 + 1)), (1, .int (x1_6 + 1)), (2, .int 0), (4, .int 1), (0, .ref hy)] dX10_faultOfStory_109 rfl rfl (by decide) rfl ?_
                      refine x_goto C 6 dX10_faultOfStory_112 (by decide) ?_
                      refine x_lv [(3, .int (x3_6 + 1)), (2, .int 0), (1, .int (x1_6 + 1)), (0, .ref hy)] [0, 2, 1, 4] rfl ?_
                      have : (1 : Int32).toInt = 1 := by decide
                      have := i_add (x := x3_6) (y := 1) (by omega) (by omega)
                      have : (0 : Int32).toInt = 0 := by decide
                      have : (1 : Int32).toInt = 1 := by decide
                      have := i_add (x := x1_6) (y := 1) (by omega) (by omega)
                      exact ih_6 (x3_6 + 1) 0 (x1_6 + 1) (by first | exact ⟨by omega, (sf_dig (by omega) (by omega) (by omega) (by omega)).symm.trans i_6.2⟩ | (exfalso; omega)) (by omega)
                    · skip
                      have e_99 : ¬ ((0 : Int32).toInt = (0 : Int32).toInt) := fun h => c_99 (i_eq.mpr h)
                      have : (0 : Int32).toInt = 0 := by decide
                      have : (0 : Int32).toInt = 0 := by decide
                      exfalso
                      omega
                  · skip
                    have e_88 : (mp (Int32.toNatClampNeg x3_6) : Int32).toInt = (58 : Int32).toInt := i_eq.mp c_88
                    have : (58 : Int32).toInt = 58 := by decide
                    refine x_iconst C 1 dX10_faultOfStory_91 (by decide) ?_
                    refine x_goto C 96 dX10_faultOfStory_92 (by decide) ?_
                    refine x_istore_n C [(2, .int 1), (4, .int 1), (3, .int x3_6), (1, .int x1_6), (0, .ref hy)] dX10_faultOfStory_96 rfl (by decide) rfl ?_
                    refine x_iload_n C 3 dX10_faultOfStory_97 rfl rfl ?_
                    refine x_iload_n C 0 dX10_faultOfStory_98 rfl rfl ?_
                    refine x_if_eq C 106 dX10_faultOfStory_99 (by decide) (fun c_99 => ?_) (fun c_99 => ?_)
                    · skip
                      have e_99 : (1 : Int32).toInt = (0 : Int32).toInt := i_eq.mp c_99
                      have : (1 : Int32).toInt = 1 := by decide
                      have : (0 : Int32).toInt = 0 := by decide
                      exfalso
                      omega
                    · skip
                      have e_99 : ¬ ((1 : Int32).toInt = (0 : Int32).toInt) := fun h => c_99 (i_eq.mpr h)
                      have : (1 : Int32).toInt = 1 := by decide
                      have : (0 : Int32).toInt = 0 := by decide
                      refine x_iconst C 0 dX10_faultOfStory_102 (by decide) ?_
                      refine x_goto C 107 dX10_faultOfStory_103 (by decide) ?_
                      refine x_iadd C dX10_faultOfStory_107 ?_
                      refine x_istore_n C [(1, .int (x1_6 + 0)), (2, .int 1), (4, .int 1), (3, .int x3_6), (0, .ref hy)] dX10_faultOfStory_108 rfl (by decide) rfl ?_
                      refine x_iinc C 3 (x3_6 + 1) [(3, .int (x3_6 + 1)), (1, .int (x1_6 + 0)), (2, .int 1), (4, .int 1), (0, .ref hy)] dX10_faultOfStory_109 rfl rfl (by decide) rfl ?_
                      refine x_goto C 6 dX10_faultOfStory_112 (by decide) ?_
                      refine x_lv [(3, .int (x3_6 + 1)), (2, .int 1), (1, .int (x1_6 + 0)), (0, .ref hy)] [0, 2, 1, 4] rfl ?_
                      have : (1 : Int32).toInt = 1 := by decide
                      have := i_add (x := x3_6) (y := 1) (by omega) (by omega)
                      have : (1 : Int32).toInt = 1 := by decide
                      have : (0 : Int32).toInt = 0 := by decide
                      have := i_add (x := x1_6) (y := 0) (by omega) (by omega)
                      exact ih_6 (x3_6 + 1) 1 (x1_6 + 0) (by first | exact ⟨by omega, by rw [show x1_6 + 0 = x1_6 from Int32.add_zero _]; exact (sf_col (by omega) (by omega) (by assumption) (by assumption) (by omega)).symm.trans i_6.2⟩ | (exfalso; omega)) (by omega)
                · skip
                  have e_75 : (1 : Int32).toInt = (0 : Int32).toInt := i_eq.mp c_75
                  have : (1 : Int32).toInt = 1 := by decide
                  have : (0 : Int32).toInt = 0 := by decide
                  exfalso
                  omega
        · skip
          have e_30 : ¬ ((r_27 : Int32).toInt = (0 : Int32).toInt) := fun h => c_30 (i_eq.mpr h)
          have : (0 : Int32).toInt = 0 := by decide
          refine x_iload_n C 2 dX10_faultOfStory_33 rfl rfl ?_
          refine x_iconst C 4 dX10_faultOfStory_34 (by decide) ?_
          refine x_icmp_ge C 42 dX10_faultOfStory_35 (by decide) (fun c_35 => ?_) (fun c_35 => ?_)
          · skip
            have e_35 : (4 : Int32).toInt ≤ (x1_6 : Int32).toInt := i_le.mp c_35
            have : (4 : Int32).toInt = 4 := by decide
            refine x_iconst C 0 dX10_faultOfStory_42 (by decide) ?_
            refine x_goto C 71 dX10_faultOfStory_43 (by decide) ?_
            refine x_istore C [(4, .int 0), (3, .int x3_6), (2, .int x2_6), (1, .int x1_6), (0, .ref hy)] dX10_faultOfStory_71 (by decide) rfl ?_
            refine x_iload C 0 dX10_faultOfStory_73 rfl ?_
            refine x_if_ne C 80 dX10_faultOfStory_75 (by decide) (fun c_75 => ?_) (fun c_75 => ?_)
            · skip
              have e_75 : ¬ ((0 : Int32).toInt = (0 : Int32).toInt) := fun h => c_75 (i_eq.mpr h)
              have : (0 : Int32).toInt = 0 := by decide
              have : (0 : Int32).toInt = 0 := by decide
              exfalso
              omega
            · skip
              have e_75 : (0 : Int32).toInt = (0 : Int32).toInt := i_eq.mp c_75
              have : (0 : Int32).toInt = 0 := by decide
              have : (0 : Int32).toInt = 0 := by decide
              refine x_iload_n C 1 dX10_faultOfStory_78 rfl rfl ?_
              exact x_iret C dX10_faultOfStory_79 (Nat.zero_le _) (Nat.zero_le _) (by rw [eO]; exact ⟨x3_6, rfl, rfl, ((sf_bad (by omega) (by omega) (by omega) (by intro h; obtain ⟨h1, h2, h3⟩ := h; first | exact absurd h1 (by assumption) | exact absurd h2 (by assumption) | omega | (have := i_eq.mp h1; have : (58 : Int32).toInt = 58 := rfl; omega))).symm.trans i_6.2)⟩)
          · skip
            have e_35 : ¬ ((4 : Int32).toInt ≤ (x1_6 : Int32).toInt) := fun h => c_35 (i_le.mpr h)
            have : (4 : Int32).toInt = 4 := by decide
            refine x_iconst C 1 dX10_faultOfStory_38 (by decide) ?_
            refine x_goto C 71 dX10_faultOfStory_39 (by decide) ?_
            refine x_istore C [(4, .int 1), (3, .int x3_6), (2, .int x2_6), (1, .int x1_6), (0, .ref hy)] dX10_faultOfStory_71 (by decide) rfl ?_
            refine x_iload C 0 dX10_faultOfStory_73 rfl ?_
            refine x_if_ne C 80 dX10_faultOfStory_75 (by decide) (fun c_75 => ?_) (fun c_75 => ?_)
            · skip
              have e_75 : ¬ ((1 : Int32).toInt = (0 : Int32).toInt) := fun h => c_75 (i_eq.mpr h)
              have : (1 : Int32).toInt = 1 := by decide
              have : (0 : Int32).toInt = 0 := by decide
              refine x_aload_n C 4 dX10_faultOfStory_80 rfl rfl ?_
              refine x_get C 0 13 dX10_faultOfStory_81 inlX10 rfl (by decide) wd_132 rfl rfl rfl ?_
              refine x_iload_n C 1 dX10_faultOfStory_84 rfl rfl ?_
              have v_85 : vp_in x3_6 30 := (vp_in_iff.mpr (by omega))
              refine x_iald C 1 0 dX10_faultOfStory_85 hT.1 rfl v_85 ?_
              refine x_bipush C 58 dX10_faultOfStory_86 (by decide) ?_
              refine x_icmp_ne C 95 dX10_faultOfStory_88 (by decide) (fun c_88 => ?_) (fun c_88 => ?_)
              · skip
                have e_88 : ¬ ((mp (Int32.toNatClampNeg x3_6) : Int32).toInt = (58 : Int32).toInt) := fun h => c_88 (i_eq.mpr h)
                have : (58 : Int32).toInt = 58 := by decide
                refine x_iconst C 0 dX10_faultOfStory_95 (by decide) ?_
                refine x_istore_n C [(2, .int 0), (4, .int 1), (3, .int x3_6), (1, .int x1_6), (0, .ref hy)] dX10_faultOfStory_96 rfl (by decide) rfl ?_
                refine x_iload_n C 3 dX10_faultOfStory_97 rfl rfl ?_
                refine x_iload_n C 0 dX10_faultOfStory_98 rfl rfl ?_
                refine x_if_eq C 106 dX10_faultOfStory_99 (by decide) (fun c_99 => ?_) (fun c_99 => ?_)
                · skip
                  have e_99 : (0 : Int32).toInt = (0 : Int32).toInt := i_eq.mp c_99
                  have : (0 : Int32).toInt = 0 := by decide
                  have : (0 : Int32).toInt = 0 := by decide
                  refine x_iconst C 1 dX10_faultOfStory_106 (by decide) ?_
                  refine x_iadd C dX10_faultOfStory_107 ?_
                  refine x_istore_n C [(1, .int (x1_6 + 1)), (2, .int 0), (4, .int 1), (3, .int x3_6), (0, .ref hy)] dX10_faultOfStory_108 rfl (by decide) rfl ?_
                  refine x_iinc C 3 (x3_6 + 1) [(3, .int (x3_6 + 1)), (1, .int (x1_6 + 1)), (2, .int 0), (4, .int 1), (0, .ref hy)] dX10_faultOfStory_109 rfl rfl (by decide) rfl ?_
                  refine x_goto C 6 dX10_faultOfStory_112 (by decide) ?_
                  refine x_lv [(3, .int (x3_6 + 1)), (2, .int 0), (1, .int (x1_6 + 1)), (0, .ref hy)] [0, 2, 1, 4] rfl ?_
                  have : (1 : Int32).toInt = 1 := by decide
                  have := i_add (x := x3_6) (y := 1) (by omega) (by omega)
                  have : (0 : Int32).toInt = 0 := by decide
                  have : (1 : Int32).toInt = 1 := by decide
                  have := i_add (x := x1_6) (y := 1) (by omega) (by omega)
                  exact ih_6 (x3_6 + 1) 0 (x1_6 + 1) (by first | exact ⟨by omega, (sf_dig (by omega) (by omega) (by omega) (by omega)).symm.trans i_6.2⟩ | (exfalso; omega)) (by omega)
                · skip
                  have e_99 : ¬ ((0 : Int32).toInt = (0 : Int32).toInt) := fun h => c_99 (i_eq.mpr h)
                  have : (0 : Int32).toInt = 0 := by decide
                  have : (0 : Int32).toInt = 0 := by decide
                  exfalso
                  omega
              · skip
                have e_88 : (mp (Int32.toNatClampNeg x3_6) : Int32).toInt = (58 : Int32).toInt := i_eq.mp c_88
                have : (58 : Int32).toInt = 58 := by decide
                refine x_iconst C 1 dX10_faultOfStory_91 (by decide) ?_
                refine x_goto C 96 dX10_faultOfStory_92 (by decide) ?_
                refine x_istore_n C [(2, .int 1), (4, .int 1), (3, .int x3_6), (1, .int x1_6), (0, .ref hy)] dX10_faultOfStory_96 rfl (by decide) rfl ?_
                refine x_iload_n C 3 dX10_faultOfStory_97 rfl rfl ?_
                refine x_iload_n C 0 dX10_faultOfStory_98 rfl rfl ?_
                refine x_if_eq C 106 dX10_faultOfStory_99 (by decide) (fun c_99 => ?_) (fun c_99 => ?_)
                · skip
                  have e_99 : (1 : Int32).toInt = (0 : Int32).toInt := i_eq.mp c_99
                  have : (1 : Int32).toInt = 1 := by decide
                  have : (0 : Int32).toInt = 0 := by decide
                  exfalso
                  omega
                · skip
                  have e_99 : ¬ ((1 : Int32).toInt = (0 : Int32).toInt) := fun h => c_99 (i_eq.mpr h)
                  have : (1 : Int32).toInt = 1 := by decide
                  have : (0 : Int32).toInt = 0 := by decide
                  refine x_iconst C 0 dX10_faultOfStory_102 (by decide) ?_
                  refine x_goto C 107 dX10_faultOfStory_103 (by decide) ?_
                  refine x_iadd C dX10_faultOfStory_107 ?_
                  refine x_istore_n C [(1, .int (x1_6 + 0)), (2, .int 1), (4, .int 1), (3, .int x3_6), (0, .ref hy)] dX10_faultOfStory_108 rfl (by decide) rfl ?_
                  refine x_iinc C 3 (x3_6 + 1) [(3, .int (x3_6 + 1)), (1, .int (x1_6 + 0)), (2, .int 1), (4, .int 1), (0, .ref hy)] dX10_faultOfStory_109 rfl rfl (by decide) rfl ?_
                  refine x_goto C 6 dX10_faultOfStory_112 (by decide) ?_
                  refine x_lv [(3, .int (x3_6 + 1)), (2, .int 1), (1, .int (x1_6 + 0)), (0, .ref hy)] [0, 2, 1, 4] rfl ?_
                  have : (1 : Int32).toInt = 1 := by decide
                  have := i_add (x := x3_6) (y := 1) (by omega) (by omega)
                  have : (1 : Int32).toInt = 1 := by decide
                  have : (0 : Int32).toInt = 0 := by decide
                  have := i_add (x := x1_6) (y := 0) (by omega) (by omega)
                  exact ih_6 (x3_6 + 1) 1 (x1_6 + 0) (by first | exact ⟨by omega, by rw [show x1_6 + 0 = x1_6 from Int32.add_zero _]; exact (sf_col (by omega) (by omega) (by assumption) (by assumption) (by omega)).symm.trans i_6.2⟩ | (exfalso; omega)) (by omega)
            · skip
              have e_75 : (1 : Int32).toInt = (0 : Int32).toInt := i_eq.mp c_75
              have : (1 : Int32).toInt = 1 := by decide
              have : (0 : Int32).toInt = 0 := by decide
              exfalso
              omega
  have : (0 : Int32).toInt = 0 := by decide
  have : (1 : Int32).toInt = 1 := by decide
  have : (0 : Int32).toInt = 0 := by decide
  exact L_6 _ 0 1 0 ⟨by omega, by rw [show (0 : Int32).toInt = 0 from rfl, Int.sub_zero]; rfl⟩ (Nat.lt_succ_self _)
abbrev rm_X10_faultOfRow : Room := { frames := 1, cells := 0, slots := 0, locals := 25 }
set_option maxHeartbeats 4000000 in
set_option maxRecDepth 100000 in
theorem c_X10_faultOfRow (l : Launch) (D : va_G) (tys : List (ClassId × FieldType)) {cI cJ cZ cB : ClassId} (hT : Ty tys cI cJ cZ cB) (hy m0 m1 m2 m3 m4 m5 m6 m7 m8 m9 m10 m11 m12 m13 m14 m15 m16 m17 m18 : Nat) (mp : Nat → Int32) (mw ml mb mz op bp by0 dp tk ka iw : Int32) (a b : Int32) (hz : 0 ≤ mz.toInt ∧ mz.toInt ≤ 30) : Cn l D tys yX10_faultOfRow cX10_faultOfRow 4 (some .int) rm_X10_faultOfRow [(hy, .inr (10, [.ref m0, .ref m1, .ref m2, .ref m3, .ref m4, .ref m5, .ref m6, .ref m7, .ref m8, .ref m9, .int mw, .int ml, .int mb, .ref m10, .int mz, .ref m11, .int op, .int bp, .int by0, .int dp, .int tk, .ref m12, .ref m13, .ref m14, .ref m15, .ref m16, .ref m17, .ref m18, .int ka, .int iw])), (m10, .inl (cI, 30, .inl mp))] [.ref hy, .int a, .int b] (fun v W1 => ∃ (r : Int32), v = some (.int r) ∧ W1 = [(hy, .inr (10, [.ref m0, .ref m1, .ref m2, .ref m3, .ref m4, .ref m5, .ref m6, .ref m7, .ref m8, .ref m9, .int mw, .int ml, .int mb, .ref m10, .int mz, .ref m11, .int op, .int bp, .int by0, .int dp, .int tk, .ref m12, .ref m13, .ref m14, .ref m15, .ref m16, .ref m17, .ref m18, .int ka, .int iw])), (m10, .inl (cI, 30, .inl mp))] ∧ (r = rfZ mp a.toInt b.toInt mz)) := by
  refine Cn.of (by decide) (Nat.le_of_ble_eq_true rfl) ?_ ?_ (fun X eL eD eT eO eK eN eM C => ?_)
  · intro h; cases h
  · intro v ws h; obtain ⟨_, rfl, rfl, _⟩ := h; exact Or.inl rfl
  subst eL eD eT
  show V X 4 [(hy, .inr (10, [.ref m0, .ref m1, .ref m2, .ref m3, .ref m4, .ref m5, .ref m6, .ref m7, .ref m8, .ref m9, .int mw, .int ml, .int mb, .ref m10, .int mz, .ref m11, .int op, .int bp, .int by0, .int dp, .int tk, .ref m12, .ref m13, .ref m14, .ref m15, .ref m16, .ref m17, .ref m18, .int ka, .int iw])), (m10, .inl (cI, 30, .inl mp))] [(0, .ref hy), (1, .int a), (2, .int b)] [] 0 0 0
  refine x_iconst C 0 dX10_faultOfRow_0 (by decide) ?_
  refine x_istore_n C [(3, .int 0), (0, .ref hy), (1, .int a), (2, .int b)] dX10_faultOfRow_1 rfl (by decide) rfl ?_
  have L_2 : ∀ (n_2 : Nat) (x3_2 : Int32), ((0 ≤ x3_2.toInt ∧ x3_2.toInt ≤ mz.toInt ∧ x3_2.toInt ≤ 16) ∧ rfL mp a.toInt b.toInt (mz.toInt - x3_2.toInt).toNat x3_2 = rfZ mp a.toInt b.toInt mz) → ((mz.toInt - x3_2.toInt).toNat < n_2) → V X 4 [(hy, .inr (10, [.ref m0, .ref m1, .ref m2, .ref m3, .ref m4, .ref m5, .ref m6, .ref m7, .ref m8, .ref m9, .int mw, .int ml, .int mb, .ref m10, .int mz, .ref m11, .int op, .int bp, .int by0, .int dp, .int tk, .ref m12, .ref m13, .ref m14, .ref m15, .ref m16, .ref m17, .ref m18, .int ka, .int iw])), (m10, .inl (cI, 30, .inl mp))] [(3, .int x3_2), (0, .ref hy), (1, .int a), (2, .int b)] [] 2 0 0 := by
    intro n_2
    induction n_2 with
    | zero =>
      intro x3_2 i_2 m_2
      exact absurd m_2 (Nat.not_lt_zero _)
    | succ n_2 ih_2 =>
      intro x3_2 i_2 m_2
      refine x_iload_n C 0 dX10_faultOfRow_2 rfl rfl ?_
      refine x_aload_n C 1 dX10_faultOfRow_3 rfl rfl ?_
      refine x_get C 0 14 dX10_faultOfRow_4 inlX10 rfl (by decide) wd_166 rfl rfl rfl ?_
      refine x_icmp_ge C 41 dX10_faultOfRow_7 (by decide) (fun c_7 => ?_) (fun c_7 => ?_)
      · skip
        have e_7 : (mz : Int32).toInt ≤ (x3_2 : Int32).toInt := i_le.mp c_7
        refine x_bipush C (-6) dX10_faultOfRow_41 (by decide) ?_
        have : ((-6) : Int32).toInt = -6 := by decide
        exact x_iret C dX10_faultOfRow_43 (Nat.zero_le _) (Nat.zero_le _) (by rw [eO]; exact ⟨((-6)), rfl, rfl, ((rf_end (by omega)).symm.trans i_2.2)⟩)
      · skip
        have e_7 : ¬ ((mz : Int32).toInt ≤ (x3_2 : Int32).toInt) := fun h => c_7 (i_le.mpr h)
        refine x_iload_n C 0 dX10_faultOfRow_10 rfl rfl ?_
        refine x_bipush C 16 dX10_faultOfRow_11 (by decide) ?_
        refine x_icmp_eq C 33 dX10_faultOfRow_13 (by decide) (fun c_13 => ?_) (fun c_13 => ?_)
        · skip
          have e_13 : (x3_2 : Int32).toInt = (16 : Int32).toInt := i_eq.mp c_13
          have : (16 : Int32).toInt = 16 := by decide
          refine x_iload_n C 0 dX10_faultOfRow_33 rfl rfl ?_
          exact x_iret C dX10_faultOfRow_34 (Nat.zero_le _) (Nat.zero_le _) (by rw [eO]; exact ⟨x3_2, rfl, rfl, ((rf_bad (by omega) (by omega) (by omega)).symm.trans i_2.2)⟩)
        · skip
          have e_13 : ¬ ((x3_2 : Int32).toInt = (16 : Int32).toInt) := fun h => c_13 (i_eq.mpr h)
          have : (16 : Int32).toInt = 16 := by decide
          refine x_aload_n C 1 dX10_faultOfRow_16 rfl rfl ?_
          refine x_get C 0 13 dX10_faultOfRow_17 inlX10 rfl (by decide) wd_132 rfl rfl rfl ?_
          refine x_iload_n C 0 dX10_faultOfRow_20 rfl rfl ?_
          have v_21 : vp_in x3_2 30 := (vp_in_iff.mpr (by omega))
          refine x_iald C 1 0 dX10_faultOfRow_21 hT.1 rfl v_21 ?_
          refine x_i2l C dX10_faultOfRow_22 ?_
          refine x_iload_n C 2 dX10_faultOfRow_23 rfl rfl ?_
          refine x_i2l C dX10_faultOfRow_24 ?_
          refine x_iload_n C 3 dX10_faultOfRow_25 rfl rfl ?_
          refine x_i2l C dX10_faultOfRow_26 ?_
          refine x_callS C [.long (Int32.toInt64 (mp (Int32.toNatClampNeg x3_2))), .long (Int32.toInt64 a), .long (Int32.toInt64 b)] [(hy, .inr (10, [.ref m0, .ref m1, .ref m2, .ref m3, .ref m4, .ref m5, .ref m6, .ref m7, .ref m8, .ref m9, .int mw, .int ml, .int mb, .ref m10, .int mz, .ref m11, .int op, .int bp, .int by0, .int dp, .int tk, .ref m12, .ref m13, .ref m14, .ref m15, .ref m16, .ref m17, .ref m18, .int ka, .int iw])), (m10, .inl (cI, 30, .inl mp))] [] [0, 1] (c_X10_in (xl X) (xD X) (xt X) hT (Int32.toInt64 (mp (Int32.toNatClampNeg x3_2))) (Int32.toInt64 a) (Int32.toInt64 b) ) dX10_faultOfRow_27 wd_167 wd_168 wd_5 wd_169 (np := 3) ⟨by decide, by decide, by decide +kernel⟩ rfl rfl (Nat.le_of_ble_eq_true rfl) (by decide) rfl (by decide) rfl (by decide) (by decide) (fun v W1 h => ?_)
          obtain ⟨r_27, rfl, rfl, h_27⟩ := h
          have : (Int32.toInt64 (mp (Int32.toNatClampNeg x3_2)) : Int64).toInt = ((mp (Int32.toNatClampNeg x3_2)) : Int32).toInt := Int32.toInt_toInt64 _
          have : (Int32.toInt64 a : Int64).toInt = (a : Int32).toInt := Int32.toInt_toInt64 _
          have : (Int32.toInt64 b : Int64).toInt = (b : Int32).toInt := Int32.toInt_toInt64 _
          show V X 4 [(hy, .inr (10, [.ref m0, .ref m1, .ref m2, .ref m3, .ref m4, .ref m5, .ref m6, .ref m7, .ref m8, .ref m9, .int mw, .int ml, .int mb, .ref m10, .int mz, .ref m11, .int op, .int bp, .int by0, .int dp, .int tk, .ref m12, .ref m13, .ref m14, .ref m15, .ref m16, .ref m17, .ref m18, .int ka, .int iw])), (m10, .inl (cI, 30, .inl mp))] [(3, .int x3_2), (0, .ref hy), (1, .int a), (2, .int b)] [.int r_27] 30 0 0
          refine x_if_ne C 35 dX10_faultOfRow_30 (by decide) (fun c_30 => ?_) (fun c_30 => ?_)
          · skip
            have e_30 : ¬ ((r_27 : Int32).toInt = (0 : Int32).toInt) := fun h => c_30 (i_eq.mpr h)
            have : (0 : Int32).toInt = 0 := by decide
            refine x_iinc C 0 (x3_2 + 1) [(3, .int (x3_2 + 1)), (0, .ref hy), (1, .int a), (2, .int b)] dX10_faultOfRow_35 rfl rfl (by decide) rfl ?_
            refine x_goto C 2 dX10_faultOfRow_38 (by decide) ?_
            have : (1 : Int32).toInt = 1 := by decide
            have := i_add (x := x3_2) (y := 1) (by omega) (by omega)
            exact ih_2 (x3_2 + 1) ⟨by omega, (rf_go (by omega) (by omega) (by omega)).symm.trans i_2.2⟩ (by omega)
          · skip
            have e_30 : (r_27 : Int32).toInt = (0 : Int32).toInt := i_eq.mp c_30
            have : (0 : Int32).toInt = 0 := by decide
            refine x_iload_n C 0 dX10_faultOfRow_33 rfl rfl ?_
            exact x_iret C dX10_faultOfRow_34 (Nat.zero_le _) (Nat.zero_le _) (by rw [eO]; exact ⟨x3_2, rfl, rfl, ((rf_bad (by omega) (by omega) (by omega)).symm.trans i_2.2)⟩)
  have : (0 : Int32).toInt = 0 := by decide
  exact L_2 _ 0 ⟨by omega, by rw [show (0 : Int32).toInt = 0 from rfl, Int.sub_zero]; rfl⟩ (Nat.lt_succ_self _)
abbrev rm_X10_fault : Room := { frames := 2, cells := 0, slots := 0, locals := 49 }
set_option maxHeartbeats 4000000 in
set_option maxRecDepth 100000 in
theorem c_X10_fault (l : Launch) (D : va_G) (tys : List (ClassId × FieldType)) {cI cJ cZ cB : ClassId} (hT : Ty tys cI cJ cZ cB) (hy m0 m1 m2 m3 m4 m5 m6 m7 m8 m9 m10 m11 m12 m13 m14 m15 m16 m17 m18 : Nat) (mp : Nat → Int32) (mw ml mb mz op bp by0 dp tk ka iw : Int32) (a : Int32) (hz : 0 ≤ mz.toInt ∧ mz.toInt ≤ 30) : Cn l D tys yX10_fault cX10_fault 2 (some .int) rm_X10_fault [(hy, .inr (10, [.ref m0, .ref m1, .ref m2, .ref m3, .ref m4, .ref m5, .ref m6, .ref m7, .ref m8, .ref m9, .int mw, .int ml, .int mb, .ref m10, .int mz, .ref m11, .int op, .int bp, .int by0, .int dp, .int tk, .ref m12, .ref m13, .ref m14, .ref m15, .ref m16, .ref m17, .ref m18, .int ka, .int iw])), (m10, .inl (cI, 30, .inl mp))] [.ref hy, .int a] (fun v W1 => ∃ (r : Int32), v = some (.int r) ∧ W1 = [(hy, .inr (10, [.ref m0, .ref m1, .ref m2, .ref m3, .ref m4, .ref m5, .ref m6, .ref m7, .ref m8, .ref m9, .int mw, .int ml, .int mb, .ref m10, .int mz, .ref m11, .int op, .int bp, .int by0, .int dp, .int tk, .ref m12, .ref m13, .ref m14, .ref m15, .ref m16, .ref m17, .ref m18, .int ka, .int iw])), (m10, .inl (cI, 30, .inl mp))] ∧ ((a.toInt = 0 → r = sfZ mp mz) ∧ (a.toInt = 1 → r = rfZ mp 97 100 mz) ∧ (a.toInt = 2 → r = rfZ mp 49 57 mz) ∧ (¬ (0 ≤ a.toInt ∧ a.toInt ≤ 2) → r = -2))) := by
  refine Cn.of (by decide) (Nat.le_of_ble_eq_true rfl) ?_ ?_ (fun X eL eD eT eO eK eN eM C => ?_)
  · intro h; cases h
  · intro v ws h; obtain ⟨_, rfl, rfl, _⟩ := h; exact Or.inl rfl
  subst eL eD eT
  show V X 2 [(hy, .inr (10, [.ref m0, .ref m1, .ref m2, .ref m3, .ref m4, .ref m5, .ref m6, .ref m7, .ref m8, .ref m9, .int mw, .int ml, .int mb, .ref m10, .int mz, .ref m11, .int op, .int bp, .int by0, .int dp, .int tk, .ref m12, .ref m13, .ref m14, .ref m15, .ref m16, .ref m17, .ref m18, .int ka, .int iw])), (m10, .inl (cI, 30, .inl mp))] [(0, .ref hy), (1, .int a)] [] 0 0 0
  refine x_iload_n C 1 dX10_fault_0 rfl rfl ?_
  refine x_if_ne C 11 dX10_fault_1 (by decide) (fun c_1 => ?_) (fun c_1 => ?_)
  · skip
    have e_1 : ¬ ((a : Int32).toInt = (0 : Int32).toInt) := fun h => c_1 (i_eq.mpr h)
    have : (0 : Int32).toInt = 0 := by decide
    refine x_iload_n C 1 dX10_fault_11 rfl rfl ?_
    refine x_iconst C 1 dX10_fault_12 (by decide) ?_
    refine x_icmp_ne C 27 dX10_fault_13 (by decide) (fun c_13 => ?_) (fun c_13 => ?_)
    · skip
      have e_13 : ¬ ((a : Int32).toInt = (1 : Int32).toInt) := fun h => c_13 (i_eq.mpr h)
      have : (1 : Int32).toInt = 1 := by decide
      refine x_iload_n C 1 dX10_fault_27 rfl rfl ?_
      refine x_iconst C 2 dX10_fault_28 (by decide) ?_
      refine x_icmp_ne C 43 dX10_fault_29 (by decide) (fun c_29 => ?_) (fun c_29 => ?_)
      · skip
        have e_29 : ¬ ((a : Int32).toInt = (2 : Int32).toInt) := fun h => c_29 (i_eq.mpr h)
        have : (2 : Int32).toInt = 2 := by decide
        refine x_bipush C (-2) dX10_fault_43 (by decide) ?_
        have : ((-2) : Int32).toInt = -2 := by decide
        exact x_iret C dX10_fault_45 (Nat.zero_le _) (Nat.zero_le _) (by rw [eO]; exact ⟨((-2)), rfl, rfl, (by refine ⟨fun h => ?_, fun h => ?_, fun h => ?_, fun h => ?_⟩ <;> first | (exfalso; omega) | exact h_5 | exact h_19 | exact h_34 | assumption | rfl)⟩)
      · skip
        have e_29 : (a : Int32).toInt = (2 : Int32).toInt := i_eq.mp c_29
        have : (2 : Int32).toInt = 2 := by decide
        refine x_aload_n C 0 dX10_fault_32 rfl rfl ?_
        refine x_bipush C 49 dX10_fault_33 (by decide) ?_
        refine x_bipush C 57 dX10_fault_35 (by decide) ?_
        refine x_callV C [.int 49, .int 57] [] [0, 1] [] (q0 := 0) (c_X10_faultOfRow (xl X) (xD X) (xt X) hT hy m0 m1 m2 m3 m4 m5 m6 m7 m8 m9 m10 m11 m12 m13 m14 m15 m16 m17 m18 mp mw ml mb mz op bp by0 dp tk ka iw 49 57 hz) dX10_fault_37 wd_211 wd_212 wd_213 wd_5 wd_214 (np := 2) ⟨by decide, by decide, by decide +kernel⟩ rfl rfl (Nat.le_of_ble_eq_true rfl) (by decide) rfl rfl rfl rfl (by decide) rfl (by decide) (by decide) (fun v W1 h => ?_)
        obtain ⟨r_37, rfl, rfl, h_37⟩ := h
        have : (49 : Int32).toInt = 49 := by decide
        have : (57 : Int32).toInt = 57 := by decide
        show V X 2 [(hy, .inr (10, [.ref m0, .ref m1, .ref m2, .ref m3, .ref m4, .ref m5, .ref m6, .ref m7, .ref m8, .ref m9, .int mw, .int ml, .int mb, .ref m10, .int mz, .ref m11, .int op, .int bp, .int by0, .int dp, .int tk, .ref m12, .ref m13, .ref m14, .ref m15, .ref m16, .ref m17, .ref m18, .int ka, .int iw])), (m10, .inl (cI, 30, .inl mp))] [(0, .ref hy), (1, .int a)] [.int r_37] 40 0 0
        refine x_goto C 45 dX10_fault_40 (by decide) ?_
        exact x_iret C dX10_fault_45 (Nat.zero_le _) (Nat.zero_le _) (by rw [eO]; exact ⟨r_37, rfl, rfl, (by refine ⟨fun h => ?_, fun h => ?_, fun h => ?_, fun h => ?_⟩ <;> first | (exfalso; omega) | exact h_5 | exact h_19 | exact h_34 | assumption | rfl)⟩)
    · skip
      have e_13 : (a : Int32).toInt = (1 : Int32).toInt := i_eq.mp c_13
      have : (1 : Int32).toInt = 1 := by decide
      refine x_aload_n C 0 dX10_fault_16 rfl rfl ?_
      refine x_bipush C 97 dX10_fault_17 (by decide) ?_
      refine x_bipush C 100 dX10_fault_19 (by decide) ?_
      refine x_callV C [.int 97, .int 100] [] [0, 1] [] (q0 := 0) (c_X10_faultOfRow (xl X) (xD X) (xt X) hT hy m0 m1 m2 m3 m4 m5 m6 m7 m8 m9 m10 m11 m12 m13 m14 m15 m16 m17 m18 mp mw ml mb mz op bp by0 dp tk ka iw 97 100 hz) dX10_fault_21 wd_211 wd_212 wd_213 wd_5 wd_214 (np := 2) ⟨by decide, by decide, by decide +kernel⟩ rfl rfl (Nat.le_of_ble_eq_true rfl) (by decide) rfl rfl rfl rfl (by decide) rfl (by decide) (by decide) (fun v W1 h => ?_)
      obtain ⟨r_21, rfl, rfl, h_21⟩ := h
      have : (100 : Int32).toInt = 100 := by decide
      have : (97 : Int32).toInt = 97 := by decide
      show V X 2 [(hy, .inr (10, [.ref m0, .ref m1, .ref m2, .ref m3, .ref m4, .ref m5, .ref m6, .ref m7, .ref m8, .ref m9, .int mw, .int ml, .int mb, .ref m10, .int mz, .ref m11, .int op, .int bp, .int by0, .int dp, .int tk, .ref m12, .ref m13, .ref m14, .ref m15, .ref m16, .ref m17, .ref m18, .int ka, .int iw])), (m10, .inl (cI, 30, .inl mp))] [(0, .ref hy), (1, .int a)] [.int r_21] 24 0 0
      refine x_goto C 45 dX10_fault_24 (by decide) ?_
      exact x_iret C dX10_fault_45 (Nat.zero_le _) (Nat.zero_le _) (by rw [eO]; exact ⟨r_21, rfl, rfl, (by refine ⟨fun h => ?_, fun h => ?_, fun h => ?_, fun h => ?_⟩ <;> first | (exfalso; omega) | exact h_5 | exact h_19 | exact h_34 | assumption | rfl)⟩)
  · skip
    have e_1 : (a : Int32).toInt = (0 : Int32).toInt := i_eq.mp c_1
    have : (0 : Int32).toInt = 0 := by decide
    refine x_aload_n C 0 dX10_fault_4 rfl rfl ?_
    refine x_callV C [] [] [0, 1] [] (q0 := 0) (c_X10_faultOfStory (xl X) (xD X) (xt X) hT hy m0 m1 m2 m3 m4 m5 m6 m7 m8 m9 m10 m11 m12 m13 m14 m15 m16 m17 m18 mp mw ml mb mz op bp by0 dp tk ka iw hz) dX10_fault_5 wd_205 wd_206 wd_207 wd_5 wd_208 (np := 0) ⟨by decide, by decide, by decide +kernel⟩ rfl rfl (Nat.le_of_ble_eq_true rfl) (by decide) rfl rfl rfl rfl (by decide) rfl (by decide) (by decide) (fun v W1 h => ?_)
    obtain ⟨r_5, rfl, rfl, h_5⟩ := h
    show V X 2 [(hy, .inr (10, [.ref m0, .ref m1, .ref m2, .ref m3, .ref m4, .ref m5, .ref m6, .ref m7, .ref m8, .ref m9, .int mw, .int ml, .int mb, .ref m10, .int mz, .ref m11, .int op, .int bp, .int by0, .int dp, .int tk, .ref m12, .ref m13, .ref m14, .ref m15, .ref m16, .ref m17, .ref m18, .int ka, .int iw])), (m10, .inl (cI, 30, .inl mp))] [(0, .ref hy), (1, .int a)] [.int r_5] 8 0 0
    refine x_goto C 45 dX10_fault_8 (by decide) ?_
    exact x_iret C dX10_fault_45 (Nat.zero_le _) (Nat.zero_le _) (by rw [eO]; exact ⟨r_5, rfl, rfl, (by refine ⟨fun h => ?_, fun h => ?_, fun h => ?_, fun h => ?_⟩ <;> first | (exfalso; omega) | exact h_5 | exact h_19 | exact h_34 | assumption | rfl)⟩)
