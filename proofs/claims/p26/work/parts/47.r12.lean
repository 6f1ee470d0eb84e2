abbrev rm_X10_passW : Room := { frames := 0, cells := 0, slots := 0, locals := 0 }
set_option maxHeartbeats 4000000 in
set_option maxRecDepth 100000 in
theorem c_X10_passW (l : Launch) (D : va_G) (tys : List (ClassId × FieldType)) {cI cJ cZ cB : ClassId} (hT : Ty tys cI cJ cZ cB) (hy m0 m1 m2 m3 m4 m5 m6 m7 m8 m9 m10 m11 m12 m13 m14 m15 m16 m17 m18 : Nat) (kt : Nat → Int32) (mw ml mb mz op bp by0 dp tk ka : Int32) (x : Int32) (hka : 0 ≤ ka.toInt ∧ ka.toInt < 120) : Cn l D tys yX10_pass cX10_pass 3 (some .int) rm_X10_passW [(hy, .inr (10, [.ref m0, .ref m1, .ref m2, .ref m3, .ref m4, .ref m5, .ref m6, .ref m7, .ref m8, .ref m9, .int mw, .int ml, .int mb, .ref m10, .int mz, .ref m11, .int op, .int bp, .int by0, .int dp, .int tk, .ref m12, .ref m13, .ref m14, .ref m15, .ref m16, .ref m17, .ref m18, .int ka, .int 1])), (m17, .inl (cI, 120, .inl kt))] [.ref hy, .int x] (fun v W1 => ∃ (_ : Unit), v = some (.int x) ∧ W1 = [(hy, .inr (10, [.ref m0, .ref m1, .ref m2, .ref m3, .ref m4, .ref m5, .ref m6, .ref m7, .ref m8, .ref m9, .int mw, .int ml, .int mb, .ref m10, .int mz, .ref m11, .int op, .int bp, .int by0, .int dp, .int tk, .ref m12, .ref m13, .ref m14, .ref m15, .ref m16, .ref m17, .ref m18, .int (ka + 1), .int 1])), (m17, .inl (cI, 120, .inl (upd kt (Int32.toNatClampNeg ka) x)))] ∧ (True)) := by
  refine Cn.of (by decide) (Nat.le_of_ble_eq_true rfl) ?_ ?_ (fun X eL eD eT eO eK eN eM C => ?_)
  · intro h; cases h
  · intro v ws h; obtain ⟨_, rfl, rfl, _⟩ := h; exact Or.inl rfl
  subst eL eD eT
  show V X 3 [(hy, .inr (10, [.ref m0, .ref m1, .ref m2, .ref m3, .ref m4, .ref m5, .ref m6, .ref m7, .ref m8, .ref m9, .int mw, .int ml, .int mb, .ref m10, .int mz, .ref m11, .int op, .int bp, .int by0, .int dp, .int tk, .ref m12, .ref m13, .ref m14, .ref m15, .ref m16, .ref m17, .ref m18, .int ka, .int 1])), (m17, .inl (cI, 120, .inl kt))] [(0, .ref hy), (1, .int x)] [] 0 0 0
  refine x_aload_n C 0 dX10_pass_0 rfl rfl ?_
  refine x_get C 0 29 dX10_pass_1 inlX10 rfl (by decide) wd_862 rfl rfl rfl ?_
  refine x_if_eq C 11 dX10_pass_4 (by decide) (fun c_4 => ?_) (fun c_4 => ?_)
  · skip
    have e_4 : (1 : Int32).toInt = (0 : Int32).toInt := i_eq.mp c_4
    have : (1 : Int32).toInt = 1 := by decide
    have : (0 : Int32).toInt = 0 := by decide
    exfalso
    omega
  · skip
    have e_4 : ¬ ((1 : Int32).toInt = (0 : Int32).toInt) := fun h => c_4 (i_eq.mpr h)
    have : (1 : Int32).toInt = 1 := by decide
    have : (0 : Int32).toInt = 0 := by decide
    refine x_iload_n C 1 dX10_pass_7 rfl rfl ?_
    refine x_goto C 20 dX10_pass_8 (by decide) ?_
    refine x_istore_n C [(2, .int x), (0, .ref hy), (1, .int x)] dX10_pass_20 rfl (by decide) rfl ?_
    refine x_aload_n C 1 dX10_pass_21 rfl rfl ?_
    refine x_get C 0 26 dX10_pass_22 inlX10 rfl (by decide) wd_141 rfl rfl rfl ?_
    refine x_aload_n C 1 dX10_pass_25 rfl rfl ?_
    refine x_get C 0 28 dX10_pass_26 inlX10 rfl (by decide) wd_861 rfl rfl rfl ?_
    refine x_iload_n C 0 dX10_pass_29 rfl rfl ?_
    have v_30 : vp_in ka 120 := (vp_in_iff.mpr (by omega))
    refine x_iast C 1 0 [(hy, .inr (10, [.ref m0, .ref m1, .ref m2, .ref m3, .ref m4, .ref m5, .ref m6, .ref m7, .ref m8, .ref m9, .int mw, .int ml, .int mb, .ref m10, .int mz, .ref m11, .int op, .int bp, .int by0, .int dp, .int tk, .ref m12, .ref m13, .ref m14, .ref m15, .ref m16, .ref m17, .ref m18, .int ka, .int 1])), (m17, .inl (cI, 120, .inl (upd kt (Int32.toNatClampNeg ka) x)))] dX10_pass_30 hT.1 rfl v_30 rfl ?_
    refine x_aload_n C 1 dX10_pass_31 rfl rfl ?_
    refine x_dup C dX10_pass_32 rfl ?_
    refine x_get C 0 28 dX10_pass_33 inlX10 rfl (by decide) wd_861 rfl rfl rfl ?_
    refine x_iconst C 1 dX10_pass_36 (by decide) ?_
    refine x_iadd C dX10_pass_37 ?_
    refine x_put C 0 28 (ty := .int) [(hy, .inr (10, [.ref m0, .ref m1, .ref m2, .ref m3, .ref m4, .ref m5, .ref m6, .ref m7, .ref m8, .ref m9, .int mw, .int ml, .int mb, .ref m10, .int mz, .ref m11, .int op, .int bp, .int by0, .int dp, .int tk, .ref m12, .ref m13, .ref m14, .ref m15, .ref m16, .ref m17, .ref m18, .int (ka + 1), .int 1])), (m17, .inl (cI, 120, .inl (upd kt (Int32.toNatClampNeg ka) x)))] dX10_pass_38 inlX10 tyX10 tyX10_ok nmX10 rfl (by decide) wd_861 rfl rfl rfl rfl rfl rfl (Nat.le_of_ble_eq_true rfl) rfl ?_
    refine x_iload_n C 0 dX10_pass_41 rfl rfl ?_
    exact x_iret C dX10_pass_42 (Nat.zero_le _) (Nat.zero_le _) (by rw [eO]; exact ⟨(), rfl, rfl, trivial⟩)
abbrev rm_X10_passAllW : Room := { frames := 1, cells := 0, slots := 0, locals := 22 }
set_option maxHeartbeats 4000000 in
set_option maxRecDepth 100000 in
theorem c_X10_passAllW (l : Launch) (D : va_G) (tys : List (ClassId × FieldType)) {cI cJ cZ cB : ClassId} (hT : Ty tys cI cJ cZ cB) (hy m0 m1 m2 m3 m4 m5 m6 m7 m8 m9 m10 m11 m12 m13 m14 m15 m16 m17 m18 : Nat) (kt ma mg mt mk mm wf wp wt : Nat → Int32) (mw ml mb mz op bp by0 dp tk ka : Int32) (hk0 : ka.toInt = 0 ∨ ka.toInt = 60) : Cn l D tys yX10_passAll cX10_passAll 2 none rm_X10_passAllW [(hy, .inr (10, [.ref m0, .ref m1, .ref m2, .ref m3, .ref m4, .ref m5, .ref m6, .ref m7, .ref m8, .ref m9, .int mw, .int ml, .int mb, .ref m10, .int mz, .ref m11, .int op, .int bp, .int by0, .int dp, .int tk, .ref m12, .ref m13, .ref m14, .ref m15, .ref m16, .ref m17, .ref m18, .int ka, .int 1])), (m17, .inl (cI, 120, .inl kt)), (m2, .inl (cI, 4, .inl ma)), (m4, .inl (cI, 4, .inl mg)), (m5, .inl (cI, 4, .inl mt)), (m6, .inl (cI, 4, .inl mk)), (m3, .inl (cI, 16, .inl mm)), (m7, .inl (cI, 6, .inl wf)), (m8, .inl (cI, 6, .inl wp)), (m9, .inl (cI, 6, .inl wt))] [.ref hy] (fun v W1 => ∃ (kt2 : Nat → Int32) (ka2 : Int32), v = none ∧ W1 = [(hy, .inr (10, [.ref m0, .ref m1, .ref m2, .ref m3, .ref m4, .ref m5, .ref m6, .ref m7, .ref m8, .ref m9, .int mw, .int ml, .int mb, .ref m10, .int mz, .ref m11, .int op, .int bp, .int by0, .int dp, .int tk, .ref m12, .ref m13, .ref m14, .ref m15, .ref m16, .ref m17, .ref m18, .int ka2, .int 1])), (m17, .inl (cI, 120, .inl kt2)), (m2, .inl (cI, 4, .inl ma)), (m4, .inl (cI, 4, .inl mg)), (m5, .inl (cI, 4, .inl mt)), (m6, .inl (cI, 4, .inl mk)), (m3, .inl (cI, 16, .inl mm)), (m7, .inl (cI, 6, .inl wf)), (m8, .inl (cI, 6, .inl wp)), (m9, .inl (cI, 6, .inl wt))] ∧ (kt2 = kw kt ka.toInt.toNat (fo ma mm mg mt mk wf wp wt mw ml mb) 53)) := by
  refine Cn.of (by decide) (Nat.le_of_ble_eq_true rfl) ?_ ?_ (fun X eL eD eT eO eK eN eM C => ?_)
  · intro h; cases h
  · intro v ws h; obtain ⟨_, _, rfl, rfl, _⟩ := h; rfl
  subst eL eD eT
  show V X 2 [(hy, .inr (10, [.ref m0, .ref m1, .ref m2, .ref m3, .ref m4, .ref m5, .ref m6, .ref m7, .ref m8, .ref m9, .int mw, .int ml, .int mb, .ref m10, .int mz, .ref m11, .int op, .int bp, .int by0, .int dp, .int tk, .ref m12, .ref m13, .ref m14, .ref m15, .ref m16, .ref m17, .ref m18, .int ka, .int 1])), (m17, .inl (cI, 120, .inl kt)), (m2, .inl (cI, 4, .inl ma)), (m4, .inl (cI, 4, .inl mg)), (m5, .inl (cI, 4, .inl mt)), (m6, .inl (cI, 4, .inl mk)), (m3, .inl (cI, 16, .inl mm)), (m7, .inl (cI, 6, .inl wf)), (m8, .inl (cI, 6, .inl wp)), (m9, .inl (cI, 6, .inl wt))] [(0, .ref hy)] [] 0 0 0
  refine x_aload_n C 0 dX10_passAll_0 rfl rfl ?_
  refine x_aload_n C 0 dX10_passAll_1 rfl rfl ?_
  refine x_aload_n C 0 dX10_passAll_2 rfl rfl ?_
  refine x_get C 0 10 dX10_passAll_3 inlX10 rfl (by decide) wd_260 rfl rfl rfl ?_
  refine x_callV C [.int mw] [(m2, .inl (cI, 4, .inl ma)), (m4, .inl (cI, 4, .inl mg)), (m5, .inl (cI, 4, .inl mt)), (m6, .inl (cI, 4, .inl mk)), (m3, .inl (cI, 16, .inl mm)), (m7, .inl (cI, 6, .inl wf)), (m8, .inl (cI, 6, .inl wp)), (m9, .inl (cI, 6, .inl wt))] [0, 1] [2, 3, 4, 5, 6, 7, 8, 9] (q0 := 0) (c_X10_passW (xl X) (xD X) (xt X) hT hy m0 m1 m2 m3 m4 m5 m6 m7 m8 m9 m10 m11 m12 m13 m14 m15 m16 m17 m18 kt mw ml mb mz op bp by0 dp tk ka mw (by omega)) dX10_passAll_6 wd_867 wd_868 wd_869 wd_5 wd_870 (np := 1) ⟨by decide, by decide, by decide +kernel⟩ rfl rfl (Nat.le_of_ble_eq_true rfl) (by decide) rfl rfl rfl rfl (by decide) rfl (by decide) (by decide) (fun v W1 h => ?_)
  obtain ⟨_, rfl, rfl, h_6⟩ := h
  show V X 2 [(m2, .inl (cI, 4, .inl ma)), (m4, .inl (cI, 4, .inl mg)), (m5, .inl (cI, 4, .inl mt)), (m6, .inl (cI, 4, .inl mk)), (m3, .inl (cI, 16, .inl mm)), (m7, .inl (cI, 6, .inl wf)), (m8, .inl (cI, 6, .inl wp)), (m9, .inl (cI, 6, .inl wt)), (hy, .inr (10, [.ref m0, .ref m1, .ref m2, .ref m3, .ref m4, .ref m5, .ref m6, .ref m7, .ref m8, .ref m9, .int mw, .int ml, .int mb, .ref m10, .int mz, .ref m11, .int op, .int bp, .int by0, .int dp, .int tk, .ref m12, .ref m13, .ref m14, .ref m15, .ref m16, .ref m17, .ref m18, .int (ka + 1), .int 1])), (m17, .inl (cI, 120, .inl (upd kt (Int32.toNatClampNeg ka) mw)))] [(0, .ref hy)] [.int mw, .ref hy] 9 0 0
  have w_6 := kw_step (kt := kt) (b := ka.toInt.toNat) (g := (fo ma mm mg mt mk wf wp wt mw ml mb)) (n := 0) (n' := 1) (kc := ka) (x := mw) kw_z.symm (by omega) (rfl) (by omega)
  refine x_put C 8 10 (ty := .int) [(m2, .inl (cI, 4, .inl ma)), (m4, .inl (cI, 4, .inl mg)), (m5, .inl (cI, 4, .inl mt)), (m6, .inl (cI, 4, .inl mk)), (m3, .inl (cI, 16, .inl mm)), (m7, .inl (cI, 6, .inl wf)), (m8, .inl (cI, 6, .inl wp)), (m9, .inl (cI, 6, .inl wt)), (hy, .inr (10, [.ref m0, .ref m1, .ref m2, .ref m3, .ref m4, .ref m5, .ref m6, .ref m7, .ref m8, .ref m9, .int mw, .int ml, .int mb, .ref m10, .int mz, .ref m11, .int op, .int bp, .int by0, .int dp, .int tk, .ref m12, .ref m13, .ref m14, .ref m15, .ref m16, .ref m17, .ref m18, .int (ka + 1), .int 1])), (m17, .inl (cI, 120, .inl (upd kt (Int32.toNatClampNeg ka) mw)))] dX10_passAll_9 inlX10 tyX10 tyX10_ok nmX10 rfl (by decide) wd_260 rfl rfl rfl rfl rfl rfl (Nat.le_of_ble_eq_true rfl) rfl ?_
  refine x_aload_n C 0 dX10_passAll_12 rfl rfl ?_
  refine x_aload_n C 0 dX10_passAll_13 rfl rfl ?_
  refine x_aload_n C 0 dX10_passAll_14 rfl rfl ?_
  refine x_get C 8 11 dX10_passAll_15 inlX10 rfl (by decide) wd_347 rfl rfl rfl ?_
  have : (1 : Int32).toInt = 1 := by decide
  have := i_add (x := ka) (y := 1) (by omega) (by omega)
  refine x_callV C [.int ml] [(m2, .inl (cI, 4, .inl ma)), (m4, .inl (cI, 4, .inl mg)), (m5, .inl (cI, 4, .inl mt)), (m6, .inl (cI, 4, .inl mk)), (m3, .inl (cI, 16, .inl mm)), (m7, .inl (cI, 6, .inl wf)), (m8, .inl (cI, 6, .inl wp)), (m9, .inl (cI, 6, .inl wt))] [8, 9] [0, 1, 2, 3, 4, 5, 6, 7] (q0 := 0) (c_X10_passW (xl X) (xD X) (xt X) hT hy m0 m1 m2 m3 m4 m5 m6 m7 m8 m9 m10 m11 m12 m13 m14 m15 m16 m17 m18 (upd kt (Int32.toNatClampNeg ka) mw) mw ml mb mz op bp by0 dp tk (ka + 1) ml (by omega)) dX10_passAll_18 wd_867 wd_868 wd_869 wd_5 wd_870 (np := 1) ⟨by decide, by decide, by decide +kernel⟩ rfl rfl (Nat.le_of_ble_eq_true rfl) (by decide) rfl rfl rfl rfl (by decide) rfl (by decide) (by decide) (fun v W1 h => ?_)
  obtain ⟨_, rfl, rfl, h_18⟩ := h
  show V X 2 [(m2, .inl (cI, 4, .inl ma)), (m4, .inl (cI, 4, .inl mg)), (m5, .inl (cI, 4, .inl mt)), (m6, .inl (cI, 4, .inl mk)), (m3, .inl (cI, 16, .inl mm)), (m7, .inl (cI, 6, .inl wf)), (m8, .inl (cI, 6, .inl wp)), (m9, .inl (cI, 6, .inl wt)), (hy, .inr (10, [.ref m0, .ref m1, .ref m2, .ref m3, .ref m4, .ref m5, .ref m6, .ref m7, .ref m8, .ref m9, .int mw, .int ml, .int mb, .ref m10, .int mz, .ref m11, .int op, .int bp, .int by0, .int dp, .int tk, .ref m12, .ref m13, .ref m14, .ref m15, .ref m16, .ref m17, .ref m18, .int ((ka + 1) + 1), .int 1])), (m17, .inl (cI, 120, .inl (upd (upd kt (Int32.toNatClampNeg ka) mw) (Int32.toNatClampNeg (ka + 1)) ml)))] [(0, .ref hy)] [.int ml, .ref hy] 21 0 0
  have w_18 := kw_step (kt := kt) (b := ka.toInt.toNat) (g := (fo ma mm mg mt mk wf wp wt mw ml mb)) (n := 1) (n' := 2) (kc := (ka + 1)) (x := ml) w_6 (by omega) (rfl) (by omega)
  refine x_put C 8 11 (ty := .int) [(m2, .inl (cI, 4, .inl ma)), (m4, .inl (cI, 4, .inl mg)), (m5, .inl (cI, 4, .inl mt)), (m6, .inl (cI, 4, .inl mk)), (m3, .inl (cI, 16, .inl mm)), (m7, .inl (cI, 6, .inl wf)), (m8, .inl (cI, 6, .inl wp)), (m9, .inl (cI, 6, .inl wt)), (hy, .inr (10, [.ref m0, .ref m1, .ref m2, .ref m3, .ref m4, .ref m5, .ref m6, .ref m7, .ref m8, .ref m9, .int mw, .int ml, .int mb, .ref m10, .int mz, .ref m11, .int op, .int bp, .int by0, .int dp, .int tk, .ref m12, .ref m13, .ref m14, .ref m15, .ref m16, .ref m17, .ref m18, .int ((ka + 1) + 1), .int 1])), (m17, .inl (cI, 120, .inl (upd (upd kt (Int32.toNatClampNeg ka) mw) (Int32.toNatClampNeg (ka + 1)) ml)))] dX10_passAll_21 inlX10 tyX10 tyX10_ok nmX10 rfl (by decide) wd_347 rfl rfl rfl rfl rfl rfl (Nat.le_of_ble_eq_true rfl) rfl ?_
  refine x_aload_n C 0 dX10_passAll_24 rfl rfl ?_
  refine x_aload_n C 0 dX10_passAll_25 rfl rfl ?_
  refine x_aload_n C 0 dX10_passAll_26 rfl rfl ?_
  refine x_get C 8 12 dX10_passAll_27 inlX10 rfl (by decide) wd_348 rfl rfl rfl ?_
  have : (1 : Int32).toInt = 1 := by decide
  have := i_add (x := ka) (y := 1) (by omega) (by omega)
  have : (1 : Int32).toInt = 1 := by decide
  have := i_add (x := (ka + 1)) (y := 1) (by omega) (by omega)
  refine x_callV C [.int mb] [(m2, .inl (cI, 4, .inl ma)), (m4, .inl (cI, 4, .inl mg)), (m5, .inl (cI, 4, .inl mt)), (m6, .inl (cI, 4, .inl mk)), (m3, .inl (cI, 16, .inl mm)), (m7, .inl (cI, 6, .inl wf)), (m8, .inl (cI, 6, .inl wp)), (m9, .inl (cI, 6, .inl wt))] [8, 9] [0, 1, 2, 3, 4, 5, 6, 7] (q0 := 0) (c_X10_passW (xl X) (xD X) (xt X) hT hy m0 m1 m2 m3 m4 m5 m6 m7 m8 m9 m10 m11 m12 m13 m14 m15 m16 m17 m18 (upd (upd kt (Int32.toNatClampNeg ka) mw) (Int32.toNatClampNeg (ka + 1)) ml) mw ml mb mz op bp by0 dp tk ((ka + 1) + 1) mb (by omega)) dX10_passAll_30 wd_867 wd_868 wd_869 wd_5 wd_870 (np := 1) ⟨by decide, by decide, by decide +kernel⟩ rfl rfl (Nat.le_of_ble_eq_true rfl) (by decide) rfl rfl rfl rfl (by decide) rfl (by decide) (by decide) (fun v W1 h => ?_)
  obtain ⟨_, rfl, rfl, h_30⟩ := h
  show V X 2 [(m2, .inl (cI, 4, .inl ma)), (m4, .inl (cI, 4, .inl mg)), (m5, .inl (cI, 4, .inl mt)), (m6, .inl (cI, 4, .inl mk)), (m3, .inl (cI, 16, .inl mm)), (m7, .inl (cI, 6, .inl wf)), (m8, .inl (cI, 6, .inl wp)), (m9, .inl (cI, 6, .inl wt)), (hy, .inr (10, [.ref m0, .ref m1, .ref m2, .ref m3, .ref m4, .ref m5, .ref m6, .ref m7, .ref m8, .ref m9, .int mw, .int ml, .int mb, .ref m10, .int mz, .ref m11, .int op, .int bp, .int by0, .int dp, .int tk, .ref m12, .ref m13, .ref m14, .ref m15, .ref m16, .ref m17, .ref m18, .int (((ka + 1) + 1) + 1), .int 1])), (m17, .inl (cI, 120, .inl (upd (upd (upd kt (Int32.toNatClampNeg ka) mw) (Int32.toNatClampNeg (ka + 1)) ml) (Int32.toNatClampNeg ((ka + 1) + 1)) mb)))] [(0, .ref hy)] [.int mb, .ref hy] 33 0 0
  have w_30 := kw_step (kt := kt) (b := ka.toInt.toNat) (g := (fo ma mm mg mt mk wf wp wt mw ml mb)) (n := 2) (n' := 3) (kc := ((ka + 1) + 1)) (x := mb) w_18 (by omega) (rfl) (by omega)
  refine x_put C 8 12 (ty := .int) [(m2, .inl (cI, 4, .inl ma)), (m4, .inl (cI, 4, .inl mg)), (m5, .inl (cI, 4, .inl mt)), (m6, .inl (cI, 4, .inl mk)), (m3, .inl (cI, 16, .inl mm)), (m7, .inl (cI, 6, .inl wf)), (m8, .inl (cI, 6, .inl wp)), (m9, .inl (cI, 6, .inl wt)), (hy, .inr (10, [.ref m0, .ref m1, .ref m2, .ref m3, .ref m4, .ref m5, .ref m6, .ref m7, .ref m8, .ref m9, .int mw, .int ml, .int mb, .ref m10, .int mz, .ref m11, .int op, .int bp, .int by0, .int dp, .int tk, .ref m12, .ref m13, .ref m14, .ref m15, .ref m16, .ref m17, .ref m18, .int (((ka + 1) + 1) + 1), .int 1])), (m17, .inl (cI, 120, .inl (upd (upd (upd kt (Int32.toNatClampNeg ka) mw) (Int32.toNatClampNeg (ka + 1)) ml) (Int32.toNatClampNeg ((ka + 1) + 1)) mb)))] dX10_passAll_33 inlX10 tyX10 tyX10_ok nmX10 rfl (by decide) wd_348 rfl rfl rfl rfl rfl rfl (Nat.le_of_ble_eq_true rfl) rfl ?_
  refine x_iconst C 0 dX10_passAll_36 (by decide) ?_
  refine x_istore_n C [(1, .int 0), (0, .ref hy)] dX10_passAll_37 rfl (by decide) rfl ?_
  have L_38 : ∀ (n_38 : Nat) (x1_38 : Int32) (ghy28_38 : Int32) (fm17_38 : Nat → Int32), (((0 ≤ x1_38.toInt ∧ x1_38.toInt ≤ 4) ∧ ghy28_38.toInt = ka.toInt + 3 + 4 * x1_38.toInt) ∧ fm17_38 = kw kt ka.toInt.toNat (fo ma mm mg mt mk wf wp wt mw ml mb) (3 + 4 * x1_38.toInt.toNat)) → ((4 - x1_38.toInt).toNat < n_38) → V X 2 [(m2, .inl (cI, 4, .inl ma)), (m4, .inl (cI, 4, .inl mg)), (m5, .inl (cI, 4, .inl mt)), (m6, .inl (cI, 4, .inl mk)), (m3, .inl (cI, 16, .inl mm)), (m7, .inl (cI, 6, .inl wf)), (m8, .inl (cI, 6, .inl wp)), (m9, .inl (cI, 6, .inl wt)), (hy, .inr (10, [.ref m0, .ref m1, .ref m2, .ref m3, .ref m4, .ref m5, .ref m6, .ref m7, .ref m8, .ref m9, .int mw, .int ml, .int mb, .ref m10, .int mz, .ref m11, .int op, .int bp, .int by0, .int dp, .int tk, .ref m12, .ref m13, .ref m14, .ref m15, .ref m16, .ref m17, .ref m18, .int ghy28_38, .int 1])), (m17, .inl (cI, 120, .inl fm17_38))] [(1, .int x1_38), (0, .ref hy)] [] 38 0 0 := by
    intro n_38
    induction n_38 with
    | zero =>
      intro x1_38 ghy28_38 fm17_38 i_38 m_38
      exact absurd m_38 (Nat.not_lt_zero _)
    | succ n_38 ih_38 =>
      intro x1_38 ghy28_38 fm17_38 i_38 m_38
      refine x_iload_n C 0 dX10_passAll_38 rfl rfl ?_
      refine x_iconst C 4 dX10_passAll_39 (by decide) ?_
      refine x_icmp_ge C 113 dX10_passAll_40 (by decide) (fun c_40 => ?_) (fun c_40 => ?_)
      · skip
        have e_40 : (4 : Int32).toInt ≤ (x1_38 : Int32).toInt := i_le.mp c_40
        have : (4 : Int32).toInt = 4 := by decide
        refine x_iconst C 0 dX10_passAll_113 (by decide) ?_
        refine x_istore_n C [(1, .int 0), (0, .ref hy)] dX10_passAll_114 rfl (by decide) rfl ?_
        have L_115 : ∀ (n_115 : Nat) (x1_115 : Int32) (ghy28_115 : Int32) (fm17_115 : Nat → Int32), (((0 ≤ x1_115.toInt ∧ x1_115.toInt ≤ 16) ∧ ghy28_115.toInt = ka.toInt + 19 + x1_115.toInt) ∧ fm17_115 = kw kt ka.toInt.toNat (fo ma mm mg mt mk wf wp wt mw ml mb) (19 + x1_115.toInt.toNat)) → ((16 - x1_115.toInt).toNat < n_115) → V X 2 [(m2, .inl (cI, 4, .inl ma)), (m4, .inl (cI, 4, .inl mg)), (m5, .inl (cI, 4, .inl mt)), (m6, .inl (cI, 4, .inl mk)), (m3, .inl (cI, 16, .inl mm)), (m7, .inl (cI, 6, .inl wf)), (m8, .inl (cI, 6, .inl wp)), (m9, .inl (cI, 6, .inl wt)), (hy, .inr (10, [.ref m0, .ref m1, .ref m2, .ref m3, .ref m4, .ref m5, .ref m6, .ref m7, .ref m8, .ref m9, .int mw, .int ml, .int mb, .ref m10, .int mz, .ref m11, .int op, .int bp, .int by0, .int dp, .int tk, .ref m12, .ref m13, .ref m14, .ref m15, .ref m16, .ref m17, .ref m18, .int ghy28_115, .int 1])), (m17, .inl (cI, 120, .inl fm17_115))] [(1, .int x1_115), (0, .ref hy)] [] 115 0 0 := by
          intro n_115
          induction n_115 with
          | zero =>
            intro x1_115 ghy28_115 fm17_115 i_115 m_115
            exact absurd m_115 (Nat.not_lt_zero _)
          | succ n_115 ih_115 =>
            intro x1_115 ghy28_115 fm17_115 i_115 m_115
            refine x_iload_n C 0 dX10_passAll_115 rfl rfl ?_
            refine x_bipush C 16 dX10_passAll_116 (by decide) ?_
            refine x_icmp_ge C 143 dX10_passAll_118 (by decide) (fun c_118 => ?_) (fun c_118 => ?_)
            · skip
              have e_118 : (16 : Int32).toInt ≤ (x1_115 : Int32).toInt := i_le.mp c_118
              have : (16 : Int32).toInt = 16 := by decide
              refine x_iconst C 0 dX10_passAll_143 (by decide) ?_
              refine x_istore_n C [(1, .int 0), (0, .ref hy)] dX10_passAll_144 rfl (by decide) rfl ?_
              have L_145 : ∀ (n_145 : Nat) (x1_145 : Int32) (ghy28_145 : Int32) (fm17_145 : Nat → Int32), (((0 ≤ x1_145.toInt ∧ x1_145.toInt ≤ 6) ∧ ghy28_145.toInt = ka.toInt + 35 + 3 * x1_145.toInt) ∧ fm17_145 = kw kt ka.toInt.toNat (fo ma mm mg mt mk wf wp wt mw ml mb) (35 + 3 * x1_145.toInt.toNat)) → ((6 - x1_145.toInt).toNat < n_145) → V X 2 [(m2, .inl (cI, 4, .inl ma)), (m4, .inl (cI, 4, .inl mg)), (m5, .inl (cI, 4, .inl mt)), (m6, .inl (cI, 4, .inl mk)), (m3, .inl (cI, 16, .inl mm)), (m7, .inl (cI, 6, .inl wf)), (m8, .inl (cI, 6, .inl wp)), (m9, .inl (cI, 6, .inl wt)), (hy, .inr (10, [.ref m0, .ref m1, .ref m2, .ref m3, .ref m4, .ref m5, .ref m6, .ref m7, .ref m8, .ref m9, .int mw, .int ml, .int mb, .ref m10, .int mz, .ref m11, .int op, .int bp, .int by0, .int dp, .int tk, .ref m12, .ref m13, .ref m14, .ref m15, .ref m16, .ref m17, .ref m18, .int ghy28_145, .int 1])), (m17, .inl (cI, 120, .inl fm17_145))] [(1, .int x1_145), (0, .ref hy)] [] 145 0 0 := by
                intro n_145
                induction n_145 with
                | zero =>
                  intro x1_145 ghy28_145 fm17_145 i_145 m_145
                  exact absurd m_145 (Nat.not_lt_zero _)
                | succ n_145 ih_145 =>
                  intro x1_145 ghy28_145 fm17_145 i_145 m_145
                  refine x_iload_n C 0 dX10_passAll_145 rfl rfl ?_
                  refine x_bipush C 6 dX10_passAll_146 (by decide) ?_
                  refine x_icmp_ge C 205 dX10_passAll_148 (by decide) (fun c_148 => ?_) (fun c_148 => ?_)
                  · skip
                    have e_148 : (6 : Int32).toInt ≤ (x1_145 : Int32).toInt := i_le.mp c_148
                    have : (6 : Int32).toInt = 6 := by decide
                    refine x_sub [(hy, .inr (10, [.ref m0, .ref m1, .ref m2, .ref m3, .ref m4, .ref m5, .ref m6, .ref m7, .ref m8, .ref m9, .int mw, .int ml, .int mb, .ref m10, .int mz, .ref m11, .int op, .int bp, .int by0, .int dp, .int tk, .ref m12, .ref m13, .ref m14, .ref m15, .ref m16, .ref m17, .ref m18, .int ghy28_145, .int 1])), (m17, .inl (cI, 120, .inl fm17_145)), (m2, .inl (cI, 4, .inl ma)), (m4, .inl (cI, 4, .inl mg)), (m5, .inl (cI, 4, .inl mt)), (m6, .inl (cI, 4, .inl mk)), (m3, .inl (cI, 16, .inl mm)), (m7, .inl (cI, 6, .inl wf)), (m8, .inl (cI, 6, .inl wp)), (m9, .inl (cI, 6, .inl wt))] [8, 9, 0, 1, 2, 3, 4, 5, 6, 7] (by decide) rfl ?_
                    exact x_vret C dX10_passAll_205 (Nat.zero_le _) (Nat.zero_le _) (by rw [eO]; exact ⟨fm17_145, ghy28_145, rfl, rfl, (by rw [i_145.2, show 35 + 3 * x1_145.toInt.toNat = 53 by omega])⟩)
                  · skip
                    have e_148 : ¬ ((6 : Int32).toInt ≤ (x1_145 : Int32).toInt) := fun h => c_148 (i_le.mpr h)
                    have : (6 : Int32).toInt = 6 := by decide
                    refine x_aload_n C 1 dX10_passAll_151 rfl rfl ?_
                    refine x_get C 8 7 dX10_passAll_152 inlX10 rfl (by decide) wd_129 rfl rfl rfl ?_
                    refine x_iload_n C 0 dX10_passAll_155 rfl rfl ?_
                    refine x_aload_n C 1 dX10_passAll_156 rfl rfl ?_
                    refine x_aload_n C 1 dX10_passAll_157 rfl rfl ?_
                    refine x_get C 8 7 dX10_passAll_158 inlX10 rfl (by decide) wd_129 rfl rfl rfl ?_
                    refine x_iload_n C 0 dX10_passAll_161 rfl rfl ?_
                    have v_162 : vp_in x1_145 6 := (vp_in_iff.mpr (by omega))
                    refine x_iald C 5 0 dX10_passAll_162 hT.1 rfl v_162 ?_
                    refine x_callV C [.int (wf (Int32.toNatClampNeg x1_145))] [(m2, .inl (cI, 4, .inl ma)), (m4, .inl (cI, 4, .inl mg)), (m5, .inl (cI, 4, .inl mt)), (m6, .inl (cI, 4, .inl mk)), (m3, .inl (cI, 16, .inl mm)), (m7, .inl (cI, 6, .inl wf)), (m8, .inl (cI, 6, .inl wp)), (m9, .inl (cI, 6, .inl wt))] [8, 9] [0, 1, 2, 3, 4, 5, 6, 7] (q0 := 0) (c_X10_passW (xl X) (xD X) (xt X) hT hy m0 m1 m2 m3 m4 m5 m6 m7 m8 m9 m10 m11 m12 m13 m14 m15 m16 m17 m18 fm17_145 mw ml mb mz op bp by0 dp tk ghy28_145 (wf (Int32.toNatClampNeg x1_145)) (by omega)) dX10_passAll_163 wd_867 wd_868 wd_869 wd_5 wd_870 (np := 1) ⟨by decide, by decide, by decide +kernel⟩ rfl rfl (Nat.le_of_ble_eq_true rfl) (by decide) rfl rfl rfl rfl (by decide) rfl (by decide) (by decide) (fun v W1 h => ?_)
                    obtain ⟨_, rfl, rfl, h_163⟩ := h
                    show V X 2 [(m2, .inl (cI, 4, .inl ma)), (m4, .inl (cI, 4, .inl mg)), (m5, .inl (cI, 4, .inl mt)), (m6, .inl (cI, 4, .inl mk)), (m3, .inl (cI, 16, .inl mm)), (m7, .inl (cI, 6, .inl wf)), (m8, .inl (cI, 6, .inl wp)), (m9, .inl (cI, 6, .inl wt)), (hy, .inr (10, [.ref m0, .ref m1, .ref m2, .ref m3, .ref m4, .ref m5, .ref m6, .ref m7, .ref m8, .ref m9, .int mw, .int ml, .int mb, .ref m10, .int mz, .ref m11, .int op, .int bp, .int by0, .int dp, .int tk, .ref m12, .ref m13, .ref m14, .ref m15, .ref m16, .ref m17, .ref m18, .int (ghy28_145 + 1), .int 1])), (m17, .inl (cI, 120, .inl (upd fm17_145 (Int32.toNatClampNeg ghy28_145) (wf (Int32.toNatClampNeg x1_145)))))] [(1, .int x1_145), (0, .ref hy)] [.int ((wf (Int32.toNatClampNeg x1_145))), .int x1_145, .ref m7] 166 0 0
                    have w_163 := kw_step (kt := kt) (b := ka.toInt.toNat) (g := (fo ma mm mg mt mk wf wp wt mw ml mb)) (n := 35 + 3 * x1_145.toInt.toNat) (n' := 36 + 3 * x1_145.toInt.toNat) (kc := ghy28_145) (x := (wf (Int32.toNatClampNeg x1_145))) i_145.2 (by omega) ((fo_wf (j := x1_145.toInt.toNat) (by omega)).symm) (by omega)
                    have v_166 : vp_in x1_145 6 := (vp_in_iff.mpr (by omega))
                    refine x_iast C 5 0 [(m2, .inl (cI, 4, .inl ma)), (m4, .inl (cI, 4, .inl mg)), (m5, .inl (cI, 4, .inl mt)), (m6, .inl (cI, 4, .inl mk)), (m3, .inl (cI, 16, .inl mm)), (m7, .inl (cI, 6, .inl (upd wf (Int32.toNatClampNeg x1_145) ((wf (Int32.toNatClampNeg x1_145)))))), (m8, .inl (cI, 6, .inl wp)), (m9, .inl (cI, 6, .inl wt)), (hy, .inr (10, [.ref m0, .ref m1, .ref m2, .ref m3, .ref m4, .ref m5, .ref m6, .ref m7, .ref m8, .ref m9, .int mw, .int ml, .int mb, .ref m10, .int mz, .ref m11, .int op, .int bp, .int by0, .int dp, .int tk, .ref m12, .ref m13, .ref m14, .ref m15, .ref m16, .ref m17, .ref m18, .int (ghy28_145 + 1), .int 1])), (m17, .inl (cI, 120, .inl (upd fm17_145 (Int32.toNatClampNeg ghy28_145) (wf (Int32.toNatClampNeg x1_145)))))] dX10_passAll_166 hT.1 rfl v_166 rfl ?_
                    refine x_arr 5 wf [(m2, .inl (cI, 4, .inl ma)), (m4, .inl (cI, 4, .inl mg)), (m5, .inl (cI, 4, .inl mt)), (m6, .inl (cI, 4, .inl mk)), (m3, .inl (cI, 16, .inl mm)), (m7, .inl (cI, 6, .inl wf)), (m8, .inl (cI, 6, .inl wp)), (m9, .inl (cI, 6, .inl wt)), (hy, .inr (10, [.ref m0, .ref m1, .ref m2, .ref m3, .ref m4, .ref m5, .ref m6, .ref m7, .ref m8, .ref m9, .int mw, .int ml, .int mb, .ref m10, .int mz, .ref m11, .int op, .int bp, .int by0, .int dp, .int tk, .ref m12, .ref m13, .ref m14, .ref m15, .ref m16, .ref m17, .ref m18, .int (ghy28_145 + 1), .int 1])), (m17, .inl (cI, 120, .inl (upd fm17_145 (Int32.toNatClampNeg ghy28_145) (wf (Int32.toNatClampNeg x1_145)))))] rfl (fun j _ => upd_self _ _ _) rfl ?_
                    refine x_aload_n C 1 dX10_passAll_167 rfl rfl ?_
                    refine x_get C 8 8 dX10_passAll_168 inlX10 rfl (by decide) wd_130 rfl rfl rfl ?_
                    refine x_iload_n C 0 dX10_passAll_171 rfl rfl ?_
                    refine x_aload_n C 1 dX10_passAll_172 rfl rfl ?_
                    refine x_aload_n C 1 dX10_passAll_173 rfl rfl ?_
                    refine x_get C 8 8 dX10_passAll_174 inlX10 rfl (by decide) wd_130 rfl rfl rfl ?_
                    refine x_iload_n C 0 dX10_passAll_177 rfl rfl ?_
                    have v_178 : vp_in x1_145 6 := (vp_in_iff.mpr (by omega))
                    refine x_iald C 6 0 dX10_passAll_178 hT.1 rfl v_178 ?_
                    have : (1 : Int32).toInt = 1 := by decide
                    have := i_add (x := ghy28_145) (y := 1) (by omega) (by omega)
                    refine x_callV C [.int (wp (Int32.toNatClampNeg x1_145))] [(m2, .inl (cI, 4, .inl ma)), (m4, .inl (cI, 4, .inl mg)), (m5, .inl (cI, 4, .inl mt)), (m6, .inl (cI, 4, .inl mk)), (m3, .inl (cI, 16, .inl mm)), (m7, .inl (cI, 6, .inl wf)), (m8, .inl (cI, 6, .inl wp)), (m9, .inl (cI, 6, .inl wt))] [8, 9] [0, 1, 2, 3, 4, 5, 6, 7] (q0 := 0) (c_X10_passW (xl X) (xD X) (xt X) hT hy m0 m1 m2 m3 m4 m5 m6 m7 m8 m9 m10 m11 m12 m13 m14 m15 m16 m17 m18 (upd fm17_145 (Int32.toNatClampNeg ghy28_145) (wf (Int32.toNatClampNeg x1_145))) mw ml mb mz op bp by0 dp tk (ghy28_145 + 1) (wp (Int32.toNatClampNeg x1_145)) (by omega)) dX10_passAll_179 wd_867 wd_868 wd_869 wd_5 wd_870 (np := 1) ⟨by decide, by decide, by decide +kernel⟩ rfl rfl (Nat.le_of_ble_eq_true rfl) (by decide) rfl rfl rfl rfl (by decide) rfl (by decide) (by decide) (fun v W1 h => ?_)
                    obtain ⟨_, rfl, rfl, h_179⟩ := h
                    show V X 2 [(m2, .inl (cI, 4, .inl ma)), (m4, .inl (cI, 4, .inl mg)), (m5, .inl (cI, 4, .inl mt)), (m6, .inl (cI, 4, .inl mk)), (m3, .inl (cI, 16, .inl mm)), (m7, .inl (cI, 6, .inl wf)), (m8, .inl (cI, 6, .inl wp)), (m9, .inl (cI, 6, .inl wt)), (hy, .inr (10, [.ref m0, .ref m1, .ref m2, .ref m3, .ref m4, .ref m5, .ref m6, .ref m7, .ref m8, .ref m9, .int mw, .int ml, .int mb, .ref m10, .int mz, .ref m11, .int op, .int bp, .int by0, .int dp, .int tk, .ref m12, .ref m13, .ref m14, .ref m15, .ref m16, .ref m17, .ref m18, .int ((ghy28_145 + 1) + 1), .int 1])), (m17, .inl (cI, 120, .inl (upd (upd fm17_145 (Int32.toNatClampNeg ghy28_145) (wf (Int32.toNatClampNeg x1_145))) (Int32.toNatClampNeg (ghy28_145 + 1)) (wp (Int32.toNatClampNeg x1_145)))))] [(1, .int x1_145), (0, .ref hy)] [.int ((wp (Int32.toNatClampNeg x1_145))), .int x1_145, .ref m8] 182 0 0
                    have w_179 := kw_step (kt := kt) (b := ka.toInt.toNat) (g := (fo ma mm mg mt mk wf wp wt mw ml mb)) (n := 36 + 3 * x1_145.toInt.toNat) (n' := 37 + 3 * x1_145.toInt.toNat) (kc := (ghy28_145 + 1)) (x := (wp (Int32.toNatClampNeg x1_145))) w_163 (by omega) ((fo_wp (j := x1_145.toInt.toNat) (by omega)).symm) (by omega)
                    have v_182 : vp_in x1_145 6 := (vp_in_iff.mpr (by omega))
                    refine x_iast C 6 0 [(m2, .inl (cI, 4, .inl ma)), (m4, .inl (cI, 4, .inl mg)), (m5, .inl (cI, 4, .inl mt)), (m6, .inl (cI, 4, .inl mk)), (m3, .inl (cI, 16, .inl mm)), (m7, .inl (cI, 6, .inl wf)), (m8, .inl (cI, 6, .inl (upd wp (Int32.toNatClampNeg x1_145) ((wp (Int32.toNatClampNeg x1_145)))))), (m9, .inl (cI, 6, .inl wt)), (hy, .inr (10, [.ref m0, .ref m1, .ref m2, .ref m3, .ref m4, .ref m5, .ref m6, .ref m7, .ref m8, .ref m9, .int mw, .int ml, .int mb, .ref m10, .int mz, .ref m11, .int op, .int bp, .int by0, .int dp, .int tk, .ref m12, .ref m13, .ref m14, .ref m15, .ref m16, .ref m17, .ref m18, .int ((ghy28_145 + 1) + 1), .int 1])), (m17, .inl (cI, 120, .inl (upd (upd fm17_145 (Int32.toNatClampNeg ghy28_145) (wf (Int32.toNatClampNeg x1_145))) (Int32.toNatClampNeg (ghy28_145 + 1)) (wp (Int32.toNatClampNeg x1_145)))))] dX10_passAll_182 hT.1 rfl v_182 rfl ?_
                    refine x_arr 6 wp [(m2, .inl (cI, 4, .inl ma)), (m4, .inl (cI, 4, .inl mg)), (m5, .inl (cI, 4, .inl mt)), (m6, .inl (cI, 4, .inl mk)), (m3, .inl (cI, 16, .inl mm)), (m7, .inl (cI, 6, .inl wf)), (m8, .inl (cI, 6, .inl wp)), (m9, .inl (cI, 6, .inl wt)), (hy, .inr (10, [.ref m0, .ref m1, .ref m2, .ref m3, .ref m4, .ref m5, .ref m6, .ref m7, .ref m8, .ref m9, .int mw, .int ml, .int mb, .ref m10, .int mz, .ref m11, .int op, .int bp, .int by0, .int dp, .int tk, .ref m12, .ref m13, .ref m14, .ref m15, .ref m16, .ref m17, .ref m18, .int ((ghy28_145 + 1) + 1), .int 1])), (m17, .inl (cI, 120, .inl (upd (upd fm17_145 (Int32.toNatClampNeg ghy28_145) (wf (Int32.toNatClampNeg x1_145))) (Int32.toNatClampNeg (ghy28_145 + 1)) (wp (Int32.toNatClampNeg x1_145)))))] rfl (fun j _ => upd_self _ _ _) rfl ?_
                    refine x_aload_n C 1 dX10_passAll_183 rfl rfl ?_
                    refine x_get C 8 9 dX10_passAll_184 inlX10 rfl (by decide) wd_131 rfl rfl rfl ?_
                    refine x_iload_n C 0 dX10_passAll_187 rfl rfl ?_
                    refine x_aload_n C 1 dX10_passAll_188 rfl rfl ?_
                    refine x_aload_n C 1 dX10_passAll_189 rfl rfl ?_
                    refine x_get C 8 9 dX10_passAll_190 inlX10 rfl (by decide) wd_131 rfl rfl rfl ?_
                    refine x_iload_n C 0 dX10_passAll_193 rfl rfl ?_
                    have v_194 : vp_in x1_145 6 := (vp_in_iff.mpr (by omega))
                    refine x_iald C 7 0 dX10_passAll_194 hT.1 rfl v_194 ?_
                    have : (1 : Int32).toInt = 1 := by decide
                    have := i_add (x := ghy28_145) (y := 1) (by omega) (by omega)
                    have : (1 : Int32).toInt = 1 := by decide
                    have := i_add (x := (ghy28_145 + 1)) (y := 1) (by omega) (by omega)
                    refine x_callV C [.int (wt (Int32.toNatClampNeg x1_145))] [(m2, .inl (cI, 4, .inl ma)), (m4, .inl (cI, 4, .inl mg)), (m5, .inl (cI, 4, .inl mt)), (m6, .inl (cI, 4, .inl mk)), (m3, .inl (cI, 16, .inl mm)), (m7, .inl (cI, 6, .inl wf)), (m8, .inl (cI, 6, .inl wp)), (m9, .inl (cI, 6, .inl wt))] [8, 9] [0, 1, 2, 3, 4, 5, 6, 7] (q0 := 0) (c_X10_passW (xl X) (xD X) (xt X) hT hy m0 m1 m2 m3 m4 m5 m6 m7 m8 m9 m10 m11 m12 m13 m14 m15 m16 m17 m18 (upd (upd fm17_145 (Int32.toNatClampNeg ghy28_145) (wf (Int32.toNatClampNeg x1_145))) (Int32.toNatClampNeg (ghy28_145 + 1)) (wp (Int32.toNatClampNeg x1_145))) mw ml mb mz op bp by0 dp tk ((ghy28_145 + 1) + 1) (wt (Int32.toNatClampNeg x1_145)) (by omega)) dX10_passAll_195 wd_867 wd_868 wd_869 wd_5 wd_870 (np := 1) ⟨by decide, by decide, by decide +kernel⟩ rfl rfl (Nat.le_of_ble_eq_true rfl) (by decide) rfl rfl rfl rfl (by decide) rfl (by decide) (by decide) (fun v W1 h => ?_)
                    obtain ⟨_, rfl, rfl, h_195⟩ := h
                    show V X 2 [(m2, .inl (cI, 4, .inl ma)), (m4, .inl (cI, 4, .inl mg)), (m5, .inl (cI, 4, .inl mt)), (m6, .inl (cI, 4, .inl mk)), (m3, .inl (cI, 16, .inl mm)), (m7, .inl (cI, 6, .inl wf)), (m8, .inl (cI, 6, .inl wp)), (m9, .inl (cI, 6, .inl wt)), (hy, .inr (10, [.ref m0, .ref m1, .ref m2, .ref m3, .ref m4, .ref m5, .ref m6, .ref m7, .ref m8, .ref m9, .int mw, .int ml, .int mb, .ref m10, .int mz, .ref m11, .int op, .int bp, .int by0, .int dp, .int tk, .ref m12, .ref m13, .ref m14, .ref m15, .ref m16, .ref m17, .ref m18, .int (((ghy28_145 + 1) + 1) + 1), .int 1])), (m17, .inl (cI, 120, .inl (upd (upd (upd fm17_145 (Int32.toNatClampNeg ghy28_145) (wf (Int32.toNatClampNeg x1_145))) (Int32.toNatClampNeg (ghy28_145 + 1)) (wp (Int32.toNatClampNeg x1_145))) (Int32.toNatClampNeg ((ghy28_145 + 1) + 1)) (wt (Int32.toNatClampNeg x1_145)))))] [(1, .int x1_145), (0, .ref hy)] [.int ((wt (Int32.toNatClampNeg x1_145))), .int x1_145, .ref m9] 198 0 0
                    have w_195 := kw_step (kt := kt) (b := ka.toInt.toNat) (g := (fo ma mm mg mt mk wf wp wt mw ml mb)) (n := 37 + 3 * x1_145.toInt.toNat) (n' := 38 + 3 * x1_145.toInt.toNat) (kc := ((ghy28_145 + 1) + 1)) (x := (wt (Int32.toNatClampNeg x1_145))) w_179 (by omega) ((fo_wt (j := x1_145.toInt.toNat) (by omega)).symm) (by omega)
                    have v_198 : vp_in x1_145 6 := (vp_in_iff.mpr (by omega))
                    refine x_iast C 7 0 [(m2, .inl (cI, 4, .inl ma)), (m4, .inl (cI, 4, .inl mg)), (m5, .inl (cI, 4, .inl mt)), (m6, .inl (cI, 4, .inl mk)), (m3, .inl (cI, 16, .inl mm)), (m7, .inl (cI, 6, .inl wf)), (m8, .inl (cI, 6, .inl wp)), (m9, .inl (cI, 6, .inl (upd wt (Int32.toNatClampNeg x1_145) ((wt (Int32.toNatClampNeg x1_145)))))), (hy, .inr (10, [.ref m0, .ref m1, .ref m2, .ref m3, .ref m4, .ref m5, .ref m6, .ref m7, .ref m8, .ref m9, .int mw, .int ml, .int mb, .ref m10, .int mz, .ref m11, .int op, .int bp, .int by0, .int dp, .int tk, .ref m12, .ref m13, .ref m14, .ref m15, .ref m16, .ref m17, .ref m18, .int (((ghy28_145 + 1) + 1) + 1), .int 1])), (m17, .inl (cI, 120, .inl (upd (upd (upd fm17_145 (Int32.toNatClampNeg ghy28_145) (wf (Int32.toNatClampNeg x1_145))) (Int32.toNatClampNeg (ghy28_145 + 1)) (wp (Int32.toNatClampNeg x1_145))) (Int32.toNatClampNeg ((ghy28_145 + 1) + 1)) (wt (Int32.toNatClampNeg x1_145)))))] dX10_passAll_198 hT.1 rfl v_198 rfl ?_
                    refine x_arr 7 wt [(m2, .inl (cI, 4, .inl ma)), (m4, .inl (cI, 4, .inl mg)), (m5, .inl (cI, 4, .inl mt)), (m6, .inl (cI, 4, .inl mk)), (m3, .inl (cI, 16, .inl mm)), (m7, .inl (cI, 6, .inl wf)), (m8, .inl (cI, 6, .inl wp)), (m9, .inl (cI, 6, .inl wt)), (hy, .inr (10, [.ref m0, .ref m1, .ref m2, .ref m3, .ref m4, .ref m5, .ref m6, .ref m7, .ref m8, .ref m9, .int mw, .int ml, .int mb, .ref m10, .int mz, .ref m11, .int op, .int bp, .int by0, .int dp, .int tk, .ref m12, .ref m13, .ref m14, .ref m15, .ref m16, .ref m17, .ref m18, .int (((ghy28_145 + 1) + 1) + 1), .int 1])), (m17, .inl (cI, 120, .inl (upd (upd (upd fm17_145 (Int32.toNatClampNeg ghy28_145) (wf (Int32.toNatClampNeg x1_145))) (Int32.toNatClampNeg (ghy28_145 + 1)) (wp (Int32.toNatClampNeg x1_145))) (Int32.toNatClampNeg ((ghy28_145 + 1) + 1)) (wt (Int32.toNatClampNeg x1_145)))))] rfl (fun j _ => upd_self _ _ _) rfl ?_
                    refine x_iinc C 0 (x1_145 + 1) [(1, .int (x1_145 + 1)), (0, .ref hy)] dX10_passAll_199 rfl rfl (by decide) rfl ?_
                    refine x_goto C 145 dX10_passAll_202 (by decide) ?_
                    have : (1 : Int32).toInt = 1 := by decide
                    have := i_add (x := ghy28_145) (y := 1) (by omega) (by omega)
                    have : (1 : Int32).toInt = 1 := by decide
                    have := i_add (x := (ghy28_145 + 1)) (y := 1) (by omega) (by omega)
                    have : (1 : Int32).toInt = 1 := by decide
                    have := i_add (x := ((ghy28_145 + 1) + 1)) (y := 1) (by omega) (by omega)
                    have : (1 : Int32).toInt = 1 := by decide
                    have := i_add (x := x1_145) (y := 1) (by omega) (by omega)
                    exact ih_145 (x1_145 + 1) (((ghy28_145 + 1) + 1) + 1) (upd (upd (upd fm17_145 (Int32.toNatClampNeg ghy28_145) (wf (Int32.toNatClampNeg x1_145))) (Int32.toNatClampNeg (ghy28_145 + 1)) (wp (Int32.toNatClampNeg x1_145))) (Int32.toNatClampNeg ((ghy28_145 + 1) + 1)) (wt (Int32.toNatClampNeg x1_145))) ⟨by omega, by rw [show 35 + 3 * (x1_145 + 1).toInt.toNat = 38 + 3 * x1_145.toInt.toNat by omega]; exact w_195⟩ (by omega)
              have : (0 : Int32).toInt = 0 := by decide
              exact L_145 _ 0 ghy28_115 fm17_115 ⟨by omega, by rw [show 35 + 3 * (0 : Int32).toInt.toNat = 19 + x1_115.toInt.toNat by omega]; exact i_115.2⟩ (Nat.lt_succ_self _)
            · skip
              have e_118 : ¬ ((16 : Int32).toInt ≤ (x1_115 : Int32).toInt) := fun h => c_118 (i_le.mpr h)
              have : (16 : Int32).toInt = 16 := by decide
              refine x_aload_n C 1 dX10_passAll_121 rfl rfl ?_
              refine x_get C 8 3 dX10_passAll_122 inlX10 rfl (by decide) wd_125 rfl rfl rfl ?_
              refine x_iload_n C 0 dX10_passAll_125 rfl rfl ?_
              refine x_aload_n C 1 dX10_passAll_126 rfl rfl ?_
              refine x_aload_n C 1 dX10_passAll_127 rfl rfl ?_
              refine x_get C 8 3 dX10_passAll_128 inlX10 rfl (by decide) wd_125 rfl rfl rfl ?_
              refine x_iload_n C 0 dX10_passAll_131 rfl rfl ?_
              have v_132 : vp_in x1_115 16 := (vp_in_iff.mpr (by omega))
              refine x_iald C 4 0 dX10_passAll_132 hT.1 rfl v_132 ?_
              refine x_callV C [.int (mm (Int32.toNatClampNeg x1_115))] [(m2, .inl (cI, 4, .inl ma)), (m4, .inl (cI, 4, .inl mg)), (m5, .inl (cI, 4, .inl mt)), (m6, .inl (cI, 4, .inl mk)), (m3, .inl (cI, 16, .inl mm)), (m7, .inl (cI, 6, .inl wf)), (m8, .inl (cI, 6, .inl wp)), (m9, .inl (cI, 6, .inl wt))] [8, 9] [0, 1, 2, 3, 4, 5, 6, 7] (q0 := 0) (c_X10_passW (xl X) (xD X) (xt X) hT hy m0 m1 m2 m3 m4 m5 m6 m7 m8 m9 m10 m11 m12 m13 m14 m15 m16 m17 m18 fm17_115 mw ml mb mz op bp by0 dp tk ghy28_115 (mm (Int32.toNatClampNeg x1_115)) (by omega)) dX10_passAll_133 wd_867 wd_868 wd_869 wd_5 wd_870 (np := 1) ⟨by decide, by decide, by decide +kernel⟩ rfl rfl (Nat.le_of_ble_eq_true rfl) (by decide) rfl rfl rfl rfl (by decide) rfl (by decide) (by decide) (fun v W1 h => ?_)
              obtain ⟨_, rfl, rfl, h_133⟩ := h
              show V X 2 [(m2, .inl (cI, 4, .inl ma)), (m4, .inl (cI, 4, .inl mg)), (m5, .inl (cI, 4, .inl mt)), (m6, .inl (cI, 4, .inl mk)), (m3, .inl (cI, 16, .inl mm)), (m7, .inl (cI, 6, .inl wf)), (m8, .inl (cI, 6, .inl wp)), (m9, .inl (cI, 6, .inl wt)), (hy, .inr (10, [.ref m0, .ref m1, .ref m2, .ref m3, .ref m4, .ref m5, .ref m6, .ref m7, .ref m8, .ref m9, .int mw, .int ml, .int mb, .ref m10, .int mz, .ref m11, .int op, .int bp, .int by0, .int dp, .int tk, .ref m12, .ref m13, .ref m14, .ref m15, .ref m16, .ref m17, .ref m18, .int (ghy28_115 + 1), .int 1])), (m17, .inl (cI, 120, .inl (upd fm17_115 (Int32.toNatClampNeg ghy28_115) (mm (Int32.toNatClampNeg x1_115)))))] [(1, .int x1_115), (0, .ref hy)] [.int ((mm (Int32.toNatClampNeg x1_115))), .int x1_115, .ref m3] 136 0 0
              have w_133 := kw_step (kt := kt) (b := ka.toInt.toNat) (g := (fo ma mm mg mt mk wf wp wt mw ml mb)) (n := 19 + x1_115.toInt.toNat) (n' := 20 + x1_115.toInt.toNat) (kc := ghy28_115) (x := (mm (Int32.toNatClampNeg x1_115))) i_115.2 (by omega) ((fo_mm (j := x1_115.toInt.toNat) (by omega)).symm) (by omega)
              have v_136 : vp_in x1_115 16 := (vp_in_iff.mpr (by omega))
              refine x_iast C 4 0 [(m2, .inl (cI, 4, .inl ma)), (m4, .inl (cI, 4, .inl mg)), (m5, .inl (cI, 4, .inl mt)), (m6, .inl (cI, 4, .inl mk)), (m3, .inl (cI, 16, .inl (upd mm (Int32.toNatClampNeg x1_115) ((mm (Int32.toNatClampNeg x1_115)))))), (m7, .inl (cI, 6, .inl wf)), (m8, .inl (cI, 6, .inl wp)), (m9, .inl (cI, 6, .inl wt)), (hy, .inr (10, [.ref m0, .ref m1, .ref m2, .ref m3, .ref m4, .ref m5, .ref m6, .ref m7, .ref m8, .ref m9, .int mw, .int ml, .int mb, .ref m10, .int mz, .ref m11, .int op, .int bp, .int by0, .int dp, .int tk, .ref m12, .ref m13, .ref m14, .ref m15, .ref m16, .ref m17, .ref m18, .int (ghy28_115 + 1), .int 1])), (m17, .inl (cI, 120, .inl (upd fm17_115 (Int32.toNatClampNeg ghy28_115) (mm (Int32.toNatClampNeg x1_115)))))] dX10_passAll_136 hT.1 rfl v_136 rfl ?_
              refine x_arr 4 mm [(m2, .inl (cI, 4, .inl ma)), (m4, .inl (cI, 4, .inl mg)), (m5, .inl (cI, 4, .inl mt)), (m6, .inl (cI, 4, .inl mk)), (m3, .inl (cI, 16, .inl mm)), (m7, .inl (cI, 6, .inl wf)), (m8, .inl (cI, 6, .inl wp)), (m9, .inl (cI, 6, .inl wt)), (hy, .inr (10, [.ref m0, .ref m1, .ref m2, .ref m3, .ref m4, .ref m5, .ref m6, .ref m7, .ref m8, .ref m9, .int mw, .int ml, .int mb, .ref m10, .int mz, .ref m11, .int op, .int bp, .int by0, .int dp, .int tk, .ref m12, .ref m13, .ref m14, .ref m15, .ref m16, .ref m17, .ref m18, .int (ghy28_115 + 1), .int 1])), (m17, .inl (cI, 120, .inl (upd fm17_115 (Int32.toNatClampNeg ghy28_115) (mm (Int32.toNatClampNeg x1_115)))))] rfl (fun j _ => upd_self _ _ _) rfl ?_
              refine x_iinc C 0 (x1_115 + 1) [(1, .int (x1_115 + 1)), (0, .ref hy)] dX10_passAll_137 rfl rfl (by decide) rfl ?_
              refine x_goto C 115 dX10_passAll_140 (by decide) ?_
              have : (1 : Int32).toInt = 1 := by decide
              have := i_add (x := ghy28_115) (y := 1) (by omega) (by omega)
              have : (1 : Int32).toInt = 1 := by decide
              have := i_add (x := x1_115) (y := 1) (by omega) (by omega)
              have : (1 : Int32).toInt = 1 := by decide
              have := i_add (x := ghy28_115) (y := 1) (by omega) (by omega)
              exact ih_115 (x1_115 + 1) (ghy28_115 + 1) (upd fm17_115 (Int32.toNatClampNeg ghy28_115) (mm (Int32.toNatClampNeg x1_115))) ⟨by omega, by rw [show 19 + (x1_115 + 1).toInt.toNat = 20 + x1_115.toInt.toNat by omega]; exact w_133⟩ (by omega)
        have : (0 : Int32).toInt = 0 := by decide
        exact L_115 _ 0 ghy28_38 fm17_38 ⟨by omega, by rw [show 19 + (0 : Int32).toInt.toNat = 3 + 4 * x1_38.toInt.toNat by omega]; exact i_38.2⟩ (Nat.lt_succ_self _)
      · skip
        have e_40 : ¬ ((4 : Int32).toInt ≤ (x1_38 : Int32).toInt) := fun h => c_40 (i_le.mpr h)
        have : (4 : Int32).toInt = 4 := by decide
        refine x_aload_n C 1 dX10_passAll_43 rfl rfl ?_
        refine x_get C 8 2 dX10_passAll_44 inlX10 rfl (by decide) wd_124 rfl rfl rfl ?_
        refine x_iload_n C 0 dX10_passAll_47 rfl rfl ?_
        refine x_aload_n C 1 dX10_passAll_48 rfl rfl ?_
        refine x_aload_n C 1 dX10_passAll_49 rfl rfl ?_
        refine x_get C 8 2 dX10_passAll_50 inlX10 rfl (by decide) wd_124 rfl rfl rfl ?_
        refine x_iload_n C 0 dX10_passAll_53 rfl rfl ?_
        have v_54 : vp_in x1_38 4 := (vp_in_iff.mpr (by omega))
        refine x_iald C 0 0 dX10_passAll_54 hT.1 rfl v_54 ?_
        refine x_callV C [.int (ma (Int32.toNatClampNeg x1_38))] [(m2, .inl (cI, 4, .inl ma)), (m4, .inl (cI, 4, .inl mg)), (m5, .inl (cI, 4, .inl mt)), (m6, .inl (cI, 4, .inl mk)), (m3, .inl (cI, 16, .inl mm)), (m7, .inl (cI, 6, .inl wf)), (m8, .inl (cI, 6, .inl wp)), (m9, .inl (cI, 6, .inl wt))] [8, 9] [0, 1, 2, 3, 4, 5, 6, 7] (q0 := 0) (c_X10_passW (xl X) (xD X) (xt X) hT hy m0 m1 m2 m3 m4 m5 m6 m7 m8 m9 m10 m11 m12 m13 m14 m15 m16 m17 m18 fm17_38 mw ml mb mz op bp by0 dp tk ghy28_38 (ma (Int32.toNatClampNeg x1_38)) (by omega)) dX10_passAll_55 wd_867 wd_868 wd_869 wd_5 wd_870 (np := 1) ⟨by decide, by decide, by decide +kernel⟩ rfl rfl (Nat.le_of_ble_eq_true rfl) (by decide) rfl rfl rfl rfl (by decide) rfl (by decide) (by decide) (fun v W1 h => ?_)
        obtain ⟨_, rfl, rfl, h_55⟩ := h
        show V X 2 [(m2, .inl (cI, 4, .inl ma)), (m4, .inl (cI, 4, .inl mg)), (m5, .inl (cI, 4, .inl mt)), (m6, .inl (cI, 4, .inl mk)), (m3, .inl (cI, 16, .inl mm)), (m7, .inl (cI, 6, .inl wf)), (m8, .inl (cI, 6, .inl wp)), (m9, .inl (cI, 6, .inl wt)), (hy, .inr (10, [.ref m0, .ref m1, .ref m2, .ref m3, .ref m4, .ref m5, .ref m6, .ref m7, .ref m8, .ref m9, .int mw, .int ml, .int mb, .ref m10, .int mz, .ref m11, .int op, .int bp, .int by0, .int dp, .int tk, .ref m12, .ref m13, .ref m14, .ref m15, .ref m16, .ref m17, .ref m18, .int (ghy28_38 + 1), .int 1])), (m17, .inl (cI, 120, .inl (upd fm17_38 (Int32.toNatClampNeg ghy28_38) (ma (Int32.toNatClampNeg x1_38)))))] [(1, .int x1_38), (0, .ref hy)] [.int ((ma (Int32.toNatClampNeg x1_38))), .int x1_38, .ref m2] 58 0 0
        have w_55 := kw_step (kt := kt) (b := ka.toInt.toNat) (g := (fo ma mm mg mt mk wf wp wt mw ml mb)) (n := 3 + 4 * x1_38.toInt.toNat) (n' := 4 + 4 * x1_38.toInt.toNat) (kc := ghy28_38) (x := (ma (Int32.toNatClampNeg x1_38))) i_38.2 (by omega) ((fo_ma (j := x1_38.toInt.toNat) (by omega)).symm) (by omega)
        have v_58 : vp_in x1_38 4 := (vp_in_iff.mpr (by omega))
        refine x_iast C 0 0 [(m2, .inl (cI, 4, .inl (upd ma (Int32.toNatClampNeg x1_38) ((ma (Int32.toNatClampNeg x1_38)))))), (m4, .inl (cI, 4, .inl mg)), (m5, .inl (cI, 4, .inl mt)), (m6, .inl (cI, 4, .inl mk)), (m3, .inl (cI, 16, .inl mm)), (m7, .inl (cI, 6, .inl wf)), (m8, .inl (cI, 6, .inl wp)), (m9, .inl (cI, 6, .inl wt)), (hy, .inr (10, [.ref m0, .ref m1, .ref m2, .ref m3, .ref m4, .ref m5, .ref m6, .ref m7, .ref m8, .ref m9, .int mw, .int ml, .int mb, .ref m10, .int mz, .ref m11, .int op, .int bp, .int by0, .int dp, .int tk, .ref m12, .ref m13, .ref m14, .ref m15, .ref m16, .ref m17, .ref m18, .int (ghy28_38 + 1), .int 1])), (m17, .inl (cI, 120, .inl (upd fm17_38 (Int32.toNatClampNeg ghy28_38) (ma (Int32.toNatClampNeg x1_38)))))] dX10_passAll_58 hT.1 rfl v_58 rfl ?_
        refine x_arr 0 ma [(m2, .inl (cI, 4, .inl ma)), (m4, .inl (cI, 4, .inl mg)), (m5, .inl (cI, 4, .inl mt)), (m6, .inl (cI, 4, .inl mk)), (m3, .inl (cI, 16, .inl mm)), (m7, .inl (cI, 6, .inl wf)), (m8, .inl (cI, 6, .inl wp)), (m9, .inl (cI, 6, .inl wt)), (hy, .inr (10, [.ref m0, .ref m1, .ref m2, .ref m3, .ref m4, .ref m5, .ref m6, .ref m7, .ref m8, .ref m9, .int mw, .int ml, .int mb, .ref m10, .int mz, .ref m11, .int op, .int bp, .int by0, .int dp, .int tk, .ref m12, .ref m13, .ref m14, .ref m15, .ref m16, .ref m17, .ref m18, .int (ghy28_38 + 1), .int 1])), (m17, .inl (cI, 120, .inl (upd fm17_38 (Int32.toNatClampNeg ghy28_38) (ma (Int32.toNatClampNeg x1_38)))))] rfl (fun j _ => upd_self _ _ _) rfl ?_
        refine x_aload_n C 1 dX10_passAll_59 rfl rfl ?_
        refine x_get C 8 4 dX10_passAll_60 inlX10 rfl (by decide) wd_126 rfl rfl rfl ?_
        refine x_iload_n C 0 dX10_passAll_63 rfl rfl ?_
        refine x_aload_n C 1 dX10_passAll_64 rfl rfl ?_
        refine x_aload_n C 1 dX10_passAll_65 rfl rfl ?_
        refine x_get C 8 4 dX10_passAll_66 inlX10 rfl (by decide) wd_126 rfl rfl rfl ?_
        refine x_iload_n C 0 dX10_passAll_69 rfl rfl ?_
        have v_70 : vp_in x1_38 4 := (vp_in_iff.mpr (by omega))
        refine x_iald C 1 0 dX10_passAll_70 hT.1 rfl v_70 ?_
        have : (1 : Int32).toInt = 1 := by decide
        have := i_add (x := ghy28_38) (y := 1) (by omega) (by omega)
        refine x_callV C [.int (mg (Int32.toNatClampNeg x1_38))] [(m2, .inl (cI, 4, .inl ma)), (m4, .inl (cI, 4, .inl mg)), (m5, .inl (cI, 4, .inl mt)), (m6, .inl (cI, 4, .inl mk)), (m3, .inl (cI, 16, .inl mm)), (m7, .inl (cI, 6, .inl wf)), (m8, .inl (cI, 6, .inl wp)), (m9, .inl (cI, 6, .inl wt))] [8, 9] [0, 1, 2, 3, 4, 5, 6, 7] (q0 := 0) (c_X10_passW (xl X) (xD X) (xt X) hT hy m0 m1 m2 m3 m4 m5 m6 m7 m8 m9 m10 m11 m12 m13 m14 m15 m16 m17 m18 (upd fm17_38 (Int32.toNatClampNeg ghy28_38) (ma (Int32.toNatClampNeg x1_38))) mw ml mb mz op bp by0 dp tk (ghy28_38 + 1) (mg (Int32.toNatClampNeg x1_38)) (by omega)) dX10_passAll_71 wd_867 wd_868 wd_869 wd_5 wd_870 (np := 1) ⟨by decide, by decide, by decide +kernel⟩ rfl rfl (Nat.le_of_ble_eq_true rfl) (by decide) rfl rfl rfl rfl (by decide) rfl (by decide) (by decide) (fun v W1 h => ?_)
        obtain ⟨_, rfl, rfl, h_71⟩ := h
        show V X 2 [(m2, .inl (cI, 4, .inl ma)), (m4, .inl (cI, 4, .inl mg)), (m5, .inl (cI, 4, .inl mt)), (m6, .inl (cI, 4, .inl mk)), (m3, .inl (cI, 16, .inl mm)), (m7, .inl (cI, 6, .inl wf)), (m8, .inl (cI, 6, .inl wp)), (m9, .inl (cI, 6, .inl wt)), (hy, .inr (10, [.ref m0, .ref m1, .ref m2, .ref m3, .ref m4, .ref m5, .ref m6, .ref m7, .ref m8, .ref m9, .int mw, .int ml, .int mb, .ref m10, .int mz, .ref m11, .int op, .int bp, .int by0, .int dp, .int tk, .ref m12, .ref m13, .ref m14, .ref m15, .ref m16, .ref m17, .ref m18, .int ((ghy28_38 + 1) + 1), .int 1])), (m17, .inl (cI, 120, .inl (upd (upd fm17_38 (Int32.toNatClampNeg ghy28_38) (ma (Int32.toNatClampNeg x1_38))) (Int32.toNatClampNeg (ghy28_38 + 1)) (mg (Int32.toNatClampNeg x1_38)))))] [(1, .int x1_38), (0, .ref hy)] [.int ((mg (Int32.toNatClampNeg x1_38))), .int x1_38, .ref m4] 74 0 0
        have w_71 := kw_step (kt := kt) (b := ka.toInt.toNat) (g := (fo ma mm mg mt mk wf wp wt mw ml mb)) (n := 4 + 4 * x1_38.toInt.toNat) (n' := 5 + 4 * x1_38.toInt.toNat) (kc := (ghy28_38 + 1)) (x := (mg (Int32.toNatClampNeg x1_38))) w_55 (by omega) ((fo_mg (j := x1_38.toInt.toNat) (by omega)).symm) (by omega)
        have v_74 : vp_in x1_38 4 := (vp_in_iff.mpr (by omega))
        refine x_iast C 1 0 [(m2, .inl (cI, 4, .inl ma)), (m4, .inl (cI, 4, .inl (upd mg (Int32.toNatClampNeg x1_38) ((mg (Int32.toNatClampNeg x1_38)))))), (m5, .inl (cI, 4, .inl mt)), (m6, .inl (cI, 4, .inl mk)), (m3, .inl (cI, 16, .inl mm)), (m7, .inl (cI, 6, .inl wf)), (m8, .inl (cI, 6, .inl wp)), (m9, .inl (cI, 6, .inl wt)), (hy, .inr (10, [.ref m0, .ref m1, .ref m2, .ref m3, .ref m4, .ref m5, .ref m6, .ref m7, .ref m8, .ref m9, .int mw, .int ml, .int mb, .ref m10, .int mz, .ref m11, .int op, .int bp, .int by0, .int dp, .int tk, .ref m12, .ref m13, .ref m14, .ref m15, .ref m16, .ref m17, .ref m18, .int ((ghy28_38 + 1) + 1), .int 1])), (m17, .inl (cI, 120, .inl (upd (upd fm17_38 (Int32.toNatClampNeg ghy28_38) (ma (Int32.toNatClampNeg x1_38))) (Int32.toNatClampNeg (ghy28_38 + 1)) (mg (Int32.toNatClampNeg x1_38)))))] dX10_passAll_74 hT.1 rfl v_74 rfl ?_
        refine x_arr 1 mg [(m2, .inl (cI, 4, .inl ma)), (m4, .inl (cI, 4, .inl mg)), (m5, .inl (cI, 4, .inl mt)), (m6, .inl (cI, 4, .inl mk)), (m3, .inl (cI, 16, .inl mm)), (m7, .inl (cI, 6, .inl wf)), (m8, .inl (cI, 6, .inl wp)), (m9, .inl (cI, 6, .inl wt)), (hy, .inr (10, [.ref m0, .ref m1, .ref m2, .ref m3, .ref m4, .ref m5, .ref m6, .ref m7, .ref m8, .ref m9, .int mw, .int ml, .int mb, .ref m10, .int mz, .ref m11, .int op, .int bp, .int by0, .int dp, .int tk, .ref m12, .ref m13, .ref m14, .ref m15, .ref m16, .ref m17, .ref m18, .int ((ghy28_38 + 1) + 1), .int 1])), (m17, .inl (cI, 120, .inl (upd (upd fm17_38 (Int32.toNatClampNeg ghy28_38) (ma (Int32.toNatClampNeg x1_38))) (Int32.toNatClampNeg (ghy28_38 + 1)) (mg (Int32.toNatClampNeg x1_38)))))] rfl (fun j _ => upd_self _ _ _) rfl ?_
        refine x_aload_n C 1 dX10_passAll_75 rfl rfl ?_
        refine x_get C 8 5 dX10_passAll_76 inlX10 rfl (by decide) wd_127 rfl rfl rfl ?_
        refine x_iload_n C 0 dX10_passAll_79 rfl rfl ?_
        refine x_aload_n C 1 dX10_passAll_80 rfl rfl ?_
        refine x_aload_n C 1 dX10_passAll_81 rfl rfl ?_
        refine x_get C 8 5 dX10_passAll_82 inlX10 rfl (by decide) wd_127 rfl rfl rfl ?_
        refine x_iload_n C 0 dX10_passAll_85 rfl rfl ?_
        have v_86 : vp_in x1_38 4 := (vp_in_iff.mpr (by omega))
        refine x_iald C 2 0 dX10_passAll_86 hT.1 rfl v_86 ?_
        have : (1 : Int32).toInt = 1 := by decide
        have := i_add (x := ghy28_38) (y := 1) (by omega) (by omega)
        have : (1 : Int32).toInt = 1 := by decide
        have := i_add (x := (ghy28_38 + 1)) (y := 1) (by omega) (by omega)
        refine x_callV C [.int (mt (Int32.toNatClampNeg x1_38))] [(m2, .inl (cI, 4, .inl ma)), (m4, .inl (cI, 4, .inl mg)), (m5, .inl (cI, 4, .inl mt)), (m6, .inl (cI, 4, .inl mk)), (m3, .inl (cI, 16, .inl mm)), (m7, .inl (cI, 6, .inl wf)), (m8, .inl (cI, 6, .inl wp)), (m9, .inl (cI, 6, .inl wt))] [8, 9] [0, 1, 2, 3, 4, 5, 6, 7] (q0 := 0) (c_X10_passW (xl X) (xD X) (xt X) hT hy m0 m1 m2 m3 m4 m5 m6 m7 m8 m9 m10 m11 m12 m13 m14 m15 m16 m17 m18 (upd (upd fm17_38 (Int32.toNatClampNeg ghy28_38) (ma (Int32.toNatClampNeg x1_38))) (Int32.toNatClampNeg (ghy28_38 + 1)) (mg (Int32.toNatClampNeg x1_38))) mw ml mb mz op bp by0 dp tk ((ghy28_38 + 1) + 1) (mt (Int32.toNatClampNeg x1_38)) (by omega)) dX10_passAll_87 wd_867 wd_868 wd_869 wd_5 wd_870 (np := 1) ⟨by decide, by decide, by decide +kernel⟩ rfl rfl (Nat.le_of_ble_eq_true rfl) (by decide) rfl rfl rfl rfl (by decide) rfl (by decide) (by decide) (fun v W1 h => ?_)
        obtain ⟨_, rfl, rfl, h_87⟩ := h
        show V X 2 [(m2, .inl (cI, 4, .inl ma)), (m4, .inl (cI, 4, .inl mg)), (m5, .inl (cI, 4, .inl mt)), (m6, .inl (cI, 4, .inl mk)), (m3, .inl (cI, 16, .inl mm)), (m7, .inl (cI, 6, .inl wf)), (m8, .inl (cI, 6, .inl wp)), (m9, .inl (cI, 6, .inl wt)), (hy, .inr (10, [.ref m0, .ref m1, .ref m2, .ref m3, .ref m4, .ref m5, .ref m6, .ref m7, .ref m8, .ref m9, .int mw, .int ml, .int mb, .ref m10, .int mz, .ref m11, .int op, .int bp, .int by0, .int dp, .int tk, .ref m12, .ref m13, .ref m14, .ref m15, .ref m16, .ref m17, .ref m18, .int (((ghy28_38 + 1) + 1) + 1), .int 1])), (m17, .inl (cI, 120, .inl (upd (upd (upd fm17_38 (Int32.toNatClampNeg ghy28_38) (ma (Int32.toNatClampNeg x1_38))) (Int32.toNatClampNeg (ghy28_38 + 1)) (mg (Int32.toNatClampNeg x1_38))) (Int32.toNatClampNeg ((ghy28_38 + 1) + 1)) (mt (Int32.toNatClampNeg x1_38)))))] [(1, .int x1_38), (0, .ref hy)] [.int ((mt (Int32.toNatClampNeg x1_38))), .int x1_38, .ref m5] 90 0 0
        have w_87 := kw_step (kt := kt) (b := ka.toInt.toNat) (g := (fo ma mm mg mt mk wf wp wt mw ml mb)) (n := 5 + 4 * x1_38.toInt.toNat) (n' := 6 + 4 * x1_38.toInt.toNat) (kc := ((ghy28_38 + 1) + 1)) (x := (mt (Int32.toNatClampNeg x1_38))) w_71 (by omega) ((fo_mt (j := x1_38.toInt.toNat) (by omega)).symm) (by omega)
        have v_90 : vp_in x1_38 4 := (vp_in_iff.mpr (by omega))
        refine x_iast C 2 0 [(m2, .inl (cI, 4, .inl ma)), (m4, .inl (cI, 4, .inl mg)), (m5, .inl (cI, 4, .inl (upd mt (Int32.toNatClampNeg x1_38) ((mt (Int32.toNatClampNeg x1_38)))))), (m6, .inl (cI, 4, .inl mk)), (m3, .inl (cI, 16, .inl mm)), (m7, .inl (cI, 6, .inl wf)), (m8, .inl (cI, 6, .inl wp)), (m9, .inl (cI, 6, .inl wt)), (hy, .inr (10, [.ref m0, .ref m1, .ref m2, .ref m3, .ref m4, .ref m5, .ref m6, .ref m7, .ref m8, .ref m9, .int mw, .int ml, .int mb, .ref m10, .int mz, .ref m11, .int op, .int bp, .int by0, .int dp, .int tk, .ref m12, .ref m13, .ref m14, .ref m15, .ref m16, .ref m17, .ref m18, .int (((ghy28_38 + 1) + 1) + 1), .int 1])), (m17, .inl (cI, 120, .inl (upd (upd (upd fm17_38 (Int32.toNatClampNeg ghy28_38) (ma (Int32.toNatClampNeg x1_38))) (Int32.toNatClampNeg (ghy28_38 + 1)) (mg (Int32.toNatClampNeg x1_38))) (Int32.toNatClampNeg ((ghy28_38 + 1) + 1)) (mt (Int32.toNatClampNeg x1_38)))))] dX10_passAll_90 hT.1 rfl v_90 rfl ?_
        refine x_arr 2 mt [(m2, .inl (cI, 4, .inl ma)), (m4, .inl (cI, 4, .inl mg)), (m5, .inl (cI, 4, .inl mt)), (m6, .inl (cI, 4, .inl mk)), (m3, .inl (cI, 16, .inl mm)), (m7, .inl (cI, 6, .inl wf)), (m8, .inl (cI, 6, .inl wp)), (m9, .inl (cI, 6, .inl wt)), (hy, .inr (10, [.ref m0, .ref m1, .ref m2, .ref m3, .ref m4, .ref m5, .ref m6, .ref m7, .ref m8, .ref m9, .int mw, .int ml, .int mb, .ref m10, .int mz, .ref m11, .int op, .int bp, .int by0, .int dp, .int tk, .ref m12, .ref m13, .ref m14, .ref m15, .ref m16, .ref m17, .ref m18, .int (((ghy28_38 + 1) + 1) + 1), .int 1])), (m17, .inl (cI, 120, .inl (upd (upd (upd fm17_38 (Int32.toNatClampNeg ghy28_38) (ma (Int32.toNatClampNeg x1_38))) (Int32.toNatClampNeg (ghy28_38 + 1)) (mg (Int32.toNatClampNeg x1_38))) (Int32.toNatClampNeg ((ghy28_38 + 1) + 1)) (mt (Int32.toNatClampNeg x1_38)))))] rfl (fun j _ => upd_self _ _ _) rfl ?_
        refine x_aload_n C 1 dX10_passAll_91 rfl rfl ?_
        refine x_get C 8 6 dX10_passAll_92 inlX10 rfl (by decide) wd_128 rfl rfl rfl ?_
        refine x_iload_n C 0 dX10_passAll_95 rfl rfl ?_
        refine x_aload_n C 1 dX10_passAll_96 rfl rfl ?_
        refine x_aload_n C 1 dX10_passAll_97 rfl rfl ?_
        refine x_get C 8 6 dX10_passAll_98 inlX10 rfl (by decide) wd_128 rfl rfl rfl ?_
        refine x_iload_n C 0 dX10_passAll_101 rfl rfl ?_
        have v_102 : vp_in x1_38 4 := (vp_in_iff.mpr (by omega))
        refine x_iald C 3 0 dX10_passAll_102 hT.1 rfl v_102 ?_
        have : (1 : Int32).toInt = 1 := by decide
        have := i_add (x := ghy28_38) (y := 1) (by omega) (by omega)
        have : (1 : Int32).toInt = 1 := by decide
        have := i_add (x := (ghy28_38 + 1)) (y := 1) (by omega) (by omega)
        have : (1 : Int32).toInt = 1 := by decide
        have := i_add (x := ((ghy28_38 + 1) + 1)) (y := 1) (by omega) (by omega)
        refine x_callV C [.int (mk (Int32.toNatClampNeg x1_38))] [(m2, .inl (cI, 4, .inl ma)), (m4, .inl (cI, 4, .inl mg)), (m5, .inl (cI, 4, .inl mt)), (m6, .inl (cI, 4, .inl mk)), (m3, .inl (cI, 16, .inl mm)), (m7, .inl (cI, 6, .inl wf)), (m8, .inl (cI, 6, .inl wp)), (m9, .inl (cI, 6, .inl wt))] [8, 9] [0, 1, 2, 3, 4, 5, 6, 7] (q0 := 0) (c_X10_passW (xl X) (xD X) (xt X) hT hy m0 m1 m2 m3 m4 m5 m6 m7 m8 m9 m10 m11 m12 m13 m14 m15 m16 m17 m18 (upd (upd (upd fm17_38 (Int32.toNatClampNeg ghy28_38) (ma (Int32.toNatClampNeg x1_38))) (Int32.toNatClampNeg (ghy28_38 + 1)) (mg (Int32.toNatClampNeg x1_38))) (Int32.toNatClampNeg ((ghy28_38 + 1) + 1)) (mt (Int32.toNatClampNeg x1_38))) mw ml mb mz op bp by0 dp tk (((ghy28_38 + 1) + 1) + 1) (mk (Int32.toNatClampNeg x1_38)) (by omega)) dX10_passAll_103 wd_867 wd_868 wd_869 wd_5 wd_870 (np := 1) ⟨by decide, by decide, by decide +kernel⟩ rfl rfl (Nat.le_of_ble_eq_true rfl) (by decide) rfl rfl rfl rfl (by decide) rfl (by decide) (by decide) (fun v W1 h => ?_)
        obtain ⟨_, rfl, rfl, h_103⟩ := h
        show V X 2 [(m2, .inl (cI, 4, .inl ma)), (m4, .inl (cI, 4, .inl mg)), (m5, .inl (cI, 4, .inl mt)), (m6, .inl (cI, 4, .inl mk)), (m3, .inl (cI, 16, .inl mm)), (m7, .inl (cI, 6, .inl wf)), (m8, .inl (cI, 6, .inl wp)), (m9, .inl (cI, 6, .inl wt)), (hy, .inr (10, [.ref m0, .ref m1, .ref m2, .ref m3, .ref m4, .ref m5, .ref m6, .ref m7, .ref m8, .ref m9, .int mw, .int ml, .int mb, .ref m10, .int mz, .ref m11, .int op, .int bp, .int by0, .int dp, .int tk, .ref m12, .ref m13, .ref m14, .ref m15, .ref m16, .ref m17, .ref m18, .int ((((ghy28_38 + 1) + 1) + 1) + 1), .int 1])), (m17, .inl (cI, 120, .inl (upd (upd (upd (upd fm17_38 (Int32.toNatClampNeg ghy28_38) (ma (Int32.toNatClampNeg x1_38))) (Int32.toNatClampNeg (ghy28_38 + 1)) (mg (Int32.toNatClampNeg x1_38))) (Int32.toNatClampNeg ((ghy28_38 + 1) + 1)) (mt (Int32.toNatClampNeg x1_38))) (Int32.toNatClampNeg (((ghy28_38 + 1) + 1) + 1)) (mk (Int32.toNatClampNeg x1_38)))))] [(1, .int x1_38), (0, .ref hy)] [.int ((mk (Int32.toNatClampNeg x1_38))), .int x1_38, .ref m6] 106 0 0
        have w_103 := kw_step (kt := kt) (b := ka.toInt.toNat) (g := (fo ma mm mg mt mk wf wp wt mw ml mb)) (n := 6 + 4 * x1_38.toInt.toNat) (n' := 7 + 4 * x1_38.toInt.toNat) (kc := (((ghy28_38 + 1) + 1) + 1)) (x := (mk (Int32.toNatClampNeg x1_38))) w_87 (by omega) ((fo_mk (j := x1_38.toInt.toNat) (by omega)).symm) (by omega)
        have v_106 : vp_in x1_38 4 := (vp_in_iff.mpr (by omega))
        refine x_iast C 3 0 [(m2, .inl (cI, 4, .inl ma)), (m4, .inl (cI, 4, .inl mg)), (m5, .inl (cI, 4, .inl mt)), (m6, .inl (cI, 4, .inl (upd mk (Int32.toNatClampNeg x1_38) ((mk (Int32.toNatClampNeg x1_38)))))), (m3, .inl (cI, 16, .inl mm)), (m7, .inl (cI, 6, .inl wf)), (m8, .inl (cI, 6, .inl wp)), (m9, .inl (cI, 6, .inl wt)), (hy, .inr (10, [.ref m0, .ref m1, .ref m2, .ref m3, .ref m4, .ref m5, .ref m6, .ref m7, .ref m8, .ref m9, .int mw, .int ml, .int mb, .ref m10, .int mz, .ref m11, .int op, .int bp, .int by0, .int dp, .int tk, .ref m12, .ref m13, .ref m14, .ref m15, .ref m16, .ref m17, .ref m18, .int ((((ghy28_38 + 1) + 1) + 1) + 1), .int 1])), (m17, .inl (cI, 120, .inl (upd (upd (upd (upd fm17_38 (Int32.toNatClampNeg ghy28_38) (ma (Int32.toNatClampNeg x1_38))) (Int32.toNatClampNeg (ghy28_38 + 1)) (mg (Int32.toNatClampNeg x1_38))) (Int32.toNatClampNeg ((ghy28_38 + 1) + 1)) (mt (Int32.toNatClampNeg x1_38))) (Int32.toNatClampNeg (((ghy28_38 + 1) + 1) + 1)) (mk (Int32.toNatClampNeg x1_38)))))] dX10_passAll_106 hT.1 rfl v_106 rfl ?_
        refine x_arr 3 mk [(m2, .inl (cI, 4, .inl ma)), (m4, .inl (cI, 4, .inl mg)), (m5, .inl (cI, 4, .inl mt)), (m6, .inl (cI, 4, .inl mk)), (m3, .inl (cI, 16, .inl mm)), (m7, .inl (cI, 6, .inl wf)), (m8, .inl (cI, 6, .inl wp)), (m9, .inl (cI, 6, .inl wt)), (hy, .inr (10, [.ref m0, .ref m1, .ref m2, .ref m3, .ref m4, .ref m5, .ref m6, .ref m7, .ref m8, .ref m9, .int mw, .int ml, .int mb, .ref m10, .int mz, .ref m11, .int op, .int bp, .int by0, .int dp, .int tk, .ref m12, .ref m13, .ref m14, .ref m15, .ref m16, .ref m17, .ref m18, .int ((((ghy28_38 + 1) + 1) + 1) + 1), .int 1])), (m17, .inl (cI, 120, .inl (upd (upd (upd (upd fm17_38 (Int32.toNatClampNeg ghy28_38) (ma (Int32.toNatClampNeg x1_38))) (Int32.toNatClampNeg (ghy28_38 + 1)) (mg (Int32.toNatClampNeg x1_38))) (Int32.toNatClampNeg ((ghy28_38 + 1) + 1)) (mt (Int32.toNatClampNeg x1_38))) (Int32.toNatClampNeg (((ghy28_38 + 1) + 1) + 1)) (mk (Int32.toNatClampNeg x1_38)))))] rfl (fun j _ => upd_self _ _ _) rfl ?_
        refine x_iinc C 0 (x1_38 + 1) [(1, .int (x1_38 + 1)), (0, .ref hy)] dX10_passAll_107 rfl rfl (by decide) rfl ?_
        refine x_goto C 38 dX10_passAll_110 (by decide) ?_
        have : (1 : Int32).toInt = 1 := by decide
        have := i_add (x := ghy28_38) (y := 1) (by omega) (by omega)
        have : (1 : Int32).toInt = 1 := by decide
        have := i_add (x := (ghy28_38 + 1)) (y := 1) (by omega) (by omega)
        have : (1 : Int32).toInt = 1 := by decide
        have := i_add (x := ((ghy28_38 + 1) + 1)) (y := 1) (by omega) (by omega)
        have : (1 : Int32).toInt = 1 := by decide
        have := i_add (x := (((ghy28_38 + 1) + 1) + 1)) (y := 1) (by omega) (by omega)
        have : (1 : Int32).toInt = 1 := by decide
        have := i_add (x := x1_38) (y := 1) (by omega) (by omega)
        exact ih_38 (x1_38 + 1) ((((ghy28_38 + 1) + 1) + 1) + 1) (upd (upd (upd (upd fm17_38 (Int32.toNatClampNeg ghy28_38) (ma (Int32.toNatClampNeg x1_38))) (Int32.toNatClampNeg (ghy28_38 + 1)) (mg (Int32.toNatClampNeg x1_38))) (Int32.toNatClampNeg ((ghy28_38 + 1) + 1)) (mt (Int32.toNatClampNeg x1_38))) (Int32.toNatClampNeg (((ghy28_38 + 1) + 1) + 1)) (mk (Int32.toNatClampNeg x1_38))) ⟨by omega, by rw [show 3 + 4 * (x1_38 + 1).toInt.toNat = 7 + 4 * x1_38.toInt.toNat by omega]; exact w_103⟩ (by omega)
  have : (1 : Int32).toInt = 1 := by decide
  have := i_add (x := ka) (y := 1) (by omega) (by omega)
  have : (1 : Int32).toInt = 1 := by decide
  have := i_add (x := (ka + 1)) (y := 1) (by omega) (by omega)
  have : (1 : Int32).toInt = 1 := by decide
  have := i_add (x := ((ka + 1) + 1)) (y := 1) (by omega) (by omega)
  have : (0 : Int32).toInt = 0 := by decide
  exact L_38 _ 0 (((ka + 1) + 1) + 1) (upd (upd (upd kt (Int32.toNatClampNeg ka) mw) (Int32.toNatClampNeg (ka + 1)) ml) (Int32.toNatClampNeg ((ka + 1) + 1)) mb) ⟨by omega, by rw [show 3 + 4 * (0 : Int32).toInt.toNat = 3 by omega]; exact w_30⟩ (Nat.lt_succ_self _)
abbrev rm_X10_image : Room := { frames := 2, cells := 0, slots := 0, locals := 43 }
set_option maxHeartbeats 4000000 in
set_option maxRecDepth 100000 in
theorem c_X10_image (l : Launch) (D : va_G) (tys : List (ClassId × FieldType)) {cI cJ cZ cB : ClassId} (hT : Ty tys cI cJ cZ cB) (hy m0 m1 m2 m3 m4 m5 m6 m7 m8 m9 m10 m11 m12 m13 m14 m15 m16 m17 m18 : Nat) (kt ma mg mt mk mm wf wp wt ik : Nat → Int32) (mw ml mb mz op bp by0 dp tk ka iw : Int32) (a : Int32)  : Cn l D tys yX10_image cX10_image 2 (some .int) rm_X10_image [(hy, .inr (10, [.ref m0, .ref m1, .ref m2, .ref m3, .ref m4, .ref m5, .ref m6, .ref m7, .ref m8, .ref m9, .int mw, .int ml, .int mb, .ref m10, .int mz, .ref m11, .int op, .int bp, .int by0, .int dp, .int tk, .ref m12, .ref m13, .ref m14, .ref m15, .ref m16, .ref m17, .ref m18, .int ka, .int iw])), (m17, .inl (cI, 120, .inl kt)), (m2, .inl (cI, 4, .inl ma)), (m4, .inl (cI, 4, .inl mg)), (m5, .inl (cI, 4, .inl mt)), (m6, .inl (cI, 4, .inl mk)), (m3, .inl (cI, 16, .inl mm)), (m7, .inl (cI, 6, .inl wf)), (m8, .inl (cI, 6, .inl wp)), (m9, .inl (cI, 6, .inl wt)), (m18, .inl (cZ, 2, .inl ik))] [.ref hy, .int a] (fun v W1 => ∃ (r ka2 iw2 : Int32) (kt2 ik2 : Nat → Int32), v = some (.int r) ∧ W1 = [(hy, .inr (10, [.ref m0, .ref m1, .ref m2, .ref m3, .ref m4, .ref m5, .ref m6, .ref m7, .ref m8, .ref m9, .int mw, .int ml, .int mb, .ref m10, .int mz, .ref m11, .int op, .int bp, .int by0, .int dp, .int tk, .ref m12, .ref m13, .ref m14, .ref m15, .ref m16, .ref m17, .ref m18, .int ka2, .int iw2])), (m17, .inl (cI, 120, .inl kt2)), (m2, .inl (cI, 4, .inl ma)), (m4, .inl (cI, 4, .inl mg)), (m5, .inl (cI, 4, .inl mt)), (m6, .inl (cI, 4, .inl mk)), (m3, .inl (cI, 16, .inl mm)), (m7, .inl (cI, 6, .inl wf)), (m8, .inl (cI, 6, .inl wp)), (m9, .inl (cI, 6, .inl wt)), (m18, .inl (cZ, 2, .inl ik2))] ∧ (((0 ≤ a.toInt ∧ a.toInt ≤ 1) → kt2 = kw kt (60 * a.toInt).toNat (fo ma mm mg mt mk wf wp wt mw ml mb) 53) ∧ (¬ (0 ≤ a.toInt ∧ a.toInt ≤ 1) → kt2 = kt) ∧ ((0 ≤ a.toInt ∧ a.toInt ≤ 1) → r = 1) ∧ (¬ (0 ≤ a.toInt ∧ a.toInt ≤ 1) → r = -2) ∧ ((0 ≤ a.toInt ∧ a.toInt ≤ 1) → ik2 = upd ik (Int32.toNatClampNeg a) 1) ∧ (¬ (0 ≤ a.toInt ∧ a.toInt ≤ 1) → ik2 = ik))) := by
  refine Cn.of (by decide) (Nat.le_of_ble_eq_true rfl) ?_ ?_ (fun X eL eD eT eO eK eN eM C => ?_)
  · intro h; cases h
  · intro v ws h; obtain ⟨_, _, _, _, _, rfl, rfl, _⟩ := h; exact Or.inl rfl
  subst eL eD eT
  show V X 2 [(hy, .inr (10, [.ref m0, .ref m1, .ref m2, .ref m3, .ref m4, .ref m5, .ref m6, .ref m7, .ref m8, .ref m9, .int mw, .int ml, .int mb, .ref m10, .int mz, .ref m11, .int op, .int bp, .int by0, .int dp, .int tk, .ref m12, .ref m13, .ref m14, .ref m15, .ref m16, .ref m17, .ref m18, .int ka, .int iw])), (m17, .inl (cI, 120, .inl kt)), (m2, .inl (cI, 4, .inl ma)), (m4, .inl (cI, 4, .inl mg)), (m5, .inl (cI, 4, .inl mt)), (m6, .inl (cI, 4, .inl mk)), (m3, .inl (cI, 16, .inl mm)), (m7, .inl (cI, 6, .inl wf)), (m8, .inl (cI, 6, .inl wp)), (m9, .inl (cI, 6, .inl wt)), (m18, .inl (cZ, 2, .inl ik))] [(0, .ref hy), (1, .int a)] [] 0 0 0
  refine x_iload_n C 1 dX10_image_0 rfl rfl ?_
  refine x_i2l C dX10_image_1 ?_
  refine x_lconst C 0 dX10_image_2 (by decide) ?_
  refine x_lconst C 1 dX10_image_3 (by decide) ?_
  refine x_callS C [.long (Int32.toInt64 a), .long 0, .long 1] [(hy, .inr (10, [.ref m0, .ref m1, .ref m2, .ref m3, .ref m4, .ref m5, .ref m6, .ref m7, .ref m8, .ref m9, .int mw, .int ml, .int mb, .ref m10, .int mz, .ref m11, .int op, .int bp, .int by0, .int dp, .int tk, .ref m12, .ref m13, .ref m14, .ref m15, .ref m16, .ref m17, .ref m18, .int ka, .int iw])), (m17, .inl (cI, 120, .inl kt)), (m2, .inl (cI, 4, .inl ma)), (m4, .inl (cI, 4, .inl mg)), (m5, .inl (cI, 4, .inl mt)), (m6, .inl (cI, 4, .inl mk)), (m3, .inl (cI, 16, .inl mm)), (m7, .inl (cI, 6, .inl wf)), (m8, .inl (cI, 6, .inl wp)), (m9, .inl (cI, 6, .inl wt)), (m18, .inl (cZ, 2, .inl ik))] [] [0, 1, 2, 3, 4, 5, 6, 7, 8, 9, 10] (c_X10_in (xl X) (xD X) (xt X) hT (Int32.toInt64 a) 0 1 ) dX10_image_4 wd_167 wd_168 wd_5 wd_169 (np := 3) ⟨by decide, by decide, by decide +kernel⟩ rfl rfl (Nat.le_of_ble_eq_true rfl) (by decide) rfl (by decide) rfl (by decide) (by decide) (fun v W1 h => ?_)
  obtain ⟨r_4, rfl, rfl, h_4⟩ := h
  have : (Int32.toInt64 a : Int64).toInt = (a : Int32).toInt := Int32.toInt_toInt64 _
  have : (0 : Int64).toInt = 0 := by decide
  have : (1 : Int64).toInt = 1 := by decide
  show V X 2 [(hy, .inr (10, [.ref m0, .ref m1, .ref m2, .ref m3, .ref m4, .ref m5, .ref m6, .ref m7, .ref m8, .ref m9, .int mw, .int ml, .int mb, .ref m10, .int mz, .ref m11, .int op, .int bp, .int by0, .int dp, .int tk, .ref m12, .ref m13, .ref m14, .ref m15, .ref m16, .ref m17, .ref m18, .int ka, .int iw])), (m17, .inl (cI, 120, .inl kt)), (m2, .inl (cI, 4, .inl ma)), (m4, .inl (cI, 4, .inl mg)), (m5, .inl (cI, 4, .inl mt)), (m6, .inl (cI, 4, .inl mk)), (m3, .inl (cI, 16, .inl mm)), (m7, .inl (cI, 6, .inl wf)), (m8, .inl (cI, 6, .inl wp)), (m9, .inl (cI, 6, .inl wt)), (m18, .inl (cZ, 2, .inl ik))] [(0, .ref hy), (1, .int a)] [.int r_4] 7 0 0
  refine x_if_ne C 13 dX10_image_7 (by decide) (fun c_7 => ?_) (fun c_7 => ?_)
  · skip
    have e_7 : ¬ ((r_4 : Int32).toInt = (0 : Int32).toInt) := fun h => c_7 (i_eq.mpr h)
    have : (0 : Int32).toInt = 0 := by decide
    have : (60 : Int32).toInt = 60 := by decide
    have m60 := i_mull (x := 60) (y := a) (d := 60) (by decide) (by omega) (by omega)
    refine x_aload_n C 0 dX10_image_13 rfl rfl ?_
    refine x_bipush C 60 dX10_image_14 (by decide) ?_
    refine x_iload_n C 1 dX10_image_16 rfl rfl ?_
    refine x_imul C dX10_image_17 ?_
    refine x_put C 0 28 (ty := .int) [(hy, .inr (10, [.ref m0, .ref m1, .ref m2, .ref m3, .ref m4, .ref m5, .ref m6, .ref m7, .ref m8, .ref m9, .int mw, .int ml, .int mb, .ref m10, .int mz, .ref m11, .int op, .int bp, .int by0, .int dp, .int tk, .ref m12, .ref m13, .ref m14, .ref m15, .ref m16, .ref m17, .ref m18, .int (60 * a), .int iw])), (m17, .inl (cI, 120, .inl kt)), (m2, .inl (cI, 4, .inl ma)), (m4, .inl (cI, 4, .inl mg)), (m5, .inl (cI, 4, .inl mt)), (m6, .inl (cI, 4, .inl mk)), (m3, .inl (cI, 16, .inl mm)), (m7, .inl (cI, 6, .inl wf)), (m8, .inl (cI, 6, .inl wp)), (m9, .inl (cI, 6, .inl wt)), (m18, .inl (cZ, 2, .inl ik))] dX10_image_18 inlX10 tyX10 tyX10_ok nmX10 rfl (by decide) wd_861 rfl rfl rfl rfl rfl rfl (Nat.le_of_ble_eq_true rfl) rfl ?_
    refine x_aload_n C 0 dX10_image_21 rfl rfl ?_
    refine x_iconst C 1 dX10_image_22 (by decide) ?_
    refine x_put C 0 29 (ty := .boolean) [(hy, .inr (10, [.ref m0, .ref m1, .ref m2, .ref m3, .ref m4, .ref m5, .ref m6, .ref m7, .ref m8, .ref m9, .int mw, .int ml, .int mb, .ref m10, .int mz, .ref m11, .int op, .int bp, .int by0, .int dp, .int tk, .ref m12, .ref m13, .ref m14, .ref m15, .ref m16, .ref m17, .ref m18, .int (60 * a), .int 1])), (m17, .inl (cI, 120, .inl kt)), (m2, .inl (cI, 4, .inl ma)), (m4, .inl (cI, 4, .inl mg)), (m5, .inl (cI, 4, .inl mt)), (m6, .inl (cI, 4, .inl mk)), (m3, .inl (cI, 16, .inl mm)), (m7, .inl (cI, 6, .inl wf)), (m8, .inl (cI, 6, .inl wp)), (m9, .inl (cI, 6, .inl wt)), (m18, .inl (cZ, 2, .inl ik))] dX10_image_23 inlX10 tyX10 tyX10_ok nmX10 rfl (by decide) wd_862 rfl rfl rfl rfl rfl rfl (Nat.le_of_ble_eq_true rfl) rfl ?_
    refine x_aload_n C 0 dX10_image_26 rfl rfl ?_
    refine x_callV C [] [(m18, .inl (cZ, 2, .inl ik))] [0, 1, 2, 3, 4, 5, 6, 7, 8, 9] [10] (q0 := 0) (c_X10_passAllW (xl X) (xD X) (xt X) hT hy m0 m1 m2 m3 m4 m5 m6 m7 m8 m9 m10 m11 m12 m13 m14 m15 m16 m17 m18 kt ma mg mt mk mm wf wp wt mw ml mb mz op bp by0 dp tk (60 * a) (by omega)) dX10_image_27 wd_863 wd_864 wd_865 wd_5 wd_866 (np := 0) ⟨by decide, by decide, by decide +kernel⟩ rfl rfl (Nat.le_of_ble_eq_true rfl) (by decide) rfl rfl rfl rfl (by decide) rfl (by decide) (by decide) (fun v W1 h => ?_)
    obtain ⟨kt2_27, ka2_27, rfl, rfl, h_27⟩ := h
    show V X 2 [(m18, .inl (cZ, 2, .inl ik)), (hy, .inr (10, [.ref m0, .ref m1, .ref m2, .ref m3, .ref m4, .ref m5, .ref m6, .ref m7, .ref m8, .ref m9, .int mw, .int ml, .int mb, .ref m10, .int mz, .ref m11, .int op, .int bp, .int by0, .int dp, .int tk, .ref m12, .ref m13, .ref m14, .ref m15, .ref m16, .ref m17, .ref m18, .int ka2_27, .int 1])), (m17, .inl (cI, 120, .inl kt2_27)), (m2, .inl (cI, 4, .inl ma)), (m4, .inl (cI, 4, .inl mg)), (m5, .inl (cI, 4, .inl mt)), (m6, .inl (cI, 4, .inl mk)), (m3, .inl (cI, 16, .inl mm)), (m7, .inl (cI, 6, .inl wf)), (m8, .inl (cI, 6, .inl wp)), (m9, .inl (cI, 6, .inl wt))] [(0, .ref hy), (1, .int a)] [] 30 0 0
    refine x_aload_n C 0 dX10_image_30 rfl rfl ?_
    refine x_get C 1 27 dX10_image_31 inlX10 rfl (by decide) wd_142 rfl rfl rfl ?_
    refine x_iload_n C 1 dX10_image_34 rfl rfl ?_
    refine x_iconst C 1 dX10_image_35 (by decide) ?_
    have v_36 : vp_in a 2 := (vp_in_iff.mpr (by omega))
    refine x_zast C 0 2 [(m18, .inl (cZ, 2, .inl (upd ik (Int32.toNatClampNeg a) 1))), (hy, .inr (10, [.ref m0, .ref m1, .ref m2, .ref m3, .ref m4, .ref m5, .ref m6, .ref m7, .ref m8, .ref m9, .int mw, .int ml, .int mb, .ref m10, .int mz, .ref m11, .int op, .int bp, .int by0, .int dp, .int tk, .ref m12, .ref m13, .ref m14, .ref m15, .ref m16, .ref m17, .ref m18, .int ka2_27, .int 1])), (m17, .inl (cI, 120, .inl kt2_27)), (m2, .inl (cI, 4, .inl ma)), (m4, .inl (cI, 4, .inl mg)), (m5, .inl (cI, 4, .inl mt)), (m6, .inl (cI, 4, .inl mk)), (m3, .inl (cI, 16, .inl mm)), (m7, .inl (cI, 6, .inl wf)), (m8, .inl (cI, 6, .inl wp)), (m9, .inl (cI, 6, .inl wt))] dX10_image_36 hT.2.2.1 rfl v_36 rfl rfl ?_
    refine x_iconst C 1 dX10_image_37 (by decide) ?_
    refine x_sub [(hy, .inr (10, [.ref m0, .ref m1, .ref m2, .ref m3, .ref m4, .ref m5, .ref m6, .ref m7, .ref m8, .ref m9, .int mw, .int ml, .int mb, .ref m10, .int mz, .ref m11, .int op, .int bp, .int by0, .int dp, .int tk, .ref m12, .ref m13, .ref m14, .ref m15, .ref m16, .ref m17, .ref m18, .int ka2_27, .int 1])), (m17, .inl (cI, 120, .inl kt2_27)), (m2, .inl (cI, 4, .inl ma)), (m4, .inl (cI, 4, .inl mg)), (m5, .inl (cI, 4, .inl mt)), (m6, .inl (cI, 4, .inl mk)), (m3, .inl (cI, 16, .inl mm)), (m7, .inl (cI, 6, .inl wf)), (m8, .inl (cI, 6, .inl wp)), (m9, .inl (cI, 6, .inl wt)), (m18, .inl (cZ, 2, .inl (upd ik (Int32.toNatClampNeg a) 1)))] [1, 2, 3, 4, 5, 6, 7, 8, 9, 10, 0] (by decide) rfl ?_
    have : (1 : Int32).toInt = 1 := by decide
    exact x_iret C dX10_image_38 (Nat.zero_le _) (Nat.zero_le _) (by rw [eO]; exact ⟨1, ka2_27, 1, kt2_27, (upd ik (Int32.toNatClampNeg a) 1), rfl, rfl, ⟨fun h => by rw [h_27, m60], fun h => by exfalso; omega, fun h => rfl, fun h => by exfalso; omega, fun h => rfl, fun h => by exfalso; omega⟩⟩)
  · skip
    have e_7 : (r_4 : Int32).toInt = (0 : Int32).toInt := i_eq.mp c_7
    have : (0 : Int32).toInt = 0 := by decide
    refine x_bipush C (-2) dX10_image_10 (by decide) ?_
    have : ((-2) : Int32).toInt = -2 := by decide
    exact x_iret C dX10_image_12 (Nat.zero_le _) (Nat.zero_le _) (by rw [eO]; exact ⟨((-2)), ka, iw, kt, ik, rfl, rfl, ⟨fun h => by exfalso; omega, fun h => rfl, fun h => by exfalso; omega, fun h => rfl, fun h => by exfalso; omega, fun h => rfl⟩⟩)
abbrev rm_X10_passR : Room := { frames := 0, cells := 0, slots := 0, locals := 0 }
set_option maxHeartbeats 4000000 in
set_option maxRecDepth 100000 in
theorem c_X10_passR (l : Launch) (D : va_G) (tys : List (ClassId × FieldType)) {cI cJ cZ cB : ClassId} (hT : Ty tys cI cJ cZ cB) (hy m0 m1 m2 m3 m4 m5 m6 m7 m8 m9 m10 m11 m12 m13 m14 m15 m16 m17 m18 : Nat) (kt : Nat → Int32) (mw ml mb mz op bp by0 dp tk ka : Int32) (x : Int32) (hka : 0 ≤ ka.toInt ∧ ka.toInt < 120) : Cn l D tys yX10_pass cX10_pass 3 (some .int) rm_X10_passR [(hy, .inr (10, [.ref m0, .ref m1, .ref m2, .ref m3, .ref m4, .ref m5, .ref m6, .ref m7, .ref m8, .ref m9, .int mw, .int ml, .int mb, .ref m10, .int mz, .ref m11, .int op, .int bp, .int by0, .int dp, .int tk, .ref m12, .ref m13, .ref m14, .ref m15, .ref m16, .ref m17, .ref m18, .int ka, .int 0])), (m17, .inl (cI, 120, .inl kt))] [.ref hy, .int x] (fun v W1 => ∃ (_ : Unit), v = some (.int (kt (Int32.toNatClampNeg ka))) ∧ W1 = [(hy, .inr (10, [.ref m0, .ref m1, .ref m2, .ref m3, .ref m4, .ref m5, .ref m6, .ref m7, .ref m8, .ref m9, .int mw, .int ml, .int mb, .ref m10, .int mz, .ref m11, .int op, .int bp, .int by0, .int dp, .int tk, .ref m12, .ref m13, .ref m14, .ref m15, .ref m16, .ref m17, .ref m18, .int (ka + 1), .int 0])), (m17, .inl (cI, 120, .inl kt))] ∧ (True)) := by
  refine Cn.of (by decide) (Nat.le_of_ble_eq_true rfl) ?_ ?_ (fun X eL eD eT eO eK eN eM C => ?_)
  · intro h; cases h
  · intro v ws h; obtain ⟨_, rfl, rfl, _⟩ := h; exact Or.inl rfl
  subst eL eD eT
  show V X 3 [(hy, .inr (10, [.ref m0, .ref m1, .ref m2, .ref m3, .ref m4, .ref m5, .ref m6, .ref m7, .ref m8, .ref m9, .int mw, .int ml, .int mb, .ref m10, .int mz, .ref m11, .int op, .int bp, .int by0, .int dp, .int tk, .ref m12, .ref m13, .ref m14, .ref m15, .ref m16, .ref m17, .ref m18, .int ka, .int 0])), (m17, .inl (cI, 120, .inl kt))] [(0, .ref hy), (1, .int x)] [] 0 0 0
  refine x_aload_n C 0 dX10_pass_0 rfl rfl ?_
  refine x_get C 0 29 dX10_pass_1 inlX10 rfl (by decide) wd_862 rfl rfl rfl ?_
  refine x_if_eq C 11 dX10_pass_4 (by decide) (fun c_4 => ?_) (fun c_4 => ?_)
  · skip
    have e_4 : (0 : Int32).toInt = (0 : Int32).toInt := i_eq.mp c_4
    have : (0 : Int32).toInt = 0 := by decide
    have : (0 : Int32).toInt = 0 := by decide
    refine x_aload_n C 0 dX10_pass_11 rfl rfl ?_
    refine x_get C 0 26 dX10_pass_12 inlX10 rfl (by decide) wd_141 rfl rfl rfl ?_
    refine x_aload_n C 0 dX10_pass_15 rfl rfl ?_
    refine x_get C 0 28 dX10_pass_16 inlX10 rfl (by decide) wd_861 rfl rfl rfl ?_
    have v_19 : vp_in ka 120 := (vp_in_iff.mpr (by omega))
    refine x_iald C 1 0 dX10_pass_19 hT.1 rfl v_19 ?_
    refine x_istore_n C [(2, .int (kt (Int32.toNatClampNeg ka))), (0, .ref hy), (1, .int x)] dX10_pass_20 rfl (by decide) rfl ?_
    refine x_aload_n C 1 dX10_pass_21 rfl rfl ?_
    refine x_get C 0 26 dX10_pass_22 inlX10 rfl (by decide) wd_141 rfl rfl rfl ?_
    refine x_aload_n C 1 dX10_pass_25 rfl rfl ?_
    refine x_get C 0 28 dX10_pass_26 inlX10 rfl (by decide) wd_861 rfl rfl rfl ?_
    refine x_iload_n C 0 dX10_pass_29 rfl rfl ?_
    have v_30 : vp_in ka 120 := (vp_in_iff.mpr (by omega))
    refine x_iast C 1 0 [(hy, .inr (10, [.ref m0, .ref m1, .ref m2, .ref m3, .ref m4, .ref m5, .ref m6, .ref m7, .ref m8, .ref m9, .int mw, .int ml, .int mb, .ref m10, .int mz, .ref m11, .int op, .int bp, .int by0, .int dp, .int tk, .ref m12, .ref m13, .ref m14, .ref m15, .ref m16, .ref m17, .ref m18, .int ka, .int 0])), (m17, .inl (cI, 120, .inl (upd kt (Int32.toNatClampNeg ka) (kt (Int32.toNatClampNeg ka)))))] dX10_pass_30 hT.1 rfl v_30 rfl ?_
    refine x_arr 1 kt [(hy, .inr (10, [.ref m0, .ref m1, .ref m2, .ref m3, .ref m4, .ref m5, .ref m6, .ref m7, .ref m8, .ref m9, .int mw, .int ml, .int mb, .ref m10, .int mz, .ref m11, .int op, .int bp, .int by0, .int dp, .int tk, .ref m12, .ref m13, .ref m14, .ref m15, .ref m16, .ref m17, .ref m18, .int ka, .int 0])), (m17, .inl (cI, 120, .inl kt))] rfl (fun j _ => upd_self _ _ _) rfl ?_
    refine x_aload_n C 1 dX10_pass_31 rfl rfl ?_
    refine x_dup C dX10_pass_32 rfl ?_
    refine x_get C 0 28 dX10_pass_33 inlX10 rfl (by decide) wd_861 rfl rfl rfl ?_
    refine x_iconst C 1 dX10_pass_36 (by decide) ?_
    refine x_iadd C dX10_pass_37 ?_
    refine x_put C 0 28 (ty := .int) [(hy, .inr (10, [.ref m0, .ref m1, .ref m2, .ref m3, .ref m4, .ref m5, .ref m6, .ref m7, .ref m8, .ref m9, .int mw, .int ml, .int mb, .ref m10, .int mz, .ref m11, .int op, .int bp, .int by0, .int dp, .int tk, .ref m12, .ref m13, .ref m14, .ref m15, .ref m16, .ref m17, .ref m18, .int (ka + 1), .int 0])), (m17, .inl (cI, 120, .inl kt))] dX10_pass_38 inlX10 tyX10 tyX10_ok nmX10 rfl (by decide) wd_861 rfl rfl rfl rfl rfl rfl (Nat.le_of_ble_eq_true rfl) rfl ?_
    refine x_iload_n C 0 dX10_pass_41 rfl rfl ?_
    exact x_iret C dX10_pass_42 (Nat.zero_le _) (Nat.zero_le _) (by rw [eO]; exact ⟨(), rfl, rfl, trivial⟩)
  · skip
    have e_4 : ¬ ((0 : Int32).toInt = (0 : Int32).toInt) := fun h => c_4 (i_eq.mpr h)
    have : (0 : Int32).toInt = 0 := by decide
    have : (0 : Int32).toInt = 0 := by decide
    exfalso
    omega
abbrev rm_X10_passAllR : Room := { frames := 1, cells := 0, slots := 0, locals := 22 }
set_option maxHeartbeats 4000000 in
set_option maxRecDepth 100000 in
theorem c_X10_passAllR (l : Launch) (D : va_G) (tys : List (ClassId × FieldType)) {cI cJ cZ cB : ClassId} (hT : Ty tys cI cJ cZ cB) (hy m0 m1 m2 m3 m4 m5 m6 m7 m8 m9 m10 m11 m12 m13 m14 m15 m16 m17 m18 : Nat) (kt ma mg mt mk mm wf wp wt : Nat → Int32) (mw ml mb mz op bp by0 dp tk ka : Int32) (hk0 : ka.toInt = 0 ∨ ka.toInt = 60) : Cn l D tys yX10_passAll cX10_passAll 2 none rm_X10_passAllR [(hy, .inr (10, [.ref m0, .ref m1, .ref m2, .ref m3, .ref m4, .ref m5, .ref m6, .ref m7, .ref m8, .ref m9, .int mw, .int ml, .int mb, .ref m10, .int mz, .ref m11, .int op, .int bp, .int by0, .int dp, .int tk, .ref m12, .ref m13, .ref m14, .ref m15, .ref m16, .ref m17, .ref m18, .int ka, .int 0])), (m17, .inl (cI, 120, .inl kt)), (m2, .inl (cI, 4, .inl ma)), (m4, .inl (cI, 4, .inl mg)), (m5, .inl (cI, 4, .inl mt)), (m6, .inl (cI, 4, .inl mk)), (m3, .inl (cI, 16, .inl mm)), (m7, .inl (cI, 6, .inl wf)), (m8, .inl (cI, 6, .inl wp)), (m9, .inl (cI, 6, .inl wt))] [.ref hy] (fun v W1 => ∃ (mw2 ml2 mb2 ka2 : Int32) (ma2 mg2 mt2 mk2 mm2 wf2 wp2 wt2 : Nat → Int32), v = none ∧ W1 = [(hy, .inr (10, [.ref m0, .ref m1, .ref m2, .ref m3, .ref m4, .ref m5, .ref m6, .ref m7, .ref m8, .ref m9, .int mw2, .int ml2, .int mb2, .ref m10, .int mz, .ref m11, .int op, .int bp, .int by0, .int dp, .int tk, .ref m12, .ref m13, .ref m14, .ref m15, .ref m16, .ref m17, .ref m18, .int ka2, .int 0])), (m17, .inl (cI, 120, .inl kt)), (m2, .inl (cI, 4, .inl ma2)), (m4, .inl (cI, 4, .inl mg2)), (m5, .inl (cI, 4, .inl mt2)), (m6, .inl (cI, 4, .inl mk2)), (m3, .inl (cI, 16, .inl mm2)), (m7, .inl (cI, 6, .inl wf2)), (m8, .inl (cI, 6, .inl wp2)), (m9, .inl (cI, 6, .inl wt2))] ∧ (VW kt (ka.toInt.toNat + 3) 4 ma2 4 ∧ VW kt (ka.toInt.toNat + 4) 4 mg2 4 ∧ VW kt (ka.toInt.toNat + 5) 4 mt2 4 ∧ VW kt (ka.toInt.toNat + 6) 4 mk2 4 ∧ VW kt (ka.toInt.toNat + 19) 1 mm2 16 ∧ VW kt (ka.toInt.toNat + 35) 3 wf2 6 ∧ VW kt (ka.toInt.toNat + 36) 3 wp2 6 ∧ VW kt (ka.toInt.toNat + 37) 3 wt2 6 ∧ mw2 = kt (ka.toInt.toNat) ∧ ml2 = kt (ka.toInt.toNat + 1) ∧ mb2 = kt (ka.toInt.toNat + 2))) := by
  refine Cn.of (by decide) (Nat.le_of_ble_eq_true rfl) ?_ ?_ (fun X eL eD eT eO eK eN eM C => ?_)
  · intro h; cases h
  · intro v ws h; obtain ⟨_, _, _, _, _, _, _, _, _, _, _, _, rfl, rfl, _⟩ := h; rfl
  subst eL eD eT
  show V X 2 [(hy, .inr (10, [.ref m0, .ref m1, .ref m2, .ref m3, .ref m4, .ref m5, .ref m6, .ref m7, .ref m8, .ref m9, .int mw, .int ml, .int mb, .ref m10, .int mz, .ref m11, .int op, .int bp, .int by0, .int dp, .int tk, .ref m12, .ref m13, .ref m14, .ref m15, .ref m16, .ref m17, .ref m18, .int ka, .int 0])), (m17, .inl (cI, 120, .inl kt)), (m2, .inl (cI, 4, .inl ma)), (m4, .inl (cI, 4, .inl mg)), (m5, .inl (cI, 4, .inl mt)), (m6, .inl (cI, 4, .inl mk)), (m3, .inl (cI, 16, .inl mm)), (m7, .inl (cI, 6, .inl wf)), (m8, .inl (cI, 6, .inl wp)), (m9, .inl (cI, 6, .inl wt))] [(0, .ref hy)] [] 0 0 0
  refine x_aload_n C 0 dX10_passAll_0 rfl rfl ?_
  refine x_aload_n C 0 dX10_passAll_1 rfl rfl ?_
  refine x_aload_n C 0 dX10_passAll_2 rfl rfl ?_
  refine x_get C 0 10 dX10_passAll_3 inlX10 rfl (by decide) wd_260 rfl rfl rfl ?_
  refine x_callV C [.int mw] [(m2, .inl (cI, 4, .inl ma)), (m4, .inl (cI, 4, .inl mg)), (m5, .inl (cI, 4, .inl mt)), (m6, .inl (cI, 4, .inl mk)), (m3, .inl (cI, 16, .inl mm)), (m7, .inl (cI, 6, .inl wf)), (m8, .inl (cI, 6, .inl wp)), (m9, .inl (cI, 6, .inl wt))] [0, 1] [2, 3, 4, 5, 6, 7, 8, 9] (q0 := 0) (c_X10_passR (xl X) (xD X) (xt X) hT hy m0 m1 m2 m3 m4 m5 m6 m7 m8 m9 m10 m11 m12 m13 m14 m15 m16 m17 m18 kt mw ml mb mz op bp by0 dp tk ka mw (by omega)) dX10_passAll_6 wd_867 wd_868 wd_869 wd_5 wd_870 (np := 1) ⟨by decide, by decide, by decide +kernel⟩ rfl rfl (Nat.le_of_ble_eq_true rfl) (by decide) rfl rfl rfl rfl (by decide) rfl (by decide) (by decide) (fun v W1 h => ?_)
  obtain ⟨_, rfl, rfl, h_6⟩ := h
  show V X 2 [(m2, .inl (cI, 4, .inl ma)), (m4, .inl (cI, 4, .inl mg)), (m5, .inl (cI, 4, .inl mt)), (m6, .inl (cI, 4, .inl mk)), (m3, .inl (cI, 16, .inl mm)), (m7, .inl (cI, 6, .inl wf)), (m8, .inl (cI, 6, .inl wp)), (m9, .inl (cI, 6, .inl wt)), (hy, .inr (10, [.ref m0, .ref m1, .ref m2, .ref m3, .ref m4, .ref m5, .ref m6, .ref m7, .ref m8, .ref m9, .int mw, .int ml, .int mb, .ref m10, .int mz, .ref m11, .int op, .int bp, .int by0, .int dp, .int tk, .ref m12, .ref m13, .ref m14, .ref m15, .ref m16, .ref m17, .ref m18, .int (ka + 1), .int 0])), (m17, .inl (cI, 120, .inl kt))] [(0, .ref hy)] [.int (kt (Int32.toNatClampNeg ka)), .ref hy] 9 0 0
  refine x_put C 8 10 (ty := .int) [(m2, .inl (cI, 4, .inl ma)), (m4, .inl (cI, 4, .inl mg)), (m5, .inl (cI, 4, .inl mt)), (m6, .inl (cI, 4, .inl mk)), (m3, .inl (cI, 16, .inl mm)), (m7, .inl (cI, 6, .inl wf)), (m8, .inl (cI, 6, .inl wp)), (m9, .inl (cI, 6, .inl wt)), (hy, .inr (10, [.ref m0, .ref m1, .ref m2, .ref m3, .ref m4, .ref m5, .ref m6, .ref m7, .ref m8, .ref m9, .int (kt (Int32.toNatClampNeg ka)), .int ml, .int mb, .ref m10, .int mz, .ref m11, .int op, .int bp, .int by0, .int dp, .int tk, .ref m12, .ref m13, .ref m14, .ref m15, .ref m16, .ref m17, .ref m18, .int (ka + 1), .int 0])), (m17, .inl (cI, 120, .inl kt))] dX10_passAll_9 inlX10 tyX10 tyX10_ok nmX10 rfl (by decide) wd_260 rfl rfl rfl rfl rfl rfl (Nat.le_of_ble_eq_true rfl) rfl ?_
  refine x_aload_n C 0 dX10_passAll_12 rfl rfl ?_
  refine x_aload_n C 0 dX10_passAll_13 rfl rfl ?_
  refine x_aload_n C 0 dX10_passAll_14 rfl rfl ?_
  refine x_get C 8 11 dX10_passAll_15 inlX10 rfl (by decide) wd_347 rfl rfl rfl ?_
  have : (1 : Int32).toInt = 1 := by decide
  have := i_add (x := ka) (y := 1) (by omega) (by omega)
  refine x_callV C [.int ml] [(m2, .inl (cI, 4, .inl ma)), (m4, .inl (cI, 4, .inl mg)), (m5, .inl (cI, 4, .inl mt)), (m6, .inl (cI, 4, .inl mk)), (m3, .inl (cI, 16, .inl mm)), (m7, .inl (cI, 6, .inl wf)), (m8, .inl (cI, 6, .inl wp)), (m9, .inl (cI, 6, .inl wt))] [8, 9] [0, 1, 2, 3, 4, 5, 6, 7] (q0 := 0) (c_X10_passR (xl X) (xD X) (xt X) hT hy m0 m1 m2 m3 m4 m5 m6 m7 m8 m9 m10 m11 m12 m13 m14 m15 m16 m17 m18 kt (kt (Int32.toNatClampNeg ka)) ml mb mz op bp by0 dp tk (ka + 1) ml (by omega)) dX10_passAll_18 wd_867 wd_868 wd_869 wd_5 wd_870 (np := 1) ⟨by decide, by decide, by decide +kernel⟩ rfl rfl (Nat.le_of_ble_eq_true rfl) (by decide) rfl rfl rfl rfl (by decide) rfl (by decide) (by decide) (fun v W1 h => ?_)
  obtain ⟨_, rfl, rfl, h_18⟩ := h
  show V X 2 [(m2, .inl (cI, 4, .inl ma)), (m4, .inl (cI, 4, .inl mg)), (m5, .inl (cI, 4, .inl mt)), (m6, .inl (cI, 4, .inl mk)), (m3, .inl (cI, 16, .inl mm)), (m7, .inl (cI, 6, .inl wf)), (m8, .inl (cI, 6, .inl wp)), (m9, .inl (cI, 6, .inl wt)), (hy, .inr (10, [.ref m0, .ref m1, .ref m2, .ref m3, .ref m4, .ref m5, .ref m6, .ref m7, .ref m8, .ref m9, .int (kt (Int32.toNatClampNeg ka)), .int ml, .int mb, .ref m10, .int mz, .ref m11, .int op, .int bp, .int by0, .int dp, .int tk, .ref m12, .ref m13, .ref m14, .ref m15, .ref m16, .ref m17, .ref m18, .int ((ka + 1) + 1), .int 0])), (m17, .inl (cI, 120, .inl kt))] [(0, .ref hy)] [.int (kt (Int32.toNatClampNeg (ka + 1))), .ref hy] 21 0 0
  refine x_put C 8 11 (ty := .int) [(m2, .inl (cI, 4, .inl ma)), (m4, .inl (cI, 4, .inl mg)), (m5, .inl (cI, 4, .inl mt)), (m6, .inl (cI, 4, .inl mk)), (m3, .inl (cI, 16, .inl mm)), (m7, .inl (cI, 6, .inl wf)), (m8, .inl (cI, 6, .inl wp)), (m9, .inl (cI, 6, .inl wt)), (hy, .inr (10, [.ref m0, .ref m1, .ref m2, .ref m3, .ref m4, .ref m5, .ref m6, .ref m7, .ref m8, .ref m9, .int (kt (Int32.toNatClampNeg ka)), .int (kt (Int32.toNatClampNeg (ka + 1))), .int mb, .ref m10, .int mz, .ref m11, .int op, .int bp, .int by0, .int dp, .int tk, .ref m12, .ref m13, .ref m14, .ref m15, .ref m16, .ref m17, .ref m18, .int ((ka + 1) + 1), .int 0])), (m17, .inl (cI, 120, .inl kt))] dX10_passAll_21 inlX10 tyX10 tyX10_ok nmX10 rfl (by decide) wd_347 rfl rfl rfl rfl rfl rfl (Nat.le_of_ble_eq_true rfl) rfl ?_
  refine x_aload_n C 0 dX10_passAll_24 rfl rfl ?_
  refine x_aload_n C 0 dX10_passAll_25 rfl rfl ?_
  refine x_aload_n C 0 dX10_passAll_26 rfl rfl ?_
  refine x_get C 8 12 dX10_passAll_27 inlX10 rfl (by decide) wd_348 rfl rfl rfl ?_
  have : (1 : Int32).toInt = 1 := by decide
  have := i_add (x := ka) (y := 1) (by omega) (by omega)
  have : (1 : Int32).toInt = 1 := by decide
  have := i_add (x := (ka + 1)) (y := 1) (by omega) (by omega)
  refine x_callV C [.int mb] [(m2, .inl (cI, 4, .inl ma)), (m4, .inl (cI, 4, .inl mg)), (m5, .inl (cI, 4, .inl mt)), (m6, .inl (cI, 4, .inl mk)), (m3, .inl (cI, 16, .inl mm)), (m7, .inl (cI, 6, .inl wf)), (m8, .inl (cI, 6, .inl wp)), (m9, .inl (cI, 6, .inl wt))] [8, 9] [0, 1, 2, 3, 4, 5, 6, 7] (q0 := 0) (c_X10_passR (xl X) (xD X) (xt X) hT hy m0 m1 m2 m3 m4 m5 m6 m7 m8 m9 m10 m11 m12 m13 m14 m15 m16 m17 m18 kt (kt (Int32.toNatClampNeg ka)) (kt (Int32.toNatClampNeg (ka + 1))) mb mz op bp by0 dp tk ((ka + 1) + 1) mb (by omega)) dX10_passAll_30 wd_867 wd_868 wd_869 wd_5 wd_870 (np := 1) ⟨by decide, by decide, by decide +kernel⟩ rfl rfl (Nat.le_of_ble_eq_true rfl) (by decide) rfl rfl rfl rfl (by decide) rfl (by decide) (by decide) (fun v W1 h => ?_)
  obtain ⟨_, rfl, rfl, h_30⟩ := h
  show V X 2 [(m2, .inl (cI, 4, .inl ma)), (m4, .inl (cI, 4, .inl mg)), (m5, .inl (cI, 4, .inl mt)), (m6, .inl (cI, 4, .inl mk)), (m3, .inl (cI, 16, .inl mm)), (m7, .inl (cI, 6, .inl wf)), (m8, .inl (cI, 6, .inl wp)), (m9, .inl (cI, 6, .inl wt)), (hy, .inr (10, [.ref m0, .ref m1, .ref m2, .ref m3, .ref m4, .ref m5, .ref m6, .ref m7, .ref m8, .ref m9, .int (kt (Int32.toNatClampNeg ka)), .int (kt (Int32.toNatClampNeg (ka + 1))), .int mb, .ref m10, .int mz, .ref m11, .int op, .int bp, .int by0, .int dp, .int tk, .ref m12, .ref m13, .ref m14, .ref m15, .ref m16, .ref m17, .ref m18, .int (((ka + 1) + 1) + 1), .int 0])), (m17, .inl (cI, 120, .inl kt))] [(0, .ref hy)] [.int (kt (Int32.toNatClampNeg ((ka + 1) + 1))), .ref hy] 33 0 0
  refine x_put C 8 12 (ty := .int) [(m2, .inl (cI, 4, .inl ma)), (m4, .inl (cI, 4, .inl mg)), (m5, .inl (cI, 4, .inl mt)), (m6, .inl (cI, 4, .inl mk)), (m3, .inl (cI, 16, .inl mm)), (m7, .inl (cI, 6, .inl wf)), (m8, .inl (cI, 6, .inl wp)), (m9, .inl (cI, 6, .inl wt)), (hy, .inr (10, [.ref m0, .ref m1, .ref m2, .ref m3, .ref m4, .ref m5, .ref m6, .ref m7, .ref m8, .ref m9, .int (kt (Int32.toNatClampNeg ka)), .int (kt (Int32.toNatClampNeg (ka + 1))), .int (kt (Int32.toNatClampNeg ((ka + 1) + 1))), .ref m10, .int mz, .ref m11, .int op, .int bp, .int by0, .int dp, .int tk, .ref m12, .ref m13, .ref m14, .ref m15, .ref m16, .ref m17, .ref m18, .int (((ka + 1) + 1) + 1), .int 0])), (m17, .inl (cI, 120, .inl kt))] dX10_passAll_33 inlX10 tyX10 tyX10_ok nmX10 rfl (by decide) wd_348 rfl rfl rfl rfl rfl rfl (Nat.le_of_ble_eq_true rfl) rfl ?_
  refine x_iconst C 0 dX10_passAll_36 (by decide) ?_
  refine x_istore_n C [(1, .int 0), (0, .ref hy)] dX10_passAll_37 rfl (by decide) rfl ?_
  have L_38 : ∀ (n_38 : Nat) (x1_38 : Int32) (fm2_38 : Nat → Int32) (fm4_38 : Nat → Int32) (fm5_38 : Nat → Int32) (fm6_38 : Nat → Int32) (ghy28_38 : Int32), (((0 ≤ x1_38.toInt ∧ x1_38.toInt ≤ 4) ∧ ghy28_38.toInt = ka.toInt + 3 + 4 * x1_38.toInt) ∧ VW kt (ka.toInt.toNat + 3) 4 fm2_38 x1_38.toInt ∧ VW kt (ka.toInt.toNat + 4) 4 fm4_38 x1_38.toInt ∧ VW kt (ka.toInt.toNat + 5) 4 fm5_38 x1_38.toInt ∧ VW kt (ka.toInt.toNat + 6) 4 fm6_38 x1_38.toInt) → ((4 - x1_38.toInt).toNat < n_38) → V X 2 [(m2, .inl (cI, 4, .inl fm2_38)), (m4, .inl (cI, 4, .inl fm4_38)), (m5, .inl (cI, 4, .inl fm5_38)), (m6, .inl (cI, 4, .inl fm6_38)), (m3, .inl (cI, 16, .inl mm)), (m7, .inl (cI, 6, .inl wf)), (m8, .inl (cI, 6, .inl wp)), (m9, .inl (cI, 6, .inl wt)), (hy, .inr (10, [.ref m0, .ref m1, .ref m2, .ref m3, .ref m4, .ref m5, .ref m6, .ref m7, .ref m8, .ref m9, .int (kt (Int32.toNatClampNeg ka)), .int (kt (Int32.toNatClampNeg (ka + 1))), .int (kt (Int32.toNatClampNeg ((ka + 1) + 1))), .ref m10, .int mz, .ref m11, .int op, .int bp, .int by0, .int dp, .int tk, .ref m12, .ref m13, .ref m14, .ref m15, .ref m16, .ref m17, .ref m18, .int ghy28_38, .int 0])), (m17, .inl (cI, 120, .inl kt))] [(1, .int x1_38), (0, .ref hy)] [] 38 0 0 := by
    intro n_38
    induction n_38 with
    | zero =>
      intro x1_38 fm2_38 fm4_38 fm5_38 fm6_38 ghy28_38 i_38 m_38
      exact absurd m_38 (Nat.not_lt_zero _)
    | succ n_38 ih_38 =>
      intro x1_38 fm2_38 fm4_38 fm5_38 fm6_38 ghy28_38 i_38 m_38
      refine x_iload_n C 0 dX10_passAll_38 rfl rfl ?_
      refine x_iconst C 4 dX10_passAll_39 (by decide) ?_
      refine x_icmp_ge C 113 dX10_passAll_40 (by decide) (fun c_40 => ?_) (fun c_40 => ?_)
      · skip
        have e_40 : (4 : Int32).toInt ≤ (x1_38 : Int32).toInt := i_le.mp c_40
        have : (4 : Int32).toInt = 4 := by decide
        refine x_iconst C 0 dX10_passAll_113 (by decide) ?_
        refine x_istore_n C [(1, .int 0), (0, .ref hy)] dX10_passAll_114 rfl (by decide) rfl ?_
        have L_115 : ∀ (n_115 : Nat) (x1_115 : Int32) (fm3_115 : Nat → Int32) (ghy28_115 : Int32), (((0 ≤ x1_115.toInt ∧ x1_115.toInt ≤ 16) ∧ ghy28_115.toInt = ka.toInt + 19 + x1_115.toInt) ∧ VW kt (ka.toInt.toNat + 19) 1 fm3_115 x1_115.toInt) → ((16 - x1_115.toInt).toNat < n_115) → V X 2 [(m2, .inl (cI, 4, .inl fm2_38)), (m4, .inl (cI, 4, .inl fm4_38)), (m5, .inl (cI, 4, .inl fm5_38)), (m6, .inl (cI, 4, .inl fm6_38)), (m3, .inl (cI, 16, .inl fm3_115)), (m7, .inl (cI, 6, .inl wf)), (m8, .inl (cI, 6, .inl wp)), (m9, .inl (cI, 6, .inl wt)), (hy, .inr (10, [.ref m0, .ref m1, .ref m2, .ref m3, .ref m4, .ref m5, .ref m6, .ref m7, .ref m8, .ref m9, .int (kt (Int32.toNatClampNeg ka)), .int (kt (Int32.toNatClampNeg (ka + 1))), .int (kt (Int32.toNatClampNeg ((ka + 1) + 1))), .ref m10, .int mz, .ref m11, .int op, .int bp, .int by0, .int dp, .int tk, .ref m12, .ref m13, .ref m14, .ref m15, .ref m16, .ref m17, .ref m18, .int ghy28_115, .int 0])), (m17, .inl (cI, 120, .inl kt))] [(1, .int x1_115), (0, .ref hy)] [] 115 0 0 := by
          intro n_115
          induction n_115 with
          | zero =>
            intro x1_115 fm3_115 ghy28_115 i_115 m_115
            exact absurd m_115 (Nat.not_lt_zero _)
          | succ n_115 ih_115 =>
            intro x1_115 fm3_115 ghy28_115 i_115 m_115
            refine x_iload_n C 0 dX10_passAll_115 rfl rfl ?_
            refine x_bipush C 16 dX10_passAll_116 (by decide) ?_
            refine x_icmp_ge C 143 dX10_passAll_118 (by decide) (fun c_118 => ?_) (fun c_118 => ?_)
            · skip
              have e_118 : (16 : Int32).toInt ≤ (x1_115 : Int32).toInt := i_le.mp c_118
              have : (16 : Int32).toInt = 16 := by decide
              refine x_iconst C 0 dX10_passAll_143 (by decide) ?_
              refine x_istore_n C [(1, .int 0), (0, .ref hy)] dX10_passAll_144 rfl (by decide) rfl ?_
              have L_145 : ∀ (n_145 : Nat) (x1_145 : Int32) (fm7_145 : Nat → Int32) (fm8_145 : Nat → Int32) (fm9_145 : Nat → Int32) (ghy28_145 : Int32), (((0 ≤ x1_145.toInt ∧ x1_145.toInt ≤ 6) ∧ ghy28_145.toInt = ka.toInt + 35 + 3 * x1_145.toInt) ∧ VW kt (ka.toInt.toNat + 35) 3 fm7_145 x1_145.toInt ∧ VW kt (ka.toInt.toNat + 36) 3 fm8_145 x1_145.toInt ∧ VW kt (ka.toInt.toNat + 37) 3 fm9_145 x1_145.toInt) → ((6 - x1_145.toInt).toNat < n_145) → V X 2 [(m2, .inl (cI, 4, .inl fm2_38)), (m4, .inl (cI, 4, .inl fm4_38)), (m5, .inl (cI, 4, .inl fm5_38)), (m6, .inl (cI, 4, .inl fm6_38)), (m3, .inl (cI, 16, .inl fm3_115)), (m7, .inl (cI, 6, .inl fm7_145)), (m8, .inl (cI, 6, .inl fm8_145)), (m9, .inl (cI, 6, .inl fm9_145)), (hy, .inr (10, [.ref m0, .ref m1, .ref m2, .ref m3, .ref m4, .ref m5, .ref m6, .ref m7, .ref m8, .ref m9, .int (kt (Int32.toNatClampNeg ka)), .int (kt (Int32.toNatClampNeg (ka + 1))), .int (kt (Int32.toNatClampNeg ((ka + 1) + 1))), .ref m10, .int mz, .ref m11, .int op, .int bp, .int by0, .int dp, .int tk, .ref m12, .ref m13, .ref m14, .ref m15, .ref m16, .ref m17, .ref m18, .int ghy28_145, .int 0])), (m17, .inl (cI, 120, .inl kt))] [(1, .int x1_145), (0, .ref hy)] [] 145 0 0 := by
                intro n_145
                induction n_145 with
                | zero =>
                  intro x1_145 fm7_145 fm8_145 fm9_145 ghy28_145 i_145 m_145
                  exact absurd m_145 (Nat.not_lt_zero _)
                | succ n_145 ih_145 =>
                  intro x1_145 fm7_145 fm8_145 fm9_145 ghy28_145 i_145 m_145
                  refine x_iload_n C 0 dX10_passAll_145 rfl rfl ?_
                  refine x_bipush C 6 dX10_passAll_146 (by decide) ?_
                  refine x_icmp_ge C 205 dX10_passAll_148 (by decide) (fun c_148 => ?_) (fun c_148 => ?_)
                  · skip
                    have e_148 : (6 : Int32).toInt ≤ (x1_145 : Int32).toInt := i_le.mp c_148
                    have : (6 : Int32).toInt = 6 := by decide
                    have := t1_
                    have k1x := i_add (x := ka) (y := 1) (by omega) (by omega)
                    have k2x := i_add (x := ka + 1) (y := 1) (by omega) (by omega)
                    refine x_sub [(hy, .inr (10, [.ref m0, .ref m1, .ref m2, .ref m3, .ref m4, .ref m5, .ref m6, .ref m7, .ref m8, .ref m9, .int (kt (Int32.toNatClampNeg ka)), .int (kt (Int32.toNatClampNeg (ka + 1))), .int (kt (Int32.toNatClampNeg ((ka + 1) + 1))), .ref m10, .int mz, .ref m11, .int op, .int bp, .int by0, .int dp, .int tk, .ref m12, .ref m13, .ref m14, .ref m15, .ref m16, .ref m17, .ref m18, .int ghy28_145, .int 0])), (m17, .inl (cI, 120, .inl kt)), (m2, .inl (cI, 4, .inl fm2_38)), (m4, .inl (cI, 4, .inl fm4_38)), (m5, .inl (cI, 4, .inl fm5_38)), (m6, .inl (cI, 4, .inl fm6_38)), (m3, .inl (cI, 16, .inl fm3_115)), (m7, .inl (cI, 6, .inl fm7_145)), (m8, .inl (cI, 6, .inl fm8_145)), (m9, .inl (cI, 6, .inl fm9_145))] [8, 9, 0, 1, 2, 3, 4, 5, 6, 7] (by decide) rfl ?_
                    exact x_vret C dX10_passAll_205 (Nat.zero_le _) (Nat.zero_le _) (by rw [eO]; exact ⟨(kt (Int32.toNatClampNeg ka)), (kt (Int32.toNatClampNeg (ka + 1))), (kt (Int32.toNatClampNeg ((ka + 1) + 1))), ghy28_145, fm2_38, fm4_38, fm5_38, fm6_38, fm3_115, fm7_145, fm8_145, fm9_145, rfl, rfl, ⟨(fun j hj => i_38.2.1 j (by omega)), (fun j hj => i_38.2.2.1 j (by omega)), (fun j hj => i_38.2.2.2.1 j (by omega)), (fun j hj => i_38.2.2.2.2 j (by omega)), (fun j hj => i_115.2 j (by omega)), (fun j hj => i_145.2.1 j (by omega)), (fun j hj => i_145.2.2.1 j (by omega)), (fun j hj => i_145.2.2.2 j (by omega)), rfl, (congrArg kt (by show (ka + 1).toInt.toNat = _; omega)), (congrArg kt (by show (ka + 1 + 1).toInt.toNat = _; omega))⟩⟩)
                  · skip
                    have e_148 : ¬ ((6 : Int32).toInt ≤ (x1_145 : Int32).toInt) := fun h => c_148 (i_le.mpr h)
                    have : (6 : Int32).toInt = 6 := by decide
                    refine x_aload_n C 1 dX10_passAll_151 rfl rfl ?_
                    refine x_get C 8 7 dX10_passAll_152 inlX10 rfl (by decide) wd_129 rfl rfl rfl ?_
                    refine x_iload_n C 0 dX10_passAll_155 rfl rfl ?_
                    refine x_aload_n C 1 dX10_passAll_156 rfl rfl ?_
                    refine x_aload_n C 1 dX10_passAll_157 rfl rfl ?_
                    refine x_get C 8 7 dX10_passAll_158 inlX10 rfl (by decide) wd_129 rfl rfl rfl ?_
                    refine x_iload_n C 0 dX10_passAll_161 rfl rfl ?_
                    have v_162 : vp_in x1_145 6 := (vp_in_iff.mpr (by omega))
                    refine x_iald C 5 0 dX10_passAll_162 hT.1 rfl v_162 ?_
                    refine x_callV C [.int (fm7_145 (Int32.toNatClampNeg x1_145))] [(m2, .inl (cI, 4, .inl fm2_38)), (m4, .inl (cI, 4, .inl fm4_38)), (m5, .inl (cI, 4, .inl fm5_38)), (m6, .inl (cI, 4, .inl fm6_38)), (m3, .inl (cI, 16, .inl fm3_115)), (m7, .inl (cI, 6, .inl fm7_145)), (m8, .inl (cI, 6, .inl fm8_145)), (m9, .inl (cI, 6, .inl fm9_145))] [8, 9] [0, 1, 2, 3, 4, 5, 6, 7] (q0 := 0) (c_X10_passR (xl X) (xD X) (xt X) hT hy m0 m1 m2 m3 m4 m5 m6 m7 m8 m9 m10 m11 m12 m13 m14 m15 m16 m17 m18 kt (kt (Int32.toNatClampNeg ka)) (kt (Int32.toNatClampNeg (ka + 1))) (kt (Int32.toNatClampNeg ((ka + 1) + 1))) mz op bp by0 dp tk ghy28_145 (fm7_145 (Int32.toNatClampNeg x1_145)) (by omega)) dX10_passAll_163 wd_867 wd_868 wd_869 wd_5 wd_870 (np := 1) ⟨by decide, by decide, by decide +kernel⟩ rfl rfl (Nat.le_of_ble_eq_true rfl) (by decide) rfl rfl rfl rfl (by decide) rfl (by decide) (by decide) (fun v W1 h => ?_)
                    obtain ⟨_, rfl, rfl, h_163⟩ := h
                    show V X 2 [(m2, .inl (cI, 4, .inl fm2_38)), (m4, .inl (cI, 4, .inl fm4_38)), (m5, .inl (cI, 4, .inl fm5_38)), (m6, .inl (cI, 4, .inl fm6_38)), (m3, .inl (cI, 16, .inl fm3_115)), (m7, .inl (cI, 6, .inl fm7_145)), (m8, .inl (cI, 6, .inl fm8_145)), (m9, .inl (cI, 6, .inl fm9_145)), (hy, .inr (10, [.ref m0, .ref m1, .ref m2, .ref m3, .ref m4, .ref m5, .ref m6, .ref m7, .ref m8, .ref m9, .int (kt (Int32.toNatClampNeg ka)), .int (kt (Int32.toNatClampNeg (ka + 1))), .int (kt (Int32.toNatClampNeg ((ka + 1) + 1))), .ref m10, .int mz, .ref m11, .int op, .int bp, .int by0, .int dp, .int tk, .ref m12, .ref m13, .ref m14, .ref m15, .ref m16, .ref m17, .ref m18, .int (ghy28_145 + 1), .int 0])), (m17, .inl (cI, 120, .inl kt))] [(1, .int x1_145), (0, .ref hy)] [.int (kt (Int32.toNatClampNeg ghy28_145)), .int x1_145, .ref m7] 166 0 0
                    have v_166 : vp_in x1_145 6 := (vp_in_iff.mpr (by omega))
                    refine x_iast C 5 0 [(m2, .inl (cI, 4, .inl fm2_38)), (m4, .inl (cI, 4, .inl fm4_38)), (m5, .inl (cI, 4, .inl fm5_38)), (m6, .inl (cI, 4, .inl fm6_38)), (m3, .inl (cI, 16, .inl fm3_115)), (m7, .inl (cI, 6, .inl (upd fm7_145 (Int32.toNatClampNeg x1_145) (kt (Int32.toNatClampNeg ghy28_145))))), (m8, .inl (cI, 6, .inl fm8_145)), (m9, .inl (cI, 6, .inl fm9_145)), (hy, .inr (10, [.ref m0, .ref m1, .ref m2, .ref m3, .ref m4, .ref m5, .ref m6, .ref m7, .ref m8, .ref m9, .int (kt (Int32.toNatClampNeg ka)), .int (kt (Int32.toNatClampNeg (ka + 1))), .int (kt (Int32.toNatClampNeg ((ka + 1) + 1))), .ref m10, .int mz, .ref m11, .int op, .int bp, .int by0, .int dp, .int tk, .ref m12, .ref m13, .ref m14, .ref m15, .ref m16, .ref m17, .ref m18, .int (ghy28_145 + 1), .int 0])), (m17, .inl (cI, 120, .inl kt))] dX10_passAll_166 hT.1 rfl v_166 rfl ?_
                    refine x_aload_n C 1 dX10_passAll_167 rfl rfl ?_
                    refine x_get C 8 8 dX10_passAll_168 inlX10 rfl (by decide) wd_130 rfl rfl rfl ?_
                    refine x_iload_n C 0 dX10_passAll_171 rfl rfl ?_
                    refine x_aload_n C 1 dX10_passAll_172 rfl rfl ?_
                    refine x_aload_n C 1 dX10_passAll_173 rfl rfl ?_
                    refine x_get C 8 8 dX10_passAll_174 inlX10 rfl (by decide) wd_130 rfl rfl rfl ?_
                    refine x_iload_n C 0 dX10_passAll_177 rfl rfl ?_
                    have v_178 : vp_in x1_145 6 := (vp_in_iff.mpr (by omega))
                    refine x_iald C 6 0 dX10_passAll_178 hT.1 rfl v_178 ?_
                    have : (1 : Int32).toInt = 1 := by decide
                    have := i_add (x := ghy28_145) (y := 1) (by omega) (by omega)
                    refine x_callV C [.int (fm8_145 (Int32.toNatClampNeg x1_145))] [(m2, .inl (cI, 4, .inl fm2_38)), (m4, .inl (cI, 4, .inl fm4_38)), (m5, .inl (cI, 4, .inl fm5_38)), (m6, .inl (cI, 4, .inl fm6_38)), (m3, .inl (cI, 16, .inl fm3_115)), (m7, .inl (cI, 6, .inl (upd fm7_145 (Int32.toNatClampNeg x1_145) (kt (Int32.toNatClampNeg ghy28_145))))), (m8, .inl (cI, 6, .inl fm8_145)), (m9, .inl (cI, 6, .inl fm9_145))] [8, 9] [0, 1, 2, 3, 4, 5, 6, 7] (q0 := 0) (c_X10_passR (xl X) (xD X) (xt X) hT hy m0 m1 m2 m3 m4 m5 m6 m7 m8 m9 m10 m11 m12 m13 m14 m15 m16 m17 m18 kt (kt (Int32.toNatClampNeg ka)) (kt (Int32.toNatClampNeg (ka + 1))) (kt (Int32.toNatClampNeg ((ka + 1) + 1))) mz op bp by0 dp tk (ghy28_145 + 1) (fm8_145 (Int32.toNatClampNeg x1_145)) (by omega)) dX10_passAll_179 wd_867 wd_868 wd_869 wd_5 wd_870 (np := 1) ⟨by decide, by decide, by decide +kernel⟩ rfl rfl (Nat.le_of_ble_eq_true rfl) (by decide) rfl rfl rfl rfl (by decide) rfl (by decide) (by decide) (fun v W1 h => ?_)
                    obtain ⟨_, rfl, rfl, h_179⟩ := h
                    show V X 2 [(m2, .inl (cI, 4, .inl fm2_38)), (m4, .inl (cI, 4, .inl fm4_38)), (m5, .inl (cI, 4, .inl fm5_38)), (m6, .inl (cI, 4, .inl fm6_38)), (m3, .inl (cI, 16, .inl fm3_115)), (m7, .inl (cI, 6, .inl (upd fm7_145 (Int32.toNatClampNeg x1_145) (kt (Int32.toNatClampNeg ghy28_145))))), (m8, .inl (cI, 6, .inl fm8_145)), (m9, .inl (cI, 6, .inl fm9_145)), (hy, .inr (10, [.ref m0, .ref m1, .ref m2, .ref m3, .ref m4, .ref m5, .ref m6, .ref m7, .ref m8, .ref m9, .int (kt (Int32.toNatClampNeg ka)), .int (kt (Int32.toNatClampNeg (ka + 1))), .int (kt (Int32.toNatClampNeg ((ka + 1) + 1))), .ref m10, .int mz, .ref m11, .int op, .int bp, .int by0, .int dp, .int tk, .ref m12, .ref m13, .ref m14, .ref m15, .ref m16, .ref m17, .ref m18, .int ((ghy28_145 + 1) + 1), .int 0])), (m17, .inl (cI, 120, .inl kt))] [(1, .int x1_145), (0, .ref hy)] [.int (kt (Int32.toNatClampNeg (ghy28_145 + 1))), .int x1_145, .ref m8] 182 0 0
                    have v_182 : vp_in x1_145 6 := (vp_in_iff.mpr (by omega))
                    refine x_iast C 6 0 [(m2, .inl (cI, 4, .inl fm2_38)), (m4, .inl (cI, 4, .inl fm4_38)), (m5, .inl (cI, 4, .inl fm5_38)), (m6, .inl (cI, 4, .inl fm6_38)), (m3, .inl (cI, 16, .inl fm3_115)), (m7, .inl (cI, 6, .inl (upd fm7_145 (Int32.toNatClampNeg x1_145) (kt (Int32.toNatClampNeg ghy28_145))))), (m8, .inl (cI, 6, .inl (upd fm8_145 (Int32.toNatClampNeg x1_145) (kt (Int32.toNatClampNeg (ghy28_145 + 1)))))), (m9, .inl (cI, 6, .inl fm9_145)), (hy, .inr (10, [.ref m0, .ref m1, .ref m2, .ref m3, .ref m4, .ref m5, .ref m6, .ref m7, .ref m8, .ref m9, .int (kt (Int32.toNatClampNeg ka)), .int (kt (Int32.toNatClampNeg (ka + 1))), .int (kt (Int32.toNatClampNeg ((ka + 1) + 1))), .ref m10, .int mz, .ref m11, .int op, .int bp, .int by0, .int dp, .int tk, .ref m12, .ref m13, .ref m14, .ref m15, .ref m16, .ref m17, .ref m18, .int ((ghy28_145 + 1) + 1), .int 0])), (m17, .inl (cI, 120, .inl kt))] dX10_passAll_182 hT.1 rfl v_182 rfl ?_
                    refine x_aload_n C 1 dX10_passAll_183 rfl rfl ?_
                    refine x_get C 8 9 dX10_passAll_184 inlX10 rfl (by decide) wd_131 rfl rfl rfl ?_
                    refine x_iload_n C 0 dX10_passAll_187 rfl rfl ?_
                    refine x_aload_n C 1 dX10_passAll_188 rfl rfl ?_
                    refine x_aload_n C 1 dX10_passAll_189 rfl rfl ?_
                    refine x_get C 8 9 dX10_passAll_190 inlX10 rfl (by decide) wd_131 rfl rfl rfl ?_
                    refine x_iload_n C 0 dX10_passAll_193 rfl rfl ?_
                    have v_194 : vp_in x1_145 6 := (vp_in_iff.mpr (by omega))
                    refine x_iald C 7 0 dX10_passAll_194 hT.1 rfl v_194 ?_
                    have : (1 : Int32).toInt = 1 := by decide
                    have := i_add (x := ghy28_145) (y := 1) (by omega) (by omega)
                    have : (1 : Int32).toInt = 1 := by decide
                    have := i_add (x := (ghy28_145 + 1)) (y := 1) (by omega) (by omega)
                    refine x_callV C [.int (fm9_145 (Int32.toNatClampNeg x1_145))] [(m2, .inl (cI, 4, .inl fm2_38)), (m4, .inl (cI, 4, .inl fm4_38)), (m5, .inl (cI, 4, .inl fm5_38)), (m6, .inl (cI, 4, .inl fm6_38)), (m3, .inl (cI, 16, .inl fm3_115)), (m7, .inl (cI, 6, .inl (upd fm7_145 (Int32.toNatClampNeg x1_145) (kt (Int32.toNatClampNeg ghy28_145))))), (m8, .inl (cI, 6, .inl (upd fm8_145 (Int32.toNatClampNeg x1_145) (kt (Int32.toNatClampNeg (ghy28_145 + 1)))))), (m9, .inl (cI, 6, .inl fm9_145))] [8, 9] [0, 1, 2, 3, 4, 5, 6, 7] (q0 := 0) (c_X10_passR (xl X) (xD X) (xt X) hT hy m0 m1 m2 m3 m4 m5 m6 m7 m8 m9 m10 m11 m12 m13 m14 m15 m16 m17 m18 kt (kt (Int32.toNatClampNeg ka)) (kt (Int32.toNatClampNeg (ka + 1))) (kt (Int32.toNatClampNeg ((ka + 1) + 1))) mz op bp by0 dp tk ((ghy28_145 + 1) + 1) (fm9_145 (Int32.toNatClampNeg x1_145)) (by omega)) dX10_passAll_195 wd_867 wd_868 wd_869 wd_5 wd_870 (np := 1) ⟨by decide, by decide, by decide +kernel⟩ rfl rfl (Nat.le_of_ble_eq_true rfl) (by decide) rfl rfl rfl rfl (by decide) rfl (by decide) (by decide) (fun v W1 h => ?_)
                    obtain ⟨_, rfl, rfl, h_195⟩ := h
                    show V X 2 [(m2, .inl (cI, 4, .inl fm2_38)), (m4, .inl (cI, 4, .inl fm4_38)), (m5, .inl (cI, 4, .inl fm5_38)), (m6, .inl (cI, 4, .inl fm6_38)), (m3, .inl (cI, 16, .inl fm3_115)), (m7, .inl (cI, 6, .inl (upd fm7_145 (Int32.toNatClampNeg x1_145) (kt (Int32.toNatClampNeg ghy28_145))))), (m8, .inl (cI, 6, .inl (upd fm8_145 (Int32.toNatClampNeg x1_145) (kt (Int32.toNatClampNeg (ghy28_145 + 1)))))), (m9, .inl (cI, 6, .inl fm9_145)), (hy, .inr (10, [.ref m0, .ref m1, .ref m2, .ref m3, .ref m4, .ref m5, .ref m6, .ref m7, .ref m8, .ref m9, .int (kt (Int32.toNatClampNeg ka)), .int (kt (Int32.toNatClampNeg (ka + 1))), .int (kt (Int32.toNatClampNeg ((ka + 1) + 1))), .ref m10, .int mz, .ref m11, .int op, .int bp, .int by0, .int dp, .int tk, .ref m12, .ref m13, .ref m14, .ref m15, .ref m16, .ref m17, .ref m18, .int (((ghy28_145 + 1) + 1) + 1), .int 0])), (m17, .inl (cI, 120, .inl kt))] [(1, .int x1_145), (0, .ref hy)] [.int (kt (Int32.toNatClampNeg ((ghy28_145 + 1) + 1))), .int x1_145, .ref m9] 198 0 0
                    have v_198 : vp_in x1_145 6 := (vp_in_iff.mpr (by omega))
                    refine x_iast C 7 0 [(m2, .inl (cI, 4, .inl fm2_38)), (m4, .inl (cI, 4, .inl fm4_38)), (m5, .inl (cI, 4, .inl fm5_38)), (m6, .inl (cI, 4, .inl fm6_38)), (m3, .inl (cI, 16, .inl fm3_115)), (m7, .inl (cI, 6, .inl (upd fm7_145 (Int32.toNatClampNeg x1_145) (kt (Int32.toNatClampNeg ghy28_145))))), (m8, .inl (cI, 6, .inl (upd fm8_145 (Int32.toNatClampNeg x1_145) (kt (Int32.toNatClampNeg (ghy28_145 + 1)))))), (m9, .inl (cI, 6, .inl (upd fm9_145 (Int32.toNatClampNeg x1_145) (kt (Int32.toNatClampNeg ((ghy28_145 + 1) + 1)))))), (hy, .inr (10, [.ref m0, .ref m1, .ref m2, .ref m3, .ref m4, .ref m5, .ref m6, .ref m7, .ref m8, .ref m9, .int (kt (Int32.toNatClampNeg ka)), .int (kt (Int32.toNatClampNeg (ka + 1))), .int (kt (Int32.toNatClampNeg ((ka + 1) + 1))), .ref m10, .int mz, .ref m11, .int op, .int bp, .int by0, .int dp, .int tk, .ref m12, .ref m13, .ref m14, .ref m15, .ref m16, .ref m17, .ref m18, .int (((ghy28_145 + 1) + 1) + 1), .int 0])), (m17, .inl (cI, 120, .inl kt))] dX10_passAll_198 hT.1 rfl v_198 rfl ?_
                    refine x_iinc C 0 (x1_145 + 1) [(1, .int (x1_145 + 1)), (0, .ref hy)] dX10_passAll_199 rfl rfl (by decide) rfl ?_
                    refine x_goto C 145 dX10_passAll_202 (by decide) ?_
                    have : (1 : Int32).toInt = 1 := by decide
                    have := i_add (x := ghy28_145) (y := 1) (by omega) (by omega)
                    have : (1 : Int32).toInt = 1 := by decide
                    have := i_add (x := (ghy28_145 + 1)) (y := 1) (by omega) (by omega)
                    have : (1 : Int32).toInt = 1 := by decide
                    have := i_add (x := ((ghy28_145 + 1) + 1)) (y := 1) (by omega) (by omega)
                    have : (1 : Int32).toInt = 1 := by decide
                    have := i_add (x := x1_145) (y := 1) (by omega) (by omega)
                    exact ih_145 (x1_145 + 1) (upd fm7_145 (Int32.toNatClampNeg x1_145) (kt (Int32.toNatClampNeg ghy28_145))) (upd fm8_145 (Int32.toNatClampNeg x1_145) (kt (Int32.toNatClampNeg (ghy28_145 + 1)))) (upd fm9_145 (Int32.toNatClampNeg x1_145) (kt (Int32.toNatClampNeg ((ghy28_145 + 1) + 1)))) (((ghy28_145 + 1) + 1) + 1) ⟨by omega, i_145.2.1.go rfl (by omega) (by omega) (by omega), i_145.2.2.1.go rfl (by omega) (by omega) (by omega), i_145.2.2.2.go rfl (by omega) (by omega) (by omega)⟩ (by omega)
              have : (0 : Int32).toInt = 0 := by decide
              exact L_145 _ 0 wf wp wt ghy28_115 ⟨by omega, VW.z (by omega), VW.z (by omega), VW.z (by omega)⟩ (Nat.lt_succ_self _)
            · skip
              have e_118 : ¬ ((16 : Int32).toInt ≤ (x1_115 : Int32).toInt) := fun h => c_118 (i_le.mpr h)
              have : (16 : Int32).toInt = 16 := by decide
              refine x_aload_n C 1 dX10_passAll_121 rfl rfl ?_
              refine x_get C 8 3 dX10_passAll_122 inlX10 rfl (by decide) wd_125 rfl rfl rfl ?_
              refine x_iload_n C 0 dX10_passAll_125 rfl rfl ?_
              refine x_aload_n C 1 dX10_passAll_126 rfl rfl ?_
              refine x_aload_n C 1 dX10_passAll_127 rfl rfl ?_
              refine x_get C 8 3 dX10_passAll_128 inlX10 rfl (by decide) wd_125 rfl rfl rfl ?_
              refine x_iload_n C 0 dX10_passAll_131 rfl rfl ?_
              have v_132 : vp_in x1_115 16 := (vp_in_iff.mpr (by omega))
              refine x_iald C 4 0 dX10_passAll_132 hT.1 rfl v_132 ?_
              refine x_callV C [.int (fm3_115 (Int32.toNatClampNeg x1_115))] [(m2, .inl (cI, 4, .inl fm2_38)), (m4, .inl (cI, 4, .inl fm4_38)), (m5, .inl (cI, 4, .inl fm5_38)), (m6, .inl (cI, 4, .inl fm6_38)), (m3, .inl (cI, 16, .inl fm3_115)), (m7, .inl (cI, 6, .inl wf)), (m8, .inl (cI, 6, .inl wp)), (m9, .inl (cI, 6, .inl wt))] [8, 9] [0, 1, 2, 3, 4, 5, 6, 7] (q0 := 0) (c_X10_passR (xl X) (xD X) (xt X) hT hy m0 m1 m2 m3 m4 m5 m6 m7 m8 m9 m10 m11 m12 m13 m14 m15 m16 m17 m18 kt (kt (Int32.toNatClampNeg ka)) (kt (Int32.toNatClampNeg (ka + 1))) (kt (Int32.toNatClampNeg ((ka + 1) + 1))) mz op bp by0 dp tk ghy28_115 (fm3_115 (Int32.toNatClampNeg x1_115)) (by omega)) dX10_passAll_133 wd_867 wd_868 wd_869 wd_5 wd_870 (np := 1) ⟨by decide, by decide, by decide +kernel⟩ rfl rfl (Nat.le_of_ble_eq_true rfl) (by decide) rfl rfl rfl rfl (by decide) rfl (by decide) (by decide) (fun v W1 h => ?_)
              obtain ⟨_, rfl, rfl, h_133⟩ := h
              show V X 2 [(m2, .inl (cI, 4, .inl fm2_38)), (m4, .inl (cI, 4, .inl fm4_38)), (m5, .inl (cI, 4, .inl fm5_38)), (m6, .inl (cI, 4, .inl fm6_38)), (m3, .inl (cI, 16, .inl fm3_115)), (m7, .inl (cI, 6, .inl wf)), (m8, .inl (cI, 6, .inl wp)), (m9, .inl (cI, 6, .inl wt)), (hy, .inr (10, [.ref m0, .ref m1, .ref m2, .ref m3, .ref m4, .ref m5, .ref m6, .ref m7, .ref m8, .ref m9, .int (kt (Int32.toNatClampNeg ka)), .int (kt (Int32.toNatClampNeg (ka + 1))), .int (kt (Int32.toNatClampNeg ((ka + 1) + 1))), .ref m10, .int mz, .ref m11, .int op, .int bp, .int by0, .int dp, .int tk, .ref m12, .ref m13, .ref m14, .ref m15, .ref m16, .ref m17, .ref m18, .int (ghy28_115 + 1), .int 0])), (m17, .inl (cI, 120, .inl kt))] [(1, .int x1_115), (0, .ref hy)] [.int (kt (Int32.toNatClampNeg ghy28_115)), .int x1_115, .ref m3] 136 0 0
              have v_136 : vp_in x1_115 16 := (vp_in_iff.mpr (by omega))
              refine x_iast C 4 0 [(m2, .inl (cI, 4, .inl fm2_38)), (m4, .inl (cI, 4, .inl fm4_38)), (m5, .inl (cI, 4, .inl fm5_38)), (m6, .inl (cI, 4, .inl fm6_38)), (m3, .inl (cI, 16, .inl (upd fm3_115 (Int32.toNatClampNeg x1_115) (kt (Int32.toNatClampNeg ghy28_115))))), (m7, .inl (cI, 6, .inl wf)), (m8, .inl (cI, 6, .inl wp)), (m9, .inl (cI, 6, .inl wt)), (hy, .inr (10, [.ref m0, .ref m1, .ref m2, .ref m3, .ref m4, .ref m5, .ref m6, .ref m7, .ref m8, .ref m9, .int (kt (Int32.toNatClampNeg ka)), .int (kt (Int32.toNatClampNeg (ka + 1))), .int (kt (Int32.toNatClampNeg ((ka + 1) + 1))), .ref m10, .int mz, .ref m11, .int op, .int bp, .int by0, .int dp, .int tk, .ref m12, .ref m13, .ref m14, .ref m15, .ref m16, .ref m17, .ref m18, .int (ghy28_115 + 1), .int 0])), (m17, .inl (cI, 120, .inl kt))] dX10_passAll_136 hT.1 rfl v_136 rfl ?_
              refine x_iinc C 0 (x1_115 + 1) [(1, .int (x1_115 + 1)), (0, .ref hy)] dX10_passAll_137 rfl rfl (by decide) rfl ?_
              refine x_goto C 115 dX10_passAll_140 (by decide) ?_
              have : (1 : Int32).toInt = 1 := by decide
              have := i_add (x := ghy28_115) (y := 1) (by omega) (by omega)
              have : (1 : Int32).toInt = 1 := by decide
              have := i_add (x := x1_115) (y := 1) (by omega) (by omega)
              have : (1 : Int32).toInt = 1 := by decide
              have := i_add (x := ghy28_115) (y := 1) (by omega) (by omega)
              exact ih_115 (x1_115 + 1) (upd fm3_115 (Int32.toNatClampNeg x1_115) (kt (Int32.toNatClampNeg ghy28_115))) (ghy28_115 + 1) ⟨by omega, i_115.2.go rfl (by omega) (by omega) (by omega)⟩ (by omega)
        have : (0 : Int32).toInt = 0 := by decide
        exact L_115 _ 0 mm ghy28_38 ⟨by omega, VW.z (by omega)⟩ (Nat.lt_succ_self _)
      · skip
        have e_40 : ¬ ((4 : Int32).toInt ≤ (x1_38 : Int32).toInt) := fun h => c_40 (i_le.mpr h)
        have : (4 : Int32).toInt = 4 := by decide
        refine x_aload_n C 1 dX10_passAll_43 rfl rfl ?_
        refine x_get C 8 2 dX10_passAll_44 inlX10 rfl (by decide) wd_124 rfl rfl rfl ?_
        refine x_iload_n C 0 dX10_passAll_47 rfl rfl ?_
        refine x_aload_n C 1 dX10_passAll_48 rfl rfl ?_
        refine x_aload_n C 1 dX10_passAll_49 rfl rfl ?_
        refine x_get C 8 2 dX10_passAll_50 inlX10 rfl (by decide) wd_124 rfl rfl rfl ?_
        refine x_iload_n C 0 dX10_passAll_53 rfl rfl ?_
        have v_54 : vp_in x1_38 4 := (vp_in_iff.mpr (by omega))
        refine x_iald C 0 0 dX10_passAll_54 hT.1 rfl v_54 ?_
        refine x_callV C [.int (fm2_38 (Int32.toNatClampNeg x1_38))] [(m2, .inl (cI, 4, .inl fm2_38)), (m4, .inl (cI, 4, .inl fm4_38)), (m5, .inl (cI, 4, .inl fm5_38)), (m6, .inl (cI, 4, .inl fm6_38)), (m3, .inl (cI, 16, .inl mm)), (m7, .inl (cI, 6, .inl wf)), (m8, .inl (cI, 6, .inl wp)), (m9, .inl (cI, 6, .inl wt))] [8, 9] [0, 1, 2, 3, 4, 5, 6, 7] (q0 := 0) (c_X10_passR (xl X) (xD X) (xt X) hT hy m0 m1 m2 m3 m4 m5 m6 m7 m8 m9 m10 m11 m12 m13 m14 m15 m16 m17 m18 kt (kt (Int32.toNatClampNeg ka)) (kt (Int32.toNatClampNeg (ka + 1))) (kt (Int32.toNatClampNeg ((ka + 1) + 1))) mz op bp by0 dp tk ghy28_38 (fm2_38 (Int32.toNatClampNeg x1_38)) (by omega)) dX10_passAll_55 wd_867 wd_868 wd_869 wd_5 wd_870 (np := 1) ⟨by decide, by decide, by decide +kernel⟩ rfl rfl (Nat.le_of_ble_eq_true rfl) (by decide) rfl rfl rfl rfl (by decide) rfl (by decide) (by decide) (fun v W1 h => ?_)
        obtain ⟨_, rfl, rfl, h_55⟩ := h
        show V X 2 [(m2, .inl (cI, 4, .inl fm2_38)), (m4, .inl (cI, 4, .inl fm4_38)), (m5, .inl (cI, 4, .inl fm5_38)), (m6, .inl (cI, 4, .inl fm6_38)), (m3, .inl (cI, 16, .inl mm)), (m7, .inl (cI, 6, .inl wf)), (m8, .inl (cI, 6, .inl wp)), (m9, .inl (cI, 6, .inl wt)), (hy, .inr (10, [.ref m0, .ref m1, .ref m2, .ref m3, .ref m4, .ref m5, .ref m6, .ref m7, .ref m8, .ref m9, .int (kt (Int32.toNatClampNeg ka)), .int (kt (Int32.toNatClampNeg (ka + 1))), .int (kt (Int32.toNatClampNeg ((ka + 1) + 1))), .ref m10, .int mz, .ref m11, .int op, .int bp, .int by0, .int dp, .int tk, .ref m12, .ref m13, .ref m14, .ref m15, .ref m16, .ref m17, .ref m18, .int (ghy28_38 + 1), .int 0])), (m17, .inl (cI, 120, .inl kt))] [(1, .int x1_38), (0, .ref hy)] [.int (kt (Int32.toNatClampNeg ghy28_38)), .int x1_38, .ref m2] 58 0 0
        have v_58 : vp_in x1_38 4 := (vp_in_iff.mpr (by omega))
        refine x_iast C 0 0 [(m2, .inl (cI, 4, .inl (upd fm2_38 (Int32.toNatClampNeg x1_38) (kt (Int32.toNatClampNeg ghy28_38))))), (m4, .inl (cI, 4, .inl fm4_38)), (m5, .inl (cI, 4, .inl fm5_38)), (m6, .inl (cI, 4, .inl fm6_38)), (m3, .inl (cI, 16, .inl mm)), (m7, .inl (cI, 6, .inl wf)), (m8, .inl (cI, 6, .inl wp)), (m9, .inl (cI, 6, .inl wt)), (hy, .inr (10, [.ref m0, .ref m1, .ref m2, .ref m3, .ref m4, .ref m5, .ref m6, .ref m7, .ref m8, .ref m9, .int (kt (Int32.toNatClampNeg ka)), .int (kt (Int32.toNatClampNeg (ka + 1))), .int (kt (Int32.toNatClampNeg ((ka + 1) + 1))), .ref m10, .int mz, .ref m11, .int op, .int bp, .int by0, .int dp, .int tk, .ref m12, .ref m13, .ref m14, .ref m15, .ref m16, .ref m17, .ref m18, .int (ghy28_38 + 1), .int 0])), (m17, .inl (cI, 120, .inl kt))] dX10_passAll_58 hT.1 rfl v_58 rfl ?_
        refine x_aload_n C 1 dX10_passAll_59 rfl rfl ?_
        refine x_get C 8 4 dX10_passAll_60 inlX10 rfl (by decide) wd_126 rfl rfl rfl ?_
        refine x_iload_n C 0 dX10_passAll_63 rfl rfl ?_
        refine x_aload_n C 1 dX10_passAll_64 rfl rfl ?_
        refine x_aload_n C 1 dX10_passAll_65 rfl rfl ?_
        refine x_get C 8 4 dX10_passAll_66 inlX10 rfl (by decide) wd_126 rfl rfl rfl ?_
        refine x_iload_n C 0 dX10_passAll_69 rfl rfl ?_
        have v_70 : vp_in x1_38 4 := (vp_in_iff.mpr (by omega))
        refine x_iald C 1 0 dX10_passAll_70 hT.1 rfl v_70 ?_
        have : (1 : Int32).toInt = 1 := by decide
        have := i_add (x := ghy28_38) (y := 1) (by omega) (by omega)
        refine x_callV C [.int (fm4_38 (Int32.toNatClampNeg x1_38))] [(m2, .inl (cI, 4, .inl (upd fm2_38 (Int32.toNatClampNeg x1_38) (kt (Int32.toNatClampNeg ghy28_38))))), (m4, .inl (cI, 4, .inl fm4_38)), (m5, .inl (cI, 4, .inl fm5_38)), (m6, .inl (cI, 4, .inl fm6_38)), (m3, .inl (cI, 16, .inl mm)), (m7, .inl (cI, 6, .inl wf)), (m8, .inl (cI, 6, .inl wp)), (m9, .inl (cI, 6, .inl wt))] [8, 9] [0, 1, 2, 3, 4, 5, 6, 7] (q0 := 0) (c_X10_passR (xl X) (xD X) (xt X) hT hy m0 m1 m2 m3 m4 m5 m6 m7 m8 m9 m10 m11 m12 m13 m14 m15 m16 m17 m18 kt (kt (Int32.toNatClampNeg ka)) (kt (Int32.toNatClampNeg (ka + 1))) (kt (Int32.toNatClampNeg ((ka + 1) + 1))) mz op bp by0 dp tk (ghy28_38 + 1) (fm4_38 (Int32.toNatClampNeg x1_38)) (by omega)) dX10_passAll_71 wd_867 wd_868 wd_869 wd_5 wd_870 (np := 1) ⟨by decide, by decide, by decide +kernel⟩ rfl rfl (Nat.le_of_ble_eq_true rfl) (by decide) rfl rfl rfl rfl (by decide) rfl (by decide) (by decide) (fun v W1 h => ?_)
        obtain ⟨_, rfl, rfl, h_71⟩ := h
        show V X 2 [(m2, .inl (cI, 4, .inl (upd fm2_38 (Int32.toNatClampNeg x1_38) (kt (Int32.toNatClampNeg ghy28_38))))), (m4, .inl (cI, 4, .inl fm4_38)), (m5, .inl (cI, 4, .inl fm5_38)), (m6, .inl (cI, 4, .inl fm6_38)), (m3, .inl (cI, 16, .inl mm)), (m7, .inl (cI, 6, .inl wf)), (m8, .inl (cI, 6, .inl wp)), (m9, .inl (cI, 6, .inl wt)), (hy, .inr (10, [.ref m0, .ref m1, .ref m2, .ref m3, .ref m4, .ref m5, .ref m6, .ref m7, .ref m8, .ref m9, .int (kt (Int32.toNatClampNeg ka)), .int (kt (Int32.toNatClampNeg (ka + 1))), .int (kt (Int32.toNatClampNeg ((ka + 1) + 1))), .ref m10, .int mz, .ref m11, .int op, .int bp, .int by0, .int dp, .int tk, .ref m12, .ref m13, .ref m14, .ref m15, .ref m16, .ref m17, .ref m18, .int ((ghy28_38 + 1) + 1), .int 0])), (m17, .inl (cI, 120, .inl kt))] [(1, .int x1_38), (0, .ref hy)] [.int (kt (Int32.toNatClampNeg (ghy28_38 + 1))), .int x1_38, .ref m4] 74 0 0
        have v_74 : vp_in x1_38 4 := (vp_in_iff.mpr (by omega))
        refine x_iast C 1 0 [(m2, .inl (cI, 4, .inl (upd fm2_38 (Int32.toNatClampNeg x1_38) (kt (Int32.toNatClampNeg ghy28_38))))), (m4, .inl (cI, 4, .inl (upd fm4_38 (Int32.toNatClampNeg x1_38) (kt (Int32.toNatClampNeg (ghy28_38 + 1)))))), (m5, .inl (cI, 4, .inl fm5_38)), (m6, .inl (cI, 4, .inl fm6_38)), (m3, .inl (cI, 16, .inl mm)), (m7, .inl (cI, 6, .inl wf)), (m8, .inl (cI, 6, .inl wp)), (m9, .inl (cI, 6, .inl wt)), (hy, .inr (10, [.ref m0, .ref m1, .ref m2, .ref m3, .ref m4, .ref m5, .ref m6, .ref m7, .ref m8, .ref m9, .int (kt (Int32.toNatClampNeg ka)), .int (kt (Int32.toNatClampNeg (ka + 1))), .int (kt (Int32.toNatClampNeg ((ka + 1) + 1))), .ref m10, .int mz, .ref m11, .int op, .int bp, .int by0, .int dp, .int tk, .ref m12, .ref m13, .ref m14, .ref m15, .ref m16, .ref m17, .ref m18, .int ((ghy28_38 + 1) + 1), .int 0])), (m17, .inl (cI, 120, .inl kt))] dX10_passAll_74 hT.1 rfl v_74 rfl ?_
        refine x_aload_n C 1 dX10_passAll_75 rfl rfl ?_
        refine x_get C 8 5 dX10_passAll_76 inlX10 rfl (by decide) wd_127 rfl rfl rfl ?_
        refine x_iload_n C 0 dX10_passAll_79 rfl rfl ?_
        refine x_aload_n C 1 dX10_passAll_80 rfl rfl ?_
        refine x_aload_n C 1 dX10_passAll_81 rfl rfl ?_
        refine x_get C 8 5 dX10_passAll_82 inlX10 rfl (by decide) wd_127 rfl rfl rfl ?_
        refine x_iload_n C 0 dX10_passAll_85 rfl rfl ?_
        have v_86 : vp_in x1_38 4 := (vp_in_iff.mpr (by omega))
        refine x_iald C 2 0 dX10_passAll_86 hT.1 rfl v_86 ?_
        have : (1 : Int32).toInt = 1 := by decide
        have := i_add (x := ghy28_38) (y := 1) (by omega) (by omega)
        have : (1 : Int32).toInt = 1 := by decide
        have := i_add (x := (ghy28_38 + 1)) (y := 1) (by omega) (by omega)
        refine x_callV C [.int (fm5_38 (Int32.toNatClampNeg x1_38))] [(m2, .inl (cI, 4, .inl (upd fm2_38 (Int32.toNatClampNeg x1_38) (kt (Int32.toNatClampNeg ghy28_38))))), (m4, .inl (cI, 4, .inl (upd fm4_38 (Int32.toNatClampNeg x1_38) (kt (Int32.toNatClampNeg (ghy28_38 + 1)))))), (m5, .inl (cI, 4, .inl fm5_38)), (m6, .inl (cI, 4, .inl fm6_38)), (m3, .inl (cI, 16, .inl mm)), (m7, .inl (cI, 6, .inl wf)), (m8, .inl (cI, 6, .inl wp)), (m9, .inl (cI, 6, .inl wt))] [8, 9] [0, 1, 2, 3, 4, 5, 6, 7] (q0 := 0) (c_X10_passR (xl X) (xD X) (xt X) hT hy m0 m1 m2 m3 m4 m5 m6 m7 m8 m9 m10 m11 m12 m13 m14 m15 m16 m17 m18 kt (kt (Int32.toNatClampNeg ka)) (kt (Int32.toNatClampNeg (ka + 1))) (kt (Int32.toNatClampNeg ((ka + 1) + 1))) mz op bp by0 dp tk ((ghy28_38 + 1) + 1) (fm5_38 (Int32.toNatClampNeg x1_38)) (by omega)) dX10_passAll_87 wd_867 wd_868 wd_869 wd_5 wd_870 (np := 1) ⟨by decide, by decide, by decide +kernel⟩ rfl rfl (Nat.le_of_ble_eq_true rfl) (by decide) rfl rfl rfl rfl (by decide) rfl (by decide) (by decide) (fun v W1 h => ?_)
        obtain ⟨_, rfl, rfl, h_87⟩ := h
        show V X 2 [(m2, .inl (cI, 4, .inl (upd fm2_38 (Int32.toNatClampNeg x1_38) (kt (Int32.toNatClampNeg ghy28_38))))), (m4, .inl (cI, 4, .inl (upd fm4_38 (Int32.toNatClampNeg x1_38) (kt (Int32.toNatClampNeg (ghy28_38 + 1)))))), (m5, .inl (cI, 4, .inl fm5_38)), (m6, .inl (cI, 4, .inl fm6_38)), (m3, .inl (cI, 16, .inl mm)), (m7, .inl (cI, 6, .inl wf)), (m8, .inl (cI, 6, .inl wp)), (m9, .inl (cI, 6, .inl wt)), (hy, .inr (10, [.ref m0, .ref m1, .ref m2, .ref m3, .ref m4, .ref m5, .ref m6, .ref m7, .ref m8, .ref m9, .int (kt (Int32.toNatClampNeg ka)), .int (kt (Int32.toNatClampNeg (ka + 1))), .int (kt (Int32.toNatClampNeg ((ka + 1) + 1))), .ref m10, .int mz, .ref m11, .int op, .int bp, .int by0, .int dp, .int tk, .ref m12, .ref m13, .ref m14, .ref m15, .ref m16, .ref m17, .ref m18, .int (((ghy28_38 + 1) + 1) + 1), .int 0])), (m17, .inl (cI, 120, .inl kt))] [(1, .int x1_38), (0, .ref hy)] [.int (kt (Int32.toNatClampNeg ((ghy28_38 + 1) + 1))), .int x1_38, .ref m5] 90 0 0
        have v_90 : vp_in x1_38 4 := (vp_in_iff.mpr (by omega))
        refine x_iast C 2 0 [(m2, .inl (cI, 4, .inl (upd fm2_38 (Int32.toNatClampNeg x1_38) (kt (Int32.toNatClampNeg ghy28_38))))), (m4, .inl (cI, 4, .inl (upd fm4_38 (Int32.toNatClampNeg x1_38) (kt (Int32.toNatClampNeg (ghy28_38 + 1)))))), (m5, .inl (cI, 4, .inl (upd fm5_38 (Int32.toNatClampNeg x1_38) (kt (Int32.toNatClampNeg ((ghy28_38 + 1) + 1)))))), (m6, .inl (cI, 4, .inl fm6_38)), (m3, .inl (cI, 16, .inl mm)), (m7, .inl (cI, 6, .inl wf)), (m8, .inl (cI, 6, .inl wp)), (m9, .inl (cI, 6, .inl wt)), (hy, .inr (10, [.ref m0, .ref m1, .ref m2, .ref m3, .ref m4, .ref m5, .ref m6, .ref m7, .ref m8, .ref m9, .int (kt (Int32.toNatClampNeg ka)), .int (kt (Int32.toNatClampNeg (ka + 1))), .int (kt (Int32.toNatClampNeg ((ka + 1) + 1))), .ref m10, .int mz, .ref m11, .int op, .int bp, .int by0, .int dp, .int tk, .ref m12, .ref m13, .ref m14, .ref m15, .ref m16, .ref m17, .ref m18, .int (((ghy28_38 + 1) + 1) + 1), .int 0])), (m17, .inl (cI, 120, .inl kt))] dX10_passAll_90 hT.1 rfl v_90 rfl ?_
        refine x_aload_n C 1 dX10_passAll_91 rfl rfl ?_
        refine x_get C 8 6 dX10_passAll_92 inlX10 rfl (by decide) wd_128 rfl rfl rfl ?_
        refine x_iload_n C 0 dX10_passAll_95 rfl rfl ?_
        refine x_aload_n C 1 dX10_passAll_96 rfl rfl ?_
        refine x_aload_n C 1 dX10_passAll_97 rfl rfl ?_
        refine x_get C 8 6 dX10_passAll_98 inlX10 rfl (by decide) wd_128 rfl rfl rfl ?_
        refine x_iload_n C 0 dX10_passAll_101 rfl rfl ?_
        have v_102 : vp_in x1_38 4 := (vp_in_iff.mpr (by omega))
        refine x_iald C 3 0 dX10_passAll_102 hT.1 rfl v_102 ?_
        have : (1 : Int32).toInt = 1 := by decide
        have := i_add (x := ghy28_38) (y := 1) (by omega) (by omega)
        have : (1 : Int32).toInt = 1 := by decide
        have := i_add (x := (ghy28_38 + 1)) (y := 1) (by omega) (by omega)
        have : (1 : Int32).toInt = 1 := by decide
        have := i_add (x := ((ghy28_38 + 1) + 1)) (y := 1) (by omega) (by omega)
        refine x_callV C [.int (fm6_38 (Int32.toNatClampNeg x1_38))] [(m2, .inl (cI, 4, .inl (upd fm2_38 (Int32.toNatClampNeg x1_38) (kt (Int32.toNatClampNeg ghy28_38))))), (m4, .inl (cI, 4, .inl (upd fm4_38 (Int32.toNatClampNeg x1_38) (kt (Int32.toNatClampNeg (ghy28_38 + 1)))))), (m5, .inl (cI, 4, .inl (upd fm5_38 (Int32.toNatClampNeg x1_38) (kt (Int32.toNatClampNeg ((ghy28_38 + 1) + 1)))))), (m6, .inl (cI, 4, .inl fm6_38)), (m3, .inl (cI, 16, .inl mm)), (m7, .inl (cI, 6, .inl wf)), (m8, .inl (cI, 6, .inl wp)), (m9, .inl (cI, 6, .inl wt))] [8, 9] [0, 1, 2, 3, 4, 5, 6, 7] (q0 := 0) (c_X10_passR (xl X) (xD X) (xt X) hT hy m0 m1 m2 m3 m4 m5 m6 m7 m8 m9 m10 m11 m12 m13 m14 m15 m16 m17 m18 kt (kt (Int32.toNatClampNeg ka)) (kt (Int32.toNatClampNeg (ka + 1))) (kt (Int32.toNatClampNeg ((ka + 1) + 1))) mz op bp by0 dp tk (((ghy28_38 + 1) + 1) + 1) (fm6_38 (Int32.toNatClampNeg x1_38)) (by omega)) dX10_passAll_103 wd_867 wd_868 wd_869 wd_5 wd_870 (np := 1) ⟨by decide, by decide, by decide +kernel⟩ rfl rfl (Nat.le_of_ble_eq_true rfl) (by decide) rfl rfl rfl rfl (by decide) rfl (by decide) (by decide) (fun v W1 h => ?_)
        obtain ⟨_, rfl, rfl, h_103⟩ := h
        show V X 2 [(m2, .inl (cI, 4, .inl (upd fm2_38 (Int32.toNatClampNeg x1_38) (kt (Int32.toNatClampNeg ghy28_38))))), (m4, .inl (cI, 4, .inl (upd fm4_38 (Int32.toNatClampNeg x1_38) (kt (Int32.toNatClampNeg (ghy28_38 + 1)))))), (m5, .inl (cI, 4, .inl (upd fm5_38 (Int32.toNatClampNeg x1_38) (kt (Int32.toNatClampNeg ((ghy28_38 + 1) + 1)))))), (m6, .inl (cI, 4, .inl fm6_38)), (m3, .inl (cI, 16, .inl mm)), (m7, .inl (cI, 6, .inl wf)), (m8, .inl (cI, 6, .inl wp)), (m9, .inl (cI, 6, .inl wt)), (hy, .inr (10, [.ref m0, .ref m1, .ref m2, .ref m3, .ref m4, .ref m5, .ref m6, .ref m7, .ref m8, .ref m9, .int (kt (Int32.toNatClampNeg ka)), .int (kt (Int32.toNatClampNeg (ka + 1))), .int (kt (Int32.toNatClampNeg ((ka + 1) + 1))), .ref m10, .int mz, .ref m11, .int op, .int bp, .int by0, .int dp, .int tk, .ref m12, .ref m13, .ref m14, .ref m15, .ref m16, .ref m17, .ref m18, .int ((((ghy28_38 + 1) + 1) + 1) + 1), .int 0])), (m17, .inl (cI, 120, .inl kt))] [(1, .int x1_38), (0, .ref hy)] [.int (kt (Int32.toNatClampNeg (((ghy28_38 + 1) + 1) + 1))), .int x1_38, .ref m6] 106 0 0
        have v_106 : vp_in x1_38 4 := (vp_in_iff.mpr (by omega))
        refine x_iast C 3 0 [(m2, .inl (cI, 4, .inl (upd fm2_38 (Int32.toNatClampNeg x1_38) (kt (Int32.toNatClampNeg ghy28_38))))), (m4, .inl (cI, 4, .inl (upd fm4_38 (Int32.toNatClampNeg x1_38) (kt (Int32.toNatClampNeg (ghy28_38 + 1)))))), (m5, .inl (cI, 4, .inl (upd fm5_38 (Int32.toNatClampNeg x1_38) (kt (Int32.toNatClampNeg ((ghy28_38 + 1) + 1)))))), (m6, .inl (cI, 4, .inl (upd fm6_38 (Int32.toNatClampNeg x1_38) (kt (Int32.toNatClampNeg (((ghy28_38 + 1) + 1) + 1)))))), (m3, .inl (cI, 16, .inl mm)), (m7, .inl (cI, 6, .inl wf)), (m8, .inl (cI, 6, .inl wp)), (m9, .inl (cI, 6, .inl wt)), (hy, .inr (10, [.ref m0, .ref m1, .ref m2, .ref m3, .ref m4, .ref m5, .ref m6, .ref m7, .ref m8, .ref m9, .int (kt (Int32.toNatClampNeg ka)), .int (kt (Int32.toNatClampNeg (ka + 1))), .int (kt (Int32.toNatClampNeg ((ka + 1) + 1))), .ref m10, .int mz, .ref m11, .int op, .int bp, .int by0, .int dp, .int tk, .ref m12, .ref m13, .ref m14, .ref m15, .ref m16, .ref m17, .ref m18, .int ((((ghy28_38 + 1) + 1) + 1) + 1), .int 0])), (m17, .inl (cI, 120, .inl kt))] dX10_passAll_106 hT.1 rfl v_106 rfl ?_
        refine x_iinc C 0 (x1_38 + 1) [(1, .int (x1_38 + 1)), (0, .ref hy)] dX10_passAll_107 rfl rfl (by decide) rfl ?_
        refine x_goto C 38 dX10_passAll_110 (by decide) ?_
        have : (1 : Int32).toInt = 1 := by decide
        have := i_add (x := ghy28_38) (y := 1) (by omega) (by omega)
        have : (1 : Int32).toInt = 1 := by decide
        have := i_add (x := (ghy28_38 + 1)) (y := 1) (by omega) (by omega)
        have : (1 : Int32).toInt = 1 := by decide
        have := i_add (x := ((ghy28_38 + 1) + 1)) (y := 1) (by omega) (by omega)
        have : (1 : Int32).toInt = 1 := by decide
        have := i_add (x := (((ghy28_38 + 1) + 1) + 1)) (y := 1) (by omega) (by omega)
        have : (1 : Int32).toInt = 1 := by decide
        have := i_add (x := x1_38) (y := 1) (by omega) (by omega)
        exact ih_38 (x1_38 + 1) (upd fm2_38 (Int32.toNatClampNeg x1_38) (kt (Int32.toNatClampNeg ghy28_38))) (upd fm4_38 (Int32.toNatClampNeg x1_38) (kt (Int32.toNatClampNeg (ghy28_38 + 1)))) (upd fm5_38 (Int32.toNatClampNeg x1_38) (kt (Int32.toNatClampNeg ((ghy28_38 + 1) + 1)))) (upd fm6_38 (Int32.toNatClampNeg x1_38) (kt (Int32.toNatClampNeg (((ghy28_38 + 1) + 1) + 1)))) ((((ghy28_38 + 1) + 1) + 1) + 1) ⟨by omega, i_38.2.1.go rfl (by omega) (by omega) (by omega), i_38.2.2.1.go rfl (by omega) (by omega) (by omega), i_38.2.2.2.1.go rfl (by omega) (by omega) (by omega), i_38.2.2.2.2.go rfl (by omega) (by omega) (by omega)⟩ (by omega)
  have : (1 : Int32).toInt = 1 := by decide
  have := i_add (x := ka) (y := 1) (by omega) (by omega)
  have : (1 : Int32).toInt = 1 := by decide
  have := i_add (x := (ka + 1)) (y := 1) (by omega) (by omega)
  have : (1 : Int32).toInt = 1 := by decide
  have := i_add (x := ((ka + 1) + 1)) (y := 1) (by omega) (by omega)
  have : (0 : Int32).toInt = 0 := by decide
  exact L_38 _ 0 ma mg mt mk (((ka + 1) + 1) + 1) ⟨by omega, VW.z (by omega), VW.z (by omega), VW.z (by omega), VW.z (by omega)⟩ (Nat.lt_succ_self _)
abbrev rm_X10_restore : Room := { frames := 2, cells := 0, slots := 0, locals := 43 }
set_option maxHeartbeats 4000000 in
set_option maxRecDepth 100000 in
theorem c_X10_restore (l : Launch) (D : va_G) (tys : List (ClassId × FieldType)) {cI cJ cZ cB : ClassId} (hT : Ty tys cI cJ cZ cB) (hy m0 m1 m2 m3 m4 m5 m6 m7 m8 m9 m10 m11 m12 m13 m14 m15 m16 m17 m18 : Nat) (kt ma mg mt mk mm wf wp wt ik : Nat → Int32) (mw ml mb mz op bp by0 dp tk ka iw : Int32) (a : Int32)  : Cn l D tys yX10_restore cX10_restore 2 (some .int) rm_X10_restore [(hy, .inr (10, [.ref m0, .ref m1, .ref m2, .ref m3, .ref m4, .ref m5, .ref m6, .ref m7, .ref m8, .ref m9, .int mw, .int ml, .int mb, .ref m10, .int mz, .ref m11, .int op, .int bp, .int by0, .int dp, .int tk, .ref m12, .ref m13, .ref m14, .ref m15, .ref m16, .ref m17, .ref m18, .int ka, .int iw])), (m17, .inl (cI, 120, .inl kt)), (m2, .inl (cI, 4, .inl ma)), (m4, .inl (cI, 4, .inl mg)), (m5, .inl (cI, 4, .inl mt)), (m6, .inl (cI, 4, .inl mk)), (m3, .inl (cI, 16, .inl mm)), (m7, .inl (cI, 6, .inl wf)), (m8, .inl (cI, 6, .inl wp)), (m9, .inl (cI, 6, .inl wt)), (m18, .inl (cZ, 2, .inl ik))] [.ref hy, .int a] (fun v W1 => ∃ (r iw2 : Int32) (mw2 ml2 mb2 ka2 : Int32) (ma2 mg2 mt2 mk2 mm2 wf2 wp2 wt2 : Nat → Int32), v = some (.int r) ∧ W1 = [(hy, .inr (10, [.ref m0, .ref m1, .ref m2, .ref m3, .ref m4, .ref m5, .ref m6, .ref m7, .ref m8, .ref m9, .int mw2, .int ml2, .int mb2, .ref m10, .int mz, .ref m11, .int op, .int bp, .int by0, .int dp, .int tk, .ref m12, .ref m13, .ref m14, .ref m15, .ref m16, .ref m17, .ref m18, .int ka2, .int iw2])), (m17, .inl (cI, 120, .inl kt)), (m2, .inl (cI, 4, .inl ma2)), (m4, .inl (cI, 4, .inl mg2)), (m5, .inl (cI, 4, .inl mt2)), (m6, .inl (cI, 4, .inl mk2)), (m3, .inl (cI, 16, .inl mm2)), (m7, .inl (cI, 6, .inl wf2)), (m8, .inl (cI, 6, .inl wp2)), (m9, .inl (cI, 6, .inl wt2)), (m18, .inl (cZ, 2, .inl ik))] ∧ ((((0 ≤ a.toInt ∧ a.toInt ≤ 1) ∧ ¬ (ik (Int32.toNatClampNeg a)).toInt = 0) → VW kt ((60 * a.toInt).toNat + 3) 4 ma2 4 ∧ VW kt ((60 * a.toInt).toNat + 4) 4 mg2 4 ∧ VW kt ((60 * a.toInt).toNat + 5) 4 mt2 4 ∧ VW kt ((60 * a.toInt).toNat + 6) 4 mk2 4 ∧ VW kt ((60 * a.toInt).toNat + 19) 1 mm2 16 ∧ VW kt ((60 * a.toInt).toNat + 35) 3 wf2 6 ∧ VW kt ((60 * a.toInt).toNat + 36) 3 wp2 6 ∧ VW kt ((60 * a.toInt).toNat + 37) 3 wt2 6 ∧ mw2 = kt ((60 * a.toInt).toNat) ∧ ml2 = kt ((60 * a.toInt).toNat + 1) ∧ mb2 = kt ((60 * a.toInt).toNat + 2)) ∧ (¬ ((0 ≤ a.toInt ∧ a.toInt ≤ 1) ∧ ¬ (ik (Int32.toNatClampNeg a)).toInt = 0) → ma2 = ma ∧ mg2 = mg ∧ mt2 = mt ∧ mk2 = mk ∧ mm2 = mm ∧ wf2 = wf ∧ wp2 = wp ∧ wt2 = wt ∧ mw2 = mw ∧ ml2 = ml ∧ mb2 = mb) ∧ (¬ (0 ≤ a.toInt ∧ a.toInt ≤ 1) → r = -2) ∧ ((0 ≤ a.toInt ∧ a.toInt ≤ 1) → (ik (Int32.toNatClampNeg a)).toInt = 0 → r = -3) ∧ ((0 ≤ a.toInt ∧ a.toInt ≤ 1) → ¬ (ik (Int32.toNatClampNeg a)).toInt = 0 → r = 1))) := by
  refine Cn.of (by decide) (Nat.le_of_ble_eq_true rfl) ?_ ?_ (fun X eL eD eT eO eK eN eM C => ?_)
  · intro h; cases h
  · intro v ws h; obtain ⟨_, _, _, _, _, _, _, _, _, _, _, _, _, _, rfl, rfl, _⟩ := h; exact Or.inl rfl
  subst eL eD eT
  show V X 2 [(hy, .inr (10, [.ref m0, .ref m1, .ref m2, .ref m3, .ref m4, .ref m5, .ref m6, .ref m7, .ref m8, .ref m9, .int mw, .int ml, .int mb, .ref m10, .int mz, .ref m11, .int op, .int bp, .int by0, .int dp, .int tk, .ref m12, .ref m13, .ref m14, .ref m15, .ref m16, .ref m17, .ref m18, .int ka, .int iw])), (m17, .inl (cI, 120, .inl kt)), (m2, .inl (cI, 4, .inl ma)), (m4, .inl (cI, 4, .inl mg)), (m5, .inl (cI, 4, .inl mt)), (m6, .inl (cI, 4, .inl mk)), (m3, .inl (cI, 16, .inl mm)), (m7, .inl (cI, 6, .inl wf)), (m8, .inl (cI, 6, .inl wp)), (m9, .inl (cI, 6, .inl wt)), (m18, .inl (cZ, 2, .inl ik))] [(0, .ref hy), (1, .int a)] [] 0 0 0
  refine x_iload_n C 1 dX10_restore_0 rfl rfl ?_
  refine x_i2l C dX10_restore_1 ?_
  refine x_lconst C 0 dX10_restore_2 (by decide) ?_
  refine x_lconst C 1 dX10_restore_3 (by decide) ?_
  refine x_callS C [.long (Int32.toInt64 a), .long 0, .long 1] [(hy, .inr (10, [.ref m0, .ref m1, .ref m2, .ref m3, .ref m4, .ref m5, .ref m6, .ref m7, .ref m8, .ref m9, .int mw, .int ml, .int mb, .ref m10, .int mz, .ref m11, .int op, .int bp, .int by0, .int dp, .int tk, .ref m12, .ref m13, .ref m14, .ref m15, .ref m16, .ref m17, .ref m18, .int ka, .int iw])), (m17, .inl (cI, 120, .inl kt)), (m2, .inl (cI, 4, .inl ma)), (m4, .inl (cI, 4, .inl mg)), (m5, .inl (cI, 4, .inl mt)), (m6, .inl (cI, 4, .inl mk)), (m3, .inl (cI, 16, .inl mm)), (m7, .inl (cI, 6, .inl wf)), (m8, .inl (cI, 6, .inl wp)), (m9, .inl (cI, 6, .inl wt)), (m18, .inl (cZ, 2, .inl ik))] [] [0, 1, 2, 3, 4, 5, 6, 7, 8, 9, 10] (c_X10_in (xl X) (xD X) (xt X) hT (Int32.toInt64 a) 0 1 ) dX10_restore_4 wd_167 wd_168 wd_5 wd_169 (np := 3) ⟨by decide, by decide, by decide +kernel⟩ rfl rfl (Nat.le_of_ble_eq_true rfl) (by decide) rfl (by decide) rfl (by decide) (by decide) (fun v W1 h => ?_)
  obtain ⟨r_4, rfl, rfl, h_4⟩ := h
  have : (Int32.toInt64 a : Int64).toInt = (a : Int32).toInt := Int32.toInt_toInt64 _
  have : (0 : Int64).toInt = 0 := by decide
  have : (1 : Int64).toInt = 1 := by decide
  show V X 2 [(hy, .inr (10, [.ref m0, .ref m1, .ref m2, .ref m3, .ref m4, .ref m5, .ref m6, .ref m7, .ref m8, .ref m9, .int mw, .int ml, .int mb, .ref m10, .int mz, .ref m11, .int op, .int bp, .int by0, .int dp, .int tk, .ref m12, .ref m13, .ref m14, .ref m15, .ref m16, .ref m17, .ref m18, .int ka, .int iw])), (m17, .inl (cI, 120, .inl kt)), (m2, .inl (cI, 4, .inl ma)), (m4, .inl (cI, 4, .inl mg)), (m5, .inl (cI, 4, .inl mt)), (m6, .inl (cI, 4, .inl mk)), (m3, .inl (cI, 16, .inl mm)), (m7, .inl (cI, 6, .inl wf)), (m8, .inl (cI, 6, .inl wp)), (m9, .inl (cI, 6, .inl wt)), (m18, .inl (cZ, 2, .inl ik))] [(0, .ref hy), (1, .int a)] [.int r_4] 7 0 0
  refine x_if_ne C 13 dX10_restore_7 (by decide) (fun c_7 => ?_) (fun c_7 => ?_)
  · skip
    have e_7 : ¬ ((r_4 : Int32).toInt = (0 : Int32).toInt) := fun h => c_7 (i_eq.mpr h)
    have : (0 : Int32).toInt = 0 := by decide
    refine x_aload_n C 0 dX10_restore_13 rfl rfl ?_
    refine x_get C 0 27 dX10_restore_14 inlX10 rfl (by decide) wd_142 rfl rfl rfl ?_
    refine x_iload_n C 1 dX10_restore_17 rfl rfl ?_
    have v_18 : vp_in a 2 := (vp_in_iff.mpr (by omega))
    refine x_zald C 10 2 dX10_restore_18 hT.2.2.1 rfl v_18 ?_
    refine x_if_ne C 25 dX10_restore_19 (by decide) (fun c_19 => ?_) (fun c_19 => ?_)
    · skip
      have e_19 : ¬ ((ik (Int32.toNatClampNeg a) : Int32).toInt = (0 : Int32).toInt) := fun h => c_19 (i_eq.mpr h)
      have : (0 : Int32).toInt = 0 := by decide
      have : (60 : Int32).toInt = 60 := by decide
      have m60 := i_mull (x := 60) (y := a) (d := 60) (by decide) (by omega) (by omega)
      refine x_aload_n C 0 dX10_restore_25 rfl rfl ?_
      refine x_bipush C 60 dX10_restore_26 (by decide) ?_
      refine x_iload_n C 1 dX10_restore_28 rfl rfl ?_
      refine x_imul C dX10_restore_29 ?_
      refine x_put C 0 28 (ty := .int) [(hy, .inr (10, [.ref m0, .ref m1, .ref m2, .ref m3, .ref m4, .ref m5, .ref m6, .ref m7, .ref m8, .ref m9, .int mw, .int ml, .int mb, .ref m10, .int mz, .ref m11, .int op, .int bp, .int by0, .int dp, .int tk, .ref m12, .ref m13, .ref m14, .ref m15, .ref m16, .ref m17, .ref m18, .int (60 * a), .int iw])), (m17, .inl (cI, 120, .inl kt)), (m2, .inl (cI, 4, .inl ma)), (m4, .inl (cI, 4, .inl mg)), (m5, .inl (cI, 4, .inl mt)), (m6, .inl (cI, 4, .inl mk)), (m3, .inl (cI, 16, .inl mm)), (m7, .inl (cI, 6, .inl wf)), (m8, .inl (cI, 6, .inl wp)), (m9, .inl (cI, 6, .inl wt)), (m18, .inl (cZ, 2, .inl ik))] dX10_restore_30 inlX10 tyX10 tyX10_ok nmX10 rfl (by decide) wd_861 rfl rfl rfl rfl rfl rfl (Nat.le_of_ble_eq_true rfl) rfl ?_
      refine x_aload_n C 0 dX10_restore_33 rfl rfl ?_
      refine x_iconst C 0 dX10_restore_34 (by decide) ?_
      refine x_put C 0 29 (ty := .boolean) [(hy, .inr (10, [.ref m0, .ref m1, .ref m2, .ref m3, .ref m4, .ref m5, .ref m6, .ref m7, .ref m8, .ref m9, .int mw, .int ml, .int mb, .ref m10, .int mz, .ref m11, .int op, .int bp, .int by0, .int dp, .int tk, .ref m12, .ref m13, .ref m14, .ref m15, .ref m16, .ref m17, .ref m18, .int (60 * a), .int 0])), (m17, .inl (cI, 120, .inl kt)), (m2, .inl (cI, 4, .inl ma)), (m4, .inl (cI, 4, .inl mg)), (m5, .inl (cI, 4, .inl mt)), (m6, .inl (cI, 4, .inl mk)), (m3, .inl (cI, 16, .inl mm)), (m7, .inl (cI, 6, .inl wf)), (m8, .inl (cI, 6, .inl wp)), (m9, .inl (cI, 6, .inl wt)), (m18, .inl (cZ, 2, .inl ik))] dX10_restore_35 inlX10 tyX10 tyX10_ok nmX10 rfl (by decide) wd_862 rfl rfl rfl rfl rfl rfl (Nat.le_of_ble_eq_true rfl) rfl ?_
      refine x_aload_n C 0 dX10_restore_38 rfl rfl ?_
      refine x_callV C [] [(m18, .inl (cZ, 2, .inl ik))] [0, 1, 2, 3, 4, 5, 6, 7, 8, 9] [10] (q0 := 0) (c_X10_passAllR (xl X) (xD X) (xt X) hT hy m0 m1 m2 m3 m4 m5 m6 m7 m8 m9 m10 m11 m12 m13 m14 m15 m16 m17 m18 kt ma mg mt mk mm wf wp wt mw ml mb mz op bp by0 dp tk (60 * a) (by omega)) dX10_restore_39 wd_863 wd_864 wd_865 wd_5 wd_866 (np := 0) ⟨by decide, by decide, by decide +kernel⟩ rfl rfl (Nat.le_of_ble_eq_true rfl) (by decide) rfl rfl rfl rfl (by decide) rfl (by decide) (by decide) (fun v W1 h => ?_)
      obtain ⟨mw2_39, ml2_39, mb2_39, ka2_39, ma2_39, mg2_39, mt2_39, mk2_39, mm2_39, wf2_39, wp2_39, wt2_39, rfl, rfl, h_39⟩ := h
      show V X 2 [(m18, .inl (cZ, 2, .inl ik)), (hy, .inr (10, [.ref m0, .ref m1, .ref m2, .ref m3, .ref m4, .ref m5, .ref m6, .ref m7, .ref m8, .ref m9, .int mw2_39, .int ml2_39, .int mb2_39, .ref m10, .int mz, .ref m11, .int op, .int bp, .int by0, .int dp, .int tk, .ref m12, .ref m13, .ref m14, .ref m15, .ref m16, .ref m17, .ref m18, .int ka2_39, .int 0])), (m17, .inl (cI, 120, .inl kt)), (m2, .inl (cI, 4, .inl ma2_39)), (m4, .inl (cI, 4, .inl mg2_39)), (m5, .inl (cI, 4, .inl mt2_39)), (m6, .inl (cI, 4, .inl mk2_39)), (m3, .inl (cI, 16, .inl mm2_39)), (m7, .inl (cI, 6, .inl wf2_39)), (m8, .inl (cI, 6, .inl wp2_39)), (m9, .inl (cI, 6, .inl wt2_39))] [(0, .ref hy), (1, .int a)] [] 42 0 0
      refine x_iconst C 1 dX10_restore_42 (by decide) ?_
      refine x_sub [(hy, .inr (10, [.ref m0, .ref m1, .ref m2, .ref m3, .ref m4, .ref m5, .ref m6, .ref m7, .ref m8, .ref m9, .int mw2_39, .int ml2_39, .int mb2_39, .ref m10, .int mz, .ref m11, .int op, .int bp, .int by0, .int dp, .int tk, .ref m12, .ref m13, .ref m14, .ref m15, .ref m16, .ref m17, .ref m18, .int ka2_39, .int 0])), (m17, .inl (cI, 120, .inl kt)), (m2, .inl (cI, 4, .inl ma2_39)), (m4, .inl (cI, 4, .inl mg2_39)), (m5, .inl (cI, 4, .inl mt2_39)), (m6, .inl (cI, 4, .inl mk2_39)), (m3, .inl (cI, 16, .inl mm2_39)), (m7, .inl (cI, 6, .inl wf2_39)), (m8, .inl (cI, 6, .inl wp2_39)), (m9, .inl (cI, 6, .inl wt2_39)), (m18, .inl (cZ, 2, .inl ik))] [1, 2, 3, 4, 5, 6, 7, 8, 9, 10, 0] (by decide) rfl ?_
      have : (1 : Int32).toInt = 1 := by decide
      exact x_iret C dX10_restore_43 (Nat.zero_le _) (Nat.zero_le _) (by rw [eO]; exact ⟨1, 0, mw2_39, ml2_39, mb2_39, ka2_39, ma2_39, mg2_39, mt2_39, mk2_39, mm2_39, wf2_39, wp2_39, wt2_39, rfl, rfl, ⟨fun h => by rw [← m60]; exact h_39, fun h => by exfalso; omega, fun h => by exfalso; omega, fun h h2 => by exfalso; omega, fun h h2 => rfl⟩⟩)
    · skip
      have e_19 : (ik (Int32.toNatClampNeg a) : Int32).toInt = (0 : Int32).toInt := i_eq.mp c_19
      have : (0 : Int32).toInt = 0 := by decide
      refine x_bipush C (-3) dX10_restore_22 (by decide) ?_
      have : ((-3) : Int32).toInt = -3 := by decide
      exact x_iret C dX10_restore_24 (Nat.zero_le _) (Nat.zero_le _) (by rw [eO]; exact ⟨((-3)), iw, mw, ml, mb, ka, ma, mg, mt, mk, mm, wf, wp, wt, rfl, rfl, ⟨fun h => by exfalso; omega, fun h => ⟨rfl, rfl, rfl, rfl, rfl, rfl, rfl, rfl, rfl, rfl, rfl⟩, fun h => by exfalso; omega, fun h h2 => rfl, fun h h2 => by exfalso; omega⟩⟩)
  · skip
    have e_7 : (r_4 : Int32).toInt = (0 : Int32).toInt := i_eq.mp c_7
    have : (0 : Int32).toInt = 0 := by decide
    refine x_bipush C (-2) dX10_restore_10 (by decide) ?_
    have : ((-2) : Int32).toInt = -2 := by decide
    exact x_iret C dX10_restore_12 (Nat.zero_le _) (Nat.zero_le _) (by rw [eO]; exact ⟨((-2)), iw, mw, ml, mb, ka, ma, mg, mt, mk, mm, wf, wp, wt, rfl, rfl, ⟨fun h => by exfalso; omega, fun h => ⟨rfl, rfl, rfl, rfl, rfl, rfl, rfl, rfl, rfl, rfl, rfl⟩, fun h => rfl, fun h => by exfalso; omega, fun h => by exfalso; omega⟩⟩)
