abbrev rm_X10_drop : Room := { frames := 1, cells := 0, slots := 0, locals := 25 }
set_option maxHeartbeats 4000000 in
set_option maxRecDepth 100000 in
theorem c_X10_drop (l : Launch) (D : va_G) (tys : List (ClassId × FieldType)) {cI cJ cZ cB : ClassId} (hT : Ty tys cI cJ cZ cB) (hy m0 m1 m2 m3 m4 m5 m6 m7 m8 m9 m10 m11 m12 m13 m14 m15 m16 m17 m18 : Nat) (wf wp wt : Nat → Int32) (mw ml mb mz op bp by0 dp tk ka iw : Int32) (a : Int32) (hmw : 0 ≤ mw.toInt ∧ mw.toInt ≤ 6) (hwf : SOk wf) (hwp : SOk wp) (hwt : SOk wt) : Cn l D tys yX10_drop cX10_drop 3 (some .int) rm_X10_drop [(hy, .inr (10, [.ref m0, .ref m1, .ref m2, .ref m3, .ref m4, .ref m5, .ref m6, .ref m7, .ref m8, .ref m9, .int mw, .int ml, .int mb, .ref m10, .int mz, .ref m11, .int op, .int bp, .int by0, .int dp, .int tk, .ref m12, .ref m13, .ref m14, .ref m15, .ref m16, .ref m17, .ref m18, .int ka, .int iw])), (m7, .inl (cI, 6, .inl wf)), (m8, .inl (cI, 6, .inl wp)), (m9, .inl (cI, 6, .inl wt))] [.ref hy, .int a] (fun v W1 => ∃ (r mw2 : Int32) (wf2 wp2 wt2 : Nat → Int32), v = some (.int r) ∧ W1 = [(hy, .inr (10, [.ref m0, .ref m1, .ref m2, .ref m3, .ref m4, .ref m5, .ref m6, .ref m7, .ref m8, .ref m9, .int mw2, .int ml, .int mb, .ref m10, .int mz, .ref m11, .int op, .int bp, .int by0, .int dp, .int tk, .ref m12, .ref m13, .ref m14, .ref m15, .ref m16, .ref m17, .ref m18, .int ka, .int iw])), (m7, .inl (cI, 6, .inl wf2)), (m8, .inl (cI, 6, .inl wp2)), (m9, .inl (cI, 6, .inl wt2))] ∧ (((0 ≤ mw2.toInt ∧ mw2.toInt ≤ 6) ∧ SOk wf2 ∧ SOk wp2 ∧ SOk wt2) ∧ DR a mw wf r mw2 wf2 ∧ DR a mw wp r mw2 wp2 ∧ DR a mw wt r mw2 wt2)) := by
  refine Cn.of (by decide) (Nat.le_of_ble_eq_true rfl) ?_ ?_ (fun X eL eD eT eO eK eN eM C => ?_)
  · intro h; cases h
  · intro v ws h; obtain ⟨_, _, _, _, _, rfl, rfl, _⟩ := h; exact Or.inl rfl
  subst eL eD eT
  show V X 3 [(hy, .inr (10, [.ref m0, .ref m1, .ref m2, .ref m3, .ref m4, .ref m5, .ref m6, .ref m7, .ref m8, .ref m9, .int mw, .int ml, .int mb, .ref m10, .int mz, .ref m11, .int op, .int bp, .int by0, .int dp, .int tk, .ref m12, .ref m13, .ref m14, .ref m15, .ref m16, .ref m17, .ref m18, .int ka, .int iw])), (m7, .inl (cI, 6, .inl wf)), (m8, .inl (cI, 6, .inl wp)), (m9, .inl (cI, 6, .inl wt))] [(0, .ref hy), (1, .int a)] [] 0 0 0
  refine x_iload_n C 1 dX10_drop_0 rfl rfl ?_
  refine x_i2l C dX10_drop_1 ?_
  refine x_lconst C 0 dX10_drop_2 (by decide) ?_
  refine x_aload_n C 0 dX10_drop_3 rfl rfl ?_
  refine x_get C 0 10 dX10_drop_4 inlX10 rfl (by decide) wd_260 rfl rfl rfl ?_
  refine x_iconst C 1 dX10_drop_7 (by decide) ?_
  refine x_isub C dX10_drop_8 ?_
  refine x_i2l C dX10_drop_9 ?_
  refine x_callS C [.long (Int32.toInt64 a), .long 0, .long (Int32.toInt64 (mw - 1))] [(hy, .inr (10, [.ref m0, .ref m1, .ref m2, .ref m3, .ref m4, .ref m5, .ref m6, .ref m7, .ref m8, .ref m9, .int mw, .int ml, .int mb, .ref m10, .int mz, .ref m11, .int op, .int bp, .int by0, .int dp, .int tk, .ref m12, .ref m13, .ref m14, .ref m15, .ref m16, .ref m17, .ref m18, .int ka, .int iw])), (m7, .inl (cI, 6, .inl wf)), (m8, .inl (cI, 6, .inl wp)), (m9, .inl (cI, 6, .inl wt))] [] [0, 1, 2, 3] (c_X10_in (xl X) (xD X) (xt X) hT (Int32.toInt64 a) 0 (Int32.toInt64 (mw - 1)) ) dX10_drop_10 wd_167 wd_168 wd_5 wd_169 (np := 3) ⟨by decide, by decide, by decide +kernel⟩ rfl rfl (Nat.le_of_ble_eq_true rfl) (by decide) rfl (by decide) rfl (by decide) (by decide) (fun v W1 h => ?_)
  obtain ⟨r_10, rfl, rfl, h_10⟩ := h
  have : (Int32.toInt64 a : Int64).toInt = (a : Int32).toInt := Int32.toInt_toInt64 _
  have : (0 : Int64).toInt = 0 := by decide
  have : (Int32.toInt64 (mw - 1) : Int64).toInt = ((mw - 1) : Int32).toInt := Int32.toInt_toInt64 _
  have : (1 : Int32).toInt = 1 := by decide
  have := i_sub (x := mw) (y := 1) (by omega) (by omega)
  show V X 3 [(hy, .inr (10, [.ref m0, .ref m1, .ref m2, .ref m3, .ref m4, .ref m5, .ref m6, .ref m7, .ref m8, .ref m9, .int mw, .int ml, .int mb, .ref m10, .int mz, .ref m11, .int op, .int bp, .int by0, .int dp, .int tk, .ref m12, .ref m13, .ref m14, .ref m15, .ref m16, .ref m17, .ref m18, .int ka, .int iw])), (m7, .inl (cI, 6, .inl wf)), (m8, .inl (cI, 6, .inl wp)), (m9, .inl (cI, 6, .inl wt))] [(0, .ref hy), (1, .int a)] [.int r_10] 13 0 0
  refine x_if_ne C 18 dX10_drop_13 (by decide) (fun c_13 => ?_) (fun c_13 => ?_)
  · skip
    have e_13 : ¬ ((r_10 : Int32).toInt = (0 : Int32).toInt) := fun h => c_13 (i_eq.mpr h)
    have : (0 : Int32).toInt = 0 := by decide
    have : (1 : Int32).toInt = 1 := by decide
    have := i_sub (x := mw) (y := 1) (by omega) (by omega)
    refine x_aload_n C 0 dX10_drop_18 rfl rfl ?_
    refine x_dup C dX10_drop_19 rfl ?_
    refine x_get C 0 10 dX10_drop_20 inlX10 rfl (by decide) wd_260 rfl rfl rfl ?_
    refine x_iconst C 1 dX10_drop_23 (by decide) ?_
    refine x_isub C dX10_drop_24 ?_
    refine x_put C 0 10 (ty := .int) [(hy, .inr (10, [.ref m0, .ref m1, .ref m2, .ref m3, .ref m4, .ref m5, .ref m6, .ref m7, .ref m8, .ref m9, .int (mw - 1), .int ml, .int mb, .ref m10, .int mz, .ref m11, .int op, .int bp, .int by0, .int dp, .int tk, .ref m12, .ref m13, .ref m14, .ref m15, .ref m16, .ref m17, .ref m18, .int ka, .int iw])), (m7, .inl (cI, 6, .inl wf)), (m8, .inl (cI, 6, .inl wp)), (m9, .inl (cI, 6, .inl wt))] dX10_drop_25 inlX10 tyX10 tyX10_ok nmX10 rfl (by decide) wd_260 rfl rfl rfl rfl rfl rfl (Nat.le_of_ble_eq_true rfl) rfl ?_
    refine x_iload_n C 1 dX10_drop_28 rfl rfl ?_
    refine x_istore_n C [(2, .int a), (0, .ref hy), (1, .int a)] dX10_drop_29 rfl (by decide) rfl ?_
    have L_30 : ∀ (n_30 : Nat) (x2_30 : Int32) (fm7_30 : Nat → Int32) (fm8_30 : Nat → Int32) (fm9_30 : Nat → Int32), ((a.toInt ≤ x2_30.toInt ∧ 0 ≤ x2_30.toInt ∧ x2_30.toInt ≤ 6) ∧ (SOk fm7_30 ∧ SOk fm8_30 ∧ SOk fm9_30) ∧ RMV wf fm7_30 a.toInt x2_30.toInt ∧ RMV wp fm8_30 a.toInt x2_30.toInt ∧ RMV wt fm9_30 a.toInt x2_30.toInt) → ((6 - x2_30.toInt).toNat < n_30) → V X 3 [(hy, .inr (10, [.ref m0, .ref m1, .ref m2, .ref m3, .ref m4, .ref m5, .ref m6, .ref m7, .ref m8, .ref m9, .int (mw - 1), .int ml, .int mb, .ref m10, .int mz, .ref m11, .int op, .int bp, .int by0, .int dp, .int tk, .ref m12, .ref m13, .ref m14, .ref m15, .ref m16, .ref m17, .ref m18, .int ka, .int iw])), (m7, .inl (cI, 6, .inl fm7_30)), (m8, .inl (cI, 6, .inl fm8_30)), (m9, .inl (cI, 6, .inl fm9_30))] [(2, .int x2_30), (0, .ref hy), (1, .int a)] [] 30 0 0 := by
      intro n_30
      induction n_30 with
      | zero =>
        intro x2_30 fm7_30 fm8_30 fm9_30 i_30 m_30
        exact absurd m_30 (Nat.not_lt_zero _)
      | succ n_30 ih_30 =>
        intro x2_30 fm7_30 fm8_30 fm9_30 i_30 m_30
        refine x_iload_n C 0 dX10_drop_30 rfl rfl ?_
        refine x_aload_n C 1 dX10_drop_31 rfl rfl ?_
        refine x_get C 0 10 dX10_drop_32 inlX10 rfl (by decide) wd_260 rfl rfl rfl ?_
        refine x_icmp_ge C 86 dX10_drop_35 (by decide) (fun c_35 => ?_) (fun c_35 => ?_)
        · skip
          have e_35 : (mw - 1 : Int32).toInt ≤ (x2_30 : Int32).toInt := i_le.mp c_35
          refine x_aload_n C 1 dX10_drop_86 rfl rfl ?_
          refine x_get C 0 10 dX10_drop_87 inlX10 rfl (by decide) wd_260 rfl rfl rfl ?_
          exact x_iret C dX10_drop_90 (Nat.zero_le _) (Nat.zero_le _) (by rw [eO]; exact ⟨(mw - 1), (mw - 1), fm7_30, fm8_30, fm9_30, rfl, rfl, ⟨⟨by omega, i_30.2.1⟩, Or.inr ⟨by omega, rfl, rfl, fun j hj => i_30.2.2.1.1 j (by omega)⟩, Or.inr ⟨by omega, rfl, rfl, fun j hj => i_30.2.2.2.1.1 j (by omega)⟩, Or.inr ⟨by omega, rfl, rfl, fun j hj => i_30.2.2.2.2.1 j (by omega)⟩⟩⟩)
        · skip
          have e_35 : ¬ ((mw - 1 : Int32).toInt ≤ (x2_30 : Int32).toInt) := fun h => c_35 (i_le.mpr h)
          refine x_aload_n C 1 dX10_drop_38 rfl rfl ?_
          refine x_get C 0 7 dX10_drop_39 inlX10 rfl (by decide) wd_129 rfl rfl rfl ?_
          refine x_iload_n C 0 dX10_drop_42 rfl rfl ?_
          refine x_aload_n C 1 dX10_drop_43 rfl rfl ?_
          refine x_get C 0 7 dX10_drop_44 inlX10 rfl (by decide) wd_129 rfl rfl rfl ?_
          refine x_iload_n C 0 dX10_drop_47 rfl rfl ?_
          refine x_iconst C 1 dX10_drop_48 (by decide) ?_
          refine x_iadd C dX10_drop_49 ?_
          have : (1 : Int32).toInt = 1 := by decide
          have := i_add (x := x2_30) (y := 1) (by omega) (by omega)
          have v_50 : vp_in (x2_30 + 1) 6 := (vp_in_iff.mpr (by omega))
          refine x_iald C 1 0 dX10_drop_50 hT.1 rfl v_50 ?_
          have v_51 : vp_in x2_30 6 := (vp_in_iff.mpr (by omega))
          refine x_iast C 1 0 [(hy, .inr (10, [.ref m0, .ref m1, .ref m2, .ref m3, .ref m4, .ref m5, .ref m6, .ref m7, .ref m8, .ref m9, .int (mw - 1), .int ml, .int mb, .ref m10, .int mz, .ref m11, .int op, .int bp, .int by0, .int dp, .int tk, .ref m12, .ref m13, .ref m14, .ref m15, .ref m16, .ref m17, .ref m18, .int ka, .int iw])), (m7, .inl (cI, 6, .inl (upd fm7_30 (Int32.toNatClampNeg x2_30) (fm7_30 (Int32.toNatClampNeg (x2_30 + 1)))))), (m8, .inl (cI, 6, .inl fm8_30)), (m9, .inl (cI, 6, .inl fm9_30))] dX10_drop_51 hT.1 rfl v_51 rfl ?_
          refine x_aload_n C 1 dX10_drop_52 rfl rfl ?_
          refine x_get C 0 8 dX10_drop_53 inlX10 rfl (by decide) wd_130 rfl rfl rfl ?_
          refine x_iload_n C 0 dX10_drop_56 rfl rfl ?_
          refine x_aload_n C 1 dX10_drop_57 rfl rfl ?_
          refine x_get C 0 8 dX10_drop_58 inlX10 rfl (by decide) wd_130 rfl rfl rfl ?_
          refine x_iload_n C 0 dX10_drop_61 rfl rfl ?_
          refine x_iconst C 1 dX10_drop_62 (by decide) ?_
          refine x_iadd C dX10_drop_63 ?_
          have : (1 : Int32).toInt = 1 := by decide
          have := i_add (x := x2_30) (y := 1) (by omega) (by omega)
          have v_64 : vp_in (x2_30 + 1) 6 := (vp_in_iff.mpr (by omega))
          refine x_iald C 2 0 dX10_drop_64 hT.1 rfl v_64 ?_
          have v_65 : vp_in x2_30 6 := (vp_in_iff.mpr (by omega))
          refine x_iast C 2 0 [(hy, .inr (10, [.ref m0, .ref m1, .ref m2, .ref m3, .ref m4, .ref m5, .ref m6, .ref m7, .ref m8, .ref m9, .int (mw - 1), .int ml, .int mb, .ref m10, .int mz, .ref m11, .int op, .int bp, .int by0, .int dp, .int tk, .ref m12, .ref m13, .ref m14, .ref m15, .ref m16, .ref m17, .ref m18, .int ka, .int iw])), (m7, .inl (cI, 6, .inl (upd fm7_30 (Int32.toNatClampNeg x2_30) (fm7_30 (Int32.toNatClampNeg (x2_30 + 1)))))), (m8, .inl (cI, 6, .inl (upd fm8_30 (Int32.toNatClampNeg x2_30) (fm8_30 (Int32.toNatClampNeg (x2_30 + 1)))))), (m9, .inl (cI, 6, .inl fm9_30))] dX10_drop_65 hT.1 rfl v_65 rfl ?_
          refine x_aload_n C 1 dX10_drop_66 rfl rfl ?_
          refine x_get C 0 9 dX10_drop_67 inlX10 rfl (by decide) wd_131 rfl rfl rfl ?_
          refine x_iload_n C 0 dX10_drop_70 rfl rfl ?_
          refine x_aload_n C 1 dX10_drop_71 rfl rfl ?_
          refine x_get C 0 9 dX10_drop_72 inlX10 rfl (by decide) wd_131 rfl rfl rfl ?_
          refine x_iload_n C 0 dX10_drop_75 rfl rfl ?_
          refine x_iconst C 1 dX10_drop_76 (by decide) ?_
          refine x_iadd C dX10_drop_77 ?_
          have : (1 : Int32).toInt = 1 := by decide
          have := i_add (x := x2_30) (y := 1) (by omega) (by omega)
          have v_78 : vp_in (x2_30 + 1) 6 := (vp_in_iff.mpr (by omega))
          refine x_iald C 3 0 dX10_drop_78 hT.1 rfl v_78 ?_
          have v_79 : vp_in x2_30 6 := (vp_in_iff.mpr (by omega))
          refine x_iast C 3 0 [(hy, .inr (10, [.ref m0, .ref m1, .ref m2, .ref m3, .ref m4, .ref m5, .ref m6, .ref m7, .ref m8, .ref m9, .int (mw - 1), .int ml, .int mb, .ref m10, .int mz, .ref m11, .int op, .int bp, .int by0, .int dp, .int tk, .ref m12, .ref m13, .ref m14, .ref m15, .ref m16, .ref m17, .ref m18, .int ka, .int iw])), (m7, .inl (cI, 6, .inl (upd fm7_30 (Int32.toNatClampNeg x2_30) (fm7_30 (Int32.toNatClampNeg (x2_30 + 1)))))), (m8, .inl (cI, 6, .inl (upd fm8_30 (Int32.toNatClampNeg x2_30) (fm8_30 (Int32.toNatClampNeg (x2_30 + 1)))))), (m9, .inl (cI, 6, .inl (upd fm9_30 (Int32.toNatClampNeg x2_30) (fm9_30 (Int32.toNatClampNeg (x2_30 + 1))))))] dX10_drop_79 hT.1 rfl v_79 rfl ?_
          refine x_iinc C 0 (x2_30 + 1) [(2, .int (x2_30 + 1)), (0, .ref hy), (1, .int a)] dX10_drop_80 rfl rfl (by decide) rfl ?_
          refine x_goto C 30 dX10_drop_83 (by decide) ?_
          have : (1 : Int32).toInt = 1 := by decide
          have := i_add (x := x2_30) (y := 1) (by omega) (by omega)
          exact ih_30 (x2_30 + 1) (upd fm7_30 (Int32.toNatClampNeg x2_30) (fm7_30 (Int32.toNatClampNeg (x2_30 + 1)))) (upd fm8_30 (Int32.toNatClampNeg x2_30) (fm8_30 (Int32.toNatClampNeg (x2_30 + 1)))) (upd fm9_30 (Int32.toNatClampNeg x2_30) (fm9_30 (Int32.toNatClampNeg (x2_30 + 1)))) ⟨by omega, ⟨i_30.2.1.1.upd (i_30.2.1.1.at v_50), i_30.2.1.2.1.upd (i_30.2.1.2.1.at v_64), i_30.2.1.2.2.upd (i_30.2.1.2.2.at v_78)⟩, i_30.2.2.1.go (by omega) (by omega) (by omega) rfl (by show fm7_30 (x2_30 + 1).toInt.toNat = _; congr 1; omega), i_30.2.2.2.1.go (by omega) (by omega) (by omega) rfl (by show fm8_30 (x2_30 + 1).toInt.toNat = _; congr 1; omega), i_30.2.2.2.2.go (by omega) (by omega) (by omega) rfl (by show fm9_30 (x2_30 + 1).toInt.toNat = _; congr 1; omega)⟩ (by omega)
    exact L_30 _ a wf wp wt ⟨by omega, ⟨hwf, hwp, hwt⟩, RMV.z rfl, RMV.z rfl, RMV.z rfl⟩ (Nat.lt_succ_self _)
  · skip
    have e_13 : (r_10 : Int32).toInt = (0 : Int32).toInt := i_eq.mp c_13
    have : (0 : Int32).toInt = 0 := by decide
    refine x_iconst C (-1) dX10_drop_16 (by decide) ?_
    have : ((-1) : Int32).toInt = -1 := by decide
    exact x_iret C dX10_drop_17 (Nat.zero_le _) (Nat.zero_le _) (by rw [eO]; exact ⟨((-1)), mw, wf, wp, wt, rfl, rfl, ⟨⟨hmw, hwf, hwp, hwt⟩, Or.inl ⟨by omega, rfl, rfl, rfl⟩, Or.inl ⟨by omega, rfl, rfl, rfl⟩, Or.inl ⟨by omega, rfl, rfl, rfl⟩⟩⟩)
abbrev rm_X10_story : Room := { frames := 2, cells := 0, slots := 0, locals := 49 }
set_option maxHeartbeats 4000000 in
set_option maxRecDepth 100000 in
theorem c_X10_story (l : Launch) (D : va_G) (tys : List (ClassId × FieldType)) {cI cJ cZ cB : ClassId} (hT : Ty tys cI cJ cZ cB) (hy m0 m1 m2 m3 m4 m5 m6 m7 m8 m9 m10 m11 m12 m13 m14 m15 m16 m17 m18 : Nat) (mp ma mm mg wf wp wt : Nat → Int32) (mw ml mb mz op bp by0 dp tk ka iw : Int32) (s : Int32) (hz : 0 ≤ mz.toInt ∧ mz.toInt ≤ 30) (hpa : POk ma) (hmm : MOk mm) (hmw : 0 ≤ mw.toInt ∧ mw.toInt ≤ 6) (hwf : SOk wf) (hwp : SOk wp) (hwt : SOk wt) : Cn l D tys yX10_story cX10_story 3 (some .int) rm_X10_story [(hy, .inr (10, [.ref m0, .ref m1, .ref m2, .ref m3, .ref m4, .ref m5, .ref m6, .ref m7, .ref m8, .ref m9, .int mw, .int ml, .int mb, .ref m10, .int mz, .ref m11, .int op, .int bp, .int by0, .int dp, .int tk, .ref m12, .ref m13, .ref m14, .ref m15, .ref m16, .ref m17, .ref m18, .int ka, .int iw])), (m10, .inl (cI, 30, .inl mp)), (m2, .inl (cI, 4, .inl ma)), (m3, .inl (cI, 16, .inl mm)), (m4, .inl (cI, 4, .inl mg)), (m7, .inl (cI, 6, .inl wf)), (m8, .inl (cI, 6, .inl wp)), (m9, .inl (cI, 6, .inl wt))] [.ref hy, .int s] (fun v W1 => ∃ (r z2 mw2 : Int32) (ma2 mm2 mg2 wf2 wp2 wt2 : Nat → Int32), v = some (.int r) ∧ W1 = [(hy, .inr (10, [.ref m0, .ref m1, .ref m2, .ref m3, .ref m4, .ref m5, .ref m6, .ref m7, .ref m8, .ref m9, .int mw2, .int ml, .int mb, .ref m10, .int z2, .ref m11, .int op, .int bp, .int by0, .int dp, .int tk, .ref m12, .ref m13, .ref m14, .ref m15, .ref m16, .ref m17, .ref m18, .int ka, .int iw])), (m10, .inl (cI, 30, .inl mp)), (m2, .inl (cI, 4, .inl ma2)), (m3, .inl (cI, 16, .inl mm2)), (m4, .inl (cI, 4, .inl mg2)), (m7, .inl (cI, 6, .inl wf2)), (m8, .inl (cI, 6, .inl wp2)), (m9, .inl (cI, 6, .inl wt2))] ∧ (((((0 ≤ mw2.toInt ∧ mw2.toInt ≤ 6) ∧ POk ma2 ∧ MOk mm2 ∧ SOk wf2 ∧ SOk wp2 ∧ SOk wt2) ∧ ((¬ ((0 ≤ s.toInt ∧ s.toInt ≤ 3) ∧ sfZ mp mz = -6) ∧ z2 = mz) ∨ (((0 ≤ s.toInt ∧ s.toInt ≤ 3) ∧ sfZ mp mz = -6) ∧ z2 = 0))) ∧ ((¬ (0 ≤ s.toInt ∧ s.toInt ≤ 3) → r = -1) ∧ ((0 ≤ s.toInt ∧ s.toInt ≤ 3) → ¬ sfZ mp mz = -6 → r = -5) ∧ ((0 ≤ s.toInt ∧ s.toInt ≤ 3) → sfZ mp mz = -6 → r = ctL mp mz.toInt.toNat))) ∧ (¬ ((0 ≤ s.toInt ∧ s.toInt ≤ 3) ∧ sfZ mp mz = -6) → ma2 = ma ∧ mm2 = mm ∧ mg2 = mg ∧ wf2 = wf ∧ wp2 = wp ∧ wt2 = wt ∧ mw2 = mw) ∧ (((0 ≤ s.toInt ∧ s.toInt ≤ 3) ∧ sfZ mp mz = -6) → (∀ j : Nat, ma2 j = upd ma (Int32.toNatClampNeg s) (ctL mp mz.toInt.toNat) j) ∧ mm2 = wrM mp (4 * s.toInt).toNat mm mz.toInt.toNat ∧ (∀ j : Nat, mg2 j = upd mg (Int32.toNatClampNeg s) (wrB mp mz.toInt.toNat) j) ∧ FL (mkK wf wp s (ctL mp mz.toInt.toNat)) mw wf mw2 wf2 ∧ FL (mkK wf wp s (ctL mp mz.toInt.toNat)) mw wp mw2 wp2 ∧ FL (mkK wf wp s (ctL mp mz.toInt.toNat)) mw wt mw2 wt2))) := by
  refine Cn.of (by decide) (Nat.le_of_ble_eq_true rfl) ?_ ?_ (fun X eL eD eT eO eK eN eM C => ?_)
  · intro h; cases h
  · intro v ws h; obtain ⟨_, _, _, _, _, _, _, _, _, rfl, rfl, _⟩ := h; exact Or.inl rfl
  subst eL eD eT
  show V X 3 [(hy, .inr (10, [.ref m0, .ref m1, .ref m2, .ref m3, .ref m4, .ref m5, .ref m6, .ref m7, .ref m8, .ref m9, .int mw, .int ml, .int mb, .ref m10, .int mz, .ref m11, .int op, .int bp, .int by0, .int dp, .int tk, .ref m12, .ref m13, .ref m14, .ref m15, .ref m16, .ref m17, .ref m18, .int ka, .int iw])), (m10, .inl (cI, 30, .inl mp)), (m2, .inl (cI, 4, .inl ma)), (m3, .inl (cI, 16, .inl mm)), (m4, .inl (cI, 4, .inl mg)), (m7, .inl (cI, 6, .inl wf)), (m8, .inl (cI, 6, .inl wp)), (m9, .inl (cI, 6, .inl wt))] [(0, .ref hy), (1, .int s)] [] 0 0 0
  refine x_iload_n C 1 dX10_story_0 rfl rfl ?_
  refine x_callS C [.int s] [(hy, .inr (10, [.ref m0, .ref m1, .ref m2, .ref m3, .ref m4, .ref m5, .ref m6, .ref m7, .ref m8, .ref m9, .int mw, .int ml, .int mb, .ref m10, .int mz, .ref m11, .int op, .int bp, .int by0, .int dp, .int tk, .ref m12, .ref m13, .ref m14, .ref m15, .ref m16, .ref m17, .ref m18, .int ka, .int iw])), (m10, .inl (cI, 30, .inl mp)), (m2, .inl (cI, 4, .inl ma)), (m3, .inl (cI, 16, .inl mm)), (m4, .inl (cI, 4, .inl mg)), (m7, .inl (cI, 6, .inl wf)), (m8, .inl (cI, 6, .inl wp)), (m9, .inl (cI, 6, .inl wt))] [] [0, 1, 2, 3, 4, 5, 6, 7] (c_X10_isStory (xl X) (xD X) (xt X) hT s ) dX10_story_1 wd_261 wd_262 wd_5 wd_263 (np := 1) ⟨by decide, by decide, by decide +kernel⟩ rfl rfl (Nat.le_of_ble_eq_true rfl) (by decide) rfl (by decide) rfl (by decide) (by decide) (fun v W1 h => ?_)
  obtain ⟨r_1, rfl, rfl, h_1⟩ := h
  show V X 3 [(hy, .inr (10, [.ref m0, .ref m1, .ref m2, .ref m3, .ref m4, .ref m5, .ref m6, .ref m7, .ref m8, .ref m9, .int mw, .int ml, .int mb, .ref m10, .int mz, .ref m11, .int op, .int bp, .int by0, .int dp, .int tk, .ref m12, .ref m13, .ref m14, .ref m15, .ref m16, .ref m17, .ref m18, .int ka, .int iw])), (m10, .inl (cI, 30, .inl mp)), (m2, .inl (cI, 4, .inl ma)), (m3, .inl (cI, 16, .inl mm)), (m4, .inl (cI, 4, .inl mg)), (m7, .inl (cI, 6, .inl wf)), (m8, .inl (cI, 6, .inl wp)), (m9, .inl (cI, 6, .inl wt))] [(0, .ref hy), (1, .int s)] [.int r_1] 4 0 0
  refine x_if_ne C 9 dX10_story_4 (by decide) (fun c_4 => ?_) (fun c_4 => ?_)
  · skip
    have e_4 : ¬ ((r_1 : Int32).toInt = (0 : Int32).toInt) := fun h => c_4 (i_eq.mpr h)
    have : (0 : Int32).toInt = 0 := by decide
    refine x_aload_n C 0 dX10_story_9 rfl rfl ?_
    refine x_callV C [] [(m2, .inl (cI, 4, .inl ma)), (m3, .inl (cI, 16, .inl mm)), (m4, .inl (cI, 4, .inl mg)), (m7, .inl (cI, 6, .inl wf)), (m8, .inl (cI, 6, .inl wp)), (m9, .inl (cI, 6, .inl wt))] [0, 1] [2, 3, 4, 5, 6, 7] (q0 := 0) (c_X10_faultOfStory (xl X) (xD X) (xt X) hT hy m0 m1 m2 m3 m4 m5 m6 m7 m8 m9 m10 m11 m12 m13 m14 m15 m16 m17 m18 mp mw ml mb mz op bp by0 dp tk ka iw hz) dX10_story_10 wd_205 wd_206 wd_207 wd_5 wd_208 (np := 0) ⟨by decide, by decide, by decide +kernel⟩ rfl rfl (Nat.le_of_ble_eq_true rfl) (by decide) rfl rfl rfl rfl (by decide) rfl (by decide) (by decide) (fun v W1 h => ?_)
    obtain ⟨r_10, rfl, rfl, h_10⟩ := h
    show V X 3 [(m2, .inl (cI, 4, .inl ma)), (m3, .inl (cI, 16, .inl mm)), (m4, .inl (cI, 4, .inl mg)), (m7, .inl (cI, 6, .inl wf)), (m8, .inl (cI, 6, .inl wp)), (m9, .inl (cI, 6, .inl wt)), (hy, .inr (10, [.ref m0, .ref m1, .ref m2, .ref m3, .ref m4, .ref m5, .ref m6, .ref m7, .ref m8, .ref m9, .int mw, .int ml, .int mb, .ref m10, .int mz, .ref m11, .int op, .int bp, .int by0, .int dp, .int tk, .ref m12, .ref m13, .ref m14, .ref m15, .ref m16, .ref m17, .ref m18, .int ka, .int iw])), (m10, .inl (cI, 30, .inl mp))] [(0, .ref hy), (1, .int s)] [.int r_10] 13 0 0
    refine x_if_lt C 19 dX10_story_13 (by decide) (fun c_13 => ?_) (fun c_13 => ?_)
    · skip
      have e_13 : (r_10 : Int32).toInt < (0 : Int32).toInt := i_lt.mp c_13
      have : (0 : Int32).toInt = 0 := by decide
      have z9 : sfZ mp mz = -6 := (sfZ_rng hz).resolve_right (fun h => by rw [← h_10] at h; omega)
      have u9 : upd ma (Int32.toNatClampNeg s) 0 (Int32.toNatClampNeg s) = 0 := by rw [upd_eq, if_pos rfl]
      refine x_aload_n C 0 dX10_story_19 rfl rfl ?_
      refine x_get C 6 2 dX10_story_20 inlX10 rfl (by decide) wd_124 rfl rfl rfl ?_
      refine x_iload_n C 1 dX10_story_23 rfl rfl ?_
      refine x_iconst C 0 dX10_story_24 (by decide) ?_
      have v_25 : vp_in s 4 := (vp_in_iff.mpr (by omega))
      refine x_iast C 0 0 [(m2, .inl (cI, 4, .inl (upd ma (Int32.toNatClampNeg s) 0))), (m3, .inl (cI, 16, .inl mm)), (m4, .inl (cI, 4, .inl mg)), (m7, .inl (cI, 6, .inl wf)), (m8, .inl (cI, 6, .inl wp)), (m9, .inl (cI, 6, .inl wt)), (hy, .inr (10, [.ref m0, .ref m1, .ref m2, .ref m3, .ref m4, .ref m5, .ref m6, .ref m7, .ref m8, .ref m9, .int mw, .int ml, .int mb, .ref m10, .int mz, .ref m11, .int op, .int bp, .int by0, .int dp, .int tk, .ref m12, .ref m13, .ref m14, .ref m15, .ref m16, .ref m17, .ref m18, .int ka, .int iw])), (m10, .inl (cI, 30, .inl mp))] dX10_story_25 hT.1 rfl v_25 rfl ?_
      refine x_aload_n C 0 dX10_story_26 rfl rfl ?_
      refine x_get C 6 4 dX10_story_27 inlX10 rfl (by decide) wd_126 rfl rfl rfl ?_
      refine x_iload_n C 1 dX10_story_30 rfl rfl ?_
      refine x_iconst C 0 dX10_story_31 (by decide) ?_
      have v_32 : vp_in s 4 := (vp_in_iff.mpr (by omega))
      refine x_iast C 2 0 [(m2, .inl (cI, 4, .inl (upd ma (Int32.toNatClampNeg s) 0))), (m3, .inl (cI, 16, .inl mm)), (m4, .inl (cI, 4, .inl (upd mg (Int32.toNatClampNeg s) 0))), (m7, .inl (cI, 6, .inl wf)), (m8, .inl (cI, 6, .inl wp)), (m9, .inl (cI, 6, .inl wt)), (hy, .inr (10, [.ref m0, .ref m1, .ref m2, .ref m3, .ref m4, .ref m5, .ref m6, .ref m7, .ref m8, .ref m9, .int mw, .int ml, .int mb, .ref m10, .int mz, .ref m11, .int op, .int bp, .int by0, .int dp, .int tk, .ref m12, .ref m13, .ref m14, .ref m15, .ref m16, .ref m17, .ref m18, .int ka, .int iw])), (m10, .inl (cI, 30, .inl mp))] dX10_story_32 hT.1 rfl v_32 rfl ?_
      refine x_iconst C 0 dX10_story_33 (by decide) ?_
      refine x_istore_n C [(2, .int 0), (0, .ref hy), (1, .int s)] dX10_story_34 rfl (by decide) rfl ?_
      have L_35 : ∀ (n_35 : Nat) (x2_35 : Int32) (fm2_35 : Nat → Int32) (fm3_35 : Nat → Int32) (fm4_35 : Nat → Int32), ((0 ≤ x2_35.toInt ∧ x2_35.toInt ≤ mz.toInt) ∧ ((0 ≤ (fm2_35 (Int32.toNatClampNeg s)).toInt ∧ (fm2_35 (Int32.toNatClampNeg s)).toInt ≤ 4) ∧ (fm2_35 (Int32.toNatClampNeg s)) = ctL mp x2_35.toInt.toNat) ∧ POk fm2_35 ∧ MOk fm3_35 ∧ ((∀ j : Nat, fm2_35 j = upd ma (Int32.toNatClampNeg s) (ctL mp x2_35.toInt.toNat) j) ∧ fm3_35 = wrM mp (4 * s.toInt).toNat mm x2_35.toInt.toNat ∧ ∀ j : Nat, fm4_35 j = upd mg (Int32.toNatClampNeg s) (wrB mp x2_35.toInt.toNat) j) ∧ ∃ d : Int32, sf mp (mz.toInt - x2_35.toInt).toNat x2_35 (fm2_35 (Int32.toNatClampNeg s)) d = -6) → ((mz.toInt - x2_35.toInt).toNat < n_35) → V X 3 [(m2, .inl (cI, 4, .inl fm2_35)), (m3, .inl (cI, 16, .inl fm3_35)), (m4, .inl (cI, 4, .inl fm4_35)), (m7, .inl (cI, 6, .inl wf)), (m8, .inl (cI, 6, .inl wp)), (m9, .inl (cI, 6, .inl wt)), (hy, .inr (10, [.ref m0, .ref m1, .ref m2, .ref m3, .ref m4, .ref m5, .ref m6, .ref m7, .ref m8, .ref m9, .int mw, .int ml, .int mb, .ref m10, .int mz, .ref m11, .int op, .int bp, .int by0, .int dp, .int tk, .ref m12, .ref m13, .ref m14, .ref m15, .ref m16, .ref m17, .ref m18, .int ka, .int iw])), (m10, .inl (cI, 30, .inl mp))] [(2, .int x2_35), (0, .ref hy), (1, .int s)] [] 35 0 0 := by
        intro n_35
        induction n_35 with
        | zero =>
          intro x2_35 fm2_35 fm3_35 fm4_35 i_35 m_35
          exact absurd m_35 (Nat.not_lt_zero _)
        | succ n_35 ih_35 =>
          intro x2_35 fm2_35 fm3_35 fm4_35 i_35 m_35
          refine x_iload_n C 0 dX10_story_35 rfl rfl ?_
          refine x_aload_n C 1 dX10_story_36 rfl rfl ?_
          refine x_get C 6 14 dX10_story_37 inlX10 rfl (by decide) wd_166 rfl rfl rfl ?_
          refine x_icmp_ge C 116 dX10_story_40 (by decide) (fun c_40 => ?_) (fun c_40 => ?_)
          · skip
            have e_40 : (mz : Int32).toInt ≤ (x2_35 : Int32).toInt := i_le.mp c_40
            have : (1 : Int32).toInt = 1 := by decide
            have := i_sub (x := mw) (y := 1) (by omega) (by omega)
            have c9 : (fm2_35 (Int32.toNatClampNeg s)) = ctL mp mz.toInt.toNat := by rw [i_35.2.1.2, show x2_35.toInt.toNat = mz.toInt.toNat by omega]
            refine x_aload_n C 1 dX10_story_116 rfl rfl ?_
            refine x_iconst C 0 dX10_story_117 (by decide) ?_
            refine x_put C 6 14 (ty := .int) [(m2, .inl (cI, 4, .inl fm2_35)), (m3, .inl (cI, 16, .inl fm3_35)), (m4, .inl (cI, 4, .inl fm4_35)), (m7, .inl (cI, 6, .inl wf)), (m8, .inl (cI, 6, .inl wp)), (m9, .inl (cI, 6, .inl wt)), (hy, .inr (10, [.ref m0, .ref m1, .ref m2, .ref m3, .ref m4, .ref m5, .ref m6, .ref m7, .ref m8, .ref m9, .int mw, .int ml, .int mb, .ref m10, .int 0, .ref m11, .int op, .int bp, .int by0, .int dp, .int tk, .ref m12, .ref m13, .ref m14, .ref m15, .ref m16, .ref m17, .ref m18, .int ka, .int iw])), (m10, .inl (cI, 30, .inl mp))] dX10_story_118 inlX10 tyX10 tyX10_ok nmX10 rfl (by decide) wd_166 rfl rfl rfl rfl rfl rfl (Nat.le_of_ble_eq_true rfl) rfl ?_
            refine x_aload_n C 1 dX10_story_121 rfl rfl ?_
            refine x_get C 6 10 dX10_story_122 inlX10 rfl (by decide) wd_260 rfl rfl rfl ?_
            refine x_iconst C 1 dX10_story_125 (by decide) ?_
            refine x_isub C dX10_story_126 ?_
            refine x_istore_n C [(2, .int (mw - 1)), (0, .ref hy), (1, .int s)] dX10_story_127 rfl (by decide) rfl ?_
            have L_128 : ∀ (n_128 : Nat) (x2_128 : Int32) (fm7_128 : Nat → Int32) (fm8_128 : Nat → Int32) (fm9_128 : Nat → Int32) (ghy10_128 : Int32), ((-1 ≤ x2_128.toInt ∧ x2_128.toInt ≤ 5 ∧ x2_128.toInt < mw.toInt) ∧ (0 ≤ ghy10_128.toInt ∧ ghy10_128.toInt ≤ 6) ∧ (SOk fm7_128 ∧ SOk fm8_128 ∧ SOk fm9_128) ∧ UB (mkK wf wp s (ctL mp mz.toInt.toNat)) mw.toInt wf fm7_128 x2_128.toInt ghy10_128.toInt ∧ UB (mkK wf wp s (ctL mp mz.toInt.toNat)) mw.toInt wp fm8_128 x2_128.toInt ghy10_128.toInt ∧ UB (mkK wf wp s (ctL mp mz.toInt.toNat)) mw.toInt wt fm9_128 x2_128.toInt ghy10_128.toInt) → ((x2_128.toInt + 1).toNat < n_128) → V X 3 [(m2, .inl (cI, 4, .inl fm2_35)), (m3, .inl (cI, 16, .inl fm3_35)), (m4, .inl (cI, 4, .inl fm4_35)), (m7, .inl (cI, 6, .inl fm7_128)), (m8, .inl (cI, 6, .inl fm8_128)), (m9, .inl (cI, 6, .inl fm9_128)), (hy, .inr (10, [.ref m0, .ref m1, .ref m2, .ref m3, .ref m4, .ref m5, .ref m6, .ref m7, .ref m8, .ref m9, .int ghy10_128, .int ml, .int mb, .ref m10, .int 0, .ref m11, .int op, .int bp, .int by0, .int dp, .int tk, .ref m12, .ref m13, .ref m14, .ref m15, .ref m16, .ref m17, .ref m18, .int ka, .int iw])), (m10, .inl (cI, 30, .inl mp))] [(2, .int x2_128), (0, .ref hy), (1, .int s)] [] 128 0 0 := by
              intro n_128
              induction n_128 with
              | zero =>
                intro x2_128 fm7_128 fm8_128 fm9_128 ghy10_128 i_128 m_128
                exact absurd m_128 (Nat.not_lt_zero _)
              | succ n_128 ih_128 =>
                intro x2_128 fm7_128 fm8_128 fm9_128 ghy10_128 i_128 m_128
                refine x_iload_n C 0 dX10_story_128 rfl rfl ?_
                refine x_if_lt C 169 dX10_story_129 (by decide) (fun c_129 => ?_) (fun c_129 => ?_)
                · skip
                  have e_129 : (x2_128 : Int32).toInt < (0 : Int32).toInt := i_lt.mp c_129
                  have : (0 : Int32).toInt = 0 := by decide
                  refine x_aload_n C 1 dX10_story_169 rfl rfl ?_
                  refine x_get C 6 2 dX10_story_170 inlX10 rfl (by decide) wd_124 rfl rfl rfl ?_
                  refine x_iload_n C 2 dX10_story_173 rfl rfl ?_
                  have v_174 : vp_in s 4 := (vp_in_iff.mpr (by omega))
                  refine x_iald C 0 0 dX10_story_174 hT.1 rfl v_174 ?_
                  refine x_sub [(hy, .inr (10, [.ref m0, .ref m1, .ref m2, .ref m3, .ref m4, .ref m5, .ref m6, .ref m7, .ref m8, .ref m9, .int ghy10_128, .int ml, .int mb, .ref m10, .int 0, .ref m11, .int op, .int bp, .int by0, .int dp, .int tk, .ref m12, .ref m13, .ref m14, .ref m15, .ref m16, .ref m17, .ref m18, .int ka, .int iw])), (m10, .inl (cI, 30, .inl mp)), (m2, .inl (cI, 4, .inl fm2_35)), (m3, .inl (cI, 16, .inl fm3_35)), (m4, .inl (cI, 4, .inl fm4_35)), (m7, .inl (cI, 6, .inl fm7_128)), (m8, .inl (cI, 6, .inl fm8_128)), (m9, .inl (cI, 6, .inl fm9_128))] [6, 7, 0, 1, 2, 3, 4, 5] (by decide) rfl ?_
                  exact x_iret C dX10_story_175 (Nat.zero_le _) (Nat.zero_le _) (by rw [eO]; exact ⟨(fm2_35 (Int32.toNatClampNeg s)), 0, ghy10_128, fm2_35, fm3_35, fm4_35, fm7_128, fm8_128, fm9_128, rfl, rfl, ⟨⟨⟨⟨i_128.2.1, i_35.2.2.1, i_35.2.2.2.1, i_128.2.2.1⟩, Or.inr ⟨⟨by omega, z9⟩, rfl⟩⟩, ⟨fun h => by exfalso; omega, fun h h2 => absurd z9 h2, fun h h2 => by rw [i_35.2.1.2, show x2_35.toInt.toNat = mz.toInt.toNat by omega]⟩⟩, ⟨fun h => absurd ⟨by omega, z9⟩ h, fun h => ⟨by have h8 := i_35.2.2.2.2.1.1; rw [show x2_35.toInt.toNat = mz.toInt.toNat by omega] at h8; exact h8, by rw [i_35.2.2.2.2.1.2.1, show x2_35.toInt.toNat = mz.toInt.toNat by omega], by have h8 := i_35.2.2.2.2.1.2.2; rw [show x2_35.toInt.toNat = mz.toInt.toNat by omega] at h8; exact h8, i_128.2.2.2.1.fl (by omega), i_128.2.2.2.2.1.fl (by omega), i_128.2.2.2.2.2.fl (by omega)⟩⟩⟩⟩)
                · skip
                  have e_129 : ¬ ((x2_128 : Int32).toInt < (0 : Int32).toInt) := fun h => c_129 (i_lt.mpr h)
                  have : (0 : Int32).toInt = 0 := by decide
                  have ub1 := i_128.2.2.2.1.1
                  have a7 : fm7_128 (Int32.toNatClampNeg x2_128) = wf (x2_128.toInt.toNat) := i_128.2.2.2.1.2.1 _ (by show (x2_128.toInt.toNat : Int) ≤ _; omega)
                  have a8 : fm8_128 (Int32.toNatClampNeg x2_128) = wp (x2_128.toInt.toNat) := i_128.2.2.2.2.1.2.1 _ (by show (x2_128.toInt.toNat : Int) ≤ _; omega)
                  have kcm := kc_mono (K := mkK wf wp s (ctL mp mz.toInt.toNat)) (show (x2_128.toInt + 1).toNat ≤ mw.toInt.toNat by omega)
                  refine x_aload_n C 1 dX10_story_132 rfl rfl ?_
                  refine x_get C 6 7 dX10_story_133 inlX10 rfl (by decide) wd_129 rfl rfl rfl ?_
                  refine x_iload_n C 0 dX10_story_136 rfl rfl ?_
                  have v_137 : vp_in x2_128 6 := (vp_in_iff.mpr (by omega))
                  refine x_iald C 3 0 dX10_story_137 hT.1 rfl v_137 ?_
                  refine x_iload_n C 2 dX10_story_138 rfl rfl ?_
                  refine x_icmp_ne C 163 dX10_story_139 (by decide) (fun c_139 => ?_) (fun c_139 => ?_)
                  · skip
                    have e_139 : ¬ ((fm7_128 (Int32.toNatClampNeg x2_128) : Int32).toInt = (s : Int32).toInt) := fun h => c_139 (i_eq.mpr h)
                    refine x_iinc C 0 (x2_128 - 1) [(2, .int (x2_128 - 1)), (0, .ref hy), (1, .int s)] dX10_story_163 rfl (i_m1 _) (by decide) rfl ?_
                    refine x_goto C 128 dX10_story_166 (by decide) ?_
                    have : (1 : Int32).toInt = 1 := by decide
                    have := i_sub (x := x2_128) (y := 1) (by omega) (by omega)
                    exact ih_128 (x2_128 - 1) fm7_128 fm8_128 fm9_128 ghy10_128 ⟨by omega, i_128.2.1, i_128.2.2.1, i_128.2.2.2.1.keep (by omega) (by omega) (mkK_t (by rw [← a7, ← a8, ← c9]; omega)), i_128.2.2.2.2.1.keep (by omega) (by omega) (mkK_t (by rw [← a7, ← a8, ← c9]; omega)), i_128.2.2.2.2.2.keep (by omega) (by omega) (mkK_t (by rw [← a7, ← a8, ← c9]; omega))⟩ (by omega)
                  · skip
                    have e_139 : (fm7_128 (Int32.toNatClampNeg x2_128) : Int32).toInt = (s : Int32).toInt := i_eq.mp c_139
                    refine x_aload_n C 1 dX10_story_142 rfl rfl ?_
                    refine x_get C 6 8 dX10_story_143 inlX10 rfl (by decide) wd_130 rfl rfl rfl ?_
                    refine x_iload_n C 0 dX10_story_146 rfl rfl ?_
                    have v_147 : vp_in x2_128 6 := (vp_in_iff.mpr (by omega))
                    refine x_iald C 4 0 dX10_story_147 hT.1 rfl v_147 ?_
                    refine x_aload_n C 1 dX10_story_148 rfl rfl ?_
                    refine x_get C 6 2 dX10_story_149 inlX10 rfl (by decide) wd_124 rfl rfl rfl ?_
                    refine x_iload_n C 2 dX10_story_152 rfl rfl ?_
                    have v_153 : vp_in s 4 := (vp_in_iff.mpr (by omega))
                    refine x_iald C 0 0 dX10_story_153 hT.1 rfl v_153 ?_
                    refine x_icmp_lt C 163 dX10_story_154 (by decide) (fun c_154 => ?_) (fun c_154 => ?_)
                    · skip
                      have e_154 : (fm8_128 (Int32.toNatClampNeg x2_128) : Int32).toInt < (fm2_35 (Int32.toNatClampNeg s) : Int32).toInt := i_lt.mp c_154
                      refine x_iinc C 0 (x2_128 - 1) [(2, .int (x2_128 - 1)), (0, .ref hy), (1, .int s)] dX10_story_163 rfl (i_m1 _) (by decide) rfl ?_
                      refine x_goto C 128 dX10_story_166 (by decide) ?_
                      have : (1 : Int32).toInt = 1 := by decide
                      have := i_sub (x := x2_128) (y := 1) (by omega) (by omega)
                      exact ih_128 (x2_128 - 1) fm7_128 fm8_128 fm9_128 ghy10_128 ⟨by omega, i_128.2.1, i_128.2.2.1, i_128.2.2.2.1.keep (by omega) (by omega) (mkK_t (by rw [← a7, ← a8, ← c9]; omega)), i_128.2.2.2.2.1.keep (by omega) (by omega) (mkK_t (by rw [← a7, ← a8, ← c9]; omega)), i_128.2.2.2.2.2.keep (by omega) (by omega) (mkK_t (by rw [← a7, ← a8, ← c9]; omega))⟩ (by omega)
                    · skip
                      have e_154 : ¬ ((fm8_128 (Int32.toNatClampNeg x2_128) : Int32).toInt < (fm2_35 (Int32.toNatClampNeg s) : Int32).toInt) := fun h => c_154 (i_lt.mpr h)
                      refine x_aload_n C 1 dX10_story_157 rfl rfl ?_
                      refine x_iload_n C 0 dX10_story_158 rfl rfl ?_
                      refine x_callV C [.int x2_128] [(m2, .inl (cI, 4, .inl fm2_35)), (m3, .inl (cI, 16, .inl fm3_35)), (m4, .inl (cI, 4, .inl fm4_35)), (m10, .inl (cI, 30, .inl mp))] [6, 3, 4, 5] [0, 1, 2, 7] (q0 := 0) (c_X10_drop (xl X) (xD X) (xt X) hT hy m0 m1 m2 m3 m4 m5 m6 m7 m8 m9 m10 m11 m12 m13 m14 m15 m16 m17 m18 fm7_128 fm8_128 fm9_128 ghy10_128 ml mb 0 op bp by0 dp tk ka iw x2_128 i_128.2.1 i_128.2.2.1.1 i_128.2.2.1.2.1 i_128.2.2.1.2.2) dX10_story_159 wd_265 wd_266 wd_267 wd_5 wd_268 (np := 1) ⟨by decide, by decide, by decide +kernel⟩ rfl rfl (Nat.le_of_ble_eq_true rfl) (by decide) rfl rfl rfl rfl (by decide) rfl (by decide) (by decide) (fun v W1 h => ?_)
                      obtain ⟨r_159, mw2_159, wf2_159, wp2_159, wt2_159, rfl, rfl, h_159⟩ := h
                      show V X 3 [(m2, .inl (cI, 4, .inl fm2_35)), (m3, .inl (cI, 16, .inl fm3_35)), (m4, .inl (cI, 4, .inl fm4_35)), (m10, .inl (cI, 30, .inl mp)), (hy, .inr (10, [.ref m0, .ref m1, .ref m2, .ref m3, .ref m4, .ref m5, .ref m6, .ref m7, .ref m8, .ref m9, .int mw2_159, .int ml, .int mb, .ref m10, .int 0, .ref m11, .int op, .int bp, .int by0, .int dp, .int tk, .ref m12, .ref m13, .ref m14, .ref m15, .ref m16, .ref m17, .ref m18, .int ka, .int iw])), (m7, .inl (cI, 6, .inl wf2_159)), (m8, .inl (cI, 6, .inl wp2_159)), (m9, .inl (cI, 6, .inl wt2_159))] [(2, .int x2_128), (0, .ref hy), (1, .int s)] [.int r_159] 162 0 0
                      have d7 := h_159.2.1.resolve_left (fun h => h.1 (by omega))
                      have d8 := h_159.2.2.1.resolve_left (fun h => h.1 (by omega))
                      have d6 := h_159.2.2.2.resolve_left (fun h => h.1 (by omega))
                      have d9 := And.intro d7.2.1 d7.2.2.1
                      have := t1_
                      have s1x := i_sub (x := ghy10_128) (y := 1) (by omega) (by omega)
                      refine x_pop C dX10_story_162 rfl ?_
                      refine x_iinc C 0 (x2_128 - 1) [(2, .int (x2_128 - 1)), (0, .ref hy), (1, .int s)] dX10_story_163 rfl (i_m1 _) (by decide) rfl ?_
                      refine x_goto C 128 dX10_story_166 (by decide) ?_
                      refine x_sub [(m2, .inl (cI, 4, .inl fm2_35)), (m3, .inl (cI, 16, .inl fm3_35)), (m4, .inl (cI, 4, .inl fm4_35)), (m7, .inl (cI, 6, .inl wf2_159)), (m8, .inl (cI, 6, .inl wp2_159)), (m9, .inl (cI, 6, .inl wt2_159)), (hy, .inr (10, [.ref m0, .ref m1, .ref m2, .ref m3, .ref m4, .ref m5, .ref m6, .ref m7, .ref m8, .ref m9, .int mw2_159, .int ml, .int mb, .ref m10, .int 0, .ref m11, .int op, .int bp, .int by0, .int dp, .int tk, .ref m12, .ref m13, .ref m14, .ref m15, .ref m16, .ref m17, .ref m18, .int ka, .int iw])), (m10, .inl (cI, 30, .inl mp))] [0, 1, 2, 5, 6, 7, 4, 3] (by decide) rfl ?_
                      have : (1 : Int32).toInt = 1 := by decide
                      have := i_sub (x := x2_128) (y := 1) (by omega) (by omega)
                      exact ih_128 (x2_128 - 1) wf2_159 wp2_159 wt2_159 mw2_159 ⟨by omega, h_159.1.1, h_159.1.2, i_128.2.2.2.1.drop (by omega) (by omega) (by omega) (mkK_f (by rw [← a7, ← a8, ← c9]; omega)) (by rw [d9.2]; omega) (by rw [d9.2]; exact d7.2.2.2), i_128.2.2.2.2.1.drop (by omega) (by omega) (by omega) (mkK_f (by rw [← a7, ← a8, ← c9]; omega)) (by rw [d9.2]; omega) (by rw [d9.2]; exact d8.2.2.2), i_128.2.2.2.2.2.drop (by omega) (by omega) (by omega) (mkK_f (by rw [← a7, ← a8, ← c9]; omega)) (by rw [d9.2]; omega) (by rw [d9.2]; exact d6.2.2.2)⟩ (by omega)
            have : (1 : Int32).toInt = 1 := by decide
            have := i_sub (x := mw) (y := 1) (by omega) (by omega)
            exact L_128 _ (mw - 1) wf wp wt mw ⟨by omega, hmw, ⟨hwf, hwp, hwt⟩, UB.z (by omega) (by omega) rfl, UB.z (by omega) (by omega) rfl, UB.z (by omega) (by omega) rfl⟩ (Nat.lt_succ_self _)
          · skip
            have e_40 : ¬ ((mz : Int32).toInt ≤ (x2_35 : Int32).toInt) := fun h => c_40 (i_le.mpr h)
            obtain ⟨d8, d9⟩ := i_35.2.2.2.2.2
            have q9 := sf_inv (by omega) (by omega) d9
            refine x_aload_n C 1 dX10_story_43 rfl rfl ?_
            refine x_get C 6 13 dX10_story_44 inlX10 rfl (by decide) wd_132 rfl rfl rfl ?_
            refine x_iload_n C 0 dX10_story_47 rfl rfl ?_
            have v_48 : vp_in x2_35 30 := (vp_in_iff.mpr (by omega))
            refine x_iald C 7 0 dX10_story_48 hT.1 rfl v_48 ?_
            refine x_bipush C 58 dX10_story_49 (by decide) ?_
            refine x_icmp_ne C 76 dX10_story_51 (by decide) (fun c_51 => ?_) (fun c_51 => ?_)
            · skip
              have e_51 : ¬ ((mp (Int32.toNatClampNeg x2_35) : Int32).toInt = (58 : Int32).toInt) := fun h => c_51 (i_eq.mpr h)
              have : (58 : Int32).toInt = 58 := by decide
              have q8 := q9.resolve_right (fun h => c_51 h.1)
              have qd := q8.2.2
              have q7 := q8.1
              have q6 := q8.2.1
              have := t1_
              have := t4_
              have p1 := i_add (x := (fm2_35 (Int32.toNatClampNeg s))) (y := 1) (by omega) (by omega)
              have : (48 : Int32).toInt = 48 := by decide
              have s48 := i_sub (x := mp (Int32.toNatClampNeg x2_35)) (y := 48) (by omega) (by omega)
              have m4x := i_mull (x := 4) (y := s) (d := 4) (by decide) (by omega) (by omega)
              have a4x := i_add (x := 4 * s) (y := (fm2_35 (Int32.toNatClampNeg s))) (by omega) (by omega)
              have u8 : upd fm2_35 (Int32.toNatClampNeg s) ((fm2_35 (Int32.toNatClampNeg s)) + 1) (Int32.toNatClampNeg s) = (fm2_35 (Int32.toNatClampNeg s)) + 1 := by rw [upd_eq, if_pos rfl]
              have k9 : Int32.toNatClampNeg (4 * s + (fm2_35 (Int32.toNatClampNeg s))) = (4 * s.toInt).toNat + (fm2_35 (Int32.toNatClampNeg s)).toInt.toNat := by show (4 * s + (fm2_35 (Int32.toNatClampNeg s))).toInt.toNat = _; omega
              refine x_aload_n C 1 dX10_story_76 rfl rfl ?_
              refine x_get C 6 3 dX10_story_77 inlX10 rfl (by decide) wd_125 rfl rfl rfl ?_
              refine x_iconst C 4 dX10_story_80 (by decide) ?_
              refine x_iload_n C 2 dX10_story_81 rfl rfl ?_
              refine x_imul C dX10_story_82 ?_
              refine x_aload_n C 1 dX10_story_83 rfl rfl ?_
              refine x_get C 6 2 dX10_story_84 inlX10 rfl (by decide) wd_124 rfl rfl rfl ?_
              refine x_iload_n C 2 dX10_story_87 rfl rfl ?_
              have v_88 : vp_in s 4 := (vp_in_iff.mpr (by omega))
              refine x_iald C 0 0 dX10_story_88 hT.1 rfl v_88 ?_
              refine x_iadd C dX10_story_89 ?_
              refine x_aload_n C 1 dX10_story_90 rfl rfl ?_
              refine x_get C 6 13 dX10_story_91 inlX10 rfl (by decide) wd_132 rfl rfl rfl ?_
              refine x_iload_n C 0 dX10_story_94 rfl rfl ?_
              have v_95 : vp_in x2_35 30 := (vp_in_iff.mpr (by omega))
              refine x_iald C 7 0 dX10_story_95 hT.1 rfl v_95 ?_
              refine x_bipush C 48 dX10_story_96 (by decide) ?_
              refine x_isub C dX10_story_98 ?_
              have v_99 : vp_in ((4 * s) + (fm2_35 (Int32.toNatClampNeg s))) 16 := (vp_in_iff.mpr (by omega))
              refine x_iast C 1 0 [(m2, .inl (cI, 4, .inl fm2_35)), (m3, .inl (cI, 16, .inl (upd fm3_35 (Int32.toNatClampNeg ((4 * s) + (fm2_35 (Int32.toNatClampNeg s)))) ((mp (Int32.toNatClampNeg x2_35)) - 48)))), (m4, .inl (cI, 4, .inl fm4_35)), (m7, .inl (cI, 6, .inl wf)), (m8, .inl (cI, 6, .inl wp)), (m9, .inl (cI, 6, .inl wt)), (hy, .inr (10, [.ref m0, .ref m1, .ref m2, .ref m3, .ref m4, .ref m5, .ref m6, .ref m7, .ref m8, .ref m9, .int mw, .int ml, .int mb, .ref m10, .int mz, .ref m11, .int op, .int bp, .int by0, .int dp, .int tk, .ref m12, .ref m13, .ref m14, .ref m15, .ref m16, .ref m17, .ref m18, .int ka, .int iw])), (m10, .inl (cI, 30, .inl mp))] dX10_story_99 hT.1 rfl v_99 rfl ?_
              refine x_aload_n C 1 dX10_story_100 rfl rfl ?_
              refine x_get C 6 2 dX10_story_101 inlX10 rfl (by decide) wd_124 rfl rfl rfl ?_
              refine x_iload_n C 2 dX10_story_104 rfl rfl ?_
              refine x_dup2 C dX10_story_105 rfl rfl ?_
              have v_106 : vp_in s 4 := (vp_in_iff.mpr (by omega))
              refine x_iald C 0 0 dX10_story_106 hT.1 rfl v_106 ?_
              refine x_iconst C 1 dX10_story_107 (by decide) ?_
              refine x_iadd C dX10_story_108 ?_
              have v_109 : vp_in s 4 := (vp_in_iff.mpr (by omega))
              refine x_iast C 0 0 [(m2, .inl (cI, 4, .inl (upd fm2_35 (Int32.toNatClampNeg s) ((fm2_35 (Int32.toNatClampNeg s)) + 1)))), (m3, .inl (cI, 16, .inl (upd fm3_35 (Int32.toNatClampNeg ((4 * s) + (fm2_35 (Int32.toNatClampNeg s)))) ((mp (Int32.toNatClampNeg x2_35)) - 48)))), (m4, .inl (cI, 4, .inl fm4_35)), (m7, .inl (cI, 6, .inl wf)), (m8, .inl (cI, 6, .inl wp)), (m9, .inl (cI, 6, .inl wt)), (hy, .inr (10, [.ref m0, .ref m1, .ref m2, .ref m3, .ref m4, .ref m5, .ref m6, .ref m7, .ref m8, .ref m9, .int mw, .int ml, .int mb, .ref m10, .int mz, .ref m11, .int op, .int bp, .int by0, .int dp, .int tk, .ref m12, .ref m13, .ref m14, .ref m15, .ref m16, .ref m17, .ref m18, .int ka, .int iw])), (m10, .inl (cI, 30, .inl mp))] dX10_story_109 hT.1 rfl v_109 rfl ?_
              refine x_iinc C 0 (x2_35 + 1) [(2, .int (x2_35 + 1)), (0, .ref hy), (1, .int s)] dX10_story_110 rfl rfl (by decide) rfl ?_
              refine x_goto C 35 dX10_story_113 (by decide) ?_
              have : (1 : Int32).toInt = 1 := by decide
              have := i_add (x := x2_35) (y := 1) (by omega) (by omega)
              exact ih_35 (x2_35 + 1) (upd fm2_35 (Int32.toNatClampNeg s) ((fm2_35 (Int32.toNatClampNeg s)) + 1)) (upd fm3_35 (Int32.toNatClampNeg ((4 * s) + (fm2_35 (Int32.toNatClampNeg s)))) ((mp (Int32.toNatClampNeg x2_35)) - 48)) fm4_35 ⟨by omega, ⟨by rw [u8]; omega, u8.trans ((congrArg (fun z => z + 1) i_35.2.1.2).trans (ct_d (x := x2_35) (by omega) (by omega) c_51 (by rw [← i_35.2.1.2]; omega)).symm)⟩, i_35.2.2.1.upd (by omega), i_35.2.2.2.1.upd (by omega), ⟨UPJ i_35.2.2.2.2.1.1 ((congrArg (fun z => z + 1) i_35.2.1.2).trans (ct_d (x := x2_35) (by omega) (by omega) c_51 (by rw [← i_35.2.1.2]; omega)).symm), by rw [(wr_d (f := mp) (b := (4 * s.toInt).toNat) (m := mm) (x := x2_35) (by omega) (by omega) c_51 (by rw [← i_35.2.1.2]; omega)).2, ← i_35.2.1.2, ← i_35.2.2.2.2.1.2.1, k9], by rw [(wr_d (f := mp) (b := (4 * s.toInt).toNat) (m := mm) (x := x2_35) (by omega) (by omega) c_51 (by rw [← i_35.2.1.2]; omega)).1]; exact i_35.2.2.2.2.1.2.2⟩, 0, by rw [u8]; exact qd⟩ (by omega)
            · skip
              have e_51 : (mp (Int32.toNatClampNeg x2_35) : Int32).toInt = (58 : Int32).toInt := i_eq.mp c_51
              have : (58 : Int32).toInt = 58 := by decide
              have qc : sf mp (mz.toInt - (x2_35 + 1).toInt).toNat (x2_35 + 1) (fm2_35 (Int32.toNatClampNeg s)) 1 = -6 := by
                rcases q9 with h | h
                · have h7 := congrArg Int32.toInt c_51
                  have : (58 : Int32).toInt = 58 := by decide
                  exfalso
                  omega
                · exact h.2.2
              refine x_aload_n C 1 dX10_story_54 rfl rfl ?_
              refine x_get C 6 4 dX10_story_55 inlX10 rfl (by decide) wd_126 rfl rfl rfl ?_
              refine x_iload_n C 2 dX10_story_58 rfl rfl ?_
              refine x_dup2 C dX10_story_59 rfl rfl ?_
              have v_60 : vp_in s 4 := (vp_in_iff.mpr (by omega))
              refine x_iald C 2 0 dX10_story_60 hT.1 rfl v_60 ?_
              refine x_iconst C 1 dX10_story_61 (by decide) ?_
              refine x_aload_n C 1 dX10_story_62 rfl rfl ?_
              refine x_get C 6 2 dX10_story_63 inlX10 rfl (by decide) wd_124 rfl rfl rfl ?_
              refine x_iload_n C 2 dX10_story_66 rfl rfl ?_
              have v_67 : vp_in s 4 := (vp_in_iff.mpr (by omega))
              refine x_iald C 0 0 dX10_story_67 hT.1 rfl v_67 ?_
              refine x_iconst C 1 dX10_story_68 (by decide) ?_
              refine x_isub C dX10_story_69 ?_
              refine x_ishl C dX10_story_70 ?_
              refine x_ior C dX10_story_71 ?_
              have v_72 : vp_in s 4 := (vp_in_iff.mpr (by omega))
              refine x_iast C 2 0 [(m2, .inl (cI, 4, .inl fm2_35)), (m3, .inl (cI, 16, .inl fm3_35)), (m4, .inl (cI, 4, .inl (upd fm4_35 (Int32.toNatClampNeg s) ((fm4_35 (Int32.toNatClampNeg s)) ||| ((1 : Int32) <<< (((fm2_35 (Int32.toNatClampNeg s)) - 1) &&& 31)))))), (m7, .inl (cI, 6, .inl wf)), (m8, .inl (cI, 6, .inl wp)), (m9, .inl (cI, 6, .inl wt)), (hy, .inr (10, [.ref m0, .ref m1, .ref m2, .ref m3, .ref m4, .ref m5, .ref m6, .ref m7, .ref m8, .ref m9, .int mw, .int ml, .int mb, .ref m10, .int mz, .ref m11, .int op, .int bp, .int by0, .int dp, .int tk, .ref m12, .ref m13, .ref m14, .ref m15, .ref m16, .ref m17, .ref m18, .int ka, .int iw])), (m10, .inl (cI, 30, .inl mp))] dX10_story_72 hT.1 rfl v_72 rfl ?_
              refine x_goto C 110 dX10_story_73 (by decide) ?_
              refine x_iinc C 0 (x2_35 + 1) [(2, .int (x2_35 + 1)), (0, .ref hy), (1, .int s)] dX10_story_110 rfl rfl (by decide) rfl ?_
              refine x_goto C 35 dX10_story_113 (by decide) ?_
              have : (1 : Int32).toInt = 1 := by decide
              have := i_add (x := x2_35) (y := 1) (by omega) (by omega)
              exact ih_35 (x2_35 + 1) fm2_35 fm3_35 (upd fm4_35 (Int32.toNatClampNeg s) ((fm4_35 (Int32.toNatClampNeg s)) ||| ((1 : Int32) <<< (((fm2_35 (Int32.toNatClampNeg s)) - 1) &&& 31)))) ⟨by omega, ⟨i_35.2.1.1, i_35.2.1.2.trans (ct_c (x := x2_35) (by omega) (by omega) c_51).symm⟩, i_35.2.2.1, i_35.2.2.2.1, ⟨by rw [ct_c (f := mp) (x := x2_35) (by omega) (by omega) c_51]; exact i_35.2.2.2.2.1.1, i_35.2.2.2.2.1.2.1.trans (wr_c (x := x2_35) (by omega) (by omega) c_51).2.symm, UPJ i_35.2.2.2.2.1.2.2 (by rw [(wr_c (f := mp) (b := (4 * s.toInt).toNat) (m := mm) (x := x2_35) (by omega) (by omega) c_51).1, UPJ_at i_35.2.2.2.2.1.2.2, i_35.2.1.2])⟩, 1, qc⟩ (by omega)
      have : (0 : Int32).toInt = 0 := by decide
      exact L_35 _ 0 (upd ma (Int32.toNatClampNeg s) 0) mm (upd mg (Int32.toNatClampNeg s) 0) ⟨by omega, ⟨by rw [u9]; decide, u9⟩, hpa.upd (by decide), hmm, ⟨fun j => rfl, rfl, fun j => rfl⟩, 1, by rw [u9, t0_, Int.sub_zero]; exact z9⟩ (Nat.lt_succ_self _)
    · skip
      have e_13 : ¬ ((r_10 : Int32).toInt < (0 : Int32).toInt) := fun h => c_13 (i_lt.mpr h)
      have : (0 : Int32).toInt = 0 := by decide
      refine x_bipush C (-5) dX10_story_16 (by decide) ?_
      refine x_sub [(hy, .inr (10, [.ref m0, .ref m1, .ref m2, .ref m3, .ref m4, .ref m5, .ref m6, .ref m7, .ref m8, .ref m9, .int mw, .int ml, .int mb, .ref m10, .int mz, .ref m11, .int op, .int bp, .int by0, .int dp, .int tk, .ref m12, .ref m13, .ref m14, .ref m15, .ref m16, .ref m17, .ref m18, .int ka, .int iw])), (m10, .inl (cI, 30, .inl mp)), (m2, .inl (cI, 4, .inl ma)), (m3, .inl (cI, 16, .inl mm)), (m4, .inl (cI, 4, .inl mg)), (m7, .inl (cI, 6, .inl wf)), (m8, .inl (cI, 6, .inl wp)), (m9, .inl (cI, 6, .inl wt))] [6, 7, 0, 1, 2, 3, 4, 5] (by decide) rfl ?_
      have : ((-5) : Int32).toInt = -5 := by decide
      exact x_iret C dX10_story_18 (Nat.zero_le _) (Nat.zero_le _) (by rw [eO]; exact ⟨((-5)), mz, mw, ma, mm, mg, wf, wp, wt, rfl, rfl, ⟨⟨⟨⟨hmw, hpa, hmm, hwf, hwp, hwt⟩, Or.inl ⟨fun h => by have h7 := congrArg Int32.toInt (h_10.trans h.2); rw [tm6_] at h7; omega, rfl⟩⟩, ⟨fun h => by exfalso; omega, fun h h2 => rfl, fun h h2 => by have h7 := congrArg Int32.toInt (h_10.trans h2); rw [tm6_] at h7; exfalso; omega⟩⟩, ⟨fun h => ⟨rfl, rfl, rfl, rfl, rfl, rfl, rfl⟩, fun h => by have h7 := congrArg Int32.toInt (h_10.trans h.2); rw [tm6_] at h7; exfalso; omega⟩⟩⟩)
  · skip
    have e_4 : (r_1 : Int32).toInt = (0 : Int32).toInt := i_eq.mp c_4
    have : (0 : Int32).toInt = 0 := by decide
    refine x_iconst C (-1) dX10_story_7 (by decide) ?_
    have : ((-1) : Int32).toInt = -1 := by decide
    exact x_iret C dX10_story_8 (Nat.zero_le _) (Nat.zero_le _) (by rw [eO]; exact ⟨((-1)), mz, mw, ma, mm, mg, wf, wp, wt, rfl, rfl, ⟨⟨⟨⟨hmw, hpa, hmm, hwf, hwp, hwt⟩, Or.inl ⟨fun h => by omega, rfl⟩⟩, ⟨fun h => rfl, fun h => by exfalso; omega, fun h => by exfalso; omega⟩⟩, ⟨fun h => ⟨rfl, rfl, rfl, rfl, rfl, rfl, rfl⟩, fun h => by exfalso; omega⟩⟩⟩)
abbrev rm_X10_about : Room := { frames := 2, cells := 0, slots := 0, locals := 45 }
set_option maxHeartbeats 4000000 in
set_option maxRecDepth 100000 in
theorem c_X10_about (l : Launch) (D : va_G) (tys : List (ClassId × FieldType)) {cI cJ cZ cB : ClassId} (hT : Ty tys cI cJ cZ cB) (hy m0 m1 m2 m3 m4 m5 m6 m7 m8 m9 m10 m11 m12 m13 m14 m15 m16 m17 m18 : Nat) (ma mm mg : Nat → Int32) (mw ml mb mz op bp by0 dp tk ka iw : Int32) (s x : Int32) (hpa : POk ma) : Cn l D tys yX10_about cX10_about 3 (some .int) rm_X10_about [(hy, .inr (10, [.ref m0, .ref m1, .ref m2, .ref m3, .ref m4, .ref m5, .ref m6, .ref m7, .ref m8, .ref m9, .int mw, .int ml, .int mb, .ref m10, .int mz, .ref m11, .int op, .int bp, .int by0, .int dp, .int tk, .ref m12, .ref m13, .ref m14, .ref m15, .ref m16, .ref m17, .ref m18, .int ka, .int iw])), (m2, .inl (cI, 4, .inl ma)), (m3, .inl (cI, 16, .inl mm)), (m4, .inl (cI, 4, .inl mg))] [.ref hy, .int s, .int x] (fun v W1 => ∃ (r : Int32), v = some (.int r) ∧ W1 = [(hy, .inr (10, [.ref m0, .ref m1, .ref m2, .ref m3, .ref m4, .ref m5, .ref m6, .ref m7, .ref m8, .ref m9, .int mw, .int ml, .int mb, .ref m10, .int mz, .ref m11, .int op, .int bp, .int by0, .int dp, .int tk, .ref m12, .ref m13, .ref m14, .ref m15, .ref m16, .ref m17, .ref m18, .int ka, .int iw])), (m2, .inl (cI, 4, .inl ma)), (m3, .inl (cI, 16, .inl mm)), (m4, .inl (cI, 4, .inl mg))] ∧ (AB ma mm mg s x r)) := by
  refine Cn.of (by decide) (Nat.le_of_ble_eq_true rfl) ?_ ?_ (fun X eL eD eT eO eK eN eM C => ?_)
  · intro h; cases h
  · intro v ws h; obtain ⟨_, rfl, rfl, _⟩ := h; exact Or.inl rfl
  subst eL eD eT
  show V X 3 [(hy, .inr (10, [.ref m0, .ref m1, .ref m2, .ref m3, .ref m4, .ref m5, .ref m6, .ref m7, .ref m8, .ref m9, .int mw, .int ml, .int mb, .ref m10, .int mz, .ref m11, .int op, .int bp, .int by0, .int dp, .int tk, .ref m12, .ref m13, .ref m14, .ref m15, .ref m16, .ref m17, .ref m18, .int ka, .int iw])), (m2, .inl (cI, 4, .inl ma)), (m3, .inl (cI, 16, .inl mm)), (m4, .inl (cI, 4, .inl mg))] [(0, .ref hy), (1, .int s), (2, .int x)] [] 0 0 0
  refine x_iload_n C 1 dX10_about_0 rfl rfl ?_
  refine x_callS C [.int s] [(hy, .inr (10, [.ref m0, .ref m1, .ref m2, .ref m3, .ref m4, .ref m5, .ref m6, .ref m7, .ref m8, .ref m9, .int mw, .int ml, .int mb, .ref m10, .int mz, .ref m11, .int op, .int bp, .int by0, .int dp, .int tk, .ref m12, .ref m13, .ref m14, .ref m15, .ref m16, .ref m17, .ref m18, .int ka, .int iw])), (m2, .inl (cI, 4, .inl ma)), (m3, .inl (cI, 16, .inl mm)), (m4, .inl (cI, 4, .inl mg))] [] [0, 1, 2, 3] (c_X10_isStory (xl X) (xD X) (xt X) hT s ) dX10_about_1 wd_261 wd_262 wd_5 wd_263 (np := 1) ⟨by decide, by decide, by decide +kernel⟩ rfl rfl (Nat.le_of_ble_eq_true rfl) (by decide) rfl (by decide) rfl (by decide) (by decide) (fun v W1 h => ?_)
  obtain ⟨r_1, rfl, rfl, h_1⟩ := h
  show V X 3 [(hy, .inr (10, [.ref m0, .ref m1, .ref m2, .ref m3, .ref m4, .ref m5, .ref m6, .ref m7, .ref m8, .ref m9, .int mw, .int ml, .int mb, .ref m10, .int mz, .ref m11, .int op, .int bp, .int by0, .int dp, .int tk, .ref m12, .ref m13, .ref m14, .ref m15, .ref m16, .ref m17, .ref m18, .int ka, .int iw])), (m2, .inl (cI, 4, .inl ma)), (m3, .inl (cI, 16, .inl mm)), (m4, .inl (cI, 4, .inl mg))] [(0, .ref hy), (1, .int s), (2, .int x)] [.int r_1] 4 0 0
  refine x_if_ne C 9 dX10_about_4 (by decide) (fun c_4 => ?_) (fun c_4 => ?_)
  · skip
    have e_4 : ¬ ((r_1 : Int32).toInt = (0 : Int32).toInt) := fun h => c_4 (i_eq.mpr h)
    have : (0 : Int32).toInt = 0 := by decide
    refine x_iload_n C 2 dX10_about_9 rfl rfl ?_
    refine x_i2l C dX10_about_10 ?_
    refine x_ldc2 C dX10_about_11 wd_286 ?_
    refine x_ldc2 C dX10_about_14 wd_287 ?_
    refine x_callS C [.long (Int32.toInt64 x), .long 10, .long 13] [(hy, .inr (10, [.ref m0, .ref m1, .ref m2, .ref m3, .ref m4, .ref m5, .ref m6, .ref m7, .ref m8, .ref m9, .int mw, .int ml, .int mb, .ref m10, .int mz, .ref m11, .int op, .int bp, .int by0, .int dp, .int tk, .ref m12, .ref m13, .ref m14, .ref m15, .ref m16, .ref m17, .ref m18, .int ka, .int iw])), (m2, .inl (cI, 4, .inl ma)), (m3, .inl (cI, 16, .inl mm)), (m4, .inl (cI, 4, .inl mg))] [] [0, 1, 2, 3] (c_X10_in (xl X) (xD X) (xt X) hT (Int32.toInt64 x) 10 13 ) dX10_about_17 wd_167 wd_168 wd_5 wd_169 (np := 3) ⟨by decide, by decide, by decide +kernel⟩ rfl rfl (Nat.le_of_ble_eq_true rfl) (by decide) rfl (by decide) rfl (by decide) (by decide) (fun v W1 h => ?_)
    obtain ⟨r_17, rfl, rfl, h_17⟩ := h
    have : (Int32.toInt64 x : Int64).toInt = (x : Int32).toInt := Int32.toInt_toInt64 _
    have : (10 : Int64).toInt = 10 := by decide
    have : (13 : Int64).toInt = 13 := by decide
    show V X 3 [(hy, .inr (10, [.ref m0, .ref m1, .ref m2, .ref m3, .ref m4, .ref m5, .ref m6, .ref m7, .ref m8, .ref m9, .int mw, .int ml, .int mb, .ref m10, .int mz, .ref m11, .int op, .int bp, .int by0, .int dp, .int tk, .ref m12, .ref m13, .ref m14, .ref m15, .ref m16, .ref m17, .ref m18, .int ka, .int iw])), (m2, .inl (cI, 4, .inl ma)), (m3, .inl (cI, 16, .inl mm)), (m4, .inl (cI, 4, .inl mg))] [(0, .ref hy), (1, .int s), (2, .int x)] [.int r_17] 20 0 0
    refine x_if_eq C 55 dX10_about_20 (by decide) (fun c_20 => ?_) (fun c_20 => ?_)
    · skip
      have e_20 : (r_17 : Int32).toInt = (0 : Int32).toInt := i_eq.mp c_20
      have : (0 : Int32).toInt = 0 := by decide
      refine x_iload_n C 2 dX10_about_55 rfl rfl ?_
      refine x_if_ne C 68 dX10_about_56 (by decide) (fun c_56 => ?_) (fun c_56 => ?_)
      · skip
        have e_56 : ¬ ((x : Int32).toInt = (0 : Int32).toInt) := fun h => c_56 (i_eq.mpr h)
        have : (0 : Int32).toInt = 0 := by decide
        refine x_iload_n C 2 dX10_about_68 rfl rfl ?_
        refine x_iconst C 1 dX10_about_69 (by decide) ?_
        refine x_icmp_ne C 81 dX10_about_70 (by decide) (fun c_70 => ?_) (fun c_70 => ?_)
        · skip
          have e_70 : ¬ ((x : Int32).toInt = (1 : Int32).toInt) := fun h => c_70 (i_eq.mpr h)
          have : (1 : Int32).toInt = 1 := by decide
          refine x_iload_n C 2 dX10_about_81 rfl rfl ?_
          refine x_iconst C 2 dX10_about_82 (by decide) ?_
          refine x_icmp_ne C 95 dX10_about_83 (by decide) (fun c_83 => ?_) (fun c_83 => ?_)
          · skip
            have e_83 : ¬ ((x : Int32).toInt = (2 : Int32).toInt) := fun h => c_83 (i_eq.mpr h)
            have : (2 : Int32).toInt = 2 := by decide
            refine x_bipush C (-2) dX10_about_95 (by decide) ?_
            have : ((-2) : Int32).toInt = -2 := by decide
            exact x_iret C dX10_about_97 (Nat.zero_le _) (Nat.zero_le _) (by rw [eO]; exact ⟨((-2)), rfl, rfl, (Or.inr ⟨by omega, Or.inr (Or.inr (Or.inr (Or.inr (Or.inr (⟨by omega, rfl⟩)))))⟩)⟩)
          · skip
            have e_83 : (x : Int32).toInt = (2 : Int32).toInt := i_eq.mp c_83
            have : (2 : Int32).toInt = 2 := by decide
            refine x_aload_n C 0 dX10_about_86 rfl rfl ?_
            refine x_get C 0 4 dX10_about_87 inlX10 rfl (by decide) wd_126 rfl rfl rfl ?_
            refine x_iload_n C 1 dX10_about_90 rfl rfl ?_
            have v_91 : vp_in s 4 := (vp_in_iff.mpr (by omega))
            refine x_iald C 3 0 dX10_about_91 hT.1 rfl v_91 ?_
            refine x_goto C 97 dX10_about_92 (by decide) ?_
            exact x_iret C dX10_about_97 (Nat.zero_le _) (Nat.zero_le _) (by rw [eO]; exact ⟨(mg (Int32.toNatClampNeg s)), rfl, rfl, (Or.inr ⟨by omega, Or.inr (Or.inr (Or.inr (Or.inr (Or.inl ⟨by omega, rfl⟩))))⟩)⟩)
        · skip
          have e_70 : (x : Int32).toInt = (1 : Int32).toInt := i_eq.mp c_70
          have : (1 : Int32).toInt = 1 := by decide
          refine x_aload_n C 0 dX10_about_73 rfl rfl ?_
          refine x_iload_n C 1 dX10_about_74 rfl rfl ?_
          refine x_callV C [.int s] [(m4, .inl (cI, 4, .inl mg))] [0, 1, 2] [3] (q0 := 0) (c_X10_lengthOf (xl X) (xD X) (xt X) hT hy m0 m1 m2 m3 m4 m5 m6 m7 m8 m9 m10 m11 m12 m13 m14 m15 m16 m17 m18 ma mm mw ml mb mz op bp by0 dp tk ka iw s (by omega) hpa) dX10_about_75 wd_288 wd_289 wd_290 wd_5 wd_291 (np := 1) ⟨by decide, by decide, by decide +kernel⟩ rfl rfl (Nat.le_of_ble_eq_true rfl) (by decide) rfl rfl rfl rfl (by decide) rfl (by decide) (by decide) (fun v W1 h => ?_)
          obtain ⟨r_75, rfl, rfl, h_75⟩ := h
          show V X 3 [(m4, .inl (cI, 4, .inl mg)), (hy, .inr (10, [.ref m0, .ref m1, .ref m2, .ref m3, .ref m4, .ref m5, .ref m6, .ref m7, .ref m8, .ref m9, .int mw, .int ml, .int mb, .ref m10, .int mz, .ref m11, .int op, .int bp, .int by0, .int dp, .int tk, .ref m12, .ref m13, .ref m14, .ref m15, .ref m16, .ref m17, .ref m18, .int ka, .int iw])), (m2, .inl (cI, 4, .inl ma)), (m3, .inl (cI, 16, .inl mm))] [(0, .ref hy), (1, .int s), (2, .int x)] [.int r_75] 78 0 0
          refine x_goto C 97 dX10_about_78 (by decide) ?_
          refine x_sub [(hy, .inr (10, [.ref m0, .ref m1, .ref m2, .ref m3, .ref m4, .ref m5, .ref m6, .ref m7, .ref m8, .ref m9, .int mw, .int ml, .int mb, .ref m10, .int mz, .ref m11, .int op, .int bp, .int by0, .int dp, .int tk, .ref m12, .ref m13, .ref m14, .ref m15, .ref m16, .ref m17, .ref m18, .int ka, .int iw])), (m2, .inl (cI, 4, .inl ma)), (m3, .inl (cI, 16, .inl mm)), (m4, .inl (cI, 4, .inl mg))] [1, 2, 3, 0] (by decide) rfl ?_
          exact x_iret C dX10_about_97 (Nat.zero_le _) (Nat.zero_le _) (by rw [eO]; exact ⟨r_75, rfl, rfl, (Or.inr ⟨by omega, Or.inr (Or.inr (Or.inr (Or.inl ⟨by omega, h_75⟩)))⟩)⟩)
      · skip
        have e_56 : (x : Int32).toInt = (0 : Int32).toInt := i_eq.mp c_56
        have : (0 : Int32).toInt = 0 := by decide
        refine x_aload_n C 0 dX10_about_59 rfl rfl ?_
        refine x_get C 0 2 dX10_about_60 inlX10 rfl (by decide) wd_124 rfl rfl rfl ?_
        refine x_iload_n C 1 dX10_about_63 rfl rfl ?_
        have v_64 : vp_in s 4 := (vp_in_iff.mpr (by omega))
        refine x_iald C 1 0 dX10_about_64 hT.1 rfl v_64 ?_
        refine x_goto C 97 dX10_about_65 (by decide) ?_
        exact x_iret C dX10_about_97 (Nat.zero_le _) (Nat.zero_le _) (by rw [eO]; exact ⟨(ma (Int32.toNatClampNeg s)), rfl, rfl, (Or.inr ⟨by omega, Or.inr (Or.inr (Or.inl ⟨by omega, rfl⟩))⟩)⟩)
    · skip
      have e_20 : ¬ ((r_17 : Int32).toInt = (0 : Int32).toInt) := fun h => c_20 (i_eq.mpr h)
      have : (0 : Int32).toInt = 0 := by decide
      have : (10 : Int32).toInt = 10 := by decide
      have x109 := i_sub (x := x) (y := 10) (by omega) (by omega)
      refine x_iload_n C 2 dX10_about_23 rfl rfl ?_
      refine x_bipush C 10 dX10_about_24 (by decide) ?_
      refine x_isub C dX10_about_26 ?_
      refine x_aload_n C 0 dX10_about_27 rfl rfl ?_
      refine x_get C 0 2 dX10_about_28 inlX10 rfl (by decide) wd_124 rfl rfl rfl ?_
      refine x_iload_n C 1 dX10_about_31 rfl rfl ?_
      have v_32 : vp_in s 4 := (vp_in_iff.mpr (by omega))
      refine x_iald C 1 0 dX10_about_32 hT.1 rfl v_32 ?_
      have a_32 := hpa.at v_32
      refine x_icmp_ge C 52 dX10_about_33 (by decide) (fun c_33 => ?_) (fun c_33 => ?_)
      · skip
        have e_33 : (ma (Int32.toNatClampNeg s) : Int32).toInt ≤ (x - 10 : Int32).toInt := i_le.mp c_33
        refine x_bipush C (-6) dX10_about_52 (by decide) ?_
        have : ((-6) : Int32).toInt = -6 := by decide
        exact x_iret C dX10_about_54 (Nat.zero_le _) (Nat.zero_le _) (by rw [eO]; exact ⟨((-6)), rfl, rfl, (Or.inr ⟨by omega, Or.inr (Or.inl ⟨by omega, by omega, rfl⟩)⟩)⟩)
      · skip
        have e_33 : ¬ ((ma (Int32.toNatClampNeg s) : Int32).toInt ≤ (x - 10 : Int32).toInt) := fun h => c_33 (i_le.mpr h)
        refine x_aload_n C 0 dX10_about_36 rfl rfl ?_
        refine x_get C 0 3 dX10_about_37 inlX10 rfl (by decide) wd_125 rfl rfl rfl ?_
        refine x_iconst C 4 dX10_about_40 (by decide) ?_
        refine x_iload_n C 1 dX10_about_41 rfl rfl ?_
        refine x_imul C dX10_about_42 ?_
        refine x_iload_n C 2 dX10_about_43 rfl rfl ?_
        refine x_iadd C dX10_about_44 ?_
        refine x_bipush C 10 dX10_about_45 (by decide) ?_
        refine x_isub C dX10_about_47 ?_
        have : (4 : Int32).toInt = 4 := by decide
        have := i_mull (x := 4) (y := s) (d := 4) (by decide) (by omega) (by omega)
        have := i_add (x := (4 * s)) (y := x) (by omega) (by omega)
        have : (10 : Int32).toInt = 10 := by decide
        have := i_sub (x := ((4 * s) + x)) (y := 10) (by omega) (by omega)
        have v_48 : vp_in (((4 * s) + x) - 10) 16 := (vp_in_iff.mpr (by omega))
        refine x_iald C 2 0 dX10_about_48 hT.1 rfl v_48 ?_
        refine x_goto C 54 dX10_about_49 (by decide) ?_
        exact x_iret C dX10_about_54 (Nat.zero_le _) (Nat.zero_le _) (by rw [eO]; exact ⟨(mm (Int32.toNatClampNeg (((4 * s) + x) - 10))), rfl, rfl, (Or.inr ⟨by omega, Or.inl ⟨by omega, by omega, congrArg mm (by show (4 * s + x - 10).toInt.toNat = _; omega)⟩⟩)⟩)
  · skip
    have e_4 : (r_1 : Int32).toInt = (0 : Int32).toInt := i_eq.mp c_4
    have : (0 : Int32).toInt = 0 := by decide
    refine x_iconst C (-1) dX10_about_7 (by decide) ?_
    have : ((-1) : Int32).toInt = -1 := by decide
    exact x_iret C dX10_about_8 (Nat.zero_le _) (Nat.zero_le _) (by rw [eO]; exact ⟨((-1)), rfl, rfl, (Or.inl ⟨by omega, rfl⟩)⟩)
abbrev rm_X10_teller : Room := { frames := 2, cells := 0, slots := 0, locals := 45 }
set_option maxHeartbeats 4000000 in
set_option maxRecDepth 100000 in
theorem c_X10_teller (l : Launch) (D : va_G) (tys : List (ClassId × FieldType)) {cI cJ cZ cB : ClassId} (hT : Ty tys cI cJ cZ cB) (hy m0 m1 m2 m3 m4 m5 m6 m7 m8 m9 m10 m11 m12 m13 m14 m15 m16 m17 m18 : Nat) (mt : Nat → Int32) (mw ml mb mz op bp by0 dp tk ka iw : Int32) (s t : Int32) (hte : TOk mt) : Cn l D tys yX10_teller cX10_teller 4 (some .int) rm_X10_teller [(hy, .inr (10, [.ref m0, .ref m1, .ref m2, .ref m3, .ref m4, .ref m5, .ref m6, .ref m7, .ref m8, .ref m9, .int mw, .int ml, .int mb, .ref m10, .int mz, .ref m11, .int op, .int bp, .int by0, .int dp, .int tk, .ref m12, .ref m13, .ref m14, .ref m15, .ref m16, .ref m17, .ref m18, .int ka, .int iw])), (m5, .inl (cI, 4, .inl mt))] [.ref hy, .int s, .int t] (fun v W1 => ∃ (r : Int32) (mt2 : Nat → Int32), v = some (.int r) ∧ W1 = [(hy, .inr (10, [.ref m0, .ref m1, .ref m2, .ref m3, .ref m4, .ref m5, .ref m6, .ref m7, .ref m8, .ref m9, .int mw, .int ml, .int mb, .ref m10, .int mz, .ref m11, .int op, .int bp, .int by0, .int dp, .int tk, .ref m12, .ref m13, .ref m14, .ref m15, .ref m16, .ref m17, .ref m18, .int ka, .int iw])), (m5, .inl (cI, 4, .inl mt2))] ∧ (TE s t mt r mt2)) := by
  refine Cn.of (by decide) (Nat.le_of_ble_eq_true rfl) ?_ ?_ (fun X eL eD eT eO eK eN eM C => ?_)
  · intro h; cases h
  · intro v ws h; obtain ⟨_, _, rfl, rfl, _⟩ := h; exact Or.inl rfl
  subst eL eD eT
  show V X 4 [(hy, .inr (10, [.ref m0, .ref m1, .ref m2, .ref m3, .ref m4, .ref m5, .ref m6, .ref m7, .ref m8, .ref m9, .int mw, .int ml, .int mb, .ref m10, .int mz, .ref m11, .int op, .int bp, .int by0, .int dp, .int tk, .ref m12, .ref m13, .ref m14, .ref m15, .ref m16, .ref m17, .ref m18, .int ka, .int iw])), (m5, .inl (cI, 4, .inl mt))] [(0, .ref hy), (1, .int s), (2, .int t)] [] 0 0 0
  refine x_iload_n C 1 dX10_teller_0 rfl rfl ?_
  refine x_callS C [.int s] [(hy, .inr (10, [.ref m0, .ref m1, .ref m2, .ref m3, .ref m4, .ref m5, .ref m6, .ref m7, .ref m8, .ref m9, .int mw, .int ml, .int mb, .ref m10, .int mz, .ref m11, .int op, .int bp, .int by0, .int dp, .int tk, .ref m12, .ref m13, .ref m14, .ref m15, .ref m16, .ref m17, .ref m18, .int ka, .int iw])), (m5, .inl (cI, 4, .inl mt))] [] [0, 1] (c_X10_isStory (xl X) (xD X) (xt X) hT s ) dX10_teller_1 wd_261 wd_262 wd_5 wd_263 (np := 1) ⟨by decide, by decide, by decide +kernel⟩ rfl rfl (Nat.le_of_ble_eq_true rfl) (by decide) rfl (by decide) rfl (by decide) (by decide) (fun v W1 h => ?_)
  obtain ⟨r_1, rfl, rfl, h_1⟩ := h
  show V X 4 [(hy, .inr (10, [.ref m0, .ref m1, .ref m2, .ref m3, .ref m4, .ref m5, .ref m6, .ref m7, .ref m8, .ref m9, .int mw, .int ml, .int mb, .ref m10, .int mz, .ref m11, .int op, .int bp, .int by0, .int dp, .int tk, .ref m12, .ref m13, .ref m14, .ref m15, .ref m16, .ref m17, .ref m18, .int ka, .int iw])), (m5, .inl (cI, 4, .inl mt))] [(0, .ref hy), (1, .int s), (2, .int t)] [.int r_1] 4 0 0
  refine x_if_eq C 14 dX10_teller_4 (by decide) (fun c_4 => ?_) (fun c_4 => ?_)
  · skip
    have e_4 : (r_1 : Int32).toInt = (0 : Int32).toInt := i_eq.mp c_4
    have : (0 : Int32).toInt = 0 := by decide
    refine x_iconst C (-1) dX10_teller_14 (by decide) ?_
    have : ((-1) : Int32).toInt = -1 := by decide
    exact x_iret C dX10_teller_15 (Nat.zero_le _) (Nat.zero_le _) (by rw [eO]; exact ⟨((-1)), mt, rfl, rfl, (Or.inr ⟨by omega, rfl, rfl⟩)⟩)
  · skip
    have e_4 : ¬ ((r_1 : Int32).toInt = (0 : Int32).toInt) := fun h => c_4 (i_eq.mpr h)
    have : (0 : Int32).toInt = 0 := by decide
    refine x_iload_n C 2 dX10_teller_7 rfl rfl ?_
    refine x_callS C [.int t] [(hy, .inr (10, [.ref m0, .ref m1, .ref m2, .ref m3, .ref m4, .ref m5, .ref m6, .ref m7, .ref m8, .ref m9, .int mw, .int ml, .int mb, .ref m10, .int mz, .ref m11, .int op, .int bp, .int by0, .int dp, .int tk, .ref m12, .ref m13, .ref m14, .ref m15, .ref m16, .ref m17, .ref m18, .int ka, .int iw])), (m5, .inl (cI, 4, .inl mt))] [] [0, 1] (c_X10_isStory (xl X) (xD X) (xt X) hT t ) dX10_teller_8 wd_261 wd_262 wd_5 wd_263 (np := 1) ⟨by decide, by decide, by decide +kernel⟩ rfl rfl (Nat.le_of_ble_eq_true rfl) (by decide) rfl (by decide) rfl (by decide) (by decide) (fun v W1 h => ?_)
    obtain ⟨r_8, rfl, rfl, h_8⟩ := h
    show V X 4 [(hy, .inr (10, [.ref m0, .ref m1, .ref m2, .ref m3, .ref m4, .ref m5, .ref m6, .ref m7, .ref m8, .ref m9, .int mw, .int ml, .int mb, .ref m10, .int mz, .ref m11, .int op, .int bp, .int by0, .int dp, .int tk, .ref m12, .ref m13, .ref m14, .ref m15, .ref m16, .ref m17, .ref m18, .int ka, .int iw])), (m5, .inl (cI, 4, .inl mt))] [(0, .ref hy), (1, .int s), (2, .int t)] [.int r_8] 11 0 0
    refine x_if_ne C 16 dX10_teller_11 (by decide) (fun c_11 => ?_) (fun c_11 => ?_)
    · skip
      have e_11 : ¬ ((r_8 : Int32).toInt = (0 : Int32).toInt) := fun h => c_11 (i_eq.mpr h)
      have : (0 : Int32).toInt = 0 := by decide
      refine x_aload_n C 0 dX10_teller_16 rfl rfl ?_
      refine x_get C 0 5 dX10_teller_17 inlX10 rfl (by decide) wd_127 rfl rfl rfl ?_
      refine x_iload_n C 1 dX10_teller_20 rfl rfl ?_
      have v_21 : vp_in s 4 := (vp_in_iff.mpr (by omega))
      refine x_iald C 1 0 dX10_teller_21 hT.1 rfl v_21 ?_
      refine x_istore_n C [(3, .int (mt (Int32.toNatClampNeg s))), (0, .ref hy), (1, .int s), (2, .int t)] dX10_teller_22 rfl (by decide) rfl ?_
      refine x_aload_n C 1 dX10_teller_23 rfl rfl ?_
      refine x_get C 0 5 dX10_teller_24 inlX10 rfl (by decide) wd_127 rfl rfl rfl ?_
      refine x_iload_n C 2 dX10_teller_27 rfl rfl ?_
      refine x_iload_n C 3 dX10_teller_28 rfl rfl ?_
      have v_29 : vp_in s 4 := (vp_in_iff.mpr (by omega))
      refine x_iast C 1 0 [(hy, .inr (10, [.ref m0, .ref m1, .ref m2, .ref m3, .ref m4, .ref m5, .ref m6, .ref m7, .ref m8, .ref m9, .int mw, .int ml, .int mb, .ref m10, .int mz, .ref m11, .int op, .int bp, .int by0, .int dp, .int tk, .ref m12, .ref m13, .ref m14, .ref m15, .ref m16, .ref m17, .ref m18, .int ka, .int iw])), (m5, .inl (cI, 4, .inl (upd mt (Int32.toNatClampNeg s) t)))] dX10_teller_29 hT.1 rfl v_29 rfl ?_
      refine x_iload_n C 0 dX10_teller_30 rfl rfl ?_
      exact x_iret C dX10_teller_31 (Nat.zero_le _) (Nat.zero_le _) (by rw [eO]; exact ⟨(mt (Int32.toNatClampNeg s)), (upd mt (Int32.toNatClampNeg s) t), rfl, rfl, (Or.inl ⟨by omega, rfl, rfl⟩)⟩)
    · skip
      have e_11 : (r_8 : Int32).toInt = (0 : Int32).toInt := i_eq.mp c_11
      have : (0 : Int32).toInt = 0 := by decide
      refine x_iconst C (-1) dX10_teller_14 (by decide) ?_
      have : ((-1) : Int32).toInt = -1 := by decide
      exact x_iret C dX10_teller_15 (Nat.zero_le _) (Nat.zero_le _) (by rw [eO]; exact ⟨((-1)), mt, rfl, rfl, (Or.inr ⟨by omega, rfl, rfl⟩)⟩)
abbrev rm_X10_knows : Room := { frames := 2, cells := 0, slots := 0, locals := 45 }
set_option maxHeartbeats 4000000 in
set_option maxRecDepth 100000 in
theorem c_X10_knows (l : Launch) (D : va_G) (tys : List (ClassId × FieldType)) {cI cJ cZ cB : ClassId} (hT : Ty tys cI cJ cZ cB) (hy m0 m1 m2 m3 m4 m5 m6 m7 m8 m9 m10 m11 m12 m13 m14 m15 m16 m17 m18 : Nat) (mk : Nat → Int32) (mw ml mb mz op bp by0 dp tk ka iw : Int32) (s t : Int32)  : Cn l D tys yX10_knows cX10_knows 4 (some .int) rm_X10_knows [(hy, .inr (10, [.ref m0, .ref m1, .ref m2, .ref m3, .ref m4, .ref m5, .ref m6, .ref m7, .ref m8, .ref m9, .int mw, .int ml, .int mb, .ref m10, .int mz, .ref m11, .int op, .int bp, .int by0, .int dp, .int tk, .ref m12, .ref m13, .ref m14, .ref m15, .ref m16, .ref m17, .ref m18, .int ka, .int iw])), (m6, .inl (cI, 4, .inl mk))] [.ref hy, .int s, .int t] (fun v W1 => ∃ (r : Int32) (mk2 : Nat → Int32), v = some (.int r) ∧ W1 = [(hy, .inr (10, [.ref m0, .ref m1, .ref m2, .ref m3, .ref m4, .ref m5, .ref m6, .ref m7, .ref m8, .ref m9, .int mw, .int ml, .int mb, .ref m10, .int mz, .ref m11, .int op, .int bp, .int by0, .int dp, .int tk, .ref m12, .ref m13, .ref m14, .ref m15, .ref m16, .ref m17, .ref m18, .int ka, .int iw])), (m6, .inl (cI, 4, .inl mk2))] ∧ (KN s t mk r mk2)) := by
  refine Cn.of (by decide) (Nat.le_of_ble_eq_true rfl) ?_ ?_ (fun X eL eD eT eO eK eN eM C => ?_)
  · intro h; cases h
  · intro v ws h; obtain ⟨_, _, rfl, rfl, _⟩ := h; exact Or.inl rfl
  subst eL eD eT
  show V X 4 [(hy, .inr (10, [.ref m0, .ref m1, .ref m2, .ref m3, .ref m4, .ref m5, .ref m6, .ref m7, .ref m8, .ref m9, .int mw, .int ml, .int mb, .ref m10, .int mz, .ref m11, .int op, .int bp, .int by0, .int dp, .int tk, .ref m12, .ref m13, .ref m14, .ref m15, .ref m16, .ref m17, .ref m18, .int ka, .int iw])), (m6, .inl (cI, 4, .inl mk))] [(0, .ref hy), (1, .int s), (2, .int t)] [] 0 0 0
  refine x_iload_n C 1 dX10_knows_0 rfl rfl ?_
  refine x_callS C [.int s] [(hy, .inr (10, [.ref m0, .ref m1, .ref m2, .ref m3, .ref m4, .ref m5, .ref m6, .ref m7, .ref m8, .ref m9, .int mw, .int ml, .int mb, .ref m10, .int mz, .ref m11, .int op, .int bp, .int by0, .int dp, .int tk, .ref m12, .ref m13, .ref m14, .ref m15, .ref m16, .ref m17, .ref m18, .int ka, .int iw])), (m6, .inl (cI, 4, .inl mk))] [] [0, 1] (c_X10_isStory (xl X) (xD X) (xt X) hT s ) dX10_knows_1 wd_261 wd_262 wd_5 wd_263 (np := 1) ⟨by decide, by decide, by decide +kernel⟩ rfl rfl (Nat.le_of_ble_eq_true rfl) (by decide) rfl (by decide) rfl (by decide) (by decide) (fun v W1 h => ?_)
  obtain ⟨r_1, rfl, rfl, h_1⟩ := h
  show V X 4 [(hy, .inr (10, [.ref m0, .ref m1, .ref m2, .ref m3, .ref m4, .ref m5, .ref m6, .ref m7, .ref m8, .ref m9, .int mw, .int ml, .int mb, .ref m10, .int mz, .ref m11, .int op, .int bp, .int by0, .int dp, .int tk, .ref m12, .ref m13, .ref m14, .ref m15, .ref m16, .ref m17, .ref m18, .int ka, .int iw])), (m6, .inl (cI, 4, .inl mk))] [(0, .ref hy), (1, .int s), (2, .int t)] [.int r_1] 4 0 0
  refine x_if_ne C 9 dX10_knows_4 (by decide) (fun c_4 => ?_) (fun c_4 => ?_)
  · skip
    have e_4 : ¬ ((r_1 : Int32).toInt = (0 : Int32).toInt) := fun h => c_4 (i_eq.mpr h)
    have : (0 : Int32).toInt = 0 := by decide
    refine x_iload_n C 2 dX10_knows_9 rfl rfl ?_
    refine x_i2l C dX10_knows_10 ?_
    refine x_lconst C 0 dX10_knows_11 (by decide) ?_
    refine x_ldc2 C dX10_knows_12 wd_311 ?_
    refine x_callS C [.long (Int32.toInt64 t), .long 0, .long 15] [(hy, .inr (10, [.ref m0, .ref m1, .ref m2, .ref m3, .ref m4, .ref m5, .ref m6, .ref m7, .ref m8, .ref m9, .int mw, .int ml, .int mb, .ref m10, .int mz, .ref m11, .int op, .int bp, .int by0, .int dp, .int tk, .ref m12, .ref m13, .ref m14, .ref m15, .ref m16, .ref m17, .ref m18, .int ka, .int iw])), (m6, .inl (cI, 4, .inl mk))] [] [0, 1] (c_X10_in (xl X) (xD X) (xt X) hT (Int32.toInt64 t) 0 15 ) dX10_knows_15 wd_167 wd_168 wd_5 wd_169 (np := 3) ⟨by decide, by decide, by decide +kernel⟩ rfl rfl (Nat.le_of_ble_eq_true rfl) (by decide) rfl (by decide) rfl (by decide) (by decide) (fun v W1 h => ?_)
    obtain ⟨r_15, rfl, rfl, h_15⟩ := h
    have : (Int32.toInt64 t : Int64).toInt = (t : Int32).toInt := Int32.toInt_toInt64 _
    have : (0 : Int64).toInt = 0 := by decide
    have : (15 : Int64).toInt = 15 := by decide
    show V X 4 [(hy, .inr (10, [.ref m0, .ref m1, .ref m2, .ref m3, .ref m4, .ref m5, .ref m6, .ref m7, .ref m8, .ref m9, .int mw, .int ml, .int mb, .ref m10, .int mz, .ref m11, .int op, .int bp, .int by0, .int dp, .int tk, .ref m12, .ref m13, .ref m14, .ref m15, .ref m16, .ref m17, .ref m18, .int ka, .int iw])), (m6, .inl (cI, 4, .inl mk))] [(0, .ref hy), (1, .int s), (2, .int t)] [.int r_15] 18 0 0
    refine x_if_ne C 24 dX10_knows_18 (by decide) (fun c_18 => ?_) (fun c_18 => ?_)
    · skip
      have e_18 : ¬ ((r_15 : Int32).toInt = (0 : Int32).toInt) := fun h => c_18 (i_eq.mpr h)
      have : (0 : Int32).toInt = 0 := by decide
      refine x_aload_n C 0 dX10_knows_24 rfl rfl ?_
      refine x_get C 0 6 dX10_knows_25 inlX10 rfl (by decide) wd_128 rfl rfl rfl ?_
      refine x_iload_n C 1 dX10_knows_28 rfl rfl ?_
      have v_29 : vp_in s 4 := (vp_in_iff.mpr (by omega))
      refine x_iald C 1 0 dX10_knows_29 hT.1 rfl v_29 ?_
      refine x_istore_n C [(3, .int (mk (Int32.toNatClampNeg s))), (0, .ref hy), (1, .int s), (2, .int t)] dX10_knows_30 rfl (by decide) rfl ?_
      refine x_aload_n C 1 dX10_knows_31 rfl rfl ?_
      refine x_get C 0 6 dX10_knows_32 inlX10 rfl (by decide) wd_128 rfl rfl rfl ?_
      refine x_iload_n C 2 dX10_knows_35 rfl rfl ?_
      refine x_iload_n C 3 dX10_knows_36 rfl rfl ?_
      have v_37 : vp_in s 4 := (vp_in_iff.mpr (by omega))
      refine x_iast C 1 0 [(hy, .inr (10, [.ref m0, .ref m1, .ref m2, .ref m3, .ref m4, .ref m5, .ref m6, .ref m7, .ref m8, .ref m9, .int mw, .int ml, .int mb, .ref m10, .int mz, .ref m11, .int op, .int bp, .int by0, .int dp, .int tk, .ref m12, .ref m13, .ref m14, .ref m15, .ref m16, .ref m17, .ref m18, .int ka, .int iw])), (m6, .inl (cI, 4, .inl (upd mk (Int32.toNatClampNeg s) t)))] dX10_knows_37 hT.1 rfl v_37 rfl ?_
      refine x_iload_n C 0 dX10_knows_38 rfl rfl ?_
      exact x_iret C dX10_knows_39 (Nat.zero_le _) (Nat.zero_le _) (by rw [eO]; exact ⟨(mk (Int32.toNatClampNeg s)), (upd mk (Int32.toNatClampNeg s) t), rfl, rfl, (Or.inl ⟨by omega, by omega, rfl, rfl⟩)⟩)
    · skip
      have e_18 : (r_15 : Int32).toInt = (0 : Int32).toInt := i_eq.mp c_18
      have : (0 : Int32).toInt = 0 := by decide
      refine x_bipush C (-2) dX10_knows_21 (by decide) ?_
      have : ((-2) : Int32).toInt = -2 := by decide
      exact x_iret C dX10_knows_23 (Nat.zero_le _) (Nat.zero_le _) (by rw [eO]; exact ⟨((-2)), mk, rfl, rfl, (Or.inr (Or.inl ⟨by omega, by omega, rfl, rfl⟩))⟩)
  · skip
    have e_4 : (r_1 : Int32).toInt = (0 : Int32).toInt := i_eq.mp c_4
    have : (0 : Int32).toInt = 0 := by decide
    refine x_iconst C (-1) dX10_knows_7 (by decide) ?_
    have : ((-1) : Int32).toInt = -1 := by decide
    exact x_iret C dX10_knows_8 (Nat.zero_le _) (Nat.zero_le _) (by rw [eO]; exact ⟨((-1)), mk, rfl, rfl, (Or.inr (Or.inr ⟨by omega, rfl, rfl⟩))⟩)
abbrev rm_X10_wait : Room := { frames := 2, cells := 0, slots := 0, locals := 45 }
set_option maxHeartbeats 4000000 in
set_option maxRecDepth 100000 in
theorem c_X10_wait (l : Launch) (D : va_G) (tys : List (ClassId × FieldType)) {cI cJ cZ cB : ClassId} (hT : Ty tys cI cJ cZ cB) (hy m0 m1 m2 m3 m4 m5 m6 m7 m8 m9 m10 m11 m12 m13 m14 m15 m16 m17 m18 : Nat) (ma wf wp wt : Nat → Int32) (mw ml mb mz op bp by0 dp tk ka iw : Int32) (s p o : Int32) (hpa : POk ma) (hmw : 0 ≤ mw.toInt ∧ mw.toInt ≤ 6) (hwf : SOk wf) (hwp : SOk wp) (hwt : SOk wt) : Cn l D tys yX10_wait cX10_wait 5 (some .int) rm_X10_wait [(hy, .inr (10, [.ref m0, .ref m1, .ref m2, .ref m3, .ref m4, .ref m5, .ref m6, .ref m7, .ref m8, .ref m9, .int mw, .int ml, .int mb, .ref m10, .int mz, .ref m11, .int op, .int bp, .int by0, .int dp, .int tk, .ref m12, .ref m13, .ref m14, .ref m15, .ref m16, .ref m17, .ref m18, .int ka, .int iw])), (m2, .inl (cI, 4, .inl ma)), (m7, .inl (cI, 6, .inl wf)), (m8, .inl (cI, 6, .inl wp)), (m9, .inl (cI, 6, .inl wt))] [.ref hy, .int s, .int p, .int o] (fun v W1 => ∃ (r mw2 : Int32) (wf2 wp2 wt2 : Nat → Int32), v = some (.int r) ∧ W1 = [(hy, .inr (10, [.ref m0, .ref m1, .ref m2, .ref m3, .ref m4, .ref m5, .ref m6, .ref m7, .ref m8, .ref m9, .int mw2, .int ml, .int mb, .ref m10, .int mz, .ref m11, .int op, .int bp, .int by0, .int dp, .int tk, .ref m12, .ref m13, .ref m14, .ref m15, .ref m16, .ref m17, .ref m18, .int ka, .int iw])), (m2, .inl (cI, 4, .inl ma)), (m7, .inl (cI, 6, .inl wf2)), (m8, .inl (cI, 6, .inl wp2)), (m9, .inl (cI, 6, .inl wt2))] ∧ (((0 ≤ mw2.toInt ∧ mw2.toInt ≤ 6) ∧ SOk wf2 ∧ SOk wp2 ∧ SOk wt2) ∧ WM ma s p o mw wf wp wt (EX (fun y => (wf (Int32.toNatClampNeg y)).toInt = s.toInt ∧ (wp (Int32.toNatClampNeg y)).toInt = p.toInt ∧ (wt (Int32.toNatClampNeg y)).toInt = o.toInt) mw) r mw2 wf2 wp2 wt2)) := by
  refine Cn.of (by decide) (Nat.le_of_ble_eq_true rfl) ?_ ?_ (fun X eL eD eT eO eK eN eM C => ?_)
  · intro h; cases h
  · intro v ws h; obtain ⟨_, _, _, _, _, rfl, rfl, _⟩ := h; exact Or.inl rfl
  subst eL eD eT
  show V X 5 [(hy, .inr (10, [.ref m0, .ref m1, .ref m2, .ref m3, .ref m4, .ref m5, .ref m6, .ref m7, .ref m8, .ref m9, .int mw, .int ml, .int mb, .ref m10, .int mz, .ref m11, .int op, .int bp, .int by0, .int dp, .int tk, .ref m12, .ref m13, .ref m14, .ref m15, .ref m16, .ref m17, .ref m18, .int ka, .int iw])), (m2, .inl (cI, 4, .inl ma)), (m7, .inl (cI, 6, .inl wf)), (m8, .inl (cI, 6, .inl wp)), (m9, .inl (cI, 6, .inl wt))] [(0, .ref hy), (1, .int s), (2, .int p), (3, .int o)] [] 0 0 0
  refine x_iload_n C 1 dX10_wait_0 rfl rfl ?_
  refine x_callS C [.int s] [(hy, .inr (10, [.ref m0, .ref m1, .ref m2, .ref m3, .ref m4, .ref m5, .ref m6, .ref m7, .ref m8, .ref m9, .int mw, .int ml, .int mb, .ref m10, .int mz, .ref m11, .int op, .int bp, .int by0, .int dp, .int tk, .ref m12, .ref m13, .ref m14, .ref m15, .ref m16, .ref m17, .ref m18, .int ka, .int iw])), (m2, .inl (cI, 4, .inl ma)), (m7, .inl (cI, 6, .inl wf)), (m8, .inl (cI, 6, .inl wp)), (m9, .inl (cI, 6, .inl wt))] [] [0, 1, 2, 3, 4] (c_X10_isStory (xl X) (xD X) (xt X) hT s ) dX10_wait_1 wd_261 wd_262 wd_5 wd_263 (np := 1) ⟨by decide, by decide, by decide +kernel⟩ rfl rfl (Nat.le_of_ble_eq_true rfl) (by decide) rfl (by decide) rfl (by decide) (by decide) (fun v W1 h => ?_)
  obtain ⟨r_1, rfl, rfl, h_1⟩ := h
  show V X 5 [(hy, .inr (10, [.ref m0, .ref m1, .ref m2, .ref m3, .ref m4, .ref m5, .ref m6, .ref m7, .ref m8, .ref m9, .int mw, .int ml, .int mb, .ref m10, .int mz, .ref m11, .int op, .int bp, .int by0, .int dp, .int tk, .ref m12, .ref m13, .ref m14, .ref m15, .ref m16, .ref m17, .ref m18, .int ka, .int iw])), (m2, .inl (cI, 4, .inl ma)), (m7, .inl (cI, 6, .inl wf)), (m8, .inl (cI, 6, .inl wp)), (m9, .inl (cI, 6, .inl wt))] [(0, .ref hy), (1, .int s), (2, .int p), (3, .int o)] [.int r_1] 4 0 0
  refine x_if_eq C 37 dX10_wait_4 (by decide) (fun c_4 => ?_) (fun c_4 => ?_)
  · skip
    have e_4 : (r_1 : Int32).toInt = (0 : Int32).toInt := i_eq.mp c_4
    have : (0 : Int32).toInt = 0 := by decide
    refine x_iconst C (-1) dX10_wait_37 (by decide) ?_
    have : ((-1) : Int32).toInt = -1 := by decide
    exact x_iret C dX10_wait_38 (Nat.zero_le _) (Nat.zero_le _) (by rw [eO]; exact ⟨((-1)), mw, wf, wp, wt, rfl, rfl, ⟨⟨hmw, hwf, hwp, hwt⟩, Or.inl ⟨by omega, rfl, rfl, rfl, rfl, rfl⟩⟩⟩)
  · skip
    have e_4 : ¬ ((r_1 : Int32).toInt = (0 : Int32).toInt) := fun h => c_4 (i_eq.mpr h)
    have : (0 : Int32).toInt = 0 := by decide
    refine x_iload_n C 3 dX10_wait_7 rfl rfl ?_
    refine x_callS C [.int o] [(hy, .inr (10, [.ref m0, .ref m1, .ref m2, .ref m3, .ref m4, .ref m5, .ref m6, .ref m7, .ref m8, .ref m9, .int mw, .int ml, .int mb, .ref m10, .int mz, .ref m11, .int op, .int bp, .int by0, .int dp, .int tk, .ref m12, .ref m13, .ref m14, .ref m15, .ref m16, .ref m17, .ref m18, .int ka, .int iw])), (m2, .inl (cI, 4, .inl ma)), (m7, .inl (cI, 6, .inl wf)), (m8, .inl (cI, 6, .inl wp)), (m9, .inl (cI, 6, .inl wt))] [] [0, 1, 2, 3, 4] (c_X10_isStory (xl X) (xD X) (xt X) hT o ) dX10_wait_8 wd_261 wd_262 wd_5 wd_263 (np := 1) ⟨by decide, by decide, by decide +kernel⟩ rfl rfl (Nat.le_of_ble_eq_true rfl) (by decide) rfl (by decide) rfl (by decide) (by decide) (fun v W1 h => ?_)
    obtain ⟨r_8, rfl, rfl, h_8⟩ := h
    show V X 5 [(hy, .inr (10, [.ref m0, .ref m1, .ref m2, .ref m3, .ref m4, .ref m5, .ref m6, .ref m7, .ref m8, .ref m9, .int mw, .int ml, .int mb, .ref m10, .int mz, .ref m11, .int op, .int bp, .int by0, .int dp, .int tk, .ref m12, .ref m13, .ref m14, .ref m15, .ref m16, .ref m17, .ref m18, .int ka, .int iw])), (m2, .inl (cI, 4, .inl ma)), (m7, .inl (cI, 6, .inl wf)), (m8, .inl (cI, 6, .inl wp)), (m9, .inl (cI, 6, .inl wt))] [(0, .ref hy), (1, .int s), (2, .int p), (3, .int o)] [.int r_8] 11 0 0
    refine x_if_eq C 37 dX10_wait_11 (by decide) (fun c_11 => ?_) (fun c_11 => ?_)
    · skip
      have e_11 : (r_8 : Int32).toInt = (0 : Int32).toInt := i_eq.mp c_11
      have : (0 : Int32).toInt = 0 := by decide
      refine x_iconst C (-1) dX10_wait_37 (by decide) ?_
      have : ((-1) : Int32).toInt = -1 := by decide
      exact x_iret C dX10_wait_38 (Nat.zero_le _) (Nat.zero_le _) (by rw [eO]; exact ⟨((-1)), mw, wf, wp, wt, rfl, rfl, ⟨⟨hmw, hwf, hwp, hwt⟩, Or.inl ⟨by omega, rfl, rfl, rfl, rfl, rfl⟩⟩⟩)
    · skip
      have e_11 : ¬ ((r_8 : Int32).toInt = (0 : Int32).toInt) := fun h => c_11 (i_eq.mpr h)
      have : (0 : Int32).toInt = 0 := by decide
      refine x_iload_n C 1 dX10_wait_14 rfl rfl ?_
      refine x_iload_n C 3 dX10_wait_15 rfl rfl ?_
      refine x_icmp_eq C 37 dX10_wait_16 (by decide) (fun c_16 => ?_) (fun c_16 => ?_)
      · skip
        have e_16 : (s : Int32).toInt = (o : Int32).toInt := i_eq.mp c_16
        refine x_iconst C (-1) dX10_wait_37 (by decide) ?_
        have : ((-1) : Int32).toInt = -1 := by decide
        exact x_iret C dX10_wait_38 (Nat.zero_le _) (Nat.zero_le _) (by rw [eO]; exact ⟨((-1)), mw, wf, wp, wt, rfl, rfl, ⟨⟨hmw, hwf, hwp, hwt⟩, Or.inl ⟨by omega, rfl, rfl, rfl, rfl, rfl⟩⟩⟩)
      · skip
        have e_16 : ¬ ((s : Int32).toInt = (o : Int32).toInt) := fun h => c_16 (i_eq.mpr h)
        refine x_iload_n C 2 dX10_wait_19 rfl rfl ?_
        refine x_i2l C dX10_wait_20 ?_
        refine x_lconst C 0 dX10_wait_21 (by decide) ?_
        refine x_aload_n C 0 dX10_wait_22 rfl rfl ?_
        refine x_get C 0 2 dX10_wait_23 inlX10 rfl (by decide) wd_124 rfl rfl rfl ?_
        refine x_iload_n C 1 dX10_wait_26 rfl rfl ?_
        have v_27 : vp_in s 4 := (vp_in_iff.mpr (by omega))
        refine x_iald C 1 0 dX10_wait_27 hT.1 rfl v_27 ?_
        have a_27 := hpa.at v_27
        have := t1_
        have := i_sub (x := ma (Int32.toNatClampNeg s)) (y := 1) (by omega) (by omega)
        refine x_iconst C 1 dX10_wait_28 (by decide) ?_
        refine x_isub C dX10_wait_29 ?_
        refine x_i2l C dX10_wait_30 ?_
        refine x_callS C [.long (Int32.toInt64 p), .long 0, .long (Int32.toInt64 ((ma (Int32.toNatClampNeg s)) - 1))] [(hy, .inr (10, [.ref m0, .ref m1, .ref m2, .ref m3, .ref m4, .ref m5, .ref m6, .ref m7, .ref m8, .ref m9, .int mw, .int ml, .int mb, .ref m10, .int mz, .ref m11, .int op, .int bp, .int by0, .int dp, .int tk, .ref m12, .ref m13, .ref m14, .ref m15, .ref m16, .ref m17, .ref m18, .int ka, .int iw])), (m2, .inl (cI, 4, .inl ma)), (m7, .inl (cI, 6, .inl wf)), (m8, .inl (cI, 6, .inl wp)), (m9, .inl (cI, 6, .inl wt))] [] [0, 1, 2, 3, 4] (c_X10_in (xl X) (xD X) (xt X) hT (Int32.toInt64 p) 0 (Int32.toInt64 ((ma (Int32.toNatClampNeg s)) - 1)) ) dX10_wait_31 wd_167 wd_168 wd_5 wd_169 (np := 3) ⟨by decide, by decide, by decide +kernel⟩ rfl rfl (Nat.le_of_ble_eq_true rfl) (by decide) rfl (by decide) rfl (by decide) (by decide) (fun v W1 h => ?_)
        obtain ⟨r_31, rfl, rfl, h_31⟩ := h
        have : (Int32.toInt64 p : Int64).toInt = (p : Int32).toInt := Int32.toInt_toInt64 _
        have : (0 : Int64).toInt = 0 := by decide
        have : (Int32.toInt64 ((ma (Int32.toNatClampNeg s)) - 1) : Int64).toInt = (((ma (Int32.toNatClampNeg s)) - 1) : Int32).toInt := Int32.toInt_toInt64 _
        show V X 5 [(hy, .inr (10, [.ref m0, .ref m1, .ref m2, .ref m3, .ref m4, .ref m5, .ref m6, .ref m7, .ref m8, .ref m9, .int mw, .int ml, .int mb, .ref m10, .int mz, .ref m11, .int op, .int bp, .int by0, .int dp, .int tk, .ref m12, .ref m13, .ref m14, .ref m15, .ref m16, .ref m17, .ref m18, .int ka, .int iw])), (m2, .inl (cI, 4, .inl ma)), (m7, .inl (cI, 6, .inl wf)), (m8, .inl (cI, 6, .inl wp)), (m9, .inl (cI, 6, .inl wt))] [(0, .ref hy), (1, .int s), (2, .int p), (3, .int o)] [.int r_31] 34 0 0
        refine x_if_ne C 39 dX10_wait_34 (by decide) (fun c_34 => ?_) (fun c_34 => ?_)
        · skip
          have e_34 : ¬ ((r_31 : Int32).toInt = (0 : Int32).toInt) := fun h => c_34 (i_eq.mpr h)
          have : (0 : Int32).toInt = 0 := by decide
          refine x_iconst C 0 dX10_wait_39 (by decide) ?_
          refine x_istore C [(4, .int 0), (0, .ref hy), (1, .int s), (2, .int p), (3, .int o)] dX10_wait_40 (by decide) rfl ?_
          have L_42 : ∀ (n_42 : Nat) (x4_42 : Int32), ((0 ≤ x4_42.toInt ∧ x4_42.toInt ≤ mw.toInt) ∧ ¬ EX (fun y => (wf (Int32.toNatClampNeg y)).toInt = s.toInt ∧ (wp (Int32.toNatClampNeg y)).toInt = p.toInt ∧ (wt (Int32.toNatClampNeg y)).toInt = o.toInt) x4_42) → ((mw.toInt - x4_42.toInt).toNat < n_42) → V X 5 [(hy, .inr (10, [.ref m0, .ref m1, .ref m2, .ref m3, .ref m4, .ref m5, .ref m6, .ref m7, .ref m8, .ref m9, .int mw, .int ml, .int mb, .ref m10, .int mz, .ref m11, .int op, .int bp, .int by0, .int dp, .int tk, .ref m12, .ref m13, .ref m14, .ref m15, .ref m16, .ref m17, .ref m18, .int ka, .int iw])), (m2, .inl (cI, 4, .inl ma)), (m7, .inl (cI, 6, .inl wf)), (m8, .inl (cI, 6, .inl wp)), (m9, .inl (cI, 6, .inl wt))] [(4, .int x4_42), (0, .ref hy), (1, .int s), (2, .int p), (3, .int o)] [] 42 0 0 := by
            intro n_42
            induction n_42 with
            | zero =>
              intro x4_42 i_42 m_42
              exact absurd m_42 (Nat.not_lt_zero _)
            | succ n_42 ih_42 =>
              intro x4_42 i_42 m_42
              refine x_iload C 0 dX10_wait_42 rfl ?_
              refine x_aload_n C 1 dX10_wait_44 rfl rfl ?_
              refine x_get C 0 10 dX10_wait_45 inlX10 rfl (by decide) wd_260 rfl rfl rfl ?_
              refine x_icmp_ge C 93 dX10_wait_48 (by decide) (fun c_48 => ?_) (fun c_48 => ?_)
              · skip
                have e_48 : (mw : Int32).toInt ≤ (x4_42 : Int32).toInt := i_le.mp c_48
                refine x_aload_n C 1 dX10_wait_93 rfl rfl ?_
                refine x_get C 0 10 dX10_wait_94 inlX10 rfl (by decide) wd_260 rfl rfl rfl ?_
                refine x_bipush C 6 dX10_wait_97 (by decide) ?_
                refine x_icmp_ne C 105 dX10_wait_99 (by decide) (fun c_99 => ?_) (fun c_99 => ?_)
                · skip
                  have e_99 : ¬ ((mw : Int32).toInt = (6 : Int32).toInt) := fun h => c_99 (i_eq.mpr h)
                  have : (6 : Int32).toInt = 6 := by decide
                  have : (1 : Int32).toInt = 1 := by decide
                  have := i_add (x := mw) (y := 1) (by omega) (by omega)
                  refine x_aload_n C 1 dX10_wait_105 rfl rfl ?_
                  refine x_get C 0 7 dX10_wait_106 inlX10 rfl (by decide) wd_129 rfl rfl rfl ?_
                  refine x_aload_n C 1 dX10_wait_109 rfl rfl ?_
                  refine x_get C 0 10 dX10_wait_110 inlX10 rfl (by decide) wd_260 rfl rfl rfl ?_
                  refine x_iload_n C 2 dX10_wait_113 rfl rfl ?_
                  have v_114 : vp_in mw 6 := (vp_in_iff.mpr (by omega))
                  refine x_iast C 2 0 [(hy, .inr (10, [.ref m0, .ref m1, .ref m2, .ref m3, .ref m4, .ref m5, .ref m6, .ref m7, .ref m8, .ref m9, .int mw, .int ml, .int mb, .ref m10, .int mz, .ref m11, .int op, .int bp, .int by0, .int dp, .int tk, .ref m12, .ref m13, .ref m14, .ref m15, .ref m16, .ref m17, .ref m18, .int ka, .int iw])), (m2, .inl (cI, 4, .inl ma)), (m7, .inl (cI, 6, .inl (upd wf (Int32.toNatClampNeg mw) s))), (m8, .inl (cI, 6, .inl wp)), (m9, .inl (cI, 6, .inl wt))] dX10_wait_114 hT.1 rfl v_114 rfl ?_
                  refine x_aload_n C 1 dX10_wait_115 rfl rfl ?_
                  refine x_get C 0 8 dX10_wait_116 inlX10 rfl (by decide) wd_130 rfl rfl rfl ?_
                  refine x_aload_n C 1 dX10_wait_119 rfl rfl ?_
                  refine x_get C 0 10 dX10_wait_120 inlX10 rfl (by decide) wd_260 rfl rfl rfl ?_
                  refine x_iload_n C 3 dX10_wait_123 rfl rfl ?_
                  have v_124 : vp_in mw 6 := (vp_in_iff.mpr (by omega))
                  refine x_iast C 3 0 [(hy, .inr (10, [.ref m0, .ref m1, .ref m2, .ref m3, .ref m4, .ref m5, .ref m6, .ref m7, .ref m8, .ref m9, .int mw, .int ml, .int mb, .ref m10, .int mz, .ref m11, .int op, .int bp, .int by0, .int dp, .int tk, .ref m12, .ref m13, .ref m14, .ref m15, .ref m16, .ref m17, .ref m18, .int ka, .int iw])), (m2, .inl (cI, 4, .inl ma)), (m7, .inl (cI, 6, .inl (upd wf (Int32.toNatClampNeg mw) s))), (m8, .inl (cI, 6, .inl (upd wp (Int32.toNatClampNeg mw) p))), (m9, .inl (cI, 6, .inl wt))] dX10_wait_124 hT.1 rfl v_124 rfl ?_
                  refine x_aload_n C 1 dX10_wait_125 rfl rfl ?_
                  refine x_get C 0 9 dX10_wait_126 inlX10 rfl (by decide) wd_131 rfl rfl rfl ?_
                  refine x_aload_n C 1 dX10_wait_129 rfl rfl ?_
                  refine x_get C 0 10 dX10_wait_130 inlX10 rfl (by decide) wd_260 rfl rfl rfl ?_
                  refine x_iload_n C 4 dX10_wait_133 rfl rfl ?_
                  have v_134 : vp_in mw 6 := (vp_in_iff.mpr (by omega))
                  refine x_iast C 4 0 [(hy, .inr (10, [.ref m0, .ref m1, .ref m2, .ref m3, .ref m4, .ref m5, .ref m6, .ref m7, .ref m8, .ref m9, .int mw, .int ml, .int mb, .ref m10, .int mz, .ref m11, .int op, .int bp, .int by0, .int dp, .int tk, .ref m12, .ref m13, .ref m14, .ref m15, .ref m16, .ref m17, .ref m18, .int ka, .int iw])), (m2, .inl (cI, 4, .inl ma)), (m7, .inl (cI, 6, .inl (upd wf (Int32.toNatClampNeg mw) s))), (m8, .inl (cI, 6, .inl (upd wp (Int32.toNatClampNeg mw) p))), (m9, .inl (cI, 6, .inl (upd wt (Int32.toNatClampNeg mw) o)))] dX10_wait_134 hT.1 rfl v_134 rfl ?_
                  refine x_aload_n C 1 dX10_wait_135 rfl rfl ?_
                  refine x_dup C dX10_wait_136 rfl ?_
                  refine x_get C 0 10 dX10_wait_137 inlX10 rfl (by decide) wd_260 rfl rfl rfl ?_
                  refine x_iconst C 1 dX10_wait_140 (by decide) ?_
                  refine x_iadd C dX10_wait_141 ?_
                  refine x_put C 0 10 (ty := .int) [(hy, .inr (10, [.ref m0, .ref m1, .ref m2, .ref m3, .ref m4, .ref m5, .ref m6, .ref m7, .ref m8, .ref m9, .int (mw + 1), .int ml, .int mb, .ref m10, .int mz, .ref m11, .int op, .int bp, .int by0, .int dp, .int tk, .ref m12, .ref m13, .ref m14, .ref m15, .ref m16, .ref m17, .ref m18, .int ka, .int iw])), (m2, .inl (cI, 4, .inl ma)), (m7, .inl (cI, 6, .inl (upd wf (Int32.toNatClampNeg mw) s))), (m8, .inl (cI, 6, .inl (upd wp (Int32.toNatClampNeg mw) p))), (m9, .inl (cI, 6, .inl (upd wt (Int32.toNatClampNeg mw) o)))] dX10_wait_142 inlX10 tyX10 tyX10_ok nmX10 rfl (by decide) wd_260 rfl rfl rfl rfl rfl rfl (Nat.le_of_ble_eq_true rfl) rfl ?_
                  refine x_aload_n C 1 dX10_wait_145 rfl rfl ?_
                  refine x_get C 0 10 dX10_wait_146 inlX10 rfl (by decide) wd_260 rfl rfl rfl ?_
                  refine x_iconst C 1 dX10_wait_149 (by decide) ?_
                  refine x_isub C dX10_wait_150 ?_
                  exact x_iret C dX10_wait_151 (Nat.zero_le _) (Nat.zero_le _) (by rw [eO]; exact ⟨((mw + 1) - 1), (mw + 1), (upd wf (Int32.toNatClampNeg mw) s), (upd wp (Int32.toNatClampNeg mw) p), (upd wt (Int32.toNatClampNeg mw) o), rfl, rfl, ⟨⟨by omega, hwf.upd (by omega), hwp.upd (by omega), hwt.upd (by omega)⟩, Or.inr ⟨by omega, Or.inr (Or.inr ⟨(by rw [← i_eq.mpr (show x4_42.toInt = mw.toInt by omega)]; exact i_42.2), by omega, Int32.add_sub_cancel mw 1, rfl, rfl, rfl, rfl⟩)⟩⟩⟩)
                · skip
                  have e_99 : (mw : Int32).toInt = (6 : Int32).toInt := i_eq.mp c_99
                  have : (6 : Int32).toInt = 6 := by decide
                  refine x_bipush C (-4) dX10_wait_102 (by decide) ?_
                  have : ((-4) : Int32).toInt = -4 := by decide
                  exact x_iret C dX10_wait_104 (Nat.zero_le _) (Nat.zero_le _) (by rw [eO]; exact ⟨((-4)), mw, wf, wp, wt, rfl, rfl, ⟨⟨hmw, hwf, hwp, hwt⟩, Or.inr ⟨by omega, Or.inr (Or.inl ⟨(by rw [← i_eq.mpr (show x4_42.toInt = mw.toInt by omega)]; exact i_42.2), by omega, rfl, rfl, rfl, rfl, rfl⟩)⟩⟩⟩)
              · skip
                have e_48 : ¬ ((mw : Int32).toInt ≤ (x4_42 : Int32).toInt) := fun h => c_48 (i_le.mpr h)
                refine x_aload_n C 1 dX10_wait_51 rfl rfl ?_
                refine x_get C 0 7 dX10_wait_52 inlX10 rfl (by decide) wd_129 rfl rfl rfl ?_
                refine x_iload C 0 dX10_wait_55 rfl ?_
                have v_57 : vp_in x4_42 6 := (vp_in_iff.mpr (by omega))
                refine x_iald C 2 0 dX10_wait_57 hT.1 rfl v_57 ?_
                refine x_iload_n C 2 dX10_wait_58 rfl rfl ?_
                refine x_icmp_ne C 87 dX10_wait_59 (by decide) (fun c_59 => ?_) (fun c_59 => ?_)
                · skip
                  have e_59 : ¬ ((wf (Int32.toNatClampNeg x4_42) : Int32).toInt = (s : Int32).toInt) := fun h => c_59 (i_eq.mpr h)
                  refine x_iinc C 0 (x4_42 + 1) [(4, .int (x4_42 + 1)), (0, .ref hy), (1, .int s), (2, .int p), (3, .int o)] dX10_wait_87 rfl rfl (by decide) rfl ?_
                  refine x_goto C 42 dX10_wait_90 (by decide) ?_
                  have : (1 : Int32).toInt = 1 := by decide
                  have := i_add (x := x4_42) (y := 1) (by omega) (by omega)
                  exact ih_42 (x4_42 + 1) ⟨by omega, (EX.no (TB.nil i_42.2) t0_ (fun h => by obtain ⟨h1, h2, h3⟩ := h; omega) (by omega)).f t0_⟩ (by omega)
                · skip
                  have e_59 : (wf (Int32.toNatClampNeg x4_42) : Int32).toInt = (s : Int32).toInt := i_eq.mp c_59
                  refine x_aload_n C 1 dX10_wait_62 rfl rfl ?_
                  refine x_get C 0 8 dX10_wait_63 inlX10 rfl (by decide) wd_130 rfl rfl rfl ?_
                  refine x_iload C 0 dX10_wait_66 rfl ?_
                  have v_68 : vp_in x4_42 6 := (vp_in_iff.mpr (by omega))
                  refine x_iald C 3 0 dX10_wait_68 hT.1 rfl v_68 ?_
                  refine x_iload_n C 3 dX10_wait_69 rfl rfl ?_
                  refine x_icmp_ne C 87 dX10_wait_70 (by decide) (fun c_70 => ?_) (fun c_70 => ?_)
                  · skip
                    have e_70 : ¬ ((wp (Int32.toNatClampNeg x4_42) : Int32).toInt = (p : Int32).toInt) := fun h => c_70 (i_eq.mpr h)
                    refine x_iinc C 0 (x4_42 + 1) [(4, .int (x4_42 + 1)), (0, .ref hy), (1, .int s), (2, .int p), (3, .int o)] dX10_wait_87 rfl rfl (by decide) rfl ?_
                    refine x_goto C 42 dX10_wait_90 (by decide) ?_
                    have : (1 : Int32).toInt = 1 := by decide
                    have := i_add (x := x4_42) (y := 1) (by omega) (by omega)
                    exact ih_42 (x4_42 + 1) ⟨by omega, (EX.no (TB.nil i_42.2) t0_ (fun h => by obtain ⟨h1, h2, h3⟩ := h; omega) (by omega)).f t0_⟩ (by omega)
                  · skip
                    have e_70 : (wp (Int32.toNatClampNeg x4_42) : Int32).toInt = (p : Int32).toInt := i_eq.mp c_70
                    refine x_aload_n C 1 dX10_wait_73 rfl rfl ?_
                    refine x_get C 0 9 dX10_wait_74 inlX10 rfl (by decide) wd_131 rfl rfl rfl ?_
                    refine x_iload C 0 dX10_wait_77 rfl ?_
                    have v_79 : vp_in x4_42 6 := (vp_in_iff.mpr (by omega))
                    refine x_iald C 4 0 dX10_wait_79 hT.1 rfl v_79 ?_
                    refine x_iload_n C 4 dX10_wait_80 rfl rfl ?_
                    refine x_icmp_ne C 87 dX10_wait_81 (by decide) (fun c_81 => ?_) (fun c_81 => ?_)
                    · skip
                      have e_81 : ¬ ((wt (Int32.toNatClampNeg x4_42) : Int32).toInt = (o : Int32).toInt) := fun h => c_81 (i_eq.mpr h)
                      refine x_iinc C 0 (x4_42 + 1) [(4, .int (x4_42 + 1)), (0, .ref hy), (1, .int s), (2, .int p), (3, .int o)] dX10_wait_87 rfl rfl (by decide) rfl ?_
                      refine x_goto C 42 dX10_wait_90 (by decide) ?_
                      have : (1 : Int32).toInt = 1 := by decide
                      have := i_add (x := x4_42) (y := 1) (by omega) (by omega)
                      exact ih_42 (x4_42 + 1) ⟨by omega, (EX.no (TB.nil i_42.2) t0_ (fun h => by obtain ⟨h1, h2, h3⟩ := h; omega) (by omega)).f t0_⟩ (by omega)
                    · skip
                      have e_81 : (wt (Int32.toNatClampNeg x4_42) : Int32).toInt = (o : Int32).toInt := i_eq.mp c_81
                      refine x_bipush C (-5) dX10_wait_84 (by decide) ?_
                      have : ((-5) : Int32).toInt = -5 := by decide
                      exact x_iret C dX10_wait_86 (Nat.zero_le _) (Nat.zero_le _) (by rw [eO]; exact ⟨((-5)), mw, wf, wp, wt, rfl, rfl, ⟨⟨hmw, hwf, hwp, hwt⟩, Or.inr ⟨by omega, Or.inl ⟨⟨x4_42, by omega, by omega, by omega, by omega, by omega⟩, rfl, rfl, rfl, rfl, rfl⟩⟩⟩⟩)
          have : (0 : Int32).toInt = 0 := by decide
          exact L_42 _ 0 ⟨by omega, EX.z (by omega)⟩ (Nat.lt_succ_self _)
        · skip
          have e_34 : (r_31 : Int32).toInt = (0 : Int32).toInt := i_eq.mp c_34
          have : (0 : Int32).toInt = 0 := by decide
          refine x_iconst C (-1) dX10_wait_37 (by decide) ?_
          have : ((-1) : Int32).toInt = -1 := by decide
          exact x_iret C dX10_wait_38 (Nat.zero_le _) (Nat.zero_le _) (by rw [eO]; exact ⟨((-1)), mw, wf, wp, wt, rfl, rfl, ⟨⟨hmw, hwf, hwp, hwt⟩, Or.inl ⟨by omega, rfl, rfl, rfl, rfl, rfl⟩⟩⟩)
abbrev rm_X10_set : Room := { frames := 1, cells := 0, slots := 0, locals := 25 }
set_option maxHeartbeats 4000000 in
set_option maxRecDepth 100000 in
theorem c_X10_set (l : Launch) (D : va_G) (tys : List (ClassId × FieldType)) {cI cJ cZ cB : ClassId} (hT : Ty tys cI cJ cZ cB) (hy m0 m1 m2 m3 m4 m5 m6 m7 m8 m9 m10 m11 m12 m13 m14 m15 m16 m17 m18 : Nat) (mw ml mb mz op bp by0 dp tk ka iw : Int32) (a b : Int32)  : Cn l D tys yX10_set cX10_set 4 (some .int) rm_X10_set [(hy, .inr (10, [.ref m0, .ref m1, .ref m2, .ref m3, .ref m4, .ref m5, .ref m6, .ref m7, .ref m8, .ref m9, .int mw, .int ml, .int mb, .ref m10, .int mz, .ref m11, .int op, .int bp, .int by0, .int dp, .int tk, .ref m12, .ref m13, .ref m14, .ref m15, .ref m16, .ref m17, .ref m18, .int ka, .int iw]))] [.ref hy, .int a, .int b] (fun v W1 => ∃ (r ml2 mb2 : Int32), v = some (.int r) ∧ W1 = [(hy, .inr (10, [.ref m0, .ref m1, .ref m2, .ref m3, .ref m4, .ref m5, .ref m6, .ref m7, .ref m8, .ref m9, .int mw, .int ml2, .int mb2, .ref m10, .int mz, .ref m11, .int op, .int bp, .int by0, .int dp, .int tk, .ref m12, .ref m13, .ref m14, .ref m15, .ref m16, .ref m17, .ref m18, .int ka, .int iw]))] ∧ (SE a b ml mb r ml2 mb2)) := by
  refine Cn.of (by decide) (Nat.le_of_ble_eq_true rfl) ?_ ?_ (fun X eL eD eT eO eK eN eM C => ?_)
  · intro h; cases h
  · intro v ws h; obtain ⟨_, _, _, rfl, rfl, _⟩ := h; exact Or.inl rfl
  subst eL eD eT
  show V X 4 [(hy, .inr (10, [.ref m0, .ref m1, .ref m2, .ref m3, .ref m4, .ref m5, .ref m6, .ref m7, .ref m8, .ref m9, .int mw, .int ml, .int mb, .ref m10, .int mz, .ref m11, .int op, .int bp, .int by0, .int dp, .int tk, .ref m12, .ref m13, .ref m14, .ref m15, .ref m16, .ref m17, .ref m18, .int ka, .int iw]))] [(0, .ref hy), (1, .int a), (2, .int b)] [] 0 0 0
  refine x_iload_n C 1 dX10_set_0 rfl rfl ?_
  refine x_i2l C dX10_set_1 ?_
  refine x_lconst C 0 dX10_set_2 (by decide) ?_
  refine x_lconst C 1 dX10_set_3 (by decide) ?_
  refine x_callS C [.long (Int32.toInt64 a), .long 0, .long 1] [(hy, .inr (10, [.ref m0, .ref m1, .ref m2, .ref m3, .ref m4, .ref m5, .ref m6, .ref m7, .ref m8, .ref m9, .int mw, .int ml, .int mb, .ref m10, .int mz, .ref m11, .int op, .int bp, .int by0, .int dp, .int tk, .ref m12, .ref m13, .ref m14, .ref m15, .ref m16, .ref m17, .ref m18, .int ka, .int iw]))] [] [0] (c_X10_in (xl X) (xD X) (xt X) hT (Int32.toInt64 a) 0 1 ) dX10_set_4 wd_167 wd_168 wd_5 wd_169 (np := 3) ⟨by decide, by decide, by decide +kernel⟩ rfl rfl (Nat.le_of_ble_eq_true rfl) (by decide) rfl (by decide) rfl (by decide) (by decide) (fun v W1 h => ?_)
  obtain ⟨r_4, rfl, rfl, h_4⟩ := h
  have : (Int32.toInt64 a : Int64).toInt = (a : Int32).toInt := Int32.toInt_toInt64 _
  have : (0 : Int64).toInt = 0 := by decide
  have : (1 : Int64).toInt = 1 := by decide
  show V X 4 [(hy, .inr (10, [.ref m0, .ref m1, .ref m2, .ref m3, .ref m4, .ref m5, .ref m6, .ref m7, .ref m8, .ref m9, .int mw, .int ml, .int mb, .ref m10, .int mz, .ref m11, .int op, .int bp, .int by0, .int dp, .int tk, .ref m12, .ref m13, .ref m14, .ref m15, .ref m16, .ref m17, .ref m18, .int ka, .int iw]))] [(0, .ref hy), (1, .int a), (2, .int b)] [.int r_4] 7 0 0
  refine x_if_eq C 32 dX10_set_7 (by decide) (fun c_7 => ?_) (fun c_7 => ?_)
  · skip
    have e_7 : (r_4 : Int32).toInt = (0 : Int32).toInt := i_eq.mp c_7
    have : (0 : Int32).toInt = 0 := by decide
    refine x_bipush C (-2) dX10_set_32 (by decide) ?_
    have : ((-2) : Int32).toInt = -2 := by decide
    exact x_iret C dX10_set_34 (Nat.zero_le _) (Nat.zero_le _) (by rw [eO]; exact ⟨((-2)), ml, mb, rfl, rfl, (Or.inr (Or.inr ⟨⟨by omega, by omega⟩, rfl, rfl, rfl⟩))⟩)
  · skip
    have e_7 : ¬ ((r_4 : Int32).toInt = (0 : Int32).toInt) := fun h => c_7 (i_eq.mpr h)
    have : (0 : Int32).toInt = 0 := by decide
    refine x_iload_n C 2 dX10_set_10 rfl rfl ?_
    refine x_i2l C dX10_set_11 ?_
    refine x_lconst C 0 dX10_set_12 (by decide) ?_
    refine x_iload_n C 1 dX10_set_13 rfl rfl ?_
    refine x_if_ne C 23 dX10_set_14 (by decide) (fun c_14 => ?_) (fun c_14 => ?_)
    · skip
      have e_14 : ¬ ((a : Int32).toInt = (0 : Int32).toInt) := fun h => c_14 (i_eq.mpr h)
      have : (0 : Int32).toInt = 0 := by decide
      refine x_ldc2 C dX10_set_23 wd_346 ?_
      refine x_callS C [.long (Int32.toInt64 b), .long 0, .long 9] [(hy, .inr (10, [.ref m0, .ref m1, .ref m2, .ref m3, .ref m4, .ref m5, .ref m6, .ref m7, .ref m8, .ref m9, .int mw, .int ml, .int mb, .ref m10, .int mz, .ref m11, .int op, .int bp, .int by0, .int dp, .int tk, .ref m12, .ref m13, .ref m14, .ref m15, .ref m16, .ref m17, .ref m18, .int ka, .int iw]))] [] [0] (c_X10_in (xl X) (xD X) (xt X) hT (Int32.toInt64 b) 0 9 ) dX10_set_26 wd_167 wd_168 wd_5 wd_169 (np := 3) ⟨by decide, by decide, by decide +kernel⟩ rfl rfl (Nat.le_of_ble_eq_true rfl) (by decide) rfl (by decide) rfl (by decide) (by decide) (fun v W1 h => ?_)
      obtain ⟨r_26, rfl, rfl, h_26⟩ := h
      have : (Int32.toInt64 b : Int64).toInt = (b : Int32).toInt := Int32.toInt_toInt64 _
      have : (0 : Int64).toInt = 0 := by decide
      have : (9 : Int64).toInt = 9 := by decide
      show V X 4 [(hy, .inr (10, [.ref m0, .ref m1, .ref m2, .ref m3, .ref m4, .ref m5, .ref m6, .ref m7, .ref m8, .ref m9, .int mw, .int ml, .int mb, .ref m10, .int mz, .ref m11, .int op, .int bp, .int by0, .int dp, .int tk, .ref m12, .ref m13, .ref m14, .ref m15, .ref m16, .ref m17, .ref m18, .int ka, .int iw]))] [(0, .ref hy), (1, .int a), (2, .int b)] [.int r_26] 29 0 0
      refine x_if_ne C 35 dX10_set_29 (by decide) (fun c_29 => ?_) (fun c_29 => ?_)
      · skip
        have e_29 : ¬ ((r_26 : Int32).toInt = (0 : Int32).toInt) := fun h => c_29 (i_eq.mpr h)
        have : (0 : Int32).toInt = 0 := by decide
        refine x_iload_n C 1 dX10_set_35 rfl rfl ?_
        refine x_if_ne C 46 dX10_set_36 (by decide) (fun c_36 => ?_) (fun c_36 => ?_)
        · skip
          have e_36 : ¬ ((a : Int32).toInt = (0 : Int32).toInt) := fun h => c_36 (i_eq.mpr h)
          have : (0 : Int32).toInt = 0 := by decide
          refine x_aload_n C 0 dX10_set_46 rfl rfl ?_
          refine x_get C 0 12 dX10_set_47 inlX10 rfl (by decide) wd_348 rfl rfl rfl ?_
          refine x_istore_n C [(3, .int mb), (0, .ref hy), (1, .int a), (2, .int b)] dX10_set_50 rfl (by decide) rfl ?_
          refine x_aload_n C 1 dX10_set_51 rfl rfl ?_
          refine x_iload_n C 2 dX10_set_52 rfl rfl ?_
          refine x_if_ne C 60 dX10_set_53 (by decide) (fun c_53 => ?_) (fun c_53 => ?_)
          · skip
            have e_53 : ¬ ((a : Int32).toInt = (0 : Int32).toInt) := fun h => c_53 (i_eq.mpr h)
            have : (0 : Int32).toInt = 0 := by decide
            refine x_aload_n C 1 dX10_set_60 rfl rfl ?_
            refine x_get C 0 11 dX10_set_61 inlX10 rfl (by decide) wd_347 rfl rfl rfl ?_
            refine x_put C 0 11 (ty := .int) [(hy, .inr (10, [.ref m0, .ref m1, .ref m2, .ref m3, .ref m4, .ref m5, .ref m6, .ref m7, .ref m8, .ref m9, .int mw, .int ml, .int mb, .ref m10, .int mz, .ref m11, .int op, .int bp, .int by0, .int dp, .int tk, .ref m12, .ref m13, .ref m14, .ref m15, .ref m16, .ref m17, .ref m18, .int ka, .int iw]))] dX10_set_64 inlX10 tyX10 tyX10_ok nmX10 rfl (by decide) wd_347 rfl rfl rfl rfl rfl rfl (Nat.le_of_ble_eq_true rfl) rfl ?_
            refine x_aload_n C 1 dX10_set_67 rfl rfl ?_
            refine x_iload_n C 2 dX10_set_68 rfl rfl ?_
            refine x_iconst C 1 dX10_set_69 (by decide) ?_
            refine x_icmp_ne C 77 dX10_set_70 (by decide) (fun c_70 => ?_) (fun c_70 => ?_)
            · skip
              have e_70 : ¬ ((a : Int32).toInt = (1 : Int32).toInt) := fun h => c_70 (i_eq.mpr h)
              have : (1 : Int32).toInt = 1 := by decide
              refine x_aload_n C 1 dX10_set_77 rfl rfl ?_
              refine x_get C 0 12 dX10_set_78 inlX10 rfl (by decide) wd_348 rfl rfl rfl ?_
              refine x_put C 0 12 (ty := .int) [(hy, .inr (10, [.ref m0, .ref m1, .ref m2, .ref m3, .ref m4, .ref m5, .ref m6, .ref m7, .ref m8, .ref m9, .int mw, .int ml, .int mb, .ref m10, .int mz, .ref m11, .int op, .int bp, .int by0, .int dp, .int tk, .ref m12, .ref m13, .ref m14, .ref m15, .ref m16, .ref m17, .ref m18, .int ka, .int iw]))] dX10_set_81 inlX10 tyX10 tyX10_ok nmX10 rfl (by decide) wd_348 rfl rfl rfl rfl rfl rfl (Nat.le_of_ble_eq_true rfl) rfl ?_
              refine x_iload_n C 0 dX10_set_84 rfl rfl ?_
              exact x_iret C dX10_set_85 (Nat.zero_le _) (Nat.zero_le _) (by rw [eO]; exact ⟨mb, ml, mb, rfl, rfl, (by first | exact Or.inl ⟨by omega, rfl, rfl, rfl⟩ | exact Or.inr (Or.inl ⟨by omega, rfl, rfl, rfl⟩) | (exfalso; omega))⟩)
            · skip
              have e_70 : (a : Int32).toInt = (1 : Int32).toInt := i_eq.mp c_70
              have : (1 : Int32).toInt = 1 := by decide
              refine x_iload_n C 3 dX10_set_73 rfl rfl ?_
              refine x_goto C 81 dX10_set_74 (by decide) ?_
              refine x_put C 0 12 (ty := .int) [(hy, .inr (10, [.ref m0, .ref m1, .ref m2, .ref m3, .ref m4, .ref m5, .ref m6, .ref m7, .ref m8, .ref m9, .int mw, .int ml, .int b, .ref m10, .int mz, .ref m11, .int op, .int bp, .int by0, .int dp, .int tk, .ref m12, .ref m13, .ref m14, .ref m15, .ref m16, .ref m17, .ref m18, .int ka, .int iw]))] dX10_set_81 inlX10 tyX10 tyX10_ok nmX10 rfl (by decide) wd_348 rfl rfl rfl rfl rfl rfl (Nat.le_of_ble_eq_true rfl) rfl ?_
              refine x_iload_n C 0 dX10_set_84 rfl rfl ?_
              exact x_iret C dX10_set_85 (Nat.zero_le _) (Nat.zero_le _) (by rw [eO]; exact ⟨mb, ml, b, rfl, rfl, (by first | exact Or.inl ⟨by omega, rfl, rfl, rfl⟩ | exact Or.inr (Or.inl ⟨by omega, rfl, rfl, rfl⟩) | (exfalso; omega))⟩)
          · skip
            have e_53 : (a : Int32).toInt = (0 : Int32).toInt := i_eq.mp c_53
            have : (0 : Int32).toInt = 0 := by decide
            refine x_iload_n C 3 dX10_set_56 rfl rfl ?_
            refine x_goto C 64 dX10_set_57 (by decide) ?_
            refine x_put C 0 11 (ty := .int) [(hy, .inr (10, [.ref m0, .ref m1, .ref m2, .ref m3, .ref m4, .ref m5, .ref m6, .ref m7, .ref m8, .ref m9, .int mw, .int b, .int mb, .ref m10, .int mz, .ref m11, .int op, .int bp, .int by0, .int dp, .int tk, .ref m12, .ref m13, .ref m14, .ref m15, .ref m16, .ref m17, .ref m18, .int ka, .int iw]))] dX10_set_64 inlX10 tyX10 tyX10_ok nmX10 rfl (by decide) wd_347 rfl rfl rfl rfl rfl rfl (Nat.le_of_ble_eq_true rfl) rfl ?_
            refine x_aload_n C 1 dX10_set_67 rfl rfl ?_
            refine x_iload_n C 2 dX10_set_68 rfl rfl ?_
            refine x_iconst C 1 dX10_set_69 (by decide) ?_
            refine x_icmp_ne C 77 dX10_set_70 (by decide) (fun c_70 => ?_) (fun c_70 => ?_)
            · skip
              have e_70 : ¬ ((a : Int32).toInt = (1 : Int32).toInt) := fun h => c_70 (i_eq.mpr h)
              have : (1 : Int32).toInt = 1 := by decide
              refine x_aload_n C 1 dX10_set_77 rfl rfl ?_
              refine x_get C 0 12 dX10_set_78 inlX10 rfl (by decide) wd_348 rfl rfl rfl ?_
              refine x_put C 0 12 (ty := .int) [(hy, .inr (10, [.ref m0, .ref m1, .ref m2, .ref m3, .ref m4, .ref m5, .ref m6, .ref m7, .ref m8, .ref m9, .int mw, .int b, .int mb, .ref m10, .int mz, .ref m11, .int op, .int bp, .int by0, .int dp, .int tk, .ref m12, .ref m13, .ref m14, .ref m15, .ref m16, .ref m17, .ref m18, .int ka, .int iw]))] dX10_set_81 inlX10 tyX10 tyX10_ok nmX10 rfl (by decide) wd_348 rfl rfl rfl rfl rfl rfl (Nat.le_of_ble_eq_true rfl) rfl ?_
              refine x_iload_n C 0 dX10_set_84 rfl rfl ?_
              exact x_iret C dX10_set_85 (Nat.zero_le _) (Nat.zero_le _) (by rw [eO]; exact ⟨mb, b, mb, rfl, rfl, (by first | exact Or.inl ⟨by omega, rfl, rfl, rfl⟩ | exact Or.inr (Or.inl ⟨by omega, rfl, rfl, rfl⟩) | (exfalso; omega))⟩)
            · skip
              have e_70 : (a : Int32).toInt = (1 : Int32).toInt := i_eq.mp c_70
              have : (1 : Int32).toInt = 1 := by decide
              refine x_iload_n C 3 dX10_set_73 rfl rfl ?_
              refine x_goto C 81 dX10_set_74 (by decide) ?_
              refine x_put C 0 12 (ty := .int) [(hy, .inr (10, [.ref m0, .ref m1, .ref m2, .ref m3, .ref m4, .ref m5, .ref m6, .ref m7, .ref m8, .ref m9, .int mw, .int b, .int b, .ref m10, .int mz, .ref m11, .int op, .int bp, .int by0, .int dp, .int tk, .ref m12, .ref m13, .ref m14, .ref m15, .ref m16, .ref m17, .ref m18, .int ka, .int iw]))] dX10_set_81 inlX10 tyX10 tyX10_ok nmX10 rfl (by decide) wd_348 rfl rfl rfl rfl rfl rfl (Nat.le_of_ble_eq_true rfl) rfl ?_
              refine x_iload_n C 0 dX10_set_84 rfl rfl ?_
              exact x_iret C dX10_set_85 (Nat.zero_le _) (Nat.zero_le _) (by rw [eO]; exact ⟨mb, b, b, rfl, rfl, (by first | exact Or.inl ⟨by omega, rfl, rfl, rfl⟩ | exact Or.inr (Or.inl ⟨by omega, rfl, rfl, rfl⟩) | (exfalso; omega))⟩)
        · skip
          have e_36 : (a : Int32).toInt = (0 : Int32).toInt := i_eq.mp c_36
          have : (0 : Int32).toInt = 0 := by decide
          refine x_aload_n C 0 dX10_set_39 rfl rfl ?_
          refine x_get C 0 11 dX10_set_40 inlX10 rfl (by decide) wd_347 rfl rfl rfl ?_
          refine x_goto C 50 dX10_set_43 (by decide) ?_
          refine x_istore_n C [(3, .int ml), (0, .ref hy), (1, .int a), (2, .int b)] dX10_set_50 rfl (by decide) rfl ?_
          refine x_aload_n C 1 dX10_set_51 rfl rfl ?_
          refine x_iload_n C 2 dX10_set_52 rfl rfl ?_
          refine x_if_ne C 60 dX10_set_53 (by decide) (fun c_53 => ?_) (fun c_53 => ?_)
          · skip
            have e_53 : ¬ ((a : Int32).toInt = (0 : Int32).toInt) := fun h => c_53 (i_eq.mpr h)
            have : (0 : Int32).toInt = 0 := by decide
            refine x_aload_n C 1 dX10_set_60 rfl rfl ?_
            refine x_get C 0 11 dX10_set_61 inlX10 rfl (by decide) wd_347 rfl rfl rfl ?_
            refine x_put C 0 11 (ty := .int) [(hy, .inr (10, [.ref m0, .ref m1, .ref m2, .ref m3, .ref m4, .ref m5, .ref m6, .ref m7, .ref m8, .ref m9, .int mw, .int ml, .int mb, .ref m10, .int mz, .ref m11, .int op, .int bp, .int by0, .int dp, .int tk, .ref m12, .ref m13, .ref m14, .ref m15, .ref m16, .ref m17, .ref m18, .int ka, .int iw]))] dX10_set_64 inlX10 tyX10 tyX10_ok nmX10 rfl (by decide) wd_347 rfl rfl rfl rfl rfl rfl (Nat.le_of_ble_eq_true rfl) rfl ?_
            refine x_aload_n C 1 dX10_set_67 rfl rfl ?_
            refine x_iload_n C 2 dX10_set_68 rfl rfl ?_
            refine x_iconst C 1 dX10_set_69 (by decide) ?_
            refine x_icmp_ne C 77 dX10_set_70 (by decide) (fun c_70 => ?_) (fun c_70 => ?_)
            · skip
              have e_70 : ¬ ((a : Int32).toInt = (1 : Int32).toInt) := fun h => c_70 (i_eq.mpr h)
              have : (1 : Int32).toInt = 1 := by decide
              refine x_aload_n C 1 dX10_set_77 rfl rfl ?_
              refine x_get C 0 12 dX10_set_78 inlX10 rfl (by decide) wd_348 rfl rfl rfl ?_
              refine x_put C 0 12 (ty := .int) [(hy, .inr (10, [.ref m0, .ref m1, .ref m2, .ref m3, .ref m4, .ref m5, .ref m6, .ref m7, .ref m8, .ref m9, .int mw, .int ml, .int mb, .ref m10, .int mz, .ref m11, .int op, .int bp, .int by0, .int dp, .int tk, .ref m12, .ref m13, .ref m14, .ref m15, .ref m16, .ref m17, .ref m18, .int ka, .int iw]))] dX10_set_81 inlX10 tyX10 tyX10_ok nmX10 rfl (by decide) wd_348 rfl rfl rfl rfl rfl rfl (Nat.le_of_ble_eq_true rfl) rfl ?_
              refine x_iload_n C 0 dX10_set_84 rfl rfl ?_
              exact x_iret C dX10_set_85 (Nat.zero_le _) (Nat.zero_le _) (by rw [eO]; exact ⟨ml, ml, mb, rfl, rfl, (by first | exact Or.inl ⟨by omega, rfl, rfl, rfl⟩ | exact Or.inr (Or.inl ⟨by omega, rfl, rfl, rfl⟩) | (exfalso; omega))⟩)
            · skip
              have e_70 : (a : Int32).toInt = (1 : Int32).toInt := i_eq.mp c_70
              have : (1 : Int32).toInt = 1 := by decide
              refine x_iload_n C 3 dX10_set_73 rfl rfl ?_
              refine x_goto C 81 dX10_set_74 (by decide) ?_
              refine x_put C 0 12 (ty := .int) [(hy, .inr (10, [.ref m0, .ref m1, .ref m2, .ref m3, .ref m4, .ref m5, .ref m6, .ref m7, .ref m8, .ref m9, .int mw, .int ml, .int b, .ref m10, .int mz, .ref m11, .int op, .int bp, .int by0, .int dp, .int tk, .ref m12, .ref m13, .ref m14, .ref m15, .ref m16, .ref m17, .ref m18, .int ka, .int iw]))] dX10_set_81 inlX10 tyX10 tyX10_ok nmX10 rfl (by decide) wd_348 rfl rfl rfl rfl rfl rfl (Nat.le_of_ble_eq_true rfl) rfl ?_
              refine x_iload_n C 0 dX10_set_84 rfl rfl ?_
              exact x_iret C dX10_set_85 (Nat.zero_le _) (Nat.zero_le _) (by rw [eO]; exact ⟨ml, ml, b, rfl, rfl, (by first | exact Or.inl ⟨by omega, rfl, rfl, rfl⟩ | exact Or.inr (Or.inl ⟨by omega, rfl, rfl, rfl⟩) | (exfalso; omega))⟩)
          · skip
            have e_53 : (a : Int32).toInt = (0 : Int32).toInt := i_eq.mp c_53
            have : (0 : Int32).toInt = 0 := by decide
            refine x_iload_n C 3 dX10_set_56 rfl rfl ?_
            refine x_goto C 64 dX10_set_57 (by decide) ?_
            refine x_put C 0 11 (ty := .int) [(hy, .inr (10, [.ref m0, .ref m1, .ref m2, .ref m3, .ref m4, .ref m5, .ref m6, .ref m7, .ref m8, .ref m9, .int mw, .int b, .int mb, .ref m10, .int mz, .ref m11, .int op, .int bp, .int by0, .int dp, .int tk, .ref m12, .ref m13, .ref m14, .ref m15, .ref m16, .ref m17, .ref m18, .int ka, .int iw]))] dX10_set_64 inlX10 tyX10 tyX10_ok nmX10 rfl (by decide) wd_347 rfl rfl rfl rfl rfl rfl (Nat.le_of_ble_eq_true rfl) rfl ?_
            refine x_aload_n C 1 dX10_set_67 rfl rfl ?_
            refine x_iload_n C 2 dX10_set_68 rfl rfl ?_
            refine x_iconst C 1 dX10_set_69 (by decide) ?_
            refine x_icmp_ne C 77 dX10_set_70 (by decide) (fun c_70 => ?_) (fun c_70 => ?_)
            · skip
              have e_70 : ¬ ((a : Int32).toInt = (1 : Int32).toInt) := fun h => c_70 (i_eq.mpr h)
              have : (1 : Int32).toInt = 1 := by decide
              refine x_aload_n C 1 dX10_set_77 rfl rfl ?_
              refine x_get C 0 12 dX10_set_78 inlX10 rfl (by decide) wd_348 rfl rfl rfl ?_
              refine x_put C 0 12 (ty := .int) [(hy, .inr (10, [.ref m0, .ref m1, .ref m2, .ref m3, .ref m4, .ref m5, .ref m6, .ref m7, .ref m8, .ref m9, .int mw, .int b, .int mb, .ref m10, .int mz, .ref m11, .int op, .int bp, .int by0, .int dp, .int tk, .ref m12, .ref m13, .ref m14, .ref m15, .ref m16, .ref m17, .ref m18, .int ka, .int iw]))] dX10_set_81 inlX10 tyX10 tyX10_ok nmX10 rfl (by decide) wd_348 rfl rfl rfl rfl rfl rfl (Nat.le_of_ble_eq_true rfl) rfl ?_
              refine x_iload_n C 0 dX10_set_84 rfl rfl ?_
              exact x_iret C dX10_set_85 (Nat.zero_le _) (Nat.zero_le _) (by rw [eO]; exact ⟨ml, b, mb, rfl, rfl, (by first | exact Or.inl ⟨by omega, rfl, rfl, rfl⟩ | exact Or.inr (Or.inl ⟨by omega, rfl, rfl, rfl⟩) | (exfalso; omega))⟩)
            · skip
              have e_70 : (a : Int32).toInt = (1 : Int32).toInt := i_eq.mp c_70
              have : (1 : Int32).toInt = 1 := by decide
              refine x_iload_n C 3 dX10_set_73 rfl rfl ?_
              refine x_goto C 81 dX10_set_74 (by decide) ?_
              refine x_put C 0 12 (ty := .int) [(hy, .inr (10, [.ref m0, .ref m1, .ref m2, .ref m3, .ref m4, .ref m5, .ref m6, .ref m7, .ref m8, .ref m9, .int mw, .int b, .int b, .ref m10, .int mz, .ref m11, .int op, .int bp, .int by0, .int dp, .int tk, .ref m12, .ref m13, .ref m14, .ref m15, .ref m16, .ref m17, .ref m18, .int ka, .int iw]))] dX10_set_81 inlX10 tyX10 tyX10_ok nmX10 rfl (by decide) wd_348 rfl rfl rfl rfl rfl rfl (Nat.le_of_ble_eq_true rfl) rfl ?_
              refine x_iload_n C 0 dX10_set_84 rfl rfl ?_
              exact x_iret C dX10_set_85 (Nat.zero_le _) (Nat.zero_le _) (by rw [eO]; exact ⟨ml, b, b, rfl, rfl, (by first | exact Or.inl ⟨by omega, rfl, rfl, rfl⟩ | exact Or.inr (Or.inl ⟨by omega, rfl, rfl, rfl⟩) | (exfalso; omega))⟩)
      · skip
        have e_29 : (r_26 : Int32).toInt = (0 : Int32).toInt := i_eq.mp c_29
        have : (0 : Int32).toInt = 0 := by decide
        refine x_bipush C (-2) dX10_set_32 (by decide) ?_
        have : ((-2) : Int32).toInt = -2 := by decide
        exact x_iret C dX10_set_34 (Nat.zero_le _) (Nat.zero_le _) (by rw [eO]; exact ⟨((-2)), ml, mb, rfl, rfl, (Or.inr (Or.inr ⟨⟨by omega, by omega⟩, rfl, rfl, rfl⟩))⟩)
    · skip
      have e_14 : (a : Int32).toInt = (0 : Int32).toInt := i_eq.mp c_14
      have : (0 : Int32).toInt = 0 := by decide
      refine x_ldc2 C dX10_set_17 wd_345 ?_
      refine x_goto C 26 dX10_set_20 (by decide) ?_
      refine x_callS C [.long (Int32.toInt64 b), .long 0, .long 2] [(hy, .inr (10, [.ref m0, .ref m1, .ref m2, .ref m3, .ref m4, .ref m5, .ref m6, .ref m7, .ref m8, .ref m9, .int mw, .int ml, .int mb, .ref m10, .int mz, .ref m11, .int op, .int bp, .int by0, .int dp, .int tk, .ref m12, .ref m13, .ref m14, .ref m15, .ref m16, .ref m17, .ref m18, .int ka, .int iw]))] [] [0] (c_X10_in (xl X) (xD X) (xt X) hT (Int32.toInt64 b) 0 2 ) dX10_set_26 wd_167 wd_168 wd_5 wd_169 (np := 3) ⟨by decide, by decide, by decide +kernel⟩ rfl rfl (Nat.le_of_ble_eq_true rfl) (by decide) rfl (by decide) rfl (by decide) (by decide) (fun v W1 h => ?_)
      obtain ⟨r_26, rfl, rfl, h_26⟩ := h
      have : (Int32.toInt64 b : Int64).toInt = (b : Int32).toInt := Int32.toInt_toInt64 _
      have : (0 : Int64).toInt = 0 := by decide
      have : (2 : Int64).toInt = 2 := by decide
      show V X 4 [(hy, .inr (10, [.ref m0, .ref m1, .ref m2, .ref m3, .ref m4, .ref m5, .ref m6, .ref m7, .ref m8, .ref m9, .int mw, .int ml, .int mb, .ref m10, .int mz, .ref m11, .int op, .int bp, .int by0, .int dp, .int tk, .ref m12, .ref m13, .ref m14, .ref m15, .ref m16, .ref m17, .ref m18, .int ka, .int iw]))] [(0, .ref hy), (1, .int a), (2, .int b)] [.int r_26] 29 0 0
      refine x_if_ne C 35 dX10_set_29 (by decide) (fun c_29 => ?_) (fun c_29 => ?_)
      · skip
        have e_29 : ¬ ((r_26 : Int32).toInt = (0 : Int32).toInt) := fun h => c_29 (i_eq.mpr h)
        have : (0 : Int32).toInt = 0 := by decide
        refine x_iload_n C 1 dX10_set_35 rfl rfl ?_
        refine x_if_ne C 46 dX10_set_36 (by decide) (fun c_36 => ?_) (fun c_36 => ?_)
        · skip
          have e_36 : ¬ ((a : Int32).toInt = (0 : Int32).toInt) := fun h => c_36 (i_eq.mpr h)
          have : (0 : Int32).toInt = 0 := by decide
          refine x_aload_n C 0 dX10_set_46 rfl rfl ?_
          refine x_get C 0 12 dX10_set_47 inlX10 rfl (by decide) wd_348 rfl rfl rfl ?_
          refine x_istore_n C [(3, .int mb), (0, .ref hy), (1, .int a), (2, .int b)] dX10_set_50 rfl (by decide) rfl ?_
          refine x_aload_n C 1 dX10_set_51 rfl rfl ?_
          refine x_iload_n C 2 dX10_set_52 rfl rfl ?_
          refine x_if_ne C 60 dX10_set_53 (by decide) (fun c_53 => ?_) (fun c_53 => ?_)
          · skip
            have e_53 : ¬ ((a : Int32).toInt = (0 : Int32).toInt) := fun h => c_53 (i_eq.mpr h)
            have : (0 : Int32).toInt = 0 := by decide
            refine x_aload_n C 1 dX10_set_60 rfl rfl ?_
            refine x_get C 0 11 dX10_set_61 inlX10 rfl (by decide) wd_347 rfl rfl rfl ?_
            refine x_put C 0 11 (ty := .int) [(hy, .inr (10, [.ref m0, .ref m1, .ref m2, .ref m3, .ref m4, .ref m5, .ref m6, .ref m7, .ref m8, .ref m9, .int mw, .int ml, .int mb, .ref m10, .int mz, .ref m11, .int op, .int bp, .int by0, .int dp, .int tk, .ref m12, .ref m13, .ref m14, .ref m15, .ref m16, .ref m17, .ref m18, .int ka, .int iw]))] dX10_set_64 inlX10 tyX10 tyX10_ok nmX10 rfl (by decide) wd_347 rfl rfl rfl rfl rfl rfl (Nat.le_of_ble_eq_true rfl) rfl ?_
            refine x_aload_n C 1 dX10_set_67 rfl rfl ?_
            refine x_iload_n C 2 dX10_set_68 rfl rfl ?_
            refine x_iconst C 1 dX10_set_69 (by decide) ?_
            refine x_icmp_ne C 77 dX10_set_70 (by decide) (fun c_70 => ?_) (fun c_70 => ?_)
            · skip
              have e_70 : ¬ ((a : Int32).toInt = (1 : Int32).toInt) := fun h => c_70 (i_eq.mpr h)
              have : (1 : Int32).toInt = 1 := by decide
              refine x_aload_n C 1 dX10_set_77 rfl rfl ?_
              refine x_get C 0 12 dX10_set_78 inlX10 rfl (by decide) wd_348 rfl rfl rfl ?_
              refine x_put C 0 12 (ty := .int) [(hy, .inr (10, [.ref m0, .ref m1, .ref m2, .ref m3, .ref m4, .ref m5, .ref m6, .ref m7, .ref m8, .ref m9, .int mw, .int ml, .int mb, .ref m10, .int mz, .ref m11, .int op, .int bp, .int by0, .int dp, .int tk, .ref m12, .ref m13, .ref m14, .ref m15, .ref m16, .ref m17, .ref m18, .int ka, .int iw]))] dX10_set_81 inlX10 tyX10 tyX10_ok nmX10 rfl (by decide) wd_348 rfl rfl rfl rfl rfl rfl (Nat.le_of_ble_eq_true rfl) rfl ?_
              refine x_iload_n C 0 dX10_set_84 rfl rfl ?_
              exact x_iret C dX10_set_85 (Nat.zero_le _) (Nat.zero_le _) (by rw [eO]; exact ⟨mb, ml, mb, rfl, rfl, (by first | exact Or.inl ⟨by omega, rfl, rfl, rfl⟩ | exact Or.inr (Or.inl ⟨by omega, rfl, rfl, rfl⟩) | (exfalso; omega))⟩)
            · skip
              have e_70 : (a : Int32).toInt = (1 : Int32).toInt := i_eq.mp c_70
              have : (1 : Int32).toInt = 1 := by decide
              refine x_iload_n C 3 dX10_set_73 rfl rfl ?_
              refine x_goto C 81 dX10_set_74 (by decide) ?_
              refine x_put C 0 12 (ty := .int) [(hy, .inr (10, [.ref m0, .ref m1, .ref m2, .ref m3, .ref m4, .ref m5, .ref m6, .ref m7, .ref m8, .ref m9, .int mw, .int ml, .int b, .ref m10, .int mz, .ref m11, .int op, .int bp, .int by0, .int dp, .int tk, .ref m12, .ref m13, .ref m14, .ref m15, .ref m16, .ref m17, .ref m18, .int ka, .int iw]))] dX10_set_81 inlX10 tyX10 tyX10_ok nmX10 rfl (by decide) wd_348 rfl rfl rfl rfl rfl rfl (Nat.le_of_ble_eq_true rfl) rfl ?_
              refine x_iload_n C 0 dX10_set_84 rfl rfl ?_
              exact x_iret C dX10_set_85 (Nat.zero_le _) (Nat.zero_le _) (by rw [eO]; exact ⟨mb, ml, b, rfl, rfl, (by first | exact Or.inl ⟨by omega, rfl, rfl, rfl⟩ | exact Or.inr (Or.inl ⟨by omega, rfl, rfl, rfl⟩) | (exfalso; omega))⟩)
          · skip
            have e_53 : (a : Int32).toInt = (0 : Int32).toInt := i_eq.mp c_53
            have : (0 : Int32).toInt = 0 := by decide
            refine x_iload_n C 3 dX10_set_56 rfl rfl ?_
            refine x_goto C 64 dX10_set_57 (by decide) ?_
            refine x_put C 0 11 (ty := .int) [(hy, .inr (10, [.ref m0, .ref m1, .ref m2, .ref m3, .ref m4, .ref m5, .ref m6, .ref m7, .ref m8, .ref m9, .int mw, .int b, .int mb, .ref m10, .int mz, .ref m11, .int op, .int bp, .int by0, .int dp, .int tk, .ref m12, .ref m13, .ref m14, .ref m15, .ref m16, .ref m17, .ref m18, .int ka, .int iw]))] dX10_set_64 inlX10 tyX10 tyX10_ok nmX10 rfl (by decide) wd_347 rfl rfl rfl rfl rfl rfl (Nat.le_of_ble_eq_true rfl) rfl ?_
            refine x_aload_n C 1 dX10_set_67 rfl rfl ?_
            refine x_iload_n C 2 dX10_set_68 rfl rfl ?_
            refine x_iconst C 1 dX10_set_69 (by decide) ?_
            refine x_icmp_ne C 77 dX10_set_70 (by decide) (fun c_70 => ?_) (fun c_70 => ?_)
            · skip
              have e_70 : ¬ ((a : Int32).toInt = (1 : Int32).toInt) := fun h => c_70 (i_eq.mpr h)
              have : (1 : Int32).toInt = 1 := by decide
              refine x_aload_n C 1 dX10_set_77 rfl rfl ?_
              refine x_get C 0 12 dX10_set_78 inlX10 rfl (by decide) wd_348 rfl rfl rfl ?_
              refine x_put C 0 12 (ty := .int) [(hy, .inr (10, [.ref m0, .ref m1, .ref m2, .ref m3, .ref m4, .ref m5, .ref m6, .ref m7, .ref m8, .ref m9, .int mw, .int b, .int mb, .ref m10, .int mz, .ref m11, .int op, .int bp, .int by0, .int dp, .int tk, .ref m12, .ref m13, .ref m14, .ref m15, .ref m16, .ref m17, .ref m18, .int ka, .int iw]))] dX10_set_81 inlX10 tyX10 tyX10_ok nmX10 rfl (by decide) wd_348 rfl rfl rfl rfl rfl rfl (Nat.le_of_ble_eq_true rfl) rfl ?_
              refine x_iload_n C 0 dX10_set_84 rfl rfl ?_
              exact x_iret C dX10_set_85 (Nat.zero_le _) (Nat.zero_le _) (by rw [eO]; exact ⟨mb, b, mb, rfl, rfl, (by first | exact Or.inl ⟨by omega, rfl, rfl, rfl⟩ | exact Or.inr (Or.inl ⟨by omega, rfl, rfl, rfl⟩) | (exfalso; omega))⟩)
            · skip
              have e_70 : (a : Int32).toInt = (1 : Int32).toInt := i_eq.mp c_70
              have : (1 : Int32).toInt = 1 := by decide
              refine x_iload_n C 3 dX10_set_73 rfl rfl ?_
              refine x_goto C 81 dX10_set_74 (by decide) ?_
              refine x_put C 0 12 (ty := .int) [(hy, .inr (10, [.ref m0, .ref m1, .ref m2, .ref m3, .ref m4, .ref m5, .ref m6, .ref m7, .ref m8, .ref m9, .int mw, .int b, .int b, .ref m10, .int mz, .ref m11, .int op, .int bp, .int by0, .int dp, .int tk, .ref m12, .ref m13, .ref m14, .ref m15, .ref m16, .ref m17, .ref m18, .int ka, .int iw]))] dX10_set_81 inlX10 tyX10 tyX10_ok nmX10 rfl (by decide) wd_348 rfl rfl rfl rfl rfl rfl (Nat.le_of_ble_eq_true rfl) rfl ?_
              refine x_iload_n C 0 dX10_set_84 rfl rfl ?_
              exact x_iret C dX10_set_85 (Nat.zero_le _) (Nat.zero_le _) (by rw [eO]; exact ⟨mb, b, b, rfl, rfl, (by first | exact Or.inl ⟨by omega, rfl, rfl, rfl⟩ | exact Or.inr (Or.inl ⟨by omega, rfl, rfl, rfl⟩) | (exfalso; omega))⟩)
        · skip
          have e_36 : (a : Int32).toInt = (0 : Int32).toInt := i_eq.mp c_36
          have : (0 : Int32).toInt = 0 := by decide
          refine x_aload_n C 0 dX10_set_39 rfl rfl ?_
          refine x_get C 0 11 dX10_set_40 inlX10 rfl (by decide) wd_347 rfl rfl rfl ?_
          refine x_goto C 50 dX10_set_43 (by decide) ?_
          refine x_istore_n C [(3, .int ml), (0, .ref hy), (1, .int a), (2, .int b)] dX10_set_50 rfl (by decide) rfl ?_
          refine x_aload_n C 1 dX10_set_51 rfl rfl ?_
          refine x_iload_n C 2 dX10_set_52 rfl rfl ?_
          refine x_if_ne C 60 dX10_set_53 (by decide) (fun c_53 => ?_) (fun c_53 => ?_)
          · skip
            have e_53 : ¬ ((a : Int32).toInt = (0 : Int32).toInt) := fun h => c_53 (i_eq.mpr h)
            have : (0 : Int32).toInt = 0 := by decide
            refine x_aload_n C 1 dX10_set_60 rfl rfl ?_
            refine x_get C 0 11 dX10_set_61 inlX10 rfl (by decide) wd_347 rfl rfl rfl ?_
            refine x_put C 0 11 (ty := .int) [(hy, .inr (10, [.ref m0, .ref m1, .ref m2, .ref m3, .ref m4, .ref m5, .ref m6, .ref m7, .ref m8, .ref m9, .int mw, .int ml, .int mb, .ref m10, .int mz, .ref m11, .int op, .int bp, .int by0, .int dp, .int tk, .ref m12, .ref m13, .ref m14, .ref m15, .ref m16, .ref m17, .ref m18, .int ka, .int iw]))] dX10_set_64 inlX10 tyX10 tyX10_ok nmX10 rfl (by decide) wd_347 rfl rfl rfl rfl rfl rfl (Nat.le_of_ble_eq_true rfl) rfl ?_
            refine x_aload_n C 1 dX10_set_67 rfl rfl ?_
            refine x_iload_n C 2 dX10_set_68 rfl rfl ?_
            refine x_iconst C 1 dX10_set_69 (by decide) ?_
            refine x_icmp_ne C 77 dX10_set_70 (by decide) (fun c_70 => ?_) (fun c_70 => ?_)
            · skip
              have e_70 : ¬ ((a : Int32).toInt = (1 : Int32).toInt) := fun h => c_70 (i_eq.mpr h)
              have : (1 : Int32).toInt = 1 := by decide
              refine x_aload_n C 1 dX10_set_77 rfl rfl ?_
              refine x_get C 0 12 dX10_set_78 inlX10 rfl (by decide) wd_348 rfl rfl rfl ?_
              refine x_put C 0 12 (ty := .int) [(hy, .inr (10, [.ref m0, .ref m1, .ref m2, .ref m3, .ref m4, .ref m5, .ref m6, .ref m7, .ref m8, .ref m9, .int mw, .int ml, .int mb, .ref m10, .int mz, .ref m11, .int op, .int bp, .int by0, .int dp, .int tk, .ref m12, .ref m13, .ref m14, .ref m15, .ref m16, .ref m17, .ref m18, .int ka, .int iw]))] dX10_set_81 inlX10 tyX10 tyX10_ok nmX10 rfl (by decide) wd_348 rfl rfl rfl rfl rfl rfl (Nat.le_of_ble_eq_true rfl) rfl ?_
              refine x_iload_n C 0 dX10_set_84 rfl rfl ?_
              exact x_iret C dX10_set_85 (Nat.zero_le _) (Nat.zero_le _) (by rw [eO]; exact ⟨ml, ml, mb, rfl, rfl, (by first | exact Or.inl ⟨by omega, rfl, rfl, rfl⟩ | exact Or.inr (Or.inl ⟨by omega, rfl, rfl, rfl⟩) | (exfalso; omega))⟩)
            · skip
              have e_70 : (a : Int32).toInt = (1 : Int32).toInt := i_eq.mp c_70
              have : (1 : Int32).toInt = 1 := by decide
              refine x_iload_n C 3 dX10_set_73 rfl rfl ?_
              refine x_goto C 81 dX10_set_74 (by decide) ?_
              refine x_put C 0 12 (ty := .int) [(hy, .inr (10, [.ref m0, .ref m1, .ref m2, .ref m3, .ref m4, .ref m5, .ref m6, .ref m7, .ref m8, .ref m9, .int mw, .int ml, .int b, .ref m10, .int mz, .ref m11, .int op, .int bp, .int by0, .int dp, .int tk, .ref m12, .ref m13, .ref m14, .ref m15, .ref m16, .ref m17, .ref m18, .int ka, .int iw]))] dX10_set_81 inlX10 tyX10 tyX10_ok nmX10 rfl (by decide) wd_348 rfl rfl rfl rfl rfl rfl (Nat.le_of_ble_eq_true rfl) rfl ?_
              refine x_iload_n C 0 dX10_set_84 rfl rfl ?_
              exact x_iret C dX10_set_85 (Nat.zero_le _) (Nat.zero_le _) (by rw [eO]; exact ⟨ml, ml, b, rfl, rfl, (by first | exact Or.inl ⟨by omega, rfl, rfl, rfl⟩ | exact Or.inr (Or.inl ⟨by omega, rfl, rfl, rfl⟩) | (exfalso; omega))⟩)
          · skip
            have e_53 : (a : Int32).toInt = (0 : Int32).toInt := i_eq.mp c_53
            have : (0 : Int32).toInt = 0 := by decide
            refine x_iload_n C 3 dX10_set_56 rfl rfl ?_
            refine x_goto C 64 dX10_set_57 (by decide) ?_
            refine x_put C 0 11 (ty := .int) [(hy, .inr (10, [.ref m0, .ref m1, .ref m2, .ref m3, .ref m4, .ref m5, .ref m6, .ref m7, .ref m8, .ref m9, .int mw, .int b, .int mb, .ref m10, .int mz, .ref m11, .int op, .int bp, .int by0, .int dp, .int tk, .ref m12, .ref m13, .ref m14, .ref m15, .ref m16, .ref m17, .ref m18, .int ka, .int iw]))] dX10_set_64 inlX10 tyX10 tyX10_ok nmX10 rfl (by decide) wd_347 rfl rfl rfl rfl rfl rfl (Nat.le_of_ble_eq_true rfl) rfl ?_
            refine x_aload_n C 1 dX10_set_67 rfl rfl ?_
            refine x_iload_n C 2 dX10_set_68 rfl rfl ?_
            refine x_iconst C 1 dX10_set_69 (by decide) ?_
            refine x_icmp_ne C 77 dX10_set_70 (by decide) (fun c_70 => ?_) (fun c_70 => ?_)
            · skip
              have e_70 : ¬ ((a : Int32).toInt = (1 : Int32).toInt) := fun h => c_70 (i_eq.mpr h)
              have : (1 : Int32).toInt = 1 := by decide
              refine x_aload_n C 1 dX10_set_77 rfl rfl ?_
              refine x_get C 0 12 dX10_set_78 inlX10 rfl (by decide) wd_348 rfl rfl rfl ?_
              refine x_put C 0 12 (ty := .int) [(hy, .inr (10, [.ref m0, .ref m1, .ref m2, .ref m3, .ref m4, .ref m5, .ref m6, .ref m7, .ref m8, .ref m9, .int mw, .int b, .int mb, .ref m10, .int mz, .ref m11, .int op, .int bp, .int by0, .int dp, .int tk, .ref m12, .ref m13, .ref m14, .ref m15, .ref m16, .ref m17, .ref m18, .int ka, .int iw]))] dX10_set_81 inlX10 tyX10 tyX10_ok nmX10 rfl (by decide) wd_348 rfl rfl rfl rfl rfl rfl (Nat.le_of_ble_eq_true rfl) rfl ?_
              refine x_iload_n C 0 dX10_set_84 rfl rfl ?_
              exact x_iret C dX10_set_85 (Nat.zero_le _) (Nat.zero_le _) (by rw [eO]; exact ⟨ml, b, mb, rfl, rfl, (by first | exact Or.inl ⟨by omega, rfl, rfl, rfl⟩ | exact Or.inr (Or.inl ⟨by omega, rfl, rfl, rfl⟩) | (exfalso; omega))⟩)
            · skip
              have e_70 : (a : Int32).toInt = (1 : Int32).toInt := i_eq.mp c_70
              have : (1 : Int32).toInt = 1 := by decide
              refine x_iload_n C 3 dX10_set_73 rfl rfl ?_
              refine x_goto C 81 dX10_set_74 (by decide) ?_
              refine x_put C 0 12 (ty := .int) [(hy, .inr (10, [.ref m0, .ref m1, .ref m2, .ref m3, .ref m4, .ref m5, .ref m6, .ref m7, .ref m8, .ref m9, .int mw, .int b, .int b, .ref m10, .int mz, .ref m11, .int op, .int bp, .int by0, .int dp, .int tk, .ref m12, .ref m13, .ref m14, .ref m15, .ref m16, .ref m17, .ref m18, .int ka, .int iw]))] dX10_set_81 inlX10 tyX10 tyX10_ok nmX10 rfl (by decide) wd_348 rfl rfl rfl rfl rfl rfl (Nat.le_of_ble_eq_true rfl) rfl ?_
              refine x_iload_n C 0 dX10_set_84 rfl rfl ?_
              exact x_iret C dX10_set_85 (Nat.zero_le _) (Nat.zero_le _) (by rw [eO]; exact ⟨ml, b, b, rfl, rfl, (by first | exact Or.inl ⟨by omega, rfl, rfl, rfl⟩ | exact Or.inr (Or.inl ⟨by omega, rfl, rfl, rfl⟩) | (exfalso; omega))⟩)
      · skip
        have e_29 : (r_26 : Int32).toInt = (0 : Int32).toInt := i_eq.mp c_29
        have : (0 : Int32).toInt = 0 := by decide
        refine x_bipush C (-2) dX10_set_32 (by decide) ?_
        have : ((-2) : Int32).toInt = -2 := by decide
        exact x_iret C dX10_set_34 (Nat.zero_le _) (Nat.zero_le _) (by rw [eO]; exact ⟨((-2)), ml, mb, rfl, rfl, (Or.inr (Or.inr ⟨⟨by omega, by omega⟩, rfl, rfl, rfl⟩))⟩)
abbrev rm_X10_told : Room := { frames := 1, cells := 0, slots := 0, locals := 25 }
set_option maxHeartbeats 4000000 in
set_option maxRecDepth 100000 in
theorem c_X10_told (l : Launch) (D : va_G) (tys : List (ClassId × FieldType)) {cI cJ cZ cB : ClassId} (hT : Ty tys cI cJ cZ cB) (hy m0 m1 m2 m3 m4 m5 m6 m7 m8 m9 m10 m11 m12 m13 m14 m15 m16 m17 m18 : Nat) (mt mk wf wp wt : Nat → Int32) (mw ml mb mz op bp by0 dp tk ka iw : Int32) (x : Int32) (hmw : 0 ≤ mw.toInt ∧ mw.toInt ≤ 6) : Cn l D tys yX10_told cX10_told 3 (some .int) rm_X10_told [(hy, .inr (10, [.ref m0, .ref m1, .ref m2, .ref m3, .ref m4, .ref m5, .ref m6, .ref m7, .ref m8, .ref m9, .int mw, .int ml, .int mb, .ref m10, .int mz, .ref m11, .int op, .int bp, .int by0, .int dp, .int tk, .ref m12, .ref m13, .ref m14, .ref m15, .ref m16, .ref m17, .ref m18, .int ka, .int iw])), (m5, .inl (cI, 4, .inl mt)), (m6, .inl (cI, 4, .inl mk)), (m7, .inl (cI, 6, .inl wf)), (m8, .inl (cI, 6, .inl wp)), (m9, .inl (cI, 6, .inl wt))] [.ref hy, .int x] (fun v W1 => ∃ (r : Int32), v = some (.int r) ∧ W1 = [(hy, .inr (10, [.ref m0, .ref m1, .ref m2, .ref m3, .ref m4, .ref m5, .ref m6, .ref m7, .ref m8, .ref m9, .int mw, .int ml, .int mb, .ref m10, .int mz, .ref m11, .int op, .int bp, .int by0, .int dp, .int tk, .ref m12, .ref m13, .ref m14, .ref m15, .ref m16, .ref m17, .ref m18, .int ka, .int iw])), (m5, .inl (cI, 4, .inl mt)), (m6, .inl (cI, 4, .inl mk)), (m7, .inl (cI, 6, .inl wf)), (m8, .inl (cI, 6, .inl wp)), (m9, .inl (cI, 6, .inl wt))] ∧ ((((10 ≤ x.toInt ∧ x.toInt ≤ 13) ∧ r = mt (x.toInt - 10).toNat) ∨ ((20 ≤ x.toInt ∧ x.toInt ≤ 23) ∧ r = mk (x.toInt - 20).toNat) ∨ ((30 ≤ x.toInt ∧ x.toInt ≤ 35) ∧ x.toInt - 30 < mw.toInt ∧ r = 100 * wf (x.toInt - 30).toNat + 10 * wp (x.toInt - 30).toNat + wt (x.toInt - 30).toNat) ∨ ((30 ≤ x.toInt ∧ x.toInt ≤ 35) ∧ ¬ x.toInt - 30 < mw.toInt ∧ r = -6) ∨ (x.toInt = 0 ∧ r = mz) ∨ (x.toInt = 1 ∧ r = mw) ∨ (x.toInt = 2 ∧ r = ml) ∨ (x.toInt = 3 ∧ r = mb) ∨ (¬ ((0 ≤ x.toInt ∧ x.toInt ≤ 3) ∨ (10 ≤ x.toInt ∧ x.toInt ≤ 13) ∨ (20 ≤ x.toInt ∧ x.toInt ≤ 23) ∨ (30 ≤ x.toInt ∧ x.toInt ≤ 35)) ∧ r = -2)))) := by
  refine Cn.of (by decide) (Nat.le_of_ble_eq_true rfl) ?_ ?_ (fun X eL eD eT eO eK eN eM C => ?_)
  · intro h; cases h
  · intro v ws h; obtain ⟨_, rfl, rfl, _⟩ := h; exact Or.inl rfl
  subst eL eD eT
  show V X 3 [(hy, .inr (10, [.ref m0, .ref m1, .ref m2, .ref m3, .ref m4, .ref m5, .ref m6, .ref m7, .ref m8, .ref m9, .int mw, .int ml, .int mb, .ref m10, .int mz, .ref m11, .int op, .int bp, .int by0, .int dp, .int tk, .ref m12, .ref m13, .ref m14, .ref m15, .ref m16, .ref m17, .ref m18, .int ka, .int iw])), (m5, .inl (cI, 4, .inl mt)), (m6, .inl (cI, 4, .inl mk)), (m7, .inl (cI, 6, .inl wf)), (m8, .inl (cI, 6, .inl wp)), (m9, .inl (cI, 6, .inl wt))] [(0, .ref hy), (1, .int x)] [] 0 0 0
  refine x_iload_n C 1 dX10_told_0 rfl rfl ?_
  refine x_i2l C dX10_told_1 ?_
  refine x_ldc2 C dX10_told_2 wd_286 ?_
  refine x_ldc2 C dX10_told_5 wd_287 ?_
  refine x_callS C [.long (Int32.toInt64 x), .long 10, .long 13] [(hy, .inr (10, [.ref m0, .ref m1, .ref m2, .ref m3, .ref m4, .ref m5, .ref m6, .ref m7, .ref m8, .ref m9, .int mw, .int ml, .int mb, .ref m10, .int mz, .ref m11, .int op, .int bp, .int by0, .int dp, .int tk, .ref m12, .ref m13, .ref m14, .ref m15, .ref m16, .ref m17, .ref m18, .int ka, .int iw])), (m5, .inl (cI, 4, .inl mt)), (m6, .inl (cI, 4, .inl mk)), (m7, .inl (cI, 6, .inl wf)), (m8, .inl (cI, 6, .inl wp)), (m9, .inl (cI, 6, .inl wt))] [] [0, 1, 2, 3, 4, 5] (c_X10_in (xl X) (xD X) (xt X) hT (Int32.toInt64 x) 10 13 ) dX10_told_8 wd_167 wd_168 wd_5 wd_169 (np := 3) ⟨by decide, by decide, by decide +kernel⟩ rfl rfl (Nat.le_of_ble_eq_true rfl) (by decide) rfl (by decide) rfl (by decide) (by decide) (fun v W1 h => ?_)
  obtain ⟨r_8, rfl, rfl, h_8⟩ := h
  have : (Int32.toInt64 x : Int64).toInt = (x : Int32).toInt := Int32.toInt_toInt64 _
  have : (10 : Int64).toInt = 10 := by decide
  have : (13 : Int64).toInt = 13 := by decide
  show V X 3 [(hy, .inr (10, [.ref m0, .ref m1, .ref m2, .ref m3, .ref m4, .ref m5, .ref m6, .ref m7, .ref m8, .ref m9, .int mw, .int ml, .int mb, .ref m10, .int mz, .ref m11, .int op, .int bp, .int by0, .int dp, .int tk, .ref m12, .ref m13, .ref m14, .ref m15, .ref m16, .ref m17, .ref m18, .int ka, .int iw])), (m5, .inl (cI, 4, .inl mt)), (m6, .inl (cI, 4, .inl mk)), (m7, .inl (cI, 6, .inl wf)), (m8, .inl (cI, 6, .inl wp)), (m9, .inl (cI, 6, .inl wt))] [(0, .ref hy), (1, .int x)] [.int r_8] 11 0 0
  refine x_if_eq C 24 dX10_told_11 (by decide) (fun c_11 => ?_) (fun c_11 => ?_)
  · skip
    have e_11 : (r_8 : Int32).toInt = (0 : Int32).toInt := i_eq.mp c_11
    have : (0 : Int32).toInt = 0 := by decide
    refine x_iload_n C 1 dX10_told_24 rfl rfl ?_
    refine x_i2l C dX10_told_25 ?_
    refine x_ldc2 C dX10_told_26 wd_887 ?_
    refine x_ldc2 C dX10_told_29 wd_888 ?_
    refine x_callS C [.long (Int32.toInt64 x), .long 20, .long 23] [(hy, .inr (10, [.ref m0, .ref m1, .ref m2, .ref m3, .ref m4, .ref m5, .ref m6, .ref m7, .ref m8, .ref m9, .int mw, .int ml, .int mb, .ref m10, .int mz, .ref m11, .int op, .int bp, .int by0, .int dp, .int tk, .ref m12, .ref m13, .ref m14, .ref m15, .ref m16, .ref m17, .ref m18, .int ka, .int iw])), (m5, .inl (cI, 4, .inl mt)), (m6, .inl (cI, 4, .inl mk)), (m7, .inl (cI, 6, .inl wf)), (m8, .inl (cI, 6, .inl wp)), (m9, .inl (cI, 6, .inl wt))] [] [0, 1, 2, 3, 4, 5] (c_X10_in (xl X) (xD X) (xt X) hT (Int32.toInt64 x) 20 23 ) dX10_told_32 wd_167 wd_168 wd_5 wd_169 (np := 3) ⟨by decide, by decide, by decide +kernel⟩ rfl rfl (Nat.le_of_ble_eq_true rfl) (by decide) rfl (by decide) rfl (by decide) (by decide) (fun v W1 h => ?_)
    obtain ⟨r_32, rfl, rfl, h_32⟩ := h
    have : (Int32.toInt64 x : Int64).toInt = (x : Int32).toInt := Int32.toInt_toInt64 _
    have : (20 : Int64).toInt = 20 := by decide
    have : (23 : Int64).toInt = 23 := by decide
    show V X 3 [(hy, .inr (10, [.ref m0, .ref m1, .ref m2, .ref m3, .ref m4, .ref m5, .ref m6, .ref m7, .ref m8, .ref m9, .int mw, .int ml, .int mb, .ref m10, .int mz, .ref m11, .int op, .int bp, .int by0, .int dp, .int tk, .ref m12, .ref m13, .ref m14, .ref m15, .ref m16, .ref m17, .ref m18, .int ka, .int iw])), (m5, .inl (cI, 4, .inl mt)), (m6, .inl (cI, 4, .inl mk)), (m7, .inl (cI, 6, .inl wf)), (m8, .inl (cI, 6, .inl wp)), (m9, .inl (cI, 6, .inl wt))] [(0, .ref hy), (1, .int x)] [.int r_32] 35 0 0
    refine x_if_eq C 48 dX10_told_35 (by decide) (fun c_35 => ?_) (fun c_35 => ?_)
    · skip
      have e_35 : (r_32 : Int32).toInt = (0 : Int32).toInt := i_eq.mp c_35
      have : (0 : Int32).toInt = 0 := by decide
      refine x_iload_n C 1 dX10_told_48 rfl rfl ?_
      refine x_i2l C dX10_told_49 ?_
      refine x_ldc2 C dX10_told_50 wd_889 ?_
      refine x_ldc2 C dX10_told_53 wd_890 ?_
      refine x_callS C [.long (Int32.toInt64 x), .long 30, .long 35] [(hy, .inr (10, [.ref m0, .ref m1, .ref m2, .ref m3, .ref m4, .ref m5, .ref m6, .ref m7, .ref m8, .ref m9, .int mw, .int ml, .int mb, .ref m10, .int mz, .ref m11, .int op, .int bp, .int by0, .int dp, .int tk, .ref m12, .ref m13, .ref m14, .ref m15, .ref m16, .ref m17, .ref m18, .int ka, .int iw])), (m5, .inl (cI, 4, .inl mt)), (m6, .inl (cI, 4, .inl mk)), (m7, .inl (cI, 6, .inl wf)), (m8, .inl (cI, 6, .inl wp)), (m9, .inl (cI, 6, .inl wt))] [] [0, 1, 2, 3, 4, 5] (c_X10_in (xl X) (xD X) (xt X) hT (Int32.toInt64 x) 30 35 ) dX10_told_56 wd_167 wd_168 wd_5 wd_169 (np := 3) ⟨by decide, by decide, by decide +kernel⟩ rfl rfl (Nat.le_of_ble_eq_true rfl) (by decide) rfl (by decide) rfl (by decide) (by decide) (fun v W1 h => ?_)
      obtain ⟨r_56, rfl, rfl, h_56⟩ := h
      have : (Int32.toInt64 x : Int64).toInt = (x : Int32).toInt := Int32.toInt_toInt64 _
      have : (30 : Int64).toInt = 30 := by decide
      have : (35 : Int64).toInt = 35 := by decide
      show V X 3 [(hy, .inr (10, [.ref m0, .ref m1, .ref m2, .ref m3, .ref m4, .ref m5, .ref m6, .ref m7, .ref m8, .ref m9, .int mw, .int ml, .int mb, .ref m10, .int mz, .ref m11, .int op, .int bp, .int by0, .int dp, .int tk, .ref m12, .ref m13, .ref m14, .ref m15, .ref m16, .ref m17, .ref m18, .int ka, .int iw])), (m5, .inl (cI, 4, .inl mt)), (m6, .inl (cI, 4, .inl mk)), (m7, .inl (cI, 6, .inl wf)), (m8, .inl (cI, 6, .inl wp)), (m9, .inl (cI, 6, .inl wt))] [(0, .ref hy), (1, .int x)] [.int r_56] 59 0 0
      refine x_if_eq C 107 dX10_told_59 (by decide) (fun c_59 => ?_) (fun c_59 => ?_)
      · skip
        have e_59 : (r_56 : Int32).toInt = (0 : Int32).toInt := i_eq.mp c_59
        have : (0 : Int32).toInt = 0 := by decide
        refine x_iload_n C 1 dX10_told_107 rfl rfl ?_
        refine x_if_ne C 118 dX10_told_108 (by decide) (fun c_108 => ?_) (fun c_108 => ?_)
        · skip
          have e_108 : ¬ ((x : Int32).toInt = (0 : Int32).toInt) := fun h => c_108 (i_eq.mpr h)
          have : (0 : Int32).toInt = 0 := by decide
          refine x_iload_n C 1 dX10_told_118 rfl rfl ?_
          refine x_iconst C 1 dX10_told_119 (by decide) ?_
          refine x_icmp_ne C 130 dX10_told_120 (by decide) (fun c_120 => ?_) (fun c_120 => ?_)
          · skip
            have e_120 : ¬ ((x : Int32).toInt = (1 : Int32).toInt) := fun h => c_120 (i_eq.mpr h)
            have : (1 : Int32).toInt = 1 := by decide
            refine x_iload_n C 1 dX10_told_130 rfl rfl ?_
            refine x_iconst C 2 dX10_told_131 (by decide) ?_
            refine x_icmp_ne C 142 dX10_told_132 (by decide) (fun c_132 => ?_) (fun c_132 => ?_)
            · skip
              have e_132 : ¬ ((x : Int32).toInt = (2 : Int32).toInt) := fun h => c_132 (i_eq.mpr h)
              have : (2 : Int32).toInt = 2 := by decide
              refine x_iload_n C 1 dX10_told_142 rfl rfl ?_
              refine x_iconst C 3 dX10_told_143 (by decide) ?_
              refine x_icmp_ne C 154 dX10_told_144 (by decide) (fun c_144 => ?_) (fun c_144 => ?_)
              · skip
                have e_144 : ¬ ((x : Int32).toInt = (3 : Int32).toInt) := fun h => c_144 (i_eq.mpr h)
                have : (3 : Int32).toInt = 3 := by decide
                refine x_bipush C (-2) dX10_told_154 (by decide) ?_
                have : ((-2) : Int32).toInt = -2 := by decide
                exact x_iret C dX10_told_156 (Nat.zero_le _) (Nat.zero_le _) (by rw [eO]; exact ⟨((-2)), rfl, rfl, (Or.inr (Or.inr (Or.inr (Or.inr (Or.inr (Or.inr (Or.inr (Or.inr (⟨by omega, rfl⟩)))))))))⟩)
              · skip
                have e_144 : (x : Int32).toInt = (3 : Int32).toInt := i_eq.mp c_144
                have : (3 : Int32).toInt = 3 := by decide
                refine x_aload_n C 0 dX10_told_147 rfl rfl ?_
                refine x_get C 0 12 dX10_told_148 inlX10 rfl (by decide) wd_348 rfl rfl rfl ?_
                refine x_goto C 156 dX10_told_151 (by decide) ?_
                exact x_iret C dX10_told_156 (Nat.zero_le _) (Nat.zero_le _) (by rw [eO]; exact ⟨mb, rfl, rfl, (Or.inr (Or.inr (Or.inr (Or.inr (Or.inr (Or.inr (Or.inr (Or.inl ⟨by omega, rfl⟩))))))))⟩)
            · skip
              have e_132 : (x : Int32).toInt = (2 : Int32).toInt := i_eq.mp c_132
              have : (2 : Int32).toInt = 2 := by decide
              refine x_aload_n C 0 dX10_told_135 rfl rfl ?_
              refine x_get C 0 11 dX10_told_136 inlX10 rfl (by decide) wd_347 rfl rfl rfl ?_
              refine x_goto C 156 dX10_told_139 (by decide) ?_
              exact x_iret C dX10_told_156 (Nat.zero_le _) (Nat.zero_le _) (by rw [eO]; exact ⟨ml, rfl, rfl, (Or.inr (Or.inr (Or.inr (Or.inr (Or.inr (Or.inr (Or.inl ⟨by omega, rfl⟩)))))))⟩)
          · skip
            have e_120 : (x : Int32).toInt = (1 : Int32).toInt := i_eq.mp c_120
            have : (1 : Int32).toInt = 1 := by decide
            refine x_aload_n C 0 dX10_told_123 rfl rfl ?_
            refine x_get C 0 10 dX10_told_124 inlX10 rfl (by decide) wd_260 rfl rfl rfl ?_
            refine x_goto C 156 dX10_told_127 (by decide) ?_
            exact x_iret C dX10_told_156 (Nat.zero_le _) (Nat.zero_le _) (by rw [eO]; exact ⟨mw, rfl, rfl, (Or.inr (Or.inr (Or.inr (Or.inr (Or.inr (Or.inl ⟨by omega, rfl⟩))))))⟩)
        · skip
          have e_108 : (x : Int32).toInt = (0 : Int32).toInt := i_eq.mp c_108
          have : (0 : Int32).toInt = 0 := by decide
          refine x_aload_n C 0 dX10_told_111 rfl rfl ?_
          refine x_get C 0 14 dX10_told_112 inlX10 rfl (by decide) wd_166 rfl rfl rfl ?_
          refine x_goto C 156 dX10_told_115 (by decide) ?_
          exact x_iret C dX10_told_156 (Nat.zero_le _) (Nat.zero_le _) (by rw [eO]; exact ⟨mz, rfl, rfl, (Or.inr (Or.inr (Or.inr (Or.inr (Or.inl ⟨by omega, rfl⟩)))))⟩)
      · skip
        have e_59 : ¬ ((r_56 : Int32).toInt = (0 : Int32).toInt) := fun h => c_59 (i_eq.mpr h)
        have : (0 : Int32).toInt = 0 := by decide
        have : (30 : Int32).toInt = 30 := by decide
        have x309 := i_sub (x := x) (y := 30) (by omega) (by omega)
        refine x_iload_n C 1 dX10_told_62 rfl rfl ?_
        refine x_bipush C 30 dX10_told_63 (by decide) ?_
        refine x_isub C dX10_told_65 ?_
        refine x_istore_n C [(2, .int (x - 30)), (0, .ref hy), (1, .int x)] dX10_told_66 rfl (by decide) rfl ?_
        refine x_iload_n C 0 dX10_told_67 rfl rfl ?_
        refine x_aload_n C 1 dX10_told_68 rfl rfl ?_
        refine x_get C 0 10 dX10_told_69 inlX10 rfl (by decide) wd_260 rfl rfl rfl ?_
        refine x_icmp_ge C 104 dX10_told_72 (by decide) (fun c_72 => ?_) (fun c_72 => ?_)
        · skip
          have e_72 : (mw : Int32).toInt ≤ (x - 30 : Int32).toInt := i_le.mp c_72
          refine x_bipush C (-6) dX10_told_104 (by decide) ?_
          have : ((-6) : Int32).toInt = -6 := by decide
          exact x_iret C dX10_told_106 (Nat.zero_le _) (Nat.zero_le _) (by rw [eO]; exact ⟨((-6)), rfl, rfl, (Or.inr (Or.inr (Or.inr (Or.inl ⟨by omega, by omega, rfl⟩))))⟩)
        · skip
          have e_72 : ¬ ((mw : Int32).toInt ≤ (x - 30 : Int32).toInt) := fun h => c_72 (i_le.mpr h)
          refine x_bipush C 100 dX10_told_75 (by decide) ?_
          refine x_aload_n C 1 dX10_told_77 rfl rfl ?_
          refine x_get C 0 7 dX10_told_78 inlX10 rfl (by decide) wd_129 rfl rfl rfl ?_
          refine x_iload_n C 0 dX10_told_81 rfl rfl ?_
          have : (30 : Int32).toInt = 30 := by decide
          have := i_sub (x := x) (y := 30) (by omega) (by omega)
          have v_82 : vp_in (x - 30) 6 := (vp_in_iff.mpr (by omega))
          refine x_iald C 3 0 dX10_told_82 hT.1 rfl v_82 ?_
          refine x_imul C dX10_told_83 ?_
          refine x_bipush C 10 dX10_told_84 (by decide) ?_
          refine x_aload_n C 1 dX10_told_86 rfl rfl ?_
          refine x_get C 0 8 dX10_told_87 inlX10 rfl (by decide) wd_130 rfl rfl rfl ?_
          refine x_iload_n C 0 dX10_told_90 rfl rfl ?_
          have : (30 : Int32).toInt = 30 := by decide
          have := i_sub (x := x) (y := 30) (by omega) (by omega)
          have v_91 : vp_in (x - 30) 6 := (vp_in_iff.mpr (by omega))
          refine x_iald C 4 0 dX10_told_91 hT.1 rfl v_91 ?_
          refine x_imul C dX10_told_92 ?_
          refine x_iadd C dX10_told_93 ?_
          refine x_aload_n C 1 dX10_told_94 rfl rfl ?_
          refine x_get C 0 9 dX10_told_95 inlX10 rfl (by decide) wd_131 rfl rfl rfl ?_
          refine x_iload_n C 0 dX10_told_98 rfl rfl ?_
          have : (30 : Int32).toInt = 30 := by decide
          have := i_sub (x := x) (y := 30) (by omega) (by omega)
          have v_99 : vp_in (x - 30) 6 := (vp_in_iff.mpr (by omega))
          refine x_iald C 5 0 dX10_told_99 hT.1 rfl v_99 ?_
          refine x_iadd C dX10_told_100 ?_
          refine x_goto C 106 dX10_told_101 (by decide) ?_
          exact x_iret C dX10_told_106 (Nat.zero_le _) (Nat.zero_le _) (by rw [eO]; exact ⟨(((100 * (wf (Int32.toNatClampNeg (x - 30)))) + (10 * (wp (Int32.toNatClampNeg (x - 30))))) + (wt (Int32.toNatClampNeg (x - 30)))), rfl, rfl, (Or.inr (Or.inr (Or.inl ⟨by omega, by omega, by rw [show Int32.toNatClampNeg (x - 30) = (x.toInt - 30).toNat from (by show (x - 30).toInt.toNat = _; have : (30 : Int32).toInt = 30 := (by decide); have := i_sub (x := x) (y := 30) (by omega) (by omega); omega)]⟩)))⟩)
    · skip
      have e_35 : ¬ ((r_32 : Int32).toInt = (0 : Int32).toInt) := fun h => c_35 (i_eq.mpr h)
      have : (0 : Int32).toInt = 0 := by decide
      refine x_aload_n C 0 dX10_told_38 rfl rfl ?_
      refine x_get C 0 6 dX10_told_39 inlX10 rfl (by decide) wd_128 rfl rfl rfl ?_
      refine x_iload_n C 1 dX10_told_42 rfl rfl ?_
      refine x_bipush C 20 dX10_told_43 (by decide) ?_
      refine x_isub C dX10_told_45 ?_
      have : (20 : Int32).toInt = 20 := by decide
      have := i_sub (x := x) (y := 20) (by omega) (by omega)
      have v_46 : vp_in (x - 20) 4 := (vp_in_iff.mpr (by omega))
      refine x_iald C 2 0 dX10_told_46 hT.1 rfl v_46 ?_
      exact x_iret C dX10_told_47 (Nat.zero_le _) (Nat.zero_le _) (by rw [eO]; exact ⟨(mk (Int32.toNatClampNeg (x - 20))), rfl, rfl, (Or.inr (Or.inl ⟨by omega, congrArg mk (by show (x - 20).toInt.toNat = _; have : (20 : Int32).toInt = 20 := (by decide); have := i_sub (x := x) (y := 20) (by omega) (by omega); omega)⟩))⟩)
  · skip
    have e_11 : ¬ ((r_8 : Int32).toInt = (0 : Int32).toInt) := fun h => c_11 (i_eq.mpr h)
    have : (0 : Int32).toInt = 0 := by decide
    refine x_aload_n C 0 dX10_told_14 rfl rfl ?_
    refine x_get C 0 5 dX10_told_15 inlX10 rfl (by decide) wd_127 rfl rfl rfl ?_
    refine x_iload_n C 1 dX10_told_18 rfl rfl ?_
    refine x_bipush C 10 dX10_told_19 (by decide) ?_
    refine x_isub C dX10_told_21 ?_
    have : (10 : Int32).toInt = 10 := by decide
    have := i_sub (x := x) (y := 10) (by omega) (by omega)
    have v_22 : vp_in (x - 10) 4 := (vp_in_iff.mpr (by omega))
    refine x_iald C 1 0 dX10_told_22 hT.1 rfl v_22 ?_
    exact x_iret C dX10_told_23 (Nat.zero_le _) (Nat.zero_le _) (by rw [eO]; exact ⟨(mt (Int32.toNatClampNeg (x - 10))), rfl, rfl, (Or.inl ⟨by omega, congrArg mt (by show (x - 10).toInt.toNat = _; have : (10 : Int32).toInt = 10 := (by decide); have := i_sub (x := x) (y := 10) (by omega) (by omega); omega)⟩)⟩)
