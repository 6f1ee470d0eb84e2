abbrev rm_X10_goEvening : Room := { frames := 3, cells := 0, slots := 0, locals := 71 }
set_option maxHeartbeats 4000000 in
set_option maxRecDepth 100000 in
theorem c_X10_goEvening (l : Launch) (D : va_G) (tys : List (ClassId × FieldType)) {cI cJ cZ cB : ClassId} (hT : Ty tys cI cJ cZ cB) (hy m0 m1 m2 m3 m4 m5 m6 m7 m8 m9 m10 m11 m12 m13 m14 m15 m16 m17 m18 : Nat) (tl ma mg mt wf wp wt ro co mm mp : Nat → Int32) (mw ml mb mz op bp by0 dp tk ka iw : Int32) (hR : RT co ro) (hpa : POk ma) (hmw : 0 ≤ mw.toInt ∧ mw.toInt ≤ 6) (hwt : SOk wt) (hz : 0 ≤ mz.toInt ∧ mz.toInt ≤ 30) (hfr : FR mp mz 97 100) : Cn l D tys yX10_goEvening cX10_goEvening 6 none rm_X10_goEvening [(hy, .inr (10, [.ref m0, .ref m1, .ref m2, .ref m3, .ref m4, .ref m5, .ref m6, .ref m7, .ref m8, .ref m9, .int mw, .int ml, .int mb, .ref m10, .int mz, .ref m11, .int op, .int bp, .int by0, .int dp, .int tk, .ref m12, .ref m13, .ref m14, .ref m15, .ref m16, .ref m17, .ref m18, .int ka, .int iw])), (m11, .inl (cI, 4, .inl tl)), (m2, .inl (cI, 4, .inl ma)), (m4, .inl (cI, 4, .inl mg)), (m5, .inl (cI, 4, .inl mt)), (m7, .inl (cI, 6, .inl wf)), (m8, .inl (cI, 6, .inl wp)), (m9, .inl (cI, 6, .inl wt)), (m0, .inl (cI, 625, .inl ro)), (m1, .inl (cI, 65, .inl co)), (m3, .inl (cI, 16, .inl mm)), (m10, .inl (cI, 30, .inl mp))] [.ref hy] (fun v W1 => ∃ (tl2 : Nat → Int32) (op2 bp2 by2 dp2 tk2 : Int32), v = none ∧ W1 = [(hy, .inr (10, [.ref m0, .ref m1, .ref m2, .ref m3, .ref m4, .ref m5, .ref m6, .ref m7, .ref m8, .ref m9, .int mw, .int ml, .int mb, .ref m10, .int mz, .ref m11, .int op2, .int bp2, .int by2, .int dp2, .int tk2, .ref m12, .ref m13, .ref m14, .ref m15, .ref m16, .ref m17, .ref m18, .int ka, .int iw])), (m11, .inl (cI, 4, .inl tl2)), (m2, .inl (cI, 4, .inl ma)), (m4, .inl (cI, 4, .inl mg)), (m5, .inl (cI, 4, .inl mt)), (m7, .inl (cI, 6, .inl wf)), (m8, .inl (cI, 6, .inl wp)), (m9, .inl (cI, 6, .inl wt)), (m0, .inl (cI, 625, .inl ro)), (m1, .inl (cI, 65, .inl co)), (m3, .inl (cI, 16, .inl mm)), (m10, .inl (cI, 30, .inl mp))] ∧ (RowI op2 ∧ GEV ma mg mt mm wf wp wt mw ml mb co mp mz.toInt.toNat op2 bp2 by2 dp2 tk2)) := by
  refine Cn.of (by decide) (Nat.le_of_ble_eq_true rfl) ?_ ?_ (fun X eL eD eT eO eK eN eM C => ?_)
  · intro h; cases h
  · intro v ws h; obtain ⟨_, _, _, _, _, _, rfl, rfl, _⟩ := h; rfl
  subst eL eD eT
  show V X 6 [(hy, .inr (10, [.ref m0, .ref m1, .ref m2, .ref m3, .ref m4, .ref m5, .ref m6, .ref m7, .ref m8, .ref m9, .int mw, .int ml, .int mb, .ref m10, .int mz, .ref m11, .int op, .int bp, .int by0, .int dp, .int tk, .ref m12, .ref m13, .ref m14, .ref m15, .ref m16, .ref m17, .ref m18, .int ka, .int iw])), (m11, .inl (cI, 4, .inl tl)), (m2, .inl (cI, 4, .inl ma)), (m4, .inl (cI, 4, .inl mg)), (m5, .inl (cI, 4, .inl mt)), (m7, .inl (cI, 6, .inl wf)), (m8, .inl (cI, 6, .inl wp)), (m9, .inl (cI, 6, .inl wt)), (m0, .inl (cI, 625, .inl ro)), (m1, .inl (cI, 65, .inl co)), (m3, .inl (cI, 16, .inl mm)), (m10, .inl (cI, 30, .inl mp))] [(0, .ref hy)] [] 0 0 0
  have := t0_
  have := tm6_
  refine x_aload_n C 0 dX10_goEvening_0 rfl rfl ?_
  refine x_iconst C 0 dX10_goEvening_1 (by decide) ?_
  refine x_callV C [.int 0] [(m2, .inl (cI, 4, .inl ma)), (m4, .inl (cI, 4, .inl mg)), (m5, .inl (cI, 4, .inl mt)), (m7, .inl (cI, 6, .inl wf)), (m8, .inl (cI, 6, .inl wp)), (m9, .inl (cI, 6, .inl wt)), (m0, .inl (cI, 625, .inl ro)), (m3, .inl (cI, 16, .inl mm)), (m10, .inl (cI, 30, .inl mp))] [0, 1, 9] [2, 3, 4, 5, 6, 7, 8, 10, 11] (q0 := 0) (c_X10_lay (xl X) (xD X) (xt X) hT hy m0 m1 m2 m3 m4 m5 m6 m7 m8 m9 m10 m11 m12 m13 m14 m15 m16 m17 m18 tl co mw ml mb mz op bp by0 dp tk ka iw 0 (by omega)) dX10_goEvening_2 wd_430 wd_431 wd_432 wd_5 wd_433 (np := 1) ⟨by decide, by decide, by decide +kernel⟩ rfl rfl (Nat.le_of_ble_eq_true rfl) (by decide) rfl rfl rfl rfl (by decide) rfl (by decide) (by decide) (fun v W1 h => ?_)
  obtain ⟨_, rfl, rfl, h_2⟩ := h
  have : (0 : Int32).toInt = 0 := by decide
  show V X 6 [(m2, .inl (cI, 4, .inl ma)), (m4, .inl (cI, 4, .inl mg)), (m5, .inl (cI, 4, .inl mt)), (m7, .inl (cI, 6, .inl wf)), (m8, .inl (cI, 6, .inl wp)), (m9, .inl (cI, 6, .inl wt)), (m0, .inl (cI, 625, .inl ro)), (m3, .inl (cI, 16, .inl mm)), (m10, .inl (cI, 30, .inl mp)), (hy, .inr (10, [.ref m0, .ref m1, .ref m2, .ref m3, .ref m4, .ref m5, .ref m6, .ref m7, .ref m8, .ref m9, .int mw, .int ml, .int mb, .ref m10, .int mz, .ref m11, .int (opS co 0), .int bp, .int by0, .int dp, .int tk, .ref m12, .ref m13, .ref m14, .ref m15, .ref m16, .ref m17, .ref m18, .int ka, .int iw])), (m11, .inl (cI, 4, .inl (tds 0))), (m1, .inl (cI, 65, .inl co))] [(0, .ref hy)] [] 5 0 0
  refine x_aload_n C 0 dX10_goEvening_5 rfl rfl ?_
  refine x_bipush C (-6) dX10_goEvening_6 (by decide) ?_
  refine x_put C 9 17 (ty := .int) [(m2, .inl (cI, 4, .inl ma)), (m4, .inl (cI, 4, .inl mg)), (m5, .inl (cI, 4, .inl mt)), (m7, .inl (cI, 6, .inl wf)), (m8, .inl (cI, 6, .inl wp)), (m9, .inl (cI, 6, .inl wt)), (m0, .inl (cI, 625, .inl ro)), (m3, .inl (cI, 16, .inl mm)), (m10, .inl (cI, 30, .inl mp)), (hy, .inr (10, [.ref m0, .ref m1, .ref m2, .ref m3, .ref m4, .ref m5, .ref m6, .ref m7, .ref m8, .ref m9, .int mw, .int ml, .int mb, .ref m10, .int mz, .ref m11, .int (opS co 0), .int ((-6)), .int by0, .int dp, .int tk, .ref m12, .ref m13, .ref m14, .ref m15, .ref m16, .ref m17, .ref m18, .int ka, .int iw])), (m11, .inl (cI, 4, .inl (tds 0))), (m1, .inl (cI, 65, .inl co))] dX10_goEvening_8 inlX10 tyX10 tyX10_ok nmX10 rfl (by decide) wd_421 rfl rfl rfl rfl rfl rfl (Nat.le_of_ble_eq_true rfl) rfl ?_
  refine x_aload_n C 0 dX10_goEvening_11 rfl rfl ?_
  refine x_bipush C (-6) dX10_goEvening_12 (by decide) ?_
  refine x_put C 9 18 (ty := .int) [(m2, .inl (cI, 4, .inl ma)), (m4, .inl (cI, 4, .inl mg)), (m5, .inl (cI, 4, .inl mt)), (m7, .inl (cI, 6, .inl wf)), (m8, .inl (cI, 6, .inl wp)), (m9, .inl (cI, 6, .inl wt)), (m0, .inl (cI, 625, .inl ro)), (m3, .inl (cI, 16, .inl mm)), (m10, .inl (cI, 30, .inl mp)), (hy, .inr (10, [.ref m0, .ref m1, .ref m2, .ref m3, .ref m4, .ref m5, .ref m6, .ref m7, .ref m8, .ref m9, .int mw, .int ml, .int mb, .ref m10, .int mz, .ref m11, .int (opS co 0), .int ((-6)), .int ((-6)), .int dp, .int tk, .ref m12, .ref m13, .ref m14, .ref m15, .ref m16, .ref m17, .ref m18, .int ka, .int iw])), (m11, .inl (cI, 4, .inl (tds 0))), (m1, .inl (cI, 65, .inl co))] dX10_goEvening_14 inlX10 tyX10 tyX10_ok nmX10 rfl (by decide) wd_422 rfl rfl rfl rfl rfl rfl (Nat.le_of_ble_eq_true rfl) rfl ?_
  refine x_aload_n C 0 dX10_goEvening_17 rfl rfl ?_
  refine x_iconst C 0 dX10_goEvening_18 (by decide) ?_
  refine x_put C 9 19 (ty := .int) [(m2, .inl (cI, 4, .inl ma)), (m4, .inl (cI, 4, .inl mg)), (m5, .inl (cI, 4, .inl mt)), (m7, .inl (cI, 6, .inl wf)), (m8, .inl (cI, 6, .inl wp)), (m9, .inl (cI, 6, .inl wt)), (m0, .inl (cI, 625, .inl ro)), (m3, .inl (cI, 16, .inl mm)), (m10, .inl (cI, 30, .inl mp)), (hy, .inr (10, [.ref m0, .ref m1, .ref m2, .ref m3, .ref m4, .ref m5, .ref m6, .ref m7, .ref m8, .ref m9, .int mw, .int ml, .int mb, .ref m10, .int mz, .ref m11, .int (opS co 0), .int ((-6)), .int ((-6)), .int 0, .int tk, .ref m12, .ref m13, .ref m14, .ref m15, .ref m16, .ref m17, .ref m18, .int ka, .int iw])), (m11, .inl (cI, 4, .inl (tds 0))), (m1, .inl (cI, 65, .inl co))] dX10_goEvening_19 inlX10 tyX10 tyX10_ok nmX10 rfl (by decide) wd_428 rfl rfl rfl rfl rfl rfl (Nat.le_of_ble_eq_true rfl) rfl ?_
  refine x_aload_n C 0 dX10_goEvening_22 rfl rfl ?_
  refine x_iconst C 0 dX10_goEvening_23 (by decide) ?_
  refine x_put C 9 20 (ty := .int) [(m2, .inl (cI, 4, .inl ma)), (m4, .inl (cI, 4, .inl mg)), (m5, .inl (cI, 4, .inl mt)), (m7, .inl (cI, 6, .inl wf)), (m8, .inl (cI, 6, .inl wp)), (m9, .inl (cI, 6, .inl wt)), (m0, .inl (cI, 625, .inl ro)), (m3, .inl (cI, 16, .inl mm)), (m10, .inl (cI, 30, .inl mp)), (hy, .inr (10, [.ref m0, .ref m1, .ref m2, .ref m3, .ref m4, .ref m5, .ref m6, .ref m7, .ref m8, .ref m9, .int mw, .int ml, .int mb, .ref m10, .int mz, .ref m11, .int (opS co 0), .int ((-6)), .int ((-6)), .int 0, .int 0, .ref m12, .ref m13, .ref m14, .ref m15, .ref m16, .ref m17, .ref m18, .int ka, .int iw])), (m11, .inl (cI, 4, .inl (tds 0))), (m1, .inl (cI, 65, .inl co))] dX10_goEvening_24 inlX10 tyX10 tyX10_ok nmX10 rfl (by decide) wd_429 rfl rfl rfl rfl rfl rfl (Nat.le_of_ble_eq_true rfl) rfl ?_
  refine x_iconst C 0 dX10_goEvening_27 (by decide) ?_
  refine x_istore_n C [(1, .int 0), (0, .ref hy)] dX10_goEvening_28 rfl (by decide) rfl ?_
  have L_29 : ∀ (n_29 : Nat) (x1_29 : Int32) (ghy16_29 : Int32) (ghy17_29 : Int32) (ghy18_29 : Int32) (ghy19_29 : Int32) (ghy20_29 : Int32) (fm11_29 : Nat → Int32), (((0 ≤ x1_29.toInt ∧ x1_29.toInt ≤ mz.toInt) ∧ Gd ma fm11_29 ghy16_29) ∧ GEI ma mg mt mm wf wp wt mw ml mb co mp mz.toInt.toNat x1_29.toInt.toNat fm11_29 ghy16_29 ghy17_29 ghy18_29 ghy19_29 ghy20_29) → ((mz.toInt - x1_29.toInt).toNat < n_29) → V X 6 [(m2, .inl (cI, 4, .inl ma)), (m4, .inl (cI, 4, .inl mg)), (m5, .inl (cI, 4, .inl mt)), (m7, .inl (cI, 6, .inl wf)), (m8, .inl (cI, 6, .inl wp)), (m9, .inl (cI, 6, .inl wt)), (m0, .inl (cI, 625, .inl ro)), (m3, .inl (cI, 16, .inl mm)), (m10, .inl (cI, 30, .inl mp)), (hy, .inr (10, [.ref m0, .ref m1, .ref m2, .ref m3, .ref m4, .ref m5, .ref m6, .ref m7, .ref m8, .ref m9, .int mw, .int ml, .int mb, .ref m10, .int mz, .ref m11, .int ghy16_29, .int ghy17_29, .int ghy18_29, .int ghy19_29, .int ghy20_29, .ref m12, .ref m13, .ref m14, .ref m15, .ref m16, .ref m17, .ref m18, .int ka, .int iw])), (m11, .inl (cI, 4, .inl fm11_29)), (m1, .inl (cI, 65, .inl co))] [(1, .int x1_29), (0, .ref hy)] [] 29 0 0 := by
    intro n_29
    induction n_29 with
    | zero =>
      intro x1_29 ghy16_29 ghy17_29 ghy18_29 ghy19_29 ghy20_29 fm11_29 i_29 m_29
      exact absurd m_29 (Nat.not_lt_zero _)
    | succ n_29 ih_29 =>
      intro x1_29 ghy16_29 ghy17_29 ghy18_29 ghy19_29 ghy20_29 fm11_29 i_29 m_29
      refine x_iload_n C 0 dX10_goEvening_29 rfl rfl ?_
      refine x_aload_n C 1 dX10_goEvening_30 rfl rfl ?_
      refine x_get C 9 14 dX10_goEvening_31 inlX10 rfl (by decide) wd_166 rfl rfl rfl ?_
      refine x_icmp_ge C 179 dX10_goEvening_34 (by decide) (fun c_34 => ?_) (fun c_34 => ?_)
      · skip
        have e_34 : (mz : Int32).toInt ≤ (x1_29 : Int32).toInt := i_le.mp c_34
        refine x_sub [(hy, .inr (10, [.ref m0, .ref m1, .ref m2, .ref m3, .ref m4, .ref m5, .ref m6, .ref m7, .ref m8, .ref m9, .int mw, .int ml, .int mb, .ref m10, .int mz, .ref m11, .int ghy16_29, .int ghy17_29, .int ghy18_29, .int ghy19_29, .int ghy20_29, .ref m12, .ref m13, .ref m14, .ref m15, .ref m16, .ref m17, .ref m18, .int ka, .int iw])), (m11, .inl (cI, 4, .inl fm11_29)), (m2, .inl (cI, 4, .inl ma)), (m4, .inl (cI, 4, .inl mg)), (m5, .inl (cI, 4, .inl mt)), (m7, .inl (cI, 6, .inl wf)), (m8, .inl (cI, 6, .inl wp)), (m9, .inl (cI, 6, .inl wt)), (m0, .inl (cI, 625, .inl ro)), (m1, .inl (cI, 65, .inl co)), (m3, .inl (cI, 16, .inl mm)), (m10, .inl (cI, 30, .inl mp))] [9, 10, 0, 1, 2, 3, 4, 5, 6, 11, 7, 8] (by decide) rfl ?_
        exact x_vret C dX10_goEvening_179 (Nat.zero_le _) (Nat.zero_le _) (by rw [eO]; exact ⟨fm11_29, ghy16_29, ghy17_29, ghy18_29, ghy19_29, ghy20_29, rfl, rfl, ⟨i_29.1.2.2.1, i_29.2.out (by omega)⟩⟩)
      · skip
        have e_34 : ¬ ((mz : Int32).toInt ≤ (x1_29 : Int32).toInt) := fun h => c_34 (i_le.mpr h)
        refine x_aload_n C 1 dX10_goEvening_37 rfl rfl ?_
        refine x_get C 9 17 dX10_goEvening_38 inlX10 rfl (by decide) wd_421 rfl rfl rfl ?_
        refine x_if_ge C 179 dX10_goEvening_41 (by decide) (fun c_41 => ?_) (fun c_41 => ?_)
        · skip
          have e_41 : (0 : Int32).toInt ≤ (ghy17_29 : Int32).toInt := i_le.mp c_41
          have : (0 : Int32).toInt = 0 := by decide
          refine x_sub [(hy, .inr (10, [.ref m0, .ref m1, .ref m2, .ref m3, .ref m4, .ref m5, .ref m6, .ref m7, .ref m8, .ref m9, .int mw, .int ml, .int mb, .ref m10, .int mz, .ref m11, .int ghy16_29, .int ghy17_29, .int ghy18_29, .int ghy19_29, .int ghy20_29, .ref m12, .ref m13, .ref m14, .ref m15, .ref m16, .ref m17, .ref m18, .int ka, .int iw])), (m11, .inl (cI, 4, .inl fm11_29)), (m2, .inl (cI, 4, .inl ma)), (m4, .inl (cI, 4, .inl mg)), (m5, .inl (cI, 4, .inl mt)), (m7, .inl (cI, 6, .inl wf)), (m8, .inl (cI, 6, .inl wp)), (m9, .inl (cI, 6, .inl wt)), (m0, .inl (cI, 625, .inl ro)), (m1, .inl (cI, 65, .inl co)), (m3, .inl (cI, 16, .inl mm)), (m10, .inl (cI, 30, .inl mp))] [9, 10, 0, 1, 2, 3, 4, 5, 6, 11, 7, 8] (by decide) rfl ?_
          exact x_vret C dX10_goEvening_179 (Nat.zero_le _) (Nat.zero_le _) (by rw [eO]; exact ⟨fm11_29, ghy16_29, ghy17_29, ghy18_29, ghy19_29, ghy20_29, rfl, rfl, ⟨i_29.1.2.2.1, i_29.2.out (by omega)⟩⟩)
        · skip
          have e_41 : ¬ ((0 : Int32).toInt ≤ (ghy17_29 : Int32).toInt) := fun h => c_41 (i_le.mpr h)
          have : (0 : Int32).toInt = 0 := by decide
          refine x_aload_n C 1 dX10_goEvening_44 rfl rfl ?_
          refine x_get C 9 13 dX10_goEvening_45 inlX10 rfl (by decide) wd_132 rfl rfl rfl ?_
          refine x_iload_n C 0 dX10_goEvening_48 rfl rfl ?_
          have v_49 : vp_in x1_29 30 := (vp_in_iff.mpr (by omega))
          refine x_iald C 8 0 dX10_goEvening_49 hT.1 rfl v_49 ?_
          have a_49 := hfr.at v_49 (by omega)
          have : (97 : Int32).toInt = 97 := by decide
          have s9 := i_sub (x := mp (Int32.toNatClampNeg x1_29)) (y := 97) (by omega) (by omega)
          have hs9 : 0 ≤ (mp (Int32.toNatClampNeg x1_29) - 97).toInt ∧ (mp (Int32.toNatClampNeg x1_29) - 97).toInt ≤ 3 := by omega
          have g9 := i_29.2.g (by omega)
          refine x_bipush C 97 dX10_goEvening_50 (by decide) ?_
          refine x_isub C dX10_goEvening_52 ?_
          refine x_istore_n C [(2, .int ((mp (Int32.toNatClampNeg x1_29)) - 97)), (1, .int x1_29), (0, .ref hy)] dX10_goEvening_53 rfl (by decide) rfl ?_
          refine x_aload_n C 2 dX10_goEvening_54 rfl rfl ?_
          refine x_iload_n C 0 dX10_goEvening_55 rfl rfl ?_
          refine x_bipush C 15 dX10_goEvening_56 (by decide) ?_
          refine x_iconst C 0 dX10_goEvening_58 (by decide) ?_
          refine x_callV C [.int ((mp (Int32.toNatClampNeg x1_29)) - 97), .int 15, .int 0] [(m0, .inl (cI, 625, .inl ro)), (m3, .inl (cI, 16, .inl mm)), (m10, .inl (cI, 30, .inl mp)), (m1, .inl (cI, 65, .inl co))] [9, 10, 0, 1, 2, 3, 4, 5] [6, 7, 8, 11] (q0 := 0) (c_X10_why (xl X) (xD X) (xt X) hT hy m0 m1 m2 m3 m4 m5 m6 m7 m8 m9 m10 m11 m12 m13 m14 m15 m16 m17 m18 fm11_29 ma mg mt wf wp wt mw ml mb mz ghy16_29 ghy17_29 ghy18_29 ghy19_29 ghy20_29 ka iw ((mp (Int32.toNatClampNeg x1_29)) - 97) 15 0 hs9 i_29.1.2.2.1 hmw hwt) dX10_goEvening_59 wd_439 wd_440 wd_441 wd_5 wd_442 (np := 3) ⟨by decide, by decide, by decide +kernel⟩ rfl rfl (Nat.le_of_ble_eq_true rfl) (by decide) rfl rfl rfl rfl (by decide) rfl (by decide) (by decide) (fun v W1 h => ?_)
          obtain ⟨_, rfl, rfl, h_59⟩ := h
          have : (0 : Int32).toInt = 0 := by decide
          have : (15 : Int32).toInt = 15 := by decide
          show V X 6 [(m0, .inl (cI, 625, .inl ro)), (m3, .inl (cI, 16, .inl mm)), (m10, .inl (cI, 30, .inl mp)), (m1, .inl (cI, 65, .inl co)), (hy, .inr (10, [.ref m0, .ref m1, .ref m2, .ref m3, .ref m4, .ref m5, .ref m6, .ref m7, .ref m8, .ref m9, .int mw, .int ml, .int mb, .ref m10, .int mz, .ref m11, .int ghy16_29, .int ghy17_29, .int ghy18_29, .int ghy19_29, .int ghy20_29, .ref m12, .ref m13, .ref m14, .ref m15, .ref m16, .ref m17, .ref m18, .int ka, .int iw])), (m11, .inl (cI, 4, .inl fm11_29)), (m2, .inl (cI, 4, .inl ma)), (m4, .inl (cI, 4, .inl mg)), (m5, .inl (cI, 4, .inl mt)), (m7, .inl (cI, 6, .inl wf)), (m8, .inl (cI, 6, .inl wp)), (m9, .inl (cI, 6, .inl wt))] [(2, .int ((mp (Int32.toNatClampNeg x1_29)) - 97)), (1, .int x1_29), (0, .ref hy)] [.int (whyF ma mg mt wf wp wt mw ml fm11_29 ghy16_29 ((mp (Int32.toNatClampNeg x1_29)) - 97) 15 0)] 62 0 0
          refine x_istore_n C [(3, .int (whyF ma mg mt wf wp wt mw ml fm11_29 ghy16_29 ((mp (Int32.toNatClampNeg x1_29)) - 97) 15 0)), (2, .int ((mp (Int32.toNatClampNeg x1_29)) - 97)), (1, .int x1_29), (0, .ref hy)] dX10_goEvening_62 rfl (by decide) rfl ?_
          refine x_iload_n C 0 dX10_goEvening_63 rfl rfl ?_
          refine x_if_lt C 80 dX10_goEvening_64 (by decide) (fun c_64 => ?_) (fun c_64 => ?_)
          · skip
            have e_64 : (whyF ma mg mt wf wp wt mw ml fm11_29 ghy16_29 ((mp (Int32.toNatClampNeg x1_29)) - 97) 15 0 : Int32).toInt < (0 : Int32).toInt := i_lt.mp c_64
            have : (0 : Int32).toInt = 0 := by decide
            have hn9 : ¬ (fm11_29 (Int32.toNatClampNeg (mp (Int32.toNatClampNeg x1_29) - 97))).toInt = (ma (Int32.toNatClampNeg (mp (Int32.toNatClampNeg x1_29) - 97))).toInt := whyF_out (mg := mg) (mt := mt) (wf := wf) (wp := wp) (wt := wt) (mw := mw) (ml := ml) (o := ghy16_29) (se := 15) (dr := 0) (by omega)
            have t7 := i_29.1.2.inc hs9 hn9
            refine x_iload_n C 2 dX10_goEvening_80 rfl rfl ?_
            refine x_if_le C 113 dX10_goEvening_81 (by decide) (fun c_81 => ?_) (fun c_81 => ?_)
            · skip
              have e_81 : (x1_29 : Int32).toInt ≤ (0 : Int32).toInt := i_le.mp c_81
              have : (0 : Int32).toInt = 0 := by decide
              refine x_iconst C 0 dX10_goEvening_113 (by decide) ?_
              refine x_istore C [(4, .int 0), (3, .int (whyF ma mg mt wf wp wt mw ml fm11_29 ghy16_29 ((mp (Int32.toNatClampNeg x1_29)) - 97) 15 0)), (2, .int ((mp (Int32.toNatClampNeg x1_29)) - 97)), (1, .int x1_29), (0, .ref hy)] dX10_goEvening_114 (by decide) rfl ?_
              refine x_aload_n C 4 dX10_goEvening_116 rfl rfl ?_
              refine x_dup C dX10_goEvening_117 rfl ?_
              refine x_get C 4 20 dX10_goEvening_118 inlX10 rfl (by decide) wd_429 rfl rfl rfl ?_
              refine x_aload_n C 4 dX10_goEvening_121 rfl rfl ?_
              refine x_iload_n C 2 dX10_goEvening_122 rfl rfl ?_
              refine x_callV C [.int ((mp (Int32.toNatClampNeg x1_29)) - 97)] [(m0, .inl (cI, 625, .inl ro)), (m10, .inl (cI, 30, .inl mp)), (m1, .inl (cI, 65, .inl co)), (m2, .inl (cI, 4, .inl ma)), (m4, .inl (cI, 4, .inl mg)), (m5, .inl (cI, 4, .inl mt)), (m7, .inl (cI, 6, .inl wf)), (m8, .inl (cI, 6, .inl wp)), (m9, .inl (cI, 6, .inl wt))] [4, 5, 1] [0, 2, 3, 6, 7, 8, 9, 10, 11] (q0 := 0) (c_X10_partMinutes (xl X) (xD X) (xt X) hT hy m0 m1 m2 m3 m4 m5 m6 m7 m8 m9 m10 m11 m12 m13 m14 m15 m16 m17 m18 fm11_29 mm mw ml mb mz ghy16_29 ghy17_29 ghy18_29 ghy19_29 ghy20_29 ka iw ((mp (Int32.toNatClampNeg x1_29)) - 97) hs9 (by omega)) dX10_goEvening_123 wd_469 wd_470 wd_471 wd_5 wd_472 (np := 1) ⟨by decide, by decide, by decide +kernel⟩ rfl rfl (Nat.le_of_ble_eq_true rfl) (by decide) rfl rfl rfl rfl (by decide) rfl (by decide) (by decide) (fun v W1 h => ?_)
              obtain ⟨r_123, rfl, rfl, h_123⟩ := h
              show V X 6 [(m0, .inl (cI, 625, .inl ro)), (m10, .inl (cI, 30, .inl mp)), (m1, .inl (cI, 65, .inl co)), (m2, .inl (cI, 4, .inl ma)), (m4, .inl (cI, 4, .inl mg)), (m5, .inl (cI, 4, .inl mt)), (m7, .inl (cI, 6, .inl wf)), (m8, .inl (cI, 6, .inl wp)), (m9, .inl (cI, 6, .inl wt)), (hy, .inr (10, [.ref m0, .ref m1, .ref m2, .ref m3, .ref m4, .ref m5, .ref m6, .ref m7, .ref m8, .ref m9, .int mw, .int ml, .int mb, .ref m10, .int mz, .ref m11, .int ghy16_29, .int ghy17_29, .int ghy18_29, .int ghy19_29, .int ghy20_29, .ref m12, .ref m13, .ref m14, .ref m15, .ref m16, .ref m17, .ref m18, .int ka, .int iw])), (m11, .inl (cI, 4, .inl fm11_29)), (m3, .inl (cI, 16, .inl mm))] [(4, .int 0), (3, .int (whyF ma mg mt wf wp wt mw ml fm11_29 ghy16_29 ((mp (Int32.toNatClampNeg x1_29)) - 97) 15 0)), (2, .int ((mp (Int32.toNatClampNeg x1_29)) - 97)), (1, .int x1_29), (0, .ref hy)] [.int r_123, .int ghy20_29, .ref hy] 126 0 0
              refine x_iload C 0 dX10_goEvening_126 rfl ?_
              refine x_if_eq C 138 dX10_goEvening_128 (by decide) (fun c_128 => ?_) (fun c_128 => ?_)
              · skip
                have e_128 : (0 : Int32).toInt = (0 : Int32).toInt := i_eq.mp c_128
                have : (0 : Int32).toInt = 0 := by decide
                have : (0 : Int32).toInt = 0 := by decide
                refine x_iconst C 0 dX10_goEvening_138 (by decide) ?_
                refine x_iadd C dX10_goEvening_139 ?_
                refine x_iadd C dX10_goEvening_140 ?_
                refine x_put C 9 20 (ty := .int) [(m0, .inl (cI, 625, .inl ro)), (m10, .inl (cI, 30, .inl mp)), (m1, .inl (cI, 65, .inl co)), (m2, .inl (cI, 4, .inl ma)), (m4, .inl (cI, 4, .inl mg)), (m5, .inl (cI, 4, .inl mt)), (m7, .inl (cI, 6, .inl wf)), (m8, .inl (cI, 6, .inl wp)), (m9, .inl (cI, 6, .inl wt)), (hy, .inr (10, [.ref m0, .ref m1, .ref m2, .ref m3, .ref m4, .ref m5, .ref m6, .ref m7, .ref m8, .ref m9, .int mw, .int ml, .int mb, .ref m10, .int mz, .ref m11, .int ghy16_29, .int ghy17_29, .int ghy18_29, .int ghy19_29, .int (ghy20_29 + (r_123 + 0)), .ref m12, .ref m13, .ref m14, .ref m15, .ref m16, .ref m17, .ref m18, .int ka, .int iw])), (m11, .inl (cI, 4, .inl fm11_29)), (m3, .inl (cI, 16, .inl mm))] dX10_goEvening_141 inlX10 tyX10 tyX10_ok nmX10 rfl (by decide) wd_429 rfl rfl rfl rfl rfl rfl (Nat.le_of_ble_eq_true rfl) rfl ?_
                refine x_aload_n C 4 dX10_goEvening_144 rfl rfl ?_
                refine x_iload_n C 2 dX10_goEvening_145 rfl rfl ?_
                refine x_callV C [.int ((mp (Int32.toNatClampNeg x1_29)) - 97)] [(m0, .inl (cI, 625, .inl ro)), (m10, .inl (cI, 30, .inl mp)), (m1, .inl (cI, 65, .inl co)), (m4, .inl (cI, 4, .inl mg)), (m5, .inl (cI, 4, .inl mt)), (m7, .inl (cI, 6, .inl wf)), (m8, .inl (cI, 6, .inl wp)), (m9, .inl (cI, 6, .inl wt)), (m3, .inl (cI, 16, .inl mm))] [9, 10, 3] [0, 1, 2, 4, 5, 6, 7, 8, 11] (q0 := 0) (c_X10_tell (xl X) (xD X) (xt X) hT hy m0 m1 m2 m3 m4 m5 m6 m7 m8 m9 m10 m11 m12 m13 m14 m15 m16 m17 m18 fm11_29 ma mw ml mb mz ghy16_29 ghy17_29 ghy18_29 ghy19_29 (ghy20_29 + (r_123 + 0)) ka iw ((mp (Int32.toNatClampNeg x1_29)) - 97) hs9 i_29.1.2 hn9) dX10_goEvening_146 wd_473 wd_474 wd_475 wd_5 wd_476 (np := 1) ⟨by decide, by decide, by decide +kernel⟩ rfl rfl (Nat.le_of_ble_eq_true rfl) (by decide) rfl rfl rfl rfl (by decide) rfl (by decide) (by decide) (fun v W1 h => ?_)
                obtain ⟨op2_146, rfl, rfl, h_146⟩ := h
                show V X 6 [(m0, .inl (cI, 625, .inl ro)), (m10, .inl (cI, 30, .inl mp)), (m1, .inl (cI, 65, .inl co)), (m4, .inl (cI, 4, .inl mg)), (m5, .inl (cI, 4, .inl mt)), (m7, .inl (cI, 6, .inl wf)), (m8, .inl (cI, 6, .inl wp)), (m9, .inl (cI, 6, .inl wt)), (m3, .inl (cI, 16, .inl mm)), (hy, .inr (10, [.ref m0, .ref m1, .ref m2, .ref m3, .ref m4, .ref m5, .ref m6, .ref m7, .ref m8, .ref m9, .int mw, .int ml, .int mb, .ref m10, .int mz, .ref m11, .int op2_146, .int ghy17_29, .int ghy18_29, .int ghy19_29, .int ((ghy20_29 + (r_123 + 0))), .ref m12, .ref m13, .ref m14, .ref m15, .ref m16, .ref m17, .ref m18, .int ka, .int iw])), (m11, .inl (cI, 4, .inl (upd fm11_29 (Int32.toNatClampNeg ((mp (Int32.toNatClampNeg x1_29)) - 97)) (fm11_29 (Int32.toNatClampNeg ((mp (Int32.toNatClampNeg x1_29)) - 97)) + 1)))), (m2, .inl (cI, 4, .inl ma))] [(4, .int 0), (3, .int (whyF ma mg mt wf wp wt mw ml fm11_29 ghy16_29 ((mp (Int32.toNatClampNeg x1_29)) - 97) 15 0)), (2, .int ((mp (Int32.toNatClampNeg x1_29)) - 97)), (1, .int x1_29), (0, .ref hy)] [.int (onesF (setI (o1F fm11_29 ghy16_29 ((mp (Int32.toNatClampNeg x1_29)) - 97))))] 149 0 0
                refine x_istore C [(5, .int (onesF (setI (o1F fm11_29 ghy16_29 ((mp (Int32.toNatClampNeg x1_29)) - 97))))), (4, .int 0), (3, .int (whyF ma mg mt wf wp wt mw ml fm11_29 ghy16_29 ((mp (Int32.toNatClampNeg x1_29)) - 97) 15 0)), (2, .int ((mp (Int32.toNatClampNeg x1_29)) - 97)), (1, .int x1_29), (0, .ref hy)] dX10_goEvening_149 (by decide) rfl ?_
                refine x_aload_n C 5 dX10_goEvening_151 rfl rfl ?_
                refine x_iload C 0 dX10_goEvening_152 rfl ?_
                refine x_aload_n C 5 dX10_goEvening_154 rfl rfl ?_
                refine x_get C 9 19 dX10_goEvening_155 inlX10 rfl (by decide) wd_428 rfl rfl rfl ?_
                refine x_icmp_le C 166 dX10_goEvening_158 (by decide) (fun c_158 => ?_) (fun c_158 => ?_)
                · skip
                  have e_158 : (onesF (setI (o1F fm11_29 ghy16_29 ((mp (Int32.toNatClampNeg x1_29)) - 97))) : Int32).toInt ≤ (ghy19_29 : Int32).toInt := i_le.mp c_158
                  refine x_aload_n C 5 dX10_goEvening_166 rfl rfl ?_
                  refine x_get C 9 19 dX10_goEvening_167 inlX10 rfl (by decide) wd_428 rfl rfl rfl ?_
                  refine x_put C 9 19 (ty := .int) [(m0, .inl (cI, 625, .inl ro)), (m10, .inl (cI, 30, .inl mp)), (m1, .inl (cI, 65, .inl co)), (m4, .inl (cI, 4, .inl mg)), (m5, .inl (cI, 4, .inl mt)), (m7, .inl (cI, 6, .inl wf)), (m8, .inl (cI, 6, .inl wp)), (m9, .inl (cI, 6, .inl wt)), (m3, .inl (cI, 16, .inl mm)), (hy, .inr (10, [.ref m0, .ref m1, .ref m2, .ref m3, .ref m4, .ref m5, .ref m6, .ref m7, .ref m8, .ref m9, .int mw, .int ml, .int mb, .ref m10, .int mz, .ref m11, .int op2_146, .int ghy17_29, .int ghy18_29, .int ghy19_29, .int ((ghy20_29 + (r_123 + 0))), .ref m12, .ref m13, .ref m14, .ref m15, .ref m16, .ref m17, .ref m18, .int ka, .int iw])), (m11, .inl (cI, 4, .inl (upd fm11_29 (Int32.toNatClampNeg ((mp (Int32.toNatClampNeg x1_29)) - 97)) (fm11_29 (Int32.toNatClampNeg ((mp (Int32.toNatClampNeg x1_29)) - 97)) + 1)))), (m2, .inl (cI, 4, .inl ma))] dX10_goEvening_170 inlX10 tyX10 tyX10_ok nmX10 rfl (by decide) wd_428 rfl rfl rfl rfl rfl rfl (Nat.le_of_ble_eq_true rfl) rfl ?_
                  refine x_iinc C 4 (x1_29 + 1) [(1, .int (x1_29 + 1)), (5, .int (onesF (setI (o1F fm11_29 ghy16_29 ((mp (Int32.toNatClampNeg x1_29)) - 97))))), (4, .int 0), (3, .int (whyF ma mg mt wf wp wt mw ml fm11_29 ghy16_29 ((mp (Int32.toNatClampNeg x1_29)) - 97) 15 0)), (2, .int ((mp (Int32.toNatClampNeg x1_29)) - 97)), (0, .ref hy)] dX10_goEvening_173 rfl rfl (by decide) rfl ?_
                  refine x_goto C 29 dX10_goEvening_176 (by decide) ?_
                  refine x_sub [(m2, .inl (cI, 4, .inl ma)), (m4, .inl (cI, 4, .inl mg)), (m5, .inl (cI, 4, .inl mt)), (m7, .inl (cI, 6, .inl wf)), (m8, .inl (cI, 6, .inl wp)), (m9, .inl (cI, 6, .inl wt)), (m0, .inl (cI, 625, .inl ro)), (m3, .inl (cI, 16, .inl mm)), (m10, .inl (cI, 30, .inl mp)), (hy, .inr (10, [.ref m0, .ref m1, .ref m2, .ref m3, .ref m4, .ref m5, .ref m6, .ref m7, .ref m8, .ref m9, .int mw, .int ml, .int mb, .ref m10, .int mz, .ref m11, .int op2_146, .int ghy17_29, .int ghy18_29, .int ghy19_29, .int ((ghy20_29 + (r_123 + 0))), .ref m12, .ref m13, .ref m14, .ref m15, .ref m16, .ref m17, .ref m18, .int ka, .int iw])), (m11, .inl (cI, 4, .inl (upd fm11_29 (Int32.toNatClampNeg ((mp (Int32.toNatClampNeg x1_29)) - 97)) (fm11_29 (Int32.toNatClampNeg ((mp (Int32.toNatClampNeg x1_29)) - 97)) + 1)))), (m1, .inl (cI, 65, .inl co))] [11, 3, 4, 5, 6, 7, 0, 8, 1, 9, 10, 2] (by decide) rfl ?_
                  refine x_lv [(1, .int (x1_29 + 1)), (0, .ref hy)] [0, 5] rfl ?_
                  have : (1 : Int32).toInt = 1 := by decide
                  have := i_add (x := x1_29) (y := 1) (by omega) (by omega)
                  exact ih_29 (x1_29 + 1) op2_146 ghy17_29 ghy18_29 ghy19_29 ((ghy20_29 + (r_123 + 0))) (upd fm11_29 (Int32.toNatClampNeg ((mp (Int32.toNatClampNeg x1_29)) - 97)) (fm11_29 (Int32.toNatClampNeg ((mp (Int32.toNatClampNeg x1_29)) - 97)) + 1)) ⟨⟨by omega, by rw [h_146]; exact i_29.1.2.tell hs9 hn9⟩, GEG.go g9 (s := mp (Int32.toNatClampNeg x1_29) - 97) rfl (by omega) (by omega) h_146 (if_pos c_158).symm (by rw [if_neg (fun h => by have := h.1; omega), h_123])⟩ (by omega)
                · skip
                  have e_158 : ¬ ((onesF (setI (o1F fm11_29 ghy16_29 ((mp (Int32.toNatClampNeg x1_29)) - 97))) : Int32).toInt ≤ (ghy19_29 : Int32).toInt) := fun h => c_158 (i_le.mpr h)
                  refine x_iload C 0 dX10_goEvening_161 rfl ?_
                  refine x_goto C 170 dX10_goEvening_163 (by decide) ?_
                  refine x_put C 9 19 (ty := .int) [(m0, .inl (cI, 625, .inl ro)), (m10, .inl (cI, 30, .inl mp)), (m1, .inl (cI, 65, .inl co)), (m4, .inl (cI, 4, .inl mg)), (m5, .inl (cI, 4, .inl mt)), (m7, .inl (cI, 6, .inl wf)), (m8, .inl (cI, 6, .inl wp)), (m9, .inl (cI, 6, .inl wt)), (m3, .inl (cI, 16, .inl mm)), (hy, .inr (10, [.ref m0, .ref m1, .ref m2, .ref m3, .ref m4, .ref m5, .ref m6, .ref m7, .ref m8, .ref m9, .int mw, .int ml, .int mb, .ref m10, .int mz, .ref m11, .int op2_146, .int ghy17_29, .int ghy18_29, .int (onesF (setI (o1F fm11_29 ghy16_29 ((mp (Int32.toNatClampNeg x1_29)) - 97)))), .int ((ghy20_29 + (r_123 + 0))), .ref m12, .ref m13, .ref m14, .ref m15, .ref m16, .ref m17, .ref m18, .int ka, .int iw])), (m11, .inl (cI, 4, .inl (upd fm11_29 (Int32.toNatClampNeg ((mp (Int32.toNatClampNeg x1_29)) - 97)) (fm11_29 (Int32.toNatClampNeg ((mp (Int32.toNatClampNeg x1_29)) - 97)) + 1)))), (m2, .inl (cI, 4, .inl ma))] dX10_goEvening_170 inlX10 tyX10 tyX10_ok nmX10 rfl (by decide) wd_428 rfl rfl rfl rfl rfl rfl (Nat.le_of_ble_eq_true rfl) rfl ?_
                  refine x_iinc C 4 (x1_29 + 1) [(1, .int (x1_29 + 1)), (5, .int (onesF (setI (o1F fm11_29 ghy16_29 ((mp (Int32.toNatClampNeg x1_29)) - 97))))), (4, .int 0), (3, .int (whyF ma mg mt wf wp wt mw ml fm11_29 ghy16_29 ((mp (Int32.toNatClampNeg x1_29)) - 97) 15 0)), (2, .int ((mp (Int32.toNatClampNeg x1_29)) - 97)), (0, .ref hy)] dX10_goEvening_173 rfl rfl (by decide) rfl ?_
                  refine x_goto C 29 dX10_goEvening_176 (by decide) ?_
                  refine x_sub [(m2, .inl (cI, 4, .inl ma)), (m4, .inl (cI, 4, .inl mg)), (m5, .inl (cI, 4, .inl mt)), (m7, .inl (cI, 6, .inl wf)), (m8, .inl (cI, 6, .inl wp)), (m9, .inl (cI, 6, .inl wt)), (m0, .inl (cI, 625, .inl ro)), (m3, .inl (cI, 16, .inl mm)), (m10, .inl (cI, 30, .inl mp)), (hy, .inr (10, [.ref m0, .ref m1, .ref m2, .ref m3, .ref m4, .ref m5, .ref m6, .ref m7, .ref m8, .ref m9, .int mw, .int ml, .int mb, .ref m10, .int mz, .ref m11, .int op2_146, .int ghy17_29, .int ghy18_29, .int (onesF (setI (o1F fm11_29 ghy16_29 ((mp (Int32.toNatClampNeg x1_29)) - 97)))), .int ((ghy20_29 + (r_123 + 0))), .ref m12, .ref m13, .ref m14, .ref m15, .ref m16, .ref m17, .ref m18, .int ka, .int iw])), (m11, .inl (cI, 4, .inl (upd fm11_29 (Int32.toNatClampNeg ((mp (Int32.toNatClampNeg x1_29)) - 97)) (fm11_29 (Int32.toNatClampNeg ((mp (Int32.toNatClampNeg x1_29)) - 97)) + 1)))), (m1, .inl (cI, 65, .inl co))] [11, 3, 4, 5, 6, 7, 0, 8, 1, 9, 10, 2] (by decide) rfl ?_
                  refine x_lv [(1, .int (x1_29 + 1)), (0, .ref hy)] [0, 5] rfl ?_
                  have : (1 : Int32).toInt = 1 := by decide
                  have := i_add (x := x1_29) (y := 1) (by omega) (by omega)
                  exact ih_29 (x1_29 + 1) op2_146 ghy17_29 ghy18_29 (onesF (setI (o1F fm11_29 ghy16_29 ((mp (Int32.toNatClampNeg x1_29)) - 97)))) ((ghy20_29 + (r_123 + 0))) (upd fm11_29 (Int32.toNatClampNeg ((mp (Int32.toNatClampNeg x1_29)) - 97)) (fm11_29 (Int32.toNatClampNeg ((mp (Int32.toNatClampNeg x1_29)) - 97)) + 1)) ⟨⟨by omega, by rw [h_146]; exact i_29.1.2.tell hs9 hn9⟩, GEG.go g9 (s := mp (Int32.toNatClampNeg x1_29) - 97) rfl (by omega) (by omega) h_146 (if_neg c_158).symm (by rw [if_neg (fun h => by have := h.1; omega), h_123])⟩ (by omega)
              · skip
                have e_128 : ¬ ((0 : Int32).toInt = (0 : Int32).toInt) := fun h => c_128 (i_eq.mpr h)
                have : (0 : Int32).toInt = 0 := by decide
                have : (0 : Int32).toInt = 0 := by decide
                exfalso
                omega
            · skip
              have e_81 : ¬ ((x1_29 : Int32).toInt ≤ (0 : Int32).toInt) := fun h => c_81 (i_le.mpr h)
              have : (0 : Int32).toInt = 0 := by decide
              refine x_aload_n C 3 dX10_goEvening_84 rfl rfl ?_
              refine x_get C 4 5 dX10_goEvening_85 inlX10 rfl (by decide) wd_127 rfl rfl rfl ?_
              refine x_aload_n C 3 dX10_goEvening_88 rfl rfl ?_
              refine x_get C 4 13 dX10_goEvening_89 inlX10 rfl (by decide) wd_132 rfl rfl rfl ?_
              refine x_iload_n C 2 dX10_goEvening_92 rfl rfl ?_
              refine x_iconst C 1 dX10_goEvening_93 (by decide) ?_
              refine x_isub C dX10_goEvening_94 ?_
              have : (1 : Int32).toInt = 1 := by decide
              have := i_sub (x := x1_29) (y := 1) (by omega) (by omega)
              have v_95 : vp_in (x1_29 - 1) 30 := (vp_in_iff.mpr (by omega))
              refine x_iald C 2 0 dX10_goEvening_95 hT.1 rfl v_95 ?_
              have a_95 := hfr.at v_95 (by omega)
              have k9 : mp (x1_29.toInt.toNat - 1) = mp (Int32.toNatClampNeg (x1_29 - 1)) := congrArg mp (by show x1_29.toInt.toNat - 1 = (x1_29 - 1).toInt.toNat; omega)
              refine x_bipush C 97 dX10_goEvening_96 (by decide) ?_
              refine x_isub C dX10_goEvening_98 ?_
              have : (97 : Int32).toInt = 97 := by decide
              have := i_sub (x := (mp (Int32.toNatClampNeg (x1_29 - 1)))) (y := 97) (by omega) (by omega)
              have v_99 : vp_in ((mp (Int32.toNatClampNeg (x1_29 - 1))) - 97) 4 := (vp_in_iff.mpr (by omega))
              refine x_iald C 8 0 dX10_goEvening_99 hT.1 rfl v_99 ?_
              refine x_aload_n C 3 dX10_goEvening_100 rfl rfl ?_
              refine x_get C 4 5 dX10_goEvening_101 inlX10 rfl (by decide) wd_127 rfl rfl rfl ?_
              refine x_iload_n C 1 dX10_goEvening_104 rfl rfl ?_
              have : (97 : Int32).toInt = 97 := by decide
              have := i_sub (x := (mp (Int32.toNatClampNeg x1_29))) (y := 97) (by omega) (by omega)
              have v_105 : vp_in ((mp (Int32.toNatClampNeg x1_29)) - 97) 4 := (vp_in_iff.mpr (by omega))
              refine x_iald C 8 0 dX10_goEvening_105 hT.1 rfl v_105 ?_
              refine x_icmp_eq C 113 dX10_goEvening_106 (by decide) (fun c_106 => ?_) (fun c_106 => ?_)
              · skip
                have e_106 : (mt (Int32.toNatClampNeg ((mp (Int32.toNatClampNeg (x1_29 - 1))) - 97)) : Int32).toInt = (mt (Int32.toNatClampNeg ((mp (Int32.toNatClampNeg x1_29)) - 97)) : Int32).toInt := i_eq.mp c_106
                refine x_iconst C 0 dX10_goEvening_113 (by decide) ?_
                refine x_istore C [(4, .int 0), (3, .int (whyF ma mg mt wf wp wt mw ml fm11_29 ghy16_29 ((mp (Int32.toNatClampNeg x1_29)) - 97) 15 0)), (2, .int ((mp (Int32.toNatClampNeg x1_29)) - 97)), (1, .int x1_29), (0, .ref hy)] dX10_goEvening_114 (by decide) rfl ?_
                refine x_aload_n C 4 dX10_goEvening_116 rfl rfl ?_
                refine x_dup C dX10_goEvening_117 rfl ?_
                refine x_get C 4 20 dX10_goEvening_118 inlX10 rfl (by decide) wd_429 rfl rfl rfl ?_
                refine x_aload_n C 4 dX10_goEvening_121 rfl rfl ?_
                refine x_iload_n C 2 dX10_goEvening_122 rfl rfl ?_
                refine x_callV C [.int ((mp (Int32.toNatClampNeg x1_29)) - 97)] [(m0, .inl (cI, 625, .inl ro)), (m10, .inl (cI, 30, .inl mp)), (m1, .inl (cI, 65, .inl co)), (m2, .inl (cI, 4, .inl ma)), (m4, .inl (cI, 4, .inl mg)), (m5, .inl (cI, 4, .inl mt)), (m7, .inl (cI, 6, .inl wf)), (m8, .inl (cI, 6, .inl wp)), (m9, .inl (cI, 6, .inl wt))] [4, 5, 1] [0, 2, 3, 6, 7, 8, 9, 10, 11] (q0 := 0) (c_X10_partMinutes (xl X) (xD X) (xt X) hT hy m0 m1 m2 m3 m4 m5 m6 m7 m8 m9 m10 m11 m12 m13 m14 m15 m16 m17 m18 fm11_29 mm mw ml mb mz ghy16_29 ghy17_29 ghy18_29 ghy19_29 ghy20_29 ka iw ((mp (Int32.toNatClampNeg x1_29)) - 97) hs9 (by omega)) dX10_goEvening_123 wd_469 wd_470 wd_471 wd_5 wd_472 (np := 1) ⟨by decide, by decide, by decide +kernel⟩ rfl rfl (Nat.le_of_ble_eq_true rfl) (by decide) rfl rfl rfl rfl (by decide) rfl (by decide) (by decide) (fun v W1 h => ?_)
                obtain ⟨r_123, rfl, rfl, h_123⟩ := h
                show V X 6 [(m0, .inl (cI, 625, .inl ro)), (m10, .inl (cI, 30, .inl mp)), (m1, .inl (cI, 65, .inl co)), (m2, .inl (cI, 4, .inl ma)), (m4, .inl (cI, 4, .inl mg)), (m5, .inl (cI, 4, .inl mt)), (m7, .inl (cI, 6, .inl wf)), (m8, .inl (cI, 6, .inl wp)), (m9, .inl (cI, 6, .inl wt)), (hy, .inr (10, [.ref m0, .ref m1, .ref m2, .ref m3, .ref m4, .ref m5, .ref m6, .ref m7, .ref m8, .ref m9, .int mw, .int ml, .int mb, .ref m10, .int mz, .ref m11, .int ghy16_29, .int ghy17_29, .int ghy18_29, .int ghy19_29, .int ghy20_29, .ref m12, .ref m13, .ref m14, .ref m15, .ref m16, .ref m17, .ref m18, .int ka, .int iw])), (m11, .inl (cI, 4, .inl fm11_29)), (m3, .inl (cI, 16, .inl mm))] [(4, .int 0), (3, .int (whyF ma mg mt wf wp wt mw ml fm11_29 ghy16_29 ((mp (Int32.toNatClampNeg x1_29)) - 97) 15 0)), (2, .int ((mp (Int32.toNatClampNeg x1_29)) - 97)), (1, .int x1_29), (0, .ref hy)] [.int r_123, .int ghy20_29, .ref hy] 126 0 0
                refine x_iload C 0 dX10_goEvening_126 rfl ?_
                refine x_if_eq C 138 dX10_goEvening_128 (by decide) (fun c_128 => ?_) (fun c_128 => ?_)
                · skip
                  have e_128 : (0 : Int32).toInt = (0 : Int32).toInt := i_eq.mp c_128
                  have : (0 : Int32).toInt = 0 := by decide
                  have : (0 : Int32).toInt = 0 := by decide
                  refine x_iconst C 0 dX10_goEvening_138 (by decide) ?_
                  refine x_iadd C dX10_goEvening_139 ?_
                  refine x_iadd C dX10_goEvening_140 ?_
                  refine x_put C 9 20 (ty := .int) [(m0, .inl (cI, 625, .inl ro)), (m10, .inl (cI, 30, .inl mp)), (m1, .inl (cI, 65, .inl co)), (m2, .inl (cI, 4, .inl ma)), (m4, .inl (cI, 4, .inl mg)), (m5, .inl (cI, 4, .inl mt)), (m7, .inl (cI, 6, .inl wf)), (m8, .inl (cI, 6, .inl wp)), (m9, .inl (cI, 6, .inl wt)), (hy, .inr (10, [.ref m0, .ref m1, .ref m2, .ref m3, .ref m4, .ref m5, .ref m6, .ref m7, .ref m8, .ref m9, .int mw, .int ml, .int mb, .ref m10, .int mz, .ref m11, .int ghy16_29, .int ghy17_29, .int ghy18_29, .int ghy19_29, .int (ghy20_29 + (r_123 + 0)), .ref m12, .ref m13, .ref m14, .ref m15, .ref m16, .ref m17, .ref m18, .int ka, .int iw])), (m11, .inl (cI, 4, .inl fm11_29)), (m3, .inl (cI, 16, .inl mm))] dX10_goEvening_141 inlX10 tyX10 tyX10_ok nmX10 rfl (by decide) wd_429 rfl rfl rfl rfl rfl rfl (Nat.le_of_ble_eq_true rfl) rfl ?_
                  refine x_aload_n C 4 dX10_goEvening_144 rfl rfl ?_
                  refine x_iload_n C 2 dX10_goEvening_145 rfl rfl ?_
                  refine x_callV C [.int ((mp (Int32.toNatClampNeg x1_29)) - 97)] [(m0, .inl (cI, 625, .inl ro)), (m10, .inl (cI, 30, .inl mp)), (m1, .inl (cI, 65, .inl co)), (m4, .inl (cI, 4, .inl mg)), (m5, .inl (cI, 4, .inl mt)), (m7, .inl (cI, 6, .inl wf)), (m8, .inl (cI, 6, .inl wp)), (m9, .inl (cI, 6, .inl wt)), (m3, .inl (cI, 16, .inl mm))] [9, 10, 3] [0, 1, 2, 4, 5, 6, 7, 8, 11] (q0 := 0) (c_X10_tell (xl X) (xD X) (xt X) hT hy m0 m1 m2 m3 m4 m5 m6 m7 m8 m9 m10 m11 m12 m13 m14 m15 m16 m17 m18 fm11_29 ma mw ml mb mz ghy16_29 ghy17_29 ghy18_29 ghy19_29 (ghy20_29 + (r_123 + 0)) ka iw ((mp (Int32.toNatClampNeg x1_29)) - 97) hs9 i_29.1.2 hn9) dX10_goEvening_146 wd_473 wd_474 wd_475 wd_5 wd_476 (np := 1) ⟨by decide, by decide, by decide +kernel⟩ rfl rfl (Nat.le_of_ble_eq_true rfl) (by decide) rfl rfl rfl rfl (by decide) rfl (by decide) (by decide) (fun v W1 h => ?_)
                  obtain ⟨op2_146, rfl, rfl, h_146⟩ := h
                  show V X 6 [(m0, .inl (cI, 625, .inl ro)), (m10, .inl (cI, 30, .inl mp)), (m1, .inl (cI, 65, .inl co)), (m4, .inl (cI, 4, .inl mg)), (m5, .inl (cI, 4, .inl mt)), (m7, .inl (cI, 6, .inl wf)), (m8, .inl (cI, 6, .inl wp)), (m9, .inl (cI, 6, .inl wt)), (m3, .inl (cI, 16, .inl mm)), (hy, .inr (10, [.ref m0, .ref m1, .ref m2, .ref m3, .ref m4, .ref m5, .ref m6, .ref m7, .ref m8, .ref m9, .int mw, .int ml, .int mb, .ref m10, .int mz, .ref m11, .int op2_146, .int ghy17_29, .int ghy18_29, .int ghy19_29, .int ((ghy20_29 + (r_123 + 0))), .ref m12, .ref m13, .ref m14, .ref m15, .ref m16, .ref m17, .ref m18, .int ka, .int iw])), (m11, .inl (cI, 4, .inl (upd fm11_29 (Int32.toNatClampNeg ((mp (Int32.toNatClampNeg x1_29)) - 97)) (fm11_29 (Int32.toNatClampNeg ((mp (Int32.toNatClampNeg x1_29)) - 97)) + 1)))), (m2, .inl (cI, 4, .inl ma))] [(4, .int 0), (3, .int (whyF ma mg mt wf wp wt mw ml fm11_29 ghy16_29 ((mp (Int32.toNatClampNeg x1_29)) - 97) 15 0)), (2, .int ((mp (Int32.toNatClampNeg x1_29)) - 97)), (1, .int x1_29), (0, .ref hy)] [.int (onesF (setI (o1F fm11_29 ghy16_29 ((mp (Int32.toNatClampNeg x1_29)) - 97))))] 149 0 0
                  refine x_istore C [(5, .int (onesF (setI (o1F fm11_29 ghy16_29 ((mp (Int32.toNatClampNeg x1_29)) - 97))))), (4, .int 0), (3, .int (whyF ma mg mt wf wp wt mw ml fm11_29 ghy16_29 ((mp (Int32.toNatClampNeg x1_29)) - 97) 15 0)), (2, .int ((mp (Int32.toNatClampNeg x1_29)) - 97)), (1, .int x1_29), (0, .ref hy)] dX10_goEvening_149 (by decide) rfl ?_
                  refine x_aload_n C 5 dX10_goEvening_151 rfl rfl ?_
                  refine x_iload C 0 dX10_goEvening_152 rfl ?_
                  refine x_aload_n C 5 dX10_goEvening_154 rfl rfl ?_
                  refine x_get C 9 19 dX10_goEvening_155 inlX10 rfl (by decide) wd_428 rfl rfl rfl ?_
                  refine x_icmp_le C 166 dX10_goEvening_158 (by decide) (fun c_158 => ?_) (fun c_158 => ?_)
                  · skip
                    have e_158 : (onesF (setI (o1F fm11_29 ghy16_29 ((mp (Int32.toNatClampNeg x1_29)) - 97))) : Int32).toInt ≤ (ghy19_29 : Int32).toInt := i_le.mp c_158
                    refine x_aload_n C 5 dX10_goEvening_166 rfl rfl ?_
                    refine x_get C 9 19 dX10_goEvening_167 inlX10 rfl (by decide) wd_428 rfl rfl rfl ?_
                    refine x_put C 9 19 (ty := .int) [(m0, .inl (cI, 625, .inl ro)), (m10, .inl (cI, 30, .inl mp)), (m1, .inl (cI, 65, .inl co)), (m4, .inl (cI, 4, .inl mg)), (m5, .inl (cI, 4, .inl mt)), (m7, .inl (cI, 6, .inl wf)), (m8, .inl (cI, 6, .inl wp)), (m9, .inl (cI, 6, .inl wt)), (m3, .inl (cI, 16, .inl mm)), (hy, .inr (10, [.ref m0, .ref m1, .ref m2, .ref m3, .ref m4, .ref m5, .ref m6, .ref m7, .ref m8, .ref m9, .int mw, .int ml, .int mb, .ref m10, .int mz, .ref m11, .int op2_146, .int ghy17_29, .int ghy18_29, .int ghy19_29, .int ((ghy20_29 + (r_123 + 0))), .ref m12, .ref m13, .ref m14, .ref m15, .ref m16, .ref m17, .ref m18, .int ka, .int iw])), (m11, .inl (cI, 4, .inl (upd fm11_29 (Int32.toNatClampNeg ((mp (Int32.toNatClampNeg x1_29)) - 97)) (fm11_29 (Int32.toNatClampNeg ((mp (Int32.toNatClampNeg x1_29)) - 97)) + 1)))), (m2, .inl (cI, 4, .inl ma))] dX10_goEvening_170 inlX10 tyX10 tyX10_ok nmX10 rfl (by decide) wd_428 rfl rfl rfl rfl rfl rfl (Nat.le_of_ble_eq_true rfl) rfl ?_
                    refine x_iinc C 4 (x1_29 + 1) [(1, .int (x1_29 + 1)), (5, .int (onesF (setI (o1F fm11_29 ghy16_29 ((mp (Int32.toNatClampNeg x1_29)) - 97))))), (4, .int 0), (3, .int (whyF ma mg mt wf wp wt mw ml fm11_29 ghy16_29 ((mp (Int32.toNatClampNeg x1_29)) - 97) 15 0)), (2, .int ((mp (Int32.toNatClampNeg x1_29)) - 97)), (0, .ref hy)] dX10_goEvening_173 rfl rfl (by decide) rfl ?_
                    refine x_goto C 29 dX10_goEvening_176 (by decide) ?_
                    refine x_sub [(m2, .inl (cI, 4, .inl ma)), (m4, .inl (cI, 4, .inl mg)), (m5, .inl (cI, 4, .inl mt)), (m7, .inl (cI, 6, .inl wf)), (m8, .inl (cI, 6, .inl wp)), (m9, .inl (cI, 6, .inl wt)), (m0, .inl (cI, 625, .inl ro)), (m3, .inl (cI, 16, .inl mm)), (m10, .inl (cI, 30, .inl mp)), (hy, .inr (10, [.ref m0, .ref m1, .ref m2, .ref m3, .ref m4, .ref m5, .ref m6, .ref m7, .ref m8, .ref m9, .int mw, .int ml, .int mb, .ref m10, .int mz, .ref m11, .int op2_146, .int ghy17_29, .int ghy18_29, .int ghy19_29, .int ((ghy20_29 + (r_123 + 0))), .ref m12, .ref m13, .ref m14, .ref m15, .ref m16, .ref m17, .ref m18, .int ka, .int iw])), (m11, .inl (cI, 4, .inl (upd fm11_29 (Int32.toNatClampNeg ((mp (Int32.toNatClampNeg x1_29)) - 97)) (fm11_29 (Int32.toNatClampNeg ((mp (Int32.toNatClampNeg x1_29)) - 97)) + 1)))), (m1, .inl (cI, 65, .inl co))] [11, 3, 4, 5, 6, 7, 0, 8, 1, 9, 10, 2] (by decide) rfl ?_
                    refine x_lv [(1, .int (x1_29 + 1)), (0, .ref hy)] [0, 5] rfl ?_
                    have : (1 : Int32).toInt = 1 := by decide
                    have := i_add (x := x1_29) (y := 1) (by omega) (by omega)
                    exact ih_29 (x1_29 + 1) op2_146 ghy17_29 ghy18_29 ghy19_29 ((ghy20_29 + (r_123 + 0))) (upd fm11_29 (Int32.toNatClampNeg ((mp (Int32.toNatClampNeg x1_29)) - 97)) (fm11_29 (Int32.toNatClampNeg ((mp (Int32.toNatClampNeg x1_29)) - 97)) + 1)) ⟨⟨by omega, by rw [h_146]; exact i_29.1.2.tell hs9 hn9⟩, GEG.go g9 (s := mp (Int32.toNatClampNeg x1_29) - 97) rfl (by omega) (by omega) h_146 (if_pos c_158).symm (by rw [if_neg (fun h => h.2 (by rw [k9]; exact c_106)), h_123])⟩ (by omega)
                  · skip
                    have e_158 : ¬ ((onesF (setI (o1F fm11_29 ghy16_29 ((mp (Int32.toNatClampNeg x1_29)) - 97))) : Int32).toInt ≤ (ghy19_29 : Int32).toInt) := fun h => c_158 (i_le.mpr h)
                    refine x_iload C 0 dX10_goEvening_161 rfl ?_
                    refine x_goto C 170 dX10_goEvening_163 (by decide) ?_
                    refine x_put C 9 19 (ty := .int) [(m0, .inl (cI, 625, .inl ro)), (m10, .inl (cI, 30, .inl mp)), (m1, .inl (cI, 65, .inl co)), (m4, .inl (cI, 4, .inl mg)), (m5, .inl (cI, 4, .inl mt)), (m7, .inl (cI, 6, .inl wf)), (m8, .inl (cI, 6, .inl wp)), (m9, .inl (cI, 6, .inl wt)), (m3, .inl (cI, 16, .inl mm)), (hy, .inr (10, [.ref m0, .ref m1, .ref m2, .ref m3, .ref m4, .ref m5, .ref m6, .ref m7, .ref m8, .ref m9, .int mw, .int ml, .int mb, .ref m10, .int mz, .ref m11, .int op2_146, .int ghy17_29, .int ghy18_29, .int (onesF (setI (o1F fm11_29 ghy16_29 ((mp (Int32.toNatClampNeg x1_29)) - 97)))), .int ((ghy20_29 + (r_123 + 0))), .ref m12, .ref m13, .ref m14, .ref m15, .ref m16, .ref m17, .ref m18, .int ka, .int iw])), (m11, .inl (cI, 4, .inl (upd fm11_29 (Int32.toNatClampNeg ((mp (Int32.toNatClampNeg x1_29)) - 97)) (fm11_29 (Int32.toNatClampNeg ((mp (Int32.toNatClampNeg x1_29)) - 97)) + 1)))), (m2, .inl (cI, 4, .inl ma))] dX10_goEvening_170 inlX10 tyX10 tyX10_ok nmX10 rfl (by decide) wd_428 rfl rfl rfl rfl rfl rfl (Nat.le_of_ble_eq_true rfl) rfl ?_
                    refine x_iinc C 4 (x1_29 + 1) [(1, .int (x1_29 + 1)), (5, .int (onesF (setI (o1F fm11_29 ghy16_29 ((mp (Int32.toNatClampNeg x1_29)) - 97))))), (4, .int 0), (3, .int (whyF ma mg mt wf wp wt mw ml fm11_29 ghy16_29 ((mp (Int32.toNatClampNeg x1_29)) - 97) 15 0)), (2, .int ((mp (Int32.toNatClampNeg x1_29)) - 97)), (0, .ref hy)] dX10_goEvening_173 rfl rfl (by decide) rfl ?_
                    refine x_goto C 29 dX10_goEvening_176 (by decide) ?_
                    refine x_sub [(m2, .inl (cI, 4, .inl ma)), (m4, .inl (cI, 4, .inl mg)), (m5, .inl (cI, 4, .inl mt)), (m7, .inl (cI, 6, .inl wf)), (m8, .inl (cI, 6, .inl wp)), (m9, .inl (cI, 6, .inl wt)), (m0, .inl (cI, 625, .inl ro)), (m3, .inl (cI, 16, .inl mm)), (m10, .inl (cI, 30, .inl mp)), (hy, .inr (10, [.ref m0, .ref m1, .ref m2, .ref m3, .ref m4, .ref m5, .ref m6, .ref m7, .ref m8, .ref m9, .int mw, .int ml, .int mb, .ref m10, .int mz, .ref m11, .int op2_146, .int ghy17_29, .int ghy18_29, .int (onesF (setI (o1F fm11_29 ghy16_29 ((mp (Int32.toNatClampNeg x1_29)) - 97)))), .int ((ghy20_29 + (r_123 + 0))), .ref m12, .ref m13, .ref m14, .ref m15, .ref m16, .ref m17, .ref m18, .int ka, .int iw])), (m11, .inl (cI, 4, .inl (upd fm11_29 (Int32.toNatClampNeg ((mp (Int32.toNatClampNeg x1_29)) - 97)) (fm11_29 (Int32.toNatClampNeg ((mp (Int32.toNatClampNeg x1_29)) - 97)) + 1)))), (m1, .inl (cI, 65, .inl co))] [11, 3, 4, 5, 6, 7, 0, 8, 1, 9, 10, 2] (by decide) rfl ?_
                    refine x_lv [(1, .int (x1_29 + 1)), (0, .ref hy)] [0, 5] rfl ?_
                    have : (1 : Int32).toInt = 1 := by decide
                    have := i_add (x := x1_29) (y := 1) (by omega) (by omega)
                    exact ih_29 (x1_29 + 1) op2_146 ghy17_29 ghy18_29 (onesF (setI (o1F fm11_29 ghy16_29 ((mp (Int32.toNatClampNeg x1_29)) - 97)))) ((ghy20_29 + (r_123 + 0))) (upd fm11_29 (Int32.toNatClampNeg ((mp (Int32.toNatClampNeg x1_29)) - 97)) (fm11_29 (Int32.toNatClampNeg ((mp (Int32.toNatClampNeg x1_29)) - 97)) + 1)) ⟨⟨by omega, by rw [h_146]; exact i_29.1.2.tell hs9 hn9⟩, GEG.go g9 (s := mp (Int32.toNatClampNeg x1_29) - 97) rfl (by omega) (by omega) h_146 (if_neg c_158).symm (by rw [if_neg (fun h => h.2 (by rw [k9]; exact c_106)), h_123])⟩ (by omega)
                · skip
                  have e_128 : ¬ ((0 : Int32).toInt = (0 : Int32).toInt) := fun h => c_128 (i_eq.mpr h)
                  have : (0 : Int32).toInt = 0 := by decide
                  have : (0 : Int32).toInt = 0 := by decide
                  exfalso
                  omega
              · skip
                have e_106 : ¬ ((mt (Int32.toNatClampNeg ((mp (Int32.toNatClampNeg (x1_29 - 1))) - 97)) : Int32).toInt = (mt (Int32.toNatClampNeg ((mp (Int32.toNatClampNeg x1_29)) - 97)) : Int32).toInt) := fun h => c_106 (i_eq.mpr h)
                refine x_iconst C 1 dX10_goEvening_109 (by decide) ?_
                refine x_goto C 114 dX10_goEvening_110 (by decide) ?_
                refine x_istore C [(4, .int 1), (3, .int (whyF ma mg mt wf wp wt mw ml fm11_29 ghy16_29 ((mp (Int32.toNatClampNeg x1_29)) - 97) 15 0)), (2, .int ((mp (Int32.toNatClampNeg x1_29)) - 97)), (1, .int x1_29), (0, .ref hy)] dX10_goEvening_114 (by decide) rfl ?_
                refine x_aload_n C 4 dX10_goEvening_116 rfl rfl ?_
                refine x_dup C dX10_goEvening_117 rfl ?_
                refine x_get C 4 20 dX10_goEvening_118 inlX10 rfl (by decide) wd_429 rfl rfl rfl ?_
                refine x_aload_n C 4 dX10_goEvening_121 rfl rfl ?_
                refine x_iload_n C 2 dX10_goEvening_122 rfl rfl ?_
                refine x_callV C [.int ((mp (Int32.toNatClampNeg x1_29)) - 97)] [(m0, .inl (cI, 625, .inl ro)), (m10, .inl (cI, 30, .inl mp)), (m1, .inl (cI, 65, .inl co)), (m2, .inl (cI, 4, .inl ma)), (m4, .inl (cI, 4, .inl mg)), (m5, .inl (cI, 4, .inl mt)), (m7, .inl (cI, 6, .inl wf)), (m8, .inl (cI, 6, .inl wp)), (m9, .inl (cI, 6, .inl wt))] [4, 5, 1] [0, 2, 3, 6, 7, 8, 9, 10, 11] (q0 := 0) (c_X10_partMinutes (xl X) (xD X) (xt X) hT hy m0 m1 m2 m3 m4 m5 m6 m7 m8 m9 m10 m11 m12 m13 m14 m15 m16 m17 m18 fm11_29 mm mw ml mb mz ghy16_29 ghy17_29 ghy18_29 ghy19_29 ghy20_29 ka iw ((mp (Int32.toNatClampNeg x1_29)) - 97) hs9 (by omega)) dX10_goEvening_123 wd_469 wd_470 wd_471 wd_5 wd_472 (np := 1) ⟨by decide, by decide, by decide +kernel⟩ rfl rfl (Nat.le_of_ble_eq_true rfl) (by decide) rfl rfl rfl rfl (by decide) rfl (by decide) (by decide) (fun v W1 h => ?_)
                obtain ⟨r_123, rfl, rfl, h_123⟩ := h
                show V X 6 [(m0, .inl (cI, 625, .inl ro)), (m10, .inl (cI, 30, .inl mp)), (m1, .inl (cI, 65, .inl co)), (m2, .inl (cI, 4, .inl ma)), (m4, .inl (cI, 4, .inl mg)), (m5, .inl (cI, 4, .inl mt)), (m7, .inl (cI, 6, .inl wf)), (m8, .inl (cI, 6, .inl wp)), (m9, .inl (cI, 6, .inl wt)), (hy, .inr (10, [.ref m0, .ref m1, .ref m2, .ref m3, .ref m4, .ref m5, .ref m6, .ref m7, .ref m8, .ref m9, .int mw, .int ml, .int mb, .ref m10, .int mz, .ref m11, .int ghy16_29, .int ghy17_29, .int ghy18_29, .int ghy19_29, .int ghy20_29, .ref m12, .ref m13, .ref m14, .ref m15, .ref m16, .ref m17, .ref m18, .int ka, .int iw])), (m11, .inl (cI, 4, .inl fm11_29)), (m3, .inl (cI, 16, .inl mm))] [(4, .int 1), (3, .int (whyF ma mg mt wf wp wt mw ml fm11_29 ghy16_29 ((mp (Int32.toNatClampNeg x1_29)) - 97) 15 0)), (2, .int ((mp (Int32.toNatClampNeg x1_29)) - 97)), (1, .int x1_29), (0, .ref hy)] [.int r_123, .int ghy20_29, .ref hy] 126 0 0
                refine x_iload C 0 dX10_goEvening_126 rfl ?_
                refine x_if_eq C 138 dX10_goEvening_128 (by decide) (fun c_128 => ?_) (fun c_128 => ?_)
                · skip
                  have e_128 : (1 : Int32).toInt = (0 : Int32).toInt := i_eq.mp c_128
                  have : (1 : Int32).toInt = 1 := by decide
                  have : (0 : Int32).toInt = 0 := by decide
                  exfalso
                  omega
                · skip
                  have e_128 : ¬ ((1 : Int32).toInt = (0 : Int32).toInt) := fun h => c_128 (i_eq.mpr h)
                  have : (1 : Int32).toInt = 1 := by decide
                  have : (0 : Int32).toInt = 0 := by decide
                  refine x_aload_n C 4 dX10_goEvening_131 rfl rfl ?_
                  refine x_get C 9 12 dX10_goEvening_132 inlX10 rfl (by decide) wd_348 rfl rfl rfl ?_
                  refine x_goto C 139 dX10_goEvening_135 (by decide) ?_
                  refine x_iadd C dX10_goEvening_139 ?_
                  refine x_iadd C dX10_goEvening_140 ?_
                  refine x_put C 9 20 (ty := .int) [(m0, .inl (cI, 625, .inl ro)), (m10, .inl (cI, 30, .inl mp)), (m1, .inl (cI, 65, .inl co)), (m2, .inl (cI, 4, .inl ma)), (m4, .inl (cI, 4, .inl mg)), (m5, .inl (cI, 4, .inl mt)), (m7, .inl (cI, 6, .inl wf)), (m8, .inl (cI, 6, .inl wp)), (m9, .inl (cI, 6, .inl wt)), (hy, .inr (10, [.ref m0, .ref m1, .ref m2, .ref m3, .ref m4, .ref m5, .ref m6, .ref m7, .ref m8, .ref m9, .int mw, .int ml, .int mb, .ref m10, .int mz, .ref m11, .int ghy16_29, .int ghy17_29, .int ghy18_29, .int ghy19_29, .int (ghy20_29 + (r_123 + mb)), .ref m12, .ref m13, .ref m14, .ref m15, .ref m16, .ref m17, .ref m18, .int ka, .int iw])), (m11, .inl (cI, 4, .inl fm11_29)), (m3, .inl (cI, 16, .inl mm))] dX10_goEvening_141 inlX10 tyX10 tyX10_ok nmX10 rfl (by decide) wd_429 rfl rfl rfl rfl rfl rfl (Nat.le_of_ble_eq_true rfl) rfl ?_
                  refine x_aload_n C 4 dX10_goEvening_144 rfl rfl ?_
                  refine x_iload_n C 2 dX10_goEvening_145 rfl rfl ?_
                  refine x_callV C [.int ((mp (Int32.toNatClampNeg x1_29)) - 97)] [(m0, .inl (cI, 625, .inl ro)), (m10, .inl (cI, 30, .inl mp)), (m1, .inl (cI, 65, .inl co)), (m4, .inl (cI, 4, .inl mg)), (m5, .inl (cI, 4, .inl mt)), (m7, .inl (cI, 6, .inl wf)), (m8, .inl (cI, 6, .inl wp)), (m9, .inl (cI, 6, .inl wt)), (m3, .inl (cI, 16, .inl mm))] [9, 10, 3] [0, 1, 2, 4, 5, 6, 7, 8, 11] (q0 := 0) (c_X10_tell (xl X) (xD X) (xt X) hT hy m0 m1 m2 m3 m4 m5 m6 m7 m8 m9 m10 m11 m12 m13 m14 m15 m16 m17 m18 fm11_29 ma mw ml mb mz ghy16_29 ghy17_29 ghy18_29 ghy19_29 (ghy20_29 + (r_123 + mb)) ka iw ((mp (Int32.toNatClampNeg x1_29)) - 97) hs9 i_29.1.2 hn9) dX10_goEvening_146 wd_473 wd_474 wd_475 wd_5 wd_476 (np := 1) ⟨by decide, by decide, by decide +kernel⟩ rfl rfl (Nat.le_of_ble_eq_true rfl) (by decide) rfl rfl rfl rfl (by decide) rfl (by decide) (by decide) (fun v W1 h => ?_)
                  obtain ⟨op2_146, rfl, rfl, h_146⟩ := h
                  show V X 6 [(m0, .inl (cI, 625, .inl ro)), (m10, .inl (cI, 30, .inl mp)), (m1, .inl (cI, 65, .inl co)), (m4, .inl (cI, 4, .inl mg)), (m5, .inl (cI, 4, .inl mt)), (m7, .inl (cI, 6, .inl wf)), (m8, .inl (cI, 6, .inl wp)), (m9, .inl (cI, 6, .inl wt)), (m3, .inl (cI, 16, .inl mm)), (hy, .inr (10, [.ref m0, .ref m1, .ref m2, .ref m3, .ref m4, .ref m5, .ref m6, .ref m7, .ref m8, .ref m9, .int mw, .int ml, .int mb, .ref m10, .int mz, .ref m11, .int op2_146, .int ghy17_29, .int ghy18_29, .int ghy19_29, .int ((ghy20_29 + (r_123 + mb))), .ref m12, .ref m13, .ref m14, .ref m15, .ref m16, .ref m17, .ref m18, .int ka, .int iw])), (m11, .inl (cI, 4, .inl (upd fm11_29 (Int32.toNatClampNeg ((mp (Int32.toNatClampNeg x1_29)) - 97)) (fm11_29 (Int32.toNatClampNeg ((mp (Int32.toNatClampNeg x1_29)) - 97)) + 1)))), (m2, .inl (cI, 4, .inl ma))] [(4, .int 1), (3, .int (whyF ma mg mt wf wp wt mw ml fm11_29 ghy16_29 ((mp (Int32.toNatClampNeg x1_29)) - 97) 15 0)), (2, .int ((mp (Int32.toNatClampNeg x1_29)) - 97)), (1, .int x1_29), (0, .ref hy)] [.int (onesF (setI (o1F fm11_29 ghy16_29 ((mp (Int32.toNatClampNeg x1_29)) - 97))))] 149 0 0
                  refine x_istore C [(5, .int (onesF (setI (o1F fm11_29 ghy16_29 ((mp (Int32.toNatClampNeg x1_29)) - 97))))), (4, .int 1), (3, .int (whyF ma mg mt wf wp wt mw ml fm11_29 ghy16_29 ((mp (Int32.toNatClampNeg x1_29)) - 97) 15 0)), (2, .int ((mp (Int32.toNatClampNeg x1_29)) - 97)), (1, .int x1_29), (0, .ref hy)] dX10_goEvening_149 (by decide) rfl ?_
                  refine x_aload_n C 5 dX10_goEvening_151 rfl rfl ?_
                  refine x_iload C 0 dX10_goEvening_152 rfl ?_
                  refine x_aload_n C 5 dX10_goEvening_154 rfl rfl ?_
                  refine x_get C 9 19 dX10_goEvening_155 inlX10 rfl (by decide) wd_428 rfl rfl rfl ?_
                  refine x_icmp_le C 166 dX10_goEvening_158 (by decide) (fun c_158 => ?_) (fun c_158 => ?_)
                  · skip
                    have e_158 : (onesF (setI (o1F fm11_29 ghy16_29 ((mp (Int32.toNatClampNeg x1_29)) - 97))) : Int32).toInt ≤ (ghy19_29 : Int32).toInt := i_le.mp c_158
                    refine x_aload_n C 5 dX10_goEvening_166 rfl rfl ?_
                    refine x_get C 9 19 dX10_goEvening_167 inlX10 rfl (by decide) wd_428 rfl rfl rfl ?_
                    refine x_put C 9 19 (ty := .int) [(m0, .inl (cI, 625, .inl ro)), (m10, .inl (cI, 30, .inl mp)), (m1, .inl (cI, 65, .inl co)), (m4, .inl (cI, 4, .inl mg)), (m5, .inl (cI, 4, .inl mt)), (m7, .inl (cI, 6, .inl wf)), (m8, .inl (cI, 6, .inl wp)), (m9, .inl (cI, 6, .inl wt)), (m3, .inl (cI, 16, .inl mm)), (hy, .inr (10, [.ref m0, .ref m1, .ref m2, .ref m3, .ref m4, .ref m5, .ref m6, .ref m7, .ref m8, .ref m9, .int mw, .int ml, .int mb, .ref m10, .int mz, .ref m11, .int op2_146, .int ghy17_29, .int ghy18_29, .int ghy19_29, .int ((ghy20_29 + (r_123 + mb))), .ref m12, .ref m13, .ref m14, .ref m15, .ref m16, .ref m17, .ref m18, .int ka, .int iw])), (m11, .inl (cI, 4, .inl (upd fm11_29 (Int32.toNatClampNeg ((mp (Int32.toNatClampNeg x1_29)) - 97)) (fm11_29 (Int32.toNatClampNeg ((mp (Int32.toNatClampNeg x1_29)) - 97)) + 1)))), (m2, .inl (cI, 4, .inl ma))] dX10_goEvening_170 inlX10 tyX10 tyX10_ok nmX10 rfl (by decide) wd_428 rfl rfl rfl rfl rfl rfl (Nat.le_of_ble_eq_true rfl) rfl ?_
                    refine x_iinc C 4 (x1_29 + 1) [(1, .int (x1_29 + 1)), (5, .int (onesF (setI (o1F fm11_29 ghy16_29 ((mp (Int32.toNatClampNeg x1_29)) - 97))))), (4, .int 1), (3, .int (whyF ma mg mt wf wp wt mw ml fm11_29 ghy16_29 ((mp (Int32.toNatClampNeg x1_29)) - 97) 15 0)), (2, .int ((mp (Int32.toNatClampNeg x1_29)) - 97)), (0, .ref hy)] dX10_goEvening_173 rfl rfl (by decide) rfl ?_
                    refine x_goto C 29 dX10_goEvening_176 (by decide) ?_
                    refine x_sub [(m2, .inl (cI, 4, .inl ma)), (m4, .inl (cI, 4, .inl mg)), (m5, .inl (cI, 4, .inl mt)), (m7, .inl (cI, 6, .inl wf)), (m8, .inl (cI, 6, .inl wp)), (m9, .inl (cI, 6, .inl wt)), (m0, .inl (cI, 625, .inl ro)), (m3, .inl (cI, 16, .inl mm)), (m10, .inl (cI, 30, .inl mp)), (hy, .inr (10, [.ref m0, .ref m1, .ref m2, .ref m3, .ref m4, .ref m5, .ref m6, .ref m7, .ref m8, .ref m9, .int mw, .int ml, .int mb, .ref m10, .int mz, .ref m11, .int op2_146, .int ghy17_29, .int ghy18_29, .int ghy19_29, .int ((ghy20_29 + (r_123 + mb))), .ref m12, .ref m13, .ref m14, .ref m15, .ref m16, .ref m17, .ref m18, .int ka, .int iw])), (m11, .inl (cI, 4, .inl (upd fm11_29 (Int32.toNatClampNeg ((mp (Int32.toNatClampNeg x1_29)) - 97)) (fm11_29 (Int32.toNatClampNeg ((mp (Int32.toNatClampNeg x1_29)) - 97)) + 1)))), (m1, .inl (cI, 65, .inl co))] [11, 3, 4, 5, 6, 7, 0, 8, 1, 9, 10, 2] (by decide) rfl ?_
                    refine x_lv [(1, .int (x1_29 + 1)), (0, .ref hy)] [0, 5] rfl ?_
                    have : (1 : Int32).toInt = 1 := by decide
                    have := i_add (x := x1_29) (y := 1) (by omega) (by omega)
                    exact ih_29 (x1_29 + 1) op2_146 ghy17_29 ghy18_29 ghy19_29 ((ghy20_29 + (r_123 + mb))) (upd fm11_29 (Int32.toNatClampNeg ((mp (Int32.toNatClampNeg x1_29)) - 97)) (fm11_29 (Int32.toNatClampNeg ((mp (Int32.toNatClampNeg x1_29)) - 97)) + 1)) ⟨⟨by omega, by rw [h_146]; exact i_29.1.2.tell hs9 hn9⟩, GEG.go g9 (s := mp (Int32.toNatClampNeg x1_29) - 97) rfl (by omega) (by omega) h_146 (if_pos c_158).symm (by rw [if_pos ⟨by omega, by rw [k9]; exact c_106⟩, h_123])⟩ (by omega)
                  · skip
                    have e_158 : ¬ ((onesF (setI (o1F fm11_29 ghy16_29 ((mp (Int32.toNatClampNeg x1_29)) - 97))) : Int32).toInt ≤ (ghy19_29 : Int32).toInt) := fun h => c_158 (i_le.mpr h)
                    refine x_iload C 0 dX10_goEvening_161 rfl ?_
                    refine x_goto C 170 dX10_goEvening_163 (by decide) ?_
                    refine x_put C 9 19 (ty := .int) [(m0, .inl (cI, 625, .inl ro)), (m10, .inl (cI, 30, .inl mp)), (m1, .inl (cI, 65, .inl co)), (m4, .inl (cI, 4, .inl mg)), (m5, .inl (cI, 4, .inl mt)), (m7, .inl (cI, 6, .inl wf)), (m8, .inl (cI, 6, .inl wp)), (m9, .inl (cI, 6, .inl wt)), (m3, .inl (cI, 16, .inl mm)), (hy, .inr (10, [.ref m0, .ref m1, .ref m2, .ref m3, .ref m4, .ref m5, .ref m6, .ref m7, .ref m8, .ref m9, .int mw, .int ml, .int mb, .ref m10, .int mz, .ref m11, .int op2_146, .int ghy17_29, .int ghy18_29, .int (onesF (setI (o1F fm11_29 ghy16_29 ((mp (Int32.toNatClampNeg x1_29)) - 97)))), .int ((ghy20_29 + (r_123 + mb))), .ref m12, .ref m13, .ref m14, .ref m15, .ref m16, .ref m17, .ref m18, .int ka, .int iw])), (m11, .inl (cI, 4, .inl (upd fm11_29 (Int32.toNatClampNeg ((mp (Int32.toNatClampNeg x1_29)) - 97)) (fm11_29 (Int32.toNatClampNeg ((mp (Int32.toNatClampNeg x1_29)) - 97)) + 1)))), (m2, .inl (cI, 4, .inl ma))] dX10_goEvening_170 inlX10 tyX10 tyX10_ok nmX10 rfl (by decide) wd_428 rfl rfl rfl rfl rfl rfl (Nat.le_of_ble_eq_true rfl) rfl ?_
                    refine x_iinc C 4 (x1_29 + 1) [(1, .int (x1_29 + 1)), (5, .int (onesF (setI (o1F fm11_29 ghy16_29 ((mp (Int32.toNatClampNeg x1_29)) - 97))))), (4, .int 1), (3, .int (whyF ma mg mt wf wp wt mw ml fm11_29 ghy16_29 ((mp (Int32.toNatClampNeg x1_29)) - 97) 15 0)), (2, .int ((mp (Int32.toNatClampNeg x1_29)) - 97)), (0, .ref hy)] dX10_goEvening_173 rfl rfl (by decide) rfl ?_
                    refine x_goto C 29 dX10_goEvening_176 (by decide) ?_
                    refine x_sub [(m2, .inl (cI, 4, .inl ma)), (m4, .inl (cI, 4, .inl mg)), (m5, .inl (cI, 4, .inl mt)), (m7, .inl (cI, 6, .inl wf)), (m8, .inl (cI, 6, .inl wp)), (m9, .inl (cI, 6, .inl wt)), (m0, .inl (cI, 625, .inl ro)), (m3, .inl (cI, 16, .inl mm)), (m10, .inl (cI, 30, .inl mp)), (hy, .inr (10, [.ref m0, .ref m1, .ref m2, .ref m3, .ref m4, .ref m5, .ref m6, .ref m7, .ref m8, .ref m9, .int mw, .int ml, .int mb, .ref m10, .int mz, .ref m11, .int op2_146, .int ghy17_29, .int ghy18_29, .int (onesF (setI (o1F fm11_29 ghy16_29 ((mp (Int32.toNatClampNeg x1_29)) - 97)))), .int ((ghy20_29 + (r_123 + mb))), .ref m12, .ref m13, .ref m14, .ref m15, .ref m16, .ref m17, .ref m18, .int ka, .int iw])), (m11, .inl (cI, 4, .inl (upd fm11_29 (Int32.toNatClampNeg ((mp (Int32.toNatClampNeg x1_29)) - 97)) (fm11_29 (Int32.toNatClampNeg ((mp (Int32.toNatClampNeg x1_29)) - 97)) + 1)))), (m1, .inl (cI, 65, .inl co))] [11, 3, 4, 5, 6, 7, 0, 8, 1, 9, 10, 2] (by decide) rfl ?_
                    refine x_lv [(1, .int (x1_29 + 1)), (0, .ref hy)] [0, 5] rfl ?_
                    have : (1 : Int32).toInt = 1 := by decide
                    have := i_add (x := x1_29) (y := 1) (by omega) (by omega)
                    exact ih_29 (x1_29 + 1) op2_146 ghy17_29 ghy18_29 (onesF (setI (o1F fm11_29 ghy16_29 ((mp (Int32.toNatClampNeg x1_29)) - 97)))) ((ghy20_29 + (r_123 + mb))) (upd fm11_29 (Int32.toNatClampNeg ((mp (Int32.toNatClampNeg x1_29)) - 97)) (fm11_29 (Int32.toNatClampNeg ((mp (Int32.toNatClampNeg x1_29)) - 97)) + 1)) ⟨⟨by omega, by rw [h_146]; exact i_29.1.2.tell hs9 hn9⟩, GEG.go g9 (s := mp (Int32.toNatClampNeg x1_29) - 97) rfl (by omega) (by omega) h_146 (if_neg c_158).symm (by rw [if_pos ⟨by omega, by rw [k9]; exact c_106⟩, h_123])⟩ (by omega)
          · skip
            have e_64 : ¬ ((whyF ma mg mt wf wp wt mw ml fm11_29 ghy16_29 ((mp (Int32.toNatClampNeg x1_29)) - 97) 15 0 : Int32).toInt < (0 : Int32).toInt) := fun h => c_64 (i_lt.mpr h)
            have : (0 : Int32).toInt = 0 := by decide
            refine x_aload_n C 3 dX10_goEvening_67 rfl rfl ?_
            refine x_iload_n C 2 dX10_goEvening_68 rfl rfl ?_
            refine x_put C 4 17 (ty := .int) [(m0, .inl (cI, 625, .inl ro)), (m3, .inl (cI, 16, .inl mm)), (m10, .inl (cI, 30, .inl mp)), (m1, .inl (cI, 65, .inl co)), (hy, .inr (10, [.ref m0, .ref m1, .ref m2, .ref m3, .ref m4, .ref m5, .ref m6, .ref m7, .ref m8, .ref m9, .int mw, .int ml, .int mb, .ref m10, .int mz, .ref m11, .int ghy16_29, .int x1_29, .int ghy18_29, .int ghy19_29, .int ghy20_29, .ref m12, .ref m13, .ref m14, .ref m15, .ref m16, .ref m17, .ref m18, .int ka, .int iw])), (m11, .inl (cI, 4, .inl fm11_29)), (m2, .inl (cI, 4, .inl ma)), (m4, .inl (cI, 4, .inl mg)), (m5, .inl (cI, 4, .inl mt)), (m7, .inl (cI, 6, .inl wf)), (m8, .inl (cI, 6, .inl wp)), (m9, .inl (cI, 6, .inl wt))] dX10_goEvening_69 inlX10 tyX10 tyX10_ok nmX10 rfl (by decide) wd_421 rfl rfl rfl rfl rfl rfl (Nat.le_of_ble_eq_true rfl) rfl ?_
            refine x_aload_n C 3 dX10_goEvening_72 rfl rfl ?_
            refine x_iload_n C 0 dX10_goEvening_73 rfl rfl ?_
            refine x_put C 4 18 (ty := .int) [(m0, .inl (cI, 625, .inl ro)), (m3, .inl (cI, 16, .inl mm)), (m10, .inl (cI, 30, .inl mp)), (m1, .inl (cI, 65, .inl co)), (hy, .inr (10, [.ref m0, .ref m1, .ref m2, .ref m3, .ref m4, .ref m5, .ref m6, .ref m7, .ref m8, .ref m9, .int mw, .int ml, .int mb, .ref m10, .int mz, .ref m11, .int ghy16_29, .int x1_29, .int (whyF ma mg mt wf wp wt mw ml fm11_29 ghy16_29 ((mp (Int32.toNatClampNeg x1_29)) - 97) 15 0), .int ghy19_29, .int ghy20_29, .ref m12, .ref m13, .ref m14, .ref m15, .ref m16, .ref m17, .ref m18, .int ka, .int iw])), (m11, .inl (cI, 4, .inl fm11_29)), (m2, .inl (cI, 4, .inl ma)), (m4, .inl (cI, 4, .inl mg)), (m5, .inl (cI, 4, .inl mt)), (m7, .inl (cI, 6, .inl wf)), (m8, .inl (cI, 6, .inl wp)), (m9, .inl (cI, 6, .inl wt))] dX10_goEvening_74 inlX10 tyX10 tyX10_ok nmX10 rfl (by decide) wd_422 rfl rfl rfl rfl rfl rfl (Nat.le_of_ble_eq_true rfl) rfl ?_
            refine x_goto C 173 dX10_goEvening_77 (by decide) ?_
            refine x_iinc C 2 (x1_29 + 1) [(1, .int (x1_29 + 1)), (3, .int (whyF ma mg mt wf wp wt mw ml fm11_29 ghy16_29 ((mp (Int32.toNatClampNeg x1_29)) - 97) 15 0)), (2, .int ((mp (Int32.toNatClampNeg x1_29)) - 97)), (0, .ref hy)] dX10_goEvening_173 rfl rfl (by decide) rfl ?_
            refine x_goto C 29 dX10_goEvening_176 (by decide) ?_
            refine x_sub [(m2, .inl (cI, 4, .inl ma)), (m4, .inl (cI, 4, .inl mg)), (m5, .inl (cI, 4, .inl mt)), (m7, .inl (cI, 6, .inl wf)), (m8, .inl (cI, 6, .inl wp)), (m9, .inl (cI, 6, .inl wt)), (m0, .inl (cI, 625, .inl ro)), (m3, .inl (cI, 16, .inl mm)), (m10, .inl (cI, 30, .inl mp)), (hy, .inr (10, [.ref m0, .ref m1, .ref m2, .ref m3, .ref m4, .ref m5, .ref m6, .ref m7, .ref m8, .ref m9, .int mw, .int ml, .int mb, .ref m10, .int mz, .ref m11, .int ghy16_29, .int x1_29, .int (whyF ma mg mt wf wp wt mw ml fm11_29 ghy16_29 ((mp (Int32.toNatClampNeg x1_29)) - 97) 15 0), .int ghy19_29, .int ghy20_29, .ref m12, .ref m13, .ref m14, .ref m15, .ref m16, .ref m17, .ref m18, .int ka, .int iw])), (m11, .inl (cI, 4, .inl fm11_29)), (m1, .inl (cI, 65, .inl co))] [6, 7, 8, 9, 10, 11, 0, 1, 2, 4, 5, 3] (by decide) rfl ?_
            refine x_lv [(1, .int (x1_29 + 1)), (0, .ref hy)] [0, 3] rfl ?_
            have : (1 : Int32).toInt = 1 := by decide
            have := i_add (x := x1_29) (y := 1) (by omega) (by omega)
            exact ih_29 (x1_29 + 1) ghy16_29 x1_29 (whyF ma mg mt wf wp wt mw ml fm11_29 ghy16_29 ((mp (Int32.toNatClampNeg x1_29)) - 97) 15 0) ghy19_29 ghy20_29 fm11_29 ⟨⟨by omega, i_29.1.2⟩, GEG.bad g9 (s := mp (Int32.toNatClampNeg x1_29) - 97) rfl (by omega) (nI_sl (by omega)) (by omega) rfl (by omega)⟩ (by omega)
  have : (0 : Int32).toInt = 0 := by decide
  have : ((-6) : Int32).toInt = -6 := by decide
  have : ((-6) : Int32).toInt = -6 := by decide
  have : (0 : Int32).toInt = 0 := by decide
  have : (0 : Int32).toInt = 0 := by decide
  exact L_29 _ 0 (opS co 0) ((-6)) ((-6)) 0 0 (tds 0) ⟨⟨by omega, GS.z hpa hR.2.1⟩, by rw [t0_]; exact GEI.ini⟩ (Nat.lt_succ_self _)
abbrev rm_X10_judge : Room := { frames := 4, cells := 0, slots := 0, locals := 96 }
set_option maxHeartbeats 4000000 in
set_option maxRecDepth 100000 in
theorem c_X10_judge (l : Launch) (D : va_G) (tys : List (ClassId × FieldType)) {cI cJ cZ cB : ClassId} (hT : Ty tys cI cJ cZ cB) (hy m0 m1 m2 m3 m4 m5 m6 m7 m8 m9 m10 m11 m12 m13 m14 m15 m16 m17 m18 : Nat) (tl ma mg mt wf wp wt ro co mm mp : Nat → Int32) (mw ml mb mz op bp by0 dp tk ka iw : Int32) (x : Int32) (hR : RT co ro) (hpa : POk ma) (hmw : 0 ≤ mw.toInt ∧ mw.toInt ≤ 6) (hwt : SOk wt) (hz : 0 ≤ mz.toInt ∧ mz.toInt ≤ 30) : Cn l D tys yX10_judge cX10_judge 2 (some .int) rm_X10_judge [(hy, .inr (10, [.ref m0, .ref m1, .ref m2, .ref m3, .ref m4, .ref m5, .ref m6, .ref m7, .ref m8, .ref m9, .int mw, .int ml, .int mb, .ref m10, .int mz, .ref m11, .int op, .int bp, .int by0, .int dp, .int tk, .ref m12, .ref m13, .ref m14, .ref m15, .ref m16, .ref m17, .ref m18, .int ka, .int iw])), (m11, .inl (cI, 4, .inl tl)), (m2, .inl (cI, 4, .inl ma)), (m4, .inl (cI, 4, .inl mg)), (m5, .inl (cI, 4, .inl mt)), (m7, .inl (cI, 6, .inl wf)), (m8, .inl (cI, 6, .inl wp)), (m9, .inl (cI, 6, .inl wt)), (m0, .inl (cI, 625, .inl ro)), (m1, .inl (cI, 65, .inl co)), (m3, .inl (cI, 16, .inl mm)), (m10, .inl (cI, 30, .inl mp))] [.ref hy, .int x] (fun v W1 => ∃ (r : Int32) (tl2 : Nat → Int32) (op2 bp2 by2 dp2 tk2 : Int32), v = some (.int r) ∧ W1 = [(hy, .inr (10, [.ref m0, .ref m1, .ref m2, .ref m3, .ref m4, .ref m5, .ref m6, .ref m7, .ref m8, .ref m9, .int mw, .int ml, .int mb, .ref m10, .int mz, .ref m11, .int op2, .int bp2, .int by2, .int dp2, .int tk2, .ref m12, .ref m13, .ref m14, .ref m15, .ref m16, .ref m17, .ref m18, .int ka, .int iw])), (m11, .inl (cI, 4, .inl tl2)), (m2, .inl (cI, 4, .inl ma)), (m4, .inl (cI, 4, .inl mg)), (m5, .inl (cI, 4, .inl mt)), (m7, .inl (cI, 6, .inl wf)), (m8, .inl (cI, 6, .inl wp)), (m9, .inl (cI, 6, .inl wt)), (m0, .inl (cI, 625, .inl ro)), (m1, .inl (cI, 65, .inl co)), (m3, .inl (cI, 16, .inl mm)), (m10, .inl (cI, 30, .inl mp))] ∧ ((¬ (0 ≤ x.toInt ∧ x.toInt ≤ 1) ∧ r = -2) ∨ ((0 ≤ x.toInt ∧ x.toInt ≤ 1) ∧ ((¬ rfZ mp 97 100 mz = -6 ∧ r = -5) ∨ (rfZ mp 97 100 mz = -6 ∧ GEV ma mg mt mm wf wp wt mw ml mb co mp mz.toInt.toNat op2 bp2 by2 dp2 tk2 ∧ ((x.toInt = 0 ∧ r = bp2) ∨ (x.toInt = 1 ∧ r = by2))))))) := by
  refine Cn.of (by decide) (Nat.le_of_ble_eq_true rfl) ?_ ?_ (fun X eL eD eT eO eK eN eM C => ?_)
  · intro h; cases h
  · intro v ws h; obtain ⟨_, _, _, _, _, _, _, rfl, rfl, _⟩ := h; exact Or.inl rfl
  subst eL eD eT
  show V X 2 [(hy, .inr (10, [.ref m0, .ref m1, .ref m2, .ref m3, .ref m4, .ref m5, .ref m6, .ref m7, .ref m8, .ref m9, .int mw, .int ml, .int mb, .ref m10, .int mz, .ref m11, .int op, .int bp, .int by0, .int dp, .int tk, .ref m12, .ref m13, .ref m14, .ref m15, .ref m16, .ref m17, .ref m18, .int ka, .int iw])), (m11, .inl (cI, 4, .inl tl)), (m2, .inl (cI, 4, .inl ma)), (m4, .inl (cI, 4, .inl mg)), (m5, .inl (cI, 4, .inl mt)), (m7, .inl (cI, 6, .inl wf)), (m8, .inl (cI, 6, .inl wp)), (m9, .inl (cI, 6, .inl wt)), (m0, .inl (cI, 625, .inl ro)), (m1, .inl (cI, 65, .inl co)), (m3, .inl (cI, 16, .inl mm)), (m10, .inl (cI, 30, .inl mp))] [(0, .ref hy), (1, .int x)] [] 0 0 0
  refine x_iload_n C 1 dX10_judge_0 rfl rfl ?_
  refine x_i2l C dX10_judge_1 ?_
  refine x_lconst C 0 dX10_judge_2 (by decide) ?_
  refine x_lconst C 1 dX10_judge_3 (by decide) ?_
  refine x_callS C [.long (Int32.toInt64 x), .long 0, .long 1] [(hy, .inr (10, [.ref m0, .ref m1, .ref m2, .ref m3, .ref m4, .ref m5, .ref m6, .ref m7, .ref m8, .ref m9, .int mw, .int ml, .int mb, .ref m10, .int mz, .ref m11, .int op, .int bp, .int by0, .int dp, .int tk, .ref m12, .ref m13, .ref m14, .ref m15, .ref m16, .ref m17, .ref m18, .int ka, .int iw])), (m11, .inl (cI, 4, .inl tl)), (m2, .inl (cI, 4, .inl ma)), (m4, .inl (cI, 4, .inl mg)), (m5, .inl (cI, 4, .inl mt)), (m7, .inl (cI, 6, .inl wf)), (m8, .inl (cI, 6, .inl wp)), (m9, .inl (cI, 6, .inl wt)), (m0, .inl (cI, 625, .inl ro)), (m1, .inl (cI, 65, .inl co)), (m3, .inl (cI, 16, .inl mm)), (m10, .inl (cI, 30, .inl mp))] [] [0, 1, 2, 3, 4, 5, 6, 7, 8, 9, 10, 11] (c_X10_in (xl X) (xD X) (xt X) hT (Int32.toInt64 x) 0 1 ) dX10_judge_4 wd_167 wd_168 wd_5 wd_169 (np := 3) ⟨by decide, by decide, by decide +kernel⟩ rfl rfl (Nat.le_of_ble_eq_true rfl) (by decide) rfl (by decide) rfl (by decide) (by decide) (fun v W1 h => ?_)
  obtain ⟨r_4, rfl, rfl, h_4⟩ := h
  have : (Int32.toInt64 x : Int64).toInt = (x : Int32).toInt := Int32.toInt_toInt64 _
  have : (0 : Int64).toInt = 0 := by decide
  have : (1 : Int64).toInt = 1 := by decide
  show V X 2 [(hy, .inr (10, [.ref m0, .ref m1, .ref m2, .ref m3, .ref m4, .ref m5, .ref m6, .ref m7, .ref m8, .ref m9, .int mw, .int ml, .int mb, .ref m10, .int mz, .ref m11, .int op, .int bp, .int by0, .int dp, .int tk, .ref m12, .ref m13, .ref m14, .ref m15, .ref m16, .ref m17, .ref m18, .int ka, .int iw])), (m11, .inl (cI, 4, .inl tl)), (m2, .inl (cI, 4, .inl ma)), (m4, .inl (cI, 4, .inl mg)), (m5, .inl (cI, 4, .inl mt)), (m7, .inl (cI, 6, .inl wf)), (m8, .inl (cI, 6, .inl wp)), (m9, .inl (cI, 6, .inl wt)), (m0, .inl (cI, 625, .inl ro)), (m1, .inl (cI, 65, .inl co)), (m3, .inl (cI, 16, .inl mm)), (m10, .inl (cI, 30, .inl mp))] [(0, .ref hy), (1, .int x)] [.int r_4] 7 0 0
  refine x_if_ne C 13 dX10_judge_7 (by decide) (fun c_7 => ?_) (fun c_7 => ?_)
  · skip
    have e_7 : ¬ ((r_4 : Int32).toInt = (0 : Int32).toInt) := fun h => c_7 (i_eq.mpr h)
    have : (0 : Int32).toInt = 0 := by decide
    refine x_aload_n C 0 dX10_judge_13 rfl rfl ?_
    refine x_iconst C 1 dX10_judge_14 (by decide) ?_
    refine x_callV C [.int 1] [(m11, .inl (cI, 4, .inl tl)), (m2, .inl (cI, 4, .inl ma)), (m4, .inl (cI, 4, .inl mg)), (m5, .inl (cI, 4, .inl mt)), (m7, .inl (cI, 6, .inl wf)), (m8, .inl (cI, 6, .inl wp)), (m9, .inl (cI, 6, .inl wt)), (m0, .inl (cI, 625, .inl ro)), (m1, .inl (cI, 65, .inl co)), (m3, .inl (cI, 16, .inl mm))] [0, 11] [1, 2, 3, 4, 5, 6, 7, 8, 9, 10] (q0 := 0) (c_X10_fault (xl X) (xD X) (xt X) hT hy m0 m1 m2 m3 m4 m5 m6 m7 m8 m9 m10 m11 m12 m13 m14 m15 m16 m17 m18 mp mw ml mb mz op bp by0 dp tk ka iw 1 hz) dX10_judge_15 wd_423 wd_202 wd_203 wd_5 wd_204 (np := 1) ⟨by decide, by decide, by decide +kernel⟩ rfl rfl (Nat.le_of_ble_eq_true rfl) (by decide) rfl rfl rfl rfl (by decide) rfl (by decide) (by decide) (fun v W1 h => ?_)
    obtain ⟨r_15, rfl, rfl, h_15⟩ := h
    have : (1 : Int32).toInt = 1 := by decide
    show V X 2 [(m11, .inl (cI, 4, .inl tl)), (m2, .inl (cI, 4, .inl ma)), (m4, .inl (cI, 4, .inl mg)), (m5, .inl (cI, 4, .inl mt)), (m7, .inl (cI, 6, .inl wf)), (m8, .inl (cI, 6, .inl wp)), (m9, .inl (cI, 6, .inl wt)), (m0, .inl (cI, 625, .inl ro)), (m1, .inl (cI, 65, .inl co)), (m3, .inl (cI, 16, .inl mm)), (hy, .inr (10, [.ref m0, .ref m1, .ref m2, .ref m3, .ref m4, .ref m5, .ref m6, .ref m7, .ref m8, .ref m9, .int mw, .int ml, .int mb, .ref m10, .int mz, .ref m11, .int op, .int bp, .int by0, .int dp, .int tk, .ref m12, .ref m13, .ref m14, .ref m15, .ref m16, .ref m17, .ref m18, .int ka, .int iw])), (m10, .inl (cI, 30, .inl mp))] [(0, .ref hy), (1, .int x)] [.int r_15] 18 0 0
    refine x_if_lt C 24 dX10_judge_18 (by decide) (fun c_18 => ?_) (fun c_18 => ?_)
    · skip
      have e_18 : (r_15 : Int32).toInt < (0 : Int32).toInt := i_lt.mp c_18
      have : (0 : Int32).toInt = 0 := by decide
      refine x_aload_n C 0 dX10_judge_24 rfl rfl ?_
      refine x_callV C [] [] [10, 0, 1, 2, 3, 4, 5, 6, 7, 8, 9, 11] [] (q0 := 0) (c_X10_goEvening (xl X) (xD X) (xt X) hT hy m0 m1 m2 m3 m4 m5 m6 m7 m8 m9 m10 m11 m12 m13 m14 m15 m16 m17 m18 tl ma mg mt wf wp wt ro co mm mp mw ml mb mz op bp by0 dp tk ka iw hR hpa hmw hwt hz (FR_of (h_15.2.1 (by omega)) hz (by omega))) dX10_judge_25 wd_424 wd_425 wd_426 wd_5 wd_427 (np := 0) ⟨by decide, by decide, by decide +kernel⟩ rfl rfl (Nat.le_of_ble_eq_true rfl) (by decide) rfl rfl rfl rfl (by decide) rfl (by decide) (by decide) (fun v W1 h => ?_)
      obtain ⟨tl2_25, op2_25, bp2_25, by2_25, dp2_25, tk2_25, rfl, rfl, h_25⟩ := h
      show V X 2 [(hy, .inr (10, [.ref m0, .ref m1, .ref m2, .ref m3, .ref m4, .ref m5, .ref m6, .ref m7, .ref m8, .ref m9, .int mw, .int ml, .int mb, .ref m10, .int mz, .ref m11, .int op2_25, .int bp2_25, .int by2_25, .int dp2_25, .int tk2_25, .ref m12, .ref m13, .ref m14, .ref m15, .ref m16, .ref m17, .ref m18, .int ka, .int iw])), (m11, .inl (cI, 4, .inl tl2_25)), (m2, .inl (cI, 4, .inl ma)), (m4, .inl (cI, 4, .inl mg)), (m5, .inl (cI, 4, .inl mt)), (m7, .inl (cI, 6, .inl wf)), (m8, .inl (cI, 6, .inl wp)), (m9, .inl (cI, 6, .inl wt)), (m0, .inl (cI, 625, .inl ro)), (m1, .inl (cI, 65, .inl co)), (m3, .inl (cI, 16, .inl mm)), (m10, .inl (cI, 30, .inl mp))] [(0, .ref hy), (1, .int x)] [] 28 0 0
      refine x_iload_n C 1 dX10_judge_28 rfl rfl ?_
      refine x_if_ne C 39 dX10_judge_29 (by decide) (fun c_29 => ?_) (fun c_29 => ?_)
      · skip
        have e_29 : ¬ ((x : Int32).toInt = (0 : Int32).toInt) := fun h => c_29 (i_eq.mpr h)
        have : (0 : Int32).toInt = 0 := by decide
        refine x_aload_n C 0 dX10_judge_39 rfl rfl ?_
        refine x_get C 0 18 dX10_judge_40 inlX10 rfl (by decide) wd_422 rfl rfl rfl ?_
        exact x_iret C dX10_judge_43 (Nat.zero_le _) (Nat.zero_le _) (by rw [eO]; exact ⟨by2_25, tl2_25, op2_25, bp2_25, by2_25, dp2_25, tk2_25, rfl, rfl, (Or.inr ⟨by omega, Or.inr ⟨(rf_m6 (h_15.2.1 (by omega)) (by omega)), h_25.2, Or.inr ⟨by omega, rfl⟩⟩⟩)⟩)
      · skip
        have e_29 : (x : Int32).toInt = (0 : Int32).toInt := i_eq.mp c_29
        have : (0 : Int32).toInt = 0 := by decide
        refine x_aload_n C 0 dX10_judge_32 rfl rfl ?_
        refine x_get C 0 17 dX10_judge_33 inlX10 rfl (by decide) wd_421 rfl rfl rfl ?_
        refine x_goto C 43 dX10_judge_36 (by decide) ?_
        exact x_iret C dX10_judge_43 (Nat.zero_le _) (Nat.zero_le _) (by rw [eO]; exact ⟨bp2_25, tl2_25, op2_25, bp2_25, by2_25, dp2_25, tk2_25, rfl, rfl, (Or.inr ⟨by omega, Or.inr ⟨(rf_m6 (h_15.2.1 (by omega)) (by omega)), h_25.2, Or.inl ⟨by omega, rfl⟩⟩⟩)⟩)
    · skip
      have e_18 : ¬ ((r_15 : Int32).toInt < (0 : Int32).toInt) := fun h => c_18 (i_lt.mpr h)
      have : (0 : Int32).toInt = 0 := by decide
      refine x_bipush C (-5) dX10_judge_21 (by decide) ?_
      refine x_sub [(hy, .inr (10, [.ref m0, .ref m1, .ref m2, .ref m3, .ref m4, .ref m5, .ref m6, .ref m7, .ref m8, .ref m9, .int mw, .int ml, .int mb, .ref m10, .int mz, .ref m11, .int op, .int bp, .int by0, .int dp, .int tk, .ref m12, .ref m13, .ref m14, .ref m15, .ref m16, .ref m17, .ref m18, .int ka, .int iw])), (m11, .inl (cI, 4, .inl tl)), (m2, .inl (cI, 4, .inl ma)), (m4, .inl (cI, 4, .inl mg)), (m5, .inl (cI, 4, .inl mt)), (m7, .inl (cI, 6, .inl wf)), (m8, .inl (cI, 6, .inl wp)), (m9, .inl (cI, 6, .inl wt)), (m0, .inl (cI, 625, .inl ro)), (m1, .inl (cI, 65, .inl co)), (m3, .inl (cI, 16, .inl mm)), (m10, .inl (cI, 30, .inl mp))] [10, 0, 1, 2, 3, 4, 5, 6, 7, 8, 9, 11] (by decide) rfl ?_
      have : ((-5) : Int32).toInt = -5 := by decide
      exact x_iret C dX10_judge_23 (Nat.zero_le _) (Nat.zero_le _) (by rw [eO]; exact ⟨((-5)), tl, op, bp, by0, dp, tk, rfl, rfl, (Or.inr ⟨by omega, Or.inl ⟨fun h => by have h9 := congrArg Int32.toInt ((h_15.2.1 (by omega)).trans h); rw [tm6_] at h9; omega, rfl⟩⟩)⟩)
  · skip
    have e_7 : (r_4 : Int32).toInt = (0 : Int32).toInt := i_eq.mp c_7
    have : (0 : Int32).toInt = 0 := by decide
    refine x_bipush C (-2) dX10_judge_10 (by decide) ?_
    have : ((-2) : Int32).toInt = -2 := by decide
    exact x_iret C dX10_judge_12 (Nat.zero_le _) (Nat.zero_le _) (by rw [eO]; exact ⟨((-2)), tl, op, bp, by0, dp, tk, rfl, rfl, (Or.inl ⟨by omega, rfl⟩)⟩)
abbrev rm_X10_evening : Room := { frames := 4, cells := 0, slots := 0, locals := 96 }
set_option maxHeartbeats 4000000 in
set_option maxRecDepth 100000 in
theorem c_X10_evening (l : Launch) (D : va_G) (tys : List (ClassId × FieldType)) {cI cJ cZ cB : ClassId} (hT : Ty tys cI cJ cZ cB) (hy m0 m1 m2 m3 m4 m5 m6 m7 m8 m9 m10 m11 m12 m13 m14 m15 m16 m17 m18 : Nat) (tl ma mg mt wf wp wt ro co mm mp : Nat → Int32) (mw ml mb mz op bp by0 dp tk ka iw : Int32) (x : Int32) (hR : RT co ro) (hpa : POk ma) (hmw : 0 ≤ mw.toInt ∧ mw.toInt ≤ 6) (hwt : SOk wt) (hz : 0 ≤ mz.toInt ∧ mz.toInt ≤ 30) : Cn l D tys yX10_evening cX10_evening 2 (some .int) rm_X10_evening [(hy, .inr (10, [.ref m0, .ref m1, .ref m2, .ref m3, .ref m4, .ref m5, .ref m6, .ref m7, .ref m8, .ref m9, .int mw, .int ml, .int mb, .ref m10, .int mz, .ref m11, .int op, .int bp, .int by0, .int dp, .int tk, .ref m12, .ref m13, .ref m14, .ref m15, .ref m16, .ref m17, .ref m18, .int ka, .int iw])), (m11, .inl (cI, 4, .inl tl)), (m2, .inl (cI, 4, .inl ma)), (m4, .inl (cI, 4, .inl mg)), (m5, .inl (cI, 4, .inl mt)), (m7, .inl (cI, 6, .inl wf)), (m8, .inl (cI, 6, .inl wp)), (m9, .inl (cI, 6, .inl wt)), (m0, .inl (cI, 625, .inl ro)), (m1, .inl (cI, 65, .inl co)), (m3, .inl (cI, 16, .inl mm)), (m10, .inl (cI, 30, .inl mp))] [.ref hy, .int x] (fun v W1 => ∃ (r : Int32) (tl2 : Nat → Int32) (op2 bp2 by2 dp2 tk2 : Int32), v = some (.int r) ∧ W1 = [(hy, .inr (10, [.ref m0, .ref m1, .ref m2, .ref m3, .ref m4, .ref m5, .ref m6, .ref m7, .ref m8, .ref m9, .int mw, .int ml, .int mb, .ref m10, .int mz, .ref m11, .int op2, .int bp2, .int by2, .int dp2, .int tk2, .ref m12, .ref m13, .ref m14, .ref m15, .ref m16, .ref m17, .ref m18, .int ka, .int iw])), (m11, .inl (cI, 4, .inl tl2)), (m2, .inl (cI, 4, .inl ma)), (m4, .inl (cI, 4, .inl mg)), (m5, .inl (cI, 4, .inl mt)), (m7, .inl (cI, 6, .inl wf)), (m8, .inl (cI, 6, .inl wp)), (m9, .inl (cI, 6, .inl wt)), (m0, .inl (cI, 625, .inl ro)), (m1, .inl (cI, 65, .inl co)), (m3, .inl (cI, 16, .inl mm)), (m10, .inl (cI, 30, .inl mp))] ∧ ((¬ (0 ≤ x.toInt ∧ x.toInt ≤ 2) ∧ r = -2) ∨ ((0 ≤ x.toInt ∧ x.toInt ≤ 2) ∧ ((¬ rfZ mp 97 100 mz = -6 ∧ r = -5) ∨ (rfZ mp 97 100 mz = -6 ∧ GEV ma mg mt mm wf wp wt mw ml mb co mp mz.toInt.toNat op2 bp2 by2 dp2 tk2 ∧ ((0 ≤ bp2.toInt ∧ r = -3) ∨ (bp2.toInt < 0 ∧ x.toInt = 0 ∧ r = setI op2) ∨ (bp2.toInt < 0 ∧ x.toInt = 1 ∧ r = dp2) ∨ (bp2.toInt < 0 ∧ x.toInt = 2 ∧ r = tk2))))))) := by
  refine Cn.of (by decide) (Nat.le_of_ble_eq_true rfl) ?_ ?_ (fun X eL eD eT eO eK eN eM C => ?_)
  · intro h; cases h
  · intro v ws h; obtain ⟨_, _, _, _, _, _, _, rfl, rfl, _⟩ := h; exact Or.inl rfl
  subst eL eD eT
  show V X 2 [(hy, .inr (10, [.ref m0, .ref m1, .ref m2, .ref m3, .ref m4, .ref m5, .ref m6, .ref m7, .ref m8, .ref m9, .int mw, .int ml, .int mb, .ref m10, .int mz, .ref m11, .int op, .int bp, .int by0, .int dp, .int tk, .ref m12, .ref m13, .ref m14, .ref m15, .ref m16, .ref m17, .ref m18, .int ka, .int iw])), (m11, .inl (cI, 4, .inl tl)), (m2, .inl (cI, 4, .inl ma)), (m4, .inl (cI, 4, .inl mg)), (m5, .inl (cI, 4, .inl mt)), (m7, .inl (cI, 6, .inl wf)), (m8, .inl (cI, 6, .inl wp)), (m9, .inl (cI, 6, .inl wt)), (m0, .inl (cI, 625, .inl ro)), (m1, .inl (cI, 65, .inl co)), (m3, .inl (cI, 16, .inl mm)), (m10, .inl (cI, 30, .inl mp))] [(0, .ref hy), (1, .int x)] [] 0 0 0
  refine x_iload_n C 1 dX10_evening_0 rfl rfl ?_
  refine x_i2l C dX10_evening_1 ?_
  refine x_lconst C 0 dX10_evening_2 (by decide) ?_
  refine x_ldc2 C dX10_evening_3 wd_345 ?_
  refine x_callS C [.long (Int32.toInt64 x), .long 0, .long 2] [(hy, .inr (10, [.ref m0, .ref m1, .ref m2, .ref m3, .ref m4, .ref m5, .ref m6, .ref m7, .ref m8, .ref m9, .int mw, .int ml, .int mb, .ref m10, .int mz, .ref m11, .int op, .int bp, .int by0, .int dp, .int tk, .ref m12, .ref m13, .ref m14, .ref m15, .ref m16, .ref m17, .ref m18, .int ka, .int iw])), (m11, .inl (cI, 4, .inl tl)), (m2, .inl (cI, 4, .inl ma)), (m4, .inl (cI, 4, .inl mg)), (m5, .inl (cI, 4, .inl mt)), (m7, .inl (cI, 6, .inl wf)), (m8, .inl (cI, 6, .inl wp)), (m9, .inl (cI, 6, .inl wt)), (m0, .inl (cI, 625, .inl ro)), (m1, .inl (cI, 65, .inl co)), (m3, .inl (cI, 16, .inl mm)), (m10, .inl (cI, 30, .inl mp))] [] [0, 1, 2, 3, 4, 5, 6, 7, 8, 9, 10, 11] (c_X10_in (xl X) (xD X) (xt X) hT (Int32.toInt64 x) 0 2 ) dX10_evening_6 wd_167 wd_168 wd_5 wd_169 (np := 3) ⟨by decide, by decide, by decide +kernel⟩ rfl rfl (Nat.le_of_ble_eq_true rfl) (by decide) rfl (by decide) rfl (by decide) (by decide) (fun v W1 h => ?_)
  obtain ⟨r_6, rfl, rfl, h_6⟩ := h
  have : (Int32.toInt64 x : Int64).toInt = (x : Int32).toInt := Int32.toInt_toInt64 _
  have : (0 : Int64).toInt = 0 := by decide
  have : (2 : Int64).toInt = 2 := by decide
  show V X 2 [(hy, .inr (10, [.ref m0, .ref m1, .ref m2, .ref m3, .ref m4, .ref m5, .ref m6, .ref m7, .ref m8, .ref m9, .int mw, .int ml, .int mb, .ref m10, .int mz, .ref m11, .int op, .int bp, .int by0, .int dp, .int tk, .ref m12, .ref m13, .ref m14, .ref m15, .ref m16, .ref m17, .ref m18, .int ka, .int iw])), (m11, .inl (cI, 4, .inl tl)), (m2, .inl (cI, 4, .inl ma)), (m4, .inl (cI, 4, .inl mg)), (m5, .inl (cI, 4, .inl mt)), (m7, .inl (cI, 6, .inl wf)), (m8, .inl (cI, 6, .inl wp)), (m9, .inl (cI, 6, .inl wt)), (m0, .inl (cI, 625, .inl ro)), (m1, .inl (cI, 65, .inl co)), (m3, .inl (cI, 16, .inl mm)), (m10, .inl (cI, 30, .inl mp))] [(0, .ref hy), (1, .int x)] [.int r_6] 9 0 0
  refine x_if_ne C 15 dX10_evening_9 (by decide) (fun c_9 => ?_) (fun c_9 => ?_)
  · skip
    have e_9 : ¬ ((r_6 : Int32).toInt = (0 : Int32).toInt) := fun h => c_9 (i_eq.mpr h)
    have : (0 : Int32).toInt = 0 := by decide
    refine x_aload_n C 0 dX10_evening_15 rfl rfl ?_
    refine x_iconst C 1 dX10_evening_16 (by decide) ?_
    refine x_callV C [.int 1] [(m11, .inl (cI, 4, .inl tl)), (m2, .inl (cI, 4, .inl ma)), (m4, .inl (cI, 4, .inl mg)), (m5, .inl (cI, 4, .inl mt)), (m7, .inl (cI, 6, .inl wf)), (m8, .inl (cI, 6, .inl wp)), (m9, .inl (cI, 6, .inl wt)), (m0, .inl (cI, 625, .inl ro)), (m1, .inl (cI, 65, .inl co)), (m3, .inl (cI, 16, .inl mm))] [0, 11] [1, 2, 3, 4, 5, 6, 7, 8, 9, 10] (q0 := 0) (c_X10_fault (xl X) (xD X) (xt X) hT hy m0 m1 m2 m3 m4 m5 m6 m7 m8 m9 m10 m11 m12 m13 m14 m15 m16 m17 m18 mp mw ml mb mz op bp by0 dp tk ka iw 1 hz) dX10_evening_17 wd_423 wd_202 wd_203 wd_5 wd_204 (np := 1) ⟨by decide, by decide, by decide +kernel⟩ rfl rfl (Nat.le_of_ble_eq_true rfl) (by decide) rfl rfl rfl rfl (by decide) rfl (by decide) (by decide) (fun v W1 h => ?_)
    obtain ⟨r_17, rfl, rfl, h_17⟩ := h
    have : (1 : Int32).toInt = 1 := by decide
    show V X 2 [(m11, .inl (cI, 4, .inl tl)), (m2, .inl (cI, 4, .inl ma)), (m4, .inl (cI, 4, .inl mg)), (m5, .inl (cI, 4, .inl mt)), (m7, .inl (cI, 6, .inl wf)), (m8, .inl (cI, 6, .inl wp)), (m9, .inl (cI, 6, .inl wt)), (m0, .inl (cI, 625, .inl ro)), (m1, .inl (cI, 65, .inl co)), (m3, .inl (cI, 16, .inl mm)), (hy, .inr (10, [.ref m0, .ref m1, .ref m2, .ref m3, .ref m4, .ref m5, .ref m6, .ref m7, .ref m8, .ref m9, .int mw, .int ml, .int mb, .ref m10, .int mz, .ref m11, .int op, .int bp, .int by0, .int dp, .int tk, .ref m12, .ref m13, .ref m14, .ref m15, .ref m16, .ref m17, .ref m18, .int ka, .int iw])), (m10, .inl (cI, 30, .inl mp))] [(0, .ref hy), (1, .int x)] [.int r_17] 20 0 0
    refine x_if_lt C 26 dX10_evening_20 (by decide) (fun c_20 => ?_) (fun c_20 => ?_)
    · skip
      have e_20 : (r_17 : Int32).toInt < (0 : Int32).toInt := i_lt.mp c_20
      have : (0 : Int32).toInt = 0 := by decide
      refine x_aload_n C 0 dX10_evening_26 rfl rfl ?_
      refine x_callV C [] [] [10, 0, 1, 2, 3, 4, 5, 6, 7, 8, 9, 11] [] (q0 := 0) (c_X10_goEvening (xl X) (xD X) (xt X) hT hy m0 m1 m2 m3 m4 m5 m6 m7 m8 m9 m10 m11 m12 m13 m14 m15 m16 m17 m18 tl ma mg mt wf wp wt ro co mm mp mw ml mb mz op bp by0 dp tk ka iw hR hpa hmw hwt hz (FR_of (h_17.2.1 (by omega)) hz (by omega))) dX10_evening_27 wd_424 wd_425 wd_426 wd_5 wd_427 (np := 0) ⟨by decide, by decide, by decide +kernel⟩ rfl rfl (Nat.le_of_ble_eq_true rfl) (by decide) rfl rfl rfl rfl (by decide) rfl (by decide) (by decide) (fun v W1 h => ?_)
      obtain ⟨tl2_27, op2_27, bp2_27, by2_27, dp2_27, tk2_27, rfl, rfl, h_27⟩ := h
      show V X 2 [(hy, .inr (10, [.ref m0, .ref m1, .ref m2, .ref m3, .ref m4, .ref m5, .ref m6, .ref m7, .ref m8, .ref m9, .int mw, .int ml, .int mb, .ref m10, .int mz, .ref m11, .int op2_27, .int bp2_27, .int by2_27, .int dp2_27, .int tk2_27, .ref m12, .ref m13, .ref m14, .ref m15, .ref m16, .ref m17, .ref m18, .int ka, .int iw])), (m11, .inl (cI, 4, .inl tl2_27)), (m2, .inl (cI, 4, .inl ma)), (m4, .inl (cI, 4, .inl mg)), (m5, .inl (cI, 4, .inl mt)), (m7, .inl (cI, 6, .inl wf)), (m8, .inl (cI, 6, .inl wp)), (m9, .inl (cI, 6, .inl wt)), (m0, .inl (cI, 625, .inl ro)), (m1, .inl (cI, 65, .inl co)), (m3, .inl (cI, 16, .inl mm)), (m10, .inl (cI, 30, .inl mp))] [(0, .ref hy), (1, .int x)] [] 30 0 0
      refine x_aload_n C 0 dX10_evening_30 rfl rfl ?_
      refine x_get C 0 17 dX10_evening_31 inlX10 rfl (by decide) wd_421 rfl rfl rfl ?_
      refine x_if_lt C 40 dX10_evening_34 (by decide) (fun c_34 => ?_) (fun c_34 => ?_)
      · skip
        have e_34 : (bp2_27 : Int32).toInt < (0 : Int32).toInt := i_lt.mp c_34
        have : (0 : Int32).toInt = 0 := by decide
        refine x_iload_n C 1 dX10_evening_40 rfl rfl ?_
        refine x_if_ne C 54 dX10_evening_41 (by decide) (fun c_41 => ?_) (fun c_41 => ?_)
        · skip
          have e_41 : ¬ ((x : Int32).toInt = (0 : Int32).toInt) := fun h => c_41 (i_eq.mpr h)
          have : (0 : Int32).toInt = 0 := by decide
          refine x_iload_n C 1 dX10_evening_54 rfl rfl ?_
          refine x_iconst C 1 dX10_evening_55 (by decide) ?_
          refine x_icmp_ne C 66 dX10_evening_56 (by decide) (fun c_56 => ?_) (fun c_56 => ?_)
          · skip
            have e_56 : ¬ ((x : Int32).toInt = (1 : Int32).toInt) := fun h => c_56 (i_eq.mpr h)
            have : (1 : Int32).toInt = 1 := by decide
            refine x_aload_n C 0 dX10_evening_66 rfl rfl ?_
            refine x_get C 0 20 dX10_evening_67 inlX10 rfl (by decide) wd_429 rfl rfl rfl ?_
            exact x_iret C dX10_evening_70 (Nat.zero_le _) (Nat.zero_le _) (by rw [eO]; exact ⟨tk2_27, tl2_27, op2_27, bp2_27, by2_27, dp2_27, tk2_27, rfl, rfl, (Or.inr ⟨by omega, Or.inr ⟨(rf_m6 (h_17.2.1 (by omega)) (by omega)), h_27.2, Or.inr (Or.inr (Or.inr ⟨by omega, by omega, rfl⟩))⟩⟩)⟩)
          · skip
            have e_56 : (x : Int32).toInt = (1 : Int32).toInt := i_eq.mp c_56
            have : (1 : Int32).toInt = 1 := by decide
            refine x_aload_n C 0 dX10_evening_59 rfl rfl ?_
            refine x_get C 0 19 dX10_evening_60 inlX10 rfl (by decide) wd_428 rfl rfl rfl ?_
            refine x_goto C 70 dX10_evening_63 (by decide) ?_
            exact x_iret C dX10_evening_70 (Nat.zero_le _) (Nat.zero_le _) (by rw [eO]; exact ⟨dp2_27, tl2_27, op2_27, bp2_27, by2_27, dp2_27, tk2_27, rfl, rfl, (Or.inr ⟨by omega, Or.inr ⟨(rf_m6 (h_17.2.1 (by omega)) (by omega)), h_27.2, Or.inr (Or.inr (Or.inl ⟨by omega, by omega, rfl⟩))⟩⟩)⟩)
        · skip
          have e_41 : (x : Int32).toInt = (0 : Int32).toInt := i_eq.mp c_41
          have : (0 : Int32).toInt = 0 := by decide
          refine x_aload_n C 0 dX10_evening_44 rfl rfl ?_
          refine x_get C 0 16 dX10_evening_45 inlX10 rfl (by decide) wd_434 rfl rfl rfl ?_
          refine x_callS C [.int op2_27] [(hy, .inr (10, [.ref m0, .ref m1, .ref m2, .ref m3, .ref m4, .ref m5, .ref m6, .ref m7, .ref m8, .ref m9, .int mw, .int ml, .int mb, .ref m10, .int mz, .ref m11, .int op2_27, .int bp2_27, .int by2_27, .int dp2_27, .int tk2_27, .ref m12, .ref m13, .ref m14, .ref m15, .ref m16, .ref m17, .ref m18, .int ka, .int iw])), (m11, .inl (cI, 4, .inl tl2_27)), (m2, .inl (cI, 4, .inl ma)), (m4, .inl (cI, 4, .inl mg)), (m5, .inl (cI, 4, .inl mt)), (m7, .inl (cI, 6, .inl wf)), (m8, .inl (cI, 6, .inl wp)), (m9, .inl (cI, 6, .inl wt)), (m0, .inl (cI, 625, .inl ro)), (m1, .inl (cI, 65, .inl co)), (m3, .inl (cI, 16, .inl mm)), (m10, .inl (cI, 30, .inl mp))] [] [0, 1, 2, 3, 4, 5, 6, 7, 8, 9, 10, 11] (c_X10_setOf (xl X) (xD X) (xt X) hT op2_27 (by have := h_27.1.rng; omega)) dX10_evening_48 wd_462 wd_463 wd_5 wd_464 (np := 1) ⟨by decide, by decide, by decide +kernel⟩ rfl rfl (Nat.le_of_ble_eq_true rfl) (by decide) rfl (by decide) rfl (by decide) (by decide) (fun v W1 h => ?_)
          obtain ⟨_, rfl, rfl, h_48⟩ := h
          show V X 2 [(hy, .inr (10, [.ref m0, .ref m1, .ref m2, .ref m3, .ref m4, .ref m5, .ref m6, .ref m7, .ref m8, .ref m9, .int mw, .int ml, .int mb, .ref m10, .int mz, .ref m11, .int op2_27, .int bp2_27, .int by2_27, .int dp2_27, .int tk2_27, .ref m12, .ref m13, .ref m14, .ref m15, .ref m16, .ref m17, .ref m18, .int ka, .int iw])), (m11, .inl (cI, 4, .inl tl2_27)), (m2, .inl (cI, 4, .inl ma)), (m4, .inl (cI, 4, .inl mg)), (m5, .inl (cI, 4, .inl mt)), (m7, .inl (cI, 6, .inl wf)), (m8, .inl (cI, 6, .inl wp)), (m9, .inl (cI, 6, .inl wt)), (m0, .inl (cI, 625, .inl ro)), (m1, .inl (cI, 65, .inl co)), (m3, .inl (cI, 16, .inl mm)), (m10, .inl (cI, 30, .inl mp))] [(0, .ref hy), (1, .int x)] [.int (setI op2_27)] 51 0 0
          refine x_goto C 70 dX10_evening_51 (by decide) ?_
          exact x_iret C dX10_evening_70 (Nat.zero_le _) (Nat.zero_le _) (by rw [eO]; exact ⟨(setI op2_27), tl2_27, op2_27, bp2_27, by2_27, dp2_27, tk2_27, rfl, rfl, (Or.inr ⟨by omega, Or.inr ⟨(rf_m6 (h_17.2.1 (by omega)) (by omega)), h_27.2, Or.inr (Or.inl ⟨by omega, by omega, rfl⟩)⟩⟩)⟩)
      · skip
        have e_34 : ¬ ((bp2_27 : Int32).toInt < (0 : Int32).toInt) := fun h => c_34 (i_lt.mpr h)
        have : (0 : Int32).toInt = 0 := by decide
        refine x_bipush C (-3) dX10_evening_37 (by decide) ?_
        have : ((-3) : Int32).toInt = -3 := by decide
        exact x_iret C dX10_evening_39 (Nat.zero_le _) (Nat.zero_le _) (by rw [eO]; exact ⟨((-3)), tl2_27, op2_27, bp2_27, by2_27, dp2_27, tk2_27, rfl, rfl, (Or.inr ⟨by omega, Or.inr ⟨(rf_m6 (h_17.2.1 (by omega)) (by omega)), h_27.2, Or.inl ⟨by omega, rfl⟩⟩⟩)⟩)
    · skip
      have e_20 : ¬ ((r_17 : Int32).toInt < (0 : Int32).toInt) := fun h => c_20 (i_lt.mpr h)
      have : (0 : Int32).toInt = 0 := by decide
      refine x_bipush C (-5) dX10_evening_23 (by decide) ?_
      refine x_sub [(hy, .inr (10, [.ref m0, .ref m1, .ref m2, .ref m3, .ref m4, .ref m5, .ref m6, .ref m7, .ref m8, .ref m9, .int mw, .int ml, .int mb, .ref m10, .int mz, .ref m11, .int op, .int bp, .int by0, .int dp, .int tk, .ref m12, .ref m13, .ref m14, .ref m15, .ref m16, .ref m17, .ref m18, .int ka, .int iw])), (m11, .inl (cI, 4, .inl tl)), (m2, .inl (cI, 4, .inl ma)), (m4, .inl (cI, 4, .inl mg)), (m5, .inl (cI, 4, .inl mt)), (m7, .inl (cI, 6, .inl wf)), (m8, .inl (cI, 6, .inl wp)), (m9, .inl (cI, 6, .inl wt)), (m0, .inl (cI, 625, .inl ro)), (m1, .inl (cI, 65, .inl co)), (m3, .inl (cI, 16, .inl mm)), (m10, .inl (cI, 30, .inl mp))] [10, 0, 1, 2, 3, 4, 5, 6, 7, 8, 9, 11] (by decide) rfl ?_
      have : ((-5) : Int32).toInt = -5 := by decide
      exact x_iret C dX10_evening_25 (Nat.zero_le _) (Nat.zero_le _) (by rw [eO]; exact ⟨((-5)), tl, op, bp, by0, dp, tk, rfl, rfl, (Or.inr ⟨by omega, Or.inl ⟨fun h => by have h9 := congrArg Int32.toInt ((h_17.2.1 (by omega)).trans h); rw [tm6_] at h9; omega, rfl⟩⟩)⟩)
  · skip
    have e_9 : (r_6 : Int32).toInt = (0 : Int32).toInt := i_eq.mp c_9
    have : (0 : Int32).toInt = 0 := by decide
    refine x_bipush C (-2) dX10_evening_12 (by decide) ?_
    have : ((-2) : Int32).toInt = -2 := by decide
    exact x_iret C dX10_evening_14 (Nat.zero_le _) (Nat.zero_le _) (by rw [eO]; exact ⟨((-2)), tl, op, bp, by0, dp, tk, rfl, rfl, (Or.inl ⟨by omega, rfl⟩)⟩)
abbrev rm_X10_left : Room := { frames := 4, cells := 0, slots := 0, locals := 96 }
set_option maxHeartbeats 4000000 in
set_option maxRecDepth 100000 in
theorem c_X10_left (l : Launch) (D : va_G) (tys : List (ClassId × FieldType)) {cI cJ cZ cB : ClassId} (hT : Ty tys cI cJ cZ cB) (hy m0 m1 m2 m3 m4 m5 m6 m7 m8 m9 m10 m11 m12 m13 m14 m15 m16 m17 m18 : Nat) (tl ma mg mt wf wp wt ro co mm mp mk : Nat → Int32) (mw ml mb mz op bp by0 dp tk ka iw : Int32) (t x : Int32) (hR : RT co ro) (hpa : POk ma) (hmw : 0 ≤ mw.toInt ∧ mw.toInt ≤ 6) (hwt : SOk wt) (hz : 0 ≤ mz.toInt ∧ mz.toInt ≤ 30) : Cn l D tys yX10_left cX10_left 8 (some .int) rm_X10_left [(hy, .inr (10, [.ref m0, .ref m1, .ref m2, .ref m3, .ref m4, .ref m5, .ref m6, .ref m7, .ref m8, .ref m9, .int mw, .int ml, .int mb, .ref m10, .int mz, .ref m11, .int op, .int bp, .int by0, .int dp, .int tk, .ref m12, .ref m13, .ref m14, .ref m15, .ref m16, .ref m17, .ref m18, .int ka, .int iw])), (m11, .inl (cI, 4, .inl tl)), (m2, .inl (cI, 4, .inl ma)), (m4, .inl (cI, 4, .inl mg)), (m5, .inl (cI, 4, .inl mt)), (m7, .inl (cI, 6, .inl wf)), (m8, .inl (cI, 6, .inl wp)), (m9, .inl (cI, 6, .inl wt)), (m0, .inl (cI, 625, .inl ro)), (m1, .inl (cI, 65, .inl co)), (m3, .inl (cI, 16, .inl mm)), (m10, .inl (cI, 30, .inl mp)), (m6, .inl (cI, 4, .inl mk))] [.ref hy, .int t, .int x] (fun v W1 => ∃ (r : Int32) (tl2 : Nat → Int32) (op2 bp2 by2 dp2 tk2 : Int32), v = some (.int r) ∧ W1 = [(hy, .inr (10, [.ref m0, .ref m1, .ref m2, .ref m3, .ref m4, .ref m5, .ref m6, .ref m7, .ref m8, .ref m9, .int mw, .int ml, .int mb, .ref m10, .int mz, .ref m11, .int op2, .int bp2, .int by2, .int dp2, .int tk2, .ref m12, .ref m13, .ref m14, .ref m15, .ref m16, .ref m17, .ref m18, .int ka, .int iw])), (m11, .inl (cI, 4, .inl tl2)), (m2, .inl (cI, 4, .inl ma)), (m4, .inl (cI, 4, .inl mg)), (m5, .inl (cI, 4, .inl mt)), (m7, .inl (cI, 6, .inl wf)), (m8, .inl (cI, 6, .inl wp)), (m9, .inl (cI, 6, .inl wt)), (m0, .inl (cI, 625, .inl ro)), (m1, .inl (cI, 65, .inl co)), (m3, .inl (cI, 16, .inl mm)), (m10, .inl (cI, 30, .inl mp)), (m6, .inl (cI, 4, .inl mk))] ∧ ((¬ (0 ≤ t.toInt ∧ t.toInt ≤ 3) ∧ r = -1) ∨ ((0 ≤ t.toInt ∧ t.toInt ≤ 3) ∧ ((¬ (0 ≤ x.toInt ∧ x.toInt ≤ 1) ∧ r = -2) ∨ ((0 ≤ x.toInt ∧ x.toInt ≤ 1) ∧ ((¬ rfZ mp 97 100 mz = -6 ∧ r = -5) ∨ (rfZ mp 97 100 mz = -6 ∧ GEV ma mg mt mm wf wp wt mw ml mb co mp mz.toInt.toNat op2 bp2 by2 dp2 tk2 ∧ RowI op2 ∧ ((0 ≤ bp2.toInt ∧ r = -3) ∨ (bp2.toInt < 0 ∧ x.toInt = 0 ∧ r = btn (lfP mt op2 t) 4) ∨ (bp2.toInt < 0 ∧ x.toInt = 1 ∧ TBS r (fun k => ¬ (k : Int) = t.toInt ∧ (btn (lfP mt op2 t) 4 &&& (mk k ^^^ (-1))).toInt = 0 ∧ ¬ HO mt op2 (nI k))))))))))) := by
  refine Cn.of (by decide) (Nat.le_of_ble_eq_true rfl) ?_ ?_ (fun X eL eD eT eO eK eN eM C => ?_)
  · intro h; cases h
  · intro v ws h; obtain ⟨_, _, _, _, _, _, _, rfl, rfl, _⟩ := h; exact Or.inl rfl
  subst eL eD eT
  show V X 8 [(hy, .inr (10, [.ref m0, .ref m1, .ref m2, .ref m3, .ref m4, .ref m5, .ref m6, .ref m7, .ref m8, .ref m9, .int mw, .int ml, .int mb, .ref m10, .int mz, .ref m11, .int op, .int bp, .int by0, .int dp, .int tk, .ref m12, .ref m13, .ref m14, .ref m15, .ref m16, .ref m17, .ref m18, .int ka, .int iw])), (m11, .inl (cI, 4, .inl tl)), (m2, .inl (cI, 4, .inl ma)), (m4, .inl (cI, 4, .inl mg)), (m5, .inl (cI, 4, .inl mt)), (m7, .inl (cI, 6, .inl wf)), (m8, .inl (cI, 6, .inl wp)), (m9, .inl (cI, 6, .inl wt)), (m0, .inl (cI, 625, .inl ro)), (m1, .inl (cI, 65, .inl co)), (m3, .inl (cI, 16, .inl mm)), (m10, .inl (cI, 30, .inl mp)), (m6, .inl (cI, 4, .inl mk))] [(0, .ref hy), (1, .int t), (2, .int x)] [] 0 0 0
  refine x_iload_n C 1 dX10_left_0 rfl rfl ?_
  refine x_callS C [.int t] [(hy, .inr (10, [.ref m0, .ref m1, .ref m2, .ref m3, .ref m4, .ref m5, .ref m6, .ref m7, .ref m8, .ref m9, .int mw, .int ml, .int mb, .ref m10, .int mz, .ref m11, .int op, .int bp, .int by0, .int dp, .int tk, .ref m12, .ref m13, .ref m14, .ref m15, .ref m16, .ref m17, .ref m18, .int ka, .int iw])), (m11, .inl (cI, 4, .inl tl)), (m2, .inl (cI, 4, .inl ma)), (m4, .inl (cI, 4, .inl mg)), (m5, .inl (cI, 4, .inl mt)), (m7, .inl (cI, 6, .inl wf)), (m8, .inl (cI, 6, .inl wp)), (m9, .inl (cI, 6, .inl wt)), (m0, .inl (cI, 625, .inl ro)), (m1, .inl (cI, 65, .inl co)), (m3, .inl (cI, 16, .inl mm)), (m10, .inl (cI, 30, .inl mp)), (m6, .inl (cI, 4, .inl mk))] [] [0, 1, 2, 3, 4, 5, 6, 7, 8, 9, 10, 11, 12] (c_X10_isStory (xl X) (xD X) (xt X) hT t ) dX10_left_1 wd_261 wd_262 wd_5 wd_263 (np := 1) ⟨by decide, by decide, by decide +kernel⟩ rfl rfl (Nat.le_of_ble_eq_true rfl) (by decide) rfl (by decide) rfl (by decide) (by decide) (fun v W1 h => ?_)
  obtain ⟨r_1, rfl, rfl, h_1⟩ := h
  show V X 8 [(hy, .inr (10, [.ref m0, .ref m1, .ref m2, .ref m3, .ref m4, .ref m5, .ref m6, .ref m7, .ref m8, .ref m9, .int mw, .int ml, .int mb, .ref m10, .int mz, .ref m11, .int op, .int bp, .int by0, .int dp, .int tk, .ref m12, .ref m13, .ref m14, .ref m15, .ref m16, .ref m17, .ref m18, .int ka, .int iw])), (m11, .inl (cI, 4, .inl tl)), (m2, .inl (cI, 4, .inl ma)), (m4, .inl (cI, 4, .inl mg)), (m5, .inl (cI, 4, .inl mt)), (m7, .inl (cI, 6, .inl wf)), (m8, .inl (cI, 6, .inl wp)), (m9, .inl (cI, 6, .inl wt)), (m0, .inl (cI, 625, .inl ro)), (m1, .inl (cI, 65, .inl co)), (m3, .inl (cI, 16, .inl mm)), (m10, .inl (cI, 30, .inl mp)), (m6, .inl (cI, 4, .inl mk))] [(0, .ref hy), (1, .int t), (2, .int x)] [.int r_1] 4 0 0
  refine x_if_ne C 9 dX10_left_4 (by decide) (fun c_4 => ?_) (fun c_4 => ?_)
  · skip
    have e_4 : ¬ ((r_1 : Int32).toInt = (0 : Int32).toInt) := fun h => c_4 (i_eq.mpr h)
    have : (0 : Int32).toInt = 0 := by decide
    refine x_iload_n C 2 dX10_left_9 rfl rfl ?_
    refine x_i2l C dX10_left_10 ?_
    refine x_lconst C 0 dX10_left_11 (by decide) ?_
    refine x_lconst C 1 dX10_left_12 (by decide) ?_
    refine x_callS C [.long (Int32.toInt64 x), .long 0, .long 1] [(hy, .inr (10, [.ref m0, .ref m1, .ref m2, .ref m3, .ref m4, .ref m5, .ref m6, .ref m7, .ref m8, .ref m9, .int mw, .int ml, .int mb, .ref m10, .int mz, .ref m11, .int op, .int bp, .int by0, .int dp, .int tk, .ref m12, .ref m13, .ref m14, .ref m15, .ref m16, .ref m17, .ref m18, .int ka, .int iw])), (m11, .inl (cI, 4, .inl tl)), (m2, .inl (cI, 4, .inl ma)), (m4, .inl (cI, 4, .inl mg)), (m5, .inl (cI, 4, .inl mt)), (m7, .inl (cI, 6, .inl wf)), (m8, .inl (cI, 6, .inl wp)), (m9, .inl (cI, 6, .inl wt)), (m0, .inl (cI, 625, .inl ro)), (m1, .inl (cI, 65, .inl co)), (m3, .inl (cI, 16, .inl mm)), (m10, .inl (cI, 30, .inl mp)), (m6, .inl (cI, 4, .inl mk))] [] [0, 1, 2, 3, 4, 5, 6, 7, 8, 9, 10, 11, 12] (c_X10_in (xl X) (xD X) (xt X) hT (Int32.toInt64 x) 0 1 ) dX10_left_13 wd_167 wd_168 wd_5 wd_169 (np := 3) ⟨by decide, by decide, by decide +kernel⟩ rfl rfl (Nat.le_of_ble_eq_true rfl) (by decide) rfl (by decide) rfl (by decide) (by decide) (fun v W1 h => ?_)
    obtain ⟨r_13, rfl, rfl, h_13⟩ := h
    have : (Int32.toInt64 x : Int64).toInt = (x : Int32).toInt := Int32.toInt_toInt64 _
    have : (0 : Int64).toInt = 0 := by decide
    have : (1 : Int64).toInt = 1 := by decide
    show V X 8 [(hy, .inr (10, [.ref m0, .ref m1, .ref m2, .ref m3, .ref m4, .ref m5, .ref m6, .ref m7, .ref m8, .ref m9, .int mw, .int ml, .int mb, .ref m10, .int mz, .ref m11, .int op, .int bp, .int by0, .int dp, .int tk, .ref m12, .ref m13, .ref m14, .ref m15, .ref m16, .ref m17, .ref m18, .int ka, .int iw])), (m11, .inl (cI, 4, .inl tl)), (m2, .inl (cI, 4, .inl ma)), (m4, .inl (cI, 4, .inl mg)), (m5, .inl (cI, 4, .inl mt)), (m7, .inl (cI, 6, .inl wf)), (m8, .inl (cI, 6, .inl wp)), (m9, .inl (cI, 6, .inl wt)), (m0, .inl (cI, 625, .inl ro)), (m1, .inl (cI, 65, .inl co)), (m3, .inl (cI, 16, .inl mm)), (m10, .inl (cI, 30, .inl mp)), (m6, .inl (cI, 4, .inl mk))] [(0, .ref hy), (1, .int t), (2, .int x)] [.int r_13] 16 0 0
    refine x_if_ne C 22 dX10_left_16 (by decide) (fun c_16 => ?_) (fun c_16 => ?_)
    · skip
      have e_16 : ¬ ((r_13 : Int32).toInt = (0 : Int32).toInt) := fun h => c_16 (i_eq.mpr h)
      have : (0 : Int32).toInt = 0 := by decide
      refine x_aload_n C 0 dX10_left_22 rfl rfl ?_
      refine x_iconst C 1 dX10_left_23 (by decide) ?_
      refine x_callV C [.int 1] [(m11, .inl (cI, 4, .inl tl)), (m2, .inl (cI, 4, .inl ma)), (m4, .inl (cI, 4, .inl mg)), (m5, .inl (cI, 4, .inl mt)), (m7, .inl (cI, 6, .inl wf)), (m8, .inl (cI, 6, .inl wp)), (m9, .inl (cI, 6, .inl wt)), (m0, .inl (cI, 625, .inl ro)), (m1, .inl (cI, 65, .inl co)), (m3, .inl (cI, 16, .inl mm)), (m6, .inl (cI, 4, .inl mk))] [0, 11] [1, 2, 3, 4, 5, 6, 7, 8, 9, 10, 12] (q0 := 0) (c_X10_fault (xl X) (xD X) (xt X) hT hy m0 m1 m2 m3 m4 m5 m6 m7 m8 m9 m10 m11 m12 m13 m14 m15 m16 m17 m18 mp mw ml mb mz op bp by0 dp tk ka iw 1 hz) dX10_left_24 wd_423 wd_202 wd_203 wd_5 wd_204 (np := 1) ⟨by decide, by decide, by decide +kernel⟩ rfl rfl (Nat.le_of_ble_eq_true rfl) (by decide) rfl rfl rfl rfl (by decide) rfl (by decide) (by decide) (fun v W1 h => ?_)
      obtain ⟨r_24, rfl, rfl, h_24⟩ := h
      have : (1 : Int32).toInt = 1 := by decide
      show V X 8 [(m11, .inl (cI, 4, .inl tl)), (m2, .inl (cI, 4, .inl ma)), (m4, .inl (cI, 4, .inl mg)), (m5, .inl (cI, 4, .inl mt)), (m7, .inl (cI, 6, .inl wf)), (m8, .inl (cI, 6, .inl wp)), (m9, .inl (cI, 6, .inl wt)), (m0, .inl (cI, 625, .inl ro)), (m1, .inl (cI, 65, .inl co)), (m3, .inl (cI, 16, .inl mm)), (m6, .inl (cI, 4, .inl mk)), (hy, .inr (10, [.ref m0, .ref m1, .ref m2, .ref m3, .ref m4, .ref m5, .ref m6, .ref m7, .ref m8, .ref m9, .int mw, .int ml, .int mb, .ref m10, .int mz, .ref m11, .int op, .int bp, .int by0, .int dp, .int tk, .ref m12, .ref m13, .ref m14, .ref m15, .ref m16, .ref m17, .ref m18, .int ka, .int iw])), (m10, .inl (cI, 30, .inl mp))] [(0, .ref hy), (1, .int t), (2, .int x)] [.int r_24] 27 0 0
      refine x_if_lt C 33 dX10_left_27 (by decide) (fun c_27 => ?_) (fun c_27 => ?_)
      · skip
        have e_27 : (r_24 : Int32).toInt < (0 : Int32).toInt := i_lt.mp c_27
        have : (0 : Int32).toInt = 0 := by decide
        refine x_aload_n C 0 dX10_left_33 rfl rfl ?_
        refine x_callV C [] [(m6, .inl (cI, 4, .inl mk))] [11, 0, 1, 2, 3, 4, 5, 6, 7, 8, 9, 12] [10] (q0 := 0) (c_X10_goEvening (xl X) (xD X) (xt X) hT hy m0 m1 m2 m3 m4 m5 m6 m7 m8 m9 m10 m11 m12 m13 m14 m15 m16 m17 m18 tl ma mg mt wf wp wt ro co mm mp mw ml mb mz op bp by0 dp tk ka iw hR hpa hmw hwt hz (FR_of (h_24.2.1 (by omega)) hz (by omega))) dX10_left_34 wd_424 wd_425 wd_426 wd_5 wd_427 (np := 0) ⟨by decide, by decide, by decide +kernel⟩ rfl rfl (Nat.le_of_ble_eq_true rfl) (by decide) rfl rfl rfl rfl (by decide) rfl (by decide) (by decide) (fun v W1 h => ?_)
        obtain ⟨tl2_34, op2_34, bp2_34, by2_34, dp2_34, tk2_34, rfl, rfl, h_34⟩ := h
        show V X 8 [(m6, .inl (cI, 4, .inl mk)), (hy, .inr (10, [.ref m0, .ref m1, .ref m2, .ref m3, .ref m4, .ref m5, .ref m6, .ref m7, .ref m8, .ref m9, .int mw, .int ml, .int mb, .ref m10, .int mz, .ref m11, .int op2_34, .int bp2_34, .int by2_34, .int dp2_34, .int tk2_34, .ref m12, .ref m13, .ref m14, .ref m15, .ref m16, .ref m17, .ref m18, .int ka, .int iw])), (m11, .inl (cI, 4, .inl tl2_34)), (m2, .inl (cI, 4, .inl ma)), (m4, .inl (cI, 4, .inl mg)), (m5, .inl (cI, 4, .inl mt)), (m7, .inl (cI, 6, .inl wf)), (m8, .inl (cI, 6, .inl wp)), (m9, .inl (cI, 6, .inl wt)), (m0, .inl (cI, 625, .inl ro)), (m1, .inl (cI, 65, .inl co)), (m3, .inl (cI, 16, .inl mm)), (m10, .inl (cI, 30, .inl mp))] [(0, .ref hy), (1, .int t), (2, .int x)] [] 37 0 0
        refine x_aload_n C 0 dX10_left_37 rfl rfl ?_
        refine x_get C 1 17 dX10_left_38 inlX10 rfl (by decide) wd_421 rfl rfl rfl ?_
        refine x_if_lt C 47 dX10_left_41 (by decide) (fun c_41 => ?_) (fun c_41 => ?_)
        · skip
          have e_41 : (bp2_34 : Int32).toInt < (0 : Int32).toInt := i_lt.mp c_41
          have : (0 : Int32).toInt = 0 := by decide
          refine x_iconst C 0 dX10_left_47 (by decide) ?_
          refine x_istore_n C [(3, .int 0), (0, .ref hy), (1, .int t), (2, .int x)] dX10_left_48 rfl (by decide) rfl ?_
          refine x_aload_n C 1 dX10_left_49 rfl rfl ?_
          refine x_get C 1 16 dX10_left_50 inlX10 rfl (by decide) wd_434 rfl rfl rfl ?_
          refine x_callS C [.int op2_34] [(m6, .inl (cI, 4, .inl mk)), (hy, .inr (10, [.ref m0, .ref m1, .ref m2, .ref m3, .ref m4, .ref m5, .ref m6, .ref m7, .ref m8, .ref m9, .int mw, .int ml, .int mb, .ref m10, .int mz, .ref m11, .int op2_34, .int bp2_34, .int by2_34, .int dp2_34, .int tk2_34, .ref m12, .ref m13, .ref m14, .ref m15, .ref m16, .ref m17, .ref m18, .int ka, .int iw])), (m11, .inl (cI, 4, .inl tl2_34)), (m2, .inl (cI, 4, .inl ma)), (m4, .inl (cI, 4, .inl mg)), (m5, .inl (cI, 4, .inl mt)), (m7, .inl (cI, 6, .inl wf)), (m8, .inl (cI, 6, .inl wp)), (m9, .inl (cI, 6, .inl wt)), (m0, .inl (cI, 625, .inl ro)), (m1, .inl (cI, 65, .inl co)), (m3, .inl (cI, 16, .inl mm)), (m10, .inl (cI, 30, .inl mp))] [] [0, 1, 2, 3, 4, 5, 6, 7, 8, 9, 10, 11, 12] (c_X10_setOf (xl X) (xD X) (xt X) hT op2_34 (by have := h_34.1.rng; omega)) dX10_left_53 wd_462 wd_463 wd_5 wd_464 (np := 1) ⟨by decide, by decide, by decide +kernel⟩ rfl rfl (Nat.le_of_ble_eq_true rfl) (by decide) rfl (by decide) rfl (by decide) (by decide) (fun v W1 h => ?_)
          obtain ⟨_, rfl, rfl, h_53⟩ := h
          show V X 8 [(m6, .inl (cI, 4, .inl mk)), (hy, .inr (10, [.ref m0, .ref m1, .ref m2, .ref m3, .ref m4, .ref m5, .ref m6, .ref m7, .ref m8, .ref m9, .int mw, .int ml, .int mb, .ref m10, .int mz, .ref m11, .int op2_34, .int bp2_34, .int by2_34, .int dp2_34, .int tk2_34, .ref m12, .ref m13, .ref m14, .ref m15, .ref m16, .ref m17, .ref m18, .int ka, .int iw])), (m11, .inl (cI, 4, .inl tl2_34)), (m2, .inl (cI, 4, .inl ma)), (m4, .inl (cI, 4, .inl mg)), (m5, .inl (cI, 4, .inl mt)), (m7, .inl (cI, 6, .inl wf)), (m8, .inl (cI, 6, .inl wp)), (m9, .inl (cI, 6, .inl wt)), (m0, .inl (cI, 625, .inl ro)), (m1, .inl (cI, 65, .inl co)), (m3, .inl (cI, 16, .inl mm)), (m10, .inl (cI, 30, .inl mp))] [(3, .int 0), (0, .ref hy), (1, .int t), (2, .int x)] [.int (setI op2_34)] 56 0 0
          refine x_istore C [(4, .int (setI op2_34)), (3, .int 0), (0, .ref hy), (1, .int t), (2, .int x)] dX10_left_56 (by decide) rfl ?_
          refine x_iconst C 0 dX10_left_58 (by decide) ?_
          refine x_istore C [(5, .int 0), (4, .int (setI op2_34)), (3, .int 0), (0, .ref hy), (1, .int t), (2, .int x)] dX10_left_59 (by decide) rfl ?_
          have L_61 : ∀ (n_61 : Nat) (x5_61 : Int32) (x3_61 : Int32), ((0 ≤ x5_61.toInt ∧ x5_61.toInt ≤ 4) ∧ x3_61 = btn (lfP mt op2_34 t) x5_61.toInt.toNat) → ((4 - x5_61.toInt).toNat < n_61) → V X 8 [(m6, .inl (cI, 4, .inl mk)), (hy, .inr (10, [.ref m0, .ref m1, .ref m2, .ref m3, .ref m4, .ref m5, .ref m6, .ref m7, .ref m8, .ref m9, .int mw, .int ml, .int mb, .ref m10, .int mz, .ref m11, .int op2_34, .int bp2_34, .int by2_34, .int dp2_34, .int tk2_34, .ref m12, .ref m13, .ref m14, .ref m15, .ref m16, .ref m17, .ref m18, .int ka, .int iw])), (m11, .inl (cI, 4, .inl tl2_34)), (m2, .inl (cI, 4, .inl ma)), (m4, .inl (cI, 4, .inl mg)), (m5, .inl (cI, 4, .inl mt)), (m7, .inl (cI, 6, .inl wf)), (m8, .inl (cI, 6, .inl wp)), (m9, .inl (cI, 6, .inl wt)), (m0, .inl (cI, 625, .inl ro)), (m1, .inl (cI, 65, .inl co)), (m3, .inl (cI, 16, .inl mm)), (m10, .inl (cI, 30, .inl mp))] [(5, .int x5_61), (4, .int (setI op2_34)), (3, .int x3_61), (0, .ref hy), (1, .int t), (2, .int x)] [] 61 0 0 := by
            intro n_61
            induction n_61 with
            | zero =>
              intro x5_61 x3_61 i_61 m_61
              exact absurd m_61 (Nat.not_lt_zero _)
            | succ n_61 ih_61 =>
              intro x5_61 x3_61 i_61 m_61
              refine x_iload C 0 dX10_left_61 rfl ?_
              refine x_iconst C 4 dX10_left_63 (by decide) ?_
              refine x_icmp_ge C 106 dX10_left_64 (by decide) (fun c_64 => ?_) (fun c_64 => ?_)
              · skip
                have e_64 : (4 : Int32).toInt ≤ (x5_61 : Int32).toInt := i_le.mp c_64
                have : (4 : Int32).toInt = 4 := by decide
                have l9 : x3_61 = btn (lfP mt op2_34 t) 4 := by rw [i_61.2, show x5_61.toInt.toNat = 4 by omega]
                refine x_iconst C 0 dX10_left_106 (by decide) ?_
                refine x_istore C [(5, .int 0), (4, .int (setI op2_34)), (3, .int x3_61), (0, .ref hy), (1, .int t), (2, .int x)] dX10_left_107 (by decide) rfl ?_
                refine x_iconst C 0 dX10_left_109 (by decide) ?_
                refine x_istore C [(6, .int 0), (5, .int 0), (4, .int (setI op2_34)), (3, .int x3_61), (0, .ref hy), (1, .int t), (2, .int x)] dX10_left_110 (by decide) rfl ?_
                have L_112 : ∀ (n_112 : Nat) (x6_112 : Int32) (x5_112 : Int32), ((0 ≤ x6_112.toInt ∧ x6_112.toInt ≤ 4) ∧ TBI x5_112 x6_112 (fun k => ¬ (k : Int) = t.toInt ∧ (x3_61 &&& (mk k ^^^ (-1))).toInt = 0 ∧ ¬ HO mt op2_34 (nI k))) → ((4 - x6_112.toInt).toNat < n_112) → V X 8 [(m6, .inl (cI, 4, .inl mk)), (hy, .inr (10, [.ref m0, .ref m1, .ref m2, .ref m3, .ref m4, .ref m5, .ref m6, .ref m7, .ref m8, .ref m9, .int mw, .int ml, .int mb, .ref m10, .int mz, .ref m11, .int op2_34, .int bp2_34, .int by2_34, .int dp2_34, .int tk2_34, .ref m12, .ref m13, .ref m14, .ref m15, .ref m16, .ref m17, .ref m18, .int ka, .int iw])), (m11, .inl (cI, 4, .inl tl2_34)), (m2, .inl (cI, 4, .inl ma)), (m4, .inl (cI, 4, .inl mg)), (m5, .inl (cI, 4, .inl mt)), (m7, .inl (cI, 6, .inl wf)), (m8, .inl (cI, 6, .inl wp)), (m9, .inl (cI, 6, .inl wt)), (m0, .inl (cI, 625, .inl ro)), (m1, .inl (cI, 65, .inl co)), (m3, .inl (cI, 16, .inl mm)), (m10, .inl (cI, 30, .inl mp))] [(6, .int x6_112), (5, .int x5_112), (4, .int (setI op2_34)), (3, .int x3_61), (0, .ref hy), (1, .int t), (2, .int x)] [] 112 0 0 := by
                  intro n_112
                  induction n_112 with
                  | zero =>
                    intro x6_112 x5_112 i_112 m_112
                    exact absurd m_112 (Nat.not_lt_zero _)
                  | succ n_112 ih_112 =>
                    intro x6_112 x5_112 i_112 m_112
                    refine x_iload C 0 dX10_left_112 rfl ?_
                    refine x_iconst C 4 dX10_left_114 (by decide) ?_
                    refine x_icmp_ge C 178 dX10_left_115 (by decide) (fun c_115 => ?_) (fun c_115 => ?_)
                    · skip
                      have e_115 : (4 : Int32).toInt ≤ (x6_112 : Int32).toInt := i_le.mp c_115
                      have : (4 : Int32).toInt = 4 := by decide
                      refine x_iload_n C 6 dX10_left_178 rfl rfl ?_
                      refine x_if_ne C 186 dX10_left_179 (by decide) (fun c_179 => ?_) (fun c_179 => ?_)
                      · skip
                        have e_179 : ¬ ((x : Int32).toInt = (0 : Int32).toInt) := fun h => c_179 (i_eq.mpr h)
                        have : (0 : Int32).toInt = 0 := by decide
                        refine x_iload C 1 dX10_left_186 rfl ?_
                        refine x_sub [(hy, .inr (10, [.ref m0, .ref m1, .ref m2, .ref m3, .ref m4, .ref m5, .ref m6, .ref m7, .ref m8, .ref m9, .int mw, .int ml, .int mb, .ref m10, .int mz, .ref m11, .int op2_34, .int bp2_34, .int by2_34, .int dp2_34, .int tk2_34, .ref m12, .ref m13, .ref m14, .ref m15, .ref m16, .ref m17, .ref m18, .int ka, .int iw])), (m11, .inl (cI, 4, .inl tl2_34)), (m2, .inl (cI, 4, .inl ma)), (m4, .inl (cI, 4, .inl mg)), (m5, .inl (cI, 4, .inl mt)), (m7, .inl (cI, 6, .inl wf)), (m8, .inl (cI, 6, .inl wp)), (m9, .inl (cI, 6, .inl wt)), (m0, .inl (cI, 625, .inl ro)), (m1, .inl (cI, 65, .inl co)), (m3, .inl (cI, 16, .inl mm)), (m10, .inl (cI, 30, .inl mp)), (m6, .inl (cI, 4, .inl mk))] [1, 2, 3, 4, 5, 6, 7, 8, 9, 10, 11, 12, 0] (by decide) rfl ?_
                        exact x_iret C dX10_left_188 (Nat.zero_le _) (Nat.zero_le _) (by rw [eO]; exact ⟨x5_112, tl2_34, op2_34, bp2_34, by2_34, dp2_34, tk2_34, rfl, rfl, (Or.inr ⟨by omega, Or.inr ⟨by omega, Or.inr ⟨(rf_m6 (h_24.2.1 (by omega)) (by omega)), h_34.2, h_34.1, Or.inr (Or.inr ⟨by omega, by omega, by rw [← l9]; exact i_112.2.out (by omega)⟩)⟩⟩⟩)⟩)
                      · skip
                        have e_179 : (x : Int32).toInt = (0 : Int32).toInt := i_eq.mp c_179
                        have : (0 : Int32).toInt = 0 := by decide
                        refine x_iload_n C 3 dX10_left_182 rfl rfl ?_
                        refine x_goto C 188 dX10_left_183 (by decide) ?_
                        refine x_sub [(hy, .inr (10, [.ref m0, .ref m1, .ref m2, .ref m3, .ref m4, .ref m5, .ref m6, .ref m7, .ref m8, .ref m9, .int mw, .int ml, .int mb, .ref m10, .int mz, .ref m11, .int op2_34, .int bp2_34, .int by2_34, .int dp2_34, .int tk2_34, .ref m12, .ref m13, .ref m14, .ref m15, .ref m16, .ref m17, .ref m18, .int ka, .int iw])), (m11, .inl (cI, 4, .inl tl2_34)), (m2, .inl (cI, 4, .inl ma)), (m4, .inl (cI, 4, .inl mg)), (m5, .inl (cI, 4, .inl mt)), (m7, .inl (cI, 6, .inl wf)), (m8, .inl (cI, 6, .inl wp)), (m9, .inl (cI, 6, .inl wt)), (m0, .inl (cI, 625, .inl ro)), (m1, .inl (cI, 65, .inl co)), (m3, .inl (cI, 16, .inl mm)), (m10, .inl (cI, 30, .inl mp)), (m6, .inl (cI, 4, .inl mk))] [1, 2, 3, 4, 5, 6, 7, 8, 9, 10, 11, 12, 0] (by decide) rfl ?_
                        exact x_iret C dX10_left_188 (Nat.zero_le _) (Nat.zero_le _) (by rw [eO]; exact ⟨x3_61, tl2_34, op2_34, bp2_34, by2_34, dp2_34, tk2_34, rfl, rfl, (Or.inr ⟨by omega, Or.inr ⟨by omega, Or.inr ⟨(rf_m6 (h_24.2.1 (by omega)) (by omega)), h_34.2, h_34.1, Or.inr (Or.inl ⟨by omega, by omega, by rw [i_61.2, show x5_61.toInt.toNat = 4 by omega]⟩)⟩⟩⟩)⟩)
                    · skip
                      have e_115 : ¬ ((4 : Int32).toInt ≤ (x6_112 : Int32).toInt) := fun h => c_115 (i_le.mpr h)
                      have : (4 : Int32).toInt = 4 := by decide
                      refine x_iload C 0 dX10_left_118 rfl ?_
                      refine x_iload_n C 5 dX10_left_120 rfl rfl ?_
                      refine x_icmp_eq C 151 dX10_left_121 (by decide) (fun c_121 => ?_) (fun c_121 => ?_)
                      · skip
                        have e_121 : (x6_112 : Int32).toInt = (t : Int32).toInt := i_eq.mp c_121
                        refine x_iconst C 0 dX10_left_151 (by decide) ?_
                        refine x_istore C [(7, .int 0), (6, .int x6_112), (5, .int x5_112), (4, .int (setI op2_34)), (3, .int x3_61), (0, .ref hy), (1, .int t), (2, .int x)] dX10_left_152 (by decide) rfl ?_
                        refine x_iload C 2 dX10_left_154 rfl ?_
                        refine x_iload C 0 dX10_left_156 rfl ?_
                        refine x_if_eq C 168 dX10_left_158 (by decide) (fun c_158 => ?_) (fun c_158 => ?_)
                        · skip
                          have e_158 : (0 : Int32).toInt = (0 : Int32).toInt := i_eq.mp c_158
                          have : (0 : Int32).toInt = 0 := by decide
                          have : (0 : Int32).toInt = 0 := by decide
                          refine x_iconst C 0 dX10_left_168 (by decide) ?_
                          refine x_ior C dX10_left_169 ?_
                          refine x_istore C [(5, .int (x5_112 ||| 0)), (7, .int 0), (6, .int x6_112), (4, .int (setI op2_34)), (3, .int x3_61), (0, .ref hy), (1, .int t), (2, .int x)] dX10_left_170 (by decide) rfl ?_
                          refine x_iinc C 2 (x6_112 + 1) [(6, .int (x6_112 + 1)), (5, .int (x5_112 ||| 0)), (7, .int 0), (4, .int (setI op2_34)), (3, .int x3_61), (0, .ref hy), (1, .int t), (2, .int x)] dX10_left_172 rfl rfl (by decide) rfl ?_
                          refine x_goto C 112 dX10_left_175 (by decide) ?_
                          refine x_lv [(6, .int (x6_112 + 1)), (5, .int (x5_112 ||| 0)), (4, .int (setI op2_34)), (3, .int x3_61), (0, .ref hy), (1, .int t), (2, .int x)] [0, 1, 3, 4, 5, 6, 7] rfl ?_
                          have : (1 : Int32).toInt = 1 := by decide
                          have := i_add (x := x6_112) (y := 1) (by omega) (by omega)
                          exact ih_112 (x6_112 + 1) (x5_112 ||| 0) ⟨by omega, i_112.2.no (by omega) (by omega) (fun h => by have := h.1; omega)⟩ (by omega)
                        · skip
                          have e_158 : ¬ ((0 : Int32).toInt = (0 : Int32).toInt) := fun h => c_158 (i_eq.mpr h)
                          have : (0 : Int32).toInt = 0 := by decide
                          have : (0 : Int32).toInt = 0 := by decide
                          exfalso
                          omega
                      · skip
                        have e_121 : ¬ ((x6_112 : Int32).toInt = (t : Int32).toInt) := fun h => c_121 (i_eq.mpr h)
                        refine x_iload_n C 3 dX10_left_124 rfl rfl ?_
                        refine x_aload_n C 4 dX10_left_125 rfl rfl ?_
                        refine x_get C 1 6 dX10_left_126 inlX10 rfl (by decide) wd_128 rfl rfl rfl ?_
                        refine x_iload C 0 dX10_left_129 rfl ?_
                        have v_131 : vp_in x6_112 4 := (vp_in_iff.mpr (by omega))
                        refine x_iald C 0 0 dX10_left_131 hT.1 rfl v_131 ?_
                        refine x_iconst C (-1) dX10_left_132 (by decide) ?_
                        refine x_ixor C dX10_left_133 ?_
                        refine x_iand C dX10_left_134 ?_
                        refine x_if_ne C 151 dX10_left_135 (by decide) (fun c_135 => ?_) (fun c_135 => ?_)
                        · skip
                          have e_135 : ¬ ((x3_61 &&& ((mk (Int32.toNatClampNeg x6_112)) ^^^ ((-1))) : Int32).toInt = (0 : Int32).toInt) := fun h => c_135 (i_eq.mpr h)
                          have : (0 : Int32).toInt = 0 := by decide
                          refine x_iconst C 0 dX10_left_151 (by decide) ?_
                          refine x_istore C [(7, .int 0), (6, .int x6_112), (5, .int x5_112), (4, .int (setI op2_34)), (3, .int x3_61), (0, .ref hy), (1, .int t), (2, .int x)] dX10_left_152 (by decide) rfl ?_
                          refine x_iload C 2 dX10_left_154 rfl ?_
                          refine x_iload C 0 dX10_left_156 rfl ?_
                          refine x_if_eq C 168 dX10_left_158 (by decide) (fun c_158 => ?_) (fun c_158 => ?_)
                          · skip
                            have e_158 : (0 : Int32).toInt = (0 : Int32).toInt := i_eq.mp c_158
                            have : (0 : Int32).toInt = 0 := by decide
                            have : (0 : Int32).toInt = 0 := by decide
                            refine x_iconst C 0 dX10_left_168 (by decide) ?_
                            refine x_ior C dX10_left_169 ?_
                            refine x_istore C [(5, .int (x5_112 ||| 0)), (7, .int 0), (6, .int x6_112), (4, .int (setI op2_34)), (3, .int x3_61), (0, .ref hy), (1, .int t), (2, .int x)] dX10_left_170 (by decide) rfl ?_
                            refine x_iinc C 2 (x6_112 + 1) [(6, .int (x6_112 + 1)), (5, .int (x5_112 ||| 0)), (7, .int 0), (4, .int (setI op2_34)), (3, .int x3_61), (0, .ref hy), (1, .int t), (2, .int x)] dX10_left_172 rfl rfl (by decide) rfl ?_
                            refine x_goto C 112 dX10_left_175 (by decide) ?_
                            refine x_lv [(6, .int (x6_112 + 1)), (5, .int (x5_112 ||| 0)), (4, .int (setI op2_34)), (3, .int x3_61), (0, .ref hy), (1, .int t), (2, .int x)] [0, 1, 3, 4, 5, 6, 7] rfl ?_
                            have : (1 : Int32).toInt = 1 := by decide
                            have := i_add (x := x6_112) (y := 1) (by omega) (by omega)
                            exact ih_112 (x6_112 + 1) (x5_112 ||| 0) ⟨by omega, i_112.2.no (by omega) (by omega) (fun h => e_135 (h.2.1.trans t0_.symm))⟩ (by omega)
                          · skip
                            have e_158 : ¬ ((0 : Int32).toInt = (0 : Int32).toInt) := fun h => c_158 (i_eq.mpr h)
                            have : (0 : Int32).toInt = 0 := by decide
                            have : (0 : Int32).toInt = 0 := by decide
                            exfalso
                            omega
                        · skip
                          have e_135 : (x3_61 &&& ((mk (Int32.toNatClampNeg x6_112)) ^^^ ((-1))) : Int32).toInt = (0 : Int32).toInt := i_eq.mp c_135
                          have : (0 : Int32).toInt = 0 := by decide
                          refine x_aload_n C 4 dX10_left_138 rfl rfl ?_
                          refine x_iload C 0 dX10_left_139 rfl ?_
                          refine x_callV C [.int x6_112] [(m6, .inl (cI, 4, .inl mk)), (m11, .inl (cI, 4, .inl tl2_34)), (m2, .inl (cI, 4, .inl ma)), (m4, .inl (cI, 4, .inl mg)), (m7, .inl (cI, 6, .inl wf)), (m8, .inl (cI, 6, .inl wp)), (m9, .inl (cI, 6, .inl wt)), (m0, .inl (cI, 625, .inl ro)), (m1, .inl (cI, 65, .inl co)), (m3, .inl (cI, 16, .inl mm)), (m10, .inl (cI, 30, .inl mp))] [1, 5] [0, 2, 3, 4, 6, 7, 8, 9, 10, 11, 12] (q0 := 0) (c_X10_hasOpen (xl X) (xD X) (xt X) hT hy m0 m1 m2 m3 m4 m5 m6 m7 m8 m9 m10 m11 m12 m13 m14 m15 m16 m17 m18 mt mw ml mb mz op2_34 bp2_34 by2_34 dp2_34 tk2_34 ka iw x6_112 h_34.1) dX10_left_141 wd_465 wd_466 wd_467 wd_5 wd_468 (np := 1) ⟨by decide, by decide, by decide +kernel⟩ rfl rfl (Nat.le_of_ble_eq_true rfl) (by decide) rfl rfl rfl rfl (by decide) rfl (by decide) (by decide) (fun v W1 h => ?_)
                          obtain ⟨r_141, rfl, rfl, h_141⟩ := h
                          show V X 8 [(m6, .inl (cI, 4, .inl mk)), (m11, .inl (cI, 4, .inl tl2_34)), (m2, .inl (cI, 4, .inl ma)), (m4, .inl (cI, 4, .inl mg)), (m7, .inl (cI, 6, .inl wf)), (m8, .inl (cI, 6, .inl wp)), (m9, .inl (cI, 6, .inl wt)), (m0, .inl (cI, 625, .inl ro)), (m1, .inl (cI, 65, .inl co)), (m3, .inl (cI, 16, .inl mm)), (m10, .inl (cI, 30, .inl mp)), (hy, .inr (10, [.ref m0, .ref m1, .ref m2, .ref m3, .ref m4, .ref m5, .ref m6, .ref m7, .ref m8, .ref m9, .int mw, .int ml, .int mb, .ref m10, .int mz, .ref m11, .int op2_34, .int bp2_34, .int by2_34, .int dp2_34, .int tk2_34, .ref m12, .ref m13, .ref m14, .ref m15, .ref m16, .ref m17, .ref m18, .int ka, .int iw])), (m5, .inl (cI, 4, .inl mt))] [(6, .int x6_112), (5, .int x5_112), (4, .int (setI op2_34)), (3, .int x3_61), (0, .ref hy), (1, .int t), (2, .int x)] [.int r_141] 144 0 0
                          refine x_if_ne C 151 dX10_left_144 (by decide) (fun c_144 => ?_) (fun c_144 => ?_)
                          · skip
                            have e_144 : ¬ ((r_141 : Int32).toInt = (0 : Int32).toInt) := fun h => c_144 (i_eq.mpr h)
                            have : (0 : Int32).toInt = 0 := by decide
                            refine x_iconst C 0 dX10_left_151 (by decide) ?_
                            refine x_istore C [(7, .int 0), (6, .int x6_112), (5, .int x5_112), (4, .int (setI op2_34)), (3, .int x3_61), (0, .ref hy), (1, .int t), (2, .int x)] dX10_left_152 (by decide) rfl ?_
                            refine x_iload C 2 dX10_left_154 rfl ?_
                            refine x_iload C 0 dX10_left_156 rfl ?_
                            refine x_if_eq C 168 dX10_left_158 (by decide) (fun c_158 => ?_) (fun c_158 => ?_)
                            · skip
                              have e_158 : (0 : Int32).toInt = (0 : Int32).toInt := i_eq.mp c_158
                              have : (0 : Int32).toInt = 0 := by decide
                              have : (0 : Int32).toInt = 0 := by decide
                              refine x_iconst C 0 dX10_left_168 (by decide) ?_
                              refine x_ior C dX10_left_169 ?_
                              refine x_istore C [(5, .int (x5_112 ||| 0)), (7, .int 0), (6, .int x6_112), (4, .int (setI op2_34)), (3, .int x3_61), (0, .ref hy), (1, .int t), (2, .int x)] dX10_left_170 (by decide) rfl ?_
                              refine x_iinc C 2 (x6_112 + 1) [(6, .int (x6_112 + 1)), (5, .int (x5_112 ||| 0)), (7, .int 0), (4, .int (setI op2_34)), (3, .int x3_61), (0, .ref hy), (1, .int t), (2, .int x)] dX10_left_172 rfl rfl (by decide) rfl ?_
                              refine x_goto C 112 dX10_left_175 (by decide) ?_
                              refine x_sub [(m6, .inl (cI, 4, .inl mk)), (hy, .inr (10, [.ref m0, .ref m1, .ref m2, .ref m3, .ref m4, .ref m5, .ref m6, .ref m7, .ref m8, .ref m9, .int mw, .int ml, .int mb, .ref m10, .int mz, .ref m11, .int op2_34, .int bp2_34, .int by2_34, .int dp2_34, .int tk2_34, .ref m12, .ref m13, .ref m14, .ref m15, .ref m16, .ref m17, .ref m18, .int ka, .int iw])), (m11, .inl (cI, 4, .inl tl2_34)), (m2, .inl (cI, 4, .inl ma)), (m4, .inl (cI, 4, .inl mg)), (m5, .inl (cI, 4, .inl mt)), (m7, .inl (cI, 6, .inl wf)), (m8, .inl (cI, 6, .inl wp)), (m9, .inl (cI, 6, .inl wt)), (m0, .inl (cI, 625, .inl ro)), (m1, .inl (cI, 65, .inl co)), (m3, .inl (cI, 16, .inl mm)), (m10, .inl (cI, 30, .inl mp))] [0, 11, 1, 2, 3, 12, 4, 5, 6, 7, 8, 9, 10] (by decide) rfl ?_
                              refine x_lv [(6, .int (x6_112 + 1)), (5, .int (x5_112 ||| 0)), (4, .int (setI op2_34)), (3, .int x3_61), (0, .ref hy), (1, .int t), (2, .int x)] [0, 1, 3, 4, 5, 6, 7] rfl ?_
                              have : (1 : Int32).toInt = 1 := by decide
                              have := i_add (x := x6_112) (y := 1) (by omega) (by omega)
                              exact ih_112 (x6_112 + 1) (x5_112 ||| 0) ⟨by omega, i_112.2.no (by omega) (by omega) (fun h => h.2.2 (by rw [← nI_sl (x := x6_112) (by omega)]; exact h_141.t (by omega)))⟩ (by omega)
                            · skip
                              have e_158 : ¬ ((0 : Int32).toInt = (0 : Int32).toInt) := fun h => c_158 (i_eq.mpr h)
                              have : (0 : Int32).toInt = 0 := by decide
                              have : (0 : Int32).toInt = 0 := by decide
                              exfalso
                              omega
                          · skip
                            have e_144 : (r_141 : Int32).toInt = (0 : Int32).toInt := i_eq.mp c_144
                            have : (0 : Int32).toInt = 0 := by decide
                            refine x_iconst C 1 dX10_left_147 (by decide) ?_
                            refine x_goto C 152 dX10_left_148 (by decide) ?_
                            refine x_istore C [(7, .int 1), (6, .int x6_112), (5, .int x5_112), (4, .int (setI op2_34)), (3, .int x3_61), (0, .ref hy), (1, .int t), (2, .int x)] dX10_left_152 (by decide) rfl ?_
                            refine x_iload C 2 dX10_left_154 rfl ?_
                            refine x_iload C 0 dX10_left_156 rfl ?_
                            refine x_if_eq C 168 dX10_left_158 (by decide) (fun c_158 => ?_) (fun c_158 => ?_)
                            · skip
                              have e_158 : (1 : Int32).toInt = (0 : Int32).toInt := i_eq.mp c_158
                              have : (1 : Int32).toInt = 1 := by decide
                              have : (0 : Int32).toInt = 0 := by decide
                              exfalso
                              omega
                            · skip
                              have e_158 : ¬ ((1 : Int32).toInt = (0 : Int32).toInt) := fun h => c_158 (i_eq.mpr h)
                              have : (1 : Int32).toInt = 1 := by decide
                              have : (0 : Int32).toInt = 0 := by decide
                              refine x_iconst C 1 dX10_left_161 (by decide) ?_
                              refine x_iload C 1 dX10_left_162 rfl ?_
                              refine x_ishl C dX10_left_164 ?_
                              refine x_goto C 169 dX10_left_165 (by decide) ?_
                              refine x_ior C dX10_left_169 ?_
                              refine x_istore C [(5, .int (x5_112 ||| ((1 : Int32) <<< (x6_112 &&& 31)))), (7, .int 1), (6, .int x6_112), (4, .int (setI op2_34)), (3, .int x3_61), (0, .ref hy), (1, .int t), (2, .int x)] dX10_left_170 (by decide) rfl ?_
                              refine x_iinc C 2 (x6_112 + 1) [(6, .int (x6_112 + 1)), (5, .int (x5_112 ||| ((1 : Int32) <<< (x6_112 &&& 31)))), (7, .int 1), (4, .int (setI op2_34)), (3, .int x3_61), (0, .ref hy), (1, .int t), (2, .int x)] dX10_left_172 rfl rfl (by decide) rfl ?_
                              refine x_goto C 112 dX10_left_175 (by decide) ?_
                              refine x_sub [(m6, .inl (cI, 4, .inl mk)), (hy, .inr (10, [.ref m0, .ref m1, .ref m2, .ref m3, .ref m4, .ref m5, .ref m6, .ref m7, .ref m8, .ref m9, .int mw, .int ml, .int mb, .ref m10, .int mz, .ref m11, .int op2_34, .int bp2_34, .int by2_34, .int dp2_34, .int tk2_34, .ref m12, .ref m13, .ref m14, .ref m15, .ref m16, .ref m17, .ref m18, .int ka, .int iw])), (m11, .inl (cI, 4, .inl tl2_34)), (m2, .inl (cI, 4, .inl ma)), (m4, .inl (cI, 4, .inl mg)), (m5, .inl (cI, 4, .inl mt)), (m7, .inl (cI, 6, .inl wf)), (m8, .inl (cI, 6, .inl wp)), (m9, .inl (cI, 6, .inl wt)), (m0, .inl (cI, 625, .inl ro)), (m1, .inl (cI, 65, .inl co)), (m3, .inl (cI, 16, .inl mm)), (m10, .inl (cI, 30, .inl mp))] [0, 11, 1, 2, 3, 12, 4, 5, 6, 7, 8, 9, 10] (by decide) rfl ?_
                              refine x_lv [(6, .int (x6_112 + 1)), (5, .int (x5_112 ||| ((1 : Int32) <<< (x6_112 &&& 31)))), (4, .int (setI op2_34)), (3, .int x3_61), (0, .ref hy), (1, .int t), (2, .int x)] [0, 1, 3, 4, 5, 6, 7] rfl ?_
                              have : (1 : Int32).toInt = 1 := by decide
                              have := i_add (x := x6_112) (y := 1) (by omega) (by omega)
                              exact ih_112 (x6_112 + 1) (x5_112 ||| ((1 : Int32) <<< (x6_112 &&& 31))) ⟨by omega, i_112.2.yes (by omega) (by omega) ⟨by omega, e_135.trans t0_, by rw [← nI_sl (x := x6_112) (by omega)]; exact h_141.f (by omega)⟩⟩ (by omega)
                have : (0 : Int32).toInt = 0 := by decide
                have : (0 : Int32).toInt = 0 := by decide
                exact L_112 _ 0 0 ⟨by omega, TBI.z (by omega)⟩ (Nat.lt_succ_self _)
              · skip
                have e_64 : ¬ ((4 : Int32).toInt ≤ (x5_61 : Int32).toInt) := fun h => c_64 (i_le.mpr h)
                have : (4 : Int32).toInt = 4 := by decide
                refine x_iload_n C 2 dX10_left_67 rfl rfl ?_
                refine x_iload C 1 dX10_left_68 rfl ?_
                refine x_iload C 0 dX10_left_70 rfl ?_
                refine x_ishr C dX10_left_72 ?_
                refine x_iconst C 1 dX10_left_73 (by decide) ?_
                refine x_iand C dX10_left_74 ?_
                refine x_iconst C 1 dX10_left_75 (by decide) ?_
                refine x_icmp_ne C 97 dX10_left_76 (by decide) (fun c_76 => ?_) (fun c_76 => ?_)
                · skip
                  have e_76 : ¬ ((((setI op2_34) >>> (x5_61 &&& 31)) &&& 1 : Int32).toInt = (1 : Int32).toInt) := fun h => c_76 (i_eq.mpr h)
                  have : (1 : Int32).toInt = 1 := by decide
                  refine x_iconst C 0 dX10_left_97 (by decide) ?_
                  refine x_ior C dX10_left_98 ?_
                  refine x_istore_n C [(3, .int (x3_61 ||| 0)), (5, .int x5_61), (4, .int (setI op2_34)), (0, .ref hy), (1, .int t), (2, .int x)] dX10_left_99 rfl (by decide) rfl ?_
                  refine x_iinc C 1 (x5_61 + 1) [(5, .int (x5_61 + 1)), (3, .int (x3_61 ||| 0)), (4, .int (setI op2_34)), (0, .ref hy), (1, .int t), (2, .int x)] dX10_left_100 rfl rfl (by decide) rfl ?_
                  refine x_goto C 61 dX10_left_103 (by decide) ?_
                  refine x_lv [(5, .int (x5_61 + 1)), (4, .int (setI op2_34)), (3, .int (x3_61 ||| 0)), (0, .ref hy), (1, .int t), (2, .int x)] [0, 2, 1, 3, 4, 5] rfl ?_
                  have : (1 : Int32).toInt = 1 := by decide
                  have := i_add (x := x5_61) (y := 1) (by omega) (by omega)
                  exact ih_61 (x5_61 + 1) (x3_61 ||| 0) ⟨by omega, by rw [btn_f (p := lfP mt op2_34 t) (x := x5_61) (by omega) (by omega) (lf_f (by omega) (fun h => by have h1 := h.1; have h2 := h.2; unfold bit1 at h1; omega)), ← i_61.2]⟩ (by omega)
                · skip
                  have e_76 : (((setI op2_34) >>> (x5_61 &&& 31)) &&& 1 : Int32).toInt = (1 : Int32).toInt := i_eq.mp c_76
                  have : (1 : Int32).toInt = 1 := by decide
                  refine x_aload_n C 3 dX10_left_79 rfl rfl ?_
                  refine x_get C 1 5 dX10_left_80 inlX10 rfl (by decide) wd_127 rfl rfl rfl ?_
                  refine x_iload C 0 dX10_left_83 rfl ?_
                  have v_85 : vp_in x5_61 4 := (vp_in_iff.mpr (by omega))
                  refine x_iald C 5 0 dX10_left_85 hT.1 rfl v_85 ?_
                  refine x_iload_n C 4 dX10_left_86 rfl rfl ?_
                  refine x_icmp_ne C 97 dX10_left_87 (by decide) (fun c_87 => ?_) (fun c_87 => ?_)
                  · skip
                    have e_87 : ¬ ((mt (Int32.toNatClampNeg x5_61) : Int32).toInt = (t : Int32).toInt) := fun h => c_87 (i_eq.mpr h)
                    refine x_iconst C 0 dX10_left_97 (by decide) ?_
                    refine x_ior C dX10_left_98 ?_
                    refine x_istore_n C [(3, .int (x3_61 ||| 0)), (5, .int x5_61), (4, .int (setI op2_34)), (0, .ref hy), (1, .int t), (2, .int x)] dX10_left_99 rfl (by decide) rfl ?_
                    refine x_iinc C 1 (x5_61 + 1) [(5, .int (x5_61 + 1)), (3, .int (x3_61 ||| 0)), (4, .int (setI op2_34)), (0, .ref hy), (1, .int t), (2, .int x)] dX10_left_100 rfl rfl (by decide) rfl ?_
                    refine x_goto C 61 dX10_left_103 (by decide) ?_
                    refine x_lv [(5, .int (x5_61 + 1)), (4, .int (setI op2_34)), (3, .int (x3_61 ||| 0)), (0, .ref hy), (1, .int t), (2, .int x)] [0, 2, 1, 3, 4, 5] rfl ?_
                    have : (1 : Int32).toInt = 1 := by decide
                    have := i_add (x := x5_61) (y := 1) (by omega) (by omega)
                    exact ih_61 (x5_61 + 1) (x3_61 ||| 0) ⟨by omega, by rw [btn_f (p := lfP mt op2_34 t) (x := x5_61) (by omega) (by omega) (lf_f (by omega) (fun h => by have h1 := h.1; have h2 := h.2; unfold bit1 at h1; omega)), ← i_61.2]⟩ (by omega)
                  · skip
                    have e_87 : (mt (Int32.toNatClampNeg x5_61) : Int32).toInt = (t : Int32).toInt := i_eq.mp c_87
                    refine x_iconst C 1 dX10_left_90 (by decide) ?_
                    refine x_iload C 0 dX10_left_91 rfl ?_
                    refine x_ishl C dX10_left_93 ?_
                    refine x_goto C 98 dX10_left_94 (by decide) ?_
                    refine x_ior C dX10_left_98 ?_
                    refine x_istore_n C [(3, .int (x3_61 ||| ((1 : Int32) <<< (x5_61 &&& 31)))), (5, .int x5_61), (4, .int (setI op2_34)), (0, .ref hy), (1, .int t), (2, .int x)] dX10_left_99 rfl (by decide) rfl ?_
                    refine x_iinc C 1 (x5_61 + 1) [(5, .int (x5_61 + 1)), (3, .int (x3_61 ||| ((1 : Int32) <<< (x5_61 &&& 31)))), (4, .int (setI op2_34)), (0, .ref hy), (1, .int t), (2, .int x)] dX10_left_100 rfl rfl (by decide) rfl ?_
                    refine x_goto C 61 dX10_left_103 (by decide) ?_
                    refine x_lv [(5, .int (x5_61 + 1)), (4, .int (setI op2_34)), (3, .int (x3_61 ||| ((1 : Int32) <<< (x5_61 &&& 31)))), (0, .ref hy), (1, .int t), (2, .int x)] [0, 2, 1, 3, 4, 5] rfl ?_
                    have : (1 : Int32).toInt = 1 := by decide
                    have := i_add (x := x5_61) (y := 1) (by omega) (by omega)
                    exact ih_61 (x5_61 + 1) (x3_61 ||| ((1 : Int32) <<< (x5_61 &&& 31))) ⟨by omega, by rw [btn_t (p := lfP mt op2_34 t) (x := x5_61) (by omega) (by omega) (lf_t (by omega) ⟨by unfold bit1; omega, by omega⟩), ← i_61.2]⟩ (by omega)
          have : (0 : Int32).toInt = 0 := by decide
          have : (0 : Int32).toInt = 0 := by decide
          exact L_61 _ 0 0 ⟨by omega, by rw [t0_]; rfl⟩ (Nat.lt_succ_self _)
        · skip
          have e_41 : ¬ ((bp2_34 : Int32).toInt < (0 : Int32).toInt) := fun h => c_41 (i_lt.mpr h)
          have : (0 : Int32).toInt = 0 := by decide
          refine x_bipush C (-3) dX10_left_44 (by decide) ?_
          refine x_sub [(hy, .inr (10, [.ref m0, .ref m1, .ref m2, .ref m3, .ref m4, .ref m5, .ref m6, .ref m7, .ref m8, .ref m9, .int mw, .int ml, .int mb, .ref m10, .int mz, .ref m11, .int op2_34, .int bp2_34, .int by2_34, .int dp2_34, .int tk2_34, .ref m12, .ref m13, .ref m14, .ref m15, .ref m16, .ref m17, .ref m18, .int ka, .int iw])), (m11, .inl (cI, 4, .inl tl2_34)), (m2, .inl (cI, 4, .inl ma)), (m4, .inl (cI, 4, .inl mg)), (m5, .inl (cI, 4, .inl mt)), (m7, .inl (cI, 6, .inl wf)), (m8, .inl (cI, 6, .inl wp)), (m9, .inl (cI, 6, .inl wt)), (m0, .inl (cI, 625, .inl ro)), (m1, .inl (cI, 65, .inl co)), (m3, .inl (cI, 16, .inl mm)), (m10, .inl (cI, 30, .inl mp)), (m6, .inl (cI, 4, .inl mk))] [1, 2, 3, 4, 5, 6, 7, 8, 9, 10, 11, 12, 0] (by decide) rfl ?_
          have : ((-3) : Int32).toInt = -3 := by decide
          exact x_iret C dX10_left_46 (Nat.zero_le _) (Nat.zero_le _) (by rw [eO]; exact ⟨((-3)), tl2_34, op2_34, bp2_34, by2_34, dp2_34, tk2_34, rfl, rfl, (Or.inr ⟨by omega, Or.inr ⟨by omega, Or.inr ⟨(rf_m6 (h_24.2.1 (by omega)) (by omega)), h_34.2, h_34.1, Or.inl ⟨by omega, rfl⟩⟩⟩⟩)⟩)
      · skip
        have e_27 : ¬ ((r_24 : Int32).toInt < (0 : Int32).toInt) := fun h => c_27 (i_lt.mpr h)
        have : (0 : Int32).toInt = 0 := by decide
        refine x_bipush C (-5) dX10_left_30 (by decide) ?_
        refine x_sub [(hy, .inr (10, [.ref m0, .ref m1, .ref m2, .ref m3, .ref m4, .ref m5, .ref m6, .ref m7, .ref m8, .ref m9, .int mw, .int ml, .int mb, .ref m10, .int mz, .ref m11, .int op, .int bp, .int by0, .int dp, .int tk, .ref m12, .ref m13, .ref m14, .ref m15, .ref m16, .ref m17, .ref m18, .int ka, .int iw])), (m11, .inl (cI, 4, .inl tl)), (m2, .inl (cI, 4, .inl ma)), (m4, .inl (cI, 4, .inl mg)), (m5, .inl (cI, 4, .inl mt)), (m7, .inl (cI, 6, .inl wf)), (m8, .inl (cI, 6, .inl wp)), (m9, .inl (cI, 6, .inl wt)), (m0, .inl (cI, 625, .inl ro)), (m1, .inl (cI, 65, .inl co)), (m3, .inl (cI, 16, .inl mm)), (m10, .inl (cI, 30, .inl mp)), (m6, .inl (cI, 4, .inl mk))] [11, 0, 1, 2, 3, 4, 5, 6, 7, 8, 9, 12, 10] (by decide) rfl ?_
        have : ((-5) : Int32).toInt = -5 := by decide
        exact x_iret C dX10_left_32 (Nat.zero_le _) (Nat.zero_le _) (by rw [eO]; exact ⟨((-5)), tl, op, bp, by0, dp, tk, rfl, rfl, (Or.inr ⟨by omega, Or.inr ⟨by omega, Or.inl ⟨fun h => by have h9 := congrArg Int32.toInt ((h_24.2.1 (by omega)).trans h); rw [tm6_] at h9; omega, rfl⟩⟩⟩)⟩)
    · skip
      have e_16 : (r_13 : Int32).toInt = (0 : Int32).toInt := i_eq.mp c_16
      have : (0 : Int32).toInt = 0 := by decide
      refine x_bipush C (-2) dX10_left_19 (by decide) ?_
      have : ((-2) : Int32).toInt = -2 := by decide
      exact x_iret C dX10_left_21 (Nat.zero_le _) (Nat.zero_le _) (by rw [eO]; exact ⟨((-2)), tl, op, bp, by0, dp, tk, rfl, rfl, (Or.inr ⟨by omega, Or.inl ⟨by omega, rfl⟩⟩)⟩)
  · skip
    have e_4 : (r_1 : Int32).toInt = (0 : Int32).toInt := i_eq.mp c_4
    have : (0 : Int32).toInt = 0 := by decide
    refine x_iconst C (-1) dX10_left_7 (by decide) ?_
    have : ((-1) : Int32).toInt = -1 := by decide
    exact x_iret C dX10_left_8 (Nat.zero_le _) (Nat.zero_le _) (by rw [eO]; exact ⟨((-1)), tl, op, bp, by0, dp, tk, rfl, rfl, (Or.inl ⟨by omega, rfl⟩)⟩)
