abbrev rm_X10_changesBy : Room := { frames := 4, cells := 0, slots := 0, locals := 96 }
set_option maxHeartbeats 4000000 in
set_option maxRecDepth 100000 in
theorem c_X10_changesBy (l : Launch) (D : va_G) (tys : List (ClassId × FieldType)) {cI cJ cZ cB : ClassId} (hT : Ty tys cI cJ cZ cB) (hy m0 m1 m2 m3 m4 m5 m6 m7 m8 m9 m10 m11 m12 m13 m14 m15 m16 m17 m18 : Nat) (tl ma mg mt wf wp wt ro co cg : Nat → Int32) (wy : Nat → Int64) (mw ml mb mz op bp by0 dp tk ka iw : Int32) (a k s se de : Int32) (hst : 0 ≤ a.toInt ∧ a.toInt < 40625) (hR : RT co ro) (hG : GS ma co a) (hs : 0 ≤ s.toInt ∧ s.toInt ≤ 3) (hmw : 0 ≤ mw.toInt ∧ mw.toInt ≤ 6) (hwt : SOk wt) (hte : TOk mt) : Cn l D tys yX10_changesBy cX10_changesBy 7 (some .int) rm_X10_changesBy [(hy, .inr (10, [.ref m0, .ref m1, .ref m2, .ref m3, .ref m4, .ref m5, .ref m6, .ref m7, .ref m8, .ref m9, .int mw, .int ml, .int mb, .ref m10, .int mz, .ref m11, .int op, .int bp, .int by0, .int dp, .int tk, .ref m12, .ref m13, .ref m14, .ref m15, .ref m16, .ref m17, .ref m18, .int ka, .int iw])), (m11, .inl (cI, 4, .inl tl)), (m2, .inl (cI, 4, .inl ma)), (m4, .inl (cI, 4, .inl mg)), (m5, .inl (cI, 4, .inl mt)), (m7, .inl (cI, 6, .inl wf)), (m8, .inl (cI, 6, .inl wp)), (m9, .inl (cI, 6, .inl wt)), (m0, .inl (cI, 625, .inl ro)), (m1, .inl (cI, 65, .inl co)), (m12, .inl (cJ, 40625, .inr (.inl wy))), (m14, .inl (cI, 203125, .inl cg))] [.ref hy, .int a, .int k, .int s, .int se, .int de] (fun v W1 => ∃ (tl2 : Nat → Int32) (op2 : Int32), v = some (.int (cbF (fun s => nxF ma mg mt wf wp wt mw ml co ro a s se de 0) mt mb wy cg k s)) ∧ W1 = [(hy, .inr (10, [.ref m0, .ref m1, .ref m2, .ref m3, .ref m4, .ref m5, .ref m6, .ref m7, .ref m8, .ref m9, .int mw, .int ml, .int mb, .ref m10, .int mz, .ref m11, .int op2, .int bp, .int by0, .int dp, .int tk, .ref m12, .ref m13, .ref m14, .ref m15, .ref m16, .ref m17, .ref m18, .int ka, .int iw])), (m11, .inl (cI, 4, .inl tl2)), (m2, .inl (cI, 4, .inl ma)), (m4, .inl (cI, 4, .inl mg)), (m5, .inl (cI, 4, .inl mt)), (m7, .inl (cI, 6, .inl wf)), (m8, .inl (cI, 6, .inl wp)), (m9, .inl (cI, 6, .inl wt)), (m0, .inl (cI, 625, .inl ro)), (m1, .inl (cI, 65, .inl co)), (m12, .inl (cJ, 40625, .inr (.inl wy))), (m14, .inl (cI, 203125, .inl cg))] ∧ (True)) := by
  refine Cn.of (by decide) (Nat.le_of_ble_eq_true rfl) ?_ ?_ (fun X eL eD eT eO eK eN eM C => ?_)
  · intro h; cases h
  · intro v ws h; obtain ⟨_, _, rfl, rfl, _⟩ := h; exact Or.inl rfl
  subst eL eD eT
  show V X 7 [(hy, .inr (10, [.ref m0, .ref m1, .ref m2, .ref m3, .ref m4, .ref m5, .ref m6, .ref m7, .ref m8, .ref m9, .int mw, .int ml, .int mb, .ref m10, .int mz, .ref m11, .int op, .int bp, .int by0, .int dp, .int tk, .ref m12, .ref m13, .ref m14, .ref m15, .ref m16, .ref m17, .ref m18, .int ka, .int iw])), (m11, .inl (cI, 4, .inl tl)), (m2, .inl (cI, 4, .inl ma)), (m4, .inl (cI, 4, .inl mg)), (m5, .inl (cI, 4, .inl mt)), (m7, .inl (cI, 6, .inl wf)), (m8, .inl (cI, 6, .inl wp)), (m9, .inl (cI, 6, .inl wt)), (m0, .inl (cI, 625, .inl ro)), (m1, .inl (cI, 65, .inl co)), (m12, .inl (cJ, 40625, .inr (.inl wy))), (m14, .inl (cI, 203125, .inl cg))] [(0, .ref hy), (1, .int a), (2, .int k), (3, .int s), (4, .int se), (5, .int de)] [] 0 0 0
  refine x_aload_n C 0 dX10_changesBy_0 rfl rfl ?_
  refine x_iload_n C 1 dX10_changesBy_1 rfl rfl ?_
  refine x_iload_n C 3 dX10_changesBy_2 rfl rfl ?_
  refine x_iload C 4 dX10_changesBy_3 rfl ?_
  refine x_iload C 5 dX10_changesBy_5 rfl ?_
  refine x_iconst C 0 dX10_changesBy_7 (by decide) ?_
  refine x_callV C [.int a, .int s, .int se, .int de, .int 0] [(m12, .inl (cJ, 40625, .inr (.inl wy))), (m14, .inl (cI, 203125, .inl cg))] [0, 1, 2, 3, 4, 5, 6, 7, 8, 9] [10, 11] (q0 := 0) (c_X10_nextOf (xl X) (xD X) (xt X) hT hy m0 m1 m2 m3 m4 m5 m6 m7 m8 m9 m10 m11 m12 m13 m14 m15 m16 m17 m18 tl ma mg mt wf wp wt ro co mw ml mb mz op bp by0 dp tk ka iw a s se de 0 hst hR hG hs hmw hwt) dX10_changesBy_8 wd_587 wd_588 wd_589 wd_5 wd_590 (np := 5) ⟨by decide, by decide, by decide +kernel⟩ rfl rfl (Nat.le_of_ble_eq_true rfl) (by decide) rfl rfl rfl rfl (by decide) rfl (by decide) (by decide) (fun v W1 h => ?_)
  obtain ⟨tl2_8, op2_8, rfl, rfl, h_8⟩ := h
  have : (0 : Int32).toInt = 0 := by decide
  show V X 7 [(m12, .inl (cJ, 40625, .inr (.inl wy))), (m14, .inl (cI, 203125, .inl cg)), (hy, .inr (10, [.ref m0, .ref m1, .ref m2, .ref m3, .ref m4, .ref m5, .ref m6, .ref m7, .ref m8, .ref m9, .int mw, .int ml, .int mb, .ref m10, .int mz, .ref m11, .int op2_8, .int bp, .int by0, .int dp, .int tk, .ref m12, .ref m13, .ref m14, .ref m15, .ref m16, .ref m17, .ref m18, .int ka, .int iw])), (m11, .inl (cI, 4, .inl tl2_8)), (m2, .inl (cI, 4, .inl ma)), (m4, .inl (cI, 4, .inl mg)), (m5, .inl (cI, 4, .inl mt)), (m7, .inl (cI, 6, .inl wf)), (m8, .inl (cI, 6, .inl wp)), (m9, .inl (cI, 6, .inl wt)), (m0, .inl (cI, 625, .inl ro)), (m1, .inl (cI, 65, .inl co))] [(0, .ref hy), (1, .int a), (2, .int k), (3, .int s), (4, .int se), (5, .int de)] [.int (nxF ma mg mt wf wp wt mw ml co ro a s se de 0)] 11 0 0
  refine x_istore C [(6, .int (nxF ma mg mt wf wp wt mw ml co ro a s se de 0)), (0, .ref hy), (1, .int a), (2, .int k), (3, .int s), (4, .int se), (5, .int de)] dX10_changesBy_11 (by decide) rfl ?_
  refine x_iload C 0 dX10_changesBy_13 rfl ?_
  refine x_if_lt C 30 dX10_changesBy_15 (by decide) (fun c_15 => ?_) (fun c_15 => ?_)
  · skip
    have e_15 : (nxF ma mg mt wf wp wt mw ml co ro a s se de 0 : Int32).toInt < (0 : Int32).toInt := i_lt.mp c_15
    have : (0 : Int32).toInt = 0 := by decide
    refine x_bipush C (-6) dX10_changesBy_30 (by decide) ?_
    refine x_sub [(hy, .inr (10, [.ref m0, .ref m1, .ref m2, .ref m3, .ref m4, .ref m5, .ref m6, .ref m7, .ref m8, .ref m9, .int mw, .int ml, .int mb, .ref m10, .int mz, .ref m11, .int op2_8, .int bp, .int by0, .int dp, .int tk, .ref m12, .ref m13, .ref m14, .ref m15, .ref m16, .ref m17, .ref m18, .int ka, .int iw])), (m11, .inl (cI, 4, .inl tl2_8)), (m2, .inl (cI, 4, .inl ma)), (m4, .inl (cI, 4, .inl mg)), (m5, .inl (cI, 4, .inl mt)), (m7, .inl (cI, 6, .inl wf)), (m8, .inl (cI, 6, .inl wp)), (m9, .inl (cI, 6, .inl wt)), (m0, .inl (cI, 625, .inl ro)), (m1, .inl (cI, 65, .inl co)), (m12, .inl (cJ, 40625, .inr (.inl wy))), (m14, .inl (cI, 203125, .inl cg))] [2, 3, 4, 5, 6, 7, 8, 9, 10, 11, 0, 1] (by decide) rfl ?_
    have : ((-6) : Int32).toInt = -6 := by decide
    exact x_iret C dX10_changesBy_32 (Nat.zero_le _) (Nat.zero_le _) (by rw [eO]; exact ⟨tl2_8, op2_8, (congrArg (fun z => some (Value.int z)) (cbF_n (Or.inl (by omega)))), rfl, trivial⟩)
  · skip
    have e_15 : ¬ ((nxF ma mg mt wf wp wt mw ml co ro a s se de 0 : Int32).toInt < (0 : Int32).toInt) := fun h => c_15 (i_lt.mpr h)
    have : (0 : Int32).toInt = 0 := by decide
    have n9 := nx_ok hR (by omega) hG (by omega) (nl0 e_15)
    refine x_aload_n C 1 dX10_changesBy_18 rfl rfl ?_
    refine x_get C 2 21 dX10_changesBy_19 inlX10 rfl (by decide) wd_135 rfl rfl rfl ?_
    refine x_iload C 0 dX10_changesBy_22 rfl ?_
    have v_24 : vp_in (nxF ma mg mt wf wp wt mw ml co ro a s se de 0) 40625 := (vp_in_iff.mpr (by omega))
    refine x_lald C 0 1 dX10_changesBy_24 hT.2.1 rfl v_24 ?_
    refine x_lconst C 0 dX10_changesBy_25 (by decide) ?_
    refine x_lcmp C dX10_changesBy_26 ?_
    refine x_if_ne C 33 dX10_changesBy_27 (by decide) (fun c_27 => ?_) (fun c_27 => ?_)
    · skip
      have e_27 : ¬ (((wy (Int32.toNatClampNeg (nxF ma mg mt wf wp wt mw ml co ro a s se de 0))) : Int64).toInt = (0 : Int64).toInt) := fun h => c_27 (lc_eq.mpr h)
      have : (0 : Int64).toInt = 0 := by decide
      refine x_aload_n C 1 dX10_changesBy_33 rfl rfl ?_
      refine x_get C 2 23 dX10_changesBy_34 inlX10 rfl (by decide) wd_138 rfl rfl rfl ?_
      refine x_iconst C 5 dX10_changesBy_37 (by decide) ?_
      refine x_iload C 0 dX10_changesBy_38 rfl ?_
      refine x_imul C dX10_changesBy_40 ?_
      refine x_aload_n C 1 dX10_changesBy_41 rfl rfl ?_
      refine x_get C 2 5 dX10_changesBy_42 inlX10 rfl (by decide) wd_127 rfl rfl rfl ?_
      refine x_iload_n C 4 dX10_changesBy_45 rfl rfl ?_
      have v_46 : vp_in s 4 := (vp_in_iff.mpr (by omega))
      refine x_iald C 6 0 dX10_changesBy_46 hT.1 rfl v_46 ?_
      have a_46 := hte.at v_46
      refine x_iadd C dX10_changesBy_47 ?_
      have : (5 : Int32).toInt = 5 := by decide
      have := i_mull (x := 5) (y := (nxF ma mg mt wf wp wt mw ml co ro a s se de 0)) (d := 5) (by decide) (by omega) (by omega)
      have := i_add (x := (5 * (nxF ma mg mt wf wp wt mw ml co ro a s se de 0))) (y := (mt (Int32.toNatClampNeg s))) (by omega) (by omega)
      have v_48 : vp_in ((5 * (nxF ma mg mt wf wp wt mw ml co ro a s se de 0)) + (mt (Int32.toNatClampNeg s))) 203125 := (vp_in_iff.mpr (by omega))
      refine x_iald C 1 0 dX10_changesBy_48 hT.1 rfl v_48 ?_
      refine x_aload_n C 1 dX10_changesBy_49 rfl rfl ?_
      refine x_get C 2 12 dX10_changesBy_50 inlX10 rfl (by decide) wd_348 rfl rfl rfl ?_
      refine x_if_le C 75 dX10_changesBy_53 (by decide) (fun c_53 => ?_) (fun c_53 => ?_)
      · skip
        have e_53 : (mb : Int32).toInt ≤ (0 : Int32).toInt := i_le.mp c_53
        have : (0 : Int32).toInt = 0 := by decide
        refine x_iconst C 0 dX10_changesBy_75 (by decide) ?_
        refine x_iadd C dX10_changesBy_76 ?_
        refine x_sub [(hy, .inr (10, [.ref m0, .ref m1, .ref m2, .ref m3, .ref m4, .ref m5, .ref m6, .ref m7, .ref m8, .ref m9, .int mw, .int ml, .int mb, .ref m10, .int mz, .ref m11, .int op2_8, .int bp, .int by0, .int dp, .int tk, .ref m12, .ref m13, .ref m14, .ref m15, .ref m16, .ref m17, .ref m18, .int ka, .int iw])), (m11, .inl (cI, 4, .inl tl2_8)), (m2, .inl (cI, 4, .inl ma)), (m4, .inl (cI, 4, .inl mg)), (m5, .inl (cI, 4, .inl mt)), (m7, .inl (cI, 6, .inl wf)), (m8, .inl (cI, 6, .inl wp)), (m9, .inl (cI, 6, .inl wt)), (m0, .inl (cI, 625, .inl ro)), (m1, .inl (cI, 65, .inl co)), (m12, .inl (cJ, 40625, .inr (.inl wy))), (m14, .inl (cI, 203125, .inl cg))] [2, 3, 4, 5, 6, 7, 8, 9, 10, 11, 0, 1] (by decide) rfl ?_
        exact x_iret C dX10_changesBy_77 (Nat.zero_le _) (Nat.zero_le _) (by rw [eO]; exact ⟨tl2_8, op2_8, (congrArg (fun z => some (Value.int z)) (cbF_0 (nx := fun s => nxF ma mg mt wf wp wt mw ml co ro a s se de 0) (s := s) (fun h9 => by rcases h9 with h9 | h9 <;> omega) (by omega))), rfl, trivial⟩)
      · skip
        have e_53 : ¬ ((mb : Int32).toInt ≤ (0 : Int32).toInt) := fun h => c_53 (i_le.mpr h)
        have : (0 : Int32).toInt = 0 := by decide
        refine x_iload_n C 3 dX10_changesBy_56 rfl rfl ?_
        refine x_iconst C 4 dX10_changesBy_57 (by decide) ?_
        refine x_icmp_ge C 75 dX10_changesBy_58 (by decide) (fun c_58 => ?_) (fun c_58 => ?_)
        · skip
          have e_58 : (4 : Int32).toInt ≤ (k : Int32).toInt := i_le.mp c_58
          have : (4 : Int32).toInt = 4 := by decide
          refine x_iconst C 0 dX10_changesBy_75 (by decide) ?_
          refine x_iadd C dX10_changesBy_76 ?_
          refine x_sub [(hy, .inr (10, [.ref m0, .ref m1, .ref m2, .ref m3, .ref m4, .ref m5, .ref m6, .ref m7, .ref m8, .ref m9, .int mw, .int ml, .int mb, .ref m10, .int mz, .ref m11, .int op2_8, .int bp, .int by0, .int dp, .int tk, .ref m12, .ref m13, .ref m14, .ref m15, .ref m16, .ref m17, .ref m18, .int ka, .int iw])), (m11, .inl (cI, 4, .inl tl2_8)), (m2, .inl (cI, 4, .inl ma)), (m4, .inl (cI, 4, .inl mg)), (m5, .inl (cI, 4, .inl mt)), (m7, .inl (cI, 6, .inl wf)), (m8, .inl (cI, 6, .inl wp)), (m9, .inl (cI, 6, .inl wt)), (m0, .inl (cI, 625, .inl ro)), (m1, .inl (cI, 65, .inl co)), (m12, .inl (cJ, 40625, .inr (.inl wy))), (m14, .inl (cI, 203125, .inl cg))] [2, 3, 4, 5, 6, 7, 8, 9, 10, 11, 0, 1] (by decide) rfl ?_
          exact x_iret C dX10_changesBy_77 (Nat.zero_le _) (Nat.zero_le _) (by rw [eO]; exact ⟨tl2_8, op2_8, (congrArg (fun z => some (Value.int z)) (cbF_0 (nx := fun s => nxF ma mg mt wf wp wt mw ml co ro a s se de 0) (s := s) (fun h9 => by rcases h9 with h9 | h9 <;> omega) (by omega))), rfl, trivial⟩)
        · skip
          have e_58 : ¬ ((4 : Int32).toInt ≤ (k : Int32).toInt) := fun h => c_58 (i_le.mpr h)
          have : (4 : Int32).toInt = 4 := by decide
          refine x_iload_n C 3 dX10_changesBy_61 rfl rfl ?_
          refine x_aload_n C 1 dX10_changesBy_62 rfl rfl ?_
          refine x_get C 2 5 dX10_changesBy_63 inlX10 rfl (by decide) wd_127 rfl rfl rfl ?_
          refine x_iload_n C 4 dX10_changesBy_66 rfl rfl ?_
          have v_67 : vp_in s 4 := (vp_in_iff.mpr (by omega))
          refine x_iald C 6 0 dX10_changesBy_67 hT.1 rfl v_67 ?_
          refine x_icmp_eq C 75 dX10_changesBy_68 (by decide) (fun c_68 => ?_) (fun c_68 => ?_)
          · skip
            have e_68 : (k : Int32).toInt = (mt (Int32.toNatClampNeg s) : Int32).toInt := i_eq.mp c_68
            refine x_iconst C 0 dX10_changesBy_75 (by decide) ?_
            refine x_iadd C dX10_changesBy_76 ?_
            refine x_sub [(hy, .inr (10, [.ref m0, .ref m1, .ref m2, .ref m3, .ref m4, .ref m5, .ref m6, .ref m7, .ref m8, .ref m9, .int mw, .int ml, .int mb, .ref m10, .int mz, .ref m11, .int op2_8, .int bp, .int by0, .int dp, .int tk, .ref m12, .ref m13, .ref m14, .ref m15, .ref m16, .ref m17, .ref m18, .int ka, .int iw])), (m11, .inl (cI, 4, .inl tl2_8)), (m2, .inl (cI, 4, .inl ma)), (m4, .inl (cI, 4, .inl mg)), (m5, .inl (cI, 4, .inl mt)), (m7, .inl (cI, 6, .inl wf)), (m8, .inl (cI, 6, .inl wp)), (m9, .inl (cI, 6, .inl wt)), (m0, .inl (cI, 625, .inl ro)), (m1, .inl (cI, 65, .inl co)), (m12, .inl (cJ, 40625, .inr (.inl wy))), (m14, .inl (cI, 203125, .inl cg))] [2, 3, 4, 5, 6, 7, 8, 9, 10, 11, 0, 1] (by decide) rfl ?_
            exact x_iret C dX10_changesBy_77 (Nat.zero_le _) (Nat.zero_le _) (by rw [eO]; exact ⟨tl2_8, op2_8, (congrArg (fun z => some (Value.int z)) (cbF_0 (nx := fun s => nxF ma mg mt wf wp wt mw ml co ro a s se de 0) (s := s) (fun h9 => by rcases h9 with h9 | h9 <;> omega) (by omega))), rfl, trivial⟩)
          · skip
            have e_68 : ¬ ((k : Int32).toInt = (mt (Int32.toNatClampNeg s) : Int32).toInt) := fun h => c_68 (i_eq.mpr h)
            refine x_iconst C 1 dX10_changesBy_71 (by decide) ?_
            refine x_goto C 76 dX10_changesBy_72 (by decide) ?_
            refine x_iadd C dX10_changesBy_76 ?_
            refine x_sub [(hy, .inr (10, [.ref m0, .ref m1, .ref m2, .ref m3, .ref m4, .ref m5, .ref m6, .ref m7, .ref m8, .ref m9, .int mw, .int ml, .int mb, .ref m10, .int mz, .ref m11, .int op2_8, .int bp, .int by0, .int dp, .int tk, .ref m12, .ref m13, .ref m14, .ref m15, .ref m16, .ref m17, .ref m18, .int ka, .int iw])), (m11, .inl (cI, 4, .inl tl2_8)), (m2, .inl (cI, 4, .inl ma)), (m4, .inl (cI, 4, .inl mg)), (m5, .inl (cI, 4, .inl mt)), (m7, .inl (cI, 6, .inl wf)), (m8, .inl (cI, 6, .inl wp)), (m9, .inl (cI, 6, .inl wt)), (m0, .inl (cI, 625, .inl ro)), (m1, .inl (cI, 65, .inl co)), (m12, .inl (cJ, 40625, .inr (.inl wy))), (m14, .inl (cI, 203125, .inl cg))] [2, 3, 4, 5, 6, 7, 8, 9, 10, 11, 0, 1] (by decide) rfl ?_
            exact x_iret C dX10_changesBy_77 (Nat.zero_le _) (Nat.zero_le _) (by rw [eO]; exact ⟨tl2_8, op2_8, (congrArg (fun z => some (Value.int z)) (cbF_1 (nx := fun s => nxF ma mg mt wf wp wt mw ml co ro a s se de 0) (s := s) (fun h9 => by rcases h9 with h9 | h9 <;> omega) (by omega))), rfl, trivial⟩)
    · skip
      have e_27 : ((wy (Int32.toNatClampNeg (nxF ma mg mt wf wp wt mw ml co ro a s se de 0))) : Int64).toInt = (0 : Int64).toInt := lc_eq.mp c_27
      have : (0 : Int64).toInt = 0 := by decide
      refine x_bipush C (-6) dX10_changesBy_30 (by decide) ?_
      refine x_sub [(hy, .inr (10, [.ref m0, .ref m1, .ref m2, .ref m3, .ref m4, .ref m5, .ref m6, .ref m7, .ref m8, .ref m9, .int mw, .int ml, .int mb, .ref m10, .int mz, .ref m11, .int op2_8, .int bp, .int by0, .int dp, .int tk, .ref m12, .ref m13, .ref m14, .ref m15, .ref m16, .ref m17, .ref m18, .int ka, .int iw])), (m11, .inl (cI, 4, .inl tl2_8)), (m2, .inl (cI, 4, .inl ma)), (m4, .inl (cI, 4, .inl mg)), (m5, .inl (cI, 4, .inl mt)), (m7, .inl (cI, 6, .inl wf)), (m8, .inl (cI, 6, .inl wp)), (m9, .inl (cI, 6, .inl wt)), (m0, .inl (cI, 625, .inl ro)), (m1, .inl (cI, 65, .inl co)), (m12, .inl (cJ, 40625, .inr (.inl wy))), (m14, .inl (cI, 203125, .inl cg))] [2, 3, 4, 5, 6, 7, 8, 9, 10, 11, 0, 1] (by decide) rfl ?_
      have : ((-6) : Int32).toInt = -6 := by decide
      exact x_iret C dX10_changesBy_32 (Nat.zero_le _) (Nat.zero_le _) (by rw [eO]; exact ⟨tl2_8, op2_8, (congrArg (fun z => some (Value.int z)) (cbF_n (Or.inr (by omega)))), rfl, trivial⟩)
abbrev rm_X10_changesOf : Room := { frames := 5, cells := 0, slots := 0, locals := 122 }
set_option maxHeartbeats 4000000 in
set_option maxRecDepth 100000 in
theorem c_X10_changesOf (l : Launch) (D : va_G) (tys : List (ClassId × FieldType)) {cI cJ cZ cB : ClassId} (hT : Ty tys cI cJ cZ cB) (hy m0 m1 m2 m3 m4 m5 m6 m7 m8 m9 m10 m11 m12 m13 m14 m15 m16 m17 m18 : Nat) (tl ma mg mt wf wp wt ro co cg : Nat → Int32) (wy : Nat → Int64) (mw ml mb mz op bp by0 dp tk ka iw : Int32) (a k se de : Int32) (hst : 0 ≤ a.toInt ∧ a.toInt < 40625) (hW : ∀ st : Int32, 0 ≤ st.toInt → st.toInt < 40625 → wy st.toNatClampNeg = wsF ma mg mt wf wp wt mw ml co ro se de 0 wy st) (hte : TOk mt) (hR : RT co ro) (hpa : POk ma) (hmw : 0 ≤ mw.toInt ∧ mw.toInt ≤ 6) (hwt : SOk wt) : Cn l D tys yX10_changesOf cX10_changesOf 8 (some .int) rm_X10_changesOf [(hy, .inr (10, [.ref m0, .ref m1, .ref m2, .ref m3, .ref m4, .ref m5, .ref m6, .ref m7, .ref m8, .ref m9, .int mw, .int ml, .int mb, .ref m10, .int mz, .ref m11, .int op, .int bp, .int by0, .int dp, .int tk, .ref m12, .ref m13, .ref m14, .ref m15, .ref m16, .ref m17, .ref m18, .int ka, .int iw])), (m11, .inl (cI, 4, .inl tl)), (m2, .inl (cI, 4, .inl ma)), (m4, .inl (cI, 4, .inl mg)), (m5, .inl (cI, 4, .inl mt)), (m7, .inl (cI, 6, .inl wf)), (m8, .inl (cI, 6, .inl wp)), (m9, .inl (cI, 6, .inl wt)), (m0, .inl (cI, 625, .inl ro)), (m1, .inl (cI, 65, .inl co)), (m12, .inl (cJ, 40625, .inr (.inl wy))), (m14, .inl (cI, 203125, .inl cg))] [.ref hy, .int a, .int k, .int se, .int de] (fun v W1 => ∃ (tl2 : Nat → Int32) (op2 : Int32), v = some (.int (chF ma mg mt wf wp wt mw ml mb co ro se de wy cg a k)) ∧ W1 = [(hy, .inr (10, [.ref m0, .ref m1, .ref m2, .ref m3, .ref m4, .ref m5, .ref m6, .ref m7, .ref m8, .ref m9, .int mw, .int ml, .int mb, .ref m10, .int mz, .ref m11, .int op2, .int bp, .int by0, .int dp, .int tk, .ref m12, .ref m13, .ref m14, .ref m15, .ref m16, .ref m17, .ref m18, .int ka, .int iw])), (m11, .inl (cI, 4, .inl tl2)), (m2, .inl (cI, 4, .inl ma)), (m4, .inl (cI, 4, .inl mg)), (m5, .inl (cI, 4, .inl mt)), (m7, .inl (cI, 6, .inl wf)), (m8, .inl (cI, 6, .inl wp)), (m9, .inl (cI, 6, .inl wt)), (m0, .inl (cI, 625, .inl ro)), (m1, .inl (cI, 65, .inl co)), (m12, .inl (cJ, 40625, .inr (.inl wy))), (m14, .inl (cI, 203125, .inl cg))] ∧ (True)) := by
  refine Cn.of (by decide) (Nat.le_of_ble_eq_true rfl) ?_ ?_ (fun X eL eD eT eO eK eN eM C => ?_)
  · intro h; cases h
  · intro v ws h; obtain ⟨_, _, rfl, rfl, _⟩ := h; exact Or.inl rfl
  subst eL eD eT
  show V X 8 [(hy, .inr (10, [.ref m0, .ref m1, .ref m2, .ref m3, .ref m4, .ref m5, .ref m6, .ref m7, .ref m8, .ref m9, .int mw, .int ml, .int mb, .ref m10, .int mz, .ref m11, .int op, .int bp, .int by0, .int dp, .int tk, .ref m12, .ref m13, .ref m14, .ref m15, .ref m16, .ref m17, .ref m18, .int ka, .int iw])), (m11, .inl (cI, 4, .inl tl)), (m2, .inl (cI, 4, .inl ma)), (m4, .inl (cI, 4, .inl mg)), (m5, .inl (cI, 4, .inl mt)), (m7, .inl (cI, 6, .inl wf)), (m8, .inl (cI, 6, .inl wp)), (m9, .inl (cI, 6, .inl wt)), (m0, .inl (cI, 625, .inl ro)), (m1, .inl (cI, 65, .inl co)), (m12, .inl (cJ, 40625, .inr (.inl wy))), (m14, .inl (cI, 203125, .inl cg))] [(0, .ref hy), (1, .int a), (2, .int k), (3, .int se), (4, .int de)] [] 0 0 0
  refine x_aload_n C 0 dX10_changesOf_0 rfl rfl ?_
  refine x_get C 0 21 dX10_changesOf_1 inlX10 rfl (by decide) wd_135 rfl rfl rfl ?_
  refine x_iload_n C 1 dX10_changesOf_4 rfl rfl ?_
  have v_5 : vp_in a 40625 := (vp_in_iff.mpr (by omega))
  refine x_lald C 10 1 dX10_changesOf_5 hT.2.1 rfl v_5 ?_
  refine x_lconst C 0 dX10_changesOf_6 (by decide) ?_
  refine x_lcmp C dX10_changesOf_7 ?_
  refine x_if_ne C 14 dX10_changesOf_8 (by decide) (fun c_8 => ?_) (fun c_8 => ?_)
  · skip
    have e_8 : ¬ (((wy (Int32.toNatClampNeg a)) : Int64).toInt = (0 : Int64).toInt) := fun h => c_8 (lc_eq.mpr h)
    have : (0 : Int64).toInt = 0 := by decide
    have g9 := (wy_cb (hW a (by omega) (by omega)) (by omega)).gd hpa hR.1 (show 0 ≤ a.toInt by omega)
    refine x_aload_n C 0 dX10_changesOf_14 rfl rfl ?_
    refine x_iload_n C 1 dX10_changesOf_15 rfl rfl ?_
    refine x_callV C [.int a] [(m2, .inl (cI, 4, .inl ma)), (m4, .inl (cI, 4, .inl mg)), (m5, .inl (cI, 4, .inl mt)), (m7, .inl (cI, 6, .inl wf)), (m8, .inl (cI, 6, .inl wp)), (m9, .inl (cI, 6, .inl wt)), (m0, .inl (cI, 625, .inl ro)), (m12, .inl (cJ, 40625, .inr (.inl wy))), (m14, .inl (cI, 203125, .inl cg))] [0, 1, 9] [2, 3, 4, 5, 6, 7, 8, 10, 11] (q0 := 0) (c_X10_lay (xl X) (xD X) (xt X) hT hy m0 m1 m2 m3 m4 m5 m6 m7 m8 m9 m10 m11 m12 m13 m14 m15 m16 m17 m18 tl co mw ml mb mz op bp by0 dp tk ka iw a hst) dX10_changesOf_16 wd_430 wd_431 wd_432 wd_5 wd_433 (np := 1) ⟨by decide, by decide, by decide +kernel⟩ rfl rfl (Nat.le_of_ble_eq_true rfl) (by decide) rfl rfl rfl rfl (by decide) rfl (by decide) (by decide) (fun v W1 h => ?_)
    obtain ⟨_, rfl, rfl, h_16⟩ := h
    show V X 8 [(m2, .inl (cI, 4, .inl ma)), (m4, .inl (cI, 4, .inl mg)), (m5, .inl (cI, 4, .inl mt)), (m7, .inl (cI, 6, .inl wf)), (m8, .inl (cI, 6, .inl wp)), (m9, .inl (cI, 6, .inl wt)), (m0, .inl (cI, 625, .inl ro)), (m12, .inl (cJ, 40625, .inr (.inl wy))), (m14, .inl (cI, 203125, .inl cg)), (hy, .inr (10, [.ref m0, .ref m1, .ref m2, .ref m3, .ref m4, .ref m5, .ref m6, .ref m7, .ref m8, .ref m9, .int mw, .int ml, .int mb, .ref m10, .int mz, .ref m11, .int (opS co a), .int bp, .int by0, .int dp, .int tk, .ref m12, .ref m13, .ref m14, .ref m15, .ref m16, .ref m17, .ref m18, .int ka, .int iw])), (m11, .inl (cI, 4, .inl (tds a))), (m1, .inl (cI, 65, .inl co))] [(0, .ref hy), (1, .int a), (2, .int k), (3, .int se), (4, .int de)] [] 19 0 0
    refine x_aload_n C 0 dX10_changesOf_19 rfl rfl ?_
    refine x_iload_n C 3 dX10_changesOf_20 rfl rfl ?_
    refine x_callV C [.int se] [(m4, .inl (cI, 4, .inl mg)), (m5, .inl (cI, 4, .inl mt)), (m7, .inl (cI, 6, .inl wf)), (m8, .inl (cI, 6, .inl wp)), (m9, .inl (cI, 6, .inl wt)), (m0, .inl (cI, 625, .inl ro)), (m12, .inl (cJ, 40625, .inr (.inl wy))), (m14, .inl (cI, 203125, .inl cg)), (m1, .inl (cI, 65, .inl co))] [9, 10, 0] [1, 2, 3, 4, 5, 6, 7, 8, 11] (q0 := 0) (c_X10_isWhole (xl X) (xD X) (xt X) hT hy m0 m1 m2 m3 m4 m5 m6 m7 m8 m9 m10 m11 m12 m13 m14 m15 m16 m17 m18 (tds a) ma mw ml mb mz (opS co a) bp by0 dp tk ka iw se ) dX10_changesOf_21 wd_583 wd_584 wd_585 wd_5 wd_586 (np := 1) ⟨by decide, by decide, by decide +kernel⟩ rfl rfl (Nat.le_of_ble_eq_true rfl) (by decide) rfl rfl rfl rfl (by decide) rfl (by decide) (by decide) (fun v W1 h => ?_)
    obtain ⟨r_21, rfl, rfl, h_21⟩ := h
    show V X 8 [(m4, .inl (cI, 4, .inl mg)), (m5, .inl (cI, 4, .inl mt)), (m7, .inl (cI, 6, .inl wf)), (m8, .inl (cI, 6, .inl wp)), (m9, .inl (cI, 6, .inl wt)), (m0, .inl (cI, 625, .inl ro)), (m12, .inl (cJ, 40625, .inr (.inl wy))), (m14, .inl (cI, 203125, .inl cg)), (m1, .inl (cI, 65, .inl co)), (hy, .inr (10, [.ref m0, .ref m1, .ref m2, .ref m3, .ref m4, .ref m5, .ref m6, .ref m7, .ref m8, .ref m9, .int mw, .int ml, .int mb, .ref m10, .int mz, .ref m11, .int ((opS co a)), .int bp, .int by0, .int dp, .int tk, .ref m12, .ref m13, .ref m14, .ref m15, .ref m16, .ref m17, .ref m18, .int ka, .int iw])), (m11, .inl (cI, 4, .inl ((tds a)))), (m2, .inl (cI, 4, .inl ma))] [(0, .ref hy), (1, .int a), (2, .int k), (3, .int se), (4, .int de)] [.int r_21] 24 0 0
    refine x_if_eq C 29 dX10_changesOf_24 (by decide) (fun c_24 => ?_) (fun c_24 => ?_)
    · skip
      have e_24 : (r_21 : Int32).toInt = (0 : Int32).toInt := i_eq.mp c_24
      have : (0 : Int32).toInt = 0 := by decide
      refine x_bipush C (-6) dX10_changesOf_29 (by decide) ?_
      refine x_istore C [(5, .int ((-6))), (0, .ref hy), (1, .int a), (2, .int k), (3, .int se), (4, .int de)] dX10_changesOf_31 (by decide) rfl ?_
      refine x_iconst C 0 dX10_changesOf_33 (by decide) ?_
      refine x_istore C [(6, .int 0), (5, .int ((-6))), (0, .ref hy), (1, .int a), (2, .int k), (3, .int se), (4, .int de)] dX10_changesOf_34 (by decide) rfl ?_
      have L_36 : ∀ (n_36 : Nat) (x6_36 : Int32) (x5_36 : Int32) (ghy16_36 : Int32) (fm11_36 : Nat → Int32), ((0 ≤ x6_36.toInt ∧ x6_36.toInt ≤ 4) ∧ x5_36 = bsF (fun s => cbF (fun s => nxF ma mg mt wf wp wt mw ml co ro a s se de 0) mt mb wy cg k s) x6_36.toInt.toNat) → ((4 - x6_36.toInt).toNat < n_36) → V X 8 [(m4, .inl (cI, 4, .inl mg)), (m5, .inl (cI, 4, .inl mt)), (m7, .inl (cI, 6, .inl wf)), (m8, .inl (cI, 6, .inl wp)), (m9, .inl (cI, 6, .inl wt)), (m0, .inl (cI, 625, .inl ro)), (m12, .inl (cJ, 40625, .inr (.inl wy))), (m14, .inl (cI, 203125, .inl cg)), (m1, .inl (cI, 65, .inl co)), (hy, .inr (10, [.ref m0, .ref m1, .ref m2, .ref m3, .ref m4, .ref m5, .ref m6, .ref m7, .ref m8, .ref m9, .int mw, .int ml, .int mb, .ref m10, .int mz, .ref m11, .int ghy16_36, .int bp, .int by0, .int dp, .int tk, .ref m12, .ref m13, .ref m14, .ref m15, .ref m16, .ref m17, .ref m18, .int ka, .int iw])), (m11, .inl (cI, 4, .inl fm11_36)), (m2, .inl (cI, 4, .inl ma))] [(6, .int x6_36), (5, .int x5_36), (0, .ref hy), (1, .int a), (2, .int k), (3, .int se), (4, .int de)] [] 36 0 0 := by
        intro n_36
        induction n_36 with
        | zero =>
          intro x6_36 x5_36 ghy16_36 fm11_36 i_36 m_36
          exact absurd m_36 (Nat.not_lt_zero _)
        | succ n_36 ih_36 =>
          intro x6_36 x5_36 ghy16_36 fm11_36 i_36 m_36
          refine x_iload C 0 dX10_changesOf_36 rfl ?_
          refine x_iconst C 4 dX10_changesOf_38 (by decide) ?_
          refine x_icmp_ge C 87 dX10_changesOf_39 (by decide) (fun c_39 => ?_) (fun c_39 => ?_)
          · skip
            have e_39 : (4 : Int32).toInt ≤ (x6_36 : Int32).toInt := i_le.mp c_39
            have : (4 : Int32).toInt = 4 := by decide
            refine x_iload C 1 dX10_changesOf_87 rfl ?_
            refine x_sub [(hy, .inr (10, [.ref m0, .ref m1, .ref m2, .ref m3, .ref m4, .ref m5, .ref m6, .ref m7, .ref m8, .ref m9, .int mw, .int ml, .int mb, .ref m10, .int mz, .ref m11, .int ghy16_36, .int bp, .int by0, .int dp, .int tk, .ref m12, .ref m13, .ref m14, .ref m15, .ref m16, .ref m17, .ref m18, .int ka, .int iw])), (m11, .inl (cI, 4, .inl fm11_36)), (m2, .inl (cI, 4, .inl ma)), (m4, .inl (cI, 4, .inl mg)), (m5, .inl (cI, 4, .inl mt)), (m7, .inl (cI, 6, .inl wf)), (m8, .inl (cI, 6, .inl wp)), (m9, .inl (cI, 6, .inl wt)), (m0, .inl (cI, 625, .inl ro)), (m1, .inl (cI, 65, .inl co)), (m12, .inl (cJ, 40625, .inr (.inl wy))), (m14, .inl (cI, 203125, .inl cg))] [9, 10, 11, 0, 1, 2, 3, 4, 5, 8, 6, 7] (by decide) rfl ?_
            exact x_iret C dX10_changesOf_89 (Nat.zero_le _) (Nat.zero_le _) (by rw [eO]; exact ⟨fm11_36, ghy16_36, (congrArg (fun z => some (Value.int z)) (by unfold chF; rw [ifc_f (by omega), ifc_f (h_21.f (by omega)), i_36.2, show x6_36.toInt.toNat = 4 by omega])), rfl, trivial⟩)
          · skip
            have e_39 : ¬ ((4 : Int32).toInt ≤ (x6_36 : Int32).toInt) := fun h => c_39 (i_le.mpr h)
            have : (4 : Int32).toInt = 4 := by decide
            refine x_aload_n C 2 dX10_changesOf_42 rfl rfl ?_
            refine x_iload_n C 3 dX10_changesOf_43 rfl rfl ?_
            refine x_iload_n C 4 dX10_changesOf_44 rfl rfl ?_
            refine x_iload C 0 dX10_changesOf_45 rfl ?_
            refine x_iload_n C 5 dX10_changesOf_47 rfl rfl ?_
            refine x_iload C 6 dX10_changesOf_48 rfl ?_
            refine x_callV C [.int a, .int k, .int x6_36, .int se, .int de] [] [9, 10, 11, 0, 1, 2, 3, 4, 5, 8, 6, 7] [] (q0 := 0) (c_X10_changesBy (xl X) (xD X) (xt X) hT hy m0 m1 m2 m3 m4 m5 m6 m7 m8 m9 m10 m11 m12 m13 m14 m15 m16 m17 m18 fm11_36 ma mg mt wf wp wt ro co cg wy mw ml mb mz ghy16_36 bp by0 dp tk ka iw a k x6_36 se de hst hR g9 (by omega) hmw hwt hte) dX10_changesOf_50 wd_647 wd_648 wd_649 wd_5 wd_650 (np := 5) ⟨by decide, by decide, by decide +kernel⟩ rfl rfl (Nat.le_of_ble_eq_true rfl) (by decide) rfl rfl rfl rfl (by decide) rfl (by decide) (by decide) (fun v W1 h => ?_)
            obtain ⟨tl2_50, op2_50, rfl, rfl, h_50⟩ := h
            show V X 8 [(hy, .inr (10, [.ref m0, .ref m1, .ref m2, .ref m3, .ref m4, .ref m5, .ref m6, .ref m7, .ref m8, .ref m9, .int mw, .int ml, .int mb, .ref m10, .int mz, .ref m11, .int op2_50, .int bp, .int by0, .int dp, .int tk, .ref m12, .ref m13, .ref m14, .ref m15, .ref m16, .ref m17, .ref m18, .int ka, .int iw])), (m11, .inl (cI, 4, .inl tl2_50)), (m2, .inl (cI, 4, .inl ma)), (m4, .inl (cI, 4, .inl mg)), (m5, .inl (cI, 4, .inl mt)), (m7, .inl (cI, 6, .inl wf)), (m8, .inl (cI, 6, .inl wp)), (m9, .inl (cI, 6, .inl wt)), (m0, .inl (cI, 625, .inl ro)), (m1, .inl (cI, 65, .inl co)), (m12, .inl (cJ, 40625, .inr (.inl wy))), (m14, .inl (cI, 203125, .inl cg))] [(6, .int x6_36), (5, .int x5_36), (0, .ref hy), (1, .int a), (2, .int k), (3, .int se), (4, .int de)] [.int (cbF (fun x6_36 => nxF ma mg mt wf wp wt mw ml co ro a x6_36 se de 0) mt mb wy cg k x6_36)] 53 0 0
            refine x_istore C [(7, .int (cbF (fun x6_36 => nxF ma mg mt wf wp wt mw ml co ro a x6_36 se de 0) mt mb wy cg k x6_36)), (6, .int x6_36), (5, .int x5_36), (0, .ref hy), (1, .int a), (2, .int k), (3, .int se), (4, .int de)] dX10_changesOf_53 (by decide) rfl ?_
            refine x_iload C 0 dX10_changesOf_55 rfl ?_
            refine x_if_lt C 77 dX10_changesOf_57 (by decide) (fun c_57 => ?_) (fun c_57 => ?_)
            · skip
              have e_57 : (cbF (fun x6_36 => nxF ma mg mt wf wp wt mw ml co ro a x6_36 se de 0) mt mb wy cg k x6_36 : Int32).toInt < (0 : Int32).toInt := i_lt.mp c_57
              have : (0 : Int32).toInt = 0 := by decide
              refine x_iload C 2 dX10_changesOf_77 rfl ?_
              refine x_istore C [(5, .int x5_36), (7, .int (cbF (fun x6_36 => nxF ma mg mt wf wp wt mw ml co ro a x6_36 se de 0) mt mb wy cg k x6_36)), (6, .int x6_36), (0, .ref hy), (1, .int a), (2, .int k), (3, .int se), (4, .int de)] dX10_changesOf_79 (by decide) rfl ?_
              refine x_iinc C 2 (x6_36 + 1) [(6, .int (x6_36 + 1)), (5, .int x5_36), (7, .int (cbF (fun x6_36 => nxF ma mg mt wf wp wt mw ml co ro a x6_36 se de 0) mt mb wy cg k x6_36)), (0, .ref hy), (1, .int a), (2, .int k), (3, .int se), (4, .int de)] dX10_changesOf_81 rfl rfl (by decide) rfl ?_
              refine x_goto C 36 dX10_changesOf_84 (by decide) ?_
              refine x_sub [(m4, .inl (cI, 4, .inl mg)), (m5, .inl (cI, 4, .inl mt)), (m7, .inl (cI, 6, .inl wf)), (m8, .inl (cI, 6, .inl wp)), (m9, .inl (cI, 6, .inl wt)), (m0, .inl (cI, 625, .inl ro)), (m12, .inl (cJ, 40625, .inr (.inl wy))), (m14, .inl (cI, 203125, .inl cg)), (m1, .inl (cI, 65, .inl co)), (hy, .inr (10, [.ref m0, .ref m1, .ref m2, .ref m3, .ref m4, .ref m5, .ref m6, .ref m7, .ref m8, .ref m9, .int mw, .int ml, .int mb, .ref m10, .int mz, .ref m11, .int op2_50, .int bp, .int by0, .int dp, .int tk, .ref m12, .ref m13, .ref m14, .ref m15, .ref m16, .ref m17, .ref m18, .int ka, .int iw])), (m11, .inl (cI, 4, .inl tl2_50)), (m2, .inl (cI, 4, .inl ma))] [3, 4, 5, 6, 7, 8, 10, 11, 9, 0, 1, 2] (by decide) rfl ?_
              refine x_lv [(6, .int (x6_36 + 1)), (5, .int x5_36), (0, .ref hy), (1, .int a), (2, .int k), (3, .int se), (4, .int de)] [0, 1, 3, 4, 5, 6, 7] rfl ?_
              have : (1 : Int32).toInt = 1 := by decide
              have := i_add (x := x6_36) (y := 1) (by omega) (by omega)
              exact ih_36 (x6_36 + 1) x5_36 op2_50 tl2_50 ⟨by omega, i_36.2.trans (bs_f (c := fun s => cbF (fun s => nxF ma mg mt wf wp wt mw ml co ro a s se de 0) mt mb wy cg k s) (x := x6_36) (by omega) (by omega) (by rw [← i_36.2]; omega))⟩ (by omega)
            · skip
              have e_57 : ¬ ((cbF (fun x6_36 => nxF ma mg mt wf wp wt mw ml co ro a x6_36 se de 0) mt mb wy cg k x6_36 : Int32).toInt < (0 : Int32).toInt) := fun h => c_57 (i_lt.mpr h)
              have : (0 : Int32).toInt = 0 := by decide
              refine x_iload C 2 dX10_changesOf_60 rfl ?_
              refine x_if_lt C 72 dX10_changesOf_62 (by decide) (fun c_62 => ?_) (fun c_62 => ?_)
              · skip
                have e_62 : (x5_36 : Int32).toInt < (0 : Int32).toInt := i_lt.mp c_62
                have : (0 : Int32).toInt = 0 := by decide
                refine x_iload C 0 dX10_changesOf_72 rfl ?_
                refine x_goto C 79 dX10_changesOf_74 (by decide) ?_
                refine x_istore C [(5, .int (cbF (fun x6_36 => nxF ma mg mt wf wp wt mw ml co ro a x6_36 se de 0) mt mb wy cg k x6_36)), (7, .int (cbF (fun x6_36 => nxF ma mg mt wf wp wt mw ml co ro a x6_36 se de 0) mt mb wy cg k x6_36)), (6, .int x6_36), (0, .ref hy), (1, .int a), (2, .int k), (3, .int se), (4, .int de)] dX10_changesOf_79 (by decide) rfl ?_
                refine x_iinc C 2 (x6_36 + 1) [(6, .int (x6_36 + 1)), (5, .int (cbF (fun x6_36 => nxF ma mg mt wf wp wt mw ml co ro a x6_36 se de 0) mt mb wy cg k x6_36)), (7, .int (cbF (fun x6_36 => nxF ma mg mt wf wp wt mw ml co ro a x6_36 se de 0) mt mb wy cg k x6_36)), (0, .ref hy), (1, .int a), (2, .int k), (3, .int se), (4, .int de)] dX10_changesOf_81 rfl rfl (by decide) rfl ?_
                refine x_goto C 36 dX10_changesOf_84 (by decide) ?_
                refine x_sub [(m4, .inl (cI, 4, .inl mg)), (m5, .inl (cI, 4, .inl mt)), (m7, .inl (cI, 6, .inl wf)), (m8, .inl (cI, 6, .inl wp)), (m9, .inl (cI, 6, .inl wt)), (m0, .inl (cI, 625, .inl ro)), (m12, .inl (cJ, 40625, .inr (.inl wy))), (m14, .inl (cI, 203125, .inl cg)), (m1, .inl (cI, 65, .inl co)), (hy, .inr (10, [.ref m0, .ref m1, .ref m2, .ref m3, .ref m4, .ref m5, .ref m6, .ref m7, .ref m8, .ref m9, .int mw, .int ml, .int mb, .ref m10, .int mz, .ref m11, .int op2_50, .int bp, .int by0, .int dp, .int tk, .ref m12, .ref m13, .ref m14, .ref m15, .ref m16, .ref m17, .ref m18, .int ka, .int iw])), (m11, .inl (cI, 4, .inl tl2_50)), (m2, .inl (cI, 4, .inl ma))] [3, 4, 5, 6, 7, 8, 10, 11, 9, 0, 1, 2] (by decide) rfl ?_
                refine x_lv [(6, .int (x6_36 + 1)), (5, .int (cbF (fun x6_36 => nxF ma mg mt wf wp wt mw ml co ro a x6_36 se de 0) mt mb wy cg k x6_36)), (0, .ref hy), (1, .int a), (2, .int k), (3, .int se), (4, .int de)] [0, 1, 3, 4, 5, 6, 7] rfl ?_
                have : (1 : Int32).toInt = 1 := by decide
                have := i_add (x := x6_36) (y := 1) (by omega) (by omega)
                exact ih_36 (x6_36 + 1) (cbF (fun x6_36 => nxF ma mg mt wf wp wt mw ml co ro a x6_36 se de 0) mt mb wy cg k x6_36) op2_50 tl2_50 ⟨by omega, bs_t (c := fun s => cbF (fun s => nxF ma mg mt wf wp wt mw ml co ro a s se de 0) mt mb wy cg k s) (x := x6_36) (by omega) (by omega) (by rw [← i_36.2]; omega)⟩ (by omega)
              · skip
                have e_62 : ¬ ((x5_36 : Int32).toInt < (0 : Int32).toInt) := fun h => c_62 (i_lt.mpr h)
                have : (0 : Int32).toInt = 0 := by decide
                refine x_iload C 0 dX10_changesOf_65 rfl ?_
                refine x_iload C 2 dX10_changesOf_67 rfl ?_
                refine x_icmp_ge C 77 dX10_changesOf_69 (by decide) (fun c_69 => ?_) (fun c_69 => ?_)
                · skip
                  have e_69 : (x5_36 : Int32).toInt ≤ (cbF (fun x6_36 => nxF ma mg mt wf wp wt mw ml co ro a x6_36 se de 0) mt mb wy cg k x6_36 : Int32).toInt := i_le.mp c_69
                  refine x_iload C 2 dX10_changesOf_77 rfl ?_
                  refine x_istore C [(5, .int x5_36), (7, .int (cbF (fun x6_36 => nxF ma mg mt wf wp wt mw ml co ro a x6_36 se de 0) mt mb wy cg k x6_36)), (6, .int x6_36), (0, .ref hy), (1, .int a), (2, .int k), (3, .int se), (4, .int de)] dX10_changesOf_79 (by decide) rfl ?_
                  refine x_iinc C 2 (x6_36 + 1) [(6, .int (x6_36 + 1)), (5, .int x5_36), (7, .int (cbF (fun x6_36 => nxF ma mg mt wf wp wt mw ml co ro a x6_36 se de 0) mt mb wy cg k x6_36)), (0, .ref hy), (1, .int a), (2, .int k), (3, .int se), (4, .int de)] dX10_changesOf_81 rfl rfl (by decide) rfl ?_
                  refine x_goto C 36 dX10_changesOf_84 (by decide) ?_
                  refine x_sub [(m4, .inl (cI, 4, .inl mg)), (m5, .inl (cI, 4, .inl mt)), (m7, .inl (cI, 6, .inl wf)), (m8, .inl (cI, 6, .inl wp)), (m9, .inl (cI, 6, .inl wt)), (m0, .inl (cI, 625, .inl ro)), (m12, .inl (cJ, 40625, .inr (.inl wy))), (m14, .inl (cI, 203125, .inl cg)), (m1, .inl (cI, 65, .inl co)), (hy, .inr (10, [.ref m0, .ref m1, .ref m2, .ref m3, .ref m4, .ref m5, .ref m6, .ref m7, .ref m8, .ref m9, .int mw, .int ml, .int mb, .ref m10, .int mz, .ref m11, .int op2_50, .int bp, .int by0, .int dp, .int tk, .ref m12, .ref m13, .ref m14, .ref m15, .ref m16, .ref m17, .ref m18, .int ka, .int iw])), (m11, .inl (cI, 4, .inl tl2_50)), (m2, .inl (cI, 4, .inl ma))] [3, 4, 5, 6, 7, 8, 10, 11, 9, 0, 1, 2] (by decide) rfl ?_
                  refine x_lv [(6, .int (x6_36 + 1)), (5, .int x5_36), (0, .ref hy), (1, .int a), (2, .int k), (3, .int se), (4, .int de)] [0, 1, 3, 4, 5, 6, 7] rfl ?_
                  have : (1 : Int32).toInt = 1 := by decide
                  have := i_add (x := x6_36) (y := 1) (by omega) (by omega)
                  exact ih_36 (x6_36 + 1) x5_36 op2_50 tl2_50 ⟨by omega, i_36.2.trans (bs_f (c := fun s => cbF (fun s => nxF ma mg mt wf wp wt mw ml co ro a s se de 0) mt mb wy cg k s) (x := x6_36) (by omega) (by omega) (by rw [← i_36.2]; omega))⟩ (by omega)
                · skip
                  have e_69 : ¬ ((x5_36 : Int32).toInt ≤ (cbF (fun x6_36 => nxF ma mg mt wf wp wt mw ml co ro a x6_36 se de 0) mt mb wy cg k x6_36 : Int32).toInt) := fun h => c_69 (i_le.mpr h)
                  refine x_iload C 0 dX10_changesOf_72 rfl ?_
                  refine x_goto C 79 dX10_changesOf_74 (by decide) ?_
                  refine x_istore C [(5, .int (cbF (fun x6_36 => nxF ma mg mt wf wp wt mw ml co ro a x6_36 se de 0) mt mb wy cg k x6_36)), (7, .int (cbF (fun x6_36 => nxF ma mg mt wf wp wt mw ml co ro a x6_36 se de 0) mt mb wy cg k x6_36)), (6, .int x6_36), (0, .ref hy), (1, .int a), (2, .int k), (3, .int se), (4, .int de)] dX10_changesOf_79 (by decide) rfl ?_
                  refine x_iinc C 2 (x6_36 + 1) [(6, .int (x6_36 + 1)), (5, .int (cbF (fun x6_36 => nxF ma mg mt wf wp wt mw ml co ro a x6_36 se de 0) mt mb wy cg k x6_36)), (7, .int (cbF (fun x6_36 => nxF ma mg mt wf wp wt mw ml co ro a x6_36 se de 0) mt mb wy cg k x6_36)), (0, .ref hy), (1, .int a), (2, .int k), (3, .int se), (4, .int de)] dX10_changesOf_81 rfl rfl (by decide) rfl ?_
                  refine x_goto C 36 dX10_changesOf_84 (by decide) ?_
                  refine x_sub [(m4, .inl (cI, 4, .inl mg)), (m5, .inl (cI, 4, .inl mt)), (m7, .inl (cI, 6, .inl wf)), (m8, .inl (cI, 6, .inl wp)), (m9, .inl (cI, 6, .inl wt)), (m0, .inl (cI, 625, .inl ro)), (m12, .inl (cJ, 40625, .inr (.inl wy))), (m14, .inl (cI, 203125, .inl cg)), (m1, .inl (cI, 65, .inl co)), (hy, .inr (10, [.ref m0, .ref m1, .ref m2, .ref m3, .ref m4, .ref m5, .ref m6, .ref m7, .ref m8, .ref m9, .int mw, .int ml, .int mb, .ref m10, .int mz, .ref m11, .int op2_50, .int bp, .int by0, .int dp, .int tk, .ref m12, .ref m13, .ref m14, .ref m15, .ref m16, .ref m17, .ref m18, .int ka, .int iw])), (m11, .inl (cI, 4, .inl tl2_50)), (m2, .inl (cI, 4, .inl ma))] [3, 4, 5, 6, 7, 8, 10, 11, 9, 0, 1, 2] (by decide) rfl ?_
                  refine x_lv [(6, .int (x6_36 + 1)), (5, .int (cbF (fun x6_36 => nxF ma mg mt wf wp wt mw ml co ro a x6_36 se de 0) mt mb wy cg k x6_36)), (0, .ref hy), (1, .int a), (2, .int k), (3, .int se), (4, .int de)] [0, 1, 3, 4, 5, 6, 7] rfl ?_
                  have : (1 : Int32).toInt = 1 := by decide
                  have := i_add (x := x6_36) (y := 1) (by omega) (by omega)
                  exact ih_36 (x6_36 + 1) (cbF (fun x6_36 => nxF ma mg mt wf wp wt mw ml co ro a x6_36 se de 0) mt mb wy cg k x6_36) op2_50 tl2_50 ⟨by omega, bs_t (c := fun s => cbF (fun s => nxF ma mg mt wf wp wt mw ml co ro a s se de 0) mt mb wy cg k s) (x := x6_36) (by omega) (by omega) (by rw [← i_36.2]; omega)⟩ (by omega)
      have : (0 : Int32).toInt = 0 := by decide
      have : ((-6) : Int32).toInt = -6 := by decide
      exact L_36 _ 0 ((-6)) ((opS co a)) ((tds a)) ⟨by omega, rfl⟩ (Nat.lt_succ_self _)
    · skip
      have e_24 : ¬ ((r_21 : Int32).toInt = (0 : Int32).toInt) := fun h => c_24 (i_eq.mpr h)
      have : (0 : Int32).toInt = 0 := by decide
      refine x_iconst C 0 dX10_changesOf_27 (by decide) ?_
      refine x_sub [(hy, .inr (10, [.ref m0, .ref m1, .ref m2, .ref m3, .ref m4, .ref m5, .ref m6, .ref m7, .ref m8, .ref m9, .int mw, .int ml, .int mb, .ref m10, .int mz, .ref m11, .int ((opS co a)), .int bp, .int by0, .int dp, .int tk, .ref m12, .ref m13, .ref m14, .ref m15, .ref m16, .ref m17, .ref m18, .int ka, .int iw])), (m11, .inl (cI, 4, .inl ((tds a)))), (m2, .inl (cI, 4, .inl ma)), (m4, .inl (cI, 4, .inl mg)), (m5, .inl (cI, 4, .inl mt)), (m7, .inl (cI, 6, .inl wf)), (m8, .inl (cI, 6, .inl wp)), (m9, .inl (cI, 6, .inl wt)), (m0, .inl (cI, 625, .inl ro)), (m1, .inl (cI, 65, .inl co)), (m12, .inl (cJ, 40625, .inr (.inl wy))), (m14, .inl (cI, 203125, .inl cg))] [9, 10, 11, 0, 1, 2, 3, 4, 5, 8, 6, 7] (by decide) rfl ?_
      have : (0 : Int32).toInt = 0 := by decide
      exact x_iret C dX10_changesOf_28 (Nat.zero_le _) (Nat.zero_le _) (by rw [eO]; exact ⟨((tds a)), ((opS co a)), (congrArg (fun z => some (Value.int z)) (by unfold chF; rw [ifc_f (by omega), ifc_t (h_21.t (by omega))])), rfl, trivial⟩)
  · skip
    have e_8 : ((wy (Int32.toNatClampNeg a)) : Int64).toInt = (0 : Int64).toInt := lc_eq.mp c_8
    have : (0 : Int64).toInt = 0 := by decide
    refine x_bipush C (-6) dX10_changesOf_11 (by decide) ?_
    have : ((-6) : Int32).toInt = -6 := by decide
    exact x_iret C dX10_changesOf_13 (Nat.zero_le _) (Nat.zero_le _) (by rw [eO]; exact ⟨tl, op, (congrArg (fun z => some (Value.int z)) (by unfold chF; rw [ifc_t (by omega)])), rfl, trivial⟩)
