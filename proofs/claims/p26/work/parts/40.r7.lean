abbrev rm_X10_findChanges : Room := { frames := 6, cells := 0, slots := 0, locals := 151 }
set_option maxHeartbeats 4000000 in
set_option maxRecDepth 100000 in
theorem c_X10_findChanges (l : Launch) (D : va_G) (tys : List (ClassId × FieldType)) {cI cJ cZ cB : ClassId} (hT : Ty tys cI cJ cZ cB) (hy m0 m1 m2 m3 m4 m5 m6 m7 m8 m9 m10 m11 m12 m13 m14 m15 m16 m17 m18 : Nat) (tl ma mg mt wf wp wt ro co cg : Nat → Int32) (wy : Nat → Int64) (mw ml mb mz op bp by0 dp tk ka iw : Int32) (se de : Int32) (hte : TOk mt) (hR : RT co ro) (hpa : POk ma) (hmw : 0 ≤ mw.toInt ∧ mw.toInt ≤ 6) (hwt : SOk wt) : Cn l D tys yX10_findChanges cX10_findChanges 8 none rm_X10_findChanges [(hy, .inr (10, [.ref m0, .ref m1, .ref m2, .ref m3, .ref m4, .ref m5, .ref m6, .ref m7, .ref m8, .ref m9, .int mw, .int ml, .int mb, .ref m10, .int mz, .ref m11, .int op, .int bp, .int by0, .int dp, .int tk, .ref m12, .ref m13, .ref m14, .ref m15, .ref m16, .ref m17, .ref m18, .int ka, .int iw])), (m11, .inl (cI, 4, .inl tl)), (m2, .inl (cI, 4, .inl ma)), (m4, .inl (cI, 4, .inl mg)), (m5, .inl (cI, 4, .inl mt)), (m7, .inl (cI, 6, .inl wf)), (m8, .inl (cI, 6, .inl wp)), (m9, .inl (cI, 6, .inl wt)), (m0, .inl (cI, 625, .inl ro)), (m1, .inl (cI, 65, .inl co)), (m12, .inl (cJ, 40625, .inr (.inl wy))), (m14, .inl (cI, 203125, .inl cg))] [.ref hy, .int se, .int de] (fun v W1 => ∃ (tl2 : Nat → Int32) (op2 : Int32) (wy2 : Nat → Int64) (cg2 : Nat → Int32), v = none ∧ W1 = [(hy, .inr (10, [.ref m0, .ref m1, .ref m2, .ref m3, .ref m4, .ref m5, .ref m6, .ref m7, .ref m8, .ref m9, .int mw, .int ml, .int mb, .ref m10, .int mz, .ref m11, .int op2, .int bp, .int by0, .int dp, .int tk, .ref m12, .ref m13, .ref m14, .ref m15, .ref m16, .ref m17, .ref m18, .int ka, .int iw])), (m11, .inl (cI, 4, .inl tl2)), (m2, .inl (cI, 4, .inl ma)), (m4, .inl (cI, 4, .inl mg)), (m5, .inl (cI, 4, .inl mt)), (m7, .inl (cI, 6, .inl wf)), (m8, .inl (cI, 6, .inl wp)), (m9, .inl (cI, 6, .inl wt)), (m0, .inl (cI, 625, .inl ro)), (m1, .inl (cI, 65, .inl co)), (m12, .inl (cJ, 40625, .inr (.inl wy2))), (m14, .inl (cI, 203125, .inl cg2))] ∧ ((∀ st : Int32, 0 ≤ st.toInt → st.toInt < 40625 → wy2 st.toNatClampNeg = wsF ma mg mt wf wp wt mw ml co ro se de 0 wy2 st) ∧ ∀ st l : Int32, 0 ≤ st.toInt → st.toInt < 40625 → 0 ≤ l.toInt → l.toInt < 5 → cg2 (5 * st + l).toNatClampNeg = chF ma mg mt wf wp wt mw ml mb co ro se de wy2 cg2 st l)) := by
  refine Cn.of (by decide) (Nat.le_of_ble_eq_true rfl) ?_ ?_ (fun X eL eD eT eO eK eN eM C => ?_)
  · intro h; cases h
  · intro v ws h; obtain ⟨_, _, _, _, rfl, rfl, _⟩ := h; rfl
  subst eL eD eT
  show V X 8 [(hy, .inr (10, [.ref m0, .ref m1, .ref m2, .ref m3, .ref m4, .ref m5, .ref m6, .ref m7, .ref m8, .ref m9, .int mw, .int ml, .int mb, .ref m10, .int mz, .ref m11, .int op, .int bp, .int by0, .int dp, .int tk, .ref m12, .ref m13, .ref m14, .ref m15, .ref m16, .ref m17, .ref m18, .int ka, .int iw])), (m11, .inl (cI, 4, .inl tl)), (m2, .inl (cI, 4, .inl ma)), (m4, .inl (cI, 4, .inl mg)), (m5, .inl (cI, 4, .inl mt)), (m7, .inl (cI, 6, .inl wf)), (m8, .inl (cI, 6, .inl wp)), (m9, .inl (cI, 6, .inl wt)), (m0, .inl (cI, 625, .inl ro)), (m1, .inl (cI, 65, .inl co)), (m12, .inl (cJ, 40625, .inr (.inl wy))), (m14, .inl (cI, 203125, .inl cg))] [(0, .ref hy), (1, .int se), (2, .int de)] [] 0 0 0
  refine x_aload_n C 0 dX10_findChanges_0 rfl rfl ?_
  refine x_iload_n C 1 dX10_findChanges_1 rfl rfl ?_
  refine x_iload_n C 2 dX10_findChanges_2 rfl rfl ?_
  refine x_iconst C 0 dX10_findChanges_3 (by decide) ?_
  refine x_callV C [.int se, .int de, .int 0] [(m14, .inl (cI, 203125, .inl cg))] [0, 1, 2, 3, 4, 5, 6, 7, 8, 9, 10] [11] (q0 := 0) (c_X10_findWays (xl X) (xD X) (xt X) hT hy m0 m1 m2 m3 m4 m5 m6 m7 m8 m9 m10 m11 m12 m13 m14 m15 m16 m17 m18 tl ma mg mt wf wp wt ro co wy mw ml mb mz op bp by0 dp tk ka iw se de 0 hR hpa hmw hwt) dX10_findChanges_4 wd_568 wd_569 wd_570 wd_5 wd_571 (np := 3) ⟨by decide, by decide, by decide +kernel⟩ rfl rfl (Nat.le_of_ble_eq_true rfl) (by decide) rfl rfl rfl rfl (by decide) rfl (by decide) (by decide) (fun v W1 h => ?_)
  obtain ⟨tl2_4, op2_4, wy2_4, rfl, rfl, h_4⟩ := h
  have : (0 : Int32).toInt = 0 := by decide
  show V X 8 [(m14, .inl (cI, 203125, .inl cg)), (hy, .inr (10, [.ref m0, .ref m1, .ref m2, .ref m3, .ref m4, .ref m5, .ref m6, .ref m7, .ref m8, .ref m9, .int mw, .int ml, .int mb, .ref m10, .int mz, .ref m11, .int op2_4, .int bp, .int by0, .int dp, .int tk, .ref m12, .ref m13, .ref m14, .ref m15, .ref m16, .ref m17, .ref m18, .int ka, .int iw])), (m11, .inl (cI, 4, .inl tl2_4)), (m2, .inl (cI, 4, .inl ma)), (m4, .inl (cI, 4, .inl mg)), (m5, .inl (cI, 4, .inl mt)), (m7, .inl (cI, 6, .inl wf)), (m8, .inl (cI, 6, .inl wp)), (m9, .inl (cI, 6, .inl wt)), (m0, .inl (cI, 625, .inl ro)), (m1, .inl (cI, 65, .inl co)), (m12, .inl (cJ, 40625, .inr (.inl wy2_4)))] [(0, .ref hy), (1, .int se), (2, .int de)] [] 7 0 0
  refine x_bipush C 16 dX10_findChanges_7 (by decide) ?_
  refine x_istore_n C [(3, .int 16), (0, .ref hy), (1, .int se), (2, .int de)] dX10_findChanges_9 rfl (by decide) rfl ?_
  have L_10 : ∀ (n_10 : Nat) (x3_10 : Int32) (fm14_10 : Nat → Int32) (ghy16_10 : Int32) (fm11_10 : Nat → Int32), ((-1 ≤ x3_10.toInt ∧ x3_10.toInt ≤ 16) ∧ DC (chF ma mg mt wf wp wt mw ml mb co ro se de wy2_4) fm14_10 x3_10.toInt (0)) → ((x3_10.toInt + 1).toNat < n_10) → V X 8 [(m14, .inl (cI, 203125, .inl fm14_10)), (hy, .inr (10, [.ref m0, .ref m1, .ref m2, .ref m3, .ref m4, .ref m5, .ref m6, .ref m7, .ref m8, .ref m9, .int mw, .int ml, .int mb, .ref m10, .int mz, .ref m11, .int ghy16_10, .int bp, .int by0, .int dp, .int tk, .ref m12, .ref m13, .ref m14, .ref m15, .ref m16, .ref m17, .ref m18, .int ka, .int iw])), (m11, .inl (cI, 4, .inl fm11_10)), (m2, .inl (cI, 4, .inl ma)), (m4, .inl (cI, 4, .inl mg)), (m5, .inl (cI, 4, .inl mt)), (m7, .inl (cI, 6, .inl wf)), (m8, .inl (cI, 6, .inl wp)), (m9, .inl (cI, 6, .inl wt)), (m0, .inl (cI, 625, .inl ro)), (m1, .inl (cI, 65, .inl co)), (m12, .inl (cJ, 40625, .inr (.inl wy2_4)))] [(3, .int x3_10), (0, .ref hy), (1, .int se), (2, .int de)] [] 10 0 0 := by
    intro n_10
    induction n_10 with
    | zero =>
      intro x3_10 fm14_10 ghy16_10 fm11_10 i_10 m_10
      exact absurd m_10 (Nat.not_lt_zero _)
    | succ n_10 ih_10 =>
      intro x3_10 fm14_10 ghy16_10 fm11_10 i_10 m_10
      refine x_iload_n C 0 dX10_findChanges_10 rfl rfl ?_
      refine x_if_lt C 109 dX10_findChanges_11 (by decide) (fun c_11 => ?_) (fun c_11 => ?_)
      · skip
        have e_11 : (x3_10 : Int32).toInt < (0 : Int32).toInt := i_lt.mp c_11
        have : (0 : Int32).toInt = 0 := by decide
        refine x_sub [(hy, .inr (10, [.ref m0, .ref m1, .ref m2, .ref m3, .ref m4, .ref m5, .ref m6, .ref m7, .ref m8, .ref m9, .int mw, .int ml, .int mb, .ref m10, .int mz, .ref m11, .int ghy16_10, .int bp, .int by0, .int dp, .int tk, .ref m12, .ref m13, .ref m14, .ref m15, .ref m16, .ref m17, .ref m18, .int ka, .int iw])), (m11, .inl (cI, 4, .inl fm11_10)), (m2, .inl (cI, 4, .inl ma)), (m4, .inl (cI, 4, .inl mg)), (m5, .inl (cI, 4, .inl mt)), (m7, .inl (cI, 6, .inl wf)), (m8, .inl (cI, 6, .inl wp)), (m9, .inl (cI, 6, .inl wt)), (m0, .inl (cI, 625, .inl ro)), (m1, .inl (cI, 65, .inl co)), (m12, .inl (cJ, 40625, .inr (.inl wy2_4))), (m14, .inl (cI, 203125, .inl fm14_10))] [1, 2, 3, 4, 5, 6, 7, 8, 9, 10, 11, 0] (by decide) rfl ?_
        exact x_vret C dX10_findChanges_109 (Nat.zero_le _) (Nat.zero_le _) (by rw [eO]; exact ⟨fm11_10, ghy16_10, wy2_4, fm14_10, rfl, rfl, ⟨h_4, i_10.2.all (by omega)⟩⟩)
      · skip
        have e_11 : ¬ ((x3_10 : Int32).toInt < (0 : Int32).toInt) := fun h => c_11 (i_lt.mpr h)
        have : (0 : Int32).toInt = 0 := by decide
        refine x_iconst C 0 dX10_findChanges_14 (by decide) ?_
        refine x_istore C [(4, .int 0), (3, .int x3_10), (0, .ref hy), (1, .int se), (2, .int de)] dX10_findChanges_15 (by decide) rfl ?_
        have L_17 : ∀ (n_17 : Nat) (x4_17 : Int32) (fm14_17 : Nat → Int32) (ghy16_17 : Int32) (fm11_17 : Nat → Int32), ((0 ≤ x4_17.toInt ∧ x4_17.toInt ≤ 625) ∧ DC (chF ma mg mt wf wp wt mw ml mb co ro se de wy2_4) fm14_17 x3_10.toInt (5 * (65 * x4_17.toInt))) → ((625 - x4_17.toInt).toNat < n_17) → V X 8 [(m14, .inl (cI, 203125, .inl fm14_17)), (hy, .inr (10, [.ref m0, .ref m1, .ref m2, .ref m3, .ref m4, .ref m5, .ref m6, .ref m7, .ref m8, .ref m9, .int mw, .int ml, .int mb, .ref m10, .int mz, .ref m11, .int ghy16_17, .int bp, .int by0, .int dp, .int tk, .ref m12, .ref m13, .ref m14, .ref m15, .ref m16, .ref m17, .ref m18, .int ka, .int iw])), (m11, .inl (cI, 4, .inl fm11_17)), (m2, .inl (cI, 4, .inl ma)), (m4, .inl (cI, 4, .inl mg)), (m5, .inl (cI, 4, .inl mt)), (m7, .inl (cI, 6, .inl wf)), (m8, .inl (cI, 6, .inl wp)), (m9, .inl (cI, 6, .inl wt)), (m0, .inl (cI, 625, .inl ro)), (m1, .inl (cI, 65, .inl co)), (m12, .inl (cJ, 40625, .inr (.inl wy2_4)))] [(4, .int x4_17), (3, .int x3_10), (0, .ref hy), (1, .int se), (2, .int de)] [] 17 0 0 := by
          intro n_17
          induction n_17 with
          | zero =>
            intro x4_17 fm14_17 ghy16_17 fm11_17 i_17 m_17
            exact absurd m_17 (Nat.not_lt_zero _)
          | succ n_17 ih_17 =>
            intro x4_17 fm14_17 ghy16_17 fm11_17 i_17 m_17
            refine x_iload C 0 dX10_findChanges_17 rfl ?_
            refine x_sipush C 625 dX10_findChanges_19 (by decide) ?_
            refine x_icmp_ge C 103 dX10_findChanges_22 (by decide) (fun c_22 => ?_) (fun c_22 => ?_)
            · skip
              have e_22 : (625 : Int32).toInt ≤ (x4_17 : Int32).toInt := i_le.mp c_22
              have : (625 : Int32).toInt = 625 := by decide
              refine x_iinc C 1 (x3_10 - 1) [(3, .int (x3_10 - 1)), (4, .int x4_17), (0, .ref hy), (1, .int se), (2, .int de)] dX10_findChanges_103 rfl (i_m1 _) (by decide) rfl ?_
              refine x_goto C 10 dX10_findChanges_106 (by decide) ?_
              refine x_lv [(3, .int (x3_10 - 1)), (0, .ref hy), (1, .int se), (2, .int de)] [0, 2, 3, 4] rfl ?_
              have : (1 : Int32).toInt = 1 := by decide
              have := i_sub (x := x3_10) (y := 1) (by omega) (by omega)
              exact ih_10 (x3_10 - 1) fm14_17 ghy16_17 fm11_17 ⟨by omega, i_17.2.next (by omega) (by omega)⟩ (by omega)
            · skip
              have e_22 : ¬ ((625 : Int32).toInt ≤ (x4_17 : Int32).toInt) := fun h => c_22 (i_le.mpr h)
              have : (625 : Int32).toInt = 625 := by decide
              refine x_iconst C 0 dX10_findChanges_25 (by decide) ?_
              refine x_istore C [(5, .int 0), (4, .int x4_17), (3, .int x3_10), (0, .ref hy), (1, .int se), (2, .int de)] dX10_findChanges_26 (by decide) rfl ?_
              have L_28 : ∀ (n_28 : Nat) (x5_28 : Int32) (fm14_28 : Nat → Int32) (ghy16_28 : Int32) (fm11_28 : Nat → Int32), ((0 ≤ x5_28.toInt ∧ x5_28.toInt ≤ 65) ∧ DC (chF ma mg mt wf wp wt mw ml mb co ro se de wy2_4) fm14_28 x3_10.toInt (5 * (65 * x4_17.toInt + x5_28.toInt))) → ((65 - x5_28.toInt).toNat < n_28) → V X 8 [(m14, .inl (cI, 203125, .inl fm14_28)), (hy, .inr (10, [.ref m0, .ref m1, .ref m2, .ref m3, .ref m4, .ref m5, .ref m6, .ref m7, .ref m8, .ref m9, .int mw, .int ml, .int mb, .ref m10, .int mz, .ref m11, .int ghy16_28, .int bp, .int by0, .int dp, .int tk, .ref m12, .ref m13, .ref m14, .ref m15, .ref m16, .ref m17, .ref m18, .int ka, .int iw])), (m11, .inl (cI, 4, .inl fm11_28)), (m2, .inl (cI, 4, .inl ma)), (m4, .inl (cI, 4, .inl mg)), (m5, .inl (cI, 4, .inl mt)), (m7, .inl (cI, 6, .inl wf)), (m8, .inl (cI, 6, .inl wp)), (m9, .inl (cI, 6, .inl wt)), (m0, .inl (cI, 625, .inl ro)), (m1, .inl (cI, 65, .inl co)), (m12, .inl (cJ, 40625, .inr (.inl wy2_4)))] [(5, .int x5_28), (4, .int x4_17), (3, .int x3_10), (0, .ref hy), (1, .int se), (2, .int de)] [] 28 0 0 := by
                intro n_28
                induction n_28 with
                | zero =>
                  intro x5_28 fm14_28 ghy16_28 fm11_28 i_28 m_28
                  exact absurd m_28 (Nat.not_lt_zero _)
                | succ n_28 ih_28 =>
                  intro x5_28 fm14_28 ghy16_28 fm11_28 i_28 m_28
                  refine x_iload C 0 dX10_findChanges_28 rfl ?_
                  refine x_bipush C 65 dX10_findChanges_30 (by decide) ?_
                  refine x_icmp_ge C 97 dX10_findChanges_32 (by decide) (fun c_32 => ?_) (fun c_32 => ?_)
                  · skip
                    have e_32 : (65 : Int32).toInt ≤ (x5_28 : Int32).toInt := i_le.mp c_32
                    have : (65 : Int32).toInt = 65 := by decide
                    refine x_iinc C 1 (x4_17 + 1) [(4, .int (x4_17 + 1)), (5, .int x5_28), (3, .int x3_10), (0, .ref hy), (1, .int se), (2, .int de)] dX10_findChanges_97 rfl rfl (by decide) rfl ?_
                    refine x_goto C 17 dX10_findChanges_100 (by decide) ?_
                    refine x_lv [(4, .int (x4_17 + 1)), (3, .int x3_10), (0, .ref hy), (1, .int se), (2, .int de)] [0, 2, 3, 4, 5] rfl ?_
                    have : (1 : Int32).toInt = 1 := by decide
                    have := i_add (x := x4_17) (y := 1) (by omega) (by omega)
                    exact ih_17 (x4_17 + 1) fm14_28 ghy16_28 fm11_28 ⟨by omega, by first | exact i_28.2.skip (by omega) (by omega) (by omega) (by omega) | exact i_28.2.mono (by omega)⟩ (by omega)
                  · skip
                    have e_32 : ¬ ((65 : Int32).toInt ≤ (x5_28 : Int32).toInt) := fun h => c_32 (i_le.mpr h)
                    have : (65 : Int32).toInt = 65 := by decide
                    refine x_iload C 1 dX10_findChanges_35 rfl ?_
                    refine x_callS C [.int x4_17] [(m14, .inl (cI, 203125, .inl fm14_28)), (hy, .inr (10, [.ref m0, .ref m1, .ref m2, .ref m3, .ref m4, .ref m5, .ref m6, .ref m7, .ref m8, .ref m9, .int mw, .int ml, .int mb, .ref m10, .int mz, .ref m11, .int ghy16_28, .int bp, .int by0, .int dp, .int tk, .ref m12, .ref m13, .ref m14, .ref m15, .ref m16, .ref m17, .ref m18, .int ka, .int iw])), (m11, .inl (cI, 4, .inl fm11_28)), (m2, .inl (cI, 4, .inl ma)), (m4, .inl (cI, 4, .inl mg)), (m5, .inl (cI, 4, .inl mt)), (m7, .inl (cI, 6, .inl wf)), (m8, .inl (cI, 6, .inl wp)), (m9, .inl (cI, 6, .inl wt)), (m0, .inl (cI, 625, .inl ro)), (m1, .inl (cI, 65, .inl co)), (m12, .inl (cJ, 40625, .inr (.inl wy2_4)))] [] [0, 1, 2, 3, 4, 5, 6, 7, 8, 9, 10, 11] (c_X10_sumOf (xl X) (xD X) (xt X) hT x4_17 (by omega)) dX10_findChanges_37 wd_572 wd_573 wd_5 wd_574 (np := 1) ⟨by decide, by decide, by decide +kernel⟩ rfl rfl (Nat.le_of_ble_eq_true rfl) (by decide) rfl (by decide) rfl (by decide) (by decide) (fun v W1 h => ?_)
                    obtain ⟨r_37, rfl, rfl, h_37⟩ := h
                    show V X 8 [(m14, .inl (cI, 203125, .inl fm14_28)), (hy, .inr (10, [.ref m0, .ref m1, .ref m2, .ref m3, .ref m4, .ref m5, .ref m6, .ref m7, .ref m8, .ref m9, .int mw, .int ml, .int mb, .ref m10, .int mz, .ref m11, .int ghy16_28, .int bp, .int by0, .int dp, .int tk, .ref m12, .ref m13, .ref m14, .ref m15, .ref m16, .ref m17, .ref m18, .int ka, .int iw])), (m11, .inl (cI, 4, .inl fm11_28)), (m2, .inl (cI, 4, .inl ma)), (m4, .inl (cI, 4, .inl mg)), (m5, .inl (cI, 4, .inl mt)), (m7, .inl (cI, 6, .inl wf)), (m8, .inl (cI, 6, .inl wp)), (m9, .inl (cI, 6, .inl wt)), (m0, .inl (cI, 625, .inl ro)), (m1, .inl (cI, 65, .inl co)), (m12, .inl (cJ, 40625, .inr (.inl wy2_4)))] [(5, .int x5_28), (4, .int x4_17), (3, .int x3_10), (0, .ref hy), (1, .int se), (2, .int de)] [.int r_37] 40 0 0
                    refine x_iload_n C 2 dX10_findChanges_40 rfl rfl ?_
                    refine x_icmp_ne C 97 dX10_findChanges_41 (by decide) (fun c_41 => ?_) (fun c_41 => ?_)
                    · skip
                      have e_41 : ¬ ((r_37 : Int32).toInt = (x3_10 : Int32).toInt) := fun h => c_41 (i_eq.mpr h)
                      refine x_iinc C 1 (x4_17 + 1) [(4, .int (x4_17 + 1)), (5, .int x5_28), (3, .int x3_10), (0, .ref hy), (1, .int se), (2, .int de)] dX10_findChanges_97 rfl rfl (by decide) rfl ?_
                      refine x_goto C 17 dX10_findChanges_100 (by decide) ?_
                      refine x_lv [(4, .int (x4_17 + 1)), (3, .int x3_10), (0, .ref hy), (1, .int se), (2, .int de)] [0, 2, 3, 4, 5] rfl ?_
                      have : (1 : Int32).toInt = 1 := by decide
                      have := i_add (x := x4_17) (y := 1) (by omega) (by omega)
                      exact ih_17 (x4_17 + 1) fm14_28 ghy16_28 fm11_28 ⟨by omega, by first | exact i_28.2.skip (by omega) (by omega) (by omega) (by omega) | exact i_28.2.mono (by omega)⟩ (by omega)
                    · skip
                      have e_41 : (r_37 : Int32).toInt = (x3_10 : Int32).toInt := i_eq.mp c_41
                      have : (65 : Int32).toInt = 65 := by decide
                      have := i_mull (x := 65) (y := x4_17) (d := 65) (by decide) (by omega) (by omega)
                      have st9 := i_add (x := 65 * x4_17) (y := x5_28) (by omega) (by omega)
                      have sm9 := sm_at (a := 65 * x4_17 + x5_28) (n := x4_17.toInt) (r := x5_28.toInt) (by omega) (by omega) (by omega)
                      refine x_iconst C 0 dX10_findChanges_44 (by decide) ?_
                      refine x_istore C [(6, .int 0), (5, .int x5_28), (4, .int x4_17), (3, .int x3_10), (0, .ref hy), (1, .int se), (2, .int de)] dX10_findChanges_45 (by decide) rfl ?_
                      have L_47 : ∀ (n_47 : Nat) (x6_47 : Int32) (fm14_47 : Nat → Int32) (ghy16_47 : Int32) (fm11_47 : Nat → Int32), ((0 ≤ x6_47.toInt ∧ x6_47.toInt ≤ 5) ∧ DC (chF ma mg mt wf wp wt mw ml mb co ro se de wy2_4) fm14_47 x3_10.toInt (5 * (65 * x4_17.toInt + x5_28.toInt) + x6_47.toInt)) → ((5 - x6_47.toInt).toNat < n_47) → V X 8 [(m14, .inl (cI, 203125, .inl fm14_47)), (hy, .inr (10, [.ref m0, .ref m1, .ref m2, .ref m3, .ref m4, .ref m5, .ref m6, .ref m7, .ref m8, .ref m9, .int mw, .int ml, .int mb, .ref m10, .int mz, .ref m11, .int ghy16_47, .int bp, .int by0, .int dp, .int tk, .ref m12, .ref m13, .ref m14, .ref m15, .ref m16, .ref m17, .ref m18, .int ka, .int iw])), (m11, .inl (cI, 4, .inl fm11_47)), (m2, .inl (cI, 4, .inl ma)), (m4, .inl (cI, 4, .inl mg)), (m5, .inl (cI, 4, .inl mt)), (m7, .inl (cI, 6, .inl wf)), (m8, .inl (cI, 6, .inl wp)), (m9, .inl (cI, 6, .inl wt)), (m0, .inl (cI, 625, .inl ro)), (m1, .inl (cI, 65, .inl co)), (m12, .inl (cJ, 40625, .inr (.inl wy2_4)))] [(6, .int x6_47), (5, .int x5_28), (4, .int x4_17), (3, .int x3_10), (0, .ref hy), (1, .int se), (2, .int de)] [] 47 0 0 := by
                        intro n_47
                        induction n_47 with
                        | zero =>
                          intro x6_47 fm14_47 ghy16_47 fm11_47 i_47 m_47
                          exact absurd m_47 (Nat.not_lt_zero _)
                        | succ n_47 ih_47 =>
                          intro x6_47 fm14_47 ghy16_47 fm11_47 i_47 m_47
                          refine x_iload C 0 dX10_findChanges_47 rfl ?_
                          refine x_iconst C 5 dX10_findChanges_49 (by decide) ?_
                          refine x_icmp_ge C 91 dX10_findChanges_50 (by decide) (fun c_50 => ?_) (fun c_50 => ?_)
                          · skip
                            have e_50 : (5 : Int32).toInt ≤ (x6_47 : Int32).toInt := i_le.mp c_50
                            have : (5 : Int32).toInt = 5 := by decide
                            refine x_iinc C 1 (x5_28 + 1) [(5, .int (x5_28 + 1)), (6, .int x6_47), (4, .int x4_17), (3, .int x3_10), (0, .ref hy), (1, .int se), (2, .int de)] dX10_findChanges_91 rfl rfl (by decide) rfl ?_
                            refine x_goto C 28 dX10_findChanges_94 (by decide) ?_
                            refine x_lv [(5, .int (x5_28 + 1)), (4, .int x4_17), (3, .int x3_10), (0, .ref hy), (1, .int se), (2, .int de)] [0, 2, 3, 4, 5, 6] rfl ?_
                            have : (1 : Int32).toInt = 1 := by decide
                            have := i_add (x := x5_28) (y := 1) (by omega) (by omega)
                            exact ih_28 (x5_28 + 1) fm14_47 ghy16_47 fm11_47 ⟨by omega, i_47.2.mono (by omega)⟩ (by omega)
                          · skip
                            have e_50 : ¬ ((5 : Int32).toInt ≤ (x6_47 : Int32).toInt) := fun h => c_50 (i_le.mpr h)
                            have : (5 : Int32).toInt = 5 := by decide
                            refine x_bipush C 65 dX10_findChanges_53 (by decide) ?_
                            refine x_iload C 2 dX10_findChanges_55 rfl ?_
                            refine x_imul C dX10_findChanges_57 ?_
                            refine x_iload C 1 dX10_findChanges_58 rfl ?_
                            refine x_iadd C dX10_findChanges_60 ?_
                            refine x_istore C [(7, .int ((65 * x4_17) + x5_28)), (6, .int x6_47), (5, .int x5_28), (4, .int x4_17), (3, .int x3_10), (0, .ref hy), (1, .int se), (2, .int de)] dX10_findChanges_61 (by decide) rfl ?_
                            have i9 := ix5 (u := 65 * x4_17 + x5_28) (t := x6_47) (by omega) (by omega) (by omega)
                            refine x_aload_n C 5 dX10_findChanges_63 rfl rfl ?_
                            refine x_get C 1 23 dX10_findChanges_64 inlX10 rfl (by decide) wd_138 rfl rfl rfl ?_
                            refine x_iconst C 5 dX10_findChanges_67 (by decide) ?_
                            refine x_iload C 0 dX10_findChanges_68 rfl ?_
                            refine x_imul C dX10_findChanges_70 ?_
                            refine x_iload C 1 dX10_findChanges_71 rfl ?_
                            refine x_iadd C dX10_findChanges_73 ?_
                            refine x_aload_n C 5 dX10_findChanges_74 rfl rfl ?_
                            refine x_iload C 0 dX10_findChanges_75 rfl ?_
                            refine x_iload C 1 dX10_findChanges_77 rfl ?_
                            refine x_iload_n C 6 dX10_findChanges_79 rfl rfl ?_
                            refine x_iload_n C 7 dX10_findChanges_80 rfl rfl ?_
                            refine x_callV C [.int ((65 * x4_17) + x5_28), .int x6_47, .int se, .int de] [] [1, 2, 3, 4, 5, 6, 7, 8, 9, 10, 11, 0] [] (q0 := 0) (c_X10_changesOf (xl X) (xD X) (xt X) hT hy m0 m1 m2 m3 m4 m5 m6 m7 m8 m9 m10 m11 m12 m13 m14 m15 m16 m17 m18 fm11_47 ma mg mt wf wp wt ro co fm14_47 wy2_4 mw ml mb mz ghy16_47 bp by0 dp tk ka iw ((65 * x4_17) + x5_28) x6_47 se de (by omega) h_4 hte hR hpa hmw hwt) dX10_findChanges_81 wd_643 wd_644 wd_645 wd_5 wd_646 (np := 4) ⟨by decide, by decide, by decide +kernel⟩ rfl rfl (Nat.le_of_ble_eq_true rfl) (by decide) rfl rfl rfl rfl (by decide) rfl (by decide) (by decide) (fun v W1 h => ?_)
                            obtain ⟨tl2_81, op2_81, rfl, rfl, h_81⟩ := h
                            show V X 8 [(hy, .inr (10, [.ref m0, .ref m1, .ref m2, .ref m3, .ref m4, .ref m5, .ref m6, .ref m7, .ref m8, .ref m9, .int mw, .int ml, .int mb, .ref m10, .int mz, .ref m11, .int op2_81, .int bp, .int by0, .int dp, .int tk, .ref m12, .ref m13, .ref m14, .ref m15, .ref m16, .ref m17, .ref m18, .int ka, .int iw])), (m11, .inl (cI, 4, .inl tl2_81)), (m2, .inl (cI, 4, .inl ma)), (m4, .inl (cI, 4, .inl mg)), (m5, .inl (cI, 4, .inl mt)), (m7, .inl (cI, 6, .inl wf)), (m8, .inl (cI, 6, .inl wp)), (m9, .inl (cI, 6, .inl wt)), (m0, .inl (cI, 625, .inl ro)), (m1, .inl (cI, 65, .inl co)), (m12, .inl (cJ, 40625, .inr (.inl wy2_4))), (m14, .inl (cI, 203125, .inl fm14_47))] [(7, .int ((65 * x4_17) + x5_28)), (6, .int x6_47), (5, .int x5_28), (4, .int x4_17), (3, .int x3_10), (0, .ref hy), (1, .int se), (2, .int de)] [.int (chF ma mg mt wf wp wt mw ml mb co ro se de wy2_4 fm14_47 ((65 * x4_17) + x5_28) x6_47), .int ((5 * ((65 * x4_17) + x5_28)) + x6_47), .ref m14] 84 0 0
                            have v_84 : vp_in ((5 * ((65 * x4_17) + x5_28)) + x6_47) 203125 := (vp_in_iff.mpr (by omega))
                            refine x_iast C 11 0 [(hy, .inr (10, [.ref m0, .ref m1, .ref m2, .ref m3, .ref m4, .ref m5, .ref m6, .ref m7, .ref m8, .ref m9, .int mw, .int ml, .int mb, .ref m10, .int mz, .ref m11, .int op2_81, .int bp, .int by0, .int dp, .int tk, .ref m12, .ref m13, .ref m14, .ref m15, .ref m16, .ref m17, .ref m18, .int ka, .int iw])), (m11, .inl (cI, 4, .inl tl2_81)), (m2, .inl (cI, 4, .inl ma)), (m4, .inl (cI, 4, .inl mg)), (m5, .inl (cI, 4, .inl mt)), (m7, .inl (cI, 6, .inl wf)), (m8, .inl (cI, 6, .inl wp)), (m9, .inl (cI, 6, .inl wt)), (m0, .inl (cI, 625, .inl ro)), (m1, .inl (cI, 65, .inl co)), (m12, .inl (cJ, 40625, .inr (.inl wy2_4))), (m14, .inl (cI, 203125, .inl (upd fm14_47 (Int32.toNatClampNeg ((5 * ((65 * x4_17) + x5_28)) + x6_47)) (chF ma mg mt wf wp wt mw ml mb co ro se de wy2_4 fm14_47 ((65 * x4_17) + x5_28) x6_47))))] dX10_findChanges_84 hT.1 rfl v_84 rfl ?_
                            have step9 := (DC.step (ch_lc hpa hR hte h_4) i_47.2 (st := 65 * x4_17 + x5_28) (l := x6_47) (b' := 5 * (65 * x4_17.toInt + x5_28.toInt) + (x6_47.toInt + 1)) (by omega) (by omega) (by omega) (by omega) (by omega) (by omega) (by omega)).mono (b' := 5 * (65 * x4_17.toInt + x5_28.toInt) + (x6_47 + 1).toInt) (by have := t1_; have := i_add (x := x6_47) (y := 1) (by omega) (by omega); omega)
                            refine x_iinc C 1 (x6_47 + 1) [(6, .int (x6_47 + 1)), (7, .int ((65 * x4_17) + x5_28)), (5, .int x5_28), (4, .int x4_17), (3, .int x3_10), (0, .ref hy), (1, .int se), (2, .int de)] dX10_findChanges_85 rfl rfl (by decide) rfl ?_
                            refine x_goto C 47 dX10_findChanges_88 (by decide) ?_
                            refine x_sub [(m14, .inl (cI, 203125, .inl (upd fm14_47 (Int32.toNatClampNeg ((5 * ((65 * x4_17) + x5_28)) + x6_47)) (chF ma mg mt wf wp wt mw ml mb co ro se de wy2_4 fm14_47 ((65 * x4_17) + x5_28) x6_47)))), (hy, .inr (10, [.ref m0, .ref m1, .ref m2, .ref m3, .ref m4, .ref m5, .ref m6, .ref m7, .ref m8, .ref m9, .int mw, .int ml, .int mb, .ref m10, .int mz, .ref m11, .int op2_81, .int bp, .int by0, .int dp, .int tk, .ref m12, .ref m13, .ref m14, .ref m15, .ref m16, .ref m17, .ref m18, .int ka, .int iw])), (m11, .inl (cI, 4, .inl tl2_81)), (m2, .inl (cI, 4, .inl ma)), (m4, .inl (cI, 4, .inl mg)), (m5, .inl (cI, 4, .inl mt)), (m7, .inl (cI, 6, .inl wf)), (m8, .inl (cI, 6, .inl wp)), (m9, .inl (cI, 6, .inl wt)), (m0, .inl (cI, 625, .inl ro)), (m1, .inl (cI, 65, .inl co)), (m12, .inl (cJ, 40625, .inr (.inl wy2_4)))] [11, 0, 1, 2, 3, 4, 5, 6, 7, 8, 9, 10] (by decide) rfl ?_
                            refine x_lv [(6, .int (x6_47 + 1)), (5, .int x5_28), (4, .int x4_17), (3, .int x3_10), (0, .ref hy), (1, .int se), (2, .int de)] [0, 2, 3, 4, 5, 6, 7] rfl ?_
                            have : (1 : Int32).toInt = 1 := by decide
                            have := i_add (x := x6_47) (y := 1) (by omega) (by omega)
                            exact ih_47 (x6_47 + 1) (upd fm14_47 (Int32.toNatClampNeg ((5 * ((65 * x4_17) + x5_28)) + x6_47)) (chF ma mg mt wf wp wt mw ml mb co ro se de wy2_4 fm14_47 ((65 * x4_17) + x5_28) x6_47)) op2_81 tl2_81 ⟨by omega, step9⟩ (by omega)
                      have : (0 : Int32).toInt = 0 := by decide
                      exact L_47 _ 0 fm14_28 ghy16_28 fm11_28 ⟨by omega, i_28.2.mono (by omega)⟩ (Nat.lt_succ_self _)
              have : (0 : Int32).toInt = 0 := by decide
              exact L_28 _ 0 fm14_17 ghy16_17 fm11_17 ⟨by omega, i_17.2.mono (by omega)⟩ (Nat.lt_succ_self _)
        have : (0 : Int32).toInt = 0 := by decide
        exact L_17 _ 0 fm14_10 ghy16_10 fm11_10 ⟨by omega, i_10.2.mono (by omega)⟩ (Nat.lt_succ_self _)
  have : (16 : Int32).toInt = 16 := by decide
  exact L_10 _ 16 cg op2_4 tl2_4 ⟨by omega, DC.top (by omega)⟩ (Nat.lt_succ_self _)
abbrev rm_X10_shortest : Room := { frames := 7, cells := 0, slots := 0, locals := 178 }
set_option maxHeartbeats 4000000 in
set_option maxRecDepth 100000 in
theorem c_X10_shortest (l : Launch) (D : va_G) (tys : List (ClassId × FieldType)) {cI cJ cZ cB : ClassId} (hT : Ty tys cI cJ cZ cB) (hy m0 m1 m2 m3 m4 m5 m6 m7 m8 m9 m10 m11 m12 m13 m14 m15 m16 m17 m18 : Nat) (tl ma mg mt wf wp wt ro co cg mm : Nat → Int32) (wy : Nat → Int64) (mw ml mb mz op bp by0 dp tk ka iw : Int32) (se de i : Int32) (hte : TOk mt) (hR : RT co ro) (hpa : POk ma) (hmw : 0 ≤ mw.toInt ∧ mw.toInt ≤ 6) (hwt : SOk wt) : Cn l D tys yX10_shortest cX10_shortest 11 (some .int) rm_X10_shortest [(hy, .inr (10, [.ref m0, .ref m1, .ref m2, .ref m3, .ref m4, .ref m5, .ref m6, .ref m7, .ref m8, .ref m9, .int mw, .int ml, .int mb, .ref m10, .int mz, .ref m11, .int op, .int bp, .int by0, .int dp, .int tk, .ref m12, .ref m13, .ref m14, .ref m15, .ref m16, .ref m17, .ref m18, .int ka, .int iw])), (m11, .inl (cI, 4, .inl tl)), (m2, .inl (cI, 4, .inl ma)), (m4, .inl (cI, 4, .inl mg)), (m5, .inl (cI, 4, .inl mt)), (m7, .inl (cI, 6, .inl wf)), (m8, .inl (cI, 6, .inl wp)), (m9, .inl (cI, 6, .inl wt)), (m0, .inl (cI, 625, .inl ro)), (m1, .inl (cI, 65, .inl co)), (m12, .inl (cJ, 40625, .inr (.inl wy))), (m14, .inl (cI, 203125, .inl cg)), (m3, .inl (cI, 16, .inl mm))] [.ref hy, .int se, .int de, .int i] (fun v W1 => ∃ (r : Int32) (tl2 : Nat → Int32) (op2 : Int32) (wy2 : Nat → Int64) (cg2 : Nat → Int32), v = some (.int r) ∧ W1 = [(hy, .inr (10, [.ref m0, .ref m1, .ref m2, .ref m3, .ref m4, .ref m5, .ref m6, .ref m7, .ref m8, .ref m9, .int mw, .int ml, .int mb, .ref m10, .int mz, .ref m11, .int op2, .int bp, .int by0, .int dp, .int tk, .ref m12, .ref m13, .ref m14, .ref m15, .ref m16, .ref m17, .ref m18, .int ka, .int iw])), (m11, .inl (cI, 4, .inl tl2)), (m2, .inl (cI, 4, .inl ma)), (m4, .inl (cI, 4, .inl mg)), (m5, .inl (cI, 4, .inl mt)), (m7, .inl (cI, 6, .inl wf)), (m8, .inl (cI, 6, .inl wp)), (m9, .inl (cI, 6, .inl wt)), (m0, .inl (cI, 625, .inl ro)), (m1, .inl (cI, 65, .inl co)), (m12, .inl (cJ, 40625, .inr (.inl wy2))), (m14, .inl (cI, 203125, .inl cg2)), (m3, .inl (cI, 16, .inl mm))] ∧ (True)) := by
  refine Cn.of (by decide) (Nat.le_of_ble_eq_true rfl) ?_ ?_ (fun X eL eD eT eO eK eN eM C => ?_)
  · intro h; cases h
  · intro v ws h; obtain ⟨_, _, _, _, _, rfl, rfl, _⟩ := h; exact Or.inl rfl
  subst eL eD eT
  show V X 11 [(hy, .inr (10, [.ref m0, .ref m1, .ref m2, .ref m3, .ref m4, .ref m5, .ref m6, .ref m7, .ref m8, .ref m9, .int mw, .int ml, .int mb, .ref m10, .int mz, .ref m11, .int op, .int bp, .int by0, .int dp, .int tk, .ref m12, .ref m13, .ref m14, .ref m15, .ref m16, .ref m17, .ref m18, .int ka, .int iw])), (m11, .inl (cI, 4, .inl tl)), (m2, .inl (cI, 4, .inl ma)), (m4, .inl (cI, 4, .inl mg)), (m5, .inl (cI, 4, .inl mt)), (m7, .inl (cI, 6, .inl wf)), (m8, .inl (cI, 6, .inl wp)), (m9, .inl (cI, 6, .inl wt)), (m0, .inl (cI, 625, .inl ro)), (m1, .inl (cI, 65, .inl co)), (m12, .inl (cJ, 40625, .inr (.inl wy))), (m14, .inl (cI, 203125, .inl cg)), (m3, .inl (cI, 16, .inl mm))] [(0, .ref hy), (1, .int se), (2, .int de), (3, .int i)] [] 0 0 0
  refine x_iload_n C 1 dX10_shortest_0 rfl rfl ?_
  refine x_callS C [.int se] [(hy, .inr (10, [.ref m0, .ref m1, .ref m2, .ref m3, .ref m4, .ref m5, .ref m6, .ref m7, .ref m8, .ref m9, .int mw, .int ml, .int mb, .ref m10, .int mz, .ref m11, .int op, .int bp, .int by0, .int dp, .int tk, .ref m12, .ref m13, .ref m14, .ref m15, .ref m16, .ref m17, .ref m18, .int ka, .int iw])), (m11, .inl (cI, 4, .inl tl)), (m2, .inl (cI, 4, .inl ma)), (m4, .inl (cI, 4, .inl mg)), (m5, .inl (cI, 4, .inl mt)), (m7, .inl (cI, 6, .inl wf)), (m8, .inl (cI, 6, .inl wp)), (m9, .inl (cI, 6, .inl wt)), (m0, .inl (cI, 625, .inl ro)), (m1, .inl (cI, 65, .inl co)), (m12, .inl (cJ, 40625, .inr (.inl wy))), (m14, .inl (cI, 203125, .inl cg)), (m3, .inl (cI, 16, .inl mm))] [] [0, 1, 2, 3, 4, 5, 6, 7, 8, 9, 10, 11, 12] (c_X10_isSet (xl X) (xD X) (xt X) hT se ) dX10_shortest_1 wd_565 wd_566 wd_5 wd_567 (np := 1) ⟨by decide, by decide, by decide +kernel⟩ rfl rfl (Nat.le_of_ble_eq_true rfl) (by decide) rfl (by decide) rfl (by decide) (by decide) (fun v W1 h => ?_)
  obtain ⟨r_1, rfl, rfl, h_1⟩ := h
  show V X 11 [(hy, .inr (10, [.ref m0, .ref m1, .ref m2, .ref m3, .ref m4, .ref m5, .ref m6, .ref m7, .ref m8, .ref m9, .int mw, .int ml, .int mb, .ref m10, .int mz, .ref m11, .int op, .int bp, .int by0, .int dp, .int tk, .ref m12, .ref m13, .ref m14, .ref m15, .ref m16, .ref m17, .ref m18, .int ka, .int iw])), (m11, .inl (cI, 4, .inl tl)), (m2, .inl (cI, 4, .inl ma)), (m4, .inl (cI, 4, .inl mg)), (m5, .inl (cI, 4, .inl mt)), (m7, .inl (cI, 6, .inl wf)), (m8, .inl (cI, 6, .inl wp)), (m9, .inl (cI, 6, .inl wt)), (m0, .inl (cI, 625, .inl ro)), (m1, .inl (cI, 65, .inl co)), (m12, .inl (cJ, 40625, .inr (.inl wy))), (m14, .inl (cI, 203125, .inl cg)), (m3, .inl (cI, 16, .inl mm))] [(0, .ref hy), (1, .int se), (2, .int de), (3, .int i)] [.int r_1] 4 0 0
  refine x_if_eq C 19 dX10_shortest_4 (by decide) (fun c_4 => ?_) (fun c_4 => ?_)
  · skip
    have e_4 : (r_1 : Int32).toInt = (0 : Int32).toInt := i_eq.mp c_4
    have : (0 : Int32).toInt = 0 := by decide
    refine x_bipush C (-2) dX10_shortest_19 (by decide) ?_
    have : ((-2) : Int32).toInt = -2 := by decide
    exact x_iret C dX10_shortest_21 (Nat.zero_le _) (Nat.zero_le _) (by rw [eO]; exact ⟨((-2)), tl, op, wy, cg, rfl, rfl, trivial⟩)
  · skip
    have e_4 : ¬ ((r_1 : Int32).toInt = (0 : Int32).toInt) := fun h => c_4 (i_eq.mpr h)
    have : (0 : Int32).toInt = 0 := by decide
    refine x_iload_n C 2 dX10_shortest_7 rfl rfl ?_
    refine x_i2l C dX10_shortest_8 ?_
    refine x_lconst C 1 dX10_shortest_9 (by decide) ?_
    refine x_ldc2 C dX10_shortest_10 wd_563 ?_
    refine x_callS C [.long (Int32.toInt64 de), .long 1, .long 4] [(hy, .inr (10, [.ref m0, .ref m1, .ref m2, .ref m3, .ref m4, .ref m5, .ref m6, .ref m7, .ref m8, .ref m9, .int mw, .int ml, .int mb, .ref m10, .int mz, .ref m11, .int op, .int bp, .int by0, .int dp, .int tk, .ref m12, .ref m13, .ref m14, .ref m15, .ref m16, .ref m17, .ref m18, .int ka, .int iw])), (m11, .inl (cI, 4, .inl tl)), (m2, .inl (cI, 4, .inl ma)), (m4, .inl (cI, 4, .inl mg)), (m5, .inl (cI, 4, .inl mt)), (m7, .inl (cI, 6, .inl wf)), (m8, .inl (cI, 6, .inl wp)), (m9, .inl (cI, 6, .inl wt)), (m0, .inl (cI, 625, .inl ro)), (m1, .inl (cI, 65, .inl co)), (m12, .inl (cJ, 40625, .inr (.inl wy))), (m14, .inl (cI, 203125, .inl cg)), (m3, .inl (cI, 16, .inl mm))] [] [0, 1, 2, 3, 4, 5, 6, 7, 8, 9, 10, 11, 12] (c_X10_in (xl X) (xD X) (xt X) hT (Int32.toInt64 de) 1 4 ) dX10_shortest_13 wd_167 wd_168 wd_5 wd_169 (np := 3) ⟨by decide, by decide, by decide +kernel⟩ rfl rfl (Nat.le_of_ble_eq_true rfl) (by decide) rfl (by decide) rfl (by decide) (by decide) (fun v W1 h => ?_)
    obtain ⟨r_13, rfl, rfl, h_13⟩ := h
    have : (Int32.toInt64 de : Int64).toInt = (de : Int32).toInt := Int32.toInt_toInt64 _
    have : (1 : Int64).toInt = 1 := by decide
    have : (4 : Int64).toInt = 4 := by decide
    show V X 11 [(hy, .inr (10, [.ref m0, .ref m1, .ref m2, .ref m3, .ref m4, .ref m5, .ref m6, .ref m7, .ref m8, .ref m9, .int mw, .int ml, .int mb, .ref m10, .int mz, .ref m11, .int op, .int bp, .int by0, .int dp, .int tk, .ref m12, .ref m13, .ref m14, .ref m15, .ref m16, .ref m17, .ref m18, .int ka, .int iw])), (m11, .inl (cI, 4, .inl tl)), (m2, .inl (cI, 4, .inl ma)), (m4, .inl (cI, 4, .inl mg)), (m5, .inl (cI, 4, .inl mt)), (m7, .inl (cI, 6, .inl wf)), (m8, .inl (cI, 6, .inl wp)), (m9, .inl (cI, 6, .inl wt)), (m0, .inl (cI, 625, .inl ro)), (m1, .inl (cI, 65, .inl co)), (m12, .inl (cJ, 40625, .inr (.inl wy))), (m14, .inl (cI, 203125, .inl cg)), (m3, .inl (cI, 16, .inl mm))] [(0, .ref hy), (1, .int se), (2, .int de), (3, .int i)] [.int r_13] 16 0 0
    refine x_if_ne C 22 dX10_shortest_16 (by decide) (fun c_16 => ?_) (fun c_16 => ?_)
    · skip
      have e_16 : ¬ ((r_13 : Int32).toInt = (0 : Int32).toInt) := fun h => c_16 (i_eq.mpr h)
      have : (0 : Int32).toInt = 0 := by decide
      refine x_aload_n C 0 dX10_shortest_22 rfl rfl ?_
      refine x_iload_n C 1 dX10_shortest_23 rfl rfl ?_
      refine x_iload_n C 2 dX10_shortest_24 rfl rfl ?_
      refine x_callV C [.int se, .int de] [(m3, .inl (cI, 16, .inl mm))] [0, 1, 2, 3, 4, 5, 6, 7, 8, 9, 10, 11] [12] (q0 := 0) (c_X10_findChanges (xl X) (xD X) (xt X) hT hy m0 m1 m2 m3 m4 m5 m6 m7 m8 m9 m10 m11 m12 m13 m14 m15 m16 m17 m18 tl ma mg mt wf wp wt ro co cg wy mw ml mb mz op bp by0 dp tk ka iw se de hte hR hpa hmw hwt) dX10_shortest_25 wd_639 wd_640 wd_641 wd_5 wd_642 (np := 2) ⟨by decide, by decide, by decide +kernel⟩ rfl rfl (Nat.le_of_ble_eq_true rfl) (by decide) rfl rfl rfl rfl (by decide) rfl (by decide) (by decide) (fun v W1 h => ?_)
      obtain ⟨tl2_25, op2_25, wy2_25, cg2_25, rfl, rfl, h_25⟩ := h
      show V X 11 [(m3, .inl (cI, 16, .inl mm)), (hy, .inr (10, [.ref m0, .ref m1, .ref m2, .ref m3, .ref m4, .ref m5, .ref m6, .ref m7, .ref m8, .ref m9, .int mw, .int ml, .int mb, .ref m10, .int mz, .ref m11, .int op2_25, .int bp, .int by0, .int dp, .int tk, .ref m12, .ref m13, .ref m14, .ref m15, .ref m16, .ref m17, .ref m18, .int ka, .int iw])), (m11, .inl (cI, 4, .inl tl2_25)), (m2, .inl (cI, 4, .inl ma)), (m4, .inl (cI, 4, .inl mg)), (m5, .inl (cI, 4, .inl mt)), (m7, .inl (cI, 6, .inl wf)), (m8, .inl (cI, 6, .inl wp)), (m9, .inl (cI, 6, .inl wt)), (m0, .inl (cI, 625, .inl ro)), (m1, .inl (cI, 65, .inl co)), (m12, .inl (cJ, 40625, .inr (.inl wy2_25))), (m14, .inl (cI, 203125, .inl cg2_25))] [(0, .ref hy), (1, .int se), (2, .int de), (3, .int i)] [] 28 0 0
      refine x_aload_n C 0 dX10_shortest_28 rfl rfl ?_
      refine x_get C 1 21 dX10_shortest_29 inlX10 rfl (by decide) wd_135 rfl rfl rfl ?_
      refine x_iconst C 0 dX10_shortest_32 (by decide) ?_
      have v_33 : vp_in 0 40625 := (vp_in_iff.mpr (by decide))
      refine x_lald C 11 1 dX10_shortest_33 hT.2.1 rfl v_33 ?_
      refine x_lconst C 0 dX10_shortest_34 (by decide) ?_
      refine x_lcmp C dX10_shortest_35 ?_
      refine x_if_ne C 42 dX10_shortest_36 (by decide) (fun c_36 => ?_) (fun c_36 => ?_)
      · skip
        have e_36 : ¬ (((wy2_25 (Int32.toNatClampNeg 0)) : Int64).toInt = (0 : Int64).toInt) := fun h => c_36 (lc_eq.mpr h)
        have : (0 : Int64).toInt = 0 := by decide
        refine x_iconst C 0 dX10_shortest_42 (by decide) ?_
        refine x_istore C [(4, .int 0), (0, .ref hy), (1, .int se), (2, .int de), (3, .int i)] dX10_shortest_43 (by decide) rfl ?_
        refine x_aload_n C 1 dX10_shortest_45 rfl rfl ?_
        refine x_get C 1 12 dX10_shortest_46 inlX10 rfl (by decide) wd_348 rfl rfl rfl ?_
        refine x_aload_n C 1 dX10_shortest_49 rfl rfl ?_
        refine x_get C 1 23 dX10_shortest_50 inlX10 rfl (by decide) wd_138 rfl rfl rfl ?_
        refine x_iconst C 4 dX10_shortest_53 (by decide) ?_
        have v_54 : vp_in 4 203125 := (vp_in_iff.mpr (by decide))
        refine x_iald C 12 0 dX10_shortest_54 hT.1 rfl v_54 ?_
        refine x_imul C dX10_shortest_55 ?_
        refine x_istore C [(5, .int (mb * (cg2_25 (Int32.toNatClampNeg 4)))), (4, .int 0), (0, .ref hy), (1, .int se), (2, .int de), (3, .int i)] dX10_shortest_56 (by decide) rfl ?_
        refine x_iconst C 0 dX10_shortest_58 (by decide) ?_
        refine x_istore C [(6, .int 0), (5, .int (mb * (cg2_25 (Int32.toNatClampNeg 4)))), (4, .int 0), (0, .ref hy), (1, .int se), (2, .int de), (3, .int i)] dX10_shortest_59 (by decide) rfl ?_
        have L_61 : ∀ (n_61 : Nat) (x6_61 : Int32) (x5_61 : Int32) (x4_61 : Int32), ((0 ≤ x6_61.toInt ∧ x6_61.toInt ≤ 4) ∧ x4_61.toInt = ptF ma se x6_61.toInt.toNat ∧ 0 ≤ x4_61.toInt ∧ x4_61.toInt ≤ 4 * x6_61.toInt) → ((4 - x6_61.toInt).toNat < n_61) → V X 11 [(m3, .inl (cI, 16, .inl mm)), (hy, .inr (10, [.ref m0, .ref m1, .ref m2, .ref m3, .ref m4, .ref m5, .ref m6, .ref m7, .ref m8, .ref m9, .int mw, .int ml, .int mb, .ref m10, .int mz, .ref m11, .int op2_25, .int bp, .int by0, .int dp, .int tk, .ref m12, .ref m13, .ref m14, .ref m15, .ref m16, .ref m17, .ref m18, .int ka, .int iw])), (m11, .inl (cI, 4, .inl tl2_25)), (m2, .inl (cI, 4, .inl ma)), (m4, .inl (cI, 4, .inl mg)), (m5, .inl (cI, 4, .inl mt)), (m7, .inl (cI, 6, .inl wf)), (m8, .inl (cI, 6, .inl wp)), (m9, .inl (cI, 6, .inl wt)), (m0, .inl (cI, 625, .inl ro)), (m1, .inl (cI, 65, .inl co)), (m12, .inl (cJ, 40625, .inr (.inl wy2_25))), (m14, .inl (cI, 203125, .inl cg2_25))] [(6, .int x6_61), (5, .int x5_61), (4, .int x4_61), (0, .ref hy), (1, .int se), (2, .int de), (3, .int i)] [] 61 0 0 := by
          intro n_61
          induction n_61 with
          | zero =>
            intro x6_61 x5_61 x4_61 i_61 m_61
            exact absurd m_61 (Nat.not_lt_zero _)
          | succ n_61 ih_61 =>
            intro x6_61 x5_61 x4_61 i_61 m_61
            have := t0_
            refine x_iload C 0 dX10_shortest_61 rfl ?_
            refine x_iconst C 4 dX10_shortest_63 (by decide) ?_
            refine x_icmp_ge C 124 dX10_shortest_64 (by decide) (fun c_64 => ?_) (fun c_64 => ?_)
            · skip
              have e_64 : (4 : Int32).toInt ≤ (x6_61 : Int32).toInt := i_le.mp c_64
              have : (4 : Int32).toInt = 4 := by decide
              have p9 : x4_61.toInt = ptF ma se 4 := by rw [i_61.2.1, show x6_61.toInt.toNat = 4 by omega]
              refine x_iload_n C 6 dX10_shortest_124 rfl rfl ?_
              refine x_i2l C dX10_shortest_125 ?_
              refine x_lconst C 0 dX10_shortest_126 (by decide) ?_
              refine x_iload C 2 dX10_shortest_127 rfl ?_
              refine x_iconst C 1 dX10_shortest_129 (by decide) ?_
              refine x_isub C dX10_shortest_130 ?_
              refine x_i2l C dX10_shortest_131 ?_
              refine x_callS C [.long (Int32.toInt64 i), .long 0, .long (Int32.toInt64 (x4_61 - 1))] [(m3, .inl (cI, 16, .inl mm)), (hy, .inr (10, [.ref m0, .ref m1, .ref m2, .ref m3, .ref m4, .ref m5, .ref m6, .ref m7, .ref m8, .ref m9, .int mw, .int ml, .int mb, .ref m10, .int mz, .ref m11, .int op2_25, .int bp, .int by0, .int dp, .int tk, .ref m12, .ref m13, .ref m14, .ref m15, .ref m16, .ref m17, .ref m18, .int ka, .int iw])), (m11, .inl (cI, 4, .inl tl2_25)), (m2, .inl (cI, 4, .inl ma)), (m4, .inl (cI, 4, .inl mg)), (m5, .inl (cI, 4, .inl mt)), (m7, .inl (cI, 6, .inl wf)), (m8, .inl (cI, 6, .inl wp)), (m9, .inl (cI, 6, .inl wt)), (m0, .inl (cI, 625, .inl ro)), (m1, .inl (cI, 65, .inl co)), (m12, .inl (cJ, 40625, .inr (.inl wy2_25))), (m14, .inl (cI, 203125, .inl cg2_25))] [] [0, 1, 2, 3, 4, 5, 6, 7, 8, 9, 10, 11, 12] (c_X10_in (xl X) (xD X) (xt X) hT (Int32.toInt64 i) 0 (Int32.toInt64 (x4_61 - 1)) ) dX10_shortest_132 wd_167 wd_168 wd_5 wd_169 (np := 3) ⟨by decide, by decide, by decide +kernel⟩ rfl rfl (Nat.le_of_ble_eq_true rfl) (by decide) rfl (by decide) rfl (by decide) (by decide) (fun v W1 h => ?_)
              obtain ⟨r_132, rfl, rfl, h_132⟩ := h
              have : (Int32.toInt64 i : Int64).toInt = (i : Int32).toInt := Int32.toInt_toInt64 _
              have : (0 : Int64).toInt = 0 := by decide
              have : (Int32.toInt64 (x4_61 - 1) : Int64).toInt = ((x4_61 - 1) : Int32).toInt := Int32.toInt_toInt64 _
              have : (1 : Int32).toInt = 1 := by decide
              have := i_sub (x := x4_61) (y := 1) (by omega) (by omega)
              show V X 11 [(m3, .inl (cI, 16, .inl mm)), (hy, .inr (10, [.ref m0, .ref m1, .ref m2, .ref m3, .ref m4, .ref m5, .ref m6, .ref m7, .ref m8, .ref m9, .int mw, .int ml, .int mb, .ref m10, .int mz, .ref m11, .int op2_25, .int bp, .int by0, .int dp, .int tk, .ref m12, .ref m13, .ref m14, .ref m15, .ref m16, .ref m17, .ref m18, .int ka, .int iw])), (m11, .inl (cI, 4, .inl tl2_25)), (m2, .inl (cI, 4, .inl ma)), (m4, .inl (cI, 4, .inl mg)), (m5, .inl (cI, 4, .inl mt)), (m7, .inl (cI, 6, .inl wf)), (m8, .inl (cI, 6, .inl wp)), (m9, .inl (cI, 6, .inl wt)), (m0, .inl (cI, 625, .inl ro)), (m1, .inl (cI, 65, .inl co)), (m12, .inl (cJ, 40625, .inr (.inl wy2_25))), (m14, .inl (cI, 203125, .inl cg2_25))] [(6, .int x6_61), (5, .int x5_61), (4, .int x4_61), (0, .ref hy), (1, .int se), (2, .int de), (3, .int i)] [.int r_132] 135 0 0
              refine x_if_ne C 151 dX10_shortest_135 (by decide) (fun c_135 => ?_) (fun c_135 => ?_)
              · skip
                have e_135 : ¬ ((r_132 : Int32).toInt = (0 : Int32).toInt) := fun h => c_135 (i_eq.mpr h)
                have : (0 : Int32).toInt = 0 := by decide
                have := t4_
                refine x_iconst C 0 dX10_shortest_151 (by decide) ?_
                refine x_istore C [(6, .int 0), (5, .int x5_61), (4, .int x4_61), (0, .ref hy), (1, .int se), (2, .int de), (3, .int i)] dX10_shortest_152 (by decide) rfl ?_
                refine x_iconst C 4 dX10_shortest_154 (by decide) ?_
                refine x_istore C [(7, .int 4), (6, .int 0), (5, .int x5_61), (4, .int x4_61), (0, .ref hy), (1, .int se), (2, .int de), (3, .int i)] dX10_shortest_155 (by decide) rfl ?_
                refine x_iconst C 0 dX10_shortest_157 (by decide) ?_
                refine x_istore C [(8, .int 0), (7, .int 4), (6, .int 0), (5, .int x5_61), (4, .int x4_61), (0, .ref hy), (1, .int se), (2, .int de), (3, .int i)] dX10_shortest_158 (by decide) rfl ?_
                refine x_iconst C 0 dX10_shortest_160 (by decide) ?_
                refine x_istore C [(9, .int 0), (8, .int 0), (7, .int 4), (6, .int 0), (5, .int x5_61), (4, .int x4_61), (0, .ref hy), (1, .int se), (2, .int de), (3, .int i)] dX10_shortest_161 (by decide) rfl ?_
                have L_163 : ∀ (n_163 : Nat) (x9_163 : Int32) (x8_163 : Int32) (x7_163 : Int32) (x6_163 : Int32) (ghy16_163 : Int32) (fm11_163 : Nat → Int32), (((0 ≤ x9_163.toInt ∧ x9_163.toInt ≤ i.toInt + 1) ∧ (0 ≤ x6_163.toInt ∧ x6_163.toInt < 40625) ∧ 0 ≤ x7_163.toInt ∧ x7_163.toInt ≤ 4) ∧ sm x6_163 = x9_163.toInt ∧ ¬ (wy2_25 (Int32.toNatClampNeg x6_163)).toInt = 0) → ((i.toInt + 1 - x9_163.toInt).toNat < n_163) → V X 11 [(m3, .inl (cI, 16, .inl mm)), (hy, .inr (10, [.ref m0, .ref m1, .ref m2, .ref m3, .ref m4, .ref m5, .ref m6, .ref m7, .ref m8, .ref m9, .int mw, .int ml, .int mb, .ref m10, .int mz, .ref m11, .int ghy16_163, .int bp, .int by0, .int dp, .int tk, .ref m12, .ref m13, .ref m14, .ref m15, .ref m16, .ref m17, .ref m18, .int ka, .int iw])), (m11, .inl (cI, 4, .inl fm11_163)), (m2, .inl (cI, 4, .inl ma)), (m4, .inl (cI, 4, .inl mg)), (m5, .inl (cI, 4, .inl mt)), (m7, .inl (cI, 6, .inl wf)), (m8, .inl (cI, 6, .inl wp)), (m9, .inl (cI, 6, .inl wt)), (m0, .inl (cI, 625, .inl ro)), (m1, .inl (cI, 65, .inl co)), (m12, .inl (cJ, 40625, .inr (.inl wy2_25))), (m14, .inl (cI, 203125, .inl cg2_25))] [(9, .int x9_163), (8, .int x8_163), (7, .int x7_163), (6, .int x6_163), (5, .int x5_61), (4, .int x4_61), (0, .ref hy), (1, .int se), (2, .int de), (3, .int i)] [] 163 0 0 := by
                  intro n_163
                  induction n_163 with
                  | zero =>
                    intro x9_163 x8_163 x7_163 x6_163 ghy16_163 fm11_163 i_163 m_163
                    exact absurd m_163 (Nat.not_lt_zero _)
                  | succ n_163 ih_163 =>
                    intro x9_163 x8_163 x7_163 x6_163 ghy16_163 fm11_163 i_163 m_163
                    refine x_iload C 0 dX10_shortest_163 rfl ?_
                    refine x_iload_n C 9 dX10_shortest_165 rfl rfl ?_
                    refine x_icmp_gt C 237 dX10_shortest_166 (by decide) (fun c_166 => ?_) (fun c_166 => ?_)
                    · skip
                      have e_166 : (i : Int32).toInt < (x9_163 : Int32).toInt := i_lt.mp c_166
                      refine x_bipush C 97 dX10_shortest_237 (by decide) ?_
                      refine x_iload C 1 dX10_shortest_239 rfl ?_
                      refine x_iadd C dX10_shortest_241 ?_
                      refine x_sub [(hy, .inr (10, [.ref m0, .ref m1, .ref m2, .ref m3, .ref m4, .ref m5, .ref m6, .ref m7, .ref m8, .ref m9, .int mw, .int ml, .int mb, .ref m10, .int mz, .ref m11, .int ghy16_163, .int bp, .int by0, .int dp, .int tk, .ref m12, .ref m13, .ref m14, .ref m15, .ref m16, .ref m17, .ref m18, .int ka, .int iw])), (m11, .inl (cI, 4, .inl fm11_163)), (m2, .inl (cI, 4, .inl ma)), (m4, .inl (cI, 4, .inl mg)), (m5, .inl (cI, 4, .inl mt)), (m7, .inl (cI, 6, .inl wf)), (m8, .inl (cI, 6, .inl wp)), (m9, .inl (cI, 6, .inl wt)), (m0, .inl (cI, 625, .inl ro)), (m1, .inl (cI, 65, .inl co)), (m12, .inl (cJ, 40625, .inr (.inl wy2_25))), (m14, .inl (cI, 203125, .inl cg2_25)), (m3, .inl (cI, 16, .inl mm))] [1, 2, 3, 4, 5, 6, 7, 8, 9, 10, 11, 12, 0] (by decide) rfl ?_
                      exact x_iret C dX10_shortest_242 (Nat.zero_le _) (Nat.zero_le _) (by rw [eO]; exact ⟨(97 + x8_163), fm11_163, ghy16_163, wy2_25, cg2_25, rfl, rfl, trivial⟩)
                    · skip
                      have e_166 : ¬ ((i : Int32).toInt < (x9_163 : Int32).toInt) := fun h => c_166 (i_lt.mpr h)
                      have i9 := ix5 (u := x6_163) (t := x7_163) (by omega) (by omega) (by omega)
                      have cb9 := wy_cb (h_25.1 x6_163 (by omega) (by omega)) i_163.2.2
                      have g9 := cb9.gd hpa hR.1 (show 0 ≤ x6_163.toInt by omega)
                      have w9 : ¬ WH ma (tds x6_163) se := fun h => by have := wh_pt (by omega) cb9 h; omega
                      have k9 := ch_ok (mb := mb) hpa hR hte h_25.1 h_25.2 (16 - x9_163.toInt).toNat x6_163 (by omega) (by omega) (by have := sm_rng (a := x6_163) (by omega); omega) i_163.2.2 x7_163 (by omega) (by omega)
                      have d9 : ∃ y : Int32, (0 : Int32).toInt ≤ y.toInt ∧ y.toInt ≤ 3 ∧ cbF (fun s => nxF ma mg mt wf wp wt mw ml co ro x6_163 s se de 0) mt mb wy2_25 cg2_25 x7_163 y = cg2_25 (Int32.toNatClampNeg (5 * x6_163 + x7_163)) := by
                        obtain ⟨y, y1, y2⟩ := k9.2 w9
                        exact ⟨y, by rw [t0_]; exact y1.1, y1.2, y2⟩
                      refine x_aload_n C 6 dX10_shortest_169 rfl rfl ?_
                      refine x_get C 1 23 dX10_shortest_170 inlX10 rfl (by decide) wd_138 rfl rfl rfl ?_
                      refine x_iconst C 5 dX10_shortest_173 (by decide) ?_
                      refine x_iload C 3 dX10_shortest_174 rfl ?_
                      refine x_imul C dX10_shortest_176 ?_
                      refine x_iload C 2 dX10_shortest_177 rfl ?_
                      refine x_iadd C dX10_shortest_179 ?_
                      have v_180 : vp_in ((5 * x6_163) + x7_163) 203125 := (vp_in_iff.mpr (by omega))
                      refine x_iald C 12 0 dX10_shortest_180 hT.1 rfl v_180 ?_
                      refine x_istore C [(10, .int (cg2_25 (Int32.toNatClampNeg ((5 * x6_163) + x7_163)))), (9, .int x9_163), (8, .int x8_163), (7, .int x7_163), (6, .int x6_163), (5, .int x5_61), (4, .int x4_61), (0, .ref hy), (1, .int se), (2, .int de), (3, .int i)] dX10_shortest_181 (by decide) rfl ?_
                      refine x_iconst C 0 dX10_shortest_183 (by decide) ?_
                      refine x_istore C [(8, .int 0), (10, .int (cg2_25 (Int32.toNatClampNeg ((5 * x6_163) + x7_163)))), (9, .int x9_163), (7, .int x7_163), (6, .int x6_163), (5, .int x5_61), (4, .int x4_61), (0, .ref hy), (1, .int se), (2, .int de), (3, .int i)] dX10_shortest_184 (by decide) rfl ?_
                      have L_186 : ∀ (n_186 : Nat) (x8_186 : Int32) (ghy16_186 : Int32) (fm11_186 : Nat → Int32), (0 ≤ x8_186.toInt ∧ ∃ y : Int32, x8_186.toInt ≤ y.toInt ∧ y.toInt ≤ 3 ∧ cbF (fun s => nxF ma mg mt wf wp wt mw ml co ro x6_163 s se de 0) mt mb wy2_25 cg2_25 x7_163 y = cg2_25 (Int32.toNatClampNeg (5 * x6_163 + x7_163))) → ((4 - x8_186.toInt).toNat < n_186) → V X 11 [(m3, .inl (cI, 16, .inl mm)), (hy, .inr (10, [.ref m0, .ref m1, .ref m2, .ref m3, .ref m4, .ref m5, .ref m6, .ref m7, .ref m8, .ref m9, .int mw, .int ml, .int mb, .ref m10, .int mz, .ref m11, .int ghy16_186, .int bp, .int by0, .int dp, .int tk, .ref m12, .ref m13, .ref m14, .ref m15, .ref m16, .ref m17, .ref m18, .int ka, .int iw])), (m11, .inl (cI, 4, .inl fm11_186)), (m2, .inl (cI, 4, .inl ma)), (m4, .inl (cI, 4, .inl mg)), (m5, .inl (cI, 4, .inl mt)), (m7, .inl (cI, 6, .inl wf)), (m8, .inl (cI, 6, .inl wp)), (m9, .inl (cI, 6, .inl wt)), (m0, .inl (cI, 625, .inl ro)), (m1, .inl (cI, 65, .inl co)), (m12, .inl (cJ, 40625, .inr (.inl wy2_25))), (m14, .inl (cI, 203125, .inl cg2_25))] [(8, .int x8_186), (10, .int (cg2_25 (Int32.toNatClampNeg ((5 * x6_163) + x7_163)))), (9, .int x9_163), (7, .int x7_163), (6, .int x6_163), (5, .int x5_61), (4, .int x4_61), (0, .ref hy), (1, .int se), (2, .int de), (3, .int i)] [] 186 0 0 := by
                        intro n_186
                        induction n_186 with
                        | zero =>
                          intro x8_186 ghy16_186 fm11_186 i_186 m_186
                          exact absurd m_186 (Nat.not_lt_zero _)
                        | succ n_186 ih_186 =>
                          intro x8_186 ghy16_186 fm11_186 i_186 m_186
                          have z9 : x8_186.toInt ≤ 3 := by
                            obtain ⟨y, y1, y2, _⟩ := i_186.2
                            omega
                          refine x_aload_n C 7 dX10_shortest_186 rfl rfl ?_
                          refine x_iload C 4 dX10_shortest_187 rfl ?_
                          refine x_iload C 3 dX10_shortest_189 rfl ?_
                          refine x_iload C 0 dX10_shortest_191 rfl ?_
                          refine x_iload_n C 8 dX10_shortest_193 rfl rfl ?_
                          refine x_iload_n C 9 dX10_shortest_194 rfl rfl ?_
                          refine x_callV C [.int x6_163, .int x7_163, .int x8_186, .int se, .int de] [(m3, .inl (cI, 16, .inl mm))] [1, 2, 3, 4, 5, 6, 7, 8, 9, 10, 11, 12] [0] (q0 := 0) (c_X10_changesBy (xl X) (xD X) (xt X) hT hy m0 m1 m2 m3 m4 m5 m6 m7 m8 m9 m10 m11 m12 m13 m14 m15 m16 m17 m18 fm11_186 ma mg mt wf wp wt ro co cg2_25 wy2_25 mw ml mb mz ghy16_186 bp by0 dp tk ka iw x6_163 x7_163 x8_186 se de (by omega) hR g9 (by omega) hmw hwt hte) dX10_shortest_195 wd_647 wd_648 wd_649 wd_5 wd_650 (np := 5) ⟨by decide, by decide, by decide +kernel⟩ rfl rfl (Nat.le_of_ble_eq_true rfl) (by decide) rfl rfl rfl rfl (by decide) rfl (by decide) (by decide) (fun v W1 h => ?_)
                          obtain ⟨tl2_195, op2_195, rfl, rfl, h_195⟩ := h
                          show V X 11 [(m3, .inl (cI, 16, .inl mm)), (hy, .inr (10, [.ref m0, .ref m1, .ref m2, .ref m3, .ref m4, .ref m5, .ref m6, .ref m7, .ref m8, .ref m9, .int mw, .int ml, .int mb, .ref m10, .int mz, .ref m11, .int op2_195, .int bp, .int by0, .int dp, .int tk, .ref m12, .ref m13, .ref m14, .ref m15, .ref m16, .ref m17, .ref m18, .int ka, .int iw])), (m11, .inl (cI, 4, .inl tl2_195)), (m2, .inl (cI, 4, .inl ma)), (m4, .inl (cI, 4, .inl mg)), (m5, .inl (cI, 4, .inl mt)), (m7, .inl (cI, 6, .inl wf)), (m8, .inl (cI, 6, .inl wp)), (m9, .inl (cI, 6, .inl wt)), (m0, .inl (cI, 625, .inl ro)), (m1, .inl (cI, 65, .inl co)), (m12, .inl (cJ, 40625, .inr (.inl wy2_25))), (m14, .inl (cI, 203125, .inl cg2_25))] [(8, .int x8_186), (10, .int (cg2_25 (Int32.toNatClampNeg ((5 * x6_163) + x7_163)))), (9, .int x9_163), (7, .int x7_163), (6, .int x6_163), (5, .int x5_61), (4, .int x4_61), (0, .ref hy), (1, .int se), (2, .int de), (3, .int i)] [.int (cbF (fun x8_186 => nxF ma mg mt wf wp wt mw ml co ro x6_163 x8_186 se de 0) mt mb wy2_25 cg2_25 x7_163 x8_186)] 198 0 0
                          refine x_iload C 1 dX10_shortest_198 rfl ?_
                          refine x_icmp_eq C 209 dX10_shortest_200 (by decide) (fun c_200 => ?_) (fun c_200 => ?_)
                          · skip
                            have e_200 : (cbF (fun x8_186 => nxF ma mg mt wf wp wt mw ml co ro x6_163 x8_186 se de 0) mt mb wy2_25 cg2_25 x7_163 x8_186 : Int32).toInt = (cg2_25 (Int32.toNatClampNeg ((5 * x6_163) + x7_163)) : Int32).toInt := i_eq.mp c_200
                            have c9 := cb_nx (nx := fun s => nxF ma mg mt wf wp wt mw ml co ro x6_163 s se de 0) (mt := mt) (mb := mb) (wy := wy2_25) (cg := cg2_25) (l := x7_163) (s := x8_186) (by rw [c_200]; exact k9.1.1)
                            have n9 := nx_ok hR (by omega) g9 (by omega) c9.1
                            have n8 := And.intro n9.2.2 c9.2
                            have u9 := n9.1
                            have u8 := n9.2.2
                            have u7 := i_163.2.1
                            refine x_aload_n C 7 dX10_shortest_209 rfl rfl ?_
                            refine x_iload C 4 dX10_shortest_210 rfl ?_
                            refine x_iload C 0 dX10_shortest_212 rfl ?_
                            refine x_iload_n C 8 dX10_shortest_214 rfl rfl ?_
                            refine x_iload_n C 9 dX10_shortest_215 rfl rfl ?_
                            refine x_iconst C 0 dX10_shortest_216 (by decide) ?_
                            refine x_callV C [.int x6_163, .int x8_186, .int se, .int de, .int 0] [(m3, .inl (cI, 16, .inl mm)), (m12, .inl (cJ, 40625, .inr (.inl wy2_25))), (m14, .inl (cI, 203125, .inl cg2_25))] [1, 2, 3, 4, 5, 6, 7, 8, 9, 10] [0, 11, 12] (q0 := 0) (c_X10_nextOf (xl X) (xD X) (xt X) hT hy m0 m1 m2 m3 m4 m5 m6 m7 m8 m9 m10 m11 m12 m13 m14 m15 m16 m17 m18 tl2_195 ma mg mt wf wp wt ro co mw ml mb mz op2_195 bp by0 dp tk ka iw x6_163 x8_186 se de 0 (by omega) hR g9 (by omega) hmw hwt) dX10_shortest_217 wd_587 wd_588 wd_589 wd_5 wd_590 (np := 5) ⟨by decide, by decide, by decide +kernel⟩ rfl rfl (Nat.le_of_ble_eq_true rfl) (by decide) rfl rfl rfl rfl (by decide) rfl (by decide) (by decide) (fun v W1 h => ?_)
                            obtain ⟨tl2_217, op2_217, rfl, rfl, h_217⟩ := h
                            have : (0 : Int32).toInt = 0 := by decide
                            show V X 11 [(m3, .inl (cI, 16, .inl mm)), (m12, .inl (cJ, 40625, .inr (.inl wy2_25))), (m14, .inl (cI, 203125, .inl cg2_25)), (hy, .inr (10, [.ref m0, .ref m1, .ref m2, .ref m3, .ref m4, .ref m5, .ref m6, .ref m7, .ref m8, .ref m9, .int mw, .int ml, .int mb, .ref m10, .int mz, .ref m11, .int op2_217, .int bp, .int by0, .int dp, .int tk, .ref m12, .ref m13, .ref m14, .ref m15, .ref m16, .ref m17, .ref m18, .int ka, .int iw])), (m11, .inl (cI, 4, .inl tl2_217)), (m2, .inl (cI, 4, .inl ma)), (m4, .inl (cI, 4, .inl mg)), (m5, .inl (cI, 4, .inl mt)), (m7, .inl (cI, 6, .inl wf)), (m8, .inl (cI, 6, .inl wp)), (m9, .inl (cI, 6, .inl wt)), (m0, .inl (cI, 625, .inl ro)), (m1, .inl (cI, 65, .inl co))] [(8, .int x8_186), (10, .int (cg2_25 (Int32.toNatClampNeg ((5 * x6_163) + x7_163)))), (9, .int x9_163), (7, .int x7_163), (6, .int x6_163), (5, .int x5_61), (4, .int x4_61), (0, .ref hy), (1, .int se), (2, .int de), (3, .int i)] [.int (nxF ma mg mt wf wp wt mw ml co ro x6_163 x8_186 se de 0)] 220 0 0
                            refine x_istore C [(6, .int (nxF ma mg mt wf wp wt mw ml co ro x6_163 x8_186 se de 0)), (8, .int x8_186), (10, .int (cg2_25 (Int32.toNatClampNeg ((5 * x6_163) + x7_163)))), (9, .int x9_163), (7, .int x7_163), (5, .int x5_61), (4, .int x4_61), (0, .ref hy), (1, .int se), (2, .int de), (3, .int i)] dX10_shortest_220 (by decide) rfl ?_
                            refine x_aload_n C 7 dX10_shortest_222 rfl rfl ?_
                            refine x_get C 3 5 dX10_shortest_223 inlX10 rfl (by decide) wd_127 rfl rfl rfl ?_
                            refine x_iload C 1 dX10_shortest_226 rfl ?_
                            have v_228 : vp_in x8_186 4 := (vp_in_iff.mpr (by omega))
                            refine x_iald C 7 0 dX10_shortest_228 hT.1 rfl v_228 ?_
                            have a_228 := hte.at v_228
                            refine x_istore C [(7, .int (mt (Int32.toNatClampNeg x8_186))), (6, .int (nxF ma mg mt wf wp wt mw ml co ro x6_163 x8_186 se de 0)), (8, .int x8_186), (10, .int (cg2_25 (Int32.toNatClampNeg ((5 * x6_163) + x7_163)))), (9, .int x9_163), (5, .int x5_61), (4, .int x4_61), (0, .ref hy), (1, .int se), (2, .int de), (3, .int i)] dX10_shortest_229 (by decide) rfl ?_
                            refine x_iinc C 4 (x9_163 + 1) [(9, .int (x9_163 + 1)), (7, .int (mt (Int32.toNatClampNeg x8_186))), (6, .int (nxF ma mg mt wf wp wt mw ml co ro x6_163 x8_186 se de 0)), (8, .int x8_186), (10, .int (cg2_25 (Int32.toNatClampNeg ((5 * x6_163) + x7_163)))), (5, .int x5_61), (4, .int x4_61), (0, .ref hy), (1, .int se), (2, .int de), (3, .int i)] dX10_shortest_231 rfl rfl (by decide) rfl ?_
                            refine x_goto C 163 dX10_shortest_234 (by decide) ?_
                            refine x_sub [(m3, .inl (cI, 16, .inl mm)), (hy, .inr (10, [.ref m0, .ref m1, .ref m2, .ref m3, .ref m4, .ref m5, .ref m6, .ref m7, .ref m8, .ref m9, .int mw, .int ml, .int mb, .ref m10, .int mz, .ref m11, .int op2_217, .int bp, .int by0, .int dp, .int tk, .ref m12, .ref m13, .ref m14, .ref m15, .ref m16, .ref m17, .ref m18, .int ka, .int iw])), (m11, .inl (cI, 4, .inl tl2_217)), (m2, .inl (cI, 4, .inl ma)), (m4, .inl (cI, 4, .inl mg)), (m5, .inl (cI, 4, .inl mt)), (m7, .inl (cI, 6, .inl wf)), (m8, .inl (cI, 6, .inl wp)), (m9, .inl (cI, 6, .inl wt)), (m0, .inl (cI, 625, .inl ro)), (m1, .inl (cI, 65, .inl co)), (m12, .inl (cJ, 40625, .inr (.inl wy2_25))), (m14, .inl (cI, 203125, .inl cg2_25))] [0, 3, 4, 5, 6, 7, 8, 9, 10, 11, 12, 1, 2] (by decide) rfl ?_
                            refine x_lv [(9, .int (x9_163 + 1)), (8, .int x8_186), (7, .int (mt (Int32.toNatClampNeg x8_186))), (6, .int (nxF ma mg mt wf wp wt mw ml co ro x6_163 x8_186 se de 0)), (5, .int x5_61), (4, .int x4_61), (0, .ref hy), (1, .int se), (2, .int de), (3, .int i)] [0, 3, 1, 2, 5, 6, 7, 8, 9, 10] rfl ?_
                            have : (1 : Int32).toInt = 1 := by decide
                            have := i_add (x := x9_163) (y := 1) (by omega) (by omega)
                            exact ih_163 (x9_163 + 1) x8_186 (mt (Int32.toNatClampNeg x8_186)) (nxF ma mg mt wf wp wt mw ml co ro x6_163 x8_186 se de 0) op2_217 tl2_217 ⟨by omega, by omega, n8.2⟩ (by omega)
                          · skip
                            have e_200 : ¬ ((cbF (fun x8_186 => nxF ma mg mt wf wp wt mw ml co ro x6_163 x8_186 se de 0) mt mb wy2_25 cg2_25 x7_163 x8_186 : Int32).toInt = (cg2_25 (Int32.toNatClampNeg ((5 * x6_163) + x7_163)) : Int32).toInt) := fun h => c_200 (i_eq.mpr h)
                            have e9 : ∃ y : Int32, (x8_186 + 1).toInt ≤ y.toInt ∧ y.toInt ≤ 3 ∧ cbF (fun s => nxF ma mg mt wf wp wt mw ml co ro x6_163 s se de 0) mt mb wy2_25 cg2_25 x7_163 y = cg2_25 (Int32.toNatClampNeg (5 * x6_163 + x7_163)) := by
                              obtain ⟨y, y1, y2, y3⟩ := i_186.2
                              refine ⟨y, ?_, y2, y3⟩
                              have : ¬ y.toInt = x8_186.toInt := fun h => c_200 (by rw [← i_eq.mpr h]; exact y3)
                              have := t1_
                              have := i_add (x := x8_186) (y := 1) (by omega) (by omega)
                              omega
                            refine x_iinc C 0 (x8_186 + 1) [(8, .int (x8_186 + 1)), (10, .int (cg2_25 (Int32.toNatClampNeg ((5 * x6_163) + x7_163)))), (9, .int x9_163), (7, .int x7_163), (6, .int x6_163), (5, .int x5_61), (4, .int x4_61), (0, .ref hy), (1, .int se), (2, .int de), (3, .int i)] dX10_shortest_203 rfl rfl (by decide) rfl ?_
                            refine x_goto C 186 dX10_shortest_206 (by decide) ?_
                            have : (1 : Int32).toInt = 1 := by decide
                            have := i_add (x := x8_186) (y := 1) (by omega) (by omega)
                            exact ih_186 (x8_186 + 1) op2_195 tl2_195 ⟨by omega, e9⟩ (by omega)
                      have : (0 : Int32).toInt = 0 := by decide
                      exact L_186 _ 0 ghy16_163 fm11_163 ⟨by omega, d9⟩ (Nat.lt_succ_self _)
                have : (0 : Int32).toInt = 0 := by decide
                have : (4 : Int32).toInt = 4 := by decide
                have : (0 : Int32).toInt = 0 := by decide
                exact L_163 _ 0 0 4 0 op2_25 tl2_25 ⟨by omega, by rw [sm_fs (by omega), t0_]; rfl, by omega⟩ (Nat.lt_succ_self _)
              · skip
                have e_135 : (r_132 : Int32).toInt = (0 : Int32).toInt := i_eq.mp c_135
                have : (0 : Int32).toInt = 0 := by decide
                refine x_iload_n C 6 dX10_shortest_138 rfl rfl ?_
                refine x_iconst C (-1) dX10_shortest_139 (by decide) ?_
                refine x_icmp_ne C 148 dX10_shortest_140 (by decide) (fun c_140 => ?_) (fun c_140 => ?_)
                · skip
                  have e_140 : ¬ ((i : Int32).toInt = ((-1) : Int32).toInt) := fun h => c_140 (i_eq.mpr h)
                  have : ((-1) : Int32).toInt = -1 := by decide
                  refine x_bipush C (-6) dX10_shortest_148 (by decide) ?_
                  refine x_sub [(hy, .inr (10, [.ref m0, .ref m1, .ref m2, .ref m3, .ref m4, .ref m5, .ref m6, .ref m7, .ref m8, .ref m9, .int mw, .int ml, .int mb, .ref m10, .int mz, .ref m11, .int op2_25, .int bp, .int by0, .int dp, .int tk, .ref m12, .ref m13, .ref m14, .ref m15, .ref m16, .ref m17, .ref m18, .int ka, .int iw])), (m11, .inl (cI, 4, .inl tl2_25)), (m2, .inl (cI, 4, .inl ma)), (m4, .inl (cI, 4, .inl mg)), (m5, .inl (cI, 4, .inl mt)), (m7, .inl (cI, 6, .inl wf)), (m8, .inl (cI, 6, .inl wp)), (m9, .inl (cI, 6, .inl wt)), (m0, .inl (cI, 625, .inl ro)), (m1, .inl (cI, 65, .inl co)), (m12, .inl (cJ, 40625, .inr (.inl wy2_25))), (m14, .inl (cI, 203125, .inl cg2_25)), (m3, .inl (cI, 16, .inl mm))] [1, 2, 3, 4, 5, 6, 7, 8, 9, 10, 11, 12, 0] (by decide) rfl ?_
                  have : ((-6) : Int32).toInt = -6 := by decide
                  exact x_iret C dX10_shortest_150 (Nat.zero_le _) (Nat.zero_le _) (by rw [eO]; exact ⟨((-6)), tl2_25, op2_25, wy2_25, cg2_25, rfl, rfl, trivial⟩)
                · skip
                  have e_140 : (i : Int32).toInt = ((-1) : Int32).toInt := i_eq.mp c_140
                  have : ((-1) : Int32).toInt = -1 := by decide
                  refine x_iload C 1 dX10_shortest_143 rfl ?_
                  refine x_goto C 150 dX10_shortest_145 (by decide) ?_
                  refine x_sub [(hy, .inr (10, [.ref m0, .ref m1, .ref m2, .ref m3, .ref m4, .ref m5, .ref m6, .ref m7, .ref m8, .ref m9, .int mw, .int ml, .int mb, .ref m10, .int mz, .ref m11, .int op2_25, .int bp, .int by0, .int dp, .int tk, .ref m12, .ref m13, .ref m14, .ref m15, .ref m16, .ref m17, .ref m18, .int ka, .int iw])), (m11, .inl (cI, 4, .inl tl2_25)), (m2, .inl (cI, 4, .inl ma)), (m4, .inl (cI, 4, .inl mg)), (m5, .inl (cI, 4, .inl mt)), (m7, .inl (cI, 6, .inl wf)), (m8, .inl (cI, 6, .inl wp)), (m9, .inl (cI, 6, .inl wt)), (m0, .inl (cI, 625, .inl ro)), (m1, .inl (cI, 65, .inl co)), (m12, .inl (cJ, 40625, .inr (.inl wy2_25))), (m14, .inl (cI, 203125, .inl cg2_25)), (m3, .inl (cI, 16, .inl mm))] [1, 2, 3, 4, 5, 6, 7, 8, 9, 10, 11, 12, 0] (by decide) rfl ?_
                  exact x_iret C dX10_shortest_150 (Nat.zero_le _) (Nat.zero_le _) (by rw [eO]; exact ⟨x5_61, tl2_25, op2_25, wy2_25, cg2_25, rfl, rfl, trivial⟩)
            · skip
              have e_64 : ¬ ((4 : Int32).toInt ≤ (x6_61 : Int32).toInt) := fun h => c_64 (i_le.mpr h)
              have : (4 : Int32).toInt = 4 := by decide
              refine x_iload C 2 dX10_shortest_67 rfl ?_
              refine x_iload_n C 4 dX10_shortest_69 rfl rfl ?_
              refine x_iload C 0 dX10_shortest_70 rfl ?_
              refine x_ishr C dX10_shortest_72 ?_
              refine x_iconst C 1 dX10_shortest_73 (by decide) ?_
              refine x_iand C dX10_shortest_74 ?_
              refine x_iconst C 1 dX10_shortest_75 (by decide) ?_
              refine x_icmp_ne C 89 dX10_shortest_76 (by decide) (fun c_76 => ?_) (fun c_76 => ?_)
              · skip
                have e_76 : ¬ (((se >>> (x6_61 &&& 31)) &&& 1 : Int32).toInt = (1 : Int32).toInt) := fun h => c_76 (i_eq.mpr h)
                have : (1 : Int32).toInt = 1 := by decide
                refine x_iconst C 0 dX10_shortest_89 (by decide) ?_
                refine x_iadd C dX10_shortest_90 ?_
                refine x_istore C [(4, .int (x4_61 + 0)), (6, .int x6_61), (5, .int x5_61), (0, .ref hy), (1, .int se), (2, .int de), (3, .int i)] dX10_shortest_91 (by decide) rfl ?_
                refine x_iload C 2 dX10_shortest_93 rfl ?_
                refine x_iload_n C 4 dX10_shortest_95 rfl rfl ?_
                refine x_iload C 1 dX10_shortest_96 rfl ?_
                refine x_ishr C dX10_shortest_98 ?_
                refine x_iconst C 1 dX10_shortest_99 (by decide) ?_
                refine x_iand C dX10_shortest_100 ?_
                refine x_iconst C 1 dX10_shortest_101 (by decide) ?_
                refine x_icmp_ne C 114 dX10_shortest_102 (by decide) (fun c_102 => ?_) (fun c_102 => ?_)
                · skip
                  have e_102 : ¬ (((se >>> (x6_61 &&& 31)) &&& 1 : Int32).toInt = (1 : Int32).toInt) := fun h => c_102 (i_eq.mpr h)
                  have : (1 : Int32).toInt = 1 := by decide
                  refine x_iconst C 0 dX10_shortest_114 (by decide) ?_
                  refine x_iadd C dX10_shortest_115 ?_
                  refine x_istore C [(5, .int (x5_61 + 0)), (4, .int (x4_61 + 0)), (6, .int x6_61), (0, .ref hy), (1, .int se), (2, .int de), (3, .int i)] dX10_shortest_116 (by decide) rfl ?_
                  refine x_iinc C 2 (x6_61 + 1) [(6, .int (x6_61 + 1)), (5, .int (x5_61 + 0)), (4, .int (x4_61 + 0)), (0, .ref hy), (1, .int se), (2, .int de), (3, .int i)] dX10_shortest_118 rfl rfl (by decide) rfl ?_
                  refine x_goto C 61 dX10_shortest_121 (by decide) ?_
                  have : (0 : Int32).toInt = 0 := by decide
                  have := i_add (x := x4_61) (y := 0) (by omega) (by omega)
                  have : (1 : Int32).toInt = 1 := by decide
                  have := i_add (x := x6_61) (y := 1) (by omega) (by omega)
                  have : (0 : Int32).toInt = 0 := by decide
                  have := i_add (x := x4_61) (y := 0) (by omega) (by omega)
                  exact ih_61 (x6_61 + 1) (x5_61 + 0) (x4_61 + 0) ⟨by omega, by rw [pt_f (x := x6_61) (by omega) (by omega) (by omega)]; omega, by omega⟩ (by omega)
                · skip
                  have e_102 : ((se >>> (x6_61 &&& 31)) &&& 1 : Int32).toInt = (1 : Int32).toInt := i_eq.mp c_102
                  have : (1 : Int32).toInt = 1 := by decide
                  refine x_aload_n C 3 dX10_shortest_105 rfl rfl ?_
                  refine x_iload C 1 dX10_shortest_106 rfl ?_
                  refine x_callV C [.int x6_61] [(m11, .inl (cI, 4, .inl tl2_25)), (m4, .inl (cI, 4, .inl mg)), (m5, .inl (cI, 4, .inl mt)), (m7, .inl (cI, 6, .inl wf)), (m8, .inl (cI, 6, .inl wp)), (m9, .inl (cI, 6, .inl wt)), (m0, .inl (cI, 625, .inl ro)), (m1, .inl (cI, 65, .inl co)), (m12, .inl (cJ, 40625, .inr (.inl wy2_25))), (m14, .inl (cI, 203125, .inl cg2_25))] [1, 3, 0] [2, 4, 5, 6, 7, 8, 9, 10, 11, 12] (q0 := 0) (c_X10_lengthOf (xl X) (xD X) (xt X) hT hy m0 m1 m2 m3 m4 m5 m6 m7 m8 m9 m10 m11 m12 m13 m14 m15 m16 m17 m18 ma mm mw ml mb mz op2_25 bp by0 dp tk ka iw x6_61 (by omega) hpa) dX10_shortest_108 wd_288 wd_289 wd_290 wd_5 wd_291 (np := 1) ⟨by decide, by decide, by decide +kernel⟩ rfl rfl (Nat.le_of_ble_eq_true rfl) (by decide) rfl rfl rfl rfl (by decide) rfl (by decide) (by decide) (fun v W1 h => ?_)
                  obtain ⟨r_108, rfl, rfl, h_108⟩ := h
                  show V X 11 [(m11, .inl (cI, 4, .inl tl2_25)), (m4, .inl (cI, 4, .inl mg)), (m5, .inl (cI, 4, .inl mt)), (m7, .inl (cI, 6, .inl wf)), (m8, .inl (cI, 6, .inl wp)), (m9, .inl (cI, 6, .inl wt)), (m0, .inl (cI, 625, .inl ro)), (m1, .inl (cI, 65, .inl co)), (m12, .inl (cJ, 40625, .inr (.inl wy2_25))), (m14, .inl (cI, 203125, .inl cg2_25)), (hy, .inr (10, [.ref m0, .ref m1, .ref m2, .ref m3, .ref m4, .ref m5, .ref m6, .ref m7, .ref m8, .ref m9, .int mw, .int ml, .int mb, .ref m10, .int mz, .ref m11, .int op2_25, .int bp, .int by0, .int dp, .int tk, .ref m12, .ref m13, .ref m14, .ref m15, .ref m16, .ref m17, .ref m18, .int ka, .int iw])), (m2, .inl (cI, 4, .inl ma)), (m3, .inl (cI, 16, .inl mm))] [(4, .int (x4_61 + 0)), (6, .int x6_61), (5, .int x5_61), (0, .ref hy), (1, .int se), (2, .int de), (3, .int i)] [.int r_108, .int x5_61] 111 0 0
                  refine x_goto C 115 dX10_shortest_111 (by decide) ?_
                  refine x_iadd C dX10_shortest_115 ?_
                  refine x_istore C [(5, .int (x5_61 + r_108)), (4, .int (x4_61 + 0)), (6, .int x6_61), (0, .ref hy), (1, .int se), (2, .int de), (3, .int i)] dX10_shortest_116 (by decide) rfl ?_
                  refine x_iinc C 2 (x6_61 + 1) [(6, .int (x6_61 + 1)), (5, .int (x5_61 + r_108)), (4, .int (x4_61 + 0)), (0, .ref hy), (1, .int se), (2, .int de), (3, .int i)] dX10_shortest_118 rfl rfl (by decide) rfl ?_
                  refine x_goto C 61 dX10_shortest_121 (by decide) ?_
                  refine x_sub [(m3, .inl (cI, 16, .inl mm)), (hy, .inr (10, [.ref m0, .ref m1, .ref m2, .ref m3, .ref m4, .ref m5, .ref m6, .ref m7, .ref m8, .ref m9, .int mw, .int ml, .int mb, .ref m10, .int mz, .ref m11, .int op2_25, .int bp, .int by0, .int dp, .int tk, .ref m12, .ref m13, .ref m14, .ref m15, .ref m16, .ref m17, .ref m18, .int ka, .int iw])), (m11, .inl (cI, 4, .inl tl2_25)), (m2, .inl (cI, 4, .inl ma)), (m4, .inl (cI, 4, .inl mg)), (m5, .inl (cI, 4, .inl mt)), (m7, .inl (cI, 6, .inl wf)), (m8, .inl (cI, 6, .inl wp)), (m9, .inl (cI, 6, .inl wt)), (m0, .inl (cI, 625, .inl ro)), (m1, .inl (cI, 65, .inl co)), (m12, .inl (cJ, 40625, .inr (.inl wy2_25))), (m14, .inl (cI, 203125, .inl cg2_25))] [12, 10, 0, 11, 1, 2, 3, 4, 5, 6, 7, 8, 9] (by decide) rfl ?_
                  have : (0 : Int32).toInt = 0 := by decide
                  have := i_add (x := x4_61) (y := 0) (by omega) (by omega)
                  have : (1 : Int32).toInt = 1 := by decide
                  have := i_add (x := x6_61) (y := 1) (by omega) (by omega)
                  have : (0 : Int32).toInt = 0 := by decide
                  have := i_add (x := x4_61) (y := 0) (by omega) (by omega)
                  exact ih_61 (x6_61 + 1) (x5_61 + r_108) (x4_61 + 0) ⟨by omega, by rw [pt_f (x := x6_61) (by omega) (by omega) (by omega)]; omega, by omega⟩ (by omega)
              · skip
                have e_76 : ((se >>> (x6_61 &&& 31)) &&& 1 : Int32).toInt = (1 : Int32).toInt := i_eq.mp c_76
                have : (1 : Int32).toInt = 1 := by decide
                refine x_aload_n C 3 dX10_shortest_79 rfl rfl ?_
                refine x_get C 1 2 dX10_shortest_80 inlX10 rfl (by decide) wd_124 rfl rfl rfl ?_
                refine x_iload C 0 dX10_shortest_83 rfl ?_
                have v_85 : vp_in x6_61 4 := (vp_in_iff.mpr (by omega))
                refine x_iald C 3 0 dX10_shortest_85 hT.1 rfl v_85 ?_
                have a_85 := hpa.at v_85
                refine x_goto C 90 dX10_shortest_86 (by decide) ?_
                refine x_iadd C dX10_shortest_90 ?_
                refine x_istore C [(4, .int (x4_61 + (ma (Int32.toNatClampNeg x6_61)))), (6, .int x6_61), (5, .int x5_61), (0, .ref hy), (1, .int se), (2, .int de), (3, .int i)] dX10_shortest_91 (by decide) rfl ?_
                refine x_iload C 2 dX10_shortest_93 rfl ?_
                refine x_iload_n C 4 dX10_shortest_95 rfl rfl ?_
                refine x_iload C 1 dX10_shortest_96 rfl ?_
                refine x_ishr C dX10_shortest_98 ?_
                refine x_iconst C 1 dX10_shortest_99 (by decide) ?_
                refine x_iand C dX10_shortest_100 ?_
                refine x_iconst C 1 dX10_shortest_101 (by decide) ?_
                refine x_icmp_ne C 114 dX10_shortest_102 (by decide) (fun c_102 => ?_) (fun c_102 => ?_)
                · skip
                  have e_102 : ¬ (((se >>> (x6_61 &&& 31)) &&& 1 : Int32).toInt = (1 : Int32).toInt) := fun h => c_102 (i_eq.mpr h)
                  have : (1 : Int32).toInt = 1 := by decide
                  refine x_iconst C 0 dX10_shortest_114 (by decide) ?_
                  refine x_iadd C dX10_shortest_115 ?_
                  refine x_istore C [(5, .int (x5_61 + 0)), (4, .int (x4_61 + (ma (Int32.toNatClampNeg x6_61)))), (6, .int x6_61), (0, .ref hy), (1, .int se), (2, .int de), (3, .int i)] dX10_shortest_116 (by decide) rfl ?_
                  refine x_iinc C 2 (x6_61 + 1) [(6, .int (x6_61 + 1)), (5, .int (x5_61 + 0)), (4, .int (x4_61 + (ma (Int32.toNatClampNeg x6_61)))), (0, .ref hy), (1, .int se), (2, .int de), (3, .int i)] dX10_shortest_118 rfl rfl (by decide) rfl ?_
                  refine x_goto C 61 dX10_shortest_121 (by decide) ?_
                  have := i_add (x := x4_61) (y := (ma (Int32.toNatClampNeg x6_61))) (by omega) (by omega)
                  have : (1 : Int32).toInt = 1 := by decide
                  have := i_add (x := x6_61) (y := 1) (by omega) (by omega)
                  exact ih_61 (x6_61 + 1) (x5_61 + 0) (x4_61 + (ma (Int32.toNatClampNeg x6_61))) ⟨by omega, by rw [pt_t (x := x6_61) (by omega) (by omega) (by omega)]; omega, by omega⟩ (by omega)
                · skip
                  have e_102 : ((se >>> (x6_61 &&& 31)) &&& 1 : Int32).toInt = (1 : Int32).toInt := i_eq.mp c_102
                  have : (1 : Int32).toInt = 1 := by decide
                  refine x_aload_n C 3 dX10_shortest_105 rfl rfl ?_
                  refine x_iload C 1 dX10_shortest_106 rfl ?_
                  refine x_callV C [.int x6_61] [(m11, .inl (cI, 4, .inl tl2_25)), (m4, .inl (cI, 4, .inl mg)), (m5, .inl (cI, 4, .inl mt)), (m7, .inl (cI, 6, .inl wf)), (m8, .inl (cI, 6, .inl wp)), (m9, .inl (cI, 6, .inl wt)), (m0, .inl (cI, 625, .inl ro)), (m1, .inl (cI, 65, .inl co)), (m12, .inl (cJ, 40625, .inr (.inl wy2_25))), (m14, .inl (cI, 203125, .inl cg2_25))] [1, 3, 0] [2, 4, 5, 6, 7, 8, 9, 10, 11, 12] (q0 := 0) (c_X10_lengthOf (xl X) (xD X) (xt X) hT hy m0 m1 m2 m3 m4 m5 m6 m7 m8 m9 m10 m11 m12 m13 m14 m15 m16 m17 m18 ma mm mw ml mb mz op2_25 bp by0 dp tk ka iw x6_61 (by omega) hpa) dX10_shortest_108 wd_288 wd_289 wd_290 wd_5 wd_291 (np := 1) ⟨by decide, by decide, by decide +kernel⟩ rfl rfl (Nat.le_of_ble_eq_true rfl) (by decide) rfl rfl rfl rfl (by decide) rfl (by decide) (by decide) (fun v W1 h => ?_)
                  obtain ⟨r_108, rfl, rfl, h_108⟩ := h
                  show V X 11 [(m11, .inl (cI, 4, .inl tl2_25)), (m4, .inl (cI, 4, .inl mg)), (m5, .inl (cI, 4, .inl mt)), (m7, .inl (cI, 6, .inl wf)), (m8, .inl (cI, 6, .inl wp)), (m9, .inl (cI, 6, .inl wt)), (m0, .inl (cI, 625, .inl ro)), (m1, .inl (cI, 65, .inl co)), (m12, .inl (cJ, 40625, .inr (.inl wy2_25))), (m14, .inl (cI, 203125, .inl cg2_25)), (hy, .inr (10, [.ref m0, .ref m1, .ref m2, .ref m3, .ref m4, .ref m5, .ref m6, .ref m7, .ref m8, .ref m9, .int mw, .int ml, .int mb, .ref m10, .int mz, .ref m11, .int op2_25, .int bp, .int by0, .int dp, .int tk, .ref m12, .ref m13, .ref m14, .ref m15, .ref m16, .ref m17, .ref m18, .int ka, .int iw])), (m2, .inl (cI, 4, .inl ma)), (m3, .inl (cI, 16, .inl mm))] [(4, .int (x4_61 + (ma (Int32.toNatClampNeg x6_61)))), (6, .int x6_61), (5, .int x5_61), (0, .ref hy), (1, .int se), (2, .int de), (3, .int i)] [.int r_108, .int x5_61] 111 0 0
                  refine x_goto C 115 dX10_shortest_111 (by decide) ?_
                  refine x_iadd C dX10_shortest_115 ?_
                  refine x_istore C [(5, .int (x5_61 + r_108)), (4, .int (x4_61 + (ma (Int32.toNatClampNeg x6_61)))), (6, .int x6_61), (0, .ref hy), (1, .int se), (2, .int de), (3, .int i)] dX10_shortest_116 (by decide) rfl ?_
                  refine x_iinc C 2 (x6_61 + 1) [(6, .int (x6_61 + 1)), (5, .int (x5_61 + r_108)), (4, .int (x4_61 + (ma (Int32.toNatClampNeg x6_61)))), (0, .ref hy), (1, .int se), (2, .int de), (3, .int i)] dX10_shortest_118 rfl rfl (by decide) rfl ?_
                  refine x_goto C 61 dX10_shortest_121 (by decide) ?_
                  refine x_sub [(m3, .inl (cI, 16, .inl mm)), (hy, .inr (10, [.ref m0, .ref m1, .ref m2, .ref m3, .ref m4, .ref m5, .ref m6, .ref m7, .ref m8, .ref m9, .int mw, .int ml, .int mb, .ref m10, .int mz, .ref m11, .int op2_25, .int bp, .int by0, .int dp, .int tk, .ref m12, .ref m13, .ref m14, .ref m15, .ref m16, .ref m17, .ref m18, .int ka, .int iw])), (m11, .inl (cI, 4, .inl tl2_25)), (m2, .inl (cI, 4, .inl ma)), (m4, .inl (cI, 4, .inl mg)), (m5, .inl (cI, 4, .inl mt)), (m7, .inl (cI, 6, .inl wf)), (m8, .inl (cI, 6, .inl wp)), (m9, .inl (cI, 6, .inl wt)), (m0, .inl (cI, 625, .inl ro)), (m1, .inl (cI, 65, .inl co)), (m12, .inl (cJ, 40625, .inr (.inl wy2_25))), (m14, .inl (cI, 203125, .inl cg2_25))] [12, 10, 0, 11, 1, 2, 3, 4, 5, 6, 7, 8, 9] (by decide) rfl ?_
                  have := i_add (x := x4_61) (y := (ma (Int32.toNatClampNeg x6_61))) (by omega) (by omega)
                  have : (1 : Int32).toInt = 1 := by decide
                  have := i_add (x := x6_61) (y := 1) (by omega) (by omega)
                  exact ih_61 (x6_61 + 1) (x5_61 + r_108) (x4_61 + (ma (Int32.toNatClampNeg x6_61))) ⟨by omega, by rw [pt_t (x := x6_61) (by omega) (by omega) (by omega)]; omega, by omega⟩ (by omega)
        have : (0 : Int32).toInt = 0 := by decide
        have : (0 : Int32).toInt = 0 := by decide
        exact L_61 _ 0 (mb * (cg2_25 (Int32.toNatClampNeg 4))) 0 ⟨by omega, rfl, by omega⟩ (Nat.lt_succ_self _)
      · skip
        have e_36 : ((wy2_25 (Int32.toNatClampNeg 0)) : Int64).toInt = (0 : Int64).toInt := lc_eq.mp c_36
        have : (0 : Int64).toInt = 0 := by decide
        refine x_bipush C (-6) dX10_shortest_39 (by decide) ?_
        refine x_sub [(hy, .inr (10, [.ref m0, .ref m1, .ref m2, .ref m3, .ref m4, .ref m5, .ref m6, .ref m7, .ref m8, .ref m9, .int mw, .int ml, .int mb, .ref m10, .int mz, .ref m11, .int op2_25, .int bp, .int by0, .int dp, .int tk, .ref m12, .ref m13, .ref m14, .ref m15, .ref m16, .ref m17, .ref m18, .int ka, .int iw])), (m11, .inl (cI, 4, .inl tl2_25)), (m2, .inl (cI, 4, .inl ma)), (m4, .inl (cI, 4, .inl mg)), (m5, .inl (cI, 4, .inl mt)), (m7, .inl (cI, 6, .inl wf)), (m8, .inl (cI, 6, .inl wp)), (m9, .inl (cI, 6, .inl wt)), (m0, .inl (cI, 625, .inl ro)), (m1, .inl (cI, 65, .inl co)), (m12, .inl (cJ, 40625, .inr (.inl wy2_25))), (m14, .inl (cI, 203125, .inl cg2_25)), (m3, .inl (cI, 16, .inl mm))] [1, 2, 3, 4, 5, 6, 7, 8, 9, 10, 11, 12, 0] (by decide) rfl ?_
        have : ((-6) : Int32).toInt = -6 := by decide
        exact x_iret C dX10_shortest_41 (Nat.zero_le _) (Nat.zero_le _) (by rw [eO]; exact ⟨((-6)), tl2_25, op2_25, wy2_25, cg2_25, rfl, rfl, trivial⟩)
    · skip
      have e_16 : (r_13 : Int32).toInt = (0 : Int32).toInt := i_eq.mp c_16
      have : (0 : Int32).toInt = 0 := by decide
      refine x_bipush C (-2) dX10_shortest_19 (by decide) ?_
      have : ((-2) : Int32).toInt = -2 := by decide
      exact x_iret C dX10_shortest_21 (Nat.zero_le _) (Nat.zero_le _) (by rw [eO]; exact ⟨((-2)), tl, op, wy, cg, rfl, rfl, trivial⟩)
