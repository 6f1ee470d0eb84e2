abbrev rm_X10_findWays : Room := { frames := 5, cells := 0, slots := 0, locals := 124 }
set_option maxHeartbeats 4000000 in
set_option maxRecDepth 100000 in
theorem c_X10_findWays (l : Launch) (D : va_G) (tys : List (ClassId × FieldType)) {cI cJ cZ cB : ClassId} (hT : Ty tys cI cJ cZ cB) (hy m0 m1 m2 m3 m4 m5 m6 m7 m8 m9 m10 m11 m12 m13 m14 m15 m16 m17 m18 : Nat) (tl ma mg mt wf wp wt ro co : Nat → Int32) (wy : Nat → Int64) (mw ml mb mz op bp by0 dp tk ka iw : Int32) (se de dr : Int32) (hR : RT co ro) (hpa : POk ma) (hmw : 0 ≤ mw.toInt ∧ mw.toInt ≤ 6) (hwt : SOk wt) : Cn l D tys yX10_findWays cX10_findWays 8 none rm_X10_findWays [(hy, .inr (10, [.ref m0, .ref m1, .ref m2, .ref m3, .ref m4, .ref m5, .ref m6, .ref m7, .ref m8, .ref m9, .int mw, .int ml, .int mb, .ref m10, .int mz, .ref m11, .int op, .int bp, .int by0, .int dp, .int tk, .ref m12, .ref m13, .ref m14, .ref m15, .ref m16, .ref m17, .ref m18, .int ka, .int iw])), (m11, .inl (cI, 4, .inl tl)), (m2, .inl (cI, 4, .inl ma)), (m4, .inl (cI, 4, .inl mg)), (m5, .inl (cI, 4, .inl mt)), (m7, .inl (cI, 6, .inl wf)), (m8, .inl (cI, 6, .inl wp)), (m9, .inl (cI, 6, .inl wt)), (m0, .inl (cI, 625, .inl ro)), (m1, .inl (cI, 65, .inl co)), (m12, .inl (cJ, 40625, .inr (.inl wy)))] [.ref hy, .int se, .int de, .int dr] (fun v W1 => ∃ (tl2 : Nat → Int32) (op2 : Int32) (wy2 : Nat → Int64), v = none ∧ W1 = [(hy, .inr (10, [.ref m0, .ref m1, .ref m2, .ref m3, .ref m4, .ref m5, .ref m6, .ref m7, .ref m8, .ref m9, .int mw, .int ml, .int mb, .ref m10, .int mz, .ref m11, .int op2, .int bp, .int by0, .int dp, .int tk, .ref m12, .ref m13, .ref m14, .ref m15, .ref m16, .ref m17, .ref m18, .int ka, .int iw])), (m11, .inl (cI, 4, .inl tl2)), (m2, .inl (cI, 4, .inl ma)), (m4, .inl (cI, 4, .inl mg)), (m5, .inl (cI, 4, .inl mt)), (m7, .inl (cI, 6, .inl wf)), (m8, .inl (cI, 6, .inl wp)), (m9, .inl (cI, 6, .inl wt)), (m0, .inl (cI, 625, .inl ro)), (m1, .inl (cI, 65, .inl co)), (m12, .inl (cJ, 40625, .inr (.inl wy2)))] ∧ (∀ st : Int32, 0 ≤ st.toInt → st.toInt < 40625 → wy2 st.toNatClampNeg = wsF ma mg mt wf wp wt mw ml co ro se de dr wy2 st)) := by
  refine Cn.of (by decide) (Nat.le_of_ble_eq_true rfl) ?_ ?_ (fun X eL eD eT eO eK eN eM C => ?_)
  · intro h; cases h
  · intro v ws h; obtain ⟨_, _, _, rfl, rfl, _⟩ := h; rfl
  subst eL eD eT
  show V X 8 [(hy, .inr (10, [.ref m0, .ref m1, .ref m2, .ref m3, .ref m4, .ref m5, .ref m6, .ref m7, .ref m8, .ref m9, .int mw, .int ml, .int mb, .ref m10, .int mz, .ref m11, .int op, .int bp, .int by0, .int dp, .int tk, .ref m12, .ref m13, .ref m14, .ref m15, .ref m16, .ref m17, .ref m18, .int ka, .int iw])), (m11, .inl (cI, 4, .inl tl)), (m2, .inl (cI, 4, .inl ma)), (m4, .inl (cI, 4, .inl mg)), (m5, .inl (cI, 4, .inl mt)), (m7, .inl (cI, 6, .inl wf)), (m8, .inl (cI, 6, .inl wp)), (m9, .inl (cI, 6, .inl wt)), (m0, .inl (cI, 625, .inl ro)), (m1, .inl (cI, 65, .inl co)), (m12, .inl (cJ, 40625, .inr (.inl wy)))] [(0, .ref hy), (1, .int se), (2, .int de), (3, .int dr)] [] 0 0 0
  refine x_bipush C 16 dX10_findWays_0 (by decide) ?_
  refine x_istore C [(4, .int 16), (0, .ref hy), (1, .int se), (2, .int de), (3, .int dr)] dX10_findWays_2 (by decide) rfl ?_
  have L_4 : ∀ (n_4 : Nat) (x4_4 : Int32) (ghy16_4 : Int32) (fm11_4 : Nat → Int32) (fm12_4 : Nat → Int64), ((-1 ≤ x4_4.toInt ∧ x4_4.toInt ≤ 16) ∧ DW (wsF ma mg mt wf wp wt mw ml co ro se de dr) fm12_4 x4_4.toInt 0) → ((x4_4.toInt + 1).toNat < n_4) → V X 8 [(hy, .inr (10, [.ref m0, .ref m1, .ref m2, .ref m3, .ref m4, .ref m5, .ref m6, .ref m7, .ref m8, .ref m9, .int mw, .int ml, .int mb, .ref m10, .int mz, .ref m11, .int ghy16_4, .int bp, .int by0, .int dp, .int tk, .ref m12, .ref m13, .ref m14, .ref m15, .ref m16, .ref m17, .ref m18, .int ka, .int iw])), (m11, .inl (cI, 4, .inl fm11_4)), (m2, .inl (cI, 4, .inl ma)), (m4, .inl (cI, 4, .inl mg)), (m5, .inl (cI, 4, .inl mt)), (m7, .inl (cI, 6, .inl wf)), (m8, .inl (cI, 6, .inl wp)), (m9, .inl (cI, 6, .inl wt)), (m0, .inl (cI, 625, .inl ro)), (m1, .inl (cI, 65, .inl co)), (m12, .inl (cJ, 40625, .inr (.inl fm12_4)))] [(4, .int x4_4), (0, .ref hy), (1, .int se), (2, .int de), (3, .int dr)] [] 4 0 0 := by
    intro n_4
    induction n_4 with
    | zero =>
      intro x4_4 ghy16_4 fm11_4 fm12_4 i_4 m_4
      exact absurd m_4 (Nat.not_lt_zero _)
    | succ n_4 ih_4 =>
      intro x4_4 ghy16_4 fm11_4 fm12_4 i_4 m_4
      refine x_iload C 0 dX10_findWays_4 rfl ?_
      refine x_if_lt C 84 dX10_findWays_6 (by decide) (fun c_6 => ?_) (fun c_6 => ?_)
      · skip
        have e_6 : (x4_4 : Int32).toInt < (0 : Int32).toInt := i_lt.mp c_6
        have : (0 : Int32).toInt = 0 := by decide
        exact x_vret C dX10_findWays_84 (Nat.zero_le _) (Nat.zero_le _) (by rw [eO]; exact ⟨fm11_4, ghy16_4, fm12_4, rfl, rfl, (i_4.2.all (by omega))⟩)
      · skip
        have e_6 : ¬ ((x4_4 : Int32).toInt < (0 : Int32).toInt) := fun h => c_6 (i_lt.mpr h)
        have : (0 : Int32).toInt = 0 := by decide
        refine x_iconst C 0 dX10_findWays_9 (by decide) ?_
        refine x_istore C [(5, .int 0), (4, .int x4_4), (0, .ref hy), (1, .int se), (2, .int de), (3, .int dr)] dX10_findWays_10 (by decide) rfl ?_
        have L_12 : ∀ (n_12 : Nat) (x5_12 : Int32) (ghy16_12 : Int32) (fm11_12 : Nat → Int32) (fm12_12 : Nat → Int64), ((0 ≤ x5_12.toInt ∧ x5_12.toInt ≤ 625) ∧ DW (wsF ma mg mt wf wp wt mw ml co ro se de dr) fm12_12 x4_4.toInt (65 * x5_12.toInt)) → ((625 - x5_12.toInt).toNat < n_12) → V X 8 [(hy, .inr (10, [.ref m0, .ref m1, .ref m2, .ref m3, .ref m4, .ref m5, .ref m6, .ref m7, .ref m8, .ref m9, .int mw, .int ml, .int mb, .ref m10, .int mz, .ref m11, .int ghy16_12, .int bp, .int by0, .int dp, .int tk, .ref m12, .ref m13, .ref m14, .ref m15, .ref m16, .ref m17, .ref m18, .int ka, .int iw])), (m11, .inl (cI, 4, .inl fm11_12)), (m2, .inl (cI, 4, .inl ma)), (m4, .inl (cI, 4, .inl mg)), (m5, .inl (cI, 4, .inl mt)), (m7, .inl (cI, 6, .inl wf)), (m8, .inl (cI, 6, .inl wp)), (m9, .inl (cI, 6, .inl wt)), (m0, .inl (cI, 625, .inl ro)), (m1, .inl (cI, 65, .inl co)), (m12, .inl (cJ, 40625, .inr (.inl fm12_12)))] [(5, .int x5_12), (4, .int x4_4), (0, .ref hy), (1, .int se), (2, .int de), (3, .int dr)] [] 12 0 0 := by
          intro n_12
          induction n_12 with
          | zero =>
            intro x5_12 ghy16_12 fm11_12 fm12_12 i_12 m_12
            exact absurd m_12 (Nat.not_lt_zero _)
          | succ n_12 ih_12 =>
            intro x5_12 ghy16_12 fm11_12 fm12_12 i_12 m_12
            refine x_iload C 0 dX10_findWays_12 rfl ?_
            refine x_sipush C 625 dX10_findWays_14 (by decide) ?_
            refine x_icmp_ge C 78 dX10_findWays_17 (by decide) (fun c_17 => ?_) (fun c_17 => ?_)
            · skip
              have e_17 : (625 : Int32).toInt ≤ (x5_12 : Int32).toInt := i_le.mp c_17
              have : (625 : Int32).toInt = 625 := by decide
              refine x_iinc C 1 (x4_4 - 1) [(4, .int (x4_4 - 1)), (5, .int x5_12), (0, .ref hy), (1, .int se), (2, .int de), (3, .int dr)] dX10_findWays_78 rfl (i_m1 _) (by decide) rfl ?_
              refine x_goto C 4 dX10_findWays_81 (by decide) ?_
              refine x_lv [(4, .int (x4_4 - 1)), (0, .ref hy), (1, .int se), (2, .int de), (3, .int dr)] [0, 2, 3, 4, 5] rfl ?_
              have : (1 : Int32).toInt = 1 := by decide
              have := i_sub (x := x4_4) (y := 1) (by omega) (by omega)
              exact ih_4 (x4_4 - 1) ghy16_12 fm11_12 fm12_12 ⟨by omega, i_12.2.next (by omega) (by omega)⟩ (by omega)
            · skip
              have e_17 : ¬ ((625 : Int32).toInt ≤ (x5_12 : Int32).toInt) := fun h => c_17 (i_le.mpr h)
              have : (625 : Int32).toInt = 625 := by decide
              refine x_iconst C 0 dX10_findWays_20 (by decide) ?_
              refine x_istore C [(6, .int 0), (5, .int x5_12), (4, .int x4_4), (0, .ref hy), (1, .int se), (2, .int de), (3, .int dr)] dX10_findWays_21 (by decide) rfl ?_
              have L_23 : ∀ (n_23 : Nat) (x6_23 : Int32) (ghy16_23 : Int32) (fm11_23 : Nat → Int32) (fm12_23 : Nat → Int64), ((0 ≤ x6_23.toInt ∧ x6_23.toInt ≤ 65) ∧ DW (wsF ma mg mt wf wp wt mw ml co ro se de dr) fm12_23 x4_4.toInt (65 * x5_12.toInt + x6_23.toInt)) → ((65 - x6_23.toInt).toNat < n_23) → V X 8 [(hy, .inr (10, [.ref m0, .ref m1, .ref m2, .ref m3, .ref m4, .ref m5, .ref m6, .ref m7, .ref m8, .ref m9, .int mw, .int ml, .int mb, .ref m10, .int mz, .ref m11, .int ghy16_23, .int bp, .int by0, .int dp, .int tk, .ref m12, .ref m13, .ref m14, .ref m15, .ref m16, .ref m17, .ref m18, .int ka, .int iw])), (m11, .inl (cI, 4, .inl fm11_23)), (m2, .inl (cI, 4, .inl ma)), (m4, .inl (cI, 4, .inl mg)), (m5, .inl (cI, 4, .inl mt)), (m7, .inl (cI, 6, .inl wf)), (m8, .inl (cI, 6, .inl wp)), (m9, .inl (cI, 6, .inl wt)), (m0, .inl (cI, 625, .inl ro)), (m1, .inl (cI, 65, .inl co)), (m12, .inl (cJ, 40625, .inr (.inl fm12_23)))] [(6, .int x6_23), (5, .int x5_12), (4, .int x4_4), (0, .ref hy), (1, .int se), (2, .int de), (3, .int dr)] [] 23 0 0 := by
                intro n_23
                induction n_23 with
                | zero =>
                  intro x6_23 ghy16_23 fm11_23 fm12_23 i_23 m_23
                  exact absurd m_23 (Nat.not_lt_zero _)
                | succ n_23 ih_23 =>
                  intro x6_23 ghy16_23 fm11_23 fm12_23 i_23 m_23
                  refine x_iload C 0 dX10_findWays_23 rfl ?_
                  refine x_bipush C 65 dX10_findWays_25 (by decide) ?_
                  refine x_icmp_ge C 72 dX10_findWays_27 (by decide) (fun c_27 => ?_) (fun c_27 => ?_)
                  · skip
                    have e_27 : (65 : Int32).toInt ≤ (x6_23 : Int32).toInt := i_le.mp c_27
                    have : (65 : Int32).toInt = 65 := by decide
                    refine x_iinc C 1 (x5_12 + 1) [(5, .int (x5_12 + 1)), (6, .int x6_23), (4, .int x4_4), (0, .ref hy), (1, .int se), (2, .int de), (3, .int dr)] dX10_findWays_72 rfl rfl (by decide) rfl ?_
                    refine x_goto C 12 dX10_findWays_75 (by decide) ?_
                    refine x_lv [(5, .int (x5_12 + 1)), (4, .int x4_4), (0, .ref hy), (1, .int se), (2, .int de), (3, .int dr)] [0, 2, 3, 4, 5, 6] rfl ?_
                    have : (1 : Int32).toInt = 1 := by decide
                    have := i_add (x := x5_12) (y := 1) (by omega) (by omega)
                    exact ih_12 (x5_12 + 1) ghy16_23 fm11_23 fm12_23 ⟨by omega, by first | exact i_23.2.skip (by omega) (by omega) (by omega) (by omega) | exact i_23.2.mono (by omega)⟩ (by omega)
                  · skip
                    have e_27 : ¬ ((65 : Int32).toInt ≤ (x6_23 : Int32).toInt) := fun h => c_27 (i_le.mpr h)
                    have : (65 : Int32).toInt = 65 := by decide
                    refine x_iload C 1 dX10_findWays_30 rfl ?_
                    refine x_callS C [.int x5_12] [(hy, .inr (10, [.ref m0, .ref m1, .ref m2, .ref m3, .ref m4, .ref m5, .ref m6, .ref m7, .ref m8, .ref m9, .int mw, .int ml, .int mb, .ref m10, .int mz, .ref m11, .int ghy16_23, .int bp, .int by0, .int dp, .int tk, .ref m12, .ref m13, .ref m14, .ref m15, .ref m16, .ref m17, .ref m18, .int ka, .int iw])), (m11, .inl (cI, 4, .inl fm11_23)), (m2, .inl (cI, 4, .inl ma)), (m4, .inl (cI, 4, .inl mg)), (m5, .inl (cI, 4, .inl mt)), (m7, .inl (cI, 6, .inl wf)), (m8, .inl (cI, 6, .inl wp)), (m9, .inl (cI, 6, .inl wt)), (m0, .inl (cI, 625, .inl ro)), (m1, .inl (cI, 65, .inl co)), (m12, .inl (cJ, 40625, .inr (.inl fm12_23)))] [] [0, 1, 2, 3, 4, 5, 6, 7, 8, 9, 10] (c_X10_sumOf (xl X) (xD X) (xt X) hT x5_12 (by omega)) dX10_findWays_32 wd_572 wd_573 wd_5 wd_574 (np := 1) ⟨by decide, by decide, by decide +kernel⟩ rfl rfl (Nat.le_of_ble_eq_true rfl) (by decide) rfl (by decide) rfl (by decide) (by decide) (fun v W1 h => ?_)
                    obtain ⟨r_32, rfl, rfl, h_32⟩ := h
                    show V X 8 [(hy, .inr (10, [.ref m0, .ref m1, .ref m2, .ref m3, .ref m4, .ref m5, .ref m6, .ref m7, .ref m8, .ref m9, .int mw, .int ml, .int mb, .ref m10, .int mz, .ref m11, .int ghy16_23, .int bp, .int by0, .int dp, .int tk, .ref m12, .ref m13, .ref m14, .ref m15, .ref m16, .ref m17, .ref m18, .int ka, .int iw])), (m11, .inl (cI, 4, .inl fm11_23)), (m2, .inl (cI, 4, .inl ma)), (m4, .inl (cI, 4, .inl mg)), (m5, .inl (cI, 4, .inl mt)), (m7, .inl (cI, 6, .inl wf)), (m8, .inl (cI, 6, .inl wp)), (m9, .inl (cI, 6, .inl wt)), (m0, .inl (cI, 625, .inl ro)), (m1, .inl (cI, 65, .inl co)), (m12, .inl (cJ, 40625, .inr (.inl fm12_23)))] [(6, .int x6_23), (5, .int x5_12), (4, .int x4_4), (0, .ref hy), (1, .int se), (2, .int de), (3, .int dr)] [.int r_32] 35 0 0
                    refine x_iload C 2 dX10_findWays_35 rfl ?_
                    refine x_icmp_ne C 72 dX10_findWays_37 (by decide) (fun c_37 => ?_) (fun c_37 => ?_)
                    · skip
                      have e_37 : ¬ ((r_32 : Int32).toInt = (x4_4 : Int32).toInt) := fun h => c_37 (i_eq.mpr h)
                      refine x_iinc C 1 (x5_12 + 1) [(5, .int (x5_12 + 1)), (6, .int x6_23), (4, .int x4_4), (0, .ref hy), (1, .int se), (2, .int de), (3, .int dr)] dX10_findWays_72 rfl rfl (by decide) rfl ?_
                      refine x_goto C 12 dX10_findWays_75 (by decide) ?_
                      refine x_lv [(5, .int (x5_12 + 1)), (4, .int x4_4), (0, .ref hy), (1, .int se), (2, .int de), (3, .int dr)] [0, 2, 3, 4, 5, 6] rfl ?_
                      have : (1 : Int32).toInt = 1 := by decide
                      have := i_add (x := x5_12) (y := 1) (by omega) (by omega)
                      exact ih_12 (x5_12 + 1) ghy16_23 fm11_23 fm12_23 ⟨by omega, by first | exact i_23.2.skip (by omega) (by omega) (by omega) (by omega) | exact i_23.2.mono (by omega)⟩ (by omega)
                    · skip
                      have e_37 : (r_32 : Int32).toInt = (x4_4 : Int32).toInt := i_eq.mp c_37
                      have : (65 : Int32).toInt = 65 := by decide
                      have := i_mull (x := 65) (y := x5_12) (d := 65) (by decide) (by omega) (by omega)
                      have st9 := i_add (x := 65 * x5_12) (y := x6_23) (by omega) (by omega)
                      refine x_bipush C 65 dX10_findWays_40 (by decide) ?_
                      refine x_iload C 1 dX10_findWays_42 rfl ?_
                      refine x_imul C dX10_findWays_44 ?_
                      refine x_iload C 0 dX10_findWays_45 rfl ?_
                      refine x_iadd C dX10_findWays_47 ?_
                      refine x_istore C [(7, .int ((65 * x5_12) + x6_23)), (6, .int x6_23), (5, .int x5_12), (4, .int x4_4), (0, .ref hy), (1, .int se), (2, .int de), (3, .int dr)] dX10_findWays_48 (by decide) rfl ?_
                      refine x_aload_n C 4 dX10_findWays_50 rfl rfl ?_
                      refine x_get C 0 21 dX10_findWays_51 inlX10 rfl (by decide) wd_135 rfl rfl rfl ?_
                      refine x_iload C 0 dX10_findWays_54 rfl ?_
                      refine x_aload_n C 4 dX10_findWays_56 rfl rfl ?_
                      refine x_iload C 0 dX10_findWays_57 rfl ?_
                      refine x_iload_n C 5 dX10_findWays_59 rfl rfl ?_
                      refine x_iload_n C 6 dX10_findWays_60 rfl rfl ?_
                      refine x_iload_n C 7 dX10_findWays_61 rfl rfl ?_
                      refine x_callV C [.int ((65 * x5_12) + x6_23), .int se, .int de, .int dr] [] [0, 1, 2, 3, 4, 5, 6, 7, 8, 9, 10] [] (q0 := 0) (c_X10_waysOf (xl X) (xD X) (xt X) hT hy m0 m1 m2 m3 m4 m5 m6 m7 m8 m9 m10 m11 m12 m13 m14 m15 m16 m17 m18 fm11_23 ma mg mt wf wp wt ro co fm12_23 mw ml mb mz ghy16_23 bp by0 dp tk ka iw ((65 * x5_12) + x6_23) se de dr (by omega) hR hpa hmw hwt) dX10_findWays_62 wd_575 wd_576 wd_577 wd_5 wd_578 (np := 4) ⟨by decide, by decide, by decide +kernel⟩ rfl rfl (Nat.le_of_ble_eq_true rfl) (by decide) rfl rfl rfl rfl (by decide) rfl (by decide) (by decide) (fun v W1 h => ?_)
                      obtain ⟨tl2_62, op2_62, rfl, rfl, h_62⟩ := h
                      show V X 8 [(hy, .inr (10, [.ref m0, .ref m1, .ref m2, .ref m3, .ref m4, .ref m5, .ref m6, .ref m7, .ref m8, .ref m9, .int mw, .int ml, .int mb, .ref m10, .int mz, .ref m11, .int op2_62, .int bp, .int by0, .int dp, .int tk, .ref m12, .ref m13, .ref m14, .ref m15, .ref m16, .ref m17, .ref m18, .int ka, .int iw])), (m11, .inl (cI, 4, .inl tl2_62)), (m2, .inl (cI, 4, .inl ma)), (m4, .inl (cI, 4, .inl mg)), (m5, .inl (cI, 4, .inl mt)), (m7, .inl (cI, 6, .inl wf)), (m8, .inl (cI, 6, .inl wp)), (m9, .inl (cI, 6, .inl wt)), (m0, .inl (cI, 625, .inl ro)), (m1, .inl (cI, 65, .inl co)), (m12, .inl (cJ, 40625, .inr (.inl fm12_23)))] [(7, .int ((65 * x5_12) + x6_23)), (6, .int x6_23), (5, .int x5_12), (4, .int x4_4), (0, .ref hy), (1, .int se), (2, .int de), (3, .int dr)] [.long (wsF ma mg mt wf wp wt mw ml co ro se de dr fm12_23 ((65 * x5_12) + x6_23)), .int ((65 * x5_12) + x6_23), .ref m12] 65 0 0
                      have v_65 : vp_in ((65 * x5_12) + x6_23) 40625 := (vp_in_iff.mpr (by omega))
                      refine x_last C 10 1 [(hy, .inr (10, [.ref m0, .ref m1, .ref m2, .ref m3, .ref m4, .ref m5, .ref m6, .ref m7, .ref m8, .ref m9, .int mw, .int ml, .int mb, .ref m10, .int mz, .ref m11, .int op2_62, .int bp, .int by0, .int dp, .int tk, .ref m12, .ref m13, .ref m14, .ref m15, .ref m16, .ref m17, .ref m18, .int ka, .int iw])), (m11, .inl (cI, 4, .inl tl2_62)), (m2, .inl (cI, 4, .inl ma)), (m4, .inl (cI, 4, .inl mg)), (m5, .inl (cI, 4, .inl mt)), (m7, .inl (cI, 6, .inl wf)), (m8, .inl (cI, 6, .inl wp)), (m9, .inl (cI, 6, .inl wt)), (m0, .inl (cI, 625, .inl ro)), (m1, .inl (cI, 65, .inl co)), (m12, .inl (cJ, 40625, .inr (.inl (vp_updL fm12_23 (Int32.toNatClampNeg ((65 * x5_12) + x6_23)) (wsF ma mg mt wf wp wt mw ml co ro se de dr fm12_23 ((65 * x5_12) + x6_23))))))] dX10_findWays_65 hT.2.1 rfl v_65 rfl ?_
                      have sm9 := sm_at (a := 65 * x5_12 + x6_23) (n := x5_12.toInt) (r := x6_23.toInt) (by omega) (by omega) (by omega)
                      have step9 := (DW.step (ws_lc hpa hR) i_23.2 (st := 65 * x5_12 + x6_23) (b' := 65 * x5_12.toInt + (x6_23.toInt + 1)) (by omega) (by omega) (by omega) (by omega) (by omega)).mono (b' := 65 * x5_12.toInt + (x6_23 + 1).toInt) (by have := t1_; have := i_add (x := x6_23) (y := 1) (by omega) (by omega); omega)
                      refine x_iinc C 1 (x6_23 + 1) [(6, .int (x6_23 + 1)), (7, .int ((65 * x5_12) + x6_23)), (5, .int x5_12), (4, .int x4_4), (0, .ref hy), (1, .int se), (2, .int de), (3, .int dr)] dX10_findWays_66 rfl rfl (by decide) rfl ?_
                      refine x_goto C 23 dX10_findWays_69 (by decide) ?_
                      refine x_lv [(6, .int (x6_23 + 1)), (5, .int x5_12), (4, .int x4_4), (0, .ref hy), (1, .int se), (2, .int de), (3, .int dr)] [0, 2, 3, 4, 5, 6, 7] rfl ?_
                      have : (1 : Int32).toInt = 1 := by decide
                      have := i_add (x := x6_23) (y := 1) (by omega) (by omega)
                      exact ih_23 (x6_23 + 1) op2_62 tl2_62 (vp_updL fm12_23 (Int32.toNatClampNeg ((65 * x5_12) + x6_23)) (wsF ma mg mt wf wp wt mw ml co ro se de dr fm12_23 ((65 * x5_12) + x6_23))) ⟨by omega, step9⟩ (by omega)
              have : (0 : Int32).toInt = 0 := by decide
              exact L_23 _ 0 ghy16_12 fm11_12 fm12_12 ⟨by omega, i_12.2.mono (by omega)⟩ (Nat.lt_succ_self _)
        have : (0 : Int32).toInt = 0 := by decide
        exact L_12 _ 0 ghy16_4 fm11_4 fm12_4 ⟨by omega, i_4.2.mono (by omega)⟩ (Nat.lt_succ_self _)
  have : (16 : Int32).toInt = 16 := by decide
  exact L_4 _ 16 op tl wy ⟨by omega, DW.top (by omega)⟩ (Nat.lt_succ_self _)
