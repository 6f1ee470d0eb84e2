abbrev rm_X10_findReached : Room := { frames := 4, cells := 0, slots := 0, locals := 96 }
set_option maxHeartbeats 4000000 in
set_option maxRecDepth 100000 in
theorem c_X10_findReached (l : Launch) (D : va_G) (tys : List (ClassId × FieldType)) {cI cJ cZ cB : ClassId} (hT : Ty tys cI cJ cZ cB) (hy m0 m1 m2 m3 m4 m5 m6 m7 m8 m9 m10 m11 m12 m13 m14 m15 m16 m17 m18 : Nat) (tl ma mg mt wf wp wt ro co ir : Nat → Int32) (mw ml mb mz op bp by0 dp tk ka iw : Int32) (se de : Int32) (hR : RT co ro) (hpa : POk ma) (hmw : 0 ≤ mw.toInt ∧ mw.toInt ≤ 6) (hwt : SOk wt) : Cn l D tys yX10_findReached cX10_findReached 9 none rm_X10_findReached [(hy, .inr (10, [.ref m0, .ref m1, .ref m2, .ref m3, .ref m4, .ref m5, .ref m6, .ref m7, .ref m8, .ref m9, .int mw, .int ml, .int mb, .ref m10, .int mz, .ref m11, .int op, .int bp, .int by0, .int dp, .int tk, .ref m12, .ref m13, .ref m14, .ref m15, .ref m16, .ref m17, .ref m18, .int ka, .int iw])), (m11, .inl (cI, 4, .inl tl)), (m2, .inl (cI, 4, .inl ma)), (m4, .inl (cI, 4, .inl mg)), (m5, .inl (cI, 4, .inl mt)), (m7, .inl (cI, 6, .inl wf)), (m8, .inl (cI, 6, .inl wp)), (m9, .inl (cI, 6, .inl wt)), (m0, .inl (cI, 625, .inl ro)), (m1, .inl (cI, 65, .inl co)), (m13, .inl (cZ, 40625, .inl ir))] [.ref hy, .int se, .int de] (fun v W1 => ∃ (tl2 : Nat → Int32) (op2 : Int32) (ir2 : Nat → Int32), v = none ∧ W1 = [(hy, .inr (10, [.ref m0, .ref m1, .ref m2, .ref m3, .ref m4, .ref m5, .ref m6, .ref m7, .ref m8, .ref m9, .int mw, .int ml, .int mb, .ref m10, .int mz, .ref m11, .int op2, .int bp, .int by0, .int dp, .int tk, .ref m12, .ref m13, .ref m14, .ref m15, .ref m16, .ref m17, .ref m18, .int ka, .int iw])), (m11, .inl (cI, 4, .inl tl2)), (m2, .inl (cI, 4, .inl ma)), (m4, .inl (cI, 4, .inl mg)), (m5, .inl (cI, 4, .inl mt)), (m7, .inl (cI, 6, .inl wf)), (m8, .inl (cI, 6, .inl wp)), (m9, .inl (cI, 6, .inl wt)), (m0, .inl (cI, 625, .inl ro)), (m1, .inl (cI, 65, .inl co)), (m13, .inl (cZ, 40625, .inl ir2))] ∧ (RCH ma co ir2 40625)) := by
  refine Cn.of (by decide) (Nat.le_of_ble_eq_true rfl) ?_ ?_ (fun X eL eD eT eO eK eN eM C => ?_)
  · intro h; cases h
  · intro v ws h; obtain ⟨_, _, _, rfl, rfl, _⟩ := h; rfl
  subst eL eD eT
  show V X 9 [(hy, .inr (10, [.ref m0, .ref m1, .ref m2, .ref m3, .ref m4, .ref m5, .ref m6, .ref m7, .ref m8, .ref m9, .int mw, .int ml, .int mb, .ref m10, .int mz, .ref m11, .int op, .int bp, .int by0, .int dp, .int tk, .ref m12, .ref m13, .ref m14, .ref m15, .ref m16, .ref m17, .ref m18, .int ka, .int iw])), (m11, .inl (cI, 4, .inl tl)), (m2, .inl (cI, 4, .inl ma)), (m4, .inl (cI, 4, .inl mg)), (m5, .inl (cI, 4, .inl mt)), (m7, .inl (cI, 6, .inl wf)), (m8, .inl (cI, 6, .inl wp)), (m9, .inl (cI, 6, .inl wt)), (m0, .inl (cI, 625, .inl ro)), (m1, .inl (cI, 65, .inl co)), (m13, .inl (cZ, 40625, .inl ir))] [(0, .ref hy), (1, .int se), (2, .int de)] [] 0 0 0
  refine x_iconst C 0 dX10_findReached_0 (by decide) ?_
  refine x_istore_n C [(3, .int 0), (0, .ref hy), (1, .int se), (2, .int de)] dX10_findReached_1 rfl (by decide) rfl ?_
  have L_2 : ∀ (n_2 : Nat) (x3_2 : Int32) (fm13_2 : Nat → Int32), ((0 ≤ x3_2.toInt ∧ x3_2.toInt ≤ 40625) ∧ RCH ma co fm13_2 x3_2.toInt) → ((40625 - x3_2.toInt).toNat < n_2) → V X 9 [(hy, .inr (10, [.ref m0, .ref m1, .ref m2, .ref m3, .ref m4, .ref m5, .ref m6, .ref m7, .ref m8, .ref m9, .int mw, .int ml, .int mb, .ref m10, .int mz, .ref m11, .int op, .int bp, .int by0, .int dp, .int tk, .ref m12, .ref m13, .ref m14, .ref m15, .ref m16, .ref m17, .ref m18, .int ka, .int iw])), (m11, .inl (cI, 4, .inl tl)), (m2, .inl (cI, 4, .inl ma)), (m4, .inl (cI, 4, .inl mg)), (m5, .inl (cI, 4, .inl mt)), (m7, .inl (cI, 6, .inl wf)), (m8, .inl (cI, 6, .inl wp)), (m9, .inl (cI, 6, .inl wt)), (m0, .inl (cI, 625, .inl ro)), (m1, .inl (cI, 65, .inl co)), (m13, .inl (cZ, 40625, .inl fm13_2))] [(3, .int x3_2), (0, .ref hy), (1, .int se), (2, .int de)] [] 2 0 0 := by
    intro n_2
    induction n_2 with
    | zero =>
      intro x3_2 fm13_2 i_2 m_2
      exact absurd m_2 (Nat.not_lt_zero _)
    | succ n_2 ih_2 =>
      intro x3_2 fm13_2 i_2 m_2
      refine x_iload_n C 0 dX10_findReached_2 rfl rfl ?_
      refine x_ldc C dX10_findReached_3 wd_134 ?_
      refine x_icmp_ge C 29 dX10_findReached_5 (by decide) (fun c_5 => ?_) (fun c_5 => ?_)
      · skip
        have e_5 : (40625 : Int32).toInt ≤ (x3_2 : Int32).toInt := i_le.mp c_5
        have : (40625 : Int32).toInt = 40625 := by decide
        refine x_iconst C 0 dX10_findReached_29 (by decide) ?_
        refine x_istore_n C [(3, .int 0), (0, .ref hy), (1, .int se), (2, .int de)] dX10_findReached_30 rfl (by decide) rfl ?_
        have L_31 : ∀ (n_31 : Nat) (x3_31 : Int32) (ghy16_31 : Int32) (fm11_31 : Nat → Int32) (fm13_31 : Nat → Int32), ((0 ≤ x3_31.toInt ∧ x3_31.toInt ≤ 16) ∧ RCH ma co fm13_31 40625) → ((16 - x3_31.toInt).toNat < n_31) → V X 9 [(hy, .inr (10, [.ref m0, .ref m1, .ref m2, .ref m3, .ref m4, .ref m5, .ref m6, .ref m7, .ref m8, .ref m9, .int mw, .int ml, .int mb, .ref m10, .int mz, .ref m11, .int ghy16_31, .int bp, .int by0, .int dp, .int tk, .ref m12, .ref m13, .ref m14, .ref m15, .ref m16, .ref m17, .ref m18, .int ka, .int iw])), (m11, .inl (cI, 4, .inl fm11_31)), (m2, .inl (cI, 4, .inl ma)), (m4, .inl (cI, 4, .inl mg)), (m5, .inl (cI, 4, .inl mt)), (m7, .inl (cI, 6, .inl wf)), (m8, .inl (cI, 6, .inl wp)), (m9, .inl (cI, 6, .inl wt)), (m0, .inl (cI, 625, .inl ro)), (m1, .inl (cI, 65, .inl co)), (m13, .inl (cZ, 40625, .inl fm13_31))] [(3, .int x3_31), (0, .ref hy), (1, .int se), (2, .int de)] [] 31 0 0 := by
          intro n_31
          induction n_31 with
          | zero =>
            intro x3_31 ghy16_31 fm11_31 fm13_31 i_31 m_31
            exact absurd m_31 (Nat.not_lt_zero _)
          | succ n_31 ih_31 =>
            intro x3_31 ghy16_31 fm11_31 fm13_31 i_31 m_31
            refine x_iload_n C 0 dX10_findReached_31 rfl rfl ?_
            refine x_bipush C 16 dX10_findReached_32 (by decide) ?_
            refine x_icmp_ge C 146 dX10_findReached_34 (by decide) (fun c_34 => ?_) (fun c_34 => ?_)
            · skip
              have e_34 : (16 : Int32).toInt ≤ (x3_31 : Int32).toInt := i_le.mp c_34
              have : (16 : Int32).toInt = 16 := by decide
              exact x_vret C dX10_findReached_146 (Nat.zero_le _) (Nat.zero_le _) (by rw [eO]; exact ⟨fm11_31, ghy16_31, fm13_31, rfl, rfl, i_31.2⟩)
            · skip
              have e_34 : ¬ ((16 : Int32).toInt ≤ (x3_31 : Int32).toInt) := fun h => c_34 (i_le.mpr h)
              have : (16 : Int32).toInt = 16 := by decide
              refine x_iconst C 0 dX10_findReached_37 (by decide) ?_
              refine x_istore C [(4, .int 0), (3, .int x3_31), (0, .ref hy), (1, .int se), (2, .int de)] dX10_findReached_38 (by decide) rfl ?_
              have L_40 : ∀ (n_40 : Nat) (x4_40 : Int32) (ghy16_40 : Int32) (fm11_40 : Nat → Int32) (fm13_40 : Nat → Int32), ((0 ≤ x4_40.toInt ∧ x4_40.toInt ≤ 625) ∧ RCH ma co fm13_40 40625) → ((625 - x4_40.toInt).toNat < n_40) → V X 9 [(hy, .inr (10, [.ref m0, .ref m1, .ref m2, .ref m3, .ref m4, .ref m5, .ref m6, .ref m7, .ref m8, .ref m9, .int mw, .int ml, .int mb, .ref m10, .int mz, .ref m11, .int ghy16_40, .int bp, .int by0, .int dp, .int tk, .ref m12, .ref m13, .ref m14, .ref m15, .ref m16, .ref m17, .ref m18, .int ka, .int iw])), (m11, .inl (cI, 4, .inl fm11_40)), (m2, .inl (cI, 4, .inl ma)), (m4, .inl (cI, 4, .inl mg)), (m5, .inl (cI, 4, .inl mt)), (m7, .inl (cI, 6, .inl wf)), (m8, .inl (cI, 6, .inl wp)), (m9, .inl (cI, 6, .inl wt)), (m0, .inl (cI, 625, .inl ro)), (m1, .inl (cI, 65, .inl co)), (m13, .inl (cZ, 40625, .inl fm13_40))] [(4, .int x4_40), (3, .int x3_31), (0, .ref hy), (1, .int se), (2, .int de)] [] 40 0 0 := by
                intro n_40
                induction n_40 with
                | zero =>
                  intro x4_40 ghy16_40 fm11_40 fm13_40 i_40 m_40
                  exact absurd m_40 (Nat.not_lt_zero _)
                | succ n_40 ih_40 =>
                  intro x4_40 ghy16_40 fm11_40 fm13_40 i_40 m_40
                  refine x_iload C 0 dX10_findReached_40 rfl ?_
                  refine x_sipush C 625 dX10_findReached_42 (by decide) ?_
                  refine x_icmp_ge C 140 dX10_findReached_45 (by decide) (fun c_45 => ?_) (fun c_45 => ?_)
                  · skip
                    have e_45 : (625 : Int32).toInt ≤ (x4_40 : Int32).toInt := i_le.mp c_45
                    have : (625 : Int32).toInt = 625 := by decide
                    refine x_iinc C 1 (x3_31 + 1) [(3, .int (x3_31 + 1)), (4, .int x4_40), (0, .ref hy), (1, .int se), (2, .int de)] dX10_findReached_140 rfl rfl (by decide) rfl ?_
                    refine x_goto C 31 dX10_findReached_143 (by decide) ?_
                    refine x_lv [(3, .int (x3_31 + 1)), (0, .ref hy), (1, .int se), (2, .int de)] [0, 2, 3, 4] rfl ?_
                    have : (1 : Int32).toInt = 1 := by decide
                    have := i_add (x := x3_31) (y := 1) (by omega) (by omega)
                    exact ih_31 (x3_31 + 1) ghy16_40 fm11_40 fm13_40 ⟨by omega, i_40.2⟩ (by omega)
                  · skip
                    have e_45 : ¬ ((625 : Int32).toInt ≤ (x4_40 : Int32).toInt) := fun h => c_45 (i_le.mpr h)
                    have : (625 : Int32).toInt = 625 := by decide
                    refine x_iconst C 0 dX10_findReached_48 (by decide) ?_
                    refine x_istore C [(5, .int 0), (4, .int x4_40), (3, .int x3_31), (0, .ref hy), (1, .int se), (2, .int de)] dX10_findReached_49 (by decide) rfl ?_
                    have L_51 : ∀ (n_51 : Nat) (x5_51 : Int32) (ghy16_51 : Int32) (fm11_51 : Nat → Int32) (fm13_51 : Nat → Int32), ((0 ≤ x5_51.toInt ∧ x5_51.toInt ≤ 65) ∧ RCH ma co fm13_51 40625) → ((65 - x5_51.toInt).toNat < n_51) → V X 9 [(hy, .inr (10, [.ref m0, .ref m1, .ref m2, .ref m3, .ref m4, .ref m5, .ref m6, .ref m7, .ref m8, .ref m9, .int mw, .int ml, .int mb, .ref m10, .int mz, .ref m11, .int ghy16_51, .int bp, .int by0, .int dp, .int tk, .ref m12, .ref m13, .ref m14, .ref m15, .ref m16, .ref m17, .ref m18, .int ka, .int iw])), (m11, .inl (cI, 4, .inl fm11_51)), (m2, .inl (cI, 4, .inl ma)), (m4, .inl (cI, 4, .inl mg)), (m5, .inl (cI, 4, .inl mt)), (m7, .inl (cI, 6, .inl wf)), (m8, .inl (cI, 6, .inl wp)), (m9, .inl (cI, 6, .inl wt)), (m0, .inl (cI, 625, .inl ro)), (m1, .inl (cI, 65, .inl co)), (m13, .inl (cZ, 40625, .inl fm13_51))] [(5, .int x5_51), (4, .int x4_40), (3, .int x3_31), (0, .ref hy), (1, .int se), (2, .int de)] [] 51 0 0 := by
                      intro n_51
                      induction n_51 with
                      | zero =>
                        intro x5_51 ghy16_51 fm11_51 fm13_51 i_51 m_51
                        exact absurd m_51 (Nat.not_lt_zero _)
                      | succ n_51 ih_51 =>
                        intro x5_51 ghy16_51 fm11_51 fm13_51 i_51 m_51
                        refine x_iload C 0 dX10_findReached_51 rfl ?_
                        refine x_bipush C 65 dX10_findReached_53 (by decide) ?_
                        refine x_icmp_ge C 134 dX10_findReached_55 (by decide) (fun c_55 => ?_) (fun c_55 => ?_)
                        · skip
                          have e_55 : (65 : Int32).toInt ≤ (x5_51 : Int32).toInt := i_le.mp c_55
                          have : (65 : Int32).toInt = 65 := by decide
                          refine x_iinc C 1 (x4_40 + 1) [(4, .int (x4_40 + 1)), (5, .int x5_51), (3, .int x3_31), (0, .ref hy), (1, .int se), (2, .int de)] dX10_findReached_134 rfl rfl (by decide) rfl ?_
                          refine x_goto C 40 dX10_findReached_137 (by decide) ?_
                          refine x_lv [(4, .int (x4_40 + 1)), (3, .int x3_31), (0, .ref hy), (1, .int se), (2, .int de)] [0, 2, 3, 4, 5] rfl ?_
                          have : (1 : Int32).toInt = 1 := by decide
                          have := i_add (x := x4_40) (y := 1) (by omega) (by omega)
                          exact ih_40 (x4_40 + 1) ghy16_51 fm11_51 fm13_51 ⟨by omega, i_51.2⟩ (by omega)
                        · skip
                          have e_55 : ¬ ((65 : Int32).toInt ≤ (x5_51 : Int32).toInt) := fun h => c_55 (i_le.mpr h)
                          have : (65 : Int32).toInt = 65 := by decide
                          refine x_iload C 1 dX10_findReached_58 rfl ?_
                          refine x_callS C [.int x4_40] [(hy, .inr (10, [.ref m0, .ref m1, .ref m2, .ref m3, .ref m4, .ref m5, .ref m6, .ref m7, .ref m8, .ref m9, .int mw, .int ml, .int mb, .ref m10, .int mz, .ref m11, .int ghy16_51, .int bp, .int by0, .int dp, .int tk, .ref m12, .ref m13, .ref m14, .ref m15, .ref m16, .ref m17, .ref m18, .int ka, .int iw])), (m11, .inl (cI, 4, .inl fm11_51)), (m2, .inl (cI, 4, .inl ma)), (m4, .inl (cI, 4, .inl mg)), (m5, .inl (cI, 4, .inl mt)), (m7, .inl (cI, 6, .inl wf)), (m8, .inl (cI, 6, .inl wp)), (m9, .inl (cI, 6, .inl wt)), (m0, .inl (cI, 625, .inl ro)), (m1, .inl (cI, 65, .inl co)), (m13, .inl (cZ, 40625, .inl fm13_51))] [] [0, 1, 2, 3, 4, 5, 6, 7, 8, 9, 10] (c_X10_sumOf (xl X) (xD X) (xt X) hT x4_40 (by omega)) dX10_findReached_60 wd_572 wd_573 wd_5 wd_574 (np := 1) ⟨by decide, by decide, by decide +kernel⟩ rfl rfl (Nat.le_of_ble_eq_true rfl) (by decide) rfl (by decide) rfl (by decide) (by decide) (fun v W1 h => ?_)
                          obtain ⟨r_60, rfl, rfl, h_60⟩ := h
                          show V X 9 [(hy, .inr (10, [.ref m0, .ref m1, .ref m2, .ref m3, .ref m4, .ref m5, .ref m6, .ref m7, .ref m8, .ref m9, .int mw, .int ml, .int mb, .ref m10, .int mz, .ref m11, .int ghy16_51, .int bp, .int by0, .int dp, .int tk, .ref m12, .ref m13, .ref m14, .ref m15, .ref m16, .ref m17, .ref m18, .int ka, .int iw])), (m11, .inl (cI, 4, .inl fm11_51)), (m2, .inl (cI, 4, .inl ma)), (m4, .inl (cI, 4, .inl mg)), (m5, .inl (cI, 4, .inl mt)), (m7, .inl (cI, 6, .inl wf)), (m8, .inl (cI, 6, .inl wp)), (m9, .inl (cI, 6, .inl wt)), (m0, .inl (cI, 625, .inl ro)), (m1, .inl (cI, 65, .inl co)), (m13, .inl (cZ, 40625, .inl fm13_51))] [(5, .int x5_51), (4, .int x4_40), (3, .int x3_31), (0, .ref hy), (1, .int se), (2, .int de)] [.int r_60] 63 0 0
                          refine x_iload_n C 2 dX10_findReached_63 rfl rfl ?_
                          refine x_icmp_ne C 134 dX10_findReached_64 (by decide) (fun c_64 => ?_) (fun c_64 => ?_)
                          · skip
                            have e_64 : ¬ ((r_60 : Int32).toInt = (x3_31 : Int32).toInt) := fun h => c_64 (i_eq.mpr h)
                            refine x_iinc C 1 (x4_40 + 1) [(4, .int (x4_40 + 1)), (5, .int x5_51), (3, .int x3_31), (0, .ref hy), (1, .int se), (2, .int de)] dX10_findReached_134 rfl rfl (by decide) rfl ?_
                            refine x_goto C 40 dX10_findReached_137 (by decide) ?_
                            refine x_lv [(4, .int (x4_40 + 1)), (3, .int x3_31), (0, .ref hy), (1, .int se), (2, .int de)] [0, 2, 3, 4, 5] rfl ?_
                            have : (1 : Int32).toInt = 1 := by decide
                            have := i_add (x := x4_40) (y := 1) (by omega) (by omega)
                            exact ih_40 (x4_40 + 1) ghy16_51 fm11_51 fm13_51 ⟨by omega, i_51.2⟩ (by omega)
                          · skip
                            have e_64 : (r_60 : Int32).toInt = (x3_31 : Int32).toInt := i_eq.mp c_64
                            have : (65 : Int32).toInt = 65 := by decide
                            have := i_mull (x := 65) (y := x4_40) (d := 65) (by decide) (by omega) (by omega)
                            have st9 := i_add (x := 65 * x4_40) (y := x5_51) (by omega) (by omega)
                            refine x_bipush C 65 dX10_findReached_67 (by decide) ?_
                            refine x_iload C 1 dX10_findReached_69 rfl ?_
                            refine x_imul C dX10_findReached_71 ?_
                            refine x_iload C 0 dX10_findReached_72 rfl ?_
                            refine x_iadd C dX10_findReached_74 ?_
                            refine x_istore C [(6, .int ((65 * x4_40) + x5_51)), (5, .int x5_51), (4, .int x4_40), (3, .int x3_31), (0, .ref hy), (1, .int se), (2, .int de)] dX10_findReached_75 (by decide) rfl ?_
                            refine x_iconst C 0 dX10_findReached_77 (by decide) ?_
                            refine x_istore C [(7, .int 0), (6, .int ((65 * x4_40) + x5_51)), (5, .int x5_51), (4, .int x4_40), (3, .int x3_31), (0, .ref hy), (1, .int se), (2, .int de)] dX10_findReached_78 (by decide) rfl ?_
                            have L_80 : ∀ (n_80 : Nat) (x7_80 : Int32) (ghy16_80 : Int32) (fm11_80 : Nat → Int32) (fm13_80 : Nat → Int32), ((0 ≤ x7_80.toInt ∧ x7_80.toInt ≤ 4) ∧ RCH ma co fm13_80 40625) → ((4 - x7_80.toInt).toNat < n_80) → V X 9 [(hy, .inr (10, [.ref m0, .ref m1, .ref m2, .ref m3, .ref m4, .ref m5, .ref m6, .ref m7, .ref m8, .ref m9, .int mw, .int ml, .int mb, .ref m10, .int mz, .ref m11, .int ghy16_80, .int bp, .int by0, .int dp, .int tk, .ref m12, .ref m13, .ref m14, .ref m15, .ref m16, .ref m17, .ref m18, .int ka, .int iw])), (m11, .inl (cI, 4, .inl fm11_80)), (m2, .inl (cI, 4, .inl ma)), (m4, .inl (cI, 4, .inl mg)), (m5, .inl (cI, 4, .inl mt)), (m7, .inl (cI, 6, .inl wf)), (m8, .inl (cI, 6, .inl wp)), (m9, .inl (cI, 6, .inl wt)), (m0, .inl (cI, 625, .inl ro)), (m1, .inl (cI, 65, .inl co)), (m13, .inl (cZ, 40625, .inl fm13_80))] [(7, .int x7_80), (6, .int ((65 * x4_40) + x5_51)), (5, .int x5_51), (4, .int x4_40), (3, .int x3_31), (0, .ref hy), (1, .int se), (2, .int de)] [] 80 0 0 := by
                              intro n_80
                              induction n_80 with
                              | zero =>
                                intro x7_80 ghy16_80 fm11_80 fm13_80 i_80 m_80
                                exact absurd m_80 (Nat.not_lt_zero _)
                              | succ n_80 ih_80 =>
                                intro x7_80 ghy16_80 fm11_80 fm13_80 i_80 m_80
                                refine x_iload C 0 dX10_findReached_80 rfl ?_
                                refine x_iconst C 4 dX10_findReached_82 (by decide) ?_
                                refine x_icmp_ge C 128 dX10_findReached_83 (by decide) (fun c_83 => ?_) (fun c_83 => ?_)
                                · skip
                                  have e_83 : (4 : Int32).toInt ≤ (x7_80 : Int32).toInt := i_le.mp c_83
                                  have : (4 : Int32).toInt = 4 := by decide
                                  refine x_iinc C 2 (x5_51 + 1) [(5, .int (x5_51 + 1)), (7, .int x7_80), (6, .int ((65 * x4_40) + x5_51)), (4, .int x4_40), (3, .int x3_31), (0, .ref hy), (1, .int se), (2, .int de)] dX10_findReached_128 rfl rfl (by decide) rfl ?_
                                  refine x_goto C 51 dX10_findReached_131 (by decide) ?_
                                  refine x_lv [(5, .int (x5_51 + 1)), (4, .int x4_40), (3, .int x3_31), (0, .ref hy), (1, .int se), (2, .int de)] [0, 3, 4, 5, 6, 7] rfl ?_
                                  have : (1 : Int32).toInt = 1 := by decide
                                  have := i_add (x := x5_51) (y := 1) (by omega) (by omega)
                                  exact ih_51 (x5_51 + 1) ghy16_80 fm11_80 fm13_80 ⟨by omega, i_80.2⟩ (by omega)
                                · skip
                                  have e_83 : ¬ ((4 : Int32).toInt ≤ (x7_80 : Int32).toInt) := fun h => c_83 (i_le.mpr h)
                                  have : (4 : Int32).toInt = 4 := by decide
                                  refine x_aload_n C 5 dX10_findReached_86 rfl rfl ?_
                                  refine x_get C 0 22 dX10_findReached_87 inlX10 rfl (by decide) wd_136 rfl rfl rfl ?_
                                  refine x_iload C 1 dX10_findReached_90 rfl ?_
                                  have v_92 : vp_in ((65 * x4_40) + x5_51) 40625 := (vp_in_iff.mpr (by omega))
                                  refine x_zald C 10 2 dX10_findReached_92 hT.2.2.1 rfl v_92 ?_
                                  refine x_if_eq C 128 dX10_findReached_93 (by decide) (fun c_93 => ?_) (fun c_93 => ?_)
                                  · skip
                                    have e_93 : (fm13_80 (Int32.toNatClampNeg ((65 * x4_40) + x5_51)) : Int32).toInt = (0 : Int32).toInt := i_eq.mp c_93
                                    have : (0 : Int32).toInt = 0 := by decide
                                    refine x_iinc C 2 (x5_51 + 1) [(5, .int (x5_51 + 1)), (7, .int x7_80), (6, .int ((65 * x4_40) + x5_51)), (4, .int x4_40), (3, .int x3_31), (0, .ref hy), (1, .int se), (2, .int de)] dX10_findReached_128 rfl rfl (by decide) rfl ?_
                                    refine x_goto C 51 dX10_findReached_131 (by decide) ?_
                                    refine x_lv [(5, .int (x5_51 + 1)), (4, .int x4_40), (3, .int x3_31), (0, .ref hy), (1, .int se), (2, .int de)] [0, 3, 4, 5, 6, 7] rfl ?_
                                    have : (1 : Int32).toInt = 1 := by decide
                                    have := i_add (x := x5_51) (y := 1) (by omega) (by omega)
                                    exact ih_51 (x5_51 + 1) ghy16_80 fm11_80 fm13_80 ⟨by omega, i_80.2⟩ (by omega)
                                  · skip
                                    have e_93 : ¬ ((fm13_80 (Int32.toNatClampNeg ((65 * x4_40) + x5_51)) : Int32).toInt = (0 : Int32).toInt) := fun h => c_93 (i_eq.mpr h)
                                    have : (0 : Int32).toInt = 0 := by decide
                                    have g9 := i_80.2 (65 * x4_40 + x5_51) (by omega) (by omega) (by omega)
                                    refine x_aload_n C 5 dX10_findReached_96 rfl rfl ?_
                                    refine x_iload C 1 dX10_findReached_97 rfl ?_
                                    refine x_iload C 0 dX10_findReached_99 rfl ?_
                                    refine x_iload_n C 6 dX10_findReached_101 rfl rfl ?_
                                    refine x_iload_n C 7 dX10_findReached_102 rfl rfl ?_
                                    refine x_iconst C 0 dX10_findReached_103 (by decide) ?_
                                    refine x_callV C [.int ((65 * x4_40) + x5_51), .int x7_80, .int se, .int de, .int 0] [(m13, .inl (cZ, 40625, .inl fm13_80))] [0, 1, 2, 3, 4, 5, 6, 7, 8, 9] [10] (q0 := 0) (c_X10_nextOf (xl X) (xD X) (xt X) hT hy m0 m1 m2 m3 m4 m5 m6 m7 m8 m9 m10 m11 m12 m13 m14 m15 m16 m17 m18 fm11_80 ma mg mt wf wp wt ro co mw ml mb mz ghy16_80 bp by0 dp tk ka iw ((65 * x4_40) + x5_51) x7_80 se de 0 (by omega) hR g9 (by omega) hmw hwt) dX10_findReached_104 wd_587 wd_588 wd_589 wd_5 wd_590 (np := 5) ⟨by decide, by decide, by decide +kernel⟩ rfl rfl (Nat.le_of_ble_eq_true rfl) (by decide) rfl rfl rfl rfl (by decide) rfl (by decide) (by decide) (fun v W1 h => ?_)
                                    obtain ⟨tl2_104, op2_104, rfl, rfl, h_104⟩ := h
                                    have : (0 : Int32).toInt = 0 := by decide
                                    show V X 9 [(m13, .inl (cZ, 40625, .inl fm13_80)), (hy, .inr (10, [.ref m0, .ref m1, .ref m2, .ref m3, .ref m4, .ref m5, .ref m6, .ref m7, .ref m8, .ref m9, .int mw, .int ml, .int mb, .ref m10, .int mz, .ref m11, .int op2_104, .int bp, .int by0, .int dp, .int tk, .ref m12, .ref m13, .ref m14, .ref m15, .ref m16, .ref m17, .ref m18, .int ka, .int iw])), (m11, .inl (cI, 4, .inl tl2_104)), (m2, .inl (cI, 4, .inl ma)), (m4, .inl (cI, 4, .inl mg)), (m5, .inl (cI, 4, .inl mt)), (m7, .inl (cI, 6, .inl wf)), (m8, .inl (cI, 6, .inl wp)), (m9, .inl (cI, 6, .inl wt)), (m0, .inl (cI, 625, .inl ro)), (m1, .inl (cI, 65, .inl co))] [(7, .int x7_80), (6, .int ((65 * x4_40) + x5_51)), (5, .int x5_51), (4, .int x4_40), (3, .int x3_31), (0, .ref hy), (1, .int se), (2, .int de)] [.int (nxF ma mg mt wf wp wt mw ml co ro ((65 * x4_40) + x5_51) x7_80 se de 0)] 107 0 0
                                    refine x_istore C [(8, .int (nxF ma mg mt wf wp wt mw ml co ro ((65 * x4_40) + x5_51) x7_80 se de 0)), (7, .int x7_80), (6, .int ((65 * x4_40) + x5_51)), (5, .int x5_51), (4, .int x4_40), (3, .int x3_31), (0, .ref hy), (1, .int se), (2, .int de)] dX10_findReached_107 (by decide) rfl ?_
                                    refine x_iload C 0 dX10_findReached_109 rfl ?_
                                    refine x_if_lt C 122 dX10_findReached_111 (by decide) (fun c_111 => ?_) (fun c_111 => ?_)
                                    · skip
                                      have e_111 : (nxF ma mg mt wf wp wt mw ml co ro ((65 * x4_40) + x5_51) x7_80 se de 0 : Int32).toInt < (0 : Int32).toInt := i_lt.mp c_111
                                      have : (0 : Int32).toInt = 0 := by decide
                                      refine x_iinc C 1 (x7_80 + 1) [(7, .int (x7_80 + 1)), (8, .int (nxF ma mg mt wf wp wt mw ml co ro ((65 * x4_40) + x5_51) x7_80 se de 0)), (6, .int ((65 * x4_40) + x5_51)), (5, .int x5_51), (4, .int x4_40), (3, .int x3_31), (0, .ref hy), (1, .int se), (2, .int de)] dX10_findReached_122 rfl rfl (by decide) rfl ?_
                                      refine x_goto C 80 dX10_findReached_125 (by decide) ?_
                                      refine x_sub [(hy, .inr (10, [.ref m0, .ref m1, .ref m2, .ref m3, .ref m4, .ref m5, .ref m6, .ref m7, .ref m8, .ref m9, .int mw, .int ml, .int mb, .ref m10, .int mz, .ref m11, .int op2_104, .int bp, .int by0, .int dp, .int tk, .ref m12, .ref m13, .ref m14, .ref m15, .ref m16, .ref m17, .ref m18, .int ka, .int iw])), (m11, .inl (cI, 4, .inl tl2_104)), (m2, .inl (cI, 4, .inl ma)), (m4, .inl (cI, 4, .inl mg)), (m5, .inl (cI, 4, .inl mt)), (m7, .inl (cI, 6, .inl wf)), (m8, .inl (cI, 6, .inl wp)), (m9, .inl (cI, 6, .inl wt)), (m0, .inl (cI, 625, .inl ro)), (m1, .inl (cI, 65, .inl co)), (m13, .inl (cZ, 40625, .inl fm13_80))] [1, 2, 3, 4, 5, 6, 7, 8, 9, 10, 0] (by decide) rfl ?_
                                      refine x_lv [(7, .int (x7_80 + 1)), (6, .int ((65 * x4_40) + x5_51)), (5, .int x5_51), (4, .int x4_40), (3, .int x3_31), (0, .ref hy), (1, .int se), (2, .int de)] [0, 2, 3, 4, 5, 6, 7, 8] rfl ?_
                                      have : (1 : Int32).toInt = 1 := by decide
                                      have := i_add (x := x7_80) (y := 1) (by omega) (by omega)
                                      exact ih_80 (x7_80 + 1) op2_104 tl2_104 fm13_80 ⟨by omega, i_80.2⟩ (by omega)
                                    · skip
                                      have e_111 : ¬ ((nxF ma mg mt wf wp wt mw ml co ro ((65 * x4_40) + x5_51) x7_80 se de 0 : Int32).toInt < (0 : Int32).toInt) := fun h => c_111 (i_lt.mpr h)
                                      have : (0 : Int32).toInt = 0 := by decide
                                      have n9 := nx_ok hR (by omega) g9 (by omega) (nl0 e_111)
                                      refine x_aload_n C 6 dX10_findReached_114 rfl rfl ?_
                                      refine x_get C 1 22 dX10_findReached_115 inlX10 rfl (by decide) wd_136 rfl rfl rfl ?_
                                      refine x_iload C 0 dX10_findReached_118 rfl ?_
                                      refine x_iconst C 1 dX10_findReached_120 (by decide) ?_
                                      have v_121 : vp_in (nxF ma mg mt wf wp wt mw ml co ro ((65 * x4_40) + x5_51) x7_80 se de 0) 40625 := (vp_in_iff.mpr (by omega))
                                      refine x_zast C 0 2 [(m13, .inl (cZ, 40625, .inl (upd fm13_80 (Int32.toNatClampNeg (nxF ma mg mt wf wp wt mw ml co ro ((65 * x4_40) + x5_51) x7_80 se de 0)) 1))), (hy, .inr (10, [.ref m0, .ref m1, .ref m2, .ref m3, .ref m4, .ref m5, .ref m6, .ref m7, .ref m8, .ref m9, .int mw, .int ml, .int mb, .ref m10, .int mz, .ref m11, .int op2_104, .int bp, .int by0, .int dp, .int tk, .ref m12, .ref m13, .ref m14, .ref m15, .ref m16, .ref m17, .ref m18, .int ka, .int iw])), (m11, .inl (cI, 4, .inl tl2_104)), (m2, .inl (cI, 4, .inl ma)), (m4, .inl (cI, 4, .inl mg)), (m5, .inl (cI, 4, .inl mt)), (m7, .inl (cI, 6, .inl wf)), (m8, .inl (cI, 6, .inl wp)), (m9, .inl (cI, 6, .inl wt)), (m0, .inl (cI, 625, .inl ro)), (m1, .inl (cI, 65, .inl co))] dX10_findReached_121 hT.2.2.1 rfl v_121 rfl rfl ?_
                                      refine x_iinc C 1 (x7_80 + 1) [(7, .int (x7_80 + 1)), (8, .int (nxF ma mg mt wf wp wt mw ml co ro ((65 * x4_40) + x5_51) x7_80 se de 0)), (6, .int ((65 * x4_40) + x5_51)), (5, .int x5_51), (4, .int x4_40), (3, .int x3_31), (0, .ref hy), (1, .int se), (2, .int de)] dX10_findReached_122 rfl rfl (by decide) rfl ?_
                                      refine x_goto C 80 dX10_findReached_125 (by decide) ?_
                                      refine x_sub [(hy, .inr (10, [.ref m0, .ref m1, .ref m2, .ref m3, .ref m4, .ref m5, .ref m6, .ref m7, .ref m8, .ref m9, .int mw, .int ml, .int mb, .ref m10, .int mz, .ref m11, .int op2_104, .int bp, .int by0, .int dp, .int tk, .ref m12, .ref m13, .ref m14, .ref m15, .ref m16, .ref m17, .ref m18, .int ka, .int iw])), (m11, .inl (cI, 4, .inl tl2_104)), (m2, .inl (cI, 4, .inl ma)), (m4, .inl (cI, 4, .inl mg)), (m5, .inl (cI, 4, .inl mt)), (m7, .inl (cI, 6, .inl wf)), (m8, .inl (cI, 6, .inl wp)), (m9, .inl (cI, 6, .inl wt)), (m0, .inl (cI, 625, .inl ro)), (m1, .inl (cI, 65, .inl co)), (m13, .inl (cZ, 40625, .inl (upd fm13_80 (Int32.toNatClampNeg (nxF ma mg mt wf wp wt mw ml co ro ((65 * x4_40) + x5_51) x7_80 se de 0)) 1)))] [1, 2, 3, 4, 5, 6, 7, 8, 9, 10, 0] (by decide) rfl ?_
                                      refine x_lv [(7, .int (x7_80 + 1)), (6, .int ((65 * x4_40) + x5_51)), (5, .int x5_51), (4, .int x4_40), (3, .int x3_31), (0, .ref hy), (1, .int se), (2, .int de)] [0, 2, 3, 4, 5, 6, 7, 8] rfl ?_
                                      have : (1 : Int32).toInt = 1 := by decide
                                      have := i_add (x := x7_80) (y := 1) (by omega) (by omega)
                                      exact ih_80 (x7_80 + 1) op2_104 tl2_104 (upd fm13_80 (Int32.toNatClampNeg (nxF ma mg mt wf wp wt mw ml co ro ((65 * x4_40) + x5_51) x7_80 se de 0)) 1) ⟨by omega, i_80.2.upd (by omega) (fun _ => n9.2.1) (Or.inl (by omega))⟩ (by omega)
                            have : (0 : Int32).toInt = 0 := by decide
                            exact L_80 _ 0 ghy16_51 fm11_51 fm13_51 ⟨by omega, i_51.2⟩ (Nat.lt_succ_self _)
                    have : (0 : Int32).toInt = 0 := by decide
                    exact L_51 _ 0 ghy16_40 fm11_40 fm13_40 ⟨by omega, i_40.2⟩ (Nat.lt_succ_self _)
              have : (0 : Int32).toInt = 0 := by decide
              exact L_40 _ 0 ghy16_31 fm11_31 fm13_31 ⟨by omega, i_31.2⟩ (Nat.lt_succ_self _)
        have : (0 : Int32).toInt = 0 := by decide
        exact L_31 _ 0 op tl fm13_2 ⟨by omega, i_2.2.mono (by omega)⟩ (Nat.lt_succ_self _)
      · skip
        have e_5 : ¬ ((40625 : Int32).toInt ≤ (x3_2 : Int32).toInt) := fun h => c_5 (i_le.mpr h)
        have : (40625 : Int32).toInt = 40625 := by decide
        refine x_aload_n C 1 dX10_findReached_8 rfl rfl ?_
        refine x_get C 0 22 dX10_findReached_9 inlX10 rfl (by decide) wd_136 rfl rfl rfl ?_
        refine x_iload_n C 0 dX10_findReached_12 rfl rfl ?_
        refine x_iload_n C 0 dX10_findReached_13 rfl rfl ?_
        refine x_if_ne C 21 dX10_findReached_14 (by decide) (fun c_14 => ?_) (fun c_14 => ?_)
        · skip
          have e_14 : ¬ ((x3_2 : Int32).toInt = (0 : Int32).toInt) := fun h => c_14 (i_eq.mpr h)
          have : (0 : Int32).toInt = 0 := by decide
          refine x_iconst C 0 dX10_findReached_21 (by decide) ?_
          have v_22 : vp_in x3_2 40625 := (vp_in_iff.mpr (by omega))
          refine x_zast C 10 2 [(hy, .inr (10, [.ref m0, .ref m1, .ref m2, .ref m3, .ref m4, .ref m5, .ref m6, .ref m7, .ref m8, .ref m9, .int mw, .int ml, .int mb, .ref m10, .int mz, .ref m11, .int op, .int bp, .int by0, .int dp, .int tk, .ref m12, .ref m13, .ref m14, .ref m15, .ref m16, .ref m17, .ref m18, .int ka, .int iw])), (m11, .inl (cI, 4, .inl tl)), (m2, .inl (cI, 4, .inl ma)), (m4, .inl (cI, 4, .inl mg)), (m5, .inl (cI, 4, .inl mt)), (m7, .inl (cI, 6, .inl wf)), (m8, .inl (cI, 6, .inl wp)), (m9, .inl (cI, 6, .inl wt)), (m0, .inl (cI, 625, .inl ro)), (m1, .inl (cI, 65, .inl co)), (m13, .inl (cZ, 40625, .inl (upd fm13_2 (Int32.toNatClampNeg x3_2) 0)))] dX10_findReached_22 hT.2.2.1 rfl v_22 rfl rfl ?_
          refine x_iinc C 0 (x3_2 + 1) [(3, .int (x3_2 + 1)), (0, .ref hy), (1, .int se), (2, .int de)] dX10_findReached_23 rfl rfl (by decide) rfl ?_
          refine x_goto C 2 dX10_findReached_26 (by decide) ?_
          have : (1 : Int32).toInt = 1 := by decide
          have := i_add (x := x3_2) (y := 1) (by omega) (by omega)
          exact ih_2 (x3_2 + 1) (upd fm13_2 (Int32.toNatClampNeg x3_2) 0) ⟨by omega, i_2.2.upd (by omega) (fun h => absurd t0_ h) (Or.inr ⟨by omega, by omega⟩)⟩ (by omega)
        · skip
          have e_14 : (x3_2 : Int32).toInt = (0 : Int32).toInt := i_eq.mp c_14
          have : (0 : Int32).toInt = 0 := by decide
          refine x_iconst C 1 dX10_findReached_17 (by decide) ?_
          refine x_goto C 22 dX10_findReached_18 (by decide) ?_
          have v_22 : vp_in x3_2 40625 := (vp_in_iff.mpr (by omega))
          refine x_zast C 10 2 [(hy, .inr (10, [.ref m0, .ref m1, .ref m2, .ref m3, .ref m4, .ref m5, .ref m6, .ref m7, .ref m8, .ref m9, .int mw, .int ml, .int mb, .ref m10, .int mz, .ref m11, .int op, .int bp, .int by0, .int dp, .int tk, .ref m12, .ref m13, .ref m14, .ref m15, .ref m16, .ref m17, .ref m18, .int ka, .int iw])), (m11, .inl (cI, 4, .inl tl)), (m2, .inl (cI, 4, .inl ma)), (m4, .inl (cI, 4, .inl mg)), (m5, .inl (cI, 4, .inl mt)), (m7, .inl (cI, 6, .inl wf)), (m8, .inl (cI, 6, .inl wp)), (m9, .inl (cI, 6, .inl wt)), (m0, .inl (cI, 625, .inl ro)), (m1, .inl (cI, 65, .inl co)), (m13, .inl (cZ, 40625, .inl (upd fm13_2 (Int32.toNatClampNeg x3_2) 1)))] dX10_findReached_22 hT.2.2.1 rfl v_22 rfl rfl ?_
          refine x_iinc C 0 (x3_2 + 1) [(3, .int (x3_2 + 1)), (0, .ref hy), (1, .int se), (2, .int de)] dX10_findReached_23 rfl rfl (by decide) rfl ?_
          refine x_goto C 2 dX10_findReached_26 (by decide) ?_
          have : (1 : Int32).toInt = 1 := by decide
          have := i_add (x := x3_2) (y := 1) (by omega) (by omega)
          exact ih_2 (x3_2 + 1) (upd fm13_2 (Int32.toNatClampNeg x3_2) 1) ⟨by omega, i_2.2.upd (by omega) (fun _ => by rw [c_14]; exact GS.z hpa hR.2.1) (Or.inr ⟨by omega, by omega⟩)⟩ (by omega)
  have : (0 : Int32).toInt = 0 := by decide
  exact L_2 _ 0 ir ⟨by omega, RCH.z (by omega)⟩ (Nat.lt_succ_self _)
abbrev rm_X10_hasBy : Room := { frames := 2, cells := 0, slots := 0, locals := 44 }
set_option maxHeartbeats 4000000 in
set_option maxRecDepth 100000 in
theorem c_X10_hasBy (l : Launch) (D : va_G) (tys : List (ClassId × FieldType)) {cI cJ cZ cB : ClassId} (hT : Ty tys cI cJ cZ cB) (hy m0 m1 m2 m3 m4 m5 m6 m7 m8 m9 m10 m11 m12 m13 m14 m15 m16 m17 m18 : Nat) (tl co ma mm ch : Nat → Int32) (mw ml mb mz op bp by0 dp tk ka iw : Int32) (a s t : Int32) (hst : 0 ≤ a.toInt ∧ a.toInt < 40625) (hs : 0 ≤ s.toInt ∧ s.toInt ≤ 3) (hmm : MOk mm) (hch : Z01 ch) : Cn l D tys yX10_hasBy cX10_hasBy 4 (some .boolean) rm_X10_hasBy [(hy, .inr (10, [.ref m0, .ref m1, .ref m2, .ref m3, .ref m4, .ref m5, .ref m6, .ref m7, .ref m8, .ref m9, .int mw, .int ml, .int mb, .ref m10, .int mz, .ref m11, .int op, .int bp, .int by0, .int dp, .int tk, .ref m12, .ref m13, .ref m14, .ref m15, .ref m16, .ref m17, .ref m18, .int ka, .int iw])), (m11, .inl (cI, 4, .inl tl)), (m1, .inl (cI, 65, .inl co)), (m2, .inl (cI, 4, .inl ma)), (m3, .inl (cI, 16, .inl mm)), (m16, .inl (cZ, 40625, .inl ch))] [.ref hy, .int a, .int s, .int t] (fun v W1 => ∃ (r : Int32) (tl2 : Nat → Int32) (op2 : Int32), v = some (.int r) ∧ W1 = [(hy, .inr (10, [.ref m0, .ref m1, .ref m2, .ref m3, .ref m4, .ref m5, .ref m6, .ref m7, .ref m8, .ref m9, .int mw, .int ml, .int mb, .ref m10, .int mz, .ref m11, .int op2, .int bp, .int by0, .int dp, .int tk, .ref m12, .ref m13, .ref m14, .ref m15, .ref m16, .ref m17, .ref m18, .int ka, .int iw])), (m11, .inl (cI, 4, .inl tl2)), (m1, .inl (cI, 65, .inl co)), (m2, .inl (cI, 4, .inl ma)), (m3, .inl (cI, 16, .inl mm)), (m16, .inl (cZ, 40625, .inl ch))] ∧ (r.toInt = 0 ∨ r.toInt = 1)) := by
  refine Cn.of (by decide) (Nat.le_of_ble_eq_true rfl) ?_ ?_ (fun X eL eD eT eO eK eN eM C => ?_)
  · intro _ v ws h; obtain ⟨_, _, _, rfl, rfl, h⟩ := h; exact z_of (by omega)
  · intro v ws h; obtain ⟨_, _, _, rfl, rfl, _⟩ := h; exact Or.inr rfl
  subst eL eD eT
  show V X 4 [(hy, .inr (10, [.ref m0, .ref m1, .ref m2, .ref m3, .ref m4, .ref m5, .ref m6, .ref m7, .ref m8, .ref m9, .int mw, .int ml, .int mb, .ref m10, .int mz, .ref m11, .int op, .int bp, .int by0, .int dp, .int tk, .ref m12, .ref m13, .ref m14, .ref m15, .ref m16, .ref m17, .ref m18, .int ka, .int iw])), (m11, .inl (cI, 4, .inl tl)), (m1, .inl (cI, 65, .inl co)), (m2, .inl (cI, 4, .inl ma)), (m3, .inl (cI, 16, .inl mm)), (m16, .inl (cZ, 40625, .inl ch))] [(0, .ref hy), (1, .int a), (2, .int s), (3, .int t)] [] 0 0 0
  refine x_aload_n C 0 dX10_hasBy_0 rfl rfl ?_
  refine x_iload_n C 1 dX10_hasBy_1 rfl rfl ?_
  refine x_callV C [.int a] [(m2, .inl (cI, 4, .inl ma)), (m3, .inl (cI, 16, .inl mm)), (m16, .inl (cZ, 40625, .inl ch))] [0, 1, 2] [3, 4, 5] (q0 := 0) (c_X10_lay (xl X) (xD X) (xt X) hT hy m0 m1 m2 m3 m4 m5 m6 m7 m8 m9 m10 m11 m12 m13 m14 m15 m16 m17 m18 tl co mw ml mb mz op bp by0 dp tk ka iw a hst) dX10_hasBy_2 wd_430 wd_431 wd_432 wd_5 wd_433 (np := 1) ⟨by decide, by decide, by decide +kernel⟩ rfl rfl (Nat.le_of_ble_eq_true rfl) (by decide) rfl rfl rfl rfl (by decide) rfl (by decide) (by decide) (fun v W1 h => ?_)
  obtain ⟨_, rfl, rfl, h_2⟩ := h
  show V X 4 [(m2, .inl (cI, 4, .inl ma)), (m3, .inl (cI, 16, .inl mm)), (m16, .inl (cZ, 40625, .inl ch)), (hy, .inr (10, [.ref m0, .ref m1, .ref m2, .ref m3, .ref m4, .ref m5, .ref m6, .ref m7, .ref m8, .ref m9, .int mw, .int ml, .int mb, .ref m10, .int mz, .ref m11, .int (opS co a), .int bp, .int by0, .int dp, .int tk, .ref m12, .ref m13, .ref m14, .ref m15, .ref m16, .ref m17, .ref m18, .int ka, .int iw])), (m11, .inl (cI, 4, .inl (tds a))), (m1, .inl (cI, 65, .inl co))] [(0, .ref hy), (1, .int a), (2, .int s), (3, .int t)] [] 5 0 0
  refine x_aload_n C 0 dX10_hasBy_5 rfl rfl ?_
  refine x_iload_n C 2 dX10_hasBy_6 rfl rfl ?_
  refine x_callV C [.int s] [(m3, .inl (cI, 16, .inl mm)), (m16, .inl (cZ, 40625, .inl ch)), (m1, .inl (cI, 65, .inl co))] [3, 4, 0] [1, 2, 5] (q0 := 0) (c_X10_isOut (xl X) (xD X) (xt X) hT hy m0 m1 m2 m3 m4 m5 m6 m7 m8 m9 m10 m11 m12 m13 m14 m15 m16 m17 m18 (tds a) ma mw ml mb mz (opS co a) bp by0 dp tk ka iw s hs) dX10_hasBy_7 wd_443 wd_444 wd_445 wd_5 wd_446 (np := 1) ⟨by decide, by decide, by decide +kernel⟩ rfl rfl (Nat.le_of_ble_eq_true rfl) (by decide) rfl rfl rfl rfl (by decide) rfl (by decide) (by decide) (fun v W1 h => ?_)
  obtain ⟨r_7, rfl, rfl, h_7⟩ := h
  show V X 4 [(m3, .inl (cI, 16, .inl mm)), (m16, .inl (cZ, 40625, .inl ch)), (m1, .inl (cI, 65, .inl co)), (hy, .inr (10, [.ref m0, .ref m1, .ref m2, .ref m3, .ref m4, .ref m5, .ref m6, .ref m7, .ref m8, .ref m9, .int mw, .int ml, .int mb, .ref m10, .int mz, .ref m11, .int ((opS co a)), .int bp, .int by0, .int dp, .int tk, .ref m12, .ref m13, .ref m14, .ref m15, .ref m16, .ref m17, .ref m18, .int ka, .int iw])), (m11, .inl (cI, 4, .inl ((tds a)))), (m2, .inl (cI, 4, .inl ma))] [(0, .ref hy), (1, .int a), (2, .int s), (3, .int t)] [.int r_7] 10 0 0
  refine x_if_eq C 29 dX10_hasBy_10 (by decide) (fun c_10 => ?_) (fun c_10 => ?_)
  · skip
    have e_10 : (r_7 : Int32).toInt = (0 : Int32).toInt := i_eq.mp c_10
    have : (0 : Int32).toInt = 0 := by decide
    refine x_aload_n C 0 dX10_hasBy_29 rfl rfl ?_
    refine x_get C 3 25 dX10_hasBy_30 inlX10 rfl (by decide) wd_140 rfl rfl rfl ?_
    refine x_iload_n C 1 dX10_hasBy_33 rfl rfl ?_
    have v_34 : vp_in a 40625 := (vp_in_iff.mpr (by omega))
    refine x_zald C 1 2 dX10_hasBy_34 hT.2.2.1 rfl v_34 ?_
    refine x_sub [(hy, .inr (10, [.ref m0, .ref m1, .ref m2, .ref m3, .ref m4, .ref m5, .ref m6, .ref m7, .ref m8, .ref m9, .int mw, .int ml, .int mb, .ref m10, .int mz, .ref m11, .int ((opS co a)), .int bp, .int by0, .int dp, .int tk, .ref m12, .ref m13, .ref m14, .ref m15, .ref m16, .ref m17, .ref m18, .int ka, .int iw])), (m11, .inl (cI, 4, .inl ((tds a)))), (m1, .inl (cI, 65, .inl co)), (m2, .inl (cI, 4, .inl ma)), (m3, .inl (cI, 16, .inl mm)), (m16, .inl (cZ, 40625, .inl ch))] [3, 4, 2, 5, 0, 1] (by decide) rfl ?_
    exact x_iret C dX10_hasBy_35 (Nat.zero_le _) (Nat.zero_le _) (by rw [eO]; exact ⟨(ch (Int32.toNatClampNeg a)), ((tds a)), ((opS co a)), rfl, rfl, (by first | exact hch _ | omega)⟩)
  · skip
    have e_10 : ¬ ((r_7 : Int32).toInt = (0 : Int32).toInt) := fun h => c_10 (i_eq.mpr h)
    have : (0 : Int32).toInt = 0 := by decide
    refine x_aload_n C 0 dX10_hasBy_13 rfl rfl ?_
    refine x_callV C [] [(m16, .inl (cZ, 40625, .inl ch)), (m1, .inl (cI, 65, .inl co)), (m2, .inl (cI, 4, .inl ma))] [3, 4, 0] [1, 2, 5] (q0 := 0) (c_X10_minutesNow (xl X) (xD X) (xt X) hT hy m0 m1 m2 m3 m4 m5 m6 m7 m8 m9 m10 m11 m12 m13 m14 m15 m16 m17 m18 ((tds a)) mm mw ml mb mz ((opS co a)) bp by0 dp tk ka iw (tds_4 (by omega)) hmm) dX10_hasBy_14 wd_693 wd_694 wd_695 wd_5 wd_696 (np := 0) ⟨by decide, by decide, by decide +kernel⟩ rfl rfl (Nat.le_of_ble_eq_true rfl) (by decide) rfl rfl rfl rfl (by decide) rfl (by decide) (by decide) (fun v W1 h => ?_)
    obtain ⟨r_14, rfl, rfl, h_14⟩ := h
    show V X 4 [(m16, .inl (cZ, 40625, .inl ch)), (m1, .inl (cI, 65, .inl co)), (m2, .inl (cI, 4, .inl ma)), (hy, .inr (10, [.ref m0, .ref m1, .ref m2, .ref m3, .ref m4, .ref m5, .ref m6, .ref m7, .ref m8, .ref m9, .int mw, .int ml, .int mb, .ref m10, .int mz, .ref m11, .int (((opS co a))), .int bp, .int by0, .int dp, .int tk, .ref m12, .ref m13, .ref m14, .ref m15, .ref m16, .ref m17, .ref m18, .int ka, .int iw])), (m11, .inl (cI, 4, .inl (((tds a))))), (m3, .inl (cI, 16, .inl mm))] [(0, .ref hy), (1, .int a), (2, .int s), (3, .int t)] [.int r_14] 17 0 0
    refine x_iload_n C 3 dX10_hasBy_17 rfl rfl ?_
    refine x_icmp_ne C 25 dX10_hasBy_18 (by decide) (fun c_18 => ?_) (fun c_18 => ?_)
    · skip
      have e_18 : ¬ ((r_14 : Int32).toInt = (t : Int32).toInt) := fun h => c_18 (i_eq.mpr h)
      refine x_iconst C 0 dX10_hasBy_25 (by decide) ?_
      refine x_goto C 35 dX10_hasBy_26 (by decide) ?_
      refine x_sub [(hy, .inr (10, [.ref m0, .ref m1, .ref m2, .ref m3, .ref m4, .ref m5, .ref m6, .ref m7, .ref m8, .ref m9, .int mw, .int ml, .int mb, .ref m10, .int mz, .ref m11, .int (((opS co a))), .int bp, .int by0, .int dp, .int tk, .ref m12, .ref m13, .ref m14, .ref m15, .ref m16, .ref m17, .ref m18, .int ka, .int iw])), (m11, .inl (cI, 4, .inl (((tds a))))), (m1, .inl (cI, 65, .inl co)), (m2, .inl (cI, 4, .inl ma)), (m3, .inl (cI, 16, .inl mm)), (m16, .inl (cZ, 40625, .inl ch))] [3, 4, 1, 2, 5, 0] (by decide) rfl ?_
      have : (0 : Int32).toInt = 0 := by decide
      exact x_iret C dX10_hasBy_35 (Nat.zero_le _) (Nat.zero_le _) (by rw [eO]; exact ⟨0, (((tds a))), (((opS co a))), rfl, rfl, (by first | exact hch _ | omega)⟩)
    · skip
      have e_18 : (r_14 : Int32).toInt = (t : Int32).toInt := i_eq.mp c_18
      refine x_iconst C 1 dX10_hasBy_21 (by decide) ?_
      refine x_goto C 35 dX10_hasBy_22 (by decide) ?_
      refine x_sub [(hy, .inr (10, [.ref m0, .ref m1, .ref m2, .ref m3, .ref m4, .ref m5, .ref m6, .ref m7, .ref m8, .ref m9, .int mw, .int ml, .int mb, .ref m10, .int mz, .ref m11, .int (((opS co a))), .int bp, .int by0, .int dp, .int tk, .ref m12, .ref m13, .ref m14, .ref m15, .ref m16, .ref m17, .ref m18, .int ka, .int iw])), (m11, .inl (cI, 4, .inl (((tds a))))), (m1, .inl (cI, 65, .inl co)), (m2, .inl (cI, 4, .inl ma)), (m3, .inl (cI, 16, .inl mm)), (m16, .inl (cZ, 40625, .inl ch))] [3, 4, 1, 2, 5, 0] (by decide) rfl ?_
      have : (1 : Int32).toInt = 1 := by decide
      exact x_iret C dX10_hasBy_35 (Nat.zero_le _) (Nat.zero_le _) (by rw [eO]; exact ⟨1, (((tds a))), (((opS co a))), rfl, rfl, (by first | exact hch _ | omega)⟩)
abbrev rm_X10_hasIt : Room := { frames := 4, cells := 0, slots := 0, locals := 96 }
set_option maxHeartbeats 4000000 in
set_option maxRecDepth 100000 in
theorem c_X10_hasIt (l : Launch) (D : va_G) (tys : List (ClassId × FieldType)) {cI cJ cZ cB : ClassId} (hT : Ty tys cI cJ cZ cB) (hy m0 m1 m2 m3 m4 m5 m6 m7 m8 m9 m10 m11 m12 m13 m14 m15 m16 m17 m18 : Nat) (tl ma mg mt wf wp wt ro co mm ch : Nat → Int32) (mw ml mb mz op bp by0 dp tk ka iw : Int32) (a s se t : Int32) (hst : 0 ≤ a.toInt ∧ a.toInt < 40625) (hs : 0 ≤ s.toInt ∧ s.toInt ≤ 3) (hmm : MOk mm) (hch : Z01 ch) (hR : RT co ro) (hpa : POk ma) (hmw : 0 ≤ mw.toInt ∧ mw.toInt ≤ 6) (hwt : SOk wt) : Cn l D tys yX10_hasIt cX10_hasIt 11 (some .boolean) rm_X10_hasIt [(hy, .inr (10, [.ref m0, .ref m1, .ref m2, .ref m3, .ref m4, .ref m5, .ref m6, .ref m7, .ref m8, .ref m9, .int mw, .int ml, .int mb, .ref m10, .int mz, .ref m11, .int op, .int bp, .int by0, .int dp, .int tk, .ref m12, .ref m13, .ref m14, .ref m15, .ref m16, .ref m17, .ref m18, .int ka, .int iw])), (m11, .inl (cI, 4, .inl tl)), (m2, .inl (cI, 4, .inl ma)), (m4, .inl (cI, 4, .inl mg)), (m5, .inl (cI, 4, .inl mt)), (m7, .inl (cI, 6, .inl wf)), (m8, .inl (cI, 6, .inl wp)), (m9, .inl (cI, 6, .inl wt)), (m0, .inl (cI, 625, .inl ro)), (m1, .inl (cI, 65, .inl co)), (m3, .inl (cI, 16, .inl mm)), (m16, .inl (cZ, 40625, .inl ch))] [.ref hy, .int a, .int s, .int se, .int t] (fun v W1 => ∃ (r : Int32) (tl2 : Nat → Int32) (op2 : Int32), v = some (.int r) ∧ W1 = [(hy, .inr (10, [.ref m0, .ref m1, .ref m2, .ref m3, .ref m4, .ref m5, .ref m6, .ref m7, .ref m8, .ref m9, .int mw, .int ml, .int mb, .ref m10, .int mz, .ref m11, .int op2, .int bp, .int by0, .int dp, .int tk, .ref m12, .ref m13, .ref m14, .ref m15, .ref m16, .ref m17, .ref m18, .int ka, .int iw])), (m11, .inl (cI, 4, .inl tl2)), (m2, .inl (cI, 4, .inl ma)), (m4, .inl (cI, 4, .inl mg)), (m5, .inl (cI, 4, .inl mt)), (m7, .inl (cI, 6, .inl wf)), (m8, .inl (cI, 6, .inl wp)), (m9, .inl (cI, 6, .inl wt)), (m0, .inl (cI, 625, .inl ro)), (m1, .inl (cI, 65, .inl co)), (m3, .inl (cI, 16, .inl mm)), (m16, .inl (cZ, 40625, .inl ch))] ∧ (r.toInt = 0 ∨ r.toInt = 1)) := by
  refine Cn.of (by decide) (Nat.le_of_ble_eq_true rfl) ?_ ?_ (fun X eL eD eT eO eK eN eM C => ?_)
  · intro _ v ws h; obtain ⟨_, _, _, rfl, rfl, h⟩ := h; exact z_of (by omega)
  · intro v ws h; obtain ⟨_, _, _, rfl, rfl, _⟩ := h; exact Or.inr rfl
  subst eL eD eT
  show V X 11 [(hy, .inr (10, [.ref m0, .ref m1, .ref m2, .ref m3, .ref m4, .ref m5, .ref m6, .ref m7, .ref m8, .ref m9, .int mw, .int ml, .int mb, .ref m10, .int mz, .ref m11, .int op, .int bp, .int by0, .int dp, .int tk, .ref m12, .ref m13, .ref m14, .ref m15, .ref m16, .ref m17, .ref m18, .int ka, .int iw])), (m11, .inl (cI, 4, .inl tl)), (m2, .inl (cI, 4, .inl ma)), (m4, .inl (cI, 4, .inl mg)), (m5, .inl (cI, 4, .inl mt)), (m7, .inl (cI, 6, .inl wf)), (m8, .inl (cI, 6, .inl wp)), (m9, .inl (cI, 6, .inl wt)), (m0, .inl (cI, 625, .inl ro)), (m1, .inl (cI, 65, .inl co)), (m3, .inl (cI, 16, .inl mm)), (m16, .inl (cZ, 40625, .inl ch))] [(0, .ref hy), (1, .int a), (2, .int s), (3, .int se), (4, .int t)] [] 0 0 0
  have g1 := opS_row hR (show 0 ≤ a.toInt by omega)
  have g2 := g1.rng
  refine x_aload_n C 0 dX10_hasIt_0 rfl rfl ?_
  refine x_iload_n C 1 dX10_hasIt_1 rfl rfl ?_
  refine x_callV C [.int a] [(m2, .inl (cI, 4, .inl ma)), (m4, .inl (cI, 4, .inl mg)), (m5, .inl (cI, 4, .inl mt)), (m7, .inl (cI, 6, .inl wf)), (m8, .inl (cI, 6, .inl wp)), (m9, .inl (cI, 6, .inl wt)), (m0, .inl (cI, 625, .inl ro)), (m3, .inl (cI, 16, .inl mm)), (m16, .inl (cZ, 40625, .inl ch))] [0, 1, 9] [2, 3, 4, 5, 6, 7, 8, 10, 11] (q0 := 0) (c_X10_lay (xl X) (xD X) (xt X) hT hy m0 m1 m2 m3 m4 m5 m6 m7 m8 m9 m10 m11 m12 m13 m14 m15 m16 m17 m18 tl co mw ml mb mz op bp by0 dp tk ka iw a hst) dX10_hasIt_2 wd_430 wd_431 wd_432 wd_5 wd_433 (np := 1) ⟨by decide, by decide, by decide +kernel⟩ rfl rfl (Nat.le_of_ble_eq_true rfl) (by decide) rfl rfl rfl rfl (by decide) rfl (by decide) (by decide) (fun v W1 h => ?_)
  obtain ⟨_, rfl, rfl, h_2⟩ := h
  show V X 11 [(m2, .inl (cI, 4, .inl ma)), (m4, .inl (cI, 4, .inl mg)), (m5, .inl (cI, 4, .inl mt)), (m7, .inl (cI, 6, .inl wf)), (m8, .inl (cI, 6, .inl wp)), (m9, .inl (cI, 6, .inl wt)), (m0, .inl (cI, 625, .inl ro)), (m3, .inl (cI, 16, .inl mm)), (m16, .inl (cZ, 40625, .inl ch)), (hy, .inr (10, [.ref m0, .ref m1, .ref m2, .ref m3, .ref m4, .ref m5, .ref m6, .ref m7, .ref m8, .ref m9, .int mw, .int ml, .int mb, .ref m10, .int mz, .ref m11, .int (opS co a), .int bp, .int by0, .int dp, .int tk, .ref m12, .ref m13, .ref m14, .ref m15, .ref m16, .ref m17, .ref m18, .int ka, .int iw])), (m11, .inl (cI, 4, .inl (tds a))), (m1, .inl (cI, 65, .inl co))] [(0, .ref hy), (1, .int a), (2, .int s), (3, .int se), (4, .int t)] [] 5 0 0
  refine x_aload_n C 0 dX10_hasIt_5 rfl rfl ?_
  refine x_iload_n C 3 dX10_hasIt_6 rfl rfl ?_
  refine x_callV C [.int se] [(m4, .inl (cI, 4, .inl mg)), (m5, .inl (cI, 4, .inl mt)), (m7, .inl (cI, 6, .inl wf)), (m8, .inl (cI, 6, .inl wp)), (m9, .inl (cI, 6, .inl wt)), (m0, .inl (cI, 625, .inl ro)), (m3, .inl (cI, 16, .inl mm)), (m16, .inl (cZ, 40625, .inl ch)), (m1, .inl (cI, 65, .inl co))] [9, 10, 0] [1, 2, 3, 4, 5, 6, 7, 8, 11] (q0 := 0) (c_X10_canBe (xl X) (xD X) (xt X) hT hy m0 m1 m2 m3 m4 m5 m6 m7 m8 m9 m10 m11 m12 m13 m14 m15 m16 m17 m18 (tds a) ma mw ml mb mz (opS co a) bp by0 dp tk ka iw se (by omega)) dX10_hasIt_7 wd_579 wd_580 wd_581 wd_5 wd_582 (np := 1) ⟨by decide, by decide, by decide +kernel⟩ rfl rfl (Nat.le_of_ble_eq_true rfl) (by decide) rfl rfl rfl rfl (by decide) rfl (by decide) (by decide) (fun v W1 h => ?_)
  obtain ⟨r_7, rfl, rfl, h_7⟩ := h
  show V X 11 [(m4, .inl (cI, 4, .inl mg)), (m5, .inl (cI, 4, .inl mt)), (m7, .inl (cI, 6, .inl wf)), (m8, .inl (cI, 6, .inl wp)), (m9, .inl (cI, 6, .inl wt)), (m0, .inl (cI, 625, .inl ro)), (m3, .inl (cI, 16, .inl mm)), (m16, .inl (cZ, 40625, .inl ch)), (m1, .inl (cI, 65, .inl co)), (hy, .inr (10, [.ref m0, .ref m1, .ref m2, .ref m3, .ref m4, .ref m5, .ref m6, .ref m7, .ref m8, .ref m9, .int mw, .int ml, .int mb, .ref m10, .int mz, .ref m11, .int ((opS co a)), .int bp, .int by0, .int dp, .int tk, .ref m12, .ref m13, .ref m14, .ref m15, .ref m16, .ref m17, .ref m18, .int ka, .int iw])), (m11, .inl (cI, 4, .inl ((tds a)))), (m2, .inl (cI, 4, .inl ma))] [(0, .ref hy), (1, .int a), (2, .int s), (3, .int se), (4, .int t)] [.int r_7] 10 0 0
  refine x_if_eq C 21 dX10_hasIt_10 (by decide) (fun c_10 => ?_) (fun c_10 => ?_)
  · skip
    have e_10 : (r_7 : Int32).toInt = (0 : Int32).toInt := i_eq.mp c_10
    have : (0 : Int32).toInt = 0 := by decide
    refine x_iconst C 0 dX10_hasIt_21 (by decide) ?_
    refine x_sub [(hy, .inr (10, [.ref m0, .ref m1, .ref m2, .ref m3, .ref m4, .ref m5, .ref m6, .ref m7, .ref m8, .ref m9, .int mw, .int ml, .int mb, .ref m10, .int mz, .ref m11, .int ((opS co a)), .int bp, .int by0, .int dp, .int tk, .ref m12, .ref m13, .ref m14, .ref m15, .ref m16, .ref m17, .ref m18, .int ka, .int iw])), (m11, .inl (cI, 4, .inl ((tds a)))), (m2, .inl (cI, 4, .inl ma)), (m4, .inl (cI, 4, .inl mg)), (m5, .inl (cI, 4, .inl mt)), (m7, .inl (cI, 6, .inl wf)), (m8, .inl (cI, 6, .inl wp)), (m9, .inl (cI, 6, .inl wt)), (m0, .inl (cI, 625, .inl ro)), (m1, .inl (cI, 65, .inl co)), (m3, .inl (cI, 16, .inl mm)), (m16, .inl (cZ, 40625, .inl ch))] [9, 10, 11, 0, 1, 2, 3, 4, 5, 8, 6, 7] (by decide) rfl ?_
    have : (0 : Int32).toInt = 0 := by decide
    exact x_iret C dX10_hasIt_22 (Nat.zero_le _) (Nat.zero_le _) (by rw [eO]; exact ⟨0, ((tds a)), ((opS co a)), rfl, rfl, (by omega)⟩)
  · skip
    have e_10 : ¬ ((r_7 : Int32).toInt = (0 : Int32).toInt) := fun h => c_10 (i_eq.mpr h)
    have : (0 : Int32).toInt = 0 := by decide
    have g9 := CB.gd hpa hR.1 (show 0 ≤ a.toInt by omega) (h_7.t (by omega))
    refine x_aload_n C 0 dX10_hasIt_13 rfl rfl ?_
    refine x_iload_n C 2 dX10_hasIt_14 rfl rfl ?_
    refine x_callV C [.int s] [(m4, .inl (cI, 4, .inl mg)), (m5, .inl (cI, 4, .inl mt)), (m7, .inl (cI, 6, .inl wf)), (m8, .inl (cI, 6, .inl wp)), (m9, .inl (cI, 6, .inl wt)), (m0, .inl (cI, 625, .inl ro)), (m3, .inl (cI, 16, .inl mm)), (m16, .inl (cZ, 40625, .inl ch)), (m1, .inl (cI, 65, .inl co))] [9, 10, 11] [0, 1, 2, 3, 4, 5, 6, 7, 8] (q0 := 0) (c_X10_isOut (xl X) (xD X) (xt X) hT hy m0 m1 m2 m3 m4 m5 m6 m7 m8 m9 m10 m11 m12 m13 m14 m15 m16 m17 m18 ((tds a)) ma mw ml mb mz ((opS co a)) bp by0 dp tk ka iw s hs) dX10_hasIt_15 wd_443 wd_444 wd_445 wd_5 wd_446 (np := 1) ⟨by decide, by decide, by decide +kernel⟩ rfl rfl (Nat.le_of_ble_eq_true rfl) (by decide) rfl rfl rfl rfl (by decide) rfl (by decide) (by decide) (fun v W1 h => ?_)
    obtain ⟨r_15, rfl, rfl, h_15⟩ := h
    show V X 11 [(m4, .inl (cI, 4, .inl mg)), (m5, .inl (cI, 4, .inl mt)), (m7, .inl (cI, 6, .inl wf)), (m8, .inl (cI, 6, .inl wp)), (m9, .inl (cI, 6, .inl wt)), (m0, .inl (cI, 625, .inl ro)), (m3, .inl (cI, 16, .inl mm)), (m16, .inl (cZ, 40625, .inl ch)), (m1, .inl (cI, 65, .inl co)), (hy, .inr (10, [.ref m0, .ref m1, .ref m2, .ref m3, .ref m4, .ref m5, .ref m6, .ref m7, .ref m8, .ref m9, .int mw, .int ml, .int mb, .ref m10, .int mz, .ref m11, .int (((opS co a))), .int bp, .int by0, .int dp, .int tk, .ref m12, .ref m13, .ref m14, .ref m15, .ref m16, .ref m17, .ref m18, .int ka, .int iw])), (m11, .inl (cI, 4, .inl (((tds a))))), (m2, .inl (cI, 4, .inl ma))] [(0, .ref hy), (1, .int a), (2, .int s), (3, .int se), (4, .int t)] [.int r_15] 18 0 0
    refine x_if_eq C 23 dX10_hasIt_18 (by decide) (fun c_18 => ?_) (fun c_18 => ?_)
    · skip
      have e_18 : (r_15 : Int32).toInt = (0 : Int32).toInt := i_eq.mp c_18
      have : (0 : Int32).toInt = 0 := by decide
      refine x_aload_n C 0 dX10_hasIt_23 rfl rfl ?_
      refine x_callV C [] [(m4, .inl (cI, 4, .inl mg)), (m5, .inl (cI, 4, .inl mt)), (m7, .inl (cI, 6, .inl wf)), (m8, .inl (cI, 6, .inl wp)), (m9, .inl (cI, 6, .inl wt)), (m0, .inl (cI, 625, .inl ro)), (m3, .inl (cI, 16, .inl mm)), (m16, .inl (cZ, 40625, .inl ch)), (m1, .inl (cI, 65, .inl co)), (m2, .inl (cI, 4, .inl ma))] [9, 10] [0, 1, 2, 3, 4, 5, 6, 7, 8, 11] (q0 := 0) (c_X10_toldAll (xl X) (xD X) (xt X) hT hy m0 m1 m2 m3 m4 m5 m6 m7 m8 m9 m10 m11 m12 m13 m14 m15 m16 m17 m18 (((tds a))) mw ml mb mz (((opS co a))) bp by0 dp tk ka iw ) dX10_hasIt_24 wd_728 wd_729 wd_730 wd_5 wd_731 (np := 0) ⟨by decide, by decide, by decide +kernel⟩ rfl rfl (Nat.le_of_ble_eq_true rfl) (by decide) rfl rfl rfl rfl (by decide) rfl (by decide) (by decide) (fun v W1 h => ?_)
      obtain ⟨_, rfl, rfl, h_24⟩ := h
      show V X 11 [(m4, .inl (cI, 4, .inl mg)), (m5, .inl (cI, 4, .inl mt)), (m7, .inl (cI, 6, .inl wf)), (m8, .inl (cI, 6, .inl wp)), (m9, .inl (cI, 6, .inl wt)), (m0, .inl (cI, 625, .inl ro)), (m3, .inl (cI, 16, .inl mm)), (m16, .inl (cZ, 40625, .inl ch)), (m1, .inl (cI, 65, .inl co)), (m2, .inl (cI, 4, .inl ma)), (hy, .inr (10, [.ref m0, .ref m1, .ref m2, .ref m3, .ref m4, .ref m5, .ref m6, .ref m7, .ref m8, .ref m9, .int mw, .int ml, .int mb, .ref m10, .int mz, .ref m11, .int ((((opS co a)))), .int bp, .int by0, .int dp, .int tk, .ref m12, .ref m13, .ref m14, .ref m15, .ref m16, .ref m17, .ref m18, .int ka, .int iw])), (m11, .inl (cI, 4, .inl ((((tds a))))))] [(0, .ref hy), (1, .int a), (2, .int s), (3, .int se), (4, .int t)] [.int ((((tds a))) 0 + (((tds a))) 1 + (((tds a))) 2 + (((tds a))) 3)] 27 0 0
      refine x_iconst C 2 dX10_hasIt_27 (by decide) ?_
      refine x_irem C dX10_hasIt_28 (by decide) ?_
      refine x_if_ne C 36 dX10_hasIt_29 (by decide) (fun c_29 => ?_) (fun c_29 => ?_)
      · skip
        have e_29 : ¬ ((((((tds a))) 0 + (((tds a))) 1 + (((tds a))) 2 + (((tds a))) 3) - ((((tds a))) 0 + (((tds a))) 1 + (((tds a))) 2 + (((tds a))) 3) / 2 * 2 : Int32).toInt = (0 : Int32).toInt) := fun h => c_29 (i_eq.mpr h)
        have : (0 : Int32).toInt = 0 := by decide
        refine x_iconst C 0 dX10_hasIt_36 (by decide) ?_
        refine x_istore C [(5, .int 0), (0, .ref hy), (1, .int a), (2, .int s), (3, .int se), (4, .int t)] dX10_hasIt_37 (by decide) rfl ?_
        refine x_iconst C 0 dX10_hasIt_39 (by decide) ?_
        refine x_istore C [(6, .int 0), (5, .int 0), (0, .ref hy), (1, .int a), (2, .int s), (3, .int se), (4, .int t)] dX10_hasIt_40 (by decide) rfl ?_
        refine x_iconst C 1 dX10_hasIt_42 (by decide) ?_
        refine x_istore C [(7, .int 1), (6, .int 0), (5, .int 0), (0, .ref hy), (1, .int a), (2, .int s), (3, .int se), (4, .int t)] dX10_hasIt_43 (by decide) rfl ?_
        refine x_iconst C 0 dX10_hasIt_45 (by decide) ?_
        refine x_istore C [(8, .int 0), (7, .int 1), (6, .int 0), (5, .int 0), (0, .ref hy), (1, .int a), (2, .int s), (3, .int se), (4, .int t)] dX10_hasIt_46 (by decide) rfl ?_
        have L_48 : ∀ (n_48 : Nat) (x8_48 : Int32) (x7_48 : Int32) (x6_48 : Int32) (x5_48 : Int32) (ghy16_48 : Int32) (fm11_48 : Nat → Int32), ((0 ≤ x8_48.toInt ∧ x8_48.toInt ≤ 4)) → ((4 - x8_48.toInt).toNat < n_48) → V X 11 [(m4, .inl (cI, 4, .inl mg)), (m5, .inl (cI, 4, .inl mt)), (m7, .inl (cI, 6, .inl wf)), (m8, .inl (cI, 6, .inl wp)), (m9, .inl (cI, 6, .inl wt)), (m0, .inl (cI, 625, .inl ro)), (m3, .inl (cI, 16, .inl mm)), (m16, .inl (cZ, 40625, .inl ch)), (m1, .inl (cI, 65, .inl co)), (m2, .inl (cI, 4, .inl ma)), (hy, .inr (10, [.ref m0, .ref m1, .ref m2, .ref m3, .ref m4, .ref m5, .ref m6, .ref m7, .ref m8, .ref m9, .int mw, .int ml, .int mb, .ref m10, .int mz, .ref m11, .int ghy16_48, .int bp, .int by0, .int dp, .int tk, .ref m12, .ref m13, .ref m14, .ref m15, .ref m16, .ref m17, .ref m18, .int ka, .int iw])), (m11, .inl (cI, 4, .inl fm11_48))] [(8, .int x8_48), (7, .int x7_48), (6, .int x6_48), (5, .int x5_48), (0, .ref hy), (1, .int a), (2, .int s), (3, .int se), (4, .int t)] [] 48 0 0 := by
          intro n_48
          induction n_48 with
          | zero =>
            intro x8_48 x7_48 x6_48 x5_48 ghy16_48 fm11_48 i_48 m_48
            exact absurd m_48 (Nat.not_lt_zero _)
          | succ n_48 ih_48 =>
            intro x8_48 x7_48 x6_48 x5_48 ghy16_48 fm11_48 i_48 m_48
            refine x_iload C 0 dX10_hasIt_48 rfl ?_
            refine x_iconst C 4 dX10_hasIt_50 (by decide) ?_
            refine x_icmp_ge C 120 dX10_hasIt_51 (by decide) (fun c_51 => ?_) (fun c_51 => ?_)
            · skip
              have e_51 : (4 : Int32).toInt ≤ (x8_48 : Int32).toInt := i_le.mp c_51
              have : (4 : Int32).toInt = 4 := by decide
              refine x_iload C 3 dX10_hasIt_120 rfl ?_
              refine x_if_ne C 139 dX10_hasIt_122 (by decide) (fun c_122 => ?_) (fun c_122 => ?_)
              · skip
                have e_122 : ¬ ((x5_48 : Int32).toInt = (0 : Int32).toInt) := fun h => c_122 (i_eq.mpr h)
                have : (0 : Int32).toInt = 0 := by decide
                refine x_iconst C 0 dX10_hasIt_139 (by decide) ?_
                refine x_sub [(hy, .inr (10, [.ref m0, .ref m1, .ref m2, .ref m3, .ref m4, .ref m5, .ref m6, .ref m7, .ref m8, .ref m9, .int mw, .int ml, .int mb, .ref m10, .int mz, .ref m11, .int ghy16_48, .int bp, .int by0, .int dp, .int tk, .ref m12, .ref m13, .ref m14, .ref m15, .ref m16, .ref m17, .ref m18, .int ka, .int iw])), (m11, .inl (cI, 4, .inl fm11_48)), (m2, .inl (cI, 4, .inl ma)), (m4, .inl (cI, 4, .inl mg)), (m5, .inl (cI, 4, .inl mt)), (m7, .inl (cI, 6, .inl wf)), (m8, .inl (cI, 6, .inl wp)), (m9, .inl (cI, 6, .inl wt)), (m0, .inl (cI, 625, .inl ro)), (m1, .inl (cI, 65, .inl co)), (m3, .inl (cI, 16, .inl mm)), (m16, .inl (cZ, 40625, .inl ch))] [10, 11, 9, 0, 1, 2, 3, 4, 5, 8, 6, 7] (by decide) rfl ?_
                have : (0 : Int32).toInt = 0 := by decide
                exact x_iret C dX10_hasIt_140 (Nat.zero_le _) (Nat.zero_le _) (by rw [eO]; exact ⟨0, fm11_48, ghy16_48, rfl, rfl, (by omega)⟩)
              · skip
                have e_122 : (x5_48 : Int32).toInt = (0 : Int32).toInt := i_eq.mp c_122
                have : (0 : Int32).toInt = 0 := by decide
                refine x_iload C 2 dX10_hasIt_125 rfl ?_
                refine x_if_eq C 139 dX10_hasIt_127 (by decide) (fun c_127 => ?_) (fun c_127 => ?_)
                · skip
                  have e_127 : (x6_48 : Int32).toInt = (0 : Int32).toInt := i_eq.mp c_127
                  have : (0 : Int32).toInt = 0 := by decide
                  refine x_iconst C 0 dX10_hasIt_139 (by decide) ?_
                  refine x_sub [(hy, .inr (10, [.ref m0, .ref m1, .ref m2, .ref m3, .ref m4, .ref m5, .ref m6, .ref m7, .ref m8, .ref m9, .int mw, .int ml, .int mb, .ref m10, .int mz, .ref m11, .int ghy16_48, .int bp, .int by0, .int dp, .int tk, .ref m12, .ref m13, .ref m14, .ref m15, .ref m16, .ref m17, .ref m18, .int ka, .int iw])), (m11, .inl (cI, 4, .inl fm11_48)), (m2, .inl (cI, 4, .inl ma)), (m4, .inl (cI, 4, .inl mg)), (m5, .inl (cI, 4, .inl mt)), (m7, .inl (cI, 6, .inl wf)), (m8, .inl (cI, 6, .inl wp)), (m9, .inl (cI, 6, .inl wt)), (m0, .inl (cI, 625, .inl ro)), (m1, .inl (cI, 65, .inl co)), (m3, .inl (cI, 16, .inl mm)), (m16, .inl (cZ, 40625, .inl ch))] [10, 11, 9, 0, 1, 2, 3, 4, 5, 8, 6, 7] (by decide) rfl ?_
                  have : (0 : Int32).toInt = 0 := by decide
                  exact x_iret C dX10_hasIt_140 (Nat.zero_le _) (Nat.zero_le _) (by rw [eO]; exact ⟨0, fm11_48, ghy16_48, rfl, rfl, (by omega)⟩)
                · skip
                  have e_127 : ¬ ((x6_48 : Int32).toInt = (0 : Int32).toInt) := fun h => c_127 (i_eq.mpr h)
                  have : (0 : Int32).toInt = 0 := by decide
                  refine x_iload C 1 dX10_hasIt_130 rfl ?_
                  refine x_if_eq C 139 dX10_hasIt_132 (by decide) (fun c_132 => ?_) (fun c_132 => ?_)
                  · skip
                    have e_132 : (x7_48 : Int32).toInt = (0 : Int32).toInt := i_eq.mp c_132
                    have : (0 : Int32).toInt = 0 := by decide
                    refine x_iconst C 0 dX10_hasIt_139 (by decide) ?_
                    refine x_sub [(hy, .inr (10, [.ref m0, .ref m1, .ref m2, .ref m3, .ref m4, .ref m5, .ref m6, .ref m7, .ref m8, .ref m9, .int mw, .int ml, .int mb, .ref m10, .int mz, .ref m11, .int ghy16_48, .int bp, .int by0, .int dp, .int tk, .ref m12, .ref m13, .ref m14, .ref m15, .ref m16, .ref m17, .ref m18, .int ka, .int iw])), (m11, .inl (cI, 4, .inl fm11_48)), (m2, .inl (cI, 4, .inl ma)), (m4, .inl (cI, 4, .inl mg)), (m5, .inl (cI, 4, .inl mt)), (m7, .inl (cI, 6, .inl wf)), (m8, .inl (cI, 6, .inl wp)), (m9, .inl (cI, 6, .inl wt)), (m0, .inl (cI, 625, .inl ro)), (m1, .inl (cI, 65, .inl co)), (m3, .inl (cI, 16, .inl mm)), (m16, .inl (cZ, 40625, .inl ch))] [10, 11, 9, 0, 1, 2, 3, 4, 5, 8, 6, 7] (by decide) rfl ?_
                    have : (0 : Int32).toInt = 0 := by decide
                    exact x_iret C dX10_hasIt_140 (Nat.zero_le _) (Nat.zero_le _) (by rw [eO]; exact ⟨0, fm11_48, ghy16_48, rfl, rfl, (by omega)⟩)
                  · skip
                    have e_132 : ¬ ((x7_48 : Int32).toInt = (0 : Int32).toInt) := fun h => c_132 (i_eq.mpr h)
                    have : (0 : Int32).toInt = 0 := by decide
                    refine x_iconst C 1 dX10_hasIt_135 (by decide) ?_
                    refine x_goto C 140 dX10_hasIt_136 (by decide) ?_
                    refine x_sub [(hy, .inr (10, [.ref m0, .ref m1, .ref m2, .ref m3, .ref m4, .ref m5, .ref m6, .ref m7, .ref m8, .ref m9, .int mw, .int ml, .int mb, .ref m10, .int mz, .ref m11, .int ghy16_48, .int bp, .int by0, .int dp, .int tk, .ref m12, .ref m13, .ref m14, .ref m15, .ref m16, .ref m17, .ref m18, .int ka, .int iw])), (m11, .inl (cI, 4, .inl fm11_48)), (m2, .inl (cI, 4, .inl ma)), (m4, .inl (cI, 4, .inl mg)), (m5, .inl (cI, 4, .inl mt)), (m7, .inl (cI, 6, .inl wf)), (m8, .inl (cI, 6, .inl wp)), (m9, .inl (cI, 6, .inl wt)), (m0, .inl (cI, 625, .inl ro)), (m1, .inl (cI, 65, .inl co)), (m3, .inl (cI, 16, .inl mm)), (m16, .inl (cZ, 40625, .inl ch))] [10, 11, 9, 0, 1, 2, 3, 4, 5, 8, 6, 7] (by decide) rfl ?_
                    have : (1 : Int32).toInt = 1 := by decide
                    exact x_iret C dX10_hasIt_140 (Nat.zero_le _) (Nat.zero_le _) (by rw [eO]; exact ⟨1, fm11_48, ghy16_48, rfl, rfl, (by omega)⟩)
            · skip
              have e_51 : ¬ ((4 : Int32).toInt ≤ (x8_48 : Int32).toInt) := fun h => c_51 (i_le.mpr h)
              have : (4 : Int32).toInt = 4 := by decide
              refine x_aload_n C 4 dX10_hasIt_54 rfl rfl ?_
              refine x_iload_n C 5 dX10_hasIt_55 rfl rfl ?_
              refine x_iload C 0 dX10_hasIt_56 rfl ?_
              refine x_iload_n C 7 dX10_hasIt_58 rfl rfl ?_
              refine x_iconst C 4 dX10_hasIt_59 (by decide) ?_
              refine x_iconst C 0 dX10_hasIt_60 (by decide) ?_
              refine x_callV C [.int a, .int x8_48, .int se, .int 4, .int 0] [(m3, .inl (cI, 16, .inl mm)), (m16, .inl (cZ, 40625, .inl ch))] [10, 11, 9, 0, 1, 2, 3, 4, 5, 8] [6, 7] (q0 := 0) (c_X10_nextOf (xl X) (xD X) (xt X) hT hy m0 m1 m2 m3 m4 m5 m6 m7 m8 m9 m10 m11 m12 m13 m14 m15 m16 m17 m18 fm11_48 ma mg mt wf wp wt ro co mw ml mb mz ghy16_48 bp by0 dp tk ka iw a x8_48 se 4 0 hst hR g9 (by omega) hmw hwt) dX10_hasIt_61 wd_587 wd_588 wd_589 wd_5 wd_590 (np := 5) ⟨by decide, by decide, by decide +kernel⟩ rfl rfl (Nat.le_of_ble_eq_true rfl) (by decide) rfl rfl rfl rfl (by decide) rfl (by decide) (by decide) (fun v W1 h => ?_)
              obtain ⟨tl2_61, op2_61, rfl, rfl, h_61⟩ := h
              have : (0 : Int32).toInt = 0 := by decide
              have : (4 : Int32).toInt = 4 := by decide
              show V X 11 [(m3, .inl (cI, 16, .inl mm)), (m16, .inl (cZ, 40625, .inl ch)), (hy, .inr (10, [.ref m0, .ref m1, .ref m2, .ref m3, .ref m4, .ref m5, .ref m6, .ref m7, .ref m8, .ref m9, .int mw, .int ml, .int mb, .ref m10, .int mz, .ref m11, .int op2_61, .int bp, .int by0, .int dp, .int tk, .ref m12, .ref m13, .ref m14, .ref m15, .ref m16, .ref m17, .ref m18, .int ka, .int iw])), (m11, .inl (cI, 4, .inl tl2_61)), (m2, .inl (cI, 4, .inl ma)), (m4, .inl (cI, 4, .inl mg)), (m5, .inl (cI, 4, .inl mt)), (m7, .inl (cI, 6, .inl wf)), (m8, .inl (cI, 6, .inl wp)), (m9, .inl (cI, 6, .inl wt)), (m0, .inl (cI, 625, .inl ro)), (m1, .inl (cI, 65, .inl co))] [(8, .int x8_48), (7, .int x7_48), (6, .int x6_48), (5, .int x5_48), (0, .ref hy), (1, .int a), (2, .int s), (3, .int se), (4, .int t)] [.int (nxF ma mg mt wf wp wt mw ml co ro a x8_48 se 4 0)] 64 0 0
              refine x_istore C [(9, .int (nxF ma mg mt wf wp wt mw ml co ro a x8_48 se 4 0)), (8, .int x8_48), (7, .int x7_48), (6, .int x6_48), (5, .int x5_48), (0, .ref hy), (1, .int a), (2, .int s), (3, .int se), (4, .int t)] dX10_hasIt_64 (by decide) rfl ?_
              refine x_iload C 0 dX10_hasIt_66 rfl ?_
              refine x_if_lt C 114 dX10_hasIt_68 (by decide) (fun c_68 => ?_) (fun c_68 => ?_)
              · skip
                have e_68 : (nxF ma mg mt wf wp wt mw ml co ro a x8_48 se 4 0 : Int32).toInt < (0 : Int32).toInt := i_lt.mp c_68
                have : (0 : Int32).toInt = 0 := by decide
                refine x_iinc C 1 (x8_48 + 1) [(8, .int (x8_48 + 1)), (9, .int (nxF ma mg mt wf wp wt mw ml co ro a x8_48 se 4 0)), (7, .int x7_48), (6, .int x6_48), (5, .int x5_48), (0, .ref hy), (1, .int a), (2, .int s), (3, .int se), (4, .int t)] dX10_hasIt_114 rfl rfl (by decide) rfl ?_
                refine x_goto C 48 dX10_hasIt_117 (by decide) ?_
                refine x_sub [(m4, .inl (cI, 4, .inl mg)), (m5, .inl (cI, 4, .inl mt)), (m7, .inl (cI, 6, .inl wf)), (m8, .inl (cI, 6, .inl wp)), (m9, .inl (cI, 6, .inl wt)), (m0, .inl (cI, 625, .inl ro)), (m3, .inl (cI, 16, .inl mm)), (m16, .inl (cZ, 40625, .inl ch)), (m1, .inl (cI, 65, .inl co)), (m2, .inl (cI, 4, .inl ma)), (hy, .inr (10, [.ref m0, .ref m1, .ref m2, .ref m3, .ref m4, .ref m5, .ref m6, .ref m7, .ref m8, .ref m9, .int mw, .int ml, .int mb, .ref m10, .int mz, .ref m11, .int op2_61, .int bp, .int by0, .int dp, .int tk, .ref m12, .ref m13, .ref m14, .ref m15, .ref m16, .ref m17, .ref m18, .int ka, .int iw])), (m11, .inl (cI, 4, .inl tl2_61))] [5, 6, 7, 8, 9, 10, 0, 1, 11, 4, 2, 3] (by decide) rfl ?_
                refine x_lv [(8, .int (x8_48 + 1)), (7, .int x7_48), (6, .int x6_48), (5, .int x5_48), (0, .ref hy), (1, .int a), (2, .int s), (3, .int se), (4, .int t)] [0, 2, 3, 4, 5, 6, 7, 8, 9] rfl ?_
                have : (1 : Int32).toInt = 1 := by decide
                have := i_add (x := x8_48) (y := 1) (by omega) (by omega)
                exact ih_48 (x8_48 + 1) x7_48 x6_48 x5_48 op2_61 tl2_61 (by omega) (by omega)
              · skip
                have e_68 : ¬ ((nxF ma mg mt wf wp wt mw ml co ro a x8_48 se 4 0 : Int32).toInt < (0 : Int32).toInt) := fun h => c_68 (i_lt.mpr h)
                have : (0 : Int32).toInt = 0 := by decide
                refine x_aload_n C 5 dX10_hasIt_71 rfl rfl ?_
                refine x_iload C 0 dX10_hasIt_72 rfl ?_
                refine x_iload_n C 7 dX10_hasIt_74 rfl rfl ?_
                refine x_iload C 9 dX10_hasIt_75 rfl ?_
                refine x_callV C [.int (nxF ma mg mt wf wp wt mw ml co ro a x8_48 se 4 0), .int s, .int t] [(m4, .inl (cI, 4, .inl mg)), (m5, .inl (cI, 4, .inl mt)), (m7, .inl (cI, 6, .inl wf)), (m8, .inl (cI, 6, .inl wp)), (m9, .inl (cI, 6, .inl wt)), (m0, .inl (cI, 625, .inl ro))] [2, 3, 11, 4, 0, 1] [5, 6, 7, 8, 9, 10] (q0 := 0) (c_X10_hasBy (xl X) (xD X) (xt X) hT hy m0 m1 m2 m3 m4 m5 m6 m7 m8 m9 m10 m11 m12 m13 m14 m15 m16 m17 m18 tl2_61 co ma mm ch mw ml mb mz op2_61 bp by0 dp tk ka iw (nxF ma mg mt wf wp wt mw ml co ro a x8_48 se 4 0) s t (by have := (nx_ok hR (by omega) g9 (by omega) (nl0 e_68)).1; omega) hs hmm hch) dX10_hasIt_77 wd_732 wd_733 wd_734 wd_5 wd_735 (np := 3) ⟨by decide, by decide, by decide +kernel⟩ rfl rfl (Nat.le_of_ble_eq_true rfl) (by decide) rfl rfl rfl rfl (by decide) rfl (by decide) (by decide) (fun v W1 h => ?_)
                obtain ⟨r_77, tl2_77, op2_77, rfl, rfl, h_77⟩ := h
                show V X 11 [(m4, .inl (cI, 4, .inl mg)), (m5, .inl (cI, 4, .inl mt)), (m7, .inl (cI, 6, .inl wf)), (m8, .inl (cI, 6, .inl wp)), (m9, .inl (cI, 6, .inl wt)), (m0, .inl (cI, 625, .inl ro)), (hy, .inr (10, [.ref m0, .ref m1, .ref m2, .ref m3, .ref m4, .ref m5, .ref m6, .ref m7, .ref m8, .ref m9, .int mw, .int ml, .int mb, .ref m10, .int mz, .ref m11, .int op2_77, .int bp, .int by0, .int dp, .int tk, .ref m12, .ref m13, .ref m14, .ref m15, .ref m16, .ref m17, .ref m18, .int ka, .int iw])), (m11, .inl (cI, 4, .inl tl2_77)), (m1, .inl (cI, 65, .inl co)), (m2, .inl (cI, 4, .inl ma)), (m3, .inl (cI, 16, .inl mm)), (m16, .inl (cZ, 40625, .inl ch))] [(9, .int (nxF ma mg mt wf wp wt mw ml co ro a x8_48 se 4 0)), (8, .int x8_48), (7, .int x7_48), (6, .int x6_48), (5, .int x5_48), (0, .ref hy), (1, .int a), (2, .int s), (3, .int se), (4, .int t)] [.int r_77] 80 0 0
                refine x_istore C [(10, .int r_77), (9, .int (nxF ma mg mt wf wp wt mw ml co ro a x8_48 se 4 0)), (8, .int x8_48), (7, .int x7_48), (6, .int x6_48), (5, .int x5_48), (0, .ref hy), (1, .int a), (2, .int s), (3, .int se), (4, .int t)] dX10_hasIt_80 (by decide) rfl ?_
                refine x_iconst C 1 dX10_hasIt_82 (by decide) ?_
                refine x_istore C [(6, .int 1), (10, .int r_77), (9, .int (nxF ma mg mt wf wp wt mw ml co ro a x8_48 se 4 0)), (8, .int x8_48), (7, .int x7_48), (5, .int x5_48), (0, .ref hy), (1, .int a), (2, .int s), (3, .int se), (4, .int t)] dX10_hasIt_83 (by decide) rfl ?_
                refine x_iload C 4 dX10_hasIt_85 rfl ?_
                refine x_if_eq C 99 dX10_hasIt_87 (by decide) (fun c_87 => ?_) (fun c_87 => ?_)
                · skip
                  have e_87 : (x7_48 : Int32).toInt = (0 : Int32).toInt := i_eq.mp c_87
                  have : (0 : Int32).toInt = 0 := by decide
                  refine x_iconst C 0 dX10_hasIt_99 (by decide) ?_
                  refine x_istore C [(7, .int 0), (6, .int 1), (10, .int r_77), (9, .int (nxF ma mg mt wf wp wt mw ml co ro a x8_48 se 4 0)), (8, .int x8_48), (5, .int x5_48), (0, .ref hy), (1, .int a), (2, .int s), (3, .int se), (4, .int t)] dX10_hasIt_100 (by decide) rfl ?_
                  refine x_iload C 5 dX10_hasIt_102 rfl ?_
                  refine x_if_eq C 114 dX10_hasIt_104 (by decide) (fun c_104 => ?_) (fun c_104 => ?_)
                  · skip
                    have e_104 : (x5_48 : Int32).toInt = (0 : Int32).toInt := i_eq.mp c_104
                    have : (0 : Int32).toInt = 0 := by decide
                    refine x_iinc C 4 (x8_48 + 1) [(8, .int (x8_48 + 1)), (7, .int 0), (6, .int 1), (10, .int r_77), (9, .int (nxF ma mg mt wf wp wt mw ml co ro a x8_48 se 4 0)), (5, .int x5_48), (0, .ref hy), (1, .int a), (2, .int s), (3, .int se), (4, .int t)] dX10_hasIt_114 rfl rfl (by decide) rfl ?_
                    refine x_goto C 48 dX10_hasIt_117 (by decide) ?_
                    refine x_sub [(m4, .inl (cI, 4, .inl mg)), (m5, .inl (cI, 4, .inl mt)), (m7, .inl (cI, 6, .inl wf)), (m8, .inl (cI, 6, .inl wp)), (m9, .inl (cI, 6, .inl wt)), (m0, .inl (cI, 625, .inl ro)), (m3, .inl (cI, 16, .inl mm)), (m16, .inl (cZ, 40625, .inl ch)), (m1, .inl (cI, 65, .inl co)), (m2, .inl (cI, 4, .inl ma)), (hy, .inr (10, [.ref m0, .ref m1, .ref m2, .ref m3, .ref m4, .ref m5, .ref m6, .ref m7, .ref m8, .ref m9, .int mw, .int ml, .int mb, .ref m10, .int mz, .ref m11, .int op2_77, .int bp, .int by0, .int dp, .int tk, .ref m12, .ref m13, .ref m14, .ref m15, .ref m16, .ref m17, .ref m18, .int ka, .int iw])), (m11, .inl (cI, 4, .inl tl2_77))] [0, 1, 2, 3, 4, 5, 10, 11, 8, 9, 6, 7] (by decide) rfl ?_
                    refine x_lv [(8, .int (x8_48 + 1)), (7, .int 0), (6, .int 1), (5, .int x5_48), (0, .ref hy), (1, .int a), (2, .int s), (3, .int se), (4, .int t)] [0, 1, 2, 5, 6, 7, 8, 9, 10] rfl ?_
                    have : (1 : Int32).toInt = 1 := by decide
                    have := i_add (x := x8_48) (y := 1) (by omega) (by omega)
                    exact ih_48 (x8_48 + 1) 0 1 x5_48 op2_77 tl2_77 (by omega) (by omega)
                  · skip
                    have e_104 : ¬ ((x5_48 : Int32).toInt = (0 : Int32).toInt) := fun h => c_104 (i_eq.mpr h)
                    have : (0 : Int32).toInt = 0 := by decide
                    refine x_iload C 2 dX10_hasIt_107 rfl ?_
                    refine x_if_eq C 114 dX10_hasIt_109 (by decide) (fun c_109 => ?_) (fun c_109 => ?_)
                    · skip
                      have e_109 : (r_77 : Int32).toInt = (0 : Int32).toInt := i_eq.mp c_109
                      have : (0 : Int32).toInt = 0 := by decide
                      refine x_iinc C 4 (x8_48 + 1) [(8, .int (x8_48 + 1)), (7, .int 0), (6, .int 1), (10, .int r_77), (9, .int (nxF ma mg mt wf wp wt mw ml co ro a x8_48 se 4 0)), (5, .int x5_48), (0, .ref hy), (1, .int a), (2, .int s), (3, .int se), (4, .int t)] dX10_hasIt_114 rfl rfl (by decide) rfl ?_
                      refine x_goto C 48 dX10_hasIt_117 (by decide) ?_
                      refine x_sub [(m4, .inl (cI, 4, .inl mg)), (m5, .inl (cI, 4, .inl mt)), (m7, .inl (cI, 6, .inl wf)), (m8, .inl (cI, 6, .inl wp)), (m9, .inl (cI, 6, .inl wt)), (m0, .inl (cI, 625, .inl ro)), (m3, .inl (cI, 16, .inl mm)), (m16, .inl (cZ, 40625, .inl ch)), (m1, .inl (cI, 65, .inl co)), (m2, .inl (cI, 4, .inl ma)), (hy, .inr (10, [.ref m0, .ref m1, .ref m2, .ref m3, .ref m4, .ref m5, .ref m6, .ref m7, .ref m8, .ref m9, .int mw, .int ml, .int mb, .ref m10, .int mz, .ref m11, .int op2_77, .int bp, .int by0, .int dp, .int tk, .ref m12, .ref m13, .ref m14, .ref m15, .ref m16, .ref m17, .ref m18, .int ka, .int iw])), (m11, .inl (cI, 4, .inl tl2_77))] [0, 1, 2, 3, 4, 5, 10, 11, 8, 9, 6, 7] (by decide) rfl ?_
                      refine x_lv [(8, .int (x8_48 + 1)), (7, .int 0), (6, .int 1), (5, .int x5_48), (0, .ref hy), (1, .int a), (2, .int s), (3, .int se), (4, .int t)] [0, 1, 2, 5, 6, 7, 8, 9, 10] rfl ?_
                      have : (1 : Int32).toInt = 1 := by decide
                      have := i_add (x := x8_48) (y := 1) (by omega) (by omega)
                      exact ih_48 (x8_48 + 1) 0 1 x5_48 op2_77 tl2_77 (by omega) (by omega)
                    · skip
                      have e_109 : ¬ ((r_77 : Int32).toInt = (0 : Int32).toInt) := fun h => c_109 (i_eq.mpr h)
                      have : (0 : Int32).toInt = 0 := by decide
                      refine x_iconst C 1 dX10_hasIt_112 (by decide) ?_
                      refine x_sub [(hy, .inr (10, [.ref m0, .ref m1, .ref m2, .ref m3, .ref m4, .ref m5, .ref m6, .ref m7, .ref m8, .ref m9, .int mw, .int ml, .int mb, .ref m10, .int mz, .ref m11, .int op2_77, .int bp, .int by0, .int dp, .int tk, .ref m12, .ref m13, .ref m14, .ref m15, .ref m16, .ref m17, .ref m18, .int ka, .int iw])), (m11, .inl (cI, 4, .inl tl2_77)), (m2, .inl (cI, 4, .inl ma)), (m4, .inl (cI, 4, .inl mg)), (m5, .inl (cI, 4, .inl mt)), (m7, .inl (cI, 6, .inl wf)), (m8, .inl (cI, 6, .inl wp)), (m9, .inl (cI, 6, .inl wt)), (m0, .inl (cI, 625, .inl ro)), (m1, .inl (cI, 65, .inl co)), (m3, .inl (cI, 16, .inl mm)), (m16, .inl (cZ, 40625, .inl ch))] [6, 7, 9, 0, 1, 2, 3, 4, 5, 8, 10, 11] (by decide) rfl ?_
                      have : (1 : Int32).toInt = 1 := by decide
                      exact x_iret C dX10_hasIt_113 (Nat.zero_le _) (Nat.zero_le _) (by rw [eO]; exact ⟨1, tl2_77, op2_77, rfl, rfl, (by omega)⟩)
                · skip
                  have e_87 : ¬ ((x7_48 : Int32).toInt = (0 : Int32).toInt) := fun h => c_87 (i_eq.mpr h)
                  have : (0 : Int32).toInt = 0 := by decide
                  refine x_iload C 1 dX10_hasIt_90 rfl ?_
                  refine x_if_eq C 99 dX10_hasIt_92 (by decide) (fun c_92 => ?_) (fun c_92 => ?_)
                  · skip
                    have e_92 : (r_77 : Int32).toInt = (0 : Int32).toInt := i_eq.mp c_92
                    have : (0 : Int32).toInt = 0 := by decide
                    refine x_iconst C 0 dX10_hasIt_99 (by decide) ?_
                    refine x_istore C [(7, .int 0), (6, .int 1), (10, .int r_77), (9, .int (nxF ma mg mt wf wp wt mw ml co ro a x8_48 se 4 0)), (8, .int x8_48), (5, .int x5_48), (0, .ref hy), (1, .int a), (2, .int s), (3, .int se), (4, .int t)] dX10_hasIt_100 (by decide) rfl ?_
                    refine x_iload C 5 dX10_hasIt_102 rfl ?_
                    refine x_if_eq C 114 dX10_hasIt_104 (by decide) (fun c_104 => ?_) (fun c_104 => ?_)
                    · skip
                      have e_104 : (x5_48 : Int32).toInt = (0 : Int32).toInt := i_eq.mp c_104
                      have : (0 : Int32).toInt = 0 := by decide
                      refine x_iinc C 4 (x8_48 + 1) [(8, .int (x8_48 + 1)), (7, .int 0), (6, .int 1), (10, .int r_77), (9, .int (nxF ma mg mt wf wp wt mw ml co ro a x8_48 se 4 0)), (5, .int x5_48), (0, .ref hy), (1, .int a), (2, .int s), (3, .int se), (4, .int t)] dX10_hasIt_114 rfl rfl (by decide) rfl ?_
                      refine x_goto C 48 dX10_hasIt_117 (by decide) ?_
                      refine x_sub [(m4, .inl (cI, 4, .inl mg)), (m5, .inl (cI, 4, .inl mt)), (m7, .inl (cI, 6, .inl wf)), (m8, .inl (cI, 6, .inl wp)), (m9, .inl (cI, 6, .inl wt)), (m0, .inl (cI, 625, .inl ro)), (m3, .inl (cI, 16, .inl mm)), (m16, .inl (cZ, 40625, .inl ch)), (m1, .inl (cI, 65, .inl co)), (m2, .inl (cI, 4, .inl ma)), (hy, .inr (10, [.ref m0, .ref m1, .ref m2, .ref m3, .ref m4, .ref m5, .ref m6, .ref m7, .ref m8, .ref m9, .int mw, .int ml, .int mb, .ref m10, .int mz, .ref m11, .int op2_77, .int bp, .int by0, .int dp, .int tk, .ref m12, .ref m13, .ref m14, .ref m15, .ref m16, .ref m17, .ref m18, .int ka, .int iw])), (m11, .inl (cI, 4, .inl tl2_77))] [0, 1, 2, 3, 4, 5, 10, 11, 8, 9, 6, 7] (by decide) rfl ?_
                      refine x_lv [(8, .int (x8_48 + 1)), (7, .int 0), (6, .int 1), (5, .int x5_48), (0, .ref hy), (1, .int a), (2, .int s), (3, .int se), (4, .int t)] [0, 1, 2, 5, 6, 7, 8, 9, 10] rfl ?_
                      have : (1 : Int32).toInt = 1 := by decide
                      have := i_add (x := x8_48) (y := 1) (by omega) (by omega)
                      exact ih_48 (x8_48 + 1) 0 1 x5_48 op2_77 tl2_77 (by omega) (by omega)
                    · skip
                      have e_104 : ¬ ((x5_48 : Int32).toInt = (0 : Int32).toInt) := fun h => c_104 (i_eq.mpr h)
                      have : (0 : Int32).toInt = 0 := by decide
                      refine x_iload C 2 dX10_hasIt_107 rfl ?_
                      refine x_if_eq C 114 dX10_hasIt_109 (by decide) (fun c_109 => ?_) (fun c_109 => ?_)
                      · skip
                        have e_109 : (r_77 : Int32).toInt = (0 : Int32).toInt := i_eq.mp c_109
                        have : (0 : Int32).toInt = 0 := by decide
                        refine x_iinc C 4 (x8_48 + 1) [(8, .int (x8_48 + 1)), (7, .int 0), (6, .int 1), (10, .int r_77), (9, .int (nxF ma mg mt wf wp wt mw ml co ro a x8_48 se 4 0)), (5, .int x5_48), (0, .ref hy), (1, .int a), (2, .int s), (3, .int se), (4, .int t)] dX10_hasIt_114 rfl rfl (by decide) rfl ?_
                        refine x_goto C 48 dX10_hasIt_117 (by decide) ?_
                        refine x_sub [(m4, .inl (cI, 4, .inl mg)), (m5, .inl (cI, 4, .inl mt)), (m7, .inl (cI, 6, .inl wf)), (m8, .inl (cI, 6, .inl wp)), (m9, .inl (cI, 6, .inl wt)), (m0, .inl (cI, 625, .inl ro)), (m3, .inl (cI, 16, .inl mm)), (m16, .inl (cZ, 40625, .inl ch)), (m1, .inl (cI, 65, .inl co)), (m2, .inl (cI, 4, .inl ma)), (hy, .inr (10, [.ref m0, .ref m1, .ref m2, .ref m3, .ref m4, .ref m5, .ref m6, .ref m7, .ref m8, .ref m9, .int mw, .int ml, .int mb, .ref m10, .int mz, .ref m11, .int op2_77, .int bp, .int by0, .int dp, .int tk, .ref m12, .ref m13, .ref m14, .ref m15, .ref m16, .ref m17, .ref m18, .int ka, .int iw])), (m11, .inl (cI, 4, .inl tl2_77))] [0, 1, 2, 3, 4, 5, 10, 11, 8, 9, 6, 7] (by decide) rfl ?_
                        refine x_lv [(8, .int (x8_48 + 1)), (7, .int 0), (6, .int 1), (5, .int x5_48), (0, .ref hy), (1, .int a), (2, .int s), (3, .int se), (4, .int t)] [0, 1, 2, 5, 6, 7, 8, 9, 10] rfl ?_
                        have : (1 : Int32).toInt = 1 := by decide
                        have := i_add (x := x8_48) (y := 1) (by omega) (by omega)
                        exact ih_48 (x8_48 + 1) 0 1 x5_48 op2_77 tl2_77 (by omega) (by omega)
                      · skip
                        have e_109 : ¬ ((r_77 : Int32).toInt = (0 : Int32).toInt) := fun h => c_109 (i_eq.mpr h)
                        have : (0 : Int32).toInt = 0 := by decide
                        refine x_iconst C 1 dX10_hasIt_112 (by decide) ?_
                        refine x_sub [(hy, .inr (10, [.ref m0, .ref m1, .ref m2, .ref m3, .ref m4, .ref m5, .ref m6, .ref m7, .ref m8, .ref m9, .int mw, .int ml, .int mb, .ref m10, .int mz, .ref m11, .int op2_77, .int bp, .int by0, .int dp, .int tk, .ref m12, .ref m13, .ref m14, .ref m15, .ref m16, .ref m17, .ref m18, .int ka, .int iw])), (m11, .inl (cI, 4, .inl tl2_77)), (m2, .inl (cI, 4, .inl ma)), (m4, .inl (cI, 4, .inl mg)), (m5, .inl (cI, 4, .inl mt)), (m7, .inl (cI, 6, .inl wf)), (m8, .inl (cI, 6, .inl wp)), (m9, .inl (cI, 6, .inl wt)), (m0, .inl (cI, 625, .inl ro)), (m1, .inl (cI, 65, .inl co)), (m3, .inl (cI, 16, .inl mm)), (m16, .inl (cZ, 40625, .inl ch))] [6, 7, 9, 0, 1, 2, 3, 4, 5, 8, 10, 11] (by decide) rfl ?_
                        have : (1 : Int32).toInt = 1 := by decide
                        exact x_iret C dX10_hasIt_113 (Nat.zero_le _) (Nat.zero_le _) (by rw [eO]; exact ⟨1, tl2_77, op2_77, rfl, rfl, (by omega)⟩)
                  · skip
                    have e_92 : ¬ ((r_77 : Int32).toInt = (0 : Int32).toInt) := fun h => c_92 (i_eq.mpr h)
                    have : (0 : Int32).toInt = 0 := by decide
                    refine x_iconst C 1 dX10_hasIt_95 (by decide) ?_
                    refine x_goto C 100 dX10_hasIt_96 (by decide) ?_
                    refine x_istore C [(7, .int 1), (6, .int 1), (10, .int r_77), (9, .int (nxF ma mg mt wf wp wt mw ml co ro a x8_48 se 4 0)), (8, .int x8_48), (5, .int x5_48), (0, .ref hy), (1, .int a), (2, .int s), (3, .int se), (4, .int t)] dX10_hasIt_100 (by decide) rfl ?_
                    refine x_iload C 5 dX10_hasIt_102 rfl ?_
                    refine x_if_eq C 114 dX10_hasIt_104 (by decide) (fun c_104 => ?_) (fun c_104 => ?_)
                    · skip
                      have e_104 : (x5_48 : Int32).toInt = (0 : Int32).toInt := i_eq.mp c_104
                      have : (0 : Int32).toInt = 0 := by decide
                      refine x_iinc C 4 (x8_48 + 1) [(8, .int (x8_48 + 1)), (7, .int 1), (6, .int 1), (10, .int r_77), (9, .int (nxF ma mg mt wf wp wt mw ml co ro a x8_48 se 4 0)), (5, .int x5_48), (0, .ref hy), (1, .int a), (2, .int s), (3, .int se), (4, .int t)] dX10_hasIt_114 rfl rfl (by decide) rfl ?_
                      refine x_goto C 48 dX10_hasIt_117 (by decide) ?_
                      refine x_sub [(m4, .inl (cI, 4, .inl mg)), (m5, .inl (cI, 4, .inl mt)), (m7, .inl (cI, 6, .inl wf)), (m8, .inl (cI, 6, .inl wp)), (m9, .inl (cI, 6, .inl wt)), (m0, .inl (cI, 625, .inl ro)), (m3, .inl (cI, 16, .inl mm)), (m16, .inl (cZ, 40625, .inl ch)), (m1, .inl (cI, 65, .inl co)), (m2, .inl (cI, 4, .inl ma)), (hy, .inr (10, [.ref m0, .ref m1, .ref m2, .ref m3, .ref m4, .ref m5, .ref m6, .ref m7, .ref m8, .ref m9, .int mw, .int ml, .int mb, .ref m10, .int mz, .ref m11, .int op2_77, .int bp, .int by0, .int dp, .int tk, .ref m12, .ref m13, .ref m14, .ref m15, .ref m16, .ref m17, .ref m18, .int ka, .int iw])), (m11, .inl (cI, 4, .inl tl2_77))] [0, 1, 2, 3, 4, 5, 10, 11, 8, 9, 6, 7] (by decide) rfl ?_
                      refine x_lv [(8, .int (x8_48 + 1)), (7, .int 1), (6, .int 1), (5, .int x5_48), (0, .ref hy), (1, .int a), (2, .int s), (3, .int se), (4, .int t)] [0, 1, 2, 5, 6, 7, 8, 9, 10] rfl ?_
                      have : (1 : Int32).toInt = 1 := by decide
                      have := i_add (x := x8_48) (y := 1) (by omega) (by omega)
                      exact ih_48 (x8_48 + 1) 1 1 x5_48 op2_77 tl2_77 (by omega) (by omega)
                    · skip
                      have e_104 : ¬ ((x5_48 : Int32).toInt = (0 : Int32).toInt) := fun h => c_104 (i_eq.mpr h)
                      have : (0 : Int32).toInt = 0 := by decide
                      refine x_iload C 2 dX10_hasIt_107 rfl ?_
                      refine x_if_eq C 114 dX10_hasIt_109 (by decide) (fun c_109 => ?_) (fun c_109 => ?_)
                      · skip
                        have e_109 : (r_77 : Int32).toInt = (0 : Int32).toInt := i_eq.mp c_109
                        have : (0 : Int32).toInt = 0 := by decide
                        refine x_iinc C 4 (x8_48 + 1) [(8, .int (x8_48 + 1)), (7, .int 1), (6, .int 1), (10, .int r_77), (9, .int (nxF ma mg mt wf wp wt mw ml co ro a x8_48 se 4 0)), (5, .int x5_48), (0, .ref hy), (1, .int a), (2, .int s), (3, .int se), (4, .int t)] dX10_hasIt_114 rfl rfl (by decide) rfl ?_
                        refine x_goto C 48 dX10_hasIt_117 (by decide) ?_
                        refine x_sub [(m4, .inl (cI, 4, .inl mg)), (m5, .inl (cI, 4, .inl mt)), (m7, .inl (cI, 6, .inl wf)), (m8, .inl (cI, 6, .inl wp)), (m9, .inl (cI, 6, .inl wt)), (m0, .inl (cI, 625, .inl ro)), (m3, .inl (cI, 16, .inl mm)), (m16, .inl (cZ, 40625, .inl ch)), (m1, .inl (cI, 65, .inl co)), (m2, .inl (cI, 4, .inl ma)), (hy, .inr (10, [.ref m0, .ref m1, .ref m2, .ref m3, .ref m4, .ref m5, .ref m6, .ref m7, .ref m8, .ref m9, .int mw, .int ml, .int mb, .ref m10, .int mz, .ref m11, .int op2_77, .int bp, .int by0, .int dp, .int tk, .ref m12, .ref m13, .ref m14, .ref m15, .ref m16, .ref m17, .ref m18, .int ka, .int iw])), (m11, .inl (cI, 4, .inl tl2_77))] [0, 1, 2, 3, 4, 5, 10, 11, 8, 9, 6, 7] (by decide) rfl ?_
                        refine x_lv [(8, .int (x8_48 + 1)), (7, .int 1), (6, .int 1), (5, .int x5_48), (0, .ref hy), (1, .int a), (2, .int s), (3, .int se), (4, .int t)] [0, 1, 2, 5, 6, 7, 8, 9, 10] rfl ?_
                        have : (1 : Int32).toInt = 1 := by decide
                        have := i_add (x := x8_48) (y := 1) (by omega) (by omega)
                        exact ih_48 (x8_48 + 1) 1 1 x5_48 op2_77 tl2_77 (by omega) (by omega)
                      · skip
                        have e_109 : ¬ ((r_77 : Int32).toInt = (0 : Int32).toInt) := fun h => c_109 (i_eq.mpr h)
                        have : (0 : Int32).toInt = 0 := by decide
                        refine x_iconst C 1 dX10_hasIt_112 (by decide) ?_
                        refine x_sub [(hy, .inr (10, [.ref m0, .ref m1, .ref m2, .ref m3, .ref m4, .ref m5, .ref m6, .ref m7, .ref m8, .ref m9, .int mw, .int ml, .int mb, .ref m10, .int mz, .ref m11, .int op2_77, .int bp, .int by0, .int dp, .int tk, .ref m12, .ref m13, .ref m14, .ref m15, .ref m16, .ref m17, .ref m18, .int ka, .int iw])), (m11, .inl (cI, 4, .inl tl2_77)), (m2, .inl (cI, 4, .inl ma)), (m4, .inl (cI, 4, .inl mg)), (m5, .inl (cI, 4, .inl mt)), (m7, .inl (cI, 6, .inl wf)), (m8, .inl (cI, 6, .inl wp)), (m9, .inl (cI, 6, .inl wt)), (m0, .inl (cI, 625, .inl ro)), (m1, .inl (cI, 65, .inl co)), (m3, .inl (cI, 16, .inl mm)), (m16, .inl (cZ, 40625, .inl ch))] [6, 7, 9, 0, 1, 2, 3, 4, 5, 8, 10, 11] (by decide) rfl ?_
                        have : (1 : Int32).toInt = 1 := by decide
                        exact x_iret C dX10_hasIt_113 (Nat.zero_le _) (Nat.zero_le _) (by rw [eO]; exact ⟨1, tl2_77, op2_77, rfl, rfl, (by omega)⟩)
        have : (0 : Int32).toInt = 0 := by decide
        exact L_48 _ 0 1 0 0 ((((opS co a)))) ((((tds a)))) (by omega) (Nat.lt_succ_self _)
      · skip
        have e_29 : (((((tds a))) 0 + (((tds a))) 1 + (((tds a))) 2 + (((tds a))) 3) - ((((tds a))) 0 + (((tds a))) 1 + (((tds a))) 2 + (((tds a))) 3) / 2 * 2 : Int32).toInt = (0 : Int32).toInt := i_eq.mp c_29
        have : (0 : Int32).toInt = 0 := by decide
        refine x_iconst C 1 dX10_hasIt_32 (by decide) ?_
        refine x_goto C 37 dX10_hasIt_33 (by decide) ?_
        refine x_istore C [(5, .int 1), (0, .ref hy), (1, .int a), (2, .int s), (3, .int se), (4, .int t)] dX10_hasIt_37 (by decide) rfl ?_
        refine x_iconst C 0 dX10_hasIt_39 (by decide) ?_
        refine x_istore C [(6, .int 0), (5, .int 1), (0, .ref hy), (1, .int a), (2, .int s), (3, .int se), (4, .int t)] dX10_hasIt_40 (by decide) rfl ?_
        refine x_iconst C 1 dX10_hasIt_42 (by decide) ?_
        refine x_istore C [(7, .int 1), (6, .int 0), (5, .int 1), (0, .ref hy), (1, .int a), (2, .int s), (3, .int se), (4, .int t)] dX10_hasIt_43 (by decide) rfl ?_
        refine x_iconst C 0 dX10_hasIt_45 (by decide) ?_
        refine x_istore C [(8, .int 0), (7, .int 1), (6, .int 0), (5, .int 1), (0, .ref hy), (1, .int a), (2, .int s), (3, .int se), (4, .int t)] dX10_hasIt_46 (by decide) rfl ?_
        have L_48 : ∀ (n_48 : Nat) (x8_48 : Int32) (x7_48 : Int32) (x6_48 : Int32) (x5_48 : Int32) (ghy16_48 : Int32) (fm11_48 : Nat → Int32), ((0 ≤ x8_48.toInt ∧ x8_48.toInt ≤ 4)) → ((4 - x8_48.toInt).toNat < n_48) → V X 11 [(m4, .inl (cI, 4, .inl mg)), (m5, .inl (cI, 4, .inl mt)), (m7, .inl (cI, 6, .inl wf)), (m8, .inl (cI, 6, .inl wp)), (m9, .inl (cI, 6, .inl wt)), (m0, .inl (cI, 625, .inl ro)), (m3, .inl (cI, 16, .inl mm)), (m16, .inl (cZ, 40625, .inl ch)), (m1, .inl (cI, 65, .inl co)), (m2, .inl (cI, 4, .inl ma)), (hy, .inr (10, [.ref m0, .ref m1, .ref m2, .ref m3, .ref m4, .ref m5, .ref m6, .ref m7, .ref m8, .ref m9, .int mw, .int ml, .int mb, .ref m10, .int mz, .ref m11, .int ghy16_48, .int bp, .int by0, .int dp, .int tk, .ref m12, .ref m13, .ref m14, .ref m15, .ref m16, .ref m17, .ref m18, .int ka, .int iw])), (m11, .inl (cI, 4, .inl fm11_48))] [(8, .int x8_48), (7, .int x7_48), (6, .int x6_48), (5, .int x5_48), (0, .ref hy), (1, .int a), (2, .int s), (3, .int se), (4, .int t)] [] 48 0 0 := by
          intro n_48
          induction n_48 with
          | zero =>
            intro x8_48 x7_48 x6_48 x5_48 ghy16_48 fm11_48 i_48 m_48
            exact absurd m_48 (Nat.not_lt_zero _)
          | succ n_48 ih_48 =>
            intro x8_48 x7_48 x6_48 x5_48 ghy16_48 fm11_48 i_48 m_48
            refine x_iload C 0 dX10_hasIt_48 rfl ?_
            refine x_iconst C 4 dX10_hasIt_50 (by decide) ?_
            refine x_icmp_ge C 120 dX10_hasIt_51 (by decide) (fun c_51 => ?_) (fun c_51 => ?_)
            · skip
              have e_51 : (4 : Int32).toInt ≤ (x8_48 : Int32).toInt := i_le.mp c_51
              have : (4 : Int32).toInt = 4 := by decide
              refine x_iload C 3 dX10_hasIt_120 rfl ?_
              refine x_if_ne C 139 dX10_hasIt_122 (by decide) (fun c_122 => ?_) (fun c_122 => ?_)
              · skip
                have e_122 : ¬ ((x5_48 : Int32).toInt = (0 : Int32).toInt) := fun h => c_122 (i_eq.mpr h)
                have : (0 : Int32).toInt = 0 := by decide
                refine x_iconst C 0 dX10_hasIt_139 (by decide) ?_
                refine x_sub [(hy, .inr (10, [.ref m0, .ref m1, .ref m2, .ref m3, .ref m4, .ref m5, .ref m6, .ref m7, .ref m8, .ref m9, .int mw, .int ml, .int mb, .ref m10, .int mz, .ref m11, .int ghy16_48, .int bp, .int by0, .int dp, .int tk, .ref m12, .ref m13, .ref m14, .ref m15, .ref m16, .ref m17, .ref m18, .int ka, .int iw])), (m11, .inl (cI, 4, .inl fm11_48)), (m2, .inl (cI, 4, .inl ma)), (m4, .inl (cI, 4, .inl mg)), (m5, .inl (cI, 4, .inl mt)), (m7, .inl (cI, 6, .inl wf)), (m8, .inl (cI, 6, .inl wp)), (m9, .inl (cI, 6, .inl wt)), (m0, .inl (cI, 625, .inl ro)), (m1, .inl (cI, 65, .inl co)), (m3, .inl (cI, 16, .inl mm)), (m16, .inl (cZ, 40625, .inl ch))] [10, 11, 9, 0, 1, 2, 3, 4, 5, 8, 6, 7] (by decide) rfl ?_
                have : (0 : Int32).toInt = 0 := by decide
                exact x_iret C dX10_hasIt_140 (Nat.zero_le _) (Nat.zero_le _) (by rw [eO]; exact ⟨0, fm11_48, ghy16_48, rfl, rfl, (by omega)⟩)
              · skip
                have e_122 : (x5_48 : Int32).toInt = (0 : Int32).toInt := i_eq.mp c_122
                have : (0 : Int32).toInt = 0 := by decide
                refine x_iload C 2 dX10_hasIt_125 rfl ?_
                refine x_if_eq C 139 dX10_hasIt_127 (by decide) (fun c_127 => ?_) (fun c_127 => ?_)
                · skip
                  have e_127 : (x6_48 : Int32).toInt = (0 : Int32).toInt := i_eq.mp c_127
                  have : (0 : Int32).toInt = 0 := by decide
                  refine x_iconst C 0 dX10_hasIt_139 (by decide) ?_
                  refine x_sub [(hy, .inr (10, [.ref m0, .ref m1, .ref m2, .ref m3, .ref m4, .ref m5, .ref m6, .ref m7, .ref m8, .ref m9, .int mw, .int ml, .int mb, .ref m10, .int mz, .ref m11, .int ghy16_48, .int bp, .int by0, .int dp, .int tk, .ref m12, .ref m13, .ref m14, .ref m15, .ref m16, .ref m17, .ref m18, .int ka, .int iw])), (m11, .inl (cI, 4, .inl fm11_48)), (m2, .inl (cI, 4, .inl ma)), (m4, .inl (cI, 4, .inl mg)), (m5, .inl (cI, 4, .inl mt)), (m7, .inl (cI, 6, .inl wf)), (m8, .inl (cI, 6, .inl wp)), (m9, .inl (cI, 6, .inl wt)), (m0, .inl (cI, 625, .inl ro)), (m1, .inl (cI, 65, .inl co)), (m3, .inl (cI, 16, .inl mm)), (m16, .inl (cZ, 40625, .inl ch))] [10, 11, 9, 0, 1, 2, 3, 4, 5, 8, 6, 7] (by decide) rfl ?_
                  have : (0 : Int32).toInt = 0 := by decide
                  exact x_iret C dX10_hasIt_140 (Nat.zero_le _) (Nat.zero_le _) (by rw [eO]; exact ⟨0, fm11_48, ghy16_48, rfl, rfl, (by omega)⟩)
                · skip
                  have e_127 : ¬ ((x6_48 : Int32).toInt = (0 : Int32).toInt) := fun h => c_127 (i_eq.mpr h)
                  have : (0 : Int32).toInt = 0 := by decide
                  refine x_iload C 1 dX10_hasIt_130 rfl ?_
                  refine x_if_eq C 139 dX10_hasIt_132 (by decide) (fun c_132 => ?_) (fun c_132 => ?_)
                  · skip
                    have e_132 : (x7_48 : Int32).toInt = (0 : Int32).toInt := i_eq.mp c_132
                    have : (0 : Int32).toInt = 0 := by decide
                    refine x_iconst C 0 dX10_hasIt_139 (by decide) ?_
                    refine x_sub [(hy, .inr (10, [.ref m0, .ref m1, .ref m2, .ref m3, .ref m4, .ref m5, .ref m6, .ref m7, .ref m8, .ref m9, .int mw, .int ml, .int mb, .ref m10, .int mz, .ref m11, .int ghy16_48, .int bp, .int by0, .int dp, .int tk, .ref m12, .ref m13, .ref m14, .ref m15, .ref m16, .ref m17, .ref m18, .int ka, .int iw])), (m11, .inl (cI, 4, .inl fm11_48)), (m2, .inl (cI, 4, .inl ma)), (m4, .inl (cI, 4, .inl mg)), (m5, .inl (cI, 4, .inl mt)), (m7, .inl (cI, 6, .inl wf)), (m8, .inl (cI, 6, .inl wp)), (m9, .inl (cI, 6, .inl wt)), (m0, .inl (cI, 625, .inl ro)), (m1, .inl (cI, 65, .inl co)), (m3, .inl (cI, 16, .inl mm)), (m16, .inl (cZ, 40625, .inl ch))] [10, 11, 9, 0, 1, 2, 3, 4, 5, 8, 6, 7] (by decide) rfl ?_
                    have : (0 : Int32).toInt = 0 := by decide
                    exact x_iret C dX10_hasIt_140 (Nat.zero_le _) (Nat.zero_le _) (by rw [eO]; exact ⟨0, fm11_48, ghy16_48, rfl, rfl, (by omega)⟩)
                  · skip
                    have e_132 : ¬ ((x7_48 : Int32).toInt = (0 : Int32).toInt) := fun h => c_132 (i_eq.mpr h)
                    have : (0 : Int32).toInt = 0 := by decide
                    refine x_iconst C 1 dX10_hasIt_135 (by decide) ?_
                    refine x_goto C 140 dX10_hasIt_136 (by decide) ?_
                    refine x_sub [(hy, .inr (10, [.ref m0, .ref m1, .ref m2, .ref m3, .ref m4, .ref m5, .ref m6, .ref m7, .ref m8, .ref m9, .int mw, .int ml, .int mb, .ref m10, .int mz, .ref m11, .int ghy16_48, .int bp, .int by0, .int dp, .int tk, .ref m12, .ref m13, .ref m14, .ref m15, .ref m16, .ref m17, .ref m18, .int ka, .int iw])), (m11, .inl (cI, 4, .inl fm11_48)), (m2, .inl (cI, 4, .inl ma)), (m4, .inl (cI, 4, .inl mg)), (m5, .inl (cI, 4, .inl mt)), (m7, .inl (cI, 6, .inl wf)), (m8, .inl (cI, 6, .inl wp)), (m9, .inl (cI, 6, .inl wt)), (m0, .inl (cI, 625, .inl ro)), (m1, .inl (cI, 65, .inl co)), (m3, .inl (cI, 16, .inl mm)), (m16, .inl (cZ, 40625, .inl ch))] [10, 11, 9, 0, 1, 2, 3, 4, 5, 8, 6, 7] (by decide) rfl ?_
                    have : (1 : Int32).toInt = 1 := by decide
                    exact x_iret C dX10_hasIt_140 (Nat.zero_le _) (Nat.zero_le _) (by rw [eO]; exact ⟨1, fm11_48, ghy16_48, rfl, rfl, (by omega)⟩)
            · skip
              have e_51 : ¬ ((4 : Int32).toInt ≤ (x8_48 : Int32).toInt) := fun h => c_51 (i_le.mpr h)
              have : (4 : Int32).toInt = 4 := by decide
              refine x_aload_n C 4 dX10_hasIt_54 rfl rfl ?_
              refine x_iload_n C 5 dX10_hasIt_55 rfl rfl ?_
              refine x_iload C 0 dX10_hasIt_56 rfl ?_
              refine x_iload_n C 7 dX10_hasIt_58 rfl rfl ?_
              refine x_iconst C 4 dX10_hasIt_59 (by decide) ?_
              refine x_iconst C 0 dX10_hasIt_60 (by decide) ?_
              refine x_callV C [.int a, .int x8_48, .int se, .int 4, .int 0] [(m3, .inl (cI, 16, .inl mm)), (m16, .inl (cZ, 40625, .inl ch))] [10, 11, 9, 0, 1, 2, 3, 4, 5, 8] [6, 7] (q0 := 0) (c_X10_nextOf (xl X) (xD X) (xt X) hT hy m0 m1 m2 m3 m4 m5 m6 m7 m8 m9 m10 m11 m12 m13 m14 m15 m16 m17 m18 fm11_48 ma mg mt wf wp wt ro co mw ml mb mz ghy16_48 bp by0 dp tk ka iw a x8_48 se 4 0 hst hR g9 (by omega) hmw hwt) dX10_hasIt_61 wd_587 wd_588 wd_589 wd_5 wd_590 (np := 5) ⟨by decide, by decide, by decide +kernel⟩ rfl rfl (Nat.le_of_ble_eq_true rfl) (by decide) rfl rfl rfl rfl (by decide) rfl (by decide) (by decide) (fun v W1 h => ?_)
              obtain ⟨tl2_61, op2_61, rfl, rfl, h_61⟩ := h
              have : (0 : Int32).toInt = 0 := by decide
              have : (4 : Int32).toInt = 4 := by decide
              show V X 11 [(m3, .inl (cI, 16, .inl mm)), (m16, .inl (cZ, 40625, .inl ch)), (hy, .inr (10, [.ref m0, .ref m1, .ref m2, .ref m3, .ref m4, .ref m5, .ref m6, .ref m7, .ref m8, .ref m9, .int mw, .int ml, .int mb, .ref m10, .int mz, .ref m11, .int op2_61, .int bp, .int by0, .int dp, .int tk, .ref m12, .ref m13, .ref m14, .ref m15, .ref m16, .ref m17, .ref m18, .int ka, .int iw])), (m11, .inl (cI, 4, .inl tl2_61)), (m2, .inl (cI, 4, .inl ma)), (m4, .inl (cI, 4, .inl mg)), (m5, .inl (cI, 4, .inl mt)), (m7, .inl (cI, 6, .inl wf)), (m8, .inl (cI, 6, .inl wp)), (m9, .inl (cI, 6, .inl wt)), (m0, .inl (cI, 625, .inl ro)), (m1, .inl (cI, 65, .inl co))] [(8, .int x8_48), (7, .int x7_48), (6, .int x6_48), (5, .int x5_48), (0, .ref hy), (1, .int a), (2, .int s), (3, .int se), (4, .int t)] [.int (nxF ma mg mt wf wp wt mw ml co ro a x8_48 se 4 0)] 64 0 0
              refine x_istore C [(9, .int (nxF ma mg mt wf wp wt mw ml co ro a x8_48 se 4 0)), (8, .int x8_48), (7, .int x7_48), (6, .int x6_48), (5, .int x5_48), (0, .ref hy), (1, .int a), (2, .int s), (3, .int se), (4, .int t)] dX10_hasIt_64 (by decide) rfl ?_
              refine x_iload C 0 dX10_hasIt_66 rfl ?_
              refine x_if_lt C 114 dX10_hasIt_68 (by decide) (fun c_68 => ?_) (fun c_68 => ?_)
              · skip
                have e_68 : (nxF ma mg mt wf wp wt mw ml co ro a x8_48 se 4 0 : Int32).toInt < (0 : Int32).toInt := i_lt.mp c_68
                have : (0 : Int32).toInt = 0 := by decide
                refine x_iinc C 1 (x8_48 + 1) [(8, .int (x8_48 + 1)), (9, .int (nxF ma mg mt wf wp wt mw ml co ro a x8_48 se 4 0)), (7, .int x7_48), (6, .int x6_48), (5, .int x5_48), (0, .ref hy), (1, .int a), (2, .int s), (3, .int se), (4, .int t)] dX10_hasIt_114 rfl rfl (by decide) rfl ?_
                refine x_goto C 48 dX10_hasIt_117 (by decide) ?_
                refine x_sub [(m4, .inl (cI, 4, .inl mg)), (m5, .inl (cI, 4, .inl mt)), (m7, .inl (cI, 6, .inl wf)), (m8, .inl (cI, 6, .inl wp)), (m9, .inl (cI, 6, .inl wt)), (m0, .inl (cI, 625, .inl ro)), (m3, .inl (cI, 16, .inl mm)), (m16, .inl (cZ, 40625, .inl ch)), (m1, .inl (cI, 65, .inl co)), (m2, .inl (cI, 4, .inl ma)), (hy, .inr (10, [.ref m0, .ref m1, .ref m2, .ref m3, .ref m4, .ref m5, .ref m6, .ref m7, .ref m8, .ref m9, .int mw, .int ml, .int mb, .ref m10, .int mz, .ref m11, .int op2_61, .int bp, .int by0, .int dp, .int tk, .ref m12, .ref m13, .ref m14, .ref m15, .ref m16, .ref m17, .ref m18, .int ka, .int iw])), (m11, .inl (cI, 4, .inl tl2_61))] [5, 6, 7, 8, 9, 10, 0, 1, 11, 4, 2, 3] (by decide) rfl ?_
                refine x_lv [(8, .int (x8_48 + 1)), (7, .int x7_48), (6, .int x6_48), (5, .int x5_48), (0, .ref hy), (1, .int a), (2, .int s), (3, .int se), (4, .int t)] [0, 2, 3, 4, 5, 6, 7, 8, 9] rfl ?_
                have : (1 : Int32).toInt = 1 := by decide
                have := i_add (x := x8_48) (y := 1) (by omega) (by omega)
                exact ih_48 (x8_48 + 1) x7_48 x6_48 x5_48 op2_61 tl2_61 (by omega) (by omega)
              · skip
                have e_68 : ¬ ((nxF ma mg mt wf wp wt mw ml co ro a x8_48 se 4 0 : Int32).toInt < (0 : Int32).toInt) := fun h => c_68 (i_lt.mpr h)
                have : (0 : Int32).toInt = 0 := by decide
                refine x_aload_n C 5 dX10_hasIt_71 rfl rfl ?_
                refine x_iload C 0 dX10_hasIt_72 rfl ?_
                refine x_iload_n C 7 dX10_hasIt_74 rfl rfl ?_
                refine x_iload C 9 dX10_hasIt_75 rfl ?_
                refine x_callV C [.int (nxF ma mg mt wf wp wt mw ml co ro a x8_48 se 4 0), .int s, .int t] [(m4, .inl (cI, 4, .inl mg)), (m5, .inl (cI, 4, .inl mt)), (m7, .inl (cI, 6, .inl wf)), (m8, .inl (cI, 6, .inl wp)), (m9, .inl (cI, 6, .inl wt)), (m0, .inl (cI, 625, .inl ro))] [2, 3, 11, 4, 0, 1] [5, 6, 7, 8, 9, 10] (q0 := 0) (c_X10_hasBy (xl X) (xD X) (xt X) hT hy m0 m1 m2 m3 m4 m5 m6 m7 m8 m9 m10 m11 m12 m13 m14 m15 m16 m17 m18 tl2_61 co ma mm ch mw ml mb mz op2_61 bp by0 dp tk ka iw (nxF ma mg mt wf wp wt mw ml co ro a x8_48 se 4 0) s t (by have := (nx_ok hR (by omega) g9 (by omega) (nl0 e_68)).1; omega) hs hmm hch) dX10_hasIt_77 wd_732 wd_733 wd_734 wd_5 wd_735 (np := 3) ⟨by decide, by decide, by decide +kernel⟩ rfl rfl (Nat.le_of_ble_eq_true rfl) (by decide) rfl rfl rfl rfl (by decide) rfl (by decide) (by decide) (fun v W1 h => ?_)
                obtain ⟨r_77, tl2_77, op2_77, rfl, rfl, h_77⟩ := h
                show V X 11 [(m4, .inl (cI, 4, .inl mg)), (m5, .inl (cI, 4, .inl mt)), (m7, .inl (cI, 6, .inl wf)), (m8, .inl (cI, 6, .inl wp)), (m9, .inl (cI, 6, .inl wt)), (m0, .inl (cI, 625, .inl ro)), (hy, .inr (10, [.ref m0, .ref m1, .ref m2, .ref m3, .ref m4, .ref m5, .ref m6, .ref m7, .ref m8, .ref m9, .int mw, .int ml, .int mb, .ref m10, .int mz, .ref m11, .int op2_77, .int bp, .int by0, .int dp, .int tk, .ref m12, .ref m13, .ref m14, .ref m15, .ref m16, .ref m17, .ref m18, .int ka, .int iw])), (m11, .inl (cI, 4, .inl tl2_77)), (m1, .inl (cI, 65, .inl co)), (m2, .inl (cI, 4, .inl ma)), (m3, .inl (cI, 16, .inl mm)), (m16, .inl (cZ, 40625, .inl ch))] [(9, .int (nxF ma mg mt wf wp wt mw ml co ro a x8_48 se 4 0)), (8, .int x8_48), (7, .int x7_48), (6, .int x6_48), (5, .int x5_48), (0, .ref hy), (1, .int a), (2, .int s), (3, .int se), (4, .int t)] [.int r_77] 80 0 0
                refine x_istore C [(10, .int r_77), (9, .int (nxF ma mg mt wf wp wt mw ml co ro a x8_48 se 4 0)), (8, .int x8_48), (7, .int x7_48), (6, .int x6_48), (5, .int x5_48), (0, .ref hy), (1, .int a), (2, .int s), (3, .int se), (4, .int t)] dX10_hasIt_80 (by decide) rfl ?_
                refine x_iconst C 1 dX10_hasIt_82 (by decide) ?_
                refine x_istore C [(6, .int 1), (10, .int r_77), (9, .int (nxF ma mg mt wf wp wt mw ml co ro a x8_48 se 4 0)), (8, .int x8_48), (7, .int x7_48), (5, .int x5_48), (0, .ref hy), (1, .int a), (2, .int s), (3, .int se), (4, .int t)] dX10_hasIt_83 (by decide) rfl ?_
                refine x_iload C 4 dX10_hasIt_85 rfl ?_
                refine x_if_eq C 99 dX10_hasIt_87 (by decide) (fun c_87 => ?_) (fun c_87 => ?_)
                · skip
                  have e_87 : (x7_48 : Int32).toInt = (0 : Int32).toInt := i_eq.mp c_87
                  have : (0 : Int32).toInt = 0 := by decide
                  refine x_iconst C 0 dX10_hasIt_99 (by decide) ?_
                  refine x_istore C [(7, .int 0), (6, .int 1), (10, .int r_77), (9, .int (nxF ma mg mt wf wp wt mw ml co ro a x8_48 se 4 0)), (8, .int x8_48), (5, .int x5_48), (0, .ref hy), (1, .int a), (2, .int s), (3, .int se), (4, .int t)] dX10_hasIt_100 (by decide) rfl ?_
                  refine x_iload C 5 dX10_hasIt_102 rfl ?_
                  refine x_if_eq C 114 dX10_hasIt_104 (by decide) (fun c_104 => ?_) (fun c_104 => ?_)
                  · skip
                    have e_104 : (x5_48 : Int32).toInt = (0 : Int32).toInt := i_eq.mp c_104
                    have : (0 : Int32).toInt = 0 := by decide
                    refine x_iinc C 4 (x8_48 + 1) [(8, .int (x8_48 + 1)), (7, .int 0), (6, .int 1), (10, .int r_77), (9, .int (nxF ma mg mt wf wp wt mw ml co ro a x8_48 se 4 0)), (5, .int x5_48), (0, .ref hy), (1, .int a), (2, .int s), (3, .int se), (4, .int t)] dX10_hasIt_114 rfl rfl (by decide) rfl ?_
                    refine x_goto C 48 dX10_hasIt_117 (by decide) ?_
                    refine x_sub [(m4, .inl (cI, 4, .inl mg)), (m5, .inl (cI, 4, .inl mt)), (m7, .inl (cI, 6, .inl wf)), (m8, .inl (cI, 6, .inl wp)), (m9, .inl (cI, 6, .inl wt)), (m0, .inl (cI, 625, .inl ro)), (m3, .inl (cI, 16, .inl mm)), (m16, .inl (cZ, 40625, .inl ch)), (m1, .inl (cI, 65, .inl co)), (m2, .inl (cI, 4, .inl ma)), (hy, .inr (10, [.ref m0, .ref m1, .ref m2, .ref m3, .ref m4, .ref m5, .ref m6, .ref m7, .ref m8, .ref m9, .int mw, .int ml, .int mb, .ref m10, .int mz, .ref m11, .int op2_77, .int bp, .int by0, .int dp, .int tk, .ref m12, .ref m13, .ref m14, .ref m15, .ref m16, .ref m17, .ref m18, .int ka, .int iw])), (m11, .inl (cI, 4, .inl tl2_77))] [0, 1, 2, 3, 4, 5, 10, 11, 8, 9, 6, 7] (by decide) rfl ?_
                    refine x_lv [(8, .int (x8_48 + 1)), (7, .int 0), (6, .int 1), (5, .int x5_48), (0, .ref hy), (1, .int a), (2, .int s), (3, .int se), (4, .int t)] [0, 1, 2, 5, 6, 7, 8, 9, 10] rfl ?_
                    have : (1 : Int32).toInt = 1 := by decide
                    have := i_add (x := x8_48) (y := 1) (by omega) (by omega)
                    exact ih_48 (x8_48 + 1) 0 1 x5_48 op2_77 tl2_77 (by omega) (by omega)
                  · skip
                    have e_104 : ¬ ((x5_48 : Int32).toInt = (0 : Int32).toInt) := fun h => c_104 (i_eq.mpr h)
                    have : (0 : Int32).toInt = 0 := by decide
                    refine x_iload C 2 dX10_hasIt_107 rfl ?_
                    refine x_if_eq C 114 dX10_hasIt_109 (by decide) (fun c_109 => ?_) (fun c_109 => ?_)
                    · skip
                      have e_109 : (r_77 : Int32).toInt = (0 : Int32).toInt := i_eq.mp c_109
                      have : (0 : Int32).toInt = 0 := by decide
                      refine x_iinc C 4 (x8_48 + 1) [(8, .int (x8_48 + 1)), (7, .int 0), (6, .int 1), (10, .int r_77), (9, .int (nxF ma mg mt wf wp wt mw ml co ro a x8_48 se 4 0)), (5, .int x5_48), (0, .ref hy), (1, .int a), (2, .int s), (3, .int se), (4, .int t)] dX10_hasIt_114 rfl rfl (by decide) rfl ?_
                      refine x_goto C 48 dX10_hasIt_117 (by decide) ?_
                      refine x_sub [(m4, .inl (cI, 4, .inl mg)), (m5, .inl (cI, 4, .inl mt)), (m7, .inl (cI, 6, .inl wf)), (m8, .inl (cI, 6, .inl wp)), (m9, .inl (cI, 6, .inl wt)), (m0, .inl (cI, 625, .inl ro)), (m3, .inl (cI, 16, .inl mm)), (m16, .inl (cZ, 40625, .inl ch)), (m1, .inl (cI, 65, .inl co)), (m2, .inl (cI, 4, .inl ma)), (hy, .inr (10, [.ref m0, .ref m1, .ref m2, .ref m3, .ref m4, .ref m5, .ref m6, .ref m7, .ref m8, .ref m9, .int mw, .int ml, .int mb, .ref m10, .int mz, .ref m11, .int op2_77, .int bp, .int by0, .int dp, .int tk, .ref m12, .ref m13, .ref m14, .ref m15, .ref m16, .ref m17, .ref m18, .int ka, .int iw])), (m11, .inl (cI, 4, .inl tl2_77))] [0, 1, 2, 3, 4, 5, 10, 11, 8, 9, 6, 7] (by decide) rfl ?_
                      refine x_lv [(8, .int (x8_48 + 1)), (7, .int 0), (6, .int 1), (5, .int x5_48), (0, .ref hy), (1, .int a), (2, .int s), (3, .int se), (4, .int t)] [0, 1, 2, 5, 6, 7, 8, 9, 10] rfl ?_
                      have : (1 : Int32).toInt = 1 := by decide
                      have := i_add (x := x8_48) (y := 1) (by omega) (by omega)
                      exact ih_48 (x8_48 + 1) 0 1 x5_48 op2_77 tl2_77 (by omega) (by omega)
                    · skip
                      have e_109 : ¬ ((r_77 : Int32).toInt = (0 : Int32).toInt) := fun h => c_109 (i_eq.mpr h)
                      have : (0 : Int32).toInt = 0 := by decide
                      refine x_iconst C 1 dX10_hasIt_112 (by decide) ?_
                      refine x_sub [(hy, .inr (10, [.ref m0, .ref m1, .ref m2, .ref m3, .ref m4, .ref m5, .ref m6, .ref m7, .ref m8, .ref m9, .int mw, .int ml, .int mb, .ref m10, .int mz, .ref m11, .int op2_77, .int bp, .int by0, .int dp, .int tk, .ref m12, .ref m13, .ref m14, .ref m15, .ref m16, .ref m17, .ref m18, .int ka, .int iw])), (m11, .inl (cI, 4, .inl tl2_77)), (m2, .inl (cI, 4, .inl ma)), (m4, .inl (cI, 4, .inl mg)), (m5, .inl (cI, 4, .inl mt)), (m7, .inl (cI, 6, .inl wf)), (m8, .inl (cI, 6, .inl wp)), (m9, .inl (cI, 6, .inl wt)), (m0, .inl (cI, 625, .inl ro)), (m1, .inl (cI, 65, .inl co)), (m3, .inl (cI, 16, .inl mm)), (m16, .inl (cZ, 40625, .inl ch))] [6, 7, 9, 0, 1, 2, 3, 4, 5, 8, 10, 11] (by decide) rfl ?_
                      have : (1 : Int32).toInt = 1 := by decide
                      exact x_iret C dX10_hasIt_113 (Nat.zero_le _) (Nat.zero_le _) (by rw [eO]; exact ⟨1, tl2_77, op2_77, rfl, rfl, (by omega)⟩)
                · skip
                  have e_87 : ¬ ((x7_48 : Int32).toInt = (0 : Int32).toInt) := fun h => c_87 (i_eq.mpr h)
                  have : (0 : Int32).toInt = 0 := by decide
                  refine x_iload C 1 dX10_hasIt_90 rfl ?_
                  refine x_if_eq C 99 dX10_hasIt_92 (by decide) (fun c_92 => ?_) (fun c_92 => ?_)
                  · skip
                    have e_92 : (r_77 : Int32).toInt = (0 : Int32).toInt := i_eq.mp c_92
                    have : (0 : Int32).toInt = 0 := by decide
                    refine x_iconst C 0 dX10_hasIt_99 (by decide) ?_
                    refine x_istore C [(7, .int 0), (6, .int 1), (10, .int r_77), (9, .int (nxF ma mg mt wf wp wt mw ml co ro a x8_48 se 4 0)), (8, .int x8_48), (5, .int x5_48), (0, .ref hy), (1, .int a), (2, .int s), (3, .int se), (4, .int t)] dX10_hasIt_100 (by decide) rfl ?_
                    refine x_iload C 5 dX10_hasIt_102 rfl ?_
                    refine x_if_eq C 114 dX10_hasIt_104 (by decide) (fun c_104 => ?_) (fun c_104 => ?_)
                    · skip
                      have e_104 : (x5_48 : Int32).toInt = (0 : Int32).toInt := i_eq.mp c_104
                      have : (0 : Int32).toInt = 0 := by decide
                      refine x_iinc C 4 (x8_48 + 1) [(8, .int (x8_48 + 1)), (7, .int 0), (6, .int 1), (10, .int r_77), (9, .int (nxF ma mg mt wf wp wt mw ml co ro a x8_48 se 4 0)), (5, .int x5_48), (0, .ref hy), (1, .int a), (2, .int s), (3, .int se), (4, .int t)] dX10_hasIt_114 rfl rfl (by decide) rfl ?_
                      refine x_goto C 48 dX10_hasIt_117 (by decide) ?_
                      refine x_sub [(m4, .inl (cI, 4, .inl mg)), (m5, .inl (cI, 4, .inl mt)), (m7, .inl (cI, 6, .inl wf)), (m8, .inl (cI, 6, .inl wp)), (m9, .inl (cI, 6, .inl wt)), (m0, .inl (cI, 625, .inl ro)), (m3, .inl (cI, 16, .inl mm)), (m16, .inl (cZ, 40625, .inl ch)), (m1, .inl (cI, 65, .inl co)), (m2, .inl (cI, 4, .inl ma)), (hy, .inr (10, [.ref m0, .ref m1, .ref m2, .ref m3, .ref m4, .ref m5, .ref m6, .ref m7, .ref m8, .ref m9, .int mw, .int ml, .int mb, .ref m10, .int mz, .ref m11, .int op2_77, .int bp, .int by0, .int dp, .int tk, .ref m12, .ref m13, .ref m14, .ref m15, .ref m16, .ref m17, .ref m18, .int ka, .int iw])), (m11, .inl (cI, 4, .inl tl2_77))] [0, 1, 2, 3, 4, 5, 10, 11, 8, 9, 6, 7] (by decide) rfl ?_
                      refine x_lv [(8, .int (x8_48 + 1)), (7, .int 0), (6, .int 1), (5, .int x5_48), (0, .ref hy), (1, .int a), (2, .int s), (3, .int se), (4, .int t)] [0, 1, 2, 5, 6, 7, 8, 9, 10] rfl ?_
                      have : (1 : Int32).toInt = 1 := by decide
                      have := i_add (x := x8_48) (y := 1) (by omega) (by omega)
                      exact ih_48 (x8_48 + 1) 0 1 x5_48 op2_77 tl2_77 (by omega) (by omega)
                    · skip
                      have e_104 : ¬ ((x5_48 : Int32).toInt = (0 : Int32).toInt) := fun h => c_104 (i_eq.mpr h)
                      have : (0 : Int32).toInt = 0 := by decide
                      refine x_iload C 2 dX10_hasIt_107 rfl ?_
                      refine x_if_eq C 114 dX10_hasIt_109 (by decide) (fun c_109 => ?_) (fun c_109 => ?_)
                      · skip
                        have e_109 : (r_77 : Int32).toInt = (0 : Int32).toInt := i_eq.mp c_109
                        have : (0 : Int32).toInt = 0 := by decide
                        refine x_iinc C 4 (x8_48 + 1) [(8, .int (x8_48 + 1)), (7, .int 0), (6, .int 1), (10, .int r_77), (9, .int (nxF ma mg mt wf wp wt mw ml co ro a x8_48 se 4 0)), (5, .int x5_48), (0, .ref hy), (1, .int a), (2, .int s), (3, .int se), (4, .int t)] dX10_hasIt_114 rfl rfl (by decide) rfl ?_
                        refine x_goto C 48 dX10_hasIt_117 (by decide) ?_
                        refine x_sub [(m4, .inl (cI, 4, .inl mg)), (m5, .inl (cI, 4, .inl mt)), (m7, .inl (cI, 6, .inl wf)), (m8, .inl (cI, 6, .inl wp)), (m9, .inl (cI, 6, .inl wt)), (m0, .inl (cI, 625, .inl ro)), (m3, .inl (cI, 16, .inl mm)), (m16, .inl (cZ, 40625, .inl ch)), (m1, .inl (cI, 65, .inl co)), (m2, .inl (cI, 4, .inl ma)), (hy, .inr (10, [.ref m0, .ref m1, .ref m2, .ref m3, .ref m4, .ref m5, .ref m6, .ref m7, .ref m8, .ref m9, .int mw, .int ml, .int mb, .ref m10, .int mz, .ref m11, .int op2_77, .int bp, .int by0, .int dp, .int tk, .ref m12, .ref m13, .ref m14, .ref m15, .ref m16, .ref m17, .ref m18, .int ka, .int iw])), (m11, .inl (cI, 4, .inl tl2_77))] [0, 1, 2, 3, 4, 5, 10, 11, 8, 9, 6, 7] (by decide) rfl ?_
                        refine x_lv [(8, .int (x8_48 + 1)), (7, .int 0), (6, .int 1), (5, .int x5_48), (0, .ref hy), (1, .int a), (2, .int s), (3, .int se), (4, .int t)] [0, 1, 2, 5, 6, 7, 8, 9, 10] rfl ?_
                        have : (1 : Int32).toInt = 1 := by decide
                        have := i_add (x := x8_48) (y := 1) (by omega) (by omega)
                        exact ih_48 (x8_48 + 1) 0 1 x5_48 op2_77 tl2_77 (by omega) (by omega)
                      · skip
                        have e_109 : ¬ ((r_77 : Int32).toInt = (0 : Int32).toInt) := fun h => c_109 (i_eq.mpr h)
                        have : (0 : Int32).toInt = 0 := by decide
                        refine x_iconst C 1 dX10_hasIt_112 (by decide) ?_
                        refine x_sub [(hy, .inr (10, [.ref m0, .ref m1, .ref m2, .ref m3, .ref m4, .ref m5, .ref m6, .ref m7, .ref m8, .ref m9, .int mw, .int ml, .int mb, .ref m10, .int mz, .ref m11, .int op2_77, .int bp, .int by0, .int dp, .int tk, .ref m12, .ref m13, .ref m14, .ref m15, .ref m16, .ref m17, .ref m18, .int ka, .int iw])), (m11, .inl (cI, 4, .inl tl2_77)), (m2, .inl (cI, 4, .inl ma)), (m4, .inl (cI, 4, .inl mg)), (m5, .inl (cI, 4, .inl mt)), (m7, .inl (cI, 6, .inl wf)), (m8, .inl (cI, 6, .inl wp)), (m9, .inl (cI, 6, .inl wt)), (m0, .inl (cI, 625, .inl ro)), (m1, .inl (cI, 65, .inl co)), (m3, .inl (cI, 16, .inl mm)), (m16, .inl (cZ, 40625, .inl ch))] [6, 7, 9, 0, 1, 2, 3, 4, 5, 8, 10, 11] (by decide) rfl ?_
                        have : (1 : Int32).toInt = 1 := by decide
                        exact x_iret C dX10_hasIt_113 (Nat.zero_le _) (Nat.zero_le _) (by rw [eO]; exact ⟨1, tl2_77, op2_77, rfl, rfl, (by omega)⟩)
                  · skip
                    have e_92 : ¬ ((r_77 : Int32).toInt = (0 : Int32).toInt) := fun h => c_92 (i_eq.mpr h)
                    have : (0 : Int32).toInt = 0 := by decide
                    refine x_iconst C 1 dX10_hasIt_95 (by decide) ?_
                    refine x_goto C 100 dX10_hasIt_96 (by decide) ?_
                    refine x_istore C [(7, .int 1), (6, .int 1), (10, .int r_77), (9, .int (nxF ma mg mt wf wp wt mw ml co ro a x8_48 se 4 0)), (8, .int x8_48), (5, .int x5_48), (0, .ref hy), (1, .int a), (2, .int s), (3, .int se), (4, .int t)] dX10_hasIt_100 (by decide) rfl ?_
                    refine x_iload C 5 dX10_hasIt_102 rfl ?_
                    refine x_if_eq C 114 dX10_hasIt_104 (by decide) (fun c_104 => ?_) (fun c_104 => ?_)
                    · skip
                      have e_104 : (x5_48 : Int32).toInt = (0 : Int32).toInt := i_eq.mp c_104
                      have : (0 : Int32).toInt = 0 := by decide
                      refine x_iinc C 4 (x8_48 + 1) [(8, .int (x8_48 + 1)), (7, .int 1), (6, .int 1), (10, .int r_77), (9, .int (nxF ma mg mt wf wp wt mw ml co ro a x8_48 se 4 0)), (5, .int x5_48), (0, .ref hy), (1, .int a), (2, .int s), (3, .int se), (4, .int t)] dX10_hasIt_114 rfl rfl (by decide) rfl ?_
                      refine x_goto C 48 dX10_hasIt_117 (by decide) ?_
                      refine x_sub [(m4, .inl (cI, 4, .inl mg)), (m5, .inl (cI, 4, .inl mt)), (m7, .inl (cI, 6, .inl wf)), (m8, .inl (cI, 6, .inl wp)), (m9, .inl (cI, 6, .inl wt)), (m0, .inl (cI, 625, .inl ro)), (m3, .inl (cI, 16, .inl mm)), (m16, .inl (cZ, 40625, .inl ch)), (m1, .inl (cI, 65, .inl co)), (m2, .inl (cI, 4, .inl ma)), (hy, .inr (10, [.ref m0, .ref m1, .ref m2, .ref m3, .ref m4, .ref m5, .ref m6, .ref m7, .ref m8, .ref m9, .int mw, .int ml, .int mb, .ref m10, .int mz, .ref m11, .int op2_77, .int bp, .int by0, .int dp, .int tk, .ref m12, .ref m13, .ref m14, .ref m15, .ref m16, .ref m17, .ref m18, .int ka, .int iw])), (m11, .inl (cI, 4, .inl tl2_77))] [0, 1, 2, 3, 4, 5, 10, 11, 8, 9, 6, 7] (by decide) rfl ?_
                      refine x_lv [(8, .int (x8_48 + 1)), (7, .int 1), (6, .int 1), (5, .int x5_48), (0, .ref hy), (1, .int a), (2, .int s), (3, .int se), (4, .int t)] [0, 1, 2, 5, 6, 7, 8, 9, 10] rfl ?_
                      have : (1 : Int32).toInt = 1 := by decide
                      have := i_add (x := x8_48) (y := 1) (by omega) (by omega)
                      exact ih_48 (x8_48 + 1) 1 1 x5_48 op2_77 tl2_77 (by omega) (by omega)
                    · skip
                      have e_104 : ¬ ((x5_48 : Int32).toInt = (0 : Int32).toInt) := fun h => c_104 (i_eq.mpr h)
                      have : (0 : Int32).toInt = 0 := by decide
                      refine x_iload C 2 dX10_hasIt_107 rfl ?_
                      refine x_if_eq C 114 dX10_hasIt_109 (by decide) (fun c_109 => ?_) (fun c_109 => ?_)
                      · skip
                        have e_109 : (r_77 : Int32).toInt = (0 : Int32).toInt := i_eq.mp c_109
                        have : (0 : Int32).toInt = 0 := by decide
                        refine x_iinc C 4 (x8_48 + 1) [(8, .int (x8_48 + 1)), (7, .int 1), (6, .int 1), (10, .int r_77), (9, .int (nxF ma mg mt wf wp wt mw ml co ro a x8_48 se 4 0)), (5, .int x5_48), (0, .ref hy), (1, .int a), (2, .int s), (3, .int se), (4, .int t)] dX10_hasIt_114 rfl rfl (by decide) rfl ?_
                        refine x_goto C 48 dX10_hasIt_117 (by decide) ?_
                        refine x_sub [(m4, .inl (cI, 4, .inl mg)), (m5, .inl (cI, 4, .inl mt)), (m7, .inl (cI, 6, .inl wf)), (m8, .inl (cI, 6, .inl wp)), (m9, .inl (cI, 6, .inl wt)), (m0, .inl (cI, 625, .inl ro)), (m3, .inl (cI, 16, .inl mm)), (m16, .inl (cZ, 40625, .inl ch)), (m1, .inl (cI, 65, .inl co)), (m2, .inl (cI, 4, .inl ma)), (hy, .inr (10, [.ref m0, .ref m1, .ref m2, .ref m3, .ref m4, .ref m5, .ref m6, .ref m7, .ref m8, .ref m9, .int mw, .int ml, .int mb, .ref m10, .int mz, .ref m11, .int op2_77, .int bp, .int by0, .int dp, .int tk, .ref m12, .ref m13, .ref m14, .ref m15, .ref m16, .ref m17, .ref m18, .int ka, .int iw])), (m11, .inl (cI, 4, .inl tl2_77))] [0, 1, 2, 3, 4, 5, 10, 11, 8, 9, 6, 7] (by decide) rfl ?_
                        refine x_lv [(8, .int (x8_48 + 1)), (7, .int 1), (6, .int 1), (5, .int x5_48), (0, .ref hy), (1, .int a), (2, .int s), (3, .int se), (4, .int t)] [0, 1, 2, 5, 6, 7, 8, 9, 10] rfl ?_
                        have : (1 : Int32).toInt = 1 := by decide
                        have := i_add (x := x8_48) (y := 1) (by omega) (by omega)
                        exact ih_48 (x8_48 + 1) 1 1 x5_48 op2_77 tl2_77 (by omega) (by omega)
                      · skip
                        have e_109 : ¬ ((r_77 : Int32).toInt = (0 : Int32).toInt) := fun h => c_109 (i_eq.mpr h)
                        have : (0 : Int32).toInt = 0 := by decide
                        refine x_iconst C 1 dX10_hasIt_112 (by decide) ?_
                        refine x_sub [(hy, .inr (10, [.ref m0, .ref m1, .ref m2, .ref m3, .ref m4, .ref m5, .ref m6, .ref m7, .ref m8, .ref m9, .int mw, .int ml, .int mb, .ref m10, .int mz, .ref m11, .int op2_77, .int bp, .int by0, .int dp, .int tk, .ref m12, .ref m13, .ref m14, .ref m15, .ref m16, .ref m17, .ref m18, .int ka, .int iw])), (m11, .inl (cI, 4, .inl tl2_77)), (m2, .inl (cI, 4, .inl ma)), (m4, .inl (cI, 4, .inl mg)), (m5, .inl (cI, 4, .inl mt)), (m7, .inl (cI, 6, .inl wf)), (m8, .inl (cI, 6, .inl wp)), (m9, .inl (cI, 6, .inl wt)), (m0, .inl (cI, 625, .inl ro)), (m1, .inl (cI, 65, .inl co)), (m3, .inl (cI, 16, .inl mm)), (m16, .inl (cZ, 40625, .inl ch))] [6, 7, 9, 0, 1, 2, 3, 4, 5, 8, 10, 11] (by decide) rfl ?_
                        have : (1 : Int32).toInt = 1 := by decide
                        exact x_iret C dX10_hasIt_113 (Nat.zero_le _) (Nat.zero_le _) (by rw [eO]; exact ⟨1, tl2_77, op2_77, rfl, rfl, (by omega)⟩)
        have : (0 : Int32).toInt = 0 := by decide
        exact L_48 _ 0 1 0 1 ((((opS co a)))) ((((tds a)))) (by omega) (Nat.lt_succ_self _)
    · skip
      have e_18 : ¬ ((r_15 : Int32).toInt = (0 : Int32).toInt) := fun h => c_18 (i_eq.mpr h)
      have : (0 : Int32).toInt = 0 := by decide
      refine x_iconst C 0 dX10_hasIt_21 (by decide) ?_
      refine x_sub [(hy, .inr (10, [.ref m0, .ref m1, .ref m2, .ref m3, .ref m4, .ref m5, .ref m6, .ref m7, .ref m8, .ref m9, .int mw, .int ml, .int mb, .ref m10, .int mz, .ref m11, .int (((opS co a))), .int bp, .int by0, .int dp, .int tk, .ref m12, .ref m13, .ref m14, .ref m15, .ref m16, .ref m17, .ref m18, .int ka, .int iw])), (m11, .inl (cI, 4, .inl (((tds a))))), (m2, .inl (cI, 4, .inl ma)), (m4, .inl (cI, 4, .inl mg)), (m5, .inl (cI, 4, .inl mt)), (m7, .inl (cI, 6, .inl wf)), (m8, .inl (cI, 6, .inl wp)), (m9, .inl (cI, 6, .inl wt)), (m0, .inl (cI, 625, .inl ro)), (m1, .inl (cI, 65, .inl co)), (m3, .inl (cI, 16, .inl mm)), (m16, .inl (cZ, 40625, .inl ch))] [9, 10, 11, 0, 1, 2, 3, 4, 5, 8, 6, 7] (by decide) rfl ?_
      have : (0 : Int32).toInt = 0 := by decide
      exact x_iret C dX10_hasIt_22 (Nat.zero_le _) (Nat.zero_le _) (by rw [eO]; exact ⟨0, (((tds a))), (((opS co a))), rfl, rfl, (by omega)⟩)
abbrev rm_X10_isOf : Room := { frames := 2, cells := 0, slots := 0, locals := 45 }
set_option maxHeartbeats 4000000 in
set_option maxRecDepth 100000 in
theorem c_X10_isOf (l : Launch) (D : va_G) (tys : List (ClassId × FieldType)) {cI cJ cZ cB : ClassId} (hT : Ty tys cI cJ cZ cB) (hy m0 m1 m2 m3 m4 m5 m6 m7 m8 m9 m10 m11 m12 m13 m14 m15 m16 m17 m18 : Nat) (mw ml mb mz op bp by0 dp tk ka iw : Int32) (s se : Int32)  : Cn l D tys yX10_isOf cX10_isOf 3 (some .boolean) rm_X10_isOf [(hy, .inr (10, [.ref m0, .ref m1, .ref m2, .ref m3, .ref m4, .ref m5, .ref m6, .ref m7, .ref m8, .ref m9, .int mw, .int ml, .int mb, .ref m10, .int mz, .ref m11, .int op, .int bp, .int by0, .int dp, .int tk, .ref m12, .ref m13, .ref m14, .ref m15, .ref m16, .ref m17, .ref m18, .int ka, .int iw]))] [.ref hy, .int s, .int se] (fun v W1 => ∃ (r : Int32), v = some (.int r) ∧ W1 = [(hy, .inr (10, [.ref m0, .ref m1, .ref m2, .ref m3, .ref m4, .ref m5, .ref m6, .ref m7, .ref m8, .ref m9, .int mw, .int ml, .int mb, .ref m10, .int mz, .ref m11, .int op, .int bp, .int by0, .int dp, .int tk, .ref m12, .ref m13, .ref m14, .ref m15, .ref m16, .ref m17, .ref m18, .int ka, .int iw]))] ∧ ((r.toInt = 0 ∨ r.toInt = 1) ∧ (r.toInt = 1 → 0 ≤ s.toInt ∧ s.toInt ≤ 3))) := by
  refine Cn.of (by decide) (Nat.le_of_ble_eq_true rfl) ?_ ?_ (fun X eL eD eT eO eK eN eM C => ?_)
  · intro _ v ws h; obtain ⟨_, rfl, rfl, h⟩ := h; exact z_of h.1
  · intro v ws h; obtain ⟨_, rfl, rfl, _⟩ := h; exact Or.inr rfl
  subst eL eD eT
  show V X 3 [(hy, .inr (10, [.ref m0, .ref m1, .ref m2, .ref m3, .ref m4, .ref m5, .ref m6, .ref m7, .ref m8, .ref m9, .int mw, .int ml, .int mb, .ref m10, .int mz, .ref m11, .int op, .int bp, .int by0, .int dp, .int tk, .ref m12, .ref m13, .ref m14, .ref m15, .ref m16, .ref m17, .ref m18, .int ka, .int iw]))] [(0, .ref hy), (1, .int s), (2, .int se)] [] 0 0 0
  refine x_iload_n C 1 dX10_isOf_0 rfl rfl ?_
  refine x_callS C [.int s] [(hy, .inr (10, [.ref m0, .ref m1, .ref m2, .ref m3, .ref m4, .ref m5, .ref m6, .ref m7, .ref m8, .ref m9, .int mw, .int ml, .int mb, .ref m10, .int mz, .ref m11, .int op, .int bp, .int by0, .int dp, .int tk, .ref m12, .ref m13, .ref m14, .ref m15, .ref m16, .ref m17, .ref m18, .int ka, .int iw]))] [] [0] (c_X10_isStory (xl X) (xD X) (xt X) hT s ) dX10_isOf_1 wd_261 wd_262 wd_5 wd_263 (np := 1) ⟨by decide, by decide, by decide +kernel⟩ rfl rfl (Nat.le_of_ble_eq_true rfl) (by decide) rfl (by decide) rfl (by decide) (by decide) (fun v W1 h => ?_)
  obtain ⟨r_1, rfl, rfl, h_1⟩ := h
  show V X 3 [(hy, .inr (10, [.ref m0, .ref m1, .ref m2, .ref m3, .ref m4, .ref m5, .ref m6, .ref m7, .ref m8, .ref m9, .int mw, .int ml, .int mb, .ref m10, .int mz, .ref m11, .int op, .int bp, .int by0, .int dp, .int tk, .ref m12, .ref m13, .ref m14, .ref m15, .ref m16, .ref m17, .ref m18, .int ka, .int iw]))] [(0, .ref hy), (1, .int s), (2, .int se)] [.int r_1] 4 0 0
  refine x_if_eq C 27 dX10_isOf_4 (by decide) (fun c_4 => ?_) (fun c_4 => ?_)
  · skip
    have e_4 : (r_1 : Int32).toInt = (0 : Int32).toInt := i_eq.mp c_4
    have : (0 : Int32).toInt = 0 := by decide
    refine x_iconst C 0 dX10_isOf_27 (by decide) ?_
    have : (0 : Int32).toInt = 0 := by decide
    exact x_iret C dX10_isOf_28 (Nat.zero_le _) (Nat.zero_le _) (by rw [eO]; exact ⟨0, rfl, rfl, (by omega)⟩)
  · skip
    have e_4 : ¬ ((r_1 : Int32).toInt = (0 : Int32).toInt) := fun h => c_4 (i_eq.mpr h)
    have : (0 : Int32).toInt = 0 := by decide
    refine x_iload_n C 2 dX10_isOf_7 rfl rfl ?_
    refine x_callS C [.int se] [(hy, .inr (10, [.ref m0, .ref m1, .ref m2, .ref m3, .ref m4, .ref m5, .ref m6, .ref m7, .ref m8, .ref m9, .int mw, .int ml, .int mb, .ref m10, .int mz, .ref m11, .int op, .int bp, .int by0, .int dp, .int tk, .ref m12, .ref m13, .ref m14, .ref m15, .ref m16, .ref m17, .ref m18, .int ka, .int iw]))] [] [0] (c_X10_isSet (xl X) (xD X) (xt X) hT se ) dX10_isOf_8 wd_565 wd_566 wd_5 wd_567 (np := 1) ⟨by decide, by decide, by decide +kernel⟩ rfl rfl (Nat.le_of_ble_eq_true rfl) (by decide) rfl (by decide) rfl (by decide) (by decide) (fun v W1 h => ?_)
    obtain ⟨r_8, rfl, rfl, h_8⟩ := h
    show V X 3 [(hy, .inr (10, [.ref m0, .ref m1, .ref m2, .ref m3, .ref m4, .ref m5, .ref m6, .ref m7, .ref m8, .ref m9, .int mw, .int ml, .int mb, .ref m10, .int mz, .ref m11, .int op, .int bp, .int by0, .int dp, .int tk, .ref m12, .ref m13, .ref m14, .ref m15, .ref m16, .ref m17, .ref m18, .int ka, .int iw]))] [(0, .ref hy), (1, .int s), (2, .int se)] [.int r_8] 11 0 0
    refine x_if_eq C 23 dX10_isOf_11 (by decide) (fun c_11 => ?_) (fun c_11 => ?_)
    · skip
      have e_11 : (r_8 : Int32).toInt = (0 : Int32).toInt := i_eq.mp c_11
      have : (0 : Int32).toInt = 0 := by decide
      refine x_iconst C 1 dX10_isOf_23 (by decide) ?_
      refine x_goto C 28 dX10_isOf_24 (by decide) ?_
      have : (1 : Int32).toInt = 1 := by decide
      exact x_iret C dX10_isOf_28 (Nat.zero_le _) (Nat.zero_le _) (by rw [eO]; exact ⟨1, rfl, rfl, (by omega)⟩)
    · skip
      have e_11 : ¬ ((r_8 : Int32).toInt = (0 : Int32).toInt) := fun h => c_11 (i_eq.mpr h)
      have : (0 : Int32).toInt = 0 := by decide
      refine x_iload_n C 2 dX10_isOf_14 rfl rfl ?_
      refine x_iload_n C 1 dX10_isOf_15 rfl rfl ?_
      refine x_ishr C dX10_isOf_16 ?_
      refine x_iconst C 1 dX10_isOf_17 (by decide) ?_
      refine x_iand C dX10_isOf_18 ?_
      refine x_iconst C 1 dX10_isOf_19 (by decide) ?_
      refine x_icmp_ne C 27 dX10_isOf_20 (by decide) (fun c_20 => ?_) (fun c_20 => ?_)
      · skip
        have e_20 : ¬ (((se >>> (s &&& 31)) &&& 1 : Int32).toInt = (1 : Int32).toInt) := fun h => c_20 (i_eq.mpr h)
        have : (1 : Int32).toInt = 1 := by decide
        refine x_iconst C 0 dX10_isOf_27 (by decide) ?_
        have : (0 : Int32).toInt = 0 := by decide
        exact x_iret C dX10_isOf_28 (Nat.zero_le _) (Nat.zero_le _) (by rw [eO]; exact ⟨0, rfl, rfl, (by omega)⟩)
      · skip
        have e_20 : ((se >>> (s &&& 31)) &&& 1 : Int32).toInt = (1 : Int32).toInt := i_eq.mp c_20
        have : (1 : Int32).toInt = 1 := by decide
        refine x_iconst C 1 dX10_isOf_23 (by decide) ?_
        refine x_goto C 28 dX10_isOf_24 (by decide) ?_
        have : (1 : Int32).toInt = 1 := by decide
        exact x_iret C dX10_isOf_28 (Nat.zero_le _) (Nat.zero_le _) (by rw [eO]; exact ⟨1, rfl, rfl, (by omega)⟩)
abbrev rm_X10_turns : Room := { frames := 5, cells := 0, slots := 0, locals := 126 }
set_option maxHeartbeats 4000000 in
set_option maxRecDepth 100000 in
theorem c_X10_turns (l : Launch) (D : va_G) (tys : List (ClassId × FieldType)) {cI cJ cZ cB : ClassId} (hT : Ty tys cI cJ cZ cB) (hy m0 m1 m2 m3 m4 m5 m6 m7 m8 m9 m10 m11 m12 m13 m14 m15 m16 m17 m18 : Nat) (tl ma mg mt wf wp wt ro co mm ch : Nat → Int32) (mw ml mb mz op bp by0 dp tk ka iw : Int32) (s se t x : Int32) (hmm : MOk mm) (hch : Z01 ch) (hR : RT co ro) (hpa : POk ma) (hmw : 0 ≤ mw.toInt ∧ mw.toInt ≤ 6) (hwt : SOk wt) : Cn l D tys yX10_turns cX10_turns 9 (some .int) rm_X10_turns [(hy, .inr (10, [.ref m0, .ref m1, .ref m2, .ref m3, .ref m4, .ref m5, .ref m6, .ref m7, .ref m8, .ref m9, .int mw, .int ml, .int mb, .ref m10, .int mz, .ref m11, .int op, .int bp, .int by0, .int dp, .int tk, .ref m12, .ref m13, .ref m14, .ref m15, .ref m16, .ref m17, .ref m18, .int ka, .int iw])), (m11, .inl (cI, 4, .inl tl)), (m2, .inl (cI, 4, .inl ma)), (m4, .inl (cI, 4, .inl mg)), (m5, .inl (cI, 4, .inl mt)), (m7, .inl (cI, 6, .inl wf)), (m8, .inl (cI, 6, .inl wp)), (m9, .inl (cI, 6, .inl wt)), (m0, .inl (cI, 625, .inl ro)), (m1, .inl (cI, 65, .inl co)), (m3, .inl (cI, 16, .inl mm)), (m16, .inl (cZ, 40625, .inl ch))] [.ref hy, .int s, .int se, .int t, .int x] (fun v W1 => ∃ (r : Int32) (tl2 : Nat → Int32) (op2 : Int32) (ch2 : Nat → Int32), v = some (.int r) ∧ W1 = [(hy, .inr (10, [.ref m0, .ref m1, .ref m2, .ref m3, .ref m4, .ref m5, .ref m6, .ref m7, .ref m8, .ref m9, .int mw, .int ml, .int mb, .ref m10, .int mz, .ref m11, .int op2, .int bp, .int by0, .int dp, .int tk, .ref m12, .ref m13, .ref m14, .ref m15, .ref m16, .ref m17, .ref m18, .int ka, .int iw])), (m11, .inl (cI, 4, .inl tl2)), (m2, .inl (cI, 4, .inl ma)), (m4, .inl (cI, 4, .inl mg)), (m5, .inl (cI, 4, .inl mt)), (m7, .inl (cI, 6, .inl wf)), (m8, .inl (cI, 6, .inl wp)), (m9, .inl (cI, 6, .inl wt)), (m0, .inl (cI, 625, .inl ro)), (m1, .inl (cI, 65, .inl co)), (m3, .inl (cI, 16, .inl mm)), (m16, .inl (cZ, 40625, .inl ch2))] ∧ (Z01 ch2)) := by
  refine Cn.of (by decide) (Nat.le_of_ble_eq_true rfl) ?_ ?_ (fun X eL eD eT eO eK eN eM C => ?_)
  · intro h; cases h
  · intro v ws h; obtain ⟨_, _, _, _, rfl, rfl, _⟩ := h; exact Or.inl rfl
  subst eL eD eT
  show V X 9 [(hy, .inr (10, [.ref m0, .ref m1, .ref m2, .ref m3, .ref m4, .ref m5, .ref m6, .ref m7, .ref m8, .ref m9, .int mw, .int ml, .int mb, .ref m10, .int mz, .ref m11, .int op, .int bp, .int by0, .int dp, .int tk, .ref m12, .ref m13, .ref m14, .ref m15, .ref m16, .ref m17, .ref m18, .int ka, .int iw])), (m11, .inl (cI, 4, .inl tl)), (m2, .inl (cI, 4, .inl ma)), (m4, .inl (cI, 4, .inl mg)), (m5, .inl (cI, 4, .inl mt)), (m7, .inl (cI, 6, .inl wf)), (m8, .inl (cI, 6, .inl wp)), (m9, .inl (cI, 6, .inl wt)), (m0, .inl (cI, 625, .inl ro)), (m1, .inl (cI, 65, .inl co)), (m3, .inl (cI, 16, .inl mm)), (m16, .inl (cZ, 40625, .inl ch))] [(0, .ref hy), (1, .int s), (2, .int se), (3, .int t), (4, .int x)] [] 0 0 0
  refine x_aload_n C 0 dX10_turns_0 rfl rfl ?_
  refine x_iload_n C 1 dX10_turns_1 rfl rfl ?_
  refine x_iload_n C 2 dX10_turns_2 rfl rfl ?_
  refine x_callV C [.int s, .int se] [(m11, .inl (cI, 4, .inl tl)), (m2, .inl (cI, 4, .inl ma)), (m4, .inl (cI, 4, .inl mg)), (m5, .inl (cI, 4, .inl mt)), (m7, .inl (cI, 6, .inl wf)), (m8, .inl (cI, 6, .inl wp)), (m9, .inl (cI, 6, .inl wt)), (m0, .inl (cI, 625, .inl ro)), (m1, .inl (cI, 65, .inl co)), (m3, .inl (cI, 16, .inl mm)), (m16, .inl (cZ, 40625, .inl ch))] [0] [1, 2, 3, 4, 5, 6, 7, 8, 9, 10, 11] (q0 := 0) (c_X10_isOf (xl X) (xD X) (xt X) hT hy m0 m1 m2 m3 m4 m5 m6 m7 m8 m9 m10 m11 m12 m13 m14 m15 m16 m17 m18 mw ml mb mz op bp by0 dp tk ka iw s se ) dX10_turns_3 wd_685 wd_686 wd_687 wd_5 wd_688 (np := 2) ⟨by decide, by decide, by decide +kernel⟩ rfl rfl (Nat.le_of_ble_eq_true rfl) (by decide) rfl rfl rfl rfl (by decide) rfl (by decide) (by decide) (fun v W1 h => ?_)
  obtain ⟨r_3, rfl, rfl, h_3⟩ := h
  show V X 9 [(m11, .inl (cI, 4, .inl tl)), (m2, .inl (cI, 4, .inl ma)), (m4, .inl (cI, 4, .inl mg)), (m5, .inl (cI, 4, .inl mt)), (m7, .inl (cI, 6, .inl wf)), (m8, .inl (cI, 6, .inl wp)), (m9, .inl (cI, 6, .inl wt)), (m0, .inl (cI, 625, .inl ro)), (m1, .inl (cI, 65, .inl co)), (m3, .inl (cI, 16, .inl mm)), (m16, .inl (cZ, 40625, .inl ch)), (hy, .inr (10, [.ref m0, .ref m1, .ref m2, .ref m3, .ref m4, .ref m5, .ref m6, .ref m7, .ref m8, .ref m9, .int mw, .int ml, .int mb, .ref m10, .int mz, .ref m11, .int op, .int bp, .int by0, .int dp, .int tk, .ref m12, .ref m13, .ref m14, .ref m15, .ref m16, .ref m17, .ref m18, .int ka, .int iw]))] [(0, .ref hy), (1, .int s), (2, .int se), (3, .int t), (4, .int x)] [.int r_3] 6 0 0
  refine x_if_ne C 11 dX10_turns_6 (by decide) (fun c_6 => ?_) (fun c_6 => ?_)
  · skip
    have e_6 : ¬ ((r_3 : Int32).toInt = (0 : Int32).toInt) := fun h => c_6 (i_eq.mpr h)
    have : (0 : Int32).toInt = 0 := by decide
    refine x_iload_n C 2 dX10_turns_11 rfl rfl ?_
    refine x_callS C [.int se] [(m11, .inl (cI, 4, .inl tl)), (m2, .inl (cI, 4, .inl ma)), (m4, .inl (cI, 4, .inl mg)), (m5, .inl (cI, 4, .inl mt)), (m7, .inl (cI, 6, .inl wf)), (m8, .inl (cI, 6, .inl wp)), (m9, .inl (cI, 6, .inl wt)), (m0, .inl (cI, 625, .inl ro)), (m1, .inl (cI, 65, .inl co)), (m3, .inl (cI, 16, .inl mm)), (m16, .inl (cZ, 40625, .inl ch)), (hy, .inr (10, [.ref m0, .ref m1, .ref m2, .ref m3, .ref m4, .ref m5, .ref m6, .ref m7, .ref m8, .ref m9, .int mw, .int ml, .int mb, .ref m10, .int mz, .ref m11, .int op, .int bp, .int by0, .int dp, .int tk, .ref m12, .ref m13, .ref m14, .ref m15, .ref m16, .ref m17, .ref m18, .int ka, .int iw]))] [] [0, 1, 2, 3, 4, 5, 6, 7, 8, 9, 10, 11] (c_X10_isSet (xl X) (xD X) (xt X) hT se ) dX10_turns_12 wd_565 wd_566 wd_5 wd_567 (np := 1) ⟨by decide, by decide, by decide +kernel⟩ rfl rfl (Nat.le_of_ble_eq_true rfl) (by decide) rfl (by decide) rfl (by decide) (by decide) (fun v W1 h => ?_)
    obtain ⟨r_12, rfl, rfl, h_12⟩ := h
    show V X 9 [(m11, .inl (cI, 4, .inl tl)), (m2, .inl (cI, 4, .inl ma)), (m4, .inl (cI, 4, .inl mg)), (m5, .inl (cI, 4, .inl mt)), (m7, .inl (cI, 6, .inl wf)), (m8, .inl (cI, 6, .inl wp)), (m9, .inl (cI, 6, .inl wt)), (m0, .inl (cI, 625, .inl ro)), (m1, .inl (cI, 65, .inl co)), (m3, .inl (cI, 16, .inl mm)), (m16, .inl (cZ, 40625, .inl ch)), (hy, .inr (10, [.ref m0, .ref m1, .ref m2, .ref m3, .ref m4, .ref m5, .ref m6, .ref m7, .ref m8, .ref m9, .int mw, .int ml, .int mb, .ref m10, .int mz, .ref m11, .int op, .int bp, .int by0, .int dp, .int tk, .ref m12, .ref m13, .ref m14, .ref m15, .ref m16, .ref m17, .ref m18, .int ka, .int iw]))] [(0, .ref hy), (1, .int s), (2, .int se), (3, .int t), (4, .int x)] [.int r_12] 15 0 0
    refine x_if_eq C 41 dX10_turns_15 (by decide) (fun c_15 => ?_) (fun c_15 => ?_)
    · skip
      have e_15 : (r_12 : Int32).toInt = (0 : Int32).toInt := i_eq.mp c_15
      have : (0 : Int32).toInt = 0 := by decide
      refine x_bipush C (-2) dX10_turns_41 (by decide) ?_
      refine x_sub [(hy, .inr (10, [.ref m0, .ref m1, .ref m2, .ref m3, .ref m4, .ref m5, .ref m6, .ref m7, .ref m8, .ref m9, .int mw, .int ml, .int mb, .ref m10, .int mz, .ref m11, .int op, .int bp, .int by0, .int dp, .int tk, .ref m12, .ref m13, .ref m14, .ref m15, .ref m16, .ref m17, .ref m18, .int ka, .int iw])), (m11, .inl (cI, 4, .inl tl)), (m2, .inl (cI, 4, .inl ma)), (m4, .inl (cI, 4, .inl mg)), (m5, .inl (cI, 4, .inl mt)), (m7, .inl (cI, 6, .inl wf)), (m8, .inl (cI, 6, .inl wp)), (m9, .inl (cI, 6, .inl wt)), (m0, .inl (cI, 625, .inl ro)), (m1, .inl (cI, 65, .inl co)), (m3, .inl (cI, 16, .inl mm)), (m16, .inl (cZ, 40625, .inl ch))] [11, 0, 1, 2, 3, 4, 5, 6, 7, 8, 9, 10] (by decide) rfl ?_
      have : ((-2) : Int32).toInt = -2 := by decide
      exact x_iret C dX10_turns_43 (Nat.zero_le _) (Nat.zero_le _) (by rw [eO]; exact ⟨((-2)), tl, op, ch, rfl, rfl, hch⟩)
    · skip
      have e_15 : ¬ ((r_12 : Int32).toInt = (0 : Int32).toInt) := fun h => c_15 (i_eq.mpr h)
      have : (0 : Int32).toInt = 0 := by decide
      refine x_iload_n C 3 dX10_turns_18 rfl rfl ?_
      refine x_i2l C dX10_turns_19 ?_
      refine x_lconst C 0 dX10_turns_20 (by decide) ?_
      refine x_ldc2 C dX10_turns_21 wd_723 ?_
      refine x_callS C [.long (Int32.toInt64 t), .long 0, .long 144] [(m11, .inl (cI, 4, .inl tl)), (m2, .inl (cI, 4, .inl ma)), (m4, .inl (cI, 4, .inl mg)), (m5, .inl (cI, 4, .inl mt)), (m7, .inl (cI, 6, .inl wf)), (m8, .inl (cI, 6, .inl wp)), (m9, .inl (cI, 6, .inl wt)), (m0, .inl (cI, 625, .inl ro)), (m1, .inl (cI, 65, .inl co)), (m3, .inl (cI, 16, .inl mm)), (m16, .inl (cZ, 40625, .inl ch)), (hy, .inr (10, [.ref m0, .ref m1, .ref m2, .ref m3, .ref m4, .ref m5, .ref m6, .ref m7, .ref m8, .ref m9, .int mw, .int ml, .int mb, .ref m10, .int mz, .ref m11, .int op, .int bp, .int by0, .int dp, .int tk, .ref m12, .ref m13, .ref m14, .ref m15, .ref m16, .ref m17, .ref m18, .int ka, .int iw]))] [] [0, 1, 2, 3, 4, 5, 6, 7, 8, 9, 10, 11] (c_X10_in (xl X) (xD X) (xt X) hT (Int32.toInt64 t) 0 144 ) dX10_turns_24 wd_167 wd_168 wd_5 wd_169 (np := 3) ⟨by decide, by decide, by decide +kernel⟩ rfl rfl (Nat.le_of_ble_eq_true rfl) (by decide) rfl (by decide) rfl (by decide) (by decide) (fun v W1 h => ?_)
      obtain ⟨r_24, rfl, rfl, h_24⟩ := h
      have : (Int32.toInt64 t : Int64).toInt = (t : Int32).toInt := Int32.toInt_toInt64 _
      have : (0 : Int64).toInt = 0 := by decide
      have : (144 : Int64).toInt = 144 := by decide
      show V X 9 [(m11, .inl (cI, 4, .inl tl)), (m2, .inl (cI, 4, .inl ma)), (m4, .inl (cI, 4, .inl mg)), (m5, .inl (cI, 4, .inl mt)), (m7, .inl (cI, 6, .inl wf)), (m8, .inl (cI, 6, .inl wp)), (m9, .inl (cI, 6, .inl wt)), (m0, .inl (cI, 625, .inl ro)), (m1, .inl (cI, 65, .inl co)), (m3, .inl (cI, 16, .inl mm)), (m16, .inl (cZ, 40625, .inl ch)), (hy, .inr (10, [.ref m0, .ref m1, .ref m2, .ref m3, .ref m4, .ref m5, .ref m6, .ref m7, .ref m8, .ref m9, .int mw, .int ml, .int mb, .ref m10, .int mz, .ref m11, .int op, .int bp, .int by0, .int dp, .int tk, .ref m12, .ref m13, .ref m14, .ref m15, .ref m16, .ref m17, .ref m18, .int ka, .int iw]))] [(0, .ref hy), (1, .int s), (2, .int se), (3, .int t), (4, .int x)] [.int r_24] 27 0 0
      refine x_if_eq C 41 dX10_turns_27 (by decide) (fun c_27 => ?_) (fun c_27 => ?_)
      · skip
        have e_27 : (r_24 : Int32).toInt = (0 : Int32).toInt := i_eq.mp c_27
        have : (0 : Int32).toInt = 0 := by decide
        refine x_bipush C (-2) dX10_turns_41 (by decide) ?_
        refine x_sub [(hy, .inr (10, [.ref m0, .ref m1, .ref m2, .ref m3, .ref m4, .ref m5, .ref m6, .ref m7, .ref m8, .ref m9, .int mw, .int ml, .int mb, .ref m10, .int mz, .ref m11, .int op, .int bp, .int by0, .int dp, .int tk, .ref m12, .ref m13, .ref m14, .ref m15, .ref m16, .ref m17, .ref m18, .int ka, .int iw])), (m11, .inl (cI, 4, .inl tl)), (m2, .inl (cI, 4, .inl ma)), (m4, .inl (cI, 4, .inl mg)), (m5, .inl (cI, 4, .inl mt)), (m7, .inl (cI, 6, .inl wf)), (m8, .inl (cI, 6, .inl wp)), (m9, .inl (cI, 6, .inl wt)), (m0, .inl (cI, 625, .inl ro)), (m1, .inl (cI, 65, .inl co)), (m3, .inl (cI, 16, .inl mm)), (m16, .inl (cZ, 40625, .inl ch))] [11, 0, 1, 2, 3, 4, 5, 6, 7, 8, 9, 10] (by decide) rfl ?_
        have : ((-2) : Int32).toInt = -2 := by decide
        exact x_iret C dX10_turns_43 (Nat.zero_le _) (Nat.zero_le _) (by rw [eO]; exact ⟨((-2)), tl, op, ch, rfl, rfl, hch⟩)
      · skip
        have e_27 : ¬ ((r_24 : Int32).toInt = (0 : Int32).toInt) := fun h => c_27 (i_eq.mpr h)
        have : (0 : Int32).toInt = 0 := by decide
        refine x_iload C 4 dX10_turns_30 rfl ?_
        refine x_i2l C dX10_turns_32 ?_
        refine x_lconst C 0 dX10_turns_33 (by decide) ?_
        refine x_lconst C 1 dX10_turns_34 (by decide) ?_
        refine x_callS C [.long (Int32.toInt64 x), .long 0, .long 1] [(m11, .inl (cI, 4, .inl tl)), (m2, .inl (cI, 4, .inl ma)), (m4, .inl (cI, 4, .inl mg)), (m5, .inl (cI, 4, .inl mt)), (m7, .inl (cI, 6, .inl wf)), (m8, .inl (cI, 6, .inl wp)), (m9, .inl (cI, 6, .inl wt)), (m0, .inl (cI, 625, .inl ro)), (m1, .inl (cI, 65, .inl co)), (m3, .inl (cI, 16, .inl mm)), (m16, .inl (cZ, 40625, .inl ch)), (hy, .inr (10, [.ref m0, .ref m1, .ref m2, .ref m3, .ref m4, .ref m5, .ref m6, .ref m7, .ref m8, .ref m9, .int mw, .int ml, .int mb, .ref m10, .int mz, .ref m11, .int op, .int bp, .int by0, .int dp, .int tk, .ref m12, .ref m13, .ref m14, .ref m15, .ref m16, .ref m17, .ref m18, .int ka, .int iw]))] [] [0, 1, 2, 3, 4, 5, 6, 7, 8, 9, 10, 11] (c_X10_in (xl X) (xD X) (xt X) hT (Int32.toInt64 x) 0 1 ) dX10_turns_35 wd_167 wd_168 wd_5 wd_169 (np := 3) ⟨by decide, by decide, by decide +kernel⟩ rfl rfl (Nat.le_of_ble_eq_true rfl) (by decide) rfl (by decide) rfl (by decide) (by decide) (fun v W1 h => ?_)
        obtain ⟨r_35, rfl, rfl, h_35⟩ := h
        have : (Int32.toInt64 x : Int64).toInt = (x : Int32).toInt := Int32.toInt_toInt64 _
        have : (0 : Int64).toInt = 0 := by decide
        have : (1 : Int64).toInt = 1 := by decide
        show V X 9 [(m11, .inl (cI, 4, .inl tl)), (m2, .inl (cI, 4, .inl ma)), (m4, .inl (cI, 4, .inl mg)), (m5, .inl (cI, 4, .inl mt)), (m7, .inl (cI, 6, .inl wf)), (m8, .inl (cI, 6, .inl wp)), (m9, .inl (cI, 6, .inl wt)), (m0, .inl (cI, 625, .inl ro)), (m1, .inl (cI, 65, .inl co)), (m3, .inl (cI, 16, .inl mm)), (m16, .inl (cZ, 40625, .inl ch)), (hy, .inr (10, [.ref m0, .ref m1, .ref m2, .ref m3, .ref m4, .ref m5, .ref m6, .ref m7, .ref m8, .ref m9, .int mw, .int ml, .int mb, .ref m10, .int mz, .ref m11, .int op, .int bp, .int by0, .int dp, .int tk, .ref m12, .ref m13, .ref m14, .ref m15, .ref m16, .ref m17, .ref m18, .int ka, .int iw]))] [(0, .ref hy), (1, .int s), (2, .int se), (3, .int t), (4, .int x)] [.int r_35] 38 0 0
        refine x_if_ne C 44 dX10_turns_38 (by decide) (fun c_38 => ?_) (fun c_38 => ?_)
        · skip
          have e_38 : ¬ ((r_35 : Int32).toInt = (0 : Int32).toInt) := fun h => c_38 (i_eq.mpr h)
          have : (0 : Int32).toInt = 0 := by decide
          refine x_bipush C 16 dX10_turns_44 (by decide) ?_
          refine x_istore C [(5, .int 16), (0, .ref hy), (1, .int s), (2, .int se), (3, .int t), (4, .int x)] dX10_turns_46 (by decide) rfl ?_
          have L_48 : ∀ (n_48 : Nat) (x5_48 : Int32) (fm11_48 : Nat → Int32) (fm16_48 : Nat → Int32) (ghy16_48 : Int32), ((-1 ≤ x5_48.toInt ∧ x5_48.toInt ≤ 16) ∧ Z01 fm16_48) → ((x5_48.toInt + 1).toNat < n_48) → V X 9 [(m11, .inl (cI, 4, .inl fm11_48)), (m2, .inl (cI, 4, .inl ma)), (m4, .inl (cI, 4, .inl mg)), (m5, .inl (cI, 4, .inl mt)), (m7, .inl (cI, 6, .inl wf)), (m8, .inl (cI, 6, .inl wp)), (m9, .inl (cI, 6, .inl wt)), (m0, .inl (cI, 625, .inl ro)), (m1, .inl (cI, 65, .inl co)), (m3, .inl (cI, 16, .inl mm)), (m16, .inl (cZ, 40625, .inl fm16_48)), (hy, .inr (10, [.ref m0, .ref m1, .ref m2, .ref m3, .ref m4, .ref m5, .ref m6, .ref m7, .ref m8, .ref m9, .int mw, .int ml, .int mb, .ref m10, .int mz, .ref m11, .int ghy16_48, .int bp, .int by0, .int dp, .int tk, .ref m12, .ref m13, .ref m14, .ref m15, .ref m16, .ref m17, .ref m18, .int ka, .int iw]))] [(5, .int x5_48), (0, .ref hy), (1, .int s), (2, .int se), (3, .int t), (4, .int x)] [] 48 0 0 := by
            intro n_48
            induction n_48 with
            | zero =>
              intro x5_48 fm11_48 fm16_48 ghy16_48 i_48 m_48
              exact absurd m_48 (Nat.not_lt_zero _)
            | succ n_48 ih_48 =>
              intro x5_48 fm11_48 fm16_48 ghy16_48 i_48 m_48
              refine x_iload C 0 dX10_turns_48 rfl ?_
              refine x_if_lt C 128 dX10_turns_50 (by decide) (fun c_50 => ?_) (fun c_50 => ?_)
              · skip
                have e_50 : (x5_48 : Int32).toInt < (0 : Int32).toInt := i_lt.mp c_50
                have : (0 : Int32).toInt = 0 := by decide
                refine x_iload C 5 dX10_turns_128 rfl ?_
                refine x_if_ne C 148 dX10_turns_130 (by decide) (fun c_130 => ?_) (fun c_130 => ?_)
                · skip
                  have e_130 : ¬ ((x : Int32).toInt = (0 : Int32).toInt) := fun h => c_130 (i_eq.mpr h)
                  have : (0 : Int32).toInt = 0 := by decide
                  refine x_iconst C 0 dX10_turns_148 (by decide) ?_
                  refine x_istore C [(5, .int 0), (0, .ref hy), (1, .int s), (2, .int se), (3, .int t), (4, .int x)] dX10_turns_149 (by decide) rfl ?_
                  have L_151 : ∀ (n_151 : Nat) (x5_151 : Int32) (fm11_151 : Nat → Int32) (ghy16_151 : Int32), ((0 ≤ x5_151.toInt ∧ x5_151.toInt ≤ 4)) → ((4 - x5_151.toInt).toNat < n_151) → V X 9 [(m11, .inl (cI, 4, .inl fm11_151)), (m2, .inl (cI, 4, .inl ma)), (m4, .inl (cI, 4, .inl mg)), (m5, .inl (cI, 4, .inl mt)), (m7, .inl (cI, 6, .inl wf)), (m8, .inl (cI, 6, .inl wp)), (m9, .inl (cI, 6, .inl wt)), (m0, .inl (cI, 625, .inl ro)), (m1, .inl (cI, 65, .inl co)), (m3, .inl (cI, 16, .inl mm)), (m16, .inl (cZ, 40625, .inl fm16_48)), (hy, .inr (10, [.ref m0, .ref m1, .ref m2, .ref m3, .ref m4, .ref m5, .ref m6, .ref m7, .ref m8, .ref m9, .int mw, .int ml, .int mb, .ref m10, .int mz, .ref m11, .int ghy16_151, .int bp, .int by0, .int dp, .int tk, .ref m12, .ref m13, .ref m14, .ref m15, .ref m16, .ref m17, .ref m18, .int ka, .int iw]))] [(5, .int x5_151), (0, .ref hy), (1, .int s), (2, .int se), (3, .int t), (4, .int x)] [] 151 0 0 := by
                    intro n_151
                    induction n_151 with
                    | zero =>
                      intro x5_151 fm11_151 ghy16_151 i_151 m_151
                      exact absurd m_151 (Nat.not_lt_zero _)
                    | succ n_151 ih_151 =>
                      intro x5_151 fm11_151 ghy16_151 i_151 m_151
                      refine x_iload C 0 dX10_turns_151 rfl ?_
                      refine x_iconst C 4 dX10_turns_153 (by decide) ?_
                      refine x_icmp_ge C 194 dX10_turns_154 (by decide) (fun c_154 => ?_) (fun c_154 => ?_)
                      · skip
                        have e_154 : (4 : Int32).toInt ≤ (x5_151 : Int32).toInt := i_le.mp c_154
                        have : (4 : Int32).toInt = 4 := by decide
                        refine x_bipush C (-6) dX10_turns_194 (by decide) ?_
                        refine x_sub [(hy, .inr (10, [.ref m0, .ref m1, .ref m2, .ref m3, .ref m4, .ref m5, .ref m6, .ref m7, .ref m8, .ref m9, .int mw, .int ml, .int mb, .ref m10, .int mz, .ref m11, .int ghy16_151, .int bp, .int by0, .int dp, .int tk, .ref m12, .ref m13, .ref m14, .ref m15, .ref m16, .ref m17, .ref m18, .int ka, .int iw])), (m11, .inl (cI, 4, .inl fm11_151)), (m2, .inl (cI, 4, .inl ma)), (m4, .inl (cI, 4, .inl mg)), (m5, .inl (cI, 4, .inl mt)), (m7, .inl (cI, 6, .inl wf)), (m8, .inl (cI, 6, .inl wp)), (m9, .inl (cI, 6, .inl wt)), (m0, .inl (cI, 625, .inl ro)), (m1, .inl (cI, 65, .inl co)), (m3, .inl (cI, 16, .inl mm)), (m16, .inl (cZ, 40625, .inl fm16_48))] [11, 0, 1, 2, 3, 4, 5, 6, 7, 8, 9, 10] (by decide) rfl ?_
                        have : ((-6) : Int32).toInt = -6 := by decide
                        exact x_iret C dX10_turns_196 (Nat.zero_le _) (Nat.zero_le _) (by rw [eO]; exact ⟨((-6)), fm11_151, ghy16_151, fm16_48, rfl, rfl, i_48.2⟩)
                      · skip
                        have e_154 : ¬ ((4 : Int32).toInt ≤ (x5_151 : Int32).toInt) := fun h => c_154 (i_le.mpr h)
                        have : (4 : Int32).toInt = 4 := by decide
                        have := t0_
                        refine x_aload_n C 1 dX10_turns_157 rfl rfl ?_
                        refine x_iconst C 0 dX10_turns_158 (by decide) ?_
                        refine x_iload C 0 dX10_turns_159 rfl ?_
                        refine x_iload_n C 3 dX10_turns_161 rfl rfl ?_
                        refine x_iconst C 4 dX10_turns_162 (by decide) ?_
                        refine x_iconst C 0 dX10_turns_163 (by decide) ?_
                        refine x_callV C [.int 0, .int x5_151, .int se, .int 4, .int 0] [(m3, .inl (cI, 16, .inl mm)), (m16, .inl (cZ, 40625, .inl fm16_48))] [11, 0, 1, 2, 3, 4, 5, 6, 7, 8] [9, 10] (q0 := 0) (c_X10_nextOf (xl X) (xD X) (xt X) hT hy m0 m1 m2 m3 m4 m5 m6 m7 m8 m9 m10 m11 m12 m13 m14 m15 m16 m17 m18 fm11_151 ma mg mt wf wp wt ro co mw ml mb mz ghy16_151 bp by0 dp tk ka iw 0 x5_151 se 4 0 (by omega) hR (GS.z hpa hR.2.1) (by omega) hmw hwt) dX10_turns_164 wd_587 wd_588 wd_589 wd_5 wd_590 (np := 5) ⟨by decide, by decide, by decide +kernel⟩ rfl rfl (Nat.le_of_ble_eq_true rfl) (by decide) rfl rfl rfl rfl (by decide) rfl (by decide) (by decide) (fun v W1 h => ?_)
                        obtain ⟨tl2_164, op2_164, rfl, rfl, h_164⟩ := h
                        have : (0 : Int32).toInt = 0 := by decide
                        have : (4 : Int32).toInt = 4 := by decide
                        show V X 9 [(m3, .inl (cI, 16, .inl mm)), (m16, .inl (cZ, 40625, .inl fm16_48)), (hy, .inr (10, [.ref m0, .ref m1, .ref m2, .ref m3, .ref m4, .ref m5, .ref m6, .ref m7, .ref m8, .ref m9, .int mw, .int ml, .int mb, .ref m10, .int mz, .ref m11, .int op2_164, .int bp, .int by0, .int dp, .int tk, .ref m12, .ref m13, .ref m14, .ref m15, .ref m16, .ref m17, .ref m18, .int ka, .int iw])), (m11, .inl (cI, 4, .inl tl2_164)), (m2, .inl (cI, 4, .inl ma)), (m4, .inl (cI, 4, .inl mg)), (m5, .inl (cI, 4, .inl mt)), (m7, .inl (cI, 6, .inl wf)), (m8, .inl (cI, 6, .inl wp)), (m9, .inl (cI, 6, .inl wt)), (m0, .inl (cI, 625, .inl ro)), (m1, .inl (cI, 65, .inl co))] [(5, .int x5_151), (0, .ref hy), (1, .int s), (2, .int se), (3, .int t), (4, .int x)] [.int (nxF ma mg mt wf wp wt mw ml co ro 0 x5_151 se 4 0)] 167 0 0
                        refine x_istore C [(6, .int (nxF ma mg mt wf wp wt mw ml co ro 0 x5_151 se 4 0)), (5, .int x5_151), (0, .ref hy), (1, .int s), (2, .int se), (3, .int t), (4, .int x)] dX10_turns_167 (by decide) rfl ?_
                        refine x_iload C 0 dX10_turns_169 rfl ?_
                        refine x_if_lt C 188 dX10_turns_171 (by decide) (fun c_171 => ?_) (fun c_171 => ?_)
                        · skip
                          have e_171 : (nxF ma mg mt wf wp wt mw ml co ro 0 x5_151 se 4 0 : Int32).toInt < (0 : Int32).toInt := i_lt.mp c_171
                          have : (0 : Int32).toInt = 0 := by decide
                          refine x_iinc C 1 (x5_151 + 1) [(5, .int (x5_151 + 1)), (6, .int (nxF ma mg mt wf wp wt mw ml co ro 0 x5_151 se 4 0)), (0, .ref hy), (1, .int s), (2, .int se), (3, .int t), (4, .int x)] dX10_turns_188 rfl rfl (by decide) rfl ?_
                          refine x_goto C 151 dX10_turns_191 (by decide) ?_
                          refine x_sub [(m11, .inl (cI, 4, .inl tl2_164)), (m2, .inl (cI, 4, .inl ma)), (m4, .inl (cI, 4, .inl mg)), (m5, .inl (cI, 4, .inl mt)), (m7, .inl (cI, 6, .inl wf)), (m8, .inl (cI, 6, .inl wp)), (m9, .inl (cI, 6, .inl wt)), (m0, .inl (cI, 625, .inl ro)), (m1, .inl (cI, 65, .inl co)), (m3, .inl (cI, 16, .inl mm)), (m16, .inl (cZ, 40625, .inl fm16_48)), (hy, .inr (10, [.ref m0, .ref m1, .ref m2, .ref m3, .ref m4, .ref m5, .ref m6, .ref m7, .ref m8, .ref m9, .int mw, .int ml, .int mb, .ref m10, .int mz, .ref m11, .int op2_164, .int bp, .int by0, .int dp, .int tk, .ref m12, .ref m13, .ref m14, .ref m15, .ref m16, .ref m17, .ref m18, .int ka, .int iw]))] [3, 4, 5, 6, 7, 8, 9, 10, 11, 0, 1, 2] (by decide) rfl ?_
                          refine x_lv [(5, .int (x5_151 + 1)), (0, .ref hy), (1, .int s), (2, .int se), (3, .int t), (4, .int x)] [0, 2, 3, 4, 5, 6] rfl ?_
                          have : (1 : Int32).toInt = 1 := by decide
                          have := i_add (x := x5_151) (y := 1) (by omega) (by omega)
                          exact ih_151 (x5_151 + 1) tl2_164 op2_164 (by omega) (by omega)
                        · skip
                          have e_171 : ¬ ((nxF ma mg mt wf wp wt mw ml co ro 0 x5_151 se 4 0 : Int32).toInt < (0 : Int32).toInt) := fun h => c_171 (i_lt.mpr h)
                          have : (0 : Int32).toInt = 0 := by decide
                          refine x_aload_n C 2 dX10_turns_174 rfl rfl ?_
                          refine x_iload C 0 dX10_turns_175 rfl ?_
                          refine x_iload_n C 3 dX10_turns_177 rfl rfl ?_
                          refine x_iload_n C 5 dX10_turns_178 rfl rfl ?_
                          refine x_callV C [.int (nxF ma mg mt wf wp wt mw ml co ro 0 x5_151 se 4 0), .int s, .int t] [(m4, .inl (cI, 4, .inl mg)), (m5, .inl (cI, 4, .inl mt)), (m7, .inl (cI, 6, .inl wf)), (m8, .inl (cI, 6, .inl wp)), (m9, .inl (cI, 6, .inl wt)), (m0, .inl (cI, 625, .inl ro))] [2, 3, 11, 4, 0, 1] [5, 6, 7, 8, 9, 10] (q0 := 0) (c_X10_hasBy (xl X) (xD X) (xt X) hT hy m0 m1 m2 m3 m4 m5 m6 m7 m8 m9 m10 m11 m12 m13 m14 m15 m16 m17 m18 tl2_164 co ma mm fm16_48 mw ml mb mz op2_164 bp by0 dp tk ka iw (nxF ma mg mt wf wp wt mw ml co ro 0 x5_151 se 4 0) s t (by have := (nx_ok hR (by omega) (GS.z hpa hR.2.1) (by omega) (nl0 e_171)).1; omega) (by omega) hmm i_48.2) dX10_turns_179 wd_732 wd_733 wd_734 wd_5 wd_735 (np := 3) ⟨by decide, by decide, by decide +kernel⟩ rfl rfl (Nat.le_of_ble_eq_true rfl) (by decide) rfl rfl rfl rfl (by decide) rfl (by decide) (by decide) (fun v W1 h => ?_)
                          obtain ⟨r_179, tl2_179, op2_179, rfl, rfl, h_179⟩ := h
                          show V X 9 [(m4, .inl (cI, 4, .inl mg)), (m5, .inl (cI, 4, .inl mt)), (m7, .inl (cI, 6, .inl wf)), (m8, .inl (cI, 6, .inl wp)), (m9, .inl (cI, 6, .inl wt)), (m0, .inl (cI, 625, .inl ro)), (hy, .inr (10, [.ref m0, .ref m1, .ref m2, .ref m3, .ref m4, .ref m5, .ref m6, .ref m7, .ref m8, .ref m9, .int mw, .int ml, .int mb, .ref m10, .int mz, .ref m11, .int op2_179, .int bp, .int by0, .int dp, .int tk, .ref m12, .ref m13, .ref m14, .ref m15, .ref m16, .ref m17, .ref m18, .int ka, .int iw])), (m11, .inl (cI, 4, .inl tl2_179)), (m1, .inl (cI, 65, .inl co)), (m2, .inl (cI, 4, .inl ma)), (m3, .inl (cI, 16, .inl mm)), (m16, .inl (cZ, 40625, .inl fm16_48))] [(6, .int (nxF ma mg mt wf wp wt mw ml co ro 0 x5_151 se 4 0)), (5, .int x5_151), (0, .ref hy), (1, .int s), (2, .int se), (3, .int t), (4, .int x)] [.int r_179] 182 0 0
                          refine x_if_eq C 188 dX10_turns_182 (by decide) (fun c_182 => ?_) (fun c_182 => ?_)
                          · skip
                            have e_182 : (r_179 : Int32).toInt = (0 : Int32).toInt := i_eq.mp c_182
                            have : (0 : Int32).toInt = 0 := by decide
                            refine x_iinc C 1 (x5_151 + 1) [(5, .int (x5_151 + 1)), (6, .int (nxF ma mg mt wf wp wt mw ml co ro 0 x5_151 se 4 0)), (0, .ref hy), (1, .int s), (2, .int se), (3, .int t), (4, .int x)] dX10_turns_188 rfl rfl (by decide) rfl ?_
                            refine x_goto C 151 dX10_turns_191 (by decide) ?_
                            refine x_sub [(m11, .inl (cI, 4, .inl tl2_179)), (m2, .inl (cI, 4, .inl ma)), (m4, .inl (cI, 4, .inl mg)), (m5, .inl (cI, 4, .inl mt)), (m7, .inl (cI, 6, .inl wf)), (m8, .inl (cI, 6, .inl wp)), (m9, .inl (cI, 6, .inl wt)), (m0, .inl (cI, 625, .inl ro)), (m1, .inl (cI, 65, .inl co)), (m3, .inl (cI, 16, .inl mm)), (m16, .inl (cZ, 40625, .inl fm16_48)), (hy, .inr (10, [.ref m0, .ref m1, .ref m2, .ref m3, .ref m4, .ref m5, .ref m6, .ref m7, .ref m8, .ref m9, .int mw, .int ml, .int mb, .ref m10, .int mz, .ref m11, .int op2_179, .int bp, .int by0, .int dp, .int tk, .ref m12, .ref m13, .ref m14, .ref m15, .ref m16, .ref m17, .ref m18, .int ka, .int iw]))] [7, 9, 0, 1, 2, 3, 4, 5, 8, 10, 11, 6] (by decide) rfl ?_
                            refine x_lv [(5, .int (x5_151 + 1)), (0, .ref hy), (1, .int s), (2, .int se), (3, .int t), (4, .int x)] [0, 2, 3, 4, 5, 6] rfl ?_
                            have : (1 : Int32).toInt = 1 := by decide
                            have := i_add (x := x5_151) (y := 1) (by omega) (by omega)
                            exact ih_151 (x5_151 + 1) tl2_179 op2_179 (by omega) (by omega)
                          · skip
                            have e_182 : ¬ ((r_179 : Int32).toInt = (0 : Int32).toInt) := fun h => c_182 (i_eq.mpr h)
                            have : (0 : Int32).toInt = 0 := by decide
                            refine x_iload C 1 dX10_turns_185 rfl ?_
                            refine x_sub [(hy, .inr (10, [.ref m0, .ref m1, .ref m2, .ref m3, .ref m4, .ref m5, .ref m6, .ref m7, .ref m8, .ref m9, .int mw, .int ml, .int mb, .ref m10, .int mz, .ref m11, .int op2_179, .int bp, .int by0, .int dp, .int tk, .ref m12, .ref m13, .ref m14, .ref m15, .ref m16, .ref m17, .ref m18, .int ka, .int iw])), (m11, .inl (cI, 4, .inl tl2_179)), (m2, .inl (cI, 4, .inl ma)), (m4, .inl (cI, 4, .inl mg)), (m5, .inl (cI, 4, .inl mt)), (m7, .inl (cI, 6, .inl wf)), (m8, .inl (cI, 6, .inl wp)), (m9, .inl (cI, 6, .inl wt)), (m0, .inl (cI, 625, .inl ro)), (m1, .inl (cI, 65, .inl co)), (m3, .inl (cI, 16, .inl mm)), (m16, .inl (cZ, 40625, .inl fm16_48))] [6, 7, 9, 0, 1, 2, 3, 4, 5, 8, 10, 11] (by decide) rfl ?_
                            exact x_iret C dX10_turns_187 (Nat.zero_le _) (Nat.zero_le _) (by rw [eO]; exact ⟨x5_151, tl2_179, op2_179, fm16_48, rfl, rfl, i_48.2⟩)
                  have : (0 : Int32).toInt = 0 := by decide
                  exact L_151 _ 0 fm11_48 ghy16_48 (by omega) (Nat.lt_succ_self _)
                · skip
                  have e_130 : (x : Int32).toInt = (0 : Int32).toInt := i_eq.mp c_130
                  have : (0 : Int32).toInt = 0 := by decide
                  refine x_aload_n C 1 dX10_turns_133 rfl rfl ?_
                  refine x_get C 11 25 dX10_turns_134 inlX10 rfl (by decide) wd_140 rfl rfl rfl ?_
                  refine x_iconst C 0 dX10_turns_137 (by decide) ?_
                  have v_138 : vp_in 0 40625 := (vp_in_iff.mpr (by decide))
                  refine x_zald C 10 2 dX10_turns_138 hT.2.2.1 rfl v_138 ?_
                  refine x_if_eq C 146 dX10_turns_139 (by decide) (fun c_139 => ?_) (fun c_139 => ?_)
                  · skip
                    have e_139 : (fm16_48 (Int32.toNatClampNeg 0) : Int32).toInt = (0 : Int32).toInt := i_eq.mp c_139
                    have : (0 : Int32).toInt = 0 := by decide
                    refine x_iconst C 0 dX10_turns_146 (by decide) ?_
                    refine x_sub [(hy, .inr (10, [.ref m0, .ref m1, .ref m2, .ref m3, .ref m4, .ref m5, .ref m6, .ref m7, .ref m8, .ref m9, .int mw, .int ml, .int mb, .ref m10, .int mz, .ref m11, .int ghy16_48, .int bp, .int by0, .int dp, .int tk, .ref m12, .ref m13, .ref m14, .ref m15, .ref m16, .ref m17, .ref m18, .int ka, .int iw])), (m11, .inl (cI, 4, .inl fm11_48)), (m2, .inl (cI, 4, .inl ma)), (m4, .inl (cI, 4, .inl mg)), (m5, .inl (cI, 4, .inl mt)), (m7, .inl (cI, 6, .inl wf)), (m8, .inl (cI, 6, .inl wp)), (m9, .inl (cI, 6, .inl wt)), (m0, .inl (cI, 625, .inl ro)), (m1, .inl (cI, 65, .inl co)), (m3, .inl (cI, 16, .inl mm)), (m16, .inl (cZ, 40625, .inl fm16_48))] [11, 0, 1, 2, 3, 4, 5, 6, 7, 8, 9, 10] (by decide) rfl ?_
                    have : (0 : Int32).toInt = 0 := by decide
                    exact x_iret C dX10_turns_147 (Nat.zero_le _) (Nat.zero_le _) (by rw [eO]; exact ⟨0, fm11_48, ghy16_48, fm16_48, rfl, rfl, i_48.2⟩)
                  · skip
                    have e_139 : ¬ ((fm16_48 (Int32.toNatClampNeg 0) : Int32).toInt = (0 : Int32).toInt) := fun h => c_139 (i_eq.mpr h)
                    have : (0 : Int32).toInt = 0 := by decide
                    refine x_iconst C 1 dX10_turns_142 (by decide) ?_
                    refine x_goto C 147 dX10_turns_143 (by decide) ?_
                    refine x_sub [(hy, .inr (10, [.ref m0, .ref m1, .ref m2, .ref m3, .ref m4, .ref m5, .ref m6, .ref m7, .ref m8, .ref m9, .int mw, .int ml, .int mb, .ref m10, .int mz, .ref m11, .int ghy16_48, .int bp, .int by0, .int dp, .int tk, .ref m12, .ref m13, .ref m14, .ref m15, .ref m16, .ref m17, .ref m18, .int ka, .int iw])), (m11, .inl (cI, 4, .inl fm11_48)), (m2, .inl (cI, 4, .inl ma)), (m4, .inl (cI, 4, .inl mg)), (m5, .inl (cI, 4, .inl mt)), (m7, .inl (cI, 6, .inl wf)), (m8, .inl (cI, 6, .inl wp)), (m9, .inl (cI, 6, .inl wt)), (m0, .inl (cI, 625, .inl ro)), (m1, .inl (cI, 65, .inl co)), (m3, .inl (cI, 16, .inl mm)), (m16, .inl (cZ, 40625, .inl fm16_48))] [11, 0, 1, 2, 3, 4, 5, 6, 7, 8, 9, 10] (by decide) rfl ?_
                    have : (1 : Int32).toInt = 1 := by decide
                    exact x_iret C dX10_turns_147 (Nat.zero_le _) (Nat.zero_le _) (by rw [eO]; exact ⟨1, fm11_48, ghy16_48, fm16_48, rfl, rfl, i_48.2⟩)
              · skip
                have e_50 : ¬ ((x5_48 : Int32).toInt < (0 : Int32).toInt) := fun h => c_50 (i_lt.mpr h)
                have : (0 : Int32).toInt = 0 := by decide
                refine x_iconst C 0 dX10_turns_53 (by decide) ?_
                refine x_istore C [(6, .int 0), (5, .int x5_48), (0, .ref hy), (1, .int s), (2, .int se), (3, .int t), (4, .int x)] dX10_turns_54 (by decide) rfl ?_
                have L_56 : ∀ (n_56 : Nat) (x6_56 : Int32) (fm11_56 : Nat → Int32) (fm16_56 : Nat → Int32) (ghy16_56 : Int32), ((0 ≤ x6_56.toInt ∧ x6_56.toInt ≤ 625) ∧ Z01 fm16_56) → ((625 - x6_56.toInt).toNat < n_56) → V X 9 [(m11, .inl (cI, 4, .inl fm11_56)), (m2, .inl (cI, 4, .inl ma)), (m4, .inl (cI, 4, .inl mg)), (m5, .inl (cI, 4, .inl mt)), (m7, .inl (cI, 6, .inl wf)), (m8, .inl (cI, 6, .inl wp)), (m9, .inl (cI, 6, .inl wt)), (m0, .inl (cI, 625, .inl ro)), (m1, .inl (cI, 65, .inl co)), (m3, .inl (cI, 16, .inl mm)), (m16, .inl (cZ, 40625, .inl fm16_56)), (hy, .inr (10, [.ref m0, .ref m1, .ref m2, .ref m3, .ref m4, .ref m5, .ref m6, .ref m7, .ref m8, .ref m9, .int mw, .int ml, .int mb, .ref m10, .int mz, .ref m11, .int ghy16_56, .int bp, .int by0, .int dp, .int tk, .ref m12, .ref m13, .ref m14, .ref m15, .ref m16, .ref m17, .ref m18, .int ka, .int iw]))] [(6, .int x6_56), (5, .int x5_48), (0, .ref hy), (1, .int s), (2, .int se), (3, .int t), (4, .int x)] [] 56 0 0 := by
                  intro n_56
                  induction n_56 with
                  | zero =>
                    intro x6_56 fm11_56 fm16_56 ghy16_56 i_56 m_56
                    exact absurd m_56 (Nat.not_lt_zero _)
                  | succ n_56 ih_56 =>
                    intro x6_56 fm11_56 fm16_56 ghy16_56 i_56 m_56
                    refine x_iload C 0 dX10_turns_56 rfl ?_
                    refine x_sipush C 625 dX10_turns_58 (by decide) ?_
                    refine x_icmp_ge C 122 dX10_turns_61 (by decide) (fun c_61 => ?_) (fun c_61 => ?_)
                    · skip
                      have e_61 : (625 : Int32).toInt ≤ (x6_56 : Int32).toInt := i_le.mp c_61
                      have : (625 : Int32).toInt = 625 := by decide
                      refine x_iinc C 1 (x5_48 - 1) [(5, .int (x5_48 - 1)), (6, .int x6_56), (0, .ref hy), (1, .int s), (2, .int se), (3, .int t), (4, .int x)] dX10_turns_122 rfl (i_m1 _) (by decide) rfl ?_
                      refine x_goto C 48 dX10_turns_125 (by decide) ?_
                      refine x_lv [(5, .int (x5_48 - 1)), (0, .ref hy), (1, .int s), (2, .int se), (3, .int t), (4, .int x)] [0, 2, 3, 4, 5, 6] rfl ?_
                      have : (1 : Int32).toInt = 1 := by decide
                      have := i_sub (x := x5_48) (y := 1) (by omega) (by omega)
                      exact ih_48 (x5_48 - 1) fm11_56 fm16_56 ghy16_56 ⟨by omega, i_56.2⟩ (by omega)
                    · skip
                      have e_61 : ¬ ((625 : Int32).toInt ≤ (x6_56 : Int32).toInt) := fun h => c_61 (i_le.mpr h)
                      have : (625 : Int32).toInt = 625 := by decide
                      refine x_iconst C 0 dX10_turns_64 (by decide) ?_
                      refine x_istore C [(7, .int 0), (6, .int x6_56), (5, .int x5_48), (0, .ref hy), (1, .int s), (2, .int se), (3, .int t), (4, .int x)] dX10_turns_65 (by decide) rfl ?_
                      have L_67 : ∀ (n_67 : Nat) (x7_67 : Int32) (fm11_67 : Nat → Int32) (fm16_67 : Nat → Int32) (ghy16_67 : Int32), ((0 ≤ x7_67.toInt ∧ x7_67.toInt ≤ 65) ∧ Z01 fm16_67) → ((65 - x7_67.toInt).toNat < n_67) → V X 9 [(m11, .inl (cI, 4, .inl fm11_67)), (m2, .inl (cI, 4, .inl ma)), (m4, .inl (cI, 4, .inl mg)), (m5, .inl (cI, 4, .inl mt)), (m7, .inl (cI, 6, .inl wf)), (m8, .inl (cI, 6, .inl wp)), (m9, .inl (cI, 6, .inl wt)), (m0, .inl (cI, 625, .inl ro)), (m1, .inl (cI, 65, .inl co)), (m3, .inl (cI, 16, .inl mm)), (m16, .inl (cZ, 40625, .inl fm16_67)), (hy, .inr (10, [.ref m0, .ref m1, .ref m2, .ref m3, .ref m4, .ref m5, .ref m6, .ref m7, .ref m8, .ref m9, .int mw, .int ml, .int mb, .ref m10, .int mz, .ref m11, .int ghy16_67, .int bp, .int by0, .int dp, .int tk, .ref m12, .ref m13, .ref m14, .ref m15, .ref m16, .ref m17, .ref m18, .int ka, .int iw]))] [(7, .int x7_67), (6, .int x6_56), (5, .int x5_48), (0, .ref hy), (1, .int s), (2, .int se), (3, .int t), (4, .int x)] [] 67 0 0 := by
                        intro n_67
                        induction n_67 with
                        | zero =>
                          intro x7_67 fm11_67 fm16_67 ghy16_67 i_67 m_67
                          exact absurd m_67 (Nat.not_lt_zero _)
                        | succ n_67 ih_67 =>
                          intro x7_67 fm11_67 fm16_67 ghy16_67 i_67 m_67
                          refine x_iload C 0 dX10_turns_67 rfl ?_
                          refine x_bipush C 65 dX10_turns_69 (by decide) ?_
                          refine x_icmp_ge C 116 dX10_turns_71 (by decide) (fun c_71 => ?_) (fun c_71 => ?_)
                          · skip
                            have e_71 : (65 : Int32).toInt ≤ (x7_67 : Int32).toInt := i_le.mp c_71
                            have : (65 : Int32).toInt = 65 := by decide
                            refine x_iinc C 1 (x6_56 + 1) [(6, .int (x6_56 + 1)), (7, .int x7_67), (5, .int x5_48), (0, .ref hy), (1, .int s), (2, .int se), (3, .int t), (4, .int x)] dX10_turns_116 rfl rfl (by decide) rfl ?_
                            refine x_goto C 56 dX10_turns_119 (by decide) ?_
                            refine x_lv [(6, .int (x6_56 + 1)), (5, .int x5_48), (0, .ref hy), (1, .int s), (2, .int se), (3, .int t), (4, .int x)] [0, 2, 3, 4, 5, 6, 7] rfl ?_
                            have : (1 : Int32).toInt = 1 := by decide
                            have := i_add (x := x6_56) (y := 1) (by omega) (by omega)
                            exact ih_56 (x6_56 + 1) fm11_67 fm16_67 ghy16_67 ⟨by omega, i_67.2⟩ (by omega)
                          · skip
                            have e_71 : ¬ ((65 : Int32).toInt ≤ (x7_67 : Int32).toInt) := fun h => c_71 (i_le.mpr h)
                            have : (65 : Int32).toInt = 65 := by decide
                            refine x_iload C 1 dX10_turns_74 rfl ?_
                            refine x_callS C [.int x6_56] [(m11, .inl (cI, 4, .inl fm11_67)), (m2, .inl (cI, 4, .inl ma)), (m4, .inl (cI, 4, .inl mg)), (m5, .inl (cI, 4, .inl mt)), (m7, .inl (cI, 6, .inl wf)), (m8, .inl (cI, 6, .inl wp)), (m9, .inl (cI, 6, .inl wt)), (m0, .inl (cI, 625, .inl ro)), (m1, .inl (cI, 65, .inl co)), (m3, .inl (cI, 16, .inl mm)), (m16, .inl (cZ, 40625, .inl fm16_67)), (hy, .inr (10, [.ref m0, .ref m1, .ref m2, .ref m3, .ref m4, .ref m5, .ref m6, .ref m7, .ref m8, .ref m9, .int mw, .int ml, .int mb, .ref m10, .int mz, .ref m11, .int ghy16_67, .int bp, .int by0, .int dp, .int tk, .ref m12, .ref m13, .ref m14, .ref m15, .ref m16, .ref m17, .ref m18, .int ka, .int iw]))] [] [0, 1, 2, 3, 4, 5, 6, 7, 8, 9, 10, 11] (c_X10_sumOf (xl X) (xD X) (xt X) hT x6_56 (by omega)) dX10_turns_76 wd_572 wd_573 wd_5 wd_574 (np := 1) ⟨by decide, by decide, by decide +kernel⟩ rfl rfl (Nat.le_of_ble_eq_true rfl) (by decide) rfl (by decide) rfl (by decide) (by decide) (fun v W1 h => ?_)
                            obtain ⟨r_76, rfl, rfl, h_76⟩ := h
                            show V X 9 [(m11, .inl (cI, 4, .inl fm11_67)), (m2, .inl (cI, 4, .inl ma)), (m4, .inl (cI, 4, .inl mg)), (m5, .inl (cI, 4, .inl mt)), (m7, .inl (cI, 6, .inl wf)), (m8, .inl (cI, 6, .inl wp)), (m9, .inl (cI, 6, .inl wt)), (m0, .inl (cI, 625, .inl ro)), (m1, .inl (cI, 65, .inl co)), (m3, .inl (cI, 16, .inl mm)), (m16, .inl (cZ, 40625, .inl fm16_67)), (hy, .inr (10, [.ref m0, .ref m1, .ref m2, .ref m3, .ref m4, .ref m5, .ref m6, .ref m7, .ref m8, .ref m9, .int mw, .int ml, .int mb, .ref m10, .int mz, .ref m11, .int ghy16_67, .int bp, .int by0, .int dp, .int tk, .ref m12, .ref m13, .ref m14, .ref m15, .ref m16, .ref m17, .ref m18, .int ka, .int iw]))] [(7, .int x7_67), (6, .int x6_56), (5, .int x5_48), (0, .ref hy), (1, .int s), (2, .int se), (3, .int t), (4, .int x)] [.int r_76] 79 0 0
                            refine x_iload C 2 dX10_turns_79 rfl ?_
                            refine x_icmp_ne C 116 dX10_turns_81 (by decide) (fun c_81 => ?_) (fun c_81 => ?_)
                            · skip
                              have e_81 : ¬ ((r_76 : Int32).toInt = (x5_48 : Int32).toInt) := fun h => c_81 (i_eq.mpr h)
                              refine x_iinc C 1 (x6_56 + 1) [(6, .int (x6_56 + 1)), (7, .int x7_67), (5, .int x5_48), (0, .ref hy), (1, .int s), (2, .int se), (3, .int t), (4, .int x)] dX10_turns_116 rfl rfl (by decide) rfl ?_
                              refine x_goto C 56 dX10_turns_119 (by decide) ?_
                              refine x_lv [(6, .int (x6_56 + 1)), (5, .int x5_48), (0, .ref hy), (1, .int s), (2, .int se), (3, .int t), (4, .int x)] [0, 2, 3, 4, 5, 6, 7] rfl ?_
                              have : (1 : Int32).toInt = 1 := by decide
                              have := i_add (x := x6_56) (y := 1) (by omega) (by omega)
                              exact ih_56 (x6_56 + 1) fm11_67 fm16_67 ghy16_67 ⟨by omega, i_67.2⟩ (by omega)
                            · skip
                              have e_81 : (r_76 : Int32).toInt = (x5_48 : Int32).toInt := i_eq.mp c_81
                              have : (65 : Int32).toInt = 65 := by decide
                              have := i_mull (x := 65) (y := x6_56) (d := 65) (by decide) (by omega) (by omega)
                              have st9 := i_add (x := 65 * x6_56) (y := x7_67) (by omega) (by omega)
                              refine x_bipush C 65 dX10_turns_84 (by decide) ?_
                              refine x_iload C 1 dX10_turns_86 rfl ?_
                              refine x_imul C dX10_turns_88 ?_
                              refine x_iload C 0 dX10_turns_89 rfl ?_
                              refine x_iadd C dX10_turns_91 ?_
                              refine x_istore C [(8, .int ((65 * x6_56) + x7_67)), (7, .int x7_67), (6, .int x6_56), (5, .int x5_48), (0, .ref hy), (1, .int s), (2, .int se), (3, .int t), (4, .int x)] dX10_turns_92 (by decide) rfl ?_
                              refine x_aload_n C 4 dX10_turns_94 rfl rfl ?_
                              refine x_get C 11 25 dX10_turns_95 inlX10 rfl (by decide) wd_140 rfl rfl rfl ?_
                              refine x_iload C 0 dX10_turns_98 rfl ?_
                              refine x_aload_n C 4 dX10_turns_100 rfl rfl ?_
                              refine x_iload C 0 dX10_turns_101 rfl ?_
                              refine x_iload_n C 5 dX10_turns_103 rfl rfl ?_
                              refine x_iload_n C 6 dX10_turns_104 rfl rfl ?_
                              refine x_iload_n C 7 dX10_turns_105 rfl rfl ?_
                              refine x_callV C [.int ((65 * x6_56) + x7_67), .int s, .int se, .int t] [] [11, 0, 1, 2, 3, 4, 5, 6, 7, 8, 9, 10] [] (q0 := 0) (c_X10_hasIt (xl X) (xD X) (xt X) hT hy m0 m1 m2 m3 m4 m5 m6 m7 m8 m9 m10 m11 m12 m13 m14 m15 m16 m17 m18 fm11_67 ma mg mt wf wp wt ro co mm fm16_67 mw ml mb mz ghy16_67 bp by0 dp tk ka iw ((65 * x6_56) + x7_67) s se t (by omega) (by omega) hmm i_67.2 hR hpa hmw hwt) dX10_turns_106 wd_724 wd_725 wd_726 wd_5 wd_727 (np := 4) ⟨by decide, by decide, by decide +kernel⟩ rfl rfl (Nat.le_of_ble_eq_true rfl) (by decide) rfl rfl rfl rfl (by decide) rfl (by decide) (by decide) (fun v W1 h => ?_)
                              obtain ⟨r_106, tl2_106, op2_106, rfl, rfl, h_106⟩ := h
                              show V X 9 [(hy, .inr (10, [.ref m0, .ref m1, .ref m2, .ref m3, .ref m4, .ref m5, .ref m6, .ref m7, .ref m8, .ref m9, .int mw, .int ml, .int mb, .ref m10, .int mz, .ref m11, .int op2_106, .int bp, .int by0, .int dp, .int tk, .ref m12, .ref m13, .ref m14, .ref m15, .ref m16, .ref m17, .ref m18, .int ka, .int iw])), (m11, .inl (cI, 4, .inl tl2_106)), (m2, .inl (cI, 4, .inl ma)), (m4, .inl (cI, 4, .inl mg)), (m5, .inl (cI, 4, .inl mt)), (m7, .inl (cI, 6, .inl wf)), (m8, .inl (cI, 6, .inl wp)), (m9, .inl (cI, 6, .inl wt)), (m0, .inl (cI, 625, .inl ro)), (m1, .inl (cI, 65, .inl co)), (m3, .inl (cI, 16, .inl mm)), (m16, .inl (cZ, 40625, .inl fm16_67))] [(8, .int ((65 * x6_56) + x7_67)), (7, .int x7_67), (6, .int x6_56), (5, .int x5_48), (0, .ref hy), (1, .int s), (2, .int se), (3, .int t), (4, .int x)] [.int r_106, .int ((65 * x6_56) + x7_67), .ref m16] 109 0 0
                              have v_109 : vp_in ((65 * x6_56) + x7_67) 40625 := (vp_in_iff.mpr (by omega))
                              refine x_zast C 11 2 [(hy, .inr (10, [.ref m0, .ref m1, .ref m2, .ref m3, .ref m4, .ref m5, .ref m6, .ref m7, .ref m8, .ref m9, .int mw, .int ml, .int mb, .ref m10, .int mz, .ref m11, .int op2_106, .int bp, .int by0, .int dp, .int tk, .ref m12, .ref m13, .ref m14, .ref m15, .ref m16, .ref m17, .ref m18, .int ka, .int iw])), (m11, .inl (cI, 4, .inl tl2_106)), (m2, .inl (cI, 4, .inl ma)), (m4, .inl (cI, 4, .inl mg)), (m5, .inl (cI, 4, .inl mt)), (m7, .inl (cI, 6, .inl wf)), (m8, .inl (cI, 6, .inl wp)), (m9, .inl (cI, 6, .inl wt)), (m0, .inl (cI, 625, .inl ro)), (m1, .inl (cI, 65, .inl co)), (m3, .inl (cI, 16, .inl mm)), (m16, .inl (cZ, 40625, .inl (upd fm16_67 (Int32.toNatClampNeg ((65 * x6_56) + x7_67)) r_106)))] dX10_turns_109 hT.2.2.1 rfl v_109 (z_vn h_106) rfl ?_
                              refine x_iinc C 1 (x7_67 + 1) [(7, .int (x7_67 + 1)), (8, .int ((65 * x6_56) + x7_67)), (6, .int x6_56), (5, .int x5_48), (0, .ref hy), (1, .int s), (2, .int se), (3, .int t), (4, .int x)] dX10_turns_110 rfl rfl (by decide) rfl ?_
                              refine x_goto C 67 dX10_turns_113 (by decide) ?_
                              refine x_sub [(m11, .inl (cI, 4, .inl tl2_106)), (m2, .inl (cI, 4, .inl ma)), (m4, .inl (cI, 4, .inl mg)), (m5, .inl (cI, 4, .inl mt)), (m7, .inl (cI, 6, .inl wf)), (m8, .inl (cI, 6, .inl wp)), (m9, .inl (cI, 6, .inl wt)), (m0, .inl (cI, 625, .inl ro)), (m1, .inl (cI, 65, .inl co)), (m3, .inl (cI, 16, .inl mm)), (m16, .inl (cZ, 40625, .inl (upd fm16_67 (Int32.toNatClampNeg ((65 * x6_56) + x7_67)) r_106))), (hy, .inr (10, [.ref m0, .ref m1, .ref m2, .ref m3, .ref m4, .ref m5, .ref m6, .ref m7, .ref m8, .ref m9, .int mw, .int ml, .int mb, .ref m10, .int mz, .ref m11, .int op2_106, .int bp, .int by0, .int dp, .int tk, .ref m12, .ref m13, .ref m14, .ref m15, .ref m16, .ref m17, .ref m18, .int ka, .int iw]))] [1, 2, 3, 4, 5, 6, 7, 8, 9, 10, 11, 0] (by decide) rfl ?_
                              refine x_lv [(7, .int (x7_67 + 1)), (6, .int x6_56), (5, .int x5_48), (0, .ref hy), (1, .int s), (2, .int se), (3, .int t), (4, .int x)] [0, 2, 3, 4, 5, 6, 7, 8] rfl ?_
                              have : (1 : Int32).toInt = 1 := by decide
                              have := i_add (x := x7_67) (y := 1) (by omega) (by omega)
                              exact ih_67 (x7_67 + 1) tl2_106 (upd fm16_67 (Int32.toNatClampNeg ((65 * x6_56) + x7_67)) r_106) op2_106 ⟨by omega, i_67.2.upd h_106⟩ (by omega)
                      have : (0 : Int32).toInt = 0 := by decide
                      exact L_67 _ 0 fm11_56 fm16_56 ghy16_56 ⟨by omega, i_56.2⟩ (Nat.lt_succ_self _)
                have : (0 : Int32).toInt = 0 := by decide
                exact L_56 _ 0 fm11_48 fm16_48 ghy16_48 ⟨by omega, i_48.2⟩ (Nat.lt_succ_self _)
          have : (16 : Int32).toInt = 16 := by decide
          exact L_48 _ 16 tl ch op ⟨by omega, hch⟩ (Nat.lt_succ_self _)
        · skip
          have e_38 : (r_35 : Int32).toInt = (0 : Int32).toInt := i_eq.mp c_38
          have : (0 : Int32).toInt = 0 := by decide
          refine x_bipush C (-2) dX10_turns_41 (by decide) ?_
          refine x_sub [(hy, .inr (10, [.ref m0, .ref m1, .ref m2, .ref m3, .ref m4, .ref m5, .ref m6, .ref m7, .ref m8, .ref m9, .int mw, .int ml, .int mb, .ref m10, .int mz, .ref m11, .int op, .int bp, .int by0, .int dp, .int tk, .ref m12, .ref m13, .ref m14, .ref m15, .ref m16, .ref m17, .ref m18, .int ka, .int iw])), (m11, .inl (cI, 4, .inl tl)), (m2, .inl (cI, 4, .inl ma)), (m4, .inl (cI, 4, .inl mg)), (m5, .inl (cI, 4, .inl mt)), (m7, .inl (cI, 6, .inl wf)), (m8, .inl (cI, 6, .inl wp)), (m9, .inl (cI, 6, .inl wt)), (m0, .inl (cI, 625, .inl ro)), (m1, .inl (cI, 65, .inl co)), (m3, .inl (cI, 16, .inl mm)), (m16, .inl (cZ, 40625, .inl ch))] [11, 0, 1, 2, 3, 4, 5, 6, 7, 8, 9, 10] (by decide) rfl ?_
          have : ((-2) : Int32).toInt = -2 := by decide
          exact x_iret C dX10_turns_43 (Nat.zero_le _) (Nat.zero_le _) (by rw [eO]; exact ⟨((-2)), tl, op, ch, rfl, rfl, hch⟩)
  · skip
    have e_6 : (r_3 : Int32).toInt = (0 : Int32).toInt := i_eq.mp c_6
    have : (0 : Int32).toInt = 0 := by decide
    refine x_iconst C (-1) dX10_turns_9 (by decide) ?_
    refine x_sub [(hy, .inr (10, [.ref m0, .ref m1, .ref m2, .ref m3, .ref m4, .ref m5, .ref m6, .ref m7, .ref m8, .ref m9, .int mw, .int ml, .int mb, .ref m10, .int mz, .ref m11, .int op, .int bp, .int by0, .int dp, .int tk, .ref m12, .ref m13, .ref m14, .ref m15, .ref m16, .ref m17, .ref m18, .int ka, .int iw])), (m11, .inl (cI, 4, .inl tl)), (m2, .inl (cI, 4, .inl ma)), (m4, .inl (cI, 4, .inl mg)), (m5, .inl (cI, 4, .inl mt)), (m7, .inl (cI, 6, .inl wf)), (m8, .inl (cI, 6, .inl wp)), (m9, .inl (cI, 6, .inl wt)), (m0, .inl (cI, 625, .inl ro)), (m1, .inl (cI, 65, .inl co)), (m3, .inl (cI, 16, .inl mm)), (m16, .inl (cZ, 40625, .inl ch))] [11, 0, 1, 2, 3, 4, 5, 6, 7, 8, 9, 10] (by decide) rfl ?_
    have : ((-1) : Int32).toInt = -1 := by decide
    exact x_iret C dX10_turns_10 (Nat.zero_le _) (Nat.zero_le _) (by rw [eO]; exact ⟨((-1)), tl, op, ch, rfl, rfl, hch⟩)
abbrev rm_X10_ends : Room := { frames := 6, cells := 0, slots := 0, locals := 151 }
set_option maxHeartbeats 4000000 in
set_option maxRecDepth 100000 in
theorem c_X10_ends (l : Launch) (D : va_G) (tys : List (ClassId × FieldType)) {cI cJ cZ cB : ClassId} (hT : Ty tys cI cJ cZ cB) (hy m0 m1 m2 m3 m4 m5 m6 m7 m8 m9 m10 m11 m12 m13 m14 m15 m16 m17 m18 : Nat) (tl ma mg mt wf wp wt ro co mm ir en : Nat → Int32) (wy : Nat → Int64) (mw ml mb mz op bp by0 dp tk ka iw : Int32) (s se de i : Int32) (hmm : MOk mm) (hR : RT co ro) (hpa : POk ma) (hmw : 0 ≤ mw.toInt ∧ mw.toInt ≤ 6) (hwt : SOk wt) : Cn l D tys yX10_ends cX10_ends 7 (some .int) rm_X10_ends [(hy, .inr (10, [.ref m0, .ref m1, .ref m2, .ref m3, .ref m4, .ref m5, .ref m6, .ref m7, .ref m8, .ref m9, .int mw, .int ml, .int mb, .ref m10, .int mz, .ref m11, .int op, .int bp, .int by0, .int dp, .int tk, .ref m12, .ref m13, .ref m14, .ref m15, .ref m16, .ref m17, .ref m18, .int ka, .int iw])), (m11, .inl (cI, 4, .inl tl)), (m2, .inl (cI, 4, .inl ma)), (m4, .inl (cI, 4, .inl mg)), (m5, .inl (cI, 4, .inl mt)), (m7, .inl (cI, 6, .inl wf)), (m8, .inl (cI, 6, .inl wp)), (m9, .inl (cI, 6, .inl wt)), (m0, .inl (cI, 625, .inl ro)), (m1, .inl (cI, 65, .inl co)), (m12, .inl (cJ, 40625, .inr (.inl wy))), (m3, .inl (cI, 16, .inl mm)), (m13, .inl (cZ, 40625, .inl ir)), (m15, .inl (cZ, 145, .inl en))] [.ref hy, .int s, .int se, .int de, .int i] (fun v W1 => ∃ (r : Int32) (tl2 : Nat → Int32) (op2 : Int32) (wy2 : Nat → Int64) (ir2 en2 : Nat → Int32), v = some (.int r) ∧ W1 = [(hy, .inr (10, [.ref m0, .ref m1, .ref m2, .ref m3, .ref m4, .ref m5, .ref m6, .ref m7, .ref m8, .ref m9, .int mw, .int ml, .int mb, .ref m10, .int mz, .ref m11, .int op2, .int bp, .int by0, .int dp, .int tk, .ref m12, .ref m13, .ref m14, .ref m15, .ref m16, .ref m17, .ref m18, .int ka, .int iw])), (m11, .inl (cI, 4, .inl tl2)), (m2, .inl (cI, 4, .inl ma)), (m4, .inl (cI, 4, .inl mg)), (m5, .inl (cI, 4, .inl mt)), (m7, .inl (cI, 6, .inl wf)), (m8, .inl (cI, 6, .inl wp)), (m9, .inl (cI, 6, .inl wt)), (m0, .inl (cI, 625, .inl ro)), (m1, .inl (cI, 65, .inl co)), (m12, .inl (cJ, 40625, .inr (.inl wy2))), (m3, .inl (cI, 16, .inl mm)), (m13, .inl (cZ, 40625, .inl ir2)), (m15, .inl (cZ, 145, .inl en2))] ∧ (True)) := by
  refine Cn.of (by decide) (Nat.le_of_ble_eq_true rfl) ?_ ?_ (fun X eL eD eT eO eK eN eM C => ?_)
  · intro h; cases h
  · intro v ws h; obtain ⟨_, _, _, _, _, _, rfl, rfl, _⟩ := h; exact Or.inl rfl
  subst eL eD eT
  show V X 7 [(hy, .inr (10, [.ref m0, .ref m1, .ref m2, .ref m3, .ref m4, .ref m5, .ref m6, .ref m7, .ref m8, .ref m9, .int mw, .int ml, .int mb, .ref m10, .int mz, .ref m11, .int op, .int bp, .int by0, .int dp, .int tk, .ref m12, .ref m13, .ref m14, .ref m15, .ref m16, .ref m17, .ref m18, .int ka, .int iw])), (m11, .inl (cI, 4, .inl tl)), (m2, .inl (cI, 4, .inl ma)), (m4, .inl (cI, 4, .inl mg)), (m5, .inl (cI, 4, .inl mt)), (m7, .inl (cI, 6, .inl wf)), (m8, .inl (cI, 6, .inl wp)), (m9, .inl (cI, 6, .inl wt)), (m0, .inl (cI, 625, .inl ro)), (m1, .inl (cI, 65, .inl co)), (m12, .inl (cJ, 40625, .inr (.inl wy))), (m3, .inl (cI, 16, .inl mm)), (m13, .inl (cZ, 40625, .inl ir)), (m15, .inl (cZ, 145, .inl en))] [(0, .ref hy), (1, .int s), (2, .int se), (3, .int de), (4, .int i)] [] 0 0 0
  refine x_aload_n C 0 dX10_ends_0 rfl rfl ?_
  refine x_iload_n C 1 dX10_ends_1 rfl rfl ?_
  refine x_iload_n C 2 dX10_ends_2 rfl rfl ?_
  refine x_callV C [.int s, .int se] [(m11, .inl (cI, 4, .inl tl)), (m2, .inl (cI, 4, .inl ma)), (m4, .inl (cI, 4, .inl mg)), (m5, .inl (cI, 4, .inl mt)), (m7, .inl (cI, 6, .inl wf)), (m8, .inl (cI, 6, .inl wp)), (m9, .inl (cI, 6, .inl wt)), (m0, .inl (cI, 625, .inl ro)), (m1, .inl (cI, 65, .inl co)), (m12, .inl (cJ, 40625, .inr (.inl wy))), (m3, .inl (cI, 16, .inl mm)), (m13, .inl (cZ, 40625, .inl ir)), (m15, .inl (cZ, 145, .inl en))] [0] [1, 2, 3, 4, 5, 6, 7, 8, 9, 10, 11, 12, 13] (q0 := 0) (c_X10_isOf (xl X) (xD X) (xt X) hT hy m0 m1 m2 m3 m4 m5 m6 m7 m8 m9 m10 m11 m12 m13 m14 m15 m16 m17 m18 mw ml mb mz op bp by0 dp tk ka iw s se ) dX10_ends_3 wd_685 wd_686 wd_687 wd_5 wd_688 (np := 2) ⟨by decide, by decide, by decide +kernel⟩ rfl rfl (Nat.le_of_ble_eq_true rfl) (by decide) rfl rfl rfl rfl (by decide) rfl (by decide) (by decide) (fun v W1 h => ?_)
  obtain ⟨r_3, rfl, rfl, h_3⟩ := h
  show V X 7 [(m11, .inl (cI, 4, .inl tl)), (m2, .inl (cI, 4, .inl ma)), (m4, .inl (cI, 4, .inl mg)), (m5, .inl (cI, 4, .inl mt)), (m7, .inl (cI, 6, .inl wf)), (m8, .inl (cI, 6, .inl wp)), (m9, .inl (cI, 6, .inl wt)), (m0, .inl (cI, 625, .inl ro)), (m1, .inl (cI, 65, .inl co)), (m12, .inl (cJ, 40625, .inr (.inl wy))), (m3, .inl (cI, 16, .inl mm)), (m13, .inl (cZ, 40625, .inl ir)), (m15, .inl (cZ, 145, .inl en)), (hy, .inr (10, [.ref m0, .ref m1, .ref m2, .ref m3, .ref m4, .ref m5, .ref m6, .ref m7, .ref m8, .ref m9, .int mw, .int ml, .int mb, .ref m10, .int mz, .ref m11, .int op, .int bp, .int by0, .int dp, .int tk, .ref m12, .ref m13, .ref m14, .ref m15, .ref m16, .ref m17, .ref m18, .int ka, .int iw]))] [(0, .ref hy), (1, .int s), (2, .int se), (3, .int de), (4, .int i)] [.int r_3] 6 0 0
  refine x_if_ne C 11 dX10_ends_6 (by decide) (fun c_6 => ?_) (fun c_6 => ?_)
  · skip
    have e_6 : ¬ ((r_3 : Int32).toInt = (0 : Int32).toInt) := fun h => c_6 (i_eq.mpr h)
    have : (0 : Int32).toInt = 0 := by decide
    refine x_iload_n C 2 dX10_ends_11 rfl rfl ?_
    refine x_callS C [.int se] [(m11, .inl (cI, 4, .inl tl)), (m2, .inl (cI, 4, .inl ma)), (m4, .inl (cI, 4, .inl mg)), (m5, .inl (cI, 4, .inl mt)), (m7, .inl (cI, 6, .inl wf)), (m8, .inl (cI, 6, .inl wp)), (m9, .inl (cI, 6, .inl wt)), (m0, .inl (cI, 625, .inl ro)), (m1, .inl (cI, 65, .inl co)), (m12, .inl (cJ, 40625, .inr (.inl wy))), (m3, .inl (cI, 16, .inl mm)), (m13, .inl (cZ, 40625, .inl ir)), (m15, .inl (cZ, 145, .inl en)), (hy, .inr (10, [.ref m0, .ref m1, .ref m2, .ref m3, .ref m4, .ref m5, .ref m6, .ref m7, .ref m8, .ref m9, .int mw, .int ml, .int mb, .ref m10, .int mz, .ref m11, .int op, .int bp, .int by0, .int dp, .int tk, .ref m12, .ref m13, .ref m14, .ref m15, .ref m16, .ref m17, .ref m18, .int ka, .int iw]))] [] [0, 1, 2, 3, 4, 5, 6, 7, 8, 9, 10, 11, 12, 13] (c_X10_isSet (xl X) (xD X) (xt X) hT se ) dX10_ends_12 wd_565 wd_566 wd_5 wd_567 (np := 1) ⟨by decide, by decide, by decide +kernel⟩ rfl rfl (Nat.le_of_ble_eq_true rfl) (by decide) rfl (by decide) rfl (by decide) (by decide) (fun v W1 h => ?_)
    obtain ⟨r_12, rfl, rfl, h_12⟩ := h
    show V X 7 [(m11, .inl (cI, 4, .inl tl)), (m2, .inl (cI, 4, .inl ma)), (m4, .inl (cI, 4, .inl mg)), (m5, .inl (cI, 4, .inl mt)), (m7, .inl (cI, 6, .inl wf)), (m8, .inl (cI, 6, .inl wp)), (m9, .inl (cI, 6, .inl wt)), (m0, .inl (cI, 625, .inl ro)), (m1, .inl (cI, 65, .inl co)), (m12, .inl (cJ, 40625, .inr (.inl wy))), (m3, .inl (cI, 16, .inl mm)), (m13, .inl (cZ, 40625, .inl ir)), (m15, .inl (cZ, 145, .inl en)), (hy, .inr (10, [.ref m0, .ref m1, .ref m2, .ref m3, .ref m4, .ref m5, .ref m6, .ref m7, .ref m8, .ref m9, .int mw, .int ml, .int mb, .ref m10, .int mz, .ref m11, .int op, .int bp, .int by0, .int dp, .int tk, .ref m12, .ref m13, .ref m14, .ref m15, .ref m16, .ref m17, .ref m18, .int ka, .int iw]))] [(0, .ref hy), (1, .int s), (2, .int se), (3, .int de), (4, .int i)] [.int r_12] 15 0 0
    refine x_if_eq C 30 dX10_ends_15 (by decide) (fun c_15 => ?_) (fun c_15 => ?_)
    · skip
      have e_15 : (r_12 : Int32).toInt = (0 : Int32).toInt := i_eq.mp c_15
      have : (0 : Int32).toInt = 0 := by decide
      refine x_bipush C (-2) dX10_ends_30 (by decide) ?_
      refine x_sub [(hy, .inr (10, [.ref m0, .ref m1, .ref m2, .ref m3, .ref m4, .ref m5, .ref m6, .ref m7, .ref m8, .ref m9, .int mw, .int ml, .int mb, .ref m10, .int mz, .ref m11, .int op, .int bp, .int by0, .int dp, .int tk, .ref m12, .ref m13, .ref m14, .ref m15, .ref m16, .ref m17, .ref m18, .int ka, .int iw])), (m11, .inl (cI, 4, .inl tl)), (m2, .inl (cI, 4, .inl ma)), (m4, .inl (cI, 4, .inl mg)), (m5, .inl (cI, 4, .inl mt)), (m7, .inl (cI, 6, .inl wf)), (m8, .inl (cI, 6, .inl wp)), (m9, .inl (cI, 6, .inl wt)), (m0, .inl (cI, 625, .inl ro)), (m1, .inl (cI, 65, .inl co)), (m12, .inl (cJ, 40625, .inr (.inl wy))), (m3, .inl (cI, 16, .inl mm)), (m13, .inl (cZ, 40625, .inl ir)), (m15, .inl (cZ, 145, .inl en))] [13, 0, 1, 2, 3, 4, 5, 6, 7, 8, 9, 10, 11, 12] (by decide) rfl ?_
      have : ((-2) : Int32).toInt = -2 := by decide
      exact x_iret C dX10_ends_32 (Nat.zero_le _) (Nat.zero_le _) (by rw [eO]; exact ⟨((-2)), tl, op, wy, ir, en, rfl, rfl, trivial⟩)
    · skip
      have e_15 : ¬ ((r_12 : Int32).toInt = (0 : Int32).toInt) := fun h => c_15 (i_eq.mpr h)
      have : (0 : Int32).toInt = 0 := by decide
      refine x_iload_n C 3 dX10_ends_18 rfl rfl ?_
      refine x_i2l C dX10_ends_19 ?_
      refine x_lconst C 1 dX10_ends_20 (by decide) ?_
      refine x_ldc2 C dX10_ends_21 wd_563 ?_
      refine x_callS C [.long (Int32.toInt64 de), .long 1, .long 4] [(m11, .inl (cI, 4, .inl tl)), (m2, .inl (cI, 4, .inl ma)), (m4, .inl (cI, 4, .inl mg)), (m5, .inl (cI, 4, .inl mt)), (m7, .inl (cI, 6, .inl wf)), (m8, .inl (cI, 6, .inl wp)), (m9, .inl (cI, 6, .inl wt)), (m0, .inl (cI, 625, .inl ro)), (m1, .inl (cI, 65, .inl co)), (m12, .inl (cJ, 40625, .inr (.inl wy))), (m3, .inl (cI, 16, .inl mm)), (m13, .inl (cZ, 40625, .inl ir)), (m15, .inl (cZ, 145, .inl en)), (hy, .inr (10, [.ref m0, .ref m1, .ref m2, .ref m3, .ref m4, .ref m5, .ref m6, .ref m7, .ref m8, .ref m9, .int mw, .int ml, .int mb, .ref m10, .int mz, .ref m11, .int op, .int bp, .int by0, .int dp, .int tk, .ref m12, .ref m13, .ref m14, .ref m15, .ref m16, .ref m17, .ref m18, .int ka, .int iw]))] [] [0, 1, 2, 3, 4, 5, 6, 7, 8, 9, 10, 11, 12, 13] (c_X10_in (xl X) (xD X) (xt X) hT (Int32.toInt64 de) 1 4 ) dX10_ends_24 wd_167 wd_168 wd_5 wd_169 (np := 3) ⟨by decide, by decide, by decide +kernel⟩ rfl rfl (Nat.le_of_ble_eq_true rfl) (by decide) rfl (by decide) rfl (by decide) (by decide) (fun v W1 h => ?_)
      obtain ⟨r_24, rfl, rfl, h_24⟩ := h
      have : (Int32.toInt64 de : Int64).toInt = (de : Int32).toInt := Int32.toInt_toInt64 _
      have : (1 : Int64).toInt = 1 := by decide
      have : (4 : Int64).toInt = 4 := by decide
      show V X 7 [(m11, .inl (cI, 4, .inl tl)), (m2, .inl (cI, 4, .inl ma)), (m4, .inl (cI, 4, .inl mg)), (m5, .inl (cI, 4, .inl mt)), (m7, .inl (cI, 6, .inl wf)), (m8, .inl (cI, 6, .inl wp)), (m9, .inl (cI, 6, .inl wt)), (m0, .inl (cI, 625, .inl ro)), (m1, .inl (cI, 65, .inl co)), (m12, .inl (cJ, 40625, .inr (.inl wy))), (m3, .inl (cI, 16, .inl mm)), (m13, .inl (cZ, 40625, .inl ir)), (m15, .inl (cZ, 145, .inl en)), (hy, .inr (10, [.ref m0, .ref m1, .ref m2, .ref m3, .ref m4, .ref m5, .ref m6, .ref m7, .ref m8, .ref m9, .int mw, .int ml, .int mb, .ref m10, .int mz, .ref m11, .int op, .int bp, .int by0, .int dp, .int tk, .ref m12, .ref m13, .ref m14, .ref m15, .ref m16, .ref m17, .ref m18, .int ka, .int iw]))] [(0, .ref hy), (1, .int s), (2, .int se), (3, .int de), (4, .int i)] [.int r_24] 27 0 0
      refine x_if_ne C 33 dX10_ends_27 (by decide) (fun c_27 => ?_) (fun c_27 => ?_)
      · skip
        have e_27 : ¬ ((r_24 : Int32).toInt = (0 : Int32).toInt) := fun h => c_27 (i_eq.mpr h)
        have : (0 : Int32).toInt = 0 := by decide
        refine x_aload_n C 0 dX10_ends_33 rfl rfl ?_
        refine x_iload_n C 2 dX10_ends_34 rfl rfl ?_
        refine x_iload_n C 3 dX10_ends_35 rfl rfl ?_
        refine x_iconst C 0 dX10_ends_36 (by decide) ?_
        refine x_callV C [.int se, .int de, .int 0] [(m3, .inl (cI, 16, .inl mm)), (m13, .inl (cZ, 40625, .inl ir)), (m15, .inl (cZ, 145, .inl en))] [13, 0, 1, 2, 3, 4, 5, 6, 7, 8, 9] [10, 11, 12] (q0 := 0) (c_X10_findWays (xl X) (xD X) (xt X) hT hy m0 m1 m2 m3 m4 m5 m6 m7 m8 m9 m10 m11 m12 m13 m14 m15 m16 m17 m18 tl ma mg mt wf wp wt ro co wy mw ml mb mz op bp by0 dp tk ka iw se de 0 hR hpa hmw hwt) dX10_ends_37 wd_568 wd_569 wd_570 wd_5 wd_571 (np := 3) ⟨by decide, by decide, by decide +kernel⟩ rfl rfl (Nat.le_of_ble_eq_true rfl) (by decide) rfl rfl rfl rfl (by decide) rfl (by decide) (by decide) (fun v W1 h => ?_)
        obtain ⟨tl2_37, op2_37, wy2_37, rfl, rfl, h_37⟩ := h
        have : (0 : Int32).toInt = 0 := by decide
        show V X 7 [(m3, .inl (cI, 16, .inl mm)), (m13, .inl (cZ, 40625, .inl ir)), (m15, .inl (cZ, 145, .inl en)), (hy, .inr (10, [.ref m0, .ref m1, .ref m2, .ref m3, .ref m4, .ref m5, .ref m6, .ref m7, .ref m8, .ref m9, .int mw, .int ml, .int mb, .ref m10, .int mz, .ref m11, .int op2_37, .int bp, .int by0, .int dp, .int tk, .ref m12, .ref m13, .ref m14, .ref m15, .ref m16, .ref m17, .ref m18, .int ka, .int iw])), (m11, .inl (cI, 4, .inl tl2_37)), (m2, .inl (cI, 4, .inl ma)), (m4, .inl (cI, 4, .inl mg)), (m5, .inl (cI, 4, .inl mt)), (m7, .inl (cI, 6, .inl wf)), (m8, .inl (cI, 6, .inl wp)), (m9, .inl (cI, 6, .inl wt)), (m0, .inl (cI, 625, .inl ro)), (m1, .inl (cI, 65, .inl co)), (m12, .inl (cJ, 40625, .inr (.inl wy2_37)))] [(0, .ref hy), (1, .int s), (2, .int se), (3, .int de), (4, .int i)] [] 40 0 0
        refine x_aload_n C 0 dX10_ends_40 rfl rfl ?_
        refine x_iload_n C 2 dX10_ends_41 rfl rfl ?_
        refine x_iload_n C 3 dX10_ends_42 rfl rfl ?_
        refine x_callV C [.int se, .int de] [(m3, .inl (cI, 16, .inl mm)), (m15, .inl (cZ, 145, .inl en)), (m12, .inl (cJ, 40625, .inr (.inl wy2_37)))] [3, 4, 5, 6, 7, 8, 9, 10, 11, 12, 1] [0, 2, 13] (q0 := 0) (c_X10_findReached (xl X) (xD X) (xt X) hT hy m0 m1 m2 m3 m4 m5 m6 m7 m8 m9 m10 m11 m12 m13 m14 m15 m16 m17 m18 tl2_37 ma mg mt wf wp wt ro co ir mw ml mb mz op2_37 bp by0 dp tk ka iw se de hR hpa hmw hwt) dX10_ends_43 wd_689 wd_690 wd_691 wd_5 wd_692 (np := 2) ⟨by decide, by decide, by decide +kernel⟩ rfl rfl (Nat.le_of_ble_eq_true rfl) (by decide) rfl rfl rfl rfl (by decide) rfl (by decide) (by decide) (fun v W1 h => ?_)
        obtain ⟨tl2_43, op2_43, ir2_43, rfl, rfl, h_43⟩ := h
        show V X 7 [(m3, .inl (cI, 16, .inl mm)), (m15, .inl (cZ, 145, .inl en)), (m12, .inl (cJ, 40625, .inr (.inl wy2_37))), (hy, .inr (10, [.ref m0, .ref m1, .ref m2, .ref m3, .ref m4, .ref m5, .ref m6, .ref m7, .ref m8, .ref m9, .int mw, .int ml, .int mb, .ref m10, .int mz, .ref m11, .int op2_43, .int bp, .int by0, .int dp, .int tk, .ref m12, .ref m13, .ref m14, .ref m15, .ref m16, .ref m17, .ref m18, .int ka, .int iw])), (m11, .inl (cI, 4, .inl tl2_43)), (m2, .inl (cI, 4, .inl ma)), (m4, .inl (cI, 4, .inl mg)), (m5, .inl (cI, 4, .inl mt)), (m7, .inl (cI, 6, .inl wf)), (m8, .inl (cI, 6, .inl wp)), (m9, .inl (cI, 6, .inl wt)), (m0, .inl (cI, 625, .inl ro)), (m1, .inl (cI, 65, .inl co)), (m13, .inl (cZ, 40625, .inl ir2_43))] [(0, .ref hy), (1, .int s), (2, .int se), (3, .int de), (4, .int i)] [] 46 0 0
        refine x_iconst C 0 dX10_ends_46 (by decide) ?_
        refine x_istore C [(5, .int 0), (0, .ref hy), (1, .int s), (2, .int se), (3, .int de), (4, .int i)] dX10_ends_47 (by decide) rfl ?_
        have L_49 : ∀ (n_49 : Nat) (x5_49 : Int32) (fm15_49 : Nat → Int32), ((0 ≤ x5_49.toInt ∧ x5_49.toInt ≤ 145)) → ((145 - x5_49.toInt).toNat < n_49) → V X 7 [(m3, .inl (cI, 16, .inl mm)), (m15, .inl (cZ, 145, .inl fm15_49)), (m12, .inl (cJ, 40625, .inr (.inl wy2_37))), (hy, .inr (10, [.ref m0, .ref m1, .ref m2, .ref m3, .ref m4, .ref m5, .ref m6, .ref m7, .ref m8, .ref m9, .int mw, .int ml, .int mb, .ref m10, .int mz, .ref m11, .int op2_43, .int bp, .int by0, .int dp, .int tk, .ref m12, .ref m13, .ref m14, .ref m15, .ref m16, .ref m17, .ref m18, .int ka, .int iw])), (m11, .inl (cI, 4, .inl tl2_43)), (m2, .inl (cI, 4, .inl ma)), (m4, .inl (cI, 4, .inl mg)), (m5, .inl (cI, 4, .inl mt)), (m7, .inl (cI, 6, .inl wf)), (m8, .inl (cI, 6, .inl wp)), (m9, .inl (cI, 6, .inl wt)), (m0, .inl (cI, 625, .inl ro)), (m1, .inl (cI, 65, .inl co)), (m13, .inl (cZ, 40625, .inl ir2_43))] [(5, .int x5_49), (0, .ref hy), (1, .int s), (2, .int se), (3, .int de), (4, .int i)] [] 49 0 0 := by
          intro n_49
          induction n_49 with
          | zero =>
            intro x5_49 fm15_49 i_49 m_49
            exact absurd m_49 (Nat.not_lt_zero _)
          | succ n_49 ih_49 =>
            intro x5_49 fm15_49 i_49 m_49
            refine x_iload C 0 dX10_ends_49 rfl ?_
            refine x_sipush C 144 dX10_ends_51 (by decide) ?_
            refine x_icmp_gt C 71 dX10_ends_54 (by decide) (fun c_54 => ?_) (fun c_54 => ?_)
            · skip
              have e_54 : (144 : Int32).toInt < (x5_49 : Int32).toInt := i_lt.mp c_54
              have : (144 : Int32).toInt = 144 := by decide
              refine x_iconst C 0 dX10_ends_71 (by decide) ?_
              refine x_istore C [(5, .int 0), (0, .ref hy), (1, .int s), (2, .int se), (3, .int de), (4, .int i)] dX10_ends_72 (by decide) rfl ?_
              have L_74 : ∀ (n_74 : Nat) (x5_74 : Int32) (fm15_74 : Nat → Int32) (ghy16_74 : Int32) (fm11_74 : Nat → Int32), ((0 ≤ x5_74.toInt ∧ x5_74.toInt ≤ 40625)) → ((40625 - x5_74.toInt).toNat < n_74) → V X 7 [(m3, .inl (cI, 16, .inl mm)), (m15, .inl (cZ, 145, .inl fm15_74)), (m12, .inl (cJ, 40625, .inr (.inl wy2_37))), (hy, .inr (10, [.ref m0, .ref m1, .ref m2, .ref m3, .ref m4, .ref m5, .ref m6, .ref m7, .ref m8, .ref m9, .int mw, .int ml, .int mb, .ref m10, .int mz, .ref m11, .int ghy16_74, .int bp, .int by0, .int dp, .int tk, .ref m12, .ref m13, .ref m14, .ref m15, .ref m16, .ref m17, .ref m18, .int ka, .int iw])), (m11, .inl (cI, 4, .inl fm11_74)), (m2, .inl (cI, 4, .inl ma)), (m4, .inl (cI, 4, .inl mg)), (m5, .inl (cI, 4, .inl mt)), (m7, .inl (cI, 6, .inl wf)), (m8, .inl (cI, 6, .inl wp)), (m9, .inl (cI, 6, .inl wt)), (m0, .inl (cI, 625, .inl ro)), (m1, .inl (cI, 65, .inl co)), (m13, .inl (cZ, 40625, .inl ir2_43))] [(5, .int x5_74), (0, .ref hy), (1, .int s), (2, .int se), (3, .int de), (4, .int i)] [] 74 0 0 := by
                intro n_74
                induction n_74 with
                | zero =>
                  intro x5_74 fm15_74 ghy16_74 fm11_74 i_74 m_74
                  exact absurd m_74 (Nat.not_lt_zero _)
                | succ n_74 ih_74 =>
                  intro x5_74 fm15_74 ghy16_74 fm11_74 i_74 m_74
                  refine x_iload C 0 dX10_ends_74 rfl ?_
                  refine x_ldc C dX10_ends_76 wd_134 ?_
                  refine x_icmp_ge C 165 dX10_ends_78 (by decide) (fun c_78 => ?_) (fun c_78 => ?_)
                  · skip
                    have e_78 : (40625 : Int32).toInt ≤ (x5_74 : Int32).toInt := i_le.mp c_78
                    have : (40625 : Int32).toInt = 40625 := by decide
                    refine x_iconst C 0 dX10_ends_165 (by decide) ?_
                    refine x_istore C [(5, .int 0), (0, .ref hy), (1, .int s), (2, .int se), (3, .int de), (4, .int i)] dX10_ends_166 (by decide) rfl ?_
                    refine x_iconst C 0 dX10_ends_168 (by decide) ?_
                    refine x_istore C [(6, .int 0), (5, .int 0), (0, .ref hy), (1, .int s), (2, .int se), (3, .int de), (4, .int i)] dX10_ends_169 (by decide) rfl ?_
                    have L_171 : ∀ (n_171 : Nat) (x6_171 : Int32) (x5_171 : Int32), ((0 ≤ x6_171.toInt ∧ x6_171.toInt ≤ 145)) → ((145 - x6_171.toInt).toNat < n_171) → V X 7 [(m3, .inl (cI, 16, .inl mm)), (m15, .inl (cZ, 145, .inl fm15_74)), (m12, .inl (cJ, 40625, .inr (.inl wy2_37))), (hy, .inr (10, [.ref m0, .ref m1, .ref m2, .ref m3, .ref m4, .ref m5, .ref m6, .ref m7, .ref m8, .ref m9, .int mw, .int ml, .int mb, .ref m10, .int mz, .ref m11, .int ghy16_74, .int bp, .int by0, .int dp, .int tk, .ref m12, .ref m13, .ref m14, .ref m15, .ref m16, .ref m17, .ref m18, .int ka, .int iw])), (m11, .inl (cI, 4, .inl fm11_74)), (m2, .inl (cI, 4, .inl ma)), (m4, .inl (cI, 4, .inl mg)), (m5, .inl (cI, 4, .inl mt)), (m7, .inl (cI, 6, .inl wf)), (m8, .inl (cI, 6, .inl wp)), (m9, .inl (cI, 6, .inl wt)), (m0, .inl (cI, 625, .inl ro)), (m1, .inl (cI, 65, .inl co)), (m13, .inl (cZ, 40625, .inl ir2_43))] [(6, .int x6_171), (5, .int x5_171), (0, .ref hy), (1, .int s), (2, .int se), (3, .int de), (4, .int i)] [] 171 0 0 := by
                      intro n_171
                      induction n_171 with
                      | zero =>
                        intro x6_171 x5_171 i_171 m_171
                        exact absurd m_171 (Nat.not_lt_zero _)
                      | succ n_171 ih_171 =>
                        intro x6_171 x5_171 i_171 m_171
                        refine x_iload C 0 dX10_ends_171 rfl ?_
                        refine x_sipush C 144 dX10_ends_173 (by decide) ?_
                        refine x_icmp_gt C 208 dX10_ends_176 (by decide) (fun c_176 => ?_) (fun c_176 => ?_)
                        · skip
                          have e_176 : (144 : Int32).toInt < (x6_171 : Int32).toInt := i_lt.mp c_176
                          have : (144 : Int32).toInt = 144 := by decide
                          refine x_iload C 6 dX10_ends_208 rfl ?_
                          refine x_iconst C (-1) dX10_ends_210 (by decide) ?_
                          refine x_icmp_ne C 219 dX10_ends_211 (by decide) (fun c_211 => ?_) (fun c_211 => ?_)
                          · skip
                            have e_211 : ¬ ((i : Int32).toInt = ((-1) : Int32).toInt) := fun h => c_211 (i_eq.mpr h)
                            have : ((-1) : Int32).toInt = -1 := by decide
                            refine x_bipush C (-6) dX10_ends_219 (by decide) ?_
                            refine x_sub [(hy, .inr (10, [.ref m0, .ref m1, .ref m2, .ref m3, .ref m4, .ref m5, .ref m6, .ref m7, .ref m8, .ref m9, .int mw, .int ml, .int mb, .ref m10, .int mz, .ref m11, .int ghy16_74, .int bp, .int by0, .int dp, .int tk, .ref m12, .ref m13, .ref m14, .ref m15, .ref m16, .ref m17, .ref m18, .int ka, .int iw])), (m11, .inl (cI, 4, .inl fm11_74)), (m2, .inl (cI, 4, .inl ma)), (m4, .inl (cI, 4, .inl mg)), (m5, .inl (cI, 4, .inl mt)), (m7, .inl (cI, 6, .inl wf)), (m8, .inl (cI, 6, .inl wp)), (m9, .inl (cI, 6, .inl wt)), (m0, .inl (cI, 625, .inl ro)), (m1, .inl (cI, 65, .inl co)), (m12, .inl (cJ, 40625, .inr (.inl wy2_37))), (m3, .inl (cI, 16, .inl mm)), (m13, .inl (cZ, 40625, .inl ir2_43)), (m15, .inl (cZ, 145, .inl fm15_74))] [3, 4, 5, 6, 7, 8, 9, 10, 11, 12, 2, 0, 13, 1] (by decide) rfl ?_
                            have : ((-6) : Int32).toInt = -6 := by decide
                            exact x_iret C dX10_ends_221 (Nat.zero_le _) (Nat.zero_le _) (by rw [eO]; exact ⟨((-6)), fm11_74, ghy16_74, wy2_37, ir2_43, fm15_74, rfl, rfl, trivial⟩)
                          · skip
                            have e_211 : (i : Int32).toInt = ((-1) : Int32).toInt := i_eq.mp c_211
                            have : ((-1) : Int32).toInt = -1 := by decide
                            refine x_iload C 1 dX10_ends_214 rfl ?_
                            refine x_goto C 221 dX10_ends_216 (by decide) ?_
                            refine x_sub [(hy, .inr (10, [.ref m0, .ref m1, .ref m2, .ref m3, .ref m4, .ref m5, .ref m6, .ref m7, .ref m8, .ref m9, .int mw, .int ml, .int mb, .ref m10, .int mz, .ref m11, .int ghy16_74, .int bp, .int by0, .int dp, .int tk, .ref m12, .ref m13, .ref m14, .ref m15, .ref m16, .ref m17, .ref m18, .int ka, .int iw])), (m11, .inl (cI, 4, .inl fm11_74)), (m2, .inl (cI, 4, .inl ma)), (m4, .inl (cI, 4, .inl mg)), (m5, .inl (cI, 4, .inl mt)), (m7, .inl (cI, 6, .inl wf)), (m8, .inl (cI, 6, .inl wp)), (m9, .inl (cI, 6, .inl wt)), (m0, .inl (cI, 625, .inl ro)), (m1, .inl (cI, 65, .inl co)), (m12, .inl (cJ, 40625, .inr (.inl wy2_37))), (m3, .inl (cI, 16, .inl mm)), (m13, .inl (cZ, 40625, .inl ir2_43)), (m15, .inl (cZ, 145, .inl fm15_74))] [3, 4, 5, 6, 7, 8, 9, 10, 11, 12, 2, 0, 13, 1] (by decide) rfl ?_
                            exact x_iret C dX10_ends_221 (Nat.zero_le _) (Nat.zero_le _) (by rw [eO]; exact ⟨x5_171, fm11_74, ghy16_74, wy2_37, ir2_43, fm15_74, rfl, rfl, trivial⟩)
                        · skip
                          have e_176 : ¬ ((144 : Int32).toInt < (x6_171 : Int32).toInt) := fun h => c_176 (i_lt.mpr h)
                          have : (144 : Int32).toInt = 144 := by decide
                          refine x_aload_n C 2 dX10_ends_179 rfl rfl ?_
                          refine x_get C 3 24 dX10_ends_180 inlX10 rfl (by decide) wd_139 rfl rfl rfl ?_
                          refine x_iload C 0 dX10_ends_183 rfl ?_
                          have v_185 : vp_in x6_171 145 := (vp_in_iff.mpr (by omega))
                          refine x_zald C 1 2 dX10_ends_185 hT.2.2.1 rfl v_185 ?_
                          refine x_if_eq C 202 dX10_ends_186 (by decide) (fun c_186 => ?_) (fun c_186 => ?_)
                          · skip
                            have e_186 : (fm15_74 (Int32.toNatClampNeg x6_171) : Int32).toInt = (0 : Int32).toInt := i_eq.mp c_186
                            have : (0 : Int32).toInt = 0 := by decide
                            refine x_iinc C 0 (x6_171 + 1) [(6, .int (x6_171 + 1)), (5, .int x5_171), (0, .ref hy), (1, .int s), (2, .int se), (3, .int de), (4, .int i)] dX10_ends_202 rfl rfl (by decide) rfl ?_
                            refine x_goto C 171 dX10_ends_205 (by decide) ?_
                            have : (1 : Int32).toInt = 1 := by decide
                            have := i_add (x := x6_171) (y := 1) (by omega) (by omega)
                            exact ih_171 (x6_171 + 1) x5_171 (by omega) (by omega)
                          · skip
                            have e_186 : ¬ ((fm15_74 (Int32.toNatClampNeg x6_171) : Int32).toInt = (0 : Int32).toInt) := fun h => c_186 (i_eq.mpr h)
                            have : (0 : Int32).toInt = 0 := by decide
                            refine x_iload C 1 dX10_ends_189 rfl ?_
                            refine x_iload C 6 dX10_ends_191 rfl ?_
                            refine x_icmp_ne C 199 dX10_ends_193 (by decide) (fun c_193 => ?_) (fun c_193 => ?_)
                            · skip
                              have e_193 : ¬ ((x5_171 : Int32).toInt = (i : Int32).toInt) := fun h => c_193 (i_eq.mpr h)
                              refine x_iinc C 1 (x5_171 + 1) [(5, .int (x5_171 + 1)), (6, .int x6_171), (0, .ref hy), (1, .int s), (2, .int se), (3, .int de), (4, .int i)] dX10_ends_199 rfl rfl (by decide) rfl ?_
                              refine x_iinc C 1 (x6_171 + 1) [(6, .int (x6_171 + 1)), (5, .int (x5_171 + 1)), (0, .ref hy), (1, .int s), (2, .int se), (3, .int de), (4, .int i)] dX10_ends_202 rfl rfl (by decide) rfl ?_
                              refine x_goto C 171 dX10_ends_205 (by decide) ?_
                              have : (1 : Int32).toInt = 1 := by decide
                              have := i_add (x := x6_171) (y := 1) (by omega) (by omega)
                              exact ih_171 (x6_171 + 1) (x5_171 + 1) (by omega) (by omega)
                            · skip
                              have e_193 : (x5_171 : Int32).toInt = (i : Int32).toInt := i_eq.mp c_193
                              refine x_iload C 0 dX10_ends_196 rfl ?_
                              refine x_sub [(hy, .inr (10, [.ref m0, .ref m1, .ref m2, .ref m3, .ref m4, .ref m5, .ref m6, .ref m7, .ref m8, .ref m9, .int mw, .int ml, .int mb, .ref m10, .int mz, .ref m11, .int ghy16_74, .int bp, .int by0, .int dp, .int tk, .ref m12, .ref m13, .ref m14, .ref m15, .ref m16, .ref m17, .ref m18, .int ka, .int iw])), (m11, .inl (cI, 4, .inl fm11_74)), (m2, .inl (cI, 4, .inl ma)), (m4, .inl (cI, 4, .inl mg)), (m5, .inl (cI, 4, .inl mt)), (m7, .inl (cI, 6, .inl wf)), (m8, .inl (cI, 6, .inl wp)), (m9, .inl (cI, 6, .inl wt)), (m0, .inl (cI, 625, .inl ro)), (m1, .inl (cI, 65, .inl co)), (m12, .inl (cJ, 40625, .inr (.inl wy2_37))), (m3, .inl (cI, 16, .inl mm)), (m13, .inl (cZ, 40625, .inl ir2_43)), (m15, .inl (cZ, 145, .inl fm15_74))] [3, 4, 5, 6, 7, 8, 9, 10, 11, 12, 2, 0, 13, 1] (by decide) rfl ?_
                              exact x_iret C dX10_ends_198 (Nat.zero_le _) (Nat.zero_le _) (by rw [eO]; exact ⟨x6_171, fm11_74, ghy16_74, wy2_37, ir2_43, fm15_74, rfl, rfl, trivial⟩)
                    have : (0 : Int32).toInt = 0 := by decide
                    exact L_171 _ 0 0 (by omega) (Nat.lt_succ_self _)
                  · skip
                    have e_78 : ¬ ((40625 : Int32).toInt ≤ (x5_74 : Int32).toInt) := fun h => c_78 (i_le.mpr h)
                    have : (40625 : Int32).toInt = 40625 := by decide
                    refine x_aload_n C 1 dX10_ends_81 rfl rfl ?_
                    refine x_iload C 0 dX10_ends_82 rfl ?_
                    refine x_callV C [.int x5_74] [(m3, .inl (cI, 16, .inl mm)), (m15, .inl (cZ, 145, .inl fm15_74)), (m12, .inl (cJ, 40625, .inr (.inl wy2_37))), (m2, .inl (cI, 4, .inl ma)), (m4, .inl (cI, 4, .inl mg)), (m5, .inl (cI, 4, .inl mt)), (m7, .inl (cI, 6, .inl wf)), (m8, .inl (cI, 6, .inl wp)), (m9, .inl (cI, 6, .inl wt)), (m0, .inl (cI, 625, .inl ro)), (m13, .inl (cZ, 40625, .inl ir2_43))] [3, 4, 12] [0, 1, 2, 5, 6, 7, 8, 9, 10, 11, 13] (q0 := 0) (c_X10_lay (xl X) (xD X) (xt X) hT hy m0 m1 m2 m3 m4 m5 m6 m7 m8 m9 m10 m11 m12 m13 m14 m15 m16 m17 m18 fm11_74 co mw ml mb mz ghy16_74 bp by0 dp tk ka iw x5_74 (by omega)) dX10_ends_84 wd_430 wd_431 wd_432 wd_5 wd_433 (np := 1) ⟨by decide, by decide, by decide +kernel⟩ rfl rfl (Nat.le_of_ble_eq_true rfl) (by decide) rfl rfl rfl rfl (by decide) rfl (by decide) (by decide) (fun v W1 h => ?_)
                    obtain ⟨_, rfl, rfl, h_84⟩ := h
                    show V X 7 [(m3, .inl (cI, 16, .inl mm)), (m15, .inl (cZ, 145, .inl fm15_74)), (m12, .inl (cJ, 40625, .inr (.inl wy2_37))), (m2, .inl (cI, 4, .inl ma)), (m4, .inl (cI, 4, .inl mg)), (m5, .inl (cI, 4, .inl mt)), (m7, .inl (cI, 6, .inl wf)), (m8, .inl (cI, 6, .inl wp)), (m9, .inl (cI, 6, .inl wt)), (m0, .inl (cI, 625, .inl ro)), (m13, .inl (cZ, 40625, .inl ir2_43)), (hy, .inr (10, [.ref m0, .ref m1, .ref m2, .ref m3, .ref m4, .ref m5, .ref m6, .ref m7, .ref m8, .ref m9, .int mw, .int ml, .int mb, .ref m10, .int mz, .ref m11, .int (opS co x5_74), .int bp, .int by0, .int dp, .int tk, .ref m12, .ref m13, .ref m14, .ref m15, .ref m16, .ref m17, .ref m18, .int ka, .int iw])), (m11, .inl (cI, 4, .inl (tds x5_74))), (m1, .inl (cI, 65, .inl co))] [(5, .int x5_74), (0, .ref hy), (1, .int s), (2, .int se), (3, .int de), (4, .int i)] [] 87 0 0
                    refine x_aload_n C 1 dX10_ends_87 rfl rfl ?_
                    refine x_get C 11 22 dX10_ends_88 inlX10 rfl (by decide) wd_136 rfl rfl rfl ?_
                    refine x_iload C 0 dX10_ends_91 rfl ?_
                    have v_93 : vp_in x5_74 40625 := (vp_in_iff.mpr (by omega))
                    refine x_zald C 10 2 dX10_ends_93 hT.2.2.1 rfl v_93 ?_
                    refine x_if_eq C 159 dX10_ends_94 (by decide) (fun c_94 => ?_) (fun c_94 => ?_)
                    · skip
                      have e_94 : (ir2_43 (Int32.toNatClampNeg x5_74) : Int32).toInt = (0 : Int32).toInt := i_eq.mp c_94
                      have : (0 : Int32).toInt = 0 := by decide
                      refine x_iinc C 0 (x5_74 + 1) [(5, .int (x5_74 + 1)), (0, .ref hy), (1, .int s), (2, .int se), (3, .int de), (4, .int i)] dX10_ends_159 rfl rfl (by decide) rfl ?_
                      refine x_goto C 74 dX10_ends_162 (by decide) ?_
                      refine x_sub [(m3, .inl (cI, 16, .inl mm)), (m15, .inl (cZ, 145, .inl fm15_74)), (m12, .inl (cJ, 40625, .inr (.inl wy2_37))), (hy, .inr (10, [.ref m0, .ref m1, .ref m2, .ref m3, .ref m4, .ref m5, .ref m6, .ref m7, .ref m8, .ref m9, .int mw, .int ml, .int mb, .ref m10, .int mz, .ref m11, .int (opS co x5_74), .int bp, .int by0, .int dp, .int tk, .ref m12, .ref m13, .ref m14, .ref m15, .ref m16, .ref m17, .ref m18, .int ka, .int iw])), (m11, .inl (cI, 4, .inl (tds x5_74))), (m2, .inl (cI, 4, .inl ma)), (m4, .inl (cI, 4, .inl mg)), (m5, .inl (cI, 4, .inl mt)), (m7, .inl (cI, 6, .inl wf)), (m8, .inl (cI, 6, .inl wp)), (m9, .inl (cI, 6, .inl wt)), (m0, .inl (cI, 625, .inl ro)), (m1, .inl (cI, 65, .inl co)), (m13, .inl (cZ, 40625, .inl ir2_43))] [0, 1, 2, 11, 12, 3, 4, 5, 6, 7, 8, 9, 13, 10] (by decide) rfl ?_
                      have : (1 : Int32).toInt = 1 := by decide
                      have := i_add (x := x5_74) (y := 1) (by omega) (by omega)
                      exact ih_74 (x5_74 + 1) fm15_74 (opS co x5_74) (tds x5_74) (by omega) (by omega)
                    · skip
                      have e_94 : ¬ ((ir2_43 (Int32.toNatClampNeg x5_74) : Int32).toInt = (0 : Int32).toInt) := fun h => c_94 (i_eq.mpr h)
                      have : (0 : Int32).toInt = 0 := by decide
                      have g9 := h_43 x5_74 (by omega) (by omega) (by omega)
                      refine x_aload_n C 1 dX10_ends_97 rfl rfl ?_
                      refine x_get C 11 15 dX10_ends_98 inlX10 rfl (by decide) wd_133 rfl rfl rfl ?_
                      refine x_iload_n C 2 dX10_ends_101 rfl rfl ?_
                      have v_102 : vp_in s 4 := (vp_in_iff.mpr (by omega))
                      refine x_iald C 12 0 dX10_ends_102 hT.1 rfl v_102 ?_
                      refine x_aload_n C 1 dX10_ends_103 rfl rfl ?_
                      refine x_get C 11 2 dX10_ends_104 inlX10 rfl (by decide) wd_124 rfl rfl rfl ?_
                      refine x_iload_n C 2 dX10_ends_107 rfl rfl ?_
                      have v_108 : vp_in s 4 := (vp_in_iff.mpr (by omega))
                      refine x_iald C 3 0 dX10_ends_108 hT.1 rfl v_108 ?_
                      refine x_iconst C 1 dX10_ends_109 (by decide) ?_
                      refine x_isub C dX10_ends_110 ?_
                      refine x_icmp_ne C 159 dX10_ends_111 (by decide) (fun c_111 => ?_) (fun c_111 => ?_)
                      · skip
                        have e_111 : ¬ (((tds x5_74) (Int32.toNatClampNeg s) : Int32).toInt = ((ma (Int32.toNatClampNeg s)) - 1 : Int32).toInt) := fun h => c_111 (i_eq.mpr h)
                        refine x_iinc C 0 (x5_74 + 1) [(5, .int (x5_74 + 1)), (0, .ref hy), (1, .int s), (2, .int se), (3, .int de), (4, .int i)] dX10_ends_159 rfl rfl (by decide) rfl ?_
                        refine x_goto C 74 dX10_ends_162 (by decide) ?_
                        refine x_sub [(m3, .inl (cI, 16, .inl mm)), (m15, .inl (cZ, 145, .inl fm15_74)), (m12, .inl (cJ, 40625, .inr (.inl wy2_37))), (hy, .inr (10, [.ref m0, .ref m1, .ref m2, .ref m3, .ref m4, .ref m5, .ref m6, .ref m7, .ref m8, .ref m9, .int mw, .int ml, .int mb, .ref m10, .int mz, .ref m11, .int (opS co x5_74), .int bp, .int by0, .int dp, .int tk, .ref m12, .ref m13, .ref m14, .ref m15, .ref m16, .ref m17, .ref m18, .int ka, .int iw])), (m11, .inl (cI, 4, .inl (tds x5_74))), (m2, .inl (cI, 4, .inl ma)), (m4, .inl (cI, 4, .inl mg)), (m5, .inl (cI, 4, .inl mt)), (m7, .inl (cI, 6, .inl wf)), (m8, .inl (cI, 6, .inl wp)), (m9, .inl (cI, 6, .inl wt)), (m0, .inl (cI, 625, .inl ro)), (m1, .inl (cI, 65, .inl co)), (m13, .inl (cZ, 40625, .inl ir2_43))] [0, 1, 2, 11, 12, 3, 4, 5, 6, 7, 8, 9, 13, 10] (by decide) rfl ?_
                        have : (1 : Int32).toInt = 1 := by decide
                        have := i_add (x := x5_74) (y := 1) (by omega) (by omega)
                        exact ih_74 (x5_74 + 1) fm15_74 (opS co x5_74) (tds x5_74) (by omega) (by omega)
                      · skip
                        have e_111 : ((tds x5_74) (Int32.toNatClampNeg s) : Int32).toInt = ((ma (Int32.toNatClampNeg s)) - 1 : Int32).toInt := i_eq.mp c_111
                        refine x_aload_n C 1 dX10_ends_114 rfl rfl ?_
                        refine x_iload C 0 dX10_ends_115 rfl ?_
                        refine x_iload_n C 2 dX10_ends_117 rfl rfl ?_
                        refine x_iload_n C 3 dX10_ends_118 rfl rfl ?_
                        refine x_iload_n C 4 dX10_ends_119 rfl rfl ?_
                        refine x_iconst C 0 dX10_ends_120 (by decide) ?_
                        refine x_callV C [.int x5_74, .int s, .int se, .int de, .int 0] [(m3, .inl (cI, 16, .inl mm)), (m15, .inl (cZ, 145, .inl fm15_74)), (m12, .inl (cJ, 40625, .inr (.inl wy2_37))), (m13, .inl (cZ, 40625, .inl ir2_43))] [11, 12, 3, 4, 5, 6, 7, 8, 9, 13] [0, 1, 2, 10] (q0 := 0) (c_X10_nextOf (xl X) (xD X) (xt X) hT hy m0 m1 m2 m3 m4 m5 m6 m7 m8 m9 m10 m11 m12 m13 m14 m15 m16 m17 m18 (tds x5_74) ma mg mt wf wp wt ro co mw ml mb mz (opS co x5_74) bp by0 dp tk ka iw x5_74 s se de 0 (by omega) hR g9 (by omega) hmw hwt) dX10_ends_121 wd_587 wd_588 wd_589 wd_5 wd_590 (np := 5) ⟨by decide, by decide, by decide +kernel⟩ rfl rfl (Nat.le_of_ble_eq_true rfl) (by decide) rfl rfl rfl rfl (by decide) rfl (by decide) (by decide) (fun v W1 h => ?_)
                        obtain ⟨tl2_121, op2_121, rfl, rfl, h_121⟩ := h
                        have : (0 : Int32).toInt = 0 := by decide
                        show V X 7 [(m3, .inl (cI, 16, .inl mm)), (m15, .inl (cZ, 145, .inl fm15_74)), (m12, .inl (cJ, 40625, .inr (.inl wy2_37))), (m13, .inl (cZ, 40625, .inl ir2_43)), (hy, .inr (10, [.ref m0, .ref m1, .ref m2, .ref m3, .ref m4, .ref m5, .ref m6, .ref m7, .ref m8, .ref m9, .int mw, .int ml, .int mb, .ref m10, .int mz, .ref m11, .int op2_121, .int bp, .int by0, .int dp, .int tk, .ref m12, .ref m13, .ref m14, .ref m15, .ref m16, .ref m17, .ref m18, .int ka, .int iw])), (m11, .inl (cI, 4, .inl tl2_121)), (m2, .inl (cI, 4, .inl ma)), (m4, .inl (cI, 4, .inl mg)), (m5, .inl (cI, 4, .inl mt)), (m7, .inl (cI, 6, .inl wf)), (m8, .inl (cI, 6, .inl wp)), (m9, .inl (cI, 6, .inl wt)), (m0, .inl (cI, 625, .inl ro)), (m1, .inl (cI, 65, .inl co))] [(5, .int x5_74), (0, .ref hy), (1, .int s), (2, .int se), (3, .int de), (4, .int i)] [.int (nxF ma mg mt wf wp wt mw ml co ro x5_74 s se de 0)] 124 0 0
                        refine x_istore C [(6, .int (nxF ma mg mt wf wp wt mw ml co ro x5_74 s se de 0)), (5, .int x5_74), (0, .ref hy), (1, .int s), (2, .int se), (3, .int de), (4, .int i)] dX10_ends_124 (by decide) rfl ?_
                        refine x_iload C 0 dX10_ends_126 rfl ?_
                        refine x_if_lt C 159 dX10_ends_128 (by decide) (fun c_128 => ?_) (fun c_128 => ?_)
                        · skip
                          have e_128 : (nxF ma mg mt wf wp wt mw ml co ro x5_74 s se de 0 : Int32).toInt < (0 : Int32).toInt := i_lt.mp c_128
                          have : (0 : Int32).toInt = 0 := by decide
                          refine x_iinc C 1 (x5_74 + 1) [(5, .int (x5_74 + 1)), (6, .int (nxF ma mg mt wf wp wt mw ml co ro x5_74 s se de 0)), (0, .ref hy), (1, .int s), (2, .int se), (3, .int de), (4, .int i)] dX10_ends_159 rfl rfl (by decide) rfl ?_
                          refine x_goto C 74 dX10_ends_162 (by decide) ?_
                          refine x_sub [(m3, .inl (cI, 16, .inl mm)), (m15, .inl (cZ, 145, .inl fm15_74)), (m12, .inl (cJ, 40625, .inr (.inl wy2_37))), (hy, .inr (10, [.ref m0, .ref m1, .ref m2, .ref m3, .ref m4, .ref m5, .ref m6, .ref m7, .ref m8, .ref m9, .int mw, .int ml, .int mb, .ref m10, .int mz, .ref m11, .int op2_121, .int bp, .int by0, .int dp, .int tk, .ref m12, .ref m13, .ref m14, .ref m15, .ref m16, .ref m17, .ref m18, .int ka, .int iw])), (m11, .inl (cI, 4, .inl tl2_121)), (m2, .inl (cI, 4, .inl ma)), (m4, .inl (cI, 4, .inl mg)), (m5, .inl (cI, 4, .inl mt)), (m7, .inl (cI, 6, .inl wf)), (m8, .inl (cI, 6, .inl wp)), (m9, .inl (cI, 6, .inl wt)), (m0, .inl (cI, 625, .inl ro)), (m1, .inl (cI, 65, .inl co)), (m13, .inl (cZ, 40625, .inl ir2_43))] [0, 1, 2, 4, 5, 6, 7, 8, 9, 10, 11, 12, 13, 3] (by decide) rfl ?_
                          refine x_lv [(5, .int (x5_74 + 1)), (0, .ref hy), (1, .int s), (2, .int se), (3, .int de), (4, .int i)] [0, 2, 3, 4, 5, 6] rfl ?_
                          have : (1 : Int32).toInt = 1 := by decide
                          have := i_add (x := x5_74) (y := 1) (by omega) (by omega)
                          exact ih_74 (x5_74 + 1) fm15_74 op2_121 tl2_121 (by omega) (by omega)
                        · skip
                          have e_128 : ¬ ((nxF ma mg mt wf wp wt mw ml co ro x5_74 s se de 0 : Int32).toInt < (0 : Int32).toInt) := fun h => c_128 (i_lt.mpr h)
                          have : (0 : Int32).toInt = 0 := by decide
                          have n9 := nx_ok hR (by omega) g9 (by omega) (nl0 e_128)
                          refine x_aload_n C 2 dX10_ends_131 rfl rfl ?_
                          refine x_get C 4 21 dX10_ends_132 inlX10 rfl (by decide) wd_135 rfl rfl rfl ?_
                          refine x_iload C 0 dX10_ends_135 rfl ?_
                          have v_137 : vp_in (nxF ma mg mt wf wp wt mw ml co ro x5_74 s se de 0) 40625 := (vp_in_iff.mpr (by omega))
                          refine x_lald C 2 1 dX10_ends_137 hT.2.1 rfl v_137 ?_
                          refine x_lconst C 0 dX10_ends_138 (by decide) ?_
                          refine x_lcmp C dX10_ends_139 ?_
                          refine x_if_le C 159 dX10_ends_140 (by decide) (fun c_140 => ?_) (fun c_140 => ?_)
                          · skip
                            have e_140 : ((wy2_37 (Int32.toNatClampNeg (nxF ma mg mt wf wp wt mw ml co ro x5_74 s se de 0))) : Int64).toInt ≤ (0 : Int64).toInt := lc_le.mp c_140
                            have : (0 : Int64).toInt = 0 := by decide
                            refine x_iinc C 1 (x5_74 + 1) [(5, .int (x5_74 + 1)), (6, .int (nxF ma mg mt wf wp wt mw ml co ro x5_74 s se de 0)), (0, .ref hy), (1, .int s), (2, .int se), (3, .int de), (4, .int i)] dX10_ends_159 rfl rfl (by decide) rfl ?_
                            refine x_goto C 74 dX10_ends_162 (by decide) ?_
                            refine x_sub [(m3, .inl (cI, 16, .inl mm)), (m15, .inl (cZ, 145, .inl fm15_74)), (m12, .inl (cJ, 40625, .inr (.inl wy2_37))), (hy, .inr (10, [.ref m0, .ref m1, .ref m2, .ref m3, .ref m4, .ref m5, .ref m6, .ref m7, .ref m8, .ref m9, .int mw, .int ml, .int mb, .ref m10, .int mz, .ref m11, .int op2_121, .int bp, .int by0, .int dp, .int tk, .ref m12, .ref m13, .ref m14, .ref m15, .ref m16, .ref m17, .ref m18, .int ka, .int iw])), (m11, .inl (cI, 4, .inl tl2_121)), (m2, .inl (cI, 4, .inl ma)), (m4, .inl (cI, 4, .inl mg)), (m5, .inl (cI, 4, .inl mt)), (m7, .inl (cI, 6, .inl wf)), (m8, .inl (cI, 6, .inl wp)), (m9, .inl (cI, 6, .inl wt)), (m0, .inl (cI, 625, .inl ro)), (m1, .inl (cI, 65, .inl co)), (m13, .inl (cZ, 40625, .inl ir2_43))] [0, 1, 2, 4, 5, 6, 7, 8, 9, 10, 11, 12, 13, 3] (by decide) rfl ?_
                            refine x_lv [(5, .int (x5_74 + 1)), (0, .ref hy), (1, .int s), (2, .int se), (3, .int de), (4, .int i)] [0, 2, 3, 4, 5, 6] rfl ?_
                            have : (1 : Int32).toInt = 1 := by decide
                            have := i_add (x := x5_74) (y := 1) (by omega) (by omega)
                            exact ih_74 (x5_74 + 1) fm15_74 op2_121 tl2_121 (by omega) (by omega)
                          · skip
                            have e_140 : ¬ (((wy2_37 (Int32.toNatClampNeg (nxF ma mg mt wf wp wt mw ml co ro x5_74 s se de 0))) : Int64).toInt ≤ (0 : Int64).toInt) := fun h => c_140 (lc_le.mpr h)
                            have : (0 : Int64).toInt = 0 := by decide
                            refine x_aload_n C 2 dX10_ends_143 rfl rfl ?_
                            refine x_iload C 0 dX10_ends_144 rfl ?_
                            refine x_callV C [.int (nxF ma mg mt wf wp wt mw ml co ro x5_74 s se de 0)] [(m3, .inl (cI, 16, .inl mm)), (m15, .inl (cZ, 145, .inl fm15_74)), (m12, .inl (cJ, 40625, .inr (.inl wy2_37))), (m13, .inl (cZ, 40625, .inl ir2_43)), (m2, .inl (cI, 4, .inl ma)), (m4, .inl (cI, 4, .inl mg)), (m5, .inl (cI, 4, .inl mt)), (m7, .inl (cI, 6, .inl wf)), (m8, .inl (cI, 6, .inl wp)), (m9, .inl (cI, 6, .inl wt)), (m0, .inl (cI, 625, .inl ro))] [4, 5, 13] [0, 1, 2, 3, 6, 7, 8, 9, 10, 11, 12] (q0 := 0) (c_X10_lay (xl X) (xD X) (xt X) hT hy m0 m1 m2 m3 m4 m5 m6 m7 m8 m9 m10 m11 m12 m13 m14 m15 m16 m17 m18 tl2_121 co mw ml mb mz op2_121 bp by0 dp tk ka iw (nxF ma mg mt wf wp wt mw ml co ro x5_74 s se de 0) (by omega)) dX10_ends_146 wd_430 wd_431 wd_432 wd_5 wd_433 (np := 1) ⟨by decide, by decide, by decide +kernel⟩ rfl rfl (Nat.le_of_ble_eq_true rfl) (by decide) rfl rfl rfl rfl (by decide) rfl (by decide) (by decide) (fun v W1 h => ?_)
                            obtain ⟨_, rfl, rfl, h_146⟩ := h
                            show V X 7 [(m3, .inl (cI, 16, .inl mm)), (m15, .inl (cZ, 145, .inl fm15_74)), (m12, .inl (cJ, 40625, .inr (.inl wy2_37))), (m13, .inl (cZ, 40625, .inl ir2_43)), (m2, .inl (cI, 4, .inl ma)), (m4, .inl (cI, 4, .inl mg)), (m5, .inl (cI, 4, .inl mt)), (m7, .inl (cI, 6, .inl wf)), (m8, .inl (cI, 6, .inl wp)), (m9, .inl (cI, 6, .inl wt)), (m0, .inl (cI, 625, .inl ro)), (hy, .inr (10, [.ref m0, .ref m1, .ref m2, .ref m3, .ref m4, .ref m5, .ref m6, .ref m7, .ref m8, .ref m9, .int mw, .int ml, .int mb, .ref m10, .int mz, .ref m11, .int (opS co (nxF ma mg mt wf wp wt mw ml co ro x5_74 s se de 0)), .int bp, .int by0, .int dp, .int tk, .ref m12, .ref m13, .ref m14, .ref m15, .ref m16, .ref m17, .ref m18, .int ka, .int iw])), (m11, .inl (cI, 4, .inl (tds (nxF ma mg mt wf wp wt mw ml co ro x5_74 s se de 0)))), (m1, .inl (cI, 65, .inl co))] [(6, .int (nxF ma mg mt wf wp wt mw ml co ro x5_74 s se de 0)), (5, .int x5_74), (0, .ref hy), (1, .int s), (2, .int se), (3, .int de), (4, .int i)] [] 149 0 0
                            refine x_aload_n C 2 dX10_ends_149 rfl rfl ?_
                            refine x_get C 11 24 dX10_ends_150 inlX10 rfl (by decide) wd_139 rfl rfl rfl ?_
                            refine x_aload_n C 2 dX10_ends_153 rfl rfl ?_
                            refine x_callV C [] [(m15, .inl (cZ, 145, .inl fm15_74)), (m12, .inl (cJ, 40625, .inr (.inl wy2_37))), (m13, .inl (cZ, 40625, .inl ir2_43)), (m2, .inl (cI, 4, .inl ma)), (m4, .inl (cI, 4, .inl mg)), (m5, .inl (cI, 4, .inl mt)), (m7, .inl (cI, 6, .inl wf)), (m8, .inl (cI, 6, .inl wp)), (m9, .inl (cI, 6, .inl wt)), (m0, .inl (cI, 625, .inl ro)), (m1, .inl (cI, 65, .inl co))] [11, 12, 0] [1, 2, 3, 4, 5, 6, 7, 8, 9, 10, 13] (q0 := 0) (c_X10_minutesNow (xl X) (xD X) (xt X) hT hy m0 m1 m2 m3 m4 m5 m6 m7 m8 m9 m10 m11 m12 m13 m14 m15 m16 m17 m18 (tds (nxF ma mg mt wf wp wt mw ml co ro x5_74 s se de 0)) mm mw ml mb mz (opS co (nxF ma mg mt wf wp wt mw ml co ro x5_74 s se de 0)) bp by0 dp tk ka iw (tds_4 (by omega)) hmm) dX10_ends_154 wd_693 wd_694 wd_695 wd_5 wd_696 (np := 0) ⟨by decide, by decide, by decide +kernel⟩ rfl rfl (Nat.le_of_ble_eq_true rfl) (by decide) rfl rfl rfl rfl (by decide) rfl (by decide) (by decide) (fun v W1 h => ?_)
                            obtain ⟨r_154, rfl, rfl, h_154⟩ := h
                            show V X 7 [(m15, .inl (cZ, 145, .inl fm15_74)), (m12, .inl (cJ, 40625, .inr (.inl wy2_37))), (m13, .inl (cZ, 40625, .inl ir2_43)), (m2, .inl (cI, 4, .inl ma)), (m4, .inl (cI, 4, .inl mg)), (m5, .inl (cI, 4, .inl mt)), (m7, .inl (cI, 6, .inl wf)), (m8, .inl (cI, 6, .inl wp)), (m9, .inl (cI, 6, .inl wt)), (m0, .inl (cI, 625, .inl ro)), (m1, .inl (cI, 65, .inl co)), (hy, .inr (10, [.ref m0, .ref m1, .ref m2, .ref m3, .ref m4, .ref m5, .ref m6, .ref m7, .ref m8, .ref m9, .int mw, .int ml, .int mb, .ref m10, .int mz, .ref m11, .int ((opS co (nxF ma mg mt wf wp wt mw ml co ro x5_74 s se de 0))), .int bp, .int by0, .int dp, .int tk, .ref m12, .ref m13, .ref m14, .ref m15, .ref m16, .ref m17, .ref m18, .int ka, .int iw])), (m11, .inl (cI, 4, .inl ((tds (nxF ma mg mt wf wp wt mw ml co ro x5_74 s se de 0))))), (m3, .inl (cI, 16, .inl mm))] [(6, .int (nxF ma mg mt wf wp wt mw ml co ro x5_74 s se de 0)), (5, .int x5_74), (0, .ref hy), (1, .int s), (2, .int se), (3, .int de), (4, .int i)] [.int r_154, .ref m15] 157 0 0
                            refine x_iconst C 1 dX10_ends_157 (by decide) ?_
                            have v_158 : vp_in r_154 145 := (vp_in_iff.mpr (by omega))
                            refine x_zast C 0 2 [(m15, .inl (cZ, 145, .inl (upd fm15_74 (Int32.toNatClampNeg r_154) 1))), (m12, .inl (cJ, 40625, .inr (.inl wy2_37))), (m13, .inl (cZ, 40625, .inl ir2_43)), (m2, .inl (cI, 4, .inl ma)), (m4, .inl (cI, 4, .inl mg)), (m5, .inl (cI, 4, .inl mt)), (m7, .inl (cI, 6, .inl wf)), (m8, .inl (cI, 6, .inl wp)), (m9, .inl (cI, 6, .inl wt)), (m0, .inl (cI, 625, .inl ro)), (m1, .inl (cI, 65, .inl co)), (hy, .inr (10, [.ref m0, .ref m1, .ref m2, .ref m3, .ref m4, .ref m5, .ref m6, .ref m7, .ref m8, .ref m9, .int mw, .int ml, .int mb, .ref m10, .int mz, .ref m11, .int ((opS co (nxF ma mg mt wf wp wt mw ml co ro x5_74 s se de 0))), .int bp, .int by0, .int dp, .int tk, .ref m12, .ref m13, .ref m14, .ref m15, .ref m16, .ref m17, .ref m18, .int ka, .int iw])), (m11, .inl (cI, 4, .inl ((tds (nxF ma mg mt wf wp wt mw ml co ro x5_74 s se de 0))))), (m3, .inl (cI, 16, .inl mm))] dX10_ends_158 hT.2.2.1 rfl v_158 rfl rfl ?_
                            refine x_iinc C 1 (x5_74 + 1) [(5, .int (x5_74 + 1)), (6, .int (nxF ma mg mt wf wp wt mw ml co ro x5_74 s se de 0)), (0, .ref hy), (1, .int s), (2, .int se), (3, .int de), (4, .int i)] dX10_ends_159 rfl rfl (by decide) rfl ?_
                            refine x_goto C 74 dX10_ends_162 (by decide) ?_
                            refine x_sub [(m3, .inl (cI, 16, .inl mm)), (m15, .inl (cZ, 145, .inl (upd fm15_74 (Int32.toNatClampNeg r_154) 1))), (m12, .inl (cJ, 40625, .inr (.inl wy2_37))), (hy, .inr (10, [.ref m0, .ref m1, .ref m2, .ref m3, .ref m4, .ref m5, .ref m6, .ref m7, .ref m8, .ref m9, .int mw, .int ml, .int mb, .ref m10, .int mz, .ref m11, .int ((opS co (nxF ma mg mt wf wp wt mw ml co ro x5_74 s se de 0))), .int bp, .int by0, .int dp, .int tk, .ref m12, .ref m13, .ref m14, .ref m15, .ref m16, .ref m17, .ref m18, .int ka, .int iw])), (m11, .inl (cI, 4, .inl ((tds (nxF ma mg mt wf wp wt mw ml co ro x5_74 s se de 0))))), (m2, .inl (cI, 4, .inl ma)), (m4, .inl (cI, 4, .inl mg)), (m5, .inl (cI, 4, .inl mt)), (m7, .inl (cI, 6, .inl wf)), (m8, .inl (cI, 6, .inl wp)), (m9, .inl (cI, 6, .inl wt)), (m0, .inl (cI, 625, .inl ro)), (m1, .inl (cI, 65, .inl co)), (m13, .inl (cZ, 40625, .inl ir2_43))] [13, 0, 1, 11, 12, 3, 4, 5, 6, 7, 8, 9, 10, 2] (by decide) rfl ?_
                            refine x_lv [(5, .int (x5_74 + 1)), (0, .ref hy), (1, .int s), (2, .int se), (3, .int de), (4, .int i)] [0, 2, 3, 4, 5, 6] rfl ?_
                            have : (1 : Int32).toInt = 1 := by decide
                            have := i_add (x := x5_74) (y := 1) (by omega) (by omega)
                            exact ih_74 (x5_74 + 1) (upd fm15_74 (Int32.toNatClampNeg r_154) 1) ((opS co (nxF ma mg mt wf wp wt mw ml co ro x5_74 s se de 0))) ((tds (nxF ma mg mt wf wp wt mw ml co ro x5_74 s se de 0))) (by omega) (by omega)
              have : (0 : Int32).toInt = 0 := by decide
              exact L_74 _ 0 fm15_49 op2_43 tl2_43 (by omega) (Nat.lt_succ_self _)
            · skip
              have e_54 : ¬ ((144 : Int32).toInt < (x5_49 : Int32).toInt) := fun h => c_54 (i_lt.mpr h)
              have : (144 : Int32).toInt = 144 := by decide
              refine x_aload_n C 1 dX10_ends_57 rfl rfl ?_
              refine x_get C 3 24 dX10_ends_58 inlX10 rfl (by decide) wd_139 rfl rfl rfl ?_
              refine x_iload C 0 dX10_ends_61 rfl ?_
              refine x_iconst C 0 dX10_ends_63 (by decide) ?_
              have v_64 : vp_in x5_49 145 := (vp_in_iff.mpr (by omega))
              refine x_zast C 1 2 [(m3, .inl (cI, 16, .inl mm)), (m15, .inl (cZ, 145, .inl (upd fm15_49 (Int32.toNatClampNeg x5_49) 0))), (m12, .inl (cJ, 40625, .inr (.inl wy2_37))), (hy, .inr (10, [.ref m0, .ref m1, .ref m2, .ref m3, .ref m4, .ref m5, .ref m6, .ref m7, .ref m8, .ref m9, .int mw, .int ml, .int mb, .ref m10, .int mz, .ref m11, .int op2_43, .int bp, .int by0, .int dp, .int tk, .ref m12, .ref m13, .ref m14, .ref m15, .ref m16, .ref m17, .ref m18, .int ka, .int iw])), (m11, .inl (cI, 4, .inl tl2_43)), (m2, .inl (cI, 4, .inl ma)), (m4, .inl (cI, 4, .inl mg)), (m5, .inl (cI, 4, .inl mt)), (m7, .inl (cI, 6, .inl wf)), (m8, .inl (cI, 6, .inl wp)), (m9, .inl (cI, 6, .inl wt)), (m0, .inl (cI, 625, .inl ro)), (m1, .inl (cI, 65, .inl co)), (m13, .inl (cZ, 40625, .inl ir2_43))] dX10_ends_64 hT.2.2.1 rfl v_64 rfl rfl ?_
              refine x_iinc C 0 (x5_49 + 1) [(5, .int (x5_49 + 1)), (0, .ref hy), (1, .int s), (2, .int se), (3, .int de), (4, .int i)] dX10_ends_65 rfl rfl (by decide) rfl ?_
              refine x_goto C 49 dX10_ends_68 (by decide) ?_
              have : (1 : Int32).toInt = 1 := by decide
              have := i_add (x := x5_49) (y := 1) (by omega) (by omega)
              exact ih_49 (x5_49 + 1) (upd fm15_49 (Int32.toNatClampNeg x5_49) 0) (by omega) (by omega)
        have : (0 : Int32).toInt = 0 := by decide
        exact L_49 _ 0 en (by omega) (Nat.lt_succ_self _)
      · skip
        have e_27 : (r_24 : Int32).toInt = (0 : Int32).toInt := i_eq.mp c_27
        have : (0 : Int32).toInt = 0 := by decide
        refine x_bipush C (-2) dX10_ends_30 (by decide) ?_
        refine x_sub [(hy, .inr (10, [.ref m0, .ref m1, .ref m2, .ref m3, .ref m4, .ref m5, .ref m6, .ref m7, .ref m8, .ref m9, .int mw, .int ml, .int mb, .ref m10, .int mz, .ref m11, .int op, .int bp, .int by0, .int dp, .int tk, .ref m12, .ref m13, .ref m14, .ref m15, .ref m16, .ref m17, .ref m18, .int ka, .int iw])), (m11, .inl (cI, 4, .inl tl)), (m2, .inl (cI, 4, .inl ma)), (m4, .inl (cI, 4, .inl mg)), (m5, .inl (cI, 4, .inl mt)), (m7, .inl (cI, 6, .inl wf)), (m8, .inl (cI, 6, .inl wp)), (m9, .inl (cI, 6, .inl wt)), (m0, .inl (cI, 625, .inl ro)), (m1, .inl (cI, 65, .inl co)), (m12, .inl (cJ, 40625, .inr (.inl wy))), (m3, .inl (cI, 16, .inl mm)), (m13, .inl (cZ, 40625, .inl ir)), (m15, .inl (cZ, 145, .inl en))] [13, 0, 1, 2, 3, 4, 5, 6, 7, 8, 9, 10, 11, 12] (by decide) rfl ?_
        have : ((-2) : Int32).toInt = -2 := by decide
        exact x_iret C dX10_ends_32 (Nat.zero_le _) (Nat.zero_le _) (by rw [eO]; exact ⟨((-2)), tl, op, wy, ir, en, rfl, rfl, trivial⟩)
  · skip
    have e_6 : (r_3 : Int32).toInt = (0 : Int32).toInt := i_eq.mp c_6
    have : (0 : Int32).toInt = 0 := by decide
    refine x_iconst C (-1) dX10_ends_9 (by decide) ?_
    refine x_sub [(hy, .inr (10, [.ref m0, .ref m1, .ref m2, .ref m3, .ref m4, .ref m5, .ref m6, .ref m7, .ref m8, .ref m9, .int mw, .int ml, .int mb, .ref m10, .int mz, .ref m11, .int op, .int bp, .int by0, .int dp, .int tk, .ref m12, .ref m13, .ref m14, .ref m15, .ref m16, .ref m17, .ref m18, .int ka, .int iw])), (m11, .inl (cI, 4, .inl tl)), (m2, .inl (cI, 4, .inl ma)), (m4, .inl (cI, 4, .inl mg)), (m5, .inl (cI, 4, .inl mt)), (m7, .inl (cI, 6, .inl wf)), (m8, .inl (cI, 6, .inl wp)), (m9, .inl (cI, 6, .inl wt)), (m0, .inl (cI, 625, .inl ro)), (m1, .inl (cI, 65, .inl co)), (m12, .inl (cJ, 40625, .inr (.inl wy))), (m3, .inl (cI, 16, .inl mm)), (m13, .inl (cZ, 40625, .inl ir)), (m15, .inl (cZ, 145, .inl en))] [13, 0, 1, 2, 3, 4, 5, 6, 7, 8, 9, 10, 11, 12] (by decide) rfl ?_
    have : ((-1) : Int32).toInt = -1 := by decide
    exact x_iret C dX10_ends_10 (Nat.zero_le _) (Nat.zero_le _) (by rw [eO]; exact ⟨((-1)), tl, op, wy, ir, en, rfl, rfl, trivial⟩)
abbrev rm_X10_rings : Room := { frames := 6, cells := 0, slots := 0, locals := 151 }
set_option maxHeartbeats 4000000 in
set_option maxRecDepth 100000 in
theorem c_X10_rings (l : Launch) (D : va_G) (tys : List (ClassId × FieldType)) {cI cJ cZ cB : ClassId} (hT : Ty tys cI cJ cZ cB) (hy m0 m1 m2 m3 m4 m5 m6 m7 m8 m9 m10 m11 m12 m13 m14 m15 m16 m17 m18 : Nat) (tl ma mg mt wf wp wt ro co : Nat → Int32) (wy : Nat → Int64) (mw ml mb mz op bp by0 dp tk ka iw : Int32) (hR : RT co ro) (hpa : POk ma) (hmw : 0 ≤ mw.toInt ∧ mw.toInt ≤ 6) (hwt : SOk wt) : Cn l D tys yX10_rings cX10_rings 3 (some .int) rm_X10_rings [(hy, .inr (10, [.ref m0, .ref m1, .ref m2, .ref m3, .ref m4, .ref m5, .ref m6, .ref m7, .ref m8, .ref m9, .int mw, .int ml, .int mb, .ref m10, .int mz, .ref m11, .int op, .int bp, .int by0, .int dp, .int tk, .ref m12, .ref m13, .ref m14, .ref m15, .ref m16, .ref m17, .ref m18, .int ka, .int iw])), (m11, .inl (cI, 4, .inl tl)), (m2, .inl (cI, 4, .inl ma)), (m4, .inl (cI, 4, .inl mg)), (m5, .inl (cI, 4, .inl mt)), (m7, .inl (cI, 6, .inl wf)), (m8, .inl (cI, 6, .inl wp)), (m9, .inl (cI, 6, .inl wt)), (m0, .inl (cI, 625, .inl ro)), (m1, .inl (cI, 65, .inl co)), (m12, .inl (cJ, 40625, .inr (.inl wy)))] [.ref hy] (fun v W1 => ∃ (r : Int32) (tl2 : Nat → Int32) (op2 : Int32) (wy2 : Nat → Int64), v = some (.int r) ∧ W1 = [(hy, .inr (10, [.ref m0, .ref m1, .ref m2, .ref m3, .ref m4, .ref m5, .ref m6, .ref m7, .ref m8, .ref m9, .int mw, .int ml, .int mb, .ref m10, .int mz, .ref m11, .int op2, .int bp, .int by0, .int dp, .int tk, .ref m12, .ref m13, .ref m14, .ref m15, .ref m16, .ref m17, .ref m18, .int ka, .int iw])), (m11, .inl (cI, 4, .inl tl2)), (m2, .inl (cI, 4, .inl ma)), (m4, .inl (cI, 4, .inl mg)), (m5, .inl (cI, 4, .inl mt)), (m7, .inl (cI, 6, .inl wf)), (m8, .inl (cI, 6, .inl wp)), (m9, .inl (cI, 6, .inl wt)), (m0, .inl (cI, 625, .inl ro)), (m1, .inl (cI, 65, .inl co)), (m12, .inl (cJ, 40625, .inr (.inl wy2)))] ∧ (RBS r (fun k => ∃ wy : Nat → Int64, WFX ma mg mt wf wp wt mw ml co ro (nI k) 4 0 wy ∧ wy 0 = 0) (fun k => ∃ wy : Nat → Int64, WFX ma mg mt wf wp wt mw ml co ro (nI k) 4 0 wy ∧ ¬ wy 0 = 0))) := by
  refine Cn.of (by decide) (Nat.le_of_ble_eq_true rfl) ?_ ?_ (fun X eL eD eT eO eK eN eM C => ?_)
  · intro h; cases h
  · intro v ws h; obtain ⟨_, _, _, _, rfl, rfl, _⟩ := h; exact Or.inl rfl
  subst eL eD eT
  show V X 3 [(hy, .inr (10, [.ref m0, .ref m1, .ref m2, .ref m3, .ref m4, .ref m5, .ref m6, .ref m7, .ref m8, .ref m9, .int mw, .int ml, .int mb, .ref m10, .int mz, .ref m11, .int op, .int bp, .int by0, .int dp, .int tk, .ref m12, .ref m13, .ref m14, .ref m15, .ref m16, .ref m17, .ref m18, .int ka, .int iw])), (m11, .inl (cI, 4, .inl tl)), (m2, .inl (cI, 4, .inl ma)), (m4, .inl (cI, 4, .inl mg)), (m5, .inl (cI, 4, .inl mt)), (m7, .inl (cI, 6, .inl wf)), (m8, .inl (cI, 6, .inl wp)), (m9, .inl (cI, 6, .inl wt)), (m0, .inl (cI, 625, .inl ro)), (m1, .inl (cI, 65, .inl co)), (m12, .inl (cJ, 40625, .inr (.inl wy)))] [(0, .ref hy)] [] 0 0 0
  refine x_iconst C 0 dX10_rings_0 (by decide) ?_
  refine x_istore_n C [(1, .int 0), (0, .ref hy)] dX10_rings_1 rfl (by decide) rfl ?_
  refine x_iconst C 1 dX10_rings_2 (by decide) ?_
  refine x_istore_n C [(2, .int 1), (1, .int 0), (0, .ref hy)] dX10_rings_3 rfl (by decide) rfl ?_
  have L_4 : ∀ (n_4 : Nat) (x2_4 : Int32) (x1_4 : Int32) (ghy16_4 : Int32) (fm11_4 : Nat → Int32) (fm12_4 : Nat → Int64), ((1 ≤ x2_4.toInt ∧ x2_4.toInt ≤ 16) ∧ RBI x1_4 x2_4 (fun k => ∃ wy : Nat → Int64, WFX ma mg mt wf wp wt mw ml co ro (nI k) 4 0 wy ∧ wy 0 = 0) (fun k => ∃ wy : Nat → Int64, WFX ma mg mt wf wp wt mw ml co ro (nI k) 4 0 wy ∧ ¬ wy 0 = 0)) → ((16 - x2_4.toInt).toNat < n_4) → V X 3 [(hy, .inr (10, [.ref m0, .ref m1, .ref m2, .ref m3, .ref m4, .ref m5, .ref m6, .ref m7, .ref m8, .ref m9, .int mw, .int ml, .int mb, .ref m10, .int mz, .ref m11, .int ghy16_4, .int bp, .int by0, .int dp, .int tk, .ref m12, .ref m13, .ref m14, .ref m15, .ref m16, .ref m17, .ref m18, .int ka, .int iw])), (m11, .inl (cI, 4, .inl fm11_4)), (m2, .inl (cI, 4, .inl ma)), (m4, .inl (cI, 4, .inl mg)), (m5, .inl (cI, 4, .inl mt)), (m7, .inl (cI, 6, .inl wf)), (m8, .inl (cI, 6, .inl wp)), (m9, .inl (cI, 6, .inl wt)), (m0, .inl (cI, 625, .inl ro)), (m1, .inl (cI, 65, .inl co)), (m12, .inl (cJ, 40625, .inr (.inl fm12_4)))] [(2, .int x2_4), (1, .int x1_4), (0, .ref hy)] [] 4 0 0 := by
    intro n_4
    induction n_4 with
    | zero =>
      intro x2_4 x1_4 ghy16_4 fm11_4 fm12_4 i_4 m_4
      exact absurd m_4 (Nat.not_lt_zero _)
    | succ n_4 ih_4 =>
      intro x2_4 x1_4 ghy16_4 fm11_4 fm12_4 i_4 m_4
      refine x_iload_n C 0 dX10_rings_4 rfl rfl ?_
      refine x_bipush C 16 dX10_rings_5 (by decide) ?_
      refine x_icmp_ge C 46 dX10_rings_7 (by decide) (fun c_7 => ?_) (fun c_7 => ?_)
      · skip
        have e_7 : (16 : Int32).toInt ≤ (x2_4 : Int32).toInt := i_le.mp c_7
        have : (16 : Int32).toInt = 16 := by decide
        refine x_iload_n C 1 dX10_rings_46 rfl rfl ?_
        exact x_iret C dX10_rings_47 (Nat.zero_le _) (Nat.zero_le _) (by rw [eO]; exact ⟨x1_4, fm11_4, ghy16_4, fm12_4, rfl, rfl, (i_4.2.out (by omega))⟩)
      · skip
        have e_7 : ¬ ((16 : Int32).toInt ≤ (x2_4 : Int32).toInt) := fun h => c_7 (i_le.mpr h)
        have : (16 : Int32).toInt = 16 := by decide
        refine x_aload_n C 2 dX10_rings_10 rfl rfl ?_
        refine x_iload_n C 0 dX10_rings_11 rfl rfl ?_
        refine x_iconst C 4 dX10_rings_12 (by decide) ?_
        refine x_iconst C 0 dX10_rings_13 (by decide) ?_
        refine x_callV C [.int x2_4, .int 4, .int 0] [] [0, 1, 2, 3, 4, 5, 6, 7, 8, 9, 10] [] (q0 := 0) (c_X10_findWays (xl X) (xD X) (xt X) hT hy m0 m1 m2 m3 m4 m5 m6 m7 m8 m9 m10 m11 m12 m13 m14 m15 m16 m17 m18 fm11_4 ma mg mt wf wp wt ro co fm12_4 mw ml mb mz ghy16_4 bp by0 dp tk ka iw x2_4 4 0 hR hpa hmw hwt) dX10_rings_14 wd_568 wd_569 wd_570 wd_5 wd_571 (np := 3) ⟨by decide, by decide, by decide +kernel⟩ rfl rfl (Nat.le_of_ble_eq_true rfl) (by decide) rfl rfl rfl rfl (by decide) rfl (by decide) (by decide) (fun v W1 h => ?_)
        obtain ⟨tl2_14, op2_14, wy2_14, rfl, rfl, h_14⟩ := h
        have : (0 : Int32).toInt = 0 := by decide
        have : (4 : Int32).toInt = 4 := by decide
        show V X 3 [(hy, .inr (10, [.ref m0, .ref m1, .ref m2, .ref m3, .ref m4, .ref m5, .ref m6, .ref m7, .ref m8, .ref m9, .int mw, .int ml, .int mb, .ref m10, .int mz, .ref m11, .int op2_14, .int bp, .int by0, .int dp, .int tk, .ref m12, .ref m13, .ref m14, .ref m15, .ref m16, .ref m17, .ref m18, .int ka, .int iw])), (m11, .inl (cI, 4, .inl tl2_14)), (m2, .inl (cI, 4, .inl ma)), (m4, .inl (cI, 4, .inl mg)), (m5, .inl (cI, 4, .inl mt)), (m7, .inl (cI, 6, .inl wf)), (m8, .inl (cI, 6, .inl wp)), (m9, .inl (cI, 6, .inl wt)), (m0, .inl (cI, 625, .inl ro)), (m1, .inl (cI, 65, .inl co)), (m12, .inl (cJ, 40625, .inr (.inl wy2_14)))] [(2, .int x2_4), (1, .int x1_4), (0, .ref hy)] [] 17 0 0
        refine x_iload_n C 1 dX10_rings_17 rfl rfl ?_
        refine x_aload_n C 2 dX10_rings_18 rfl rfl ?_
        refine x_get C 0 21 dX10_rings_19 inlX10 rfl (by decide) wd_135 rfl rfl rfl ?_
        refine x_iconst C 0 dX10_rings_22 (by decide) ?_
        have v_23 : vp_in 0 40625 := (vp_in_iff.mpr (by decide))
        refine x_lald C 10 1 dX10_rings_23 hT.2.1 rfl v_23 ?_
        refine x_lconst C 0 dX10_rings_24 (by decide) ?_
        refine x_lcmp C dX10_rings_25 ?_
        refine x_if_ne C 37 dX10_rings_26 (by decide) (fun c_26 => ?_) (fun c_26 => ?_)
        · skip
          have e_26 : ¬ (((wy2_14 (Int32.toNatClampNeg 0)) : Int64).toInt = (0 : Int64).toInt) := fun h => c_26 (lc_eq.mpr h)
          have : (0 : Int64).toInt = 0 := by decide
          refine x_iconst C 0 dX10_rings_37 (by decide) ?_
          refine x_ior C dX10_rings_38 ?_
          refine x_istore_n C [(1, .int (x1_4 ||| 0)), (2, .int x2_4), (0, .ref hy)] dX10_rings_39 rfl (by decide) rfl ?_
          refine x_iinc C 1 (x2_4 + 1) [(2, .int (x2_4 + 1)), (1, .int (x1_4 ||| 0)), (0, .ref hy)] dX10_rings_40 rfl rfl (by decide) rfl ?_
          refine x_goto C 4 dX10_rings_43 (by decide) ?_
          have : (1 : Int32).toInt = 1 := by decide
          have := i_add (x := x2_4) (y := 1) (by omega) (by omega)
          exact ih_4 (x2_4 + 1) (x1_4 ||| 0) op2_14 tl2_14 wy2_14 ⟨by omega, by rw [or0]; exact i_4.2.no (by omega) (by omega) ⟨wy2_14, by rw [← nI_self (x := x2_4) (by omega)]; exact h_14, fun h => e_26 (l_0.mp h)⟩⟩ (by omega)
        · skip
          have e_26 : ((wy2_14 (Int32.toNatClampNeg 0)) : Int64).toInt = (0 : Int64).toInt := lc_eq.mp c_26
          have : (0 : Int64).toInt = 0 := by decide
          refine x_iconst C 1 dX10_rings_29 (by decide) ?_
          refine x_iload_n C 0 dX10_rings_30 rfl rfl ?_
          refine x_iconst C 1 dX10_rings_31 (by decide) ?_
          refine x_isub C dX10_rings_32 ?_
          refine x_ishl C dX10_rings_33 ?_
          refine x_goto C 38 dX10_rings_34 (by decide) ?_
          refine x_ior C dX10_rings_38 ?_
          refine x_istore_n C [(1, .int (x1_4 ||| ((1 : Int32) <<< ((x2_4 - 1) &&& 31)))), (2, .int x2_4), (0, .ref hy)] dX10_rings_39 rfl (by decide) rfl ?_
          refine x_iinc C 1 (x2_4 + 1) [(2, .int (x2_4 + 1)), (1, .int (x1_4 ||| ((1 : Int32) <<< ((x2_4 - 1) &&& 31)))), (0, .ref hy)] dX10_rings_40 rfl rfl (by decide) rfl ?_
          refine x_goto C 4 dX10_rings_43 (by decide) ?_
          have : (1 : Int32).toInt = 1 := by decide
          have := i_add (x := x2_4) (y := 1) (by omega) (by omega)
          exact ih_4 (x2_4 + 1) (x1_4 ||| ((1 : Int32) <<< ((x2_4 - 1) &&& 31))) op2_14 tl2_14 wy2_14 ⟨by omega, i_4.2.yes (by omega) (by omega) (by omega) ⟨wy2_14, by rw [← nI_self (x := x2_4) (by omega)]; exact h_14, l_0.mpr e_26⟩⟩ (by omega)
  have : (1 : Int32).toInt = 1 := by decide
  have : (0 : Int32).toInt = 0 := by decide
  exact L_4 _ 1 0 op tl wy ⟨by omega, RBI.z (by omega)⟩ (Nat.lt_succ_self _)
abbrev rm_X10_dropped : Room := { frames := 6, cells := 0, slots := 0, locals := 151 }
set_option maxHeartbeats 4000000 in
set_option maxRecDepth 100000 in
theorem c_X10_dropped (l : Launch) (D : va_G) (tys : List (ClassId × FieldType)) {cI cJ cZ cB : ClassId} (hT : Ty tys cI cJ cZ cB) (hy m0 m1 m2 m3 m4 m5 m6 m7 m8 m9 m10 m11 m12 m13 m14 m15 m16 m17 m18 : Nat) (tl ma mg mt wf wp wt ro co : Nat → Int32) (wy : Nat → Int64) (mw ml mb mz op bp by0 dp tk ka iw : Int32) (se : Int32) (hR : RT co ro) (hpa : POk ma) (hmw : 0 ≤ mw.toInt ∧ mw.toInt ≤ 6) (hwt : SOk wt) : Cn l D tys yX10_dropped cX10_dropped 4 (some .int) rm_X10_dropped [(hy, .inr (10, [.ref m0, .ref m1, .ref m2, .ref m3, .ref m4, .ref m5, .ref m6, .ref m7, .ref m8, .ref m9, .int mw, .int ml, .int mb, .ref m10, .int mz, .ref m11, .int op, .int bp, .int by0, .int dp, .int tk, .ref m12, .ref m13, .ref m14, .ref m15, .ref m16, .ref m17, .ref m18, .int ka, .int iw])), (m11, .inl (cI, 4, .inl tl)), (m2, .inl (cI, 4, .inl ma)), (m4, .inl (cI, 4, .inl mg)), (m5, .inl (cI, 4, .inl mt)), (m7, .inl (cI, 6, .inl wf)), (m8, .inl (cI, 6, .inl wp)), (m9, .inl (cI, 6, .inl wt)), (m0, .inl (cI, 625, .inl ro)), (m1, .inl (cI, 65, .inl co)), (m12, .inl (cJ, 40625, .inr (.inl wy)))] [.ref hy, .int se] (fun v W1 => ∃ (r : Int32) (tl2 : Nat → Int32) (op2 : Int32) (wy2 : Nat → Int64), v = some (.int r) ∧ W1 = [(hy, .inr (10, [.ref m0, .ref m1, .ref m2, .ref m3, .ref m4, .ref m5, .ref m6, .ref m7, .ref m8, .ref m9, .int mw, .int ml, .int mb, .ref m10, .int mz, .ref m11, .int op2, .int bp, .int by0, .int dp, .int tk, .ref m12, .ref m13, .ref m14, .ref m15, .ref m16, .ref m17, .ref m18, .int ka, .int iw])), (m11, .inl (cI, 4, .inl tl2)), (m2, .inl (cI, 4, .inl ma)), (m4, .inl (cI, 4, .inl mg)), (m5, .inl (cI, 4, .inl mt)), (m7, .inl (cI, 6, .inl wf)), (m8, .inl (cI, 6, .inl wp)), (m9, .inl (cI, 6, .inl wt)), (m0, .inl (cI, 625, .inl ro)), (m1, .inl (cI, 65, .inl co)), (m12, .inl (cJ, 40625, .inr (.inl wy2)))] ∧ ((¬ (1 ≤ se.toInt ∧ se.toInt ≤ 15) ∧ r = -2) ∨ ((1 ≤ se.toInt ∧ se.toInt ≤ 15) ∧ RDI (fun d wy => WFX ma mg mt wf wp wt mw ml co ro se 4 d wy) r ((2 ^ mw.toInt.toNat : Nat) : Int)))) := by
  refine Cn.of (by decide) (Nat.le_of_ble_eq_true rfl) ?_ ?_ (fun X eL eD eT eO eK eN eM C => ?_)
  · intro h; cases h
  · intro v ws h; obtain ⟨_, _, _, _, rfl, rfl, _⟩ := h; exact Or.inl rfl
  subst eL eD eT
  show V X 4 [(hy, .inr (10, [.ref m0, .ref m1, .ref m2, .ref m3, .ref m4, .ref m5, .ref m6, .ref m7, .ref m8, .ref m9, .int mw, .int ml, .int mb, .ref m10, .int mz, .ref m11, .int op, .int bp, .int by0, .int dp, .int tk, .ref m12, .ref m13, .ref m14, .ref m15, .ref m16, .ref m17, .ref m18, .int ka, .int iw])), (m11, .inl (cI, 4, .inl tl)), (m2, .inl (cI, 4, .inl ma)), (m4, .inl (cI, 4, .inl mg)), (m5, .inl (cI, 4, .inl mt)), (m7, .inl (cI, 6, .inl wf)), (m8, .inl (cI, 6, .inl wp)), (m9, .inl (cI, 6, .inl wt)), (m0, .inl (cI, 625, .inl ro)), (m1, .inl (cI, 65, .inl co)), (m12, .inl (cJ, 40625, .inr (.inl wy)))] [(0, .ref hy), (1, .int se)] [] 0 0 0
  have p9 := sh_powI hmw
  have q64 : ((2 ^ mw.toInt.toNat : Nat) : Int) ≤ 64 := by have := i_shl1y hmw; omega
  have := t0_
  have := tm6_
  refine x_iload_n C 1 dX10_dropped_0 rfl rfl ?_
  refine x_callS C [.int se] [(hy, .inr (10, [.ref m0, .ref m1, .ref m2, .ref m3, .ref m4, .ref m5, .ref m6, .ref m7, .ref m8, .ref m9, .int mw, .int ml, .int mb, .ref m10, .int mz, .ref m11, .int op, .int bp, .int by0, .int dp, .int tk, .ref m12, .ref m13, .ref m14, .ref m15, .ref m16, .ref m17, .ref m18, .int ka, .int iw])), (m11, .inl (cI, 4, .inl tl)), (m2, .inl (cI, 4, .inl ma)), (m4, .inl (cI, 4, .inl mg)), (m5, .inl (cI, 4, .inl mt)), (m7, .inl (cI, 6, .inl wf)), (m8, .inl (cI, 6, .inl wp)), (m9, .inl (cI, 6, .inl wt)), (m0, .inl (cI, 625, .inl ro)), (m1, .inl (cI, 65, .inl co)), (m12, .inl (cJ, 40625, .inr (.inl wy)))] [] [0, 1, 2, 3, 4, 5, 6, 7, 8, 9, 10] (c_X10_isSet (xl X) (xD X) (xt X) hT se ) dX10_dropped_1 wd_565 wd_566 wd_5 wd_567 (np := 1) ⟨by decide, by decide, by decide +kernel⟩ rfl rfl (Nat.le_of_ble_eq_true rfl) (by decide) rfl (by decide) rfl (by decide) (by decide) (fun v W1 h => ?_)
  obtain ⟨r_1, rfl, rfl, h_1⟩ := h
  show V X 4 [(hy, .inr (10, [.ref m0, .ref m1, .ref m2, .ref m3, .ref m4, .ref m5, .ref m6, .ref m7, .ref m8, .ref m9, .int mw, .int ml, .int mb, .ref m10, .int mz, .ref m11, .int op, .int bp, .int by0, .int dp, .int tk, .ref m12, .ref m13, .ref m14, .ref m15, .ref m16, .ref m17, .ref m18, .int ka, .int iw])), (m11, .inl (cI, 4, .inl tl)), (m2, .inl (cI, 4, .inl ma)), (m4, .inl (cI, 4, .inl mg)), (m5, .inl (cI, 4, .inl mt)), (m7, .inl (cI, 6, .inl wf)), (m8, .inl (cI, 6, .inl wp)), (m9, .inl (cI, 6, .inl wt)), (m0, .inl (cI, 625, .inl ro)), (m1, .inl (cI, 65, .inl co)), (m12, .inl (cJ, 40625, .inr (.inl wy)))] [(0, .ref hy), (1, .int se)] [.int r_1] 4 0 0
  refine x_if_ne C 10 dX10_dropped_4 (by decide) (fun c_4 => ?_) (fun c_4 => ?_)
  · skip
    have e_4 : ¬ ((r_1 : Int32).toInt = (0 : Int32).toInt) := fun h => c_4 (i_eq.mpr h)
    have : (0 : Int32).toInt = 0 := by decide
    refine x_bipush C (-6) dX10_dropped_10 (by decide) ?_
    refine x_istore_n C [(2, .int ((-6))), (0, .ref hy), (1, .int se)] dX10_dropped_12 rfl (by decide) rfl ?_
    refine x_iconst C 0 dX10_dropped_13 (by decide) ?_
    refine x_istore_n C [(3, .int 0), (2, .int ((-6))), (0, .ref hy), (1, .int se)] dX10_dropped_14 rfl (by decide) rfl ?_
    have L_15 : ∀ (n_15 : Nat) (x3_15 : Int32) (x2_15 : Int32) (ghy16_15 : Int32) (fm11_15 : Nat → Int32) (fm12_15 : Nat → Int64), (((0 ≤ x3_15.toInt ∧ x3_15.toInt ≤ ((2 ^ mw.toInt.toNat : Nat) : Int)) ∧ (0 ≤ x2_15.toInt ∨ x2_15 = -6)) ∧ RDI (fun d wy => WFX ma mg mt wf wp wt mw ml co ro se 4 d wy) x2_15 x3_15.toInt) → ((((2 ^ mw.toInt.toNat : Nat) : Int) - x3_15.toInt).toNat < n_15) → V X 4 [(hy, .inr (10, [.ref m0, .ref m1, .ref m2, .ref m3, .ref m4, .ref m5, .ref m6, .ref m7, .ref m8, .ref m9, .int mw, .int ml, .int mb, .ref m10, .int mz, .ref m11, .int ghy16_15, .int bp, .int by0, .int dp, .int tk, .ref m12, .ref m13, .ref m14, .ref m15, .ref m16, .ref m17, .ref m18, .int ka, .int iw])), (m11, .inl (cI, 4, .inl fm11_15)), (m2, .inl (cI, 4, .inl ma)), (m4, .inl (cI, 4, .inl mg)), (m5, .inl (cI, 4, .inl mt)), (m7, .inl (cI, 6, .inl wf)), (m8, .inl (cI, 6, .inl wp)), (m9, .inl (cI, 6, .inl wt)), (m0, .inl (cI, 625, .inl ro)), (m1, .inl (cI, 65, .inl co)), (m12, .inl (cJ, 40625, .inr (.inl fm12_15)))] [(3, .int x3_15), (2, .int x2_15), (0, .ref hy), (1, .int se)] [] 15 0 0 := by
      intro n_15
      induction n_15 with
      | zero =>
        intro x3_15 x2_15 ghy16_15 fm11_15 fm12_15 i_15 m_15
        exact absurd m_15 (Nat.not_lt_zero _)
      | succ n_15 ih_15 =>
        intro x3_15 x2_15 ghy16_15 fm11_15 fm12_15 i_15 m_15
        refine x_iload_n C 0 dX10_dropped_15 rfl rfl ?_
        refine x_iconst C 1 dX10_dropped_16 (by decide) ?_
        refine x_aload_n C 2 dX10_dropped_17 rfl rfl ?_
        refine x_get C 0 10 dX10_dropped_18 inlX10 rfl (by decide) wd_260 rfl rfl rfl ?_
        refine x_ishl C dX10_dropped_21 ?_
        refine x_icmp_ge C 70 dX10_dropped_22 (by decide) (fun c_22 => ?_) (fun c_22 => ?_)
        · skip
          have e_22 : ((1 : Int32) <<< (mw &&& 31) : Int32).toInt ≤ (x3_15 : Int32).toInt := i_le.mp c_22
          refine x_iload_n C 1 dX10_dropped_70 rfl rfl ?_
          exact x_iret C dX10_dropped_71 (Nat.zero_le _) (Nat.zero_le _) (by rw [eO]; exact ⟨x2_15, fm11_15, ghy16_15, fm12_15, rfl, rfl, (Or.inr ⟨by omega, by rw [show ((2 ^ mw.toInt.toNat : Nat) : Int) = x3_15.toInt by omega]; exact i_15.2⟩)⟩)
        · skip
          have e_22 : ¬ (((1 : Int32) <<< (mw &&& 31) : Int32).toInt ≤ (x3_15 : Int32).toInt) := fun h => c_22 (i_le.mpr h)
          refine x_iload_n C 1 dX10_dropped_25 rfl rfl ?_
          refine x_if_lt C 40 dX10_dropped_26 (by decide) (fun c_26 => ?_) (fun c_26 => ?_)
          · skip
            have e_26 : (x2_15 : Int32).toInt < (0 : Int32).toInt := i_lt.mp c_26
            have : (0 : Int32).toInt = 0 := by decide
            refine x_aload_n C 2 dX10_dropped_40 rfl rfl ?_
            refine x_iload_n C 3 dX10_dropped_41 rfl rfl ?_
            refine x_iconst C 4 dX10_dropped_42 (by decide) ?_
            refine x_iload_n C 0 dX10_dropped_43 rfl rfl ?_
            refine x_callV C [.int se, .int 4, .int x3_15] [] [0, 1, 2, 3, 4, 5, 6, 7, 8, 9, 10] [] (q0 := 0) (c_X10_findWays (xl X) (xD X) (xt X) hT hy m0 m1 m2 m3 m4 m5 m6 m7 m8 m9 m10 m11 m12 m13 m14 m15 m16 m17 m18 fm11_15 ma mg mt wf wp wt ro co fm12_15 mw ml mb mz ghy16_15 bp by0 dp tk ka iw se 4 x3_15 hR hpa hmw hwt) dX10_dropped_44 wd_568 wd_569 wd_570 wd_5 wd_571 (np := 3) ⟨by decide, by decide, by decide +kernel⟩ rfl rfl (Nat.le_of_ble_eq_true rfl) (by decide) rfl rfl rfl rfl (by decide) rfl (by decide) (by decide) (fun v W1 h => ?_)
            obtain ⟨tl2_44, op2_44, wy2_44, rfl, rfl, h_44⟩ := h
            have : (4 : Int32).toInt = 4 := by decide
            show V X 4 [(hy, .inr (10, [.ref m0, .ref m1, .ref m2, .ref m3, .ref m4, .ref m5, .ref m6, .ref m7, .ref m8, .ref m9, .int mw, .int ml, .int mb, .ref m10, .int mz, .ref m11, .int op2_44, .int bp, .int by0, .int dp, .int tk, .ref m12, .ref m13, .ref m14, .ref m15, .ref m16, .ref m17, .ref m18, .int ka, .int iw])), (m11, .inl (cI, 4, .inl tl2_44)), (m2, .inl (cI, 4, .inl ma)), (m4, .inl (cI, 4, .inl mg)), (m5, .inl (cI, 4, .inl mt)), (m7, .inl (cI, 6, .inl wf)), (m8, .inl (cI, 6, .inl wp)), (m9, .inl (cI, 6, .inl wt)), (m0, .inl (cI, 625, .inl ro)), (m1, .inl (cI, 65, .inl co)), (m12, .inl (cJ, 40625, .inr (.inl wy2_44)))] [(3, .int x3_15), (2, .int x2_15), (0, .ref hy), (1, .int se)] [] 47 0 0
            refine x_aload_n C 2 dX10_dropped_47 rfl rfl ?_
            refine x_get C 0 21 dX10_dropped_48 inlX10 rfl (by decide) wd_135 rfl rfl rfl ?_
            refine x_iconst C 0 dX10_dropped_51 (by decide) ?_
            have v_52 : vp_in 0 40625 := (vp_in_iff.mpr (by decide))
            refine x_lald C 10 1 dX10_dropped_52 hT.2.1 rfl v_52 ?_
            refine x_lconst C 0 dX10_dropped_53 (by decide) ?_
            refine x_lcmp C dX10_dropped_54 ?_
            refine x_if_le C 62 dX10_dropped_55 (by decide) (fun c_55 => ?_) (fun c_55 => ?_)
            · skip
              have e_55 : ((wy2_44 (Int32.toNatClampNeg 0)) : Int64).toInt ≤ (0 : Int64).toInt := lc_le.mp c_55
              have : (0 : Int64).toInt = 0 := by decide
              refine x_iload_n C 1 dX10_dropped_62 rfl rfl ?_
              refine x_istore_n C [(2, .int x2_15), (3, .int x3_15), (0, .ref hy), (1, .int se)] dX10_dropped_63 rfl (by decide) rfl ?_
              refine x_iinc C 1 (x3_15 + 1) [(3, .int (x3_15 + 1)), (2, .int x2_15), (0, .ref hy), (1, .int se)] dX10_dropped_64 rfl rfl (by decide) rfl ?_
              refine x_goto C 15 dX10_dropped_67 (by decide) ?_
              have : (1 : Int32).toInt = 1 := by decide
              have := i_add (x := x3_15) (y := 1) (by omega) (by omega)
              exact ih_15 (x3_15 + 1) x2_15 op2_44 tl2_44 wy2_44 ⟨⟨by omega, i_15.1.2⟩, i_15.2.no (by omega) (by omega) h_44 (Int.not_lt.mpr e_55)⟩ (by omega)
            · skip
              have e_55 : ¬ (((wy2_44 (Int32.toNatClampNeg 0)) : Int64).toInt ≤ (0 : Int64).toInt) := fun h => c_55 (lc_le.mpr h)
              have : (0 : Int64).toInt = 0 := by decide
              refine x_iload_n C 0 dX10_dropped_58 rfl rfl ?_
              refine x_goto C 63 dX10_dropped_59 (by decide) ?_
              refine x_istore_n C [(2, .int x3_15), (3, .int x3_15), (0, .ref hy), (1, .int se)] dX10_dropped_63 rfl (by decide) rfl ?_
              refine x_iinc C 1 (x3_15 + 1) [(3, .int (x3_15 + 1)), (2, .int x3_15), (0, .ref hy), (1, .int se)] dX10_dropped_64 rfl rfl (by decide) rfl ?_
              refine x_goto C 15 dX10_dropped_67 (by decide) ?_
              have : (1 : Int32).toInt = 1 := by decide
              have := i_add (x := x3_15) (y := 1) (by omega) (by omega)
              exact ih_15 (x3_15 + 1) x3_15 op2_44 tl2_44 wy2_44 ⟨⟨by omega, Or.inl (by omega)⟩, i_15.2.take (by omega) (by omega) (Or.inl (by omega)) i_15.1.2 h_44 (Int.not_le.mp e_55)⟩ (by omega)
          · skip
            have e_26 : ¬ ((x2_15 : Int32).toInt < (0 : Int32).toInt) := fun h => c_26 (i_lt.mpr h)
            have : (0 : Int32).toInt = 0 := by decide
            refine x_iload_n C 0 dX10_dropped_29 rfl rfl ?_
            refine x_callS C [.int x3_15] [(hy, .inr (10, [.ref m0, .ref m1, .ref m2, .ref m3, .ref m4, .ref m5, .ref m6, .ref m7, .ref m8, .ref m9, .int mw, .int ml, .int mb, .ref m10, .int mz, .ref m11, .int ghy16_15, .int bp, .int by0, .int dp, .int tk, .ref m12, .ref m13, .ref m14, .ref m15, .ref m16, .ref m17, .ref m18, .int ka, .int iw])), (m11, .inl (cI, 4, .inl fm11_15)), (m2, .inl (cI, 4, .inl ma)), (m4, .inl (cI, 4, .inl mg)), (m5, .inl (cI, 4, .inl mt)), (m7, .inl (cI, 6, .inl wf)), (m8, .inl (cI, 6, .inl wp)), (m9, .inl (cI, 6, .inl wt)), (m0, .inl (cI, 625, .inl ro)), (m1, .inl (cI, 65, .inl co)), (m12, .inl (cJ, 40625, .inr (.inl fm12_15)))] [] [0, 1, 2, 3, 4, 5, 6, 7, 8, 9, 10] (c_X10_ones (xl X) (xD X) (xt X) hT x3_15 ) dX10_dropped_30 wd_480 wd_481 wd_5 wd_482 (np := 1) ⟨by decide, by decide, by decide +kernel⟩ rfl rfl (Nat.le_of_ble_eq_true rfl) (by decide) rfl (by decide) rfl (by decide) (by decide) (fun v W1 h => ?_)
            obtain ⟨_, rfl, rfl, h_30⟩ := h
            show V X 4 [(hy, .inr (10, [.ref m0, .ref m1, .ref m2, .ref m3, .ref m4, .ref m5, .ref m6, .ref m7, .ref m8, .ref m9, .int mw, .int ml, .int mb, .ref m10, .int mz, .ref m11, .int ghy16_15, .int bp, .int by0, .int dp, .int tk, .ref m12, .ref m13, .ref m14, .ref m15, .ref m16, .ref m17, .ref m18, .int ka, .int iw])), (m11, .inl (cI, 4, .inl fm11_15)), (m2, .inl (cI, 4, .inl ma)), (m4, .inl (cI, 4, .inl mg)), (m5, .inl (cI, 4, .inl mt)), (m7, .inl (cI, 6, .inl wf)), (m8, .inl (cI, 6, .inl wp)), (m9, .inl (cI, 6, .inl wt)), (m0, .inl (cI, 625, .inl ro)), (m1, .inl (cI, 65, .inl co)), (m12, .inl (cJ, 40625, .inr (.inl fm12_15)))] [(3, .int x3_15), (2, .int x2_15), (0, .ref hy), (1, .int se)] [.int (onesF x3_15)] 33 0 0
            refine x_iload_n C 1 dX10_dropped_33 rfl rfl ?_
            refine x_callS C [.int x2_15] [(hy, .inr (10, [.ref m0, .ref m1, .ref m2, .ref m3, .ref m4, .ref m5, .ref m6, .ref m7, .ref m8, .ref m9, .int mw, .int ml, .int mb, .ref m10, .int mz, .ref m11, .int ghy16_15, .int bp, .int by0, .int dp, .int tk, .ref m12, .ref m13, .ref m14, .ref m15, .ref m16, .ref m17, .ref m18, .int ka, .int iw])), (m11, .inl (cI, 4, .inl fm11_15)), (m2, .inl (cI, 4, .inl ma)), (m4, .inl (cI, 4, .inl mg)), (m5, .inl (cI, 4, .inl mt)), (m7, .inl (cI, 6, .inl wf)), (m8, .inl (cI, 6, .inl wp)), (m9, .inl (cI, 6, .inl wt)), (m0, .inl (cI, 625, .inl ro)), (m1, .inl (cI, 65, .inl co)), (m12, .inl (cJ, 40625, .inr (.inl fm12_15)))] [] [0, 1, 2, 3, 4, 5, 6, 7, 8, 9, 10] (c_X10_ones (xl X) (xD X) (xt X) hT x2_15 ) dX10_dropped_34 wd_480 wd_481 wd_5 wd_482 (np := 1) ⟨by decide, by decide, by decide +kernel⟩ rfl rfl (Nat.le_of_ble_eq_true rfl) (by decide) rfl (by decide) rfl (by decide) (by decide) (fun v W1 h => ?_)
            obtain ⟨_, rfl, rfl, h_34⟩ := h
            show V X 4 [(hy, .inr (10, [.ref m0, .ref m1, .ref m2, .ref m3, .ref m4, .ref m5, .ref m6, .ref m7, .ref m8, .ref m9, .int mw, .int ml, .int mb, .ref m10, .int mz, .ref m11, .int ghy16_15, .int bp, .int by0, .int dp, .int tk, .ref m12, .ref m13, .ref m14, .ref m15, .ref m16, .ref m17, .ref m18, .int ka, .int iw])), (m11, .inl (cI, 4, .inl fm11_15)), (m2, .inl (cI, 4, .inl ma)), (m4, .inl (cI, 4, .inl mg)), (m5, .inl (cI, 4, .inl mt)), (m7, .inl (cI, 6, .inl wf)), (m8, .inl (cI, 6, .inl wp)), (m9, .inl (cI, 6, .inl wt)), (m0, .inl (cI, 625, .inl ro)), (m1, .inl (cI, 65, .inl co)), (m12, .inl (cJ, 40625, .inr (.inl fm12_15)))] [(3, .int x3_15), (2, .int x2_15), (0, .ref hy), (1, .int se)] [.int (onesF x2_15), .int (onesF x3_15)] 37 0 0
            refine x_icmp_ge C 64 dX10_dropped_37 (by decide) (fun c_37 => ?_) (fun c_37 => ?_)
            · skip
              have e_37 : (onesF x2_15 : Int32).toInt ≤ (onesF x3_15 : Int32).toInt := i_le.mp c_37
              refine x_iinc C 0 (x3_15 + 1) [(3, .int (x3_15 + 1)), (2, .int x2_15), (0, .ref hy), (1, .int se)] dX10_dropped_64 rfl rfl (by decide) rfl ?_
              refine x_goto C 15 dX10_dropped_67 (by decide) ?_
              have : (1 : Int32).toInt = 1 := by decide
              have := i_add (x := x3_15) (y := 1) (by omega) (by omega)
              exact ih_15 (x3_15 + 1) x2_15 ghy16_15 fm11_15 fm12_15 ⟨⟨by omega, i_15.1.2⟩, i_15.2.skip (by omega) (by omega) (by omega) (by omega)⟩ (by omega)
            · skip
              have e_37 : ¬ ((onesF x2_15 : Int32).toInt ≤ (onesF x3_15 : Int32).toInt) := fun h => c_37 (i_le.mpr h)
              refine x_aload_n C 2 dX10_dropped_40 rfl rfl ?_
              refine x_iload_n C 3 dX10_dropped_41 rfl rfl ?_
              refine x_iconst C 4 dX10_dropped_42 (by decide) ?_
              refine x_iload_n C 0 dX10_dropped_43 rfl rfl ?_
              refine x_callV C [.int se, .int 4, .int x3_15] [] [0, 1, 2, 3, 4, 5, 6, 7, 8, 9, 10] [] (q0 := 0) (c_X10_findWays (xl X) (xD X) (xt X) hT hy m0 m1 m2 m3 m4 m5 m6 m7 m8 m9 m10 m11 m12 m13 m14 m15 m16 m17 m18 fm11_15 ma mg mt wf wp wt ro co fm12_15 mw ml mb mz ghy16_15 bp by0 dp tk ka iw se 4 x3_15 hR hpa hmw hwt) dX10_dropped_44 wd_568 wd_569 wd_570 wd_5 wd_571 (np := 3) ⟨by decide, by decide, by decide +kernel⟩ rfl rfl (Nat.le_of_ble_eq_true rfl) (by decide) rfl rfl rfl rfl (by decide) rfl (by decide) (by decide) (fun v W1 h => ?_)
              obtain ⟨tl2_44, op2_44, wy2_44, rfl, rfl, h_44⟩ := h
              have : (4 : Int32).toInt = 4 := by decide
              show V X 4 [(hy, .inr (10, [.ref m0, .ref m1, .ref m2, .ref m3, .ref m4, .ref m5, .ref m6, .ref m7, .ref m8, .ref m9, .int mw, .int ml, .int mb, .ref m10, .int mz, .ref m11, .int op2_44, .int bp, .int by0, .int dp, .int tk, .ref m12, .ref m13, .ref m14, .ref m15, .ref m16, .ref m17, .ref m18, .int ka, .int iw])), (m11, .inl (cI, 4, .inl tl2_44)), (m2, .inl (cI, 4, .inl ma)), (m4, .inl (cI, 4, .inl mg)), (m5, .inl (cI, 4, .inl mt)), (m7, .inl (cI, 6, .inl wf)), (m8, .inl (cI, 6, .inl wp)), (m9, .inl (cI, 6, .inl wt)), (m0, .inl (cI, 625, .inl ro)), (m1, .inl (cI, 65, .inl co)), (m12, .inl (cJ, 40625, .inr (.inl wy2_44)))] [(3, .int x3_15), (2, .int x2_15), (0, .ref hy), (1, .int se)] [] 47 0 0
              refine x_aload_n C 2 dX10_dropped_47 rfl rfl ?_
              refine x_get C 0 21 dX10_dropped_48 inlX10 rfl (by decide) wd_135 rfl rfl rfl ?_
              refine x_iconst C 0 dX10_dropped_51 (by decide) ?_
              have v_52 : vp_in 0 40625 := (vp_in_iff.mpr (by decide))
              refine x_lald C 10 1 dX10_dropped_52 hT.2.1 rfl v_52 ?_
              refine x_lconst C 0 dX10_dropped_53 (by decide) ?_
              refine x_lcmp C dX10_dropped_54 ?_
              refine x_if_le C 62 dX10_dropped_55 (by decide) (fun c_55 => ?_) (fun c_55 => ?_)
              · skip
                have e_55 : ((wy2_44 (Int32.toNatClampNeg 0)) : Int64).toInt ≤ (0 : Int64).toInt := lc_le.mp c_55
                have : (0 : Int64).toInt = 0 := by decide
                refine x_iload_n C 1 dX10_dropped_62 rfl rfl ?_
                refine x_istore_n C [(2, .int x2_15), (3, .int x3_15), (0, .ref hy), (1, .int se)] dX10_dropped_63 rfl (by decide) rfl ?_
                refine x_iinc C 1 (x3_15 + 1) [(3, .int (x3_15 + 1)), (2, .int x2_15), (0, .ref hy), (1, .int se)] dX10_dropped_64 rfl rfl (by decide) rfl ?_
                refine x_goto C 15 dX10_dropped_67 (by decide) ?_
                have : (1 : Int32).toInt = 1 := by decide
                have := i_add (x := x3_15) (y := 1) (by omega) (by omega)
                exact ih_15 (x3_15 + 1) x2_15 op2_44 tl2_44 wy2_44 ⟨⟨by omega, i_15.1.2⟩, i_15.2.no (by omega) (by omega) h_44 (Int.not_lt.mpr e_55)⟩ (by omega)
              · skip
                have e_55 : ¬ (((wy2_44 (Int32.toNatClampNeg 0)) : Int64).toInt ≤ (0 : Int64).toInt) := fun h => c_55 (lc_le.mpr h)
                have : (0 : Int64).toInt = 0 := by decide
                refine x_iload_n C 0 dX10_dropped_58 rfl rfl ?_
                refine x_goto C 63 dX10_dropped_59 (by decide) ?_
                refine x_istore_n C [(2, .int x3_15), (3, .int x3_15), (0, .ref hy), (1, .int se)] dX10_dropped_63 rfl (by decide) rfl ?_
                refine x_iinc C 1 (x3_15 + 1) [(3, .int (x3_15 + 1)), (2, .int x3_15), (0, .ref hy), (1, .int se)] dX10_dropped_64 rfl rfl (by decide) rfl ?_
                refine x_goto C 15 dX10_dropped_67 (by decide) ?_
                have : (1 : Int32).toInt = 1 := by decide
                have := i_add (x := x3_15) (y := 1) (by omega) (by omega)
                exact ih_15 (x3_15 + 1) x3_15 op2_44 tl2_44 wy2_44 ⟨⟨by omega, Or.inl (by omega)⟩, i_15.2.take (by omega) (by omega) (Or.inr (by omega)) i_15.1.2 h_44 (Int.not_le.mp e_55)⟩ (by omega)
    have : (0 : Int32).toInt = 0 := by decide
    have : ((-6) : Int32).toInt = -6 := by decide
    exact L_15 _ 0 ((-6)) op tl wy ⟨⟨by omega, Or.inr rfl⟩, RDI.z (by omega)⟩ (Nat.lt_succ_self _)
  · skip
    have e_4 : (r_1 : Int32).toInt = (0 : Int32).toInt := i_eq.mp c_4
    have : (0 : Int32).toInt = 0 := by decide
    refine x_bipush C (-2) dX10_dropped_7 (by decide) ?_
    have : ((-2) : Int32).toInt = -2 := by decide
    exact x_iret C dX10_dropped_9 (Nat.zero_le _) (Nat.zero_le _) (by rw [eO]; exact ⟨((-2)), tl, op, wy, rfl, rfl, (Or.inl ⟨by omega, rfl⟩)⟩)
abbrev rm_X10_ways : Room := { frames := 6, cells := 0, slots := 0, locals := 151 }
set_option maxHeartbeats 4000000 in
set_option maxRecDepth 100000 in
theorem c_X10_ways (l : Launch) (D : va_G) (tys : List (ClassId × FieldType)) {cI cJ cZ cB : ClassId} (hT : Ty tys cI cJ cZ cB) (hy m0 m1 m2 m3 m4 m5 m6 m7 m8 m9 m10 m11 m12 m13 m14 m15 m16 m17 m18 : Nat) (tl ma mg mt wf wp wt ro co : Nat → Int32) (wy : Nat → Int64) (mw ml mb mz op bp by0 dp tk ka iw : Int32) (se de : Int32) (hR : RT co ro) (hpa : POk ma) (hmw : 0 ≤ mw.toInt ∧ mw.toInt ≤ 6) (hwt : SOk wt) : Cn l D tys yX10_ways cX10_ways 3 (some .long) rm_X10_ways [(hy, .inr (10, [.ref m0, .ref m1, .ref m2, .ref m3, .ref m4, .ref m5, .ref m6, .ref m7, .ref m8, .ref m9, .int mw, .int ml, .int mb, .ref m10, .int mz, .ref m11, .int op, .int bp, .int by0, .int dp, .int tk, .ref m12, .ref m13, .ref m14, .ref m15, .ref m16, .ref m17, .ref m18, .int ka, .int iw])), (m11, .inl (cI, 4, .inl tl)), (m2, .inl (cI, 4, .inl ma)), (m4, .inl (cI, 4, .inl mg)), (m5, .inl (cI, 4, .inl mt)), (m7, .inl (cI, 6, .inl wf)), (m8, .inl (cI, 6, .inl wp)), (m9, .inl (cI, 6, .inl wt)), (m0, .inl (cI, 625, .inl ro)), (m1, .inl (cI, 65, .inl co)), (m12, .inl (cJ, 40625, .inr (.inl wy)))] [.ref hy, .int se, .int de] (fun v W1 => ∃ (r : Int64) (tl2 : Nat → Int32) (op2 : Int32) (wy2 : Nat → Int64), v = some (.long r) ∧ W1 = [(hy, .inr (10, [.ref m0, .ref m1, .ref m2, .ref m3, .ref m4, .ref m5, .ref m6, .ref m7, .ref m8, .ref m9, .int mw, .int ml, .int mb, .ref m10, .int mz, .ref m11, .int op2, .int bp, .int by0, .int dp, .int tk, .ref m12, .ref m13, .ref m14, .ref m15, .ref m16, .ref m17, .ref m18, .int ka, .int iw])), (m11, .inl (cI, 4, .inl tl2)), (m2, .inl (cI, 4, .inl ma)), (m4, .inl (cI, 4, .inl mg)), (m5, .inl (cI, 4, .inl mt)), (m7, .inl (cI, 6, .inl wf)), (m8, .inl (cI, 6, .inl wp)), (m9, .inl (cI, 6, .inl wt)), (m0, .inl (cI, 625, .inl ro)), (m1, .inl (cI, 65, .inl co)), (m12, .inl (cJ, 40625, .inr (.inl wy2)))] ∧ ((¬ ((1 ≤ se.toInt ∧ se.toInt ≤ 15) ∧ (1 ≤ de.toInt ∧ de.toInt ≤ 4)) ∧ r = -2) ∨ (((1 ≤ se.toInt ∧ se.toInt ≤ 15) ∧ (1 ≤ de.toInt ∧ de.toInt ≤ 4)) ∧ WFX ma mg mt wf wp wt mw ml co ro se de 0 wy2 ∧ r = wy2 0))) := by
  refine Cn.of (by decide) (Nat.le_of_ble_eq_true rfl) ?_ ?_ (fun X eL eD eT eO eK eN eM C => ?_)
  · intro h; cases h
  · intro v ws h; obtain ⟨_, _, _, _, rfl, rfl, _⟩ := h; rfl
  subst eL eD eT
  show V X 3 [(hy, .inr (10, [.ref m0, .ref m1, .ref m2, .ref m3, .ref m4, .ref m5, .ref m6, .ref m7, .ref m8, .ref m9, .int mw, .int ml, .int mb, .ref m10, .int mz, .ref m11, .int op, .int bp, .int by0, .int dp, .int tk, .ref m12, .ref m13, .ref m14, .ref m15, .ref m16, .ref m17, .ref m18, .int ka, .int iw])), (m11, .inl (cI, 4, .inl tl)), (m2, .inl (cI, 4, .inl ma)), (m4, .inl (cI, 4, .inl mg)), (m5, .inl (cI, 4, .inl mt)), (m7, .inl (cI, 6, .inl wf)), (m8, .inl (cI, 6, .inl wp)), (m9, .inl (cI, 6, .inl wt)), (m0, .inl (cI, 625, .inl ro)), (m1, .inl (cI, 65, .inl co)), (m12, .inl (cJ, 40625, .inr (.inl wy)))] [(0, .ref hy), (1, .int se), (2, .int de)] [] 0 0 0
  refine x_iload_n C 1 dX10_ways_0 rfl rfl ?_
  refine x_callS C [.int se] [(hy, .inr (10, [.ref m0, .ref m1, .ref m2, .ref m3, .ref m4, .ref m5, .ref m6, .ref m7, .ref m8, .ref m9, .int mw, .int ml, .int mb, .ref m10, .int mz, .ref m11, .int op, .int bp, .int by0, .int dp, .int tk, .ref m12, .ref m13, .ref m14, .ref m15, .ref m16, .ref m17, .ref m18, .int ka, .int iw])), (m11, .inl (cI, 4, .inl tl)), (m2, .inl (cI, 4, .inl ma)), (m4, .inl (cI, 4, .inl mg)), (m5, .inl (cI, 4, .inl mt)), (m7, .inl (cI, 6, .inl wf)), (m8, .inl (cI, 6, .inl wp)), (m9, .inl (cI, 6, .inl wt)), (m0, .inl (cI, 625, .inl ro)), (m1, .inl (cI, 65, .inl co)), (m12, .inl (cJ, 40625, .inr (.inl wy)))] [] [0, 1, 2, 3, 4, 5, 6, 7, 8, 9, 10] (c_X10_isSet (xl X) (xD X) (xt X) hT se ) dX10_ways_1 wd_565 wd_566 wd_5 wd_567 (np := 1) ⟨by decide, by decide, by decide +kernel⟩ rfl rfl (Nat.le_of_ble_eq_true rfl) (by decide) rfl (by decide) rfl (by decide) (by decide) (fun v W1 h => ?_)
  obtain ⟨r_1, rfl, rfl, h_1⟩ := h
  show V X 3 [(hy, .inr (10, [.ref m0, .ref m1, .ref m2, .ref m3, .ref m4, .ref m5, .ref m6, .ref m7, .ref m8, .ref m9, .int mw, .int ml, .int mb, .ref m10, .int mz, .ref m11, .int op, .int bp, .int by0, .int dp, .int tk, .ref m12, .ref m13, .ref m14, .ref m15, .ref m16, .ref m17, .ref m18, .int ka, .int iw])), (m11, .inl (cI, 4, .inl tl)), (m2, .inl (cI, 4, .inl ma)), (m4, .inl (cI, 4, .inl mg)), (m5, .inl (cI, 4, .inl mt)), (m7, .inl (cI, 6, .inl wf)), (m8, .inl (cI, 6, .inl wp)), (m9, .inl (cI, 6, .inl wt)), (m0, .inl (cI, 625, .inl ro)), (m1, .inl (cI, 65, .inl co)), (m12, .inl (cJ, 40625, .inr (.inl wy)))] [(0, .ref hy), (1, .int se), (2, .int de)] [.int r_1] 4 0 0
  refine x_if_eq C 19 dX10_ways_4 (by decide) (fun c_4 => ?_) (fun c_4 => ?_)
  · skip
    have e_4 : (r_1 : Int32).toInt = (0 : Int32).toInt := i_eq.mp c_4
    have : (0 : Int32).toInt = 0 := by decide
    refine x_ldc2 C dX10_ways_19 wd_564 ?_
    exact x_lret C dX10_ways_22 (Nat.zero_le _) (Nat.zero_le _) (by rw [eO]; exact ⟨((-2)), tl, op, wy, rfl, rfl, (Or.inl ⟨by omega, rfl⟩)⟩)
  · skip
    have e_4 : ¬ ((r_1 : Int32).toInt = (0 : Int32).toInt) := fun h => c_4 (i_eq.mpr h)
    have : (0 : Int32).toInt = 0 := by decide
    refine x_iload_n C 2 dX10_ways_7 rfl rfl ?_
    refine x_i2l C dX10_ways_8 ?_
    refine x_lconst C 1 dX10_ways_9 (by decide) ?_
    refine x_ldc2 C dX10_ways_10 wd_563 ?_
    refine x_callS C [.long (Int32.toInt64 de), .long 1, .long 4] [(hy, .inr (10, [.ref m0, .ref m1, .ref m2, .ref m3, .ref m4, .ref m5, .ref m6, .ref m7, .ref m8, .ref m9, .int mw, .int ml, .int mb, .ref m10, .int mz, .ref m11, .int op, .int bp, .int by0, .int dp, .int tk, .ref m12, .ref m13, .ref m14, .ref m15, .ref m16, .ref m17, .ref m18, .int ka, .int iw])), (m11, .inl (cI, 4, .inl tl)), (m2, .inl (cI, 4, .inl ma)), (m4, .inl (cI, 4, .inl mg)), (m5, .inl (cI, 4, .inl mt)), (m7, .inl (cI, 6, .inl wf)), (m8, .inl (cI, 6, .inl wp)), (m9, .inl (cI, 6, .inl wt)), (m0, .inl (cI, 625, .inl ro)), (m1, .inl (cI, 65, .inl co)), (m12, .inl (cJ, 40625, .inr (.inl wy)))] [] [0, 1, 2, 3, 4, 5, 6, 7, 8, 9, 10] (c_X10_in (xl X) (xD X) (xt X) hT (Int32.toInt64 de) 1 4 ) dX10_ways_13 wd_167 wd_168 wd_5 wd_169 (np := 3) ⟨by decide, by decide, by decide +kernel⟩ rfl rfl (Nat.le_of_ble_eq_true rfl) (by decide) rfl (by decide) rfl (by decide) (by decide) (fun v W1 h => ?_)
    obtain ⟨r_13, rfl, rfl, h_13⟩ := h
    have : (Int32.toInt64 de : Int64).toInt = (de : Int32).toInt := Int32.toInt_toInt64 _
    have : (1 : Int64).toInt = 1 := by decide
    have : (4 : Int64).toInt = 4 := by decide
    show V X 3 [(hy, .inr (10, [.ref m0, .ref m1, .ref m2, .ref m3, .ref m4, .ref m5, .ref m6, .ref m7, .ref m8, .ref m9, .int mw, .int ml, .int mb, .ref m10, .int mz, .ref m11, .int op, .int bp, .int by0, .int dp, .int tk, .ref m12, .ref m13, .ref m14, .ref m15, .ref m16, .ref m17, .ref m18, .int ka, .int iw])), (m11, .inl (cI, 4, .inl tl)), (m2, .inl (cI, 4, .inl ma)), (m4, .inl (cI, 4, .inl mg)), (m5, .inl (cI, 4, .inl mt)), (m7, .inl (cI, 6, .inl wf)), (m8, .inl (cI, 6, .inl wp)), (m9, .inl (cI, 6, .inl wt)), (m0, .inl (cI, 625, .inl ro)), (m1, .inl (cI, 65, .inl co)), (m12, .inl (cJ, 40625, .inr (.inl wy)))] [(0, .ref hy), (1, .int se), (2, .int de)] [.int r_13] 16 0 0
    refine x_if_ne C 23 dX10_ways_16 (by decide) (fun c_16 => ?_) (fun c_16 => ?_)
    · skip
      have e_16 : ¬ ((r_13 : Int32).toInt = (0 : Int32).toInt) := fun h => c_16 (i_eq.mpr h)
      have : (0 : Int32).toInt = 0 := by decide
      refine x_aload_n C 0 dX10_ways_23 rfl rfl ?_
      refine x_iload_n C 1 dX10_ways_24 rfl rfl ?_
      refine x_iload_n C 2 dX10_ways_25 rfl rfl ?_
      refine x_iconst C 0 dX10_ways_26 (by decide) ?_
      refine x_callV C [.int se, .int de, .int 0] [] [0, 1, 2, 3, 4, 5, 6, 7, 8, 9, 10] [] (q0 := 0) (c_X10_findWays (xl X) (xD X) (xt X) hT hy m0 m1 m2 m3 m4 m5 m6 m7 m8 m9 m10 m11 m12 m13 m14 m15 m16 m17 m18 tl ma mg mt wf wp wt ro co wy mw ml mb mz op bp by0 dp tk ka iw se de 0 hR hpa hmw hwt) dX10_ways_27 wd_568 wd_569 wd_570 wd_5 wd_571 (np := 3) ⟨by decide, by decide, by decide +kernel⟩ rfl rfl (Nat.le_of_ble_eq_true rfl) (by decide) rfl rfl rfl rfl (by decide) rfl (by decide) (by decide) (fun v W1 h => ?_)
      obtain ⟨tl2_27, op2_27, wy2_27, rfl, rfl, h_27⟩ := h
      have : (0 : Int32).toInt = 0 := by decide
      show V X 3 [(hy, .inr (10, [.ref m0, .ref m1, .ref m2, .ref m3, .ref m4, .ref m5, .ref m6, .ref m7, .ref m8, .ref m9, .int mw, .int ml, .int mb, .ref m10, .int mz, .ref m11, .int op2_27, .int bp, .int by0, .int dp, .int tk, .ref m12, .ref m13, .ref m14, .ref m15, .ref m16, .ref m17, .ref m18, .int ka, .int iw])), (m11, .inl (cI, 4, .inl tl2_27)), (m2, .inl (cI, 4, .inl ma)), (m4, .inl (cI, 4, .inl mg)), (m5, .inl (cI, 4, .inl mt)), (m7, .inl (cI, 6, .inl wf)), (m8, .inl (cI, 6, .inl wp)), (m9, .inl (cI, 6, .inl wt)), (m0, .inl (cI, 625, .inl ro)), (m1, .inl (cI, 65, .inl co)), (m12, .inl (cJ, 40625, .inr (.inl wy2_27)))] [(0, .ref hy), (1, .int se), (2, .int de)] [] 30 0 0
      refine x_aload_n C 0 dX10_ways_30 rfl rfl ?_
      refine x_get C 0 21 dX10_ways_31 inlX10 rfl (by decide) wd_135 rfl rfl rfl ?_
      refine x_iconst C 0 dX10_ways_34 (by decide) ?_
      have v_35 : vp_in 0 40625 := (vp_in_iff.mpr (by decide))
      refine x_lald C 10 1 dX10_ways_35 hT.2.1 rfl v_35 ?_
      exact x_lret C dX10_ways_36 (Nat.zero_le _) (Nat.zero_le _) (by rw [eO]; exact ⟨(wy2_27 (Int32.toNatClampNeg 0)), tl2_27, op2_27, wy2_27, rfl, rfl, (Or.inr ⟨by omega, h_27, rfl⟩)⟩)
    · skip
      have e_16 : (r_13 : Int32).toInt = (0 : Int32).toInt := i_eq.mp c_16
      have : (0 : Int32).toInt = 0 := by decide
      refine x_ldc2 C dX10_ways_19 wd_564 ?_
      exact x_lret C dX10_ways_22 (Nat.zero_le _) (Nat.zero_le _) (by rw [eO]; exact ⟨((-2)), tl, op, wy, rfl, rfl, (Or.inl ⟨by omega, rfl⟩)⟩)
