abbrev rm_X10_findHeard : Room := { frames := 5, cells := 0, slots := 0, locals := 119 }
set_option maxHeartbeats 4000000 in
set_option maxRecDepth 100000 in
theorem c_X10_findHeard (l : Launch) (D : va_G) (tys : List (ClassId × FieldType)) {cI cJ cZ cB : ClassId} (hT : Ty tys cI cJ cZ cB) (hy m0 m1 m2 m3 m4 m5 m6 m7 m8 m9 m10 m11 m12 m13 m14 m15 m16 m17 m18 : Nat) (tl ma mg mt wf wp wt ro co mm mp : Nat → Int32) (wy : Nat → Int64) (mw ml mb mz op bp by0 dp tk ka iw : Int32) (hR : RT co ro) (hpa : POk ma) (hmw : 0 ≤ mw.toInt ∧ mw.toInt ≤ 6) (hwt : SOk wt) (hz : 0 ≤ mz.toInt ∧ mz.toInt ≤ 30) : Cn l D tys yX10_findHeard cX10_findHeard 10 none rm_X10_findHeard [(hy, .inr (10, [.ref m0, .ref m1, .ref m2, .ref m3, .ref m4, .ref m5, .ref m6, .ref m7, .ref m8, .ref m9, .int mw, .int ml, .int mb, .ref m10, .int mz, .ref m11, .int op, .int bp, .int by0, .int dp, .int tk, .ref m12, .ref m13, .ref m14, .ref m15, .ref m16, .ref m17, .ref m18, .int ka, .int iw])), (m11, .inl (cI, 4, .inl tl)), (m2, .inl (cI, 4, .inl ma)), (m4, .inl (cI, 4, .inl mg)), (m5, .inl (cI, 4, .inl mt)), (m7, .inl (cI, 6, .inl wf)), (m8, .inl (cI, 6, .inl wp)), (m9, .inl (cI, 6, .inl wt)), (m0, .inl (cI, 625, .inl ro)), (m1, .inl (cI, 65, .inl co)), (m3, .inl (cI, 16, .inl mm)), (m10, .inl (cI, 30, .inl mp)), (m12, .inl (cJ, 40625, .inr (.inl wy)))] [.ref hy] (fun v W1 => ∃ (tl2 : Nat → Int32) (op2 : Int32) (wy2 : Nat → Int64), v = none ∧ W1 = [(hy, .inr (10, [.ref m0, .ref m1, .ref m2, .ref m3, .ref m4, .ref m5, .ref m6, .ref m7, .ref m8, .ref m9, .int mw, .int ml, .int mb, .ref m10, .int mz, .ref m11, .int op2, .int bp, .int by0, .int dp, .int tk, .ref m12, .ref m13, .ref m14, .ref m15, .ref m16, .ref m17, .ref m18, .int ka, .int iw])), (m11, .inl (cI, 4, .inl tl2)), (m2, .inl (cI, 4, .inl ma)), (m4, .inl (cI, 4, .inl mg)), (m5, .inl (cI, 4, .inl mt)), (m7, .inl (cI, 6, .inl wf)), (m8, .inl (cI, 6, .inl wp)), (m9, .inl (cI, 6, .inl wt)), (m0, .inl (cI, 625, .inl ro)), (m1, .inl (cI, 65, .inl co)), (m3, .inl (cI, 16, .inl mm)), (m10, .inl (cI, 30, .inl mp)), (m12, .inl (cJ, 40625, .inr (.inl wy2)))] ∧ (∀ st : Int32, 0 ≤ st.toInt → st.toInt < 40625 → wy2 st.toNatClampNeg = hdF ma mg mt wf wp wt mw ml co ro mm mp mz wy2 st)) := by
  refine Cn.of (by decide) (Nat.le_of_ble_eq_true rfl) ?_ ?_ (fun X eL eD eT eO eK eN eM C => ?_)
  · intro h; cases h
  · intro v ws h; obtain ⟨_, _, _, rfl, rfl, _⟩ := h; rfl
  subst eL eD eT
  show V X 10 [(hy, .inr (10, [.ref m0, .ref m1, .ref m2, .ref m3, .ref m4, .ref m5, .ref m6, .ref m7, .ref m8, .ref m9, .int mw, .int ml, .int mb, .ref m10, .int mz, .ref m11, .int op, .int bp, .int by0, .int dp, .int tk, .ref m12, .ref m13, .ref m14, .ref m15, .ref m16, .ref m17, .ref m18, .int ka, .int iw])), (m11, .inl (cI, 4, .inl tl)), (m2, .inl (cI, 4, .inl ma)), (m4, .inl (cI, 4, .inl mg)), (m5, .inl (cI, 4, .inl mt)), (m7, .inl (cI, 6, .inl wf)), (m8, .inl (cI, 6, .inl wp)), (m9, .inl (cI, 6, .inl wt)), (m0, .inl (cI, 625, .inl ro)), (m1, .inl (cI, 65, .inl co)), (m3, .inl (cI, 16, .inl mm)), (m10, .inl (cI, 30, .inl mp)), (m12, .inl (cJ, 40625, .inr (.inl wy)))] [(0, .ref hy)] [] 0 0 0
  refine x_bipush C 16 dX10_findHeard_0 (by decide) ?_
  refine x_istore_n C [(1, .int 16), (0, .ref hy)] dX10_findHeard_2 rfl (by decide) rfl ?_
  have L_3 : ∀ (n_3 : Nat) (x1_3 : Int32) (ghy16_3 : Int32) (fm11_3 : Nat → Int32) (fm12_3 : Nat → Int64), ((-1 ≤ x1_3.toInt ∧ x1_3.toInt ≤ 16) ∧ DW (hdF ma mg mt wf wp wt mw ml co ro mm mp mz) fm12_3 x1_3.toInt 0) → ((x1_3.toInt + 1).toNat < n_3) → V X 10 [(hy, .inr (10, [.ref m0, .ref m1, .ref m2, .ref m3, .ref m4, .ref m5, .ref m6, .ref m7, .ref m8, .ref m9, .int mw, .int ml, .int mb, .ref m10, .int mz, .ref m11, .int ghy16_3, .int bp, .int by0, .int dp, .int tk, .ref m12, .ref m13, .ref m14, .ref m15, .ref m16, .ref m17, .ref m18, .int ka, .int iw])), (m11, .inl (cI, 4, .inl fm11_3)), (m2, .inl (cI, 4, .inl ma)), (m4, .inl (cI, 4, .inl mg)), (m5, .inl (cI, 4, .inl mt)), (m7, .inl (cI, 6, .inl wf)), (m8, .inl (cI, 6, .inl wp)), (m9, .inl (cI, 6, .inl wt)), (m0, .inl (cI, 625, .inl ro)), (m1, .inl (cI, 65, .inl co)), (m3, .inl (cI, 16, .inl mm)), (m10, .inl (cI, 30, .inl mp)), (m12, .inl (cJ, 40625, .inr (.inl fm12_3)))] [(1, .int x1_3), (0, .ref hy)] [] 3 0 0 := by
    intro n_3
    induction n_3 with
    | zero =>
      intro x1_3 ghy16_3 fm11_3 fm12_3 i_3 m_3
      exact absurd m_3 (Nat.not_lt_zero _)
    | succ n_3 ih_3 =>
      intro x1_3 ghy16_3 fm11_3 fm12_3 i_3 m_3
      refine x_iload_n C 0 dX10_findHeard_3 rfl rfl ?_
      refine x_if_lt C 172 dX10_findHeard_4 (by decide) (fun c_4 => ?_) (fun c_4 => ?_)
      · skip
        have e_4 : (x1_3 : Int32).toInt < (0 : Int32).toInt := i_lt.mp c_4
        have : (0 : Int32).toInt = 0 := by decide
        exact x_vret C dX10_findHeard_172 (Nat.zero_le _) (Nat.zero_le _) (by rw [eO]; exact ⟨fm11_3, ghy16_3, fm12_3, rfl, rfl, (i_3.2.all (by omega))⟩)
      · skip
        have e_4 : ¬ ((x1_3 : Int32).toInt < (0 : Int32).toInt) := fun h => c_4 (i_lt.mpr h)
        have : (0 : Int32).toInt = 0 := by decide
        refine x_iconst C 0 dX10_findHeard_7 (by decide) ?_
        refine x_istore_n C [(2, .int 0), (1, .int x1_3), (0, .ref hy)] dX10_findHeard_8 rfl (by decide) rfl ?_
        have L_9 : ∀ (n_9 : Nat) (x2_9 : Int32) (ghy16_9 : Int32) (fm11_9 : Nat → Int32) (fm12_9 : Nat → Int64), ((0 ≤ x2_9.toInt ∧ x2_9.toInt ≤ 625) ∧ DW (hdF ma mg mt wf wp wt mw ml co ro mm mp mz) fm12_9 x1_3.toInt (65 * x2_9.toInt)) → ((625 - x2_9.toInt).toNat < n_9) → V X 10 [(hy, .inr (10, [.ref m0, .ref m1, .ref m2, .ref m3, .ref m4, .ref m5, .ref m6, .ref m7, .ref m8, .ref m9, .int mw, .int ml, .int mb, .ref m10, .int mz, .ref m11, .int ghy16_9, .int bp, .int by0, .int dp, .int tk, .ref m12, .ref m13, .ref m14, .ref m15, .ref m16, .ref m17, .ref m18, .int ka, .int iw])), (m11, .inl (cI, 4, .inl fm11_9)), (m2, .inl (cI, 4, .inl ma)), (m4, .inl (cI, 4, .inl mg)), (m5, .inl (cI, 4, .inl mt)), (m7, .inl (cI, 6, .inl wf)), (m8, .inl (cI, 6, .inl wp)), (m9, .inl (cI, 6, .inl wt)), (m0, .inl (cI, 625, .inl ro)), (m1, .inl (cI, 65, .inl co)), (m3, .inl (cI, 16, .inl mm)), (m10, .inl (cI, 30, .inl mp)), (m12, .inl (cJ, 40625, .inr (.inl fm12_9)))] [(2, .int x2_9), (1, .int x1_3), (0, .ref hy)] [] 9 0 0 := by
          intro n_9
          induction n_9 with
          | zero =>
            intro x2_9 ghy16_9 fm11_9 fm12_9 i_9 m_9
            exact absurd m_9 (Nat.not_lt_zero _)
          | succ n_9 ih_9 =>
            intro x2_9 ghy16_9 fm11_9 fm12_9 i_9 m_9
            refine x_iload_n C 0 dX10_findHeard_9 rfl rfl ?_
            refine x_sipush C 625 dX10_findHeard_10 (by decide) ?_
            refine x_icmp_ge C 166 dX10_findHeard_13 (by decide) (fun c_13 => ?_) (fun c_13 => ?_)
            · skip
              have e_13 : (625 : Int32).toInt ≤ (x2_9 : Int32).toInt := i_le.mp c_13
              have : (625 : Int32).toInt = 625 := by decide
              refine x_iinc C 1 (x1_3 - 1) [(1, .int (x1_3 - 1)), (2, .int x2_9), (0, .ref hy)] dX10_findHeard_166 rfl (i_m1 _) (by decide) rfl ?_
              refine x_goto C 3 dX10_findHeard_169 (by decide) ?_
              refine x_lv [(1, .int (x1_3 - 1)), (0, .ref hy)] [0, 2] rfl ?_
              have : (1 : Int32).toInt = 1 := by decide
              have := i_sub (x := x1_3) (y := 1) (by omega) (by omega)
              exact ih_3 (x1_3 - 1) ghy16_9 fm11_9 fm12_9 ⟨by omega, i_9.2.next (by omega) (by omega)⟩ (by omega)
            · skip
              have e_13 : ¬ ((625 : Int32).toInt ≤ (x2_9 : Int32).toInt) := fun h => c_13 (i_le.mpr h)
              have : (625 : Int32).toInt = 625 := by decide
              refine x_iconst C 0 dX10_findHeard_16 (by decide) ?_
              refine x_istore_n C [(3, .int 0), (2, .int x2_9), (1, .int x1_3), (0, .ref hy)] dX10_findHeard_17 rfl (by decide) rfl ?_
              have L_18 : ∀ (n_18 : Nat) (x3_18 : Int32) (ghy16_18 : Int32) (fm11_18 : Nat → Int32) (fm12_18 : Nat → Int64), ((0 ≤ x3_18.toInt ∧ x3_18.toInt ≤ 65) ∧ DW (hdF ma mg mt wf wp wt mw ml co ro mm mp mz) fm12_18 x1_3.toInt (65 * x2_9.toInt + x3_18.toInt)) → ((65 - x3_18.toInt).toNat < n_18) → V X 10 [(hy, .inr (10, [.ref m0, .ref m1, .ref m2, .ref m3, .ref m4, .ref m5, .ref m6, .ref m7, .ref m8, .ref m9, .int mw, .int ml, .int mb, .ref m10, .int mz, .ref m11, .int ghy16_18, .int bp, .int by0, .int dp, .int tk, .ref m12, .ref m13, .ref m14, .ref m15, .ref m16, .ref m17, .ref m18, .int ka, .int iw])), (m11, .inl (cI, 4, .inl fm11_18)), (m2, .inl (cI, 4, .inl ma)), (m4, .inl (cI, 4, .inl mg)), (m5, .inl (cI, 4, .inl mt)), (m7, .inl (cI, 6, .inl wf)), (m8, .inl (cI, 6, .inl wp)), (m9, .inl (cI, 6, .inl wt)), (m0, .inl (cI, 625, .inl ro)), (m1, .inl (cI, 65, .inl co)), (m3, .inl (cI, 16, .inl mm)), (m10, .inl (cI, 30, .inl mp)), (m12, .inl (cJ, 40625, .inr (.inl fm12_18)))] [(3, .int x3_18), (2, .int x2_9), (1, .int x1_3), (0, .ref hy)] [] 18 0 0 := by
                intro n_18
                induction n_18 with
                | zero =>
                  intro x3_18 ghy16_18 fm11_18 fm12_18 i_18 m_18
                  exact absurd m_18 (Nat.not_lt_zero _)
                | succ n_18 ih_18 =>
                  intro x3_18 ghy16_18 fm11_18 fm12_18 i_18 m_18
                  refine x_iload_n C 0 dX10_findHeard_18 rfl rfl ?_
                  refine x_bipush C 65 dX10_findHeard_19 (by decide) ?_
                  refine x_icmp_ge C 160 dX10_findHeard_21 (by decide) (fun c_21 => ?_) (fun c_21 => ?_)
                  · skip
                    have e_21 : (65 : Int32).toInt ≤ (x3_18 : Int32).toInt := i_le.mp c_21
                    have : (65 : Int32).toInt = 65 := by decide
                    refine x_iinc C 1 (x2_9 + 1) [(2, .int (x2_9 + 1)), (3, .int x3_18), (1, .int x1_3), (0, .ref hy)] dX10_findHeard_160 rfl rfl (by decide) rfl ?_
                    refine x_goto C 9 dX10_findHeard_163 (by decide) ?_
                    refine x_lv [(2, .int (x2_9 + 1)), (1, .int x1_3), (0, .ref hy)] [0, 2, 3] rfl ?_
                    have : (1 : Int32).toInt = 1 := by decide
                    have := i_add (x := x2_9) (y := 1) (by omega) (by omega)
                    exact ih_9 (x2_9 + 1) ghy16_18 fm11_18 fm12_18 ⟨by omega, by first | exact i_18.2.skip (by omega) (by omega) (by omega) (by omega) | exact i_18.2.mono (by omega)⟩ (by omega)
                  · skip
                    have e_21 : ¬ ((65 : Int32).toInt ≤ (x3_18 : Int32).toInt) := fun h => c_21 (i_le.mpr h)
                    have : (65 : Int32).toInt = 65 := by decide
                    refine x_iload_n C 1 dX10_findHeard_24 rfl rfl ?_
                    refine x_callS C [.int x2_9] [(hy, .inr (10, [.ref m0, .ref m1, .ref m2, .ref m3, .ref m4, .ref m5, .ref m6, .ref m7, .ref m8, .ref m9, .int mw, .int ml, .int mb, .ref m10, .int mz, .ref m11, .int ghy16_18, .int bp, .int by0, .int dp, .int tk, .ref m12, .ref m13, .ref m14, .ref m15, .ref m16, .ref m17, .ref m18, .int ka, .int iw])), (m11, .inl (cI, 4, .inl fm11_18)), (m2, .inl (cI, 4, .inl ma)), (m4, .inl (cI, 4, .inl mg)), (m5, .inl (cI, 4, .inl mt)), (m7, .inl (cI, 6, .inl wf)), (m8, .inl (cI, 6, .inl wp)), (m9, .inl (cI, 6, .inl wt)), (m0, .inl (cI, 625, .inl ro)), (m1, .inl (cI, 65, .inl co)), (m3, .inl (cI, 16, .inl mm)), (m10, .inl (cI, 30, .inl mp)), (m12, .inl (cJ, 40625, .inr (.inl fm12_18)))] [] [0, 1, 2, 3, 4, 5, 6, 7, 8, 9, 10, 11, 12] (c_X10_sumOf (xl X) (xD X) (xt X) hT x2_9 (by omega)) dX10_findHeard_25 wd_572 wd_573 wd_5 wd_574 (np := 1) ⟨by decide, by decide, by decide +kernel⟩ rfl rfl (Nat.le_of_ble_eq_true rfl) (by decide) rfl (by decide) rfl (by decide) (by decide) (fun v W1 h => ?_)
                    obtain ⟨r_25, rfl, rfl, h_25⟩ := h
                    show V X 10 [(hy, .inr (10, [.ref m0, .ref m1, .ref m2, .ref m3, .ref m4, .ref m5, .ref m6, .ref m7, .ref m8, .ref m9, .int mw, .int ml, .int mb, .ref m10, .int mz, .ref m11, .int ghy16_18, .int bp, .int by0, .int dp, .int tk, .ref m12, .ref m13, .ref m14, .ref m15, .ref m16, .ref m17, .ref m18, .int ka, .int iw])), (m11, .inl (cI, 4, .inl fm11_18)), (m2, .inl (cI, 4, .inl ma)), (m4, .inl (cI, 4, .inl mg)), (m5, .inl (cI, 4, .inl mt)), (m7, .inl (cI, 6, .inl wf)), (m8, .inl (cI, 6, .inl wp)), (m9, .inl (cI, 6, .inl wt)), (m0, .inl (cI, 625, .inl ro)), (m1, .inl (cI, 65, .inl co)), (m3, .inl (cI, 16, .inl mm)), (m10, .inl (cI, 30, .inl mp)), (m12, .inl (cJ, 40625, .inr (.inl fm12_18)))] [(3, .int x3_18), (2, .int x2_9), (1, .int x1_3), (0, .ref hy)] [.int r_25] 28 0 0
                    refine x_iload_n C 2 dX10_findHeard_28 rfl rfl ?_
                    refine x_icmp_ne C 160 dX10_findHeard_29 (by decide) (fun c_29 => ?_) (fun c_29 => ?_)
                    · skip
                      have e_29 : ¬ ((r_25 : Int32).toInt = (x1_3 : Int32).toInt) := fun h => c_29 (i_eq.mpr h)
                      refine x_iinc C 1 (x2_9 + 1) [(2, .int (x2_9 + 1)), (3, .int x3_18), (1, .int x1_3), (0, .ref hy)] dX10_findHeard_160 rfl rfl (by decide) rfl ?_
                      refine x_goto C 9 dX10_findHeard_163 (by decide) ?_
                      refine x_lv [(2, .int (x2_9 + 1)), (1, .int x1_3), (0, .ref hy)] [0, 2, 3] rfl ?_
                      have : (1 : Int32).toInt = 1 := by decide
                      have := i_add (x := x2_9) (y := 1) (by omega) (by omega)
                      exact ih_9 (x2_9 + 1) ghy16_18 fm11_18 fm12_18 ⟨by omega, by first | exact i_18.2.skip (by omega) (by omega) (by omega) (by omega) | exact i_18.2.mono (by omega)⟩ (by omega)
                    · skip
                      have e_29 : (r_25 : Int32).toInt = (x1_3 : Int32).toInt := i_eq.mp c_29
                      have : (65 : Int32).toInt = 65 := by decide
                      have := i_mull (x := 65) (y := x2_9) (d := 65) (by decide) (by omega) (by omega)
                      have st9 := i_add (x := 65 * x2_9) (y := x3_18) (by omega) (by omega)
                      have sm9 := sm_at (a := 65 * x2_9 + x3_18) (n := x2_9.toInt) (r := x3_18.toInt) (by omega) (by omega) (by omega)
                      have g1 := (opS_row hR (show 0 ≤ (65 * x2_9 + x3_18).toInt by omega)).rng
                      refine x_bipush C 65 dX10_findHeard_32 (by decide) ?_
                      refine x_iload_n C 1 dX10_findHeard_34 rfl rfl ?_
                      refine x_imul C dX10_findHeard_35 ?_
                      refine x_iload_n C 0 dX10_findHeard_36 rfl rfl ?_
                      refine x_iadd C dX10_findHeard_37 ?_
                      refine x_istore C [(4, .int ((65 * x2_9) + x3_18)), (3, .int x3_18), (2, .int x2_9), (1, .int x1_3), (0, .ref hy)] dX10_findHeard_38 (by decide) rfl ?_
                      refine x_aload_n C 4 dX10_findHeard_40 rfl rfl ?_
                      refine x_iload C 0 dX10_findHeard_41 rfl ?_
                      refine x_callV C [.int ((65 * x2_9) + x3_18)] [(m2, .inl (cI, 4, .inl ma)), (m4, .inl (cI, 4, .inl mg)), (m5, .inl (cI, 4, .inl mt)), (m7, .inl (cI, 6, .inl wf)), (m8, .inl (cI, 6, .inl wp)), (m9, .inl (cI, 6, .inl wt)), (m0, .inl (cI, 625, .inl ro)), (m3, .inl (cI, 16, .inl mm)), (m10, .inl (cI, 30, .inl mp)), (m12, .inl (cJ, 40625, .inr (.inl fm12_18)))] [0, 1, 9] [2, 3, 4, 5, 6, 7, 8, 10, 11, 12] (q0 := 0) (c_X10_lay (xl X) (xD X) (xt X) hT hy m0 m1 m2 m3 m4 m5 m6 m7 m8 m9 m10 m11 m12 m13 m14 m15 m16 m17 m18 fm11_18 co mw ml mb mz ghy16_18 bp by0 dp tk ka iw ((65 * x2_9) + x3_18) (by omega)) dX10_findHeard_43 wd_430 wd_431 wd_432 wd_5 wd_433 (np := 1) ⟨by decide, by decide, by decide +kernel⟩ rfl rfl (Nat.le_of_ble_eq_true rfl) (by decide) rfl rfl rfl rfl (by decide) rfl (by decide) (by decide) (fun v W1 h => ?_)
                      obtain ⟨_, rfl, rfl, h_43⟩ := h
                      show V X 10 [(m2, .inl (cI, 4, .inl ma)), (m4, .inl (cI, 4, .inl mg)), (m5, .inl (cI, 4, .inl mt)), (m7, .inl (cI, 6, .inl wf)), (m8, .inl (cI, 6, .inl wp)), (m9, .inl (cI, 6, .inl wt)), (m0, .inl (cI, 625, .inl ro)), (m3, .inl (cI, 16, .inl mm)), (m10, .inl (cI, 30, .inl mp)), (m12, .inl (cJ, 40625, .inr (.inl fm12_18))), (hy, .inr (10, [.ref m0, .ref m1, .ref m2, .ref m3, .ref m4, .ref m5, .ref m6, .ref m7, .ref m8, .ref m9, .int mw, .int ml, .int mb, .ref m10, .int mz, .ref m11, .int (opS co ((65 * x2_9) + x3_18)), .int bp, .int by0, .int dp, .int tk, .ref m12, .ref m13, .ref m14, .ref m15, .ref m16, .ref m17, .ref m18, .int ka, .int iw])), (m11, .inl (cI, 4, .inl (tds ((65 * x2_9) + x3_18)))), (m1, .inl (cI, 65, .inl co))] [(4, .int ((65 * x2_9) + x3_18)), (3, .int x3_18), (2, .int x2_9), (1, .int x1_3), (0, .ref hy)] [] 46 0 0
                      refine x_iload_n C 3 dX10_findHeard_46 rfl rfl ?_
                      refine x_aload_n C 4 dX10_findHeard_47 rfl rfl ?_
                      refine x_get C 10 14 dX10_findHeard_48 inlX10 rfl (by decide) wd_166 rfl rfl rfl ?_
                      refine x_icmp_ne C 67 dX10_findHeard_51 (by decide) (fun c_51 => ?_) (fun c_51 => ?_)
                      · skip
                        have e_51 : ¬ ((x1_3 : Int32).toInt = (mz : Int32).toInt) := fun h => c_51 (i_eq.mpr h)
                        refine x_lconst C 0 dX10_findHeard_67 (by decide) ?_
                        refine x_lstore C [(5, .long 0), (4, .int ((65 * x2_9) + x3_18)), (3, .int x3_18), (2, .int x2_9), (1, .int x1_3), (0, .ref hy)] dX10_findHeard_68 (by decide) rfl ?_
                        refine x_iload_n C 4 dX10_findHeard_70 rfl rfl ?_
                        refine x_aload_n C 5 dX10_findHeard_71 rfl rfl ?_
                        refine x_get C 10 14 dX10_findHeard_72 inlX10 rfl (by decide) wd_166 rfl rfl rfl ?_
                        refine x_icmp_ge C 91 dX10_findHeard_75 (by decide) (fun c_75 => ?_) (fun c_75 => ?_)
                        · skip
                          have e_75 : (mz : Int32).toInt ≤ (x1_3 : Int32).toInt := i_le.mp c_75
                          refine x_iconst C 0 dX10_findHeard_91 (by decide) ?_
                          refine x_istore C [(7, .int 0), (5, .long 0), (4, .int ((65 * x2_9) + x3_18)), (3, .int x3_18), (2, .int x2_9), (1, .int x1_3), (0, .ref hy)] dX10_findHeard_92 (by decide) rfl ?_
                          refine x_iconst C 0 dX10_findHeard_94 (by decide) ?_
                          refine x_istore C [(8, .int 0), (7, .int 0), (5, .long 0), (4, .int ((65 * x2_9) + x3_18)), (3, .int x3_18), (2, .int x2_9), (1, .int x1_3), (0, .ref hy)] dX10_findHeard_95 (by decide) rfl ?_
                          have L_97 : ∀ (n_97 : Nat) (x8_97 : Int32) (x7_97 : Int32) (x5_97 : Int64) (ghy16_97 : Int32) (fm11_97 : Nat → Int32), ((0 ≤ x8_97.toInt ∧ x8_97.toInt ≤ 4) ∧ ((x7_97.toInt = 0 ∧ x5_97 = hdF ma mg mt wf wp wt mw ml co ro mm mp mz fm12_18 (65 * x2_9 + x3_18)) ∨ (x7_97.toInt = 1 ∧ CB ma (tds (65 * x2_9 + x3_18)) (opS co (65 * x2_9 + x3_18)) 15 ∧ sm (65 * x2_9 + x3_18) < mz.toInt ∧ x5_97 = swF (fun s => hnF ma mg mt wf wp wt mw ml co ro mm mp mz (65 * x2_9 + x3_18) s) fm12_18 x8_97.toInt.toNat))) → ((4 - x8_97.toInt).toNat < n_97) → V X 10 [(m4, .inl (cI, 4, .inl mg)), (m5, .inl (cI, 4, .inl mt)), (m7, .inl (cI, 6, .inl wf)), (m8, .inl (cI, 6, .inl wp)), (m9, .inl (cI, 6, .inl wt)), (m0, .inl (cI, 625, .inl ro)), (m3, .inl (cI, 16, .inl mm)), (m10, .inl (cI, 30, .inl mp)), (m12, .inl (cJ, 40625, .inr (.inl fm12_18))), (m1, .inl (cI, 65, .inl co)), (hy, .inr (10, [.ref m0, .ref m1, .ref m2, .ref m3, .ref m4, .ref m5, .ref m6, .ref m7, .ref m8, .ref m9, .int mw, .int ml, .int mb, .ref m10, .int mz, .ref m11, .int ghy16_97, .int bp, .int by0, .int dp, .int tk, .ref m12, .ref m13, .ref m14, .ref m15, .ref m16, .ref m17, .ref m18, .int ka, .int iw])), (m11, .inl (cI, 4, .inl fm11_97)), (m2, .inl (cI, 4, .inl ma))] [(8, .int x8_97), (7, .int x7_97), (5, .long x5_97), (4, .int ((65 * x2_9) + x3_18)), (3, .int x3_18), (2, .int x2_9), (1, .int x1_3), (0, .ref hy)] [] 97 0 0 := by
                            intro n_97
                            induction n_97 with
                            | zero =>
                              intro x8_97 x7_97 x5_97 ghy16_97 fm11_97 i_97 m_97
                              exact absurd m_97 (Nat.not_lt_zero _)
                            | succ n_97 ih_97 =>
                              intro x8_97 x7_97 x5_97 ghy16_97 fm11_97 i_97 m_97
                              refine x_iload C 0 dX10_findHeard_97 rfl ?_
                              refine x_iconst C 4 dX10_findHeard_99 (by decide) ?_
                              refine x_icmp_ge C 145 dX10_findHeard_100 (by decide) (fun c_100 => ?_) (fun c_100 => ?_)
                              · skip
                                have e_100 : (4 : Int32).toInt ≤ (x8_97 : Int32).toInt := i_le.mp c_100
                                have : (4 : Int32).toInt = 4 := by decide
                                have f9 : x5_97 = hdF ma mg mt wf wp wt mw ml co ro mm mp mz fm12_18 (65 * x2_9 + x3_18) := by
                                  rcases i_97.2 with h | h
                                  · exact h.2
                                  · first
                                    | (rw [h.2.2.2, show x8_97.toInt.toNat = 4 by omega]; exact hd_s h.2.1 h.2.2.1)
                                    | (exfalso; omega)
                                refine x_aload_n C 7 dX10_findHeard_145 rfl rfl ?_
                                refine x_get C 10 21 dX10_findHeard_146 inlX10 rfl (by decide) wd_135 rfl rfl rfl ?_
                                refine x_iload C 3 dX10_findHeard_149 rfl ?_
                                refine x_lload C 2 dX10_findHeard_151 rfl ?_
                                have v_153 : vp_in ((65 * x2_9) + x3_18) 40625 := (vp_in_iff.mpr (by omega))
                                refine x_last C 8 1 [(m4, .inl (cI, 4, .inl mg)), (m5, .inl (cI, 4, .inl mt)), (m7, .inl (cI, 6, .inl wf)), (m8, .inl (cI, 6, .inl wp)), (m9, .inl (cI, 6, .inl wt)), (m0, .inl (cI, 625, .inl ro)), (m3, .inl (cI, 16, .inl mm)), (m10, .inl (cI, 30, .inl mp)), (m12, .inl (cJ, 40625, .inr (.inl (vp_updL fm12_18 (Int32.toNatClampNeg ((65 * x2_9) + x3_18)) x5_97)))), (m1, .inl (cI, 65, .inl co)), (hy, .inr (10, [.ref m0, .ref m1, .ref m2, .ref m3, .ref m4, .ref m5, .ref m6, .ref m7, .ref m8, .ref m9, .int mw, .int ml, .int mb, .ref m10, .int mz, .ref m11, .int ghy16_97, .int bp, .int by0, .int dp, .int tk, .ref m12, .ref m13, .ref m14, .ref m15, .ref m16, .ref m17, .ref m18, .int ka, .int iw])), (m11, .inl (cI, 4, .inl fm11_97)), (m2, .inl (cI, 4, .inl ma))] dX10_findHeard_153 hT.2.1 rfl v_153 rfl ?_
                                have step9 := (DW.step (hd_lc hpa hR) i_18.2 (st := 65 * x2_9 + x3_18) (b' := 65 * x2_9.toInt + (x3_18.toInt + 1)) (by omega) (by omega) (by omega) (by omega) (by omega)).mono (b' := 65 * x2_9.toInt + (x3_18 + 1).toInt) (by have := t1_; have := i_add (x := x3_18) (y := 1) (by omega) (by omega); omega)
                                rw [← f9] at step9
                                refine x_iinc C 4 (x3_18 + 1) [(3, .int (x3_18 + 1)), (8, .int x8_97), (7, .int x7_97), (5, .long x5_97), (4, .int ((65 * x2_9) + x3_18)), (2, .int x2_9), (1, .int x1_3), (0, .ref hy)] dX10_findHeard_154 rfl rfl (by decide) rfl ?_
                                refine x_goto C 18 dX10_findHeard_157 (by decide) ?_
                                refine x_sub [(hy, .inr (10, [.ref m0, .ref m1, .ref m2, .ref m3, .ref m4, .ref m5, .ref m6, .ref m7, .ref m8, .ref m9, .int mw, .int ml, .int mb, .ref m10, .int mz, .ref m11, .int ghy16_97, .int bp, .int by0, .int dp, .int tk, .ref m12, .ref m13, .ref m14, .ref m15, .ref m16, .ref m17, .ref m18, .int ka, .int iw])), (m11, .inl (cI, 4, .inl fm11_97)), (m2, .inl (cI, 4, .inl ma)), (m4, .inl (cI, 4, .inl mg)), (m5, .inl (cI, 4, .inl mt)), (m7, .inl (cI, 6, .inl wf)), (m8, .inl (cI, 6, .inl wp)), (m9, .inl (cI, 6, .inl wt)), (m0, .inl (cI, 625, .inl ro)), (m1, .inl (cI, 65, .inl co)), (m3, .inl (cI, 16, .inl mm)), (m10, .inl (cI, 30, .inl mp)), (m12, .inl (cJ, 40625, .inr (.inl (vp_updL fm12_18 (Int32.toNatClampNeg ((65 * x2_9) + x3_18)) x5_97))))] [10, 11, 12, 0, 1, 2, 3, 4, 5, 9, 6, 7, 8] (by decide) rfl ?_
                                refine x_lv [(3, .int (x3_18 + 1)), (2, .int x2_9), (1, .int x1_3), (0, .ref hy)] [0, 5, 6, 7] rfl ?_
                                have : (1 : Int32).toInt = 1 := by decide
                                have := i_add (x := x3_18) (y := 1) (by omega) (by omega)
                                exact ih_18 (x3_18 + 1) ghy16_97 fm11_97 (vp_updL fm12_18 (Int32.toNatClampNeg ((65 * x2_9) + x3_18)) x5_97) ⟨by omega, step9⟩ (by omega)
                              · skip
                                have e_100 : ¬ ((4 : Int32).toInt ≤ (x8_97 : Int32).toInt) := fun h => c_100 (i_le.mpr h)
                                have : (4 : Int32).toInt = 4 := by decide
                                refine x_iload C 1 dX10_findHeard_103 rfl ?_
                                refine x_if_eq C 145 dX10_findHeard_105 (by decide) (fun c_105 => ?_) (fun c_105 => ?_)
                                · skip
                                  have e_105 : (x7_97 : Int32).toInt = (0 : Int32).toInt := i_eq.mp c_105
                                  have : (0 : Int32).toInt = 0 := by decide
                                  have f9 : x5_97 = hdF ma mg mt wf wp wt mw ml co ro mm mp mz fm12_18 (65 * x2_9 + x3_18) := by
                                    rcases i_97.2 with h | h
                                    · exact h.2
                                    · first
                                      | (rw [h.2.2.2, show x8_97.toInt.toNat = 4 by omega]; exact hd_s h.2.1 h.2.2.1)
                                      | (exfalso; omega)
                                  refine x_aload_n C 7 dX10_findHeard_145 rfl rfl ?_
                                  refine x_get C 10 21 dX10_findHeard_146 inlX10 rfl (by decide) wd_135 rfl rfl rfl ?_
                                  refine x_iload C 3 dX10_findHeard_149 rfl ?_
                                  refine x_lload C 2 dX10_findHeard_151 rfl ?_
                                  have v_153 : vp_in ((65 * x2_9) + x3_18) 40625 := (vp_in_iff.mpr (by omega))
                                  refine x_last C 8 1 [(m4, .inl (cI, 4, .inl mg)), (m5, .inl (cI, 4, .inl mt)), (m7, .inl (cI, 6, .inl wf)), (m8, .inl (cI, 6, .inl wp)), (m9, .inl (cI, 6, .inl wt)), (m0, .inl (cI, 625, .inl ro)), (m3, .inl (cI, 16, .inl mm)), (m10, .inl (cI, 30, .inl mp)), (m12, .inl (cJ, 40625, .inr (.inl (vp_updL fm12_18 (Int32.toNatClampNeg ((65 * x2_9) + x3_18)) x5_97)))), (m1, .inl (cI, 65, .inl co)), (hy, .inr (10, [.ref m0, .ref m1, .ref m2, .ref m3, .ref m4, .ref m5, .ref m6, .ref m7, .ref m8, .ref m9, .int mw, .int ml, .int mb, .ref m10, .int mz, .ref m11, .int ghy16_97, .int bp, .int by0, .int dp, .int tk, .ref m12, .ref m13, .ref m14, .ref m15, .ref m16, .ref m17, .ref m18, .int ka, .int iw])), (m11, .inl (cI, 4, .inl fm11_97)), (m2, .inl (cI, 4, .inl ma))] dX10_findHeard_153 hT.2.1 rfl v_153 rfl ?_
                                  have step9 := (DW.step (hd_lc hpa hR) i_18.2 (st := 65 * x2_9 + x3_18) (b' := 65 * x2_9.toInt + (x3_18.toInt + 1)) (by omega) (by omega) (by omega) (by omega) (by omega)).mono (b' := 65 * x2_9.toInt + (x3_18 + 1).toInt) (by have := t1_; have := i_add (x := x3_18) (y := 1) (by omega) (by omega); omega)
                                  rw [← f9] at step9
                                  refine x_iinc C 4 (x3_18 + 1) [(3, .int (x3_18 + 1)), (8, .int x8_97), (7, .int x7_97), (5, .long x5_97), (4, .int ((65 * x2_9) + x3_18)), (2, .int x2_9), (1, .int x1_3), (0, .ref hy)] dX10_findHeard_154 rfl rfl (by decide) rfl ?_
                                  refine x_goto C 18 dX10_findHeard_157 (by decide) ?_
                                  refine x_sub [(hy, .inr (10, [.ref m0, .ref m1, .ref m2, .ref m3, .ref m4, .ref m5, .ref m6, .ref m7, .ref m8, .ref m9, .int mw, .int ml, .int mb, .ref m10, .int mz, .ref m11, .int ghy16_97, .int bp, .int by0, .int dp, .int tk, .ref m12, .ref m13, .ref m14, .ref m15, .ref m16, .ref m17, .ref m18, .int ka, .int iw])), (m11, .inl (cI, 4, .inl fm11_97)), (m2, .inl (cI, 4, .inl ma)), (m4, .inl (cI, 4, .inl mg)), (m5, .inl (cI, 4, .inl mt)), (m7, .inl (cI, 6, .inl wf)), (m8, .inl (cI, 6, .inl wp)), (m9, .inl (cI, 6, .inl wt)), (m0, .inl (cI, 625, .inl ro)), (m1, .inl (cI, 65, .inl co)), (m3, .inl (cI, 16, .inl mm)), (m10, .inl (cI, 30, .inl mp)), (m12, .inl (cJ, 40625, .inr (.inl (vp_updL fm12_18 (Int32.toNatClampNeg ((65 * x2_9) + x3_18)) x5_97))))] [10, 11, 12, 0, 1, 2, 3, 4, 5, 9, 6, 7, 8] (by decide) rfl ?_
                                  refine x_lv [(3, .int (x3_18 + 1)), (2, .int x2_9), (1, .int x1_3), (0, .ref hy)] [0, 5, 6, 7] rfl ?_
                                  have : (1 : Int32).toInt = 1 := by decide
                                  have := i_add (x := x3_18) (y := 1) (by omega) (by omega)
                                  exact ih_18 (x3_18 + 1) ghy16_97 fm11_97 (vp_updL fm12_18 (Int32.toNatClampNeg ((65 * x2_9) + x3_18)) x5_97) ⟨by omega, step9⟩ (by omega)
                                · skip
                                  have e_105 : ¬ ((x7_97 : Int32).toInt = (0 : Int32).toInt) := fun h => c_105 (i_eq.mpr h)
                                  have : (0 : Int32).toInt = 0 := by decide
                                  have q9 := i_97.2.resolve_left (fun h => by omega)
                                  have g9 := q9.2.1.gd hpa hR.1 (show 0 ≤ (65 * x2_9 + x3_18).toInt by omega)
                                  refine x_aload_n C 7 dX10_findHeard_108 rfl rfl ?_
                                  refine x_iload C 3 dX10_findHeard_109 rfl ?_
                                  refine x_iload C 0 dX10_findHeard_111 rfl ?_
                                  refine x_callV C [.int ((65 * x2_9) + x3_18), .int x8_97] [(m12, .inl (cJ, 40625, .inr (.inl fm12_18)))] [10, 11, 12, 0, 1, 2, 3, 4, 5, 9, 6, 7] [8] (q0 := 0) (c_X10_heardNext (xl X) (xD X) (xt X) hT hy m0 m1 m2 m3 m4 m5 m6 m7 m8 m9 m10 m11 m12 m13 m14 m15 m16 m17 m18 fm11_97 ma mg mt wf wp wt ro co mm mp mw ml mb mz ghy16_97 bp by0 dp tk ka iw ((65 * x2_9) + x3_18) x8_97 (by omega) hR g9 (by omega) hmw hwt hz) dX10_findHeard_113 wd_795 wd_796 wd_797 wd_5 wd_798 (np := 2) ⟨by decide, by decide, by decide +kernel⟩ rfl rfl (Nat.le_of_ble_eq_true rfl) (by decide) rfl rfl rfl rfl (by decide) rfl (by decide) (by decide) (fun v W1 h => ?_)
                                  obtain ⟨tl2_113, op2_113, rfl, rfl, h_113⟩ := h
                                  show V X 10 [(m12, .inl (cJ, 40625, .inr (.inl fm12_18))), (hy, .inr (10, [.ref m0, .ref m1, .ref m2, .ref m3, .ref m4, .ref m5, .ref m6, .ref m7, .ref m8, .ref m9, .int mw, .int ml, .int mb, .ref m10, .int mz, .ref m11, .int op2_113, .int bp, .int by0, .int dp, .int tk, .ref m12, .ref m13, .ref m14, .ref m15, .ref m16, .ref m17, .ref m18, .int ka, .int iw])), (m11, .inl (cI, 4, .inl tl2_113)), (m2, .inl (cI, 4, .inl ma)), (m4, .inl (cI, 4, .inl mg)), (m5, .inl (cI, 4, .inl mt)), (m7, .inl (cI, 6, .inl wf)), (m8, .inl (cI, 6, .inl wp)), (m9, .inl (cI, 6, .inl wt)), (m0, .inl (cI, 625, .inl ro)), (m1, .inl (cI, 65, .inl co)), (m3, .inl (cI, 16, .inl mm)), (m10, .inl (cI, 30, .inl mp))] [(8, .int x8_97), (7, .int x7_97), (5, .long x5_97), (4, .int ((65 * x2_9) + x3_18)), (3, .int x3_18), (2, .int x2_9), (1, .int x1_3), (0, .ref hy)] [.int (hnF ma mg mt wf wp wt mw ml co ro mm mp mz ((65 * x2_9) + x3_18) x8_97)] 116 0 0
                                  refine x_istore C [(9, .int (hnF ma mg mt wf wp wt mw ml co ro mm mp mz ((65 * x2_9) + x3_18) x8_97)), (8, .int x8_97), (7, .int x7_97), (5, .long x5_97), (4, .int ((65 * x2_9) + x3_18)), (3, .int x3_18), (2, .int x2_9), (1, .int x1_3), (0, .ref hy)] dX10_findHeard_116 (by decide) rfl ?_
                                  refine x_lload C 3 dX10_findHeard_118 rfl ?_
                                  refine x_iload C 0 dX10_findHeard_120 rfl ?_
                                  refine x_if_ge C 129 dX10_findHeard_122 (by decide) (fun c_122 => ?_) (fun c_122 => ?_)
                                  · skip
                                    have e_122 : (0 : Int32).toInt ≤ (hnF ma mg mt wf wp wt mw ml co ro mm mp mz ((65 * x2_9) + x3_18) x8_97 : Int32).toInt := i_le.mp c_122
                                    have : (0 : Int32).toInt = 0 := by decide
                                    refine x_aload_n C 8 dX10_findHeard_129 rfl rfl ?_
                                    refine x_get C 1 21 dX10_findHeard_130 inlX10 rfl (by decide) wd_135 rfl rfl rfl ?_
                                    refine x_iload C 0 dX10_findHeard_133 rfl ?_
                                    have v_135 : vp_in (hnF ma mg mt wf wp wt mw ml co ro mm mp mz ((65 * x2_9) + x3_18) x8_97) 40625 := (vp_in_iff.mpr (by have := (hn_ok hR (by omega) g9 (by omega) (ge0 e_122)).1; omega))
                                    refine x_lald C 0 1 dX10_findHeard_135 hT.2.1 rfl v_135 ?_
                                    refine x_ladd C dX10_findHeard_136 ?_
                                    refine x_lstore C [(5, .long (x5_97 + (fm12_18 (Int32.toNatClampNeg (hnF ma mg mt wf wp wt mw ml co ro mm mp mz ((65 * x2_9) + x3_18) x8_97))))), (9, .int (hnF ma mg mt wf wp wt mw ml co ro mm mp mz ((65 * x2_9) + x3_18) x8_97)), (8, .int x8_97), (7, .int x7_97), (4, .int ((65 * x2_9) + x3_18)), (3, .int x3_18), (2, .int x2_9), (1, .int x1_3), (0, .ref hy)] dX10_findHeard_137 (by decide) rfl ?_
                                    refine x_iinc C 2 (x8_97 + 1) [(8, .int (x8_97 + 1)), (5, .long (x5_97 + (fm12_18 (Int32.toNatClampNeg (hnF ma mg mt wf wp wt mw ml co ro mm mp mz ((65 * x2_9) + x3_18) x8_97))))), (9, .int (hnF ma mg mt wf wp wt mw ml co ro mm mp mz ((65 * x2_9) + x3_18) x8_97)), (7, .int x7_97), (4, .int ((65 * x2_9) + x3_18)), (3, .int x3_18), (2, .int x2_9), (1, .int x1_3), (0, .ref hy)] dX10_findHeard_139 rfl rfl (by decide) rfl ?_
                                    refine x_goto C 97 dX10_findHeard_142 (by decide) ?_
                                    refine x_sub [(m4, .inl (cI, 4, .inl mg)), (m5, .inl (cI, 4, .inl mt)), (m7, .inl (cI, 6, .inl wf)), (m8, .inl (cI, 6, .inl wp)), (m9, .inl (cI, 6, .inl wt)), (m0, .inl (cI, 625, .inl ro)), (m3, .inl (cI, 16, .inl mm)), (m10, .inl (cI, 30, .inl mp)), (m12, .inl (cJ, 40625, .inr (.inl fm12_18))), (m1, .inl (cI, 65, .inl co)), (hy, .inr (10, [.ref m0, .ref m1, .ref m2, .ref m3, .ref m4, .ref m5, .ref m6, .ref m7, .ref m8, .ref m9, .int mw, .int ml, .int mb, .ref m10, .int mz, .ref m11, .int op2_113, .int bp, .int by0, .int dp, .int tk, .ref m12, .ref m13, .ref m14, .ref m15, .ref m16, .ref m17, .ref m18, .int ka, .int iw])), (m11, .inl (cI, 4, .inl tl2_113)), (m2, .inl (cI, 4, .inl ma))] [4, 5, 6, 7, 8, 9, 11, 12, 0, 10, 1, 2, 3] (by decide) rfl ?_
                                    refine x_lv [(8, .int (x8_97 + 1)), (7, .int x7_97), (5, .long (x5_97 + (fm12_18 (Int32.toNatClampNeg (hnF ma mg mt wf wp wt mw ml co ro mm mp mz ((65 * x2_9) + x3_18) x8_97))))), (4, .int ((65 * x2_9) + x3_18)), (3, .int x3_18), (2, .int x2_9), (1, .int x1_3), (0, .ref hy)] [0, 3, 1, 4, 5, 6, 7, 8] rfl ?_
                                    have := t0_
                                    have := t1_
                                    have : (1 : Int32).toInt = 1 := by decide
                                    have := i_add (x := x8_97) (y := 1) (by omega) (by omega)
                                    exact ih_97 (x8_97 + 1) x7_97 (x5_97 + (fm12_18 (Int32.toNatClampNeg (hnF ma mg mt wf wp wt mw ml co ro mm mp mz ((65 * x2_9) + x3_18) x8_97)))) op2_113 tl2_113 ⟨by omega, Or.inr ⟨by omega, q9.2.1, by omega, by first | exact (congrArg (fun z => z + 0) q9.2.2.2).trans (swF_n (nx := fun s => hnF ma mg mt wf wp wt mw ml co ro mm mp mz (65 * x2_9 + x3_18) s) (x := x8_97) (by omega) (by omega) (by omega)).symm | exact (congrArg (fun z => z + _) q9.2.2.2).trans (swF_p (nx := fun s => hnF ma mg mt wf wp wt mw ml co ro mm mp mz (65 * x2_9 + x3_18) s) (x := x8_97) (by omega) (by omega) (ge0 e_122)).symm⟩⟩ (by omega)
                                  · skip
                                    have e_122 : ¬ ((0 : Int32).toInt ≤ (hnF ma mg mt wf wp wt mw ml co ro mm mp mz ((65 * x2_9) + x3_18) x8_97 : Int32).toInt) := fun h => c_122 (i_le.mpr h)
                                    have : (0 : Int32).toInt = 0 := by decide
                                    refine x_lconst C 0 dX10_findHeard_125 (by decide) ?_
                                    refine x_goto C 136 dX10_findHeard_126 (by decide) ?_
                                    refine x_ladd C dX10_findHeard_136 ?_
                                    refine x_lstore C [(5, .long (x5_97 + 0)), (9, .int (hnF ma mg mt wf wp wt mw ml co ro mm mp mz ((65 * x2_9) + x3_18) x8_97)), (8, .int x8_97), (7, .int x7_97), (4, .int ((65 * x2_9) + x3_18)), (3, .int x3_18), (2, .int x2_9), (1, .int x1_3), (0, .ref hy)] dX10_findHeard_137 (by decide) rfl ?_
                                    refine x_iinc C 2 (x8_97 + 1) [(8, .int (x8_97 + 1)), (5, .long (x5_97 + 0)), (9, .int (hnF ma mg mt wf wp wt mw ml co ro mm mp mz ((65 * x2_9) + x3_18) x8_97)), (7, .int x7_97), (4, .int ((65 * x2_9) + x3_18)), (3, .int x3_18), (2, .int x2_9), (1, .int x1_3), (0, .ref hy)] dX10_findHeard_139 rfl rfl (by decide) rfl ?_
                                    refine x_goto C 97 dX10_findHeard_142 (by decide) ?_
                                    refine x_sub [(m4, .inl (cI, 4, .inl mg)), (m5, .inl (cI, 4, .inl mt)), (m7, .inl (cI, 6, .inl wf)), (m8, .inl (cI, 6, .inl wp)), (m9, .inl (cI, 6, .inl wt)), (m0, .inl (cI, 625, .inl ro)), (m3, .inl (cI, 16, .inl mm)), (m10, .inl (cI, 30, .inl mp)), (m12, .inl (cJ, 40625, .inr (.inl fm12_18))), (m1, .inl (cI, 65, .inl co)), (hy, .inr (10, [.ref m0, .ref m1, .ref m2, .ref m3, .ref m4, .ref m5, .ref m6, .ref m7, .ref m8, .ref m9, .int mw, .int ml, .int mb, .ref m10, .int mz, .ref m11, .int op2_113, .int bp, .int by0, .int dp, .int tk, .ref m12, .ref m13, .ref m14, .ref m15, .ref m16, .ref m17, .ref m18, .int ka, .int iw])), (m11, .inl (cI, 4, .inl tl2_113)), (m2, .inl (cI, 4, .inl ma))] [4, 5, 6, 7, 8, 9, 11, 12, 0, 10, 1, 2, 3] (by decide) rfl ?_
                                    refine x_lv [(8, .int (x8_97 + 1)), (7, .int x7_97), (5, .long (x5_97 + 0)), (4, .int ((65 * x2_9) + x3_18)), (3, .int x3_18), (2, .int x2_9), (1, .int x1_3), (0, .ref hy)] [0, 3, 1, 4, 5, 6, 7, 8] rfl ?_
                                    have := t0_
                                    have := t1_
                                    have : (1 : Int32).toInt = 1 := by decide
                                    have := i_add (x := x8_97) (y := 1) (by omega) (by omega)
                                    exact ih_97 (x8_97 + 1) x7_97 (x5_97 + 0) op2_113 tl2_113 ⟨by omega, Or.inr ⟨by omega, q9.2.1, by omega, by first | exact (congrArg (fun z => z + 0) q9.2.2.2).trans (swF_n (nx := fun s => hnF ma mg mt wf wp wt mw ml co ro mm mp mz (65 * x2_9 + x3_18) s) (x := x8_97) (by omega) (by omega) (by omega)).symm | exact (congrArg (fun z => z + _) q9.2.2.2).trans (swF_p (nx := fun s => hnF ma mg mt wf wp wt mw ml co ro mm mp mz (65 * x2_9 + x3_18) s) (x := x8_97) (by omega) (by omega) (ge0 e_122)).symm⟩⟩ (by omega)
                          refine x_sub [(m4, .inl (cI, 4, .inl mg)), (m5, .inl (cI, 4, .inl mt)), (m7, .inl (cI, 6, .inl wf)), (m8, .inl (cI, 6, .inl wp)), (m9, .inl (cI, 6, .inl wt)), (m0, .inl (cI, 625, .inl ro)), (m3, .inl (cI, 16, .inl mm)), (m10, .inl (cI, 30, .inl mp)), (m12, .inl (cJ, 40625, .inr (.inl fm12_18))), (m1, .inl (cI, 65, .inl co)), (hy, .inr (10, [.ref m0, .ref m1, .ref m2, .ref m3, .ref m4, .ref m5, .ref m6, .ref m7, .ref m8, .ref m9, .int mw, .int ml, .int mb, .ref m10, .int mz, .ref m11, .int (opS co ((65 * x2_9) + x3_18)), .int bp, .int by0, .int dp, .int tk, .ref m12, .ref m13, .ref m14, .ref m15, .ref m16, .ref m17, .ref m18, .int ka, .int iw])), (m11, .inl (cI, 4, .inl (tds ((65 * x2_9) + x3_18)))), (m2, .inl (cI, 4, .inl ma))] [1, 2, 3, 4, 5, 6, 7, 8, 9, 12, 10, 11, 0] (by decide) rfl ?_
                          have := t0_
                          have := t1_
                          have : (0 : Int32).toInt = 0 := by decide
                          have : (0 : Int32).toInt = 0 := by decide
                          exact L_97 _ 0 0 0 (opS co ((65 * x2_9) + x3_18)) (tds ((65 * x2_9) + x3_18)) ⟨by omega, by first | exact Or.inl ⟨by omega, hd_b (by omega) (by omega)⟩ | (exfalso; omega)⟩ (Nat.lt_succ_self _)
                        · skip
                          have e_75 : ¬ ((mz : Int32).toInt ≤ (x1_3 : Int32).toInt) := fun h => c_75 (i_le.mpr h)
                          refine x_aload_n C 5 dX10_findHeard_78 rfl rfl ?_
                          refine x_bipush C 15 dX10_findHeard_79 (by decide) ?_
                          refine x_callV C [.int 15] [(m4, .inl (cI, 4, .inl mg)), (m5, .inl (cI, 4, .inl mt)), (m7, .inl (cI, 6, .inl wf)), (m8, .inl (cI, 6, .inl wp)), (m9, .inl (cI, 6, .inl wt)), (m0, .inl (cI, 625, .inl ro)), (m3, .inl (cI, 16, .inl mm)), (m10, .inl (cI, 30, .inl mp)), (m12, .inl (cJ, 40625, .inr (.inl fm12_18))), (m1, .inl (cI, 65, .inl co))] [10, 11, 0] [1, 2, 3, 4, 5, 6, 7, 8, 9, 12] (q0 := 0) (c_X10_canBe (xl X) (xD X) (xt X) hT hy m0 m1 m2 m3 m4 m5 m6 m7 m8 m9 m10 m11 m12 m13 m14 m15 m16 m17 m18 (tds ((65 * x2_9) + x3_18)) ma mw ml mb mz (opS co ((65 * x2_9) + x3_18)) bp by0 dp tk ka iw 15 (by omega)) dX10_findHeard_81 wd_579 wd_580 wd_581 wd_5 wd_582 (np := 1) ⟨by decide, by decide, by decide +kernel⟩ rfl rfl (Nat.le_of_ble_eq_true rfl) (by decide) rfl rfl rfl rfl (by decide) rfl (by decide) (by decide) (fun v W1 h => ?_)
                          obtain ⟨r_81, rfl, rfl, h_81⟩ := h
                          have : (15 : Int32).toInt = 15 := by decide
                          show V X 10 [(m4, .inl (cI, 4, .inl mg)), (m5, .inl (cI, 4, .inl mt)), (m7, .inl (cI, 6, .inl wf)), (m8, .inl (cI, 6, .inl wp)), (m9, .inl (cI, 6, .inl wt)), (m0, .inl (cI, 625, .inl ro)), (m3, .inl (cI, 16, .inl mm)), (m10, .inl (cI, 30, .inl mp)), (m12, .inl (cJ, 40625, .inr (.inl fm12_18))), (m1, .inl (cI, 65, .inl co)), (hy, .inr (10, [.ref m0, .ref m1, .ref m2, .ref m3, .ref m4, .ref m5, .ref m6, .ref m7, .ref m8, .ref m9, .int mw, .int ml, .int mb, .ref m10, .int mz, .ref m11, .int ((opS co ((65 * x2_9) + x3_18))), .int bp, .int by0, .int dp, .int tk, .ref m12, .ref m13, .ref m14, .ref m15, .ref m16, .ref m17, .ref m18, .int ka, .int iw])), (m11, .inl (cI, 4, .inl ((tds ((65 * x2_9) + x3_18))))), (m2, .inl (cI, 4, .inl ma))] [(5, .long 0), (4, .int ((65 * x2_9) + x3_18)), (3, .int x3_18), (2, .int x2_9), (1, .int x1_3), (0, .ref hy)] [.int r_81] 84 0 0
                          refine x_if_eq C 91 dX10_findHeard_84 (by decide) (fun c_84 => ?_) (fun c_84 => ?_)
                          · skip
                            have e_84 : (r_81 : Int32).toInt = (0 : Int32).toInt := i_eq.mp c_84
                            have : (0 : Int32).toInt = 0 := by decide
                            refine x_iconst C 0 dX10_findHeard_91 (by decide) ?_
                            refine x_istore C [(7, .int 0), (5, .long 0), (4, .int ((65 * x2_9) + x3_18)), (3, .int x3_18), (2, .int x2_9), (1, .int x1_3), (0, .ref hy)] dX10_findHeard_92 (by decide) rfl ?_
                            refine x_iconst C 0 dX10_findHeard_94 (by decide) ?_
                            refine x_istore C [(8, .int 0), (7, .int 0), (5, .long 0), (4, .int ((65 * x2_9) + x3_18)), (3, .int x3_18), (2, .int x2_9), (1, .int x1_3), (0, .ref hy)] dX10_findHeard_95 (by decide) rfl ?_
                            have L_97 : ∀ (n_97 : Nat) (x8_97 : Int32) (x7_97 : Int32) (x5_97 : Int64) (ghy16_97 : Int32) (fm11_97 : Nat → Int32), ((0 ≤ x8_97.toInt ∧ x8_97.toInt ≤ 4) ∧ ((x7_97.toInt = 0 ∧ x5_97 = hdF ma mg mt wf wp wt mw ml co ro mm mp mz fm12_18 (65 * x2_9 + x3_18)) ∨ (x7_97.toInt = 1 ∧ CB ma (tds (65 * x2_9 + x3_18)) (opS co (65 * x2_9 + x3_18)) 15 ∧ sm (65 * x2_9 + x3_18) < mz.toInt ∧ x5_97 = swF (fun s => hnF ma mg mt wf wp wt mw ml co ro mm mp mz (65 * x2_9 + x3_18) s) fm12_18 x8_97.toInt.toNat))) → ((4 - x8_97.toInt).toNat < n_97) → V X 10 [(m4, .inl (cI, 4, .inl mg)), (m5, .inl (cI, 4, .inl mt)), (m7, .inl (cI, 6, .inl wf)), (m8, .inl (cI, 6, .inl wp)), (m9, .inl (cI, 6, .inl wt)), (m0, .inl (cI, 625, .inl ro)), (m3, .inl (cI, 16, .inl mm)), (m10, .inl (cI, 30, .inl mp)), (m12, .inl (cJ, 40625, .inr (.inl fm12_18))), (m1, .inl (cI, 65, .inl co)), (hy, .inr (10, [.ref m0, .ref m1, .ref m2, .ref m3, .ref m4, .ref m5, .ref m6, .ref m7, .ref m8, .ref m9, .int mw, .int ml, .int mb, .ref m10, .int mz, .ref m11, .int ghy16_97, .int bp, .int by0, .int dp, .int tk, .ref m12, .ref m13, .ref m14, .ref m15, .ref m16, .ref m17, .ref m18, .int ka, .int iw])), (m11, .inl (cI, 4, .inl fm11_97)), (m2, .inl (cI, 4, .inl ma))] [(8, .int x8_97), (7, .int x7_97), (5, .long x5_97), (4, .int ((65 * x2_9) + x3_18)), (3, .int x3_18), (2, .int x2_9), (1, .int x1_3), (0, .ref hy)] [] 97 0 0 := by
                              intro n_97
                              induction n_97 with
                              | zero =>
                                intro x8_97 x7_97 x5_97 ghy16_97 fm11_97 i_97 m_97
                                exact absurd m_97 (Nat.not_lt_zero _)
                              | succ n_97 ih_97 =>
                                intro x8_97 x7_97 x5_97 ghy16_97 fm11_97 i_97 m_97
                                refine x_iload C 0 dX10_findHeard_97 rfl ?_
                                refine x_iconst C 4 dX10_findHeard_99 (by decide) ?_
                                refine x_icmp_ge C 145 dX10_findHeard_100 (by decide) (fun c_100 => ?_) (fun c_100 => ?_)
                                · skip
                                  have e_100 : (4 : Int32).toInt ≤ (x8_97 : Int32).toInt := i_le.mp c_100
                                  have : (4 : Int32).toInt = 4 := by decide
                                  have f9 : x5_97 = hdF ma mg mt wf wp wt mw ml co ro mm mp mz fm12_18 (65 * x2_9 + x3_18) := by
                                    rcases i_97.2 with h | h
                                    · exact h.2
                                    · first
                                      | (rw [h.2.2.2, show x8_97.toInt.toNat = 4 by omega]; exact hd_s h.2.1 h.2.2.1)
                                      | (exfalso; omega)
                                  refine x_aload_n C 7 dX10_findHeard_145 rfl rfl ?_
                                  refine x_get C 10 21 dX10_findHeard_146 inlX10 rfl (by decide) wd_135 rfl rfl rfl ?_
                                  refine x_iload C 3 dX10_findHeard_149 rfl ?_
                                  refine x_lload C 2 dX10_findHeard_151 rfl ?_
                                  have v_153 : vp_in ((65 * x2_9) + x3_18) 40625 := (vp_in_iff.mpr (by omega))
                                  refine x_last C 8 1 [(m4, .inl (cI, 4, .inl mg)), (m5, .inl (cI, 4, .inl mt)), (m7, .inl (cI, 6, .inl wf)), (m8, .inl (cI, 6, .inl wp)), (m9, .inl (cI, 6, .inl wt)), (m0, .inl (cI, 625, .inl ro)), (m3, .inl (cI, 16, .inl mm)), (m10, .inl (cI, 30, .inl mp)), (m12, .inl (cJ, 40625, .inr (.inl (vp_updL fm12_18 (Int32.toNatClampNeg ((65 * x2_9) + x3_18)) x5_97)))), (m1, .inl (cI, 65, .inl co)), (hy, .inr (10, [.ref m0, .ref m1, .ref m2, .ref m3, .ref m4, .ref m5, .ref m6, .ref m7, .ref m8, .ref m9, .int mw, .int ml, .int mb, .ref m10, .int mz, .ref m11, .int ghy16_97, .int bp, .int by0, .int dp, .int tk, .ref m12, .ref m13, .ref m14, .ref m15, .ref m16, .ref m17, .ref m18, .int ka, .int iw])), (m11, .inl (cI, 4, .inl fm11_97)), (m2, .inl (cI, 4, .inl ma))] dX10_findHeard_153 hT.2.1 rfl v_153 rfl ?_
                                  have step9 := (DW.step (hd_lc hpa hR) i_18.2 (st := 65 * x2_9 + x3_18) (b' := 65 * x2_9.toInt + (x3_18.toInt + 1)) (by omega) (by omega) (by omega) (by omega) (by omega)).mono (b' := 65 * x2_9.toInt + (x3_18 + 1).toInt) (by have := t1_; have := i_add (x := x3_18) (y := 1) (by omega) (by omega); omega)
                                  rw [← f9] at step9
                                  refine x_iinc C 4 (x3_18 + 1) [(3, .int (x3_18 + 1)), (8, .int x8_97), (7, .int x7_97), (5, .long x5_97), (4, .int ((65 * x2_9) + x3_18)), (2, .int x2_9), (1, .int x1_3), (0, .ref hy)] dX10_findHeard_154 rfl rfl (by decide) rfl ?_
                                  refine x_goto C 18 dX10_findHeard_157 (by decide) ?_
                                  refine x_sub [(hy, .inr (10, [.ref m0, .ref m1, .ref m2, .ref m3, .ref m4, .ref m5, .ref m6, .ref m7, .ref m8, .ref m9, .int mw, .int ml, .int mb, .ref m10, .int mz, .ref m11, .int ghy16_97, .int bp, .int by0, .int dp, .int tk, .ref m12, .ref m13, .ref m14, .ref m15, .ref m16, .ref m17, .ref m18, .int ka, .int iw])), (m11, .inl (cI, 4, .inl fm11_97)), (m2, .inl (cI, 4, .inl ma)), (m4, .inl (cI, 4, .inl mg)), (m5, .inl (cI, 4, .inl mt)), (m7, .inl (cI, 6, .inl wf)), (m8, .inl (cI, 6, .inl wp)), (m9, .inl (cI, 6, .inl wt)), (m0, .inl (cI, 625, .inl ro)), (m1, .inl (cI, 65, .inl co)), (m3, .inl (cI, 16, .inl mm)), (m10, .inl (cI, 30, .inl mp)), (m12, .inl (cJ, 40625, .inr (.inl (vp_updL fm12_18 (Int32.toNatClampNeg ((65 * x2_9) + x3_18)) x5_97))))] [10, 11, 12, 0, 1, 2, 3, 4, 5, 9, 6, 7, 8] (by decide) rfl ?_
                                  refine x_lv [(3, .int (x3_18 + 1)), (2, .int x2_9), (1, .int x1_3), (0, .ref hy)] [0, 5, 6, 7] rfl ?_
                                  have : (1 : Int32).toInt = 1 := by decide
                                  have := i_add (x := x3_18) (y := 1) (by omega) (by omega)
                                  exact ih_18 (x3_18 + 1) ghy16_97 fm11_97 (vp_updL fm12_18 (Int32.toNatClampNeg ((65 * x2_9) + x3_18)) x5_97) ⟨by omega, step9⟩ (by omega)
                                · skip
                                  have e_100 : ¬ ((4 : Int32).toInt ≤ (x8_97 : Int32).toInt) := fun h => c_100 (i_le.mpr h)
                                  have : (4 : Int32).toInt = 4 := by decide
                                  refine x_iload C 1 dX10_findHeard_103 rfl ?_
                                  refine x_if_eq C 145 dX10_findHeard_105 (by decide) (fun c_105 => ?_) (fun c_105 => ?_)
                                  · skip
                                    have e_105 : (x7_97 : Int32).toInt = (0 : Int32).toInt := i_eq.mp c_105
                                    have : (0 : Int32).toInt = 0 := by decide
                                    have f9 : x5_97 = hdF ma mg mt wf wp wt mw ml co ro mm mp mz fm12_18 (65 * x2_9 + x3_18) := by
                                      rcases i_97.2 with h | h
                                      · exact h.2
                                      · first
                                        | (rw [h.2.2.2, show x8_97.toInt.toNat = 4 by omega]; exact hd_s h.2.1 h.2.2.1)
                                        | (exfalso; omega)
                                    refine x_aload_n C 7 dX10_findHeard_145 rfl rfl ?_
                                    refine x_get C 10 21 dX10_findHeard_146 inlX10 rfl (by decide) wd_135 rfl rfl rfl ?_
                                    refine x_iload C 3 dX10_findHeard_149 rfl ?_
                                    refine x_lload C 2 dX10_findHeard_151 rfl ?_
                                    have v_153 : vp_in ((65 * x2_9) + x3_18) 40625 := (vp_in_iff.mpr (by omega))
                                    refine x_last C 8 1 [(m4, .inl (cI, 4, .inl mg)), (m5, .inl (cI, 4, .inl mt)), (m7, .inl (cI, 6, .inl wf)), (m8, .inl (cI, 6, .inl wp)), (m9, .inl (cI, 6, .inl wt)), (m0, .inl (cI, 625, .inl ro)), (m3, .inl (cI, 16, .inl mm)), (m10, .inl (cI, 30, .inl mp)), (m12, .inl (cJ, 40625, .inr (.inl (vp_updL fm12_18 (Int32.toNatClampNeg ((65 * x2_9) + x3_18)) x5_97)))), (m1, .inl (cI, 65, .inl co)), (hy, .inr (10, [.ref m0, .ref m1, .ref m2, .ref m3, .ref m4, .ref m5, .ref m6, .ref m7, .ref m8, .ref m9, .int mw, .int ml, .int mb, .ref m10, .int mz, .ref m11, .int ghy16_97, .int bp, .int by0, .int dp, .int tk, .ref m12, .ref m13, .ref m14, .ref m15, .ref m16, .ref m17, .ref m18, .int ka, .int iw])), (m11, .inl (cI, 4, .inl fm11_97)), (m2, .inl (cI, 4, .inl ma))] dX10_findHeard_153 hT.2.1 rfl v_153 rfl ?_
                                    have step9 := (DW.step (hd_lc hpa hR) i_18.2 (st := 65 * x2_9 + x3_18) (b' := 65 * x2_9.toInt + (x3_18.toInt + 1)) (by omega) (by omega) (by omega) (by omega) (by omega)).mono (b' := 65 * x2_9.toInt + (x3_18 + 1).toInt) (by have := t1_; have := i_add (x := x3_18) (y := 1) (by omega) (by omega); omega)
                                    rw [← f9] at step9
                                    refine x_iinc C 4 (x3_18 + 1) [(3, .int (x3_18 + 1)), (8, .int x8_97), (7, .int x7_97), (5, .long x5_97), (4, .int ((65 * x2_9) + x3_18)), (2, .int x2_9), (1, .int x1_3), (0, .ref hy)] dX10_findHeard_154 rfl rfl (by decide) rfl ?_
                                    refine x_goto C 18 dX10_findHeard_157 (by decide) ?_
                                    refine x_sub [(hy, .inr (10, [.ref m0, .ref m1, .ref m2, .ref m3, .ref m4, .ref m5, .ref m6, .ref m7, .ref m8, .ref m9, .int mw, .int ml, .int mb, .ref m10, .int mz, .ref m11, .int ghy16_97, .int bp, .int by0, .int dp, .int tk, .ref m12, .ref m13, .ref m14, .ref m15, .ref m16, .ref m17, .ref m18, .int ka, .int iw])), (m11, .inl (cI, 4, .inl fm11_97)), (m2, .inl (cI, 4, .inl ma)), (m4, .inl (cI, 4, .inl mg)), (m5, .inl (cI, 4, .inl mt)), (m7, .inl (cI, 6, .inl wf)), (m8, .inl (cI, 6, .inl wp)), (m9, .inl (cI, 6, .inl wt)), (m0, .inl (cI, 625, .inl ro)), (m1, .inl (cI, 65, .inl co)), (m3, .inl (cI, 16, .inl mm)), (m10, .inl (cI, 30, .inl mp)), (m12, .inl (cJ, 40625, .inr (.inl (vp_updL fm12_18 (Int32.toNatClampNeg ((65 * x2_9) + x3_18)) x5_97))))] [10, 11, 12, 0, 1, 2, 3, 4, 5, 9, 6, 7, 8] (by decide) rfl ?_
                                    refine x_lv [(3, .int (x3_18 + 1)), (2, .int x2_9), (1, .int x1_3), (0, .ref hy)] [0, 5, 6, 7] rfl ?_
                                    have : (1 : Int32).toInt = 1 := by decide
                                    have := i_add (x := x3_18) (y := 1) (by omega) (by omega)
                                    exact ih_18 (x3_18 + 1) ghy16_97 fm11_97 (vp_updL fm12_18 (Int32.toNatClampNeg ((65 * x2_9) + x3_18)) x5_97) ⟨by omega, step9⟩ (by omega)
                                  · skip
                                    have e_105 : ¬ ((x7_97 : Int32).toInt = (0 : Int32).toInt) := fun h => c_105 (i_eq.mpr h)
                                    have : (0 : Int32).toInt = 0 := by decide
                                    have q9 := i_97.2.resolve_left (fun h => by omega)
                                    have g9 := q9.2.1.gd hpa hR.1 (show 0 ≤ (65 * x2_9 + x3_18).toInt by omega)
                                    refine x_aload_n C 7 dX10_findHeard_108 rfl rfl ?_
                                    refine x_iload C 3 dX10_findHeard_109 rfl ?_
                                    refine x_iload C 0 dX10_findHeard_111 rfl ?_
                                    refine x_callV C [.int ((65 * x2_9) + x3_18), .int x8_97] [(m12, .inl (cJ, 40625, .inr (.inl fm12_18)))] [10, 11, 12, 0, 1, 2, 3, 4, 5, 9, 6, 7] [8] (q0 := 0) (c_X10_heardNext (xl X) (xD X) (xt X) hT hy m0 m1 m2 m3 m4 m5 m6 m7 m8 m9 m10 m11 m12 m13 m14 m15 m16 m17 m18 fm11_97 ma mg mt wf wp wt ro co mm mp mw ml mb mz ghy16_97 bp by0 dp tk ka iw ((65 * x2_9) + x3_18) x8_97 (by omega) hR g9 (by omega) hmw hwt hz) dX10_findHeard_113 wd_795 wd_796 wd_797 wd_5 wd_798 (np := 2) ⟨by decide, by decide, by decide +kernel⟩ rfl rfl (Nat.le_of_ble_eq_true rfl) (by decide) rfl rfl rfl rfl (by decide) rfl (by decide) (by decide) (fun v W1 h => ?_)
                                    obtain ⟨tl2_113, op2_113, rfl, rfl, h_113⟩ := h
                                    show V X 10 [(m12, .inl (cJ, 40625, .inr (.inl fm12_18))), (hy, .inr (10, [.ref m0, .ref m1, .ref m2, .ref m3, .ref m4, .ref m5, .ref m6, .ref m7, .ref m8, .ref m9, .int mw, .int ml, .int mb, .ref m10, .int mz, .ref m11, .int op2_113, .int bp, .int by0, .int dp, .int tk, .ref m12, .ref m13, .ref m14, .ref m15, .ref m16, .ref m17, .ref m18, .int ka, .int iw])), (m11, .inl (cI, 4, .inl tl2_113)), (m2, .inl (cI, 4, .inl ma)), (m4, .inl (cI, 4, .inl mg)), (m5, .inl (cI, 4, .inl mt)), (m7, .inl (cI, 6, .inl wf)), (m8, .inl (cI, 6, .inl wp)), (m9, .inl (cI, 6, .inl wt)), (m0, .inl (cI, 625, .inl ro)), (m1, .inl (cI, 65, .inl co)), (m3, .inl (cI, 16, .inl mm)), (m10, .inl (cI, 30, .inl mp))] [(8, .int x8_97), (7, .int x7_97), (5, .long x5_97), (4, .int ((65 * x2_9) + x3_18)), (3, .int x3_18), (2, .int x2_9), (1, .int x1_3), (0, .ref hy)] [.int (hnF ma mg mt wf wp wt mw ml co ro mm mp mz ((65 * x2_9) + x3_18) x8_97)] 116 0 0
                                    refine x_istore C [(9, .int (hnF ma mg mt wf wp wt mw ml co ro mm mp mz ((65 * x2_9) + x3_18) x8_97)), (8, .int x8_97), (7, .int x7_97), (5, .long x5_97), (4, .int ((65 * x2_9) + x3_18)), (3, .int x3_18), (2, .int x2_9), (1, .int x1_3), (0, .ref hy)] dX10_findHeard_116 (by decide) rfl ?_
                                    refine x_lload C 3 dX10_findHeard_118 rfl ?_
                                    refine x_iload C 0 dX10_findHeard_120 rfl ?_
                                    refine x_if_ge C 129 dX10_findHeard_122 (by decide) (fun c_122 => ?_) (fun c_122 => ?_)
                                    · skip
                                      have e_122 : (0 : Int32).toInt ≤ (hnF ma mg mt wf wp wt mw ml co ro mm mp mz ((65 * x2_9) + x3_18) x8_97 : Int32).toInt := i_le.mp c_122
                                      have : (0 : Int32).toInt = 0 := by decide
                                      refine x_aload_n C 8 dX10_findHeard_129 rfl rfl ?_
                                      refine x_get C 1 21 dX10_findHeard_130 inlX10 rfl (by decide) wd_135 rfl rfl rfl ?_
                                      refine x_iload C 0 dX10_findHeard_133 rfl ?_
                                      have v_135 : vp_in (hnF ma mg mt wf wp wt mw ml co ro mm mp mz ((65 * x2_9) + x3_18) x8_97) 40625 := (vp_in_iff.mpr (by have := (hn_ok hR (by omega) g9 (by omega) (ge0 e_122)).1; omega))
                                      refine x_lald C 0 1 dX10_findHeard_135 hT.2.1 rfl v_135 ?_
                                      refine x_ladd C dX10_findHeard_136 ?_
                                      refine x_lstore C [(5, .long (x5_97 + (fm12_18 (Int32.toNatClampNeg (hnF ma mg mt wf wp wt mw ml co ro mm mp mz ((65 * x2_9) + x3_18) x8_97))))), (9, .int (hnF ma mg mt wf wp wt mw ml co ro mm mp mz ((65 * x2_9) + x3_18) x8_97)), (8, .int x8_97), (7, .int x7_97), (4, .int ((65 * x2_9) + x3_18)), (3, .int x3_18), (2, .int x2_9), (1, .int x1_3), (0, .ref hy)] dX10_findHeard_137 (by decide) rfl ?_
                                      refine x_iinc C 2 (x8_97 + 1) [(8, .int (x8_97 + 1)), (5, .long (x5_97 + (fm12_18 (Int32.toNatClampNeg (hnF ma mg mt wf wp wt mw ml co ro mm mp mz ((65 * x2_9) + x3_18) x8_97))))), (9, .int (hnF ma mg mt wf wp wt mw ml co ro mm mp mz ((65 * x2_9) + x3_18) x8_97)), (7, .int x7_97), (4, .int ((65 * x2_9) + x3_18)), (3, .int x3_18), (2, .int x2_9), (1, .int x1_3), (0, .ref hy)] dX10_findHeard_139 rfl rfl (by decide) rfl ?_
                                      refine x_goto C 97 dX10_findHeard_142 (by decide) ?_
                                      refine x_sub [(m4, .inl (cI, 4, .inl mg)), (m5, .inl (cI, 4, .inl mt)), (m7, .inl (cI, 6, .inl wf)), (m8, .inl (cI, 6, .inl wp)), (m9, .inl (cI, 6, .inl wt)), (m0, .inl (cI, 625, .inl ro)), (m3, .inl (cI, 16, .inl mm)), (m10, .inl (cI, 30, .inl mp)), (m12, .inl (cJ, 40625, .inr (.inl fm12_18))), (m1, .inl (cI, 65, .inl co)), (hy, .inr (10, [.ref m0, .ref m1, .ref m2, .ref m3, .ref m4, .ref m5, .ref m6, .ref m7, .ref m8, .ref m9, .int mw, .int ml, .int mb, .ref m10, .int mz, .ref m11, .int op2_113, .int bp, .int by0, .int dp, .int tk, .ref m12, .ref m13, .ref m14, .ref m15, .ref m16, .ref m17, .ref m18, .int ka, .int iw])), (m11, .inl (cI, 4, .inl tl2_113)), (m2, .inl (cI, 4, .inl ma))] [4, 5, 6, 7, 8, 9, 11, 12, 0, 10, 1, 2, 3] (by decide) rfl ?_
                                      refine x_lv [(8, .int (x8_97 + 1)), (7, .int x7_97), (5, .long (x5_97 + (fm12_18 (Int32.toNatClampNeg (hnF ma mg mt wf wp wt mw ml co ro mm mp mz ((65 * x2_9) + x3_18) x8_97))))), (4, .int ((65 * x2_9) + x3_18)), (3, .int x3_18), (2, .int x2_9), (1, .int x1_3), (0, .ref hy)] [0, 3, 1, 4, 5, 6, 7, 8] rfl ?_
                                      have := t0_
                                      have := t1_
                                      have : (1 : Int32).toInt = 1 := by decide
                                      have := i_add (x := x8_97) (y := 1) (by omega) (by omega)
                                      exact ih_97 (x8_97 + 1) x7_97 (x5_97 + (fm12_18 (Int32.toNatClampNeg (hnF ma mg mt wf wp wt mw ml co ro mm mp mz ((65 * x2_9) + x3_18) x8_97)))) op2_113 tl2_113 ⟨by omega, Or.inr ⟨by omega, q9.2.1, by omega, by first | exact (congrArg (fun z => z + 0) q9.2.2.2).trans (swF_n (nx := fun s => hnF ma mg mt wf wp wt mw ml co ro mm mp mz (65 * x2_9 + x3_18) s) (x := x8_97) (by omega) (by omega) (by omega)).symm | exact (congrArg (fun z => z + _) q9.2.2.2).trans (swF_p (nx := fun s => hnF ma mg mt wf wp wt mw ml co ro mm mp mz (65 * x2_9 + x3_18) s) (x := x8_97) (by omega) (by omega) (ge0 e_122)).symm⟩⟩ (by omega)
                                    · skip
                                      have e_122 : ¬ ((0 : Int32).toInt ≤ (hnF ma mg mt wf wp wt mw ml co ro mm mp mz ((65 * x2_9) + x3_18) x8_97 : Int32).toInt) := fun h => c_122 (i_le.mpr h)
                                      have : (0 : Int32).toInt = 0 := by decide
                                      refine x_lconst C 0 dX10_findHeard_125 (by decide) ?_
                                      refine x_goto C 136 dX10_findHeard_126 (by decide) ?_
                                      refine x_ladd C dX10_findHeard_136 ?_
                                      refine x_lstore C [(5, .long (x5_97 + 0)), (9, .int (hnF ma mg mt wf wp wt mw ml co ro mm mp mz ((65 * x2_9) + x3_18) x8_97)), (8, .int x8_97), (7, .int x7_97), (4, .int ((65 * x2_9) + x3_18)), (3, .int x3_18), (2, .int x2_9), (1, .int x1_3), (0, .ref hy)] dX10_findHeard_137 (by decide) rfl ?_
                                      refine x_iinc C 2 (x8_97 + 1) [(8, .int (x8_97 + 1)), (5, .long (x5_97 + 0)), (9, .int (hnF ma mg mt wf wp wt mw ml co ro mm mp mz ((65 * x2_9) + x3_18) x8_97)), (7, .int x7_97), (4, .int ((65 * x2_9) + x3_18)), (3, .int x3_18), (2, .int x2_9), (1, .int x1_3), (0, .ref hy)] dX10_findHeard_139 rfl rfl (by decide) rfl ?_
                                      refine x_goto C 97 dX10_findHeard_142 (by decide) ?_
                                      refine x_sub [(m4, .inl (cI, 4, .inl mg)), (m5, .inl (cI, 4, .inl mt)), (m7, .inl (cI, 6, .inl wf)), (m8, .inl (cI, 6, .inl wp)), (m9, .inl (cI, 6, .inl wt)), (m0, .inl (cI, 625, .inl ro)), (m3, .inl (cI, 16, .inl mm)), (m10, .inl (cI, 30, .inl mp)), (m12, .inl (cJ, 40625, .inr (.inl fm12_18))), (m1, .inl (cI, 65, .inl co)), (hy, .inr (10, [.ref m0, .ref m1, .ref m2, .ref m3, .ref m4, .ref m5, .ref m6, .ref m7, .ref m8, .ref m9, .int mw, .int ml, .int mb, .ref m10, .int mz, .ref m11, .int op2_113, .int bp, .int by0, .int dp, .int tk, .ref m12, .ref m13, .ref m14, .ref m15, .ref m16, .ref m17, .ref m18, .int ka, .int iw])), (m11, .inl (cI, 4, .inl tl2_113)), (m2, .inl (cI, 4, .inl ma))] [4, 5, 6, 7, 8, 9, 11, 12, 0, 10, 1, 2, 3] (by decide) rfl ?_
                                      refine x_lv [(8, .int (x8_97 + 1)), (7, .int x7_97), (5, .long (x5_97 + 0)), (4, .int ((65 * x2_9) + x3_18)), (3, .int x3_18), (2, .int x2_9), (1, .int x1_3), (0, .ref hy)] [0, 3, 1, 4, 5, 6, 7, 8] rfl ?_
                                      have := t0_
                                      have := t1_
                                      have : (1 : Int32).toInt = 1 := by decide
                                      have := i_add (x := x8_97) (y := 1) (by omega) (by omega)
                                      exact ih_97 (x8_97 + 1) x7_97 (x5_97 + 0) op2_113 tl2_113 ⟨by omega, Or.inr ⟨by omega, q9.2.1, by omega, by first | exact (congrArg (fun z => z + 0) q9.2.2.2).trans (swF_n (nx := fun s => hnF ma mg mt wf wp wt mw ml co ro mm mp mz (65 * x2_9 + x3_18) s) (x := x8_97) (by omega) (by omega) (by omega)).symm | exact (congrArg (fun z => z + _) q9.2.2.2).trans (swF_p (nx := fun s => hnF ma mg mt wf wp wt mw ml co ro mm mp mz (65 * x2_9 + x3_18) s) (x := x8_97) (by omega) (by omega) (ge0 e_122)).symm⟩⟩ (by omega)
                            have := t0_
                            have := t1_
                            have : (0 : Int32).toInt = 0 := by decide
                            have : (0 : Int32).toInt = 0 := by decide
                            exact L_97 _ 0 0 0 ((opS co ((65 * x2_9) + x3_18))) ((tds ((65 * x2_9) + x3_18))) ⟨by omega, by first | exact Or.inl ⟨by omega, hd_b (by omega) (by omega)⟩ | exact Or.inr ⟨by omega, h_81.t (by omega), by omega, rfl⟩ | exact Or.inl ⟨by omega, hd_0 (h_81.f (by omega))⟩ | (exfalso; omega)⟩ (Nat.lt_succ_self _)
                          · skip
                            have e_84 : ¬ ((r_81 : Int32).toInt = (0 : Int32).toInt) := fun h => c_84 (i_eq.mpr h)
                            have : (0 : Int32).toInt = 0 := by decide
                            refine x_iconst C 1 dX10_findHeard_87 (by decide) ?_
                            refine x_goto C 92 dX10_findHeard_88 (by decide) ?_
                            refine x_istore C [(7, .int 1), (5, .long 0), (4, .int ((65 * x2_9) + x3_18)), (3, .int x3_18), (2, .int x2_9), (1, .int x1_3), (0, .ref hy)] dX10_findHeard_92 (by decide) rfl ?_
                            refine x_iconst C 0 dX10_findHeard_94 (by decide) ?_
                            refine x_istore C [(8, .int 0), (7, .int 1), (5, .long 0), (4, .int ((65 * x2_9) + x3_18)), (3, .int x3_18), (2, .int x2_9), (1, .int x1_3), (0, .ref hy)] dX10_findHeard_95 (by decide) rfl ?_
                            have L_97 : ∀ (n_97 : Nat) (x8_97 : Int32) (x7_97 : Int32) (x5_97 : Int64) (ghy16_97 : Int32) (fm11_97 : Nat → Int32), ((0 ≤ x8_97.toInt ∧ x8_97.toInt ≤ 4) ∧ ((x7_97.toInt = 0 ∧ x5_97 = hdF ma mg mt wf wp wt mw ml co ro mm mp mz fm12_18 (65 * x2_9 + x3_18)) ∨ (x7_97.toInt = 1 ∧ CB ma (tds (65 * x2_9 + x3_18)) (opS co (65 * x2_9 + x3_18)) 15 ∧ sm (65 * x2_9 + x3_18) < mz.toInt ∧ x5_97 = swF (fun s => hnF ma mg mt wf wp wt mw ml co ro mm mp mz (65 * x2_9 + x3_18) s) fm12_18 x8_97.toInt.toNat))) → ((4 - x8_97.toInt).toNat < n_97) → V X 10 [(m4, .inl (cI, 4, .inl mg)), (m5, .inl (cI, 4, .inl mt)), (m7, .inl (cI, 6, .inl wf)), (m8, .inl (cI, 6, .inl wp)), (m9, .inl (cI, 6, .inl wt)), (m0, .inl (cI, 625, .inl ro)), (m3, .inl (cI, 16, .inl mm)), (m10, .inl (cI, 30, .inl mp)), (m12, .inl (cJ, 40625, .inr (.inl fm12_18))), (m1, .inl (cI, 65, .inl co)), (hy, .inr (10, [.ref m0, .ref m1, .ref m2, .ref m3, .ref m4, .ref m5, .ref m6, .ref m7, .ref m8, .ref m9, .int mw, .int ml, .int mb, .ref m10, .int mz, .ref m11, .int ghy16_97, .int bp, .int by0, .int dp, .int tk, .ref m12, .ref m13, .ref m14, .ref m15, .ref m16, .ref m17, .ref m18, .int ka, .int iw])), (m11, .inl (cI, 4, .inl fm11_97)), (m2, .inl (cI, 4, .inl ma))] [(8, .int x8_97), (7, .int x7_97), (5, .long x5_97), (4, .int ((65 * x2_9) + x3_18)), (3, .int x3_18), (2, .int x2_9), (1, .int x1_3), (0, .ref hy)] [] 97 0 0 := by
                              intro n_97
                              induction n_97 with
                              | zero =>
                                intro x8_97 x7_97 x5_97 ghy16_97 fm11_97 i_97 m_97
                                exact absurd m_97 (Nat.not_lt_zero _)
                              | succ n_97 ih_97 =>
                                intro x8_97 x7_97 x5_97 ghy16_97 fm11_97 i_97 m_97
                                refine x_iload C 0 dX10_findHeard_97 rfl ?_
                                refine x_iconst C 4 dX10_findHeard_99 (by decide) ?_
                                refine x_icmp_ge C 145 dX10_findHeard_100 (by decide) (fun c_100 => ?_) (fun c_100 => ?_)
                                · skip
                                  have e_100 : (4 : Int32).toInt ≤ (x8_97 : Int32).toInt := i_le.mp c_100
                                  have : (4 : Int32).toInt = 4 := by decide
                                  have f9 : x5_97 = hdF ma mg mt wf wp wt mw ml co ro mm mp mz fm12_18 (65 * x2_9 + x3_18) := by
                                    rcases i_97.2 with h | h
                                    · exact h.2
                                    · first
                                      | (rw [h.2.2.2, show x8_97.toInt.toNat = 4 by omega]; exact hd_s h.2.1 h.2.2.1)
                                      | (exfalso; omega)
                                  refine x_aload_n C 7 dX10_findHeard_145 rfl rfl ?_
                                  refine x_get C 10 21 dX10_findHeard_146 inlX10 rfl (by decide) wd_135 rfl rfl rfl ?_
                                  refine x_iload C 3 dX10_findHeard_149 rfl ?_
                                  refine x_lload C 2 dX10_findHeard_151 rfl ?_
                                  have v_153 : vp_in ((65 * x2_9) + x3_18) 40625 := (vp_in_iff.mpr (by omega))
                                  refine x_last C 8 1 [(m4, .inl (cI, 4, .inl mg)), (m5, .inl (cI, 4, .inl mt)), (m7, .inl (cI, 6, .inl wf)), (m8, .inl (cI, 6, .inl wp)), (m9, .inl (cI, 6, .inl wt)), (m0, .inl (cI, 625, .inl ro)), (m3, .inl (cI, 16, .inl mm)), (m10, .inl (cI, 30, .inl mp)), (m12, .inl (cJ, 40625, .inr (.inl (vp_updL fm12_18 (Int32.toNatClampNeg ((65 * x2_9) + x3_18)) x5_97)))), (m1, .inl (cI, 65, .inl co)), (hy, .inr (10, [.ref m0, .ref m1, .ref m2, .ref m3, .ref m4, .ref m5, .ref m6, .ref m7, .ref m8, .ref m9, .int mw, .int ml, .int mb, .ref m10, .int mz, .ref m11, .int ghy16_97, .int bp, .int by0, .int dp, .int tk, .ref m12, .ref m13, .ref m14, .ref m15, .ref m16, .ref m17, .ref m18, .int ka, .int iw])), (m11, .inl (cI, 4, .inl fm11_97)), (m2, .inl (cI, 4, .inl ma))] dX10_findHeard_153 hT.2.1 rfl v_153 rfl ?_
                                  have step9 := (DW.step (hd_lc hpa hR) i_18.2 (st := 65 * x2_9 + x3_18) (b' := 65 * x2_9.toInt + (x3_18.toInt + 1)) (by omega) (by omega) (by omega) (by omega) (by omega)).mono (b' := 65 * x2_9.toInt + (x3_18 + 1).toInt) (by have := t1_; have := i_add (x := x3_18) (y := 1) (by omega) (by omega); omega)
                                  rw [← f9] at step9
                                  refine x_iinc C 4 (x3_18 + 1) [(3, .int (x3_18 + 1)), (8, .int x8_97), (7, .int x7_97), (5, .long x5_97), (4, .int ((65 * x2_9) + x3_18)), (2, .int x2_9), (1, .int x1_3), (0, .ref hy)] dX10_findHeard_154 rfl rfl (by decide) rfl ?_
                                  refine x_goto C 18 dX10_findHeard_157 (by decide) ?_
                                  refine x_sub [(hy, .inr (10, [.ref m0, .ref m1, .ref m2, .ref m3, .ref m4, .ref m5, .ref m6, .ref m7, .ref m8, .ref m9, .int mw, .int ml, .int mb, .ref m10, .int mz, .ref m11, .int ghy16_97, .int bp, .int by0, .int dp, .int tk, .ref m12, .ref m13, .ref m14, .ref m15, .ref m16, .ref m17, .ref m18, .int ka, .int iw])), (m11, .inl (cI, 4, .inl fm11_97)), (m2, .inl (cI, 4, .inl ma)), (m4, .inl (cI, 4, .inl mg)), (m5, .inl (cI, 4, .inl mt)), (m7, .inl (cI, 6, .inl wf)), (m8, .inl (cI, 6, .inl wp)), (m9, .inl (cI, 6, .inl wt)), (m0, .inl (cI, 625, .inl ro)), (m1, .inl (cI, 65, .inl co)), (m3, .inl (cI, 16, .inl mm)), (m10, .inl (cI, 30, .inl mp)), (m12, .inl (cJ, 40625, .inr (.inl (vp_updL fm12_18 (Int32.toNatClampNeg ((65 * x2_9) + x3_18)) x5_97))))] [10, 11, 12, 0, 1, 2, 3, 4, 5, 9, 6, 7, 8] (by decide) rfl ?_
                                  refine x_lv [(3, .int (x3_18 + 1)), (2, .int x2_9), (1, .int x1_3), (0, .ref hy)] [0, 5, 6, 7] rfl ?_
                                  have : (1 : Int32).toInt = 1 := by decide
                                  have := i_add (x := x3_18) (y := 1) (by omega) (by omega)
                                  exact ih_18 (x3_18 + 1) ghy16_97 fm11_97 (vp_updL fm12_18 (Int32.toNatClampNeg ((65 * x2_9) + x3_18)) x5_97) ⟨by omega, step9⟩ (by omega)
                                · skip
                                  have e_100 : ¬ ((4 : Int32).toInt ≤ (x8_97 : Int32).toInt) := fun h => c_100 (i_le.mpr h)
                                  have : (4 : Int32).toInt = 4 := by decide
                                  refine x_iload C 1 dX10_findHeard_103 rfl ?_
                                  refine x_if_eq C 145 dX10_findHeard_105 (by decide) (fun c_105 => ?_) (fun c_105 => ?_)
                                  · skip
                                    have e_105 : (x7_97 : Int32).toInt = (0 : Int32).toInt := i_eq.mp c_105
                                    have : (0 : Int32).toInt = 0 := by decide
                                    have f9 : x5_97 = hdF ma mg mt wf wp wt mw ml co ro mm mp mz fm12_18 (65 * x2_9 + x3_18) := by
                                      rcases i_97.2 with h | h
                                      · exact h.2
                                      · first
                                        | (rw [h.2.2.2, show x8_97.toInt.toNat = 4 by omega]; exact hd_s h.2.1 h.2.2.1)
                                        | (exfalso; omega)
                                    refine x_aload_n C 7 dX10_findHeard_145 rfl rfl ?_
                                    refine x_get C 10 21 dX10_findHeard_146 inlX10 rfl (by decide) wd_135 rfl rfl rfl ?_
                                    refine x_iload C 3 dX10_findHeard_149 rfl ?_
                                    refine x_lload C 2 dX10_findHeard_151 rfl ?_
                                    have v_153 : vp_in ((65 * x2_9) + x3_18) 40625 := (vp_in_iff.mpr (by omega))
                                    refine x_last C 8 1 [(m4, .inl (cI, 4, .inl mg)), (m5, .inl (cI, 4, .inl mt)), (m7, .inl (cI, 6, .inl wf)), (m8, .inl (cI, 6, .inl wp)), (m9, .inl (cI, 6, .inl wt)), (m0, .inl (cI, 625, .inl ro)), (m3, .inl (cI, 16, .inl mm)), (m10, .inl (cI, 30, .inl mp)), (m12, .inl (cJ, 40625, .inr (.inl (vp_updL fm12_18 (Int32.toNatClampNeg ((65 * x2_9) + x3_18)) x5_97)))), (m1, .inl (cI, 65, .inl co)), (hy, .inr (10, [.ref m0, .ref m1, .ref m2, .ref m3, .ref m4, .ref m5, .ref m6, .ref m7, .ref m8, .ref m9, .int mw, .int ml, .int mb, .ref m10, .int mz, .ref m11, .int ghy16_97, .int bp, .int by0, .int dp, .int tk, .ref m12, .ref m13, .ref m14, .ref m15, .ref m16, .ref m17, .ref m18, .int ka, .int iw])), (m11, .inl (cI, 4, .inl fm11_97)), (m2, .inl (cI, 4, .inl ma))] dX10_findHeard_153 hT.2.1 rfl v_153 rfl ?_
                                    have step9 := (DW.step (hd_lc hpa hR) i_18.2 (st := 65 * x2_9 + x3_18) (b' := 65 * x2_9.toInt + (x3_18.toInt + 1)) (by omega) (by omega) (by omega) (by omega) (by omega)).mono (b' := 65 * x2_9.toInt + (x3_18 + 1).toInt) (by have := t1_; have := i_add (x := x3_18) (y := 1) (by omega) (by omega); omega)
                                    rw [← f9] at step9
                                    refine x_iinc C 4 (x3_18 + 1) [(3, .int (x3_18 + 1)), (8, .int x8_97), (7, .int x7_97), (5, .long x5_97), (4, .int ((65 * x2_9) + x3_18)), (2, .int x2_9), (1, .int x1_3), (0, .ref hy)] dX10_findHeard_154 rfl rfl (by decide) rfl ?_
                                    refine x_goto C 18 dX10_findHeard_157 (by decide) ?_
                                    refine x_sub [(hy, .inr (10, [.ref m0, .ref m1, .ref m2, .ref m3, .ref m4, .ref m5, .ref m6, .ref m7, .ref m8, .ref m9, .int mw, .int ml, .int mb, .ref m10, .int mz, .ref m11, .int ghy16_97, .int bp, .int by0, .int dp, .int tk, .ref m12, .ref m13, .ref m14, .ref m15, .ref m16, .ref m17, .ref m18, .int ka, .int iw])), (m11, .inl (cI, 4, .inl fm11_97)), (m2, .inl (cI, 4, .inl ma)), (m4, .inl (cI, 4, .inl mg)), (m5, .inl (cI, 4, .inl mt)), (m7, .inl (cI, 6, .inl wf)), (m8, .inl (cI, 6, .inl wp)), (m9, .inl (cI, 6, .inl wt)), (m0, .inl (cI, 625, .inl ro)), (m1, .inl (cI, 65, .inl co)), (m3, .inl (cI, 16, .inl mm)), (m10, .inl (cI, 30, .inl mp)), (m12, .inl (cJ, 40625, .inr (.inl (vp_updL fm12_18 (Int32.toNatClampNeg ((65 * x2_9) + x3_18)) x5_97))))] [10, 11, 12, 0, 1, 2, 3, 4, 5, 9, 6, 7, 8] (by decide) rfl ?_
                                    refine x_lv [(3, .int (x3_18 + 1)), (2, .int x2_9), (1, .int x1_3), (0, .ref hy)] [0, 5, 6, 7] rfl ?_
                                    have : (1 : Int32).toInt = 1 := by decide
                                    have := i_add (x := x3_18) (y := 1) (by omega) (by omega)
                                    exact ih_18 (x3_18 + 1) ghy16_97 fm11_97 (vp_updL fm12_18 (Int32.toNatClampNeg ((65 * x2_9) + x3_18)) x5_97) ⟨by omega, step9⟩ (by omega)
                                  · skip
                                    have e_105 : ¬ ((x7_97 : Int32).toInt = (0 : Int32).toInt) := fun h => c_105 (i_eq.mpr h)
                                    have : (0 : Int32).toInt = 0 := by decide
                                    have q9 := i_97.2.resolve_left (fun h => by omega)
                                    have g9 := q9.2.1.gd hpa hR.1 (show 0 ≤ (65 * x2_9 + x3_18).toInt by omega)
                                    refine x_aload_n C 7 dX10_findHeard_108 rfl rfl ?_
                                    refine x_iload C 3 dX10_findHeard_109 rfl ?_
                                    refine x_iload C 0 dX10_findHeard_111 rfl ?_
                                    refine x_callV C [.int ((65 * x2_9) + x3_18), .int x8_97] [(m12, .inl (cJ, 40625, .inr (.inl fm12_18)))] [10, 11, 12, 0, 1, 2, 3, 4, 5, 9, 6, 7] [8] (q0 := 0) (c_X10_heardNext (xl X) (xD X) (xt X) hT hy m0 m1 m2 m3 m4 m5 m6 m7 m8 m9 m10 m11 m12 m13 m14 m15 m16 m17 m18 fm11_97 ma mg mt wf wp wt ro co mm mp mw ml mb mz ghy16_97 bp by0 dp tk ka iw ((65 * x2_9) + x3_18) x8_97 (by omega) hR g9 (by omega) hmw hwt hz) dX10_findHeard_113 wd_795 wd_796 wd_797 wd_5 wd_798 (np := 2) ⟨by decide, by decide, by decide +kernel⟩ rfl rfl (Nat.le_of_ble_eq_true rfl) (by decide) rfl rfl rfl rfl (by decide) rfl (by decide) (by decide) (fun v W1 h => ?_)
                                    obtain ⟨tl2_113, op2_113, rfl, rfl, h_113⟩ := h
                                    show V X 10 [(m12, .inl (cJ, 40625, .inr (.inl fm12_18))), (hy, .inr (10, [.ref m0, .ref m1, .ref m2, .ref m3, .ref m4, .ref m5, .ref m6, .ref m7, .ref m8, .ref m9, .int mw, .int ml, .int mb, .ref m10, .int mz, .ref m11, .int op2_113, .int bp, .int by0, .int dp, .int tk, .ref m12, .ref m13, .ref m14, .ref m15, .ref m16, .ref m17, .ref m18, .int ka, .int iw])), (m11, .inl (cI, 4, .inl tl2_113)), (m2, .inl (cI, 4, .inl ma)), (m4, .inl (cI, 4, .inl mg)), (m5, .inl (cI, 4, .inl mt)), (m7, .inl (cI, 6, .inl wf)), (m8, .inl (cI, 6, .inl wp)), (m9, .inl (cI, 6, .inl wt)), (m0, .inl (cI, 625, .inl ro)), (m1, .inl (cI, 65, .inl co)), (m3, .inl (cI, 16, .inl mm)), (m10, .inl (cI, 30, .inl mp))] [(8, .int x8_97), (7, .int x7_97), (5, .long x5_97), (4, .int ((65 * x2_9) + x3_18)), (3, .int x3_18), (2, .int x2_9), (1, .int x1_3), (0, .ref hy)] [.int (hnF ma mg mt wf wp wt mw ml co ro mm mp mz ((65 * x2_9) + x3_18) x8_97)] 116 0 0
                                    refine x_istore C [(9, .int (hnF ma mg mt wf wp wt mw ml co ro mm mp mz ((65 * x2_9) + x3_18) x8_97)), (8, .int x8_97), (7, .int x7_97), (5, .long x5_97), (4, .int ((65 * x2_9) + x3_18)), (3, .int x3_18), (2, .int x2_9), (1, .int x1_3), (0, .ref hy)] dX10_findHeard_116 (by decide) rfl ?_
                                    refine x_lload C 3 dX10_findHeard_118 rfl ?_
                                    refine x_iload C 0 dX10_findHeard_120 rfl ?_
                                    refine x_if_ge C 129 dX10_findHeard_122 (by decide) (fun c_122 => ?_) (fun c_122 => ?_)
                                    · skip
                                      have e_122 : (0 : Int32).toInt ≤ (hnF ma mg mt wf wp wt mw ml co ro mm mp mz ((65 * x2_9) + x3_18) x8_97 : Int32).toInt := i_le.mp c_122
                                      have : (0 : Int32).toInt = 0 := by decide
                                      refine x_aload_n C 8 dX10_findHeard_129 rfl rfl ?_
                                      refine x_get C 1 21 dX10_findHeard_130 inlX10 rfl (by decide) wd_135 rfl rfl rfl ?_
                                      refine x_iload C 0 dX10_findHeard_133 rfl ?_
                                      have v_135 : vp_in (hnF ma mg mt wf wp wt mw ml co ro mm mp mz ((65 * x2_9) + x3_18) x8_97) 40625 := (vp_in_iff.mpr (by have := (hn_ok hR (by omega) g9 (by omega) (ge0 e_122)).1; omega))
                                      refine x_lald C 0 1 dX10_findHeard_135 hT.2.1 rfl v_135 ?_
                                      refine x_ladd C dX10_findHeard_136 ?_
                                      refine x_lstore C [(5, .long (x5_97 + (fm12_18 (Int32.toNatClampNeg (hnF ma mg mt wf wp wt mw ml co ro mm mp mz ((65 * x2_9) + x3_18) x8_97))))), (9, .int (hnF ma mg mt wf wp wt mw ml co ro mm mp mz ((65 * x2_9) + x3_18) x8_97)), (8, .int x8_97), (7, .int x7_97), (4, .int ((65 * x2_9) + x3_18)), (3, .int x3_18), (2, .int x2_9), (1, .int x1_3), (0, .ref hy)] dX10_findHeard_137 (by decide) rfl ?_
                                      refine x_iinc C 2 (x8_97 + 1) [(8, .int (x8_97 + 1)), (5, .long (x5_97 + (fm12_18 (Int32.toNatClampNeg (hnF ma mg mt wf wp wt mw ml co ro mm mp mz ((65 * x2_9) + x3_18) x8_97))))), (9, .int (hnF ma mg mt wf wp wt mw ml co ro mm mp mz ((65 * x2_9) + x3_18) x8_97)), (7, .int x7_97), (4, .int ((65 * x2_9) + x3_18)), (3, .int x3_18), (2, .int x2_9), (1, .int x1_3), (0, .ref hy)] dX10_findHeard_139 rfl rfl (by decide) rfl ?_
                                      refine x_goto C 97 dX10_findHeard_142 (by decide) ?_
                                      refine x_sub [(m4, .inl (cI, 4, .inl mg)), (m5, .inl (cI, 4, .inl mt)), (m7, .inl (cI, 6, .inl wf)), (m8, .inl (cI, 6, .inl wp)), (m9, .inl (cI, 6, .inl wt)), (m0, .inl (cI, 625, .inl ro)), (m3, .inl (cI, 16, .inl mm)), (m10, .inl (cI, 30, .inl mp)), (m12, .inl (cJ, 40625, .inr (.inl fm12_18))), (m1, .inl (cI, 65, .inl co)), (hy, .inr (10, [.ref m0, .ref m1, .ref m2, .ref m3, .ref m4, .ref m5, .ref m6, .ref m7, .ref m8, .ref m9, .int mw, .int ml, .int mb, .ref m10, .int mz, .ref m11, .int op2_113, .int bp, .int by0, .int dp, .int tk, .ref m12, .ref m13, .ref m14, .ref m15, .ref m16, .ref m17, .ref m18, .int ka, .int iw])), (m11, .inl (cI, 4, .inl tl2_113)), (m2, .inl (cI, 4, .inl ma))] [4, 5, 6, 7, 8, 9, 11, 12, 0, 10, 1, 2, 3] (by decide) rfl ?_
                                      refine x_lv [(8, .int (x8_97 + 1)), (7, .int x7_97), (5, .long (x5_97 + (fm12_18 (Int32.toNatClampNeg (hnF ma mg mt wf wp wt mw ml co ro mm mp mz ((65 * x2_9) + x3_18) x8_97))))), (4, .int ((65 * x2_9) + x3_18)), (3, .int x3_18), (2, .int x2_9), (1, .int x1_3), (0, .ref hy)] [0, 3, 1, 4, 5, 6, 7, 8] rfl ?_
                                      have := t0_
                                      have := t1_
                                      have : (1 : Int32).toInt = 1 := by decide
                                      have := i_add (x := x8_97) (y := 1) (by omega) (by omega)
                                      exact ih_97 (x8_97 + 1) x7_97 (x5_97 + (fm12_18 (Int32.toNatClampNeg (hnF ma mg mt wf wp wt mw ml co ro mm mp mz ((65 * x2_9) + x3_18) x8_97)))) op2_113 tl2_113 ⟨by omega, Or.inr ⟨by omega, q9.2.1, by omega, by first | exact (congrArg (fun z => z + 0) q9.2.2.2).trans (swF_n (nx := fun s => hnF ma mg mt wf wp wt mw ml co ro mm mp mz (65 * x2_9 + x3_18) s) (x := x8_97) (by omega) (by omega) (by omega)).symm | exact (congrArg (fun z => z + _) q9.2.2.2).trans (swF_p (nx := fun s => hnF ma mg mt wf wp wt mw ml co ro mm mp mz (65 * x2_9 + x3_18) s) (x := x8_97) (by omega) (by omega) (ge0 e_122)).symm⟩⟩ (by omega)
                                    · skip
                                      have e_122 : ¬ ((0 : Int32).toInt ≤ (hnF ma mg mt wf wp wt mw ml co ro mm mp mz ((65 * x2_9) + x3_18) x8_97 : Int32).toInt) := fun h => c_122 (i_le.mpr h)
                                      have : (0 : Int32).toInt = 0 := by decide
                                      refine x_lconst C 0 dX10_findHeard_125 (by decide) ?_
                                      refine x_goto C 136 dX10_findHeard_126 (by decide) ?_
                                      refine x_ladd C dX10_findHeard_136 ?_
                                      refine x_lstore C [(5, .long (x5_97 + 0)), (9, .int (hnF ma mg mt wf wp wt mw ml co ro mm mp mz ((65 * x2_9) + x3_18) x8_97)), (8, .int x8_97), (7, .int x7_97), (4, .int ((65 * x2_9) + x3_18)), (3, .int x3_18), (2, .int x2_9), (1, .int x1_3), (0, .ref hy)] dX10_findHeard_137 (by decide) rfl ?_
                                      refine x_iinc C 2 (x8_97 + 1) [(8, .int (x8_97 + 1)), (5, .long (x5_97 + 0)), (9, .int (hnF ma mg mt wf wp wt mw ml co ro mm mp mz ((65 * x2_9) + x3_18) x8_97)), (7, .int x7_97), (4, .int ((65 * x2_9) + x3_18)), (3, .int x3_18), (2, .int x2_9), (1, .int x1_3), (0, .ref hy)] dX10_findHeard_139 rfl rfl (by decide) rfl ?_
                                      refine x_goto C 97 dX10_findHeard_142 (by decide) ?_
                                      refine x_sub [(m4, .inl (cI, 4, .inl mg)), (m5, .inl (cI, 4, .inl mt)), (m7, .inl (cI, 6, .inl wf)), (m8, .inl (cI, 6, .inl wp)), (m9, .inl (cI, 6, .inl wt)), (m0, .inl (cI, 625, .inl ro)), (m3, .inl (cI, 16, .inl mm)), (m10, .inl (cI, 30, .inl mp)), (m12, .inl (cJ, 40625, .inr (.inl fm12_18))), (m1, .inl (cI, 65, .inl co)), (hy, .inr (10, [.ref m0, .ref m1, .ref m2, .ref m3, .ref m4, .ref m5, .ref m6, .ref m7, .ref m8, .ref m9, .int mw, .int ml, .int mb, .ref m10, .int mz, .ref m11, .int op2_113, .int bp, .int by0, .int dp, .int tk, .ref m12, .ref m13, .ref m14, .ref m15, .ref m16, .ref m17, .ref m18, .int ka, .int iw])), (m11, .inl (cI, 4, .inl tl2_113)), (m2, .inl (cI, 4, .inl ma))] [4, 5, 6, 7, 8, 9, 11, 12, 0, 10, 1, 2, 3] (by decide) rfl ?_
                                      refine x_lv [(8, .int (x8_97 + 1)), (7, .int x7_97), (5, .long (x5_97 + 0)), (4, .int ((65 * x2_9) + x3_18)), (3, .int x3_18), (2, .int x2_9), (1, .int x1_3), (0, .ref hy)] [0, 3, 1, 4, 5, 6, 7, 8] rfl ?_
                                      have := t0_
                                      have := t1_
                                      have : (1 : Int32).toInt = 1 := by decide
                                      have := i_add (x := x8_97) (y := 1) (by omega) (by omega)
                                      exact ih_97 (x8_97 + 1) x7_97 (x5_97 + 0) op2_113 tl2_113 ⟨by omega, Or.inr ⟨by omega, q9.2.1, by omega, by first | exact (congrArg (fun z => z + 0) q9.2.2.2).trans (swF_n (nx := fun s => hnF ma mg mt wf wp wt mw ml co ro mm mp mz (65 * x2_9 + x3_18) s) (x := x8_97) (by omega) (by omega) (by omega)).symm | exact (congrArg (fun z => z + _) q9.2.2.2).trans (swF_p (nx := fun s => hnF ma mg mt wf wp wt mw ml co ro mm mp mz (65 * x2_9 + x3_18) s) (x := x8_97) (by omega) (by omega) (ge0 e_122)).symm⟩⟩ (by omega)
                            have := t0_
                            have := t1_
                            have : (0 : Int32).toInt = 0 := by decide
                            have : (1 : Int32).toInt = 1 := by decide
                            exact L_97 _ 0 1 0 ((opS co ((65 * x2_9) + x3_18))) ((tds ((65 * x2_9) + x3_18))) ⟨by omega, by first | exact Or.inl ⟨by omega, hd_b (by omega) (by omega)⟩ | exact Or.inr ⟨by omega, h_81.t (by omega), by omega, rfl⟩ | exact Or.inl ⟨by omega, hd_0 (h_81.f (by omega))⟩ | (exfalso; omega)⟩ (Nat.lt_succ_self _)
                      · skip
                        have e_51 : (x1_3 : Int32).toInt = (mz : Int32).toInt := i_eq.mp c_51
                        refine x_aload_n C 4 dX10_findHeard_54 rfl rfl ?_
                        refine x_bipush C 15 dX10_findHeard_55 (by decide) ?_
                        refine x_callV C [.int 15] [(m4, .inl (cI, 4, .inl mg)), (m5, .inl (cI, 4, .inl mt)), (m7, .inl (cI, 6, .inl wf)), (m8, .inl (cI, 6, .inl wp)), (m9, .inl (cI, 6, .inl wt)), (m0, .inl (cI, 625, .inl ro)), (m3, .inl (cI, 16, .inl mm)), (m10, .inl (cI, 30, .inl mp)), (m12, .inl (cJ, 40625, .inr (.inl fm12_18))), (m1, .inl (cI, 65, .inl co))] [10, 11, 0] [1, 2, 3, 4, 5, 6, 7, 8, 9, 12] (q0 := 0) (c_X10_canBe (xl X) (xD X) (xt X) hT hy m0 m1 m2 m3 m4 m5 m6 m7 m8 m9 m10 m11 m12 m13 m14 m15 m16 m17 m18 (tds ((65 * x2_9) + x3_18)) ma mw ml mb mz (opS co ((65 * x2_9) + x3_18)) bp by0 dp tk ka iw 15 (by omega)) dX10_findHeard_57 wd_579 wd_580 wd_581 wd_5 wd_582 (np := 1) ⟨by decide, by decide, by decide +kernel⟩ rfl rfl (Nat.le_of_ble_eq_true rfl) (by decide) rfl rfl rfl rfl (by decide) rfl (by decide) (by decide) (fun v W1 h => ?_)
                        obtain ⟨r_57, rfl, rfl, h_57⟩ := h
                        have : (15 : Int32).toInt = 15 := by decide
                        show V X 10 [(m4, .inl (cI, 4, .inl mg)), (m5, .inl (cI, 4, .inl mt)), (m7, .inl (cI, 6, .inl wf)), (m8, .inl (cI, 6, .inl wp)), (m9, .inl (cI, 6, .inl wt)), (m0, .inl (cI, 625, .inl ro)), (m3, .inl (cI, 16, .inl mm)), (m10, .inl (cI, 30, .inl mp)), (m12, .inl (cJ, 40625, .inr (.inl fm12_18))), (m1, .inl (cI, 65, .inl co)), (hy, .inr (10, [.ref m0, .ref m1, .ref m2, .ref m3, .ref m4, .ref m5, .ref m6, .ref m7, .ref m8, .ref m9, .int mw, .int ml, .int mb, .ref m10, .int mz, .ref m11, .int ((opS co ((65 * x2_9) + x3_18))), .int bp, .int by0, .int dp, .int tk, .ref m12, .ref m13, .ref m14, .ref m15, .ref m16, .ref m17, .ref m18, .int ka, .int iw])), (m11, .inl (cI, 4, .inl ((tds ((65 * x2_9) + x3_18))))), (m2, .inl (cI, 4, .inl ma))] [(4, .int ((65 * x2_9) + x3_18)), (3, .int x3_18), (2, .int x2_9), (1, .int x1_3), (0, .ref hy)] [.int r_57] 60 0 0
                        refine x_if_eq C 67 dX10_findHeard_60 (by decide) (fun c_60 => ?_) (fun c_60 => ?_)
                        · skip
                          have e_60 : (r_57 : Int32).toInt = (0 : Int32).toInt := i_eq.mp c_60
                          have : (0 : Int32).toInt = 0 := by decide
                          refine x_lconst C 0 dX10_findHeard_67 (by decide) ?_
                          refine x_lstore C [(5, .long 0), (4, .int ((65 * x2_9) + x3_18)), (3, .int x3_18), (2, .int x2_9), (1, .int x1_3), (0, .ref hy)] dX10_findHeard_68 (by decide) rfl ?_
                          refine x_iload_n C 4 dX10_findHeard_70 rfl rfl ?_
                          refine x_aload_n C 5 dX10_findHeard_71 rfl rfl ?_
                          refine x_get C 10 14 dX10_findHeard_72 inlX10 rfl (by decide) wd_166 rfl rfl rfl ?_
                          refine x_icmp_ge C 91 dX10_findHeard_75 (by decide) (fun c_75 => ?_) (fun c_75 => ?_)
                          · skip
                            have e_75 : (mz : Int32).toInt ≤ (x1_3 : Int32).toInt := i_le.mp c_75
                            refine x_iconst C 0 dX10_findHeard_91 (by decide) ?_
                            refine x_istore C [(7, .int 0), (5, .long 0), (4, .int ((65 * x2_9) + x3_18)), (3, .int x3_18), (2, .int x2_9), (1, .int x1_3), (0, .ref hy)] dX10_findHeard_92 (by decide) rfl ?_
                            refine x_iconst C 0 dX10_findHeard_94 (by decide) ?_
                            refine x_istore C [(8, .int 0), (7, .int 0), (5, .long 0), (4, .int ((65 * x2_9) + x3_18)), (3, .int x3_18), (2, .int x2_9), (1, .int x1_3), (0, .ref hy)] dX10_findHeard_95 (by decide) rfl ?_
                            have L_97 : ∀ (n_97 : Nat) (x8_97 : Int32) (x7_97 : Int32) (x5_97 : Int64) (ghy16_97 : Int32) (fm11_97 : Nat → Int32), ((0 ≤ x8_97.toInt ∧ x8_97.toInt ≤ 4) ∧ ((x7_97.toInt = 0 ∧ x5_97 = hdF ma mg mt wf wp wt mw ml co ro mm mp mz fm12_18 (65 * x2_9 + x3_18)) ∨ (x7_97.toInt = 1 ∧ CB ma (tds (65 * x2_9 + x3_18)) (opS co (65 * x2_9 + x3_18)) 15 ∧ sm (65 * x2_9 + x3_18) < mz.toInt ∧ x5_97 = swF (fun s => hnF ma mg mt wf wp wt mw ml co ro mm mp mz (65 * x2_9 + x3_18) s) fm12_18 x8_97.toInt.toNat))) → ((4 - x8_97.toInt).toNat < n_97) → V X 10 [(m4, .inl (cI, 4, .inl mg)), (m5, .inl (cI, 4, .inl mt)), (m7, .inl (cI, 6, .inl wf)), (m8, .inl (cI, 6, .inl wp)), (m9, .inl (cI, 6, .inl wt)), (m0, .inl (cI, 625, .inl ro)), (m3, .inl (cI, 16, .inl mm)), (m10, .inl (cI, 30, .inl mp)), (m12, .inl (cJ, 40625, .inr (.inl fm12_18))), (m1, .inl (cI, 65, .inl co)), (hy, .inr (10, [.ref m0, .ref m1, .ref m2, .ref m3, .ref m4, .ref m5, .ref m6, .ref m7, .ref m8, .ref m9, .int mw, .int ml, .int mb, .ref m10, .int mz, .ref m11, .int ghy16_97, .int bp, .int by0, .int dp, .int tk, .ref m12, .ref m13, .ref m14, .ref m15, .ref m16, .ref m17, .ref m18, .int ka, .int iw])), (m11, .inl (cI, 4, .inl fm11_97)), (m2, .inl (cI, 4, .inl ma))] [(8, .int x8_97), (7, .int x7_97), (5, .long x5_97), (4, .int ((65 * x2_9) + x3_18)), (3, .int x3_18), (2, .int x2_9), (1, .int x1_3), (0, .ref hy)] [] 97 0 0 := by
                              intro n_97
                              induction n_97 with
                              | zero =>
                                intro x8_97 x7_97 x5_97 ghy16_97 fm11_97 i_97 m_97
                                exact absurd m_97 (Nat.not_lt_zero _)
                              | succ n_97 ih_97 =>
                                intro x8_97 x7_97 x5_97 ghy16_97 fm11_97 i_97 m_97
                                refine x_iload C 0 dX10_findHeard_97 rfl ?_
                                refine x_iconst C 4 dX10_findHeard_99 (by decide) ?_
                                refine x_icmp_ge C 145 dX10_findHeard_100 (by decide) (fun c_100 => ?_) (fun c_100 => ?_)
                                · skip
                                  have e_100 : (4 : Int32).toInt ≤ (x8_97 : Int32).toInt := i_le.mp c_100
                                  have : (4 : Int32).toInt = 4 := by decide
                                  have f9 : x5_97 = hdF ma mg mt wf wp wt mw ml co ro mm mp mz fm12_18 (65 * x2_9 + x3_18) := by
                                    rcases i_97.2 with h | h
                                    · exact h.2
                                    · first
                                      | (rw [h.2.2.2, show x8_97.toInt.toNat = 4 by omega]; exact hd_s h.2.1 h.2.2.1)
                                      | (exfalso; omega)
                                  refine x_aload_n C 7 dX10_findHeard_145 rfl rfl ?_
                                  refine x_get C 10 21 dX10_findHeard_146 inlX10 rfl (by decide) wd_135 rfl rfl rfl ?_
                                  refine x_iload C 3 dX10_findHeard_149 rfl ?_
                                  refine x_lload C 2 dX10_findHeard_151 rfl ?_
                                  have v_153 : vp_in ((65 * x2_9) + x3_18) 40625 := (vp_in_iff.mpr (by omega))
                                  refine x_last C 8 1 [(m4, .inl (cI, 4, .inl mg)), (m5, .inl (cI, 4, .inl mt)), (m7, .inl (cI, 6, .inl wf)), (m8, .inl (cI, 6, .inl wp)), (m9, .inl (cI, 6, .inl wt)), (m0, .inl (cI, 625, .inl ro)), (m3, .inl (cI, 16, .inl mm)), (m10, .inl (cI, 30, .inl mp)), (m12, .inl (cJ, 40625, .inr (.inl (vp_updL fm12_18 (Int32.toNatClampNeg ((65 * x2_9) + x3_18)) x5_97)))), (m1, .inl (cI, 65, .inl co)), (hy, .inr (10, [.ref m0, .ref m1, .ref m2, .ref m3, .ref m4, .ref m5, .ref m6, .ref m7, .ref m8, .ref m9, .int mw, .int ml, .int mb, .ref m10, .int mz, .ref m11, .int ghy16_97, .int bp, .int by0, .int dp, .int tk, .ref m12, .ref m13, .ref m14, .ref m15, .ref m16, .ref m17, .ref m18, .int ka, .int iw])), (m11, .inl (cI, 4, .inl fm11_97)), (m2, .inl (cI, 4, .inl ma))] dX10_findHeard_153 hT.2.1 rfl v_153 rfl ?_
                                  have step9 := (DW.step (hd_lc hpa hR) i_18.2 (st := 65 * x2_9 + x3_18) (b' := 65 * x2_9.toInt + (x3_18.toInt + 1)) (by omega) (by omega) (by omega) (by omega) (by omega)).mono (b' := 65 * x2_9.toInt + (x3_18 + 1).toInt) (by have := t1_; have := i_add (x := x3_18) (y := 1) (by omega) (by omega); omega)
                                  rw [← f9] at step9
                                  refine x_iinc C 4 (x3_18 + 1) [(3, .int (x3_18 + 1)), (8, .int x8_97), (7, .int x7_97), (5, .long x5_97), (4, .int ((65 * x2_9) + x3_18)), (2, .int x2_9), (1, .int x1_3), (0, .ref hy)] dX10_findHeard_154 rfl rfl (by decide) rfl ?_
                                  refine x_goto C 18 dX10_findHeard_157 (by decide) ?_
                                  refine x_sub [(hy, .inr (10, [.ref m0, .ref m1, .ref m2, .ref m3, .ref m4, .ref m5, .ref m6, .ref m7, .ref m8, .ref m9, .int mw, .int ml, .int mb, .ref m10, .int mz, .ref m11, .int ghy16_97, .int bp, .int by0, .int dp, .int tk, .ref m12, .ref m13, .ref m14, .ref m15, .ref m16, .ref m17, .ref m18, .int ka, .int iw])), (m11, .inl (cI, 4, .inl fm11_97)), (m2, .inl (cI, 4, .inl ma)), (m4, .inl (cI, 4, .inl mg)), (m5, .inl (cI, 4, .inl mt)), (m7, .inl (cI, 6, .inl wf)), (m8, .inl (cI, 6, .inl wp)), (m9, .inl (cI, 6, .inl wt)), (m0, .inl (cI, 625, .inl ro)), (m1, .inl (cI, 65, .inl co)), (m3, .inl (cI, 16, .inl mm)), (m10, .inl (cI, 30, .inl mp)), (m12, .inl (cJ, 40625, .inr (.inl (vp_updL fm12_18 (Int32.toNatClampNeg ((65 * x2_9) + x3_18)) x5_97))))] [10, 11, 12, 0, 1, 2, 3, 4, 5, 9, 6, 7, 8] (by decide) rfl ?_
                                  refine x_lv [(3, .int (x3_18 + 1)), (2, .int x2_9), (1, .int x1_3), (0, .ref hy)] [0, 5, 6, 7] rfl ?_
                                  have : (1 : Int32).toInt = 1 := by decide
                                  have := i_add (x := x3_18) (y := 1) (by omega) (by omega)
                                  exact ih_18 (x3_18 + 1) ghy16_97 fm11_97 (vp_updL fm12_18 (Int32.toNatClampNeg ((65 * x2_9) + x3_18)) x5_97) ⟨by omega, step9⟩ (by omega)
                                · skip
                                  have e_100 : ¬ ((4 : Int32).toInt ≤ (x8_97 : Int32).toInt) := fun h => c_100 (i_le.mpr h)
                                  have : (4 : Int32).toInt = 4 := by decide
                                  refine x_iload C 1 dX10_findHeard_103 rfl ?_
                                  refine x_if_eq C 145 dX10_findHeard_105 (by decide) (fun c_105 => ?_) (fun c_105 => ?_)
                                  · skip
                                    have e_105 : (x7_97 : Int32).toInt = (0 : Int32).toInt := i_eq.mp c_105
                                    have : (0 : Int32).toInt = 0 := by decide
                                    have f9 : x5_97 = hdF ma mg mt wf wp wt mw ml co ro mm mp mz fm12_18 (65 * x2_9 + x3_18) := by
                                      rcases i_97.2 with h | h
                                      · exact h.2
                                      · first
                                        | (rw [h.2.2.2, show x8_97.toInt.toNat = 4 by omega]; exact hd_s h.2.1 h.2.2.1)
                                        | (exfalso; omega)
                                    refine x_aload_n C 7 dX10_findHeard_145 rfl rfl ?_
                                    refine x_get C 10 21 dX10_findHeard_146 inlX10 rfl (by decide) wd_135 rfl rfl rfl ?_
                                    refine x_iload C 3 dX10_findHeard_149 rfl ?_
                                    refine x_lload C 2 dX10_findHeard_151 rfl ?_
                                    have v_153 : vp_in ((65 * x2_9) + x3_18) 40625 := (vp_in_iff.mpr (by omega))
                                    refine x_last C 8 1 [(m4, .inl (cI, 4, .inl mg)), (m5, .inl (cI, 4, .inl mt)), (m7, .inl (cI, 6, .inl wf)), (m8, .inl (cI, 6, .inl wp)), (m9, .inl (cI, 6, .inl wt)), (m0, .inl (cI, 625, .inl ro)), (m3, .inl (cI, 16, .inl mm)), (m10, .inl (cI, 30, .inl mp)), (m12, .inl (cJ, 40625, .inr (.inl (vp_updL fm12_18 (Int32.toNatClampNeg ((65 * x2_9) + x3_18)) x5_97)))), (m1, .inl (cI, 65, .inl co)), (hy, .inr (10, [.ref m0, .ref m1, .ref m2, .ref m3, .ref m4, .ref m5, .ref m6, .ref m7, .ref m8, .ref m9, .int mw, .int ml, .int mb, .ref m10, .int mz, .ref m11, .int ghy16_97, .int bp, .int by0, .int dp, .int tk, .ref m12, .ref m13, .ref m14, .ref m15, .ref m16, .ref m17, .ref m18, .int ka, .int iw])), (m11, .inl (cI, 4, .inl fm11_97)), (m2, .inl (cI, 4, .inl ma))] dX10_findHeard_153 hT.2.1 rfl v_153 rfl ?_
                                    have step9 := (DW.step (hd_lc hpa hR) i_18.2 (st := 65 * x2_9 + x3_18) (b' := 65 * x2_9.toInt + (x3_18.toInt + 1)) (by omega) (by omega) (by omega) (by omega) (by omega)).mono (b' := 65 * x2_9.toInt + (x3_18 + 1).toInt) (by have := t1_; have := i_add (x := x3_18) (y := 1) (by omega) (by omega); omega)
                                    rw [← f9] at step9
                                    refine x_iinc C 4 (x3_18 + 1) [(3, .int (x3_18 + 1)), (8, .int x8_97), (7, .int x7_97), (5, .long x5_97), (4, .int ((65 * x2_9) + x3_18)), (2, .int x2_9), (1, .int x1_3), (0, .ref hy)] dX10_findHeard_154 rfl rfl (by decide) rfl ?_
                                    refine x_goto C 18 dX10_findHeard_157 (by decide) ?_
                                    refine x_sub [(hy, .inr (10, [.ref m0, .ref m1, .ref m2, .ref m3, .ref m4, .ref m5, .ref m6, .ref m7, .ref m8, .ref m9, .int mw, .int ml, .int mb, .ref m10, .int mz, .ref m11, .int ghy16_97, .int bp, .int by0, .int dp, .int tk, .ref m12, .ref m13, .ref m14, .ref m15, .ref m16, .ref m17, .ref m18, .int ka, .int iw])), (m11, .inl (cI, 4, .inl fm11_97)), (m2, .inl (cI, 4, .inl ma)), (m4, .inl (cI, 4, .inl mg)), (m5, .inl (cI, 4, .inl mt)), (m7, .inl (cI, 6, .inl wf)), (m8, .inl (cI, 6, .inl wp)), (m9, .inl (cI, 6, .inl wt)), (m0, .inl (cI, 625, .inl ro)), (m1, .inl (cI, 65, .inl co)), (m3, .inl (cI, 16, .inl mm)), (m10, .inl (cI, 30, .inl mp)), (m12, .inl (cJ, 40625, .inr (.inl (vp_updL fm12_18 (Int32.toNatClampNeg ((65 * x2_9) + x3_18)) x5_97))))] [10, 11, 12, 0, 1, 2, 3, 4, 5, 9, 6, 7, 8] (by decide) rfl ?_
                                    refine x_lv [(3, .int (x3_18 + 1)), (2, .int x2_9), (1, .int x1_3), (0, .ref hy)] [0, 5, 6, 7] rfl ?_
                                    have : (1 : Int32).toInt = 1 := by decide
                                    have := i_add (x := x3_18) (y := 1) (by omega) (by omega)
                                    exact ih_18 (x3_18 + 1) ghy16_97 fm11_97 (vp_updL fm12_18 (Int32.toNatClampNeg ((65 * x2_9) + x3_18)) x5_97) ⟨by omega, step9⟩ (by omega)
                                  · skip
                                    have e_105 : ¬ ((x7_97 : Int32).toInt = (0 : Int32).toInt) := fun h => c_105 (i_eq.mpr h)
                                    have : (0 : Int32).toInt = 0 := by decide
                                    have q9 := i_97.2.resolve_left (fun h => by omega)
                                    have g9 := q9.2.1.gd hpa hR.1 (show 0 ≤ (65 * x2_9 + x3_18).toInt by omega)
                                    refine x_aload_n C 7 dX10_findHeard_108 rfl rfl ?_
                                    refine x_iload C 3 dX10_findHeard_109 rfl ?_
                                    refine x_iload C 0 dX10_findHeard_111 rfl ?_
                                    refine x_callV C [.int ((65 * x2_9) + x3_18), .int x8_97] [(m12, .inl (cJ, 40625, .inr (.inl fm12_18)))] [10, 11, 12, 0, 1, 2, 3, 4, 5, 9, 6, 7] [8] (q0 := 0) (c_X10_heardNext (xl X) (xD X) (xt X) hT hy m0 m1 m2 m3 m4 m5 m6 m7 m8 m9 m10 m11 m12 m13 m14 m15 m16 m17 m18 fm11_97 ma mg mt wf wp wt ro co mm mp mw ml mb mz ghy16_97 bp by0 dp tk ka iw ((65 * x2_9) + x3_18) x8_97 (by omega) hR g9 (by omega) hmw hwt hz) dX10_findHeard_113 wd_795 wd_796 wd_797 wd_5 wd_798 (np := 2) ⟨by decide, by decide, by decide +kernel⟩ rfl rfl (Nat.le_of_ble_eq_true rfl) (by decide) rfl rfl rfl rfl (by decide) rfl (by decide) (by decide) (fun v W1 h => ?_)
                                    obtain ⟨tl2_113, op2_113, rfl, rfl, h_113⟩ := h
                                    show V X 10 [(m12, .inl (cJ, 40625, .inr (.inl fm12_18))), (hy, .inr (10, [.ref m0, .ref m1, .ref m2, .ref m3, .ref m4, .ref m5, .ref m6, .ref m7, .ref m8, .ref m9, .int mw, .int ml, .int mb, .ref m10, .int mz, .ref m11, .int op2_113, .int bp, .int by0, .int dp, .int tk, .ref m12, .ref m13, .ref m14, .ref m15, .ref m16, .ref m17, .ref m18, .int ka, .int iw])), (m11, .inl (cI, 4, .inl tl2_113)), (m2, .inl (cI, 4, .inl ma)), (m4, .inl (cI, 4, .inl mg)), (m5, .inl (cI, 4, .inl mt)), (m7, .inl (cI, 6, .inl wf)), (m8, .inl (cI, 6, .inl wp)), (m9, .inl (cI, 6, .inl wt)), (m0, .inl (cI, 625, .inl ro)), (m1, .inl (cI, 65, .inl co)), (m3, .inl (cI, 16, .inl mm)), (m10, .inl (cI, 30, .inl mp))] [(8, .int x8_97), (7, .int x7_97), (5, .long x5_97), (4, .int ((65 * x2_9) + x3_18)), (3, .int x3_18), (2, .int x2_9), (1, .int x1_3), (0, .ref hy)] [.int (hnF ma mg mt wf wp wt mw ml co ro mm mp mz ((65 * x2_9) + x3_18) x8_97)] 116 0 0
                                    refine x_istore C [(9, .int (hnF ma mg mt wf wp wt mw ml co ro mm mp mz ((65 * x2_9) + x3_18) x8_97)), (8, .int x8_97), (7, .int x7_97), (5, .long x5_97), (4, .int ((65 * x2_9) + x3_18)), (3, .int x3_18), (2, .int x2_9), (1, .int x1_3), (0, .ref hy)] dX10_findHeard_116 (by decide) rfl ?_
                                    refine x_lload C 3 dX10_findHeard_118 rfl ?_
                                    refine x_iload C 0 dX10_findHeard_120 rfl ?_
                                    refine x_if_ge C 129 dX10_findHeard_122 (by decide) (fun c_122 => ?_) (fun c_122 => ?_)
                                    · skip
                                      have e_122 : (0 : Int32).toInt ≤ (hnF ma mg mt wf wp wt mw ml co ro mm mp mz ((65 * x2_9) + x3_18) x8_97 : Int32).toInt := i_le.mp c_122
                                      have : (0 : Int32).toInt = 0 := by decide
                                      refine x_aload_n C 8 dX10_findHeard_129 rfl rfl ?_
                                      refine x_get C 1 21 dX10_findHeard_130 inlX10 rfl (by decide) wd_135 rfl rfl rfl ?_
                                      refine x_iload C 0 dX10_findHeard_133 rfl ?_
                                      have v_135 : vp_in (hnF ma mg mt wf wp wt mw ml co ro mm mp mz ((65 * x2_9) + x3_18) x8_97) 40625 := (vp_in_iff.mpr (by have := (hn_ok hR (by omega) g9 (by omega) (ge0 e_122)).1; omega))
                                      refine x_lald C 0 1 dX10_findHeard_135 hT.2.1 rfl v_135 ?_
                                      refine x_ladd C dX10_findHeard_136 ?_
                                      refine x_lstore C [(5, .long (x5_97 + (fm12_18 (Int32.toNatClampNeg (hnF ma mg mt wf wp wt mw ml co ro mm mp mz ((65 * x2_9) + x3_18) x8_97))))), (9, .int (hnF ma mg mt wf wp wt mw ml co ro mm mp mz ((65 * x2_9) + x3_18) x8_97)), (8, .int x8_97), (7, .int x7_97), (4, .int ((65 * x2_9) + x3_18)), (3, .int x3_18), (2, .int x2_9), (1, .int x1_3), (0, .ref hy)] dX10_findHeard_137 (by decide) rfl ?_
                                      refine x_iinc C 2 (x8_97 + 1) [(8, .int (x8_97 + 1)), (5, .long (x5_97 + (fm12_18 (Int32.toNatClampNeg (hnF ma mg mt wf wp wt mw ml co ro mm mp mz ((65 * x2_9) + x3_18) x8_97))))), (9, .int (hnF ma mg mt wf wp wt mw ml co ro mm mp mz ((65 * x2_9) + x3_18) x8_97)), (7, .int x7_97), (4, .int ((65 * x2_9) + x3_18)), (3, .int x3_18), (2, .int x2_9), (1, .int x1_3), (0, .ref hy)] dX10_findHeard_139 rfl rfl (by decide) rfl ?_
                                      refine x_goto C 97 dX10_findHeard_142 (by decide) ?_
                                      refine x_sub [(m4, .inl (cI, 4, .inl mg)), (m5, .inl (cI, 4, .inl mt)), (m7, .inl (cI, 6, .inl wf)), (m8, .inl (cI, 6, .inl wp)), (m9, .inl (cI, 6, .inl wt)), (m0, .inl (cI, 625, .inl ro)), (m3, .inl (cI, 16, .inl mm)), (m10, .inl (cI, 30, .inl mp)), (m12, .inl (cJ, 40625, .inr (.inl fm12_18))), (m1, .inl (cI, 65, .inl co)), (hy, .inr (10, [.ref m0, .ref m1, .ref m2, .ref m3, .ref m4, .ref m5, .ref m6, .ref m7, .ref m8, .ref m9, .int mw, .int ml, .int mb, .ref m10, .int mz, .ref m11, .int op2_113, .int bp, .int by0, .int dp, .int tk, .ref m12, .ref m13, .ref m14, .ref m15, .ref m16, .ref m17, .ref m18, .int ka, .int iw])), (m11, .inl (cI, 4, .inl tl2_113)), (m2, .inl (cI, 4, .inl ma))] [4, 5, 6, 7, 8, 9, 11, 12, 0, 10, 1, 2, 3] (by decide) rfl ?_
                                      refine x_lv [(8, .int (x8_97 + 1)), (7, .int x7_97), (5, .long (x5_97 + (fm12_18 (Int32.toNatClampNeg (hnF ma mg mt wf wp wt mw ml co ro mm mp mz ((65 * x2_9) + x3_18) x8_97))))), (4, .int ((65 * x2_9) + x3_18)), (3, .int x3_18), (2, .int x2_9), (1, .int x1_3), (0, .ref hy)] [0, 3, 1, 4, 5, 6, 7, 8] rfl ?_
                                      have := t0_
                                      have := t1_
                                      have : (1 : Int32).toInt = 1 := by decide
                                      have := i_add (x := x8_97) (y := 1) (by omega) (by omega)
                                      exact ih_97 (x8_97 + 1) x7_97 (x5_97 + (fm12_18 (Int32.toNatClampNeg (hnF ma mg mt wf wp wt mw ml co ro mm mp mz ((65 * x2_9) + x3_18) x8_97)))) op2_113 tl2_113 ⟨by omega, Or.inr ⟨by omega, q9.2.1, by omega, by first | exact (congrArg (fun z => z + 0) q9.2.2.2).trans (swF_n (nx := fun s => hnF ma mg mt wf wp wt mw ml co ro mm mp mz (65 * x2_9 + x3_18) s) (x := x8_97) (by omega) (by omega) (by omega)).symm | exact (congrArg (fun z => z + _) q9.2.2.2).trans (swF_p (nx := fun s => hnF ma mg mt wf wp wt mw ml co ro mm mp mz (65 * x2_9 + x3_18) s) (x := x8_97) (by omega) (by omega) (ge0 e_122)).symm⟩⟩ (by omega)
                                    · skip
                                      have e_122 : ¬ ((0 : Int32).toInt ≤ (hnF ma mg mt wf wp wt mw ml co ro mm mp mz ((65 * x2_9) + x3_18) x8_97 : Int32).toInt) := fun h => c_122 (i_le.mpr h)
                                      have : (0 : Int32).toInt = 0 := by decide
                                      refine x_lconst C 0 dX10_findHeard_125 (by decide) ?_
                                      refine x_goto C 136 dX10_findHeard_126 (by decide) ?_
                                      refine x_ladd C dX10_findHeard_136 ?_
                                      refine x_lstore C [(5, .long (x5_97 + 0)), (9, .int (hnF ma mg mt wf wp wt mw ml co ro mm mp mz ((65 * x2_9) + x3_18) x8_97)), (8, .int x8_97), (7, .int x7_97), (4, .int ((65 * x2_9) + x3_18)), (3, .int x3_18), (2, .int x2_9), (1, .int x1_3), (0, .ref hy)] dX10_findHeard_137 (by decide) rfl ?_
                                      refine x_iinc C 2 (x8_97 + 1) [(8, .int (x8_97 + 1)), (5, .long (x5_97 + 0)), (9, .int (hnF ma mg mt wf wp wt mw ml co ro mm mp mz ((65 * x2_9) + x3_18) x8_97)), (7, .int x7_97), (4, .int ((65 * x2_9) + x3_18)), (3, .int x3_18), (2, .int x2_9), (1, .int x1_3), (0, .ref hy)] dX10_findHeard_139 rfl rfl (by decide) rfl ?_
                                      refine x_goto C 97 dX10_findHeard_142 (by decide) ?_
                                      refine x_sub [(m4, .inl (cI, 4, .inl mg)), (m5, .inl (cI, 4, .inl mt)), (m7, .inl (cI, 6, .inl wf)), (m8, .inl (cI, 6, .inl wp)), (m9, .inl (cI, 6, .inl wt)), (m0, .inl (cI, 625, .inl ro)), (m3, .inl (cI, 16, .inl mm)), (m10, .inl (cI, 30, .inl mp)), (m12, .inl (cJ, 40625, .inr (.inl fm12_18))), (m1, .inl (cI, 65, .inl co)), (hy, .inr (10, [.ref m0, .ref m1, .ref m2, .ref m3, .ref m4, .ref m5, .ref m6, .ref m7, .ref m8, .ref m9, .int mw, .int ml, .int mb, .ref m10, .int mz, .ref m11, .int op2_113, .int bp, .int by0, .int dp, .int tk, .ref m12, .ref m13, .ref m14, .ref m15, .ref m16, .ref m17, .ref m18, .int ka, .int iw])), (m11, .inl (cI, 4, .inl tl2_113)), (m2, .inl (cI, 4, .inl ma))] [4, 5, 6, 7, 8, 9, 11, 12, 0, 10, 1, 2, 3] (by decide) rfl ?_
                                      refine x_lv [(8, .int (x8_97 + 1)), (7, .int x7_97), (5, .long (x5_97 + 0)), (4, .int ((65 * x2_9) + x3_18)), (3, .int x3_18), (2, .int x2_9), (1, .int x1_3), (0, .ref hy)] [0, 3, 1, 4, 5, 6, 7, 8] rfl ?_
                                      have := t0_
                                      have := t1_
                                      have : (1 : Int32).toInt = 1 := by decide
                                      have := i_add (x := x8_97) (y := 1) (by omega) (by omega)
                                      exact ih_97 (x8_97 + 1) x7_97 (x5_97 + 0) op2_113 tl2_113 ⟨by omega, Or.inr ⟨by omega, q9.2.1, by omega, by first | exact (congrArg (fun z => z + 0) q9.2.2.2).trans (swF_n (nx := fun s => hnF ma mg mt wf wp wt mw ml co ro mm mp mz (65 * x2_9 + x3_18) s) (x := x8_97) (by omega) (by omega) (by omega)).symm | exact (congrArg (fun z => z + _) q9.2.2.2).trans (swF_p (nx := fun s => hnF ma mg mt wf wp wt mw ml co ro mm mp mz (65 * x2_9 + x3_18) s) (x := x8_97) (by omega) (by omega) (ge0 e_122)).symm⟩⟩ (by omega)
                            have := t0_
                            have := t1_
                            have : (0 : Int32).toInt = 0 := by decide
                            have : (0 : Int32).toInt = 0 := by decide
                            exact L_97 _ 0 0 0 ((opS co ((65 * x2_9) + x3_18))) ((tds ((65 * x2_9) + x3_18))) ⟨by omega, by first | exact Or.inl ⟨by omega, hd_1 (h_57.t (by omega)) (by omega)⟩ | exact Or.inl ⟨by omega, hd_0 (h_57.f (by omega))⟩ | exact Or.inl ⟨by omega, hd_b (by omega) (by omega)⟩ | (exfalso; omega)⟩ (Nat.lt_succ_self _)
                          · skip
                            have e_75 : ¬ ((mz : Int32).toInt ≤ (x1_3 : Int32).toInt) := fun h => c_75 (i_le.mpr h)
                            refine x_aload_n C 5 dX10_findHeard_78 rfl rfl ?_
                            refine x_bipush C 15 dX10_findHeard_79 (by decide) ?_
                            refine x_callV C [.int 15] [(m4, .inl (cI, 4, .inl mg)), (m5, .inl (cI, 4, .inl mt)), (m7, .inl (cI, 6, .inl wf)), (m8, .inl (cI, 6, .inl wp)), (m9, .inl (cI, 6, .inl wt)), (m0, .inl (cI, 625, .inl ro)), (m3, .inl (cI, 16, .inl mm)), (m10, .inl (cI, 30, .inl mp)), (m12, .inl (cJ, 40625, .inr (.inl fm12_18))), (m1, .inl (cI, 65, .inl co))] [10, 11, 12] [0, 1, 2, 3, 4, 5, 6, 7, 8, 9] (q0 := 0) (c_X10_canBe (xl X) (xD X) (xt X) hT hy m0 m1 m2 m3 m4 m5 m6 m7 m8 m9 m10 m11 m12 m13 m14 m15 m16 m17 m18 ((tds ((65 * x2_9) + x3_18))) ma mw ml mb mz ((opS co ((65 * x2_9) + x3_18))) bp by0 dp tk ka iw 15 (by omega)) dX10_findHeard_81 wd_579 wd_580 wd_581 wd_5 wd_582 (np := 1) ⟨by decide, by decide, by decide +kernel⟩ rfl rfl (Nat.le_of_ble_eq_true rfl) (by decide) rfl rfl rfl rfl (by decide) rfl (by decide) (by decide) (fun v W1 h => ?_)
                            obtain ⟨r_81, rfl, rfl, h_81⟩ := h
                            have : (15 : Int32).toInt = 15 := by decide
                            show V X 10 [(m4, .inl (cI, 4, .inl mg)), (m5, .inl (cI, 4, .inl mt)), (m7, .inl (cI, 6, .inl wf)), (m8, .inl (cI, 6, .inl wp)), (m9, .inl (cI, 6, .inl wt)), (m0, .inl (cI, 625, .inl ro)), (m3, .inl (cI, 16, .inl mm)), (m10, .inl (cI, 30, .inl mp)), (m12, .inl (cJ, 40625, .inr (.inl fm12_18))), (m1, .inl (cI, 65, .inl co)), (hy, .inr (10, [.ref m0, .ref m1, .ref m2, .ref m3, .ref m4, .ref m5, .ref m6, .ref m7, .ref m8, .ref m9, .int mw, .int ml, .int mb, .ref m10, .int mz, .ref m11, .int (((opS co ((65 * x2_9) + x3_18)))), .int bp, .int by0, .int dp, .int tk, .ref m12, .ref m13, .ref m14, .ref m15, .ref m16, .ref m17, .ref m18, .int ka, .int iw])), (m11, .inl (cI, 4, .inl (((tds ((65 * x2_9) + x3_18)))))), (m2, .inl (cI, 4, .inl ma))] [(5, .long 0), (4, .int ((65 * x2_9) + x3_18)), (3, .int x3_18), (2, .int x2_9), (1, .int x1_3), (0, .ref hy)] [.int r_81] 84 0 0
                            refine x_if_eq C 91 dX10_findHeard_84 (by decide) (fun c_84 => ?_) (fun c_84 => ?_)
                            · skip
                              have e_84 : (r_81 : Int32).toInt = (0 : Int32).toInt := i_eq.mp c_84
                              have : (0 : Int32).toInt = 0 := by decide
                              refine x_iconst C 0 dX10_findHeard_91 (by decide) ?_
                              refine x_istore C [(7, .int 0), (5, .long 0), (4, .int ((65 * x2_9) + x3_18)), (3, .int x3_18), (2, .int x2_9), (1, .int x1_3), (0, .ref hy)] dX10_findHeard_92 (by decide) rfl ?_
                              refine x_iconst C 0 dX10_findHeard_94 (by decide) ?_
                              refine x_istore C [(8, .int 0), (7, .int 0), (5, .long 0), (4, .int ((65 * x2_9) + x3_18)), (3, .int x3_18), (2, .int x2_9), (1, .int x1_3), (0, .ref hy)] dX10_findHeard_95 (by decide) rfl ?_
                              have L_97 : ∀ (n_97 : Nat) (x8_97 : Int32) (x7_97 : Int32) (x5_97 : Int64) (ghy16_97 : Int32) (fm11_97 : Nat → Int32), ((0 ≤ x8_97.toInt ∧ x8_97.toInt ≤ 4) ∧ ((x7_97.toInt = 0 ∧ x5_97 = hdF ma mg mt wf wp wt mw ml co ro mm mp mz fm12_18 (65 * x2_9 + x3_18)) ∨ (x7_97.toInt = 1 ∧ CB ma (tds (65 * x2_9 + x3_18)) (opS co (65 * x2_9 + x3_18)) 15 ∧ sm (65 * x2_9 + x3_18) < mz.toInt ∧ x5_97 = swF (fun s => hnF ma mg mt wf wp wt mw ml co ro mm mp mz (65 * x2_9 + x3_18) s) fm12_18 x8_97.toInt.toNat))) → ((4 - x8_97.toInt).toNat < n_97) → V X 10 [(m4, .inl (cI, 4, .inl mg)), (m5, .inl (cI, 4, .inl mt)), (m7, .inl (cI, 6, .inl wf)), (m8, .inl (cI, 6, .inl wp)), (m9, .inl (cI, 6, .inl wt)), (m0, .inl (cI, 625, .inl ro)), (m3, .inl (cI, 16, .inl mm)), (m10, .inl (cI, 30, .inl mp)), (m12, .inl (cJ, 40625, .inr (.inl fm12_18))), (m1, .inl (cI, 65, .inl co)), (hy, .inr (10, [.ref m0, .ref m1, .ref m2, .ref m3, .ref m4, .ref m5, .ref m6, .ref m7, .ref m8, .ref m9, .int mw, .int ml, .int mb, .ref m10, .int mz, .ref m11, .int ghy16_97, .int bp, .int by0, .int dp, .int tk, .ref m12, .ref m13, .ref m14, .ref m15, .ref m16, .ref m17, .ref m18, .int ka, .int iw])), (m11, .inl (cI, 4, .inl fm11_97)), (m2, .inl (cI, 4, .inl ma))] [(8, .int x8_97), (7, .int x7_97), (5, .long x5_97), (4, .int ((65 * x2_9) + x3_18)), (3, .int x3_18), (2, .int x2_9), (1, .int x1_3), (0, .ref hy)] [] 97 0 0 := by
                                intro n_97
                                induction n_97 with
                                | zero =>
                                  intro x8_97 x7_97 x5_97 ghy16_97 fm11_97 i_97 m_97
                                  exact absurd m_97 (Nat.not_lt_zero _)
                                | succ n_97 ih_97 =>
                                  intro x8_97 x7_97 x5_97 ghy16_97 fm11_97 i_97 m_97
                                  refine x_iload C 0 dX10_findHeard_97 rfl ?_
                                  refine x_iconst C 4 dX10_findHeard_99 (by decide) ?_
                                  refine x_icmp_ge C 145 dX10_findHeard_100 (by decide) (fun c_100 => ?_) (fun c_100 => ?_)
                                  · skip
                                    have e_100 : (4 : Int32).toInt ≤ (x8_97 : Int32).toInt := i_le.mp c_100
                                    have : (4 : Int32).toInt = 4 := by decide
                                    have f9 : x5_97 = hdF ma mg mt wf wp wt mw ml co ro mm mp mz fm12_18 (65 * x2_9 + x3_18) := by
                                      rcases i_97.2 with h | h
                                      · exact h.2
                                      · first
                                        | (rw [h.2.2.2, show x8_97.toInt.toNat = 4 by omega]; exact hd_s h.2.1 h.2.2.1)
                                        | (exfalso; omega)
                                    refine x_aload_n C 7 dX10_findHeard_145 rfl rfl ?_
                                    refine x_get C 10 21 dX10_findHeard_146 inlX10 rfl (by decide) wd_135 rfl rfl rfl ?_
                                    refine x_iload C 3 dX10_findHeard_149 rfl ?_
                                    refine x_lload C 2 dX10_findHeard_151 rfl ?_
                                    have v_153 : vp_in ((65 * x2_9) + x3_18) 40625 := (vp_in_iff.mpr (by omega))
                                    refine x_last C 8 1 [(m4, .inl (cI, 4, .inl mg)), (m5, .inl (cI, 4, .inl mt)), (m7, .inl (cI, 6, .inl wf)), (m8, .inl (cI, 6, .inl wp)), (m9, .inl (cI, 6, .inl wt)), (m0, .inl (cI, 625, .inl ro)), (m3, .inl (cI, 16, .inl mm)), (m10, .inl (cI, 30, .inl mp)), (m12, .inl (cJ, 40625, .inr (.inl (vp_updL fm12_18 (Int32.toNatClampNeg ((65 * x2_9) + x3_18)) x5_97)))), (m1, .inl (cI, 65, .inl co)), (hy, .inr (10, [.ref m0, .ref m1, .ref m2, .ref m3, .ref m4, .ref m5, .ref m6, .ref m7, .ref m8, .ref m9, .int mw, .int ml, .int mb, .ref m10, .int mz, .ref m11, .int ghy16_97, .int bp, .int by0, .int dp, .int tk, .ref m12, .ref m13, .ref m14, .ref m15, .ref m16, .ref m17, .ref m18, .int ka, .int iw])), (m11, .inl (cI, 4, .inl fm11_97)), (m2, .inl (cI, 4, .inl ma))] dX10_findHeard_153 hT.2.1 rfl v_153 rfl ?_
                                    have step9 := (DW.step (hd_lc hpa hR) i_18.2 (st := 65 * x2_9 + x3_18) (b' := 65 * x2_9.toInt + (x3_18.toInt + 1)) (by omega) (by omega) (by omega) (by omega) (by omega)).mono (b' := 65 * x2_9.toInt + (x3_18 + 1).toInt) (by have := t1_; have := i_add (x := x3_18) (y := 1) (by omega) (by omega); omega)
                                    rw [← f9] at step9
                                    refine x_iinc C 4 (x3_18 + 1) [(3, .int (x3_18 + 1)), (8, .int x8_97), (7, .int x7_97), (5, .long x5_97), (4, .int ((65 * x2_9) + x3_18)), (2, .int x2_9), (1, .int x1_3), (0, .ref hy)] dX10_findHeard_154 rfl rfl (by decide) rfl ?_
                                    refine x_goto C 18 dX10_findHeard_157 (by decide) ?_
                                    refine x_sub [(hy, .inr (10, [.ref m0, .ref m1, .ref m2, .ref m3, .ref m4, .ref m5, .ref m6, .ref m7, .ref m8, .ref m9, .int mw, .int ml, .int mb, .ref m10, .int mz, .ref m11, .int ghy16_97, .int bp, .int by0, .int dp, .int tk, .ref m12, .ref m13, .ref m14, .ref m15, .ref m16, .ref m17, .ref m18, .int ka, .int iw])), (m11, .inl (cI, 4, .inl fm11_97)), (m2, .inl (cI, 4, .inl ma)), (m4, .inl (cI, 4, .inl mg)), (m5, .inl (cI, 4, .inl mt)), (m7, .inl (cI, 6, .inl wf)), (m8, .inl (cI, 6, .inl wp)), (m9, .inl (cI, 6, .inl wt)), (m0, .inl (cI, 625, .inl ro)), (m1, .inl (cI, 65, .inl co)), (m3, .inl (cI, 16, .inl mm)), (m10, .inl (cI, 30, .inl mp)), (m12, .inl (cJ, 40625, .inr (.inl (vp_updL fm12_18 (Int32.toNatClampNeg ((65 * x2_9) + x3_18)) x5_97))))] [10, 11, 12, 0, 1, 2, 3, 4, 5, 9, 6, 7, 8] (by decide) rfl ?_
                                    refine x_lv [(3, .int (x3_18 + 1)), (2, .int x2_9), (1, .int x1_3), (0, .ref hy)] [0, 5, 6, 7] rfl ?_
                                    have : (1 : Int32).toInt = 1 := by decide
                                    have := i_add (x := x3_18) (y := 1) (by omega) (by omega)
                                    exact ih_18 (x3_18 + 1) ghy16_97 fm11_97 (vp_updL fm12_18 (Int32.toNatClampNeg ((65 * x2_9) + x3_18)) x5_97) ⟨by omega, step9⟩ (by omega)
                                  · skip
                                    have e_100 : ¬ ((4 : Int32).toInt ≤ (x8_97 : Int32).toInt) := fun h => c_100 (i_le.mpr h)
                                    have : (4 : Int32).toInt = 4 := by decide
                                    refine x_iload C 1 dX10_findHeard_103 rfl ?_
                                    refine x_if_eq C 145 dX10_findHeard_105 (by decide) (fun c_105 => ?_) (fun c_105 => ?_)
                                    · skip
                                      have e_105 : (x7_97 : Int32).toInt = (0 : Int32).toInt := i_eq.mp c_105
                                      have : (0 : Int32).toInt = 0 := by decide
                                      have f9 : x5_97 = hdF ma mg mt wf wp wt mw ml co ro mm mp mz fm12_18 (65 * x2_9 + x3_18) := by
                                        rcases i_97.2 with h | h
                                        · exact h.2
                                        · first
                                          | (rw [h.2.2.2, show x8_97.toInt.toNat = 4 by omega]; exact hd_s h.2.1 h.2.2.1)
                                          | (exfalso; omega)
                                      refine x_aload_n C 7 dX10_findHeard_145 rfl rfl ?_
                                      refine x_get C 10 21 dX10_findHeard_146 inlX10 rfl (by decide) wd_135 rfl rfl rfl ?_
                                      refine x_iload C 3 dX10_findHeard_149 rfl ?_
                                      refine x_lload C 2 dX10_findHeard_151 rfl ?_
                                      have v_153 : vp_in ((65 * x2_9) + x3_18) 40625 := (vp_in_iff.mpr (by omega))
                                      refine x_last C 8 1 [(m4, .inl (cI, 4, .inl mg)), (m5, .inl (cI, 4, .inl mt)), (m7, .inl (cI, 6, .inl wf)), (m8, .inl (cI, 6, .inl wp)), (m9, .inl (cI, 6, .inl wt)), (m0, .inl (cI, 625, .inl ro)), (m3, .inl (cI, 16, .inl mm)), (m10, .inl (cI, 30, .inl mp)), (m12, .inl (cJ, 40625, .inr (.inl (vp_updL fm12_18 (Int32.toNatClampNeg ((65 * x2_9) + x3_18)) x5_97)))), (m1, .inl (cI, 65, .inl co)), (hy, .inr (10, [.ref m0, .ref m1, .ref m2, .ref m3, .ref m4, .ref m5, .ref m6, .ref m7, .ref m8, .ref m9, .int mw, .int ml, .int mb, .ref m10, .int mz, .ref m11, .int ghy16_97, .int bp, .int by0, .int dp, .int tk, .ref m12, .ref m13, .ref m14, .ref m15, .ref m16, .ref m17, .ref m18, .int ka, .int iw])), (m11, .inl (cI, 4, .inl fm11_97)), (m2, .inl (cI, 4, .inl ma))] dX10_findHeard_153 hT.2.1 rfl v_153 rfl ?_
                                      have step9 := (DW.step (hd_lc hpa hR) i_18.2 (st := 65 * x2_9 + x3_18) (b' := 65 * x2_9.toInt + (x3_18.toInt + 1)) (by omega) (by omega) (by omega) (by omega) (by omega)).mono (b' := 65 * x2_9.toInt + (x3_18 + 1).toInt) (by have := t1_; have := i_add (x := x3_18) (y := 1) (by omega) (by omega); omega)
                                      rw [← f9] at step9
                                      refine x_iinc C 4 (x3_18 + 1) [(3, .int (x3_18 + 1)), (8, .int x8_97), (7, .int x7_97), (5, .long x5_97), (4, .int ((65 * x2_9) + x3_18)), (2, .int x2_9), (1, .int x1_3), (0, .ref hy)] dX10_findHeard_154 rfl rfl (by decide) rfl ?_
                                      refine x_goto C 18 dX10_findHeard_157 (by decide) ?_
                                      refine x_sub [(hy, .inr (10, [.ref m0, .ref m1, .ref m2, .ref m3, .ref m4, .ref m5, .ref m6, .ref m7, .ref m8, .ref m9, .int mw, .int ml, .int mb, .ref m10, .int mz, .ref m11, .int ghy16_97, .int bp, .int by0, .int dp, .int tk, .ref m12, .ref m13, .ref m14, .ref m15, .ref m16, .ref m17, .ref m18, .int ka, .int iw])), (m11, .inl (cI, 4, .inl fm11_97)), (m2, .inl (cI, 4, .inl ma)), (m4, .inl (cI, 4, .inl mg)), (m5, .inl (cI, 4, .inl mt)), (m7, .inl (cI, 6, .inl wf)), (m8, .inl (cI, 6, .inl wp)), (m9, .inl (cI, 6, .inl wt)), (m0, .inl (cI, 625, .inl ro)), (m1, .inl (cI, 65, .inl co)), (m3, .inl (cI, 16, .inl mm)), (m10, .inl (cI, 30, .inl mp)), (m12, .inl (cJ, 40625, .inr (.inl (vp_updL fm12_18 (Int32.toNatClampNeg ((65 * x2_9) + x3_18)) x5_97))))] [10, 11, 12, 0, 1, 2, 3, 4, 5, 9, 6, 7, 8] (by decide) rfl ?_
                                      refine x_lv [(3, .int (x3_18 + 1)), (2, .int x2_9), (1, .int x1_3), (0, .ref hy)] [0, 5, 6, 7] rfl ?_
                                      have : (1 : Int32).toInt = 1 := by decide
                                      have := i_add (x := x3_18) (y := 1) (by omega) (by omega)
                                      exact ih_18 (x3_18 + 1) ghy16_97 fm11_97 (vp_updL fm12_18 (Int32.toNatClampNeg ((65 * x2_9) + x3_18)) x5_97) ⟨by omega, step9⟩ (by omega)
                                    · skip
                                      have e_105 : ¬ ((x7_97 : Int32).toInt = (0 : Int32).toInt) := fun h => c_105 (i_eq.mpr h)
                                      have : (0 : Int32).toInt = 0 := by decide
                                      have q9 := i_97.2.resolve_left (fun h => by omega)
                                      have g9 := q9.2.1.gd hpa hR.1 (show 0 ≤ (65 * x2_9 + x3_18).toInt by omega)
                                      refine x_aload_n C 7 dX10_findHeard_108 rfl rfl ?_
                                      refine x_iload C 3 dX10_findHeard_109 rfl ?_
                                      refine x_iload C 0 dX10_findHeard_111 rfl ?_
                                      refine x_callV C [.int ((65 * x2_9) + x3_18), .int x8_97] [(m12, .inl (cJ, 40625, .inr (.inl fm12_18)))] [10, 11, 12, 0, 1, 2, 3, 4, 5, 9, 6, 7] [8] (q0 := 0) (c_X10_heardNext (xl X) (xD X) (xt X) hT hy m0 m1 m2 m3 m4 m5 m6 m7 m8 m9 m10 m11 m12 m13 m14 m15 m16 m17 m18 fm11_97 ma mg mt wf wp wt ro co mm mp mw ml mb mz ghy16_97 bp by0 dp tk ka iw ((65 * x2_9) + x3_18) x8_97 (by omega) hR g9 (by omega) hmw hwt hz) dX10_findHeard_113 wd_795 wd_796 wd_797 wd_5 wd_798 (np := 2) ⟨by decide, by decide, by decide +kernel⟩ rfl rfl (Nat.le_of_ble_eq_true rfl) (by decide) rfl rfl rfl rfl (by decide) rfl (by decide) (by decide) (fun v W1 h => ?_)
                                      obtain ⟨tl2_113, op2_113, rfl, rfl, h_113⟩ := h
                                      show V X 10 [(m12, .inl (cJ, 40625, .inr (.inl fm12_18))), (hy, .inr (10, [.ref m0, .ref m1, .ref m2, .ref m3, .ref m4, .ref m5, .ref m6, .ref m7, .ref m8, .ref m9, .int mw, .int ml, .int mb, .ref m10, .int mz, .ref m11, .int op2_113, .int bp, .int by0, .int dp, .int tk, .ref m12, .ref m13, .ref m14, .ref m15, .ref m16, .ref m17, .ref m18, .int ka, .int iw])), (m11, .inl (cI, 4, .inl tl2_113)), (m2, .inl (cI, 4, .inl ma)), (m4, .inl (cI, 4, .inl mg)), (m5, .inl (cI, 4, .inl mt)), (m7, .inl (cI, 6, .inl wf)), (m8, .inl (cI, 6, .inl wp)), (m9, .inl (cI, 6, .inl wt)), (m0, .inl (cI, 625, .inl ro)), (m1, .inl (cI, 65, .inl co)), (m3, .inl (cI, 16, .inl mm)), (m10, .inl (cI, 30, .inl mp))] [(8, .int x8_97), (7, .int x7_97), (5, .long x5_97), (4, .int ((65 * x2_9) + x3_18)), (3, .int x3_18), (2, .int x2_9), (1, .int x1_3), (0, .ref hy)] [.int (hnF ma mg mt wf wp wt mw ml co ro mm mp mz ((65 * x2_9) + x3_18) x8_97)] 116 0 0
                                      refine x_istore C [(9, .int (hnF ma mg mt wf wp wt mw ml co ro mm mp mz ((65 * x2_9) + x3_18) x8_97)), (8, .int x8_97), (7, .int x7_97), (5, .long x5_97), (4, .int ((65 * x2_9) + x3_18)), (3, .int x3_18), (2, .int x2_9), (1, .int x1_3), (0, .ref hy)] dX10_findHeard_116 (by decide) rfl ?_
                                      refine x_lload C 3 dX10_findHeard_118 rfl ?_
                                      refine x_iload C 0 dX10_findHeard_120 rfl ?_
                                      refine x_if_ge C 129 dX10_findHeard_122 (by decide) (fun c_122 => ?_) (fun c_122 => ?_)
                                      · skip
                                        have e_122 : (0 : Int32).toInt ≤ (hnF ma mg mt wf wp wt mw ml co ro mm mp mz ((65 * x2_9) + x3_18) x8_97 : Int32).toInt := i_le.mp c_122
                                        have : (0 : Int32).toInt = 0 := by decide
                                        refine x_aload_n C 8 dX10_findHeard_129 rfl rfl ?_
                                        refine x_get C 1 21 dX10_findHeard_130 inlX10 rfl (by decide) wd_135 rfl rfl rfl ?_
                                        refine x_iload C 0 dX10_findHeard_133 rfl ?_
                                        have v_135 : vp_in (hnF ma mg mt wf wp wt mw ml co ro mm mp mz ((65 * x2_9) + x3_18) x8_97) 40625 := (vp_in_iff.mpr (by have := (hn_ok hR (by omega) g9 (by omega) (ge0 e_122)).1; omega))
                                        refine x_lald C 0 1 dX10_findHeard_135 hT.2.1 rfl v_135 ?_
                                        refine x_ladd C dX10_findHeard_136 ?_
                                        refine x_lstore C [(5, .long (x5_97 + (fm12_18 (Int32.toNatClampNeg (hnF ma mg mt wf wp wt mw ml co ro mm mp mz ((65 * x2_9) + x3_18) x8_97))))), (9, .int (hnF ma mg mt wf wp wt mw ml co ro mm mp mz ((65 * x2_9) + x3_18) x8_97)), (8, .int x8_97), (7, .int x7_97), (4, .int ((65 * x2_9) + x3_18)), (3, .int x3_18), (2, .int x2_9), (1, .int x1_3), (0, .ref hy)] dX10_findHeard_137 (by decide) rfl ?_
                                        refine x_iinc C 2 (x8_97 + 1) [(8, .int (x8_97 + 1)), (5, .long (x5_97 + (fm12_18 (Int32.toNatClampNeg (hnF ma mg mt wf wp wt mw ml co ro mm mp mz ((65 * x2_9) + x3_18) x8_97))))), (9, .int (hnF ma mg mt wf wp wt mw ml co ro mm mp mz ((65 * x2_9) + x3_18) x8_97)), (7, .int x7_97), (4, .int ((65 * x2_9) + x3_18)), (3, .int x3_18), (2, .int x2_9), (1, .int x1_3), (0, .ref hy)] dX10_findHeard_139 rfl rfl (by decide) rfl ?_
                                        refine x_goto C 97 dX10_findHeard_142 (by decide) ?_
                                        refine x_sub [(m4, .inl (cI, 4, .inl mg)), (m5, .inl (cI, 4, .inl mt)), (m7, .inl (cI, 6, .inl wf)), (m8, .inl (cI, 6, .inl wp)), (m9, .inl (cI, 6, .inl wt)), (m0, .inl (cI, 625, .inl ro)), (m3, .inl (cI, 16, .inl mm)), (m10, .inl (cI, 30, .inl mp)), (m12, .inl (cJ, 40625, .inr (.inl fm12_18))), (m1, .inl (cI, 65, .inl co)), (hy, .inr (10, [.ref m0, .ref m1, .ref m2, .ref m3, .ref m4, .ref m5, .ref m6, .ref m7, .ref m8, .ref m9, .int mw, .int ml, .int mb, .ref m10, .int mz, .ref m11, .int op2_113, .int bp, .int by0, .int dp, .int tk, .ref m12, .ref m13, .ref m14, .ref m15, .ref m16, .ref m17, .ref m18, .int ka, .int iw])), (m11, .inl (cI, 4, .inl tl2_113)), (m2, .inl (cI, 4, .inl ma))] [4, 5, 6, 7, 8, 9, 11, 12, 0, 10, 1, 2, 3] (by decide) rfl ?_
                                        refine x_lv [(8, .int (x8_97 + 1)), (7, .int x7_97), (5, .long (x5_97 + (fm12_18 (Int32.toNatClampNeg (hnF ma mg mt wf wp wt mw ml co ro mm mp mz ((65 * x2_9) + x3_18) x8_97))))), (4, .int ((65 * x2_9) + x3_18)), (3, .int x3_18), (2, .int x2_9), (1, .int x1_3), (0, .ref hy)] [0, 3, 1, 4, 5, 6, 7, 8] rfl ?_
                                        have := t0_
                                        have := t1_
                                        have : (1 : Int32).toInt = 1 := by decide
                                        have := i_add (x := x8_97) (y := 1) (by omega) (by omega)
                                        exact ih_97 (x8_97 + 1) x7_97 (x5_97 + (fm12_18 (Int32.toNatClampNeg (hnF ma mg mt wf wp wt mw ml co ro mm mp mz ((65 * x2_9) + x3_18) x8_97)))) op2_113 tl2_113 ⟨by omega, Or.inr ⟨by omega, q9.2.1, by omega, by first | exact (congrArg (fun z => z + 0) q9.2.2.2).trans (swF_n (nx := fun s => hnF ma mg mt wf wp wt mw ml co ro mm mp mz (65 * x2_9 + x3_18) s) (x := x8_97) (by omega) (by omega) (by omega)).symm | exact (congrArg (fun z => z + _) q9.2.2.2).trans (swF_p (nx := fun s => hnF ma mg mt wf wp wt mw ml co ro mm mp mz (65 * x2_9 + x3_18) s) (x := x8_97) (by omega) (by omega) (ge0 e_122)).symm⟩⟩ (by omega)
                                      · skip
                                        have e_122 : ¬ ((0 : Int32).toInt ≤ (hnF ma mg mt wf wp wt mw ml co ro mm mp mz ((65 * x2_9) + x3_18) x8_97 : Int32).toInt) := fun h => c_122 (i_le.mpr h)
                                        have : (0 : Int32).toInt = 0 := by decide
                                        refine x_lconst C 0 dX10_findHeard_125 (by decide) ?_
                                        refine x_goto C 136 dX10_findHeard_126 (by decide) ?_
                                        refine x_ladd C dX10_findHeard_136 ?_
                                        refine x_lstore C [(5, .long (x5_97 + 0)), (9, .int (hnF ma mg mt wf wp wt mw ml co ro mm mp mz ((65 * x2_9) + x3_18) x8_97)), (8, .int x8_97), (7, .int x7_97), (4, .int ((65 * x2_9) + x3_18)), (3, .int x3_18), (2, .int x2_9), (1, .int x1_3), (0, .ref hy)] dX10_findHeard_137 (by decide) rfl ?_
                                        refine x_iinc C 2 (x8_97 + 1) [(8, .int (x8_97 + 1)), (5, .long (x5_97 + 0)), (9, .int (hnF ma mg mt wf wp wt mw ml co ro mm mp mz ((65 * x2_9) + x3_18) x8_97)), (7, .int x7_97), (4, .int ((65 * x2_9) + x3_18)), (3, .int x3_18), (2, .int x2_9), (1, .int x1_3), (0, .ref hy)] dX10_findHeard_139 rfl rfl (by decide) rfl ?_
                                        refine x_goto C 97 dX10_findHeard_142 (by decide) ?_
                                        refine x_sub [(m4, .inl (cI, 4, .inl mg)), (m5, .inl (cI, 4, .inl mt)), (m7, .inl (cI, 6, .inl wf)), (m8, .inl (cI, 6, .inl wp)), (m9, .inl (cI, 6, .inl wt)), (m0, .inl (cI, 625, .inl ro)), (m3, .inl (cI, 16, .inl mm)), (m10, .inl (cI, 30, .inl mp)), (m12, .inl (cJ, 40625, .inr (.inl fm12_18))), (m1, .inl (cI, 65, .inl co)), (hy, .inr (10, [.ref m0, .ref m1, .ref m2, .ref m3, .ref m4, .ref m5, .ref m6, .ref m7, .ref m8, .ref m9, .int mw, .int ml, .int mb, .ref m10, .int mz, .ref m11, .int op2_113, .int bp, .int by0, .int dp, .int tk, .ref m12, .ref m13, .ref m14, .ref m15, .ref m16, .ref m17, .ref m18, .int ka, .int iw])), (m11, .inl (cI, 4, .inl tl2_113)), (m2, .inl (cI, 4, .inl ma))] [4, 5, 6, 7, 8, 9, 11, 12, 0, 10, 1, 2, 3] (by decide) rfl ?_
                                        refine x_lv [(8, .int (x8_97 + 1)), (7, .int x7_97), (5, .long (x5_97 + 0)), (4, .int ((65 * x2_9) + x3_18)), (3, .int x3_18), (2, .int x2_9), (1, .int x1_3), (0, .ref hy)] [0, 3, 1, 4, 5, 6, 7, 8] rfl ?_
                                        have := t0_
                                        have := t1_
                                        have : (1 : Int32).toInt = 1 := by decide
                                        have := i_add (x := x8_97) (y := 1) (by omega) (by omega)
                                        exact ih_97 (x8_97 + 1) x7_97 (x5_97 + 0) op2_113 tl2_113 ⟨by omega, Or.inr ⟨by omega, q9.2.1, by omega, by first | exact (congrArg (fun z => z + 0) q9.2.2.2).trans (swF_n (nx := fun s => hnF ma mg mt wf wp wt mw ml co ro mm mp mz (65 * x2_9 + x3_18) s) (x := x8_97) (by omega) (by omega) (by omega)).symm | exact (congrArg (fun z => z + _) q9.2.2.2).trans (swF_p (nx := fun s => hnF ma mg mt wf wp wt mw ml co ro mm mp mz (65 * x2_9 + x3_18) s) (x := x8_97) (by omega) (by omega) (ge0 e_122)).symm⟩⟩ (by omega)
                              have := t0_
                              have := t1_
                              have : (0 : Int32).toInt = 0 := by decide
                              have : (0 : Int32).toInt = 0 := by decide
                              exact L_97 _ 0 0 0 (((opS co ((65 * x2_9) + x3_18)))) (((tds ((65 * x2_9) + x3_18)))) ⟨by omega, by first | exact Or.inl ⟨by omega, hd_1 (h_57.t (by omega)) (by omega)⟩ | exact Or.inl ⟨by omega, hd_0 (h_57.f (by omega))⟩ | exact Or.inl ⟨by omega, hd_b (by omega) (by omega)⟩ | exact Or.inr ⟨by omega, h_81.t (by omega), by omega, rfl⟩ | exact Or.inl ⟨by omega, hd_0 (h_81.f (by omega))⟩ | (exfalso; omega)⟩ (Nat.lt_succ_self _)
                            · skip
                              have e_84 : ¬ ((r_81 : Int32).toInt = (0 : Int32).toInt) := fun h => c_84 (i_eq.mpr h)
                              have : (0 : Int32).toInt = 0 := by decide
                              refine x_iconst C 1 dX10_findHeard_87 (by decide) ?_
                              refine x_goto C 92 dX10_findHeard_88 (by decide) ?_
                              refine x_istore C [(7, .int 1), (5, .long 0), (4, .int ((65 * x2_9) + x3_18)), (3, .int x3_18), (2, .int x2_9), (1, .int x1_3), (0, .ref hy)] dX10_findHeard_92 (by decide) rfl ?_
                              refine x_iconst C 0 dX10_findHeard_94 (by decide) ?_
                              refine x_istore C [(8, .int 0), (7, .int 1), (5, .long 0), (4, .int ((65 * x2_9) + x3_18)), (3, .int x3_18), (2, .int x2_9), (1, .int x1_3), (0, .ref hy)] dX10_findHeard_95 (by decide) rfl ?_
                              have L_97 : ∀ (n_97 : Nat) (x8_97 : Int32) (x7_97 : Int32) (x5_97 : Int64) (ghy16_97 : Int32) (fm11_97 : Nat → Int32), ((0 ≤ x8_97.toInt ∧ x8_97.toInt ≤ 4) ∧ ((x7_97.toInt = 0 ∧ x5_97 = hdF ma mg mt wf wp wt mw ml co ro mm mp mz fm12_18 (65 * x2_9 + x3_18)) ∨ (x7_97.toInt = 1 ∧ CB ma (tds (65 * x2_9 + x3_18)) (opS co (65 * x2_9 + x3_18)) 15 ∧ sm (65 * x2_9 + x3_18) < mz.toInt ∧ x5_97 = swF (fun s => hnF ma mg mt wf wp wt mw ml co ro mm mp mz (65 * x2_9 + x3_18) s) fm12_18 x8_97.toInt.toNat))) → ((4 - x8_97.toInt).toNat < n_97) → V X 10 [(m4, .inl (cI, 4, .inl mg)), (m5, .inl (cI, 4, .inl mt)), (m7, .inl (cI, 6, .inl wf)), (m8, .inl (cI, 6, .inl wp)), (m9, .inl (cI, 6, .inl wt)), (m0, .inl (cI, 625, .inl ro)), (m3, .inl (cI, 16, .inl mm)), (m10, .inl (cI, 30, .inl mp)), (m12, .inl (cJ, 40625, .inr (.inl fm12_18))), (m1, .inl (cI, 65, .inl co)), (hy, .inr (10, [.ref m0, .ref m1, .ref m2, .ref m3, .ref m4, .ref m5, .ref m6, .ref m7, .ref m8, .ref m9, .int mw, .int ml, .int mb, .ref m10, .int mz, .ref m11, .int ghy16_97, .int bp, .int by0, .int dp, .int tk, .ref m12, .ref m13, .ref m14, .ref m15, .ref m16, .ref m17, .ref m18, .int ka, .int iw])), (m11, .inl (cI, 4, .inl fm11_97)), (m2, .inl (cI, 4, .inl ma))] [(8, .int x8_97), (7, .int x7_97), (5, .long x5_97), (4, .int ((65 * x2_9) + x3_18)), (3, .int x3_18), (2, .int x2_9), (1, .int x1_3), (0, .ref hy)] [] 97 0 0 := by
                                intro n_97
                                induction n_97 with
                                | zero =>
                                  intro x8_97 x7_97 x5_97 ghy16_97 fm11_97 i_97 m_97
                                  exact absurd m_97 (Nat.not_lt_zero _)
                                | succ n_97 ih_97 =>
                                  intro x8_97 x7_97 x5_97 ghy16_97 fm11_97 i_97 m_97
                                  refine x_iload C 0 dX10_findHeard_97 rfl ?_
                                  refine x_iconst C 4 dX10_findHeard_99 (by decide) ?_
                                  refine x_icmp_ge C 145 dX10_findHeard_100 (by decide) (fun c_100 => ?_) (fun c_100 => ?_)
                                  · skip
                                    have e_100 : (4 : Int32).toInt ≤ (x8_97 : Int32).toInt := i_le.mp c_100
                                    have : (4 : Int32).toInt = 4 := by decide
                                    have f9 : x5_97 = hdF ma mg mt wf wp wt mw ml co ro mm mp mz fm12_18 (65 * x2_9 + x3_18) := by
                                      rcases i_97.2 with h | h
                                      · exact h.2
                                      · first
                                        | (rw [h.2.2.2, show x8_97.toInt.toNat = 4 by omega]; exact hd_s h.2.1 h.2.2.1)
                                        | (exfalso; omega)
                                    refine x_aload_n C 7 dX10_findHeard_145 rfl rfl ?_
                                    refine x_get C 10 21 dX10_findHeard_146 inlX10 rfl (by decide) wd_135 rfl rfl rfl ?_
                                    refine x_iload C 3 dX10_findHeard_149 rfl ?_
                                    refine x_lload C 2 dX10_findHeard_151 rfl ?_
                                    have v_153 : vp_in ((65 * x2_9) + x3_18) 40625 := (vp_in_iff.mpr (by omega))
                                    refine x_last C 8 1 [(m4, .inl (cI, 4, .inl mg)), (m5, .inl (cI, 4, .inl mt)), (m7, .inl (cI, 6, .inl wf)), (m8, .inl (cI, 6, .inl wp)), (m9, .inl (cI, 6, .inl wt)), (m0, .inl (cI, 625, .inl ro)), (m3, .inl (cI, 16, .inl mm)), (m10, .inl (cI, 30, .inl mp)), (m12, .inl (cJ, 40625, .inr (.inl (vp_updL fm12_18 (Int32.toNatClampNeg ((65 * x2_9) + x3_18)) x5_97)))), (m1, .inl (cI, 65, .inl co)), (hy, .inr (10, [.ref m0, .ref m1, .ref m2, .ref m3, .ref m4, .ref m5, .ref m6, .ref m7, .ref m8, .ref m9, .int mw, .int ml, .int mb, .ref m10, .int mz, .ref m11, .int ghy16_97, .int bp, .int by0, .int dp, .int tk, .ref m12, .ref m13, .ref m14, .ref m15, .ref m16, .ref m17, .ref m18, .int ka, .int iw])), (m11, .inl (cI, 4, .inl fm11_97)), (m2, .inl (cI, 4, .inl ma))] dX10_findHeard_153 hT.2.1 rfl v_153 rfl ?_
                                    have step9 := (DW.step (hd_lc hpa hR) i_18.2 (st := 65 * x2_9 + x3_18) (b' := 65 * x2_9.toInt + (x3_18.toInt + 1)) (by omega) (by omega) (by omega) (by omega) (by omega)).mono (b' := 65 * x2_9.toInt + (x3_18 + 1).toInt) (by have := t1_; have := i_add (x := x3_18) (y := 1) (by omega) (by omega); omega)
                                    rw [← f9] at step9
                                    refine x_iinc C 4 (x3_18 + 1) [(3, .int (x3_18 + 1)), (8, .int x8_97), (7, .int x7_97), (5, .long x5_97), (4, .int ((65 * x2_9) + x3_18)), (2, .int x2_9), (1, .int x1_3), (0, .ref hy)] dX10_findHeard_154 rfl rfl (by decide) rfl ?_
                                    refine x_goto C 18 dX10_findHeard_157 (by decide) ?_
                                    refine x_sub [(hy, .inr (10, [.ref m0, .ref m1, .ref m2, .ref m3, .ref m4, .ref m5, .ref m6, .ref m7, .ref m8, .ref m9, .int mw, .int ml, .int mb, .ref m10, .int mz, .ref m11, .int ghy16_97, .int bp, .int by0, .int dp, .int tk, .ref m12, .ref m13, .ref m14, .ref m15, .ref m16, .ref m17, .ref m18, .int ka, .int iw])), (m11, .inl (cI, 4, .inl fm11_97)), (m2, .inl (cI, 4, .inl ma)), (m4, .inl (cI, 4, .inl mg)), (m5, .inl (cI, 4, .inl mt)), (m7, .inl (cI, 6, .inl wf)), (m8, .inl (cI, 6, .inl wp)), (m9, .inl (cI, 6, .inl wt)), (m0, .inl (cI, 625, .inl ro)), (m1, .inl (cI, 65, .inl co)), (m3, .inl (cI, 16, .inl mm)), (m10, .inl (cI, 30, .inl mp)), (m12, .inl (cJ, 40625, .inr (.inl (vp_updL fm12_18 (Int32.toNatClampNeg ((65 * x2_9) + x3_18)) x5_97))))] [10, 11, 12, 0, 1, 2, 3, 4, 5, 9, 6, 7, 8] (by decide) rfl ?_
                                    refine x_lv [(3, .int (x3_18 + 1)), (2, .int x2_9), (1, .int x1_3), (0, .ref hy)] [0, 5, 6, 7] rfl ?_
                                    have : (1 : Int32).toInt = 1 := by decide
                                    have := i_add (x := x3_18) (y := 1) (by omega) (by omega)
                                    exact ih_18 (x3_18 + 1) ghy16_97 fm11_97 (vp_updL fm12_18 (Int32.toNatClampNeg ((65 * x2_9) + x3_18)) x5_97) ⟨by omega, step9⟩ (by omega)
                                  · skip
                                    have e_100 : ¬ ((4 : Int32).toInt ≤ (x8_97 : Int32).toInt) := fun h => c_100 (i_le.mpr h)
                                    have : (4 : Int32).toInt = 4 := by decide
                                    refine x_iload C 1 dX10_findHeard_103 rfl ?_
                                    refine x_if_eq C 145 dX10_findHeard_105 (by decide) (fun c_105 => ?_) (fun c_105 => ?_)
                                    · skip
                                      have e_105 : (x7_97 : Int32).toInt = (0 : Int32).toInt := i_eq.mp c_105
                                      have : (0 : Int32).toInt = 0 := by decide
                                      have f9 : x5_97 = hdF ma mg mt wf wp wt mw ml co ro mm mp mz fm12_18 (65 * x2_9 + x3_18) := by
                                        rcases i_97.2 with h | h
                                        · exact h.2
                                        · first
                                          | (rw [h.2.2.2, show x8_97.toInt.toNat = 4 by omega]; exact hd_s h.2.1 h.2.2.1)
                                          | (exfalso; omega)
                                      refine x_aload_n C 7 dX10_findHeard_145 rfl rfl ?_
                                      refine x_get C 10 21 dX10_findHeard_146 inlX10 rfl (by decide) wd_135 rfl rfl rfl ?_
                                      refine x_iload C 3 dX10_findHeard_149 rfl ?_
                                      refine x_lload C 2 dX10_findHeard_151 rfl ?_
                                      have v_153 : vp_in ((65 * x2_9) + x3_18) 40625 := (vp_in_iff.mpr (by omega))
                                      refine x_last C 8 1 [(m4, .inl (cI, 4, .inl mg)), (m5, .inl (cI, 4, .inl mt)), (m7, .inl (cI, 6, .inl wf)), (m8, .inl (cI, 6, .inl wp)), (m9, .inl (cI, 6, .inl wt)), (m0, .inl (cI, 625, .inl ro)), (m3, .inl (cI, 16, .inl mm)), (m10, .inl (cI, 30, .inl mp)), (m12, .inl (cJ, 40625, .inr (.inl (vp_updL fm12_18 (Int32.toNatClampNeg ((65 * x2_9) + x3_18)) x5_97)))), (m1, .inl (cI, 65, .inl co)), (hy, .inr (10, [.ref m0, .ref m1, .ref m2, .ref m3, .ref m4, .ref m5, .ref m6, .ref m7, .ref m8, .ref m9, .int mw, .int ml, .int mb, .ref m10, .int mz, .ref m11, .int ghy16_97, .int bp, .int by0, .int dp, .int tk, .ref m12, .ref m13, .ref m14, .ref m15, .ref m16, .ref m17, .ref m18, .int ka, .int iw])), (m11, .inl (cI, 4, .inl fm11_97)), (m2, .inl (cI, 4, .inl ma))] dX10_findHeard_153 hT.2.1 rfl v_153 rfl ?_
                                      have step9 := (DW.step (hd_lc hpa hR) i_18.2 (st := 65 * x2_9 + x3_18) (b' := 65 * x2_9.toInt + (x3_18.toInt + 1)) (by omega) (by omega) (by omega) (by omega) (by omega)).mono (b' := 65 * x2_9.toInt + (x3_18 + 1).toInt) (by have := t1_; have := i_add (x := x3_18) (y := 1) (by omega) (by omega); omega)
                                      rw [← f9] at step9
                                      refine x_iinc C 4 (x3_18 + 1) [(3, .int (x3_18 + 1)), (8, .int x8_97), (7, .int x7_97), (5, .long x5_97), (4, .int ((65 * x2_9) + x3_18)), (2, .int x2_9), (1, .int x1_3), (0, .ref hy)] dX10_findHeard_154 rfl rfl (by decide) rfl ?_
                                      refine x_goto C 18 dX10_findHeard_157 (by decide) ?_
                                      refine x_sub [(hy, .inr (10, [.ref m0, .ref m1, .ref m2, .ref m3, .ref m4, .ref m5, .ref m6, .ref m7, .ref m8, .ref m9, .int mw, .int ml, .int mb, .ref m10, .int mz, .ref m11, .int ghy16_97, .int bp, .int by0, .int dp, .int tk, .ref m12, .ref m13, .ref m14, .ref m15, .ref m16, .ref m17, .ref m18, .int ka, .int iw])), (m11, .inl (cI, 4, .inl fm11_97)), (m2, .inl (cI, 4, .inl ma)), (m4, .inl (cI, 4, .inl mg)), (m5, .inl (cI, 4, .inl mt)), (m7, .inl (cI, 6, .inl wf)), (m8, .inl (cI, 6, .inl wp)), (m9, .inl (cI, 6, .inl wt)), (m0, .inl (cI, 625, .inl ro)), (m1, .inl (cI, 65, .inl co)), (m3, .inl (cI, 16, .inl mm)), (m10, .inl (cI, 30, .inl mp)), (m12, .inl (cJ, 40625, .inr (.inl (vp_updL fm12_18 (Int32.toNatClampNeg ((65 * x2_9) + x3_18)) x5_97))))] [10, 11, 12, 0, 1, 2, 3, 4, 5, 9, 6, 7, 8] (by decide) rfl ?_
                                      refine x_lv [(3, .int (x3_18 + 1)), (2, .int x2_9), (1, .int x1_3), (0, .ref hy)] [0, 5, 6, 7] rfl ?_
                                      have : (1 : Int32).toInt = 1 := by decide
                                      have := i_add (x := x3_18) (y := 1) (by omega) (by omega)
                                      exact ih_18 (x3_18 + 1) ghy16_97 fm11_97 (vp_updL fm12_18 (Int32.toNatClampNeg ((65 * x2_9) + x3_18)) x5_97) ⟨by omega, step9⟩ (by omega)
                                    · skip
                                      have e_105 : ¬ ((x7_97 : Int32).toInt = (0 : Int32).toInt) := fun h => c_105 (i_eq.mpr h)
                                      have : (0 : Int32).toInt = 0 := by decide
                                      have q9 := i_97.2.resolve_left (fun h => by omega)
                                      have g9 := q9.2.1.gd hpa hR.1 (show 0 ≤ (65 * x2_9 + x3_18).toInt by omega)
                                      refine x_aload_n C 7 dX10_findHeard_108 rfl rfl ?_
                                      refine x_iload C 3 dX10_findHeard_109 rfl ?_
                                      refine x_iload C 0 dX10_findHeard_111 rfl ?_
                                      refine x_callV C [.int ((65 * x2_9) + x3_18), .int x8_97] [(m12, .inl (cJ, 40625, .inr (.inl fm12_18)))] [10, 11, 12, 0, 1, 2, 3, 4, 5, 9, 6, 7] [8] (q0 := 0) (c_X10_heardNext (xl X) (xD X) (xt X) hT hy m0 m1 m2 m3 m4 m5 m6 m7 m8 m9 m10 m11 m12 m13 m14 m15 m16 m17 m18 fm11_97 ma mg mt wf wp wt ro co mm mp mw ml mb mz ghy16_97 bp by0 dp tk ka iw ((65 * x2_9) + x3_18) x8_97 (by omega) hR g9 (by omega) hmw hwt hz) dX10_findHeard_113 wd_795 wd_796 wd_797 wd_5 wd_798 (np := 2) ⟨by decide, by decide, by decide +kernel⟩ rfl rfl (Nat.le_of_ble_eq_true rfl) (by decide) rfl rfl rfl rfl (by decide) rfl (by decide) (by decide) (fun v W1 h => ?_)
                                      obtain ⟨tl2_113, op2_113, rfl, rfl, h_113⟩ := h
                                      show V X 10 [(m12, .inl (cJ, 40625, .inr (.inl fm12_18))), (hy, .inr (10, [.ref m0, .ref m1, .ref m2, .ref m3, .ref m4, .ref m5, .ref m6, .ref m7, .ref m8, .ref m9, .int mw, .int ml, .int mb, .ref m10, .int mz, .ref m11, .int op2_113, .int bp, .int by0, .int dp, .int tk, .ref m12, .ref m13, .ref m14, .ref m15, .ref m16, .ref m17, .ref m18, .int ka, .int iw])), (m11, .inl (cI, 4, .inl tl2_113)), (m2, .inl (cI, 4, .inl ma)), (m4, .inl (cI, 4, .inl mg)), (m5, .inl (cI, 4, .inl mt)), (m7, .inl (cI, 6, .inl wf)), (m8, .inl (cI, 6, .inl wp)), (m9, .inl (cI, 6, .inl wt)), (m0, .inl (cI, 625, .inl ro)), (m1, .inl (cI, 65, .inl co)), (m3, .inl (cI, 16, .inl mm)), (m10, .inl (cI, 30, .inl mp))] [(8, .int x8_97), (7, .int x7_97), (5, .long x5_97), (4, .int ((65 * x2_9) + x3_18)), (3, .int x3_18), (2, .int x2_9), (1, .int x1_3), (0, .ref hy)] [.int (hnF ma mg mt wf wp wt mw ml co ro mm mp mz ((65 * x2_9) + x3_18) x8_97)] 116 0 0
                                      refine x_istore C [(9, .int (hnF ma mg mt wf wp wt mw ml co ro mm mp mz ((65 * x2_9) + x3_18) x8_97)), (8, .int x8_97), (7, .int x7_97), (5, .long x5_97), (4, .int ((65 * x2_9) + x3_18)), (3, .int x3_18), (2, .int x2_9), (1, .int x1_3), (0, .ref hy)] dX10_findHeard_116 (by decide) rfl ?_
                                      refine x_lload C 3 dX10_findHeard_118 rfl ?_
                                      refine x_iload C 0 dX10_findHeard_120 rfl ?_
                                      refine x_if_ge C 129 dX10_findHeard_122 (by decide) (fun c_122 => ?_) (fun c_122 => ?_)
                                      · skip
                                        have e_122 : (0 : Int32).toInt ≤ (hnF ma mg mt wf wp wt mw ml co ro mm mp mz ((65 * x2_9) + x3_18) x8_97 : Int32).toInt := i_le.mp c_122
                                        have : (0 : Int32).toInt = 0 := by decide
                                        refine x_aload_n C 8 dX10_findHeard_129 rfl rfl ?_
                                        refine x_get C 1 21 dX10_findHeard_130 inlX10 rfl (by decide) wd_135 rfl rfl rfl ?_
                                        refine x_iload C 0 dX10_findHeard_133 rfl ?_
                                        have v_135 : vp_in (hnF ma mg mt wf wp wt mw ml co ro mm mp mz ((65 * x2_9) + x3_18) x8_97) 40625 := (vp_in_iff.mpr (by have := (hn_ok hR (by omega) g9 (by omega) (ge0 e_122)).1; omega))
                                        refine x_lald C 0 1 dX10_findHeard_135 hT.2.1 rfl v_135 ?_
                                        refine x_ladd C dX10_findHeard_136 ?_
                                        refine x_lstore C [(5, .long (x5_97 + (fm12_18 (Int32.toNatClampNeg (hnF ma mg mt wf wp wt mw ml co ro mm mp mz ((65 * x2_9) + x3_18) x8_97))))), (9, .int (hnF ma mg mt wf wp wt mw ml co ro mm mp mz ((65 * x2_9) + x3_18) x8_97)), (8, .int x8_97), (7, .int x7_97), (4, .int ((65 * x2_9) + x3_18)), (3, .int x3_18), (2, .int x2_9), (1, .int x1_3), (0, .ref hy)] dX10_findHeard_137 (by decide) rfl ?_
                                        refine x_iinc C 2 (x8_97 + 1) [(8, .int (x8_97 + 1)), (5, .long (x5_97 + (fm12_18 (Int32.toNatClampNeg (hnF ma mg mt wf wp wt mw ml co ro mm mp mz ((65 * x2_9) + x3_18) x8_97))))), (9, .int (hnF ma mg mt wf wp wt mw ml co ro mm mp mz ((65 * x2_9) + x3_18) x8_97)), (7, .int x7_97), (4, .int ((65 * x2_9) + x3_18)), (3, .int x3_18), (2, .int x2_9), (1, .int x1_3), (0, .ref hy)] dX10_findHeard_139 rfl rfl (by decide) rfl ?_
                                        refine x_goto C 97 dX10_findHeard_142 (by decide) ?_
                                        refine x_sub [(m4, .inl (cI, 4, .inl mg)), (m5, .inl (cI, 4, .inl mt)), (m7, .inl (cI, 6, .inl wf)), (m8, .inl (cI, 6, .inl wp)), (m9, .inl (cI, 6, .inl wt)), (m0, .inl (cI, 625, .inl ro)), (m3, .inl (cI, 16, .inl mm)), (m10, .inl (cI, 30, .inl mp)), (m12, .inl (cJ, 40625, .inr (.inl fm12_18))), (m1, .inl (cI, 65, .inl co)), (hy, .inr (10, [.ref m0, .ref m1, .ref m2, .ref m3, .ref m4, .ref m5, .ref m6, .ref m7, .ref m8, .ref m9, .int mw, .int ml, .int mb, .ref m10, .int mz, .ref m11, .int op2_113, .int bp, .int by0, .int dp, .int tk, .ref m12, .ref m13, .ref m14, .ref m15, .ref m16, .ref m17, .ref m18, .int ka, .int iw])), (m11, .inl (cI, 4, .inl tl2_113)), (m2, .inl (cI, 4, .inl ma))] [4, 5, 6, 7, 8, 9, 11, 12, 0, 10, 1, 2, 3] (by decide) rfl ?_
                                        refine x_lv [(8, .int (x8_97 + 1)), (7, .int x7_97), (5, .long (x5_97 + (fm12_18 (Int32.toNatClampNeg (hnF ma mg mt wf wp wt mw ml co ro mm mp mz ((65 * x2_9) + x3_18) x8_97))))), (4, .int ((65 * x2_9) + x3_18)), (3, .int x3_18), (2, .int x2_9), (1, .int x1_3), (0, .ref hy)] [0, 3, 1, 4, 5, 6, 7, 8] rfl ?_
                                        have := t0_
                                        have := t1_
                                        have : (1 : Int32).toInt = 1 := by decide
                                        have := i_add (x := x8_97) (y := 1) (by omega) (by omega)
                                        exact ih_97 (x8_97 + 1) x7_97 (x5_97 + (fm12_18 (Int32.toNatClampNeg (hnF ma mg mt wf wp wt mw ml co ro mm mp mz ((65 * x2_9) + x3_18) x8_97)))) op2_113 tl2_113 ⟨by omega, Or.inr ⟨by omega, q9.2.1, by omega, by first | exact (congrArg (fun z => z + 0) q9.2.2.2).trans (swF_n (nx := fun s => hnF ma mg mt wf wp wt mw ml co ro mm mp mz (65 * x2_9 + x3_18) s) (x := x8_97) (by omega) (by omega) (by omega)).symm | exact (congrArg (fun z => z + _) q9.2.2.2).trans (swF_p (nx := fun s => hnF ma mg mt wf wp wt mw ml co ro mm mp mz (65 * x2_9 + x3_18) s) (x := x8_97) (by omega) (by omega) (ge0 e_122)).symm⟩⟩ (by omega)
                                      · skip
                                        have e_122 : ¬ ((0 : Int32).toInt ≤ (hnF ma mg mt wf wp wt mw ml co ro mm mp mz ((65 * x2_9) + x3_18) x8_97 : Int32).toInt) := fun h => c_122 (i_le.mpr h)
                                        have : (0 : Int32).toInt = 0 := by decide
                                        refine x_lconst C 0 dX10_findHeard_125 (by decide) ?_
                                        refine x_goto C 136 dX10_findHeard_126 (by decide) ?_
                                        refine x_ladd C dX10_findHeard_136 ?_
                                        refine x_lstore C [(5, .long (x5_97 + 0)), (9, .int (hnF ma mg mt wf wp wt mw ml co ro mm mp mz ((65 * x2_9) + x3_18) x8_97)), (8, .int x8_97), (7, .int x7_97), (4, .int ((65 * x2_9) + x3_18)), (3, .int x3_18), (2, .int x2_9), (1, .int x1_3), (0, .ref hy)] dX10_findHeard_137 (by decide) rfl ?_
                                        refine x_iinc C 2 (x8_97 + 1) [(8, .int (x8_97 + 1)), (5, .long (x5_97 + 0)), (9, .int (hnF ma mg mt wf wp wt mw ml co ro mm mp mz ((65 * x2_9) + x3_18) x8_97)), (7, .int x7_97), (4, .int ((65 * x2_9) + x3_18)), (3, .int x3_18), (2, .int x2_9), (1, .int x1_3), (0, .ref hy)] dX10_findHeard_139 rfl rfl (by decide) rfl ?_
                                        refine x_goto C 97 dX10_findHeard_142 (by decide) ?_
                                        refine x_sub [(m4, .inl (cI, 4, .inl mg)), (m5, .inl (cI, 4, .inl mt)), (m7, .inl (cI, 6, .inl wf)), (m8, .inl (cI, 6, .inl wp)), (m9, .inl (cI, 6, .inl wt)), (m0, .inl (cI, 625, .inl ro)), (m3, .inl (cI, 16, .inl mm)), (m10, .inl (cI, 30, .inl mp)), (m12, .inl (cJ, 40625, .inr (.inl fm12_18))), (m1, .inl (cI, 65, .inl co)), (hy, .inr (10, [.ref m0, .ref m1, .ref m2, .ref m3, .ref m4, .ref m5, .ref m6, .ref m7, .ref m8, .ref m9, .int mw, .int ml, .int mb, .ref m10, .int mz, .ref m11, .int op2_113, .int bp, .int by0, .int dp, .int tk, .ref m12, .ref m13, .ref m14, .ref m15, .ref m16, .ref m17, .ref m18, .int ka, .int iw])), (m11, .inl (cI, 4, .inl tl2_113)), (m2, .inl (cI, 4, .inl ma))] [4, 5, 6, 7, 8, 9, 11, 12, 0, 10, 1, 2, 3] (by decide) rfl ?_
                                        refine x_lv [(8, .int (x8_97 + 1)), (7, .int x7_97), (5, .long (x5_97 + 0)), (4, .int ((65 * x2_9) + x3_18)), (3, .int x3_18), (2, .int x2_9), (1, .int x1_3), (0, .ref hy)] [0, 3, 1, 4, 5, 6, 7, 8] rfl ?_
                                        have := t0_
                                        have := t1_
                                        have : (1 : Int32).toInt = 1 := by decide
                                        have := i_add (x := x8_97) (y := 1) (by omega) (by omega)
                                        exact ih_97 (x8_97 + 1) x7_97 (x5_97 + 0) op2_113 tl2_113 ⟨by omega, Or.inr ⟨by omega, q9.2.1, by omega, by first | exact (congrArg (fun z => z + 0) q9.2.2.2).trans (swF_n (nx := fun s => hnF ma mg mt wf wp wt mw ml co ro mm mp mz (65 * x2_9 + x3_18) s) (x := x8_97) (by omega) (by omega) (by omega)).symm | exact (congrArg (fun z => z + _) q9.2.2.2).trans (swF_p (nx := fun s => hnF ma mg mt wf wp wt mw ml co ro mm mp mz (65 * x2_9 + x3_18) s) (x := x8_97) (by omega) (by omega) (ge0 e_122)).symm⟩⟩ (by omega)
                              have := t0_
                              have := t1_
                              have : (0 : Int32).toInt = 0 := by decide
                              have : (1 : Int32).toInt = 1 := by decide
                              exact L_97 _ 0 1 0 (((opS co ((65 * x2_9) + x3_18)))) (((tds ((65 * x2_9) + x3_18)))) ⟨by omega, by first | exact Or.inl ⟨by omega, hd_1 (h_57.t (by omega)) (by omega)⟩ | exact Or.inl ⟨by omega, hd_0 (h_57.f (by omega))⟩ | exact Or.inl ⟨by omega, hd_b (by omega) (by omega)⟩ | exact Or.inr ⟨by omega, h_81.t (by omega), by omega, rfl⟩ | exact Or.inl ⟨by omega, hd_0 (h_81.f (by omega))⟩ | (exfalso; omega)⟩ (Nat.lt_succ_self _)
                        · skip
                          have e_60 : ¬ ((r_57 : Int32).toInt = (0 : Int32).toInt) := fun h => c_60 (i_eq.mpr h)
                          have : (0 : Int32).toInt = 0 := by decide
                          refine x_lconst C 1 dX10_findHeard_63 (by decide) ?_
                          refine x_goto C 68 dX10_findHeard_64 (by decide) ?_
                          refine x_lstore C [(5, .long 1), (4, .int ((65 * x2_9) + x3_18)), (3, .int x3_18), (2, .int x2_9), (1, .int x1_3), (0, .ref hy)] dX10_findHeard_68 (by decide) rfl ?_
                          refine x_iload_n C 4 dX10_findHeard_70 rfl rfl ?_
                          refine x_aload_n C 5 dX10_findHeard_71 rfl rfl ?_
                          refine x_get C 10 14 dX10_findHeard_72 inlX10 rfl (by decide) wd_166 rfl rfl rfl ?_
                          refine x_icmp_ge C 91 dX10_findHeard_75 (by decide) (fun c_75 => ?_) (fun c_75 => ?_)
                          · skip
                            have e_75 : (mz : Int32).toInt ≤ (x1_3 : Int32).toInt := i_le.mp c_75
                            refine x_iconst C 0 dX10_findHeard_91 (by decide) ?_
                            refine x_istore C [(7, .int 0), (5, .long 1), (4, .int ((65 * x2_9) + x3_18)), (3, .int x3_18), (2, .int x2_9), (1, .int x1_3), (0, .ref hy)] dX10_findHeard_92 (by decide) rfl ?_
                            refine x_iconst C 0 dX10_findHeard_94 (by decide) ?_
                            refine x_istore C [(8, .int 0), (7, .int 0), (5, .long 1), (4, .int ((65 * x2_9) + x3_18)), (3, .int x3_18), (2, .int x2_9), (1, .int x1_3), (0, .ref hy)] dX10_findHeard_95 (by decide) rfl ?_
                            have L_97 : ∀ (n_97 : Nat) (x8_97 : Int32) (x7_97 : Int32) (x5_97 : Int64) (ghy16_97 : Int32) (fm11_97 : Nat → Int32), ((0 ≤ x8_97.toInt ∧ x8_97.toInt ≤ 4) ∧ ((x7_97.toInt = 0 ∧ x5_97 = hdF ma mg mt wf wp wt mw ml co ro mm mp mz fm12_18 (65 * x2_9 + x3_18)) ∨ (x7_97.toInt = 1 ∧ CB ma (tds (65 * x2_9 + x3_18)) (opS co (65 * x2_9 + x3_18)) 15 ∧ sm (65 * x2_9 + x3_18) < mz.toInt ∧ x5_97 = swF (fun s => hnF ma mg mt wf wp wt mw ml co ro mm mp mz (65 * x2_9 + x3_18) s) fm12_18 x8_97.toInt.toNat))) → ((4 - x8_97.toInt).toNat < n_97) → V X 10 [(m4, .inl (cI, 4, .inl mg)), (m5, .inl (cI, 4, .inl mt)), (m7, .inl (cI, 6, .inl wf)), (m8, .inl (cI, 6, .inl wp)), (m9, .inl (cI, 6, .inl wt)), (m0, .inl (cI, 625, .inl ro)), (m3, .inl (cI, 16, .inl mm)), (m10, .inl (cI, 30, .inl mp)), (m12, .inl (cJ, 40625, .inr (.inl fm12_18))), (m1, .inl (cI, 65, .inl co)), (hy, .inr (10, [.ref m0, .ref m1, .ref m2, .ref m3, .ref m4, .ref m5, .ref m6, .ref m7, .ref m8, .ref m9, .int mw, .int ml, .int mb, .ref m10, .int mz, .ref m11, .int ghy16_97, .int bp, .int by0, .int dp, .int tk, .ref m12, .ref m13, .ref m14, .ref m15, .ref m16, .ref m17, .ref m18, .int ka, .int iw])), (m11, .inl (cI, 4, .inl fm11_97)), (m2, .inl (cI, 4, .inl ma))] [(8, .int x8_97), (7, .int x7_97), (5, .long x5_97), (4, .int ((65 * x2_9) + x3_18)), (3, .int x3_18), (2, .int x2_9), (1, .int x1_3), (0, .ref hy)] [] 97 0 0 := by
                              intro n_97
                              induction n_97 with
                              | zero =>
                                intro x8_97 x7_97 x5_97 ghy16_97 fm11_97 i_97 m_97
                                exact absurd m_97 (Nat.not_lt_zero _)
                              | succ n_97 ih_97 =>
                                intro x8_97 x7_97 x5_97 ghy16_97 fm11_97 i_97 m_97
                                refine x_iload C 0 dX10_findHeard_97 rfl ?_
                                refine x_iconst C 4 dX10_findHeard_99 (by decide) ?_
                                refine x_icmp_ge C 145 dX10_findHeard_100 (by decide) (fun c_100 => ?_) (fun c_100 => ?_)
                                · skip
                                  have e_100 : (4 : Int32).toInt ≤ (x8_97 : Int32).toInt := i_le.mp c_100
                                  have : (4 : Int32).toInt = 4 := by decide
                                  have f9 : x5_97 = hdF ma mg mt wf wp wt mw ml co ro mm mp mz fm12_18 (65 * x2_9 + x3_18) := by
                                    rcases i_97.2 with h | h
                                    · exact h.2
                                    · first
                                      | (rw [h.2.2.2, show x8_97.toInt.toNat = 4 by omega]; exact hd_s h.2.1 h.2.2.1)
                                      | (exfalso; omega)
                                  refine x_aload_n C 7 dX10_findHeard_145 rfl rfl ?_
                                  refine x_get C 10 21 dX10_findHeard_146 inlX10 rfl (by decide) wd_135 rfl rfl rfl ?_
                                  refine x_iload C 3 dX10_findHeard_149 rfl ?_
                                  refine x_lload C 2 dX10_findHeard_151 rfl ?_
                                  have v_153 : vp_in ((65 * x2_9) + x3_18) 40625 := (vp_in_iff.mpr (by omega))
                                  refine x_last C 8 1 [(m4, .inl (cI, 4, .inl mg)), (m5, .inl (cI, 4, .inl mt)), (m7, .inl (cI, 6, .inl wf)), (m8, .inl (cI, 6, .inl wp)), (m9, .inl (cI, 6, .inl wt)), (m0, .inl (cI, 625, .inl ro)), (m3, .inl (cI, 16, .inl mm)), (m10, .inl (cI, 30, .inl mp)), (m12, .inl (cJ, 40625, .inr (.inl (vp_updL fm12_18 (Int32.toNatClampNeg ((65 * x2_9) + x3_18)) x5_97)))), (m1, .inl (cI, 65, .inl co)), (hy, .inr (10, [.ref m0, .ref m1, .ref m2, .ref m3, .ref m4, .ref m5, .ref m6, .ref m7, .ref m8, .ref m9, .int mw, .int ml, .int mb, .ref m10, .int mz, .ref m11, .int ghy16_97, .int bp, .int by0, .int dp, .int tk, .ref m12, .ref m13, .ref m14, .ref m15, .ref m16, .ref m17, .ref m18, .int ka, .int iw])), (m11, .inl (cI, 4, .inl fm11_97)), (m2, .inl (cI, 4, .inl ma))] dX10_findHeard_153 hT.2.1 rfl v_153 rfl ?_
                                  have step9 := (DW.step (hd_lc hpa hR) i_18.2 (st := 65 * x2_9 + x3_18) (b' := 65 * x2_9.toInt + (x3_18.toInt + 1)) (by omega) (by omega) (by omega) (by omega) (by omega)).mono (b' := 65 * x2_9.toInt + (x3_18 + 1).toInt) (by have := t1_; have := i_add (x := x3_18) (y := 1) (by omega) (by omega); omega)
                                  rw [← f9] at step9
                                  refine x_iinc C 4 (x3_18 + 1) [(3, .int (x3_18 + 1)), (8, .int x8_97), (7, .int x7_97), (5, .long x5_97), (4, .int ((65 * x2_9) + x3_18)), (2, .int x2_9), (1, .int x1_3), (0, .ref hy)] dX10_findHeard_154 rfl rfl (by decide) rfl ?_
                                  refine x_goto C 18 dX10_findHeard_157 (by decide) ?_
                                  refine x_sub [(hy, .inr (10, [.ref m0, .ref m1, .ref m2, .ref m3, .ref m4, .ref m5, .ref m6, .ref m7, .ref m8, .ref m9, .int mw, .int ml, .int mb, .ref m10, .int mz, .ref m11, .int ghy16_97, .int bp, .int by0, .int dp, .int tk, .ref m12, .ref m13, .ref m14, .ref m15, .ref m16, .ref m17, .ref m18, .int ka, .int iw])), (m11, .inl (cI, 4, .inl fm11_97)), (m2, .inl (cI, 4, .inl ma)), (m4, .inl (cI, 4, .inl mg)), (m5, .inl (cI, 4, .inl mt)), (m7, .inl (cI, 6, .inl wf)), (m8, .inl (cI, 6, .inl wp)), (m9, .inl (cI, 6, .inl wt)), (m0, .inl (cI, 625, .inl ro)), (m1, .inl (cI, 65, .inl co)), (m3, .inl (cI, 16, .inl mm)), (m10, .inl (cI, 30, .inl mp)), (m12, .inl (cJ, 40625, .inr (.inl (vp_updL fm12_18 (Int32.toNatClampNeg ((65 * x2_9) + x3_18)) x5_97))))] [10, 11, 12, 0, 1, 2, 3, 4, 5, 9, 6, 7, 8] (by decide) rfl ?_
                                  refine x_lv [(3, .int (x3_18 + 1)), (2, .int x2_9), (1, .int x1_3), (0, .ref hy)] [0, 5, 6, 7] rfl ?_
                                  have : (1 : Int32).toInt = 1 := by decide
                                  have := i_add (x := x3_18) (y := 1) (by omega) (by omega)
                                  exact ih_18 (x3_18 + 1) ghy16_97 fm11_97 (vp_updL fm12_18 (Int32.toNatClampNeg ((65 * x2_9) + x3_18)) x5_97) ⟨by omega, step9⟩ (by omega)
                                · skip
                                  have e_100 : ¬ ((4 : Int32).toInt ≤ (x8_97 : Int32).toInt) := fun h => c_100 (i_le.mpr h)
                                  have : (4 : Int32).toInt = 4 := by decide
                                  refine x_iload C 1 dX10_findHeard_103 rfl ?_
                                  refine x_if_eq C 145 dX10_findHeard_105 (by decide) (fun c_105 => ?_) (fun c_105 => ?_)
                                  · skip
                                    have e_105 : (x7_97 : Int32).toInt = (0 : Int32).toInt := i_eq.mp c_105
                                    have : (0 : Int32).toInt = 0 := by decide
                                    have f9 : x5_97 = hdF ma mg mt wf wp wt mw ml co ro mm mp mz fm12_18 (65 * x2_9 + x3_18) := by
                                      rcases i_97.2 with h | h
                                      · exact h.2
                                      · first
                                        | (rw [h.2.2.2, show x8_97.toInt.toNat = 4 by omega]; exact hd_s h.2.1 h.2.2.1)
                                        | (exfalso; omega)
                                    refine x_aload_n C 7 dX10_findHeard_145 rfl rfl ?_
                                    refine x_get C 10 21 dX10_findHeard_146 inlX10 rfl (by decide) wd_135 rfl rfl rfl ?_
                                    refine x_iload C 3 dX10_findHeard_149 rfl ?_
                                    refine x_lload C 2 dX10_findHeard_151 rfl ?_
                                    have v_153 : vp_in ((65 * x2_9) + x3_18) 40625 := (vp_in_iff.mpr (by omega))
                                    refine x_last C 8 1 [(m4, .inl (cI, 4, .inl mg)), (m5, .inl (cI, 4, .inl mt)), (m7, .inl (cI, 6, .inl wf)), (m8, .inl (cI, 6, .inl wp)), (m9, .inl (cI, 6, .inl wt)), (m0, .inl (cI, 625, .inl ro)), (m3, .inl (cI, 16, .inl mm)), (m10, .inl (cI, 30, .inl mp)), (m12, .inl (cJ, 40625, .inr (.inl (vp_updL fm12_18 (Int32.toNatClampNeg ((65 * x2_9) + x3_18)) x5_97)))), (m1, .inl (cI, 65, .inl co)), (hy, .inr (10, [.ref m0, .ref m1, .ref m2, .ref m3, .ref m4, .ref m5, .ref m6, .ref m7, .ref m8, .ref m9, .int mw, .int ml, .int mb, .ref m10, .int mz, .ref m11, .int ghy16_97, .int bp, .int by0, .int dp, .int tk, .ref m12, .ref m13, .ref m14, .ref m15, .ref m16, .ref m17, .ref m18, .int ka, .int iw])), (m11, .inl (cI, 4, .inl fm11_97)), (m2, .inl (cI, 4, .inl ma))] dX10_findHeard_153 hT.2.1 rfl v_153 rfl ?_
                                    have step9 := (DW.step (hd_lc hpa hR) i_18.2 (st := 65 * x2_9 + x3_18) (b' := 65 * x2_9.toInt + (x3_18.toInt + 1)) (by omega) (by omega) (by omega) (by omega) (by omega)).mono (b' := 65 * x2_9.toInt + (x3_18 + 1).toInt) (by have := t1_; have := i_add (x := x3_18) (y := 1) (by omega) (by omega); omega)
                                    rw [← f9] at step9
                                    refine x_iinc C 4 (x3_18 + 1) [(3, .int (x3_18 + 1)), (8, .int x8_97), (7, .int x7_97), (5, .long x5_97), (4, .int ((65 * x2_9) + x3_18)), (2, .int x2_9), (1, .int x1_3), (0, .ref hy)] dX10_findHeard_154 rfl rfl (by decide) rfl ?_
                                    refine x_goto C 18 dX10_findHeard_157 (by decide) ?_
                                    refine x_sub [(hy, .inr (10, [.ref m0, .ref m1, .ref m2, .ref m3, .ref m4, .ref m5, .ref m6, .ref m7, .ref m8, .ref m9, .int mw, .int ml, .int mb, .ref m10, .int mz, .ref m11, .int ghy16_97, .int bp, .int by0, .int dp, .int tk, .ref m12, .ref m13, .ref m14, .ref m15, .ref m16, .ref m17, .ref m18, .int ka, .int iw])), (m11, .inl (cI, 4, .inl fm11_97)), (m2, .inl (cI, 4, .inl ma)), (m4, .inl (cI, 4, .inl mg)), (m5, .inl (cI, 4, .inl mt)), (m7, .inl (cI, 6, .inl wf)), (m8, .inl (cI, 6, .inl wp)), (m9, .inl (cI, 6, .inl wt)), (m0, .inl (cI, 625, .inl ro)), (m1, .inl (cI, 65, .inl co)), (m3, .inl (cI, 16, .inl mm)), (m10, .inl (cI, 30, .inl mp)), (m12, .inl (cJ, 40625, .inr (.inl (vp_updL fm12_18 (Int32.toNatClampNeg ((65 * x2_9) + x3_18)) x5_97))))] [10, 11, 12, 0, 1, 2, 3, 4, 5, 9, 6, 7, 8] (by decide) rfl ?_
                                    refine x_lv [(3, .int (x3_18 + 1)), (2, .int x2_9), (1, .int x1_3), (0, .ref hy)] [0, 5, 6, 7] rfl ?_
                                    have : (1 : Int32).toInt = 1 := by decide
                                    have := i_add (x := x3_18) (y := 1) (by omega) (by omega)
                                    exact ih_18 (x3_18 + 1) ghy16_97 fm11_97 (vp_updL fm12_18 (Int32.toNatClampNeg ((65 * x2_9) + x3_18)) x5_97) ⟨by omega, step9⟩ (by omega)
                                  · skip
                                    have e_105 : ¬ ((x7_97 : Int32).toInt = (0 : Int32).toInt) := fun h => c_105 (i_eq.mpr h)
                                    have : (0 : Int32).toInt = 0 := by decide
                                    have q9 := i_97.2.resolve_left (fun h => by omega)
                                    have g9 := q9.2.1.gd hpa hR.1 (show 0 ≤ (65 * x2_9 + x3_18).toInt by omega)
                                    refine x_aload_n C 7 dX10_findHeard_108 rfl rfl ?_
                                    refine x_iload C 3 dX10_findHeard_109 rfl ?_
                                    refine x_iload C 0 dX10_findHeard_111 rfl ?_
                                    refine x_callV C [.int ((65 * x2_9) + x3_18), .int x8_97] [(m12, .inl (cJ, 40625, .inr (.inl fm12_18)))] [10, 11, 12, 0, 1, 2, 3, 4, 5, 9, 6, 7] [8] (q0 := 0) (c_X10_heardNext (xl X) (xD X) (xt X) hT hy m0 m1 m2 m3 m4 m5 m6 m7 m8 m9 m10 m11 m12 m13 m14 m15 m16 m17 m18 fm11_97 ma mg mt wf wp wt ro co mm mp mw ml mb mz ghy16_97 bp by0 dp tk ka iw ((65 * x2_9) + x3_18) x8_97 (by omega) hR g9 (by omega) hmw hwt hz) dX10_findHeard_113 wd_795 wd_796 wd_797 wd_5 wd_798 (np := 2) ⟨by decide, by decide, by decide +kernel⟩ rfl rfl (Nat.le_of_ble_eq_true rfl) (by decide) rfl rfl rfl rfl (by decide) rfl (by decide) (by decide) (fun v W1 h => ?_)
                                    obtain ⟨tl2_113, op2_113, rfl, rfl, h_113⟩ := h
                                    show V X 10 [(m12, .inl (cJ, 40625, .inr (.inl fm12_18))), (hy, .inr (10, [.ref m0, .ref m1, .ref m2, .ref m3, .ref m4, .ref m5, .ref m6, .ref m7, .ref m8, .ref m9, .int mw, .int ml, .int mb, .ref m10, .int mz, .ref m11, .int op2_113, .int bp, .int by0, .int dp, .int tk, .ref m12, .ref m13, .ref m14, .ref m15, .ref m16, .ref m17, .ref m18, .int ka, .int iw])), (m11, .inl (cI, 4, .inl tl2_113)), (m2, .inl (cI, 4, .inl ma)), (m4, .inl (cI, 4, .inl mg)), (m5, .inl (cI, 4, .inl mt)), (m7, .inl (cI, 6, .inl wf)), (m8, .inl (cI, 6, .inl wp)), (m9, .inl (cI, 6, .inl wt)), (m0, .inl (cI, 625, .inl ro)), (m1, .inl (cI, 65, .inl co)), (m3, .inl (cI, 16, .inl mm)), (m10, .inl (cI, 30, .inl mp))] [(8, .int x8_97), (7, .int x7_97), (5, .long x5_97), (4, .int ((65 * x2_9) + x3_18)), (3, .int x3_18), (2, .int x2_9), (1, .int x1_3), (0, .ref hy)] [.int (hnF ma mg mt wf wp wt mw ml co ro mm mp mz ((65 * x2_9) + x3_18) x8_97)] 116 0 0
                                    refine x_istore C [(9, .int (hnF ma mg mt wf wp wt mw ml co ro mm mp mz ((65 * x2_9) + x3_18) x8_97)), (8, .int x8_97), (7, .int x7_97), (5, .long x5_97), (4, .int ((65 * x2_9) + x3_18)), (3, .int x3_18), (2, .int x2_9), (1, .int x1_3), (0, .ref hy)] dX10_findHeard_116 (by decide) rfl ?_
                                    refine x_lload C 3 dX10_findHeard_118 rfl ?_
                                    refine x_iload C 0 dX10_findHeard_120 rfl ?_
                                    refine x_if_ge C 129 dX10_findHeard_122 (by decide) (fun c_122 => ?_) (fun c_122 => ?_)
                                    · skip
                                      have e_122 : (0 : Int32).toInt ≤ (hnF ma mg mt wf wp wt mw ml co ro mm mp mz ((65 * x2_9) + x3_18) x8_97 : Int32).toInt := i_le.mp c_122
                                      have : (0 : Int32).toInt = 0 := by decide
                                      refine x_aload_n C 8 dX10_findHeard_129 rfl rfl ?_
                                      refine x_get C 1 21 dX10_findHeard_130 inlX10 rfl (by decide) wd_135 rfl rfl rfl ?_
                                      refine x_iload C 0 dX10_findHeard_133 rfl ?_
                                      have v_135 : vp_in (hnF ma mg mt wf wp wt mw ml co ro mm mp mz ((65 * x2_9) + x3_18) x8_97) 40625 := (vp_in_iff.mpr (by have := (hn_ok hR (by omega) g9 (by omega) (ge0 e_122)).1; omega))
                                      refine x_lald C 0 1 dX10_findHeard_135 hT.2.1 rfl v_135 ?_
                                      refine x_ladd C dX10_findHeard_136 ?_
                                      refine x_lstore C [(5, .long (x5_97 + (fm12_18 (Int32.toNatClampNeg (hnF ma mg mt wf wp wt mw ml co ro mm mp mz ((65 * x2_9) + x3_18) x8_97))))), (9, .int (hnF ma mg mt wf wp wt mw ml co ro mm mp mz ((65 * x2_9) + x3_18) x8_97)), (8, .int x8_97), (7, .int x7_97), (4, .int ((65 * x2_9) + x3_18)), (3, .int x3_18), (2, .int x2_9), (1, .int x1_3), (0, .ref hy)] dX10_findHeard_137 (by decide) rfl ?_
                                      refine x_iinc C 2 (x8_97 + 1) [(8, .int (x8_97 + 1)), (5, .long (x5_97 + (fm12_18 (Int32.toNatClampNeg (hnF ma mg mt wf wp wt mw ml co ro mm mp mz ((65 * x2_9) + x3_18) x8_97))))), (9, .int (hnF ma mg mt wf wp wt mw ml co ro mm mp mz ((65 * x2_9) + x3_18) x8_97)), (7, .int x7_97), (4, .int ((65 * x2_9) + x3_18)), (3, .int x3_18), (2, .int x2_9), (1, .int x1_3), (0, .ref hy)] dX10_findHeard_139 rfl rfl (by decide) rfl ?_
                                      refine x_goto C 97 dX10_findHeard_142 (by decide) ?_
                                      refine x_sub [(m4, .inl (cI, 4, .inl mg)), (m5, .inl (cI, 4, .inl mt)), (m7, .inl (cI, 6, .inl wf)), (m8, .inl (cI, 6, .inl wp)), (m9, .inl (cI, 6, .inl wt)), (m0, .inl (cI, 625, .inl ro)), (m3, .inl (cI, 16, .inl mm)), (m10, .inl (cI, 30, .inl mp)), (m12, .inl (cJ, 40625, .inr (.inl fm12_18))), (m1, .inl (cI, 65, .inl co)), (hy, .inr (10, [.ref m0, .ref m1, .ref m2, .ref m3, .ref m4, .ref m5, .ref m6, .ref m7, .ref m8, .ref m9, .int mw, .int ml, .int mb, .ref m10, .int mz, .ref m11, .int op2_113, .int bp, .int by0, .int dp, .int tk, .ref m12, .ref m13, .ref m14, .ref m15, .ref m16, .ref m17, .ref m18, .int ka, .int iw])), (m11, .inl (cI, 4, .inl tl2_113)), (m2, .inl (cI, 4, .inl ma))] [4, 5, 6, 7, 8, 9, 11, 12, 0, 10, 1, 2, 3] (by decide) rfl ?_
                                      refine x_lv [(8, .int (x8_97 + 1)), (7, .int x7_97), (5, .long (x5_97 + (fm12_18 (Int32.toNatClampNeg (hnF ma mg mt wf wp wt mw ml co ro mm mp mz ((65 * x2_9) + x3_18) x8_97))))), (4, .int ((65 * x2_9) + x3_18)), (3, .int x3_18), (2, .int x2_9), (1, .int x1_3), (0, .ref hy)] [0, 3, 1, 4, 5, 6, 7, 8] rfl ?_
                                      have := t0_
                                      have := t1_
                                      have : (1 : Int32).toInt = 1 := by decide
                                      have := i_add (x := x8_97) (y := 1) (by omega) (by omega)
                                      exact ih_97 (x8_97 + 1) x7_97 (x5_97 + (fm12_18 (Int32.toNatClampNeg (hnF ma mg mt wf wp wt mw ml co ro mm mp mz ((65 * x2_9) + x3_18) x8_97)))) op2_113 tl2_113 ⟨by omega, Or.inr ⟨by omega, q9.2.1, by omega, by first | exact (congrArg (fun z => z + 0) q9.2.2.2).trans (swF_n (nx := fun s => hnF ma mg mt wf wp wt mw ml co ro mm mp mz (65 * x2_9 + x3_18) s) (x := x8_97) (by omega) (by omega) (by omega)).symm | exact (congrArg (fun z => z + _) q9.2.2.2).trans (swF_p (nx := fun s => hnF ma mg mt wf wp wt mw ml co ro mm mp mz (65 * x2_9 + x3_18) s) (x := x8_97) (by omega) (by omega) (ge0 e_122)).symm⟩⟩ (by omega)
                                    · skip
                                      have e_122 : ¬ ((0 : Int32).toInt ≤ (hnF ma mg mt wf wp wt mw ml co ro mm mp mz ((65 * x2_9) + x3_18) x8_97 : Int32).toInt) := fun h => c_122 (i_le.mpr h)
                                      have : (0 : Int32).toInt = 0 := by decide
                                      refine x_lconst C 0 dX10_findHeard_125 (by decide) ?_
                                      refine x_goto C 136 dX10_findHeard_126 (by decide) ?_
                                      refine x_ladd C dX10_findHeard_136 ?_
                                      refine x_lstore C [(5, .long (x5_97 + 0)), (9, .int (hnF ma mg mt wf wp wt mw ml co ro mm mp mz ((65 * x2_9) + x3_18) x8_97)), (8, .int x8_97), (7, .int x7_97), (4, .int ((65 * x2_9) + x3_18)), (3, .int x3_18), (2, .int x2_9), (1, .int x1_3), (0, .ref hy)] dX10_findHeard_137 (by decide) rfl ?_
                                      refine x_iinc C 2 (x8_97 + 1) [(8, .int (x8_97 + 1)), (5, .long (x5_97 + 0)), (9, .int (hnF ma mg mt wf wp wt mw ml co ro mm mp mz ((65 * x2_9) + x3_18) x8_97)), (7, .int x7_97), (4, .int ((65 * x2_9) + x3_18)), (3, .int x3_18), (2, .int x2_9), (1, .int x1_3), (0, .ref hy)] dX10_findHeard_139 rfl rfl (by decide) rfl ?_
                                      refine x_goto C 97 dX10_findHeard_142 (by decide) ?_
                                      refine x_sub [(m4, .inl (cI, 4, .inl mg)), (m5, .inl (cI, 4, .inl mt)), (m7, .inl (cI, 6, .inl wf)), (m8, .inl (cI, 6, .inl wp)), (m9, .inl (cI, 6, .inl wt)), (m0, .inl (cI, 625, .inl ro)), (m3, .inl (cI, 16, .inl mm)), (m10, .inl (cI, 30, .inl mp)), (m12, .inl (cJ, 40625, .inr (.inl fm12_18))), (m1, .inl (cI, 65, .inl co)), (hy, .inr (10, [.ref m0, .ref m1, .ref m2, .ref m3, .ref m4, .ref m5, .ref m6, .ref m7, .ref m8, .ref m9, .int mw, .int ml, .int mb, .ref m10, .int mz, .ref m11, .int op2_113, .int bp, .int by0, .int dp, .int tk, .ref m12, .ref m13, .ref m14, .ref m15, .ref m16, .ref m17, .ref m18, .int ka, .int iw])), (m11, .inl (cI, 4, .inl tl2_113)), (m2, .inl (cI, 4, .inl ma))] [4, 5, 6, 7, 8, 9, 11, 12, 0, 10, 1, 2, 3] (by decide) rfl ?_
                                      refine x_lv [(8, .int (x8_97 + 1)), (7, .int x7_97), (5, .long (x5_97 + 0)), (4, .int ((65 * x2_9) + x3_18)), (3, .int x3_18), (2, .int x2_9), (1, .int x1_3), (0, .ref hy)] [0, 3, 1, 4, 5, 6, 7, 8] rfl ?_
                                      have := t0_
                                      have := t1_
                                      have : (1 : Int32).toInt = 1 := by decide
                                      have := i_add (x := x8_97) (y := 1) (by omega) (by omega)
                                      exact ih_97 (x8_97 + 1) x7_97 (x5_97 + 0) op2_113 tl2_113 ⟨by omega, Or.inr ⟨by omega, q9.2.1, by omega, by first | exact (congrArg (fun z => z + 0) q9.2.2.2).trans (swF_n (nx := fun s => hnF ma mg mt wf wp wt mw ml co ro mm mp mz (65 * x2_9 + x3_18) s) (x := x8_97) (by omega) (by omega) (by omega)).symm | exact (congrArg (fun z => z + _) q9.2.2.2).trans (swF_p (nx := fun s => hnF ma mg mt wf wp wt mw ml co ro mm mp mz (65 * x2_9 + x3_18) s) (x := x8_97) (by omega) (by omega) (ge0 e_122)).symm⟩⟩ (by omega)
                            have := t0_
                            have := t1_
                            have : (0 : Int32).toInt = 0 := by decide
                            have : (0 : Int32).toInt = 0 := by decide
                            exact L_97 _ 0 0 1 ((opS co ((65 * x2_9) + x3_18))) ((tds ((65 * x2_9) + x3_18))) ⟨by omega, by first | exact Or.inl ⟨by omega, hd_1 (h_57.t (by omega)) (by omega)⟩ | exact Or.inl ⟨by omega, hd_0 (h_57.f (by omega))⟩ | exact Or.inl ⟨by omega, hd_b (by omega) (by omega)⟩ | (exfalso; omega)⟩ (Nat.lt_succ_self _)
                          · skip
                            have e_75 : ¬ ((mz : Int32).toInt ≤ (x1_3 : Int32).toInt) := fun h => c_75 (i_le.mpr h)
                            refine x_aload_n C 5 dX10_findHeard_78 rfl rfl ?_
                            refine x_bipush C 15 dX10_findHeard_79 (by decide) ?_
                            refine x_callV C [.int 15] [(m4, .inl (cI, 4, .inl mg)), (m5, .inl (cI, 4, .inl mt)), (m7, .inl (cI, 6, .inl wf)), (m8, .inl (cI, 6, .inl wp)), (m9, .inl (cI, 6, .inl wt)), (m0, .inl (cI, 625, .inl ro)), (m3, .inl (cI, 16, .inl mm)), (m10, .inl (cI, 30, .inl mp)), (m12, .inl (cJ, 40625, .inr (.inl fm12_18))), (m1, .inl (cI, 65, .inl co))] [10, 11, 12] [0, 1, 2, 3, 4, 5, 6, 7, 8, 9] (q0 := 0) (c_X10_canBe (xl X) (xD X) (xt X) hT hy m0 m1 m2 m3 m4 m5 m6 m7 m8 m9 m10 m11 m12 m13 m14 m15 m16 m17 m18 ((tds ((65 * x2_9) + x3_18))) ma mw ml mb mz ((opS co ((65 * x2_9) + x3_18))) bp by0 dp tk ka iw 15 (by omega)) dX10_findHeard_81 wd_579 wd_580 wd_581 wd_5 wd_582 (np := 1) ⟨by decide, by decide, by decide +kernel⟩ rfl rfl (Nat.le_of_ble_eq_true rfl) (by decide) rfl rfl rfl rfl (by decide) rfl (by decide) (by decide) (fun v W1 h => ?_)
                            obtain ⟨r_81, rfl, rfl, h_81⟩ := h
                            have : (15 : Int32).toInt = 15 := by decide
                            show V X 10 [(m4, .inl (cI, 4, .inl mg)), (m5, .inl (cI, 4, .inl mt)), (m7, .inl (cI, 6, .inl wf)), (m8, .inl (cI, 6, .inl wp)), (m9, .inl (cI, 6, .inl wt)), (m0, .inl (cI, 625, .inl ro)), (m3, .inl (cI, 16, .inl mm)), (m10, .inl (cI, 30, .inl mp)), (m12, .inl (cJ, 40625, .inr (.inl fm12_18))), (m1, .inl (cI, 65, .inl co)), (hy, .inr (10, [.ref m0, .ref m1, .ref m2, .ref m3, .ref m4, .ref m5, .ref m6, .ref m7, .ref m8, .ref m9, .int mw, .int ml, .int mb, .ref m10, .int mz, .ref m11, .int (((opS co ((65 * x2_9) + x3_18)))), .int bp, .int by0, .int dp, .int tk, .ref m12, .ref m13, .ref m14, .ref m15, .ref m16, .ref m17, .ref m18, .int ka, .int iw])), (m11, .inl (cI, 4, .inl (((tds ((65 * x2_9) + x3_18)))))), (m2, .inl (cI, 4, .inl ma))] [(5, .long 1), (4, .int ((65 * x2_9) + x3_18)), (3, .int x3_18), (2, .int x2_9), (1, .int x1_3), (0, .ref hy)] [.int r_81] 84 0 0
                            refine x_if_eq C 91 dX10_findHeard_84 (by decide) (fun c_84 => ?_) (fun c_84 => ?_)
                            · skip
                              have e_84 : (r_81 : Int32).toInt = (0 : Int32).toInt := i_eq.mp c_84
                              have : (0 : Int32).toInt = 0 := by decide
                              refine x_iconst C 0 dX10_findHeard_91 (by decide) ?_
                              refine x_istore C [(7, .int 0), (5, .long 1), (4, .int ((65 * x2_9) + x3_18)), (3, .int x3_18), (2, .int x2_9), (1, .int x1_3), (0, .ref hy)] dX10_findHeard_92 (by decide) rfl ?_
                              refine x_iconst C 0 dX10_findHeard_94 (by decide) ?_
                              refine x_istore C [(8, .int 0), (7, .int 0), (5, .long 1), (4, .int ((65 * x2_9) + x3_18)), (3, .int x3_18), (2, .int x2_9), (1, .int x1_3), (0, .ref hy)] dX10_findHeard_95 (by decide) rfl ?_
                              have L_97 : ∀ (n_97 : Nat) (x8_97 : Int32) (x7_97 : Int32) (x5_97 : Int64) (ghy16_97 : Int32) (fm11_97 : Nat → Int32), ((0 ≤ x8_97.toInt ∧ x8_97.toInt ≤ 4) ∧ ((x7_97.toInt = 0 ∧ x5_97 = hdF ma mg mt wf wp wt mw ml co ro mm mp mz fm12_18 (65 * x2_9 + x3_18)) ∨ (x7_97.toInt = 1 ∧ CB ma (tds (65 * x2_9 + x3_18)) (opS co (65 * x2_9 + x3_18)) 15 ∧ sm (65 * x2_9 + x3_18) < mz.toInt ∧ x5_97 = swF (fun s => hnF ma mg mt wf wp wt mw ml co ro mm mp mz (65 * x2_9 + x3_18) s) fm12_18 x8_97.toInt.toNat))) → ((4 - x8_97.toInt).toNat < n_97) → V X 10 [(m4, .inl (cI, 4, .inl mg)), (m5, .inl (cI, 4, .inl mt)), (m7, .inl (cI, 6, .inl wf)), (m8, .inl (cI, 6, .inl wp)), (m9, .inl (cI, 6, .inl wt)), (m0, .inl (cI, 625, .inl ro)), (m3, .inl (cI, 16, .inl mm)), (m10, .inl (cI, 30, .inl mp)), (m12, .inl (cJ, 40625, .inr (.inl fm12_18))), (m1, .inl (cI, 65, .inl co)), (hy, .inr (10, [.ref m0, .ref m1, .ref m2, .ref m3, .ref m4, .ref m5, .ref m6, .ref m7, .ref m8, .ref m9, .int mw, .int ml, .int mb, .ref m10, .int mz, .ref m11, .int ghy16_97, .int bp, .int by0, .int dp, .int tk, .ref m12, .ref m13, .ref m14, .ref m15, .ref m16, .ref m17, .ref m18, .int ka, .int iw])), (m11, .inl (cI, 4, .inl fm11_97)), (m2, .inl (cI, 4, .inl ma))] [(8, .int x8_97), (7, .int x7_97), (5, .long x5_97), (4, .int ((65 * x2_9) + x3_18)), (3, .int x3_18), (2, .int x2_9), (1, .int x1_3), (0, .ref hy)] [] 97 0 0 := by
                                intro n_97
                                induction n_97 with
                                | zero =>
                                  intro x8_97 x7_97 x5_97 ghy16_97 fm11_97 i_97 m_97
                                  exact absurd m_97 (Nat.not_lt_zero _)
                                | succ n_97 ih_97 =>
                                  intro x8_97 x7_97 x5_97 ghy16_97 fm11_97 i_97 m_97
                                  refine x_iload C 0 dX10_findHeard_97 rfl ?_
                                  refine x_iconst C 4 dX10_findHeard_99 (by decide) ?_
                                  refine x_icmp_ge C 145 dX10_findHeard_100 (by decide) (fun c_100 => ?_) (fun c_100 => ?_)
                                  · skip
                                    have e_100 : (4 : Int32).toInt ≤ (x8_97 : Int32).toInt := i_le.mp c_100
                                    have : (4 : Int32).toInt = 4 := by decide
                                    have f9 : x5_97 = hdF ma mg mt wf wp wt mw ml co ro mm mp mz fm12_18 (65 * x2_9 + x3_18) := by
                                      rcases i_97.2 with h | h
                                      · exact h.2
                                      · first
                                        | (rw [h.2.2.2, show x8_97.toInt.toNat = 4 by omega]; exact hd_s h.2.1 h.2.2.1)
                                        | (exfalso; omega)
                                    refine x_aload_n C 7 dX10_findHeard_145 rfl rfl ?_
                                    refine x_get C 10 21 dX10_findHeard_146 inlX10 rfl (by decide) wd_135 rfl rfl rfl ?_
                                    refine x_iload C 3 dX10_findHeard_149 rfl ?_
                                    refine x_lload C 2 dX10_findHeard_151 rfl ?_
                                    have v_153 : vp_in ((65 * x2_9) + x3_18) 40625 := (vp_in_iff.mpr (by omega))
                                    refine x_last C 8 1 [(m4, .inl (cI, 4, .inl mg)), (m5, .inl (cI, 4, .inl mt)), (m7, .inl (cI, 6, .inl wf)), (m8, .inl (cI, 6, .inl wp)), (m9, .inl (cI, 6, .inl wt)), (m0, .inl (cI, 625, .inl ro)), (m3, .inl (cI, 16, .inl mm)), (m10, .inl (cI, 30, .inl mp)), (m12, .inl (cJ, 40625, .inr (.inl (vp_updL fm12_18 (Int32.toNatClampNeg ((65 * x2_9) + x3_18)) x5_97)))), (m1, .inl (cI, 65, .inl co)), (hy, .inr (10, [.ref m0, .ref m1, .ref m2, .ref m3, .ref m4, .ref m5, .ref m6, .ref m7, .ref m8, .ref m9, .int mw, .int ml, .int mb, .ref m10, .int mz, .ref m11, .int ghy16_97, .int bp, .int by0, .int dp, .int tk, .ref m12, .ref m13, .ref m14, .ref m15, .ref m16, .ref m17, .ref m18, .int ka, .int iw])), (m11, .inl (cI, 4, .inl fm11_97)), (m2, .inl (cI, 4, .inl ma))] dX10_findHeard_153 hT.2.1 rfl v_153 rfl ?_
                                    have step9 := (DW.step (hd_lc hpa hR) i_18.2 (st := 65 * x2_9 + x3_18) (b' := 65 * x2_9.toInt + (x3_18.toInt + 1)) (by omega) (by omega) (by omega) (by omega) (by omega)).mono (b' := 65 * x2_9.toInt + (x3_18 + 1).toInt) (by have := t1_; have := i_add (x := x3_18) (y := 1) (by omega) (by omega); omega)
                                    rw [← f9] at step9
                                    refine x_iinc C 4 (x3_18 + 1) [(3, .int (x3_18 + 1)), (8, .int x8_97), (7, .int x7_97), (5, .long x5_97), (4, .int ((65 * x2_9) + x3_18)), (2, .int x2_9), (1, .int x1_3), (0, .ref hy)] dX10_findHeard_154 rfl rfl (by decide) rfl ?_
                                    refine x_goto C 18 dX10_findHeard_157 (by decide) ?_
                                    refine x_sub [(hy, .inr (10, [.ref m0, .ref m1, .ref m2, .ref m3, .ref m4, .ref m5, .ref m6, .ref m7, .ref m8, .ref m9, .int mw, .int ml, .int mb, .ref m10, .int mz, .ref m11, .int ghy16_97, .int bp, .int by0, .int dp, .int tk, .ref m12, .ref m13, .ref m14, .ref m15, .ref m16, .ref m17, .ref m18, .int ka, .int iw])), (m11, .inl (cI, 4, .inl fm11_97)), (m2, .inl (cI, 4, .inl ma)), (m4, .inl (cI, 4, .inl mg)), (m5, .inl (cI, 4, .inl mt)), (m7, .inl (cI, 6, .inl wf)), (m8, .inl (cI, 6, .inl wp)), (m9, .inl (cI, 6, .inl wt)), (m0, .inl (cI, 625, .inl ro)), (m1, .inl (cI, 65, .inl co)), (m3, .inl (cI, 16, .inl mm)), (m10, .inl (cI, 30, .inl mp)), (m12, .inl (cJ, 40625, .inr (.inl (vp_updL fm12_18 (Int32.toNatClampNeg ((65 * x2_9) + x3_18)) x5_97))))] [10, 11, 12, 0, 1, 2, 3, 4, 5, 9, 6, 7, 8] (by decide) rfl ?_
                                    refine x_lv [(3, .int (x3_18 + 1)), (2, .int x2_9), (1, .int x1_3), (0, .ref hy)] [0, 5, 6, 7] rfl ?_
                                    have : (1 : Int32).toInt = 1 := by decide
                                    have := i_add (x := x3_18) (y := 1) (by omega) (by omega)
                                    exact ih_18 (x3_18 + 1) ghy16_97 fm11_97 (vp_updL fm12_18 (Int32.toNatClampNeg ((65 * x2_9) + x3_18)) x5_97) ⟨by omega, step9⟩ (by omega)
                                  · skip
                                    have e_100 : ¬ ((4 : Int32).toInt ≤ (x8_97 : Int32).toInt) := fun h => c_100 (i_le.mpr h)
                                    have : (4 : Int32).toInt = 4 := by decide
                                    refine x_iload C 1 dX10_findHeard_103 rfl ?_
                                    refine x_if_eq C 145 dX10_findHeard_105 (by decide) (fun c_105 => ?_) (fun c_105 => ?_)
                                    · skip
                                      have e_105 : (x7_97 : Int32).toInt = (0 : Int32).toInt := i_eq.mp c_105
                                      have : (0 : Int32).toInt = 0 := by decide
                                      have f9 : x5_97 = hdF ma mg mt wf wp wt mw ml co ro mm mp mz fm12_18 (65 * x2_9 + x3_18) := by
                                        rcases i_97.2 with h | h
                                        · exact h.2
                                        · first
                                          | (rw [h.2.2.2, show x8_97.toInt.toNat = 4 by omega]; exact hd_s h.2.1 h.2.2.1)
                                          | (exfalso; omega)
                                      refine x_aload_n C 7 dX10_findHeard_145 rfl rfl ?_
                                      refine x_get C 10 21 dX10_findHeard_146 inlX10 rfl (by decide) wd_135 rfl rfl rfl ?_
                                      refine x_iload C 3 dX10_findHeard_149 rfl ?_
                                      refine x_lload C 2 dX10_findHeard_151 rfl ?_
                                      have v_153 : vp_in ((65 * x2_9) + x3_18) 40625 := (vp_in_iff.mpr (by omega))
                                      refine x_last C 8 1 [(m4, .inl (cI, 4, .inl mg)), (m5, .inl (cI, 4, .inl mt)), (m7, .inl (cI, 6, .inl wf)), (m8, .inl (cI, 6, .inl wp)), (m9, .inl (cI, 6, .inl wt)), (m0, .inl (cI, 625, .inl ro)), (m3, .inl (cI, 16, .inl mm)), (m10, .inl (cI, 30, .inl mp)), (m12, .inl (cJ, 40625, .inr (.inl (vp_updL fm12_18 (Int32.toNatClampNeg ((65 * x2_9) + x3_18)) x5_97)))), (m1, .inl (cI, 65, .inl co)), (hy, .inr (10, [.ref m0, .ref m1, .ref m2, .ref m3, .ref m4, .ref m5, .ref m6, .ref m7, .ref m8, .ref m9, .int mw, .int ml, .int mb, .ref m10, .int mz, .ref m11, .int ghy16_97, .int bp, .int by0, .int dp, .int tk, .ref m12, .ref m13, .ref m14, .ref m15, .ref m16, .ref m17, .ref m18, .int ka, .int iw])), (m11, .inl (cI, 4, .inl fm11_97)), (m2, .inl (cI, 4, .inl ma))] dX10_findHeard_153 hT.2.1 rfl v_153 rfl ?_
                                      have step9 := (DW.step (hd_lc hpa hR) i_18.2 (st := 65 * x2_9 + x3_18) (b' := 65 * x2_9.toInt + (x3_18.toInt + 1)) (by omega) (by omega) (by omega) (by omega) (by omega)).mono (b' := 65 * x2_9.toInt + (x3_18 + 1).toInt) (by have := t1_; have := i_add (x := x3_18) (y := 1) (by omega) (by omega); omega)
                                      rw [← f9] at step9
                                      refine x_iinc C 4 (x3_18 + 1) [(3, .int (x3_18 + 1)), (8, .int x8_97), (7, .int x7_97), (5, .long x5_97), (4, .int ((65 * x2_9) + x3_18)), (2, .int x2_9), (1, .int x1_3), (0, .ref hy)] dX10_findHeard_154 rfl rfl (by decide) rfl ?_
                                      refine x_goto C 18 dX10_findHeard_157 (by decide) ?_
                                      refine x_sub [(hy, .inr (10, [.ref m0, .ref m1, .ref m2, .ref m3, .ref m4, .ref m5, .ref m6, .ref m7, .ref m8, .ref m9, .int mw, .int ml, .int mb, .ref m10, .int mz, .ref m11, .int ghy16_97, .int bp, .int by0, .int dp, .int tk, .ref m12, .ref m13, .ref m14, .ref m15, .ref m16, .ref m17, .ref m18, .int ka, .int iw])), (m11, .inl (cI, 4, .inl fm11_97)), (m2, .inl (cI, 4, .inl ma)), (m4, .inl (cI, 4, .inl mg)), (m5, .inl (cI, 4, .inl mt)), (m7, .inl (cI, 6, .inl wf)), (m8, .inl (cI, 6, .inl wp)), (m9, .inl (cI, 6, .inl wt)), (m0, .inl (cI, 625, .inl ro)), (m1, .inl (cI, 65, .inl co)), (m3, .inl (cI, 16, .inl mm)), (m10, .inl (cI, 30, .inl mp)), (m12, .inl (cJ, 40625, .inr (.inl (vp_updL fm12_18 (Int32.toNatClampNeg ((65 * x2_9) + x3_18)) x5_97))))] [10, 11, 12, 0, 1, 2, 3, 4, 5, 9, 6, 7, 8] (by decide) rfl ?_
                                      refine x_lv [(3, .int (x3_18 + 1)), (2, .int x2_9), (1, .int x1_3), (0, .ref hy)] [0, 5, 6, 7] rfl ?_
                                      have : (1 : Int32).toInt = 1 := by decide
                                      have := i_add (x := x3_18) (y := 1) (by omega) (by omega)
                                      exact ih_18 (x3_18 + 1) ghy16_97 fm11_97 (vp_updL fm12_18 (Int32.toNatClampNeg ((65 * x2_9) + x3_18)) x5_97) ⟨by omega, step9⟩ (by omega)
                                    · skip
                                      have e_105 : ¬ ((x7_97 : Int32).toInt = (0 : Int32).toInt) := fun h => c_105 (i_eq.mpr h)
                                      have : (0 : Int32).toInt = 0 := by decide
                                      have q9 := i_97.2.resolve_left (fun h => by omega)
                                      have g9 := q9.2.1.gd hpa hR.1 (show 0 ≤ (65 * x2_9 + x3_18).toInt by omega)
                                      refine x_aload_n C 7 dX10_findHeard_108 rfl rfl ?_
                                      refine x_iload C 3 dX10_findHeard_109 rfl ?_
                                      refine x_iload C 0 dX10_findHeard_111 rfl ?_
                                      refine x_callV C [.int ((65 * x2_9) + x3_18), .int x8_97] [(m12, .inl (cJ, 40625, .inr (.inl fm12_18)))] [10, 11, 12, 0, 1, 2, 3, 4, 5, 9, 6, 7] [8] (q0 := 0) (c_X10_heardNext (xl X) (xD X) (xt X) hT hy m0 m1 m2 m3 m4 m5 m6 m7 m8 m9 m10 m11 m12 m13 m14 m15 m16 m17 m18 fm11_97 ma mg mt wf wp wt ro co mm mp mw ml mb mz ghy16_97 bp by0 dp tk ka iw ((65 * x2_9) + x3_18) x8_97 (by omega) hR g9 (by omega) hmw hwt hz) dX10_findHeard_113 wd_795 wd_796 wd_797 wd_5 wd_798 (np := 2) ⟨by decide, by decide, by decide +kernel⟩ rfl rfl (Nat.le_of_ble_eq_true rfl) (by decide) rfl rfl rfl rfl (by decide) rfl (by decide) (by decide) (fun v W1 h => ?_)
                                      obtain ⟨tl2_113, op2_113, rfl, rfl, h_113⟩ := h
                                      show V X 10 [(m12, .inl (cJ, 40625, .inr (.inl fm12_18))), (hy, .inr (10, [.ref m0, .ref m1, .ref m2, .ref m3, .ref m4, .ref m5, .ref m6, .ref m7, .ref m8, .ref m9, .int mw, .int ml, .int mb, .ref m10, .int mz, .ref m11, .int op2_113, .int bp, .int by0, .int dp, .int tk, .ref m12, .ref m13, .ref m14, .ref m15, .ref m16, .ref m17, .ref m18, .int ka, .int iw])), (m11, .inl (cI, 4, .inl tl2_113)), (m2, .inl (cI, 4, .inl ma)), (m4, .inl (cI, 4, .inl mg)), (m5, .inl (cI, 4, .inl mt)), (m7, .inl (cI, 6, .inl wf)), (m8, .inl (cI, 6, .inl wp)), (m9, .inl (cI, 6, .inl wt)), (m0, .inl (cI, 625, .inl ro)), (m1, .inl (cI, 65, .inl co)), (m3, .inl (cI, 16, .inl mm)), (m10, .inl (cI, 30, .inl mp))] [(8, .int x8_97), (7, .int x7_97), (5, .long x5_97), (4, .int ((65 * x2_9) + x3_18)), (3, .int x3_18), (2, .int x2_9), (1, .int x1_3), (0, .ref hy)] [.int (hnF ma mg mt wf wp wt mw ml co ro mm mp mz ((65 * x2_9) + x3_18) x8_97)] 116 0 0
                                      refine x_istore C [(9, .int (hnF ma mg mt wf wp wt mw ml co ro mm mp mz ((65 * x2_9) + x3_18) x8_97)), (8, .int x8_97), (7, .int x7_97), (5, .long x5_97), (4, .int ((65 * x2_9) + x3_18)), (3, .int x3_18), (2, .int x2_9), (1, .int x1_3), (0, .ref hy)] dX10_findHeard_116 (by decide) rfl ?_
                                      refine x_lload C 3 dX10_findHeard_118 rfl ?_
                                      refine x_iload C 0 dX10_findHeard_120 rfl ?_
                                      refine x_if_ge C 129 dX10_findHeard_122 (by decide) (fun c_122 => ?_) (fun c_122 => ?_)
                                      · skip
                                        have e_122 : (0 : Int32).toInt ≤ (hnF ma mg mt wf wp wt mw ml co ro mm mp mz ((65 * x2_9) + x3_18) x8_97 : Int32).toInt := i_le.mp c_122
                                        have : (0 : Int32).toInt = 0 := by decide
                                        refine x_aload_n C 8 dX10_findHeard_129 rfl rfl ?_
                                        refine x_get C 1 21 dX10_findHeard_130 inlX10 rfl (by decide) wd_135 rfl rfl rfl ?_
                                        refine x_iload C 0 dX10_findHeard_133 rfl ?_
                                        have v_135 : vp_in (hnF ma mg mt wf wp wt mw ml co ro mm mp mz ((65 * x2_9) + x3_18) x8_97) 40625 := (vp_in_iff.mpr (by have := (hn_ok hR (by omega) g9 (by omega) (ge0 e_122)).1; omega))
                                        refine x_lald C 0 1 dX10_findHeard_135 hT.2.1 rfl v_135 ?_
                                        refine x_ladd C dX10_findHeard_136 ?_
                                        refine x_lstore C [(5, .long (x5_97 + (fm12_18 (Int32.toNatClampNeg (hnF ma mg mt wf wp wt mw ml co ro mm mp mz ((65 * x2_9) + x3_18) x8_97))))), (9, .int (hnF ma mg mt wf wp wt mw ml co ro mm mp mz ((65 * x2_9) + x3_18) x8_97)), (8, .int x8_97), (7, .int x7_97), (4, .int ((65 * x2_9) + x3_18)), (3, .int x3_18), (2, .int x2_9), (1, .int x1_3), (0, .ref hy)] dX10_findHeard_137 (by decide) rfl ?_
                                        refine x_iinc C 2 (x8_97 + 1) [(8, .int (x8_97 + 1)), (5, .long (x5_97 + (fm12_18 (Int32.toNatClampNeg (hnF ma mg mt wf wp wt mw ml co ro mm mp mz ((65 * x2_9) + x3_18) x8_97))))), (9, .int (hnF ma mg mt wf wp wt mw ml co ro mm mp mz ((65 * x2_9) + x3_18) x8_97)), (7, .int x7_97), (4, .int ((65 * x2_9) + x3_18)), (3, .int x3_18), (2, .int x2_9), (1, .int x1_3), (0, .ref hy)] dX10_findHeard_139 rfl rfl (by decide) rfl ?_
                                        refine x_goto C 97 dX10_findHeard_142 (by decide) ?_
                                        refine x_sub [(m4, .inl (cI, 4, .inl mg)), (m5, .inl (cI, 4, .inl mt)), (m7, .inl (cI, 6, .inl wf)), (m8, .inl (cI, 6, .inl wp)), (m9, .inl (cI, 6, .inl wt)), (m0, .inl (cI, 625, .inl ro)), (m3, .inl (cI, 16, .inl mm)), (m10, .inl (cI, 30, .inl mp)), (m12, .inl (cJ, 40625, .inr (.inl fm12_18))), (m1, .inl (cI, 65, .inl co)), (hy, .inr (10, [.ref m0, .ref m1, .ref m2, .ref m3, .ref m4, .ref m5, .ref m6, .ref m7, .ref m8, .ref m9, .int mw, .int ml, .int mb, .ref m10, .int mz, .ref m11, .int op2_113, .int bp, .int by0, .int dp, .int tk, .ref m12, .ref m13, .ref m14, .ref m15, .ref m16, .ref m17, .ref m18, .int ka, .int iw])), (m11, .inl (cI, 4, .inl tl2_113)), (m2, .inl (cI, 4, .inl ma))] [4, 5, 6, 7, 8, 9, 11, 12, 0, 10, 1, 2, 3] (by decide) rfl ?_
                                        refine x_lv [(8, .int (x8_97 + 1)), (7, .int x7_97), (5, .long (x5_97 + (fm12_18 (Int32.toNatClampNeg (hnF ma mg mt wf wp wt mw ml co ro mm mp mz ((65 * x2_9) + x3_18) x8_97))))), (4, .int ((65 * x2_9) + x3_18)), (3, .int x3_18), (2, .int x2_9), (1, .int x1_3), (0, .ref hy)] [0, 3, 1, 4, 5, 6, 7, 8] rfl ?_
                                        have := t0_
                                        have := t1_
                                        have : (1 : Int32).toInt = 1 := by decide
                                        have := i_add (x := x8_97) (y := 1) (by omega) (by omega)
                                        exact ih_97 (x8_97 + 1) x7_97 (x5_97 + (fm12_18 (Int32.toNatClampNeg (hnF ma mg mt wf wp wt mw ml co ro mm mp mz ((65 * x2_9) + x3_18) x8_97)))) op2_113 tl2_113 ⟨by omega, Or.inr ⟨by omega, q9.2.1, by omega, by first | exact (congrArg (fun z => z + 0) q9.2.2.2).trans (swF_n (nx := fun s => hnF ma mg mt wf wp wt mw ml co ro mm mp mz (65 * x2_9 + x3_18) s) (x := x8_97) (by omega) (by omega) (by omega)).symm | exact (congrArg (fun z => z + _) q9.2.2.2).trans (swF_p (nx := fun s => hnF ma mg mt wf wp wt mw ml co ro mm mp mz (65 * x2_9 + x3_18) s) (x := x8_97) (by omega) (by omega) (ge0 e_122)).symm⟩⟩ (by omega)
                                      · skip
                                        have e_122 : ¬ ((0 : Int32).toInt ≤ (hnF ma mg mt wf wp wt mw ml co ro mm mp mz ((65 * x2_9) + x3_18) x8_97 : Int32).toInt) := fun h => c_122 (i_le.mpr h)
                                        have : (0 : Int32).toInt = 0 := by decide
                                        refine x_lconst C 0 dX10_findHeard_125 (by decide) ?_
                                        refine x_goto C 136 dX10_findHeard_126 (by decide) ?_
                                        refine x_ladd C dX10_findHeard_136 ?_
                                        refine x_lstore C [(5, .long (x5_97 + 0)), (9, .int (hnF ma mg mt wf wp wt mw ml co ro mm mp mz ((65 * x2_9) + x3_18) x8_97)), (8, .int x8_97), (7, .int x7_97), (4, .int ((65 * x2_9) + x3_18)), (3, .int x3_18), (2, .int x2_9), (1, .int x1_3), (0, .ref hy)] dX10_findHeard_137 (by decide) rfl ?_
                                        refine x_iinc C 2 (x8_97 + 1) [(8, .int (x8_97 + 1)), (5, .long (x5_97 + 0)), (9, .int (hnF ma mg mt wf wp wt mw ml co ro mm mp mz ((65 * x2_9) + x3_18) x8_97)), (7, .int x7_97), (4, .int ((65 * x2_9) + x3_18)), (3, .int x3_18), (2, .int x2_9), (1, .int x1_3), (0, .ref hy)] dX10_findHeard_139 rfl rfl (by decide) rfl ?_
                                        refine x_goto C 97 dX10_findHeard_142 (by decide) ?_
                                        refine x_sub [(m4, .inl (cI, 4, .inl mg)), (m5, .inl (cI, 4, .inl mt)), (m7, .inl (cI, 6, .inl wf)), (m8, .inl (cI, 6, .inl wp)), (m9, .inl (cI, 6, .inl wt)), (m0, .inl (cI, 625, .inl ro)), (m3, .inl (cI, 16, .inl mm)), (m10, .inl (cI, 30, .inl mp)), (m12, .inl (cJ, 40625, .inr (.inl fm12_18))), (m1, .inl (cI, 65, .inl co)), (hy, .inr (10, [.ref m0, .ref m1, .ref m2, .ref m3, .ref m4, .ref m5, .ref m6, .ref m7, .ref m8, .ref m9, .int mw, .int ml, .int mb, .ref m10, .int mz, .ref m11, .int op2_113, .int bp, .int by0, .int dp, .int tk, .ref m12, .ref m13, .ref m14, .ref m15, .ref m16, .ref m17, .ref m18, .int ka, .int iw])), (m11, .inl (cI, 4, .inl tl2_113)), (m2, .inl (cI, 4, .inl ma))] [4, 5, 6, 7, 8, 9, 11, 12, 0, 10, 1, 2, 3] (by decide) rfl ?_
                                        refine x_lv [(8, .int (x8_97 + 1)), (7, .int x7_97), (5, .long (x5_97 + 0)), (4, .int ((65 * x2_9) + x3_18)), (3, .int x3_18), (2, .int x2_9), (1, .int x1_3), (0, .ref hy)] [0, 3, 1, 4, 5, 6, 7, 8] rfl ?_
                                        have := t0_
                                        have := t1_
                                        have : (1 : Int32).toInt = 1 := by decide
                                        have := i_add (x := x8_97) (y := 1) (by omega) (by omega)
                                        exact ih_97 (x8_97 + 1) x7_97 (x5_97 + 0) op2_113 tl2_113 ⟨by omega, Or.inr ⟨by omega, q9.2.1, by omega, by first | exact (congrArg (fun z => z + 0) q9.2.2.2).trans (swF_n (nx := fun s => hnF ma mg mt wf wp wt mw ml co ro mm mp mz (65 * x2_9 + x3_18) s) (x := x8_97) (by omega) (by omega) (by omega)).symm | exact (congrArg (fun z => z + _) q9.2.2.2).trans (swF_p (nx := fun s => hnF ma mg mt wf wp wt mw ml co ro mm mp mz (65 * x2_9 + x3_18) s) (x := x8_97) (by omega) (by omega) (ge0 e_122)).symm⟩⟩ (by omega)
                              have := t0_
                              have := t1_
                              have : (0 : Int32).toInt = 0 := by decide
                              have : (0 : Int32).toInt = 0 := by decide
                              exact L_97 _ 0 0 1 (((opS co ((65 * x2_9) + x3_18)))) (((tds ((65 * x2_9) + x3_18)))) ⟨by omega, by first | exact Or.inl ⟨by omega, hd_1 (h_57.t (by omega)) (by omega)⟩ | exact Or.inl ⟨by omega, hd_0 (h_57.f (by omega))⟩ | exact Or.inl ⟨by omega, hd_b (by omega) (by omega)⟩ | exact Or.inr ⟨by omega, h_81.t (by omega), by omega, rfl⟩ | exact Or.inl ⟨by omega, hd_0 (h_81.f (by omega))⟩ | (exfalso; omega)⟩ (Nat.lt_succ_self _)
                            · skip
                              have e_84 : ¬ ((r_81 : Int32).toInt = (0 : Int32).toInt) := fun h => c_84 (i_eq.mpr h)
                              have : (0 : Int32).toInt = 0 := by decide
                              refine x_iconst C 1 dX10_findHeard_87 (by decide) ?_
                              refine x_goto C 92 dX10_findHeard_88 (by decide) ?_
                              refine x_istore C [(7, .int 1), (5, .long 1), (4, .int ((65 * x2_9) + x3_18)), (3, .int x3_18), (2, .int x2_9), (1, .int x1_3), (0, .ref hy)] dX10_findHeard_92 (by decide) rfl ?_
                              refine x_iconst C 0 dX10_findHeard_94 (by decide) ?_
                              refine x_istore C [(8, .int 0), (7, .int 1), (5, .long 1), (4, .int ((65 * x2_9) + x3_18)), (3, .int x3_18), (2, .int x2_9), (1, .int x1_3), (0, .ref hy)] dX10_findHeard_95 (by decide) rfl ?_
                              have L_97 : ∀ (n_97 : Nat) (x8_97 : Int32) (x7_97 : Int32) (x5_97 : Int64) (ghy16_97 : Int32) (fm11_97 : Nat → Int32), ((0 ≤ x8_97.toInt ∧ x8_97.toInt ≤ 4) ∧ ((x7_97.toInt = 0 ∧ x5_97 = hdF ma mg mt wf wp wt mw ml co ro mm mp mz fm12_18 (65 * x2_9 + x3_18)) ∨ (x7_97.toInt = 1 ∧ CB ma (tds (65 * x2_9 + x3_18)) (opS co (65 * x2_9 + x3_18)) 15 ∧ sm (65 * x2_9 + x3_18) < mz.toInt ∧ x5_97 = swF (fun s => hnF ma mg mt wf wp wt mw ml co ro mm mp mz (65 * x2_9 + x3_18) s) fm12_18 x8_97.toInt.toNat))) → ((4 - x8_97.toInt).toNat < n_97) → V X 10 [(m4, .inl (cI, 4, .inl mg)), (m5, .inl (cI, 4, .inl mt)), (m7, .inl (cI, 6, .inl wf)), (m8, .inl (cI, 6, .inl wp)), (m9, .inl (cI, 6, .inl wt)), (m0, .inl (cI, 625, .inl ro)), (m3, .inl (cI, 16, .inl mm)), (m10, .inl (cI, 30, .inl mp)), (m12, .inl (cJ, 40625, .inr (.inl fm12_18))), (m1, .inl (cI, 65, .inl co)), (hy, .inr (10, [.ref m0, .ref m1, .ref m2, .ref m3, .ref m4, .ref m5, .ref m6, .ref m7, .ref m8, .ref m9, .int mw, .int ml, .int mb, .ref m10, .int mz, .ref m11, .int ghy16_97, .int bp, .int by0, .int dp, .int tk, .ref m12, .ref m13, .ref m14, .ref m15, .ref m16, .ref m17, .ref m18, .int ka, .int iw])), (m11, .inl (cI, 4, .inl fm11_97)), (m2, .inl (cI, 4, .inl ma))] [(8, .int x8_97), (7, .int x7_97), (5, .long x5_97), (4, .int ((65 * x2_9) + x3_18)), (3, .int x3_18), (2, .int x2_9), (1, .int x1_3), (0, .ref hy)] [] 97 0 0 := by
                                intro n_97
                                induction n_97 with
                                | zero =>
                                  intro x8_97 x7_97 x5_97 ghy16_97 fm11_97 i_97 m_97
                                  exact absurd m_97 (Nat.not_lt_zero _)
                                | succ n_97 ih_97 =>
                                  intro x8_97 x7_97 x5_97 ghy16_97 fm11_97 i_97 m_97
                                  refine x_iload C 0 dX10_findHeard_97 rfl ?_
                                  refine x_iconst C 4 dX10_findHeard_99 (by decide) ?_
                                  refine x_icmp_ge C 145 dX10_findHeard_100 (by decide) (fun c_100 => ?_) (fun c_100 => ?_)
                                  · skip
                                    have e_100 : (4 : Int32).toInt ≤ (x8_97 : Int32).toInt := i_le.mp c_100
                                    have : (4 : Int32).toInt = 4 := by decide
                                    have f9 : x5_97 = hdF ma mg mt wf wp wt mw ml co ro mm mp mz fm12_18 (65 * x2_9 + x3_18) := by
                                      rcases i_97.2 with h | h
                                      · exact h.2
                                      · first
                                        | (rw [h.2.2.2, show x8_97.toInt.toNat = 4 by omega]; exact hd_s h.2.1 h.2.2.1)
                                        | (exfalso; omega)
                                    refine x_aload_n C 7 dX10_findHeard_145 rfl rfl ?_
                                    refine x_get C 10 21 dX10_findHeard_146 inlX10 rfl (by decide) wd_135 rfl rfl rfl ?_
                                    refine x_iload C 3 dX10_findHeard_149 rfl ?_
                                    refine x_lload C 2 dX10_findHeard_151 rfl ?_
                                    have v_153 : vp_in ((65 * x2_9) + x3_18) 40625 := (vp_in_iff.mpr (by omega))
                                    refine x_last C 8 1 [(m4, .inl (cI, 4, .inl mg)), (m5, .inl (cI, 4, .inl mt)), (m7, .inl (cI, 6, .inl wf)), (m8, .inl (cI, 6, .inl wp)), (m9, .inl (cI, 6, .inl wt)), (m0, .inl (cI, 625, .inl ro)), (m3, .inl (cI, 16, .inl mm)), (m10, .inl (cI, 30, .inl mp)), (m12, .inl (cJ, 40625, .inr (.inl (vp_updL fm12_18 (Int32.toNatClampNeg ((65 * x2_9) + x3_18)) x5_97)))), (m1, .inl (cI, 65, .inl co)), (hy, .inr (10, [.ref m0, .ref m1, .ref m2, .ref m3, .ref m4, .ref m5, .ref m6, .ref m7, .ref m8, .ref m9, .int mw, .int ml, .int mb, .ref m10, .int mz, .ref m11, .int ghy16_97, .int bp, .int by0, .int dp, .int tk, .ref m12, .ref m13, .ref m14, .ref m15, .ref m16, .ref m17, .ref m18, .int ka, .int iw])), (m11, .inl (cI, 4, .inl fm11_97)), (m2, .inl (cI, 4, .inl ma))] dX10_findHeard_153 hT.2.1 rfl v_153 rfl ?_
                                    have step9 := (DW.step (hd_lc hpa hR) i_18.2 (st := 65 * x2_9 + x3_18) (b' := 65 * x2_9.toInt + (x3_18.toInt + 1)) (by omega) (by omega) (by omega) (by omega) (by omega)).mono (b' := 65 * x2_9.toInt + (x3_18 + 1).toInt) (by have := t1_; have := i_add (x := x3_18) (y := 1) (by omega) (by omega); omega)
                                    rw [← f9] at step9
                                    refine x_iinc C 4 (x3_18 + 1) [(3, .int (x3_18 + 1)), (8, .int x8_97), (7, .int x7_97), (5, .long x5_97), (4, .int ((65 * x2_9) + x3_18)), (2, .int x2_9), (1, .int x1_3), (0, .ref hy)] dX10_findHeard_154 rfl rfl (by decide) rfl ?_
                                    refine x_goto C 18 dX10_findHeard_157 (by decide) ?_
                                    refine x_sub [(hy, .inr (10, [.ref m0, .ref m1, .ref m2, .ref m3, .ref m4, .ref m5, .ref m6, .ref m7, .ref m8, .ref m9, .int mw, .int ml, .int mb, .ref m10, .int mz, .ref m11, .int ghy16_97, .int bp, .int by0, .int dp, .int tk, .ref m12, .ref m13, .ref m14, .ref m15, .ref m16, .ref m17, .ref m18, .int ka, .int iw])), (m11, .inl (cI, 4, .inl fm11_97)), (m2, .inl (cI, 4, .inl ma)), (m4, .inl (cI, 4, .inl mg)), (m5, .inl (cI, 4, .inl mt)), (m7, .inl (cI, 6, .inl wf)), (m8, .inl (cI, 6, .inl wp)), (m9, .inl (cI, 6, .inl wt)), (m0, .inl (cI, 625, .inl ro)), (m1, .inl (cI, 65, .inl co)), (m3, .inl (cI, 16, .inl mm)), (m10, .inl (cI, 30, .inl mp)), (m12, .inl (cJ, 40625, .inr (.inl (vp_updL fm12_18 (Int32.toNatClampNeg ((65 * x2_9) + x3_18)) x5_97))))] [10, 11, 12, 0, 1, 2, 3, 4, 5, 9, 6, 7, 8] (by decide) rfl ?_
                                    refine x_lv [(3, .int (x3_18 + 1)), (2, .int x2_9), (1, .int x1_3), (0, .ref hy)] [0, 5, 6, 7] rfl ?_
                                    have : (1 : Int32).toInt = 1 := by decide
                                    have := i_add (x := x3_18) (y := 1) (by omega) (by omega)
                                    exact ih_18 (x3_18 + 1) ghy16_97 fm11_97 (vp_updL fm12_18 (Int32.toNatClampNeg ((65 * x2_9) + x3_18)) x5_97) ⟨by omega, step9⟩ (by omega)
                                  · skip
                                    have e_100 : ¬ ((4 : Int32).toInt ≤ (x8_97 : Int32).toInt) := fun h => c_100 (i_le.mpr h)
                                    have : (4 : Int32).toInt = 4 := by decide
                                    refine x_iload C 1 dX10_findHeard_103 rfl ?_
                                    refine x_if_eq C 145 dX10_findHeard_105 (by decide) (fun c_105 => ?_) (fun c_105 => ?_)
                                    · skip
                                      have e_105 : (x7_97 : Int32).toInt = (0 : Int32).toInt := i_eq.mp c_105
                                      have : (0 : Int32).toInt = 0 := by decide
                                      have f9 : x5_97 = hdF ma mg mt wf wp wt mw ml co ro mm mp mz fm12_18 (65 * x2_9 + x3_18) := by
                                        rcases i_97.2 with h | h
                                        · exact h.2
                                        · first
                                          | (rw [h.2.2.2, show x8_97.toInt.toNat = 4 by omega]; exact hd_s h.2.1 h.2.2.1)
                                          | (exfalso; omega)
                                      refine x_aload_n C 7 dX10_findHeard_145 rfl rfl ?_
                                      refine x_get C 10 21 dX10_findHeard_146 inlX10 rfl (by decide) wd_135 rfl rfl rfl ?_
                                      refine x_iload C 3 dX10_findHeard_149 rfl ?_
                                      refine x_lload C 2 dX10_findHeard_151 rfl ?_
                                      have v_153 : vp_in ((65 * x2_9) + x3_18) 40625 := (vp_in_iff.mpr (by omega))
                                      refine x_last C 8 1 [(m4, .inl (cI, 4, .inl mg)), (m5, .inl (cI, 4, .inl mt)), (m7, .inl (cI, 6, .inl wf)), (m8, .inl (cI, 6, .inl wp)), (m9, .inl (cI, 6, .inl wt)), (m0, .inl (cI, 625, .inl ro)), (m3, .inl (cI, 16, .inl mm)), (m10, .inl (cI, 30, .inl mp)), (m12, .inl (cJ, 40625, .inr (.inl (vp_updL fm12_18 (Int32.toNatClampNeg ((65 * x2_9) + x3_18)) x5_97)))), (m1, .inl (cI, 65, .inl co)), (hy, .inr (10, [.ref m0, .ref m1, .ref m2, .ref m3, .ref m4, .ref m5, .ref m6, .ref m7, .ref m8, .ref m9, .int mw, .int ml, .int mb, .ref m10, .int mz, .ref m11, .int ghy16_97, .int bp, .int by0, .int dp, .int tk, .ref m12, .ref m13, .ref m14, .ref m15, .ref m16, .ref m17, .ref m18, .int ka, .int iw])), (m11, .inl (cI, 4, .inl fm11_97)), (m2, .inl (cI, 4, .inl ma))] dX10_findHeard_153 hT.2.1 rfl v_153 rfl ?_
                                      have step9 := (DW.step (hd_lc hpa hR) i_18.2 (st := 65 * x2_9 + x3_18) (b' := 65 * x2_9.toInt + (x3_18.toInt + 1)) (by omega) (by omega) (by omega) (by omega) (by omega)).mono (b' := 65 * x2_9.toInt + (x3_18 + 1).toInt) (by have := t1_; have := i_add (x := x3_18) (y := 1) (by omega) (by omega); omega)
                                      rw [← f9] at step9
                                      refine x_iinc C 4 (x3_18 + 1) [(3, .int (x3_18 + 1)), (8, .int x8_97), (7, .int x7_97), (5, .long x5_97), (4, .int ((65 * x2_9) + x3_18)), (2, .int x2_9), (1, .int x1_3), (0, .ref hy)] dX10_findHeard_154 rfl rfl (by decide) rfl ?_
                                      refine x_goto C 18 dX10_findHeard_157 (by decide) ?_
                                      refine x_sub [(hy, .inr (10, [.ref m0, .ref m1, .ref m2, .ref m3, .ref m4, .ref m5, .ref m6, .ref m7, .ref m8, .ref m9, .int mw, .int ml, .int mb, .ref m10, .int mz, .ref m11, .int ghy16_97, .int bp, .int by0, .int dp, .int tk, .ref m12, .ref m13, .ref m14, .ref m15, .ref m16, .ref m17, .ref m18, .int ka, .int iw])), (m11, .inl (cI, 4, .inl fm11_97)), (m2, .inl (cI, 4, .inl ma)), (m4, .inl (cI, 4, .inl mg)), (m5, .inl (cI, 4, .inl mt)), (m7, .inl (cI, 6, .inl wf)), (m8, .inl (cI, 6, .inl wp)), (m9, .inl (cI, 6, .inl wt)), (m0, .inl (cI, 625, .inl ro)), (m1, .inl (cI, 65, .inl co)), (m3, .inl (cI, 16, .inl mm)), (m10, .inl (cI, 30, .inl mp)), (m12, .inl (cJ, 40625, .inr (.inl (vp_updL fm12_18 (Int32.toNatClampNeg ((65 * x2_9) + x3_18)) x5_97))))] [10, 11, 12, 0, 1, 2, 3, 4, 5, 9, 6, 7, 8] (by decide) rfl ?_
                                      refine x_lv [(3, .int (x3_18 + 1)), (2, .int x2_9), (1, .int x1_3), (0, .ref hy)] [0, 5, 6, 7] rfl ?_
                                      have : (1 : Int32).toInt = 1 := by decide
                                      have := i_add (x := x3_18) (y := 1) (by omega) (by omega)
                                      exact ih_18 (x3_18 + 1) ghy16_97 fm11_97 (vp_updL fm12_18 (Int32.toNatClampNeg ((65 * x2_9) + x3_18)) x5_97) ⟨by omega, step9⟩ (by omega)
                                    · skip
                                      have e_105 : ¬ ((x7_97 : Int32).toInt = (0 : Int32).toInt) := fun h => c_105 (i_eq.mpr h)
                                      have : (0 : Int32).toInt = 0 := by decide
                                      have q9 := i_97.2.resolve_left (fun h => by omega)
                                      have g9 := q9.2.1.gd hpa hR.1 (show 0 ≤ (65 * x2_9 + x3_18).toInt by omega)
                                      refine x_aload_n C 7 dX10_findHeard_108 rfl rfl ?_
                                      refine x_iload C 3 dX10_findHeard_109 rfl ?_
                                      refine x_iload C 0 dX10_findHeard_111 rfl ?_
                                      refine x_callV C [.int ((65 * x2_9) + x3_18), .int x8_97] [(m12, .inl (cJ, 40625, .inr (.inl fm12_18)))] [10, 11, 12, 0, 1, 2, 3, 4, 5, 9, 6, 7] [8] (q0 := 0) (c_X10_heardNext (xl X) (xD X) (xt X) hT hy m0 m1 m2 m3 m4 m5 m6 m7 m8 m9 m10 m11 m12 m13 m14 m15 m16 m17 m18 fm11_97 ma mg mt wf wp wt ro co mm mp mw ml mb mz ghy16_97 bp by0 dp tk ka iw ((65 * x2_9) + x3_18) x8_97 (by omega) hR g9 (by omega) hmw hwt hz) dX10_findHeard_113 wd_795 wd_796 wd_797 wd_5 wd_798 (np := 2) ⟨by decide, by decide, by decide +kernel⟩ rfl rfl (Nat.le_of_ble_eq_true rfl) (by decide) rfl rfl rfl rfl (by decide) rfl (by decide) (by decide) (fun v W1 h => ?_)
                                      obtain ⟨tl2_113, op2_113, rfl, rfl, h_113⟩ := h
                                      show V X 10 [(m12, .inl (cJ, 40625, .inr (.inl fm12_18))), (hy, .inr (10, [.ref m0, .ref m1, .ref m2, .ref m3, .ref m4, .ref m5, .ref m6, .ref m7, .ref m8, .ref m9, .int mw, .int ml, .int mb, .ref m10, .int mz, .ref m11, .int op2_113, .int bp, .int by0, .int dp, .int tk, .ref m12, .ref m13, .ref m14, .ref m15, .ref m16, .ref m17, .ref m18, .int ka, .int iw])), (m11, .inl (cI, 4, .inl tl2_113)), (m2, .inl (cI, 4, .inl ma)), (m4, .inl (cI, 4, .inl mg)), (m5, .inl (cI, 4, .inl mt)), (m7, .inl (cI, 6, .inl wf)), (m8, .inl (cI, 6, .inl wp)), (m9, .inl (cI, 6, .inl wt)), (m0, .inl (cI, 625, .inl ro)), (m1, .inl (cI, 65, .inl co)), (m3, .inl (cI, 16, .inl mm)), (m10, .inl (cI, 30, .inl mp))] [(8, .int x8_97), (7, .int x7_97), (5, .long x5_97), (4, .int ((65 * x2_9) + x3_18)), (3, .int x3_18), (2, .int x2_9), (1, .int x1_3), (0, .ref hy)] [.int (hnF ma mg mt wf wp wt mw ml co ro mm mp mz ((65 * x2_9) + x3_18) x8_97)] 116 0 0
                                      refine x_istore C [(9, .int (hnF ma mg mt wf wp wt mw ml co ro mm mp mz ((65 * x2_9) + x3_18) x8_97)), (8, .int x8_97), (7, .int x7_97), (5, .long x5_97), (4, .int ((65 * x2_9) + x3_18)), (3, .int x3_18), (2, .int x2_9), (1, .int x1_3), (0, .ref hy)] dX10_findHeard_116 (by decide) rfl ?_
                                      refine x_lload C 3 dX10_findHeard_118 rfl ?_
                                      refine x_iload C 0 dX10_findHeard_120 rfl ?_
                                      refine x_if_ge C 129 dX10_findHeard_122 (by decide) (fun c_122 => ?_) (fun c_122 => ?_)
                                      · skip
                                        have e_122 : (0 : Int32).toInt ≤ (hnF ma mg mt wf wp wt mw ml co ro mm mp mz ((65 * x2_9) + x3_18) x8_97 : Int32).toInt := i_le.mp c_122
                                        have : (0 : Int32).toInt = 0 := by decide
                                        refine x_aload_n C 8 dX10_findHeard_129 rfl rfl ?_
                                        refine x_get C 1 21 dX10_findHeard_130 inlX10 rfl (by decide) wd_135 rfl rfl rfl ?_
                                        refine x_iload C 0 dX10_findHeard_133 rfl ?_
                                        have v_135 : vp_in (hnF ma mg mt wf wp wt mw ml co ro mm mp mz ((65 * x2_9) + x3_18) x8_97) 40625 := (vp_in_iff.mpr (by have := (hn_ok hR (by omega) g9 (by omega) (ge0 e_122)).1; omega))
                                        refine x_lald C 0 1 dX10_findHeard_135 hT.2.1 rfl v_135 ?_
                                        refine x_ladd C dX10_findHeard_136 ?_
                                        refine x_lstore C [(5, .long (x5_97 + (fm12_18 (Int32.toNatClampNeg (hnF ma mg mt wf wp wt mw ml co ro mm mp mz ((65 * x2_9) + x3_18) x8_97))))), (9, .int (hnF ma mg mt wf wp wt mw ml co ro mm mp mz ((65 * x2_9) + x3_18) x8_97)), (8, .int x8_97), (7, .int x7_97), (4, .int ((65 * x2_9) + x3_18)), (3, .int x3_18), (2, .int x2_9), (1, .int x1_3), (0, .ref hy)] dX10_findHeard_137 (by decide) rfl ?_
                                        refine x_iinc C 2 (x8_97 + 1) [(8, .int (x8_97 + 1)), (5, .long (x5_97 + (fm12_18 (Int32.toNatClampNeg (hnF ma mg mt wf wp wt mw ml co ro mm mp mz ((65 * x2_9) + x3_18) x8_97))))), (9, .int (hnF ma mg mt wf wp wt mw ml co ro mm mp mz ((65 * x2_9) + x3_18) x8_97)), (7, .int x7_97), (4, .int ((65 * x2_9) + x3_18)), (3, .int x3_18), (2, .int x2_9), (1, .int x1_3), (0, .ref hy)] dX10_findHeard_139 rfl rfl (by decide) rfl ?_
                                        refine x_goto C 97 dX10_findHeard_142 (by decide) ?_
                                        refine x_sub [(m4, .inl (cI, 4, .inl mg)), (m5, .inl (cI, 4, .inl mt)), (m7, .inl (cI, 6, .inl wf)), (m8, .inl (cI, 6, .inl wp)), (m9, .inl (cI, 6, .inl wt)), (m0, .inl (cI, 625, .inl ro)), (m3, .inl (cI, 16, .inl mm)), (m10, .inl (cI, 30, .inl mp)), (m12, .inl (cJ, 40625, .inr (.inl fm12_18))), (m1, .inl (cI, 65, .inl co)), (hy, .inr (10, [.ref m0, .ref m1, .ref m2, .ref m3, .ref m4, .ref m5, .ref m6, .ref m7, .ref m8, .ref m9, .int mw, .int ml, .int mb, .ref m10, .int mz, .ref m11, .int op2_113, .int bp, .int by0, .int dp, .int tk, .ref m12, .ref m13, .ref m14, .ref m15, .ref m16, .ref m17, .ref m18, .int ka, .int iw])), (m11, .inl (cI, 4, .inl tl2_113)), (m2, .inl (cI, 4, .inl ma))] [4, 5, 6, 7, 8, 9, 11, 12, 0, 10, 1, 2, 3] (by decide) rfl ?_
                                        refine x_lv [(8, .int (x8_97 + 1)), (7, .int x7_97), (5, .long (x5_97 + (fm12_18 (Int32.toNatClampNeg (hnF ma mg mt wf wp wt mw ml co ro mm mp mz ((65 * x2_9) + x3_18) x8_97))))), (4, .int ((65 * x2_9) + x3_18)), (3, .int x3_18), (2, .int x2_9), (1, .int x1_3), (0, .ref hy)] [0, 3, 1, 4, 5, 6, 7, 8] rfl ?_
                                        have := t0_
                                        have := t1_
                                        have : (1 : Int32).toInt = 1 := by decide
                                        have := i_add (x := x8_97) (y := 1) (by omega) (by omega)
                                        exact ih_97 (x8_97 + 1) x7_97 (x5_97 + (fm12_18 (Int32.toNatClampNeg (hnF ma mg mt wf wp wt mw ml co ro mm mp mz ((65 * x2_9) + x3_18) x8_97)))) op2_113 tl2_113 ⟨by omega, Or.inr ⟨by omega, q9.2.1, by omega, by first | exact (congrArg (fun z => z + 0) q9.2.2.2).trans (swF_n (nx := fun s => hnF ma mg mt wf wp wt mw ml co ro mm mp mz (65 * x2_9 + x3_18) s) (x := x8_97) (by omega) (by omega) (by omega)).symm | exact (congrArg (fun z => z + _) q9.2.2.2).trans (swF_p (nx := fun s => hnF ma mg mt wf wp wt mw ml co ro mm mp mz (65 * x2_9 + x3_18) s) (x := x8_97) (by omega) (by omega) (ge0 e_122)).symm⟩⟩ (by omega)
                                      · skip
                                        have e_122 : ¬ ((0 : Int32).toInt ≤ (hnF ma mg mt wf wp wt mw ml co ro mm mp mz ((65 * x2_9) + x3_18) x8_97 : Int32).toInt) := fun h => c_122 (i_le.mpr h)
                                        have : (0 : Int32).toInt = 0 := by decide
                                        refine x_lconst C 0 dX10_findHeard_125 (by decide) ?_
                                        refine x_goto C 136 dX10_findHeard_126 (by decide) ?_
                                        refine x_ladd C dX10_findHeard_136 ?_
                                        refine x_lstore C [(5, .long (x5_97 + 0)), (9, .int (hnF ma mg mt wf wp wt mw ml co ro mm mp mz ((65 * x2_9) + x3_18) x8_97)), (8, .int x8_97), (7, .int x7_97), (4, .int ((65 * x2_9) + x3_18)), (3, .int x3_18), (2, .int x2_9), (1, .int x1_3), (0, .ref hy)] dX10_findHeard_137 (by decide) rfl ?_
                                        refine x_iinc C 2 (x8_97 + 1) [(8, .int (x8_97 + 1)), (5, .long (x5_97 + 0)), (9, .int (hnF ma mg mt wf wp wt mw ml co ro mm mp mz ((65 * x2_9) + x3_18) x8_97)), (7, .int x7_97), (4, .int ((65 * x2_9) + x3_18)), (3, .int x3_18), (2, .int x2_9), (1, .int x1_3), (0, .ref hy)] dX10_findHeard_139 rfl rfl (by decide) rfl ?_
                                        refine x_goto C 97 dX10_findHeard_142 (by decide) ?_
                                        refine x_sub [(m4, .inl (cI, 4, .inl mg)), (m5, .inl (cI, 4, .inl mt)), (m7, .inl (cI, 6, .inl wf)), (m8, .inl (cI, 6, .inl wp)), (m9, .inl (cI, 6, .inl wt)), (m0, .inl (cI, 625, .inl ro)), (m3, .inl (cI, 16, .inl mm)), (m10, .inl (cI, 30, .inl mp)), (m12, .inl (cJ, 40625, .inr (.inl fm12_18))), (m1, .inl (cI, 65, .inl co)), (hy, .inr (10, [.ref m0, .ref m1, .ref m2, .ref m3, .ref m4, .ref m5, .ref m6, .ref m7, .ref m8, .ref m9, .int mw, .int ml, .int mb, .ref m10, .int mz, .ref m11, .int op2_113, .int bp, .int by0, .int dp, .int tk, .ref m12, .ref m13, .ref m14, .ref m15, .ref m16, .ref m17, .ref m18, .int ka, .int iw])), (m11, .inl (cI, 4, .inl tl2_113)), (m2, .inl (cI, 4, .inl ma))] [4, 5, 6, 7, 8, 9, 11, 12, 0, 10, 1, 2, 3] (by decide) rfl ?_
                                        refine x_lv [(8, .int (x8_97 + 1)), (7, .int x7_97), (5, .long (x5_97 + 0)), (4, .int ((65 * x2_9) + x3_18)), (3, .int x3_18), (2, .int x2_9), (1, .int x1_3), (0, .ref hy)] [0, 3, 1, 4, 5, 6, 7, 8] rfl ?_
                                        have := t0_
                                        have := t1_
                                        have : (1 : Int32).toInt = 1 := by decide
                                        have := i_add (x := x8_97) (y := 1) (by omega) (by omega)
                                        exact ih_97 (x8_97 + 1) x7_97 (x5_97 + 0) op2_113 tl2_113 ⟨by omega, Or.inr ⟨by omega, q9.2.1, by omega, by first | exact (congrArg (fun z => z + 0) q9.2.2.2).trans (swF_n (nx := fun s => hnF ma mg mt wf wp wt mw ml co ro mm mp mz (65 * x2_9 + x3_18) s) (x := x8_97) (by omega) (by omega) (by omega)).symm | exact (congrArg (fun z => z + _) q9.2.2.2).trans (swF_p (nx := fun s => hnF ma mg mt wf wp wt mw ml co ro mm mp mz (65 * x2_9 + x3_18) s) (x := x8_97) (by omega) (by omega) (ge0 e_122)).symm⟩⟩ (by omega)
                              have := t0_
                              have := t1_
                              have : (0 : Int32).toInt = 0 := by decide
                              have : (1 : Int32).toInt = 1 := by decide
                              exact L_97 _ 0 1 1 (((opS co ((65 * x2_9) + x3_18)))) (((tds ((65 * x2_9) + x3_18)))) ⟨by omega, by first | exact Or.inl ⟨by omega, hd_1 (h_57.t (by omega)) (by omega)⟩ | exact Or.inl ⟨by omega, hd_0 (h_57.f (by omega))⟩ | exact Or.inl ⟨by omega, hd_b (by omega) (by omega)⟩ | exact Or.inr ⟨by omega, h_81.t (by omega), by omega, rfl⟩ | exact Or.inl ⟨by omega, hd_0 (h_81.f (by omega))⟩ | (exfalso; omega)⟩ (Nat.lt_succ_self _)
              have : (0 : Int32).toInt = 0 := by decide
              exact L_18 _ 0 ghy16_9 fm11_9 fm12_9 ⟨by omega, i_9.2.mono (by omega)⟩ (Nat.lt_succ_self _)
        have : (0 : Int32).toInt = 0 := by decide
        exact L_9 _ 0 ghy16_3 fm11_3 fm12_3 ⟨by omega, i_3.2.mono (by omega)⟩ (Nat.lt_succ_self _)
  have : (16 : Int32).toInt = 16 := by decide
  exact L_3 _ 16 op tl wy ⟨by omega, DW.top (by omega)⟩ (Nat.lt_succ_self _)
abbrev rm_X10_heard : Room := { frames := 6, cells := 0, slots := 0, locals := 148 }
set_option maxHeartbeats 4000000 in
set_option maxRecDepth 100000 in
theorem c_X10_heard (l : Launch) (D : va_G) (tys : List (ClassId × FieldType)) {cI cJ cZ cB : ClassId} (hT : Ty tys cI cJ cZ cB) (hy m0 m1 m2 m3 m4 m5 m6 m7 m8 m9 m10 m11 m12 m13 m14 m15 m16 m17 m18 : Nat) (tl ma mg mt wf wp wt ro co mm mp : Nat → Int32) (wy : Nat → Int64) (mw ml mb mz op bp by0 dp tk ka iw : Int32) (hR : RT co ro) (hpa : POk ma) (hmw : 0 ≤ mw.toInt ∧ mw.toInt ≤ 6) (hwt : SOk wt) (hz : 0 ≤ mz.toInt ∧ mz.toInt ≤ 30) : Cn l D tys yX10_heard cX10_heard 1 (some .long) rm_X10_heard [(hy, .inr (10, [.ref m0, .ref m1, .ref m2, .ref m3, .ref m4, .ref m5, .ref m6, .ref m7, .ref m8, .ref m9, .int mw, .int ml, .int mb, .ref m10, .int mz, .ref m11, .int op, .int bp, .int by0, .int dp, .int tk, .ref m12, .ref m13, .ref m14, .ref m15, .ref m16, .ref m17, .ref m18, .int ka, .int iw])), (m11, .inl (cI, 4, .inl tl)), (m2, .inl (cI, 4, .inl ma)), (m4, .inl (cI, 4, .inl mg)), (m5, .inl (cI, 4, .inl mt)), (m7, .inl (cI, 6, .inl wf)), (m8, .inl (cI, 6, .inl wp)), (m9, .inl (cI, 6, .inl wt)), (m0, .inl (cI, 625, .inl ro)), (m1, .inl (cI, 65, .inl co)), (m3, .inl (cI, 16, .inl mm)), (m10, .inl (cI, 30, .inl mp)), (m12, .inl (cJ, 40625, .inr (.inl wy)))] [.ref hy] (fun v W1 => ∃ (r : Int64) (tl2 : Nat → Int32) (op2 : Int32) (wy2 : Nat → Int64), v = some (.long r) ∧ W1 = [(hy, .inr (10, [.ref m0, .ref m1, .ref m2, .ref m3, .ref m4, .ref m5, .ref m6, .ref m7, .ref m8, .ref m9, .int mw, .int ml, .int mb, .ref m10, .int mz, .ref m11, .int op2, .int bp, .int by0, .int dp, .int tk, .ref m12, .ref m13, .ref m14, .ref m15, .ref m16, .ref m17, .ref m18, .int ka, .int iw])), (m11, .inl (cI, 4, .inl tl2)), (m2, .inl (cI, 4, .inl ma)), (m4, .inl (cI, 4, .inl mg)), (m5, .inl (cI, 4, .inl mt)), (m7, .inl (cI, 6, .inl wf)), (m8, .inl (cI, 6, .inl wp)), (m9, .inl (cI, 6, .inl wt)), (m0, .inl (cI, 625, .inl ro)), (m1, .inl (cI, 65, .inl co)), (m3, .inl (cI, 16, .inl mm)), (m10, .inl (cI, 30, .inl mp)), (m12, .inl (cJ, 40625, .inr (.inl wy2)))] ∧ ((¬ rfZ mp 49 57 mz = -6 ∧ r = -5) ∨ (rfZ mp 49 57 mz = -6 ∧ (∀ st : Int32, 0 ≤ st.toInt → st.toInt < 40625 → wy2 st.toNatClampNeg = hdF ma mg mt wf wp wt mw ml co ro mm mp mz wy2 st) ∧ r = wy2 0))) := by
  refine Cn.of (by decide) (Nat.le_of_ble_eq_true rfl) ?_ ?_ (fun X eL eD eT eO eK eN eM C => ?_)
  · intro h; cases h
  · intro v ws h; obtain ⟨_, _, _, _, rfl, rfl, _⟩ := h; rfl
  subst eL eD eT
  show V X 1 [(hy, .inr (10, [.ref m0, .ref m1, .ref m2, .ref m3, .ref m4, .ref m5, .ref m6, .ref m7, .ref m8, .ref m9, .int mw, .int ml, .int mb, .ref m10, .int mz, .ref m11, .int op, .int bp, .int by0, .int dp, .int tk, .ref m12, .ref m13, .ref m14, .ref m15, .ref m16, .ref m17, .ref m18, .int ka, .int iw])), (m11, .inl (cI, 4, .inl tl)), (m2, .inl (cI, 4, .inl ma)), (m4, .inl (cI, 4, .inl mg)), (m5, .inl (cI, 4, .inl mt)), (m7, .inl (cI, 6, .inl wf)), (m8, .inl (cI, 6, .inl wp)), (m9, .inl (cI, 6, .inl wt)), (m0, .inl (cI, 625, .inl ro)), (m1, .inl (cI, 65, .inl co)), (m3, .inl (cI, 16, .inl mm)), (m10, .inl (cI, 30, .inl mp)), (m12, .inl (cJ, 40625, .inr (.inl wy)))] [(0, .ref hy)] [] 0 0 0
  refine x_aload_n C 0 dX10_heard_0 rfl rfl ?_
  refine x_iconst C 2 dX10_heard_1 (by decide) ?_
  refine x_callV C [.int 2] [(m11, .inl (cI, 4, .inl tl)), (m2, .inl (cI, 4, .inl ma)), (m4, .inl (cI, 4, .inl mg)), (m5, .inl (cI, 4, .inl mt)), (m7, .inl (cI, 6, .inl wf)), (m8, .inl (cI, 6, .inl wp)), (m9, .inl (cI, 6, .inl wt)), (m0, .inl (cI, 625, .inl ro)), (m1, .inl (cI, 65, .inl co)), (m3, .inl (cI, 16, .inl mm)), (m12, .inl (cJ, 40625, .inr (.inl wy)))] [0, 11] [1, 2, 3, 4, 5, 6, 7, 8, 9, 10, 12] (q0 := 0) (c_X10_fault (xl X) (xD X) (xt X) hT hy m0 m1 m2 m3 m4 m5 m6 m7 m8 m9 m10 m11 m12 m13 m14 m15 m16 m17 m18 mp mw ml mb mz op bp by0 dp tk ka iw 2 hz) dX10_heard_2 wd_423 wd_202 wd_203 wd_5 wd_204 (np := 1) ⟨by decide, by decide, by decide +kernel⟩ rfl rfl (Nat.le_of_ble_eq_true rfl) (by decide) rfl rfl rfl rfl (by decide) rfl (by decide) (by decide) (fun v W1 h => ?_)
  obtain ⟨r_2, rfl, rfl, h_2⟩ := h
  have : (2 : Int32).toInt = 2 := by decide
  show V X 1 [(m11, .inl (cI, 4, .inl tl)), (m2, .inl (cI, 4, .inl ma)), (m4, .inl (cI, 4, .inl mg)), (m5, .inl (cI, 4, .inl mt)), (m7, .inl (cI, 6, .inl wf)), (m8, .inl (cI, 6, .inl wp)), (m9, .inl (cI, 6, .inl wt)), (m0, .inl (cI, 625, .inl ro)), (m1, .inl (cI, 65, .inl co)), (m3, .inl (cI, 16, .inl mm)), (m12, .inl (cJ, 40625, .inr (.inl wy))), (hy, .inr (10, [.ref m0, .ref m1, .ref m2, .ref m3, .ref m4, .ref m5, .ref m6, .ref m7, .ref m8, .ref m9, .int mw, .int ml, .int mb, .ref m10, .int mz, .ref m11, .int op, .int bp, .int by0, .int dp, .int tk, .ref m12, .ref m13, .ref m14, .ref m15, .ref m16, .ref m17, .ref m18, .int ka, .int iw])), (m10, .inl (cI, 30, .inl mp))] [(0, .ref hy)] [.int r_2] 5 0 0
  refine x_if_lt C 12 dX10_heard_5 (by decide) (fun c_5 => ?_) (fun c_5 => ?_)
  · skip
    have e_5 : (r_2 : Int32).toInt < (0 : Int32).toInt := i_lt.mp c_5
    have : (0 : Int32).toInt = 0 := by decide
    refine x_aload_n C 0 dX10_heard_12 rfl rfl ?_
    refine x_callV C [] [] [11, 0, 1, 2, 3, 4, 5, 6, 7, 8, 9, 12, 10] [] (q0 := 0) (c_X10_findHeard (xl X) (xD X) (xt X) hT hy m0 m1 m2 m3 m4 m5 m6 m7 m8 m9 m10 m11 m12 m13 m14 m15 m16 m17 m18 tl ma mg mt wf wp wt ro co mm mp wy mw ml mb mz op bp by0 dp tk ka iw hR hpa hmw hwt hz) dX10_heard_13 wd_791 wd_792 wd_793 wd_5 wd_794 (np := 0) ⟨by decide, by decide, by decide +kernel⟩ rfl rfl (Nat.le_of_ble_eq_true rfl) (by decide) rfl rfl rfl rfl (by decide) rfl (by decide) (by decide) (fun v W1 h => ?_)
    obtain ⟨tl2_13, op2_13, wy2_13, rfl, rfl, h_13⟩ := h
    show V X 1 [(hy, .inr (10, [.ref m0, .ref m1, .ref m2, .ref m3, .ref m4, .ref m5, .ref m6, .ref m7, .ref m8, .ref m9, .int mw, .int ml, .int mb, .ref m10, .int mz, .ref m11, .int op2_13, .int bp, .int by0, .int dp, .int tk, .ref m12, .ref m13, .ref m14, .ref m15, .ref m16, .ref m17, .ref m18, .int ka, .int iw])), (m11, .inl (cI, 4, .inl tl2_13)), (m2, .inl (cI, 4, .inl ma)), (m4, .inl (cI, 4, .inl mg)), (m5, .inl (cI, 4, .inl mt)), (m7, .inl (cI, 6, .inl wf)), (m8, .inl (cI, 6, .inl wp)), (m9, .inl (cI, 6, .inl wt)), (m0, .inl (cI, 625, .inl ro)), (m1, .inl (cI, 65, .inl co)), (m3, .inl (cI, 16, .inl mm)), (m10, .inl (cI, 30, .inl mp)), (m12, .inl (cJ, 40625, .inr (.inl wy2_13)))] [(0, .ref hy)] [] 16 0 0
    refine x_aload_n C 0 dX10_heard_16 rfl rfl ?_
    refine x_get C 0 21 dX10_heard_17 inlX10 rfl (by decide) wd_135 rfl rfl rfl ?_
    refine x_iconst C 0 dX10_heard_20 (by decide) ?_
    have v_21 : vp_in 0 40625 := (vp_in_iff.mpr (by decide))
    refine x_lald C 12 1 dX10_heard_21 hT.2.1 rfl v_21 ?_
    exact x_lret C dX10_heard_22 (Nat.zero_le _) (Nat.zero_le _) (by rw [eO]; exact ⟨(wy2_13 (Int32.toNatClampNeg 0)), tl2_13, op2_13, wy2_13, rfl, rfl, (Or.inr ⟨rf_m6 (h_2.2.2.1 (by omega)) (by omega), h_13, rfl⟩)⟩)
  · skip
    have e_5 : ¬ ((r_2 : Int32).toInt < (0 : Int32).toInt) := fun h => c_5 (i_lt.mpr h)
    have : (0 : Int32).toInt = 0 := by decide
    refine x_ldc2 C dX10_heard_8 wd_790 ?_
    refine x_sub [(hy, .inr (10, [.ref m0, .ref m1, .ref m2, .ref m3, .ref m4, .ref m5, .ref m6, .ref m7, .ref m8, .ref m9, .int mw, .int ml, .int mb, .ref m10, .int mz, .ref m11, .int op, .int bp, .int by0, .int dp, .int tk, .ref m12, .ref m13, .ref m14, .ref m15, .ref m16, .ref m17, .ref m18, .int ka, .int iw])), (m11, .inl (cI, 4, .inl tl)), (m2, .inl (cI, 4, .inl ma)), (m4, .inl (cI, 4, .inl mg)), (m5, .inl (cI, 4, .inl mt)), (m7, .inl (cI, 6, .inl wf)), (m8, .inl (cI, 6, .inl wp)), (m9, .inl (cI, 6, .inl wt)), (m0, .inl (cI, 625, .inl ro)), (m1, .inl (cI, 65, .inl co)), (m3, .inl (cI, 16, .inl mm)), (m10, .inl (cI, 30, .inl mp)), (m12, .inl (cJ, 40625, .inr (.inl wy)))] [11, 0, 1, 2, 3, 4, 5, 6, 7, 8, 9, 12, 10] (by decide) rfl ?_
    exact x_lret C dX10_heard_11 (Nat.zero_le _) (Nat.zero_le _) (by rw [eO]; exact ⟨((-5)), tl, op, wy, rfl, rfl, (Or.inl ⟨fun h => by have h9 := congrArg Int32.toInt ((h_2.2.2.1 (by omega)).trans h); rw [tm6_] at h9; omega, rfl⟩)⟩)
abbrev rm_X10_first : Room := { frames := 6, cells := 0, slots := 0, locals := 148 }
set_option maxHeartbeats 4000000 in
set_option maxRecDepth 100000 in
theorem c_X10_first (l : Launch) (D : va_G) (tys : List (ClassId × FieldType)) {cI cJ cZ cB : ClassId} (hT : Ty tys cI cJ cZ cB) (hy m0 m1 m2 m3 m4 m5 m6 m7 m8 m9 m10 m11 m12 m13 m14 m15 m16 m17 m18 : Nat) (tl ma mg mt wf wp wt ro co mm mp : Nat → Int32) (wy : Nat → Int64) (mw ml mb mz op bp by0 dp tk ka iw : Int32) (i : Int32) (hR : RT co ro) (hpa : POk ma) (hmw : 0 ≤ mw.toInt ∧ mw.toInt ≤ 6) (hwt : SOk wt) (hz : 0 ≤ mz.toInt ∧ mz.toInt ≤ 30) : Cn l D tys yX10_first cX10_first 6 (some .int) rm_X10_first [(hy, .inr (10, [.ref m0, .ref m1, .ref m2, .ref m3, .ref m4, .ref m5, .ref m6, .ref m7, .ref m8, .ref m9, .int mw, .int ml, .int mb, .ref m10, .int mz, .ref m11, .int op, .int bp, .int by0, .int dp, .int tk, .ref m12, .ref m13, .ref m14, .ref m15, .ref m16, .ref m17, .ref m18, .int ka, .int iw])), (m11, .inl (cI, 4, .inl tl)), (m2, .inl (cI, 4, .inl ma)), (m4, .inl (cI, 4, .inl mg)), (m5, .inl (cI, 4, .inl mt)), (m7, .inl (cI, 6, .inl wf)), (m8, .inl (cI, 6, .inl wp)), (m9, .inl (cI, 6, .inl wt)), (m0, .inl (cI, 625, .inl ro)), (m1, .inl (cI, 65, .inl co)), (m3, .inl (cI, 16, .inl mm)), (m10, .inl (cI, 30, .inl mp)), (m12, .inl (cJ, 40625, .inr (.inl wy)))] [.ref hy, .int i] (fun v W1 => ∃ (r : Int32) (tl2 : Nat → Int32) (op2 : Int32) (wy2 : Nat → Int64), v = some (.int r) ∧ W1 = [(hy, .inr (10, [.ref m0, .ref m1, .ref m2, .ref m3, .ref m4, .ref m5, .ref m6, .ref m7, .ref m8, .ref m9, .int mw, .int ml, .int mb, .ref m10, .int mz, .ref m11, .int op2, .int bp, .int by0, .int dp, .int tk, .ref m12, .ref m13, .ref m14, .ref m15, .ref m16, .ref m17, .ref m18, .int ka, .int iw])), (m11, .inl (cI, 4, .inl tl2)), (m2, .inl (cI, 4, .inl ma)), (m4, .inl (cI, 4, .inl mg)), (m5, .inl (cI, 4, .inl mt)), (m7, .inl (cI, 6, .inl wf)), (m8, .inl (cI, 6, .inl wp)), (m9, .inl (cI, 6, .inl wt)), (m0, .inl (cI, 625, .inl ro)), (m1, .inl (cI, 65, .inl co)), (m3, .inl (cI, 16, .inl mm)), (m10, .inl (cI, 30, .inl mp)), (m12, .inl (cJ, 40625, .inr (.inl wy2)))] ∧ ((¬ rfZ mp 49 57 mz = -6 ∧ r = -5) ∨ (rfZ mp 49 57 mz = -6 ∧ (∀ st : Int32, 0 ≤ st.toInt → st.toInt < 40625 → wy2 st.toNatClampNeg = hdF ma mg mt wf wp wt mw ml co ro mm mp mz wy2 st) ∧ (((wy2 0 = 0 ∨ ¬ (0 ≤ i.toInt ∧ i.toInt < mz.toInt)) ∧ r = -6) ∨ ((¬ wy2 0 = 0 ∧ 0 ≤ i.toInt ∧ i.toInt < mz.toInt) ∧ r = frV (fun st => okR ma mg mt wf wp wt mw ml co ro mm mp mz wy2 st) (fun st s => hnF ma mg mt wf wp wt mw ml co ro mm mp mz st s) i (i.toInt + 1).toNat 0 0))))) := by
  refine Cn.of (by decide) (Nat.le_of_ble_eq_true rfl) ?_ ?_ (fun X eL eD eT eO eK eN eM C => ?_)
  · intro h; cases h
  · intro v ws h; obtain ⟨_, _, _, _, rfl, rfl, _⟩ := h; exact Or.inl rfl
  subst eL eD eT
  show V X 6 [(hy, .inr (10, [.ref m0, .ref m1, .ref m2, .ref m3, .ref m4, .ref m5, .ref m6, .ref m7, .ref m8, .ref m9, .int mw, .int ml, .int mb, .ref m10, .int mz, .ref m11, .int op, .int bp, .int by0, .int dp, .int tk, .ref m12, .ref m13, .ref m14, .ref m15, .ref m16, .ref m17, .ref m18, .int ka, .int iw])), (m11, .inl (cI, 4, .inl tl)), (m2, .inl (cI, 4, .inl ma)), (m4, .inl (cI, 4, .inl mg)), (m5, .inl (cI, 4, .inl mt)), (m7, .inl (cI, 6, .inl wf)), (m8, .inl (cI, 6, .inl wp)), (m9, .inl (cI, 6, .inl wt)), (m0, .inl (cI, 625, .inl ro)), (m1, .inl (cI, 65, .inl co)), (m3, .inl (cI, 16, .inl mm)), (m10, .inl (cI, 30, .inl mp)), (m12, .inl (cJ, 40625, .inr (.inl wy)))] [(0, .ref hy), (1, .int i)] [] 0 0 0
  refine x_aload_n C 0 dX10_first_0 rfl rfl ?_
  refine x_iconst C 2 dX10_first_1 (by decide) ?_
  refine x_callV C [.int 2] [(m11, .inl (cI, 4, .inl tl)), (m2, .inl (cI, 4, .inl ma)), (m4, .inl (cI, 4, .inl mg)), (m5, .inl (cI, 4, .inl mt)), (m7, .inl (cI, 6, .inl wf)), (m8, .inl (cI, 6, .inl wp)), (m9, .inl (cI, 6, .inl wt)), (m0, .inl (cI, 625, .inl ro)), (m1, .inl (cI, 65, .inl co)), (m3, .inl (cI, 16, .inl mm)), (m12, .inl (cJ, 40625, .inr (.inl wy)))] [0, 11] [1, 2, 3, 4, 5, 6, 7, 8, 9, 10, 12] (q0 := 0) (c_X10_fault (xl X) (xD X) (xt X) hT hy m0 m1 m2 m3 m4 m5 m6 m7 m8 m9 m10 m11 m12 m13 m14 m15 m16 m17 m18 mp mw ml mb mz op bp by0 dp tk ka iw 2 hz) dX10_first_2 wd_423 wd_202 wd_203 wd_5 wd_204 (np := 1) ⟨by decide, by decide, by decide +kernel⟩ rfl rfl (Nat.le_of_ble_eq_true rfl) (by decide) rfl rfl rfl rfl (by decide) rfl (by decide) (by decide) (fun v W1 h => ?_)
  obtain ⟨r_2, rfl, rfl, h_2⟩ := h
  have : (2 : Int32).toInt = 2 := by decide
  show V X 6 [(m11, .inl (cI, 4, .inl tl)), (m2, .inl (cI, 4, .inl ma)), (m4, .inl (cI, 4, .inl mg)), (m5, .inl (cI, 4, .inl mt)), (m7, .inl (cI, 6, .inl wf)), (m8, .inl (cI, 6, .inl wp)), (m9, .inl (cI, 6, .inl wt)), (m0, .inl (cI, 625, .inl ro)), (m1, .inl (cI, 65, .inl co)), (m3, .inl (cI, 16, .inl mm)), (m12, .inl (cJ, 40625, .inr (.inl wy))), (hy, .inr (10, [.ref m0, .ref m1, .ref m2, .ref m3, .ref m4, .ref m5, .ref m6, .ref m7, .ref m8, .ref m9, .int mw, .int ml, .int mb, .ref m10, .int mz, .ref m11, .int op, .int bp, .int by0, .int dp, .int tk, .ref m12, .ref m13, .ref m14, .ref m15, .ref m16, .ref m17, .ref m18, .int ka, .int iw])), (m10, .inl (cI, 30, .inl mp))] [(0, .ref hy), (1, .int i)] [.int r_2] 5 0 0
  refine x_if_lt C 11 dX10_first_5 (by decide) (fun c_5 => ?_) (fun c_5 => ?_)
  · skip
    have e_5 : (r_2 : Int32).toInt < (0 : Int32).toInt := i_lt.mp c_5
    have : (0 : Int32).toInt = 0 := by decide
    refine x_aload_n C 0 dX10_first_11 rfl rfl ?_
    refine x_callV C [] [] [11, 0, 1, 2, 3, 4, 5, 6, 7, 8, 9, 12, 10] [] (q0 := 0) (c_X10_findHeard (xl X) (xD X) (xt X) hT hy m0 m1 m2 m3 m4 m5 m6 m7 m8 m9 m10 m11 m12 m13 m14 m15 m16 m17 m18 tl ma mg mt wf wp wt ro co mm mp wy mw ml mb mz op bp by0 dp tk ka iw hR hpa hmw hwt hz) dX10_first_12 wd_791 wd_792 wd_793 wd_5 wd_794 (np := 0) ⟨by decide, by decide, by decide +kernel⟩ rfl rfl (Nat.le_of_ble_eq_true rfl) (by decide) rfl rfl rfl rfl (by decide) rfl (by decide) (by decide) (fun v W1 h => ?_)
    obtain ⟨tl2_12, op2_12, wy2_12, rfl, rfl, h_12⟩ := h
    show V X 6 [(hy, .inr (10, [.ref m0, .ref m1, .ref m2, .ref m3, .ref m4, .ref m5, .ref m6, .ref m7, .ref m8, .ref m9, .int mw, .int ml, .int mb, .ref m10, .int mz, .ref m11, .int op2_12, .int bp, .int by0, .int dp, .int tk, .ref m12, .ref m13, .ref m14, .ref m15, .ref m16, .ref m17, .ref m18, .int ka, .int iw])), (m11, .inl (cI, 4, .inl tl2_12)), (m2, .inl (cI, 4, .inl ma)), (m4, .inl (cI, 4, .inl mg)), (m5, .inl (cI, 4, .inl mt)), (m7, .inl (cI, 6, .inl wf)), (m8, .inl (cI, 6, .inl wp)), (m9, .inl (cI, 6, .inl wt)), (m0, .inl (cI, 625, .inl ro)), (m1, .inl (cI, 65, .inl co)), (m3, .inl (cI, 16, .inl mm)), (m10, .inl (cI, 30, .inl mp)), (m12, .inl (cJ, 40625, .inr (.inl wy2_12)))] [(0, .ref hy), (1, .int i)] [] 15 0 0
    refine x_aload_n C 0 dX10_first_15 rfl rfl ?_
    refine x_get C 0 21 dX10_first_16 inlX10 rfl (by decide) wd_135 rfl rfl rfl ?_
    refine x_iconst C 0 dX10_first_19 (by decide) ?_
    have v_20 : vp_in 0 40625 := (vp_in_iff.mpr (by decide))
    refine x_lald C 12 1 dX10_first_20 hT.2.1 rfl v_20 ?_
    refine x_lconst C 0 dX10_first_21 (by decide) ?_
    refine x_lcmp C dX10_first_22 ?_
    refine x_if_eq C 42 dX10_first_23 (by decide) (fun c_23 => ?_) (fun c_23 => ?_)
    · skip
      have e_23 : ((wy2_12 (Int32.toNatClampNeg 0)) : Int64).toInt = (0 : Int64).toInt := lc_eq.mp c_23
      have : (0 : Int64).toInt = 0 := by decide
      refine x_bipush C (-6) dX10_first_42 (by decide) ?_
      have : ((-6) : Int32).toInt = -6 := by decide
      exact x_iret C dX10_first_44 (Nat.zero_le _) (Nat.zero_le _) (by rw [eO]; exact ⟨((-6)), tl2_12, op2_12, wy2_12, rfl, rfl, (Or.inr ⟨rf_m6 (h_2.2.2.1 (by omega)) (by omega), h_12, Or.inl ⟨Or.inl (Int64.toInt_inj.mp e_23), rfl⟩⟩)⟩)
    · skip
      have e_23 : ¬ (((wy2_12 (Int32.toNatClampNeg 0)) : Int64).toInt = (0 : Int64).toInt) := fun h => c_23 (lc_eq.mpr h)
      have : (0 : Int64).toInt = 0 := by decide
      refine x_iload_n C 1 dX10_first_26 rfl rfl ?_
      refine x_i2l C dX10_first_27 ?_
      refine x_lconst C 0 dX10_first_28 (by decide) ?_
      refine x_aload_n C 0 dX10_first_29 rfl rfl ?_
      refine x_get C 0 14 dX10_first_30 inlX10 rfl (by decide) wd_166 rfl rfl rfl ?_
      refine x_iconst C 1 dX10_first_33 (by decide) ?_
      refine x_isub C dX10_first_34 ?_
      refine x_i2l C dX10_first_35 ?_
      refine x_callS C [.long (Int32.toInt64 i), .long 0, .long (Int32.toInt64 (mz - 1))] [(hy, .inr (10, [.ref m0, .ref m1, .ref m2, .ref m3, .ref m4, .ref m5, .ref m6, .ref m7, .ref m8, .ref m9, .int mw, .int ml, .int mb, .ref m10, .int mz, .ref m11, .int op2_12, .int bp, .int by0, .int dp, .int tk, .ref m12, .ref m13, .ref m14, .ref m15, .ref m16, .ref m17, .ref m18, .int ka, .int iw])), (m11, .inl (cI, 4, .inl tl2_12)), (m2, .inl (cI, 4, .inl ma)), (m4, .inl (cI, 4, .inl mg)), (m5, .inl (cI, 4, .inl mt)), (m7, .inl (cI, 6, .inl wf)), (m8, .inl (cI, 6, .inl wp)), (m9, .inl (cI, 6, .inl wt)), (m0, .inl (cI, 625, .inl ro)), (m1, .inl (cI, 65, .inl co)), (m3, .inl (cI, 16, .inl mm)), (m10, .inl (cI, 30, .inl mp)), (m12, .inl (cJ, 40625, .inr (.inl wy2_12)))] [] [0, 1, 2, 3, 4, 5, 6, 7, 8, 9, 10, 11, 12] (c_X10_in (xl X) (xD X) (xt X) hT (Int32.toInt64 i) 0 (Int32.toInt64 (mz - 1)) ) dX10_first_36 wd_167 wd_168 wd_5 wd_169 (np := 3) ⟨by decide, by decide, by decide +kernel⟩ rfl rfl (Nat.le_of_ble_eq_true rfl) (by decide) rfl (by decide) rfl (by decide) (by decide) (fun v W1 h => ?_)
      obtain ⟨r_36, rfl, rfl, h_36⟩ := h
      have : (Int32.toInt64 i : Int64).toInt = (i : Int32).toInt := Int32.toInt_toInt64 _
      have : (0 : Int64).toInt = 0 := by decide
      have : (Int32.toInt64 (mz - 1) : Int64).toInt = ((mz - 1) : Int32).toInt := Int32.toInt_toInt64 _
      have : (1 : Int32).toInt = 1 := by decide
      have := i_sub (x := mz) (y := 1) (by omega) (by omega)
      show V X 6 [(hy, .inr (10, [.ref m0, .ref m1, .ref m2, .ref m3, .ref m4, .ref m5, .ref m6, .ref m7, .ref m8, .ref m9, .int mw, .int ml, .int mb, .ref m10, .int mz, .ref m11, .int op2_12, .int bp, .int by0, .int dp, .int tk, .ref m12, .ref m13, .ref m14, .ref m15, .ref m16, .ref m17, .ref m18, .int ka, .int iw])), (m11, .inl (cI, 4, .inl tl2_12)), (m2, .inl (cI, 4, .inl ma)), (m4, .inl (cI, 4, .inl mg)), (m5, .inl (cI, 4, .inl mt)), (m7, .inl (cI, 6, .inl wf)), (m8, .inl (cI, 6, .inl wp)), (m9, .inl (cI, 6, .inl wt)), (m0, .inl (cI, 625, .inl ro)), (m1, .inl (cI, 65, .inl co)), (m3, .inl (cI, 16, .inl mm)), (m10, .inl (cI, 30, .inl mp)), (m12, .inl (cJ, 40625, .inr (.inl wy2_12)))] [(0, .ref hy), (1, .int i)] [.int r_36] 39 0 0
      refine x_if_ne C 45 dX10_first_39 (by decide) (fun c_39 => ?_) (fun c_39 => ?_)
      · skip
        have e_39 : ¬ ((r_36 : Int32).toInt = (0 : Int32).toInt) := fun h => c_39 (i_eq.mpr h)
        have : (0 : Int32).toInt = 0 := by decide
        have := t0_
        refine x_iconst C 0 dX10_first_45 (by decide) ?_
        refine x_istore_n C [(2, .int 0), (0, .ref hy), (1, .int i)] dX10_first_46 rfl (by decide) rfl ?_
        refine x_iconst C 0 dX10_first_47 (by decide) ?_
        refine x_istore_n C [(3, .int 0), (2, .int 0), (0, .ref hy), (1, .int i)] dX10_first_48 rfl (by decide) rfl ?_
        refine x_iconst C 0 dX10_first_49 (by decide) ?_
        refine x_istore C [(4, .int 0), (3, .int 0), (2, .int 0), (0, .ref hy), (1, .int i)] dX10_first_50 (by decide) rfl ?_
        have L_52 : ∀ (n_52 : Nat) (x4_52 : Int32) (x3_52 : Int32) (x2_52 : Int32) (ghy16_52 : Int32) (fm11_52 : Nat → Int32), ((((0 ≤ x4_52.toInt ∧ x4_52.toInt ≤ i.toInt + 1) ∧ 0 ≤ x2_52.toInt ∧ x2_52.toInt < 40625) ∧ sm x2_52 = x4_52.toInt ∧ ¬ (wy2_12 (Int32.toNatClampNeg x2_52)).toInt = 0) ∧ FRI (fun st => okR ma mg mt wf wp wt mw ml co ro mm mp mz wy2_12 st) (fun st s => hnF ma mg mt wf wp wt mw ml co ro mm mp mz st s) i (frV (fun st => okR ma mg mt wf wp wt mw ml co ro mm mp mz wy2_12 st) (fun st s => hnF ma mg mt wf wp wt mw ml co ro mm mp mz st s) i (i.toInt + 1).toNat 0 0) x2_52 x3_52 x4_52) → ((i.toInt + 1 - x4_52.toInt).toNat < n_52) → V X 6 [(hy, .inr (10, [.ref m0, .ref m1, .ref m2, .ref m3, .ref m4, .ref m5, .ref m6, .ref m7, .ref m8, .ref m9, .int mw, .int ml, .int mb, .ref m10, .int mz, .ref m11, .int ghy16_52, .int bp, .int by0, .int dp, .int tk, .ref m12, .ref m13, .ref m14, .ref m15, .ref m16, .ref m17, .ref m18, .int ka, .int iw])), (m11, .inl (cI, 4, .inl fm11_52)), (m2, .inl (cI, 4, .inl ma)), (m4, .inl (cI, 4, .inl mg)), (m5, .inl (cI, 4, .inl mt)), (m7, .inl (cI, 6, .inl wf)), (m8, .inl (cI, 6, .inl wp)), (m9, .inl (cI, 6, .inl wt)), (m0, .inl (cI, 625, .inl ro)), (m1, .inl (cI, 65, .inl co)), (m3, .inl (cI, 16, .inl mm)), (m10, .inl (cI, 30, .inl mp)), (m12, .inl (cJ, 40625, .inr (.inl wy2_12)))] [(4, .int x4_52), (3, .int x3_52), (2, .int x2_52), (0, .ref hy), (1, .int i)] [] 52 0 0 := by
          intro n_52
          induction n_52 with
          | zero =>
            intro x4_52 x3_52 x2_52 ghy16_52 fm11_52 i_52 m_52
            exact absurd m_52 (Nat.not_lt_zero _)
          | succ n_52 ih_52 =>
            intro x4_52 x3_52 x2_52 ghy16_52 fm11_52 i_52 m_52
            refine x_iload C 0 dX10_first_52 rfl ?_
            refine x_iload_n C 4 dX10_first_54 rfl rfl ?_
            refine x_icmp_gt C 108 dX10_first_55 (by decide) (fun c_55 => ?_) (fun c_55 => ?_)
            · skip
              have e_55 : (i : Int32).toInt < (x4_52 : Int32).toInt := i_lt.mp c_55
              refine x_bipush C 97 dX10_first_108 (by decide) ?_
              refine x_iload_n C 1 dX10_first_110 rfl rfl ?_
              refine x_iadd C dX10_first_111 ?_
              exact x_iret C dX10_first_112 (Nat.zero_le _) (Nat.zero_le _) (by rw [eO]; exact ⟨(97 + x3_52), fm11_52, ghy16_52, wy2_12, rfl, rfl, (Or.inr ⟨rf_m6 (h_2.2.2.1 (by omega)) (by omega), h_12, Or.inr ⟨⟨fun h => e_23 (by rw [show wy2_12 (Int32.toNatClampNeg 0) = wy2_12 0 from rfl, h]), by omega, by omega⟩, i_52.2.out (by omega)⟩⟩)⟩)
            · skip
              have e_55 : ¬ ((i : Int32).toInt < (x4_52 : Int32).toInt) := fun h => c_55 (i_lt.mpr h)
              have cb9 := hd_cb (h_12 x2_52 (by omega) (by omega)) i_52.1.2.2
              have g9 := cb9.gd hpa hR.1 (show 0 ≤ x2_52.toInt by omega)
              have d9 := hd_ex (h_12 x2_52 (by omega) (by omega)) i_52.1.2.2 (by omega)
              refine x_iconst C 0 dX10_first_58 (by decide) ?_
              refine x_istore_n C [(3, .int 0), (4, .int x4_52), (2, .int x2_52), (0, .ref hy), (1, .int i)] dX10_first_59 rfl (by decide) rfl ?_
              refine x_aload_n C 3 dX10_first_60 rfl rfl ?_
              refine x_iload_n C 2 dX10_first_61 rfl rfl ?_
              refine x_iload_n C 0 dX10_first_62 rfl rfl ?_
              refine x_callV C [.int x2_52, .int 0] [(m12, .inl (cJ, 40625, .inr (.inl wy2_12)))] [0, 1, 2, 3, 4, 5, 6, 7, 8, 9, 10, 11] [12] (q0 := 0) (c_X10_heardNext (xl X) (xD X) (xt X) hT hy m0 m1 m2 m3 m4 m5 m6 m7 m8 m9 m10 m11 m12 m13 m14 m15 m16 m17 m18 fm11_52 ma mg mt wf wp wt ro co mm mp mw ml mb mz ghy16_52 bp by0 dp tk ka iw x2_52 0 (by omega) hR g9 (by omega) hmw hwt hz) dX10_first_63 wd_795 wd_796 wd_797 wd_5 wd_798 (np := 2) ⟨by decide, by decide, by decide +kernel⟩ rfl rfl (Nat.le_of_ble_eq_true rfl) (by decide) rfl rfl rfl rfl (by decide) rfl (by decide) (by decide) (fun v W1 h => ?_)
              obtain ⟨tl2_63, op2_63, rfl, rfl, h_63⟩ := h
              have : (0 : Int32).toInt = 0 := by decide
              show V X 6 [(m12, .inl (cJ, 40625, .inr (.inl wy2_12))), (hy, .inr (10, [.ref m0, .ref m1, .ref m2, .ref m3, .ref m4, .ref m5, .ref m6, .ref m7, .ref m8, .ref m9, .int mw, .int ml, .int mb, .ref m10, .int mz, .ref m11, .int op2_63, .int bp, .int by0, .int dp, .int tk, .ref m12, .ref m13, .ref m14, .ref m15, .ref m16, .ref m17, .ref m18, .int ka, .int iw])), (m11, .inl (cI, 4, .inl tl2_63)), (m2, .inl (cI, 4, .inl ma)), (m4, .inl (cI, 4, .inl mg)), (m5, .inl (cI, 4, .inl mt)), (m7, .inl (cI, 6, .inl wf)), (m8, .inl (cI, 6, .inl wp)), (m9, .inl (cI, 6, .inl wt)), (m0, .inl (cI, 625, .inl ro)), (m1, .inl (cI, 65, .inl co)), (m3, .inl (cI, 16, .inl mm)), (m10, .inl (cI, 30, .inl mp))] [(3, .int 0), (4, .int x4_52), (2, .int x2_52), (0, .ref hy), (1, .int i)] [.int (hnF ma mg mt wf wp wt mw ml co ro mm mp mz x2_52 0)] 66 0 0
              refine x_istore C [(5, .int (hnF ma mg mt wf wp wt mw ml co ro mm mp mz x2_52 0)), (3, .int 0), (4, .int x4_52), (2, .int x2_52), (0, .ref hy), (1, .int i)] dX10_first_66 (by decide) rfl ?_
              have L_68 : ∀ (n_68 : Nat) (x5_68 : Int32) (x3_68 : Int32) (ghy16_68 : Int32) (fm11_68 : Nat → Int32), (0 ≤ x3_68.toInt ∧ x5_68 = hnF ma mg mt wf wp wt mw ml co ro mm mp mz x2_52 x3_68 ∧ (∃ y : Int32, x3_68.toInt ≤ y.toInt ∧ y.toInt ≤ 3 ∧ ¬ (hnF ma mg mt wf wp wt mw ml co ro mm mp mz x2_52 y).toInt < 0 ∧ ¬ (wy2_12 (Int32.toNatClampNeg (hnF ma mg mt wf wp wt mw ml co ro mm mp mz x2_52 y))).toInt = 0) ∧ ∀ k : Nat, (k : Int) < x3_68.toInt → okR ma mg mt wf wp wt mw ml co ro mm mp mz wy2_12 x2_52 k = false) → ((4 - x3_68.toInt).toNat < n_68) → V X 6 [(m12, .inl (cJ, 40625, .inr (.inl wy2_12))), (hy, .inr (10, [.ref m0, .ref m1, .ref m2, .ref m3, .ref m4, .ref m5, .ref m6, .ref m7, .ref m8, .ref m9, .int mw, .int ml, .int mb, .ref m10, .int mz, .ref m11, .int ghy16_68, .int bp, .int by0, .int dp, .int tk, .ref m12, .ref m13, .ref m14, .ref m15, .ref m16, .ref m17, .ref m18, .int ka, .int iw])), (m11, .inl (cI, 4, .inl fm11_68)), (m2, .inl (cI, 4, .inl ma)), (m4, .inl (cI, 4, .inl mg)), (m5, .inl (cI, 4, .inl mt)), (m7, .inl (cI, 6, .inl wf)), (m8, .inl (cI, 6, .inl wp)), (m9, .inl (cI, 6, .inl wt)), (m0, .inl (cI, 625, .inl ro)), (m1, .inl (cI, 65, .inl co)), (m3, .inl (cI, 16, .inl mm)), (m10, .inl (cI, 30, .inl mp))] [(5, .int x5_68), (3, .int x3_68), (4, .int x4_52), (2, .int x2_52), (0, .ref hy), (1, .int i)] [] 68 0 0 := by
                intro n_68
                induction n_68 with
                | zero =>
                  intro x5_68 x3_68 ghy16_68 fm11_68 i_68 m_68
                  exact absurd m_68 (Nat.not_lt_zero _)
                | succ n_68 ih_68 =>
                  intro x5_68 x3_68 ghy16_68 fm11_68 i_68 m_68
                  have z9 : x3_68.toInt ≤ 3 := by
                    obtain ⟨y, y1, y2, _⟩ := i_68.2.2.1
                    omega
                  refine x_iload C 0 dX10_first_68 rfl ?_
                  refine x_if_lt C 85 dX10_first_70 (by decide) (fun c_70 => ?_) (fun c_70 => ?_)
                  · skip
                    have e_70 : (x5_68 : Int32).toInt < (0 : Int32).toInt := i_lt.mp c_70
                    have : (0 : Int32).toInt = 0 := by decide
                    have e9 : ∃ y : Int32, (x3_68 + 1).toInt ≤ y.toInt ∧ y.toInt ≤ 3 ∧ ¬ (hnF ma mg mt wf wp wt mw ml co ro mm mp mz x2_52 y).toInt < 0 ∧ ¬ (wy2_12 (Int32.toNatClampNeg (hnF ma mg mt wf wp wt mw ml co ro mm mp mz x2_52 y))).toInt = 0 := by
                      obtain ⟨y, y1, y2, y3, y4⟩ := i_68.2.2.1
                      refine ⟨y, ?_, y2, y3, y4⟩
                      have : ¬ y.toInt = x3_68.toInt := fun h => by
                        rw [i_eq.mpr h, ← i_68.2.1] at y3 y4
                        omega
                      have := t1_
                      have := i_add (x := x3_68) (y := 1) (by omega) (by omega)
                      omega
                    have z8 : (x3_68 + 1).toInt ≤ 3 := by
                      obtain ⟨y, y1, y2, _⟩ := e9
                      omega
                    have := t1_
                    have := i_add (x := x3_68) (y := 1) (by omega) (by omega)
                    refine x_iinc C 1 (x3_68 + 1) [(3, .int (x3_68 + 1)), (5, .int x5_68), (4, .int x4_52), (2, .int x2_52), (0, .ref hy), (1, .int i)] dX10_first_85 rfl rfl (by decide) rfl ?_
                    refine x_aload_n C 4 dX10_first_88 rfl rfl ?_
                    refine x_iload_n C 3 dX10_first_89 rfl rfl ?_
                    refine x_iload_n C 0 dX10_first_90 rfl rfl ?_
                    refine x_callV C [.int x2_52, .int (x3_68 + 1)] [(m12, .inl (cJ, 40625, .inr (.inl wy2_12)))] [1, 2, 3, 4, 5, 6, 7, 8, 9, 10, 11, 12] [0] (q0 := 0) (c_X10_heardNext (xl X) (xD X) (xt X) hT hy m0 m1 m2 m3 m4 m5 m6 m7 m8 m9 m10 m11 m12 m13 m14 m15 m16 m17 m18 fm11_68 ma mg mt wf wp wt ro co mm mp mw ml mb mz ghy16_68 bp by0 dp tk ka iw x2_52 (x3_68 + 1) (by omega) hR g9 (by omega) hmw hwt hz) dX10_first_91 wd_795 wd_796 wd_797 wd_5 wd_798 (np := 2) ⟨by decide, by decide, by decide +kernel⟩ rfl rfl (Nat.le_of_ble_eq_true rfl) (by decide) rfl rfl rfl rfl (by decide) rfl (by decide) (by decide) (fun v W1 h => ?_)
                    obtain ⟨tl2_91, op2_91, rfl, rfl, h_91⟩ := h
                    show V X 6 [(m12, .inl (cJ, 40625, .inr (.inl wy2_12))), (hy, .inr (10, [.ref m0, .ref m1, .ref m2, .ref m3, .ref m4, .ref m5, .ref m6, .ref m7, .ref m8, .ref m9, .int mw, .int ml, .int mb, .ref m10, .int mz, .ref m11, .int op2_91, .int bp, .int by0, .int dp, .int tk, .ref m12, .ref m13, .ref m14, .ref m15, .ref m16, .ref m17, .ref m18, .int ka, .int iw])), (m11, .inl (cI, 4, .inl tl2_91)), (m2, .inl (cI, 4, .inl ma)), (m4, .inl (cI, 4, .inl mg)), (m5, .inl (cI, 4, .inl mt)), (m7, .inl (cI, 6, .inl wf)), (m8, .inl (cI, 6, .inl wp)), (m9, .inl (cI, 6, .inl wt)), (m0, .inl (cI, 625, .inl ro)), (m1, .inl (cI, 65, .inl co)), (m3, .inl (cI, 16, .inl mm)), (m10, .inl (cI, 30, .inl mp))] [(3, .int (x3_68 + 1)), (5, .int x5_68), (4, .int x4_52), (2, .int x2_52), (0, .ref hy), (1, .int i)] [.int (hnF ma mg mt wf wp wt mw ml co ro mm mp mz x2_52 (x3_68 + 1))] 94 0 0
                    refine x_istore C [(5, .int (hnF ma mg mt wf wp wt mw ml co ro mm mp mz x2_52 (x3_68 + 1))), (3, .int (x3_68 + 1)), (4, .int x4_52), (2, .int x2_52), (0, .ref hy), (1, .int i)] dX10_first_94 (by decide) rfl ?_
                    refine x_goto C 68 dX10_first_96 (by decide) ?_
                    have : (1 : Int32).toInt = 1 := by decide
                    have := i_add (x := x3_68) (y := 1) (by omega) (by omega)
                    exact ih_68 (hnF ma mg mt wf wp wt mw ml co ro mm mp mz x2_52 (x3_68 + 1)) (x3_68 + 1) op2_91 tl2_91 ⟨by omega, rfl, e9, ok_go i_68.2.2.2 (by omega) (by omega) (by rw [okR, ← nI_sl (x := x3_68) (by omega), ← i_68.2.1]; exact decide_eq_false (fun q => q.1 (by omega)))⟩ (by omega)
                  · skip
                    have e_70 : ¬ ((x5_68 : Int32).toInt < (0 : Int32).toInt) := fun h => c_70 (i_lt.mpr h)
                    have : (0 : Int32).toInt = 0 := by decide
                    have n9 := hn_ok (mg := mg) (mt := mt) (wf := wf) (wp := wp) (wt := wt) (mw := mw) (ml := ml) (mm := mm) (mp := mp) (mz := mz) (s := x3_68) hR (show 0 ≤ x2_52.toInt by omega) g9 (by omega) (by rw [← i_68.2.1]; exact nl0 e_70)
                    rw [← i_68.2.1] at n9
                    have u9 := n9.1
                    have u8 := n9.2.2
                    have u7 := i_52.1.2.1
                    refine x_aload_n C 4 dX10_first_73 rfl rfl ?_
                    refine x_get C 1 21 dX10_first_74 inlX10 rfl (by decide) wd_135 rfl rfl rfl ?_
                    refine x_iload C 0 dX10_first_77 rfl ?_
                    have v_79 : vp_in x5_68 40625 := (vp_in_iff.mpr (by omega))
                    refine x_lald C 0 1 dX10_first_79 hT.2.1 rfl v_79 ?_
                    refine x_lconst C 0 dX10_first_80 (by decide) ?_
                    refine x_lcmp C dX10_first_81 ?_
                    refine x_if_ne C 99 dX10_first_82 (by decide) (fun c_82 => ?_) (fun c_82 => ?_)
                    · skip
                      have e_82 : ¬ (((wy2_12 (Int32.toNatClampNeg x5_68)) : Int64).toInt = (0 : Int64).toInt) := fun h => c_82 (lc_eq.mpr h)
                      have : (0 : Int64).toInt = 0 := by decide
                      have k9 : okR ma mg mt wf wp wt mw ml co ro mm mp mz wy2_12 x2_52 x3_68.toInt.toNat = true := by rw [okR, ← nI_sl (x := x3_68) (by omega), ← i_68.2.1]; exact decide_eq_true ⟨by omega, fun h => e_82 (h.trans l0_.symm)⟩
                      refine x_iload C 0 dX10_first_99 rfl ?_
                      refine x_istore_n C [(2, .int x5_68), (5, .int x5_68), (3, .int x3_68), (4, .int x4_52), (0, .ref hy), (1, .int i)] dX10_first_101 rfl (by decide) rfl ?_
                      refine x_iinc C 3 (x4_52 + 1) [(4, .int (x4_52 + 1)), (2, .int x5_68), (5, .int x5_68), (3, .int x3_68), (0, .ref hy), (1, .int i)] dX10_first_102 rfl rfl (by decide) rfl ?_
                      refine x_goto C 52 dX10_first_105 (by decide) ?_
                      refine x_sub [(hy, .inr (10, [.ref m0, .ref m1, .ref m2, .ref m3, .ref m4, .ref m5, .ref m6, .ref m7, .ref m8, .ref m9, .int mw, .int ml, .int mb, .ref m10, .int mz, .ref m11, .int ghy16_68, .int bp, .int by0, .int dp, .int tk, .ref m12, .ref m13, .ref m14, .ref m15, .ref m16, .ref m17, .ref m18, .int ka, .int iw])), (m11, .inl (cI, 4, .inl fm11_68)), (m2, .inl (cI, 4, .inl ma)), (m4, .inl (cI, 4, .inl mg)), (m5, .inl (cI, 4, .inl mt)), (m7, .inl (cI, 6, .inl wf)), (m8, .inl (cI, 6, .inl wp)), (m9, .inl (cI, 6, .inl wt)), (m0, .inl (cI, 625, .inl ro)), (m1, .inl (cI, 65, .inl co)), (m3, .inl (cI, 16, .inl mm)), (m10, .inl (cI, 30, .inl mp)), (m12, .inl (cJ, 40625, .inr (.inl wy2_12)))] [1, 2, 3, 4, 5, 6, 7, 8, 9, 10, 11, 12, 0] (by decide) rfl ?_
                      refine x_lv [(4, .int (x4_52 + 1)), (3, .int x3_68), (2, .int x5_68), (0, .ref hy), (1, .int i)] [0, 3, 1, 4, 5] rfl ?_
                      have : (1 : Int32).toInt = 1 := by decide
                      have := i_add (x := x4_52) (y := 1) (by omega) (by omega)
                      exact ih_52 (x4_52 + 1) x3_68 x5_68 ghy16_68 fm11_68 ⟨⟨by omega, by omega, by omega⟩, i_52.2.go (by omega) (by omega) rfl (fs4_at (by omega) i_68.2.2.2 k9) i_68.2.1⟩ (by omega)
                    · skip
                      have e_82 : ((wy2_12 (Int32.toNatClampNeg x5_68)) : Int64).toInt = (0 : Int64).toInt := lc_eq.mp c_82
                      have : (0 : Int64).toInt = 0 := by decide
                      have e9 : ∃ y : Int32, (x3_68 + 1).toInt ≤ y.toInt ∧ y.toInt ≤ 3 ∧ ¬ (hnF ma mg mt wf wp wt mw ml co ro mm mp mz x2_52 y).toInt < 0 ∧ ¬ (wy2_12 (Int32.toNatClampNeg (hnF ma mg mt wf wp wt mw ml co ro mm mp mz x2_52 y))).toInt = 0 := by
                        obtain ⟨y, y1, y2, y3, y4⟩ := i_68.2.2.1
                        refine ⟨y, ?_, y2, y3, y4⟩
                        have : ¬ y.toInt = x3_68.toInt := fun h => by
                          rw [i_eq.mpr h, ← i_68.2.1] at y3 y4
                          omega
                        have := t1_
                        have := i_add (x := x3_68) (y := 1) (by omega) (by omega)
                        omega
                      have z8 : (x3_68 + 1).toInt ≤ 3 := by
                        obtain ⟨y, y1, y2, _⟩ := e9
                        omega
                      have := t1_
                      have := i_add (x := x3_68) (y := 1) (by omega) (by omega)
                      refine x_iinc C 1 (x3_68 + 1) [(3, .int (x3_68 + 1)), (5, .int x5_68), (4, .int x4_52), (2, .int x2_52), (0, .ref hy), (1, .int i)] dX10_first_85 rfl rfl (by decide) rfl ?_
                      refine x_aload_n C 4 dX10_first_88 rfl rfl ?_
                      refine x_iload_n C 3 dX10_first_89 rfl rfl ?_
                      refine x_iload_n C 0 dX10_first_90 rfl rfl ?_
                      refine x_callV C [.int x2_52, .int (x3_68 + 1)] [(m12, .inl (cJ, 40625, .inr (.inl wy2_12)))] [1, 2, 3, 4, 5, 6, 7, 8, 9, 10, 11, 12] [0] (q0 := 0) (c_X10_heardNext (xl X) (xD X) (xt X) hT hy m0 m1 m2 m3 m4 m5 m6 m7 m8 m9 m10 m11 m12 m13 m14 m15 m16 m17 m18 fm11_68 ma mg mt wf wp wt ro co mm mp mw ml mb mz ghy16_68 bp by0 dp tk ka iw x2_52 (x3_68 + 1) (by omega) hR g9 (by omega) hmw hwt hz) dX10_first_91 wd_795 wd_796 wd_797 wd_5 wd_798 (np := 2) ⟨by decide, by decide, by decide +kernel⟩ rfl rfl (Nat.le_of_ble_eq_true rfl) (by decide) rfl rfl rfl rfl (by decide) rfl (by decide) (by decide) (fun v W1 h => ?_)
                      obtain ⟨tl2_91, op2_91, rfl, rfl, h_91⟩ := h
                      show V X 6 [(m12, .inl (cJ, 40625, .inr (.inl wy2_12))), (hy, .inr (10, [.ref m0, .ref m1, .ref m2, .ref m3, .ref m4, .ref m5, .ref m6, .ref m7, .ref m8, .ref m9, .int mw, .int ml, .int mb, .ref m10, .int mz, .ref m11, .int op2_91, .int bp, .int by0, .int dp, .int tk, .ref m12, .ref m13, .ref m14, .ref m15, .ref m16, .ref m17, .ref m18, .int ka, .int iw])), (m11, .inl (cI, 4, .inl tl2_91)), (m2, .inl (cI, 4, .inl ma)), (m4, .inl (cI, 4, .inl mg)), (m5, .inl (cI, 4, .inl mt)), (m7, .inl (cI, 6, .inl wf)), (m8, .inl (cI, 6, .inl wp)), (m9, .inl (cI, 6, .inl wt)), (m0, .inl (cI, 625, .inl ro)), (m1, .inl (cI, 65, .inl co)), (m3, .inl (cI, 16, .inl mm)), (m10, .inl (cI, 30, .inl mp))] [(3, .int (x3_68 + 1)), (5, .int x5_68), (4, .int x4_52), (2, .int x2_52), (0, .ref hy), (1, .int i)] [.int (hnF ma mg mt wf wp wt mw ml co ro mm mp mz x2_52 (x3_68 + 1))] 94 0 0
                      refine x_istore C [(5, .int (hnF ma mg mt wf wp wt mw ml co ro mm mp mz x2_52 (x3_68 + 1))), (3, .int (x3_68 + 1)), (4, .int x4_52), (2, .int x2_52), (0, .ref hy), (1, .int i)] dX10_first_94 (by decide) rfl ?_
                      refine x_goto C 68 dX10_first_96 (by decide) ?_
                      have : (1 : Int32).toInt = 1 := by decide
                      have := i_add (x := x3_68) (y := 1) (by omega) (by omega)
                      exact ih_68 (hnF ma mg mt wf wp wt mw ml co ro mm mp mz x2_52 (x3_68 + 1)) (x3_68 + 1) op2_91 tl2_91 ⟨by omega, rfl, e9, ok_go i_68.2.2.2 (by omega) (by omega) (by rw [okR, ← nI_sl (x := x3_68) (by omega), ← i_68.2.1]; exact decide_eq_false (fun q => q.2 (e_82.trans l0_)))⟩ (by omega)
              have : (0 : Int32).toInt = 0 := by decide
              exact L_68 _ (hnF ma mg mt wf wp wt mw ml co ro mm mp mz x2_52 0) 0 op2_63 tl2_63 ⟨by omega, rfl, d9, fun k hk => by exfalso; omega⟩ (Nat.lt_succ_self _)
        have : (0 : Int32).toInt = 0 := by decide
        have : (0 : Int32).toInt = 0 := by decide
        have : (0 : Int32).toInt = 0 := by decide
        exact L_52 _ 0 0 0 op2_12 tl2_12 ⟨⟨by omega, by rw [sm_fs (by omega), t0_]; rfl, by omega⟩, FRI.z (by omega)⟩ (Nat.lt_succ_self _)
      · skip
        have e_39 : (r_36 : Int32).toInt = (0 : Int32).toInt := i_eq.mp c_39
        have : (0 : Int32).toInt = 0 := by decide
        refine x_bipush C (-6) dX10_first_42 (by decide) ?_
        have : ((-6) : Int32).toInt = -6 := by decide
        exact x_iret C dX10_first_44 (Nat.zero_le _) (Nat.zero_le _) (by rw [eO]; exact ⟨((-6)), tl2_12, op2_12, wy2_12, rfl, rfl, (Or.inr ⟨rf_m6 (h_2.2.2.1 (by omega)) (by omega), h_12, Or.inl ⟨Or.inr (by omega), rfl⟩⟩)⟩)
  · skip
    have e_5 : ¬ ((r_2 : Int32).toInt < (0 : Int32).toInt) := fun h => c_5 (i_lt.mpr h)
    have : (0 : Int32).toInt = 0 := by decide
    refine x_bipush C (-5) dX10_first_8 (by decide) ?_
    refine x_sub [(hy, .inr (10, [.ref m0, .ref m1, .ref m2, .ref m3, .ref m4, .ref m5, .ref m6, .ref m7, .ref m8, .ref m9, .int mw, .int ml, .int mb, .ref m10, .int mz, .ref m11, .int op, .int bp, .int by0, .int dp, .int tk, .ref m12, .ref m13, .ref m14, .ref m15, .ref m16, .ref m17, .ref m18, .int ka, .int iw])), (m11, .inl (cI, 4, .inl tl)), (m2, .inl (cI, 4, .inl ma)), (m4, .inl (cI, 4, .inl mg)), (m5, .inl (cI, 4, .inl mt)), (m7, .inl (cI, 6, .inl wf)), (m8, .inl (cI, 6, .inl wp)), (m9, .inl (cI, 6, .inl wt)), (m0, .inl (cI, 625, .inl ro)), (m1, .inl (cI, 65, .inl co)), (m3, .inl (cI, 16, .inl mm)), (m10, .inl (cI, 30, .inl mp)), (m12, .inl (cJ, 40625, .inr (.inl wy)))] [11, 0, 1, 2, 3, 4, 5, 6, 7, 8, 9, 12, 10] (by decide) rfl ?_
    have : ((-5) : Int32).toInt = -5 := by decide
    exact x_iret C dX10_first_10 (Nat.zero_le _) (Nat.zero_le _) (by rw [eO]; exact ⟨((-5)), tl, op, wy, rfl, rfl, (Or.inl ⟨fun h => by have h9 := congrArg Int32.toInt ((h_2.2.2.1 (by omega)).trans h); rw [tm6_] at h9; omega, rfl⟩)⟩)
abbrev rm_X10_who : Room := { frames := 6, cells := 0, slots := 0, locals := 148 }
set_option maxHeartbeats 4000000 in
set_option maxRecDepth 100000 in
theorem c_X10_who (l : Launch) (D : va_G) (tys : List (ClassId × FieldType)) {cI cJ cZ cB : ClassId} (hT : Ty tys cI cJ cZ cB) (hy m0 m1 m2 m3 m4 m5 m6 m7 m8 m9 m10 m11 m12 m13 m14 m15 m16 m17 m18 : Nat) (tl ma mg mt wf wp wt ro co mm mp ir : Nat → Int32) (wy : Nat → Int64) (mw ml mb mz op bp by0 dp tk ka iw : Int32) (i : Int32) (hR : RT co ro) (hpa : POk ma) (hmw : 0 ≤ mw.toInt ∧ mw.toInt ≤ 6) (hwt : SOk wt) (hz : 0 ≤ mz.toInt ∧ mz.toInt ≤ 30) : Cn l D tys yX10_who cX10_who 9 (some .int) rm_X10_who [(hy, .inr (10, [.ref m0, .ref m1, .ref m2, .ref m3, .ref m4, .ref m5, .ref m6, .ref m7, .ref m8, .ref m9, .int mw, .int ml, .int mb, .ref m10, .int mz, .ref m11, .int op, .int bp, .int by0, .int dp, .int tk, .ref m12, .ref m13, .ref m14, .ref m15, .ref m16, .ref m17, .ref m18, .int ka, .int iw])), (m11, .inl (cI, 4, .inl tl)), (m2, .inl (cI, 4, .inl ma)), (m4, .inl (cI, 4, .inl mg)), (m5, .inl (cI, 4, .inl mt)), (m7, .inl (cI, 6, .inl wf)), (m8, .inl (cI, 6, .inl wp)), (m9, .inl (cI, 6, .inl wt)), (m0, .inl (cI, 625, .inl ro)), (m1, .inl (cI, 65, .inl co)), (m3, .inl (cI, 16, .inl mm)), (m10, .inl (cI, 30, .inl mp)), (m12, .inl (cJ, 40625, .inr (.inl wy))), (m13, .inl (cZ, 40625, .inl ir))] [.ref hy, .int i] (fun v W1 => ∃ (r : Int32) (tl2 : Nat → Int32) (op2 : Int32) (wy2 : Nat → Int64) (ir2 : Nat → Int32), v = some (.int r) ∧ W1 = [(hy, .inr (10, [.ref m0, .ref m1, .ref m2, .ref m3, .ref m4, .ref m5, .ref m6, .ref m7, .ref m8, .ref m9, .int mw, .int ml, .int mb, .ref m10, .int mz, .ref m11, .int op2, .int bp, .int by0, .int dp, .int tk, .ref m12, .ref m13, .ref m14, .ref m15, .ref m16, .ref m17, .ref m18, .int ka, .int iw])), (m11, .inl (cI, 4, .inl tl2)), (m2, .inl (cI, 4, .inl ma)), (m4, .inl (cI, 4, .inl mg)), (m5, .inl (cI, 4, .inl mt)), (m7, .inl (cI, 6, .inl wf)), (m8, .inl (cI, 6, .inl wp)), (m9, .inl (cI, 6, .inl wt)), (m0, .inl (cI, 625, .inl ro)), (m1, .inl (cI, 65, .inl co)), (m3, .inl (cI, 16, .inl mm)), (m10, .inl (cI, 30, .inl mp)), (m12, .inl (cJ, 40625, .inr (.inl wy2))), (m13, .inl (cZ, 40625, .inl ir2))] ∧ (True)) := by
  refine Cn.of (by decide) (Nat.le_of_ble_eq_true rfl) ?_ ?_ (fun X eL eD eT eO eK eN eM C => ?_)
  · intro h; cases h
  · intro v ws h; obtain ⟨_, _, _, _, _, rfl, rfl, _⟩ := h; exact Or.inl rfl
  subst eL eD eT
  show V X 9 [(hy, .inr (10, [.ref m0, .ref m1, .ref m2, .ref m3, .ref m4, .ref m5, .ref m6, .ref m7, .ref m8, .ref m9, .int mw, .int ml, .int mb, .ref m10, .int mz, .ref m11, .int op, .int bp, .int by0, .int dp, .int tk, .ref m12, .ref m13, .ref m14, .ref m15, .ref m16, .ref m17, .ref m18, .int ka, .int iw])), (m11, .inl (cI, 4, .inl tl)), (m2, .inl (cI, 4, .inl ma)), (m4, .inl (cI, 4, .inl mg)), (m5, .inl (cI, 4, .inl mt)), (m7, .inl (cI, 6, .inl wf)), (m8, .inl (cI, 6, .inl wp)), (m9, .inl (cI, 6, .inl wt)), (m0, .inl (cI, 625, .inl ro)), (m1, .inl (cI, 65, .inl co)), (m3, .inl (cI, 16, .inl mm)), (m10, .inl (cI, 30, .inl mp)), (m12, .inl (cJ, 40625, .inr (.inl wy))), (m13, .inl (cZ, 40625, .inl ir))] [(0, .ref hy), (1, .int i)] [] 0 0 0
  refine x_aload_n C 0 dX10_who_0 rfl rfl ?_
  refine x_iconst C 2 dX10_who_1 (by decide) ?_
  refine x_callV C [.int 2] [(m11, .inl (cI, 4, .inl tl)), (m2, .inl (cI, 4, .inl ma)), (m4, .inl (cI, 4, .inl mg)), (m5, .inl (cI, 4, .inl mt)), (m7, .inl (cI, 6, .inl wf)), (m8, .inl (cI, 6, .inl wp)), (m9, .inl (cI, 6, .inl wt)), (m0, .inl (cI, 625, .inl ro)), (m1, .inl (cI, 65, .inl co)), (m3, .inl (cI, 16, .inl mm)), (m12, .inl (cJ, 40625, .inr (.inl wy))), (m13, .inl (cZ, 40625, .inl ir))] [0, 11] [1, 2, 3, 4, 5, 6, 7, 8, 9, 10, 12, 13] (q0 := 0) (c_X10_fault (xl X) (xD X) (xt X) hT hy m0 m1 m2 m3 m4 m5 m6 m7 m8 m9 m10 m11 m12 m13 m14 m15 m16 m17 m18 mp mw ml mb mz op bp by0 dp tk ka iw 2 hz) dX10_who_2 wd_423 wd_202 wd_203 wd_5 wd_204 (np := 1) ⟨by decide, by decide, by decide +kernel⟩ rfl rfl (Nat.le_of_ble_eq_true rfl) (by decide) rfl rfl rfl rfl (by decide) rfl (by decide) (by decide) (fun v W1 h => ?_)
  obtain ⟨r_2, rfl, rfl, h_2⟩ := h
  have : (2 : Int32).toInt = 2 := by decide
  show V X 9 [(m11, .inl (cI, 4, .inl tl)), (m2, .inl (cI, 4, .inl ma)), (m4, .inl (cI, 4, .inl mg)), (m5, .inl (cI, 4, .inl mt)), (m7, .inl (cI, 6, .inl wf)), (m8, .inl (cI, 6, .inl wp)), (m9, .inl (cI, 6, .inl wt)), (m0, .inl (cI, 625, .inl ro)), (m1, .inl (cI, 65, .inl co)), (m3, .inl (cI, 16, .inl mm)), (m12, .inl (cJ, 40625, .inr (.inl wy))), (m13, .inl (cZ, 40625, .inl ir)), (hy, .inr (10, [.ref m0, .ref m1, .ref m2, .ref m3, .ref m4, .ref m5, .ref m6, .ref m7, .ref m8, .ref m9, .int mw, .int ml, .int mb, .ref m10, .int mz, .ref m11, .int op, .int bp, .int by0, .int dp, .int tk, .ref m12, .ref m13, .ref m14, .ref m15, .ref m16, .ref m17, .ref m18, .int ka, .int iw])), (m10, .inl (cI, 30, .inl mp))] [(0, .ref hy), (1, .int i)] [.int r_2] 5 0 0
  refine x_if_lt C 11 dX10_who_5 (by decide) (fun c_5 => ?_) (fun c_5 => ?_)
  · skip
    have e_5 : (r_2 : Int32).toInt < (0 : Int32).toInt := i_lt.mp c_5
    have : (0 : Int32).toInt = 0 := by decide
    refine x_iload_n C 1 dX10_who_11 rfl rfl ?_
    refine x_i2l C dX10_who_12 ?_
    refine x_lconst C 0 dX10_who_13 (by decide) ?_
    refine x_aload_n C 0 dX10_who_14 rfl rfl ?_
    refine x_get C 12 14 dX10_who_15 inlX10 rfl (by decide) wd_166 rfl rfl rfl ?_
    refine x_iconst C 1 dX10_who_18 (by decide) ?_
    refine x_isub C dX10_who_19 ?_
    refine x_i2l C dX10_who_20 ?_
    refine x_callS C [.long (Int32.toInt64 i), .long 0, .long (Int32.toInt64 (mz - 1))] [(m11, .inl (cI, 4, .inl tl)), (m2, .inl (cI, 4, .inl ma)), (m4, .inl (cI, 4, .inl mg)), (m5, .inl (cI, 4, .inl mt)), (m7, .inl (cI, 6, .inl wf)), (m8, .inl (cI, 6, .inl wp)), (m9, .inl (cI, 6, .inl wt)), (m0, .inl (cI, 625, .inl ro)), (m1, .inl (cI, 65, .inl co)), (m3, .inl (cI, 16, .inl mm)), (m12, .inl (cJ, 40625, .inr (.inl wy))), (m13, .inl (cZ, 40625, .inl ir)), (hy, .inr (10, [.ref m0, .ref m1, .ref m2, .ref m3, .ref m4, .ref m5, .ref m6, .ref m7, .ref m8, .ref m9, .int mw, .int ml, .int mb, .ref m10, .int mz, .ref m11, .int op, .int bp, .int by0, .int dp, .int tk, .ref m12, .ref m13, .ref m14, .ref m15, .ref m16, .ref m17, .ref m18, .int ka, .int iw])), (m10, .inl (cI, 30, .inl mp))] [] [0, 1, 2, 3, 4, 5, 6, 7, 8, 9, 10, 11, 12, 13] (c_X10_in (xl X) (xD X) (xt X) hT (Int32.toInt64 i) 0 (Int32.toInt64 (mz - 1)) ) dX10_who_21 wd_167 wd_168 wd_5 wd_169 (np := 3) ⟨by decide, by decide, by decide +kernel⟩ rfl rfl (Nat.le_of_ble_eq_true rfl) (by decide) rfl (by decide) rfl (by decide) (by decide) (fun v W1 h => ?_)
    obtain ⟨r_21, rfl, rfl, h_21⟩ := h
    have : (Int32.toInt64 i : Int64).toInt = (i : Int32).toInt := Int32.toInt_toInt64 _
    have : (0 : Int64).toInt = 0 := by decide
    have : (Int32.toInt64 (mz - 1) : Int64).toInt = ((mz - 1) : Int32).toInt := Int32.toInt_toInt64 _
    have : (1 : Int32).toInt = 1 := by decide
    have := i_sub (x := mz) (y := 1) (by omega) (by omega)
    show V X 9 [(m11, .inl (cI, 4, .inl tl)), (m2, .inl (cI, 4, .inl ma)), (m4, .inl (cI, 4, .inl mg)), (m5, .inl (cI, 4, .inl mt)), (m7, .inl (cI, 6, .inl wf)), (m8, .inl (cI, 6, .inl wp)), (m9, .inl (cI, 6, .inl wt)), (m0, .inl (cI, 625, .inl ro)), (m1, .inl (cI, 65, .inl co)), (m3, .inl (cI, 16, .inl mm)), (m12, .inl (cJ, 40625, .inr (.inl wy))), (m13, .inl (cZ, 40625, .inl ir)), (hy, .inr (10, [.ref m0, .ref m1, .ref m2, .ref m3, .ref m4, .ref m5, .ref m6, .ref m7, .ref m8, .ref m9, .int mw, .int ml, .int mb, .ref m10, .int mz, .ref m11, .int op, .int bp, .int by0, .int dp, .int tk, .ref m12, .ref m13, .ref m14, .ref m15, .ref m16, .ref m17, .ref m18, .int ka, .int iw])), (m10, .inl (cI, 30, .inl mp))] [(0, .ref hy), (1, .int i)] [.int r_21] 24 0 0
    refine x_if_ne C 30 dX10_who_24 (by decide) (fun c_24 => ?_) (fun c_24 => ?_)
    · skip
      have e_24 : ¬ ((r_21 : Int32).toInt = (0 : Int32).toInt) := fun h => c_24 (i_eq.mpr h)
      have : (0 : Int32).toInt = 0 := by decide
      refine x_aload_n C 0 dX10_who_30 rfl rfl ?_
      refine x_callV C [] [(m13, .inl (cZ, 40625, .inl ir))] [12, 0, 1, 2, 3, 4, 5, 6, 7, 8, 9, 13, 10] [11] (q0 := 0) (c_X10_findHeard (xl X) (xD X) (xt X) hT hy m0 m1 m2 m3 m4 m5 m6 m7 m8 m9 m10 m11 m12 m13 m14 m15 m16 m17 m18 tl ma mg mt wf wp wt ro co mm mp wy mw ml mb mz op bp by0 dp tk ka iw hR hpa hmw hwt hz) dX10_who_31 wd_791 wd_792 wd_793 wd_5 wd_794 (np := 0) ⟨by decide, by decide, by decide +kernel⟩ rfl rfl (Nat.le_of_ble_eq_true rfl) (by decide) rfl rfl rfl rfl (by decide) rfl (by decide) (by decide) (fun v W1 h => ?_)
      obtain ⟨tl2_31, op2_31, wy2_31, rfl, rfl, h_31⟩ := h
      show V X 9 [(m13, .inl (cZ, 40625, .inl ir)), (hy, .inr (10, [.ref m0, .ref m1, .ref m2, .ref m3, .ref m4, .ref m5, .ref m6, .ref m7, .ref m8, .ref m9, .int mw, .int ml, .int mb, .ref m10, .int mz, .ref m11, .int op2_31, .int bp, .int by0, .int dp, .int tk, .ref m12, .ref m13, .ref m14, .ref m15, .ref m16, .ref m17, .ref m18, .int ka, .int iw])), (m11, .inl (cI, 4, .inl tl2_31)), (m2, .inl (cI, 4, .inl ma)), (m4, .inl (cI, 4, .inl mg)), (m5, .inl (cI, 4, .inl mt)), (m7, .inl (cI, 6, .inl wf)), (m8, .inl (cI, 6, .inl wp)), (m9, .inl (cI, 6, .inl wt)), (m0, .inl (cI, 625, .inl ro)), (m1, .inl (cI, 65, .inl co)), (m3, .inl (cI, 16, .inl mm)), (m10, .inl (cI, 30, .inl mp)), (m12, .inl (cJ, 40625, .inr (.inl wy2_31)))] [(0, .ref hy), (1, .int i)] [] 34 0 0
      refine x_iconst C 0 dX10_who_34 (by decide) ?_
      refine x_istore_n C [(2, .int 0), (0, .ref hy), (1, .int i)] dX10_who_35 rfl (by decide) rfl ?_
      have L_36 : ∀ (n_36 : Nat) (x2_36 : Int32) (fm13_36 : Nat → Int32), ((0 ≤ x2_36.toInt ∧ x2_36.toInt ≤ 40625) ∧ RCH ma co fm13_36 x2_36.toInt) → ((40625 - x2_36.toInt).toNat < n_36) → V X 9 [(m13, .inl (cZ, 40625, .inl fm13_36)), (hy, .inr (10, [.ref m0, .ref m1, .ref m2, .ref m3, .ref m4, .ref m5, .ref m6, .ref m7, .ref m8, .ref m9, .int mw, .int ml, .int mb, .ref m10, .int mz, .ref m11, .int op2_31, .int bp, .int by0, .int dp, .int tk, .ref m12, .ref m13, .ref m14, .ref m15, .ref m16, .ref m17, .ref m18, .int ka, .int iw])), (m11, .inl (cI, 4, .inl tl2_31)), (m2, .inl (cI, 4, .inl ma)), (m4, .inl (cI, 4, .inl mg)), (m5, .inl (cI, 4, .inl mt)), (m7, .inl (cI, 6, .inl wf)), (m8, .inl (cI, 6, .inl wp)), (m9, .inl (cI, 6, .inl wt)), (m0, .inl (cI, 625, .inl ro)), (m1, .inl (cI, 65, .inl co)), (m3, .inl (cI, 16, .inl mm)), (m10, .inl (cI, 30, .inl mp)), (m12, .inl (cJ, 40625, .inr (.inl wy2_31)))] [(2, .int x2_36), (0, .ref hy), (1, .int i)] [] 36 0 0 := by
        intro n_36
        induction n_36 with
        | zero =>
          intro x2_36 fm13_36 i_36 m_36
          exact absurd m_36 (Nat.not_lt_zero _)
        | succ n_36 ih_36 =>
          intro x2_36 fm13_36 i_36 m_36
          refine x_iload_n C 0 dX10_who_36 rfl rfl ?_
          refine x_ldc C dX10_who_37 wd_134 ?_
          refine x_icmp_ge C 63 dX10_who_39 (by decide) (fun c_39 => ?_) (fun c_39 => ?_)
          · skip
            have e_39 : (40625 : Int32).toInt ≤ (x2_36 : Int32).toInt := i_le.mp c_39
            have : (40625 : Int32).toInt = 40625 := by decide
            refine x_iconst C 0 dX10_who_63 (by decide) ?_
            refine x_istore_n C [(2, .int 0), (0, .ref hy), (1, .int i)] dX10_who_64 rfl (by decide) rfl ?_
            refine x_iconst C 0 dX10_who_65 (by decide) ?_
            refine x_istore_n C [(3, .int 0), (2, .int 0), (0, .ref hy), (1, .int i)] dX10_who_66 rfl (by decide) rfl ?_
            have L_67 : ∀ (n_67 : Nat) (x3_67 : Int32) (x2_67 : Int32) (fm13_67 : Nat → Int32) (ghy16_67 : Int32) (fm11_67 : Nat → Int32), ((0 ≤ x3_67.toInt ∧ x3_67.toInt ≤ i.toInt + 1) ∧ RCH ma co fm13_67 40625) → ((i.toInt + 1 - x3_67.toInt).toNat < n_67) → V X 9 [(m13, .inl (cZ, 40625, .inl fm13_67)), (hy, .inr (10, [.ref m0, .ref m1, .ref m2, .ref m3, .ref m4, .ref m5, .ref m6, .ref m7, .ref m8, .ref m9, .int mw, .int ml, .int mb, .ref m10, .int mz, .ref m11, .int ghy16_67, .int bp, .int by0, .int dp, .int tk, .ref m12, .ref m13, .ref m14, .ref m15, .ref m16, .ref m17, .ref m18, .int ka, .int iw])), (m11, .inl (cI, 4, .inl fm11_67)), (m2, .inl (cI, 4, .inl ma)), (m4, .inl (cI, 4, .inl mg)), (m5, .inl (cI, 4, .inl mt)), (m7, .inl (cI, 6, .inl wf)), (m8, .inl (cI, 6, .inl wp)), (m9, .inl (cI, 6, .inl wt)), (m0, .inl (cI, 625, .inl ro)), (m1, .inl (cI, 65, .inl co)), (m3, .inl (cI, 16, .inl mm)), (m10, .inl (cI, 30, .inl mp)), (m12, .inl (cJ, 40625, .inr (.inl wy2_31)))] [(3, .int x3_67), (2, .int x2_67), (0, .ref hy), (1, .int i)] [] 67 0 0 := by
              intro n_67
              induction n_67 with
              | zero =>
                intro x3_67 x2_67 fm13_67 ghy16_67 fm11_67 i_67 m_67
                exact absurd m_67 (Nat.not_lt_zero _)
              | succ n_67 ih_67 =>
                intro x3_67 x2_67 fm13_67 ghy16_67 fm11_67 i_67 m_67
                refine x_iload_n C 0 dX10_who_67 rfl rfl ?_
                refine x_iload_n C 3 dX10_who_68 rfl rfl ?_
                refine x_icmp_gt C 206 dX10_who_69 (by decide) (fun c_69 => ?_) (fun c_69 => ?_)
                · skip
                  have e_69 : (i : Int32).toInt < (x3_67 : Int32).toInt := i_lt.mp c_69
                  refine x_iload_n C 1 dX10_who_206 rfl rfl ?_
                  refine x_sub [(hy, .inr (10, [.ref m0, .ref m1, .ref m2, .ref m3, .ref m4, .ref m5, .ref m6, .ref m7, .ref m8, .ref m9, .int mw, .int ml, .int mb, .ref m10, .int mz, .ref m11, .int ghy16_67, .int bp, .int by0, .int dp, .int tk, .ref m12, .ref m13, .ref m14, .ref m15, .ref m16, .ref m17, .ref m18, .int ka, .int iw])), (m11, .inl (cI, 4, .inl fm11_67)), (m2, .inl (cI, 4, .inl ma)), (m4, .inl (cI, 4, .inl mg)), (m5, .inl (cI, 4, .inl mt)), (m7, .inl (cI, 6, .inl wf)), (m8, .inl (cI, 6, .inl wp)), (m9, .inl (cI, 6, .inl wt)), (m0, .inl (cI, 625, .inl ro)), (m1, .inl (cI, 65, .inl co)), (m3, .inl (cI, 16, .inl mm)), (m10, .inl (cI, 30, .inl mp)), (m12, .inl (cJ, 40625, .inr (.inl wy2_31))), (m13, .inl (cZ, 40625, .inl fm13_67))] [1, 2, 3, 4, 5, 6, 7, 8, 9, 10, 11, 12, 13, 0] (by decide) rfl ?_
                  exact x_iret C dX10_who_207 (Nat.zero_le _) (Nat.zero_le _) (by rw [eO]; exact ⟨x2_67, fm11_67, ghy16_67, wy2_31, fm13_67, rfl, rfl, trivial⟩)
                · skip
                  have e_69 : ¬ ((i : Int32).toInt < (x3_67 : Int32).toInt) := fun h => c_69 (i_lt.mpr h)
                  refine x_iconst C 0 dX10_who_72 (by decide) ?_
                  refine x_istore C [(4, .int 0), (3, .int x3_67), (2, .int x2_67), (0, .ref hy), (1, .int i)] dX10_who_73 (by decide) rfl ?_
                  have L_75 : ∀ (n_75 : Nat) (x4_75 : Int32) (x2_75 : Int32) (fm13_75 : Nat → Int32) (ghy16_75 : Int32) (fm11_75 : Nat → Int32), ((0 ≤ x4_75.toInt ∧ x4_75.toInt ≤ 625) ∧ RCH ma co fm13_75 40625) → ((625 - x4_75.toInt).toNat < n_75) → V X 9 [(m13, .inl (cZ, 40625, .inl fm13_75)), (hy, .inr (10, [.ref m0, .ref m1, .ref m2, .ref m3, .ref m4, .ref m5, .ref m6, .ref m7, .ref m8, .ref m9, .int mw, .int ml, .int mb, .ref m10, .int mz, .ref m11, .int ghy16_75, .int bp, .int by0, .int dp, .int tk, .ref m12, .ref m13, .ref m14, .ref m15, .ref m16, .ref m17, .ref m18, .int ka, .int iw])), (m11, .inl (cI, 4, .inl fm11_75)), (m2, .inl (cI, 4, .inl ma)), (m4, .inl (cI, 4, .inl mg)), (m5, .inl (cI, 4, .inl mt)), (m7, .inl (cI, 6, .inl wf)), (m8, .inl (cI, 6, .inl wp)), (m9, .inl (cI, 6, .inl wt)), (m0, .inl (cI, 625, .inl ro)), (m1, .inl (cI, 65, .inl co)), (m3, .inl (cI, 16, .inl mm)), (m10, .inl (cI, 30, .inl mp)), (m12, .inl (cJ, 40625, .inr (.inl wy2_31)))] [(4, .int x4_75), (3, .int x3_67), (2, .int x2_75), (0, .ref hy), (1, .int i)] [] 75 0 0 := by
                    intro n_75
                    induction n_75 with
                    | zero =>
                      intro x4_75 x2_75 fm13_75 ghy16_75 fm11_75 i_75 m_75
                      exact absurd m_75 (Nat.not_lt_zero _)
                    | succ n_75 ih_75 =>
                      intro x4_75 x2_75 fm13_75 ghy16_75 fm11_75 i_75 m_75
                      refine x_iload C 0 dX10_who_75 rfl ?_
                      refine x_sipush C 625 dX10_who_77 (by decide) ?_
                      refine x_icmp_ge C 200 dX10_who_80 (by decide) (fun c_80 => ?_) (fun c_80 => ?_)
                      · skip
                        have e_80 : (625 : Int32).toInt ≤ (x4_75 : Int32).toInt := i_le.mp c_80
                        have : (625 : Int32).toInt = 625 := by decide
                        refine x_iinc C 1 (x3_67 + 1) [(3, .int (x3_67 + 1)), (4, .int x4_75), (2, .int x2_75), (0, .ref hy), (1, .int i)] dX10_who_200 rfl rfl (by decide) rfl ?_
                        refine x_goto C 67 dX10_who_203 (by decide) ?_
                        refine x_lv [(3, .int (x3_67 + 1)), (2, .int x2_75), (0, .ref hy), (1, .int i)] [0, 2, 3, 4] rfl ?_
                        have : (1 : Int32).toInt = 1 := by decide
                        have := i_add (x := x3_67) (y := 1) (by omega) (by omega)
                        exact ih_67 (x3_67 + 1) x2_75 fm13_75 ghy16_75 fm11_75 ⟨by omega, i_75.2⟩ (by omega)
                      · skip
                        have e_80 : ¬ ((625 : Int32).toInt ≤ (x4_75 : Int32).toInt) := fun h => c_80 (i_le.mpr h)
                        have : (625 : Int32).toInt = 625 := by decide
                        refine x_iconst C 0 dX10_who_83 (by decide) ?_
                        refine x_istore C [(5, .int 0), (4, .int x4_75), (3, .int x3_67), (2, .int x2_75), (0, .ref hy), (1, .int i)] dX10_who_84 (by decide) rfl ?_
                        have L_86 : ∀ (n_86 : Nat) (x5_86 : Int32) (x2_86 : Int32) (fm13_86 : Nat → Int32) (ghy16_86 : Int32) (fm11_86 : Nat → Int32), ((0 ≤ x5_86.toInt ∧ x5_86.toInt ≤ 65) ∧ RCH ma co fm13_86 40625) → ((65 - x5_86.toInt).toNat < n_86) → V X 9 [(m13, .inl (cZ, 40625, .inl fm13_86)), (hy, .inr (10, [.ref m0, .ref m1, .ref m2, .ref m3, .ref m4, .ref m5, .ref m6, .ref m7, .ref m8, .ref m9, .int mw, .int ml, .int mb, .ref m10, .int mz, .ref m11, .int ghy16_86, .int bp, .int by0, .int dp, .int tk, .ref m12, .ref m13, .ref m14, .ref m15, .ref m16, .ref m17, .ref m18, .int ka, .int iw])), (m11, .inl (cI, 4, .inl fm11_86)), (m2, .inl (cI, 4, .inl ma)), (m4, .inl (cI, 4, .inl mg)), (m5, .inl (cI, 4, .inl mt)), (m7, .inl (cI, 6, .inl wf)), (m8, .inl (cI, 6, .inl wp)), (m9, .inl (cI, 6, .inl wt)), (m0, .inl (cI, 625, .inl ro)), (m1, .inl (cI, 65, .inl co)), (m3, .inl (cI, 16, .inl mm)), (m10, .inl (cI, 30, .inl mp)), (m12, .inl (cJ, 40625, .inr (.inl wy2_31)))] [(5, .int x5_86), (4, .int x4_75), (3, .int x3_67), (2, .int x2_86), (0, .ref hy), (1, .int i)] [] 86 0 0 := by
                          intro n_86
                          induction n_86 with
                          | zero =>
                            intro x5_86 x2_86 fm13_86 ghy16_86 fm11_86 i_86 m_86
                            exact absurd m_86 (Nat.not_lt_zero _)
                          | succ n_86 ih_86 =>
                            intro x5_86 x2_86 fm13_86 ghy16_86 fm11_86 i_86 m_86
                            refine x_iload C 0 dX10_who_86 rfl ?_
                            refine x_bipush C 65 dX10_who_88 (by decide) ?_
                            refine x_icmp_ge C 194 dX10_who_90 (by decide) (fun c_90 => ?_) (fun c_90 => ?_)
                            · skip
                              have e_90 : (65 : Int32).toInt ≤ (x5_86 : Int32).toInt := i_le.mp c_90
                              have : (65 : Int32).toInt = 65 := by decide
                              refine x_iinc C 1 (x4_75 + 1) [(4, .int (x4_75 + 1)), (5, .int x5_86), (3, .int x3_67), (2, .int x2_86), (0, .ref hy), (1, .int i)] dX10_who_194 rfl rfl (by decide) rfl ?_
                              refine x_goto C 75 dX10_who_197 (by decide) ?_
                              refine x_lv [(4, .int (x4_75 + 1)), (3, .int x3_67), (2, .int x2_86), (0, .ref hy), (1, .int i)] [0, 2, 3, 4, 5] rfl ?_
                              have : (1 : Int32).toInt = 1 := by decide
                              have := i_add (x := x4_75) (y := 1) (by omega) (by omega)
                              exact ih_75 (x4_75 + 1) x2_86 fm13_86 ghy16_86 fm11_86 ⟨by omega, i_86.2⟩ (by omega)
                            · skip
                              have e_90 : ¬ ((65 : Int32).toInt ≤ (x5_86 : Int32).toInt) := fun h => c_90 (i_le.mpr h)
                              have : (65 : Int32).toInt = 65 := by decide
                              refine x_iload C 1 dX10_who_93 rfl ?_
                              refine x_callS C [.int x4_75] [(m13, .inl (cZ, 40625, .inl fm13_86)), (hy, .inr (10, [.ref m0, .ref m1, .ref m2, .ref m3, .ref m4, .ref m5, .ref m6, .ref m7, .ref m8, .ref m9, .int mw, .int ml, .int mb, .ref m10, .int mz, .ref m11, .int ghy16_86, .int bp, .int by0, .int dp, .int tk, .ref m12, .ref m13, .ref m14, .ref m15, .ref m16, .ref m17, .ref m18, .int ka, .int iw])), (m11, .inl (cI, 4, .inl fm11_86)), (m2, .inl (cI, 4, .inl ma)), (m4, .inl (cI, 4, .inl mg)), (m5, .inl (cI, 4, .inl mt)), (m7, .inl (cI, 6, .inl wf)), (m8, .inl (cI, 6, .inl wp)), (m9, .inl (cI, 6, .inl wt)), (m0, .inl (cI, 625, .inl ro)), (m1, .inl (cI, 65, .inl co)), (m3, .inl (cI, 16, .inl mm)), (m10, .inl (cI, 30, .inl mp)), (m12, .inl (cJ, 40625, .inr (.inl wy2_31)))] [] [0, 1, 2, 3, 4, 5, 6, 7, 8, 9, 10, 11, 12, 13] (c_X10_sumOf (xl X) (xD X) (xt X) hT x4_75 (by omega)) dX10_who_95 wd_572 wd_573 wd_5 wd_574 (np := 1) ⟨by decide, by decide, by decide +kernel⟩ rfl rfl (Nat.le_of_ble_eq_true rfl) (by decide) rfl (by decide) rfl (by decide) (by decide) (fun v W1 h => ?_)
                              obtain ⟨r_95, rfl, rfl, h_95⟩ := h
                              show V X 9 [(m13, .inl (cZ, 40625, .inl fm13_86)), (hy, .inr (10, [.ref m0, .ref m1, .ref m2, .ref m3, .ref m4, .ref m5, .ref m6, .ref m7, .ref m8, .ref m9, .int mw, .int ml, .int mb, .ref m10, .int mz, .ref m11, .int ghy16_86, .int bp, .int by0, .int dp, .int tk, .ref m12, .ref m13, .ref m14, .ref m15, .ref m16, .ref m17, .ref m18, .int ka, .int iw])), (m11, .inl (cI, 4, .inl fm11_86)), (m2, .inl (cI, 4, .inl ma)), (m4, .inl (cI, 4, .inl mg)), (m5, .inl (cI, 4, .inl mt)), (m7, .inl (cI, 6, .inl wf)), (m8, .inl (cI, 6, .inl wp)), (m9, .inl (cI, 6, .inl wt)), (m0, .inl (cI, 625, .inl ro)), (m1, .inl (cI, 65, .inl co)), (m3, .inl (cI, 16, .inl mm)), (m10, .inl (cI, 30, .inl mp)), (m12, .inl (cJ, 40625, .inr (.inl wy2_31)))] [(5, .int x5_86), (4, .int x4_75), (3, .int x3_67), (2, .int x2_86), (0, .ref hy), (1, .int i)] [.int r_95] 98 0 0
                              refine x_iload_n C 2 dX10_who_98 rfl rfl ?_
                              refine x_icmp_ne C 194 dX10_who_99 (by decide) (fun c_99 => ?_) (fun c_99 => ?_)
                              · skip
                                have e_99 : ¬ ((r_95 : Int32).toInt = (x3_67 : Int32).toInt) := fun h => c_99 (i_eq.mpr h)
                                refine x_iinc C 1 (x4_75 + 1) [(4, .int (x4_75 + 1)), (5, .int x5_86), (3, .int x3_67), (2, .int x2_86), (0, .ref hy), (1, .int i)] dX10_who_194 rfl rfl (by decide) rfl ?_
                                refine x_goto C 75 dX10_who_197 (by decide) ?_
                                refine x_lv [(4, .int (x4_75 + 1)), (3, .int x3_67), (2, .int x2_86), (0, .ref hy), (1, .int i)] [0, 2, 3, 4, 5] rfl ?_
                                have : (1 : Int32).toInt = 1 := by decide
                                have := i_add (x := x4_75) (y := 1) (by omega) (by omega)
                                exact ih_75 (x4_75 + 1) x2_86 fm13_86 ghy16_86 fm11_86 ⟨by omega, i_86.2⟩ (by omega)
                              · skip
                                have e_99 : (r_95 : Int32).toInt = (x3_67 : Int32).toInt := i_eq.mp c_99
                                have : (65 : Int32).toInt = 65 := by decide
                                have := i_mull (x := 65) (y := x4_75) (d := 65) (by decide) (by omega) (by omega)
                                have st9 := i_add (x := 65 * x4_75) (y := x5_86) (by omega) (by omega)
                                refine x_bipush C 65 dX10_who_102 (by decide) ?_
                                refine x_iload C 1 dX10_who_104 rfl ?_
                                refine x_imul C dX10_who_106 ?_
                                refine x_iload C 0 dX10_who_107 rfl ?_
                                refine x_iadd C dX10_who_109 ?_
                                refine x_istore C [(6, .int ((65 * x4_75) + x5_86)), (5, .int x5_86), (4, .int x4_75), (3, .int x3_67), (2, .int x2_86), (0, .ref hy), (1, .int i)] dX10_who_110 (by decide) rfl ?_
                                refine x_iconst C 0 dX10_who_112 (by decide) ?_
                                refine x_istore C [(7, .int 0), (6, .int ((65 * x4_75) + x5_86)), (5, .int x5_86), (4, .int x4_75), (3, .int x3_67), (2, .int x2_86), (0, .ref hy), (1, .int i)] dX10_who_113 (by decide) rfl ?_
                                have L_115 : ∀ (n_115 : Nat) (x7_115 : Int32) (x2_115 : Int32) (fm13_115 : Nat → Int32) (ghy16_115 : Int32) (fm11_115 : Nat → Int32), ((0 ≤ x7_115.toInt ∧ x7_115.toInt ≤ 4) ∧ RCH ma co fm13_115 40625) → ((4 - x7_115.toInt).toNat < n_115) → V X 9 [(m13, .inl (cZ, 40625, .inl fm13_115)), (hy, .inr (10, [.ref m0, .ref m1, .ref m2, .ref m3, .ref m4, .ref m5, .ref m6, .ref m7, .ref m8, .ref m9, .int mw, .int ml, .int mb, .ref m10, .int mz, .ref m11, .int ghy16_115, .int bp, .int by0, .int dp, .int tk, .ref m12, .ref m13, .ref m14, .ref m15, .ref m16, .ref m17, .ref m18, .int ka, .int iw])), (m11, .inl (cI, 4, .inl fm11_115)), (m2, .inl (cI, 4, .inl ma)), (m4, .inl (cI, 4, .inl mg)), (m5, .inl (cI, 4, .inl mt)), (m7, .inl (cI, 6, .inl wf)), (m8, .inl (cI, 6, .inl wp)), (m9, .inl (cI, 6, .inl wt)), (m0, .inl (cI, 625, .inl ro)), (m1, .inl (cI, 65, .inl co)), (m3, .inl (cI, 16, .inl mm)), (m10, .inl (cI, 30, .inl mp)), (m12, .inl (cJ, 40625, .inr (.inl wy2_31)))] [(7, .int x7_115), (6, .int ((65 * x4_75) + x5_86)), (5, .int x5_86), (4, .int x4_75), (3, .int x3_67), (2, .int x2_115), (0, .ref hy), (1, .int i)] [] 115 0 0 := by
                                  intro n_115
                                  induction n_115 with
                                  | zero =>
                                    intro x7_115 x2_115 fm13_115 ghy16_115 fm11_115 i_115 m_115
                                    exact absurd m_115 (Nat.not_lt_zero _)
                                  | succ n_115 ih_115 =>
                                    intro x7_115 x2_115 fm13_115 ghy16_115 fm11_115 i_115 m_115
                                    refine x_iload C 0 dX10_who_115 rfl ?_
                                    refine x_iconst C 4 dX10_who_117 (by decide) ?_
                                    refine x_icmp_ge C 188 dX10_who_118 (by decide) (fun c_118 => ?_) (fun c_118 => ?_)
                                    · skip
                                      have e_118 : (4 : Int32).toInt ≤ (x7_115 : Int32).toInt := i_le.mp c_118
                                      have : (4 : Int32).toInt = 4 := by decide
                                      refine x_iinc C 2 (x5_86 + 1) [(5, .int (x5_86 + 1)), (7, .int x7_115), (6, .int ((65 * x4_75) + x5_86)), (4, .int x4_75), (3, .int x3_67), (2, .int x2_115), (0, .ref hy), (1, .int i)] dX10_who_188 rfl rfl (by decide) rfl ?_
                                      refine x_goto C 86 dX10_who_191 (by decide) ?_
                                      refine x_lv [(5, .int (x5_86 + 1)), (4, .int x4_75), (3, .int x3_67), (2, .int x2_115), (0, .ref hy), (1, .int i)] [0, 3, 4, 5, 6, 7] rfl ?_
                                      have : (1 : Int32).toInt = 1 := by decide
                                      have := i_add (x := x5_86) (y := 1) (by omega) (by omega)
                                      exact ih_86 (x5_86 + 1) x2_115 fm13_115 ghy16_115 fm11_115 ⟨by omega, i_115.2⟩ (by omega)
                                    · skip
                                      have e_118 : ¬ ((4 : Int32).toInt ≤ (x7_115 : Int32).toInt) := fun h => c_118 (i_le.mpr h)
                                      have : (4 : Int32).toInt = 4 := by decide
                                      refine x_aload_n C 6 dX10_who_121 rfl rfl ?_
                                      refine x_get C 1 22 dX10_who_122 inlX10 rfl (by decide) wd_136 rfl rfl rfl ?_
                                      refine x_iload C 1 dX10_who_125 rfl ?_
                                      have v_127 : vp_in ((65 * x4_75) + x5_86) 40625 := (vp_in_iff.mpr (by omega))
                                      refine x_zald C 0 2 dX10_who_127 hT.2.2.1 rfl v_127 ?_
                                      refine x_if_eq C 188 dX10_who_128 (by decide) (fun c_128 => ?_) (fun c_128 => ?_)
                                      · skip
                                        have e_128 : (fm13_115 (Int32.toNatClampNeg ((65 * x4_75) + x5_86)) : Int32).toInt = (0 : Int32).toInt := i_eq.mp c_128
                                        have : (0 : Int32).toInt = 0 := by decide
                                        refine x_iinc C 2 (x5_86 + 1) [(5, .int (x5_86 + 1)), (7, .int x7_115), (6, .int ((65 * x4_75) + x5_86)), (4, .int x4_75), (3, .int x3_67), (2, .int x2_115), (0, .ref hy), (1, .int i)] dX10_who_188 rfl rfl (by decide) rfl ?_
                                        refine x_goto C 86 dX10_who_191 (by decide) ?_
                                        refine x_lv [(5, .int (x5_86 + 1)), (4, .int x4_75), (3, .int x3_67), (2, .int x2_115), (0, .ref hy), (1, .int i)] [0, 3, 4, 5, 6, 7] rfl ?_
                                        have : (1 : Int32).toInt = 1 := by decide
                                        have := i_add (x := x5_86) (y := 1) (by omega) (by omega)
                                        exact ih_86 (x5_86 + 1) x2_115 fm13_115 ghy16_115 fm11_115 ⟨by omega, i_115.2⟩ (by omega)
                                      · skip
                                        have e_128 : ¬ ((fm13_115 (Int32.toNatClampNeg ((65 * x4_75) + x5_86)) : Int32).toInt = (0 : Int32).toInt) := fun h => c_128 (i_eq.mpr h)
                                        have : (0 : Int32).toInt = 0 := by decide
                                        have g9 := i_115.2 (65 * x4_75 + x5_86) (by omega) (by omega) (by omega)
                                        refine x_aload_n C 6 dX10_who_131 rfl rfl ?_
                                        refine x_iload C 1 dX10_who_132 rfl ?_
                                        refine x_iload C 0 dX10_who_134 rfl ?_
                                        refine x_callV C [.int ((65 * x4_75) + x5_86), .int x7_115] [(m13, .inl (cZ, 40625, .inl fm13_115)), (m12, .inl (cJ, 40625, .inr (.inl wy2_31)))] [1, 2, 3, 4, 5, 6, 7, 8, 9, 10, 11, 12] [0, 13] (q0 := 0) (c_X10_heardNext (xl X) (xD X) (xt X) hT hy m0 m1 m2 m3 m4 m5 m6 m7 m8 m9 m10 m11 m12 m13 m14 m15 m16 m17 m18 fm11_115 ma mg mt wf wp wt ro co mm mp mw ml mb mz ghy16_115 bp by0 dp tk ka iw ((65 * x4_75) + x5_86) x7_115 (by omega) hR g9 (by omega) hmw hwt hz) dX10_who_136 wd_795 wd_796 wd_797 wd_5 wd_798 (np := 2) ⟨by decide, by decide, by decide +kernel⟩ rfl rfl (Nat.le_of_ble_eq_true rfl) (by decide) rfl rfl rfl rfl (by decide) rfl (by decide) (by decide) (fun v W1 h => ?_)
                                        obtain ⟨tl2_136, op2_136, rfl, rfl, h_136⟩ := h
                                        show V X 9 [(m13, .inl (cZ, 40625, .inl fm13_115)), (m12, .inl (cJ, 40625, .inr (.inl wy2_31))), (hy, .inr (10, [.ref m0, .ref m1, .ref m2, .ref m3, .ref m4, .ref m5, .ref m6, .ref m7, .ref m8, .ref m9, .int mw, .int ml, .int mb, .ref m10, .int mz, .ref m11, .int op2_136, .int bp, .int by0, .int dp, .int tk, .ref m12, .ref m13, .ref m14, .ref m15, .ref m16, .ref m17, .ref m18, .int ka, .int iw])), (m11, .inl (cI, 4, .inl tl2_136)), (m2, .inl (cI, 4, .inl ma)), (m4, .inl (cI, 4, .inl mg)), (m5, .inl (cI, 4, .inl mt)), (m7, .inl (cI, 6, .inl wf)), (m8, .inl (cI, 6, .inl wp)), (m9, .inl (cI, 6, .inl wt)), (m0, .inl (cI, 625, .inl ro)), (m1, .inl (cI, 65, .inl co)), (m3, .inl (cI, 16, .inl mm)), (m10, .inl (cI, 30, .inl mp))] [(7, .int x7_115), (6, .int ((65 * x4_75) + x5_86)), (5, .int x5_86), (4, .int x4_75), (3, .int x3_67), (2, .int x2_115), (0, .ref hy), (1, .int i)] [.int (hnF ma mg mt wf wp wt mw ml co ro mm mp mz ((65 * x4_75) + x5_86) x7_115)] 139 0 0
                                        refine x_istore C [(8, .int (hnF ma mg mt wf wp wt mw ml co ro mm mp mz ((65 * x4_75) + x5_86) x7_115)), (7, .int x7_115), (6, .int ((65 * x4_75) + x5_86)), (5, .int x5_86), (4, .int x4_75), (3, .int x3_67), (2, .int x2_115), (0, .ref hy), (1, .int i)] dX10_who_139 (by decide) rfl ?_
                                        refine x_iload C 0 dX10_who_141 rfl ?_
                                        refine x_if_lt C 182 dX10_who_143 (by decide) (fun c_143 => ?_) (fun c_143 => ?_)
                                        · skip
                                          have e_143 : (hnF ma mg mt wf wp wt mw ml co ro mm mp mz ((65 * x4_75) + x5_86) x7_115 : Int32).toInt < (0 : Int32).toInt := i_lt.mp c_143
                                          have : (0 : Int32).toInt = 0 := by decide
                                          refine x_iinc C 1 (x7_115 + 1) [(7, .int (x7_115 + 1)), (8, .int (hnF ma mg mt wf wp wt mw ml co ro mm mp mz ((65 * x4_75) + x5_86) x7_115)), (6, .int ((65 * x4_75) + x5_86)), (5, .int x5_86), (4, .int x4_75), (3, .int x3_67), (2, .int x2_115), (0, .ref hy), (1, .int i)] dX10_who_182 rfl rfl (by decide) rfl ?_
                                          refine x_goto C 115 dX10_who_185 (by decide) ?_
                                          refine x_sub [(m13, .inl (cZ, 40625, .inl fm13_115)), (hy, .inr (10, [.ref m0, .ref m1, .ref m2, .ref m3, .ref m4, .ref m5, .ref m6, .ref m7, .ref m8, .ref m9, .int mw, .int ml, .int mb, .ref m10, .int mz, .ref m11, .int op2_136, .int bp, .int by0, .int dp, .int tk, .ref m12, .ref m13, .ref m14, .ref m15, .ref m16, .ref m17, .ref m18, .int ka, .int iw])), (m11, .inl (cI, 4, .inl tl2_136)), (m2, .inl (cI, 4, .inl ma)), (m4, .inl (cI, 4, .inl mg)), (m5, .inl (cI, 4, .inl mt)), (m7, .inl (cI, 6, .inl wf)), (m8, .inl (cI, 6, .inl wp)), (m9, .inl (cI, 6, .inl wt)), (m0, .inl (cI, 625, .inl ro)), (m1, .inl (cI, 65, .inl co)), (m3, .inl (cI, 16, .inl mm)), (m10, .inl (cI, 30, .inl mp)), (m12, .inl (cJ, 40625, .inr (.inl wy2_31)))] [0, 2, 3, 4, 5, 6, 7, 8, 9, 10, 11, 12, 13, 1] (by decide) rfl ?_
                                          refine x_lv [(7, .int (x7_115 + 1)), (6, .int ((65 * x4_75) + x5_86)), (5, .int x5_86), (4, .int x4_75), (3, .int x3_67), (2, .int x2_115), (0, .ref hy), (1, .int i)] [0, 2, 3, 4, 5, 6, 7, 8] rfl ?_
                                          have : (1 : Int32).toInt = 1 := by decide
                                          have := i_add (x := x7_115) (y := 1) (by omega) (by omega)
                                          exact ih_115 (x7_115 + 1) x2_115 fm13_115 op2_136 tl2_136 ⟨by omega, i_115.2⟩ (by omega)
                                        · skip
                                          have e_143 : ¬ ((hnF ma mg mt wf wp wt mw ml co ro mm mp mz ((65 * x4_75) + x5_86) x7_115 : Int32).toInt < (0 : Int32).toInt) := fun h => c_143 (i_lt.mpr h)
                                          have : (0 : Int32).toInt = 0 := by decide
                                          have n9 := hn_ok hR (by omega) g9 (by omega) (nl0 e_143)
                                          refine x_aload_n C 7 dX10_who_146 rfl rfl ?_
                                          refine x_get C 2 21 dX10_who_147 inlX10 rfl (by decide) wd_135 rfl rfl rfl ?_
                                          refine x_iload C 0 dX10_who_150 rfl ?_
                                          have v_152 : vp_in (hnF ma mg mt wf wp wt mw ml co ro mm mp mz ((65 * x4_75) + x5_86) x7_115) 40625 := (vp_in_iff.mpr (by omega))
                                          refine x_lald C 1 1 dX10_who_152 hT.2.1 rfl v_152 ?_
                                          refine x_lconst C 0 dX10_who_153 (by decide) ?_
                                          refine x_lcmp C dX10_who_154 ?_
                                          refine x_if_le C 182 dX10_who_155 (by decide) (fun c_155 => ?_) (fun c_155 => ?_)
                                          · skip
                                            have e_155 : ((wy2_31 (Int32.toNatClampNeg (hnF ma mg mt wf wp wt mw ml co ro mm mp mz ((65 * x4_75) + x5_86) x7_115))) : Int64).toInt ≤ (0 : Int64).toInt := lc_le.mp c_155
                                            have : (0 : Int64).toInt = 0 := by decide
                                            refine x_iinc C 1 (x7_115 + 1) [(7, .int (x7_115 + 1)), (8, .int (hnF ma mg mt wf wp wt mw ml co ro mm mp mz ((65 * x4_75) + x5_86) x7_115)), (6, .int ((65 * x4_75) + x5_86)), (5, .int x5_86), (4, .int x4_75), (3, .int x3_67), (2, .int x2_115), (0, .ref hy), (1, .int i)] dX10_who_182 rfl rfl (by decide) rfl ?_
                                            refine x_goto C 115 dX10_who_185 (by decide) ?_
                                            refine x_sub [(m13, .inl (cZ, 40625, .inl fm13_115)), (hy, .inr (10, [.ref m0, .ref m1, .ref m2, .ref m3, .ref m4, .ref m5, .ref m6, .ref m7, .ref m8, .ref m9, .int mw, .int ml, .int mb, .ref m10, .int mz, .ref m11, .int op2_136, .int bp, .int by0, .int dp, .int tk, .ref m12, .ref m13, .ref m14, .ref m15, .ref m16, .ref m17, .ref m18, .int ka, .int iw])), (m11, .inl (cI, 4, .inl tl2_136)), (m2, .inl (cI, 4, .inl ma)), (m4, .inl (cI, 4, .inl mg)), (m5, .inl (cI, 4, .inl mt)), (m7, .inl (cI, 6, .inl wf)), (m8, .inl (cI, 6, .inl wp)), (m9, .inl (cI, 6, .inl wt)), (m0, .inl (cI, 625, .inl ro)), (m1, .inl (cI, 65, .inl co)), (m3, .inl (cI, 16, .inl mm)), (m10, .inl (cI, 30, .inl mp)), (m12, .inl (cJ, 40625, .inr (.inl wy2_31)))] [0, 2, 3, 4, 5, 6, 7, 8, 9, 10, 11, 12, 13, 1] (by decide) rfl ?_
                                            refine x_lv [(7, .int (x7_115 + 1)), (6, .int ((65 * x4_75) + x5_86)), (5, .int x5_86), (4, .int x4_75), (3, .int x3_67), (2, .int x2_115), (0, .ref hy), (1, .int i)] [0, 2, 3, 4, 5, 6, 7, 8] rfl ?_
                                            have : (1 : Int32).toInt = 1 := by decide
                                            have := i_add (x := x7_115) (y := 1) (by omega) (by omega)
                                            exact ih_115 (x7_115 + 1) x2_115 fm13_115 op2_136 tl2_136 ⟨by omega, i_115.2⟩ (by omega)
                                          · skip
                                            have e_155 : ¬ (((wy2_31 (Int32.toNatClampNeg (hnF ma mg mt wf wp wt mw ml co ro mm mp mz ((65 * x4_75) + x5_86) x7_115))) : Int64).toInt ≤ (0 : Int64).toInt) := fun h => c_155 (lc_le.mpr h)
                                            have : (0 : Int64).toInt = 0 := by decide
                                            refine x_aload_n C 7 dX10_who_158 rfl rfl ?_
                                            refine x_get C 2 22 dX10_who_159 inlX10 rfl (by decide) wd_136 rfl rfl rfl ?_
                                            refine x_iload C 0 dX10_who_162 rfl ?_
                                            refine x_iconst C 1 dX10_who_164 (by decide) ?_
                                            have v_165 : vp_in (hnF ma mg mt wf wp wt mw ml co ro mm mp mz ((65 * x4_75) + x5_86) x7_115) 40625 := (vp_in_iff.mpr (by omega))
                                            refine x_zast C 0 2 [(m13, .inl (cZ, 40625, .inl (upd fm13_115 (Int32.toNatClampNeg (hnF ma mg mt wf wp wt mw ml co ro mm mp mz ((65 * x4_75) + x5_86) x7_115)) 1))), (m12, .inl (cJ, 40625, .inr (.inl wy2_31))), (hy, .inr (10, [.ref m0, .ref m1, .ref m2, .ref m3, .ref m4, .ref m5, .ref m6, .ref m7, .ref m8, .ref m9, .int mw, .int ml, .int mb, .ref m10, .int mz, .ref m11, .int op2_136, .int bp, .int by0, .int dp, .int tk, .ref m12, .ref m13, .ref m14, .ref m15, .ref m16, .ref m17, .ref m18, .int ka, .int iw])), (m11, .inl (cI, 4, .inl tl2_136)), (m2, .inl (cI, 4, .inl ma)), (m4, .inl (cI, 4, .inl mg)), (m5, .inl (cI, 4, .inl mt)), (m7, .inl (cI, 6, .inl wf)), (m8, .inl (cI, 6, .inl wp)), (m9, .inl (cI, 6, .inl wt)), (m0, .inl (cI, 625, .inl ro)), (m1, .inl (cI, 65, .inl co)), (m3, .inl (cI, 16, .inl mm)), (m10, .inl (cI, 30, .inl mp))] dX10_who_165 hT.2.2.1 rfl v_165 rfl rfl ?_
                                            refine x_iload_n C 6 dX10_who_166 rfl rfl ?_
                                            refine x_iload_n C 5 dX10_who_167 rfl rfl ?_
                                            refine x_iload_n C 8 dX10_who_168 rfl rfl ?_
                                            refine x_icmp_ne C 179 dX10_who_169 (by decide) (fun c_169 => ?_) (fun c_169 => ?_)
                                            · skip
                                              have e_169 : ¬ ((x3_67 : Int32).toInt = (i : Int32).toInt) := fun h => c_169 (i_eq.mpr h)
                                              refine x_iconst C 0 dX10_who_179 (by decide) ?_
                                              refine x_ior C dX10_who_180 ?_
                                              refine x_istore_n C [(2, .int (x2_115 ||| 0)), (8, .int (hnF ma mg mt wf wp wt mw ml co ro mm mp mz ((65 * x4_75) + x5_86) x7_115)), (7, .int x7_115), (6, .int ((65 * x4_75) + x5_86)), (5, .int x5_86), (4, .int x4_75), (3, .int x3_67), (0, .ref hy), (1, .int i)] dX10_who_181 rfl (by decide) rfl ?_
                                              refine x_iinc C 2 (x7_115 + 1) [(7, .int (x7_115 + 1)), (2, .int (x2_115 ||| 0)), (8, .int (hnF ma mg mt wf wp wt mw ml co ro mm mp mz ((65 * x4_75) + x5_86) x7_115)), (6, .int ((65 * x4_75) + x5_86)), (5, .int x5_86), (4, .int x4_75), (3, .int x3_67), (0, .ref hy), (1, .int i)] dX10_who_182 rfl rfl (by decide) rfl ?_
                                              refine x_goto C 115 dX10_who_185 (by decide) ?_
                                              refine x_sub [(m13, .inl (cZ, 40625, .inl (upd fm13_115 (Int32.toNatClampNeg (hnF ma mg mt wf wp wt mw ml co ro mm mp mz ((65 * x4_75) + x5_86) x7_115)) 1))), (hy, .inr (10, [.ref m0, .ref m1, .ref m2, .ref m3, .ref m4, .ref m5, .ref m6, .ref m7, .ref m8, .ref m9, .int mw, .int ml, .int mb, .ref m10, .int mz, .ref m11, .int op2_136, .int bp, .int by0, .int dp, .int tk, .ref m12, .ref m13, .ref m14, .ref m15, .ref m16, .ref m17, .ref m18, .int ka, .int iw])), (m11, .inl (cI, 4, .inl tl2_136)), (m2, .inl (cI, 4, .inl ma)), (m4, .inl (cI, 4, .inl mg)), (m5, .inl (cI, 4, .inl mt)), (m7, .inl (cI, 6, .inl wf)), (m8, .inl (cI, 6, .inl wp)), (m9, .inl (cI, 6, .inl wt)), (m0, .inl (cI, 625, .inl ro)), (m1, .inl (cI, 65, .inl co)), (m3, .inl (cI, 16, .inl mm)), (m10, .inl (cI, 30, .inl mp)), (m12, .inl (cJ, 40625, .inr (.inl wy2_31)))] [0, 2, 3, 4, 5, 6, 7, 8, 9, 10, 11, 12, 13, 1] (by decide) rfl ?_
                                              refine x_lv [(7, .int (x7_115 + 1)), (6, .int ((65 * x4_75) + x5_86)), (5, .int x5_86), (4, .int x4_75), (3, .int x3_67), (2, .int (x2_115 ||| 0)), (0, .ref hy), (1, .int i)] [0, 3, 4, 5, 6, 1, 7, 8] rfl ?_
                                              have : (1 : Int32).toInt = 1 := by decide
                                              have := i_add (x := x7_115) (y := 1) (by omega) (by omega)
                                              exact ih_115 (x7_115 + 1) (x2_115 ||| 0) (upd fm13_115 (Int32.toNatClampNeg (hnF ma mg mt wf wp wt mw ml co ro mm mp mz ((65 * x4_75) + x5_86) x7_115)) 1) op2_136 tl2_136 ⟨by omega, i_115.2.upd (by omega) (fun _ => n9.2.1) (Or.inl (by omega))⟩ (by omega)
                                            · skip
                                              have e_169 : (x3_67 : Int32).toInt = (i : Int32).toInt := i_eq.mp c_169
                                              refine x_iconst C 1 dX10_who_172 (by decide) ?_
                                              refine x_iload C 1 dX10_who_173 rfl ?_
                                              refine x_ishl C dX10_who_175 ?_
                                              refine x_goto C 180 dX10_who_176 (by decide) ?_
                                              refine x_ior C dX10_who_180 ?_
                                              refine x_istore_n C [(2, .int (x2_115 ||| ((1 : Int32) <<< (x7_115 &&& 31)))), (8, .int (hnF ma mg mt wf wp wt mw ml co ro mm mp mz ((65 * x4_75) + x5_86) x7_115)), (7, .int x7_115), (6, .int ((65 * x4_75) + x5_86)), (5, .int x5_86), (4, .int x4_75), (3, .int x3_67), (0, .ref hy), (1, .int i)] dX10_who_181 rfl (by decide) rfl ?_
                                              refine x_iinc C 2 (x7_115 + 1) [(7, .int (x7_115 + 1)), (2, .int (x2_115 ||| ((1 : Int32) <<< (x7_115 &&& 31)))), (8, .int (hnF ma mg mt wf wp wt mw ml co ro mm mp mz ((65 * x4_75) + x5_86) x7_115)), (6, .int ((65 * x4_75) + x5_86)), (5, .int x5_86), (4, .int x4_75), (3, .int x3_67), (0, .ref hy), (1, .int i)] dX10_who_182 rfl rfl (by decide) rfl ?_
                                              refine x_goto C 115 dX10_who_185 (by decide) ?_
                                              refine x_sub [(m13, .inl (cZ, 40625, .inl (upd fm13_115 (Int32.toNatClampNeg (hnF ma mg mt wf wp wt mw ml co ro mm mp mz ((65 * x4_75) + x5_86) x7_115)) 1))), (hy, .inr (10, [.ref m0, .ref m1, .ref m2, .ref m3, .ref m4, .ref m5, .ref m6, .ref m7, .ref m8, .ref m9, .int mw, .int ml, .int mb, .ref m10, .int mz, .ref m11, .int op2_136, .int bp, .int by0, .int dp, .int tk, .ref m12, .ref m13, .ref m14, .ref m15, .ref m16, .ref m17, .ref m18, .int ka, .int iw])), (m11, .inl (cI, 4, .inl tl2_136)), (m2, .inl (cI, 4, .inl ma)), (m4, .inl (cI, 4, .inl mg)), (m5, .inl (cI, 4, .inl mt)), (m7, .inl (cI, 6, .inl wf)), (m8, .inl (cI, 6, .inl wp)), (m9, .inl (cI, 6, .inl wt)), (m0, .inl (cI, 625, .inl ro)), (m1, .inl (cI, 65, .inl co)), (m3, .inl (cI, 16, .inl mm)), (m10, .inl (cI, 30, .inl mp)), (m12, .inl (cJ, 40625, .inr (.inl wy2_31)))] [0, 2, 3, 4, 5, 6, 7, 8, 9, 10, 11, 12, 13, 1] (by decide) rfl ?_
                                              refine x_lv [(7, .int (x7_115 + 1)), (6, .int ((65 * x4_75) + x5_86)), (5, .int x5_86), (4, .int x4_75), (3, .int x3_67), (2, .int (x2_115 ||| ((1 : Int32) <<< (x7_115 &&& 31)))), (0, .ref hy), (1, .int i)] [0, 3, 4, 5, 6, 1, 7, 8] rfl ?_
                                              have : (1 : Int32).toInt = 1 := by decide
                                              have := i_add (x := x7_115) (y := 1) (by omega) (by omega)
                                              exact ih_115 (x7_115 + 1) (x2_115 ||| ((1 : Int32) <<< (x7_115 &&& 31))) (upd fm13_115 (Int32.toNatClampNeg (hnF ma mg mt wf wp wt mw ml co ro mm mp mz ((65 * x4_75) + x5_86) x7_115)) 1) op2_136 tl2_136 ⟨by omega, i_115.2.upd (by omega) (fun _ => n9.2.1) (Or.inl (by omega))⟩ (by omega)
                                have : (0 : Int32).toInt = 0 := by decide
                                exact L_115 _ 0 x2_86 fm13_86 ghy16_86 fm11_86 ⟨by omega, i_86.2⟩ (Nat.lt_succ_self _)
                        have : (0 : Int32).toInt = 0 := by decide
                        exact L_86 _ 0 x2_75 fm13_75 ghy16_75 fm11_75 ⟨by omega, i_75.2⟩ (Nat.lt_succ_self _)
                  have : (0 : Int32).toInt = 0 := by decide
                  exact L_75 _ 0 x2_67 fm13_67 ghy16_67 fm11_67 ⟨by omega, i_67.2⟩ (Nat.lt_succ_self _)
            have : (0 : Int32).toInt = 0 := by decide
            exact L_67 _ 0 0 fm13_36 op2_31 tl2_31 ⟨by omega, i_36.2.mono (by omega)⟩ (Nat.lt_succ_self _)
          · skip
            have e_39 : ¬ ((40625 : Int32).toInt ≤ (x2_36 : Int32).toInt) := fun h => c_39 (i_le.mpr h)
            have : (40625 : Int32).toInt = 40625 := by decide
            refine x_aload_n C 1 dX10_who_42 rfl rfl ?_
            refine x_get C 1 22 dX10_who_43 inlX10 rfl (by decide) wd_136 rfl rfl rfl ?_
            refine x_iload_n C 0 dX10_who_46 rfl rfl ?_
            refine x_iload_n C 0 dX10_who_47 rfl rfl ?_
            refine x_if_ne C 55 dX10_who_48 (by decide) (fun c_48 => ?_) (fun c_48 => ?_)
            · skip
              have e_48 : ¬ ((x2_36 : Int32).toInt = (0 : Int32).toInt) := fun h => c_48 (i_eq.mpr h)
              have : (0 : Int32).toInt = 0 := by decide
              refine x_iconst C 0 dX10_who_55 (by decide) ?_
              have v_56 : vp_in x2_36 40625 := (vp_in_iff.mpr (by omega))
              refine x_zast C 0 2 [(m13, .inl (cZ, 40625, .inl (upd fm13_36 (Int32.toNatClampNeg x2_36) 0))), (hy, .inr (10, [.ref m0, .ref m1, .ref m2, .ref m3, .ref m4, .ref m5, .ref m6, .ref m7, .ref m8, .ref m9, .int mw, .int ml, .int mb, .ref m10, .int mz, .ref m11, .int op2_31, .int bp, .int by0, .int dp, .int tk, .ref m12, .ref m13, .ref m14, .ref m15, .ref m16, .ref m17, .ref m18, .int ka, .int iw])), (m11, .inl (cI, 4, .inl tl2_31)), (m2, .inl (cI, 4, .inl ma)), (m4, .inl (cI, 4, .inl mg)), (m5, .inl (cI, 4, .inl mt)), (m7, .inl (cI, 6, .inl wf)), (m8, .inl (cI, 6, .inl wp)), (m9, .inl (cI, 6, .inl wt)), (m0, .inl (cI, 625, .inl ro)), (m1, .inl (cI, 65, .inl co)), (m3, .inl (cI, 16, .inl mm)), (m10, .inl (cI, 30, .inl mp)), (m12, .inl (cJ, 40625, .inr (.inl wy2_31)))] dX10_who_56 hT.2.2.1 rfl v_56 rfl rfl ?_
              refine x_iinc C 0 (x2_36 + 1) [(2, .int (x2_36 + 1)), (0, .ref hy), (1, .int i)] dX10_who_57 rfl rfl (by decide) rfl ?_
              refine x_goto C 36 dX10_who_60 (by decide) ?_
              have : (1 : Int32).toInt = 1 := by decide
              have := i_add (x := x2_36) (y := 1) (by omega) (by omega)
              exact ih_36 (x2_36 + 1) (upd fm13_36 (Int32.toNatClampNeg x2_36) 0) ⟨by omega, i_36.2.upd (by omega) (fun h => absurd t0_ h) (Or.inr ⟨by omega, by omega⟩)⟩ (by omega)
            · skip
              have e_48 : (x2_36 : Int32).toInt = (0 : Int32).toInt := i_eq.mp c_48
              have : (0 : Int32).toInt = 0 := by decide
              refine x_iconst C 1 dX10_who_51 (by decide) ?_
              refine x_goto C 56 dX10_who_52 (by decide) ?_
              have v_56 : vp_in x2_36 40625 := (vp_in_iff.mpr (by omega))
              refine x_zast C 0 2 [(m13, .inl (cZ, 40625, .inl (upd fm13_36 (Int32.toNatClampNeg x2_36) 1))), (hy, .inr (10, [.ref m0, .ref m1, .ref m2, .ref m3, .ref m4, .ref m5, .ref m6, .ref m7, .ref m8, .ref m9, .int mw, .int ml, .int mb, .ref m10, .int mz, .ref m11, .int op2_31, .int bp, .int by0, .int dp, .int tk, .ref m12, .ref m13, .ref m14, .ref m15, .ref m16, .ref m17, .ref m18, .int ka, .int iw])), (m11, .inl (cI, 4, .inl tl2_31)), (m2, .inl (cI, 4, .inl ma)), (m4, .inl (cI, 4, .inl mg)), (m5, .inl (cI, 4, .inl mt)), (m7, .inl (cI, 6, .inl wf)), (m8, .inl (cI, 6, .inl wp)), (m9, .inl (cI, 6, .inl wt)), (m0, .inl (cI, 625, .inl ro)), (m1, .inl (cI, 65, .inl co)), (m3, .inl (cI, 16, .inl mm)), (m10, .inl (cI, 30, .inl mp)), (m12, .inl (cJ, 40625, .inr (.inl wy2_31)))] dX10_who_56 hT.2.2.1 rfl v_56 rfl rfl ?_
              refine x_iinc C 0 (x2_36 + 1) [(2, .int (x2_36 + 1)), (0, .ref hy), (1, .int i)] dX10_who_57 rfl rfl (by decide) rfl ?_
              refine x_goto C 36 dX10_who_60 (by decide) ?_
              have : (1 : Int32).toInt = 1 := by decide
              have := i_add (x := x2_36) (y := 1) (by omega) (by omega)
              exact ih_36 (x2_36 + 1) (upd fm13_36 (Int32.toNatClampNeg x2_36) 1) ⟨by omega, i_36.2.upd (by omega) (fun _ => by rw [c_48]; exact GS.z hpa hR.2.1) (Or.inr ⟨by omega, by omega⟩)⟩ (by omega)
      have : (0 : Int32).toInt = 0 := by decide
      exact L_36 _ 0 ir ⟨by omega, RCH.z (by omega)⟩ (Nat.lt_succ_self _)
    · skip
      have e_24 : (r_21 : Int32).toInt = (0 : Int32).toInt := i_eq.mp c_24
      have : (0 : Int32).toInt = 0 := by decide
      refine x_bipush C (-6) dX10_who_27 (by decide) ?_
      refine x_sub [(hy, .inr (10, [.ref m0, .ref m1, .ref m2, .ref m3, .ref m4, .ref m5, .ref m6, .ref m7, .ref m8, .ref m9, .int mw, .int ml, .int mb, .ref m10, .int mz, .ref m11, .int op, .int bp, .int by0, .int dp, .int tk, .ref m12, .ref m13, .ref m14, .ref m15, .ref m16, .ref m17, .ref m18, .int ka, .int iw])), (m11, .inl (cI, 4, .inl tl)), (m2, .inl (cI, 4, .inl ma)), (m4, .inl (cI, 4, .inl mg)), (m5, .inl (cI, 4, .inl mt)), (m7, .inl (cI, 6, .inl wf)), (m8, .inl (cI, 6, .inl wp)), (m9, .inl (cI, 6, .inl wt)), (m0, .inl (cI, 625, .inl ro)), (m1, .inl (cI, 65, .inl co)), (m3, .inl (cI, 16, .inl mm)), (m10, .inl (cI, 30, .inl mp)), (m12, .inl (cJ, 40625, .inr (.inl wy))), (m13, .inl (cZ, 40625, .inl ir))] [12, 0, 1, 2, 3, 4, 5, 6, 7, 8, 9, 13, 10, 11] (by decide) rfl ?_
      have : ((-6) : Int32).toInt = -6 := by decide
      exact x_iret C dX10_who_29 (Nat.zero_le _) (Nat.zero_le _) (by rw [eO]; exact ⟨((-6)), tl, op, wy, ir, rfl, rfl, trivial⟩)
  · skip
    have e_5 : ¬ ((r_2 : Int32).toInt < (0 : Int32).toInt) := fun h => c_5 (i_lt.mpr h)
    have : (0 : Int32).toInt = 0 := by decide
    refine x_bipush C (-5) dX10_who_8 (by decide) ?_
    refine x_sub [(hy, .inr (10, [.ref m0, .ref m1, .ref m2, .ref m3, .ref m4, .ref m5, .ref m6, .ref m7, .ref m8, .ref m9, .int mw, .int ml, .int mb, .ref m10, .int mz, .ref m11, .int op, .int bp, .int by0, .int dp, .int tk, .ref m12, .ref m13, .ref m14, .ref m15, .ref m16, .ref m17, .ref m18, .int ka, .int iw])), (m11, .inl (cI, 4, .inl tl)), (m2, .inl (cI, 4, .inl ma)), (m4, .inl (cI, 4, .inl mg)), (m5, .inl (cI, 4, .inl mt)), (m7, .inl (cI, 6, .inl wf)), (m8, .inl (cI, 6, .inl wp)), (m9, .inl (cI, 6, .inl wt)), (m0, .inl (cI, 625, .inl ro)), (m1, .inl (cI, 65, .inl co)), (m3, .inl (cI, 16, .inl mm)), (m10, .inl (cI, 30, .inl mp)), (m12, .inl (cJ, 40625, .inr (.inl wy))), (m13, .inl (cZ, 40625, .inl ir))] [12, 0, 1, 2, 3, 4, 5, 6, 7, 8, 9, 13, 10, 11] (by decide) rfl ?_
    have : ((-5) : Int32).toInt = -5 := by decide
    exact x_iret C dX10_who_10 (Nat.zero_le _) (Nat.zero_le _) (by rw [eO]; exact ⟨((-5)), tl, op, wy, ir, rfl, rfl, trivial⟩)
