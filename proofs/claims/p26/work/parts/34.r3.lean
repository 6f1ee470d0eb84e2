abbrev rm_X10_canBe : Room := { frames := 1, cells := 0, slots := 0, locals := 22 }
set_option maxHeartbeats 4000000 in
set_option maxRecDepth 100000 in
theorem c_X10_canBe (l : Launch) (D : va_G) (tys : List (ClassId × FieldType)) {cI cJ cZ cB : ClassId} (hT : Ty tys cI cJ cZ cB) (hy m0 m1 m2 m3 m4 m5 m6 m7 m8 m9 m10 m11 m12 m13 m14 m15 m16 m17 m18 : Nat) (tl ma : Nat → Int32) (mw ml mb mz op bp by0 dp tk ka iw : Int32) (se : Int32) (hop : 0 ≤ op.toInt ∧ op.toInt < 625) : Cn l D tys yX10_canBe cX10_canBe 5 (some .boolean) rm_X10_canBe [(hy, .inr (10, [.ref m0, .ref m1, .ref m2, .ref m3, .ref m4, .ref m5, .ref m6, .ref m7, .ref m8, .ref m9, .int mw, .int ml, .int mb, .ref m10, .int mz, .ref m11, .int op, .int bp, .int by0, .int dp, .int tk, .ref m12, .ref m13, .ref m14, .ref m15, .ref m16, .ref m17, .ref m18, .int ka, .int iw])), (m11, .inl (cI, 4, .inl tl)), (m2, .inl (cI, 4, .inl ma))] [.ref hy, .int se] (fun v W1 => ∃ (r : Int32), v = some (.int r) ∧ W1 = [(hy, .inr (10, [.ref m0, .ref m1, .ref m2, .ref m3, .ref m4, .ref m5, .ref m6, .ref m7, .ref m8, .ref m9, .int mw, .int ml, .int mb, .ref m10, .int mz, .ref m11, .int op, .int bp, .int by0, .int dp, .int tk, .ref m12, .ref m13, .ref m14, .ref m15, .ref m16, .ref m17, .ref m18, .int ka, .int iw])), (m11, .inl (cI, 4, .inl tl)), (m2, .inl (cI, 4, .inl ma))] ∧ (TB r (CB ma tl op se))) := by
  refine Cn.of (by decide) (Nat.le_of_ble_eq_true rfl) ?_ ?_ (fun X eL eD eT eO eK eN eM C => ?_)
  · intro _ v ws h; obtain ⟨_, rfl, rfl, h⟩ := h; exact z_of h.n
  · intro v ws h; obtain ⟨_, rfl, rfl, _⟩ := h; exact Or.inr rfl
  subst eL eD eT
  show V X 5 [(hy, .inr (10, [.ref m0, .ref m1, .ref m2, .ref m3, .ref m4, .ref m5, .ref m6, .ref m7, .ref m8, .ref m9, .int mw, .int ml, .int mb, .ref m10, .int mz, .ref m11, .int op, .int bp, .int by0, .int dp, .int tk, .ref m12, .ref m13, .ref m14, .ref m15, .ref m16, .ref m17, .ref m18, .int ka, .int iw])), (m11, .inl (cI, 4, .inl tl)), (m2, .inl (cI, 4, .inl ma))] [(0, .ref hy), (1, .int se)] [] 0 0 0
  refine x_iconst C 0 dX10_canBe_0 (by decide) ?_
  refine x_istore_n C [(2, .int 0), (0, .ref hy), (1, .int se)] dX10_canBe_1 rfl (by decide) rfl ?_
  refine x_iconst C 1 dX10_canBe_2 (by decide) ?_
  refine x_istore_n C [(3, .int 1), (2, .int 0), (0, .ref hy), (1, .int se)] dX10_canBe_3 rfl (by decide) rfl ?_
  refine x_iconst C 0 dX10_canBe_4 (by decide) ?_
  refine x_istore C [(4, .int 0), (3, .int 1), (2, .int 0), (0, .ref hy), (1, .int se)] dX10_canBe_5 (by decide) rfl ?_
  have L_7 : ∀ (n_7 : Nat) (x4_7 : Int32) (x3_7 : Int32) (x2_7 : Int32), ((0 ≤ x4_7.toInt ∧ x4_7.toInt ≤ 4 ∧ (x3_7.toInt = 0 ∨ x3_7.toInt = 1)) ∧ TB x3_7 (AX (fun y => (bit1 se y ∧ (tl y.toNatClampNeg).toInt ≤ (ma y.toNatClampNeg).toInt) ∨ (¬ bit1 se y ∧ (tl y.toNatClampNeg).toInt ≤ 0)) x4_7) ∧ x2_7 = btn (opn ma tl) x4_7.toInt.toNat) → ((4 - x4_7.toInt).toNat < n_7) → V X 5 [(hy, .inr (10, [.ref m0, .ref m1, .ref m2, .ref m3, .ref m4, .ref m5, .ref m6, .ref m7, .ref m8, .ref m9, .int mw, .int ml, .int mb, .ref m10, .int mz, .ref m11, .int op, .int bp, .int by0, .int dp, .int tk, .ref m12, .ref m13, .ref m14, .ref m15, .ref m16, .ref m17, .ref m18, .int ka, .int iw])), (m11, .inl (cI, 4, .inl tl)), (m2, .inl (cI, 4, .inl ma))] [(4, .int x4_7), (3, .int x3_7), (2, .int x2_7), (0, .ref hy), (1, .int se)] [] 7 0 0 := by
    intro n_7
    induction n_7 with
    | zero =>
      intro x4_7 x3_7 x2_7 i_7 m_7
      exact absurd m_7 (Nat.not_lt_zero _)
    | succ n_7 ih_7 =>
      intro x4_7 x3_7 x2_7 i_7 m_7
      refine x_iload C 0 dX10_canBe_7 rfl ?_
      refine x_iconst C 4 dX10_canBe_9 (by decide) ?_
      refine x_icmp_ge C 98 dX10_canBe_10 (by decide) (fun c_10 => ?_) (fun c_10 => ?_)
      · skip
        have e_10 : (4 : Int32).toInt ≤ (x4_7 : Int32).toInt := i_le.mp c_10
        have : (4 : Int32).toInt = 4 := by decide
        refine x_iload_n C 1 dX10_canBe_98 rfl rfl ?_
        refine x_if_eq C 117 dX10_canBe_99 (by decide) (fun c_99 => ?_) (fun c_99 => ?_)
        · skip
          have e_99 : (x3_7 : Int32).toInt = (0 : Int32).toInt := i_eq.mp c_99
          have : (0 : Int32).toInt = 0 := by decide
          refine x_iconst C 0 dX10_canBe_117 (by decide) ?_
          have := t4_
          have b9 : x2_7 = btn (opn ma tl) 4 := by rw [i_7.2.2, show x4_7.toInt.toNat = 4 by omega]
          have : (0 : Int32).toInt = 0 := by decide
          exact x_iret C dX10_canBe_118 (Nat.zero_le _) (Nat.zero_le _) (by rw [eO]; exact ⟨0, rfl, rfl, (TB.nil fun h => i_7.2.1.f (by omega) ((AX.at (by omega)).mpr h.1))⟩)
        · skip
          have e_99 : ¬ ((x3_7 : Int32).toInt = (0 : Int32).toInt) := fun h => c_99 (i_eq.mpr h)
          have : (0 : Int32).toInt = 0 := by decide
          refine x_iload_n C 2 dX10_canBe_102 rfl rfl ?_
          refine x_aload_n C 3 dX10_canBe_103 rfl rfl ?_
          refine x_get C 0 16 dX10_canBe_104 inlX10 rfl (by decide) wd_434 rfl rfl rfl ?_
          refine x_callS C [.int op] [(hy, .inr (10, [.ref m0, .ref m1, .ref m2, .ref m3, .ref m4, .ref m5, .ref m6, .ref m7, .ref m8, .ref m9, .int mw, .int ml, .int mb, .ref m10, .int mz, .ref m11, .int op, .int bp, .int by0, .int dp, .int tk, .ref m12, .ref m13, .ref m14, .ref m15, .ref m16, .ref m17, .ref m18, .int ka, .int iw])), (m11, .inl (cI, 4, .inl tl)), (m2, .inl (cI, 4, .inl ma))] [] [0, 1, 2] (c_X10_setOf (xl X) (xD X) (xt X) hT op hop) dX10_canBe_107 wd_462 wd_463 wd_5 wd_464 (np := 1) ⟨by decide, by decide, by decide +kernel⟩ rfl rfl (Nat.le_of_ble_eq_true rfl) (by decide) rfl (by decide) rfl (by decide) (by decide) (fun v W1 h => ?_)
          obtain ⟨_, rfl, rfl, h_107⟩ := h
          show V X 5 [(hy, .inr (10, [.ref m0, .ref m1, .ref m2, .ref m3, .ref m4, .ref m5, .ref m6, .ref m7, .ref m8, .ref m9, .int mw, .int ml, .int mb, .ref m10, .int mz, .ref m11, .int op, .int bp, .int by0, .int dp, .int tk, .ref m12, .ref m13, .ref m14, .ref m15, .ref m16, .ref m17, .ref m18, .int ka, .int iw])), (m11, .inl (cI, 4, .inl tl)), (m2, .inl (cI, 4, .inl ma))] [(4, .int x4_7), (3, .int x3_7), (2, .int x2_7), (0, .ref hy), (1, .int se)] [.int (setI op), .int x2_7] 110 0 0
          refine x_icmp_ne C 117 dX10_canBe_110 (by decide) (fun c_110 => ?_) (fun c_110 => ?_)
          · skip
            have e_110 : ¬ ((x2_7 : Int32).toInt = (setI op : Int32).toInt) := fun h => c_110 (i_eq.mpr h)
            refine x_iconst C 0 dX10_canBe_117 (by decide) ?_
            have := t4_
            have b9 : x2_7 = btn (opn ma tl) 4 := by rw [i_7.2.2, show x4_7.toInt.toNat = 4 by omega]
            have : (0 : Int32).toInt = 0 := by decide
            exact x_iret C dX10_canBe_118 (Nat.zero_le _) (Nat.zero_le _) (by rw [eO]; exact ⟨0, rfl, rfl, (TB.nil fun h => c_110 (b9.trans h.2))⟩)
          · skip
            have e_110 : (x2_7 : Int32).toInt = (setI op : Int32).toInt := i_eq.mp c_110
            refine x_iconst C 1 dX10_canBe_113 (by decide) ?_
            refine x_goto C 118 dX10_canBe_114 (by decide) ?_
            have := t4_
            have b9 : x2_7 = btn (opn ma tl) 4 := by rw [i_7.2.2, show x4_7.toInt.toNat = 4 by omega]
            have : (1 : Int32).toInt = 1 := by decide
            exact x_iret C dX10_canBe_118 (Nat.zero_le _) (Nat.zero_le _) (by rw [eO]; exact ⟨1, rfl, rfl, (TB.one ⟨(AX.at (by omega)).mp (i_7.2.1.t (by omega)), b9.symm.trans c_110⟩)⟩)
      · skip
        have e_10 : ¬ ((4 : Int32).toInt ≤ (x4_7 : Int32).toInt) := fun h => c_10 (i_le.mpr h)
        have : (4 : Int32).toInt = 4 := by decide
        refine x_iload_n C 1 dX10_canBe_13 rfl rfl ?_
        refine x_if_eq C 52 dX10_canBe_14 (by decide) (fun c_14 => ?_) (fun c_14 => ?_)
        · skip
          have e_14 : (x3_7 : Int32).toInt = (0 : Int32).toInt := i_eq.mp c_14
          have : (0 : Int32).toInt = 0 := by decide
          refine x_iconst C 0 dX10_canBe_52 (by decide) ?_
          refine x_istore_n C [(3, .int 0), (4, .int x4_7), (2, .int x2_7), (0, .ref hy), (1, .int se)] dX10_canBe_53 rfl (by decide) rfl ?_
          refine x_iload_n C 2 dX10_canBe_54 rfl rfl ?_
          refine x_aload_n C 3 dX10_canBe_55 rfl rfl ?_
          refine x_get C 0 15 dX10_canBe_56 inlX10 rfl (by decide) wd_133 rfl rfl rfl ?_
          refine x_iload C 1 dX10_canBe_59 rfl ?_
          have v_61 : vp_in x4_7 4 := (vp_in_iff.mpr (by omega))
          refine x_iald C 1 0 dX10_canBe_61 hT.1 rfl v_61 ?_
          refine x_if_le C 89 dX10_canBe_62 (by decide) (fun c_62 => ?_) (fun c_62 => ?_)
          · skip
            have e_62 : (tl (Int32.toNatClampNeg x4_7) : Int32).toInt ≤ (0 : Int32).toInt := i_le.mp c_62
            have : (0 : Int32).toInt = 0 := by decide
            refine x_iconst C 0 dX10_canBe_89 (by decide) ?_
            refine x_ior C dX10_canBe_90 ?_
            refine x_istore_n C [(2, .int (x2_7 ||| 0)), (3, .int 0), (4, .int x4_7), (0, .ref hy), (1, .int se)] dX10_canBe_91 rfl (by decide) rfl ?_
            refine x_iinc C 2 (x4_7 + 1) [(4, .int (x4_7 + 1)), (2, .int (x2_7 ||| 0)), (3, .int 0), (0, .ref hy), (1, .int se)] dX10_canBe_92 rfl rfl (by decide) rfl ?_
            refine x_goto C 7 dX10_canBe_95 (by decide) ?_
            refine x_lv [(4, .int (x4_7 + 1)), (3, .int 0), (2, .int (x2_7 ||| 0)), (0, .ref hy), (1, .int se)] [0, 2, 1, 3, 4] rfl ?_
            have : (1 : Int32).toInt = 1 := by decide
            have := i_add (x := x4_7) (y := 1) (by omega) (by omega)
            have : (0 : Int32).toInt = 0 := by decide
            exact ih_7 (x4_7 + 1) 0 (x2_7 ||| 0) ⟨by omega, by first | exact AX.keep i_7.2.1 (by omega) (by omega) | exact AX.yes i_7.2.1 (by omega) (by first | exact Or.inl ⟨by unfold bit1; omega, by omega⟩ | exact Or.inr ⟨by unfold bit1; omega, by omega⟩) (by omega) | exact AX.no (x := x4_7) (by omega) (fun h => by rcases h with h | h <;> (obtain ⟨h1, h2⟩ := h; unfold bit1 at h1; omega)) (by omega), by first | exact (congrArg (fun z => z ||| _) i_7.2.2).trans (btn_t (by omega) (by omega) (opn_t (by omega))).symm | exact (congrArg (fun z => z ||| 0) i_7.2.2).trans (btn_f (by omega) (by omega) (opn_f (by omega))).symm⟩ (by omega)
          · skip
            have e_62 : ¬ ((tl (Int32.toNatClampNeg x4_7) : Int32).toInt ≤ (0 : Int32).toInt) := fun h => c_62 (i_le.mpr h)
            have : (0 : Int32).toInt = 0 := by decide
            refine x_aload_n C 3 dX10_canBe_65 rfl rfl ?_
            refine x_get C 0 15 dX10_canBe_66 inlX10 rfl (by decide) wd_133 rfl rfl rfl ?_
            refine x_iload C 1 dX10_canBe_69 rfl ?_
            have v_71 : vp_in x4_7 4 := (vp_in_iff.mpr (by omega))
            refine x_iald C 1 0 dX10_canBe_71 hT.1 rfl v_71 ?_
            refine x_aload_n C 3 dX10_canBe_72 rfl rfl ?_
            refine x_get C 0 2 dX10_canBe_73 inlX10 rfl (by decide) wd_124 rfl rfl rfl ?_
            refine x_iload C 1 dX10_canBe_76 rfl ?_
            have v_78 : vp_in x4_7 4 := (vp_in_iff.mpr (by omega))
            refine x_iald C 2 0 dX10_canBe_78 hT.1 rfl v_78 ?_
            refine x_icmp_ge C 89 dX10_canBe_79 (by decide) (fun c_79 => ?_) (fun c_79 => ?_)
            · skip
              have e_79 : (ma (Int32.toNatClampNeg x4_7) : Int32).toInt ≤ (tl (Int32.toNatClampNeg x4_7) : Int32).toInt := i_le.mp c_79
              refine x_iconst C 0 dX10_canBe_89 (by decide) ?_
              refine x_ior C dX10_canBe_90 ?_
              refine x_istore_n C [(2, .int (x2_7 ||| 0)), (3, .int 0), (4, .int x4_7), (0, .ref hy), (1, .int se)] dX10_canBe_91 rfl (by decide) rfl ?_
              refine x_iinc C 2 (x4_7 + 1) [(4, .int (x4_7 + 1)), (2, .int (x2_7 ||| 0)), (3, .int 0), (0, .ref hy), (1, .int se)] dX10_canBe_92 rfl rfl (by decide) rfl ?_
              refine x_goto C 7 dX10_canBe_95 (by decide) ?_
              refine x_lv [(4, .int (x4_7 + 1)), (3, .int 0), (2, .int (x2_7 ||| 0)), (0, .ref hy), (1, .int se)] [0, 2, 1, 3, 4] rfl ?_
              have : (1 : Int32).toInt = 1 := by decide
              have := i_add (x := x4_7) (y := 1) (by omega) (by omega)
              have : (0 : Int32).toInt = 0 := by decide
              exact ih_7 (x4_7 + 1) 0 (x2_7 ||| 0) ⟨by omega, by first | exact AX.keep i_7.2.1 (by omega) (by omega) | exact AX.yes i_7.2.1 (by omega) (by first | exact Or.inl ⟨by unfold bit1; omega, by omega⟩ | exact Or.inr ⟨by unfold bit1; omega, by omega⟩) (by omega) | exact AX.no (x := x4_7) (by omega) (fun h => by rcases h with h | h <;> (obtain ⟨h1, h2⟩ := h; unfold bit1 at h1; omega)) (by omega), by first | exact (congrArg (fun z => z ||| _) i_7.2.2).trans (btn_t (by omega) (by omega) (opn_t (by omega))).symm | exact (congrArg (fun z => z ||| 0) i_7.2.2).trans (btn_f (by omega) (by omega) (opn_f (by omega))).symm⟩ (by omega)
            · skip
              have e_79 : ¬ ((ma (Int32.toNatClampNeg x4_7) : Int32).toInt ≤ (tl (Int32.toNatClampNeg x4_7) : Int32).toInt) := fun h => c_79 (i_le.mpr h)
              refine x_iconst C 1 dX10_canBe_82 (by decide) ?_
              refine x_iload C 1 dX10_canBe_83 rfl ?_
              refine x_ishl C dX10_canBe_85 ?_
              refine x_goto C 90 dX10_canBe_86 (by decide) ?_
              refine x_ior C dX10_canBe_90 ?_
              refine x_istore_n C [(2, .int (x2_7 ||| ((1 : Int32) <<< (x4_7 &&& 31)))), (3, .int 0), (4, .int x4_7), (0, .ref hy), (1, .int se)] dX10_canBe_91 rfl (by decide) rfl ?_
              refine x_iinc C 2 (x4_7 + 1) [(4, .int (x4_7 + 1)), (2, .int (x2_7 ||| ((1 : Int32) <<< (x4_7 &&& 31)))), (3, .int 0), (0, .ref hy), (1, .int se)] dX10_canBe_92 rfl rfl (by decide) rfl ?_
              refine x_goto C 7 dX10_canBe_95 (by decide) ?_
              refine x_lv [(4, .int (x4_7 + 1)), (3, .int 0), (2, .int (x2_7 ||| ((1 : Int32) <<< (x4_7 &&& 31)))), (0, .ref hy), (1, .int se)] [0, 2, 1, 3, 4] rfl ?_
              have : (1 : Int32).toInt = 1 := by decide
              have := i_add (x := x4_7) (y := 1) (by omega) (by omega)
              have : (0 : Int32).toInt = 0 := by decide
              exact ih_7 (x4_7 + 1) 0 (x2_7 ||| ((1 : Int32) <<< (x4_7 &&& 31))) ⟨by omega, by first | exact AX.keep i_7.2.1 (by omega) (by omega) | exact AX.yes i_7.2.1 (by omega) (by first | exact Or.inl ⟨by unfold bit1; omega, by omega⟩ | exact Or.inr ⟨by unfold bit1; omega, by omega⟩) (by omega) | exact AX.no (x := x4_7) (by omega) (fun h => by rcases h with h | h <;> (obtain ⟨h1, h2⟩ := h; unfold bit1 at h1; omega)) (by omega), by first | exact (congrArg (fun z => z ||| _) i_7.2.2).trans (btn_t (by omega) (by omega) (opn_t (by omega))).symm | exact (congrArg (fun z => z ||| 0) i_7.2.2).trans (btn_f (by omega) (by omega) (opn_f (by omega))).symm⟩ (by omega)
        · skip
          have e_14 : ¬ ((x3_7 : Int32).toInt = (0 : Int32).toInt) := fun h => c_14 (i_eq.mpr h)
          have : (0 : Int32).toInt = 0 := by decide
          refine x_aload_n C 3 dX10_canBe_17 rfl rfl ?_
          refine x_get C 0 15 dX10_canBe_18 inlX10 rfl (by decide) wd_133 rfl rfl rfl ?_
          refine x_iload C 0 dX10_canBe_21 rfl ?_
          have v_23 : vp_in x4_7 4 := (vp_in_iff.mpr (by omega))
          refine x_iald C 1 0 dX10_canBe_23 hT.1 rfl v_23 ?_
          refine x_iload_n C 4 dX10_canBe_24 rfl rfl ?_
          refine x_iload C 0 dX10_canBe_25 rfl ?_
          refine x_ishr C dX10_canBe_27 ?_
          refine x_iconst C 1 dX10_canBe_28 (by decide) ?_
          refine x_iand C dX10_canBe_29 ?_
          refine x_iconst C 1 dX10_canBe_30 (by decide) ?_
          refine x_icmp_ne C 44 dX10_canBe_31 (by decide) (fun c_31 => ?_) (fun c_31 => ?_)
          · skip
            have e_31 : ¬ (((se >>> (x4_7 &&& 31)) &&& 1 : Int32).toInt = (1 : Int32).toInt) := fun h => c_31 (i_eq.mpr h)
            have : (1 : Int32).toInt = 1 := by decide
            refine x_iconst C 0 dX10_canBe_44 (by decide) ?_
            refine x_icmp_gt C 52 dX10_canBe_45 (by decide) (fun c_45 => ?_) (fun c_45 => ?_)
            · skip
              have e_45 : (0 : Int32).toInt < (tl (Int32.toNatClampNeg x4_7) : Int32).toInt := i_lt.mp c_45
              have : (0 : Int32).toInt = 0 := by decide
              refine x_iconst C 0 dX10_canBe_52 (by decide) ?_
              refine x_istore_n C [(3, .int 0), (4, .int x4_7), (2, .int x2_7), (0, .ref hy), (1, .int se)] dX10_canBe_53 rfl (by decide) rfl ?_
              refine x_iload_n C 2 dX10_canBe_54 rfl rfl ?_
              refine x_aload_n C 3 dX10_canBe_55 rfl rfl ?_
              refine x_get C 0 15 dX10_canBe_56 inlX10 rfl (by decide) wd_133 rfl rfl rfl ?_
              refine x_iload C 1 dX10_canBe_59 rfl ?_
              have v_61 : vp_in x4_7 4 := (vp_in_iff.mpr (by omega))
              refine x_iald C 1 0 dX10_canBe_61 hT.1 rfl v_61 ?_
              refine x_if_le C 89 dX10_canBe_62 (by decide) (fun c_62 => ?_) (fun c_62 => ?_)
              · skip
                have e_62 : (tl (Int32.toNatClampNeg x4_7) : Int32).toInt ≤ (0 : Int32).toInt := i_le.mp c_62
                have : (0 : Int32).toInt = 0 := by decide
                refine x_iconst C 0 dX10_canBe_89 (by decide) ?_
                refine x_ior C dX10_canBe_90 ?_
                refine x_istore_n C [(2, .int (x2_7 ||| 0)), (3, .int 0), (4, .int x4_7), (0, .ref hy), (1, .int se)] dX10_canBe_91 rfl (by decide) rfl ?_
                refine x_iinc C 2 (x4_7 + 1) [(4, .int (x4_7 + 1)), (2, .int (x2_7 ||| 0)), (3, .int 0), (0, .ref hy), (1, .int se)] dX10_canBe_92 rfl rfl (by decide) rfl ?_
                refine x_goto C 7 dX10_canBe_95 (by decide) ?_
                refine x_lv [(4, .int (x4_7 + 1)), (3, .int 0), (2, .int (x2_7 ||| 0)), (0, .ref hy), (1, .int se)] [0, 2, 1, 3, 4] rfl ?_
                have : (1 : Int32).toInt = 1 := by decide
                have := i_add (x := x4_7) (y := 1) (by omega) (by omega)
                have : (0 : Int32).toInt = 0 := by decide
                exact ih_7 (x4_7 + 1) 0 (x2_7 ||| 0) ⟨by omega, by first | exact AX.keep i_7.2.1 (by omega) (by omega) | exact AX.yes i_7.2.1 (by omega) (by first | exact Or.inl ⟨by unfold bit1; omega, by omega⟩ | exact Or.inr ⟨by unfold bit1; omega, by omega⟩) (by omega) | exact AX.no (x := x4_7) (by omega) (fun h => by rcases h with h | h <;> (obtain ⟨h1, h2⟩ := h; unfold bit1 at h1; omega)) (by omega), by first | exact (congrArg (fun z => z ||| _) i_7.2.2).trans (btn_t (by omega) (by omega) (opn_t (by omega))).symm | exact (congrArg (fun z => z ||| 0) i_7.2.2).trans (btn_f (by omega) (by omega) (opn_f (by omega))).symm⟩ (by omega)
              · skip
                have e_62 : ¬ ((tl (Int32.toNatClampNeg x4_7) : Int32).toInt ≤ (0 : Int32).toInt) := fun h => c_62 (i_le.mpr h)
                have : (0 : Int32).toInt = 0 := by decide
                refine x_aload_n C 3 dX10_canBe_65 rfl rfl ?_
                refine x_get C 0 15 dX10_canBe_66 inlX10 rfl (by decide) wd_133 rfl rfl rfl ?_
                refine x_iload C 1 dX10_canBe_69 rfl ?_
                have v_71 : vp_in x4_7 4 := (vp_in_iff.mpr (by omega))
                refine x_iald C 1 0 dX10_canBe_71 hT.1 rfl v_71 ?_
                refine x_aload_n C 3 dX10_canBe_72 rfl rfl ?_
                refine x_get C 0 2 dX10_canBe_73 inlX10 rfl (by decide) wd_124 rfl rfl rfl ?_
                refine x_iload C 1 dX10_canBe_76 rfl ?_
                have v_78 : vp_in x4_7 4 := (vp_in_iff.mpr (by omega))
                refine x_iald C 2 0 dX10_canBe_78 hT.1 rfl v_78 ?_
                refine x_icmp_ge C 89 dX10_canBe_79 (by decide) (fun c_79 => ?_) (fun c_79 => ?_)
                · skip
                  have e_79 : (ma (Int32.toNatClampNeg x4_7) : Int32).toInt ≤ (tl (Int32.toNatClampNeg x4_7) : Int32).toInt := i_le.mp c_79
                  refine x_iconst C 0 dX10_canBe_89 (by decide) ?_
                  refine x_ior C dX10_canBe_90 ?_
                  refine x_istore_n C [(2, .int (x2_7 ||| 0)), (3, .int 0), (4, .int x4_7), (0, .ref hy), (1, .int se)] dX10_canBe_91 rfl (by decide) rfl ?_
                  refine x_iinc C 2 (x4_7 + 1) [(4, .int (x4_7 + 1)), (2, .int (x2_7 ||| 0)), (3, .int 0), (0, .ref hy), (1, .int se)] dX10_canBe_92 rfl rfl (by decide) rfl ?_
                  refine x_goto C 7 dX10_canBe_95 (by decide) ?_
                  refine x_lv [(4, .int (x4_7 + 1)), (3, .int 0), (2, .int (x2_7 ||| 0)), (0, .ref hy), (1, .int se)] [0, 2, 1, 3, 4] rfl ?_
                  have : (1 : Int32).toInt = 1 := by decide
                  have := i_add (x := x4_7) (y := 1) (by omega) (by omega)
                  have : (0 : Int32).toInt = 0 := by decide
                  exact ih_7 (x4_7 + 1) 0 (x2_7 ||| 0) ⟨by omega, by first | exact AX.keep i_7.2.1 (by omega) (by omega) | exact AX.yes i_7.2.1 (by omega) (by first | exact Or.inl ⟨by unfold bit1; omega, by omega⟩ | exact Or.inr ⟨by unfold bit1; omega, by omega⟩) (by omega) | exact AX.no (x := x4_7) (by omega) (fun h => by rcases h with h | h <;> (obtain ⟨h1, h2⟩ := h; unfold bit1 at h1; omega)) (by omega), by first | exact (congrArg (fun z => z ||| _) i_7.2.2).trans (btn_t (by omega) (by omega) (opn_t (by omega))).symm | exact (congrArg (fun z => z ||| 0) i_7.2.2).trans (btn_f (by omega) (by omega) (opn_f (by omega))).symm⟩ (by omega)
                · skip
                  have e_79 : ¬ ((ma (Int32.toNatClampNeg x4_7) : Int32).toInt ≤ (tl (Int32.toNatClampNeg x4_7) : Int32).toInt) := fun h => c_79 (i_le.mpr h)
                  refine x_iconst C 1 dX10_canBe_82 (by decide) ?_
                  refine x_iload C 1 dX10_canBe_83 rfl ?_
                  refine x_ishl C dX10_canBe_85 ?_
                  refine x_goto C 90 dX10_canBe_86 (by decide) ?_
                  refine x_ior C dX10_canBe_90 ?_
                  refine x_istore_n C [(2, .int (x2_7 ||| ((1 : Int32) <<< (x4_7 &&& 31)))), (3, .int 0), (4, .int x4_7), (0, .ref hy), (1, .int se)] dX10_canBe_91 rfl (by decide) rfl ?_
                  refine x_iinc C 2 (x4_7 + 1) [(4, .int (x4_7 + 1)), (2, .int (x2_7 ||| ((1 : Int32) <<< (x4_7 &&& 31)))), (3, .int 0), (0, .ref hy), (1, .int se)] dX10_canBe_92 rfl rfl (by decide) rfl ?_
                  refine x_goto C 7 dX10_canBe_95 (by decide) ?_
                  refine x_lv [(4, .int (x4_7 + 1)), (3, .int 0), (2, .int (x2_7 ||| ((1 : Int32) <<< (x4_7 &&& 31)))), (0, .ref hy), (1, .int se)] [0, 2, 1, 3, 4] rfl ?_
                  have : (1 : Int32).toInt = 1 := by decide
                  have := i_add (x := x4_7) (y := 1) (by omega) (by omega)
                  have : (0 : Int32).toInt = 0 := by decide
                  exact ih_7 (x4_7 + 1) 0 (x2_7 ||| ((1 : Int32) <<< (x4_7 &&& 31))) ⟨by omega, by first | exact AX.keep i_7.2.1 (by omega) (by omega) | exact AX.yes i_7.2.1 (by omega) (by first | exact Or.inl ⟨by unfold bit1; omega, by omega⟩ | exact Or.inr ⟨by unfold bit1; omega, by omega⟩) (by omega) | exact AX.no (x := x4_7) (by omega) (fun h => by rcases h with h | h <;> (obtain ⟨h1, h2⟩ := h; unfold bit1 at h1; omega)) (by omega), by first | exact (congrArg (fun z => z ||| _) i_7.2.2).trans (btn_t (by omega) (by omega) (opn_t (by omega))).symm | exact (congrArg (fun z => z ||| 0) i_7.2.2).trans (btn_f (by omega) (by omega) (opn_f (by omega))).symm⟩ (by omega)
            · skip
              have e_45 : ¬ ((0 : Int32).toInt < (tl (Int32.toNatClampNeg x4_7) : Int32).toInt) := fun h => c_45 (i_lt.mpr h)
              have : (0 : Int32).toInt = 0 := by decide
              refine x_iconst C 1 dX10_canBe_48 (by decide) ?_
              refine x_goto C 53 dX10_canBe_49 (by decide) ?_
              refine x_istore_n C [(3, .int 1), (4, .int x4_7), (2, .int x2_7), (0, .ref hy), (1, .int se)] dX10_canBe_53 rfl (by decide) rfl ?_
              refine x_iload_n C 2 dX10_canBe_54 rfl rfl ?_
              refine x_aload_n C 3 dX10_canBe_55 rfl rfl ?_
              refine x_get C 0 15 dX10_canBe_56 inlX10 rfl (by decide) wd_133 rfl rfl rfl ?_
              refine x_iload C 1 dX10_canBe_59 rfl ?_
              have v_61 : vp_in x4_7 4 := (vp_in_iff.mpr (by omega))
              refine x_iald C 1 0 dX10_canBe_61 hT.1 rfl v_61 ?_
              refine x_if_le C 89 dX10_canBe_62 (by decide) (fun c_62 => ?_) (fun c_62 => ?_)
              · skip
                have e_62 : (tl (Int32.toNatClampNeg x4_7) : Int32).toInt ≤ (0 : Int32).toInt := i_le.mp c_62
                have : (0 : Int32).toInt = 0 := by decide
                refine x_iconst C 0 dX10_canBe_89 (by decide) ?_
                refine x_ior C dX10_canBe_90 ?_
                refine x_istore_n C [(2, .int (x2_7 ||| 0)), (3, .int 1), (4, .int x4_7), (0, .ref hy), (1, .int se)] dX10_canBe_91 rfl (by decide) rfl ?_
                refine x_iinc C 2 (x4_7 + 1) [(4, .int (x4_7 + 1)), (2, .int (x2_7 ||| 0)), (3, .int 1), (0, .ref hy), (1, .int se)] dX10_canBe_92 rfl rfl (by decide) rfl ?_
                refine x_goto C 7 dX10_canBe_95 (by decide) ?_
                refine x_lv [(4, .int (x4_7 + 1)), (3, .int 1), (2, .int (x2_7 ||| 0)), (0, .ref hy), (1, .int se)] [0, 2, 1, 3, 4] rfl ?_
                have : (1 : Int32).toInt = 1 := by decide
                have := i_add (x := x4_7) (y := 1) (by omega) (by omega)
                have : (1 : Int32).toInt = 1 := by decide
                exact ih_7 (x4_7 + 1) 1 (x2_7 ||| 0) ⟨by omega, by first | exact AX.keep i_7.2.1 (by omega) (by omega) | exact AX.yes i_7.2.1 (by omega) (by first | exact Or.inl ⟨by unfold bit1; omega, by omega⟩ | exact Or.inr ⟨by unfold bit1; omega, by omega⟩) (by omega) | exact AX.no (x := x4_7) (by omega) (fun h => by rcases h with h | h <;> (obtain ⟨h1, h2⟩ := h; unfold bit1 at h1; omega)) (by omega), by first | exact (congrArg (fun z => z ||| _) i_7.2.2).trans (btn_t (by omega) (by omega) (opn_t (by omega))).symm | exact (congrArg (fun z => z ||| 0) i_7.2.2).trans (btn_f (by omega) (by omega) (opn_f (by omega))).symm⟩ (by omega)
              · skip
                have e_62 : ¬ ((tl (Int32.toNatClampNeg x4_7) : Int32).toInt ≤ (0 : Int32).toInt) := fun h => c_62 (i_le.mpr h)
                have : (0 : Int32).toInt = 0 := by decide
                refine x_aload_n C 3 dX10_canBe_65 rfl rfl ?_
                refine x_get C 0 15 dX10_canBe_66 inlX10 rfl (by decide) wd_133 rfl rfl rfl ?_
                refine x_iload C 1 dX10_canBe_69 rfl ?_
                have v_71 : vp_in x4_7 4 := (vp_in_iff.mpr (by omega))
                refine x_iald C 1 0 dX10_canBe_71 hT.1 rfl v_71 ?_
                refine x_aload_n C 3 dX10_canBe_72 rfl rfl ?_
                refine x_get C 0 2 dX10_canBe_73 inlX10 rfl (by decide) wd_124 rfl rfl rfl ?_
                refine x_iload C 1 dX10_canBe_76 rfl ?_
                have v_78 : vp_in x4_7 4 := (vp_in_iff.mpr (by omega))
                refine x_iald C 2 0 dX10_canBe_78 hT.1 rfl v_78 ?_
                refine x_icmp_ge C 89 dX10_canBe_79 (by decide) (fun c_79 => ?_) (fun c_79 => ?_)
                · skip
                  have e_79 : (ma (Int32.toNatClampNeg x4_7) : Int32).toInt ≤ (tl (Int32.toNatClampNeg x4_7) : Int32).toInt := i_le.mp c_79
                  refine x_iconst C 0 dX10_canBe_89 (by decide) ?_
                  refine x_ior C dX10_canBe_90 ?_
                  refine x_istore_n C [(2, .int (x2_7 ||| 0)), (3, .int 1), (4, .int x4_7), (0, .ref hy), (1, .int se)] dX10_canBe_91 rfl (by decide) rfl ?_
                  refine x_iinc C 2 (x4_7 + 1) [(4, .int (x4_7 + 1)), (2, .int (x2_7 ||| 0)), (3, .int 1), (0, .ref hy), (1, .int se)] dX10_canBe_92 rfl rfl (by decide) rfl ?_
                  refine x_goto C 7 dX10_canBe_95 (by decide) ?_
                  refine x_lv [(4, .int (x4_7 + 1)), (3, .int 1), (2, .int (x2_7 ||| 0)), (0, .ref hy), (1, .int se)] [0, 2, 1, 3, 4] rfl ?_
                  have : (1 : Int32).toInt = 1 := by decide
                  have := i_add (x := x4_7) (y := 1) (by omega) (by omega)
                  have : (1 : Int32).toInt = 1 := by decide
                  exact ih_7 (x4_7 + 1) 1 (x2_7 ||| 0) ⟨by omega, by first | exact AX.keep i_7.2.1 (by omega) (by omega) | exact AX.yes i_7.2.1 (by omega) (by first | exact Or.inl ⟨by unfold bit1; omega, by omega⟩ | exact Or.inr ⟨by unfold bit1; omega, by omega⟩) (by omega) | exact AX.no (x := x4_7) (by omega) (fun h => by rcases h with h | h <;> (obtain ⟨h1, h2⟩ := h; unfold bit1 at h1; omega)) (by omega), by first | exact (congrArg (fun z => z ||| _) i_7.2.2).trans (btn_t (by omega) (by omega) (opn_t (by omega))).symm | exact (congrArg (fun z => z ||| 0) i_7.2.2).trans (btn_f (by omega) (by omega) (opn_f (by omega))).symm⟩ (by omega)
                · skip
                  have e_79 : ¬ ((ma (Int32.toNatClampNeg x4_7) : Int32).toInt ≤ (tl (Int32.toNatClampNeg x4_7) : Int32).toInt) := fun h => c_79 (i_le.mpr h)
                  refine x_iconst C 1 dX10_canBe_82 (by decide) ?_
                  refine x_iload C 1 dX10_canBe_83 rfl ?_
                  refine x_ishl C dX10_canBe_85 ?_
                  refine x_goto C 90 dX10_canBe_86 (by decide) ?_
                  refine x_ior C dX10_canBe_90 ?_
                  refine x_istore_n C [(2, .int (x2_7 ||| ((1 : Int32) <<< (x4_7 &&& 31)))), (3, .int 1), (4, .int x4_7), (0, .ref hy), (1, .int se)] dX10_canBe_91 rfl (by decide) rfl ?_
                  refine x_iinc C 2 (x4_7 + 1) [(4, .int (x4_7 + 1)), (2, .int (x2_7 ||| ((1 : Int32) <<< (x4_7 &&& 31)))), (3, .int 1), (0, .ref hy), (1, .int se)] dX10_canBe_92 rfl rfl (by decide) rfl ?_
                  refine x_goto C 7 dX10_canBe_95 (by decide) ?_
                  refine x_lv [(4, .int (x4_7 + 1)), (3, .int 1), (2, .int (x2_7 ||| ((1 : Int32) <<< (x4_7 &&& 31)))), (0, .ref hy), (1, .int se)] [0, 2, 1, 3, 4] rfl ?_
                  have : (1 : Int32).toInt = 1 := by decide
                  have := i_add (x := x4_7) (y := 1) (by omega) (by omega)
                  have : (1 : Int32).toInt = 1 := by decide
                  exact ih_7 (x4_7 + 1) 1 (x2_7 ||| ((1 : Int32) <<< (x4_7 &&& 31))) ⟨by omega, by first | exact AX.keep i_7.2.1 (by omega) (by omega) | exact AX.yes i_7.2.1 (by omega) (by first | exact Or.inl ⟨by unfold bit1; omega, by omega⟩ | exact Or.inr ⟨by unfold bit1; omega, by omega⟩) (by omega) | exact AX.no (x := x4_7) (by omega) (fun h => by rcases h with h | h <;> (obtain ⟨h1, h2⟩ := h; unfold bit1 at h1; omega)) (by omega), by first | exact (congrArg (fun z => z ||| _) i_7.2.2).trans (btn_t (by omega) (by omega) (opn_t (by omega))).symm | exact (congrArg (fun z => z ||| 0) i_7.2.2).trans (btn_f (by omega) (by omega) (opn_f (by omega))).symm⟩ (by omega)
          · skip
            have e_31 : ((se >>> (x4_7 &&& 31)) &&& 1 : Int32).toInt = (1 : Int32).toInt := i_eq.mp c_31
            have : (1 : Int32).toInt = 1 := by decide
            refine x_aload_n C 3 dX10_canBe_34 rfl rfl ?_
            refine x_get C 0 2 dX10_canBe_35 inlX10 rfl (by decide) wd_124 rfl rfl rfl ?_
            refine x_iload C 0 dX10_canBe_38 rfl ?_
            have v_40 : vp_in x4_7 4 := (vp_in_iff.mpr (by omega))
            refine x_iald C 2 0 dX10_canBe_40 hT.1 rfl v_40 ?_
            refine x_goto C 45 dX10_canBe_41 (by decide) ?_
            refine x_icmp_gt C 52 dX10_canBe_45 (by decide) (fun c_45 => ?_) (fun c_45 => ?_)
            · skip
              have e_45 : (ma (Int32.toNatClampNeg x4_7) : Int32).toInt < (tl (Int32.toNatClampNeg x4_7) : Int32).toInt := i_lt.mp c_45
              refine x_iconst C 0 dX10_canBe_52 (by decide) ?_
              refine x_istore_n C [(3, .int 0), (4, .int x4_7), (2, .int x2_7), (0, .ref hy), (1, .int se)] dX10_canBe_53 rfl (by decide) rfl ?_
              refine x_iload_n C 2 dX10_canBe_54 rfl rfl ?_
              refine x_aload_n C 3 dX10_canBe_55 rfl rfl ?_
              refine x_get C 0 15 dX10_canBe_56 inlX10 rfl (by decide) wd_133 rfl rfl rfl ?_
              refine x_iload C 1 dX10_canBe_59 rfl ?_
              have v_61 : vp_in x4_7 4 := (vp_in_iff.mpr (by omega))
              refine x_iald C 1 0 dX10_canBe_61 hT.1 rfl v_61 ?_
              refine x_if_le C 89 dX10_canBe_62 (by decide) (fun c_62 => ?_) (fun c_62 => ?_)
              · skip
                have e_62 : (tl (Int32.toNatClampNeg x4_7) : Int32).toInt ≤ (0 : Int32).toInt := i_le.mp c_62
                have : (0 : Int32).toInt = 0 := by decide
                refine x_iconst C 0 dX10_canBe_89 (by decide) ?_
                refine x_ior C dX10_canBe_90 ?_
                refine x_istore_n C [(2, .int (x2_7 ||| 0)), (3, .int 0), (4, .int x4_7), (0, .ref hy), (1, .int se)] dX10_canBe_91 rfl (by decide) rfl ?_
                refine x_iinc C 2 (x4_7 + 1) [(4, .int (x4_7 + 1)), (2, .int (x2_7 ||| 0)), (3, .int 0), (0, .ref hy), (1, .int se)] dX10_canBe_92 rfl rfl (by decide) rfl ?_
                refine x_goto C 7 dX10_canBe_95 (by decide) ?_
                refine x_lv [(4, .int (x4_7 + 1)), (3, .int 0), (2, .int (x2_7 ||| 0)), (0, .ref hy), (1, .int se)] [0, 2, 1, 3, 4] rfl ?_
                have : (1 : Int32).toInt = 1 := by decide
                have := i_add (x := x4_7) (y := 1) (by omega) (by omega)
                have : (0 : Int32).toInt = 0 := by decide
                exact ih_7 (x4_7 + 1) 0 (x2_7 ||| 0) ⟨by omega, by first | exact AX.keep i_7.2.1 (by omega) (by omega) | exact AX.yes i_7.2.1 (by omega) (by first | exact Or.inl ⟨by unfold bit1; omega, by omega⟩ | exact Or.inr ⟨by unfold bit1; omega, by omega⟩) (by omega) | exact AX.no (x := x4_7) (by omega) (fun h => by rcases h with h | h <;> (obtain ⟨h1, h2⟩ := h; unfold bit1 at h1; omega)) (by omega), by first | exact (congrArg (fun z => z ||| _) i_7.2.2).trans (btn_t (by omega) (by omega) (opn_t (by omega))).symm | exact (congrArg (fun z => z ||| 0) i_7.2.2).trans (btn_f (by omega) (by omega) (opn_f (by omega))).symm⟩ (by omega)
              · skip
                have e_62 : ¬ ((tl (Int32.toNatClampNeg x4_7) : Int32).toInt ≤ (0 : Int32).toInt) := fun h => c_62 (i_le.mpr h)
                have : (0 : Int32).toInt = 0 := by decide
                refine x_aload_n C 3 dX10_canBe_65 rfl rfl ?_
                refine x_get C 0 15 dX10_canBe_66 inlX10 rfl (by decide) wd_133 rfl rfl rfl ?_
                refine x_iload C 1 dX10_canBe_69 rfl ?_
                have v_71 : vp_in x4_7 4 := (vp_in_iff.mpr (by omega))
                refine x_iald C 1 0 dX10_canBe_71 hT.1 rfl v_71 ?_
                refine x_aload_n C 3 dX10_canBe_72 rfl rfl ?_
                refine x_get C 0 2 dX10_canBe_73 inlX10 rfl (by decide) wd_124 rfl rfl rfl ?_
                refine x_iload C 1 dX10_canBe_76 rfl ?_
                have v_78 : vp_in x4_7 4 := (vp_in_iff.mpr (by omega))
                refine x_iald C 2 0 dX10_canBe_78 hT.1 rfl v_78 ?_
                refine x_icmp_ge C 89 dX10_canBe_79 (by decide) (fun c_79 => ?_) (fun c_79 => ?_)
                · skip
                  have e_79 : (ma (Int32.toNatClampNeg x4_7) : Int32).toInt ≤ (tl (Int32.toNatClampNeg x4_7) : Int32).toInt := i_le.mp c_79
                  refine x_iconst C 0 dX10_canBe_89 (by decide) ?_
                  refine x_ior C dX10_canBe_90 ?_
                  refine x_istore_n C [(2, .int (x2_7 ||| 0)), (3, .int 0), (4, .int x4_7), (0, .ref hy), (1, .int se)] dX10_canBe_91 rfl (by decide) rfl ?_
                  refine x_iinc C 2 (x4_7 + 1) [(4, .int (x4_7 + 1)), (2, .int (x2_7 ||| 0)), (3, .int 0), (0, .ref hy), (1, .int se)] dX10_canBe_92 rfl rfl (by decide) rfl ?_
                  refine x_goto C 7 dX10_canBe_95 (by decide) ?_
                  refine x_lv [(4, .int (x4_7 + 1)), (3, .int 0), (2, .int (x2_7 ||| 0)), (0, .ref hy), (1, .int se)] [0, 2, 1, 3, 4] rfl ?_
                  have : (1 : Int32).toInt = 1 := by decide
                  have := i_add (x := x4_7) (y := 1) (by omega) (by omega)
                  have : (0 : Int32).toInt = 0 := by decide
                  exact ih_7 (x4_7 + 1) 0 (x2_7 ||| 0) ⟨by omega, by first | exact AX.keep i_7.2.1 (by omega) (by omega) | exact AX.yes i_7.2.1 (by omega) (by first | exact Or.inl ⟨by unfold bit1; omega, by omega⟩ | exact Or.inr ⟨by unfold bit1; omega, by omega⟩) (by omega) | exact AX.no (x := x4_7) (by omega) (fun h => by rcases h with h | h <;> (obtain ⟨h1, h2⟩ := h; unfold bit1 at h1; omega)) (by omega), by first | exact (congrArg (fun z => z ||| _) i_7.2.2).trans (btn_t (by omega) (by omega) (opn_t (by omega))).symm | exact (congrArg (fun z => z ||| 0) i_7.2.2).trans (btn_f (by omega) (by omega) (opn_f (by omega))).symm⟩ (by omega)
                · skip
                  have e_79 : ¬ ((ma (Int32.toNatClampNeg x4_7) : Int32).toInt ≤ (tl (Int32.toNatClampNeg x4_7) : Int32).toInt) := fun h => c_79 (i_le.mpr h)
                  refine x_iconst C 1 dX10_canBe_82 (by decide) ?_
                  refine x_iload C 1 dX10_canBe_83 rfl ?_
                  refine x_ishl C dX10_canBe_85 ?_
                  refine x_goto C 90 dX10_canBe_86 (by decide) ?_
                  refine x_ior C dX10_canBe_90 ?_
                  refine x_istore_n C [(2, .int (x2_7 ||| ((1 : Int32) <<< (x4_7 &&& 31)))), (3, .int 0), (4, .int x4_7), (0, .ref hy), (1, .int se)] dX10_canBe_91 rfl (by decide) rfl ?_
                  refine x_iinc C 2 (x4_7 + 1) [(4, .int (x4_7 + 1)), (2, .int (x2_7 ||| ((1 : Int32) <<< (x4_7 &&& 31)))), (3, .int 0), (0, .ref hy), (1, .int se)] dX10_canBe_92 rfl rfl (by decide) rfl ?_
                  refine x_goto C 7 dX10_canBe_95 (by decide) ?_
                  refine x_lv [(4, .int (x4_7 + 1)), (3, .int 0), (2, .int (x2_7 ||| ((1 : Int32) <<< (x4_7 &&& 31)))), (0, .ref hy), (1, .int se)] [0, 2, 1, 3, 4] rfl ?_
                  have : (1 : Int32).toInt = 1 := by decide
                  have := i_add (x := x4_7) (y := 1) (by omega) (by omega)
                  have : (0 : Int32).toInt = 0 := by decide
                  exact ih_7 (x4_7 + 1) 0 (x2_7 ||| ((1 : Int32) <<< (x4_7 &&& 31))) ⟨by omega, by first | exact AX.keep i_7.2.1 (by omega) (by omega) | exact AX.yes i_7.2.1 (by omega) (by first | exact Or.inl ⟨by unfold bit1; omega, by omega⟩ | exact Or.inr ⟨by unfold bit1; omega, by omega⟩) (by omega) | exact AX.no (x := x4_7) (by omega) (fun h => by rcases h with h | h <;> (obtain ⟨h1, h2⟩ := h; unfold bit1 at h1; omega)) (by omega), by first | exact (congrArg (fun z => z ||| _) i_7.2.2).trans (btn_t (by omega) (by omega) (opn_t (by omega))).symm | exact (congrArg (fun z => z ||| 0) i_7.2.2).trans (btn_f (by omega) (by omega) (opn_f (by omega))).symm⟩ (by omega)
            · skip
              have e_45 : ¬ ((ma (Int32.toNatClampNeg x4_7) : Int32).toInt < (tl (Int32.toNatClampNeg x4_7) : Int32).toInt) := fun h => c_45 (i_lt.mpr h)
              refine x_iconst C 1 dX10_canBe_48 (by decide) ?_
              refine x_goto C 53 dX10_canBe_49 (by decide) ?_
              refine x_istore_n C [(3, .int 1), (4, .int x4_7), (2, .int x2_7), (0, .ref hy), (1, .int se)] dX10_canBe_53 rfl (by decide) rfl ?_
              refine x_iload_n C 2 dX10_canBe_54 rfl rfl ?_
              refine x_aload_n C 3 dX10_canBe_55 rfl rfl ?_
              refine x_get C 0 15 dX10_canBe_56 inlX10 rfl (by decide) wd_133 rfl rfl rfl ?_
              refine x_iload C 1 dX10_canBe_59 rfl ?_
              have v_61 : vp_in x4_7 4 := (vp_in_iff.mpr (by omega))
              refine x_iald C 1 0 dX10_canBe_61 hT.1 rfl v_61 ?_
              refine x_if_le C 89 dX10_canBe_62 (by decide) (fun c_62 => ?_) (fun c_62 => ?_)
              · skip
                have e_62 : (tl (Int32.toNatClampNeg x4_7) : Int32).toInt ≤ (0 : Int32).toInt := i_le.mp c_62
                have : (0 : Int32).toInt = 0 := by decide
                refine x_iconst C 0 dX10_canBe_89 (by decide) ?_
                refine x_ior C dX10_canBe_90 ?_
                refine x_istore_n C [(2, .int (x2_7 ||| 0)), (3, .int 1), (4, .int x4_7), (0, .ref hy), (1, .int se)] dX10_canBe_91 rfl (by decide) rfl ?_
                refine x_iinc C 2 (x4_7 + 1) [(4, .int (x4_7 + 1)), (2, .int (x2_7 ||| 0)), (3, .int 1), (0, .ref hy), (1, .int se)] dX10_canBe_92 rfl rfl (by decide) rfl ?_
                refine x_goto C 7 dX10_canBe_95 (by decide) ?_
                refine x_lv [(4, .int (x4_7 + 1)), (3, .int 1), (2, .int (x2_7 ||| 0)), (0, .ref hy), (1, .int se)] [0, 2, 1, 3, 4] rfl ?_
                have : (1 : Int32).toInt = 1 := by decide
                have := i_add (x := x4_7) (y := 1) (by omega) (by omega)
                have : (1 : Int32).toInt = 1 := by decide
                exact ih_7 (x4_7 + 1) 1 (x2_7 ||| 0) ⟨by omega, by first | exact AX.keep i_7.2.1 (by omega) (by omega) | exact AX.yes i_7.2.1 (by omega) (by first | exact Or.inl ⟨by unfold bit1; omega, by omega⟩ | exact Or.inr ⟨by unfold bit1; omega, by omega⟩) (by omega) | exact AX.no (x := x4_7) (by omega) (fun h => by rcases h with h | h <;> (obtain ⟨h1, h2⟩ := h; unfold bit1 at h1; omega)) (by omega), by first | exact (congrArg (fun z => z ||| _) i_7.2.2).trans (btn_t (by omega) (by omega) (opn_t (by omega))).symm | exact (congrArg (fun z => z ||| 0) i_7.2.2).trans (btn_f (by omega) (by omega) (opn_f (by omega))).symm⟩ (by omega)
              · skip
                have e_62 : ¬ ((tl (Int32.toNatClampNeg x4_7) : Int32).toInt ≤ (0 : Int32).toInt) := fun h => c_62 (i_le.mpr h)
                have : (0 : Int32).toInt = 0 := by decide
                refine x_aload_n C 3 dX10_canBe_65 rfl rfl ?_
                refine x_get C 0 15 dX10_canBe_66 inlX10 rfl (by decide) wd_133 rfl rfl rfl ?_
                refine x_iload C 1 dX10_canBe_69 rfl ?_
                have v_71 : vp_in x4_7 4 := (vp_in_iff.mpr (by omega))
                refine x_iald C 1 0 dX10_canBe_71 hT.1 rfl v_71 ?_
                refine x_aload_n C 3 dX10_canBe_72 rfl rfl ?_
                refine x_get C 0 2 dX10_canBe_73 inlX10 rfl (by decide) wd_124 rfl rfl rfl ?_
                refine x_iload C 1 dX10_canBe_76 rfl ?_
                have v_78 : vp_in x4_7 4 := (vp_in_iff.mpr (by omega))
                refine x_iald C 2 0 dX10_canBe_78 hT.1 rfl v_78 ?_
                refine x_icmp_ge C 89 dX10_canBe_79 (by decide) (fun c_79 => ?_) (fun c_79 => ?_)
                · skip
                  have e_79 : (ma (Int32.toNatClampNeg x4_7) : Int32).toInt ≤ (tl (Int32.toNatClampNeg x4_7) : Int32).toInt := i_le.mp c_79
                  refine x_iconst C 0 dX10_canBe_89 (by decide) ?_
                  refine x_ior C dX10_canBe_90 ?_
                  refine x_istore_n C [(2, .int (x2_7 ||| 0)), (3, .int 1), (4, .int x4_7), (0, .ref hy), (1, .int se)] dX10_canBe_91 rfl (by decide) rfl ?_
                  refine x_iinc C 2 (x4_7 + 1) [(4, .int (x4_7 + 1)), (2, .int (x2_7 ||| 0)), (3, .int 1), (0, .ref hy), (1, .int se)] dX10_canBe_92 rfl rfl (by decide) rfl ?_
                  refine x_goto C 7 dX10_canBe_95 (by decide) ?_
                  refine x_lv [(4, .int (x4_7 + 1)), (3, .int 1), (2, .int (x2_7 ||| 0)), (0, .ref hy), (1, .int se)] [0, 2, 1, 3, 4] rfl ?_
                  have : (1 : Int32).toInt = 1 := by decide
                  have := i_add (x := x4_7) (y := 1) (by omega) (by omega)
                  have : (1 : Int32).toInt = 1 := by decide
                  exact ih_7 (x4_7 + 1) 1 (x2_7 ||| 0) ⟨by omega, by first | exact AX.keep i_7.2.1 (by omega) (by omega) | exact AX.yes i_7.2.1 (by omega) (by first | exact Or.inl ⟨by unfold bit1; omega, by omega⟩ | exact Or.inr ⟨by unfold bit1; omega, by omega⟩) (by omega) | exact AX.no (x := x4_7) (by omega) (fun h => by rcases h with h | h <;> (obtain ⟨h1, h2⟩ := h; unfold bit1 at h1; omega)) (by omega), by first | exact (congrArg (fun z => z ||| _) i_7.2.2).trans (btn_t (by omega) (by omega) (opn_t (by omega))).symm | exact (congrArg (fun z => z ||| 0) i_7.2.2).trans (btn_f (by omega) (by omega) (opn_f (by omega))).symm⟩ (by omega)
                · skip
                  have e_79 : ¬ ((ma (Int32.toNatClampNeg x4_7) : Int32).toInt ≤ (tl (Int32.toNatClampNeg x4_7) : Int32).toInt) := fun h => c_79 (i_le.mpr h)
                  refine x_iconst C 1 dX10_canBe_82 (by decide) ?_
                  refine x_iload C 1 dX10_canBe_83 rfl ?_
                  refine x_ishl C dX10_canBe_85 ?_
                  refine x_goto C 90 dX10_canBe_86 (by decide) ?_
                  refine x_ior C dX10_canBe_90 ?_
                  refine x_istore_n C [(2, .int (x2_7 ||| ((1 : Int32) <<< (x4_7 &&& 31)))), (3, .int 1), (4, .int x4_7), (0, .ref hy), (1, .int se)] dX10_canBe_91 rfl (by decide) rfl ?_
                  refine x_iinc C 2 (x4_7 + 1) [(4, .int (x4_7 + 1)), (2, .int (x2_7 ||| ((1 : Int32) <<< (x4_7 &&& 31)))), (3, .int 1), (0, .ref hy), (1, .int se)] dX10_canBe_92 rfl rfl (by decide) rfl ?_
                  refine x_goto C 7 dX10_canBe_95 (by decide) ?_
                  refine x_lv [(4, .int (x4_7 + 1)), (3, .int 1), (2, .int (x2_7 ||| ((1 : Int32) <<< (x4_7 &&& 31)))), (0, .ref hy), (1, .int se)] [0, 2, 1, 3, 4] rfl ?_
                  have : (1 : Int32).toInt = 1 := by decide
                  have := i_add (x := x4_7) (y := 1) (by omega) (by omega)
                  have : (1 : Int32).toInt = 1 := by decide
                  exact ih_7 (x4_7 + 1) 1 (x2_7 ||| ((1 : Int32) <<< (x4_7 &&& 31))) ⟨by omega, by first | exact AX.keep i_7.2.1 (by omega) (by omega) | exact AX.yes i_7.2.1 (by omega) (by first | exact Or.inl ⟨by unfold bit1; omega, by omega⟩ | exact Or.inr ⟨by unfold bit1; omega, by omega⟩) (by omega) | exact AX.no (x := x4_7) (by omega) (fun h => by rcases h with h | h <;> (obtain ⟨h1, h2⟩ := h; unfold bit1 at h1; omega)) (by omega), by first | exact (congrArg (fun z => z ||| _) i_7.2.2).trans (btn_t (by omega) (by omega) (opn_t (by omega))).symm | exact (congrArg (fun z => z ||| 0) i_7.2.2).trans (btn_f (by omega) (by omega) (opn_f (by omega))).symm⟩ (by omega)
  have : (0 : Int32).toInt = 0 := by decide
  have : (1 : Int32).toInt = 1 := by decide
  have : (0 : Int32).toInt = 0 := by decide
  exact L_7 _ 0 1 0 ⟨by omega, TB.one (AX.z (by omega)), rfl⟩ (Nat.lt_succ_self _)
abbrev rm_X10_isWhole : Room := { frames := 1, cells := 0, slots := 0, locals := 21 }
set_option maxHeartbeats 4000000 in
set_option maxRecDepth 100000 in
theorem c_X10_isWhole (l : Launch) (D : va_G) (tys : List (ClassId × FieldType)) {cI cJ cZ cB : ClassId} (hT : Ty tys cI cJ cZ cB) (hy m0 m1 m2 m3 m4 m5 m6 m7 m8 m9 m10 m11 m12 m13 m14 m15 m16 m17 m18 : Nat) (tl ma : Nat → Int32) (mw ml mb mz op bp by0 dp tk ka iw : Int32) (se : Int32)  : Cn l D tys yX10_isWhole cX10_isWhole 4 (some .boolean) rm_X10_isWhole [(hy, .inr (10, [.ref m0, .ref m1, .ref m2, .ref m3, .ref m4, .ref m5, .ref m6, .ref m7, .ref m8, .ref m9, .int mw, .int ml, .int mb, .ref m10, .int mz, .ref m11, .int op, .int bp, .int by0, .int dp, .int tk, .ref m12, .ref m13, .ref m14, .ref m15, .ref m16, .ref m17, .ref m18, .int ka, .int iw])), (m11, .inl (cI, 4, .inl tl)), (m2, .inl (cI, 4, .inl ma))] [.ref hy, .int se] (fun v W1 => ∃ (r : Int32), v = some (.int r) ∧ W1 = [(hy, .inr (10, [.ref m0, .ref m1, .ref m2, .ref m3, .ref m4, .ref m5, .ref m6, .ref m7, .ref m8, .ref m9, .int mw, .int ml, .int mb, .ref m10, .int mz, .ref m11, .int op, .int bp, .int by0, .int dp, .int tk, .ref m12, .ref m13, .ref m14, .ref m15, .ref m16, .ref m17, .ref m18, .int ka, .int iw])), (m11, .inl (cI, 4, .inl tl)), (m2, .inl (cI, 4, .inl ma))] ∧ (TB r (WH ma tl se))) := by
  refine Cn.of (by decide) (Nat.le_of_ble_eq_true rfl) ?_ ?_ (fun X eL eD eT eO eK eN eM C => ?_)
  · intro _ v ws h; obtain ⟨_, rfl, rfl, h⟩ := h; exact z_of h.n
  · intro v ws h; obtain ⟨_, rfl, rfl, _⟩ := h; exact Or.inr rfl
  subst eL eD eT
  show V X 4 [(hy, .inr (10, [.ref m0, .ref m1, .ref m2, .ref m3, .ref m4, .ref m5, .ref m6, .ref m7, .ref m8, .ref m9, .int mw, .int ml, .int mb, .ref m10, .int mz, .ref m11, .int op, .int bp, .int by0, .int dp, .int tk, .ref m12, .ref m13, .ref m14, .ref m15, .ref m16, .ref m17, .ref m18, .int ka, .int iw])), (m11, .inl (cI, 4, .inl tl)), (m2, .inl (cI, 4, .inl ma))] [(0, .ref hy), (1, .int se)] [] 0 0 0
  refine x_iconst C 1 dX10_isWhole_0 (by decide) ?_
  refine x_istore_n C [(2, .int 1), (0, .ref hy), (1, .int se)] dX10_isWhole_1 rfl (by decide) rfl ?_
  refine x_iconst C 0 dX10_isWhole_2 (by decide) ?_
  refine x_istore_n C [(3, .int 0), (2, .int 1), (0, .ref hy), (1, .int se)] dX10_isWhole_3 rfl (by decide) rfl ?_
  have L_4 : ∀ (n_4 : Nat) (x3_4 : Int32) (x2_4 : Int32), ((0 ≤ x3_4.toInt ∧ x3_4.toInt ≤ 4 ∧ (x2_4.toInt = 0 ∨ x2_4.toInt = 1)) ∧ TB x2_4 (AX (fun y => ((se >>> (y &&& 31)) &&& 1).toInt = 0 ∨ (tl y.toNatClampNeg).toInt = (ma y.toNatClampNeg).toInt) x3_4)) → ((4 - x3_4.toInt).toNat < n_4) → V X 4 [(hy, .inr (10, [.ref m0, .ref m1, .ref m2, .ref m3, .ref m4, .ref m5, .ref m6, .ref m7, .ref m8, .ref m9, .int mw, .int ml, .int mb, .ref m10, .int mz, .ref m11, .int op, .int bp, .int by0, .int dp, .int tk, .ref m12, .ref m13, .ref m14, .ref m15, .ref m16, .ref m17, .ref m18, .int ka, .int iw])), (m11, .inl (cI, 4, .inl tl)), (m2, .inl (cI, 4, .inl ma))] [(3, .int x3_4), (2, .int x2_4), (0, .ref hy), (1, .int se)] [] 4 0 0 := by
    intro n_4
    induction n_4 with
    | zero =>
      intro x3_4 x2_4 i_4 m_4
      exact absurd m_4 (Nat.not_lt_zero _)
    | succ n_4 ih_4 =>
      intro x3_4 x2_4 i_4 m_4
      refine x_iload_n C 0 dX10_isWhole_4 rfl rfl ?_
      refine x_iconst C 4 dX10_isWhole_5 (by decide) ?_
      refine x_icmp_ge C 41 dX10_isWhole_6 (by decide) (fun c_6 => ?_) (fun c_6 => ?_)
      · skip
        have e_6 : (4 : Int32).toInt ≤ (x3_4 : Int32).toInt := i_le.mp c_6
        have : (4 : Int32).toInt = 4 := by decide
        refine x_iload_n C 1 dX10_isWhole_41 rfl rfl ?_
        have := t4_
        exact x_iret C dX10_isWhole_42 (Nat.zero_le _) (Nat.zero_le _) (by rw [eO]; exact ⟨x2_4, rfl, rfl, (i_4.2.iff (AX.at (by omega)))⟩)
      · skip
        have e_6 : ¬ ((4 : Int32).toInt ≤ (x3_4 : Int32).toInt) := fun h => c_6 (i_le.mpr h)
        have : (4 : Int32).toInt = 4 := by decide
        refine x_iload_n C 1 dX10_isWhole_9 rfl rfl ?_
        refine x_if_eq C 33 dX10_isWhole_10 (by decide) (fun c_10 => ?_) (fun c_10 => ?_)
        · skip
          have e_10 : (x2_4 : Int32).toInt = (0 : Int32).toInt := i_eq.mp c_10
          have : (0 : Int32).toInt = 0 := by decide
          refine x_iconst C 0 dX10_isWhole_33 (by decide) ?_
          refine x_istore_n C [(2, .int 0), (3, .int x3_4), (0, .ref hy), (1, .int se)] dX10_isWhole_34 rfl (by decide) rfl ?_
          refine x_iinc C 1 (x3_4 + 1) [(3, .int (x3_4 + 1)), (2, .int 0), (0, .ref hy), (1, .int se)] dX10_isWhole_35 rfl rfl (by decide) rfl ?_
          refine x_goto C 4 dX10_isWhole_38 (by decide) ?_
          have : (1 : Int32).toInt = 1 := by decide
          have := i_add (x := x3_4) (y := 1) (by omega) (by omega)
          have : (0 : Int32).toInt = 0 := by decide
          exact ih_4 (x3_4 + 1) 0 ⟨by omega, by first | exact AX.keep i_4.2 (by omega) (by omega) | exact AX.yes i_4.2 (by omega) (by first | exact Or.inl (by omega) | exact Or.inr (by omega)) (by omega) | exact AX.no (x := x3_4) (by omega) (fun h => by rcases h with h | h <;> omega) (by omega)⟩ (by omega)
        · skip
          have e_10 : ¬ ((x2_4 : Int32).toInt = (0 : Int32).toInt) := fun h => c_10 (i_eq.mpr h)
          have : (0 : Int32).toInt = 0 := by decide
          refine x_iload_n C 3 dX10_isWhole_13 rfl rfl ?_
          refine x_iload_n C 0 dX10_isWhole_14 rfl rfl ?_
          refine x_ishr C dX10_isWhole_15 ?_
          refine x_iconst C 1 dX10_isWhole_16 (by decide) ?_
          refine x_iand C dX10_isWhole_17 ?_
          refine x_if_eq C 29 dX10_isWhole_18 (by decide) (fun c_18 => ?_) (fun c_18 => ?_)
          · skip
            have e_18 : ((se >>> (x3_4 &&& 31)) &&& 1 : Int32).toInt = (0 : Int32).toInt := i_eq.mp c_18
            have : (0 : Int32).toInt = 0 := by decide
            refine x_iconst C 1 dX10_isWhole_29 (by decide) ?_
            refine x_goto C 34 dX10_isWhole_30 (by decide) ?_
            refine x_istore_n C [(2, .int 1), (3, .int x3_4), (0, .ref hy), (1, .int se)] dX10_isWhole_34 rfl (by decide) rfl ?_
            refine x_iinc C 1 (x3_4 + 1) [(3, .int (x3_4 + 1)), (2, .int 1), (0, .ref hy), (1, .int se)] dX10_isWhole_35 rfl rfl (by decide) rfl ?_
            refine x_goto C 4 dX10_isWhole_38 (by decide) ?_
            have : (1 : Int32).toInt = 1 := by decide
            have := i_add (x := x3_4) (y := 1) (by omega) (by omega)
            have : (1 : Int32).toInt = 1 := by decide
            exact ih_4 (x3_4 + 1) 1 ⟨by omega, by first | exact AX.keep i_4.2 (by omega) (by omega) | exact AX.yes i_4.2 (by omega) (by first | exact Or.inl (by omega) | exact Or.inr (by omega)) (by omega) | exact AX.no (x := x3_4) (by omega) (fun h => by rcases h with h | h <;> omega) (by omega)⟩ (by omega)
          · skip
            have e_18 : ¬ (((se >>> (x3_4 &&& 31)) &&& 1 : Int32).toInt = (0 : Int32).toInt) := fun h => c_18 (i_eq.mpr h)
            have : (0 : Int32).toInt = 0 := by decide
            refine x_aload_n C 2 dX10_isWhole_21 rfl rfl ?_
            refine x_iload_n C 0 dX10_isWhole_22 rfl rfl ?_
            refine x_callV C [.int x3_4] [] [0, 1, 2] [] (q0 := 0) (c_X10_isOut (xl X) (xD X) (xt X) hT hy m0 m1 m2 m3 m4 m5 m6 m7 m8 m9 m10 m11 m12 m13 m14 m15 m16 m17 m18 tl ma mw ml mb mz op bp by0 dp tk ka iw x3_4 (by omega)) dX10_isWhole_23 wd_443 wd_444 wd_445 wd_5 wd_446 (np := 1) ⟨by decide, by decide, by decide +kernel⟩ rfl rfl (Nat.le_of_ble_eq_true rfl) (by decide) rfl rfl rfl rfl (by decide) rfl (by decide) (by decide) (fun v W1 h => ?_)
            obtain ⟨r_23, rfl, rfl, h_23⟩ := h
            show V X 4 [(hy, .inr (10, [.ref m0, .ref m1, .ref m2, .ref m3, .ref m4, .ref m5, .ref m6, .ref m7, .ref m8, .ref m9, .int mw, .int ml, .int mb, .ref m10, .int mz, .ref m11, .int op, .int bp, .int by0, .int dp, .int tk, .ref m12, .ref m13, .ref m14, .ref m15, .ref m16, .ref m17, .ref m18, .int ka, .int iw])), (m11, .inl (cI, 4, .inl tl)), (m2, .inl (cI, 4, .inl ma))] [(3, .int x3_4), (2, .int x2_4), (0, .ref hy), (1, .int se)] [.int r_23] 26 0 0
            refine x_if_eq C 33 dX10_isWhole_26 (by decide) (fun c_26 => ?_) (fun c_26 => ?_)
            · skip
              have e_26 : (r_23 : Int32).toInt = (0 : Int32).toInt := i_eq.mp c_26
              have : (0 : Int32).toInt = 0 := by decide
              refine x_iconst C 0 dX10_isWhole_33 (by decide) ?_
              refine x_istore_n C [(2, .int 0), (3, .int x3_4), (0, .ref hy), (1, .int se)] dX10_isWhole_34 rfl (by decide) rfl ?_
              refine x_iinc C 1 (x3_4 + 1) [(3, .int (x3_4 + 1)), (2, .int 0), (0, .ref hy), (1, .int se)] dX10_isWhole_35 rfl rfl (by decide) rfl ?_
              refine x_goto C 4 dX10_isWhole_38 (by decide) ?_
              have : (1 : Int32).toInt = 1 := by decide
              have := i_add (x := x3_4) (y := 1) (by omega) (by omega)
              have : (0 : Int32).toInt = 0 := by decide
              exact ih_4 (x3_4 + 1) 0 ⟨by omega, by first | exact AX.keep i_4.2 (by omega) (by omega) | exact AX.yes i_4.2 (by omega) (by first | exact Or.inl (by omega) | exact Or.inr (by omega)) (by omega) | exact AX.no (x := x3_4) (by omega) (fun h => by rcases h with h | h <;> omega) (by omega)⟩ (by omega)
            · skip
              have e_26 : ¬ ((r_23 : Int32).toInt = (0 : Int32).toInt) := fun h => c_26 (i_eq.mpr h)
              have : (0 : Int32).toInt = 0 := by decide
              refine x_iconst C 1 dX10_isWhole_29 (by decide) ?_
              refine x_goto C 34 dX10_isWhole_30 (by decide) ?_
              refine x_istore_n C [(2, .int 1), (3, .int x3_4), (0, .ref hy), (1, .int se)] dX10_isWhole_34 rfl (by decide) rfl ?_
              refine x_iinc C 1 (x3_4 + 1) [(3, .int (x3_4 + 1)), (2, .int 1), (0, .ref hy), (1, .int se)] dX10_isWhole_35 rfl rfl (by decide) rfl ?_
              refine x_goto C 4 dX10_isWhole_38 (by decide) ?_
              have : (1 : Int32).toInt = 1 := by decide
              have := i_add (x := x3_4) (y := 1) (by omega) (by omega)
              have : (1 : Int32).toInt = 1 := by decide
              exact ih_4 (x3_4 + 1) 1 ⟨by omega, by first | exact AX.keep i_4.2 (by omega) (by omega) | exact AX.yes i_4.2 (by omega) (by first | exact Or.inl (by omega) | exact Or.inr (by omega)) (by omega) | exact AX.no (x := x3_4) (by omega) (fun h => by rcases h with h | h <;> omega) (by omega)⟩ (by omega)
  have : (0 : Int32).toInt = 0 := by decide
  have : (1 : Int32).toInt = 1 := by decide
  exact L_4 _ 0 1 ⟨by omega, TB.one (AX.z (by omega))⟩ (Nat.lt_succ_self _)
abbrev rm_X10_toldAll : Room := { frames := 0, cells := 0, slots := 0, locals := 0 }
set_option maxHeartbeats 4000000 in
set_option maxRecDepth 100000 in
theorem c_X10_toldAll (l : Launch) (D : va_G) (tys : List (ClassId × FieldType)) {cI cJ cZ cB : ClassId} (hT : Ty tys cI cJ cZ cB) (hy m0 m1 m2 m3 m4 m5 m6 m7 m8 m9 m10 m11 m12 m13 m14 m15 m16 m17 m18 : Nat) (tl : Nat → Int32) (mw ml mb mz op bp by0 dp tk ka iw : Int32)  : Cn l D tys yX10_toldAll cX10_toldAll 1 (some .int) rm_X10_toldAll [(hy, .inr (10, [.ref m0, .ref m1, .ref m2, .ref m3, .ref m4, .ref m5, .ref m6, .ref m7, .ref m8, .ref m9, .int mw, .int ml, .int mb, .ref m10, .int mz, .ref m11, .int op, .int bp, .int by0, .int dp, .int tk, .ref m12, .ref m13, .ref m14, .ref m15, .ref m16, .ref m17, .ref m18, .int ka, .int iw])), (m11, .inl (cI, 4, .inl tl))] [.ref hy] (fun v W1 => ∃ (_ : Unit), v = some (.int (tl 0 + tl 1 + tl 2 + tl 3)) ∧ W1 = [(hy, .inr (10, [.ref m0, .ref m1, .ref m2, .ref m3, .ref m4, .ref m5, .ref m6, .ref m7, .ref m8, .ref m9, .int mw, .int ml, .int mb, .ref m10, .int mz, .ref m11, .int op, .int bp, .int by0, .int dp, .int tk, .ref m12, .ref m13, .ref m14, .ref m15, .ref m16, .ref m17, .ref m18, .int ka, .int iw])), (m11, .inl (cI, 4, .inl tl))] ∧ (True)) := by
  refine Cn.of (by decide) (Nat.le_of_ble_eq_true rfl) ?_ ?_ (fun X eL eD eT eO eK eN eM C => ?_)
  · intro h; cases h
  · intro v ws h; obtain ⟨_, rfl, rfl, _⟩ := h; exact Or.inl rfl
  subst eL eD eT
  show V X 1 [(hy, .inr (10, [.ref m0, .ref m1, .ref m2, .ref m3, .ref m4, .ref m5, .ref m6, .ref m7, .ref m8, .ref m9, .int mw, .int ml, .int mb, .ref m10, .int mz, .ref m11, .int op, .int bp, .int by0, .int dp, .int tk, .ref m12, .ref m13, .ref m14, .ref m15, .ref m16, .ref m17, .ref m18, .int ka, .int iw])), (m11, .inl (cI, 4, .inl tl))] [(0, .ref hy)] [] 0 0 0
  refine x_aload_n C 0 dX10_toldAll_0 rfl rfl ?_
  refine x_get C 0 15 dX10_toldAll_1 inlX10 rfl (by decide) wd_133 rfl rfl rfl ?_
  refine x_iconst C 0 dX10_toldAll_4 (by decide) ?_
  have v_5 : vp_in 0 4 := (vp_in_iff.mpr (by decide))
  refine x_iald C 1 0 dX10_toldAll_5 hT.1 rfl v_5 ?_
  refine x_aload_n C 0 dX10_toldAll_6 rfl rfl ?_
  refine x_get C 0 15 dX10_toldAll_7 inlX10 rfl (by decide) wd_133 rfl rfl rfl ?_
  refine x_iconst C 1 dX10_toldAll_10 (by decide) ?_
  have v_11 : vp_in 1 4 := (vp_in_iff.mpr (by decide))
  refine x_iald C 1 0 dX10_toldAll_11 hT.1 rfl v_11 ?_
  refine x_iadd C dX10_toldAll_12 ?_
  refine x_aload_n C 0 dX10_toldAll_13 rfl rfl ?_
  refine x_get C 0 15 dX10_toldAll_14 inlX10 rfl (by decide) wd_133 rfl rfl rfl ?_
  refine x_iconst C 2 dX10_toldAll_17 (by decide) ?_
  have v_18 : vp_in 2 4 := (vp_in_iff.mpr (by decide))
  refine x_iald C 1 0 dX10_toldAll_18 hT.1 rfl v_18 ?_
  refine x_iadd C dX10_toldAll_19 ?_
  refine x_aload_n C 0 dX10_toldAll_20 rfl rfl ?_
  refine x_get C 0 15 dX10_toldAll_21 inlX10 rfl (by decide) wd_133 rfl rfl rfl ?_
  refine x_iconst C 3 dX10_toldAll_24 (by decide) ?_
  have v_25 : vp_in 3 4 := (vp_in_iff.mpr (by decide))
  refine x_iald C 1 0 dX10_toldAll_25 hT.1 rfl v_25 ?_
  refine x_iadd C dX10_toldAll_26 ?_
  exact x_iret C dX10_toldAll_27 (Nat.zero_le _) (Nat.zero_le _) (by rw [eO]; exact ⟨(), rfl, rfl, trivial⟩)
abbrev rm_X10_partMinutes : Room := { frames := 0, cells := 0, slots := 0, locals := 0 }
set_option maxHeartbeats 4000000 in
set_option maxRecDepth 100000 in
theorem c_X10_partMinutes (l : Launch) (D : va_G) (tys : List (ClassId × FieldType)) {cI cJ cZ cB : ClassId} (hT : Ty tys cI cJ cZ cB) (hy m0 m1 m2 m3 m4 m5 m6 m7 m8 m9 m10 m11 m12 m13 m14 m15 m16 m17 m18 : Nat) (tl mm : Nat → Int32) (mw ml mb mz op bp by0 dp tk ka iw : Int32) (s : Int32) (hs : 0 ≤ s.toInt ∧ s.toInt ≤ 3) (ht : 0 ≤ (tl (Int32.toNatClampNeg s)).toInt ∧ (tl (Int32.toNatClampNeg s)).toInt < 4) : Cn l D tys yX10_partMinutes cX10_partMinutes 2 (some .int) rm_X10_partMinutes [(hy, .inr (10, [.ref m0, .ref m1, .ref m2, .ref m3, .ref m4, .ref m5, .ref m6, .ref m7, .ref m8, .ref m9, .int mw, .int ml, .int mb, .ref m10, .int mz, .ref m11, .int op, .int bp, .int by0, .int dp, .int tk, .ref m12, .ref m13, .ref m14, .ref m15, .ref m16, .ref m17, .ref m18, .int ka, .int iw])), (m11, .inl (cI, 4, .inl tl)), (m3, .inl (cI, 16, .inl mm))] [.ref hy, .int s] (fun v W1 => ∃ (r : Int32), v = some (.int r) ∧ W1 = [(hy, .inr (10, [.ref m0, .ref m1, .ref m2, .ref m3, .ref m4, .ref m5, .ref m6, .ref m7, .ref m8, .ref m9, .int mw, .int ml, .int mb, .ref m10, .int mz, .ref m11, .int op, .int bp, .int by0, .int dp, .int tk, .ref m12, .ref m13, .ref m14, .ref m15, .ref m16, .ref m17, .ref m18, .int ka, .int iw])), (m11, .inl (cI, 4, .inl tl)), (m3, .inl (cI, 16, .inl mm))] ∧ (r = mm (Int32.toNatClampNeg (4 * s + tl (Int32.toNatClampNeg s))))) := by
  refine Cn.of (by decide) (Nat.le_of_ble_eq_true rfl) ?_ ?_ (fun X eL eD eT eO eK eN eM C => ?_)
  · intro h; cases h
  · intro v ws h; obtain ⟨_, rfl, rfl, _⟩ := h; exact Or.inl rfl
  subst eL eD eT
  show V X 2 [(hy, .inr (10, [.ref m0, .ref m1, .ref m2, .ref m3, .ref m4, .ref m5, .ref m6, .ref m7, .ref m8, .ref m9, .int mw, .int ml, .int mb, .ref m10, .int mz, .ref m11, .int op, .int bp, .int by0, .int dp, .int tk, .ref m12, .ref m13, .ref m14, .ref m15, .ref m16, .ref m17, .ref m18, .int ka, .int iw])), (m11, .inl (cI, 4, .inl tl)), (m3, .inl (cI, 16, .inl mm))] [(0, .ref hy), (1, .int s)] [] 0 0 0
  refine x_aload_n C 0 dX10_partMinutes_0 rfl rfl ?_
  refine x_get C 0 3 dX10_partMinutes_1 inlX10 rfl (by decide) wd_125 rfl rfl rfl ?_
  refine x_iconst C 4 dX10_partMinutes_4 (by decide) ?_
  refine x_iload_n C 1 dX10_partMinutes_5 rfl rfl ?_
  refine x_imul C dX10_partMinutes_6 ?_
  refine x_aload_n C 0 dX10_partMinutes_7 rfl rfl ?_
  refine x_get C 0 15 dX10_partMinutes_8 inlX10 rfl (by decide) wd_133 rfl rfl rfl ?_
  refine x_iload_n C 1 dX10_partMinutes_11 rfl rfl ?_
  have v_12 : vp_in s 4 := (vp_in_iff.mpr (by omega))
  refine x_iald C 1 0 dX10_partMinutes_12 hT.1 rfl v_12 ?_
  refine x_iadd C dX10_partMinutes_13 ?_
  have : (4 : Int32).toInt = 4 := by decide
  have := i_mull (x := 4) (y := s) (d := 4) (by decide) (by omega) (by omega)
  have := i_add (x := (4 * s)) (y := (tl (Int32.toNatClampNeg s))) (by omega) (by omega)
  have v_14 : vp_in ((4 * s) + (tl (Int32.toNatClampNeg s))) 16 := (vp_in_iff.mpr (by omega))
  refine x_iald C 2 0 dX10_partMinutes_14 hT.1 rfl v_14 ?_
  exact x_iret C dX10_partMinutes_15 (Nat.zero_le _) (Nat.zero_le _) (by rw [eO]; exact ⟨(mm (Int32.toNatClampNeg ((4 * s) + (tl (Int32.toNatClampNeg s))))), rfl, rfl, rfl⟩)
abbrev rm_X10_minutesNow : Room := { frames := 0, cells := 0, slots := 0, locals := 0 }
set_option maxHeartbeats 4000000 in
set_option maxRecDepth 100000 in
theorem c_X10_minutesNow (l : Launch) (D : va_G) (tys : List (ClassId × FieldType)) {cI cJ cZ cB : ClassId} (hT : Ty tys cI cJ cZ cB) (hy m0 m1 m2 m3 m4 m5 m6 m7 m8 m9 m10 m11 m12 m13 m14 m15 m16 m17 m18 : Nat) (tl mm : Nat → Int32) (mw ml mb mz op bp by0 dp tk ka iw : Int32) (ht : T4 tl) (hmm : MOk mm) : Cn l D tys yX10_minutesNow cX10_minutesNow 4 (some .int) rm_X10_minutesNow [(hy, .inr (10, [.ref m0, .ref m1, .ref m2, .ref m3, .ref m4, .ref m5, .ref m6, .ref m7, .ref m8, .ref m9, .int mw, .int ml, .int mb, .ref m10, .int mz, .ref m11, .int op, .int bp, .int by0, .int dp, .int tk, .ref m12, .ref m13, .ref m14, .ref m15, .ref m16, .ref m17, .ref m18, .int ka, .int iw])), (m11, .inl (cI, 4, .inl tl)), (m3, .inl (cI, 16, .inl mm))] [.ref hy] (fun v W1 => ∃ (r : Int32), v = some (.int r) ∧ W1 = [(hy, .inr (10, [.ref m0, .ref m1, .ref m2, .ref m3, .ref m4, .ref m5, .ref m6, .ref m7, .ref m8, .ref m9, .int mw, .int ml, .int mb, .ref m10, .int mz, .ref m11, .int op, .int bp, .int by0, .int dp, .int tk, .ref m12, .ref m13, .ref m14, .ref m15, .ref m16, .ref m17, .ref m18, .int ka, .int iw])), (m11, .inl (cI, 4, .inl tl)), (m3, .inl (cI, 16, .inl mm))] ∧ (0 ≤ r.toInt ∧ r.toInt ≤ 144)) := by
  refine Cn.of (by decide) (Nat.le_of_ble_eq_true rfl) ?_ ?_ (fun X eL eD eT eO eK eN eM C => ?_)
  · intro h; cases h
  · intro v ws h; obtain ⟨_, rfl, rfl, _⟩ := h; exact Or.inl rfl
  subst eL eD eT
  show V X 4 [(hy, .inr (10, [.ref m0, .ref m1, .ref m2, .ref m3, .ref m4, .ref m5, .ref m6, .ref m7, .ref m8, .ref m9, .int mw, .int ml, .int mb, .ref m10, .int mz, .ref m11, .int op, .int bp, .int by0, .int dp, .int tk, .ref m12, .ref m13, .ref m14, .ref m15, .ref m16, .ref m17, .ref m18, .int ka, .int iw])), (m11, .inl (cI, 4, .inl tl)), (m3, .inl (cI, 16, .inl mm))] [(0, .ref hy)] [] 0 0 0
  refine x_iconst C 0 dX10_minutesNow_0 (by decide) ?_
  refine x_istore_n C [(1, .int 0), (0, .ref hy)] dX10_minutesNow_1 rfl (by decide) rfl ?_
  refine x_iconst C 0 dX10_minutesNow_2 (by decide) ?_
  refine x_istore_n C [(2, .int 0), (1, .int 0), (0, .ref hy)] dX10_minutesNow_3 rfl (by decide) rfl ?_
  have L_4 : ∀ (n_4 : Nat) (x2_4 : Int32) (x1_4 : Int32), ((0 ≤ x2_4.toInt ∧ x2_4.toInt ≤ 4) ∧ 0 ≤ x1_4.toInt ∧ x1_4.toInt ≤ 36 * x2_4.toInt) → ((4 - x2_4.toInt).toNat < n_4) → V X 4 [(hy, .inr (10, [.ref m0, .ref m1, .ref m2, .ref m3, .ref m4, .ref m5, .ref m6, .ref m7, .ref m8, .ref m9, .int mw, .int ml, .int mb, .ref m10, .int mz, .ref m11, .int op, .int bp, .int by0, .int dp, .int tk, .ref m12, .ref m13, .ref m14, .ref m15, .ref m16, .ref m17, .ref m18, .int ka, .int iw])), (m11, .inl (cI, 4, .inl tl)), (m3, .inl (cI, 16, .inl mm))] [(2, .int x2_4), (1, .int x1_4), (0, .ref hy)] [] 4 0 0 := by
    intro n_4
    induction n_4 with
    | zero =>
      intro x2_4 x1_4 i_4 m_4
      exact absurd m_4 (Nat.not_lt_zero _)
    | succ n_4 ih_4 =>
      intro x2_4 x1_4 i_4 m_4
      refine x_iload_n C 0 dX10_minutesNow_4 rfl rfl ?_
      refine x_iconst C 4 dX10_minutesNow_5 (by decide) ?_
      refine x_icmp_ge C 46 dX10_minutesNow_6 (by decide) (fun c_6 => ?_) (fun c_6 => ?_)
      · skip
        have e_6 : (4 : Int32).toInt ≤ (x2_4 : Int32).toInt := i_le.mp c_6
        have : (4 : Int32).toInt = 4 := by decide
        refine x_iload_n C 1 dX10_minutesNow_46 rfl rfl ?_
        exact x_iret C dX10_minutesNow_47 (Nat.zero_le _) (Nat.zero_le _) (by rw [eO]; exact ⟨x1_4, rfl, rfl, (by omega)⟩)
      · skip
        have e_6 : ¬ ((4 : Int32).toInt ≤ (x2_4 : Int32).toInt) := fun h => c_6 (i_le.mpr h)
        have : (4 : Int32).toInt = 4 := by decide
        refine x_iconst C 0 dX10_minutesNow_9 (by decide) ?_
        refine x_istore_n C [(3, .int 0), (2, .int x2_4), (1, .int x1_4), (0, .ref hy)] dX10_minutesNow_10 rfl (by decide) rfl ?_
        have L_11 : ∀ (n_11 : Nat) (x3_11 : Int32) (x1_11 : Int32), ((0 ≤ x3_11.toInt ∧ x3_11.toInt ≤ (tl (Int32.toNatClampNeg x2_4)).toInt) ∧ 0 ≤ x1_11.toInt ∧ x1_11.toInt ≤ 36 * x2_4.toInt + 9 * x3_11.toInt) → ((4 - x3_11.toInt).toNat < n_11) → V X 4 [(hy, .inr (10, [.ref m0, .ref m1, .ref m2, .ref m3, .ref m4, .ref m5, .ref m6, .ref m7, .ref m8, .ref m9, .int mw, .int ml, .int mb, .ref m10, .int mz, .ref m11, .int op, .int bp, .int by0, .int dp, .int tk, .ref m12, .ref m13, .ref m14, .ref m15, .ref m16, .ref m17, .ref m18, .int ka, .int iw])), (m11, .inl (cI, 4, .inl tl)), (m3, .inl (cI, 16, .inl mm))] [(3, .int x3_11), (2, .int x2_4), (1, .int x1_11), (0, .ref hy)] [] 11 0 0 := by
          intro n_11
          induction n_11 with
          | zero =>
            intro x3_11 x1_11 i_11 m_11
            exact absurd m_11 (Nat.not_lt_zero _)
          | succ n_11 ih_11 =>
            intro x3_11 x1_11 i_11 m_11
            refine x_iload_n C 0 dX10_minutesNow_11 rfl rfl ?_
            refine x_aload_n C 3 dX10_minutesNow_12 rfl rfl ?_
            refine x_get C 0 15 dX10_minutesNow_13 inlX10 rfl (by decide) wd_133 rfl rfl rfl ?_
            refine x_iload_n C 1 dX10_minutesNow_16 rfl rfl ?_
            have v_17 : vp_in x2_4 4 := (vp_in_iff.mpr (by omega))
            refine x_iald C 1 0 dX10_minutesNow_17 hT.1 rfl v_17 ?_
            have a_17 := ht.at v_17
            refine x_icmp_ge C 40 dX10_minutesNow_18 (by decide) (fun c_18 => ?_) (fun c_18 => ?_)
            · skip
              have e_18 : (tl (Int32.toNatClampNeg x2_4) : Int32).toInt ≤ (x3_11 : Int32).toInt := i_le.mp c_18
              refine x_iinc C 1 (x2_4 + 1) [(2, .int (x2_4 + 1)), (3, .int x3_11), (1, .int x1_11), (0, .ref hy)] dX10_minutesNow_40 rfl rfl (by decide) rfl ?_
              refine x_goto C 4 dX10_minutesNow_43 (by decide) ?_
              refine x_lv [(2, .int (x2_4 + 1)), (1, .int x1_11), (0, .ref hy)] [0, 2, 3] rfl ?_
              have : (1 : Int32).toInt = 1 := by decide
              have := i_add (x := x2_4) (y := 1) (by omega) (by omega)
              exact ih_4 (x2_4 + 1) x1_11 (by omega) (by omega)
            · skip
              have e_18 : ¬ ((tl (Int32.toNatClampNeg x2_4) : Int32).toInt ≤ (x3_11 : Int32).toInt) := fun h => c_18 (i_le.mpr h)
              refine x_iload_n C 2 dX10_minutesNow_21 rfl rfl ?_
              refine x_aload_n C 3 dX10_minutesNow_22 rfl rfl ?_
              refine x_get C 0 3 dX10_minutesNow_23 inlX10 rfl (by decide) wd_125 rfl rfl rfl ?_
              refine x_iconst C 4 dX10_minutesNow_26 (by decide) ?_
              refine x_iload_n C 1 dX10_minutesNow_27 rfl rfl ?_
              refine x_imul C dX10_minutesNow_28 ?_
              refine x_iload_n C 0 dX10_minutesNow_29 rfl rfl ?_
              refine x_iadd C dX10_minutesNow_30 ?_
              have : (4 : Int32).toInt = 4 := by decide
              have := i_mull (x := 4) (y := x2_4) (d := 4) (by decide) (by omega) (by omega)
              have := i_add (x := (4 * x2_4)) (y := x3_11) (by omega) (by omega)
              have v_31 : vp_in ((4 * x2_4) + x3_11) 16 := (vp_in_iff.mpr (by omega))
              refine x_iald C 2 0 dX10_minutesNow_31 hT.1 rfl v_31 ?_
              have a_31 := hmm.at v_31
              refine x_iadd C dX10_minutesNow_32 ?_
              refine x_istore_n C [(1, .int (x1_11 + (mm (Int32.toNatClampNeg ((4 * x2_4) + x3_11))))), (3, .int x3_11), (2, .int x2_4), (0, .ref hy)] dX10_minutesNow_33 rfl (by decide) rfl ?_
              refine x_iinc C 1 (x3_11 + 1) [(3, .int (x3_11 + 1)), (1, .int (x1_11 + (mm (Int32.toNatClampNeg ((4 * x2_4) + x3_11))))), (2, .int x2_4), (0, .ref hy)] dX10_minutesNow_34 rfl rfl (by decide) rfl ?_
              refine x_goto C 11 dX10_minutesNow_37 (by decide) ?_
              refine x_lv [(3, .int (x3_11 + 1)), (2, .int x2_4), (1, .int (x1_11 + (mm (Int32.toNatClampNeg ((4 * x2_4) + x3_11))))), (0, .ref hy)] [0, 2, 1, 3] rfl ?_
              have s9 := i_add (x := x1_11) (y := mm (Int32.toNatClampNeg (4 * x2_4 + x3_11))) (by omega) (by omega)
              have : (1 : Int32).toInt = 1 := by decide
              have := i_add (x := x3_11) (y := 1) (by omega) (by omega)
              exact ih_11 (x3_11 + 1) (x1_11 + (mm (Int32.toNatClampNeg ((4 * x2_4) + x3_11)))) (by omega) (by omega)
        have := ht.at (x := x2_4) (vp_in_iff.mpr (by omega))
        have : (0 : Int32).toInt = 0 := by decide
        exact L_11 _ 0 x1_4 (by omega) (Nat.lt_succ_self _)
  have : (0 : Int32).toInt = 0 := by decide
  have : (0 : Int32).toInt = 0 := by decide
  exact L_4 _ 0 0 (by omega) (Nat.lt_succ_self _)
abbrev rm_X10_lengthOf : Room := { frames := 0, cells := 0, slots := 0, locals := 0 }
set_option maxHeartbeats 4000000 in
set_option maxRecDepth 100000 in
theorem c_X10_lengthOf (l : Launch) (D : va_G) (tys : List (ClassId × FieldType)) {cI cJ cZ cB : ClassId} (hT : Ty tys cI cJ cZ cB) (hy m0 m1 m2 m3 m4 m5 m6 m7 m8 m9 m10 m11 m12 m13 m14 m15 m16 m17 m18 : Nat) (ma mm : Nat → Int32) (mw ml mb mz op bp by0 dp tk ka iw : Int32) (s : Int32) (hs : 0 ≤ s.toInt ∧ s.toInt ≤ 3) (hpa : POk ma) : Cn l D tys yX10_lengthOf cX10_lengthOf 4 (some .int) rm_X10_lengthOf [(hy, .inr (10, [.ref m0, .ref m1, .ref m2, .ref m3, .ref m4, .ref m5, .ref m6, .ref m7, .ref m8, .ref m9, .int mw, .int ml, .int mb, .ref m10, .int mz, .ref m11, .int op, .int bp, .int by0, .int dp, .int tk, .ref m12, .ref m13, .ref m14, .ref m15, .ref m16, .ref m17, .ref m18, .int ka, .int iw])), (m2, .inl (cI, 4, .inl ma)), (m3, .inl (cI, 16, .inl mm))] [.ref hy, .int s] (fun v W1 => ∃ (r : Int32), v = some (.int r) ∧ W1 = [(hy, .inr (10, [.ref m0, .ref m1, .ref m2, .ref m3, .ref m4, .ref m5, .ref m6, .ref m7, .ref m8, .ref m9, .int mw, .int ml, .int mb, .ref m10, .int mz, .ref m11, .int op, .int bp, .int by0, .int dp, .int tk, .ref m12, .ref m13, .ref m14, .ref m15, .ref m16, .ref m17, .ref m18, .int ka, .int iw])), (m2, .inl (cI, 4, .inl ma)), (m3, .inl (cI, 16, .inl mm))] ∧ (r = mnS mm (4 * s.toInt).toNat (ma (Int32.toNatClampNeg s)).toInt.toNat)) := by
  refine Cn.of (by decide) (Nat.le_of_ble_eq_true rfl) ?_ ?_ (fun X eL eD eT eO eK eN eM C => ?_)
  · intro h; cases h
  · intro v ws h; obtain ⟨_, rfl, rfl, _⟩ := h; exact Or.inl rfl
  subst eL eD eT
  show V X 4 [(hy, .inr (10, [.ref m0, .ref m1, .ref m2, .ref m3, .ref m4, .ref m5, .ref m6, .ref m7, .ref m8, .ref m9, .int mw, .int ml, .int mb, .ref m10, .int mz, .ref m11, .int op, .int bp, .int by0, .int dp, .int tk, .ref m12, .ref m13, .ref m14, .ref m15, .ref m16, .ref m17, .ref m18, .int ka, .int iw])), (m2, .inl (cI, 4, .inl ma)), (m3, .inl (cI, 16, .inl mm))] [(0, .ref hy), (1, .int s)] [] 0 0 0
  refine x_iconst C 0 dX10_lengthOf_0 (by decide) ?_
  refine x_istore_n C [(2, .int 0), (0, .ref hy), (1, .int s)] dX10_lengthOf_1 rfl (by decide) rfl ?_
  refine x_iconst C 0 dX10_lengthOf_2 (by decide) ?_
  refine x_istore_n C [(3, .int 0), (2, .int 0), (0, .ref hy), (1, .int s)] dX10_lengthOf_3 rfl (by decide) rfl ?_
  have L_4 : ∀ (n_4 : Nat) (x3_4 : Int32) (x2_4 : Int32), ((0 ≤ x3_4.toInt ∧ (x3_4.toInt ≤ (ma (Int32.toNatClampNeg s)).toInt ∨ x3_4.toInt = 0)) ∧ x2_4 = mnS mm (4 * s.toInt).toNat x3_4.toInt.toNat) → ((4 - x3_4.toInt).toNat < n_4) → V X 4 [(hy, .inr (10, [.ref m0, .ref m1, .ref m2, .ref m3, .ref m4, .ref m5, .ref m6, .ref m7, .ref m8, .ref m9, .int mw, .int ml, .int mb, .ref m10, .int mz, .ref m11, .int op, .int bp, .int by0, .int dp, .int tk, .ref m12, .ref m13, .ref m14, .ref m15, .ref m16, .ref m17, .ref m18, .int ka, .int iw])), (m2, .inl (cI, 4, .inl ma)), (m3, .inl (cI, 16, .inl mm))] [(3, .int x3_4), (2, .int x2_4), (0, .ref hy), (1, .int s)] [] 4 0 0 := by
    intro n_4
    induction n_4 with
    | zero =>
      intro x3_4 x2_4 i_4 m_4
      exact absurd m_4 (Nat.not_lt_zero _)
    | succ n_4 ih_4 =>
      intro x3_4 x2_4 i_4 m_4
      refine x_iload_n C 0 dX10_lengthOf_4 rfl rfl ?_
      refine x_aload_n C 2 dX10_lengthOf_5 rfl rfl ?_
      refine x_get C 0 2 dX10_lengthOf_6 inlX10 rfl (by decide) wd_124 rfl rfl rfl ?_
      refine x_iload_n C 3 dX10_lengthOf_9 rfl rfl ?_
      have v_10 : vp_in s 4 := (vp_in_iff.mpr (by omega))
      refine x_iald C 1 0 dX10_lengthOf_10 hT.1 rfl v_10 ?_
      have a_10 := hpa.at v_10
      refine x_icmp_ge C 33 dX10_lengthOf_11 (by decide) (fun c_11 => ?_) (fun c_11 => ?_)
      · skip
        have e_11 : (ma (Int32.toNatClampNeg s) : Int32).toInt ≤ (x3_4 : Int32).toInt := i_le.mp c_11
        refine x_iload_n C 1 dX10_lengthOf_33 rfl rfl ?_
        exact x_iret C dX10_lengthOf_34 (Nat.zero_le _) (Nat.zero_le _) (by rw [eO]; exact ⟨x2_4, rfl, rfl, (by rw [i_4.2]; congr 1; omega)⟩)
      · skip
        have e_11 : ¬ ((ma (Int32.toNatClampNeg s) : Int32).toInt ≤ (x3_4 : Int32).toInt) := fun h => c_11 (i_le.mpr h)
        refine x_iload_n C 1 dX10_lengthOf_14 rfl rfl ?_
        refine x_aload_n C 2 dX10_lengthOf_15 rfl rfl ?_
        refine x_get C 0 3 dX10_lengthOf_16 inlX10 rfl (by decide) wd_125 rfl rfl rfl ?_
        refine x_iconst C 4 dX10_lengthOf_19 (by decide) ?_
        refine x_iload_n C 3 dX10_lengthOf_20 rfl rfl ?_
        refine x_imul C dX10_lengthOf_21 ?_
        refine x_iload_n C 0 dX10_lengthOf_22 rfl rfl ?_
        refine x_iadd C dX10_lengthOf_23 ?_
        have : (4 : Int32).toInt = 4 := by decide
        have := i_mull (x := 4) (y := s) (d := 4) (by decide) (by omega) (by omega)
        have := i_add (x := (4 * s)) (y := x3_4) (by omega) (by omega)
        have v_24 : vp_in ((4 * s) + x3_4) 16 := (vp_in_iff.mpr (by omega))
        refine x_iald C 2 0 dX10_lengthOf_24 hT.1 rfl v_24 ?_
        have k9 : Int32.toNatClampNeg (4 * s + x3_4) = (4 * s.toInt).toNat + x3_4.toInt.toNat := by show (4 * s + x3_4).toInt.toNat = _; omega
        refine x_iadd C dX10_lengthOf_25 ?_
        refine x_istore_n C [(2, .int (x2_4 + (mm (Int32.toNatClampNeg ((4 * s) + x3_4))))), (3, .int x3_4), (0, .ref hy), (1, .int s)] dX10_lengthOf_26 rfl (by decide) rfl ?_
        refine x_iinc C 1 (x3_4 + 1) [(3, .int (x3_4 + 1)), (2, .int (x2_4 + (mm (Int32.toNatClampNeg ((4 * s) + x3_4))))), (0, .ref hy), (1, .int s)] dX10_lengthOf_27 rfl rfl (by decide) rfl ?_
        refine x_goto C 4 dX10_lengthOf_30 (by decide) ?_
        have : (1 : Int32).toInt = 1 := by decide
        have := i_add (x := x3_4) (y := 1) (by omega) (by omega)
        exact ih_4 (x3_4 + 1) (x2_4 + (mm (Int32.toNatClampNeg ((4 * s) + x3_4)))) ⟨by omega, by rw [mn_t (x := x3_4) (by omega) (by omega) (by omega), ← i_4.2, k9]⟩ (by omega)
  have : (0 : Int32).toInt = 0 := by decide
  have : (0 : Int32).toInt = 0 := by decide
  exact L_4 _ 0 0 ⟨by omega, rfl⟩ (Nat.lt_succ_self _)
abbrev rm_X10_waysOf : Room := { frames := 4, cells := 0, slots := 0, locals := 96 }
set_option maxHeartbeats 4000000 in
set_option maxRecDepth 100000 in
theorem c_X10_waysOf (l : Launch) (D : va_G) (tys : List (ClassId × FieldType)) {cI cJ cZ cB : ClassId} (hT : Ty tys cI cJ cZ cB) (hy m0 m1 m2 m3 m4 m5 m6 m7 m8 m9 m10 m11 m12 m13 m14 m15 m16 m17 m18 : Nat) (tl ma mg mt wf wp wt ro co : Nat → Int32) (wy : Nat → Int64) (mw ml mb mz op bp by0 dp tk ka iw : Int32) (a se de dr : Int32) (hst : 0 ≤ a.toInt ∧ a.toInt < 40625) (hR : RT co ro) (hpa : POk ma) (hmw : 0 ≤ mw.toInt ∧ mw.toInt ≤ 6) (hwt : SOk wt) : Cn l D tys yX10_waysOf cX10_waysOf 9 (some .long) rm_X10_waysOf [(hy, .inr (10, [.ref m0, .ref m1, .ref m2, .ref m3, .ref m4, .ref m5, .ref m6, .ref m7, .ref m8, .ref m9, .int mw, .int ml, .int mb, .ref m10, .int mz, .ref m11, .int op, .int bp, .int by0, .int dp, .int tk, .ref m12, .ref m13, .ref m14, .ref m15, .ref m16, .ref m17, .ref m18, .int ka, .int iw])), (m11, .inl (cI, 4, .inl tl)), (m2, .inl (cI, 4, .inl ma)), (m4, .inl (cI, 4, .inl mg)), (m5, .inl (cI, 4, .inl mt)), (m7, .inl (cI, 6, .inl wf)), (m8, .inl (cI, 6, .inl wp)), (m9, .inl (cI, 6, .inl wt)), (m0, .inl (cI, 625, .inl ro)), (m1, .inl (cI, 65, .inl co)), (m12, .inl (cJ, 40625, .inr (.inl wy)))] [.ref hy, .int a, .int se, .int de, .int dr] (fun v W1 => ∃ (tl2 : Nat → Int32) (op2 : Int32), v = some (.long (wsF ma mg mt wf wp wt mw ml co ro se de dr wy a)) ∧ W1 = [(hy, .inr (10, [.ref m0, .ref m1, .ref m2, .ref m3, .ref m4, .ref m5, .ref m6, .ref m7, .ref m8, .ref m9, .int mw, .int ml, .int mb, .ref m10, .int mz, .ref m11, .int op2, .int bp, .int by0, .int dp, .int tk, .ref m12, .ref m13, .ref m14, .ref m15, .ref m16, .ref m17, .ref m18, .int ka, .int iw])), (m11, .inl (cI, 4, .inl tl2)), (m2, .inl (cI, 4, .inl ma)), (m4, .inl (cI, 4, .inl mg)), (m5, .inl (cI, 4, .inl mt)), (m7, .inl (cI, 6, .inl wf)), (m8, .inl (cI, 6, .inl wp)), (m9, .inl (cI, 6, .inl wt)), (m0, .inl (cI, 625, .inl ro)), (m1, .inl (cI, 65, .inl co)), (m12, .inl (cJ, 40625, .inr (.inl wy)))] ∧ (True)) := by
  refine Cn.of (by decide) (Nat.le_of_ble_eq_true rfl) ?_ ?_ (fun X eL eD eT eO eK eN eM C => ?_)
  · intro h; cases h
  · intro v ws h; obtain ⟨_, _, rfl, rfl, _⟩ := h; rfl
  subst eL eD eT
  show V X 9 [(hy, .inr (10, [.ref m0, .ref m1, .ref m2, .ref m3, .ref m4, .ref m5, .ref m6, .ref m7, .ref m8, .ref m9, .int mw, .int ml, .int mb, .ref m10, .int mz, .ref m11, .int op, .int bp, .int by0, .int dp, .int tk, .ref m12, .ref m13, .ref m14, .ref m15, .ref m16, .ref m17, .ref m18, .int ka, .int iw])), (m11, .inl (cI, 4, .inl tl)), (m2, .inl (cI, 4, .inl ma)), (m4, .inl (cI, 4, .inl mg)), (m5, .inl (cI, 4, .inl mt)), (m7, .inl (cI, 6, .inl wf)), (m8, .inl (cI, 6, .inl wp)), (m9, .inl (cI, 6, .inl wt)), (m0, .inl (cI, 625, .inl ro)), (m1, .inl (cI, 65, .inl co)), (m12, .inl (cJ, 40625, .inr (.inl wy)))] [(0, .ref hy), (1, .int a), (2, .int se), (3, .int de), (4, .int dr)] [] 0 0 0
  have g1 := opS_row hR (show 0 ≤ a.toInt by omega)
  have g2 := g1.rng
  refine x_aload_n C 0 dX10_waysOf_0 rfl rfl ?_
  refine x_iload_n C 1 dX10_waysOf_1 rfl rfl ?_
  refine x_callV C [.int a] [(m2, .inl (cI, 4, .inl ma)), (m4, .inl (cI, 4, .inl mg)), (m5, .inl (cI, 4, .inl mt)), (m7, .inl (cI, 6, .inl wf)), (m8, .inl (cI, 6, .inl wp)), (m9, .inl (cI, 6, .inl wt)), (m0, .inl (cI, 625, .inl ro)), (m12, .inl (cJ, 40625, .inr (.inl wy)))] [0, 1, 9] [2, 3, 4, 5, 6, 7, 8, 10] (q0 := 0) (c_X10_lay (xl X) (xD X) (xt X) hT hy m0 m1 m2 m3 m4 m5 m6 m7 m8 m9 m10 m11 m12 m13 m14 m15 m16 m17 m18 tl co mw ml mb mz op bp by0 dp tk ka iw a hst) dX10_waysOf_2 wd_430 wd_431 wd_432 wd_5 wd_433 (np := 1) ⟨by decide, by decide, by decide +kernel⟩ rfl rfl (Nat.le_of_ble_eq_true rfl) (by decide) rfl rfl rfl rfl (by decide) rfl (by decide) (by decide) (fun v W1 h => ?_)
  obtain ⟨_, rfl, rfl, h_2⟩ := h
  show V X 9 [(m2, .inl (cI, 4, .inl ma)), (m4, .inl (cI, 4, .inl mg)), (m5, .inl (cI, 4, .inl mt)), (m7, .inl (cI, 6, .inl wf)), (m8, .inl (cI, 6, .inl wp)), (m9, .inl (cI, 6, .inl wt)), (m0, .inl (cI, 625, .inl ro)), (m12, .inl (cJ, 40625, .inr (.inl wy))), (hy, .inr (10, [.ref m0, .ref m1, .ref m2, .ref m3, .ref m4, .ref m5, .ref m6, .ref m7, .ref m8, .ref m9, .int mw, .int ml, .int mb, .ref m10, .int mz, .ref m11, .int (opS co a), .int bp, .int by0, .int dp, .int tk, .ref m12, .ref m13, .ref m14, .ref m15, .ref m16, .ref m17, .ref m18, .int ka, .int iw])), (m11, .inl (cI, 4, .inl (tds a))), (m1, .inl (cI, 65, .inl co))] [(0, .ref hy), (1, .int a), (2, .int se), (3, .int de), (4, .int dr)] [] 5 0 0
  refine x_aload_n C 0 dX10_waysOf_5 rfl rfl ?_
  refine x_iload_n C 2 dX10_waysOf_6 rfl rfl ?_
  refine x_callV C [.int se] [(m4, .inl (cI, 4, .inl mg)), (m5, .inl (cI, 4, .inl mt)), (m7, .inl (cI, 6, .inl wf)), (m8, .inl (cI, 6, .inl wp)), (m9, .inl (cI, 6, .inl wt)), (m0, .inl (cI, 625, .inl ro)), (m12, .inl (cJ, 40625, .inr (.inl wy))), (m1, .inl (cI, 65, .inl co))] [8, 9, 0] [1, 2, 3, 4, 5, 6, 7, 10] (q0 := 0) (c_X10_canBe (xl X) (xD X) (xt X) hT hy m0 m1 m2 m3 m4 m5 m6 m7 m8 m9 m10 m11 m12 m13 m14 m15 m16 m17 m18 (tds a) ma mw ml mb mz (opS co a) bp by0 dp tk ka iw se (by omega)) dX10_waysOf_7 wd_579 wd_580 wd_581 wd_5 wd_582 (np := 1) ⟨by decide, by decide, by decide +kernel⟩ rfl rfl (Nat.le_of_ble_eq_true rfl) (by decide) rfl rfl rfl rfl (by decide) rfl (by decide) (by decide) (fun v W1 h => ?_)
  obtain ⟨r_7, rfl, rfl, h_7⟩ := h
  show V X 9 [(m4, .inl (cI, 4, .inl mg)), (m5, .inl (cI, 4, .inl mt)), (m7, .inl (cI, 6, .inl wf)), (m8, .inl (cI, 6, .inl wp)), (m9, .inl (cI, 6, .inl wt)), (m0, .inl (cI, 625, .inl ro)), (m12, .inl (cJ, 40625, .inr (.inl wy))), (m1, .inl (cI, 65, .inl co)), (hy, .inr (10, [.ref m0, .ref m1, .ref m2, .ref m3, .ref m4, .ref m5, .ref m6, .ref m7, .ref m8, .ref m9, .int mw, .int ml, .int mb, .ref m10, .int mz, .ref m11, .int ((opS co a)), .int bp, .int by0, .int dp, .int tk, .ref m12, .ref m13, .ref m14, .ref m15, .ref m16, .ref m17, .ref m18, .int ka, .int iw])), (m11, .inl (cI, 4, .inl ((tds a)))), (m2, .inl (cI, 4, .inl ma))] [(0, .ref hy), (1, .int a), (2, .int se), (3, .int de), (4, .int dr)] [.int r_7] 10 0 0
  refine x_if_ne C 15 dX10_waysOf_10 (by decide) (fun c_10 => ?_) (fun c_10 => ?_)
  · skip
    have e_10 : ¬ ((r_7 : Int32).toInt = (0 : Int32).toInt) := fun h => c_10 (i_eq.mpr h)
    have : (0 : Int32).toInt = 0 := by decide
    have g9 := CB.gd hpa hR.1 (show 0 ≤ a.toInt by omega) (h_7.t (by omega))
    refine x_aload_n C 0 dX10_waysOf_15 rfl rfl ?_
    refine x_iload_n C 2 dX10_waysOf_16 rfl rfl ?_
    refine x_callV C [.int se] [(m4, .inl (cI, 4, .inl mg)), (m5, .inl (cI, 4, .inl mt)), (m7, .inl (cI, 6, .inl wf)), (m8, .inl (cI, 6, .inl wp)), (m9, .inl (cI, 6, .inl wt)), (m0, .inl (cI, 625, .inl ro)), (m12, .inl (cJ, 40625, .inr (.inl wy))), (m1, .inl (cI, 65, .inl co))] [8, 9, 10] [0, 1, 2, 3, 4, 5, 6, 7] (q0 := 0) (c_X10_isWhole (xl X) (xD X) (xt X) hT hy m0 m1 m2 m3 m4 m5 m6 m7 m8 m9 m10 m11 m12 m13 m14 m15 m16 m17 m18 ((tds a)) ma mw ml mb mz ((opS co a)) bp by0 dp tk ka iw se ) dX10_waysOf_17 wd_583 wd_584 wd_585 wd_5 wd_586 (np := 1) ⟨by decide, by decide, by decide +kernel⟩ rfl rfl (Nat.le_of_ble_eq_true rfl) (by decide) rfl rfl rfl rfl (by decide) rfl (by decide) (by decide) (fun v W1 h => ?_)
    obtain ⟨r_17, rfl, rfl, h_17⟩ := h
    show V X 9 [(m4, .inl (cI, 4, .inl mg)), (m5, .inl (cI, 4, .inl mt)), (m7, .inl (cI, 6, .inl wf)), (m8, .inl (cI, 6, .inl wp)), (m9, .inl (cI, 6, .inl wt)), (m0, .inl (cI, 625, .inl ro)), (m12, .inl (cJ, 40625, .inr (.inl wy))), (m1, .inl (cI, 65, .inl co)), (hy, .inr (10, [.ref m0, .ref m1, .ref m2, .ref m3, .ref m4, .ref m5, .ref m6, .ref m7, .ref m8, .ref m9, .int mw, .int ml, .int mb, .ref m10, .int mz, .ref m11, .int (((opS co a))), .int bp, .int by0, .int dp, .int tk, .ref m12, .ref m13, .ref m14, .ref m15, .ref m16, .ref m17, .ref m18, .int ka, .int iw])), (m11, .inl (cI, 4, .inl (((tds a))))), (m2, .inl (cI, 4, .inl ma))] [(0, .ref hy), (1, .int a), (2, .int se), (3, .int de), (4, .int dr)] [.int r_17] 20 0 0
    refine x_if_eq C 25 dX10_waysOf_20 (by decide) (fun c_20 => ?_) (fun c_20 => ?_)
    · skip
      have e_20 : (r_17 : Int32).toInt = (0 : Int32).toInt := i_eq.mp c_20
      have : (0 : Int32).toInt = 0 := by decide
      refine x_lconst C 0 dX10_waysOf_25 (by decide) ?_
      refine x_lstore C [(5, .long 0), (0, .ref hy), (1, .int a), (2, .int se), (3, .int de), (4, .int dr)] dX10_waysOf_26 (by decide) rfl ?_
      refine x_iconst C 0 dX10_waysOf_28 (by decide) ?_
      refine x_istore C [(7, .int 0), (5, .long 0), (0, .ref hy), (1, .int a), (2, .int se), (3, .int de), (4, .int dr)] dX10_waysOf_29 (by decide) rfl ?_
      have L_31 : ∀ (n_31 : Nat) (x7_31 : Int32) (x5_31 : Int64) (ghy16_31 : Int32) (fm11_31 : Nat → Int32), ((0 ≤ x7_31.toInt ∧ x7_31.toInt ≤ 4) ∧ x5_31 = swF (fun s => nxF ma mg mt wf wp wt mw ml co ro a s se de dr) wy x7_31.toInt.toNat) → ((4 - x7_31.toInt).toNat < n_31) → V X 9 [(m4, .inl (cI, 4, .inl mg)), (m5, .inl (cI, 4, .inl mt)), (m7, .inl (cI, 6, .inl wf)), (m8, .inl (cI, 6, .inl wp)), (m9, .inl (cI, 6, .inl wt)), (m0, .inl (cI, 625, .inl ro)), (m12, .inl (cJ, 40625, .inr (.inl wy))), (m1, .inl (cI, 65, .inl co)), (hy, .inr (10, [.ref m0, .ref m1, .ref m2, .ref m3, .ref m4, .ref m5, .ref m6, .ref m7, .ref m8, .ref m9, .int mw, .int ml, .int mb, .ref m10, .int mz, .ref m11, .int ghy16_31, .int bp, .int by0, .int dp, .int tk, .ref m12, .ref m13, .ref m14, .ref m15, .ref m16, .ref m17, .ref m18, .int ka, .int iw])), (m11, .inl (cI, 4, .inl fm11_31)), (m2, .inl (cI, 4, .inl ma))] [(7, .int x7_31), (5, .long x5_31), (0, .ref hy), (1, .int a), (2, .int se), (3, .int de), (4, .int dr)] [] 31 0 0 := by
        intro n_31
        induction n_31 with
        | zero =>
          intro x7_31 x5_31 ghy16_31 fm11_31 i_31 m_31
          exact absurd m_31 (Nat.not_lt_zero _)
        | succ n_31 ih_31 =>
          intro x7_31 x5_31 ghy16_31 fm11_31 i_31 m_31
          refine x_iload C 0 dX10_waysOf_31 rfl ?_
          refine x_iconst C 4 dX10_waysOf_33 (by decide) ?_
          refine x_icmp_ge C 77 dX10_waysOf_34 (by decide) (fun c_34 => ?_) (fun c_34 => ?_)
          · skip
            have e_34 : (4 : Int32).toInt ≤ (x7_31 : Int32).toInt := i_le.mp c_34
            have : (4 : Int32).toInt = 4 := by decide
            refine x_lload C 1 dX10_waysOf_77 rfl ?_
            refine x_sub [(hy, .inr (10, [.ref m0, .ref m1, .ref m2, .ref m3, .ref m4, .ref m5, .ref m6, .ref m7, .ref m8, .ref m9, .int mw, .int ml, .int mb, .ref m10, .int mz, .ref m11, .int ghy16_31, .int bp, .int by0, .int dp, .int tk, .ref m12, .ref m13, .ref m14, .ref m15, .ref m16, .ref m17, .ref m18, .int ka, .int iw])), (m11, .inl (cI, 4, .inl fm11_31)), (m2, .inl (cI, 4, .inl ma)), (m4, .inl (cI, 4, .inl mg)), (m5, .inl (cI, 4, .inl mt)), (m7, .inl (cI, 6, .inl wf)), (m8, .inl (cI, 6, .inl wp)), (m9, .inl (cI, 6, .inl wt)), (m0, .inl (cI, 625, .inl ro)), (m1, .inl (cI, 65, .inl co)), (m12, .inl (cJ, 40625, .inr (.inl wy)))] [8, 9, 10, 0, 1, 2, 3, 4, 5, 7, 6] (by decide) rfl ?_
            exact x_lret C dX10_waysOf_79 (Nat.zero_le _) (Nat.zero_le _) (by rw [eO]; exact ⟨fm11_31, ghy16_31, (congrArg (fun z => some (Value.long z)) (by rw [i_31.2, show x7_31.toInt.toNat = 4 by omega]; exact wsF_s (h_7.t (by omega)) (h_17.f (by omega)))), rfl, trivial⟩)
          · skip
            have e_34 : ¬ ((4 : Int32).toInt ≤ (x7_31 : Int32).toInt) := fun h => c_34 (i_le.mpr h)
            have : (4 : Int32).toInt = 4 := by decide
            refine x_aload_n C 2 dX10_waysOf_37 rfl rfl ?_
            refine x_iload_n C 3 dX10_waysOf_38 rfl rfl ?_
            refine x_iload C 0 dX10_waysOf_39 rfl ?_
            refine x_iload_n C 4 dX10_waysOf_41 rfl rfl ?_
            refine x_iload_n C 5 dX10_waysOf_42 rfl rfl ?_
            refine x_iload C 6 dX10_waysOf_43 rfl ?_
            refine x_callV C [.int a, .int x7_31, .int se, .int de, .int dr] [(m12, .inl (cJ, 40625, .inr (.inl wy)))] [8, 9, 10, 0, 1, 2, 3, 4, 5, 7] [6] (q0 := 0) (c_X10_nextOf (xl X) (xD X) (xt X) hT hy m0 m1 m2 m3 m4 m5 m6 m7 m8 m9 m10 m11 m12 m13 m14 m15 m16 m17 m18 fm11_31 ma mg mt wf wp wt ro co mw ml mb mz ghy16_31 bp by0 dp tk ka iw a x7_31 se de dr hst hR g9 (by omega) hmw hwt) dX10_waysOf_45 wd_587 wd_588 wd_589 wd_5 wd_590 (np := 5) ⟨by decide, by decide, by decide +kernel⟩ rfl rfl (Nat.le_of_ble_eq_true rfl) (by decide) rfl rfl rfl rfl (by decide) rfl (by decide) (by decide) (fun v W1 h => ?_)
            obtain ⟨tl2_45, op2_45, rfl, rfl, h_45⟩ := h
            show V X 9 [(m12, .inl (cJ, 40625, .inr (.inl wy))), (hy, .inr (10, [.ref m0, .ref m1, .ref m2, .ref m3, .ref m4, .ref m5, .ref m6, .ref m7, .ref m8, .ref m9, .int mw, .int ml, .int mb, .ref m10, .int mz, .ref m11, .int op2_45, .int bp, .int by0, .int dp, .int tk, .ref m12, .ref m13, .ref m14, .ref m15, .ref m16, .ref m17, .ref m18, .int ka, .int iw])), (m11, .inl (cI, 4, .inl tl2_45)), (m2, .inl (cI, 4, .inl ma)), (m4, .inl (cI, 4, .inl mg)), (m5, .inl (cI, 4, .inl mt)), (m7, .inl (cI, 6, .inl wf)), (m8, .inl (cI, 6, .inl wp)), (m9, .inl (cI, 6, .inl wt)), (m0, .inl (cI, 625, .inl ro)), (m1, .inl (cI, 65, .inl co))] [(7, .int x7_31), (5, .long x5_31), (0, .ref hy), (1, .int a), (2, .int se), (3, .int de), (4, .int dr)] [.int (nxF ma mg mt wf wp wt mw ml co ro a x7_31 se de dr)] 48 0 0
            refine x_istore C [(8, .int (nxF ma mg mt wf wp wt mw ml co ro a x7_31 se de dr)), (7, .int x7_31), (5, .long x5_31), (0, .ref hy), (1, .int a), (2, .int se), (3, .int de), (4, .int dr)] dX10_waysOf_48 (by decide) rfl ?_
            refine x_lload C 2 dX10_waysOf_50 rfl ?_
            refine x_iload C 0 dX10_waysOf_52 rfl ?_
            refine x_if_ge C 61 dX10_waysOf_54 (by decide) (fun c_54 => ?_) (fun c_54 => ?_)
            · skip
              have e_54 : (0 : Int32).toInt ≤ (nxF ma mg mt wf wp wt mw ml co ro a x7_31 se de dr : Int32).toInt := i_le.mp c_54
              have : (0 : Int32).toInt = 0 := by decide
              refine x_aload_n C 3 dX10_waysOf_61 rfl rfl ?_
              refine x_get C 1 21 dX10_waysOf_62 inlX10 rfl (by decide) wd_135 rfl rfl rfl ?_
              refine x_iload C 0 dX10_waysOf_65 rfl ?_
              have v_67 : vp_in (nxF ma mg mt wf wp wt mw ml co ro a x7_31 se de dr) 40625 := (vp_in_iff.mpr (by have := (nx_ok hR (by omega) g9 (by omega) (ge0 e_54)).1; omega))
              refine x_lald C 0 1 dX10_waysOf_67 hT.2.1 rfl v_67 ?_
              refine x_ladd C dX10_waysOf_68 ?_
              refine x_lstore C [(5, .long (x5_31 + (wy (Int32.toNatClampNeg (nxF ma mg mt wf wp wt mw ml co ro a x7_31 se de dr))))), (8, .int (nxF ma mg mt wf wp wt mw ml co ro a x7_31 se de dr)), (7, .int x7_31), (0, .ref hy), (1, .int a), (2, .int se), (3, .int de), (4, .int dr)] dX10_waysOf_69 (by decide) rfl ?_
              refine x_iinc C 2 (x7_31 + 1) [(7, .int (x7_31 + 1)), (5, .long (x5_31 + (wy (Int32.toNatClampNeg (nxF ma mg mt wf wp wt mw ml co ro a x7_31 se de dr))))), (8, .int (nxF ma mg mt wf wp wt mw ml co ro a x7_31 se de dr)), (0, .ref hy), (1, .int a), (2, .int se), (3, .int de), (4, .int dr)] dX10_waysOf_71 rfl rfl (by decide) rfl ?_
              refine x_goto C 31 dX10_waysOf_74 (by decide) ?_
              refine x_sub [(m4, .inl (cI, 4, .inl mg)), (m5, .inl (cI, 4, .inl mt)), (m7, .inl (cI, 6, .inl wf)), (m8, .inl (cI, 6, .inl wp)), (m9, .inl (cI, 6, .inl wt)), (m0, .inl (cI, 625, .inl ro)), (m12, .inl (cJ, 40625, .inr (.inl wy))), (m1, .inl (cI, 65, .inl co)), (hy, .inr (10, [.ref m0, .ref m1, .ref m2, .ref m3, .ref m4, .ref m5, .ref m6, .ref m7, .ref m8, .ref m9, .int mw, .int ml, .int mb, .ref m10, .int mz, .ref m11, .int op2_45, .int bp, .int by0, .int dp, .int tk, .ref m12, .ref m13, .ref m14, .ref m15, .ref m16, .ref m17, .ref m18, .int ka, .int iw])), (m11, .inl (cI, 4, .inl tl2_45)), (m2, .inl (cI, 4, .inl ma))] [4, 5, 6, 7, 8, 9, 0, 10, 1, 2, 3] (by decide) rfl ?_
              refine x_lv [(7, .int (x7_31 + 1)), (5, .long (x5_31 + (wy (Int32.toNatClampNeg (nxF ma mg mt wf wp wt mw ml co ro a x7_31 se de dr))))), (0, .ref hy), (1, .int a), (2, .int se), (3, .int de), (4, .int dr)] [0, 1, 3, 4, 5, 6, 7] rfl ?_
              have : (1 : Int32).toInt = 1 := by decide
              have := i_add (x := x7_31) (y := 1) (by omega) (by omega)
              exact ih_31 (x7_31 + 1) (x5_31 + (wy (Int32.toNatClampNeg (nxF ma mg mt wf wp wt mw ml co ro a x7_31 se de dr)))) op2_45 tl2_45 ⟨by omega, by first | exact (congrArg (fun z => z + 0) i_31.2).trans (swF_n (nx := fun s => nxF ma mg mt wf wp wt mw ml co ro a s se de dr) (x := x7_31) (by omega) (by omega) (by omega)).symm | exact (congrArg (fun z => z + _) i_31.2).trans (swF_p (nx := fun s => nxF ma mg mt wf wp wt mw ml co ro a s se de dr) (x := x7_31) (by omega) (by omega) (ge0 e_54)).symm⟩ (by omega)
            · skip
              have e_54 : ¬ ((0 : Int32).toInt ≤ (nxF ma mg mt wf wp wt mw ml co ro a x7_31 se de dr : Int32).toInt) := fun h => c_54 (i_le.mpr h)
              have : (0 : Int32).toInt = 0 := by decide
              refine x_lconst C 0 dX10_waysOf_57 (by decide) ?_
              refine x_goto C 68 dX10_waysOf_58 (by decide) ?_
              refine x_ladd C dX10_waysOf_68 ?_
              refine x_lstore C [(5, .long (x5_31 + 0)), (8, .int (nxF ma mg mt wf wp wt mw ml co ro a x7_31 se de dr)), (7, .int x7_31), (0, .ref hy), (1, .int a), (2, .int se), (3, .int de), (4, .int dr)] dX10_waysOf_69 (by decide) rfl ?_
              refine x_iinc C 2 (x7_31 + 1) [(7, .int (x7_31 + 1)), (5, .long (x5_31 + 0)), (8, .int (nxF ma mg mt wf wp wt mw ml co ro a x7_31 se de dr)), (0, .ref hy), (1, .int a), (2, .int se), (3, .int de), (4, .int dr)] dX10_waysOf_71 rfl rfl (by decide) rfl ?_
              refine x_goto C 31 dX10_waysOf_74 (by decide) ?_
              refine x_sub [(m4, .inl (cI, 4, .inl mg)), (m5, .inl (cI, 4, .inl mt)), (m7, .inl (cI, 6, .inl wf)), (m8, .inl (cI, 6, .inl wp)), (m9, .inl (cI, 6, .inl wt)), (m0, .inl (cI, 625, .inl ro)), (m12, .inl (cJ, 40625, .inr (.inl wy))), (m1, .inl (cI, 65, .inl co)), (hy, .inr (10, [.ref m0, .ref m1, .ref m2, .ref m3, .ref m4, .ref m5, .ref m6, .ref m7, .ref m8, .ref m9, .int mw, .int ml, .int mb, .ref m10, .int mz, .ref m11, .int op2_45, .int bp, .int by0, .int dp, .int tk, .ref m12, .ref m13, .ref m14, .ref m15, .ref m16, .ref m17, .ref m18, .int ka, .int iw])), (m11, .inl (cI, 4, .inl tl2_45)), (m2, .inl (cI, 4, .inl ma))] [4, 5, 6, 7, 8, 9, 0, 10, 1, 2, 3] (by decide) rfl ?_
              refine x_lv [(7, .int (x7_31 + 1)), (5, .long (x5_31 + 0)), (0, .ref hy), (1, .int a), (2, .int se), (3, .int de), (4, .int dr)] [0, 1, 3, 4, 5, 6, 7] rfl ?_
              have : (1 : Int32).toInt = 1 := by decide
              have := i_add (x := x7_31) (y := 1) (by omega) (by omega)
              exact ih_31 (x7_31 + 1) (x5_31 + 0) op2_45 tl2_45 ⟨by omega, by first | exact (congrArg (fun z => z + 0) i_31.2).trans (swF_n (nx := fun s => nxF ma mg mt wf wp wt mw ml co ro a s se de dr) (x := x7_31) (by omega) (by omega) (by omega)).symm | exact (congrArg (fun z => z + _) i_31.2).trans (swF_p (nx := fun s => nxF ma mg mt wf wp wt mw ml co ro a s se de dr) (x := x7_31) (by omega) (by omega) (ge0 e_54)).symm⟩ (by omega)
      have : (0 : Int32).toInt = 0 := by decide
      exact L_31 _ 0 0 (((opS co a))) (((tds a))) ⟨by omega, rfl⟩ (Nat.lt_succ_self _)
    · skip
      have e_20 : ¬ ((r_17 : Int32).toInt = (0 : Int32).toInt) := fun h => c_20 (i_eq.mpr h)
      have : (0 : Int32).toInt = 0 := by decide
      refine x_lconst C 1 dX10_waysOf_23 (by decide) ?_
      refine x_sub [(hy, .inr (10, [.ref m0, .ref m1, .ref m2, .ref m3, .ref m4, .ref m5, .ref m6, .ref m7, .ref m8, .ref m9, .int mw, .int ml, .int mb, .ref m10, .int mz, .ref m11, .int (((opS co a))), .int bp, .int by0, .int dp, .int tk, .ref m12, .ref m13, .ref m14, .ref m15, .ref m16, .ref m17, .ref m18, .int ka, .int iw])), (m11, .inl (cI, 4, .inl (((tds a))))), (m2, .inl (cI, 4, .inl ma)), (m4, .inl (cI, 4, .inl mg)), (m5, .inl (cI, 4, .inl mt)), (m7, .inl (cI, 6, .inl wf)), (m8, .inl (cI, 6, .inl wp)), (m9, .inl (cI, 6, .inl wt)), (m0, .inl (cI, 625, .inl ro)), (m1, .inl (cI, 65, .inl co)), (m12, .inl (cJ, 40625, .inr (.inl wy)))] [8, 9, 10, 0, 1, 2, 3, 4, 5, 7, 6] (by decide) rfl ?_
      exact x_lret C dX10_waysOf_24 (Nat.zero_le _) (Nat.zero_le _) (by rw [eO]; exact ⟨(((tds a))), (((opS co a))), (congrArg (fun z => some (Value.long z)) (wsF_1 (h_7.t (by omega)) (h_17.t (by omega)))), rfl, trivial⟩)
  · skip
    have e_10 : (r_7 : Int32).toInt = (0 : Int32).toInt := i_eq.mp c_10
    have : (0 : Int32).toInt = 0 := by decide
    refine x_lconst C 0 dX10_waysOf_13 (by decide) ?_
    refine x_sub [(hy, .inr (10, [.ref m0, .ref m1, .ref m2, .ref m3, .ref m4, .ref m5, .ref m6, .ref m7, .ref m8, .ref m9, .int mw, .int ml, .int mb, .ref m10, .int mz, .ref m11, .int ((opS co a)), .int bp, .int by0, .int dp, .int tk, .ref m12, .ref m13, .ref m14, .ref m15, .ref m16, .ref m17, .ref m18, .int ka, .int iw])), (m11, .inl (cI, 4, .inl ((tds a)))), (m2, .inl (cI, 4, .inl ma)), (m4, .inl (cI, 4, .inl mg)), (m5, .inl (cI, 4, .inl mt)), (m7, .inl (cI, 6, .inl wf)), (m8, .inl (cI, 6, .inl wp)), (m9, .inl (cI, 6, .inl wt)), (m0, .inl (cI, 625, .inl ro)), (m1, .inl (cI, 65, .inl co)), (m12, .inl (cJ, 40625, .inr (.inl wy)))] [8, 9, 10, 0, 1, 2, 3, 4, 5, 7, 6] (by decide) rfl ?_
    exact x_lret C dX10_waysOf_14 (Nat.zero_le _) (Nat.zero_le _) (by rw [eO]; exact ⟨((tds a)), ((opS co a)), (congrArg (fun z => some (Value.long z)) (wsF_0 (h_7.f (by omega)))), rfl, trivial⟩)
