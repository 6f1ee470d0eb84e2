abbrev rm_X10_ones : Room := { frames := 0, cells := 0, slots := 0, locals := 0 }
set_option maxHeartbeats 4000000 in
set_option maxRecDepth 100000 in
theorem c_X10_ones (l : Launch) (D : va_G) (tys : List (ClassId × FieldType)) {cI cJ cZ cB : ClassId} (hT : Ty tys cI cJ cZ cB) (a : Int32)  : Cn l D tys yX10_ones cX10_ones 3 (some .int) rm_X10_ones [] [.int a] (fun v W1 => ∃ (_ : Unit), v = some (.int (onesF a)) ∧ W1 = [] ∧ (True)) := by
  refine Cn.of (by decide) (Nat.le_of_ble_eq_true rfl) ?_ ?_ (fun X eL eD eT eO eK eN eM C => ?_)
  · intro h; cases h
  · intro v ws h; obtain ⟨_, rfl, rfl, _⟩ := h; exact Or.inl rfl
  subst eL eD eT
  show V X 3 [] [(0, .int a)] [] 0 0 0
  refine x_iconst C 0 dX10_ones_0 (by decide) ?_
  refine x_istore_n C [(1, .int 0), (0, .int a)] dX10_ones_1 rfl (by decide) rfl ?_
  refine x_iload_n C 1 dX10_ones_2 rfl rfl ?_
  refine x_istore_n C [(2, .int a), (1, .int 0), (0, .int a)] dX10_ones_3 rfl (by decide) rfl ?_
  have L_4 : ∀ (n_4 : Nat) (x2_4 : Int32) (x1_4 : Int32), (ON x2_4 x1_4 (onesF a)) → (x2_4.toBitVec.toNat < n_4) → V X 3 [] [(2, .int x2_4), (1, .int x1_4), (0, .int a)] [] 4 0 0 := by
    intro n_4
    induction n_4 with
    | zero =>
      intro x2_4 x1_4 i_4 m_4
      exact absurd m_4 (Nat.not_lt_zero _)
    | succ n_4 ih_4 =>
      intro x2_4 x1_4 i_4 m_4
      refine x_iload_n C 0 dX10_ones_4 rfl rfl ?_
      refine x_if_eq C 20 dX10_ones_5 (by decide) (fun c_5 => ?_) (fun c_5 => ?_)
      · skip
        have e_5 : (x2_4 : Int32).toInt = (0 : Int32).toInt := i_eq.mp c_5
        have : (0 : Int32).toInt = 0 := by decide
        refine x_iload_n C 1 dX10_ones_20 rfl rfl ?_
        exact x_iret C dX10_ones_21 (Nat.zero_le _) (Nat.zero_le _) (by rw [eO]; exact ⟨(), (congrArg (fun z => some (Value.int z)) (i_4.out c_5)), rfl, trivial⟩)
      · skip
        have e_5 : ¬ ((x2_4 : Int32).toInt = (0 : Int32).toInt) := fun h => c_5 (i_eq.mpr h)
        have : (0 : Int32).toInt = 0 := by decide
        refine x_iinc C 1 (x1_4 + 1) [(1, .int (x1_4 + 1)), (2, .int x2_4), (0, .int a)] dX10_ones_8 rfl rfl (by decide) rfl ?_
        refine x_iload_n C 1 dX10_ones_11 rfl rfl ?_
        refine x_iload_n C 1 dX10_ones_12 rfl rfl ?_
        refine x_iconst C 1 dX10_ones_13 (by decide) ?_
        refine x_isub C dX10_ones_14 ?_
        refine x_iand C dX10_ones_15 ?_
        refine x_istore_n C [(2, .int (x2_4 &&& (x2_4 - 1))), (1, .int (x1_4 + 1)), (0, .int a)] dX10_ones_16 rfl (by decide) rfl ?_
        refine x_goto C 4 dX10_ones_17 (by decide) ?_
        exact ih_4 (x2_4 &&& (x2_4 - 1)) (x1_4 + 1) (i_4.go c_5) (by have := on_dec c_5; omega)
  exact L_4 _ a 0 (ON.of a) (Nat.lt_succ_self _)
abbrev rm_X10_isRow : Room := { frames := 0, cells := 0, slots := 0, locals := 0 }
set_option maxHeartbeats 4000000 in
set_option maxRecDepth 100000 in
theorem c_X10_isRow (l : Launch) (D : va_G) (tys : List (ClassId × FieldType)) {cI cJ cZ cB : ClassId} (hT : Ty tys cI cJ cZ cB) (a : Int32) (ha : 0 ≤ a.toInt ∧ a.toInt < 625) : Cn l D tys yX10_isRow cX10_isRow 5 (some .boolean) rm_X10_isRow [] [.int a] (fun v W1 => ∃ (r : Int32), v = some (.int r) ∧ W1 = [] ∧ (r = rowP a ∧ (r.toInt = 0 ∨ r.toInt = 1))) := by
  refine Cn.of (by decide) (Nat.le_of_ble_eq_true rfl) ?_ ?_ (fun X eL eD eT eO eK eN eM C => ?_)
  · intro _ v ws h; obtain ⟨_, rfl, rfl, h⟩ := h; exact z_of h.2
  · intro v ws h; obtain ⟨_, rfl, rfl, _⟩ := h; exact Or.inr rfl
  subst eL eD eT
  show V X 5 [] [(0, .int a)] [] 0 0 0
  refine x_iconst C 0 dX10_isRow_0 (by decide) ?_
  refine x_istore_n C [(1, .int 0), (0, .int a)] dX10_isRow_1 rfl (by decide) rfl ?_
  refine x_iconst C 1 dX10_isRow_2 (by decide) ?_
  refine x_istore_n C [(2, .int 1), (1, .int 0), (0, .int a)] dX10_isRow_3 rfl (by decide) rfl ?_
  refine x_iload_n C 2 dX10_isRow_4 rfl rfl ?_
  refine x_istore_n C [(3, .int a), (2, .int 1), (1, .int 0), (0, .int a)] dX10_isRow_5 rfl (by decide) rfl ?_
  have L_6 : ∀ (n_6 : Nat) (x3_6 : Int32) (x2_6 : Int32) (x1_6 : Int32), ((0 ≤ x3_6.toInt ∧ (x2_6.toInt = 0 ∨ x2_6.toInt = 1)) ∧ DG frow x3_6 (x2_6, x1_6) (dg frow 4 a (1, 0))) → (x3_6.toInt.toNat < n_6) → V X 5 [] [(3, .int x3_6), (2, .int x2_6), (1, .int x1_6), (0, .int a)] [] 6 0 0 := by
    intro n_6
    induction n_6 with
    | zero =>
      intro x3_6 x2_6 x1_6 i_6 m_6
      exact absurd m_6 (Nat.not_lt_zero _)
    | succ n_6 ih_6 =>
      intro x3_6 x2_6 x1_6 i_6 m_6
      refine x_iload_n C 0 dX10_isRow_6 rfl rfl ?_
      refine x_if_le C 53 dX10_isRow_7 (by decide) (fun c_7 => ?_) (fun c_7 => ?_)
      · skip
        have e_7 : (x3_6 : Int32).toInt ≤ (0 : Int32).toInt := i_le.mp c_7
        have : (0 : Int32).toInt = 0 := by decide
        refine x_iload_n C 1 dX10_isRow_53 rfl rfl ?_
        exact x_iret C dX10_isRow_54 (Nat.zero_le _) (Nat.zero_le _) (by rw [eO]; exact ⟨x2_6, rfl, rfl, ⟨congrArg Prod.fst (i_6.2.out (by omega)), by omega⟩⟩)
      · skip
        have e_7 : ¬ ((x3_6 : Int32).toInt ≤ (0 : Int32).toInt) := fun h => c_7 (i_le.mpr h)
        have : (0 : Int32).toInt = 0 := by decide
        refine x_iload_n C 0 dX10_isRow_10 rfl rfl ?_
        refine x_iconst C 5 dX10_isRow_11 (by decide) ?_
        refine x_irem C dX10_isRow_12 (by decide) ?_
        refine x_istore C [(4, .int (x3_6 - x3_6 / 5 * 5)), (3, .int x3_6), (2, .int x2_6), (1, .int x1_6), (0, .int a)] dX10_isRow_13 (by decide) rfl ?_
        refine x_iload_n C 2 dX10_isRow_15 rfl rfl ?_
        refine x_if_eq C 37 dX10_isRow_16 (by decide) (fun c_16 => ?_) (fun c_16 => ?_)
        · skip
          have e_16 : (x2_6 : Int32).toInt = (0 : Int32).toInt := i_eq.mp c_16
          have : (0 : Int32).toInt = 0 := by decide
          refine x_iconst C 0 dX10_isRow_37 (by decide) ?_
          refine x_istore_n C [(2, .int 0), (4, .int (x3_6 - x3_6 / 5 * 5)), (3, .int x3_6), (1, .int x1_6), (0, .int a)] dX10_isRow_38 rfl (by decide) rfl ?_
          refine x_iload_n C 3 dX10_isRow_39 rfl rfl ?_
          refine x_iconst C 1 dX10_isRow_40 (by decide) ?_
          refine x_iload C 1 dX10_isRow_41 rfl ?_
          refine x_ishl C dX10_isRow_43 ?_
          refine x_ior C dX10_isRow_44 ?_
          refine x_istore_n C [(1, .int (x1_6 ||| ((1 : Int32) <<< ((x3_6 - x3_6 / 5 * 5) &&& 31)))), (2, .int 0), (4, .int (x3_6 - x3_6 / 5 * 5)), (3, .int x3_6), (0, .int a)] dX10_isRow_45 rfl (by decide) rfl ?_
          refine x_iload_n C 3 dX10_isRow_46 rfl rfl ?_
          refine x_iconst C 5 dX10_isRow_47 (by decide) ?_
          refine x_idiv C dX10_isRow_48 (by decide) ?_
          refine x_istore_n C [(3, .int (x3_6 / 5)), (1, .int (x1_6 ||| ((1 : Int32) <<< ((x3_6 - x3_6 / 5 * 5) &&& 31)))), (2, .int 0), (4, .int (x3_6 - x3_6 / 5 * 5)), (0, .int a)] dX10_isRow_49 rfl (by decide) rfl ?_
          refine x_goto C 6 dX10_isRow_50 (by decide) ?_
          refine x_lv [(3, .int (x3_6 / 5)), (2, .int 0), (1, .int (x1_6 ||| ((1 : Int32) <<< ((x3_6 - x3_6 / 5 * 5) &&& 31)))), (0, .int a)] [0, 2, 1, 4] rfl ?_
          have := t1_
          have := t0_
          have := i_div5 (x := x3_6) (by omega)
          have : (0 : Int32).toInt = 0 := by decide
          exact ih_6 (x3_6 / 5) 0 (x1_6 ||| ((1 : Int32) <<< ((x3_6 - x3_6 / 5 * 5) &&& 31))) ⟨by omega, by have h9 := i_6.2.go (by omega); first | (rw [frow_t (by omega) (by omega) (by omega)] at h9; exact h9) | (rw [frow_f (by omega)] at h9; exact h9)⟩ (by omega)
        · skip
          have e_16 : ¬ ((x2_6 : Int32).toInt = (0 : Int32).toInt) := fun h => c_16 (i_eq.mpr h)
          have : (0 : Int32).toInt = 0 := by decide
          refine x_iload C 0 dX10_isRow_19 rfl ?_
          refine x_if_le C 37 dX10_isRow_21 (by decide) (fun c_21 => ?_) (fun c_21 => ?_)
          · skip
            have e_21 : (x3_6 - x3_6 / 5 * 5 : Int32).toInt ≤ (0 : Int32).toInt := i_le.mp c_21
            have : (0 : Int32).toInt = 0 := by decide
            refine x_iconst C 0 dX10_isRow_37 (by decide) ?_
            refine x_istore_n C [(2, .int 0), (4, .int (x3_6 - x3_6 / 5 * 5)), (3, .int x3_6), (1, .int x1_6), (0, .int a)] dX10_isRow_38 rfl (by decide) rfl ?_
            refine x_iload_n C 3 dX10_isRow_39 rfl rfl ?_
            refine x_iconst C 1 dX10_isRow_40 (by decide) ?_
            refine x_iload C 1 dX10_isRow_41 rfl ?_
            refine x_ishl C dX10_isRow_43 ?_
            refine x_ior C dX10_isRow_44 ?_
            refine x_istore_n C [(1, .int (x1_6 ||| ((1 : Int32) <<< ((x3_6 - x3_6 / 5 * 5) &&& 31)))), (2, .int 0), (4, .int (x3_6 - x3_6 / 5 * 5)), (3, .int x3_6), (0, .int a)] dX10_isRow_45 rfl (by decide) rfl ?_
            refine x_iload_n C 3 dX10_isRow_46 rfl rfl ?_
            refine x_iconst C 5 dX10_isRow_47 (by decide) ?_
            refine x_idiv C dX10_isRow_48 (by decide) ?_
            refine x_istore_n C [(3, .int (x3_6 / 5)), (1, .int (x1_6 ||| ((1 : Int32) <<< ((x3_6 - x3_6 / 5 * 5) &&& 31)))), (2, .int 0), (4, .int (x3_6 - x3_6 / 5 * 5)), (0, .int a)] dX10_isRow_49 rfl (by decide) rfl ?_
            refine x_goto C 6 dX10_isRow_50 (by decide) ?_
            refine x_lv [(3, .int (x3_6 / 5)), (2, .int 0), (1, .int (x1_6 ||| ((1 : Int32) <<< ((x3_6 - x3_6 / 5 * 5) &&& 31)))), (0, .int a)] [0, 2, 1, 4] rfl ?_
            have := t1_
            have := t0_
            have := i_div5 (x := x3_6) (by omega)
            have : (0 : Int32).toInt = 0 := by decide
            exact ih_6 (x3_6 / 5) 0 (x1_6 ||| ((1 : Int32) <<< ((x3_6 - x3_6 / 5 * 5) &&& 31))) ⟨by omega, by have h9 := i_6.2.go (by omega); first | (rw [frow_t (by omega) (by omega) (by omega)] at h9; exact h9) | (rw [frow_f (by omega)] at h9; exact h9)⟩ (by omega)
          · skip
            have e_21 : ¬ ((x3_6 - x3_6 / 5 * 5 : Int32).toInt ≤ (0 : Int32).toInt) := fun h => c_21 (i_le.mpr h)
            have : (0 : Int32).toInt = 0 := by decide
            refine x_iload_n C 3 dX10_isRow_24 rfl rfl ?_
            refine x_iload C 0 dX10_isRow_25 rfl ?_
            refine x_ishr C dX10_isRow_27 ?_
            refine x_iconst C 1 dX10_isRow_28 (by decide) ?_
            refine x_iand C dX10_isRow_29 ?_
            refine x_if_ne C 37 dX10_isRow_30 (by decide) (fun c_30 => ?_) (fun c_30 => ?_)
            · skip
              have e_30 : ¬ (((x1_6 >>> ((x3_6 - x3_6 / 5 * 5) &&& 31)) &&& 1 : Int32).toInt = (0 : Int32).toInt) := fun h => c_30 (i_eq.mpr h)
              have : (0 : Int32).toInt = 0 := by decide
              refine x_iconst C 0 dX10_isRow_37 (by decide) ?_
              refine x_istore_n C [(2, .int 0), (4, .int (x3_6 - x3_6 / 5 * 5)), (3, .int x3_6), (1, .int x1_6), (0, .int a)] dX10_isRow_38 rfl (by decide) rfl ?_
              refine x_iload_n C 3 dX10_isRow_39 rfl rfl ?_
              refine x_iconst C 1 dX10_isRow_40 (by decide) ?_
              refine x_iload C 1 dX10_isRow_41 rfl ?_
              refine x_ishl C dX10_isRow_43 ?_
              refine x_ior C dX10_isRow_44 ?_
              refine x_istore_n C [(1, .int (x1_6 ||| ((1 : Int32) <<< ((x3_6 - x3_6 / 5 * 5) &&& 31)))), (2, .int 0), (4, .int (x3_6 - x3_6 / 5 * 5)), (3, .int x3_6), (0, .int a)] dX10_isRow_45 rfl (by decide) rfl ?_
              refine x_iload_n C 3 dX10_isRow_46 rfl rfl ?_
              refine x_iconst C 5 dX10_isRow_47 (by decide) ?_
              refine x_idiv C dX10_isRow_48 (by decide) ?_
              refine x_istore_n C [(3, .int (x3_6 / 5)), (1, .int (x1_6 ||| ((1 : Int32) <<< ((x3_6 - x3_6 / 5 * 5) &&& 31)))), (2, .int 0), (4, .int (x3_6 - x3_6 / 5 * 5)), (0, .int a)] dX10_isRow_49 rfl (by decide) rfl ?_
              refine x_goto C 6 dX10_isRow_50 (by decide) ?_
              refine x_lv [(3, .int (x3_6 / 5)), (2, .int 0), (1, .int (x1_6 ||| ((1 : Int32) <<< ((x3_6 - x3_6 / 5 * 5) &&& 31)))), (0, .int a)] [0, 2, 1, 4] rfl ?_
              have := t1_
              have := t0_
              have := i_div5 (x := x3_6) (by omega)
              have : (0 : Int32).toInt = 0 := by decide
              exact ih_6 (x3_6 / 5) 0 (x1_6 ||| ((1 : Int32) <<< ((x3_6 - x3_6 / 5 * 5) &&& 31))) ⟨by omega, by have h9 := i_6.2.go (by omega); first | (rw [frow_t (by omega) (by omega) (by omega)] at h9; exact h9) | (rw [frow_f (by omega)] at h9; exact h9)⟩ (by omega)
            · skip
              have e_30 : ((x1_6 >>> ((x3_6 - x3_6 / 5 * 5) &&& 31)) &&& 1 : Int32).toInt = (0 : Int32).toInt := i_eq.mp c_30
              have : (0 : Int32).toInt = 0 := by decide
              refine x_iconst C 1 dX10_isRow_33 (by decide) ?_
              refine x_goto C 38 dX10_isRow_34 (by decide) ?_
              refine x_istore_n C [(2, .int 1), (4, .int (x3_6 - x3_6 / 5 * 5)), (3, .int x3_6), (1, .int x1_6), (0, .int a)] dX10_isRow_38 rfl (by decide) rfl ?_
              refine x_iload_n C 3 dX10_isRow_39 rfl rfl ?_
              refine x_iconst C 1 dX10_isRow_40 (by decide) ?_
              refine x_iload C 1 dX10_isRow_41 rfl ?_
              refine x_ishl C dX10_isRow_43 ?_
              refine x_ior C dX10_isRow_44 ?_
              refine x_istore_n C [(1, .int (x1_6 ||| ((1 : Int32) <<< ((x3_6 - x3_6 / 5 * 5) &&& 31)))), (2, .int 1), (4, .int (x3_6 - x3_6 / 5 * 5)), (3, .int x3_6), (0, .int a)] dX10_isRow_45 rfl (by decide) rfl ?_
              refine x_iload_n C 3 dX10_isRow_46 rfl rfl ?_
              refine x_iconst C 5 dX10_isRow_47 (by decide) ?_
              refine x_idiv C dX10_isRow_48 (by decide) ?_
              refine x_istore_n C [(3, .int (x3_6 / 5)), (1, .int (x1_6 ||| ((1 : Int32) <<< ((x3_6 - x3_6 / 5 * 5) &&& 31)))), (2, .int 1), (4, .int (x3_6 - x3_6 / 5 * 5)), (0, .int a)] dX10_isRow_49 rfl (by decide) rfl ?_
              refine x_goto C 6 dX10_isRow_50 (by decide) ?_
              refine x_lv [(3, .int (x3_6 / 5)), (2, .int 1), (1, .int (x1_6 ||| ((1 : Int32) <<< ((x3_6 - x3_6 / 5 * 5) &&& 31)))), (0, .int a)] [0, 2, 1, 4] rfl ?_
              have := t1_
              have := t0_
              have := i_div5 (x := x3_6) (by omega)
              have : (1 : Int32).toInt = 1 := by decide
              exact ih_6 (x3_6 / 5) 1 (x1_6 ||| ((1 : Int32) <<< ((x3_6 - x3_6 / 5 * 5) &&& 31))) ⟨by omega, by have h9 := i_6.2.go (by omega); first | (rw [frow_t (by omega) (by omega) (by omega)] at h9; exact h9) | (rw [frow_f (by omega)] at h9; exact h9)⟩ (by omega)
  have := t1_
  have := t0_
  have : (1 : Int32).toInt = 1 := by decide
  have : (0 : Int32).toInt = 0 := by decide
  exact L_6 _ a 1 0 ⟨by omega, DG.of (by omega)⟩ (Nat.lt_succ_self _)
abbrev rm_X10_setOf : Room := { frames := 0, cells := 0, slots := 0, locals := 0 }
set_option maxHeartbeats 4000000 in
set_option maxRecDepth 100000 in
theorem c_X10_setOf (l : Launch) (D : va_G) (tys : List (ClassId × FieldType)) {cI cJ cZ cB : ClassId} (hT : Ty tys cI cJ cZ cB) (a : Int32) (ha : 0 ≤ a.toInt ∧ a.toInt < 625) : Cn l D tys yX10_setOf cX10_setOf 3 (some .int) rm_X10_setOf [] [.int a] (fun v W1 => ∃ (_ : Unit), v = some (.int (setI a)) ∧ W1 = [] ∧ (True)) := by
  refine Cn.of (by decide) (Nat.le_of_ble_eq_true rfl) ?_ ?_ (fun X eL eD eT eO eK eN eM C => ?_)
  · intro h; cases h
  · intro v ws h; obtain ⟨_, rfl, rfl, _⟩ := h; exact Or.inl rfl
  subst eL eD eT
  show V X 3 [] [(0, .int a)] [] 0 0 0
  refine x_iconst C 0 dX10_setOf_0 (by decide) ?_
  refine x_istore_n C [(1, .int 0), (0, .int a)] dX10_setOf_1 rfl (by decide) rfl ?_
  refine x_iload_n C 1 dX10_setOf_2 rfl rfl ?_
  refine x_istore_n C [(2, .int a), (1, .int 0), (0, .int a)] dX10_setOf_3 rfl (by decide) rfl ?_
  have L_4 : ∀ (n_4 : Nat) (x2_4 : Int32) (x1_4 : Int32), ((0 ≤ x2_4.toInt) ∧ DG fset x2_4 x1_4 (setI a)) → (x2_4.toInt.toNat < n_4) → V X 3 [] [(2, .int x2_4), (1, .int x1_4), (0, .int a)] [] 4 0 0 := by
    intro n_4
    induction n_4 with
    | zero =>
      intro x2_4 x1_4 i_4 m_4
      exact absurd m_4 (Nat.not_lt_zero _)
    | succ n_4 ih_4 =>
      intro x2_4 x1_4 i_4 m_4
      refine x_iload_n C 0 dX10_setOf_4 rfl rfl ?_
      refine x_if_le C 25 dX10_setOf_5 (by decide) (fun c_5 => ?_) (fun c_5 => ?_)
      · skip
        have e_5 : (x2_4 : Int32).toInt ≤ (0 : Int32).toInt := i_le.mp c_5
        have : (0 : Int32).toInt = 0 := by decide
        refine x_iload_n C 1 dX10_setOf_25 rfl rfl ?_
        exact x_iret C dX10_setOf_26 (Nat.zero_le _) (Nat.zero_le _) (by rw [eO]; exact ⟨(), (congrArg (fun z => some (Value.int z)) (i_4.2.out (by omega))), rfl, trivial⟩)
      · skip
        have e_5 : ¬ ((x2_4 : Int32).toInt ≤ (0 : Int32).toInt) := fun h => c_5 (i_le.mpr h)
        have : (0 : Int32).toInt = 0 := by decide
        refine x_iload_n C 1 dX10_setOf_8 rfl rfl ?_
        refine x_iconst C 1 dX10_setOf_9 (by decide) ?_
        refine x_iload_n C 0 dX10_setOf_10 rfl rfl ?_
        refine x_iconst C 5 dX10_setOf_11 (by decide) ?_
        refine x_irem C dX10_setOf_12 (by decide) ?_
        refine x_iconst C 1 dX10_setOf_13 (by decide) ?_
        refine x_isub C dX10_setOf_14 ?_
        refine x_ishl C dX10_setOf_15 ?_
        refine x_ior C dX10_setOf_16 ?_
        refine x_istore_n C [(1, .int (x1_4 ||| ((1 : Int32) <<< (((x2_4 - x2_4 / 5 * 5) - 1) &&& 31)))), (2, .int x2_4), (0, .int a)] dX10_setOf_17 rfl (by decide) rfl ?_
        refine x_iload_n C 1 dX10_setOf_18 rfl rfl ?_
        refine x_iconst C 5 dX10_setOf_19 (by decide) ?_
        refine x_idiv C dX10_setOf_20 (by decide) ?_
        refine x_istore_n C [(2, .int (x2_4 / 5)), (1, .int (x1_4 ||| ((1 : Int32) <<< (((x2_4 - x2_4 / 5 * 5) - 1) &&& 31)))), (0, .int a)] dX10_setOf_21 rfl (by decide) rfl ?_
        refine x_goto C 4 dX10_setOf_22 (by decide) ?_
        have := i_div5 (x := x2_4) (by omega)
        exact ih_4 (x2_4 / 5) (x1_4 ||| ((1 : Int32) <<< (((x2_4 - x2_4 / 5 * 5) - 1) &&& 31))) ⟨by omega, i_4.2.go (by omega)⟩ (by omega)
  have : (0 : Int32).toInt = 0 := by decide
  exact L_4 _ a 0 ⟨by omega, DG.of (by omega)⟩ (Nat.lt_succ_self _)
abbrev rm_X10_lastOf : Room := { frames := 0, cells := 0, slots := 0, locals := 0 }
set_option maxHeartbeats 4000000 in
set_option maxRecDepth 100000 in
theorem c_X10_lastOf (l : Launch) (D : va_G) (tys : List (ClassId × FieldType)) {cI cJ cZ cB : ClassId} (hT : Ty tys cI cJ cZ cB) (a : Int32) (ha : 0 ≤ a.toInt ∧ a.toInt < 625) : Cn l D tys yX10_lastOf cX10_lastOf 3 (some .int) rm_X10_lastOf [] [.int a] (fun v W1 => ∃ (_ : Unit), v = some (.int (lastI a)) ∧ W1 = [] ∧ (True)) := by
  refine Cn.of (by decide) (Nat.le_of_ble_eq_true rfl) ?_ ?_ (fun X eL eD eT eO eK eN eM C => ?_)
  · intro h; cases h
  · intro v ws h; obtain ⟨_, rfl, rfl, _⟩ := h; exact Or.inl rfl
  subst eL eD eT
  show V X 3 [] [(0, .int a)] [] 0 0 0
  refine x_bipush C (-6) dX10_lastOf_0 (by decide) ?_
  refine x_istore_n C [(1, .int ((-6))), (0, .int a)] dX10_lastOf_2 rfl (by decide) rfl ?_
  refine x_iload_n C 1 dX10_lastOf_3 rfl rfl ?_
  refine x_istore_n C [(2, .int a), (1, .int ((-6))), (0, .int a)] dX10_lastOf_4 rfl (by decide) rfl ?_
  have L_5 : ∀ (n_5 : Nat) (x2_5 : Int32) (x1_5 : Int32), ((0 ≤ x2_5.toInt) ∧ DG flast x2_5 x1_5 (lastI a)) → (x2_5.toInt.toNat < n_5) → V X 3 [] [(2, .int x2_5), (1, .int x1_5), (0, .int a)] [] 5 0 0 := by
    intro n_5
    induction n_5 with
    | zero =>
      intro x2_5 x1_5 i_5 m_5
      exact absurd m_5 (Nat.not_lt_zero _)
    | succ n_5 ih_5 =>
      intro x2_5 x1_5 i_5 m_5
      refine x_iload_n C 0 dX10_lastOf_5 rfl rfl ?_
      refine x_if_le C 22 dX10_lastOf_6 (by decide) (fun c_6 => ?_) (fun c_6 => ?_)
      · skip
        have e_6 : (x2_5 : Int32).toInt ≤ (0 : Int32).toInt := i_le.mp c_6
        have : (0 : Int32).toInt = 0 := by decide
        refine x_iload_n C 1 dX10_lastOf_22 rfl rfl ?_
        exact x_iret C dX10_lastOf_23 (Nat.zero_le _) (Nat.zero_le _) (by rw [eO]; exact ⟨(), (congrArg (fun z => some (Value.int z)) (i_5.2.out (by omega))), rfl, trivial⟩)
      · skip
        have e_6 : ¬ ((x2_5 : Int32).toInt ≤ (0 : Int32).toInt) := fun h => c_6 (i_le.mpr h)
        have : (0 : Int32).toInt = 0 := by decide
        refine x_iload_n C 0 dX10_lastOf_9 rfl rfl ?_
        refine x_iconst C 5 dX10_lastOf_10 (by decide) ?_
        refine x_irem C dX10_lastOf_11 (by decide) ?_
        refine x_iconst C 1 dX10_lastOf_12 (by decide) ?_
        refine x_isub C dX10_lastOf_13 ?_
        refine x_istore_n C [(1, .int ((x2_5 - x2_5 / 5 * 5) - 1)), (2, .int x2_5), (0, .int a)] dX10_lastOf_14 rfl (by decide) rfl ?_
        refine x_iload_n C 1 dX10_lastOf_15 rfl rfl ?_
        refine x_iconst C 5 dX10_lastOf_16 (by decide) ?_
        refine x_idiv C dX10_lastOf_17 (by decide) ?_
        refine x_istore_n C [(2, .int (x2_5 / 5)), (1, .int ((x2_5 - x2_5 / 5 * 5) - 1)), (0, .int a)] dX10_lastOf_18 rfl (by decide) rfl ?_
        refine x_goto C 5 dX10_lastOf_19 (by decide) ?_
        have := i_div5 (x := x2_5) (by omega)
        exact ih_5 (x2_5 / 5) ((x2_5 - x2_5 / 5 * 5) - 1) ⟨by omega, i_5.2.go (by omega)⟩ (by omega)
  have : ((-6) : Int32).toInt = -6 := by decide
  exact L_5 _ a ((-6)) ⟨by omega, DG.of (by omega)⟩ (Nat.lt_succ_self _)
abbrev rm_X10_more : Room := { frames := 0, cells := 0, slots := 0, locals := 0 }
set_option maxHeartbeats 4000000 in
set_option maxRecDepth 100000 in
theorem c_X10_more (l : Launch) (D : va_G) (tys : List (ClassId × FieldType)) {cI cJ cZ cB : ClassId} (hT : Ty tys cI cJ cZ cB) (a s : Int32) (ha : 0 ≤ a.toInt ∧ a.toInt < 625) : Cn l D tys yX10_more cX10_more 3 (some .int) rm_X10_more [] [.int a, .int s] (fun v W1 => ∃ (_ : Unit), v = some (.int (moreI a s)) ∧ W1 = [] ∧ (True)) := by
  refine Cn.of (by decide) (Nat.le_of_ble_eq_true rfl) ?_ ?_ (fun X eL eD eT eO eK eN eM C => ?_)
  · intro h; cases h
  · intro v ws h; obtain ⟨_, rfl, rfl, _⟩ := h; exact Or.inl rfl
  subst eL eD eT
  show V X 3 [] [(0, .int a), (1, .int s)] [] 0 0 0
  refine x_iconst C 1 dX10_more_0 (by decide) ?_
  refine x_istore_n C [(2, .int 1), (0, .int a), (1, .int s)] dX10_more_1 rfl (by decide) rfl ?_
  have L_2 : ∀ (n_2 : Nat) (x2_2 : Int32), (x2_2.toInt = 1 ∨ (x2_2.toInt = 5 ∧ 1 ≤ a.toInt) ∨ (x2_2.toInt = 25 ∧ 5 ≤ a.toInt) ∨ (x2_2.toInt = 125 ∧ 25 ≤ a.toInt) ∨ (x2_2.toInt = 625 ∧ 125 ≤ a.toInt)) → ((3125 - x2_2.toInt).toNat < n_2) → V X 3 [] [(2, .int x2_2), (0, .int a), (1, .int s)] [] 2 0 0 := by
    intro n_2
    induction n_2 with
    | zero =>
      intro x2_2 i_2 m_2
      exact absurd m_2 (Nat.not_lt_zero _)
    | succ n_2 ih_2 =>
      intro x2_2 i_2 m_2
      refine x_iload_n C 1 dX10_more_2 rfl rfl ?_
      refine x_iload_n C 0 dX10_more_3 rfl rfl ?_
      refine x_idiv C dX10_more_4 (fun h9 => by have := i_eq.mp h9; have := t0_; omega) ?_
      have d9 := dv_le (x := a) (y := x2_2) (by omega) (by omega)
      refine x_if_le C 15 dX10_more_5 (by decide) (fun c_5 => ?_) (fun c_5 => ?_)
      · skip
        have e_5 : (a / x2_2 : Int32).toInt ≤ (0 : Int32).toInt := i_le.mp c_5
        have : (0 : Int32).toInt = 0 := by decide
        refine x_iload_n C 1 dX10_more_15 rfl rfl ?_
        refine x_iload_n C 2 dX10_more_16 rfl rfl ?_
        refine x_iconst C 1 dX10_more_17 (by decide) ?_
        refine x_iadd C dX10_more_18 ?_
        refine x_iload_n C 0 dX10_more_19 rfl rfl ?_
        refine x_imul C dX10_more_20 ?_
        refine x_iadd C dX10_more_21 ?_
        exact x_iret C dX10_more_22 (Nat.zero_le _) (Nat.zero_le _) (by rw [eO]; exact ⟨(), (congrArg (fun z => some (Value.int z)) (by unfold moreI; rw [← pl_eq (p := x2_2) (by omega) i_2 (by omega) (by omega)])), rfl, trivial⟩)
      · skip
        have e_5 : ¬ ((a / x2_2 : Int32).toInt ≤ (0 : Int32).toInt) := fun h => c_5 (i_le.mpr h)
        have : (0 : Int32).toInt = 0 := by decide
        refine x_iload_n C 0 dX10_more_8 rfl rfl ?_
        refine x_iconst C 5 dX10_more_9 (by decide) ?_
        refine x_imul C dX10_more_10 ?_
        refine x_istore_n C [(2, .int (x2_2 * 5)), (0, .int a), (1, .int s)] dX10_more_11 rfl (by decide) rfl ?_
        refine x_goto C 2 dX10_more_12 (by decide) ?_
        have := i_mulr (x := x2_2) (y := 5) (d := 5) (by decide) (by omega) (by omega)
        exact ih_2 (x2_2 * 5) (by omega) (by omega)
  have := t1_
  have : (1 : Int32).toInt = 1 := by decide
  exact L_2 _ 1 (by omega) (Nat.lt_succ_self _)
abbrev rm_X10_without : Room := { frames := 0, cells := 0, slots := 0, locals := 0 }
set_option maxHeartbeats 4000000 in
set_option maxRecDepth 100000 in
theorem c_X10_without (l : Launch) (D : va_G) (tys : List (ClassId × FieldType)) {cI cJ cZ cB : ClassId} (hT : Ty tys cI cJ cZ cB) (a s : Int32) (ha : 0 ≤ a.toInt ∧ a.toInt < 625) : Cn l D tys yX10_without cX10_without 5 (some .int) rm_X10_without [] [.int a, .int s] (fun v W1 => ∃ (_ : Unit), v = some (.int (withI a s)) ∧ W1 = [] ∧ (True)) := by
  refine Cn.of (by decide) (Nat.le_of_ble_eq_true rfl) ?_ ?_ (fun X eL eD eT eO eK eN eM C => ?_)
  · intro h; cases h
  · intro v ws h; obtain ⟨_, rfl, rfl, _⟩ := h; exact Or.inl rfl
  subst eL eD eT
  show V X 5 [] [(0, .int a), (1, .int s)] [] 0 0 0
  refine x_iconst C 0 dX10_without_0 (by decide) ?_
  refine x_istore_n C [(2, .int 0), (0, .int a), (1, .int s)] dX10_without_1 rfl (by decide) rfl ?_
  refine x_iconst C 1 dX10_without_2 (by decide) ?_
  refine x_istore_n C [(3, .int 1), (2, .int 0), (0, .int a), (1, .int s)] dX10_without_3 rfl (by decide) rfl ?_
  refine x_iload_n C 2 dX10_without_4 rfl rfl ?_
  refine x_istore C [(4, .int a), (3, .int 1), (2, .int 0), (0, .int a), (1, .int s)] dX10_without_5 (by decide) rfl ?_
  have L_7 : ∀ (n_7 : Nat) (x4_7 : Int32) (x3_7 : Int32) (x2_7 : Int32), ((0 ≤ x4_7.toInt) ∧ DG (fwith s) x4_7 (x2_7, x3_7) (dg (fwith s) 4 a (0, 1))) → (x4_7.toInt.toNat < n_7) → V X 5 [] [(4, .int x4_7), (3, .int x3_7), (2, .int x2_7), (0, .int a), (1, .int s)] [] 7 0 0 := by
    intro n_7
    induction n_7 with
    | zero =>
      intro x4_7 x3_7 x2_7 i_7 m_7
      exact absurd m_7 (Nat.not_lt_zero _)
    | succ n_7 ih_7 =>
      intro x4_7 x3_7 x2_7 i_7 m_7
      refine x_iload C 0 dX10_without_7 rfl ?_
      refine x_if_le C 44 dX10_without_9 (by decide) (fun c_9 => ?_) (fun c_9 => ?_)
      · skip
        have e_9 : (x4_7 : Int32).toInt ≤ (0 : Int32).toInt := i_le.mp c_9
        have : (0 : Int32).toInt = 0 := by decide
        refine x_iload_n C 2 dX10_without_44 rfl rfl ?_
        exact x_iret C dX10_without_45 (Nat.zero_le _) (Nat.zero_le _) (by rw [eO]; exact ⟨(), (congrArg (fun z => some (Value.int z)) (congrArg Prod.fst (i_7.2.out (by omega)))), rfl, trivial⟩)
      · skip
        have e_9 : ¬ ((x4_7 : Int32).toInt ≤ (0 : Int32).toInt) := fun h => c_9 (i_le.mpr h)
        have : (0 : Int32).toInt = 0 := by decide
        refine x_iload C 0 dX10_without_12 rfl ?_
        refine x_iconst C 5 dX10_without_14 (by decide) ?_
        refine x_irem C dX10_without_15 (by decide) ?_
        refine x_iload_n C 4 dX10_without_16 rfl rfl ?_
        refine x_iconst C 1 dX10_without_17 (by decide) ?_
        refine x_iadd C dX10_without_18 ?_
        refine x_icmp_eq C 35 dX10_without_19 (by decide) (fun c_19 => ?_) (fun c_19 => ?_)
        · skip
          have e_19 : (x4_7 - x4_7 / 5 * 5 : Int32).toInt = (s + 1 : Int32).toInt := i_eq.mp c_19
          refine x_iload C 0 dX10_without_35 rfl ?_
          refine x_iconst C 5 dX10_without_37 (by decide) ?_
          refine x_idiv C dX10_without_38 (by decide) ?_
          refine x_istore C [(4, .int (x4_7 / 5)), (3, .int x3_7), (2, .int x2_7), (0, .int a), (1, .int s)] dX10_without_39 (by decide) rfl ?_
          refine x_goto C 7 dX10_without_41 (by decide) ?_
          have := i_div5 (x := x4_7) (by omega)
          exact ih_7 (x4_7 / 5) x3_7 x2_7 ⟨by omega, by have h9 := i_7.2.go (by omega); first | (rw [fwith_e (by omega)] at h9; exact h9) | (rw [fwith_n (by omega)] at h9; exact h9)⟩ (by omega)
        · skip
          have e_19 : ¬ ((x4_7 - x4_7 / 5 * 5 : Int32).toInt = (s + 1 : Int32).toInt) := fun h => c_19 (i_eq.mpr h)
          refine x_iload_n C 2 dX10_without_22 rfl rfl ?_
          refine x_iload C 0 dX10_without_23 rfl ?_
          refine x_iconst C 5 dX10_without_25 (by decide) ?_
          refine x_irem C dX10_without_26 (by decide) ?_
          refine x_iload_n C 1 dX10_without_27 rfl rfl ?_
          refine x_imul C dX10_without_28 ?_
          refine x_iadd C dX10_without_29 ?_
          refine x_istore_n C [(2, .int (x2_7 + ((x4_7 - x4_7 / 5 * 5) * x3_7))), (4, .int x4_7), (3, .int x3_7), (0, .int a), (1, .int s)] dX10_without_30 rfl (by decide) rfl ?_
          refine x_iload_n C 2 dX10_without_31 rfl rfl ?_
          refine x_iconst C 5 dX10_without_32 (by decide) ?_
          refine x_imul C dX10_without_33 ?_
          refine x_istore_n C [(3, .int (x3_7 * 5)), (2, .int (x2_7 + ((x4_7 - x4_7 / 5 * 5) * x3_7))), (4, .int x4_7), (0, .int a), (1, .int s)] dX10_without_34 rfl (by decide) rfl ?_
          refine x_iload C 2 dX10_without_35 rfl ?_
          refine x_iconst C 5 dX10_without_37 (by decide) ?_
          refine x_idiv C dX10_without_38 (by decide) ?_
          refine x_istore C [(4, .int (x4_7 / 5)), (3, .int (x3_7 * 5)), (2, .int (x2_7 + ((x4_7 - x4_7 / 5 * 5) * x3_7))), (0, .int a), (1, .int s)] dX10_without_39 (by decide) rfl ?_
          refine x_goto C 7 dX10_without_41 (by decide) ?_
          have := i_div5 (x := x4_7) (by omega)
          exact ih_7 (x4_7 / 5) (x3_7 * 5) (x2_7 + ((x4_7 - x4_7 / 5 * 5) * x3_7)) ⟨by omega, by have h9 := i_7.2.go (by omega); first | (rw [fwith_e (by omega)] at h9; exact h9) | (rw [fwith_n (by omega)] at h9; exact h9)⟩ (by omega)
  have : (1 : Int32).toInt = 1 := by decide
  have : (0 : Int32).toInt = 0 := by decide
  exact L_7 _ a 1 0 ⟨by omega, DG.of (by omega)⟩ (Nat.lt_succ_self _)
abbrev rm_X10_powerOf : Room := { frames := 0, cells := 0, slots := 0, locals := 0 }
set_option maxHeartbeats 4000000 in
set_option maxRecDepth 100000 in
theorem c_X10_powerOf (l : Launch) (D : va_G) (tys : List (ClassId × FieldType)) {cI cJ cZ cB : ClassId} (hT : Ty tys cI cJ cZ cB) (a : Int32)  : Cn l D tys yX10_powerOf cX10_powerOf 1 (some .int) rm_X10_powerOf [] [.int a] (fun v W1 => ∃ (_ : Unit), v = some (.int (pw a)) ∧ W1 = [] ∧ (True)) := by
  refine Cn.of (by decide) (Nat.le_of_ble_eq_true rfl) ?_ ?_ (fun X eL eD eT eO eK eN eM C => ?_)
  · intro h; cases h
  · intro v ws h; obtain ⟨_, rfl, rfl, _⟩ := h; exact Or.inl rfl
  subst eL eD eT
  show V X 1 [] [(0, .int a)] [] 0 0 0
  refine x_iload_n C 0 dX10_powerOf_0 rfl rfl ?_
  refine x_if_ne C 8 dX10_powerOf_1 (by decide) (fun c_1 => ?_) (fun c_1 => ?_)
  · skip
    have e_1 : ¬ ((a : Int32).toInt = (0 : Int32).toInt) := fun h => c_1 (i_eq.mpr h)
    have : (0 : Int32).toInt = 0 := by decide
    refine x_iload_n C 0 dX10_powerOf_8 rfl rfl ?_
    refine x_iconst C 1 dX10_powerOf_9 (by decide) ?_
    refine x_icmp_ne C 17 dX10_powerOf_10 (by decide) (fun c_10 => ?_) (fun c_10 => ?_)
    · skip
      have e_10 : ¬ ((a : Int32).toInt = (1 : Int32).toInt) := fun h => c_10 (i_eq.mpr h)
      have : (1 : Int32).toInt = 1 := by decide
      refine x_iload_n C 0 dX10_powerOf_17 rfl rfl ?_
      refine x_iconst C 2 dX10_powerOf_18 (by decide) ?_
      refine x_icmp_ne C 27 dX10_powerOf_19 (by decide) (fun c_19 => ?_) (fun c_19 => ?_)
      · skip
        have e_19 : ¬ ((a : Int32).toInt = (2 : Int32).toInt) := fun h => c_19 (i_eq.mpr h)
        have : (2 : Int32).toInt = 2 := by decide
        refine x_bipush C 125 dX10_powerOf_27 (by decide) ?_
        have : (125 : Int32).toInt = 125 := by decide
        exact x_iret C dX10_powerOf_29 (Nat.zero_le _) (Nat.zero_le _) (by rw [eO]; exact ⟨(), (congrArg (fun z => some (Value.int z)) (by unfold pw; first | rw [if_pos (by assumption)] | rw [if_neg (by assumption), if_pos (by assumption)] | rw [if_neg (by assumption), if_neg (by assumption), if_pos (by assumption)] | rw [if_neg (by assumption), if_neg (by assumption), if_neg (by assumption)])), rfl, trivial⟩)
      · skip
        have e_19 : (a : Int32).toInt = (2 : Int32).toInt := i_eq.mp c_19
        have : (2 : Int32).toInt = 2 := by decide
        refine x_bipush C 25 dX10_powerOf_22 (by decide) ?_
        refine x_goto C 29 dX10_powerOf_24 (by decide) ?_
        have : (25 : Int32).toInt = 25 := by decide
        exact x_iret C dX10_powerOf_29 (Nat.zero_le _) (Nat.zero_le _) (by rw [eO]; exact ⟨(), (congrArg (fun z => some (Value.int z)) (by unfold pw; first | rw [if_pos (by assumption)] | rw [if_neg (by assumption), if_pos (by assumption)] | rw [if_neg (by assumption), if_neg (by assumption), if_pos (by assumption)] | rw [if_neg (by assumption), if_neg (by assumption), if_neg (by assumption)])), rfl, trivial⟩)
    · skip
      have e_10 : (a : Int32).toInt = (1 : Int32).toInt := i_eq.mp c_10
      have : (1 : Int32).toInt = 1 := by decide
      refine x_iconst C 5 dX10_powerOf_13 (by decide) ?_
      refine x_goto C 29 dX10_powerOf_14 (by decide) ?_
      have : (5 : Int32).toInt = 5 := by decide
      exact x_iret C dX10_powerOf_29 (Nat.zero_le _) (Nat.zero_le _) (by rw [eO]; exact ⟨(), (congrArg (fun z => some (Value.int z)) (by unfold pw; first | rw [if_pos (by assumption)] | rw [if_neg (by assumption), if_pos (by assumption)] | rw [if_neg (by assumption), if_neg (by assumption), if_pos (by assumption)] | rw [if_neg (by assumption), if_neg (by assumption), if_neg (by assumption)])), rfl, trivial⟩)
  · skip
    have e_1 : (a : Int32).toInt = (0 : Int32).toInt := i_eq.mp c_1
    have : (0 : Int32).toInt = 0 := by decide
    refine x_iconst C 1 dX10_powerOf_4 (by decide) ?_
    refine x_goto C 29 dX10_powerOf_5 (by decide) ?_
    have : (1 : Int32).toInt = 1 := by decide
    exact x_iret C dX10_powerOf_29 (Nat.zero_le _) (Nat.zero_le _) (by rw [eO]; exact ⟨(), (congrArg (fun z => some (Value.int z)) (by unfold pw; first | rw [if_pos (by assumption)] | rw [if_neg (by assumption), if_pos (by assumption)] | rw [if_neg (by assumption), if_neg (by assumption), if_pos (by assumption)] | rw [if_neg (by assumption), if_neg (by assumption), if_neg (by assumption)])), rfl, trivial⟩)
abbrev rm_X10_sumOf : Room := { frames := 0, cells := 0, slots := 0, locals := 0 }
set_option maxHeartbeats 4000000 in
set_option maxRecDepth 100000 in
theorem c_X10_sumOf (l : Launch) (D : va_G) (tys : List (ClassId × FieldType)) {cI cJ cZ cB : ClassId} (hT : Ty tys cI cJ cZ cB) (a : Int32) (ha : 0 ≤ a.toInt ∧ a.toInt < 625) : Cn l D tys yX10_sumOf cX10_sumOf 1 (some .int) rm_X10_sumOf [] [.int a] (fun v W1 => ∃ (r : Int32), v = some (.int r) ∧ W1 = [] ∧ (r.toInt = fs a.toInt)) := by
  refine Cn.of (by decide) (Nat.le_of_ble_eq_true rfl) ?_ ?_ (fun X eL eD eT eO eK eN eM C => ?_)
  · intro h; cases h
  · intro v ws h; obtain ⟨_, rfl, rfl, _⟩ := h; exact Or.inl rfl
  subst eL eD eT
  show V X 1 [] [(0, .int a)] [] 0 0 0
  refine x_iload_n C 0 dX10_sumOf_0 rfl rfl ?_
  refine x_iconst C 5 dX10_sumOf_1 (by decide) ?_
  refine x_irem C dX10_sumOf_2 (by decide) ?_
  refine x_iload_n C 0 dX10_sumOf_3 rfl rfl ?_
  refine x_iconst C 5 dX10_sumOf_4 (by decide) ?_
  refine x_idiv C dX10_sumOf_5 (by decide) ?_
  refine x_iconst C 5 dX10_sumOf_6 (by decide) ?_
  refine x_irem C dX10_sumOf_7 (by decide) ?_
  refine x_iadd C dX10_sumOf_8 ?_
  refine x_iload_n C 0 dX10_sumOf_9 rfl rfl ?_
  refine x_bipush C 25 dX10_sumOf_10 (by decide) ?_
  refine x_idiv C dX10_sumOf_12 (by decide) ?_
  refine x_iconst C 5 dX10_sumOf_13 (by decide) ?_
  refine x_irem C dX10_sumOf_14 (by decide) ?_
  refine x_iadd C dX10_sumOf_15 ?_
  refine x_iload_n C 0 dX10_sumOf_16 rfl rfl ?_
  refine x_bipush C 125 dX10_sumOf_17 (by decide) ?_
  refine x_idiv C dX10_sumOf_19 (by decide) ?_
  refine x_iadd C dX10_sumOf_20 ?_
  have := t5_
  have : (25 : Int32).toInt = 25 := by decide
  have : (125 : Int32).toInt = 125 := by decide
  have d1 := i_rem5 (x := a) (by omega)
  have d2 := i_div5 (x := a) (by omega)
  have d3 := i_rem5 (x := a / 5) (by omega)
  rw [d2] at d3
  have d4 := i_div (x := a) (y := 25) (by omega) (by decide)
  rw [show (25 : Int32).toInt = 25 from rfl] at d4
  have d6 := i_rem5 (x := a / 25) (by omega)
  rw [d4] at d6
  have d7 := i_div (x := a) (y := 125) (by omega) (by decide)
  rw [show (125 : Int32).toInt = 125 from rfl] at d7
  have s1 := i_add (x := a - a / 5 * 5) (y := a / 5 - a / 5 / 5 * 5) (by omega) (by omega)
  have s2 := i_add (x := a - a / 5 * 5 + (a / 5 - a / 5 / 5 * 5)) (y := a / 25 - a / 25 / 5 * 5) (by omega) (by omega)
  have s3 := i_add (x := a - a / 5 * 5 + (a / 5 - a / 5 / 5 * 5) + (a / 25 - a / 25 / 5 * 5)) (y := a / 125) (by omega) (by omega)
  exact x_iret C dX10_sumOf_21 (Nat.zero_le _) (Nat.zero_le _) (by rw [eO]; exact ⟨((((a - a / 5 * 5) + ((a / 5) - (a / 5) / 5 * 5)) + ((a / 25) - (a / 25) / 5 * 5)) + (a / 125)), rfl, rfl, (by unfold fs; omega)⟩)
abbrev rm_X10_layTold : Room := { frames := 0, cells := 0, slots := 0, locals := 0 }
set_option maxHeartbeats 4000000 in
set_option maxRecDepth 100000 in
theorem c_X10_layTold (l : Launch) (D : va_G) (tys : List (ClassId × FieldType)) {cI cJ cZ cB : ClassId} (hT : Ty tys cI cJ cZ cB) (hy m0 m1 m2 m3 m4 m5 m6 m7 m8 m9 m10 m11 m12 m13 m14 m15 m16 m17 m18 : Nat) (tl : Nat → Int32) (mw ml mb mz op bp by0 dp tk ka iw : Int32) (a : Int32)  : Cn l D tys yX10_layTold cX10_layTold 4 none rm_X10_layTold [(hy, .inr (10, [.ref m0, .ref m1, .ref m2, .ref m3, .ref m4, .ref m5, .ref m6, .ref m7, .ref m8, .ref m9, .int mw, .int ml, .int mb, .ref m10, .int mz, .ref m11, .int op, .int bp, .int by0, .int dp, .int tk, .ref m12, .ref m13, .ref m14, .ref m15, .ref m16, .ref m17, .ref m18, .int ka, .int iw])), (m11, .inl (cI, 4, .inl tl))] [.ref hy, .int a] (fun v W1 => ∃ (_ : Unit), v = none ∧ W1 = [(hy, .inr (10, [.ref m0, .ref m1, .ref m2, .ref m3, .ref m4, .ref m5, .ref m6, .ref m7, .ref m8, .ref m9, .int mw, .int ml, .int mb, .ref m10, .int mz, .ref m11, .int op, .int bp, .int by0, .int dp, .int tk, .ref m12, .ref m13, .ref m14, .ref m15, .ref m16, .ref m17, .ref m18, .int ka, .int iw])), (m11, .inl (cI, 4, .inl (tdn a)))] ∧ (True)) := by
  refine Cn.of (by decide) (Nat.le_of_ble_eq_true rfl) ?_ ?_ (fun X eL eD eT eO eK eN eM C => ?_)
  · intro h; cases h
  · intro v ws h; obtain ⟨_, rfl, rfl, _⟩ := h; rfl
  subst eL eD eT
  show V X 4 [(hy, .inr (10, [.ref m0, .ref m1, .ref m2, .ref m3, .ref m4, .ref m5, .ref m6, .ref m7, .ref m8, .ref m9, .int mw, .int ml, .int mb, .ref m10, .int mz, .ref m11, .int op, .int bp, .int by0, .int dp, .int tk, .ref m12, .ref m13, .ref m14, .ref m15, .ref m16, .ref m17, .ref m18, .int ka, .int iw])), (m11, .inl (cI, 4, .inl tl))] [(0, .ref hy), (1, .int a)] [] 0 0 0
  refine x_iload_n C 1 dX10_layTold_0 rfl rfl ?_
  refine x_istore_n C [(2, .int a), (0, .ref hy), (1, .int a)] dX10_layTold_1 rfl (by decide) rfl ?_
  refine x_iconst C 0 dX10_layTold_2 (by decide) ?_
  refine x_istore_n C [(3, .int 0), (2, .int a), (0, .ref hy), (1, .int a)] dX10_layTold_3 rfl (by decide) rfl ?_
  refine x_iload_n C 0 dX10_layTold_4 rfl rfl ?_
  refine x_iconst C 4 dX10_layTold_5 (by decide) ?_
  refine x_icmp_ge C 28 dX10_layTold_6 (by decide) (fun c_6 => ?_) (fun c_6 => ?_)
  · skip
    have e_6 : (4 : Int32).toInt ≤ (0 : Int32).toInt := i_le.mp c_6
    have : (4 : Int32).toInt = 4 := by decide
    have : (0 : Int32).toInt = 0 := by decide
    exfalso
    omega
  · skip
    have e_6 : ¬ ((4 : Int32).toInt ≤ (0 : Int32).toInt) := fun h => c_6 (i_le.mpr h)
    have : (4 : Int32).toInt = 4 := by decide
    have : (0 : Int32).toInt = 0 := by decide
    refine x_aload_n C 2 dX10_layTold_9 rfl rfl ?_
    refine x_get C 0 15 dX10_layTold_10 inlX10 rfl (by decide) wd_133 rfl rfl rfl ?_
    refine x_iload_n C 0 dX10_layTold_13 rfl rfl ?_
    refine x_iload_n C 1 dX10_layTold_14 rfl rfl ?_
    refine x_iconst C 5 dX10_layTold_15 (by decide) ?_
    refine x_irem C dX10_layTold_16 (by decide) ?_
    have v_17 : vp_in 0 4 := (vp_in_iff.mpr (by decide))
    refine x_iast C 1 0 [(hy, .inr (10, [.ref m0, .ref m1, .ref m2, .ref m3, .ref m4, .ref m5, .ref m6, .ref m7, .ref m8, .ref m9, .int mw, .int ml, .int mb, .ref m10, .int mz, .ref m11, .int op, .int bp, .int by0, .int dp, .int tk, .ref m12, .ref m13, .ref m14, .ref m15, .ref m16, .ref m17, .ref m18, .int ka, .int iw])), (m11, .inl (cI, 4, .inl (upd tl (Int32.toNatClampNeg 0) (a - a / 5 * 5))))] dX10_layTold_17 hT.1 rfl v_17 rfl ?_
    refine x_iload_n C 1 dX10_layTold_18 rfl rfl ?_
    refine x_iconst C 5 dX10_layTold_19 (by decide) ?_
    refine x_idiv C dX10_layTold_20 (by decide) ?_
    refine x_istore_n C [(2, .int (a / 5)), (3, .int 0), (0, .ref hy), (1, .int a)] dX10_layTold_21 rfl (by decide) rfl ?_
    refine x_iinc C 1 1 [(3, .int 1), (2, .int (a / 5)), (0, .ref hy), (1, .int a)] dX10_layTold_22 rfl (by decide) (by decide) rfl ?_
    refine x_goto C 4 dX10_layTold_25 (by decide) ?_
    refine x_iload_n C 0 dX10_layTold_4 rfl rfl ?_
    refine x_iconst C 4 dX10_layTold_5 (by decide) ?_
    refine x_icmp_ge C 28 dX10_layTold_6 (by decide) (fun c_6 => ?_) (fun c_6 => ?_)
    · skip
      have e_6 : (4 : Int32).toInt ≤ (1 : Int32).toInt := i_le.mp c_6
      have : (4 : Int32).toInt = 4 := by decide
      have : (1 : Int32).toInt = 1 := by decide
      exfalso
      omega
    · skip
      have e_6 : ¬ ((4 : Int32).toInt ≤ (1 : Int32).toInt) := fun h => c_6 (i_le.mpr h)
      have : (4 : Int32).toInt = 4 := by decide
      have : (1 : Int32).toInt = 1 := by decide
      refine x_aload_n C 2 dX10_layTold_9 rfl rfl ?_
      refine x_get C 0 15 dX10_layTold_10 inlX10 rfl (by decide) wd_133 rfl rfl rfl ?_
      refine x_iload_n C 0 dX10_layTold_13 rfl rfl ?_
      refine x_iload_n C 1 dX10_layTold_14 rfl rfl ?_
      refine x_iconst C 5 dX10_layTold_15 (by decide) ?_
      refine x_irem C dX10_layTold_16 (by decide) ?_
      have v_17 : vp_in 1 4 := (vp_in_iff.mpr (by decide))
      refine x_iast C 1 0 [(hy, .inr (10, [.ref m0, .ref m1, .ref m2, .ref m3, .ref m4, .ref m5, .ref m6, .ref m7, .ref m8, .ref m9, .int mw, .int ml, .int mb, .ref m10, .int mz, .ref m11, .int op, .int bp, .int by0, .int dp, .int tk, .ref m12, .ref m13, .ref m14, .ref m15, .ref m16, .ref m17, .ref m18, .int ka, .int iw])), (m11, .inl (cI, 4, .inl (upd (upd tl (Int32.toNatClampNeg 0) (a - a / 5 * 5)) (Int32.toNatClampNeg 1) ((a / 5) - (a / 5) / 5 * 5))))] dX10_layTold_17 hT.1 rfl v_17 rfl ?_
      refine x_iload_n C 1 dX10_layTold_18 rfl rfl ?_
      refine x_iconst C 5 dX10_layTold_19 (by decide) ?_
      refine x_idiv C dX10_layTold_20 (by decide) ?_
      refine x_istore_n C [(2, .int ((a / 5) / 5)), (3, .int 1), (0, .ref hy), (1, .int a)] dX10_layTold_21 rfl (by decide) rfl ?_
      refine x_iinc C 1 2 [(3, .int 2), (2, .int ((a / 5) / 5)), (0, .ref hy), (1, .int a)] dX10_layTold_22 rfl (by decide) (by decide) rfl ?_
      refine x_goto C 4 dX10_layTold_25 (by decide) ?_
      refine x_iload_n C 0 dX10_layTold_4 rfl rfl ?_
      refine x_iconst C 4 dX10_layTold_5 (by decide) ?_
      refine x_icmp_ge C 28 dX10_layTold_6 (by decide) (fun c_6 => ?_) (fun c_6 => ?_)
      · skip
        have e_6 : (4 : Int32).toInt ≤ (2 : Int32).toInt := i_le.mp c_6
        have : (4 : Int32).toInt = 4 := by decide
        have : (2 : Int32).toInt = 2 := by decide
        exfalso
        omega
      · skip
        have e_6 : ¬ ((4 : Int32).toInt ≤ (2 : Int32).toInt) := fun h => c_6 (i_le.mpr h)
        have : (4 : Int32).toInt = 4 := by decide
        have : (2 : Int32).toInt = 2 := by decide
        refine x_aload_n C 2 dX10_layTold_9 rfl rfl ?_
        refine x_get C 0 15 dX10_layTold_10 inlX10 rfl (by decide) wd_133 rfl rfl rfl ?_
        refine x_iload_n C 0 dX10_layTold_13 rfl rfl ?_
        refine x_iload_n C 1 dX10_layTold_14 rfl rfl ?_
        refine x_iconst C 5 dX10_layTold_15 (by decide) ?_
        refine x_irem C dX10_layTold_16 (by decide) ?_
        have v_17 : vp_in 2 4 := (vp_in_iff.mpr (by decide))
        refine x_iast C 1 0 [(hy, .inr (10, [.ref m0, .ref m1, .ref m2, .ref m3, .ref m4, .ref m5, .ref m6, .ref m7, .ref m8, .ref m9, .int mw, .int ml, .int mb, .ref m10, .int mz, .ref m11, .int op, .int bp, .int by0, .int dp, .int tk, .ref m12, .ref m13, .ref m14, .ref m15, .ref m16, .ref m17, .ref m18, .int ka, .int iw])), (m11, .inl (cI, 4, .inl (upd (upd (upd tl (Int32.toNatClampNeg 0) (a - a / 5 * 5)) (Int32.toNatClampNeg 1) ((a / 5) - (a / 5) / 5 * 5)) (Int32.toNatClampNeg 2) (((a / 5) / 5) - ((a / 5) / 5) / 5 * 5))))] dX10_layTold_17 hT.1 rfl v_17 rfl ?_
        refine x_iload_n C 1 dX10_layTold_18 rfl rfl ?_
        refine x_iconst C 5 dX10_layTold_19 (by decide) ?_
        refine x_idiv C dX10_layTold_20 (by decide) ?_
        refine x_istore_n C [(2, .int (((a / 5) / 5) / 5)), (3, .int 2), (0, .ref hy), (1, .int a)] dX10_layTold_21 rfl (by decide) rfl ?_
        refine x_iinc C 1 3 [(3, .int 3), (2, .int (((a / 5) / 5) / 5)), (0, .ref hy), (1, .int a)] dX10_layTold_22 rfl (by decide) (by decide) rfl ?_
        refine x_goto C 4 dX10_layTold_25 (by decide) ?_
        refine x_iload_n C 0 dX10_layTold_4 rfl rfl ?_
        refine x_iconst C 4 dX10_layTold_5 (by decide) ?_
        refine x_icmp_ge C 28 dX10_layTold_6 (by decide) (fun c_6 => ?_) (fun c_6 => ?_)
        · skip
          have e_6 : (4 : Int32).toInt ≤ (3 : Int32).toInt := i_le.mp c_6
          have : (4 : Int32).toInt = 4 := by decide
          have : (3 : Int32).toInt = 3 := by decide
          exfalso
          omega
        · skip
          have e_6 : ¬ ((4 : Int32).toInt ≤ (3 : Int32).toInt) := fun h => c_6 (i_le.mpr h)
          have : (4 : Int32).toInt = 4 := by decide
          have : (3 : Int32).toInt = 3 := by decide
          refine x_aload_n C 2 dX10_layTold_9 rfl rfl ?_
          refine x_get C 0 15 dX10_layTold_10 inlX10 rfl (by decide) wd_133 rfl rfl rfl ?_
          refine x_iload_n C 0 dX10_layTold_13 rfl rfl ?_
          refine x_iload_n C 1 dX10_layTold_14 rfl rfl ?_
          refine x_iconst C 5 dX10_layTold_15 (by decide) ?_
          refine x_irem C dX10_layTold_16 (by decide) ?_
          have v_17 : vp_in 3 4 := (vp_in_iff.mpr (by decide))
          refine x_iast C 1 0 [(hy, .inr (10, [.ref m0, .ref m1, .ref m2, .ref m3, .ref m4, .ref m5, .ref m6, .ref m7, .ref m8, .ref m9, .int mw, .int ml, .int mb, .ref m10, .int mz, .ref m11, .int op, .int bp, .int by0, .int dp, .int tk, .ref m12, .ref m13, .ref m14, .ref m15, .ref m16, .ref m17, .ref m18, .int ka, .int iw])), (m11, .inl (cI, 4, .inl (upd (upd (upd (upd tl (Int32.toNatClampNeg 0) (a - a / 5 * 5)) (Int32.toNatClampNeg 1) ((a / 5) - (a / 5) / 5 * 5)) (Int32.toNatClampNeg 2) (((a / 5) / 5) - ((a / 5) / 5) / 5 * 5)) (Int32.toNatClampNeg 3) ((((a / 5) / 5) / 5) - (((a / 5) / 5) / 5) / 5 * 5))))] dX10_layTold_17 hT.1 rfl v_17 rfl ?_
          refine x_iload_n C 1 dX10_layTold_18 rfl rfl ?_
          refine x_iconst C 5 dX10_layTold_19 (by decide) ?_
          refine x_idiv C dX10_layTold_20 (by decide) ?_
          refine x_istore_n C [(2, .int ((((a / 5) / 5) / 5) / 5)), (3, .int 3), (0, .ref hy), (1, .int a)] dX10_layTold_21 rfl (by decide) rfl ?_
          refine x_iinc C 1 4 [(3, .int 4), (2, .int ((((a / 5) / 5) / 5) / 5)), (0, .ref hy), (1, .int a)] dX10_layTold_22 rfl (by decide) (by decide) rfl ?_
          refine x_goto C 4 dX10_layTold_25 (by decide) ?_
          refine x_iload_n C 0 dX10_layTold_4 rfl rfl ?_
          refine x_iconst C 4 dX10_layTold_5 (by decide) ?_
          refine x_icmp_ge C 28 dX10_layTold_6 (by decide) (fun c_6 => ?_) (fun c_6 => ?_)
          · skip
            have e_6 : (4 : Int32).toInt ≤ (4 : Int32).toInt := i_le.mp c_6
            have : (4 : Int32).toInt = 4 := by decide
            have : (4 : Int32).toInt = 4 := by decide
            refine x_arr 1 (tdn a) [(hy, .inr (10, [.ref m0, .ref m1, .ref m2, .ref m3, .ref m4, .ref m5, .ref m6, .ref m7, .ref m8, .ref m9, .int mw, .int ml, .int mb, .ref m10, .int mz, .ref m11, .int op, .int bp, .int by0, .int dp, .int tk, .ref m12, .ref m13, .ref m14, .ref m15, .ref m16, .ref m17, .ref m18, .int ka, .int iw])), (m11, .inl (cI, 4, .inl (tdn a)))] rfl td_upd rfl ?_
            exact x_vret C dX10_layTold_28 (Nat.zero_le _) (Nat.zero_le _) (by rw [eO]; exact ⟨(), rfl, rfl, trivial⟩)
          · skip
            have e_6 : ¬ ((4 : Int32).toInt ≤ (4 : Int32).toInt) := fun h => c_6 (i_le.mpr h)
            have : (4 : Int32).toInt = 4 := by decide
            have : (4 : Int32).toInt = 4 := by decide
            exfalso
            omega
abbrev rm_X10_lay : Room := { frames := 1, cells := 0, slots := 0, locals := 23 }
set_option maxHeartbeats 4000000 in
set_option maxRecDepth 100000 in
theorem c_X10_lay (l : Launch) (D : va_G) (tys : List (ClassId × FieldType)) {cI cJ cZ cB : ClassId} (hT : Ty tys cI cJ cZ cB) (hy m0 m1 m2 m3 m4 m5 m6 m7 m8 m9 m10 m11 m12 m13 m14 m15 m16 m17 m18 : Nat) (tl co : Nat → Int32) (mw ml mb mz op bp by0 dp tk ka iw : Int32) (a : Int32) (hst : 0 ≤ a.toInt ∧ a.toInt < 40625) : Cn l D tys yX10_lay cX10_lay 2 none rm_X10_lay [(hy, .inr (10, [.ref m0, .ref m1, .ref m2, .ref m3, .ref m4, .ref m5, .ref m6, .ref m7, .ref m8, .ref m9, .int mw, .int ml, .int mb, .ref m10, .int mz, .ref m11, .int op, .int bp, .int by0, .int dp, .int tk, .ref m12, .ref m13, .ref m14, .ref m15, .ref m16, .ref m17, .ref m18, .int ka, .int iw])), (m11, .inl (cI, 4, .inl tl)), (m1, .inl (cI, 65, .inl co))] [.ref hy, .int a] (fun v W1 => ∃ (_ : Unit), v = none ∧ W1 = [(hy, .inr (10, [.ref m0, .ref m1, .ref m2, .ref m3, .ref m4, .ref m5, .ref m6, .ref m7, .ref m8, .ref m9, .int mw, .int ml, .int mb, .ref m10, .int mz, .ref m11, .int (opS co a), .int bp, .int by0, .int dp, .int tk, .ref m12, .ref m13, .ref m14, .ref m15, .ref m16, .ref m17, .ref m18, .int ka, .int iw])), (m11, .inl (cI, 4, .inl (tds a))), (m1, .inl (cI, 65, .inl co))] ∧ (True)) := by
  refine Cn.of (by decide) (Nat.le_of_ble_eq_true rfl) ?_ ?_ (fun X eL eD eT eO eK eN eM C => ?_)
  · intro h; cases h
  · intro v ws h; obtain ⟨_, rfl, rfl, _⟩ := h; rfl
  subst eL eD eT
  show V X 2 [(hy, .inr (10, [.ref m0, .ref m1, .ref m2, .ref m3, .ref m4, .ref m5, .ref m6, .ref m7, .ref m8, .ref m9, .int mw, .int ml, .int mb, .ref m10, .int mz, .ref m11, .int op, .int bp, .int by0, .int dp, .int tk, .ref m12, .ref m13, .ref m14, .ref m15, .ref m16, .ref m17, .ref m18, .int ka, .int iw])), (m11, .inl (cI, 4, .inl tl)), (m1, .inl (cI, 65, .inl co))] [(0, .ref hy), (1, .int a)] [] 0 0 0
  refine x_aload_n C 0 dX10_lay_0 rfl rfl ?_
  refine x_iload_n C 1 dX10_lay_1 rfl rfl ?_
  refine x_bipush C 65 dX10_lay_2 (by decide) ?_
  refine x_idiv C dX10_lay_4 (by decide) ?_
  refine x_callV C [.int (a / 65)] [(m1, .inl (cI, 65, .inl co))] [0, 1] [2] (q0 := 0) (c_X10_layTold (xl X) (xD X) (xt X) hT hy m0 m1 m2 m3 m4 m5 m6 m7 m8 m9 m10 m11 m12 m13 m14 m15 m16 m17 m18 tl mw ml mb mz op bp by0 dp tk ka iw (a / 65) ) dX10_lay_5 wd_435 wd_436 wd_437 wd_5 wd_438 (np := 1) ⟨by decide, by decide, by decide +kernel⟩ rfl rfl (Nat.le_of_ble_eq_true rfl) (by decide) rfl rfl rfl rfl (by decide) rfl (by decide) (by decide) (fun v W1 h => ?_)
  obtain ⟨_, rfl, rfl, h_5⟩ := h
  show V X 2 [(m1, .inl (cI, 65, .inl co)), (hy, .inr (10, [.ref m0, .ref m1, .ref m2, .ref m3, .ref m4, .ref m5, .ref m6, .ref m7, .ref m8, .ref m9, .int mw, .int ml, .int mb, .ref m10, .int mz, .ref m11, .int op, .int bp, .int by0, .int dp, .int tk, .ref m12, .ref m13, .ref m14, .ref m15, .ref m16, .ref m17, .ref m18, .int ka, .int iw])), (m11, .inl (cI, 4, .inl (tdn (a / 65))))] [(0, .ref hy), (1, .int a)] [] 8 0 0
  refine x_aload_n C 0 dX10_lay_8 rfl rfl ?_
  refine x_aload_n C 0 dX10_lay_9 rfl rfl ?_
  refine x_get C 1 1 dX10_lay_10 inlX10 rfl (by decide) wd_123 rfl rfl rfl ?_
  refine x_iload_n C 1 dX10_lay_13 rfl rfl ?_
  refine x_bipush C 65 dX10_lay_14 (by decide) ?_
  refine x_irem C dX10_lay_16 (by decide) ?_
  have v_17 : vp_in (a - a / 65 * 65) 65 := (vp_in_iff.mpr (by have := i_rem65 (x := a) (by omega); omega))
  refine x_iald C 0 0 dX10_lay_17 hT.1 rfl v_17 ?_
  refine x_put C 1 16 (ty := .int) [(m1, .inl (cI, 65, .inl co)), (hy, .inr (10, [.ref m0, .ref m1, .ref m2, .ref m3, .ref m4, .ref m5, .ref m6, .ref m7, .ref m8, .ref m9, .int mw, .int ml, .int mb, .ref m10, .int mz, .ref m11, .int (co (Int32.toNatClampNeg (a - a / 65 * 65))), .int bp, .int by0, .int dp, .int tk, .ref m12, .ref m13, .ref m14, .ref m15, .ref m16, .ref m17, .ref m18, .int ka, .int iw])), (m11, .inl (cI, 4, .inl (tdn (a / 65))))] dX10_lay_18 inlX10 tyX10 tyX10_ok nmX10 rfl (by decide) wd_434 rfl rfl rfl rfl rfl rfl (Nat.le_of_ble_eq_true rfl) rfl ?_
  refine x_sub [(hy, .inr (10, [.ref m0, .ref m1, .ref m2, .ref m3, .ref m4, .ref m5, .ref m6, .ref m7, .ref m8, .ref m9, .int mw, .int ml, .int mb, .ref m10, .int mz, .ref m11, .int (co (Int32.toNatClampNeg (a - a / 65 * 65))), .int bp, .int by0, .int dp, .int tk, .ref m12, .ref m13, .ref m14, .ref m15, .ref m16, .ref m17, .ref m18, .int ka, .int iw])), (m11, .inl (cI, 4, .inl (tdn (a / 65)))), (m1, .inl (cI, 65, .inl co))] [1, 2, 0] (by decide) rfl ?_
  exact x_vret C dX10_lay_21 (Nat.zero_le _) (Nat.zero_le _) (by rw [eO]; exact ⟨(), rfl, rfl, trivial⟩)
abbrev rm_X10_standNow : Room := { frames := 1, cells := 0, slots := 0, locals := 20 }
set_option maxHeartbeats 4000000 in
set_option maxRecDepth 100000 in
theorem c_X10_standNow (l : Launch) (D : va_G) (tys : List (ClassId × FieldType)) {cI cJ cZ cB : ClassId} (hT : Ty tys cI cJ cZ cB) (hy m0 m1 m2 m3 m4 m5 m6 m7 m8 m9 m10 m11 m12 m13 m14 m15 m16 m17 m18 : Nat) (tl ro : Nat → Int32) (mw ml mb mz op bp by0 dp tk ka iw : Int32) (hop : 0 ≤ op.toInt ∧ op.toInt < 625) : Cn l D tys yX10_standNow cX10_standNow 3 (some .int) rm_X10_standNow [(hy, .inr (10, [.ref m0, .ref m1, .ref m2, .ref m3, .ref m4, .ref m5, .ref m6, .ref m7, .ref m8, .ref m9, .int mw, .int ml, .int mb, .ref m10, .int mz, .ref m11, .int op, .int bp, .int by0, .int dp, .int tk, .ref m12, .ref m13, .ref m14, .ref m15, .ref m16, .ref m17, .ref m18, .int ka, .int iw])), (m11, .inl (cI, 4, .inl tl)), (m0, .inl (cI, 625, .inl ro))] [.ref hy] (fun v W1 => ∃ (_ : Unit), v = some (.int (stF ro tl op)) ∧ W1 = [(hy, .inr (10, [.ref m0, .ref m1, .ref m2, .ref m3, .ref m4, .ref m5, .ref m6, .ref m7, .ref m8, .ref m9, .int mw, .int ml, .int mb, .ref m10, .int mz, .ref m11, .int op, .int bp, .int by0, .int dp, .int tk, .ref m12, .ref m13, .ref m14, .ref m15, .ref m16, .ref m17, .ref m18, .int ka, .int iw])), (m11, .inl (cI, 4, .inl tl)), (m0, .inl (cI, 625, .inl ro))] ∧ (True)) := by
  refine Cn.of (by decide) (Nat.le_of_ble_eq_true rfl) ?_ ?_ (fun X eL eD eT eO eK eN eM C => ?_)
  · intro h; cases h
  · intro v ws h; obtain ⟨_, rfl, rfl, _⟩ := h; exact Or.inl rfl
  subst eL eD eT
  show V X 3 [(hy, .inr (10, [.ref m0, .ref m1, .ref m2, .ref m3, .ref m4, .ref m5, .ref m6, .ref m7, .ref m8, .ref m9, .int mw, .int ml, .int mb, .ref m10, .int mz, .ref m11, .int op, .int bp, .int by0, .int dp, .int tk, .ref m12, .ref m13, .ref m14, .ref m15, .ref m16, .ref m17, .ref m18, .int ka, .int iw])), (m11, .inl (cI, 4, .inl tl)), (m0, .inl (cI, 625, .inl ro))] [(0, .ref hy)] [] 0 0 0
  refine x_iconst C 0 dX10_standNow_0 (by decide) ?_
  refine x_istore_n C [(1, .int 0), (0, .ref hy)] dX10_standNow_1 rfl (by decide) rfl ?_
  refine x_iconst C 0 dX10_standNow_2 (by decide) ?_
  refine x_istore_n C [(2, .int 0), (1, .int 0), (0, .ref hy)] dX10_standNow_3 rfl (by decide) rfl ?_
  refine x_iload_n C 0 dX10_standNow_4 rfl rfl ?_
  refine x_iconst C 4 dX10_standNow_5 (by decide) ?_
  refine x_icmp_ge C 29 dX10_standNow_6 (by decide) (fun c_6 => ?_) (fun c_6 => ?_)
  · skip
    have e_6 : (4 : Int32).toInt ≤ (0 : Int32).toInt := i_le.mp c_6
    have : (4 : Int32).toInt = 4 := by decide
    have : (0 : Int32).toInt = 0 := by decide
    exfalso
    omega
  · skip
    have e_6 : ¬ ((4 : Int32).toInt ≤ (0 : Int32).toInt) := fun h => c_6 (i_le.mpr h)
    have : (4 : Int32).toInt = 4 := by decide
    have : (0 : Int32).toInt = 0 := by decide
    refine x_iload_n C 1 dX10_standNow_9 rfl rfl ?_
    refine x_iload_n C 0 dX10_standNow_10 rfl rfl ?_
    refine x_callS C [.int 0] [(hy, .inr (10, [.ref m0, .ref m1, .ref m2, .ref m3, .ref m4, .ref m5, .ref m6, .ref m7, .ref m8, .ref m9, .int mw, .int ml, .int mb, .ref m10, .int mz, .ref m11, .int op, .int bp, .int by0, .int dp, .int tk, .ref m12, .ref m13, .ref m14, .ref m15, .ref m16, .ref m17, .ref m18, .int ka, .int iw])), (m11, .inl (cI, 4, .inl tl)), (m0, .inl (cI, 625, .inl ro))] [] [0, 1, 2] (c_X10_powerOf (xl X) (xD X) (xt X) hT 0 ) dX10_standNow_11 wd_595 wd_596 wd_5 wd_597 (np := 1) ⟨by decide, by decide, by decide +kernel⟩ rfl rfl (Nat.le_of_ble_eq_true rfl) (by decide) rfl (by decide) rfl (by decide) (by decide) (fun v W1 h => ?_)
    obtain ⟨_, rfl, rfl, h_11⟩ := h
    have : (0 : Int32).toInt = 0 := by decide
    show V X 3 [(hy, .inr (10, [.ref m0, .ref m1, .ref m2, .ref m3, .ref m4, .ref m5, .ref m6, .ref m7, .ref m8, .ref m9, .int mw, .int ml, .int mb, .ref m10, .int mz, .ref m11, .int op, .int bp, .int by0, .int dp, .int tk, .ref m12, .ref m13, .ref m14, .ref m15, .ref m16, .ref m17, .ref m18, .int ka, .int iw])), (m11, .inl (cI, 4, .inl tl)), (m0, .inl (cI, 625, .inl ro))] [(2, .int 0), (1, .int 0), (0, .ref hy)] [.int (pw 0), .int 0] 14 0 0
    refine x_aload_n C 2 dX10_standNow_14 rfl rfl ?_
    refine x_get C 0 15 dX10_standNow_15 inlX10 rfl (by decide) wd_133 rfl rfl rfl ?_
    refine x_iload_n C 0 dX10_standNow_18 rfl rfl ?_
    have v_19 : vp_in 0 4 := (vp_in_iff.mpr (by decide))
    refine x_iald C 1 0 dX10_standNow_19 hT.1 rfl v_19 ?_
    refine x_imul C dX10_standNow_20 ?_
    refine x_iadd C dX10_standNow_21 ?_
    refine x_istore_n C [(1, .int (0 + ((pw 0) * (tl (Int32.toNatClampNeg 0))))), (2, .int 0), (0, .ref hy)] dX10_standNow_22 rfl (by decide) rfl ?_
    refine x_iinc C 1 1 [(2, .int 1), (1, .int (0 + ((pw 0) * (tl (Int32.toNatClampNeg 0))))), (0, .ref hy)] dX10_standNow_23 rfl (by decide) (by decide) rfl ?_
    refine x_goto C 4 dX10_standNow_26 (by decide) ?_
    refine x_iload_n C 0 dX10_standNow_4 rfl rfl ?_
    refine x_iconst C 4 dX10_standNow_5 (by decide) ?_
    refine x_icmp_ge C 29 dX10_standNow_6 (by decide) (fun c_6 => ?_) (fun c_6 => ?_)
    · skip
      have e_6 : (4 : Int32).toInt ≤ (1 : Int32).toInt := i_le.mp c_6
      have : (4 : Int32).toInt = 4 := by decide
      have : (1 : Int32).toInt = 1 := by decide
      exfalso
      omega
    · skip
      have e_6 : ¬ ((4 : Int32).toInt ≤ (1 : Int32).toInt) := fun h => c_6 (i_le.mpr h)
      have : (4 : Int32).toInt = 4 := by decide
      have : (1 : Int32).toInt = 1 := by decide
      refine x_iload_n C 1 dX10_standNow_9 rfl rfl ?_
      refine x_iload_n C 0 dX10_standNow_10 rfl rfl ?_
      refine x_callS C [.int 1] [(hy, .inr (10, [.ref m0, .ref m1, .ref m2, .ref m3, .ref m4, .ref m5, .ref m6, .ref m7, .ref m8, .ref m9, .int mw, .int ml, .int mb, .ref m10, .int mz, .ref m11, .int op, .int bp, .int by0, .int dp, .int tk, .ref m12, .ref m13, .ref m14, .ref m15, .ref m16, .ref m17, .ref m18, .int ka, .int iw])), (m11, .inl (cI, 4, .inl tl)), (m0, .inl (cI, 625, .inl ro))] [] [0, 1, 2] (c_X10_powerOf (xl X) (xD X) (xt X) hT 1 ) dX10_standNow_11 wd_595 wd_596 wd_5 wd_597 (np := 1) ⟨by decide, by decide, by decide +kernel⟩ rfl rfl (Nat.le_of_ble_eq_true rfl) (by decide) rfl (by decide) rfl (by decide) (by decide) (fun v W1 h => ?_)
      obtain ⟨_, rfl, rfl, h_11_1⟩ := h
      have : (1 : Int32).toInt = 1 := by decide
      show V X 3 [(hy, .inr (10, [.ref m0, .ref m1, .ref m2, .ref m3, .ref m4, .ref m5, .ref m6, .ref m7, .ref m8, .ref m9, .int mw, .int ml, .int mb, .ref m10, .int mz, .ref m11, .int op, .int bp, .int by0, .int dp, .int tk, .ref m12, .ref m13, .ref m14, .ref m15, .ref m16, .ref m17, .ref m18, .int ka, .int iw])), (m11, .inl (cI, 4, .inl tl)), (m0, .inl (cI, 625, .inl ro))] [(2, .int 1), (1, .int (0 + ((pw 0) * (tl (Int32.toNatClampNeg 0))))), (0, .ref hy)] [.int (pw 1), .int (0 + ((pw 0) * (tl (Int32.toNatClampNeg 0))))] 14 0 0
      refine x_aload_n C 2 dX10_standNow_14 rfl rfl ?_
      refine x_get C 0 15 dX10_standNow_15 inlX10 rfl (by decide) wd_133 rfl rfl rfl ?_
      refine x_iload_n C 0 dX10_standNow_18 rfl rfl ?_
      have v_19 : vp_in 1 4 := (vp_in_iff.mpr (by decide))
      refine x_iald C 1 0 dX10_standNow_19 hT.1 rfl v_19 ?_
      refine x_imul C dX10_standNow_20 ?_
      refine x_iadd C dX10_standNow_21 ?_
      refine x_istore_n C [(1, .int ((0 + ((pw 0) * (tl (Int32.toNatClampNeg 0)))) + ((pw 1) * (tl (Int32.toNatClampNeg 1))))), (2, .int 1), (0, .ref hy)] dX10_standNow_22 rfl (by decide) rfl ?_
      refine x_iinc C 1 2 [(2, .int 2), (1, .int ((0 + ((pw 0) * (tl (Int32.toNatClampNeg 0)))) + ((pw 1) * (tl (Int32.toNatClampNeg 1))))), (0, .ref hy)] dX10_standNow_23 rfl (by decide) (by decide) rfl ?_
      refine x_goto C 4 dX10_standNow_26 (by decide) ?_
      refine x_iload_n C 0 dX10_standNow_4 rfl rfl ?_
      refine x_iconst C 4 dX10_standNow_5 (by decide) ?_
      refine x_icmp_ge C 29 dX10_standNow_6 (by decide) (fun c_6 => ?_) (fun c_6 => ?_)
      · skip
        have e_6 : (4 : Int32).toInt ≤ (2 : Int32).toInt := i_le.mp c_6
        have : (4 : Int32).toInt = 4 := by decide
        have : (2 : Int32).toInt = 2 := by decide
        exfalso
        omega
      · skip
        have e_6 : ¬ ((4 : Int32).toInt ≤ (2 : Int32).toInt) := fun h => c_6 (i_le.mpr h)
        have : (4 : Int32).toInt = 4 := by decide
        have : (2 : Int32).toInt = 2 := by decide
        refine x_iload_n C 1 dX10_standNow_9 rfl rfl ?_
        refine x_iload_n C 0 dX10_standNow_10 rfl rfl ?_
        refine x_callS C [.int 2] [(hy, .inr (10, [.ref m0, .ref m1, .ref m2, .ref m3, .ref m4, .ref m5, .ref m6, .ref m7, .ref m8, .ref m9, .int mw, .int ml, .int mb, .ref m10, .int mz, .ref m11, .int op, .int bp, .int by0, .int dp, .int tk, .ref m12, .ref m13, .ref m14, .ref m15, .ref m16, .ref m17, .ref m18, .int ka, .int iw])), (m11, .inl (cI, 4, .inl tl)), (m0, .inl (cI, 625, .inl ro))] [] [0, 1, 2] (c_X10_powerOf (xl X) (xD X) (xt X) hT 2 ) dX10_standNow_11 wd_595 wd_596 wd_5 wd_597 (np := 1) ⟨by decide, by decide, by decide +kernel⟩ rfl rfl (Nat.le_of_ble_eq_true rfl) (by decide) rfl (by decide) rfl (by decide) (by decide) (fun v W1 h => ?_)
        obtain ⟨_, rfl, rfl, h_11_2⟩ := h
        have : (2 : Int32).toInt = 2 := by decide
        show V X 3 [(hy, .inr (10, [.ref m0, .ref m1, .ref m2, .ref m3, .ref m4, .ref m5, .ref m6, .ref m7, .ref m8, .ref m9, .int mw, .int ml, .int mb, .ref m10, .int mz, .ref m11, .int op, .int bp, .int by0, .int dp, .int tk, .ref m12, .ref m13, .ref m14, .ref m15, .ref m16, .ref m17, .ref m18, .int ka, .int iw])), (m11, .inl (cI, 4, .inl tl)), (m0, .inl (cI, 625, .inl ro))] [(2, .int 2), (1, .int ((0 + ((pw 0) * (tl (Int32.toNatClampNeg 0)))) + ((pw 1) * (tl (Int32.toNatClampNeg 1))))), (0, .ref hy)] [.int (pw 2), .int ((0 + ((pw 0) * (tl (Int32.toNatClampNeg 0)))) + ((pw 1) * (tl (Int32.toNatClampNeg 1))))] 14 0 0
        refine x_aload_n C 2 dX10_standNow_14 rfl rfl ?_
        refine x_get C 0 15 dX10_standNow_15 inlX10 rfl (by decide) wd_133 rfl rfl rfl ?_
        refine x_iload_n C 0 dX10_standNow_18 rfl rfl ?_
        have v_19 : vp_in 2 4 := (vp_in_iff.mpr (by decide))
        refine x_iald C 1 0 dX10_standNow_19 hT.1 rfl v_19 ?_
        refine x_imul C dX10_standNow_20 ?_
        refine x_iadd C dX10_standNow_21 ?_
        refine x_istore_n C [(1, .int (((0 + ((pw 0) * (tl (Int32.toNatClampNeg 0)))) + ((pw 1) * (tl (Int32.toNatClampNeg 1)))) + ((pw 2) * (tl (Int32.toNatClampNeg 2))))), (2, .int 2), (0, .ref hy)] dX10_standNow_22 rfl (by decide) rfl ?_
        refine x_iinc C 1 3 [(2, .int 3), (1, .int (((0 + ((pw 0) * (tl (Int32.toNatClampNeg 0)))) + ((pw 1) * (tl (Int32.toNatClampNeg 1)))) + ((pw 2) * (tl (Int32.toNatClampNeg 2))))), (0, .ref hy)] dX10_standNow_23 rfl (by decide) (by decide) rfl ?_
        refine x_goto C 4 dX10_standNow_26 (by decide) ?_
        refine x_iload_n C 0 dX10_standNow_4 rfl rfl ?_
        refine x_iconst C 4 dX10_standNow_5 (by decide) ?_
        refine x_icmp_ge C 29 dX10_standNow_6 (by decide) (fun c_6 => ?_) (fun c_6 => ?_)
        · skip
          have e_6 : (4 : Int32).toInt ≤ (3 : Int32).toInt := i_le.mp c_6
          have : (4 : Int32).toInt = 4 := by decide
          have : (3 : Int32).toInt = 3 := by decide
          exfalso
          omega
        · skip
          have e_6 : ¬ ((4 : Int32).toInt ≤ (3 : Int32).toInt) := fun h => c_6 (i_le.mpr h)
          have : (4 : Int32).toInt = 4 := by decide
          have : (3 : Int32).toInt = 3 := by decide
          refine x_iload_n C 1 dX10_standNow_9 rfl rfl ?_
          refine x_iload_n C 0 dX10_standNow_10 rfl rfl ?_
          refine x_callS C [.int 3] [(hy, .inr (10, [.ref m0, .ref m1, .ref m2, .ref m3, .ref m4, .ref m5, .ref m6, .ref m7, .ref m8, .ref m9, .int mw, .int ml, .int mb, .ref m10, .int mz, .ref m11, .int op, .int bp, .int by0, .int dp, .int tk, .ref m12, .ref m13, .ref m14, .ref m15, .ref m16, .ref m17, .ref m18, .int ka, .int iw])), (m11, .inl (cI, 4, .inl tl)), (m0, .inl (cI, 625, .inl ro))] [] [0, 1, 2] (c_X10_powerOf (xl X) (xD X) (xt X) hT 3 ) dX10_standNow_11 wd_595 wd_596 wd_5 wd_597 (np := 1) ⟨by decide, by decide, by decide +kernel⟩ rfl rfl (Nat.le_of_ble_eq_true rfl) (by decide) rfl (by decide) rfl (by decide) (by decide) (fun v W1 h => ?_)
          obtain ⟨_, rfl, rfl, h_11_3⟩ := h
          have : (3 : Int32).toInt = 3 := by decide
          show V X 3 [(hy, .inr (10, [.ref m0, .ref m1, .ref m2, .ref m3, .ref m4, .ref m5, .ref m6, .ref m7, .ref m8, .ref m9, .int mw, .int ml, .int mb, .ref m10, .int mz, .ref m11, .int op, .int bp, .int by0, .int dp, .int tk, .ref m12, .ref m13, .ref m14, .ref m15, .ref m16, .ref m17, .ref m18, .int ka, .int iw])), (m11, .inl (cI, 4, .inl tl)), (m0, .inl (cI, 625, .inl ro))] [(2, .int 3), (1, .int (((0 + ((pw 0) * (tl (Int32.toNatClampNeg 0)))) + ((pw 1) * (tl (Int32.toNatClampNeg 1)))) + ((pw 2) * (tl (Int32.toNatClampNeg 2))))), (0, .ref hy)] [.int (pw 3), .int (((0 + ((pw 0) * (tl (Int32.toNatClampNeg 0)))) + ((pw 1) * (tl (Int32.toNatClampNeg 1)))) + ((pw 2) * (tl (Int32.toNatClampNeg 2))))] 14 0 0
          refine x_aload_n C 2 dX10_standNow_14 rfl rfl ?_
          refine x_get C 0 15 dX10_standNow_15 inlX10 rfl (by decide) wd_133 rfl rfl rfl ?_
          refine x_iload_n C 0 dX10_standNow_18 rfl rfl ?_
          have v_19 : vp_in 3 4 := (vp_in_iff.mpr (by decide))
          refine x_iald C 1 0 dX10_standNow_19 hT.1 rfl v_19 ?_
          refine x_imul C dX10_standNow_20 ?_
          refine x_iadd C dX10_standNow_21 ?_
          refine x_istore_n C [(1, .int ((((0 + ((pw 0) * (tl (Int32.toNatClampNeg 0)))) + ((pw 1) * (tl (Int32.toNatClampNeg 1)))) + ((pw 2) * (tl (Int32.toNatClampNeg 2)))) + ((pw 3) * (tl (Int32.toNatClampNeg 3))))), (2, .int 3), (0, .ref hy)] dX10_standNow_22 rfl (by decide) rfl ?_
          refine x_iinc C 1 4 [(2, .int 4), (1, .int ((((0 + ((pw 0) * (tl (Int32.toNatClampNeg 0)))) + ((pw 1) * (tl (Int32.toNatClampNeg 1)))) + ((pw 2) * (tl (Int32.toNatClampNeg 2)))) + ((pw 3) * (tl (Int32.toNatClampNeg 3))))), (0, .ref hy)] dX10_standNow_23 rfl (by decide) (by decide) rfl ?_
          refine x_goto C 4 dX10_standNow_26 (by decide) ?_
          refine x_iload_n C 0 dX10_standNow_4 rfl rfl ?_
          refine x_iconst C 4 dX10_standNow_5 (by decide) ?_
          refine x_icmp_ge C 29 dX10_standNow_6 (by decide) (fun c_6 => ?_) (fun c_6 => ?_)
          · skip
            have e_6 : (4 : Int32).toInt ≤ (4 : Int32).toInt := i_le.mp c_6
            have : (4 : Int32).toInt = 4 := by decide
            have : (4 : Int32).toInt = 4 := by decide
            refine x_bipush C 65 dX10_standNow_29 (by decide) ?_
            refine x_iload_n C 1 dX10_standNow_31 rfl rfl ?_
            refine x_imul C dX10_standNow_32 ?_
            refine x_aload_n C 2 dX10_standNow_33 rfl rfl ?_
            refine x_get C 0 0 dX10_standNow_34 inlX10 rfl (by decide) wd_122 rfl rfl rfl ?_
            refine x_aload_n C 2 dX10_standNow_37 rfl rfl ?_
            refine x_get C 0 16 dX10_standNow_38 inlX10 rfl (by decide) wd_434 rfl rfl rfl ?_
            have v_41 : vp_in op 625 := (vp_in_iff.mpr (by omega))
            refine x_iald C 2 0 dX10_standNow_41 hT.1 rfl v_41 ?_
            refine x_iadd C dX10_standNow_42 ?_
            exact x_iret C dX10_standNow_43 (Nat.zero_le _) (Nat.zero_le _) (by rw [eO]; exact ⟨(), rfl, rfl, trivial⟩)
          · skip
            have e_6 : ¬ ((4 : Int32).toInt ≤ (4 : Int32).toInt) := fun h => c_6 (i_le.mpr h)
            have : (4 : Int32).toInt = 4 := by decide
            have : (4 : Int32).toInt = 4 := by decide
            exfalso
            omega
abbrev rm_X10_isOut : Room := { frames := 0, cells := 0, slots := 0, locals := 0 }
set_option maxHeartbeats 4000000 in
set_option maxRecDepth 100000 in
theorem c_X10_isOut (l : Launch) (D : va_G) (tys : List (ClassId × FieldType)) {cI cJ cZ cB : ClassId} (hT : Ty tys cI cJ cZ cB) (hy m0 m1 m2 m3 m4 m5 m6 m7 m8 m9 m10 m11 m12 m13 m14 m15 m16 m17 m18 : Nat) (tl ma : Nat → Int32) (mw ml mb mz op bp by0 dp tk ka iw : Int32) (s : Int32) (hs : 0 ≤ s.toInt ∧ s.toInt ≤ 3) : Cn l D tys yX10_isOut cX10_isOut 2 (some .boolean) rm_X10_isOut [(hy, .inr (10, [.ref m0, .ref m1, .ref m2, .ref m3, .ref m4, .ref m5, .ref m6, .ref m7, .ref m8, .ref m9, .int mw, .int ml, .int mb, .ref m10, .int mz, .ref m11, .int op, .int bp, .int by0, .int dp, .int tk, .ref m12, .ref m13, .ref m14, .ref m15, .ref m16, .ref m17, .ref m18, .int ka, .int iw])), (m11, .inl (cI, 4, .inl tl)), (m2, .inl (cI, 4, .inl ma))] [.ref hy, .int s] (fun v W1 => ∃ (r : Int32), v = some (.int r) ∧ W1 = [(hy, .inr (10, [.ref m0, .ref m1, .ref m2, .ref m3, .ref m4, .ref m5, .ref m6, .ref m7, .ref m8, .ref m9, .int mw, .int ml, .int mb, .ref m10, .int mz, .ref m11, .int op, .int bp, .int by0, .int dp, .int tk, .ref m12, .ref m13, .ref m14, .ref m15, .ref m16, .ref m17, .ref m18, .int ka, .int iw])), (m11, .inl (cI, 4, .inl tl)), (m2, .inl (cI, 4, .inl ma))] ∧ (((r.toInt = 1 ∧ (tl (Int32.toNatClampNeg s)).toInt = (ma (Int32.toNatClampNeg s)).toInt) ∨ (r.toInt = 0 ∧ ¬ ((tl (Int32.toNatClampNeg s)).toInt = (ma (Int32.toNatClampNeg s)).toInt))))) := by
  refine Cn.of (by decide) (Nat.le_of_ble_eq_true rfl) ?_ ?_ (fun X eL eD eT eO eK eN eM C => ?_)
  · intro _ v ws h; obtain ⟨_, rfl, rfl, h⟩ := h; exact z_of (by omega)
  · intro v ws h; obtain ⟨_, rfl, rfl, _⟩ := h; exact Or.inr rfl
  subst eL eD eT
  show V X 2 [(hy, .inr (10, [.ref m0, .ref m1, .ref m2, .ref m3, .ref m4, .ref m5, .ref m6, .ref m7, .ref m8, .ref m9, .int mw, .int ml, .int mb, .ref m10, .int mz, .ref m11, .int op, .int bp, .int by0, .int dp, .int tk, .ref m12, .ref m13, .ref m14, .ref m15, .ref m16, .ref m17, .ref m18, .int ka, .int iw])), (m11, .inl (cI, 4, .inl tl)), (m2, .inl (cI, 4, .inl ma))] [(0, .ref hy), (1, .int s)] [] 0 0 0
  refine x_aload_n C 0 dX10_isOut_0 rfl rfl ?_
  refine x_get C 0 15 dX10_isOut_1 inlX10 rfl (by decide) wd_133 rfl rfl rfl ?_
  refine x_iload_n C 1 dX10_isOut_4 rfl rfl ?_
  have v_5 : vp_in s 4 := (vp_in_iff.mpr (by omega))
  refine x_iald C 1 0 dX10_isOut_5 hT.1 rfl v_5 ?_
  refine x_aload_n C 0 dX10_isOut_6 rfl rfl ?_
  refine x_get C 0 2 dX10_isOut_7 inlX10 rfl (by decide) wd_124 rfl rfl rfl ?_
  refine x_iload_n C 1 dX10_isOut_10 rfl rfl ?_
  have v_11 : vp_in s 4 := (vp_in_iff.mpr (by omega))
  refine x_iald C 2 0 dX10_isOut_11 hT.1 rfl v_11 ?_
  refine x_icmp_ne C 19 dX10_isOut_12 (by decide) (fun c_12 => ?_) (fun c_12 => ?_)
  · skip
    have e_12 : ¬ ((tl (Int32.toNatClampNeg s) : Int32).toInt = (ma (Int32.toNatClampNeg s) : Int32).toInt) := fun h => c_12 (i_eq.mpr h)
    refine x_iconst C 0 dX10_isOut_19 (by decide) ?_
    have : (0 : Int32).toInt = 0 := by decide
    exact x_iret C dX10_isOut_20 (Nat.zero_le _) (Nat.zero_le _) (by rw [eO]; exact ⟨0, rfl, rfl, (by omega)⟩)
  · skip
    have e_12 : (tl (Int32.toNatClampNeg s) : Int32).toInt = (ma (Int32.toNatClampNeg s) : Int32).toInt := i_eq.mp c_12
    refine x_iconst C 1 dX10_isOut_15 (by decide) ?_
    refine x_goto C 20 dX10_isOut_16 (by decide) ?_
    have : (1 : Int32).toInt = 1 := by decide
    exact x_iret C dX10_isOut_20 (Nat.zero_le _) (Nat.zero_le _) (by rw [eO]; exact ⟨1, rfl, rfl, (by omega)⟩)
abbrev rm_X10_isAtGate : Room := { frames := 0, cells := 0, slots := 0, locals := 0 }
set_option maxHeartbeats 4000000 in
set_option maxRecDepth 100000 in
theorem c_X10_isAtGate (l : Launch) (D : va_G) (tys : List (ClassId × FieldType)) {cI cJ cZ cB : ClassId} (hT : Ty tys cI cJ cZ cB) (hy m0 m1 m2 m3 m4 m5 m6 m7 m8 m9 m10 m11 m12 m13 m14 m15 m16 m17 m18 : Nat) (tl mg : Nat → Int32) (mw ml mb mz op bp by0 dp tk ka iw : Int32) (s : Int32) (hs : 0 ≤ s.toInt ∧ s.toInt ≤ 3) : Cn l D tys yX10_isAtGate cX10_isAtGate 2 (some .boolean) rm_X10_isAtGate [(hy, .inr (10, [.ref m0, .ref m1, .ref m2, .ref m3, .ref m4, .ref m5, .ref m6, .ref m7, .ref m8, .ref m9, .int mw, .int ml, .int mb, .ref m10, .int mz, .ref m11, .int op, .int bp, .int by0, .int dp, .int tk, .ref m12, .ref m13, .ref m14, .ref m15, .ref m16, .ref m17, .ref m18, .int ka, .int iw])), (m11, .inl (cI, 4, .inl tl)), (m4, .inl (cI, 4, .inl mg))] [.ref hy, .int s] (fun v W1 => ∃ (r : Int32), v = some (.int r) ∧ W1 = [(hy, .inr (10, [.ref m0, .ref m1, .ref m2, .ref m3, .ref m4, .ref m5, .ref m6, .ref m7, .ref m8, .ref m9, .int mw, .int ml, .int mb, .ref m10, .int mz, .ref m11, .int op, .int bp, .int by0, .int dp, .int tk, .ref m12, .ref m13, .ref m14, .ref m15, .ref m16, .ref m17, .ref m18, .int ka, .int iw])), (m11, .inl (cI, 4, .inl tl)), (m4, .inl (cI, 4, .inl mg))] ∧ (TB r (AG mg tl s))) := by
  refine Cn.of (by decide) (Nat.le_of_ble_eq_true rfl) ?_ ?_ (fun X eL eD eT eO eK eN eM C => ?_)
  · intro _ v ws h; obtain ⟨_, rfl, rfl, h⟩ := h; exact z_of h.n
  · intro v ws h; obtain ⟨_, rfl, rfl, _⟩ := h; exact Or.inr rfl
  subst eL eD eT
  show V X 2 [(hy, .inr (10, [.ref m0, .ref m1, .ref m2, .ref m3, .ref m4, .ref m5, .ref m6, .ref m7, .ref m8, .ref m9, .int mw, .int ml, .int mb, .ref m10, .int mz, .ref m11, .int op, .int bp, .int by0, .int dp, .int tk, .ref m12, .ref m13, .ref m14, .ref m15, .ref m16, .ref m17, .ref m18, .int ka, .int iw])), (m11, .inl (cI, 4, .inl tl)), (m4, .inl (cI, 4, .inl mg))] [(0, .ref hy), (1, .int s)] [] 0 0 0
  refine x_aload_n C 0 dX10_isAtGate_0 rfl rfl ?_
  refine x_get C 0 4 dX10_isAtGate_1 inlX10 rfl (by decide) wd_126 rfl rfl rfl ?_
  refine x_iload_n C 1 dX10_isAtGate_4 rfl rfl ?_
  have v_5 : vp_in s 4 := (vp_in_iff.mpr (by omega))
  refine x_iald C 2 0 dX10_isAtGate_5 hT.1 rfl v_5 ?_
  refine x_aload_n C 0 dX10_isAtGate_6 rfl rfl ?_
  refine x_get C 0 15 dX10_isAtGate_7 inlX10 rfl (by decide) wd_133 rfl rfl rfl ?_
  refine x_iload_n C 1 dX10_isAtGate_10 rfl rfl ?_
  have v_11 : vp_in s 4 := (vp_in_iff.mpr (by omega))
  refine x_iald C 1 0 dX10_isAtGate_11 hT.1 rfl v_11 ?_
  refine x_iconst C 1 dX10_isAtGate_12 (by decide) ?_
  refine x_isub C dX10_isAtGate_13 ?_
  refine x_ishr C dX10_isAtGate_14 ?_
  refine x_iconst C 1 dX10_isAtGate_15 (by decide) ?_
  refine x_iand C dX10_isAtGate_16 ?_
  refine x_iconst C 1 dX10_isAtGate_17 (by decide) ?_
  refine x_icmp_ne C 25 dX10_isAtGate_18 (by decide) (fun c_18 => ?_) (fun c_18 => ?_)
  · skip
    have e_18 : ¬ ((((mg (Int32.toNatClampNeg s)) >>> (((tl (Int32.toNatClampNeg s)) - 1) &&& 31)) &&& 1 : Int32).toInt = (1 : Int32).toInt) := fun h => c_18 (i_eq.mpr h)
    have : (1 : Int32).toInt = 1 := by decide
    refine x_iconst C 0 dX10_isAtGate_25 (by decide) ?_
    have : (0 : Int32).toInt = 0 := by decide
    exact x_iret C dX10_isAtGate_26 (Nat.zero_le _) (Nat.zero_le _) (by rw [eO]; exact ⟨0, rfl, rfl, (by first | exact TB.one (by unfold AG; omega) | exact TB.nil (by unfold AG; omega))⟩)
  · skip
    have e_18 : (((mg (Int32.toNatClampNeg s)) >>> (((tl (Int32.toNatClampNeg s)) - 1) &&& 31)) &&& 1 : Int32).toInt = (1 : Int32).toInt := i_eq.mp c_18
    have : (1 : Int32).toInt = 1 := by decide
    refine x_iconst C 1 dX10_isAtGate_21 (by decide) ?_
    refine x_goto C 26 dX10_isAtGate_22 (by decide) ?_
    have : (1 : Int32).toInt = 1 := by decide
    exact x_iret C dX10_isAtGate_26 (Nat.zero_le _) (Nat.zero_le _) (by rw [eO]; exact ⟨1, rfl, rfl, (by first | exact TB.one (by unfold AG; omega) | exact TB.nil (by unfold AG; omega))⟩)
abbrev rm_X10_mayBegin : Room := { frames := 1, cells := 0, slots := 0, locals := 22 }
set_option maxHeartbeats 4000000 in
set_option maxRecDepth 100000 in
theorem c_X10_mayBegin (l : Launch) (D : va_G) (tys : List (ClassId × FieldType)) {cI cJ cZ cB : ClassId} (hT : Ty tys cI cJ cZ cB) (hy m0 m1 m2 m3 m4 m5 m6 m7 m8 m9 m10 m11 m12 m13 m14 m15 m16 m17 m18 : Nat) (tl mg : Nat → Int32) (mw ml mb mz op bp by0 dp tk ka iw : Int32) (hrow : RowI op) : Cn l D tys yX10_mayBegin cX10_mayBegin 4 (some .boolean) rm_X10_mayBegin [(hy, .inr (10, [.ref m0, .ref m1, .ref m2, .ref m3, .ref m4, .ref m5, .ref m6, .ref m7, .ref m8, .ref m9, .int mw, .int ml, .int mb, .ref m10, .int mz, .ref m11, .int op, .int bp, .int by0, .int dp, .int tk, .ref m12, .ref m13, .ref m14, .ref m15, .ref m16, .ref m17, .ref m18, .int ka, .int iw])), (m11, .inl (cI, 4, .inl tl)), (m4, .inl (cI, 4, .inl mg))] [.ref hy] (fun v W1 => ∃ (r : Int32), v = some (.int r) ∧ W1 = [(hy, .inr (10, [.ref m0, .ref m1, .ref m2, .ref m3, .ref m4, .ref m5, .ref m6, .ref m7, .ref m8, .ref m9, .int mw, .int ml, .int mb, .ref m10, .int mz, .ref m11, .int op, .int bp, .int by0, .int dp, .int tk, .ref m12, .ref m13, .ref m14, .ref m15, .ref m16, .ref m17, .ref m18, .int ka, .int iw])), (m11, .inl (cI, 4, .inl tl)), (m4, .inl (cI, 4, .inl mg))] ∧ (TB r (MB mg tl ml op))) := by
  refine Cn.of (by decide) (Nat.le_of_ble_eq_true rfl) ?_ ?_ (fun X eL eD eT eO eK eN eM C => ?_)
  · intro _ v ws h; obtain ⟨_, rfl, rfl, h⟩ := h; exact z_of h.n
  · intro v ws h; obtain ⟨_, rfl, rfl, _⟩ := h; exact Or.inr rfl
  subst eL eD eT
  show V X 4 [(hy, .inr (10, [.ref m0, .ref m1, .ref m2, .ref m3, .ref m4, .ref m5, .ref m6, .ref m7, .ref m8, .ref m9, .int mw, .int ml, .int mb, .ref m10, .int mz, .ref m11, .int op, .int bp, .int by0, .int dp, .int tk, .ref m12, .ref m13, .ref m14, .ref m15, .ref m16, .ref m17, .ref m18, .int ka, .int iw])), (m11, .inl (cI, 4, .inl tl)), (m4, .inl (cI, 4, .inl mg))] [(0, .ref hy)] [] 0 0 0
  refine x_aload_n C 0 dX10_mayBegin_0 rfl rfl ?_
  refine x_get C 0 16 dX10_mayBegin_1 inlX10 rfl (by decide) wd_434 rfl rfl rfl ?_
  have g1 := hrow.rng
  refine x_if_ne C 9 dX10_mayBegin_4 (by decide) (fun c_4 => ?_) (fun c_4 => ?_)
  · skip
    have e_4 : ¬ ((op : Int32).toInt = (0 : Int32).toInt) := fun h => c_4 (i_eq.mpr h)
    have : (0 : Int32).toInt = 0 := by decide
    have g2 := row_last hrow (by omega)
    refine x_aload_n C 0 dX10_mayBegin_9 rfl rfl ?_
    refine x_get C 0 11 dX10_mayBegin_10 inlX10 rfl (by decide) wd_347 rfl rfl rfl ?_
    refine x_iconst C 2 dX10_mayBegin_13 (by decide) ?_
    refine x_icmp_ge C 47 dX10_mayBegin_14 (by decide) (fun c_14 => ?_) (fun c_14 => ?_)
    · skip
      have e_14 : (2 : Int32).toInt ≤ (ml : Int32).toInt := i_le.mp c_14
      have : (2 : Int32).toInt = 2 := by decide
      refine x_iconst C 0 dX10_mayBegin_47 (by decide) ?_
      refine x_istore_n C [(1, .int 0), (0, .ref hy)] dX10_mayBegin_48 rfl (by decide) rfl ?_
      refine x_aload_n C 1 dX10_mayBegin_49 rfl rfl ?_
      refine x_get C 0 16 dX10_mayBegin_50 inlX10 rfl (by decide) wd_434 rfl rfl rfl ?_
      refine x_callS C [.int op] [(hy, .inr (10, [.ref m0, .ref m1, .ref m2, .ref m3, .ref m4, .ref m5, .ref m6, .ref m7, .ref m8, .ref m9, .int mw, .int ml, .int mb, .ref m10, .int mz, .ref m11, .int op, .int bp, .int by0, .int dp, .int tk, .ref m12, .ref m13, .ref m14, .ref m15, .ref m16, .ref m17, .ref m18, .int ka, .int iw])), (m11, .inl (cI, 4, .inl tl)), (m4, .inl (cI, 4, .inl mg))] [] [0, 1, 2] (c_X10_setOf (xl X) (xD X) (xt X) hT op (by omega)) dX10_mayBegin_53 wd_462 wd_463 wd_5 wd_464 (np := 1) ⟨by decide, by decide, by decide +kernel⟩ rfl rfl (Nat.le_of_ble_eq_true rfl) (by decide) rfl (by decide) rfl (by decide) (by decide) (fun v W1 h => ?_)
      obtain ⟨_, rfl, rfl, h_53⟩ := h
      show V X 4 [(hy, .inr (10, [.ref m0, .ref m1, .ref m2, .ref m3, .ref m4, .ref m5, .ref m6, .ref m7, .ref m8, .ref m9, .int mw, .int ml, .int mb, .ref m10, .int mz, .ref m11, .int op, .int bp, .int by0, .int dp, .int tk, .ref m12, .ref m13, .ref m14, .ref m15, .ref m16, .ref m17, .ref m18, .int ka, .int iw])), (m11, .inl (cI, 4, .inl tl)), (m4, .inl (cI, 4, .inl mg))] [(1, .int 0), (0, .ref hy)] [.int (setI op)] 56 0 0
      refine x_istore_n C [(2, .int (setI op)), (1, .int 0), (0, .ref hy)] dX10_mayBegin_56 rfl (by decide) rfl ?_
      refine x_iconst C 0 dX10_mayBegin_57 (by decide) ?_
      refine x_istore_n C [(3, .int 0), (2, .int (setI op)), (1, .int 0), (0, .ref hy)] dX10_mayBegin_58 rfl (by decide) rfl ?_
      have L_59 : ∀ (n_59 : Nat) (x3_59 : Int32) (x1_59 : Int32), ((0 ≤ x3_59.toInt ∧ x3_59.toInt ≤ 4 ∧ (x1_59.toInt = 0 ∨ x1_59.toInt = 1)) ∧ TB x1_59 (EX (fun y => bit1 (setI op) y ∧ AG mg tl y) x3_59)) → ((4 - x3_59.toInt).toNat < n_59) → V X 4 [(hy, .inr (10, [.ref m0, .ref m1, .ref m2, .ref m3, .ref m4, .ref m5, .ref m6, .ref m7, .ref m8, .ref m9, .int mw, .int ml, .int mb, .ref m10, .int mz, .ref m11, .int op, .int bp, .int by0, .int dp, .int tk, .ref m12, .ref m13, .ref m14, .ref m15, .ref m16, .ref m17, .ref m18, .int ka, .int iw])), (m11, .inl (cI, 4, .inl tl)), (m4, .inl (cI, 4, .inl mg))] [(3, .int x3_59), (2, .int (setI op)), (1, .int x1_59), (0, .ref hy)] [] 59 0 0 := by
        intro n_59
        induction n_59 with
        | zero =>
          intro x3_59 x1_59 i_59 m_59
          exact absurd m_59 (Nat.not_lt_zero _)
        | succ n_59 ih_59 =>
          intro x3_59 x1_59 i_59 m_59
          refine x_iload_n C 0 dX10_mayBegin_59 rfl rfl ?_
          refine x_iconst C 4 dX10_mayBegin_60 (by decide) ?_
          refine x_icmp_ge C 97 dX10_mayBegin_61 (by decide) (fun c_61 => ?_) (fun c_61 => ?_)
          · skip
            have e_61 : (4 : Int32).toInt ≤ (x3_59 : Int32).toInt := i_le.mp c_61
            have : (4 : Int32).toInt = 4 := by decide
            refine x_iload_n C 2 dX10_mayBegin_97 rfl rfl ?_
            exact x_iret C dX10_mayBegin_98 (Nat.zero_le _) (Nat.zero_le _) (by rw [eO]; exact ⟨x1_59, rfl, rfl, (i_59.2.iff (MB_3 (by omega) (by omega) (by omega)))⟩)
          · skip
            have e_61 : ¬ ((4 : Int32).toInt ≤ (x3_59 : Int32).toInt) := fun h => c_61 (i_le.mpr h)
            have : (4 : Int32).toInt = 4 := by decide
            refine x_iload_n C 2 dX10_mayBegin_64 rfl rfl ?_
            refine x_if_ne C 85 dX10_mayBegin_65 (by decide) (fun c_65 => ?_) (fun c_65 => ?_)
            · skip
              have e_65 : ¬ ((x1_59 : Int32).toInt = (0 : Int32).toInt) := fun h => c_65 (i_eq.mpr h)
              have : (0 : Int32).toInt = 0 := by decide
              refine x_iconst C 1 dX10_mayBegin_85 (by decide) ?_
              refine x_goto C 90 dX10_mayBegin_86 (by decide) ?_
              refine x_istore_n C [(1, .int 1), (3, .int x3_59), (2, .int (setI op)), (0, .ref hy)] dX10_mayBegin_90 rfl (by decide) rfl ?_
              refine x_iinc C 1 (x3_59 + 1) [(3, .int (x3_59 + 1)), (1, .int 1), (2, .int (setI op)), (0, .ref hy)] dX10_mayBegin_91 rfl rfl (by decide) rfl ?_
              refine x_goto C 59 dX10_mayBegin_94 (by decide) ?_
              refine x_lv [(3, .int (x3_59 + 1)), (2, .int (setI op)), (1, .int 1), (0, .ref hy)] [0, 2, 1, 3] rfl ?_
              have : (1 : Int32).toInt = 1 := by decide
              have := i_add (x := x3_59) (y := 1) (by omega) (by omega)
              have : (1 : Int32).toInt = 1 := by decide
              exact ih_59 (x3_59 + 1) 1 ⟨by omega, by first | exact EX.keep i_59.2 (by omega) (by omega) | exact EX.yes (x := x3_59) (by omega) ⟨by unfold bit1; omega, h_79.t (by omega)⟩ (by omega) | exact EX.no i_59.2 (by omega) (fun h => by first | exact h_79.f (by omega) h.2 | (have h1 := h.1; unfold bit1 at h1; omega)) (by omega)⟩ (by omega)
            · skip
              have e_65 : (x1_59 : Int32).toInt = (0 : Int32).toInt := i_eq.mp c_65
              have : (0 : Int32).toInt = 0 := by decide
              refine x_iload_n C 1 dX10_mayBegin_68 rfl rfl ?_
              refine x_iload_n C 0 dX10_mayBegin_69 rfl rfl ?_
              refine x_ishr C dX10_mayBegin_70 ?_
              refine x_iconst C 1 dX10_mayBegin_71 (by decide) ?_
              refine x_iand C dX10_mayBegin_72 ?_
              refine x_iconst C 1 dX10_mayBegin_73 (by decide) ?_
              refine x_icmp_ne C 89 dX10_mayBegin_74 (by decide) (fun c_74 => ?_) (fun c_74 => ?_)
              · skip
                have e_74 : ¬ ((((setI op) >>> (x3_59 &&& 31)) &&& 1 : Int32).toInt = (1 : Int32).toInt) := fun h => c_74 (i_eq.mpr h)
                have : (1 : Int32).toInt = 1 := by decide
                refine x_iconst C 0 dX10_mayBegin_89 (by decide) ?_
                refine x_istore_n C [(1, .int 0), (3, .int x3_59), (2, .int (setI op)), (0, .ref hy)] dX10_mayBegin_90 rfl (by decide) rfl ?_
                refine x_iinc C 1 (x3_59 + 1) [(3, .int (x3_59 + 1)), (1, .int 0), (2, .int (setI op)), (0, .ref hy)] dX10_mayBegin_91 rfl rfl (by decide) rfl ?_
                refine x_goto C 59 dX10_mayBegin_94 (by decide) ?_
                refine x_lv [(3, .int (x3_59 + 1)), (2, .int (setI op)), (1, .int 0), (0, .ref hy)] [0, 2, 1, 3] rfl ?_
                have : (1 : Int32).toInt = 1 := by decide
                have := i_add (x := x3_59) (y := 1) (by omega) (by omega)
                have : (0 : Int32).toInt = 0 := by decide
                exact ih_59 (x3_59 + 1) 0 ⟨by omega, by first | exact EX.keep i_59.2 (by omega) (by omega) | exact EX.yes (x := x3_59) (by omega) ⟨by unfold bit1; omega, h_79.t (by omega)⟩ (by omega) | exact EX.no i_59.2 (by omega) (fun h => by first | exact h_79.f (by omega) h.2 | (have h1 := h.1; unfold bit1 at h1; omega)) (by omega)⟩ (by omega)
              · skip
                have e_74 : (((setI op) >>> (x3_59 &&& 31)) &&& 1 : Int32).toInt = (1 : Int32).toInt := i_eq.mp c_74
                have : (1 : Int32).toInt = 1 := by decide
                refine x_aload_n C 3 dX10_mayBegin_77 rfl rfl ?_
                refine x_iload_n C 0 dX10_mayBegin_78 rfl rfl ?_
                refine x_callV C [.int x3_59] [] [0, 1, 2] [] (q0 := 0) (c_X10_isAtGate (xl X) (xD X) (xt X) hT hy m0 m1 m2 m3 m4 m5 m6 m7 m8 m9 m10 m11 m12 m13 m14 m15 m16 m17 m18 tl mg mw ml mb mz op bp by0 dp tk ka iw x3_59 (by omega)) dX10_mayBegin_79 wd_458 wd_459 wd_460 wd_5 wd_461 (np := 1) ⟨by decide, by decide, by decide +kernel⟩ rfl rfl (Nat.le_of_ble_eq_true rfl) (by decide) rfl rfl rfl rfl (by decide) rfl (by decide) (by decide) (fun v W1 h => ?_)
                obtain ⟨r_79, rfl, rfl, h_79⟩ := h
                show V X 4 [(hy, .inr (10, [.ref m0, .ref m1, .ref m2, .ref m3, .ref m4, .ref m5, .ref m6, .ref m7, .ref m8, .ref m9, .int mw, .int ml, .int mb, .ref m10, .int mz, .ref m11, .int op, .int bp, .int by0, .int dp, .int tk, .ref m12, .ref m13, .ref m14, .ref m15, .ref m16, .ref m17, .ref m18, .int ka, .int iw])), (m11, .inl (cI, 4, .inl tl)), (m4, .inl (cI, 4, .inl mg))] [(3, .int x3_59), (2, .int (setI op)), (1, .int x1_59), (0, .ref hy)] [.int r_79] 82 0 0
                refine x_if_eq C 89 dX10_mayBegin_82 (by decide) (fun c_82 => ?_) (fun c_82 => ?_)
                · skip
                  have e_82 : (r_79 : Int32).toInt = (0 : Int32).toInt := i_eq.mp c_82
                  have : (0 : Int32).toInt = 0 := by decide
                  refine x_iconst C 0 dX10_mayBegin_89 (by decide) ?_
                  refine x_istore_n C [(1, .int 0), (3, .int x3_59), (2, .int (setI op)), (0, .ref hy)] dX10_mayBegin_90 rfl (by decide) rfl ?_
                  refine x_iinc C 1 (x3_59 + 1) [(3, .int (x3_59 + 1)), (1, .int 0), (2, .int (setI op)), (0, .ref hy)] dX10_mayBegin_91 rfl rfl (by decide) rfl ?_
                  refine x_goto C 59 dX10_mayBegin_94 (by decide) ?_
                  refine x_lv [(3, .int (x3_59 + 1)), (2, .int (setI op)), (1, .int 0), (0, .ref hy)] [0, 2, 1, 3] rfl ?_
                  have : (1 : Int32).toInt = 1 := by decide
                  have := i_add (x := x3_59) (y := 1) (by omega) (by omega)
                  have : (0 : Int32).toInt = 0 := by decide
                  exact ih_59 (x3_59 + 1) 0 ⟨by omega, by first | exact EX.keep i_59.2 (by omega) (by omega) | exact EX.yes (x := x3_59) (by omega) ⟨by unfold bit1; omega, h_79.t (by omega)⟩ (by omega) | exact EX.no i_59.2 (by omega) (fun h => by first | exact h_79.f (by omega) h.2 | (have h1 := h.1; unfold bit1 at h1; omega)) (by omega)⟩ (by omega)
                · skip
                  have e_82 : ¬ ((r_79 : Int32).toInt = (0 : Int32).toInt) := fun h => c_82 (i_eq.mpr h)
                  have : (0 : Int32).toInt = 0 := by decide
                  refine x_iconst C 1 dX10_mayBegin_85 (by decide) ?_
                  refine x_goto C 90 dX10_mayBegin_86 (by decide) ?_
                  refine x_istore_n C [(1, .int 1), (3, .int x3_59), (2, .int (setI op)), (0, .ref hy)] dX10_mayBegin_90 rfl (by decide) rfl ?_
                  refine x_iinc C 1 (x3_59 + 1) [(3, .int (x3_59 + 1)), (1, .int 1), (2, .int (setI op)), (0, .ref hy)] dX10_mayBegin_91 rfl rfl (by decide) rfl ?_
                  refine x_goto C 59 dX10_mayBegin_94 (by decide) ?_
                  refine x_lv [(3, .int (x3_59 + 1)), (2, .int (setI op)), (1, .int 1), (0, .ref hy)] [0, 2, 1, 3] rfl ?_
                  have : (1 : Int32).toInt = 1 := by decide
                  have := i_add (x := x3_59) (y := 1) (by omega) (by omega)
                  have : (1 : Int32).toInt = 1 := by decide
                  exact ih_59 (x3_59 + 1) 1 ⟨by omega, by first | exact EX.keep i_59.2 (by omega) (by omega) | exact EX.yes (x := x3_59) (by omega) ⟨by unfold bit1; omega, h_79.t (by omega)⟩ (by omega) | exact EX.no i_59.2 (by omega) (fun h => by first | exact h_79.f (by omega) h.2 | (have h1 := h.1; unfold bit1 at h1; omega)) (by omega)⟩ (by omega)
      have : (0 : Int32).toInt = 0 := by decide
      have : (0 : Int32).toInt = 0 := by decide
      exact L_59 _ 0 0 ⟨by omega, TB.nil (EX.z (by omega))⟩ (Nat.lt_succ_self _)
    · skip
      have e_14 : ¬ ((2 : Int32).toInt ≤ (ml : Int32).toInt) := fun h => c_14 (i_le.mpr h)
      have : (2 : Int32).toInt = 2 := by decide
      refine x_aload_n C 0 dX10_mayBegin_17 rfl rfl ?_
      refine x_aload_n C 0 dX10_mayBegin_18 rfl rfl ?_
      refine x_get C 0 11 dX10_mayBegin_19 inlX10 rfl (by decide) wd_347 rfl rfl rfl ?_
      refine x_if_ne C 35 dX10_mayBegin_22 (by decide) (fun c_22 => ?_) (fun c_22 => ?_)
      · skip
        have e_22 : ¬ ((ml : Int32).toInt = (0 : Int32).toInt) := fun h => c_22 (i_eq.mpr h)
        have : (0 : Int32).toInt = 0 := by decide
        refine x_aload_n C 0 dX10_mayBegin_35 rfl rfl ?_
        refine x_get C 0 16 dX10_mayBegin_36 inlX10 rfl (by decide) wd_434 rfl rfl rfl ?_
        refine x_iconst C 5 dX10_mayBegin_39 (by decide) ?_
        refine x_irem C dX10_mayBegin_40 (by decide) ?_
        refine x_iconst C 1 dX10_mayBegin_41 (by decide) ?_
        refine x_isub C dX10_mayBegin_42 ?_
        refine x_callV C [.int ((op - op / 5 * 5) - 1)] [] [0, 1, 2] [] (q0 := 0) (c_X10_isAtGate (xl X) (xD X) (xt X) hT hy m0 m1 m2 m3 m4 m5 m6 m7 m8 m9 m10 m11 m12 m13 m14 m15 m16 m17 m18 tl mg mw ml mb mz op bp by0 dp tk ka iw ((op - op / 5 * 5) - 1) (by omega)) dX10_mayBegin_43 wd_458 wd_459 wd_460 wd_5 wd_461 (np := 1) ⟨by decide, by decide, by decide +kernel⟩ rfl rfl (Nat.le_of_ble_eq_true rfl) (by decide) rfl rfl rfl rfl (by decide) rfl (by decide) (by decide) (fun v W1 h => ?_)
        obtain ⟨r_43, rfl, rfl, h_43⟩ := h
        show V X 4 [(hy, .inr (10, [.ref m0, .ref m1, .ref m2, .ref m3, .ref m4, .ref m5, .ref m6, .ref m7, .ref m8, .ref m9, .int mw, .int ml, .int mb, .ref m10, .int mz, .ref m11, .int op, .int bp, .int by0, .int dp, .int tk, .ref m12, .ref m13, .ref m14, .ref m15, .ref m16, .ref m17, .ref m18, .int ka, .int iw])), (m11, .inl (cI, 4, .inl tl)), (m4, .inl (cI, 4, .inl mg))] [(0, .ref hy)] [.int r_43] 46 0 0
        exact x_iret C dX10_mayBegin_46 (Nat.zero_le _) (Nat.zero_le _) (by rw [eO]; exact ⟨r_43, rfl, rfl, (h_43.iff (MB_2 (by omega) (by omega) (by omega)))⟩)
      · skip
        have e_22 : (ml : Int32).toInt = (0 : Int32).toInt := i_eq.mp c_22
        have : (0 : Int32).toInt = 0 := by decide
        refine x_aload_n C 0 dX10_mayBegin_25 rfl rfl ?_
        refine x_get C 0 16 dX10_mayBegin_26 inlX10 rfl (by decide) wd_434 rfl rfl rfl ?_
        refine x_callS C [.int op] [(hy, .inr (10, [.ref m0, .ref m1, .ref m2, .ref m3, .ref m4, .ref m5, .ref m6, .ref m7, .ref m8, .ref m9, .int mw, .int ml, .int mb, .ref m10, .int mz, .ref m11, .int op, .int bp, .int by0, .int dp, .int tk, .ref m12, .ref m13, .ref m14, .ref m15, .ref m16, .ref m17, .ref m18, .int ka, .int iw])), (m11, .inl (cI, 4, .inl tl)), (m4, .inl (cI, 4, .inl mg))] [] [0, 1, 2] (c_X10_lastOf (xl X) (xD X) (xt X) hT op (by omega)) dX10_mayBegin_29 wd_447 wd_448 wd_5 wd_449 (np := 1) ⟨by decide, by decide, by decide +kernel⟩ rfl rfl (Nat.le_of_ble_eq_true rfl) (by decide) rfl (by decide) rfl (by decide) (by decide) (fun v W1 h => ?_)
        obtain ⟨_, rfl, rfl, h_29⟩ := h
        show V X 4 [(hy, .inr (10, [.ref m0, .ref m1, .ref m2, .ref m3, .ref m4, .ref m5, .ref m6, .ref m7, .ref m8, .ref m9, .int mw, .int ml, .int mb, .ref m10, .int mz, .ref m11, .int op, .int bp, .int by0, .int dp, .int tk, .ref m12, .ref m13, .ref m14, .ref m15, .ref m16, .ref m17, .ref m18, .int ka, .int iw])), (m11, .inl (cI, 4, .inl tl)), (m4, .inl (cI, 4, .inl mg))] [(0, .ref hy)] [.int (lastI op), .ref hy] 32 0 0
        refine x_goto C 43 dX10_mayBegin_32 (by decide) ?_
        refine x_callV C [.int (lastI op)] [] [0, 1, 2] [] (q0 := 0) (c_X10_isAtGate (xl X) (xD X) (xt X) hT hy m0 m1 m2 m3 m4 m5 m6 m7 m8 m9 m10 m11 m12 m13 m14 m15 m16 m17 m18 tl mg mw ml mb mz op bp by0 dp tk ka iw (lastI op) (by omega)) dX10_mayBegin_43 wd_458 wd_459 wd_460 wd_5 wd_461 (np := 1) ⟨by decide, by decide, by decide +kernel⟩ rfl rfl (Nat.le_of_ble_eq_true rfl) (by decide) rfl rfl rfl rfl (by decide) rfl (by decide) (by decide) (fun v W1 h => ?_)
        obtain ⟨r_43, rfl, rfl, h_43⟩ := h
        show V X 4 [(hy, .inr (10, [.ref m0, .ref m1, .ref m2, .ref m3, .ref m4, .ref m5, .ref m6, .ref m7, .ref m8, .ref m9, .int mw, .int ml, .int mb, .ref m10, .int mz, .ref m11, .int op, .int bp, .int by0, .int dp, .int tk, .ref m12, .ref m13, .ref m14, .ref m15, .ref m16, .ref m17, .ref m18, .int ka, .int iw])), (m11, .inl (cI, 4, .inl tl)), (m4, .inl (cI, 4, .inl mg))] [(0, .ref hy)] [.int r_43] 46 0 0
        exact x_iret C dX10_mayBegin_46 (Nat.zero_le _) (Nat.zero_le _) (by rw [eO]; exact ⟨r_43, rfl, rfl, (h_43.iff (MB_1 (by omega) (by omega) (by omega)))⟩)
  · skip
    have e_4 : (op : Int32).toInt = (0 : Int32).toInt := i_eq.mp c_4
    have : (0 : Int32).toInt = 0 := by decide
    refine x_iconst C 1 dX10_mayBegin_7 (by decide) ?_
    have : (1 : Int32).toInt = 1 := by decide
    exact x_iret C dX10_mayBegin_8 (Nat.zero_le _) (Nat.zero_le _) (by rw [eO]; exact ⟨1, rfl, rfl, (TB.one (Or.inl (by omega)))⟩)
abbrev rm_X10_hasOpen : Room := { frames := 1, cells := 0, slots := 0, locals := 22 }
set_option maxHeartbeats 4000000 in
set_option maxRecDepth 100000 in
theorem c_X10_hasOpen (l : Launch) (D : va_G) (tys : List (ClassId × FieldType)) {cI cJ cZ cB : ClassId} (hT : Ty tys cI cJ cZ cB) (hy m0 m1 m2 m3 m4 m5 m6 m7 m8 m9 m10 m11 m12 m13 m14 m15 m16 m17 m18 : Nat) (mt : Nat → Int32) (mw ml mb mz op bp by0 dp tk ka iw : Int32) (t : Int32) (hrow : RowI op) : Cn l D tys yX10_hasOpen cX10_hasOpen 5 (some .boolean) rm_X10_hasOpen [(hy, .inr (10, [.ref m0, .ref m1, .ref m2, .ref m3, .ref m4, .ref m5, .ref m6, .ref m7, .ref m8, .ref m9, .int mw, .int ml, .int mb, .ref m10, .int mz, .ref m11, .int op, .int bp, .int by0, .int dp, .int tk, .ref m12, .ref m13, .ref m14, .ref m15, .ref m16, .ref m17, .ref m18, .int ka, .int iw])), (m5, .inl (cI, 4, .inl mt))] [.ref hy, .int t] (fun v W1 => ∃ (r : Int32), v = some (.int r) ∧ W1 = [(hy, .inr (10, [.ref m0, .ref m1, .ref m2, .ref m3, .ref m4, .ref m5, .ref m6, .ref m7, .ref m8, .ref m9, .int mw, .int ml, .int mb, .ref m10, .int mz, .ref m11, .int op, .int bp, .int by0, .int dp, .int tk, .ref m12, .ref m13, .ref m14, .ref m15, .ref m16, .ref m17, .ref m18, .int ka, .int iw])), (m5, .inl (cI, 4, .inl mt))] ∧ (TB r (HO mt op t))) := by
  refine Cn.of (by decide) (Nat.le_of_ble_eq_true rfl) ?_ ?_ (fun X eL eD eT eO eK eN eM C => ?_)
  · intro _ v ws h; obtain ⟨_, rfl, rfl, h⟩ := h; exact z_of h.n
  · intro v ws h; obtain ⟨_, rfl, rfl, _⟩ := h; exact Or.inr rfl
  subst eL eD eT
  show V X 5 [(hy, .inr (10, [.ref m0, .ref m1, .ref m2, .ref m3, .ref m4, .ref m5, .ref m6, .ref m7, .ref m8, .ref m9, .int mw, .int ml, .int mb, .ref m10, .int mz, .ref m11, .int op, .int bp, .int by0, .int dp, .int tk, .ref m12, .ref m13, .ref m14, .ref m15, .ref m16, .ref m17, .ref m18, .int ka, .int iw])), (m5, .inl (cI, 4, .inl mt))] [(0, .ref hy), (1, .int t)] [] 0 0 0
  have g1 := hrow.rng
  refine x_iconst C 0 dX10_hasOpen_0 (by decide) ?_
  refine x_istore_n C [(2, .int 0), (0, .ref hy), (1, .int t)] dX10_hasOpen_1 rfl (by decide) rfl ?_
  refine x_aload_n C 1 dX10_hasOpen_2 rfl rfl ?_
  refine x_get C 0 16 dX10_hasOpen_3 inlX10 rfl (by decide) wd_434 rfl rfl rfl ?_
  refine x_callS C [.int op] [(hy, .inr (10, [.ref m0, .ref m1, .ref m2, .ref m3, .ref m4, .ref m5, .ref m6, .ref m7, .ref m8, .ref m9, .int mw, .int ml, .int mb, .ref m10, .int mz, .ref m11, .int op, .int bp, .int by0, .int dp, .int tk, .ref m12, .ref m13, .ref m14, .ref m15, .ref m16, .ref m17, .ref m18, .int ka, .int iw])), (m5, .inl (cI, 4, .inl mt))] [] [0, 1] (c_X10_setOf (xl X) (xD X) (xt X) hT op (by omega)) dX10_hasOpen_6 wd_462 wd_463 wd_5 wd_464 (np := 1) ⟨by decide, by decide, by decide +kernel⟩ rfl rfl (Nat.le_of_ble_eq_true rfl) (by decide) rfl (by decide) rfl (by decide) (by decide) (fun v W1 h => ?_)
  obtain ⟨_, rfl, rfl, h_6⟩ := h
  show V X 5 [(hy, .inr (10, [.ref m0, .ref m1, .ref m2, .ref m3, .ref m4, .ref m5, .ref m6, .ref m7, .ref m8, .ref m9, .int mw, .int ml, .int mb, .ref m10, .int mz, .ref m11, .int op, .int bp, .int by0, .int dp, .int tk, .ref m12, .ref m13, .ref m14, .ref m15, .ref m16, .ref m17, .ref m18, .int ka, .int iw])), (m5, .inl (cI, 4, .inl mt))] [(2, .int 0), (0, .ref hy), (1, .int t)] [.int (setI op)] 9 0 0
  refine x_istore_n C [(3, .int (setI op)), (2, .int 0), (0, .ref hy), (1, .int t)] dX10_hasOpen_9 rfl (by decide) rfl ?_
  refine x_iconst C 0 dX10_hasOpen_10 (by decide) ?_
  refine x_istore C [(4, .int 0), (3, .int (setI op)), (2, .int 0), (0, .ref hy), (1, .int t)] dX10_hasOpen_11 (by decide) rfl ?_
  have L_13 : ∀ (n_13 : Nat) (x4_13 : Int32) (x2_13 : Int32), ((0 ≤ x4_13.toInt ∧ x4_13.toInt ≤ 4 ∧ (x2_13.toInt = 0 ∨ x2_13.toInt = 1)) ∧ TB x2_13 (EX (fun y => bit1 (setI op) y ∧ (mt y.toNatClampNeg).toInt = t.toInt) x4_13)) → ((4 - x4_13.toInt).toNat < n_13) → V X 5 [(hy, .inr (10, [.ref m0, .ref m1, .ref m2, .ref m3, .ref m4, .ref m5, .ref m6, .ref m7, .ref m8, .ref m9, .int mw, .int ml, .int mb, .ref m10, .int mz, .ref m11, .int op, .int bp, .int by0, .int dp, .int tk, .ref m12, .ref m13, .ref m14, .ref m15, .ref m16, .ref m17, .ref m18, .int ka, .int iw])), (m5, .inl (cI, 4, .inl mt))] [(4, .int x4_13), (3, .int (setI op)), (2, .int x2_13), (0, .ref hy), (1, .int t)] [] 13 0 0 := by
    intro n_13
    induction n_13 with
    | zero =>
      intro x4_13 x2_13 i_13 m_13
      exact absurd m_13 (Nat.not_lt_zero _)
    | succ n_13 ih_13 =>
      intro x4_13 x2_13 i_13 m_13
      refine x_iload C 0 dX10_hasOpen_13 rfl ?_
      refine x_iconst C 4 dX10_hasOpen_15 (by decide) ?_
      refine x_icmp_ge C 56 dX10_hasOpen_16 (by decide) (fun c_16 => ?_) (fun c_16 => ?_)
      · skip
        have e_16 : (4 : Int32).toInt ≤ (x4_13 : Int32).toInt := i_le.mp c_16
        have : (4 : Int32).toInt = 4 := by decide
        refine x_iload_n C 2 dX10_hasOpen_56 rfl rfl ?_
        exact x_iret C dX10_hasOpen_57 (Nat.zero_le _) (Nat.zero_le _) (by rw [eO]; exact ⟨x2_13, rfl, rfl, (i_13.2.iff (EX.at (by omega)))⟩)
      · skip
        have e_16 : ¬ ((4 : Int32).toInt ≤ (x4_13 : Int32).toInt) := fun h => c_16 (i_le.mpr h)
        have : (4 : Int32).toInt = 4 := by decide
        refine x_iload_n C 2 dX10_hasOpen_19 rfl rfl ?_
        refine x_if_ne C 44 dX10_hasOpen_20 (by decide) (fun c_20 => ?_) (fun c_20 => ?_)
        · skip
          have e_20 : ¬ ((x2_13 : Int32).toInt = (0 : Int32).toInt) := fun h => c_20 (i_eq.mpr h)
          have : (0 : Int32).toInt = 0 := by decide
          refine x_iconst C 1 dX10_hasOpen_44 (by decide) ?_
          refine x_goto C 49 dX10_hasOpen_45 (by decide) ?_
          refine x_istore_n C [(2, .int 1), (4, .int x4_13), (3, .int (setI op)), (0, .ref hy), (1, .int t)] dX10_hasOpen_49 rfl (by decide) rfl ?_
          refine x_iinc C 1 (x4_13 + 1) [(4, .int (x4_13 + 1)), (2, .int 1), (3, .int (setI op)), (0, .ref hy), (1, .int t)] dX10_hasOpen_50 rfl rfl (by decide) rfl ?_
          refine x_goto C 13 dX10_hasOpen_53 (by decide) ?_
          refine x_lv [(4, .int (x4_13 + 1)), (3, .int (setI op)), (2, .int 1), (0, .ref hy), (1, .int t)] [0, 2, 1, 3, 4] rfl ?_
          have : (1 : Int32).toInt = 1 := by decide
          have := i_add (x := x4_13) (y := 1) (by omega) (by omega)
          have : (1 : Int32).toInt = 1 := by decide
          exact ih_13 (x4_13 + 1) 1 ⟨by omega, by first | exact EX.keep i_13.2 (by omega) (by omega) | exact EX.yes (x := x4_13) (by omega) ⟨by unfold bit1; omega, by omega⟩ (by omega) | exact EX.no i_13.2 (by omega) (fun h => by have h2 := h.2; have h1 := h.1; unfold bit1 at h1; omega) (by omega)⟩ (by omega)
        · skip
          have e_20 : (x2_13 : Int32).toInt = (0 : Int32).toInt := i_eq.mp c_20
          have : (0 : Int32).toInt = 0 := by decide
          refine x_iload_n C 1 dX10_hasOpen_23 rfl rfl ?_
          refine x_iload C 0 dX10_hasOpen_24 rfl ?_
          refine x_ishr C dX10_hasOpen_26 ?_
          refine x_iconst C 1 dX10_hasOpen_27 (by decide) ?_
          refine x_iand C dX10_hasOpen_28 ?_
          refine x_iconst C 1 dX10_hasOpen_29 (by decide) ?_
          refine x_icmp_ne C 48 dX10_hasOpen_30 (by decide) (fun c_30 => ?_) (fun c_30 => ?_)
          · skip
            have e_30 : ¬ ((((setI op) >>> (x4_13 &&& 31)) &&& 1 : Int32).toInt = (1 : Int32).toInt) := fun h => c_30 (i_eq.mpr h)
            have : (1 : Int32).toInt = 1 := by decide
            refine x_iconst C 0 dX10_hasOpen_48 (by decide) ?_
            refine x_istore_n C [(2, .int 0), (4, .int x4_13), (3, .int (setI op)), (0, .ref hy), (1, .int t)] dX10_hasOpen_49 rfl (by decide) rfl ?_
            refine x_iinc C 1 (x4_13 + 1) [(4, .int (x4_13 + 1)), (2, .int 0), (3, .int (setI op)), (0, .ref hy), (1, .int t)] dX10_hasOpen_50 rfl rfl (by decide) rfl ?_
            refine x_goto C 13 dX10_hasOpen_53 (by decide) ?_
            refine x_lv [(4, .int (x4_13 + 1)), (3, .int (setI op)), (2, .int 0), (0, .ref hy), (1, .int t)] [0, 2, 1, 3, 4] rfl ?_
            have : (1 : Int32).toInt = 1 := by decide
            have := i_add (x := x4_13) (y := 1) (by omega) (by omega)
            have : (0 : Int32).toInt = 0 := by decide
            exact ih_13 (x4_13 + 1) 0 ⟨by omega, by first | exact EX.keep i_13.2 (by omega) (by omega) | exact EX.yes (x := x4_13) (by omega) ⟨by unfold bit1; omega, by omega⟩ (by omega) | exact EX.no i_13.2 (by omega) (fun h => by have h2 := h.2; have h1 := h.1; unfold bit1 at h1; omega) (by omega)⟩ (by omega)
          · skip
            have e_30 : (((setI op) >>> (x4_13 &&& 31)) &&& 1 : Int32).toInt = (1 : Int32).toInt := i_eq.mp c_30
            have : (1 : Int32).toInt = 1 := by decide
            refine x_aload_n C 3 dX10_hasOpen_33 rfl rfl ?_
            refine x_get C 0 5 dX10_hasOpen_34 inlX10 rfl (by decide) wd_127 rfl rfl rfl ?_
            refine x_iload C 0 dX10_hasOpen_37 rfl ?_
            have v_39 : vp_in x4_13 4 := (vp_in_iff.mpr (by omega))
            refine x_iald C 1 0 dX10_hasOpen_39 hT.1 rfl v_39 ?_
            refine x_iload_n C 4 dX10_hasOpen_40 rfl rfl ?_
            refine x_icmp_ne C 48 dX10_hasOpen_41 (by decide) (fun c_41 => ?_) (fun c_41 => ?_)
            · skip
              have e_41 : ¬ ((mt (Int32.toNatClampNeg x4_13) : Int32).toInt = (t : Int32).toInt) := fun h => c_41 (i_eq.mpr h)
              refine x_iconst C 0 dX10_hasOpen_48 (by decide) ?_
              refine x_istore_n C [(2, .int 0), (4, .int x4_13), (3, .int (setI op)), (0, .ref hy), (1, .int t)] dX10_hasOpen_49 rfl (by decide) rfl ?_
              refine x_iinc C 1 (x4_13 + 1) [(4, .int (x4_13 + 1)), (2, .int 0), (3, .int (setI op)), (0, .ref hy), (1, .int t)] dX10_hasOpen_50 rfl rfl (by decide) rfl ?_
              refine x_goto C 13 dX10_hasOpen_53 (by decide) ?_
              refine x_lv [(4, .int (x4_13 + 1)), (3, .int (setI op)), (2, .int 0), (0, .ref hy), (1, .int t)] [0, 2, 1, 3, 4] rfl ?_
              have : (1 : Int32).toInt = 1 := by decide
              have := i_add (x := x4_13) (y := 1) (by omega) (by omega)
              have : (0 : Int32).toInt = 0 := by decide
              exact ih_13 (x4_13 + 1) 0 ⟨by omega, by first | exact EX.keep i_13.2 (by omega) (by omega) | exact EX.yes (x := x4_13) (by omega) ⟨by unfold bit1; omega, by omega⟩ (by omega) | exact EX.no i_13.2 (by omega) (fun h => by have h2 := h.2; have h1 := h.1; unfold bit1 at h1; omega) (by omega)⟩ (by omega)
            · skip
              have e_41 : (mt (Int32.toNatClampNeg x4_13) : Int32).toInt = (t : Int32).toInt := i_eq.mp c_41
              refine x_iconst C 1 dX10_hasOpen_44 (by decide) ?_
              refine x_goto C 49 dX10_hasOpen_45 (by decide) ?_
              refine x_istore_n C [(2, .int 1), (4, .int x4_13), (3, .int (setI op)), (0, .ref hy), (1, .int t)] dX10_hasOpen_49 rfl (by decide) rfl ?_
              refine x_iinc C 1 (x4_13 + 1) [(4, .int (x4_13 + 1)), (2, .int 1), (3, .int (setI op)), (0, .ref hy), (1, .int t)] dX10_hasOpen_50 rfl rfl (by decide) rfl ?_
              refine x_goto C 13 dX10_hasOpen_53 (by decide) ?_
              refine x_lv [(4, .int (x4_13 + 1)), (3, .int (setI op)), (2, .int 1), (0, .ref hy), (1, .int t)] [0, 2, 1, 3, 4] rfl ?_
              have : (1 : Int32).toInt = 1 := by decide
              have := i_add (x := x4_13) (y := 1) (by omega) (by omega)
              have : (1 : Int32).toInt = 1 := by decide
              exact ih_13 (x4_13 + 1) 1 ⟨by omega, by first | exact EX.keep i_13.2 (by omega) (by omega) | exact EX.yes (x := x4_13) (by omega) ⟨by unfold bit1; omega, by omega⟩ (by omega) | exact EX.no i_13.2 (by omega) (fun h => by have h2 := h.2; have h1 := h.1; unfold bit1 at h1; omega) (by omega)⟩ (by omega)
  have : (0 : Int32).toInt = 0 := by decide
  have : (0 : Int32).toInt = 0 := by decide
  exact L_13 _ 0 0 ⟨by omega, TB.nil (EX.z (by omega))⟩ (Nat.lt_succ_self _)
abbrev rm_X10_isWaiting : Room := { frames := 1, cells := 0, slots := 0, locals := 21 }
set_option maxHeartbeats 4000000 in
set_option maxRecDepth 100000 in
theorem c_X10_isWaiting (l : Launch) (D : va_G) (tys : List (ClassId × FieldType)) {cI cJ cZ cB : ClassId} (hT : Ty tys cI cJ cZ cB) (hy m0 m1 m2 m3 m4 m5 m6 m7 m8 m9 m10 m11 m12 m13 m14 m15 m16 m17 m18 : Nat) (tl ma wf wp wt : Nat → Int32) (mw ml mb mz op bp by0 dp tk ka iw : Int32) (s se dr : Int32) (hs : 0 ≤ s.toInt ∧ s.toInt ≤ 3) (hmw : 0 ≤ mw.toInt ∧ mw.toInt ≤ 6) (hwt : SOk wt) : Cn l D tys yX10_isWaiting cX10_isWaiting 7 (some .boolean) rm_X10_isWaiting [(hy, .inr (10, [.ref m0, .ref m1, .ref m2, .ref m3, .ref m4, .ref m5, .ref m6, .ref m7, .ref m8, .ref m9, .int mw, .int ml, .int mb, .ref m10, .int mz, .ref m11, .int op, .int bp, .int by0, .int dp, .int tk, .ref m12, .ref m13, .ref m14, .ref m15, .ref m16, .ref m17, .ref m18, .int ka, .int iw])), (m11, .inl (cI, 4, .inl tl)), (m2, .inl (cI, 4, .inl ma)), (m7, .inl (cI, 6, .inl wf)), (m8, .inl (cI, 6, .inl wp)), (m9, .inl (cI, 6, .inl wt))] [.ref hy, .int s, .int se, .int dr] (fun v W1 => ∃ (r : Int32), v = some (.int r) ∧ W1 = [(hy, .inr (10, [.ref m0, .ref m1, .ref m2, .ref m3, .ref m4, .ref m5, .ref m6, .ref m7, .ref m8, .ref m9, .int mw, .int ml, .int mb, .ref m10, .int mz, .ref m11, .int op, .int bp, .int by0, .int dp, .int tk, .ref m12, .ref m13, .ref m14, .ref m15, .ref m16, .ref m17, .ref m18, .int ka, .int iw])), (m11, .inl (cI, 4, .inl tl)), (m2, .inl (cI, 4, .inl ma)), (m7, .inl (cI, 6, .inl wf)), (m8, .inl (cI, 6, .inl wp)), (m9, .inl (cI, 6, .inl wt))] ∧ (TB r (IW ma wf wp wt mw tl s se dr))) := by
  refine Cn.of (by decide) (Nat.le_of_ble_eq_true rfl) ?_ ?_ (fun X eL eD eT eO eK eN eM C => ?_)
  · intro _ v ws h; obtain ⟨_, rfl, rfl, h⟩ := h; exact z_of h.n
  · intro v ws h; obtain ⟨_, rfl, rfl, _⟩ := h; exact Or.inr rfl
  subst eL eD eT
  show V X 7 [(hy, .inr (10, [.ref m0, .ref m1, .ref m2, .ref m3, .ref m4, .ref m5, .ref m6, .ref m7, .ref m8, .ref m9, .int mw, .int ml, .int mb, .ref m10, .int mz, .ref m11, .int op, .int bp, .int by0, .int dp, .int tk, .ref m12, .ref m13, .ref m14, .ref m15, .ref m16, .ref m17, .ref m18, .int ka, .int iw])), (m11, .inl (cI, 4, .inl tl)), (m2, .inl (cI, 4, .inl ma)), (m7, .inl (cI, 6, .inl wf)), (m8, .inl (cI, 6, .inl wp)), (m9, .inl (cI, 6, .inl wt))] [(0, .ref hy), (1, .int s), (2, .int se), (3, .int dr)] [] 0 0 0
  refine x_iconst C 0 dX10_isWaiting_0 (by decide) ?_
  refine x_istore C [(4, .int 0), (0, .ref hy), (1, .int s), (2, .int se), (3, .int dr)] dX10_isWaiting_1 (by decide) rfl ?_
  refine x_iconst C 0 dX10_isWaiting_3 (by decide) ?_
  refine x_istore C [(5, .int 0), (4, .int 0), (0, .ref hy), (1, .int s), (2, .int se), (3, .int dr)] dX10_isWaiting_4 (by decide) rfl ?_
  have L_6 : ∀ (n_6 : Nat) (x5_6 : Int32) (x4_6 : Int32), ((0 ≤ x5_6.toInt ∧ x5_6.toInt ≤ mw.toInt ∧ (x4_6.toInt = 0 ∨ x4_6.toInt = 1)) ∧ TB x4_6 (EX (fun y => (((dr >>> (y &&& 31)) &&& 1).toInt = 0 ∧ ((se >>> (wt y.toNatClampNeg &&& 31)) &&& 1).toInt = 1) ∧ (wf y.toNatClampNeg).toInt = s.toInt ∧ (wp y.toNatClampNeg).toInt = (tl s.toNatClampNeg).toInt ∧ ¬ (tl (wt y.toNatClampNeg).toNatClampNeg).toInt = (ma (wt y.toNatClampNeg).toNatClampNeg).toInt) x5_6)) → ((mw.toInt - x5_6.toInt).toNat < n_6) → V X 7 [(hy, .inr (10, [.ref m0, .ref m1, .ref m2, .ref m3, .ref m4, .ref m5, .ref m6, .ref m7, .ref m8, .ref m9, .int mw, .int ml, .int mb, .ref m10, .int mz, .ref m11, .int op, .int bp, .int by0, .int dp, .int tk, .ref m12, .ref m13, .ref m14, .ref m15, .ref m16, .ref m17, .ref m18, .int ka, .int iw])), (m11, .inl (cI, 4, .inl tl)), (m2, .inl (cI, 4, .inl ma)), (m7, .inl (cI, 6, .inl wf)), (m8, .inl (cI, 6, .inl wp)), (m9, .inl (cI, 6, .inl wt))] [(5, .int x5_6), (4, .int x4_6), (0, .ref hy), (1, .int s), (2, .int se), (3, .int dr)] [] 6 0 0 := by
    intro n_6
    induction n_6 with
    | zero =>
      intro x5_6 x4_6 i_6 m_6
      exact absurd m_6 (Nat.not_lt_zero _)
    | succ n_6 ih_6 =>
      intro x5_6 x4_6 i_6 m_6
      refine x_iload C 0 dX10_isWaiting_6 rfl ?_
      refine x_aload_n C 2 dX10_isWaiting_8 rfl rfl ?_
      refine x_get C 0 10 dX10_isWaiting_9 inlX10 rfl (by decide) wd_260 rfl rfl rfl ?_
      refine x_icmp_ge C 110 dX10_isWaiting_12 (by decide) (fun c_12 => ?_) (fun c_12 => ?_)
      · skip
        have e_12 : (mw : Int32).toInt ≤ (x5_6 : Int32).toInt := i_le.mp c_12
        refine x_iload C 1 dX10_isWaiting_110 rfl ?_
        exact x_iret C dX10_isWaiting_112 (Nat.zero_le _) (Nat.zero_le _) (by rw [eO]; exact ⟨x4_6, rfl, rfl, (i_6.2.iff (EX.at (by omega)))⟩)
      · skip
        have e_12 : ¬ ((mw : Int32).toInt ≤ (x5_6 : Int32).toInt) := fun h => c_12 (i_le.mpr h)
        refine x_iload_n C 5 dX10_isWaiting_15 rfl rfl ?_
        refine x_iload C 0 dX10_isWaiting_16 rfl ?_
        refine x_ishr C dX10_isWaiting_18 ?_
        refine x_iconst C 1 dX10_isWaiting_19 (by decide) ?_
        refine x_iand C dX10_isWaiting_20 ?_
        refine x_if_ne C 43 dX10_isWaiting_21 (by decide) (fun c_21 => ?_) (fun c_21 => ?_)
        · skip
          have e_21 : ¬ (((dr >>> (x5_6 &&& 31)) &&& 1 : Int32).toInt = (0 : Int32).toInt) := fun h => c_21 (i_eq.mpr h)
          have : (0 : Int32).toInt = 0 := by decide
          refine x_iconst C 0 dX10_isWaiting_43 (by decide) ?_
          refine x_istore C [(6, .int 0), (5, .int x5_6), (4, .int x4_6), (0, .ref hy), (1, .int s), (2, .int se), (3, .int dr)] dX10_isWaiting_44 (by decide) rfl ?_
          refine x_iload C 2 dX10_isWaiting_46 rfl ?_
          refine x_if_ne C 97 dX10_isWaiting_48 (by decide) (fun c_48 => ?_) (fun c_48 => ?_)
          · skip
            have e_48 : ¬ ((x4_6 : Int32).toInt = (0 : Int32).toInt) := fun h => c_48 (i_eq.mpr h)
            have : (0 : Int32).toInt = 0 := by decide
            refine x_iconst C 1 dX10_isWaiting_97 (by decide) ?_
            refine x_goto C 102 dX10_isWaiting_98 (by decide) ?_
            refine x_istore C [(4, .int 1), (6, .int 0), (5, .int x5_6), (0, .ref hy), (1, .int s), (2, .int se), (3, .int dr)] dX10_isWaiting_102 (by decide) rfl ?_
            refine x_iinc C 2 (x5_6 + 1) [(5, .int (x5_6 + 1)), (4, .int 1), (6, .int 0), (0, .ref hy), (1, .int s), (2, .int se), (3, .int dr)] dX10_isWaiting_104 rfl rfl (by decide) rfl ?_
            refine x_goto C 6 dX10_isWaiting_107 (by decide) ?_
            refine x_lv [(5, .int (x5_6 + 1)), (4, .int 1), (0, .ref hy), (1, .int s), (2, .int se), (3, .int dr)] [0, 1, 3, 4, 5, 6] rfl ?_
            have : (1 : Int32).toInt = 1 := by decide
            have := i_add (x := x5_6) (y := 1) (by omega) (by omega)
            have : (1 : Int32).toInt = 1 := by decide
            exact ih_6 (x5_6 + 1) 1 ⟨by omega, by first | exact EX.keep i_6.2 (by omega) (by omega) | exact EX.yes (x := x5_6) (by omega) ⟨⟨by omega, by omega⟩, by omega, by omega, by omega⟩ (by omega) | exact EX.no i_6.2 (by omega) (fun h => by obtain ⟨⟨h1, h2⟩, h3, h4, h5⟩ := h; omega) (by omega)⟩ (by omega)
          · skip
            have e_48 : (x4_6 : Int32).toInt = (0 : Int32).toInt := i_eq.mp c_48
            have : (0 : Int32).toInt = 0 := by decide
            refine x_iload C 0 dX10_isWaiting_51 rfl ?_
            refine x_if_eq C 101 dX10_isWaiting_53 (by decide) (fun c_53 => ?_) (fun c_53 => ?_)
            · skip
              have e_53 : (0 : Int32).toInt = (0 : Int32).toInt := i_eq.mp c_53
              have : (0 : Int32).toInt = 0 := by decide
              have : (0 : Int32).toInt = 0 := by decide
              refine x_iconst C 0 dX10_isWaiting_101 (by decide) ?_
              refine x_istore C [(4, .int 0), (6, .int 0), (5, .int x5_6), (0, .ref hy), (1, .int s), (2, .int se), (3, .int dr)] dX10_isWaiting_102 (by decide) rfl ?_
              refine x_iinc C 2 (x5_6 + 1) [(5, .int (x5_6 + 1)), (4, .int 0), (6, .int 0), (0, .ref hy), (1, .int s), (2, .int se), (3, .int dr)] dX10_isWaiting_104 rfl rfl (by decide) rfl ?_
              refine x_goto C 6 dX10_isWaiting_107 (by decide) ?_
              refine x_lv [(5, .int (x5_6 + 1)), (4, .int 0), (0, .ref hy), (1, .int s), (2, .int se), (3, .int dr)] [0, 1, 3, 4, 5, 6] rfl ?_
              have : (1 : Int32).toInt = 1 := by decide
              have := i_add (x := x5_6) (y := 1) (by omega) (by omega)
              have : (0 : Int32).toInt = 0 := by decide
              exact ih_6 (x5_6 + 1) 0 ⟨by omega, by first | exact EX.keep i_6.2 (by omega) (by omega) | exact EX.yes (x := x5_6) (by omega) ⟨⟨by omega, by omega⟩, by omega, by omega, by omega⟩ (by omega) | exact EX.no i_6.2 (by omega) (fun h => by obtain ⟨⟨h1, h2⟩, h3, h4, h5⟩ := h; omega) (by omega)⟩ (by omega)
            · skip
              have e_53 : ¬ ((0 : Int32).toInt = (0 : Int32).toInt) := fun h => c_53 (i_eq.mpr h)
              have : (0 : Int32).toInt = 0 := by decide
              have : (0 : Int32).toInt = 0 := by decide
              exfalso
              omega
        · skip
          have e_21 : ((dr >>> (x5_6 &&& 31)) &&& 1 : Int32).toInt = (0 : Int32).toInt := i_eq.mp c_21
          have : (0 : Int32).toInt = 0 := by decide
          refine x_iload_n C 4 dX10_isWaiting_24 rfl rfl ?_
          refine x_aload_n C 2 dX10_isWaiting_25 rfl rfl ?_
          refine x_get C 0 9 dX10_isWaiting_26 inlX10 rfl (by decide) wd_131 rfl rfl rfl ?_
          refine x_iload C 0 dX10_isWaiting_29 rfl ?_
          have v_31 : vp_in x5_6 6 := (vp_in_iff.mpr (by omega))
          refine x_iald C 5 0 dX10_isWaiting_31 hT.1 rfl v_31 ?_
          refine x_ishr C dX10_isWaiting_32 ?_
          refine x_iconst C 1 dX10_isWaiting_33 (by decide) ?_
          refine x_iand C dX10_isWaiting_34 ?_
          refine x_iconst C 1 dX10_isWaiting_35 (by decide) ?_
          refine x_icmp_ne C 43 dX10_isWaiting_36 (by decide) (fun c_36 => ?_) (fun c_36 => ?_)
          · skip
            have e_36 : ¬ (((se >>> ((wt (Int32.toNatClampNeg x5_6)) &&& 31)) &&& 1 : Int32).toInt = (1 : Int32).toInt) := fun h => c_36 (i_eq.mpr h)
            have : (1 : Int32).toInt = 1 := by decide
            refine x_iconst C 0 dX10_isWaiting_43 (by decide) ?_
            refine x_istore C [(6, .int 0), (5, .int x5_6), (4, .int x4_6), (0, .ref hy), (1, .int s), (2, .int se), (3, .int dr)] dX10_isWaiting_44 (by decide) rfl ?_
            refine x_iload C 2 dX10_isWaiting_46 rfl ?_
            refine x_if_ne C 97 dX10_isWaiting_48 (by decide) (fun c_48 => ?_) (fun c_48 => ?_)
            · skip
              have e_48 : ¬ ((x4_6 : Int32).toInt = (0 : Int32).toInt) := fun h => c_48 (i_eq.mpr h)
              have : (0 : Int32).toInt = 0 := by decide
              refine x_iconst C 1 dX10_isWaiting_97 (by decide) ?_
              refine x_goto C 102 dX10_isWaiting_98 (by decide) ?_
              refine x_istore C [(4, .int 1), (6, .int 0), (5, .int x5_6), (0, .ref hy), (1, .int s), (2, .int se), (3, .int dr)] dX10_isWaiting_102 (by decide) rfl ?_
              refine x_iinc C 2 (x5_6 + 1) [(5, .int (x5_6 + 1)), (4, .int 1), (6, .int 0), (0, .ref hy), (1, .int s), (2, .int se), (3, .int dr)] dX10_isWaiting_104 rfl rfl (by decide) rfl ?_
              refine x_goto C 6 dX10_isWaiting_107 (by decide) ?_
              refine x_lv [(5, .int (x5_6 + 1)), (4, .int 1), (0, .ref hy), (1, .int s), (2, .int se), (3, .int dr)] [0, 1, 3, 4, 5, 6] rfl ?_
              have : (1 : Int32).toInt = 1 := by decide
              have := i_add (x := x5_6) (y := 1) (by omega) (by omega)
              have : (1 : Int32).toInt = 1 := by decide
              exact ih_6 (x5_6 + 1) 1 ⟨by omega, by first | exact EX.keep i_6.2 (by omega) (by omega) | exact EX.yes (x := x5_6) (by omega) ⟨⟨by omega, by omega⟩, by omega, by omega, by omega⟩ (by omega) | exact EX.no i_6.2 (by omega) (fun h => by obtain ⟨⟨h1, h2⟩, h3, h4, h5⟩ := h; omega) (by omega)⟩ (by omega)
            · skip
              have e_48 : (x4_6 : Int32).toInt = (0 : Int32).toInt := i_eq.mp c_48
              have : (0 : Int32).toInt = 0 := by decide
              refine x_iload C 0 dX10_isWaiting_51 rfl ?_
              refine x_if_eq C 101 dX10_isWaiting_53 (by decide) (fun c_53 => ?_) (fun c_53 => ?_)
              · skip
                have e_53 : (0 : Int32).toInt = (0 : Int32).toInt := i_eq.mp c_53
                have : (0 : Int32).toInt = 0 := by decide
                have : (0 : Int32).toInt = 0 := by decide
                refine x_iconst C 0 dX10_isWaiting_101 (by decide) ?_
                refine x_istore C [(4, .int 0), (6, .int 0), (5, .int x5_6), (0, .ref hy), (1, .int s), (2, .int se), (3, .int dr)] dX10_isWaiting_102 (by decide) rfl ?_
                refine x_iinc C 2 (x5_6 + 1) [(5, .int (x5_6 + 1)), (4, .int 0), (6, .int 0), (0, .ref hy), (1, .int s), (2, .int se), (3, .int dr)] dX10_isWaiting_104 rfl rfl (by decide) rfl ?_
                refine x_goto C 6 dX10_isWaiting_107 (by decide) ?_
                refine x_lv [(5, .int (x5_6 + 1)), (4, .int 0), (0, .ref hy), (1, .int s), (2, .int se), (3, .int dr)] [0, 1, 3, 4, 5, 6] rfl ?_
                have : (1 : Int32).toInt = 1 := by decide
                have := i_add (x := x5_6) (y := 1) (by omega) (by omega)
                have : (0 : Int32).toInt = 0 := by decide
                exact ih_6 (x5_6 + 1) 0 ⟨by omega, by first | exact EX.keep i_6.2 (by omega) (by omega) | exact EX.yes (x := x5_6) (by omega) ⟨⟨by omega, by omega⟩, by omega, by omega, by omega⟩ (by omega) | exact EX.no i_6.2 (by omega) (fun h => by obtain ⟨⟨h1, h2⟩, h3, h4, h5⟩ := h; omega) (by omega)⟩ (by omega)
              · skip
                have e_53 : ¬ ((0 : Int32).toInt = (0 : Int32).toInt) := fun h => c_53 (i_eq.mpr h)
                have : (0 : Int32).toInt = 0 := by decide
                have : (0 : Int32).toInt = 0 := by decide
                exfalso
                omega
          · skip
            have e_36 : ((se >>> ((wt (Int32.toNatClampNeg x5_6)) &&& 31)) &&& 1 : Int32).toInt = (1 : Int32).toInt := i_eq.mp c_36
            have : (1 : Int32).toInt = 1 := by decide
            refine x_iconst C 1 dX10_isWaiting_39 (by decide) ?_
            refine x_goto C 44 dX10_isWaiting_40 (by decide) ?_
            refine x_istore C [(6, .int 1), (5, .int x5_6), (4, .int x4_6), (0, .ref hy), (1, .int s), (2, .int se), (3, .int dr)] dX10_isWaiting_44 (by decide) rfl ?_
            refine x_iload C 2 dX10_isWaiting_46 rfl ?_
            refine x_if_ne C 97 dX10_isWaiting_48 (by decide) (fun c_48 => ?_) (fun c_48 => ?_)
            · skip
              have e_48 : ¬ ((x4_6 : Int32).toInt = (0 : Int32).toInt) := fun h => c_48 (i_eq.mpr h)
              have : (0 : Int32).toInt = 0 := by decide
              refine x_iconst C 1 dX10_isWaiting_97 (by decide) ?_
              refine x_goto C 102 dX10_isWaiting_98 (by decide) ?_
              refine x_istore C [(4, .int 1), (6, .int 1), (5, .int x5_6), (0, .ref hy), (1, .int s), (2, .int se), (3, .int dr)] dX10_isWaiting_102 (by decide) rfl ?_
              refine x_iinc C 2 (x5_6 + 1) [(5, .int (x5_6 + 1)), (4, .int 1), (6, .int 1), (0, .ref hy), (1, .int s), (2, .int se), (3, .int dr)] dX10_isWaiting_104 rfl rfl (by decide) rfl ?_
              refine x_goto C 6 dX10_isWaiting_107 (by decide) ?_
              refine x_lv [(5, .int (x5_6 + 1)), (4, .int 1), (0, .ref hy), (1, .int s), (2, .int se), (3, .int dr)] [0, 1, 3, 4, 5, 6] rfl ?_
              have : (1 : Int32).toInt = 1 := by decide
              have := i_add (x := x5_6) (y := 1) (by omega) (by omega)
              have : (1 : Int32).toInt = 1 := by decide
              exact ih_6 (x5_6 + 1) 1 ⟨by omega, by first | exact EX.keep i_6.2 (by omega) (by omega) | exact EX.yes (x := x5_6) (by omega) ⟨⟨by omega, by omega⟩, by omega, by omega, by omega⟩ (by omega) | exact EX.no i_6.2 (by omega) (fun h => by obtain ⟨⟨h1, h2⟩, h3, h4, h5⟩ := h; omega) (by omega)⟩ (by omega)
            · skip
              have e_48 : (x4_6 : Int32).toInt = (0 : Int32).toInt := i_eq.mp c_48
              have : (0 : Int32).toInt = 0 := by decide
              refine x_iload C 0 dX10_isWaiting_51 rfl ?_
              refine x_if_eq C 101 dX10_isWaiting_53 (by decide) (fun c_53 => ?_) (fun c_53 => ?_)
              · skip
                have e_53 : (1 : Int32).toInt = (0 : Int32).toInt := i_eq.mp c_53
                have : (1 : Int32).toInt = 1 := by decide
                have : (0 : Int32).toInt = 0 := by decide
                exfalso
                omega
              · skip
                have e_53 : ¬ ((1 : Int32).toInt = (0 : Int32).toInt) := fun h => c_53 (i_eq.mpr h)
                have : (1 : Int32).toInt = 1 := by decide
                have : (0 : Int32).toInt = 0 := by decide
                refine x_aload_n C 3 dX10_isWaiting_56 rfl rfl ?_
                refine x_get C 0 7 dX10_isWaiting_57 inlX10 rfl (by decide) wd_129 rfl rfl rfl ?_
                refine x_iload C 1 dX10_isWaiting_60 rfl ?_
                have v_62 : vp_in x5_6 6 := (vp_in_iff.mpr (by omega))
                refine x_iald C 3 0 dX10_isWaiting_62 hT.1 rfl v_62 ?_
                refine x_iload_n C 4 dX10_isWaiting_63 rfl rfl ?_
                refine x_icmp_ne C 101 dX10_isWaiting_64 (by decide) (fun c_64 => ?_) (fun c_64 => ?_)
                · skip
                  have e_64 : ¬ ((wf (Int32.toNatClampNeg x5_6) : Int32).toInt = (s : Int32).toInt) := fun h => c_64 (i_eq.mpr h)
                  refine x_iconst C 0 dX10_isWaiting_101 (by decide) ?_
                  refine x_istore C [(4, .int 0), (6, .int 1), (5, .int x5_6), (0, .ref hy), (1, .int s), (2, .int se), (3, .int dr)] dX10_isWaiting_102 (by decide) rfl ?_
                  refine x_iinc C 2 (x5_6 + 1) [(5, .int (x5_6 + 1)), (4, .int 0), (6, .int 1), (0, .ref hy), (1, .int s), (2, .int se), (3, .int dr)] dX10_isWaiting_104 rfl rfl (by decide) rfl ?_
                  refine x_goto C 6 dX10_isWaiting_107 (by decide) ?_
                  refine x_lv [(5, .int (x5_6 + 1)), (4, .int 0), (0, .ref hy), (1, .int s), (2, .int se), (3, .int dr)] [0, 1, 3, 4, 5, 6] rfl ?_
                  have : (1 : Int32).toInt = 1 := by decide
                  have := i_add (x := x5_6) (y := 1) (by omega) (by omega)
                  have : (0 : Int32).toInt = 0 := by decide
                  exact ih_6 (x5_6 + 1) 0 ⟨by omega, by first | exact EX.keep i_6.2 (by omega) (by omega) | exact EX.yes (x := x5_6) (by omega) ⟨⟨by omega, by omega⟩, by omega, by omega, by omega⟩ (by omega) | exact EX.no i_6.2 (by omega) (fun h => by obtain ⟨⟨h1, h2⟩, h3, h4, h5⟩ := h; omega) (by omega)⟩ (by omega)
                · skip
                  have e_64 : (wf (Int32.toNatClampNeg x5_6) : Int32).toInt = (s : Int32).toInt := i_eq.mp c_64
                  refine x_aload_n C 3 dX10_isWaiting_67 rfl rfl ?_
                  refine x_get C 0 8 dX10_isWaiting_68 inlX10 rfl (by decide) wd_130 rfl rfl rfl ?_
                  refine x_iload C 1 dX10_isWaiting_71 rfl ?_
                  have v_73 : vp_in x5_6 6 := (vp_in_iff.mpr (by omega))
                  refine x_iald C 4 0 dX10_isWaiting_73 hT.1 rfl v_73 ?_
                  refine x_aload_n C 3 dX10_isWaiting_74 rfl rfl ?_
                  refine x_get C 0 15 dX10_isWaiting_75 inlX10 rfl (by decide) wd_133 rfl rfl rfl ?_
                  refine x_iload_n C 4 dX10_isWaiting_78 rfl rfl ?_
                  have v_79 : vp_in s 4 := (vp_in_iff.mpr (by omega))
                  refine x_iald C 1 0 dX10_isWaiting_79 hT.1 rfl v_79 ?_
                  refine x_icmp_ne C 101 dX10_isWaiting_80 (by decide) (fun c_80 => ?_) (fun c_80 => ?_)
                  · skip
                    have e_80 : ¬ ((wp (Int32.toNatClampNeg x5_6) : Int32).toInt = (tl (Int32.toNatClampNeg s) : Int32).toInt) := fun h => c_80 (i_eq.mpr h)
                    refine x_iconst C 0 dX10_isWaiting_101 (by decide) ?_
                    refine x_istore C [(4, .int 0), (6, .int 1), (5, .int x5_6), (0, .ref hy), (1, .int s), (2, .int se), (3, .int dr)] dX10_isWaiting_102 (by decide) rfl ?_
                    refine x_iinc C 2 (x5_6 + 1) [(5, .int (x5_6 + 1)), (4, .int 0), (6, .int 1), (0, .ref hy), (1, .int s), (2, .int se), (3, .int dr)] dX10_isWaiting_104 rfl rfl (by decide) rfl ?_
                    refine x_goto C 6 dX10_isWaiting_107 (by decide) ?_
                    refine x_lv [(5, .int (x5_6 + 1)), (4, .int 0), (0, .ref hy), (1, .int s), (2, .int se), (3, .int dr)] [0, 1, 3, 4, 5, 6] rfl ?_
                    have : (1 : Int32).toInt = 1 := by decide
                    have := i_add (x := x5_6) (y := 1) (by omega) (by omega)
                    have : (0 : Int32).toInt = 0 := by decide
                    exact ih_6 (x5_6 + 1) 0 ⟨by omega, by first | exact EX.keep i_6.2 (by omega) (by omega) | exact EX.yes (x := x5_6) (by omega) ⟨⟨by omega, by omega⟩, by omega, by omega, by omega⟩ (by omega) | exact EX.no i_6.2 (by omega) (fun h => by obtain ⟨⟨h1, h2⟩, h3, h4, h5⟩ := h; omega) (by omega)⟩ (by omega)
                  · skip
                    have e_80 : (wp (Int32.toNatClampNeg x5_6) : Int32).toInt = (tl (Int32.toNatClampNeg s) : Int32).toInt := i_eq.mp c_80
                    refine x_aload_n C 3 dX10_isWaiting_83 rfl rfl ?_
                    refine x_aload_n C 3 dX10_isWaiting_84 rfl rfl ?_
                    refine x_get C 0 9 dX10_isWaiting_85 inlX10 rfl (by decide) wd_131 rfl rfl rfl ?_
                    refine x_iload C 1 dX10_isWaiting_88 rfl ?_
                    have v_90 : vp_in x5_6 6 := (vp_in_iff.mpr (by omega))
                    refine x_iald C 5 0 dX10_isWaiting_90 hT.1 rfl v_90 ?_
                    have a_90 := hwt.at v_90
                    refine x_callV C [.int (wt (Int32.toNatClampNeg x5_6))] [(m7, .inl (cI, 6, .inl wf)), (m8, .inl (cI, 6, .inl wp)), (m9, .inl (cI, 6, .inl wt))] [0, 1, 2] [3, 4, 5] (q0 := 0) (c_X10_isOut (xl X) (xD X) (xt X) hT hy m0 m1 m2 m3 m4 m5 m6 m7 m8 m9 m10 m11 m12 m13 m14 m15 m16 m17 m18 tl ma mw ml mb mz op bp by0 dp tk ka iw (wt (Int32.toNatClampNeg x5_6)) (by omega)) dX10_isWaiting_91 wd_443 wd_444 wd_445 wd_5 wd_446 (np := 1) ⟨by decide, by decide, by decide +kernel⟩ rfl rfl (Nat.le_of_ble_eq_true rfl) (by decide) rfl rfl rfl rfl (by decide) rfl (by decide) (by decide) (fun v W1 h => ?_)
                    obtain ⟨r_91, rfl, rfl, h_91⟩ := h
                    show V X 7 [(m7, .inl (cI, 6, .inl wf)), (m8, .inl (cI, 6, .inl wp)), (m9, .inl (cI, 6, .inl wt)), (hy, .inr (10, [.ref m0, .ref m1, .ref m2, .ref m3, .ref m4, .ref m5, .ref m6, .ref m7, .ref m8, .ref m9, .int mw, .int ml, .int mb, .ref m10, .int mz, .ref m11, .int op, .int bp, .int by0, .int dp, .int tk, .ref m12, .ref m13, .ref m14, .ref m15, .ref m16, .ref m17, .ref m18, .int ka, .int iw])), (m11, .inl (cI, 4, .inl tl)), (m2, .inl (cI, 4, .inl ma))] [(6, .int 1), (5, .int x5_6), (4, .int x4_6), (0, .ref hy), (1, .int s), (2, .int se), (3, .int dr)] [.int r_91] 94 0 0
                    refine x_if_ne C 101 dX10_isWaiting_94 (by decide) (fun c_94 => ?_) (fun c_94 => ?_)
                    · skip
                      have e_94 : ¬ ((r_91 : Int32).toInt = (0 : Int32).toInt) := fun h => c_94 (i_eq.mpr h)
                      have : (0 : Int32).toInt = 0 := by decide
                      refine x_iconst C 0 dX10_isWaiting_101 (by decide) ?_
                      refine x_istore C [(4, .int 0), (6, .int 1), (5, .int x5_6), (0, .ref hy), (1, .int s), (2, .int se), (3, .int dr)] dX10_isWaiting_102 (by decide) rfl ?_
                      refine x_iinc C 2 (x5_6 + 1) [(5, .int (x5_6 + 1)), (4, .int 0), (6, .int 1), (0, .ref hy), (1, .int s), (2, .int se), (3, .int dr)] dX10_isWaiting_104 rfl rfl (by decide) rfl ?_
                      refine x_goto C 6 dX10_isWaiting_107 (by decide) ?_
                      refine x_sub [(hy, .inr (10, [.ref m0, .ref m1, .ref m2, .ref m3, .ref m4, .ref m5, .ref m6, .ref m7, .ref m8, .ref m9, .int mw, .int ml, .int mb, .ref m10, .int mz, .ref m11, .int op, .int bp, .int by0, .int dp, .int tk, .ref m12, .ref m13, .ref m14, .ref m15, .ref m16, .ref m17, .ref m18, .int ka, .int iw])), (m11, .inl (cI, 4, .inl tl)), (m2, .inl (cI, 4, .inl ma)), (m7, .inl (cI, 6, .inl wf)), (m8, .inl (cI, 6, .inl wp)), (m9, .inl (cI, 6, .inl wt))] [3, 4, 5, 0, 1, 2] (by decide) rfl ?_
                      refine x_lv [(5, .int (x5_6 + 1)), (4, .int 0), (0, .ref hy), (1, .int s), (2, .int se), (3, .int dr)] [0, 1, 3, 4, 5, 6] rfl ?_
                      have : (1 : Int32).toInt = 1 := by decide
                      have := i_add (x := x5_6) (y := 1) (by omega) (by omega)
                      have : (0 : Int32).toInt = 0 := by decide
                      exact ih_6 (x5_6 + 1) 0 ⟨by omega, by first | exact EX.keep i_6.2 (by omega) (by omega) | exact EX.yes (x := x5_6) (by omega) ⟨⟨by omega, by omega⟩, by omega, by omega, by omega⟩ (by omega) | exact EX.no i_6.2 (by omega) (fun h => by obtain ⟨⟨h1, h2⟩, h3, h4, h5⟩ := h; omega) (by omega)⟩ (by omega)
                    · skip
                      have e_94 : (r_91 : Int32).toInt = (0 : Int32).toInt := i_eq.mp c_94
                      have : (0 : Int32).toInt = 0 := by decide
                      refine x_iconst C 1 dX10_isWaiting_97 (by decide) ?_
                      refine x_goto C 102 dX10_isWaiting_98 (by decide) ?_
                      refine x_istore C [(4, .int 1), (6, .int 1), (5, .int x5_6), (0, .ref hy), (1, .int s), (2, .int se), (3, .int dr)] dX10_isWaiting_102 (by decide) rfl ?_
                      refine x_iinc C 2 (x5_6 + 1) [(5, .int (x5_6 + 1)), (4, .int 1), (6, .int 1), (0, .ref hy), (1, .int s), (2, .int se), (3, .int dr)] dX10_isWaiting_104 rfl rfl (by decide) rfl ?_
                      refine x_goto C 6 dX10_isWaiting_107 (by decide) ?_
                      refine x_sub [(hy, .inr (10, [.ref m0, .ref m1, .ref m2, .ref m3, .ref m4, .ref m5, .ref m6, .ref m7, .ref m8, .ref m9, .int mw, .int ml, .int mb, .ref m10, .int mz, .ref m11, .int op, .int bp, .int by0, .int dp, .int tk, .ref m12, .ref m13, .ref m14, .ref m15, .ref m16, .ref m17, .ref m18, .int ka, .int iw])), (m11, .inl (cI, 4, .inl tl)), (m2, .inl (cI, 4, .inl ma)), (m7, .inl (cI, 6, .inl wf)), (m8, .inl (cI, 6, .inl wp)), (m9, .inl (cI, 6, .inl wt))] [3, 4, 5, 0, 1, 2] (by decide) rfl ?_
                      refine x_lv [(5, .int (x5_6 + 1)), (4, .int 1), (0, .ref hy), (1, .int s), (2, .int se), (3, .int dr)] [0, 1, 3, 4, 5, 6] rfl ?_
                      have : (1 : Int32).toInt = 1 := by decide
                      have := i_add (x := x5_6) (y := 1) (by omega) (by omega)
                      have : (1 : Int32).toInt = 1 := by decide
                      exact ih_6 (x5_6 + 1) 1 ⟨by omega, by first | exact EX.keep i_6.2 (by omega) (by omega) | exact EX.yes (x := x5_6) (by omega) ⟨⟨by omega, by omega⟩, by omega, by omega, by omega⟩ (by omega) | exact EX.no i_6.2 (by omega) (fun h => by obtain ⟨⟨h1, h2⟩, h3, h4, h5⟩ := h; omega) (by omega)⟩ (by omega)
  have : (0 : Int32).toInt = 0 := by decide
  have : (0 : Int32).toInt = 0 := by decide
  exact L_6 _ 0 0 ⟨by omega, TB.nil (EX.z (by omega))⟩ (Nat.lt_succ_self _)
abbrev rm_X10_why : Room := { frames := 2, cells := 0, slots := 0, locals := 47 }
set_option maxHeartbeats 4000000 in
set_option maxRecDepth 100000 in
theorem c_X10_why (l : Launch) (D : va_G) (tys : List (ClassId × FieldType)) {cI cJ cZ cB : ClassId} (hT : Ty tys cI cJ cZ cB) (hy m0 m1 m2 m3 m4 m5 m6 m7 m8 m9 m10 m11 m12 m13 m14 m15 m16 m17 m18 : Nat) (tl ma mg mt wf wp wt : Nat → Int32) (mw ml mb mz op bp by0 dp tk ka iw : Int32) (s se dr : Int32) (hs : 0 ≤ s.toInt ∧ s.toInt ≤ 3) (hrow : RowI op) (hmw : 0 ≤ mw.toInt ∧ mw.toInt ≤ 6) (hwt : SOk wt) : Cn l D tys yX10_why cX10_why 5 (some .int) rm_X10_why [(hy, .inr (10, [.ref m0, .ref m1, .ref m2, .ref m3, .ref m4, .ref m5, .ref m6, .ref m7, .ref m8, .ref m9, .int mw, .int ml, .int mb, .ref m10, .int mz, .ref m11, .int op, .int bp, .int by0, .int dp, .int tk, .ref m12, .ref m13, .ref m14, .ref m15, .ref m16, .ref m17, .ref m18, .int ka, .int iw])), (m11, .inl (cI, 4, .inl tl)), (m2, .inl (cI, 4, .inl ma)), (m4, .inl (cI, 4, .inl mg)), (m5, .inl (cI, 4, .inl mt)), (m7, .inl (cI, 6, .inl wf)), (m8, .inl (cI, 6, .inl wp)), (m9, .inl (cI, 6, .inl wt))] [.ref hy, .int s, .int se, .int dr] (fun v W1 => ∃ (_ : Unit), v = some (.int (whyF ma mg mt wf wp wt mw ml tl op s se dr)) ∧ W1 = [(hy, .inr (10, [.ref m0, .ref m1, .ref m2, .ref m3, .ref m4, .ref m5, .ref m6, .ref m7, .ref m8, .ref m9, .int mw, .int ml, .int mb, .ref m10, .int mz, .ref m11, .int op, .int bp, .int by0, .int dp, .int tk, .ref m12, .ref m13, .ref m14, .ref m15, .ref m16, .ref m17, .ref m18, .int ka, .int iw])), (m11, .inl (cI, 4, .inl tl)), (m2, .inl (cI, 4, .inl ma)), (m4, .inl (cI, 4, .inl mg)), (m5, .inl (cI, 4, .inl mt)), (m7, .inl (cI, 6, .inl wf)), (m8, .inl (cI, 6, .inl wp)), (m9, .inl (cI, 6, .inl wt))] ∧ (True)) := by
  refine Cn.of (by decide) (Nat.le_of_ble_eq_true rfl) ?_ ?_ (fun X eL eD eT eO eK eN eM C => ?_)
  · intro h; cases h
  · intro v ws h; obtain ⟨_, rfl, rfl, _⟩ := h; exact Or.inl rfl
  subst eL eD eT
  show V X 5 [(hy, .inr (10, [.ref m0, .ref m1, .ref m2, .ref m3, .ref m4, .ref m5, .ref m6, .ref m7, .ref m8, .ref m9, .int mw, .int ml, .int mb, .ref m10, .int mz, .ref m11, .int op, .int bp, .int by0, .int dp, .int tk, .ref m12, .ref m13, .ref m14, .ref m15, .ref m16, .ref m17, .ref m18, .int ka, .int iw])), (m11, .inl (cI, 4, .inl tl)), (m2, .inl (cI, 4, .inl ma)), (m4, .inl (cI, 4, .inl mg)), (m5, .inl (cI, 4, .inl mt)), (m7, .inl (cI, 6, .inl wf)), (m8, .inl (cI, 6, .inl wp)), (m9, .inl (cI, 6, .inl wt))] [(0, .ref hy), (1, .int s), (2, .int se), (3, .int dr)] [] 0 0 0
  have g1 := hrow.rng
  refine x_aload_n C 0 dX10_why_0 rfl rfl ?_
  refine x_iload_n C 1 dX10_why_1 rfl rfl ?_
  refine x_callV C [.int s] [(m4, .inl (cI, 4, .inl mg)), (m5, .inl (cI, 4, .inl mt)), (m7, .inl (cI, 6, .inl wf)), (m8, .inl (cI, 6, .inl wp)), (m9, .inl (cI, 6, .inl wt))] [0, 1, 2] [3, 4, 5, 6, 7] (q0 := 0) (c_X10_isOut (xl X) (xD X) (xt X) hT hy m0 m1 m2 m3 m4 m5 m6 m7 m8 m9 m10 m11 m12 m13 m14 m15 m16 m17 m18 tl ma mw ml mb mz op bp by0 dp tk ka iw s hs) dX10_why_2 wd_443 wd_444 wd_445 wd_5 wd_446 (np := 1) ⟨by decide, by decide, by decide +kernel⟩ rfl rfl (Nat.le_of_ble_eq_true rfl) (by decide) rfl rfl rfl rfl (by decide) rfl (by decide) (by decide) (fun v W1 h => ?_)
  obtain ⟨r_2, rfl, rfl, h_2⟩ := h
  show V X 5 [(m4, .inl (cI, 4, .inl mg)), (m5, .inl (cI, 4, .inl mt)), (m7, .inl (cI, 6, .inl wf)), (m8, .inl (cI, 6, .inl wp)), (m9, .inl (cI, 6, .inl wt)), (hy, .inr (10, [.ref m0, .ref m1, .ref m2, .ref m3, .ref m4, .ref m5, .ref m6, .ref m7, .ref m8, .ref m9, .int mw, .int ml, .int mb, .ref m10, .int mz, .ref m11, .int op, .int bp, .int by0, .int dp, .int tk, .ref m12, .ref m13, .ref m14, .ref m15, .ref m16, .ref m17, .ref m18, .int ka, .int iw])), (m11, .inl (cI, 4, .inl tl)), (m2, .inl (cI, 4, .inl ma))] [(0, .ref hy), (1, .int s), (2, .int se), (3, .int dr)] [.int r_2] 5 0 0
  refine x_if_eq C 10 dX10_why_5 (by decide) (fun c_5 => ?_) (fun c_5 => ?_)
  · skip
    have e_5 : (r_2 : Int32).toInt = (0 : Int32).toInt := i_eq.mp c_5
    have : (0 : Int32).toInt = 0 := by decide
    refine x_aload_n C 0 dX10_why_10 rfl rfl ?_
    refine x_get C 5 15 dX10_why_11 inlX10 rfl (by decide) wd_133 rfl rfl rfl ?_
    refine x_iload_n C 1 dX10_why_14 rfl rfl ?_
    have v_15 : vp_in s 4 := (vp_in_iff.mpr (by omega))
    refine x_iald C 6 0 dX10_why_15 hT.1 rfl v_15 ?_
    refine x_if_le C 89 dX10_why_16 (by decide) (fun c_16 => ?_) (fun c_16 => ?_)
    · skip
      have e_16 : (tl (Int32.toNatClampNeg s) : Int32).toInt ≤ (0 : Int32).toInt := i_le.mp c_16
      have : (0 : Int32).toInt = 0 := by decide
      refine x_aload_n C 0 dX10_why_89 rfl rfl ?_
      refine x_callV C [] [(m5, .inl (cI, 4, .inl mt)), (m7, .inl (cI, 6, .inl wf)), (m8, .inl (cI, 6, .inl wp)), (m9, .inl (cI, 6, .inl wt)), (m2, .inl (cI, 4, .inl ma))] [5, 6, 0] [1, 2, 3, 4, 7] (q0 := 0) (c_X10_mayBegin (xl X) (xD X) (xt X) hT hy m0 m1 m2 m3 m4 m5 m6 m7 m8 m9 m10 m11 m12 m13 m14 m15 m16 m17 m18 tl mg mw ml mb mz op bp by0 dp tk ka iw hrow) dX10_why_90 wd_454 wd_455 wd_456 wd_5 wd_457 (np := 0) ⟨by decide, by decide, by decide +kernel⟩ rfl rfl (Nat.le_of_ble_eq_true rfl) (by decide) rfl rfl rfl rfl (by decide) rfl (by decide) (by decide) (fun v W1 h => ?_)
      obtain ⟨r_90, rfl, rfl, h_90⟩ := h
      show V X 5 [(m5, .inl (cI, 4, .inl mt)), (m7, .inl (cI, 6, .inl wf)), (m8, .inl (cI, 6, .inl wp)), (m9, .inl (cI, 6, .inl wt)), (m2, .inl (cI, 4, .inl ma)), (hy, .inr (10, [.ref m0, .ref m1, .ref m2, .ref m3, .ref m4, .ref m5, .ref m6, .ref m7, .ref m8, .ref m9, .int mw, .int ml, .int mb, .ref m10, .int mz, .ref m11, .int op, .int bp, .int by0, .int dp, .int tk, .ref m12, .ref m13, .ref m14, .ref m15, .ref m16, .ref m17, .ref m18, .int ka, .int iw])), (m11, .inl (cI, 4, .inl tl)), (m4, .inl (cI, 4, .inl mg))] [(0, .ref hy), (1, .int s), (2, .int se), (3, .int dr)] [.int r_90] 93 0 0
      refine x_if_ne C 98 dX10_why_93 (by decide) (fun c_93 => ?_) (fun c_93 => ?_)
      · skip
        have e_93 : ¬ ((r_90 : Int32).toInt = (0 : Int32).toInt) := fun h => c_93 (i_eq.mpr h)
        have : (0 : Int32).toInt = 0 := by decide
        refine x_aload_n C 0 dX10_why_98 rfl rfl ?_
        refine x_aload_n C 0 dX10_why_99 rfl rfl ?_
        refine x_get C 5 5 dX10_why_100 inlX10 rfl (by decide) wd_127 rfl rfl rfl ?_
        refine x_iload_n C 1 dX10_why_103 rfl rfl ?_
        have v_104 : vp_in s 4 := (vp_in_iff.mpr (by omega))
        refine x_iald C 0 0 dX10_why_104 hT.1 rfl v_104 ?_
        refine x_callV C [.int (mt (Int32.toNatClampNeg s))] [(m7, .inl (cI, 6, .inl wf)), (m8, .inl (cI, 6, .inl wp)), (m9, .inl (cI, 6, .inl wt)), (m2, .inl (cI, 4, .inl ma)), (m11, .inl (cI, 4, .inl tl)), (m4, .inl (cI, 4, .inl mg))] [5, 0] [1, 2, 3, 4, 6, 7] (q0 := 0) (c_X10_hasOpen (xl X) (xD X) (xt X) hT hy m0 m1 m2 m3 m4 m5 m6 m7 m8 m9 m10 m11 m12 m13 m14 m15 m16 m17 m18 mt mw ml mb mz op bp by0 dp tk ka iw (mt (Int32.toNatClampNeg s)) hrow) dX10_why_105 wd_465 wd_466 wd_467 wd_5 wd_468 (np := 1) ⟨by decide, by decide, by decide +kernel⟩ rfl rfl (Nat.le_of_ble_eq_true rfl) (by decide) rfl rfl rfl rfl (by decide) rfl (by decide) (by decide) (fun v W1 h => ?_)
        obtain ⟨r_105, rfl, rfl, h_105⟩ := h
        show V X 5 [(m7, .inl (cI, 6, .inl wf)), (m8, .inl (cI, 6, .inl wp)), (m9, .inl (cI, 6, .inl wt)), (m2, .inl (cI, 4, .inl ma)), (m11, .inl (cI, 4, .inl tl)), (m4, .inl (cI, 4, .inl mg)), (hy, .inr (10, [.ref m0, .ref m1, .ref m2, .ref m3, .ref m4, .ref m5, .ref m6, .ref m7, .ref m8, .ref m9, .int mw, .int ml, .int mb, .ref m10, .int mz, .ref m11, .int op, .int bp, .int by0, .int dp, .int tk, .ref m12, .ref m13, .ref m14, .ref m15, .ref m16, .ref m17, .ref m18, .int ka, .int iw])), (m5, .inl (cI, 4, .inl mt))] [(0, .ref hy), (1, .int s), (2, .int se), (3, .int dr)] [.int r_105] 108 0 0
        refine x_if_eq C 115 dX10_why_108 (by decide) (fun c_108 => ?_) (fun c_108 => ?_)
        · skip
          have e_108 : (r_105 : Int32).toInt = (0 : Int32).toInt := i_eq.mp c_108
          have : (0 : Int32).toInt = 0 := by decide
          refine x_aload_n C 0 dX10_why_115 rfl rfl ?_
          refine x_iload_n C 1 dX10_why_116 rfl rfl ?_
          refine x_iload_n C 2 dX10_why_117 rfl rfl ?_
          refine x_iload_n C 3 dX10_why_118 rfl rfl ?_
          refine x_callV C [.int s, .int se, .int dr] [(m4, .inl (cI, 4, .inl mg)), (m5, .inl (cI, 4, .inl mt))] [6, 4, 3, 0, 1, 2] [5, 7] (q0 := 0) (c_X10_isWaiting (xl X) (xD X) (xt X) hT hy m0 m1 m2 m3 m4 m5 m6 m7 m8 m9 m10 m11 m12 m13 m14 m15 m16 m17 m18 tl ma wf wp wt mw ml mb mz op bp by0 dp tk ka iw s se dr hs hmw hwt) dX10_why_119 wd_450 wd_451 wd_452 wd_5 wd_453 (np := 3) ⟨by decide, by decide, by decide +kernel⟩ rfl rfl (Nat.le_of_ble_eq_true rfl) (by decide) rfl rfl rfl rfl (by decide) rfl (by decide) (by decide) (fun v W1 h => ?_)
          obtain ⟨r_119, rfl, rfl, h_119⟩ := h
          show V X 5 [(m4, .inl (cI, 4, .inl mg)), (m5, .inl (cI, 4, .inl mt)), (hy, .inr (10, [.ref m0, .ref m1, .ref m2, .ref m3, .ref m4, .ref m5, .ref m6, .ref m7, .ref m8, .ref m9, .int mw, .int ml, .int mb, .ref m10, .int mz, .ref m11, .int op, .int bp, .int by0, .int dp, .int tk, .ref m12, .ref m13, .ref m14, .ref m15, .ref m16, .ref m17, .ref m18, .int ka, .int iw])), (m11, .inl (cI, 4, .inl tl)), (m2, .inl (cI, 4, .inl ma)), (m7, .inl (cI, 6, .inl wf)), (m8, .inl (cI, 6, .inl wp)), (m9, .inl (cI, 6, .inl wt))] [(0, .ref hy), (1, .int s), (2, .int se), (3, .int dr)] [.int r_119] 122 0 0
          refine x_if_eq C 129 dX10_why_122 (by decide) (fun c_122 => ?_) (fun c_122 => ?_)
          · skip
            have e_122 : (r_119 : Int32).toInt = (0 : Int32).toInt := i_eq.mp c_122
            have : (0 : Int32).toInt = 0 := by decide
            refine x_bipush C (-6) dX10_why_129 (by decide) ?_
            refine x_sub [(hy, .inr (10, [.ref m0, .ref m1, .ref m2, .ref m3, .ref m4, .ref m5, .ref m6, .ref m7, .ref m8, .ref m9, .int mw, .int ml, .int mb, .ref m10, .int mz, .ref m11, .int op, .int bp, .int by0, .int dp, .int tk, .ref m12, .ref m13, .ref m14, .ref m15, .ref m16, .ref m17, .ref m18, .int ka, .int iw])), (m11, .inl (cI, 4, .inl tl)), (m2, .inl (cI, 4, .inl ma)), (m4, .inl (cI, 4, .inl mg)), (m5, .inl (cI, 4, .inl mt)), (m7, .inl (cI, 6, .inl wf)), (m8, .inl (cI, 6, .inl wp)), (m9, .inl (cI, 6, .inl wt))] [2, 3, 4, 0, 1, 5, 6, 7] (by decide) rfl ?_
            have : ((-6) : Int32).toInt = -6 := by decide
            exact x_iret C dX10_why_131 (Nat.zero_le _) (Nat.zero_le _) (by rw [eO]; exact ⟨(), (congrArg (fun z => some (Value.int z)) (whyF_6b (by omega) (by omega) (h_90.t (by omega)) (h_105.f (by omega)) (h_119.f (by omega)))), rfl, trivial⟩)
          · skip
            have e_122 : ¬ ((r_119 : Int32).toInt = (0 : Int32).toInt) := fun h => c_122 (i_eq.mpr h)
            have : (0 : Int32).toInt = 0 := by decide
            refine x_iconst C 5 dX10_why_125 (by decide) ?_
            refine x_goto C 131 dX10_why_126 (by decide) ?_
            refine x_sub [(hy, .inr (10, [.ref m0, .ref m1, .ref m2, .ref m3, .ref m4, .ref m5, .ref m6, .ref m7, .ref m8, .ref m9, .int mw, .int ml, .int mb, .ref m10, .int mz, .ref m11, .int op, .int bp, .int by0, .int dp, .int tk, .ref m12, .ref m13, .ref m14, .ref m15, .ref m16, .ref m17, .ref m18, .int ka, .int iw])), (m11, .inl (cI, 4, .inl tl)), (m2, .inl (cI, 4, .inl ma)), (m4, .inl (cI, 4, .inl mg)), (m5, .inl (cI, 4, .inl mt)), (m7, .inl (cI, 6, .inl wf)), (m8, .inl (cI, 6, .inl wp)), (m9, .inl (cI, 6, .inl wt))] [2, 3, 4, 0, 1, 5, 6, 7] (by decide) rfl ?_
            have : (5 : Int32).toInt = 5 := by decide
            exact x_iret C dX10_why_131 (Nat.zero_le _) (Nat.zero_le _) (by rw [eO]; exact ⟨(), (congrArg (fun z => some (Value.int z)) (whyF_5b (by omega) (by omega) (h_90.t (by omega)) (h_105.f (by omega)) (h_119.t (by omega)))), rfl, trivial⟩)
        · skip
          have e_108 : ¬ ((r_105 : Int32).toInt = (0 : Int32).toInt) := fun h => c_108 (i_eq.mpr h)
          have : (0 : Int32).toInt = 0 := by decide
          refine x_iconst C 4 dX10_why_111 (by decide) ?_
          refine x_goto C 131 dX10_why_112 (by decide) ?_
          refine x_sub [(hy, .inr (10, [.ref m0, .ref m1, .ref m2, .ref m3, .ref m4, .ref m5, .ref m6, .ref m7, .ref m8, .ref m9, .int mw, .int ml, .int mb, .ref m10, .int mz, .ref m11, .int op, .int bp, .int by0, .int dp, .int tk, .ref m12, .ref m13, .ref m14, .ref m15, .ref m16, .ref m17, .ref m18, .int ka, .int iw])), (m11, .inl (cI, 4, .inl tl)), (m2, .inl (cI, 4, .inl ma)), (m4, .inl (cI, 4, .inl mg)), (m5, .inl (cI, 4, .inl mt)), (m7, .inl (cI, 6, .inl wf)), (m8, .inl (cI, 6, .inl wp)), (m9, .inl (cI, 6, .inl wt))] [6, 4, 3, 5, 7, 0, 1, 2] (by decide) rfl ?_
          have : (4 : Int32).toInt = 4 := by decide
          exact x_iret C dX10_why_131 (Nat.zero_le _) (Nat.zero_le _) (by rw [eO]; exact ⟨(), (congrArg (fun z => some (Value.int z)) (whyF_4 (by omega) (by omega) (h_90.t (by omega)) (h_105.t (by omega)))), rfl, trivial⟩)
      · skip
        have e_93 : (r_90 : Int32).toInt = (0 : Int32).toInt := i_eq.mp c_93
        have : (0 : Int32).toInt = 0 := by decide
        refine x_iconst C 3 dX10_why_96 (by decide) ?_
        refine x_sub [(hy, .inr (10, [.ref m0, .ref m1, .ref m2, .ref m3, .ref m4, .ref m5, .ref m6, .ref m7, .ref m8, .ref m9, .int mw, .int ml, .int mb, .ref m10, .int mz, .ref m11, .int op, .int bp, .int by0, .int dp, .int tk, .ref m12, .ref m13, .ref m14, .ref m15, .ref m16, .ref m17, .ref m18, .int ka, .int iw])), (m11, .inl (cI, 4, .inl tl)), (m2, .inl (cI, 4, .inl ma)), (m4, .inl (cI, 4, .inl mg)), (m5, .inl (cI, 4, .inl mt)), (m7, .inl (cI, 6, .inl wf)), (m8, .inl (cI, 6, .inl wp)), (m9, .inl (cI, 6, .inl wt))] [5, 6, 4, 7, 0, 1, 2, 3] (by decide) rfl ?_
        have : (3 : Int32).toInt = 3 := by decide
        exact x_iret C dX10_why_97 (Nat.zero_le _) (Nat.zero_le _) (by rw [eO]; exact ⟨(), (congrArg (fun z => some (Value.int z)) (whyF_3 (by omega) (by omega) (h_90.f (by omega)))), rfl, trivial⟩)
    · skip
      have e_16 : ¬ ((tl (Int32.toNatClampNeg s) : Int32).toInt ≤ (0 : Int32).toInt) := fun h => c_16 (i_le.mpr h)
      have : (0 : Int32).toInt = 0 := by decide
      refine x_aload_n C 0 dX10_why_19 rfl rfl ?_
      refine x_get C 5 11 dX10_why_20 inlX10 rfl (by decide) wd_347 rfl rfl rfl ?_
      refine x_iconst C 2 dX10_why_23 (by decide) ?_
      refine x_icmp_eq C 56 dX10_why_24 (by decide) (fun c_24 => ?_) (fun c_24 => ?_)
      · skip
        have e_24 : (ml : Int32).toInt = (2 : Int32).toInt := i_eq.mp c_24
        have : (2 : Int32).toInt = 2 := by decide
        refine x_iconst C 1 dX10_why_56 (by decide) ?_
        refine x_goto C 61 dX10_why_57 (by decide) ?_
        refine x_istore C [(4, .int 1), (0, .ref hy), (1, .int s), (2, .int se), (3, .int dr)] dX10_why_61 (by decide) rfl ?_
        refine x_iload C 0 dX10_why_63 rfl ?_
        refine x_if_ne C 72 dX10_why_65 (by decide) (fun c_65 => ?_) (fun c_65 => ?_)
        · skip
          have e_65 : ¬ ((1 : Int32).toInt = (0 : Int32).toInt) := fun h => c_65 (i_eq.mpr h)
          have : (1 : Int32).toInt = 1 := by decide
          have : (0 : Int32).toInt = 0 := by decide
          refine x_aload_n C 1 dX10_why_72 rfl rfl ?_
          refine x_iload_n C 2 dX10_why_73 rfl rfl ?_
          refine x_iload_n C 3 dX10_why_74 rfl rfl ?_
          refine x_iload_n C 4 dX10_why_75 rfl rfl ?_
          refine x_callV C [.int s, .int se, .int dr] [(m4, .inl (cI, 4, .inl mg)), (m5, .inl (cI, 4, .inl mt))] [5, 6, 7, 2, 3, 4] [0, 1] (q0 := 0) (c_X10_isWaiting (xl X) (xD X) (xt X) hT hy m0 m1 m2 m3 m4 m5 m6 m7 m8 m9 m10 m11 m12 m13 m14 m15 m16 m17 m18 tl ma wf wp wt mw ml mb mz op bp by0 dp tk ka iw s se dr hs hmw hwt) dX10_why_76 wd_450 wd_451 wd_452 wd_5 wd_453 (np := 3) ⟨by decide, by decide, by decide +kernel⟩ rfl rfl (Nat.le_of_ble_eq_true rfl) (by decide) rfl rfl rfl rfl (by decide) rfl (by decide) (by decide) (fun v W1 h => ?_)
          obtain ⟨r_76, rfl, rfl, h_76⟩ := h
          show V X 5 [(m4, .inl (cI, 4, .inl mg)), (m5, .inl (cI, 4, .inl mt)), (hy, .inr (10, [.ref m0, .ref m1, .ref m2, .ref m3, .ref m4, .ref m5, .ref m6, .ref m7, .ref m8, .ref m9, .int mw, .int ml, .int mb, .ref m10, .int mz, .ref m11, .int op, .int bp, .int by0, .int dp, .int tk, .ref m12, .ref m13, .ref m14, .ref m15, .ref m16, .ref m17, .ref m18, .int ka, .int iw])), (m11, .inl (cI, 4, .inl tl)), (m2, .inl (cI, 4, .inl ma)), (m7, .inl (cI, 6, .inl wf)), (m8, .inl (cI, 6, .inl wp)), (m9, .inl (cI, 6, .inl wt))] [(4, .int 1), (0, .ref hy), (1, .int s), (2, .int se), (3, .int dr)] [.int r_76] 79 0 0
          refine x_if_eq C 86 dX10_why_79 (by decide) (fun c_79 => ?_) (fun c_79 => ?_)
          · skip
            have e_79 : (r_76 : Int32).toInt = (0 : Int32).toInt := i_eq.mp c_79
            have : (0 : Int32).toInt = 0 := by decide
            refine x_bipush C (-6) dX10_why_86 (by decide) ?_
            refine x_sub [(hy, .inr (10, [.ref m0, .ref m1, .ref m2, .ref m3, .ref m4, .ref m5, .ref m6, .ref m7, .ref m8, .ref m9, .int mw, .int ml, .int mb, .ref m10, .int mz, .ref m11, .int op, .int bp, .int by0, .int dp, .int tk, .ref m12, .ref m13, .ref m14, .ref m15, .ref m16, .ref m17, .ref m18, .int ka, .int iw])), (m11, .inl (cI, 4, .inl tl)), (m2, .inl (cI, 4, .inl ma)), (m4, .inl (cI, 4, .inl mg)), (m5, .inl (cI, 4, .inl mt)), (m7, .inl (cI, 6, .inl wf)), (m8, .inl (cI, 6, .inl wp)), (m9, .inl (cI, 6, .inl wt))] [2, 3, 4, 0, 1, 5, 6, 7] (by decide) rfl ?_
            have : ((-6) : Int32).toInt = -6 := by decide
            exact x_iret C dX10_why_88 (Nat.zero_le _) (Nat.zero_le _) (by rw [eO]; exact ⟨(), (congrArg (fun z => some (Value.int z)) (whyF_6 (by omega) (by omega) (by unfold MayP; omega) (h_76.f (by omega)))), rfl, trivial⟩)
          · skip
            have e_79 : ¬ ((r_76 : Int32).toInt = (0 : Int32).toInt) := fun h => c_79 (i_eq.mpr h)
            have : (0 : Int32).toInt = 0 := by decide
            refine x_iconst C 5 dX10_why_82 (by decide) ?_
            refine x_goto C 88 dX10_why_83 (by decide) ?_
            refine x_sub [(hy, .inr (10, [.ref m0, .ref m1, .ref m2, .ref m3, .ref m4, .ref m5, .ref m6, .ref m7, .ref m8, .ref m9, .int mw, .int ml, .int mb, .ref m10, .int mz, .ref m11, .int op, .int bp, .int by0, .int dp, .int tk, .ref m12, .ref m13, .ref m14, .ref m15, .ref m16, .ref m17, .ref m18, .int ka, .int iw])), (m11, .inl (cI, 4, .inl tl)), (m2, .inl (cI, 4, .inl ma)), (m4, .inl (cI, 4, .inl mg)), (m5, .inl (cI, 4, .inl mt)), (m7, .inl (cI, 6, .inl wf)), (m8, .inl (cI, 6, .inl wp)), (m9, .inl (cI, 6, .inl wt))] [2, 3, 4, 0, 1, 5, 6, 7] (by decide) rfl ?_
            have : (5 : Int32).toInt = 5 := by decide
            exact x_iret C dX10_why_88 (Nat.zero_le _) (Nat.zero_le _) (by rw [eO]; exact ⟨(), (congrArg (fun z => some (Value.int z)) (whyF_5 (by omega) (by omega) (by unfold MayP; omega) (h_76.t (by omega)))), rfl, trivial⟩)
        · skip
          have e_65 : (1 : Int32).toInt = (0 : Int32).toInt := i_eq.mp c_65
          have : (1 : Int32).toInt = 1 := by decide
          have : (0 : Int32).toInt = 0 := by decide
          exfalso
          omega
      · skip
        have e_24 : ¬ ((ml : Int32).toInt = (2 : Int32).toInt) := fun h => c_24 (i_eq.mpr h)
        have : (2 : Int32).toInt = 2 := by decide
        refine x_iload_n C 1 dX10_why_27 rfl rfl ?_
        refine x_aload_n C 0 dX10_why_28 rfl rfl ?_
        refine x_get C 5 11 dX10_why_29 inlX10 rfl (by decide) wd_347 rfl rfl rfl ?_
        refine x_if_ne C 45 dX10_why_32 (by decide) (fun c_32 => ?_) (fun c_32 => ?_)
        · skip
          have e_32 : ¬ ((ml : Int32).toInt = (0 : Int32).toInt) := fun h => c_32 (i_eq.mpr h)
          have : (0 : Int32).toInt = 0 := by decide
          refine x_aload_n C 0 dX10_why_45 rfl rfl ?_
          refine x_get C 5 16 dX10_why_46 inlX10 rfl (by decide) wd_434 rfl rfl rfl ?_
          refine x_iconst C 5 dX10_why_49 (by decide) ?_
          refine x_irem C dX10_why_50 (by decide) ?_
          refine x_iconst C 1 dX10_why_51 (by decide) ?_
          refine x_isub C dX10_why_52 ?_
          refine x_icmp_ne C 60 dX10_why_53 (by decide) (fun c_53 => ?_) (fun c_53 => ?_)
          · skip
            have e_53 : ¬ ((s : Int32).toInt = ((op - op / 5 * 5) - 1 : Int32).toInt) := fun h => c_53 (i_eq.mpr h)
            refine x_iconst C 0 dX10_why_60 (by decide) ?_
            refine x_istore C [(4, .int 0), (0, .ref hy), (1, .int s), (2, .int se), (3, .int dr)] dX10_why_61 (by decide) rfl ?_
            refine x_iload C 0 dX10_why_63 rfl ?_
            refine x_if_ne C 72 dX10_why_65 (by decide) (fun c_65 => ?_) (fun c_65 => ?_)
            · skip
              have e_65 : ¬ ((0 : Int32).toInt = (0 : Int32).toInt) := fun h => c_65 (i_eq.mpr h)
              have : (0 : Int32).toInt = 0 := by decide
              have : (0 : Int32).toInt = 0 := by decide
              exfalso
              omega
            · skip
              have e_65 : (0 : Int32).toInt = (0 : Int32).toInt := i_eq.mp c_65
              have : (0 : Int32).toInt = 0 := by decide
              have : (0 : Int32).toInt = 0 := by decide
              refine x_iconst C 2 dX10_why_68 (by decide) ?_
              refine x_goto C 88 dX10_why_69 (by decide) ?_
              refine x_sub [(hy, .inr (10, [.ref m0, .ref m1, .ref m2, .ref m3, .ref m4, .ref m5, .ref m6, .ref m7, .ref m8, .ref m9, .int mw, .int ml, .int mb, .ref m10, .int mz, .ref m11, .int op, .int bp, .int by0, .int dp, .int tk, .ref m12, .ref m13, .ref m14, .ref m15, .ref m16, .ref m17, .ref m18, .int ka, .int iw])), (m11, .inl (cI, 4, .inl tl)), (m2, .inl (cI, 4, .inl ma)), (m4, .inl (cI, 4, .inl mg)), (m5, .inl (cI, 4, .inl mt)), (m7, .inl (cI, 6, .inl wf)), (m8, .inl (cI, 6, .inl wp)), (m9, .inl (cI, 6, .inl wt))] [5, 6, 7, 0, 1, 2, 3, 4] (by decide) rfl ?_
              have : (2 : Int32).toInt = 2 := by decide
              exact x_iret C dX10_why_88 (Nat.zero_le _) (Nat.zero_le _) (by rw [eO]; exact ⟨(), (congrArg (fun z => some (Value.int z)) (whyF_2 (by omega) (by omega) (by unfold MayP; omega))), rfl, trivial⟩)
          · skip
            have e_53 : (s : Int32).toInt = ((op - op / 5 * 5) - 1 : Int32).toInt := i_eq.mp c_53
            refine x_iconst C 1 dX10_why_56 (by decide) ?_
            refine x_goto C 61 dX10_why_57 (by decide) ?_
            refine x_istore C [(4, .int 1), (0, .ref hy), (1, .int s), (2, .int se), (3, .int dr)] dX10_why_61 (by decide) rfl ?_
            refine x_iload C 0 dX10_why_63 rfl ?_
            refine x_if_ne C 72 dX10_why_65 (by decide) (fun c_65 => ?_) (fun c_65 => ?_)
            · skip
              have e_65 : ¬ ((1 : Int32).toInt = (0 : Int32).toInt) := fun h => c_65 (i_eq.mpr h)
              have : (1 : Int32).toInt = 1 := by decide
              have : (0 : Int32).toInt = 0 := by decide
              refine x_aload_n C 1 dX10_why_72 rfl rfl ?_
              refine x_iload_n C 2 dX10_why_73 rfl rfl ?_
              refine x_iload_n C 3 dX10_why_74 rfl rfl ?_
              refine x_iload_n C 4 dX10_why_75 rfl rfl ?_
              refine x_callV C [.int s, .int se, .int dr] [(m4, .inl (cI, 4, .inl mg)), (m5, .inl (cI, 4, .inl mt))] [5, 6, 7, 2, 3, 4] [0, 1] (q0 := 0) (c_X10_isWaiting (xl X) (xD X) (xt X) hT hy m0 m1 m2 m3 m4 m5 m6 m7 m8 m9 m10 m11 m12 m13 m14 m15 m16 m17 m18 tl ma wf wp wt mw ml mb mz op bp by0 dp tk ka iw s se dr hs hmw hwt) dX10_why_76 wd_450 wd_451 wd_452 wd_5 wd_453 (np := 3) ⟨by decide, by decide, by decide +kernel⟩ rfl rfl (Nat.le_of_ble_eq_true rfl) (by decide) rfl rfl rfl rfl (by decide) rfl (by decide) (by decide) (fun v W1 h => ?_)
              obtain ⟨r_76, rfl, rfl, h_76⟩ := h
              show V X 5 [(m4, .inl (cI, 4, .inl mg)), (m5, .inl (cI, 4, .inl mt)), (hy, .inr (10, [.ref m0, .ref m1, .ref m2, .ref m3, .ref m4, .ref m5, .ref m6, .ref m7, .ref m8, .ref m9, .int mw, .int ml, .int mb, .ref m10, .int mz, .ref m11, .int op, .int bp, .int by0, .int dp, .int tk, .ref m12, .ref m13, .ref m14, .ref m15, .ref m16, .ref m17, .ref m18, .int ka, .int iw])), (m11, .inl (cI, 4, .inl tl)), (m2, .inl (cI, 4, .inl ma)), (m7, .inl (cI, 6, .inl wf)), (m8, .inl (cI, 6, .inl wp)), (m9, .inl (cI, 6, .inl wt))] [(4, .int 1), (0, .ref hy), (1, .int s), (2, .int se), (3, .int dr)] [.int r_76] 79 0 0
              refine x_if_eq C 86 dX10_why_79 (by decide) (fun c_79 => ?_) (fun c_79 => ?_)
              · skip
                have e_79 : (r_76 : Int32).toInt = (0 : Int32).toInt := i_eq.mp c_79
                have : (0 : Int32).toInt = 0 := by decide
                refine x_bipush C (-6) dX10_why_86 (by decide) ?_
                refine x_sub [(hy, .inr (10, [.ref m0, .ref m1, .ref m2, .ref m3, .ref m4, .ref m5, .ref m6, .ref m7, .ref m8, .ref m9, .int mw, .int ml, .int mb, .ref m10, .int mz, .ref m11, .int op, .int bp, .int by0, .int dp, .int tk, .ref m12, .ref m13, .ref m14, .ref m15, .ref m16, .ref m17, .ref m18, .int ka, .int iw])), (m11, .inl (cI, 4, .inl tl)), (m2, .inl (cI, 4, .inl ma)), (m4, .inl (cI, 4, .inl mg)), (m5, .inl (cI, 4, .inl mt)), (m7, .inl (cI, 6, .inl wf)), (m8, .inl (cI, 6, .inl wp)), (m9, .inl (cI, 6, .inl wt))] [2, 3, 4, 0, 1, 5, 6, 7] (by decide) rfl ?_
                have : ((-6) : Int32).toInt = -6 := by decide
                exact x_iret C dX10_why_88 (Nat.zero_le _) (Nat.zero_le _) (by rw [eO]; exact ⟨(), (congrArg (fun z => some (Value.int z)) (whyF_6 (by omega) (by omega) (by unfold MayP; omega) (h_76.f (by omega)))), rfl, trivial⟩)
              · skip
                have e_79 : ¬ ((r_76 : Int32).toInt = (0 : Int32).toInt) := fun h => c_79 (i_eq.mpr h)
                have : (0 : Int32).toInt = 0 := by decide
                refine x_iconst C 5 dX10_why_82 (by decide) ?_
                refine x_goto C 88 dX10_why_83 (by decide) ?_
                refine x_sub [(hy, .inr (10, [.ref m0, .ref m1, .ref m2, .ref m3, .ref m4, .ref m5, .ref m6, .ref m7, .ref m8, .ref m9, .int mw, .int ml, .int mb, .ref m10, .int mz, .ref m11, .int op, .int bp, .int by0, .int dp, .int tk, .ref m12, .ref m13, .ref m14, .ref m15, .ref m16, .ref m17, .ref m18, .int ka, .int iw])), (m11, .inl (cI, 4, .inl tl)), (m2, .inl (cI, 4, .inl ma)), (m4, .inl (cI, 4, .inl mg)), (m5, .inl (cI, 4, .inl mt)), (m7, .inl (cI, 6, .inl wf)), (m8, .inl (cI, 6, .inl wp)), (m9, .inl (cI, 6, .inl wt))] [2, 3, 4, 0, 1, 5, 6, 7] (by decide) rfl ?_
                have : (5 : Int32).toInt = 5 := by decide
                exact x_iret C dX10_why_88 (Nat.zero_le _) (Nat.zero_le _) (by rw [eO]; exact ⟨(), (congrArg (fun z => some (Value.int z)) (whyF_5 (by omega) (by omega) (by unfold MayP; omega) (h_76.t (by omega)))), rfl, trivial⟩)
            · skip
              have e_65 : (1 : Int32).toInt = (0 : Int32).toInt := i_eq.mp c_65
              have : (1 : Int32).toInt = 1 := by decide
              have : (0 : Int32).toInt = 0 := by decide
              exfalso
              omega
        · skip
          have e_32 : (ml : Int32).toInt = (0 : Int32).toInt := i_eq.mp c_32
          have : (0 : Int32).toInt = 0 := by decide
          refine x_aload_n C 0 dX10_why_35 rfl rfl ?_
          refine x_get C 5 16 dX10_why_36 inlX10 rfl (by decide) wd_434 rfl rfl rfl ?_
          refine x_callS C [.int op] [(m4, .inl (cI, 4, .inl mg)), (m5, .inl (cI, 4, .inl mt)), (m7, .inl (cI, 6, .inl wf)), (m8, .inl (cI, 6, .inl wp)), (m9, .inl (cI, 6, .inl wt)), (hy, .inr (10, [.ref m0, .ref m1, .ref m2, .ref m3, .ref m4, .ref m5, .ref m6, .ref m7, .ref m8, .ref m9, .int mw, .int ml, .int mb, .ref m10, .int mz, .ref m11, .int op, .int bp, .int by0, .int dp, .int tk, .ref m12, .ref m13, .ref m14, .ref m15, .ref m16, .ref m17, .ref m18, .int ka, .int iw])), (m11, .inl (cI, 4, .inl tl)), (m2, .inl (cI, 4, .inl ma))] [] [0, 1, 2, 3, 4, 5, 6, 7] (c_X10_lastOf (xl X) (xD X) (xt X) hT op (by omega)) dX10_why_39 wd_447 wd_448 wd_5 wd_449 (np := 1) ⟨by decide, by decide, by decide +kernel⟩ rfl rfl (Nat.le_of_ble_eq_true rfl) (by decide) rfl (by decide) rfl (by decide) (by decide) (fun v W1 h => ?_)
          obtain ⟨_, rfl, rfl, h_39⟩ := h
          show V X 5 [(m4, .inl (cI, 4, .inl mg)), (m5, .inl (cI, 4, .inl mt)), (m7, .inl (cI, 6, .inl wf)), (m8, .inl (cI, 6, .inl wp)), (m9, .inl (cI, 6, .inl wt)), (hy, .inr (10, [.ref m0, .ref m1, .ref m2, .ref m3, .ref m4, .ref m5, .ref m6, .ref m7, .ref m8, .ref m9, .int mw, .int ml, .int mb, .ref m10, .int mz, .ref m11, .int op, .int bp, .int by0, .int dp, .int tk, .ref m12, .ref m13, .ref m14, .ref m15, .ref m16, .ref m17, .ref m18, .int ka, .int iw])), (m11, .inl (cI, 4, .inl tl)), (m2, .inl (cI, 4, .inl ma))] [(0, .ref hy), (1, .int s), (2, .int se), (3, .int dr)] [.int (lastI op), .int s] 42 0 0
          refine x_goto C 53 dX10_why_42 (by decide) ?_
          refine x_icmp_ne C 60 dX10_why_53 (by decide) (fun c_53 => ?_) (fun c_53 => ?_)
          · skip
            have e_53 : ¬ ((s : Int32).toInt = (lastI op : Int32).toInt) := fun h => c_53 (i_eq.mpr h)
            refine x_iconst C 0 dX10_why_60 (by decide) ?_
            refine x_istore C [(4, .int 0), (0, .ref hy), (1, .int s), (2, .int se), (3, .int dr)] dX10_why_61 (by decide) rfl ?_
            refine x_iload C 0 dX10_why_63 rfl ?_
            refine x_if_ne C 72 dX10_why_65 (by decide) (fun c_65 => ?_) (fun c_65 => ?_)
            · skip
              have e_65 : ¬ ((0 : Int32).toInt = (0 : Int32).toInt) := fun h => c_65 (i_eq.mpr h)
              have : (0 : Int32).toInt = 0 := by decide
              have : (0 : Int32).toInt = 0 := by decide
              exfalso
              omega
            · skip
              have e_65 : (0 : Int32).toInt = (0 : Int32).toInt := i_eq.mp c_65
              have : (0 : Int32).toInt = 0 := by decide
              have : (0 : Int32).toInt = 0 := by decide
              refine x_iconst C 2 dX10_why_68 (by decide) ?_
              refine x_goto C 88 dX10_why_69 (by decide) ?_
              refine x_sub [(hy, .inr (10, [.ref m0, .ref m1, .ref m2, .ref m3, .ref m4, .ref m5, .ref m6, .ref m7, .ref m8, .ref m9, .int mw, .int ml, .int mb, .ref m10, .int mz, .ref m11, .int op, .int bp, .int by0, .int dp, .int tk, .ref m12, .ref m13, .ref m14, .ref m15, .ref m16, .ref m17, .ref m18, .int ka, .int iw])), (m11, .inl (cI, 4, .inl tl)), (m2, .inl (cI, 4, .inl ma)), (m4, .inl (cI, 4, .inl mg)), (m5, .inl (cI, 4, .inl mt)), (m7, .inl (cI, 6, .inl wf)), (m8, .inl (cI, 6, .inl wp)), (m9, .inl (cI, 6, .inl wt))] [5, 6, 7, 0, 1, 2, 3, 4] (by decide) rfl ?_
              have : (2 : Int32).toInt = 2 := by decide
              exact x_iret C dX10_why_88 (Nat.zero_le _) (Nat.zero_le _) (by rw [eO]; exact ⟨(), (congrArg (fun z => some (Value.int z)) (whyF_2 (by omega) (by omega) (by unfold MayP; omega))), rfl, trivial⟩)
          · skip
            have e_53 : (s : Int32).toInt = (lastI op : Int32).toInt := i_eq.mp c_53
            refine x_iconst C 1 dX10_why_56 (by decide) ?_
            refine x_goto C 61 dX10_why_57 (by decide) ?_
            refine x_istore C [(4, .int 1), (0, .ref hy), (1, .int s), (2, .int se), (3, .int dr)] dX10_why_61 (by decide) rfl ?_
            refine x_iload C 0 dX10_why_63 rfl ?_
            refine x_if_ne C 72 dX10_why_65 (by decide) (fun c_65 => ?_) (fun c_65 => ?_)
            · skip
              have e_65 : ¬ ((1 : Int32).toInt = (0 : Int32).toInt) := fun h => c_65 (i_eq.mpr h)
              have : (1 : Int32).toInt = 1 := by decide
              have : (0 : Int32).toInt = 0 := by decide
              refine x_aload_n C 1 dX10_why_72 rfl rfl ?_
              refine x_iload_n C 2 dX10_why_73 rfl rfl ?_
              refine x_iload_n C 3 dX10_why_74 rfl rfl ?_
              refine x_iload_n C 4 dX10_why_75 rfl rfl ?_
              refine x_callV C [.int s, .int se, .int dr] [(m4, .inl (cI, 4, .inl mg)), (m5, .inl (cI, 4, .inl mt))] [5, 6, 7, 2, 3, 4] [0, 1] (q0 := 0) (c_X10_isWaiting (xl X) (xD X) (xt X) hT hy m0 m1 m2 m3 m4 m5 m6 m7 m8 m9 m10 m11 m12 m13 m14 m15 m16 m17 m18 tl ma wf wp wt mw ml mb mz op bp by0 dp tk ka iw s se dr hs hmw hwt) dX10_why_76 wd_450 wd_451 wd_452 wd_5 wd_453 (np := 3) ⟨by decide, by decide, by decide +kernel⟩ rfl rfl (Nat.le_of_ble_eq_true rfl) (by decide) rfl rfl rfl rfl (by decide) rfl (by decide) (by decide) (fun v W1 h => ?_)
              obtain ⟨r_76, rfl, rfl, h_76⟩ := h
              show V X 5 [(m4, .inl (cI, 4, .inl mg)), (m5, .inl (cI, 4, .inl mt)), (hy, .inr (10, [.ref m0, .ref m1, .ref m2, .ref m3, .ref m4, .ref m5, .ref m6, .ref m7, .ref m8, .ref m9, .int mw, .int ml, .int mb, .ref m10, .int mz, .ref m11, .int op, .int bp, .int by0, .int dp, .int tk, .ref m12, .ref m13, .ref m14, .ref m15, .ref m16, .ref m17, .ref m18, .int ka, .int iw])), (m11, .inl (cI, 4, .inl tl)), (m2, .inl (cI, 4, .inl ma)), (m7, .inl (cI, 6, .inl wf)), (m8, .inl (cI, 6, .inl wp)), (m9, .inl (cI, 6, .inl wt))] [(4, .int 1), (0, .ref hy), (1, .int s), (2, .int se), (3, .int dr)] [.int r_76] 79 0 0
              refine x_if_eq C 86 dX10_why_79 (by decide) (fun c_79 => ?_) (fun c_79 => ?_)
              · skip
                have e_79 : (r_76 : Int32).toInt = (0 : Int32).toInt := i_eq.mp c_79
                have : (0 : Int32).toInt = 0 := by decide
                refine x_bipush C (-6) dX10_why_86 (by decide) ?_
                refine x_sub [(hy, .inr (10, [.ref m0, .ref m1, .ref m2, .ref m3, .ref m4, .ref m5, .ref m6, .ref m7, .ref m8, .ref m9, .int mw, .int ml, .int mb, .ref m10, .int mz, .ref m11, .int op, .int bp, .int by0, .int dp, .int tk, .ref m12, .ref m13, .ref m14, .ref m15, .ref m16, .ref m17, .ref m18, .int ka, .int iw])), (m11, .inl (cI, 4, .inl tl)), (m2, .inl (cI, 4, .inl ma)), (m4, .inl (cI, 4, .inl mg)), (m5, .inl (cI, 4, .inl mt)), (m7, .inl (cI, 6, .inl wf)), (m8, .inl (cI, 6, .inl wp)), (m9, .inl (cI, 6, .inl wt))] [2, 3, 4, 0, 1, 5, 6, 7] (by decide) rfl ?_
                have : ((-6) : Int32).toInt = -6 := by decide
                exact x_iret C dX10_why_88 (Nat.zero_le _) (Nat.zero_le _) (by rw [eO]; exact ⟨(), (congrArg (fun z => some (Value.int z)) (whyF_6 (by omega) (by omega) (by unfold MayP; omega) (h_76.f (by omega)))), rfl, trivial⟩)
              · skip
                have e_79 : ¬ ((r_76 : Int32).toInt = (0 : Int32).toInt) := fun h => c_79 (i_eq.mpr h)
                have : (0 : Int32).toInt = 0 := by decide
                refine x_iconst C 5 dX10_why_82 (by decide) ?_
                refine x_goto C 88 dX10_why_83 (by decide) ?_
                refine x_sub [(hy, .inr (10, [.ref m0, .ref m1, .ref m2, .ref m3, .ref m4, .ref m5, .ref m6, .ref m7, .ref m8, .ref m9, .int mw, .int ml, .int mb, .ref m10, .int mz, .ref m11, .int op, .int bp, .int by0, .int dp, .int tk, .ref m12, .ref m13, .ref m14, .ref m15, .ref m16, .ref m17, .ref m18, .int ka, .int iw])), (m11, .inl (cI, 4, .inl tl)), (m2, .inl (cI, 4, .inl ma)), (m4, .inl (cI, 4, .inl mg)), (m5, .inl (cI, 4, .inl mt)), (m7, .inl (cI, 6, .inl wf)), (m8, .inl (cI, 6, .inl wp)), (m9, .inl (cI, 6, .inl wt))] [2, 3, 4, 0, 1, 5, 6, 7] (by decide) rfl ?_
                have : (5 : Int32).toInt = 5 := by decide
                exact x_iret C dX10_why_88 (Nat.zero_le _) (Nat.zero_le _) (by rw [eO]; exact ⟨(), (congrArg (fun z => some (Value.int z)) (whyF_5 (by omega) (by omega) (by unfold MayP; omega) (h_76.t (by omega)))), rfl, trivial⟩)
            · skip
              have e_65 : (1 : Int32).toInt = (0 : Int32).toInt := i_eq.mp c_65
              have : (1 : Int32).toInt = 1 := by decide
              have : (0 : Int32).toInt = 0 := by decide
              exfalso
              omega
  · skip
    have e_5 : ¬ ((r_2 : Int32).toInt = (0 : Int32).toInt) := fun h => c_5 (i_eq.mpr h)
    have : (0 : Int32).toInt = 0 := by decide
    refine x_iconst C 1 dX10_why_8 (by decide) ?_
    refine x_sub [(hy, .inr (10, [.ref m0, .ref m1, .ref m2, .ref m3, .ref m4, .ref m5, .ref m6, .ref m7, .ref m8, .ref m9, .int mw, .int ml, .int mb, .ref m10, .int mz, .ref m11, .int op, .int bp, .int by0, .int dp, .int tk, .ref m12, .ref m13, .ref m14, .ref m15, .ref m16, .ref m17, .ref m18, .int ka, .int iw])), (m11, .inl (cI, 4, .inl tl)), (m2, .inl (cI, 4, .inl ma)), (m4, .inl (cI, 4, .inl mg)), (m5, .inl (cI, 4, .inl mt)), (m7, .inl (cI, 6, .inl wf)), (m8, .inl (cI, 6, .inl wp)), (m9, .inl (cI, 6, .inl wt))] [5, 6, 7, 0, 1, 2, 3, 4] (by decide) rfl ?_
    have : (1 : Int32).toInt = 1 := by decide
    exact x_iret C dX10_why_9 (Nat.zero_le _) (Nat.zero_le _) (by rw [eO]; exact ⟨(), (congrArg (fun z => some (Value.int z)) (whyF_1 (by omega))), rfl, trivial⟩)
abbrev rm_X10_tell : Room := { frames := 1, cells := 0, slots := 0, locals := 24 }
set_option maxHeartbeats 4000000 in
set_option maxRecDepth 100000 in
theorem c_X10_tell (l : Launch) (D : va_G) (tys : List (ClassId × FieldType)) {cI cJ cZ cB : ClassId} (hT : Ty tys cI cJ cZ cB) (hy m0 m1 m2 m3 m4 m5 m6 m7 m8 m9 m10 m11 m12 m13 m14 m15 m16 m17 m18 : Nat) (tl ma : Nat → Int32) (mw ml mb mz op bp by0 dp tk ka iw : Int32) (s : Int32) (hs : 0 ≤ s.toInt ∧ s.toInt ≤ 3) (hG : Gd ma tl op) (hn : ¬ (tl (Int32.toNatClampNeg s)).toInt = (ma (Int32.toNatClampNeg s)).toInt) : Cn l D tys yX10_tell cX10_tell 3 (some .int) rm_X10_tell [(hy, .inr (10, [.ref m0, .ref m1, .ref m2, .ref m3, .ref m4, .ref m5, .ref m6, .ref m7, .ref m8, .ref m9, .int mw, .int ml, .int mb, .ref m10, .int mz, .ref m11, .int op, .int bp, .int by0, .int dp, .int tk, .ref m12, .ref m13, .ref m14, .ref m15, .ref m16, .ref m17, .ref m18, .int ka, .int iw])), (m11, .inl (cI, 4, .inl tl)), (m2, .inl (cI, 4, .inl ma))] [.ref hy, .int s] (fun v W1 => ∃ (op2 : Int32), v = some (.int (onesF (setI (o1F tl op s)))) ∧ W1 = [(hy, .inr (10, [.ref m0, .ref m1, .ref m2, .ref m3, .ref m4, .ref m5, .ref m6, .ref m7, .ref m8, .ref m9, .int mw, .int ml, .int mb, .ref m10, .int mz, .ref m11, .int op2, .int bp, .int by0, .int dp, .int tk, .ref m12, .ref m13, .ref m14, .ref m15, .ref m16, .ref m17, .ref m18, .int ka, .int iw])), (m11, .inl (cI, 4, .inl (upd tl (Int32.toNatClampNeg s) (tl (Int32.toNatClampNeg s) + 1)))), (m2, .inl (cI, 4, .inl ma))] ∧ (op2 = o2F ma tl op s)) := by
  refine Cn.of (by decide) (Nat.le_of_ble_eq_true rfl) ?_ ?_ (fun X eL eD eT eO eK eN eM C => ?_)
  · intro h; cases h
  · intro v ws h; obtain ⟨_, rfl, rfl, _⟩ := h; exact Or.inl rfl
  subst eL eD eT
  show V X 3 [(hy, .inr (10, [.ref m0, .ref m1, .ref m2, .ref m3, .ref m4, .ref m5, .ref m6, .ref m7, .ref m8, .ref m9, .int mw, .int ml, .int mb, .ref m10, .int mz, .ref m11, .int op, .int bp, .int by0, .int dp, .int tk, .ref m12, .ref m13, .ref m14, .ref m15, .ref m16, .ref m17, .ref m18, .int ka, .int iw])), (m11, .inl (cI, 4, .inl tl)), (m2, .inl (cI, 4, .inl ma))] [(0, .ref hy), (1, .int s)] [] 0 0 0
  have g1 := hG.2.1.rng
  have g2 := hG.one hs hn
  have g3 := g2.1.rng
  have g4 := hG.inc hs hn
  have u9 : upd tl (Int32.toNatClampNeg s) (tl (Int32.toNatClampNeg s) + 1) (Int32.toNatClampNeg s) = tl (Int32.toNatClampNeg s) + 1 := by rw [upd_eq, if_pos rfl]
  refine x_aload_n C 0 dX10_tell_0 rfl rfl ?_
  refine x_aload_n C 0 dX10_tell_1 rfl rfl ?_
  refine x_get C 0 15 dX10_tell_2 inlX10 rfl (by decide) wd_133 rfl rfl rfl ?_
  refine x_iload_n C 1 dX10_tell_5 rfl rfl ?_
  have v_6 : vp_in s 4 := (vp_in_iff.mpr (by omega))
  refine x_iald C 1 0 dX10_tell_6 hT.1 rfl v_6 ?_
  refine x_if_ne C 21 dX10_tell_7 (by decide) (fun c_7 => ?_) (fun c_7 => ?_)
  · skip
    have e_7 : ¬ ((tl (Int32.toNatClampNeg s) : Int32).toInt = (0 : Int32).toInt) := fun h => c_7 (i_eq.mpr h)
    have : (0 : Int32).toInt = 0 := by decide
    have g5 : o1F tl op s = op := if_neg (by omega)
    rw [g5] at g3
    refine x_aload_n C 0 dX10_tell_21 rfl rfl ?_
    refine x_get C 0 16 dX10_tell_22 inlX10 rfl (by decide) wd_434 rfl rfl rfl ?_
    refine x_put C 0 16 (ty := .int) [(hy, .inr (10, [.ref m0, .ref m1, .ref m2, .ref m3, .ref m4, .ref m5, .ref m6, .ref m7, .ref m8, .ref m9, .int mw, .int ml, .int mb, .ref m10, .int mz, .ref m11, .int op, .int bp, .int by0, .int dp, .int tk, .ref m12, .ref m13, .ref m14, .ref m15, .ref m16, .ref m17, .ref m18, .int ka, .int iw])), (m11, .inl (cI, 4, .inl tl)), (m2, .inl (cI, 4, .inl ma))] dX10_tell_25 inlX10 tyX10 tyX10_ok nmX10 rfl (by decide) wd_434 rfl rfl rfl rfl rfl rfl (Nat.le_of_ble_eq_true rfl) rfl ?_
    refine x_aload_n C 0 dX10_tell_28 rfl rfl ?_
    refine x_get C 0 16 dX10_tell_29 inlX10 rfl (by decide) wd_434 rfl rfl rfl ?_
    refine x_callS C [.int op] [(hy, .inr (10, [.ref m0, .ref m1, .ref m2, .ref m3, .ref m4, .ref m5, .ref m6, .ref m7, .ref m8, .ref m9, .int mw, .int ml, .int mb, .ref m10, .int mz, .ref m11, .int op, .int bp, .int by0, .int dp, .int tk, .ref m12, .ref m13, .ref m14, .ref m15, .ref m16, .ref m17, .ref m18, .int ka, .int iw])), (m11, .inl (cI, 4, .inl tl)), (m2, .inl (cI, 4, .inl ma))] [] [0, 1, 2] (c_X10_setOf (xl X) (xD X) (xt X) hT op (by omega)) dX10_tell_32 wd_462 wd_463 wd_5 wd_464 (np := 1) ⟨by decide, by decide, by decide +kernel⟩ rfl rfl (Nat.le_of_ble_eq_true rfl) (by decide) rfl (by decide) rfl (by decide) (by decide) (fun v W1 h => ?_)
    obtain ⟨_, rfl, rfl, h_32⟩ := h
    show V X 3 [(hy, .inr (10, [.ref m0, .ref m1, .ref m2, .ref m3, .ref m4, .ref m5, .ref m6, .ref m7, .ref m8, .ref m9, .int mw, .int ml, .int mb, .ref m10, .int mz, .ref m11, .int op, .int bp, .int by0, .int dp, .int tk, .ref m12, .ref m13, .ref m14, .ref m15, .ref m16, .ref m17, .ref m18, .int ka, .int iw])), (m11, .inl (cI, 4, .inl tl)), (m2, .inl (cI, 4, .inl ma))] [(0, .ref hy), (1, .int s)] [.int (setI op)] 35 0 0
    refine x_callS C [.int (setI op)] [(hy, .inr (10, [.ref m0, .ref m1, .ref m2, .ref m3, .ref m4, .ref m5, .ref m6, .ref m7, .ref m8, .ref m9, .int mw, .int ml, .int mb, .ref m10, .int mz, .ref m11, .int op, .int bp, .int by0, .int dp, .int tk, .ref m12, .ref m13, .ref m14, .ref m15, .ref m16, .ref m17, .ref m18, .int ka, .int iw])), (m11, .inl (cI, 4, .inl tl)), (m2, .inl (cI, 4, .inl ma))] [] [0, 1, 2] (c_X10_ones (xl X) (xD X) (xt X) hT (setI op) ) dX10_tell_35 wd_480 wd_481 wd_5 wd_482 (np := 1) ⟨by decide, by decide, by decide +kernel⟩ rfl rfl (Nat.le_of_ble_eq_true rfl) (by decide) rfl (by decide) rfl (by decide) (by decide) (fun v W1 h => ?_)
    obtain ⟨_, rfl, rfl, h_35⟩ := h
    show V X 3 [(hy, .inr (10, [.ref m0, .ref m1, .ref m2, .ref m3, .ref m4, .ref m5, .ref m6, .ref m7, .ref m8, .ref m9, .int mw, .int ml, .int mb, .ref m10, .int mz, .ref m11, .int op, .int bp, .int by0, .int dp, .int tk, .ref m12, .ref m13, .ref m14, .ref m15, .ref m16, .ref m17, .ref m18, .int ka, .int iw])), (m11, .inl (cI, 4, .inl tl)), (m2, .inl (cI, 4, .inl ma))] [(0, .ref hy), (1, .int s)] [.int (onesF (setI op))] 38 0 0
    refine x_istore_n C [(2, .int (onesF (setI op))), (0, .ref hy), (1, .int s)] dX10_tell_38 rfl (by decide) rfl ?_
    refine x_aload_n C 1 dX10_tell_39 rfl rfl ?_
    refine x_get C 0 15 dX10_tell_40 inlX10 rfl (by decide) wd_133 rfl rfl rfl ?_
    refine x_iload_n C 2 dX10_tell_43 rfl rfl ?_
    refine x_dup2 C dX10_tell_44 rfl rfl ?_
    have v_45 : vp_in s 4 := (vp_in_iff.mpr (by omega))
    refine x_iald C 1 0 dX10_tell_45 hT.1 rfl v_45 ?_
    refine x_iconst C 1 dX10_tell_46 (by decide) ?_
    refine x_iadd C dX10_tell_47 ?_
    have v_48 : vp_in s 4 := (vp_in_iff.mpr (by omega))
    refine x_iast C 1 0 [(hy, .inr (10, [.ref m0, .ref m1, .ref m2, .ref m3, .ref m4, .ref m5, .ref m6, .ref m7, .ref m8, .ref m9, .int mw, .int ml, .int mb, .ref m10, .int mz, .ref m11, .int op, .int bp, .int by0, .int dp, .int tk, .ref m12, .ref m13, .ref m14, .ref m15, .ref m16, .ref m17, .ref m18, .int ka, .int iw])), (m11, .inl (cI, 4, .inl (upd tl (Int32.toNatClampNeg s) ((tl (Int32.toNatClampNeg s)) + 1)))), (m2, .inl (cI, 4, .inl ma))] dX10_tell_48 hT.1 rfl v_48 rfl ?_
    refine x_aload_n C 1 dX10_tell_49 rfl rfl ?_
    refine x_aload_n C 1 dX10_tell_50 rfl rfl ?_
    refine x_iload_n C 2 dX10_tell_51 rfl rfl ?_
    refine x_callV C [.int s] [] [0, 1, 2] [] (q0 := 0) (c_X10_isOut (xl X) (xD X) (xt X) hT hy m0 m1 m2 m3 m4 m5 m6 m7 m8 m9 m10 m11 m12 m13 m14 m15 m16 m17 m18 (upd tl (Int32.toNatClampNeg s) ((tl (Int32.toNatClampNeg s)) + 1)) ma mw ml mb mz op bp by0 dp tk ka iw s hs) dX10_tell_52 wd_443 wd_444 wd_445 wd_5 wd_446 (np := 1) ⟨by decide, by decide, by decide +kernel⟩ rfl rfl (Nat.le_of_ble_eq_true rfl) (by decide) rfl rfl rfl rfl (by decide) rfl (by decide) (by decide) (fun v W1 h => ?_)
    obtain ⟨r_52, rfl, rfl, h_52⟩ := h
    show V X 3 [(hy, .inr (10, [.ref m0, .ref m1, .ref m2, .ref m3, .ref m4, .ref m5, .ref m6, .ref m7, .ref m8, .ref m9, .int mw, .int ml, .int mb, .ref m10, .int mz, .ref m11, .int op, .int bp, .int by0, .int dp, .int tk, .ref m12, .ref m13, .ref m14, .ref m15, .ref m16, .ref m17, .ref m18, .int ka, .int iw])), (m11, .inl (cI, 4, .inl ((upd tl (Int32.toNatClampNeg s) ((tl (Int32.toNatClampNeg s)) + 1))))), (m2, .inl (cI, 4, .inl ma))] [(2, .int (onesF (setI op))), (0, .ref hy), (1, .int s)] [.int r_52, .ref hy] 55 0 0
    rw [u9] at h_52
    refine x_if_eq C 69 dX10_tell_55 (by decide) (fun c_55 => ?_) (fun c_55 => ?_)
    · skip
      have e_55 : (r_52 : Int32).toInt = (0 : Int32).toInt := i_eq.mp c_55
      have : (0 : Int32).toInt = 0 := by decide
      refine x_aload_n C 1 dX10_tell_69 rfl rfl ?_
      refine x_get C 0 16 dX10_tell_70 inlX10 rfl (by decide) wd_434 rfl rfl rfl ?_
      refine x_put C 0 16 (ty := .int) [(hy, .inr (10, [.ref m0, .ref m1, .ref m2, .ref m3, .ref m4, .ref m5, .ref m6, .ref m7, .ref m8, .ref m9, .int mw, .int ml, .int mb, .ref m10, .int mz, .ref m11, .int op, .int bp, .int by0, .int dp, .int tk, .ref m12, .ref m13, .ref m14, .ref m15, .ref m16, .ref m17, .ref m18, .int ka, .int iw])), (m11, .inl (cI, 4, .inl ((upd tl (Int32.toNatClampNeg s) ((tl (Int32.toNatClampNeg s)) + 1))))), (m2, .inl (cI, 4, .inl ma))] dX10_tell_73 inlX10 tyX10 tyX10_ok nmX10 rfl (by decide) wd_434 rfl rfl rfl rfl rfl rfl (Nat.le_of_ble_eq_true rfl) rfl ?_
      refine x_iload_n C 0 dX10_tell_76 rfl rfl ?_
      exact x_iret C dX10_tell_77 (Nat.zero_le _) (Nat.zero_le _) (by rw [eO]; exact ⟨op, (by rw [g5]), rfl, (by unfold o2F; rw [g5]; first | exact (if_pos (by omega)).symm | exact (if_neg (by omega)).symm)⟩)
    · skip
      have e_55 : ¬ ((r_52 : Int32).toInt = (0 : Int32).toInt) := fun h => c_55 (i_eq.mpr h)
      have : (0 : Int32).toInt = 0 := by decide
      refine x_aload_n C 1 dX10_tell_58 rfl rfl ?_
      refine x_get C 0 16 dX10_tell_59 inlX10 rfl (by decide) wd_434 rfl rfl rfl ?_
      refine x_iload_n C 2 dX10_tell_62 rfl rfl ?_
      refine x_callS C [.int op, .int s] [(hy, .inr (10, [.ref m0, .ref m1, .ref m2, .ref m3, .ref m4, .ref m5, .ref m6, .ref m7, .ref m8, .ref m9, .int mw, .int ml, .int mb, .ref m10, .int mz, .ref m11, .int op, .int bp, .int by0, .int dp, .int tk, .ref m12, .ref m13, .ref m14, .ref m15, .ref m16, .ref m17, .ref m18, .int ka, .int iw])), (m11, .inl (cI, 4, .inl ((upd tl (Int32.toNatClampNeg s) ((tl (Int32.toNatClampNeg s)) + 1))))), (m2, .inl (cI, 4, .inl ma))] [] [0, 1, 2] (c_X10_without (xl X) (xD X) (xt X) hT op s (by omega)) dX10_tell_63 wd_483 wd_484 wd_5 wd_485 (np := 2) ⟨by decide, by decide, by decide +kernel⟩ rfl rfl (Nat.le_of_ble_eq_true rfl) (by decide) rfl (by decide) rfl (by decide) (by decide) (fun v W1 h => ?_)
      obtain ⟨_, rfl, rfl, h_63⟩ := h
      show V X 3 [(hy, .inr (10, [.ref m0, .ref m1, .ref m2, .ref m3, .ref m4, .ref m5, .ref m6, .ref m7, .ref m8, .ref m9, .int mw, .int ml, .int mb, .ref m10, .int mz, .ref m11, .int op, .int bp, .int by0, .int dp, .int tk, .ref m12, .ref m13, .ref m14, .ref m15, .ref m16, .ref m17, .ref m18, .int ka, .int iw])), (m11, .inl (cI, 4, .inl ((upd tl (Int32.toNatClampNeg s) ((tl (Int32.toNatClampNeg s)) + 1))))), (m2, .inl (cI, 4, .inl ma))] [(2, .int (onesF (setI op))), (0, .ref hy), (1, .int s)] [.int (withI op s), .ref hy] 66 0 0
      refine x_goto C 73 dX10_tell_66 (by decide) ?_
      refine x_put C 0 16 (ty := .int) [(hy, .inr (10, [.ref m0, .ref m1, .ref m2, .ref m3, .ref m4, .ref m5, .ref m6, .ref m7, .ref m8, .ref m9, .int mw, .int ml, .int mb, .ref m10, .int mz, .ref m11, .int (withI op s), .int bp, .int by0, .int dp, .int tk, .ref m12, .ref m13, .ref m14, .ref m15, .ref m16, .ref m17, .ref m18, .int ka, .int iw])), (m11, .inl (cI, 4, .inl ((upd tl (Int32.toNatClampNeg s) ((tl (Int32.toNatClampNeg s)) + 1))))), (m2, .inl (cI, 4, .inl ma))] dX10_tell_73 inlX10 tyX10 tyX10_ok nmX10 rfl (by decide) wd_434 rfl rfl rfl rfl rfl rfl (Nat.le_of_ble_eq_true rfl) rfl ?_
      refine x_iload_n C 0 dX10_tell_76 rfl rfl ?_
      exact x_iret C dX10_tell_77 (Nat.zero_le _) (Nat.zero_le _) (by rw [eO]; exact ⟨(withI op s), (by rw [g5]), rfl, (by unfold o2F; rw [g5]; first | exact (if_pos (by omega)).symm | exact (if_neg (by omega)).symm)⟩)
  · skip
    have e_7 : (tl (Int32.toNatClampNeg s) : Int32).toInt = (0 : Int32).toInt := i_eq.mp c_7
    have : (0 : Int32).toInt = 0 := by decide
    have g5 : o1F tl op s = moreI op s := if_pos (by omega)
    rw [g5] at g3
    refine x_aload_n C 0 dX10_tell_10 rfl rfl ?_
    refine x_get C 0 16 dX10_tell_11 inlX10 rfl (by decide) wd_434 rfl rfl rfl ?_
    refine x_iload_n C 1 dX10_tell_14 rfl rfl ?_
    refine x_callS C [.int op, .int s] [(hy, .inr (10, [.ref m0, .ref m1, .ref m2, .ref m3, .ref m4, .ref m5, .ref m6, .ref m7, .ref m8, .ref m9, .int mw, .int ml, .int mb, .ref m10, .int mz, .ref m11, .int op, .int bp, .int by0, .int dp, .int tk, .ref m12, .ref m13, .ref m14, .ref m15, .ref m16, .ref m17, .ref m18, .int ka, .int iw])), (m11, .inl (cI, 4, .inl tl)), (m2, .inl (cI, 4, .inl ma))] [] [0, 1, 2] (c_X10_more (xl X) (xD X) (xt X) hT op s (by omega)) dX10_tell_15 wd_477 wd_478 wd_5 wd_479 (np := 2) ⟨by decide, by decide, by decide +kernel⟩ rfl rfl (Nat.le_of_ble_eq_true rfl) (by decide) rfl (by decide) rfl (by decide) (by decide) (fun v W1 h => ?_)
    obtain ⟨_, rfl, rfl, h_15⟩ := h
    show V X 3 [(hy, .inr (10, [.ref m0, .ref m1, .ref m2, .ref m3, .ref m4, .ref m5, .ref m6, .ref m7, .ref m8, .ref m9, .int mw, .int ml, .int mb, .ref m10, .int mz, .ref m11, .int op, .int bp, .int by0, .int dp, .int tk, .ref m12, .ref m13, .ref m14, .ref m15, .ref m16, .ref m17, .ref m18, .int ka, .int iw])), (m11, .inl (cI, 4, .inl tl)), (m2, .inl (cI, 4, .inl ma))] [(0, .ref hy), (1, .int s)] [.int (moreI op s), .ref hy] 18 0 0
    refine x_goto C 25 dX10_tell_18 (by decide) ?_
    refine x_put C 0 16 (ty := .int) [(hy, .inr (10, [.ref m0, .ref m1, .ref m2, .ref m3, .ref m4, .ref m5, .ref m6, .ref m7, .ref m8, .ref m9, .int mw, .int ml, .int mb, .ref m10, .int mz, .ref m11, .int (moreI op s), .int bp, .int by0, .int dp, .int tk, .ref m12, .ref m13, .ref m14, .ref m15, .ref m16, .ref m17, .ref m18, .int ka, .int iw])), (m11, .inl (cI, 4, .inl tl)), (m2, .inl (cI, 4, .inl ma))] dX10_tell_25 inlX10 tyX10 tyX10_ok nmX10 rfl (by decide) wd_434 rfl rfl rfl rfl rfl rfl (Nat.le_of_ble_eq_true rfl) rfl ?_
    refine x_aload_n C 0 dX10_tell_28 rfl rfl ?_
    refine x_get C 0 16 dX10_tell_29 inlX10 rfl (by decide) wd_434 rfl rfl rfl ?_
    refine x_callS C [.int (moreI op s)] [(hy, .inr (10, [.ref m0, .ref m1, .ref m2, .ref m3, .ref m4, .ref m5, .ref m6, .ref m7, .ref m8, .ref m9, .int mw, .int ml, .int mb, .ref m10, .int mz, .ref m11, .int (moreI op s), .int bp, .int by0, .int dp, .int tk, .ref m12, .ref m13, .ref m14, .ref m15, .ref m16, .ref m17, .ref m18, .int ka, .int iw])), (m11, .inl (cI, 4, .inl tl)), (m2, .inl (cI, 4, .inl ma))] [] [0, 1, 2] (c_X10_setOf (xl X) (xD X) (xt X) hT (moreI op s) (by omega)) dX10_tell_32 wd_462 wd_463 wd_5 wd_464 (np := 1) ⟨by decide, by decide, by decide +kernel⟩ rfl rfl (Nat.le_of_ble_eq_true rfl) (by decide) rfl (by decide) rfl (by decide) (by decide) (fun v W1 h => ?_)
    obtain ⟨_, rfl, rfl, h_32⟩ := h
    show V X 3 [(hy, .inr (10, [.ref m0, .ref m1, .ref m2, .ref m3, .ref m4, .ref m5, .ref m6, .ref m7, .ref m8, .ref m9, .int mw, .int ml, .int mb, .ref m10, .int mz, .ref m11, .int (moreI op s), .int bp, .int by0, .int dp, .int tk, .ref m12, .ref m13, .ref m14, .ref m15, .ref m16, .ref m17, .ref m18, .int ka, .int iw])), (m11, .inl (cI, 4, .inl tl)), (m2, .inl (cI, 4, .inl ma))] [(0, .ref hy), (1, .int s)] [.int (setI (moreI op s))] 35 0 0
    refine x_callS C [.int (setI (moreI op s))] [(hy, .inr (10, [.ref m0, .ref m1, .ref m2, .ref m3, .ref m4, .ref m5, .ref m6, .ref m7, .ref m8, .ref m9, .int mw, .int ml, .int mb, .ref m10, .int mz, .ref m11, .int (moreI op s), .int bp, .int by0, .int dp, .int tk, .ref m12, .ref m13, .ref m14, .ref m15, .ref m16, .ref m17, .ref m18, .int ka, .int iw])), (m11, .inl (cI, 4, .inl tl)), (m2, .inl (cI, 4, .inl ma))] [] [0, 1, 2] (c_X10_ones (xl X) (xD X) (xt X) hT (setI (moreI op s)) ) dX10_tell_35 wd_480 wd_481 wd_5 wd_482 (np := 1) ⟨by decide, by decide, by decide +kernel⟩ rfl rfl (Nat.le_of_ble_eq_true rfl) (by decide) rfl (by decide) rfl (by decide) (by decide) (fun v W1 h => ?_)
    obtain ⟨_, rfl, rfl, h_35⟩ := h
    show V X 3 [(hy, .inr (10, [.ref m0, .ref m1, .ref m2, .ref m3, .ref m4, .ref m5, .ref m6, .ref m7, .ref m8, .ref m9, .int mw, .int ml, .int mb, .ref m10, .int mz, .ref m11, .int (moreI op s), .int bp, .int by0, .int dp, .int tk, .ref m12, .ref m13, .ref m14, .ref m15, .ref m16, .ref m17, .ref m18, .int ka, .int iw])), (m11, .inl (cI, 4, .inl tl)), (m2, .inl (cI, 4, .inl ma))] [(0, .ref hy), (1, .int s)] [.int (onesF (setI (moreI op s)))] 38 0 0
    refine x_istore_n C [(2, .int (onesF (setI (moreI op s)))), (0, .ref hy), (1, .int s)] dX10_tell_38 rfl (by decide) rfl ?_
    refine x_aload_n C 1 dX10_tell_39 rfl rfl ?_
    refine x_get C 0 15 dX10_tell_40 inlX10 rfl (by decide) wd_133 rfl rfl rfl ?_
    refine x_iload_n C 2 dX10_tell_43 rfl rfl ?_
    refine x_dup2 C dX10_tell_44 rfl rfl ?_
    have v_45 : vp_in s 4 := (vp_in_iff.mpr (by omega))
    refine x_iald C 1 0 dX10_tell_45 hT.1 rfl v_45 ?_
    refine x_iconst C 1 dX10_tell_46 (by decide) ?_
    refine x_iadd C dX10_tell_47 ?_
    have v_48 : vp_in s 4 := (vp_in_iff.mpr (by omega))
    refine x_iast C 1 0 [(hy, .inr (10, [.ref m0, .ref m1, .ref m2, .ref m3, .ref m4, .ref m5, .ref m6, .ref m7, .ref m8, .ref m9, .int mw, .int ml, .int mb, .ref m10, .int mz, .ref m11, .int (moreI op s), .int bp, .int by0, .int dp, .int tk, .ref m12, .ref m13, .ref m14, .ref m15, .ref m16, .ref m17, .ref m18, .int ka, .int iw])), (m11, .inl (cI, 4, .inl (upd tl (Int32.toNatClampNeg s) ((tl (Int32.toNatClampNeg s)) + 1)))), (m2, .inl (cI, 4, .inl ma))] dX10_tell_48 hT.1 rfl v_48 rfl ?_
    refine x_aload_n C 1 dX10_tell_49 rfl rfl ?_
    refine x_aload_n C 1 dX10_tell_50 rfl rfl ?_
    refine x_iload_n C 2 dX10_tell_51 rfl rfl ?_
    refine x_callV C [.int s] [] [0, 1, 2] [] (q0 := 0) (c_X10_isOut (xl X) (xD X) (xt X) hT hy m0 m1 m2 m3 m4 m5 m6 m7 m8 m9 m10 m11 m12 m13 m14 m15 m16 m17 m18 (upd tl (Int32.toNatClampNeg s) ((tl (Int32.toNatClampNeg s)) + 1)) ma mw ml mb mz (moreI op s) bp by0 dp tk ka iw s hs) dX10_tell_52 wd_443 wd_444 wd_445 wd_5 wd_446 (np := 1) ⟨by decide, by decide, by decide +kernel⟩ rfl rfl (Nat.le_of_ble_eq_true rfl) (by decide) rfl rfl rfl rfl (by decide) rfl (by decide) (by decide) (fun v W1 h => ?_)
    obtain ⟨r_52, rfl, rfl, h_52⟩ := h
    show V X 3 [(hy, .inr (10, [.ref m0, .ref m1, .ref m2, .ref m3, .ref m4, .ref m5, .ref m6, .ref m7, .ref m8, .ref m9, .int mw, .int ml, .int mb, .ref m10, .int mz, .ref m11, .int ((moreI op s)), .int bp, .int by0, .int dp, .int tk, .ref m12, .ref m13, .ref m14, .ref m15, .ref m16, .ref m17, .ref m18, .int ka, .int iw])), (m11, .inl (cI, 4, .inl ((upd tl (Int32.toNatClampNeg s) ((tl (Int32.toNatClampNeg s)) + 1))))), (m2, .inl (cI, 4, .inl ma))] [(2, .int (onesF (setI (moreI op s)))), (0, .ref hy), (1, .int s)] [.int r_52, .ref hy] 55 0 0
    rw [u9] at h_52
    refine x_if_eq C 69 dX10_tell_55 (by decide) (fun c_55 => ?_) (fun c_55 => ?_)
    · skip
      have e_55 : (r_52 : Int32).toInt = (0 : Int32).toInt := i_eq.mp c_55
      have : (0 : Int32).toInt = 0 := by decide
      refine x_aload_n C 1 dX10_tell_69 rfl rfl ?_
      refine x_get C 0 16 dX10_tell_70 inlX10 rfl (by decide) wd_434 rfl rfl rfl ?_
      refine x_put C 0 16 (ty := .int) [(hy, .inr (10, [.ref m0, .ref m1, .ref m2, .ref m3, .ref m4, .ref m5, .ref m6, .ref m7, .ref m8, .ref m9, .int mw, .int ml, .int mb, .ref m10, .int mz, .ref m11, .int ((moreI op s)), .int bp, .int by0, .int dp, .int tk, .ref m12, .ref m13, .ref m14, .ref m15, .ref m16, .ref m17, .ref m18, .int ka, .int iw])), (m11, .inl (cI, 4, .inl ((upd tl (Int32.toNatClampNeg s) ((tl (Int32.toNatClampNeg s)) + 1))))), (m2, .inl (cI, 4, .inl ma))] dX10_tell_73 inlX10 tyX10 tyX10_ok nmX10 rfl (by decide) wd_434 rfl rfl rfl rfl rfl rfl (Nat.le_of_ble_eq_true rfl) rfl ?_
      refine x_iload_n C 0 dX10_tell_76 rfl rfl ?_
      exact x_iret C dX10_tell_77 (Nat.zero_le _) (Nat.zero_le _) (by rw [eO]; exact ⟨((moreI op s)), (by rw [g5]), rfl, (by unfold o2F; rw [g5]; first | exact (if_pos (by omega)).symm | exact (if_neg (by omega)).symm)⟩)
    · skip
      have e_55 : ¬ ((r_52 : Int32).toInt = (0 : Int32).toInt) := fun h => c_55 (i_eq.mpr h)
      have : (0 : Int32).toInt = 0 := by decide
      refine x_aload_n C 1 dX10_tell_58 rfl rfl ?_
      refine x_get C 0 16 dX10_tell_59 inlX10 rfl (by decide) wd_434 rfl rfl rfl ?_
      refine x_iload_n C 2 dX10_tell_62 rfl rfl ?_
      refine x_callS C [.int ((moreI op s)), .int s] [(hy, .inr (10, [.ref m0, .ref m1, .ref m2, .ref m3, .ref m4, .ref m5, .ref m6, .ref m7, .ref m8, .ref m9, .int mw, .int ml, .int mb, .ref m10, .int mz, .ref m11, .int ((moreI op s)), .int bp, .int by0, .int dp, .int tk, .ref m12, .ref m13, .ref m14, .ref m15, .ref m16, .ref m17, .ref m18, .int ka, .int iw])), (m11, .inl (cI, 4, .inl ((upd tl (Int32.toNatClampNeg s) ((tl (Int32.toNatClampNeg s)) + 1))))), (m2, .inl (cI, 4, .inl ma))] [] [0, 1, 2] (c_X10_without (xl X) (xD X) (xt X) hT ((moreI op s)) s (by omega)) dX10_tell_63 wd_483 wd_484 wd_5 wd_485 (np := 2) ⟨by decide, by decide, by decide +kernel⟩ rfl rfl (Nat.le_of_ble_eq_true rfl) (by decide) rfl (by decide) rfl (by decide) (by decide) (fun v W1 h => ?_)
      obtain ⟨_, rfl, rfl, h_63⟩ := h
      show V X 3 [(hy, .inr (10, [.ref m0, .ref m1, .ref m2, .ref m3, .ref m4, .ref m5, .ref m6, .ref m7, .ref m8, .ref m9, .int mw, .int ml, .int mb, .ref m10, .int mz, .ref m11, .int ((moreI op s)), .int bp, .int by0, .int dp, .int tk, .ref m12, .ref m13, .ref m14, .ref m15, .ref m16, .ref m17, .ref m18, .int ka, .int iw])), (m11, .inl (cI, 4, .inl ((upd tl (Int32.toNatClampNeg s) ((tl (Int32.toNatClampNeg s)) + 1))))), (m2, .inl (cI, 4, .inl ma))] [(2, .int (onesF (setI (moreI op s)))), (0, .ref hy), (1, .int s)] [.int (withI ((moreI op s)) s), .ref hy] 66 0 0
      refine x_goto C 73 dX10_tell_66 (by decide) ?_
      refine x_put C 0 16 (ty := .int) [(hy, .inr (10, [.ref m0, .ref m1, .ref m2, .ref m3, .ref m4, .ref m5, .ref m6, .ref m7, .ref m8, .ref m9, .int mw, .int ml, .int mb, .ref m10, .int mz, .ref m11, .int (withI ((moreI op s)) s), .int bp, .int by0, .int dp, .int tk, .ref m12, .ref m13, .ref m14, .ref m15, .ref m16, .ref m17, .ref m18, .int ka, .int iw])), (m11, .inl (cI, 4, .inl ((upd tl (Int32.toNatClampNeg s) ((tl (Int32.toNatClampNeg s)) + 1))))), (m2, .inl (cI, 4, .inl ma))] dX10_tell_73 inlX10 tyX10 tyX10_ok nmX10 rfl (by decide) wd_434 rfl rfl rfl rfl rfl rfl (Nat.le_of_ble_eq_true rfl) rfl ?_
      refine x_iload_n C 0 dX10_tell_76 rfl rfl ?_
      exact x_iret C dX10_tell_77 (Nat.zero_le _) (Nat.zero_le _) (by rw [eO]; exact ⟨(withI ((moreI op s)) s), (by rw [g5]), rfl, (by unfold o2F; rw [g5]; first | exact (if_pos (by omega)).symm | exact (if_neg (by omega)).symm)⟩)
abbrev rm_X10_nextOf : Room := { frames := 3, cells := 0, slots := 0, locals := 71 }
set_option maxHeartbeats 4000000 in
set_option maxRecDepth 100000 in
theorem c_X10_nextOf (l : Launch) (D : va_G) (tys : List (ClassId × FieldType)) {cI cJ cZ cB : ClassId} (hT : Ty tys cI cJ cZ cB) (hy m0 m1 m2 m3 m4 m5 m6 m7 m8 m9 m10 m11 m12 m13 m14 m15 m16 m17 m18 : Nat) (tl ma mg mt wf wp wt ro co : Nat → Int32) (mw ml mb mz op bp by0 dp tk ka iw : Int32) (a s se de dr : Int32) (hst : 0 ≤ a.toInt ∧ a.toInt < 40625) (hR : RT co ro) (hG : GS ma co a) (hs : 0 ≤ s.toInt ∧ s.toInt ≤ 3) (hmw : 0 ≤ mw.toInt ∧ mw.toInt ≤ 6) (hwt : SOk wt) : Cn l D tys yX10_nextOf cX10_nextOf 6 (some .int) rm_X10_nextOf [(hy, .inr (10, [.ref m0, .ref m1, .ref m2, .ref m3, .ref m4, .ref m5, .ref m6, .ref m7, .ref m8, .ref m9, .int mw, .int ml, .int mb, .ref m10, .int mz, .ref m11, .int op, .int bp, .int by0, .int dp, .int tk, .ref m12, .ref m13, .ref m14, .ref m15, .ref m16, .ref m17, .ref m18, .int ka, .int iw])), (m11, .inl (cI, 4, .inl tl)), (m2, .inl (cI, 4, .inl ma)), (m4, .inl (cI, 4, .inl mg)), (m5, .inl (cI, 4, .inl mt)), (m7, .inl (cI, 6, .inl wf)), (m8, .inl (cI, 6, .inl wp)), (m9, .inl (cI, 6, .inl wt)), (m0, .inl (cI, 625, .inl ro)), (m1, .inl (cI, 65, .inl co))] [.ref hy, .int a, .int s, .int se, .int de, .int dr] (fun v W1 => ∃ (tl2 : Nat → Int32) (op2 : Int32), v = some (.int (nxF ma mg mt wf wp wt mw ml co ro a s se de dr)) ∧ W1 = [(hy, .inr (10, [.ref m0, .ref m1, .ref m2, .ref m3, .ref m4, .ref m5, .ref m6, .ref m7, .ref m8, .ref m9, .int mw, .int ml, .int mb, .ref m10, .int mz, .ref m11, .int op2, .int bp, .int by0, .int dp, .int tk, .ref m12, .ref m13, .ref m14, .ref m15, .ref m16, .ref m17, .ref m18, .int ka, .int iw])), (m11, .inl (cI, 4, .inl tl2)), (m2, .inl (cI, 4, .inl ma)), (m4, .inl (cI, 4, .inl mg)), (m5, .inl (cI, 4, .inl mt)), (m7, .inl (cI, 6, .inl wf)), (m8, .inl (cI, 6, .inl wp)), (m9, .inl (cI, 6, .inl wt)), (m0, .inl (cI, 625, .inl ro)), (m1, .inl (cI, 65, .inl co))] ∧ (True)) := by
  refine Cn.of (by decide) (Nat.le_of_ble_eq_true rfl) ?_ ?_ (fun X eL eD eT eO eK eN eM C => ?_)
  · intro h; cases h
  · intro v ws h; obtain ⟨_, _, rfl, rfl, _⟩ := h; exact Or.inl rfl
  subst eL eD eT
  show V X 6 [(hy, .inr (10, [.ref m0, .ref m1, .ref m2, .ref m3, .ref m4, .ref m5, .ref m6, .ref m7, .ref m8, .ref m9, .int mw, .int ml, .int mb, .ref m10, .int mz, .ref m11, .int op, .int bp, .int by0, .int dp, .int tk, .ref m12, .ref m13, .ref m14, .ref m15, .ref m16, .ref m17, .ref m18, .int ka, .int iw])), (m11, .inl (cI, 4, .inl tl)), (m2, .inl (cI, 4, .inl ma)), (m4, .inl (cI, 4, .inl mg)), (m5, .inl (cI, 4, .inl mt)), (m7, .inl (cI, 6, .inl wf)), (m8, .inl (cI, 6, .inl wp)), (m9, .inl (cI, 6, .inl wt)), (m0, .inl (cI, 625, .inl ro)), (m1, .inl (cI, 65, .inl co))] [(0, .ref hy), (1, .int a), (2, .int s), (3, .int se), (4, .int de), (5, .int dr)] [] 0 0 0
  refine x_aload_n C 0 dX10_nextOf_0 rfl rfl ?_
  refine x_iload_n C 1 dX10_nextOf_1 rfl rfl ?_
  refine x_callV C [.int a] [(m2, .inl (cI, 4, .inl ma)), (m4, .inl (cI, 4, .inl mg)), (m5, .inl (cI, 4, .inl mt)), (m7, .inl (cI, 6, .inl wf)), (m8, .inl (cI, 6, .inl wp)), (m9, .inl (cI, 6, .inl wt)), (m0, .inl (cI, 625, .inl ro))] [0, 1, 9] [2, 3, 4, 5, 6, 7, 8] (q0 := 0) (c_X10_lay (xl X) (xD X) (xt X) hT hy m0 m1 m2 m3 m4 m5 m6 m7 m8 m9 m10 m11 m12 m13 m14 m15 m16 m17 m18 tl co mw ml mb mz op bp by0 dp tk ka iw a hst) dX10_nextOf_2 wd_430 wd_431 wd_432 wd_5 wd_433 (np := 1) ⟨by decide, by decide, by decide +kernel⟩ rfl rfl (Nat.le_of_ble_eq_true rfl) (by decide) rfl rfl rfl rfl (by decide) rfl (by decide) (by decide) (fun v W1 h => ?_)
  obtain ⟨_, rfl, rfl, h_2⟩ := h
  show V X 6 [(m2, .inl (cI, 4, .inl ma)), (m4, .inl (cI, 4, .inl mg)), (m5, .inl (cI, 4, .inl mt)), (m7, .inl (cI, 6, .inl wf)), (m8, .inl (cI, 6, .inl wp)), (m9, .inl (cI, 6, .inl wt)), (m0, .inl (cI, 625, .inl ro)), (hy, .inr (10, [.ref m0, .ref m1, .ref m2, .ref m3, .ref m4, .ref m5, .ref m6, .ref m7, .ref m8, .ref m9, .int mw, .int ml, .int mb, .ref m10, .int mz, .ref m11, .int (opS co a), .int bp, .int by0, .int dp, .int tk, .ref m12, .ref m13, .ref m14, .ref m15, .ref m16, .ref m17, .ref m18, .int ka, .int iw])), (m11, .inl (cI, 4, .inl (tds a))), (m1, .inl (cI, 65, .inl co))] [(0, .ref hy), (1, .int a), (2, .int s), (3, .int se), (4, .int de), (5, .int dr)] [] 5 0 0
  refine x_iload_n C 3 dX10_nextOf_5 rfl rfl ?_
  refine x_iload_n C 2 dX10_nextOf_6 rfl rfl ?_
  refine x_ishr C dX10_nextOf_7 ?_
  refine x_iconst C 1 dX10_nextOf_8 (by decide) ?_
  refine x_iand C dX10_nextOf_9 ?_
  refine x_if_eq C 34 dX10_nextOf_10 (by decide) (fun c_10 => ?_) (fun c_10 => ?_)
  · skip
    have e_10 : ((se >>> (s &&& 31)) &&& 1 : Int32).toInt = (0 : Int32).toInt := i_eq.mp c_10
    have : (0 : Int32).toInt = 0 := by decide
    refine x_bipush C (-6) dX10_nextOf_34 (by decide) ?_
    refine x_sub [(hy, .inr (10, [.ref m0, .ref m1, .ref m2, .ref m3, .ref m4, .ref m5, .ref m6, .ref m7, .ref m8, .ref m9, .int mw, .int ml, .int mb, .ref m10, .int mz, .ref m11, .int (opS co a), .int bp, .int by0, .int dp, .int tk, .ref m12, .ref m13, .ref m14, .ref m15, .ref m16, .ref m17, .ref m18, .int ka, .int iw])), (m11, .inl (cI, 4, .inl (tds a))), (m2, .inl (cI, 4, .inl ma)), (m4, .inl (cI, 4, .inl mg)), (m5, .inl (cI, 4, .inl mt)), (m7, .inl (cI, 6, .inl wf)), (m8, .inl (cI, 6, .inl wp)), (m9, .inl (cI, 6, .inl wt)), (m0, .inl (cI, 625, .inl ro)), (m1, .inl (cI, 65, .inl co))] [7, 8, 0, 1, 2, 3, 4, 5, 6, 9] (by decide) rfl ?_
    have : ((-6) : Int32).toInt = -6 := by decide
    exact x_iret C dX10_nextOf_36 (Nat.zero_le _) (Nat.zero_le _) (by rw [eO]; exact ⟨(tds a), (opS co a), (congrArg (fun z => some (Value.int z)) (by unfold nxF; first | rw [ifc_t (by omega)] | rw [ifc_f (by omega), ifc_t (by omega)] | rw [ifc_f (by omega), ifc_f (by omega), ifc_t (by omega)])), rfl, trivial⟩)
  · skip
    have e_10 : ¬ (((se >>> (s &&& 31)) &&& 1 : Int32).toInt = (0 : Int32).toInt) := fun h => c_10 (i_eq.mpr h)
    have : (0 : Int32).toInt = 0 := by decide
    refine x_aload_n C 0 dX10_nextOf_13 rfl rfl ?_
    refine x_iload_n C 2 dX10_nextOf_14 rfl rfl ?_
    refine x_iload_n C 3 dX10_nextOf_15 rfl rfl ?_
    refine x_iload C 5 dX10_nextOf_16 rfl ?_
    refine x_callV C [.int s, .int se, .int dr] [(m0, .inl (cI, 625, .inl ro)), (m1, .inl (cI, 65, .inl co))] [7, 8, 0, 1, 2, 3, 4, 5] [6, 9] (q0 := 0) (c_X10_why (xl X) (xD X) (xt X) hT hy m0 m1 m2 m3 m4 m5 m6 m7 m8 m9 m10 m11 m12 m13 m14 m15 m16 m17 m18 (tds a) ma mg mt wf wp wt mw ml mb mz (opS co a) bp by0 dp tk ka iw s se dr hs hG.2.1 hmw hwt) dX10_nextOf_18 wd_439 wd_440 wd_441 wd_5 wd_442 (np := 3) ⟨by decide, by decide, by decide +kernel⟩ rfl rfl (Nat.le_of_ble_eq_true rfl) (by decide) rfl rfl rfl rfl (by decide) rfl (by decide) (by decide) (fun v W1 h => ?_)
    obtain ⟨_, rfl, rfl, h_18⟩ := h
    show V X 6 [(m0, .inl (cI, 625, .inl ro)), (m1, .inl (cI, 65, .inl co)), (hy, .inr (10, [.ref m0, .ref m1, .ref m2, .ref m3, .ref m4, .ref m5, .ref m6, .ref m7, .ref m8, .ref m9, .int mw, .int ml, .int mb, .ref m10, .int mz, .ref m11, .int ((opS co a)), .int bp, .int by0, .int dp, .int tk, .ref m12, .ref m13, .ref m14, .ref m15, .ref m16, .ref m17, .ref m18, .int ka, .int iw])), (m11, .inl (cI, 4, .inl ((tds a)))), (m2, .inl (cI, 4, .inl ma)), (m4, .inl (cI, 4, .inl mg)), (m5, .inl (cI, 4, .inl mt)), (m7, .inl (cI, 6, .inl wf)), (m8, .inl (cI, 6, .inl wp)), (m9, .inl (cI, 6, .inl wt))] [(0, .ref hy), (1, .int a), (2, .int s), (3, .int se), (4, .int de), (5, .int dr)] [.int (whyF ma mg mt wf wp wt mw ml (tds a) (opS co a) s se dr)] 21 0 0
    refine x_if_ge C 34 dX10_nextOf_21 (by decide) (fun c_21 => ?_) (fun c_21 => ?_)
    · skip
      have e_21 : (0 : Int32).toInt ≤ (whyF ma mg mt wf wp wt mw ml (tds a) (opS co a) s se dr : Int32).toInt := i_le.mp c_21
      have : (0 : Int32).toInt = 0 := by decide
      refine x_bipush C (-6) dX10_nextOf_34 (by decide) ?_
      refine x_sub [(hy, .inr (10, [.ref m0, .ref m1, .ref m2, .ref m3, .ref m4, .ref m5, .ref m6, .ref m7, .ref m8, .ref m9, .int mw, .int ml, .int mb, .ref m10, .int mz, .ref m11, .int ((opS co a)), .int bp, .int by0, .int dp, .int tk, .ref m12, .ref m13, .ref m14, .ref m15, .ref m16, .ref m17, .ref m18, .int ka, .int iw])), (m11, .inl (cI, 4, .inl ((tds a)))), (m2, .inl (cI, 4, .inl ma)), (m4, .inl (cI, 4, .inl mg)), (m5, .inl (cI, 4, .inl mt)), (m7, .inl (cI, 6, .inl wf)), (m8, .inl (cI, 6, .inl wp)), (m9, .inl (cI, 6, .inl wt)), (m0, .inl (cI, 625, .inl ro)), (m1, .inl (cI, 65, .inl co))] [2, 3, 4, 5, 6, 7, 8, 9, 0, 1] (by decide) rfl ?_
      have : ((-6) : Int32).toInt = -6 := by decide
      exact x_iret C dX10_nextOf_36 (Nat.zero_le _) (Nat.zero_le _) (by rw [eO]; exact ⟨((tds a)), ((opS co a)), (congrArg (fun z => some (Value.int z)) (by unfold nxF; first | rw [ifc_t (by omega)] | rw [ifc_f (by omega), ifc_t (by omega)] | rw [ifc_f (by omega), ifc_f (by omega), ifc_t (by omega)])), rfl, trivial⟩)
    · skip
      have e_21 : ¬ ((0 : Int32).toInt ≤ (whyF ma mg mt wf wp wt mw ml (tds a) (opS co a) s se dr : Int32).toInt) := fun h => c_21 (i_le.mpr h)
      have : (0 : Int32).toInt = 0 := by decide
      have hn9 : ¬ (tds a (Int32.toNatClampNeg s)).toInt = (ma (Int32.toNatClampNeg s)).toInt := whyF_out (mg := mg) (mt := mt) (wf := wf) (wp := wp) (wt := wt) (mw := mw) (ml := ml) (o := opS co a) (se := se) (dr := dr) (by omega)
      refine x_aload_n C 0 dX10_nextOf_24 rfl rfl ?_
      refine x_iload_n C 2 dX10_nextOf_25 rfl rfl ?_
      refine x_callV C [.int s] [(m0, .inl (cI, 625, .inl ro)), (m1, .inl (cI, 65, .inl co)), (m4, .inl (cI, 4, .inl mg)), (m5, .inl (cI, 4, .inl mt)), (m7, .inl (cI, 6, .inl wf)), (m8, .inl (cI, 6, .inl wp)), (m9, .inl (cI, 6, .inl wt))] [2, 3, 4] [0, 1, 5, 6, 7, 8, 9] (q0 := 0) (c_X10_tell (xl X) (xD X) (xt X) hT hy m0 m1 m2 m3 m4 m5 m6 m7 m8 m9 m10 m11 m12 m13 m14 m15 m16 m17 m18 ((tds a)) ma mw ml mb mz ((opS co a)) bp by0 dp tk ka iw s hs hG hn9) dX10_nextOf_26 wd_473 wd_474 wd_475 wd_5 wd_476 (np := 1) ⟨by decide, by decide, by decide +kernel⟩ rfl rfl (Nat.le_of_ble_eq_true rfl) (by decide) rfl rfl rfl rfl (by decide) rfl (by decide) (by decide) (fun v W1 h => ?_)
      obtain ⟨op2_26, rfl, rfl, h_26⟩ := h
      show V X 6 [(m0, .inl (cI, 625, .inl ro)), (m1, .inl (cI, 65, .inl co)), (m4, .inl (cI, 4, .inl mg)), (m5, .inl (cI, 4, .inl mt)), (m7, .inl (cI, 6, .inl wf)), (m8, .inl (cI, 6, .inl wp)), (m9, .inl (cI, 6, .inl wt)), (hy, .inr (10, [.ref m0, .ref m1, .ref m2, .ref m3, .ref m4, .ref m5, .ref m6, .ref m7, .ref m8, .ref m9, .int mw, .int ml, .int mb, .ref m10, .int mz, .ref m11, .int op2_26, .int bp, .int by0, .int dp, .int tk, .ref m12, .ref m13, .ref m14, .ref m15, .ref m16, .ref m17, .ref m18, .int ka, .int iw])), (m11, .inl (cI, 4, .inl (upd ((tds a)) (Int32.toNatClampNeg s) (((tds a)) (Int32.toNatClampNeg s) + 1)))), (m2, .inl (cI, 4, .inl ma))] [(0, .ref hy), (1, .int a), (2, .int s), (3, .int se), (4, .int de), (5, .int dr)] [.int (onesF (setI (o1F ((tds a)) ((opS co a)) s)))] 29 0 0
      refine x_iload C 4 dX10_nextOf_29 rfl ?_
      refine x_icmp_le C 37 dX10_nextOf_31 (by decide) (fun c_31 => ?_) (fun c_31 => ?_)
      · skip
        have e_31 : (onesF (setI (o1F ((tds a)) ((opS co a)) s)) : Int32).toInt ≤ (de : Int32).toInt := i_le.mp c_31
        refine x_aload_n C 0 dX10_nextOf_37 rfl rfl ?_
        refine x_callV C [] [(m1, .inl (cI, 65, .inl co)), (m4, .inl (cI, 4, .inl mg)), (m5, .inl (cI, 4, .inl mt)), (m7, .inl (cI, 6, .inl wf)), (m8, .inl (cI, 6, .inl wp)), (m9, .inl (cI, 6, .inl wt)), (m2, .inl (cI, 4, .inl ma))] [7, 8, 0] [1, 2, 3, 4, 5, 6, 9] (q0 := 0) (c_X10_standNow (xl X) (xD X) (xt X) hT hy m0 m1 m2 m3 m4 m5 m6 m7 m8 m9 m10 m11 m12 m13 m14 m15 m16 m17 m18 (upd ((tds a)) (Int32.toNatClampNeg s) (((tds a)) (Int32.toNatClampNeg s) + 1)) ro mw ml mb mz op2_26 bp by0 dp tk ka iw (by rw [h_26]; exact (hG.tell hs hn9).2.1.rng)) dX10_nextOf_38 wd_591 wd_592 wd_593 wd_5 wd_594 (np := 0) ⟨by decide, by decide, by decide +kernel⟩ rfl rfl (Nat.le_of_ble_eq_true rfl) (by decide) rfl rfl rfl rfl (by decide) rfl (by decide) (by decide) (fun v W1 h => ?_)
        obtain ⟨_, rfl, rfl, h_38⟩ := h
        show V X 6 [(m1, .inl (cI, 65, .inl co)), (m4, .inl (cI, 4, .inl mg)), (m5, .inl (cI, 4, .inl mt)), (m7, .inl (cI, 6, .inl wf)), (m8, .inl (cI, 6, .inl wp)), (m9, .inl (cI, 6, .inl wt)), (m2, .inl (cI, 4, .inl ma)), (hy, .inr (10, [.ref m0, .ref m1, .ref m2, .ref m3, .ref m4, .ref m5, .ref m6, .ref m7, .ref m8, .ref m9, .int mw, .int ml, .int mb, .ref m10, .int mz, .ref m11, .int op2_26, .int bp, .int by0, .int dp, .int tk, .ref m12, .ref m13, .ref m14, .ref m15, .ref m16, .ref m17, .ref m18, .int ka, .int iw])), (m11, .inl (cI, 4, .inl ((upd ((tds a)) (Int32.toNatClampNeg s) (((tds a)) (Int32.toNatClampNeg s) + 1))))), (m0, .inl (cI, 625, .inl ro))] [(0, .ref hy), (1, .int a), (2, .int s), (3, .int se), (4, .int de), (5, .int dr)] [.int (stF ro (upd ((tds a)) (Int32.toNatClampNeg s) (((tds a)) (Int32.toNatClampNeg s) + 1)) op2_26)] 41 0 0
        refine x_sub [(hy, .inr (10, [.ref m0, .ref m1, .ref m2, .ref m3, .ref m4, .ref m5, .ref m6, .ref m7, .ref m8, .ref m9, .int mw, .int ml, .int mb, .ref m10, .int mz, .ref m11, .int op2_26, .int bp, .int by0, .int dp, .int tk, .ref m12, .ref m13, .ref m14, .ref m15, .ref m16, .ref m17, .ref m18, .int ka, .int iw])), (m11, .inl (cI, 4, .inl ((upd ((tds a)) (Int32.toNatClampNeg s) (((tds a)) (Int32.toNatClampNeg s) + 1))))), (m2, .inl (cI, 4, .inl ma)), (m4, .inl (cI, 4, .inl mg)), (m5, .inl (cI, 4, .inl mt)), (m7, .inl (cI, 6, .inl wf)), (m8, .inl (cI, 6, .inl wp)), (m9, .inl (cI, 6, .inl wt)), (m0, .inl (cI, 625, .inl ro)), (m1, .inl (cI, 65, .inl co))] [7, 8, 6, 1, 2, 3, 4, 5, 9, 0] (by decide) rfl ?_
        exact x_iret C dX10_nextOf_41 (Nat.zero_le _) (Nat.zero_le _) (by rw [eO]; exact ⟨((upd ((tds a)) (Int32.toNatClampNeg s) (((tds a)) (Int32.toNatClampNeg s) + 1))), op2_26, (congrArg (fun z => some (Value.int z)) (by unfold nxF; rw [ifc_f (by omega), ifc_f (by omega), ifc_f (by omega), h_26])), rfl, trivial⟩)
      · skip
        have e_31 : ¬ ((onesF (setI (o1F ((tds a)) ((opS co a)) s)) : Int32).toInt ≤ (de : Int32).toInt) := fun h => c_31 (i_le.mpr h)
        refine x_bipush C (-6) dX10_nextOf_34 (by decide) ?_
        refine x_sub [(hy, .inr (10, [.ref m0, .ref m1, .ref m2, .ref m3, .ref m4, .ref m5, .ref m6, .ref m7, .ref m8, .ref m9, .int mw, .int ml, .int mb, .ref m10, .int mz, .ref m11, .int op2_26, .int bp, .int by0, .int dp, .int tk, .ref m12, .ref m13, .ref m14, .ref m15, .ref m16, .ref m17, .ref m18, .int ka, .int iw])), (m11, .inl (cI, 4, .inl (upd ((tds a)) (Int32.toNatClampNeg s) (((tds a)) (Int32.toNatClampNeg s) + 1)))), (m2, .inl (cI, 4, .inl ma)), (m4, .inl (cI, 4, .inl mg)), (m5, .inl (cI, 4, .inl mt)), (m7, .inl (cI, 6, .inl wf)), (m8, .inl (cI, 6, .inl wp)), (m9, .inl (cI, 6, .inl wt)), (m0, .inl (cI, 625, .inl ro)), (m1, .inl (cI, 65, .inl co))] [7, 8, 9, 2, 3, 4, 5, 6, 0, 1] (by decide) rfl ?_
        have : ((-6) : Int32).toInt = -6 := by decide
        exact x_iret C dX10_nextOf_36 (Nat.zero_le _) (Nat.zero_le _) (by rw [eO]; exact ⟨(upd ((tds a)) (Int32.toNatClampNeg s) (((tds a)) (Int32.toNatClampNeg s) + 1)), op2_26, (congrArg (fun z => some (Value.int z)) (by unfold nxF; first | rw [ifc_t (by omega)] | rw [ifc_f (by omega), ifc_t (by omega)] | rw [ifc_f (by omega), ifc_f (by omega), ifc_t (by omega)])), rfl, trivial⟩)
