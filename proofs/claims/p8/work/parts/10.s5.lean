theorem i_and7 (x : Int32) : 0 ≤ (x &&& 7).toInt ∧ (x &&& 7).toInt ≤ 7 := by
  obtain ⟨j, hj, h⟩ := pk_andE x (m := 7) 3 (by decide)
  rw [h, nI_toInt (by omega)]
  omega
theorem i_and1 (x : Int32) : (x &&& 1).toInt = 0 ∨ (x &&& 1).toInt = 1 := by
  obtain ⟨j, hj, h⟩ := pk_andE x (m := 1) 1 (by decide)
  rw [h, nI_toInt (by omega)]
  omega
/-- a boolean field takes 0 and 1 -/
theorem z_nar {x : Int32} (h : x.toInt = 0 ∨ x.toInt = 1) : narrow .boolean (.int x) = .int x ∧ fits .boolean (.int x) = true := by
  rcases h with h | h
  · rw [i_eq.mpr (show x.toInt = (0 : Int32).toInt by rw [h]; rfl)]; exact ⟨rfl, rfl⟩
  · rw [i_eq.mpr (show x.toInt = (1 : Int32).toInt by rw [h]; rfl)]; exact ⟨rfl, rfl⟩
abbrev rm_X3_partsTold : Room := { frames := 0, cells := 0, slots := 0, locals := 0 }
set_option maxHeartbeats 4000000 in
set_option maxRecDepth 100000 in
theorem c_X3_partsTold (l : Launch) (D : va_G) (tys : List (ClassId × FieldType)) {cI cJ cZ cB : ClassId} (hT : Ty tys cI cJ cZ cB) (a b : Int32)  : Cn l D tys yX3_partsTold cX3_partsTold 2 (some .int) rm_X3_partsTold [] [.int a, .int b] (fun v W1 => ∃ (r : Int32), v = some (.int r) ∧ W1 = [] ∧ (0 ≤ r.toInt ∧ r.toInt ≤ 7)) := by
  refine Cn.of (by decide) (Nat.le_of_ble_eq_true rfl) ?_ ?_ (fun X eL eD eT eO eK eN eM C => ?_)
  · intro h; cases h
  · intro v ws h; obtain ⟨_, rfl, rfl, _⟩ := h; exact Or.inl rfl
  subst eL eD eT
  show V X 2 [] [(0, .int a), (1, .int b)] [] 0 0 0
  refine x_iload_n C 0 dX3_partsTold_0 rfl rfl ?_
  refine x_iconst C 3 dX3_partsTold_1 (by decide) ?_
  refine x_iload_n C 1 dX3_partsTold_2 rfl rfl ?_
  refine x_imul C dX3_partsTold_3 ?_
  refine x_ishr C dX3_partsTold_4 ?_
  refine x_bipush C 7 dX3_partsTold_5 (by decide) ?_
  refine x_iand C dX3_partsTold_7 ?_
  exact x_iret C dX3_partsTold_8 (Nat.zero_le _) (Nat.zero_le _) (by rw [eO]; exact ⟨((a >>> ((3 * b) &&& 31)) &&& 7), rfl, rfl, (i_and7 _)⟩)
abbrev rm_X3_allPartsTold : Room := { frames := 1, cells := 0, slots := 0, locals := 21 }
set_option maxHeartbeats 4000000 in
set_option maxRecDepth 100000 in
theorem c_X3_allPartsTold (l : Launch) (D : va_G) (tys : List (ClassId × FieldType)) {cI cJ cZ cB : ClassId} (hT : Ty tys cI cJ cZ cB) (a : Int32)  : Cn l D tys yX3_allPartsTold cX3_allPartsTold 1 (some .int) rm_X3_allPartsTold [] [.int a] (fun v W1 => ∃ (r : Int32), v = some (.int r) ∧ W1 = [] ∧ (0 ≤ r.toInt ∧ r.toInt ≤ 28)) := by
  refine Cn.of (by decide) (Nat.le_of_ble_eq_true rfl) ?_ ?_ (fun X eL eD eT eO eK eN eM C => ?_)
  · intro h; cases h
  · intro v ws h; obtain ⟨_, rfl, rfl, _⟩ := h; exact Or.inl rfl
  subst eL eD eT
  show V X 1 [] [(0, .int a)] [] 0 0 0
  refine x_iload_n C 0 dX3_allPartsTold_0 rfl rfl ?_
  refine x_iconst C 0 dX3_allPartsTold_1 (by decide) ?_
  refine x_callS C [.int a, .int 0] [] [] [] (c_X3_partsTold (xl X) (xD X) (xt X) hT a 0 ) dX3_allPartsTold_2 wd_372 wd_373 wd_71 wd_374 (np := 2) ⟨by decide, by decide, by decide +kernel⟩ rfl rfl (Nat.le_of_ble_eq_true rfl) (by decide) rfl (by decide) rfl (by decide) (by decide) (fun v W1 h => ?_)
  obtain ⟨r_2, rfl, rfl, h_2⟩ := h
  have : (0 : Int32).toInt = 0 := by decide
  show V X 1 [] [(0, .int a)] [.int r_2] 5 0 0
  refine x_iload_n C 0 dX3_allPartsTold_5 rfl rfl ?_
  refine x_iconst C 1 dX3_allPartsTold_6 (by decide) ?_
  refine x_callS C [.int a, .int 1] [] [] [] (c_X3_partsTold (xl X) (xD X) (xt X) hT a 1 ) dX3_allPartsTold_7 wd_372 wd_373 wd_71 wd_374 (np := 2) ⟨by decide, by decide, by decide +kernel⟩ rfl rfl (Nat.le_of_ble_eq_true rfl) (by decide) rfl (by decide) rfl (by decide) (by decide) (fun v W1 h => ?_)
  obtain ⟨r_7, rfl, rfl, h_7⟩ := h
  have : (1 : Int32).toInt = 1 := by decide
  show V X 1 [] [(0, .int a)] [.int r_7, .int r_2] 10 0 0
  refine x_iadd C dX3_allPartsTold_10 ?_
  refine x_iload_n C 0 dX3_allPartsTold_11 rfl rfl ?_
  refine x_iconst C 2 dX3_allPartsTold_12 (by decide) ?_
  refine x_callS C [.int a, .int 2] [] [] [] (c_X3_partsTold (xl X) (xD X) (xt X) hT a 2 ) dX3_allPartsTold_13 wd_372 wd_373 wd_71 wd_374 (np := 2) ⟨by decide, by decide, by decide +kernel⟩ rfl rfl (Nat.le_of_ble_eq_true rfl) (by decide) rfl (by decide) rfl (by decide) (by decide) (fun v W1 h => ?_)
  obtain ⟨r_13, rfl, rfl, h_13⟩ := h
  have : (2 : Int32).toInt = 2 := by decide
  show V X 1 [] [(0, .int a)] [.int r_13, .int (r_2 + r_7)] 16 0 0
  refine x_iadd C dX3_allPartsTold_16 ?_
  refine x_iload_n C 0 dX3_allPartsTold_17 rfl rfl ?_
  refine x_iconst C 3 dX3_allPartsTold_18 (by decide) ?_
  refine x_callS C [.int a, .int 3] [] [] [] (c_X3_partsTold (xl X) (xD X) (xt X) hT a 3 ) dX3_allPartsTold_19 wd_372 wd_373 wd_71 wd_374 (np := 2) ⟨by decide, by decide, by decide +kernel⟩ rfl rfl (Nat.le_of_ble_eq_true rfl) (by decide) rfl (by decide) rfl (by decide) (by decide) (fun v W1 h => ?_)
  obtain ⟨r_19, rfl, rfl, h_19⟩ := h
  have : (3 : Int32).toInt = 3 := by decide
  show V X 1 [] [(0, .int a)] [.int r_19, .int ((r_2 + r_7) + r_13)] 22 0 0
  refine x_iadd C dX3_allPartsTold_22 ?_
  have t1 := i_add (x := r_2) (y := r_7) (by omega) (by omega)
  have t2 := i_add (x := r_2 + r_7) (y := r_13) (by omega) (by omega)
  have t3 := i_add (x := r_2 + r_7 + r_13) (y := r_19) (by omega) (by omega)
  exact x_iret C dX3_allPartsTold_23 (Nat.zero_le _) (Nat.zero_le _) (by rw [eO]; exact ⟨(((r_2 + r_7) + r_13) + r_19), rfl, rfl, (by omega)⟩)
abbrev rm_X3_lowestOfRow : Room := { frames := 0, cells := 0, slots := 0, locals := 0 }
set_option maxHeartbeats 4000000 in
set_option maxRecDepth 100000 in
theorem c_X3_lowestOfRow (l : Launch) (D : va_G) (tys : List (ClassId × FieldType)) {cI cJ cZ cB : ClassId} (hT : Ty tys cI cJ cZ cB) (hm : Nat) (mn mo mu mg mt mb : Int32) (hb : Nat)  : Cn l D tys yX3_lowestOfRow cX3_lowestOfRow 2 (some .int) rm_X3_lowestOfRow [(hm, .inr (3, [.ref hb, .int mn, .int mo, .int mu, .int mg, .int mt, .int mb]))] [.ref hm] (fun v W1 => ∃ (r : Int32), v = some (.int r) ∧ W1 = [(hm, .inr (3, [.ref hb, .int mn, .int mo, .int mu, .int mg, .int mt, .int mb]))] ∧ (True)) := by
  refine Cn.of (by decide) (Nat.le_of_ble_eq_true rfl) ?_ ?_ (fun X eL eD eT eO eK eN eM C => ?_)
  · intro h; cases h
  · intro v ws h; obtain ⟨_, rfl, rfl, _⟩ := h; exact Or.inl rfl
  subst eL eD eT
  show V X 2 [(hm, .inr (3, [.ref hb, .int mn, .int mo, .int mu, .int mg, .int mt, .int mb]))] [(0, .ref hm)] [] 0 0 0
  refine x_aload_n C 0 dX3_lowestOfRow_0 rfl rfl ?_
  refine x_get C 0 1 dX3_lowestOfRow_1 inlX3 rfl (by decide) wd_366 rfl rfl rfl ?_
  refine x_bipush C 12 dX3_lowestOfRow_4 (by decide) ?_
  refine x_ishr C dX3_lowestOfRow_6 ?_
  refine x_bipush C 7 dX3_lowestOfRow_7 (by decide) ?_
  refine x_iand C dX3_lowestOfRow_9 ?_
  refine x_istore_n C [(1, .int ((mn >>> (12 &&& 31)) &&& 7)), (0, .ref hm)] dX3_lowestOfRow_10 rfl (by decide) rfl ?_
  refine x_iload_n C 0 dX3_lowestOfRow_11 rfl rfl ?_
  refine x_if_ne C 19 dX3_lowestOfRow_12 (by decide) (fun c_12 => ?_) (fun c_12 => ?_)
  · skip
    have e_12 : ¬ (((mn >>> (12 &&& 31)) &&& 7 : Int32).toInt = (0 : Int32).toInt) := fun h => c_12 (i_eq.mpr h)
    have : (0 : Int32).toInt = 0 := by decide
    refine x_iconst C 1 dX3_lowestOfRow_19 (by decide) ?_
    refine x_iload_n C 0 dX3_lowestOfRow_20 rfl rfl ?_
    refine x_iconst C 1 dX3_lowestOfRow_21 (by decide) ?_
    refine x_isub C dX3_lowestOfRow_22 ?_
    refine x_ishl C dX3_lowestOfRow_23 ?_
    exact x_iret C dX3_lowestOfRow_24 (Nat.zero_le _) (Nat.zero_le _) (by rw [eO]; exact ⟨((1 : Int32) <<< ((((mn >>> (12 &&& 31)) &&& 7) - 1) &&& 31)), rfl, rfl, trivial⟩)
  · skip
    have e_12 : ((mn >>> (12 &&& 31)) &&& 7 : Int32).toInt = (0 : Int32).toInt := i_eq.mp c_12
    have : (0 : Int32).toInt = 0 := by decide
    refine x_iconst C 0 dX3_lowestOfRow_15 (by decide) ?_
    refine x_goto C 24 dX3_lowestOfRow_16 (by decide) ?_
    have : (0 : Int32).toInt = 0 := by decide
    exact x_iret C dX3_lowestOfRow_24 (Nat.zero_le _) (Nat.zero_le _) (by rw [eO]; exact ⟨0, rfl, rfl, trivial⟩)
abbrev rm_X3_look : Room := { frames := 1, cells := 0, slots := 0, locals := 21 }
set_option maxHeartbeats 4000000 in
set_option maxRecDepth 100000 in
theorem c_X3_look (l : Launch) (D : va_G) (tys : List (ClassId × FieldType)) {cI cJ cZ cB : ClassId} (hT : Ty tys cI cJ cZ cB) (hm : Nat) (mn mo mu mg mt mb : Int32) (hb b0 b1 b2 b3 b4 b5 b6 : Nat) (pa mi ga te kn wa ne : Nat → Int32) (wc la br : Int32) (a : Int32)  : Cn l D tys yX3_look cX3_look 5 none rm_X3_look [(hm, .inr (3, [.ref hb, .int mn, .int mo, .int mu, .int mg, .int mt, .int mb])), (hb, .inr (0, [.ref b0, .ref b1, .ref b2, .ref b3, .ref b4, .ref b5, .ref b6, .int wc, .int la, .int br])), (b0, .inl (cI, 4, .inl pa)), (b1, .inl (cI, 16, .inl mi)), (b2, .inl (cI, 4, .inl ga)), (b3, .inl (cI, 4, .inl te)), (b4, .inl (cI, 4, .inl kn)), (b5, .inl (cI, 6, .inl wa)), (b6, .inl (cI, 16, .inl ne))] [.ref hm, .int a] (fun v W1 => ∃ (mo2 mu2 mg2 mt2 mb2 : Int32), v = none ∧ W1 = [(hm, .inr (3, [.ref hb, .int a, .int mo2, .int mu2, .int mg2, .int mt2, .int mb2])), (hb, .inr (0, [.ref b0, .ref b1, .ref b2, .ref b3, .ref b4, .ref b5, .ref b6, .int wc, .int la, .int br])), (b0, .inl (cI, 4, .inl pa)), (b1, .inl (cI, 16, .inl mi)), (b2, .inl (cI, 4, .inl ga)), (b3, .inl (cI, 4, .inl te)), (b4, .inl (cI, 4, .inl kn)), (b5, .inl (cI, 6, .inl wa)), (b6, .inl (cI, 16, .inl ne))] ∧ (mb2.toInt = 0 ∨ mb2.toInt = 1)) := by
  refine Cn.of (by decide) (Nat.le_of_ble_eq_true rfl) ?_ ?_ (fun X eL eD eT eO eK eN eM C => ?_)
  · intro h; cases h
  · intro v ws h; obtain ⟨_, _, _, _, _, rfl, rfl, _⟩ := h; rfl
  subst eL eD eT
  show V X 5 [(hm, .inr (3, [.ref hb, .int mn, .int mo, .int mu, .int mg, .int mt, .int mb])), (hb, .inr (0, [.ref b0, .ref b1, .ref b2, .ref b3, .ref b4, .ref b5, .ref b6, .int wc, .int la, .int br])), (b0, .inl (cI, 4, .inl pa)), (b1, .inl (cI, 16, .inl mi)), (b2, .inl (cI, 4, .inl ga)), (b3, .inl (cI, 4, .inl te)), (b4, .inl (cI, 4, .inl kn)), (b5, .inl (cI, 6, .inl wa)), (b6, .inl (cI, 16, .inl ne))] [(0, .ref hm), (1, .int a)] [] 0 0 0
  refine x_aload_n C 0 dX3_look_0 rfl rfl ?_
  refine x_iload_n C 1 dX3_look_1 rfl rfl ?_
  refine x_put C 0 1 (ty := .int) [(hm, .inr (3, [.ref hb, .int a, .int mo, .int mu, .int mg, .int mt, .int mb])), (hb, .inr (0, [.ref b0, .ref b1, .ref b2, .ref b3, .ref b4, .ref b5, .ref b6, .int wc, .int la, .int br])), (b0, .inl (cI, 4, .inl pa)), (b1, .inl (cI, 16, .inl mi)), (b2, .inl (cI, 4, .inl ga)), (b3, .inl (cI, 4, .inl te)), (b4, .inl (cI, 4, .inl kn)), (b5, .inl (cI, 6, .inl wa)), (b6, .inl (cI, 16, .inl ne))] dX3_look_2 inlX3 tyX3 tyX3_ok nmX3 rfl (by decide) wd_366 rfl rfl rfl rfl rfl rfl (Nat.le_of_ble_eq_true rfl) rfl ?_
  refine x_aload_n C 0 dX3_look_5 rfl rfl ?_
  refine x_iconst C 0 dX3_look_6 (by decide) ?_
  refine x_put C 0 2 (ty := .int) [(hm, .inr (3, [.ref hb, .int a, .int 0, .int mu, .int mg, .int mt, .int mb])), (hb, .inr (0, [.ref b0, .ref b1, .ref b2, .ref b3, .ref b4, .ref b5, .ref b6, .int wc, .int la, .int br])), (b0, .inl (cI, 4, .inl pa)), (b1, .inl (cI, 16, .inl mi)), (b2, .inl (cI, 4, .inl ga)), (b3, .inl (cI, 4, .inl te)), (b4, .inl (cI, 4, .inl kn)), (b5, .inl (cI, 6, .inl wa)), (b6, .inl (cI, 16, .inl ne))] dX3_look_7 inlX3 tyX3 tyX3_ok nmX3 rfl (by decide) wd_367 rfl rfl rfl rfl rfl rfl (Nat.le_of_ble_eq_true rfl) rfl ?_
  refine x_aload_n C 0 dX3_look_10 rfl rfl ?_
  refine x_iconst C 0 dX3_look_11 (by decide) ?_
  refine x_put C 0 3 (ty := .int) [(hm, .inr (3, [.ref hb, .int a, .int 0, .int 0, .int mg, .int mt, .int mb])), (hb, .inr (0, [.ref b0, .ref b1, .ref b2, .ref b3, .ref b4, .ref b5, .ref b6, .int wc, .int la, .int br])), (b0, .inl (cI, 4, .inl pa)), (b1, .inl (cI, 16, .inl mi)), (b2, .inl (cI, 4, .inl ga)), (b3, .inl (cI, 4, .inl te)), (b4, .inl (cI, 4, .inl kn)), (b5, .inl (cI, 6, .inl wa)), (b6, .inl (cI, 16, .inl ne))] dX3_look_12 inlX3 tyX3 tyX3_ok nmX3 rfl (by decide) wd_368 rfl rfl rfl rfl rfl rfl (Nat.le_of_ble_eq_true rfl) rfl ?_
  refine x_aload_n C 0 dX3_look_15 rfl rfl ?_
  refine x_iconst C 0 dX3_look_16 (by decide) ?_
  refine x_put C 0 5 (ty := .int) [(hm, .inr (3, [.ref hb, .int a, .int 0, .int 0, .int mg, .int 0, .int mb])), (hb, .inr (0, [.ref b0, .ref b1, .ref b2, .ref b3, .ref b4, .ref b5, .ref b6, .int wc, .int la, .int br])), (b0, .inl (cI, 4, .inl pa)), (b1, .inl (cI, 16, .inl mi)), (b2, .inl (cI, 4, .inl ga)), (b3, .inl (cI, 4, .inl te)), (b4, .inl (cI, 4, .inl kn)), (b5, .inl (cI, 6, .inl wa)), (b6, .inl (cI, 16, .inl ne))] dX3_look_17 inlX3 tyX3 tyX3_ok nmX3 rfl (by decide) wd_369 rfl rfl rfl rfl rfl rfl (Nat.le_of_ble_eq_true rfl) rfl ?_
  refine x_iconst C 0 dX3_look_20 (by decide) ?_
  refine x_istore_n C [(2, .int 0), (0, .ref hm), (1, .int a)] dX3_look_21 rfl (by decide) rfl ?_
  refine x_iconst C 0 dX3_look_22 (by decide) ?_
  refine x_istore_n C [(3, .int 0), (2, .int 0), (0, .ref hm), (1, .int a)] dX3_look_23 rfl (by decide) rfl ?_
  have L_24 : ∀ (n_24 : Nat) (x3_24 : Int32) (x2_24 : Int32) (ghm2_24 : Int32) (ghm3_24 : Int32) (ghm5_24 : Int32), ((0 ≤ x3_24.toInt ∧ x3_24.toInt ≤ 4)) → ((4 - x3_24.toInt).toNat < n_24) → V X 5 [(hm, .inr (3, [.ref hb, .int a, .int ghm2_24, .int ghm3_24, .int mg, .int ghm5_24, .int mb])), (hb, .inr (0, [.ref b0, .ref b1, .ref b2, .ref b3, .ref b4, .ref b5, .ref b6, .int wc, .int la, .int br])), (b0, .inl (cI, 4, .inl pa)), (b1, .inl (cI, 16, .inl mi)), (b2, .inl (cI, 4, .inl ga)), (b3, .inl (cI, 4, .inl te)), (b4, .inl (cI, 4, .inl kn)), (b5, .inl (cI, 6, .inl wa)), (b6, .inl (cI, 16, .inl ne))] [(3, .int x3_24), (2, .int x2_24), (0, .ref hm), (1, .int a)] [] 24 0 0 := by
    intro n_24
    induction n_24 with
    | zero =>
      intro x3_24 x2_24 ghm2_24 ghm3_24 ghm5_24 i_24 m_24
      exact absurd m_24 (Nat.not_lt_zero _)
    | succ n_24 ih_24 =>
      intro x3_24 x2_24 ghm2_24 ghm3_24 ghm5_24 i_24 m_24
      refine x_iload_n C 0 dX3_look_24 rfl rfl ?_
      refine x_iconst C 4 dX3_look_25 (by decide) ?_
      refine x_icmp_ge C 129 dX3_look_26 (by decide) (fun c_26 => ?_) (fun c_26 => ?_)
      · skip
        have e_26 : (4 : Int32).toInt ≤ (x3_24 : Int32).toInt := i_le.mp c_26
        have : (4 : Int32).toInt = 4 := by decide
        refine x_aload_n C 2 dX3_look_129 rfl rfl ?_
        refine x_aload_n C 2 dX3_look_130 rfl rfl ?_
        refine x_get C 0 0 dX3_look_131 inlX3 rfl (by decide) wd_77 rfl rfl rfl ?_
        refine x_getN C 1 8 dX3_look_134 inlX0 rfl (by decide) nt_19 rfl rfl rfl ?_
        refine x_iconst C 2 dX3_look_137 (by decide) ?_
        have J_152 : ∀ (s0_152 : Int32), V X 5 [(hm, .inr (3, [.ref hb, .int a, .int ghm2_24, .int ghm3_24, .int mg, .int ghm5_24, .int mb])), (hb, .inr (0, [.ref b0, .ref b1, .ref b2, .ref b3, .ref b4, .ref b5, .ref b6, .int wc, .int la, .int br])), (b0, .inl (cI, 4, .inl pa)), (b1, .inl (cI, 16, .inl mi)), (b2, .inl (cI, 4, .inl ga)), (b3, .inl (cI, 4, .inl te)), (b4, .inl (cI, 4, .inl kn)), (b5, .inl (cI, 6, .inl wa)), (b6, .inl (cI, 16, .inl ne))] [(3, .int x3_24), (2, .int x2_24), (0, .ref hm), (1, .int a)] [.int s0_152, .ref hm] 152 0 0 := by
          intro s0_152
          refine x_put C 0 4 (ty := .int) [(hm, .inr (3, [.ref hb, .int a, .int ghm2_24, .int ghm3_24, .int s0_152, .int ghm5_24, .int mb])), (hb, .inr (0, [.ref b0, .ref b1, .ref b2, .ref b3, .ref b4, .ref b5, .ref b6, .int wc, .int la, .int br])), (b0, .inl (cI, 4, .inl pa)), (b1, .inl (cI, 16, .inl mi)), (b2, .inl (cI, 4, .inl ga)), (b3, .inl (cI, 4, .inl te)), (b4, .inl (cI, 4, .inl kn)), (b5, .inl (cI, 6, .inl wa)), (b6, .inl (cI, 16, .inl ne))] dX3_look_152 inlX3 tyX3 tyX3_ok nmX3 rfl (by decide) wd_370 rfl rfl rfl rfl rfl rfl (Nat.le_of_ble_eq_true rfl) rfl ?_
          refine x_aload_n C 2 dX3_look_155 rfl rfl ?_
          refine x_aload_n C 2 dX3_look_156 rfl rfl ?_
          refine x_get C 0 2 dX3_look_157 inlX3 rfl (by decide) wd_367 rfl rfl rfl ?_
          have J_177 : ∀ (s0_177 : Int32) (ghm4_177 : Int32), (s0_177.toInt = 0 ∨ s0_177.toInt = 1) → V X 5 [(hm, .inr (3, [.ref hb, .int a, .int ghm2_24, .int ghm3_24, .int ghm4_177, .int ghm5_24, .int mb])), (hb, .inr (0, [.ref b0, .ref b1, .ref b2, .ref b3, .ref b4, .ref b5, .ref b6, .int wc, .int la, .int br])), (b0, .inl (cI, 4, .inl pa)), (b1, .inl (cI, 16, .inl mi)), (b2, .inl (cI, 4, .inl ga)), (b3, .inl (cI, 4, .inl te)), (b4, .inl (cI, 4, .inl kn)), (b5, .inl (cI, 6, .inl wa)), (b6, .inl (cI, 16, .inl ne))] [(3, .int x3_24), (2, .int x2_24), (0, .ref hm), (1, .int a)] [.int s0_177, .ref hm] 177 0 0 := by
            intro s0_177 ghm4_177 i_177
            refine x_put C 0 6 (ty := .boolean) [(hm, .inr (3, [.ref hb, .int a, .int ghm2_24, .int ghm3_24, .int ghm4_177, .int ghm5_24, .int s0_177])), (hb, .inr (0, [.ref b0, .ref b1, .ref b2, .ref b3, .ref b4, .ref b5, .ref b6, .int wc, .int la, .int br])), (b0, .inl (cI, 4, .inl pa)), (b1, .inl (cI, 16, .inl mi)), (b2, .inl (cI, 4, .inl ga)), (b3, .inl (cI, 4, .inl te)), (b4, .inl (cI, 4, .inl kn)), (b5, .inl (cI, 6, .inl wa)), (b6, .inl (cI, 16, .inl ne))] dX3_look_177 inlX3 tyX3 tyX3_ok nmX3 rfl (by decide) wd_371 rfl rfl rfl rfl (z_nar i_177).1 (z_nar i_177).2 (Nat.le_of_ble_eq_true rfl) rfl ?_
            exact x_vret C dX3_look_180 (Nat.zero_le _) (Nat.zero_le _) (by rw [eO]; exact ⟨ghm2_24, ghm3_24, ghm4_177, ghm5_24, s0_177, rfl, rfl, (by omega)⟩)
          have J_172 : ∀ (ghm4_172 : Int32), V X 5 [(hm, .inr (3, [.ref hb, .int a, .int ghm2_24, .int ghm3_24, .int ghm4_172, .int ghm5_24, .int mb])), (hb, .inr (0, [.ref b0, .ref b1, .ref b2, .ref b3, .ref b4, .ref b5, .ref b6, .int wc, .int la, .int br])), (b0, .inl (cI, 4, .inl pa)), (b1, .inl (cI, 16, .inl mi)), (b2, .inl (cI, 4, .inl ga)), (b3, .inl (cI, 4, .inl te)), (b4, .inl (cI, 4, .inl kn)), (b5, .inl (cI, 6, .inl wa)), (b6, .inl (cI, 16, .inl ne))] [(3, .int x3_24), (2, .int x2_24), (0, .ref hm), (1, .int a)] [.ref hm] 172 0 0 := by
            intro ghm4_172
            refine x_iconst C 1 dX3_look_172 (by decide) ?_
            refine x_goto C 177 dX3_look_173 (by decide) ?_
            have : (1 : Int32).toInt = 1 := by decide
            exact J_177 1 ghm4_172 (by omega)
          refine x_if_eq C 172 dX3_look_160 (by decide) (fun c_160 => ?_) (fun c_160 => ?_)
          · skip
            have e_160 : (ghm2_24 : Int32).toInt = (0 : Int32).toInt := i_eq.mp c_160
            have : (0 : Int32).toInt = 0 := by decide
            exact J_172 s0_152
          · skip
            have e_160 : ¬ ((ghm2_24 : Int32).toInt = (0 : Int32).toInt) := fun h => c_160 (i_eq.mpr h)
            have : (0 : Int32).toInt = 0 := by decide
            refine x_iload_n C 1 dX3_look_163 rfl rfl ?_
            refine x_aload_n C 2 dX3_look_164 rfl rfl ?_
            refine x_get C 0 4 dX3_look_165 inlX3 rfl (by decide) wd_370 rfl rfl rfl ?_
            refine x_iand C dX3_look_168 ?_
            refine x_if_eq C 176 dX3_look_169 (by decide) (fun c_169 => ?_) (fun c_169 => ?_)
            · skip
              have e_169 : (x2_24 &&& s0_152 : Int32).toInt = (0 : Int32).toInt := i_eq.mp c_169
              have : (0 : Int32).toInt = 0 := by decide
              refine x_iconst C 0 dX3_look_176 (by decide) ?_
              have : (0 : Int32).toInt = 0 := by decide
              exact J_177 0 s0_152 (by omega)
            · skip
              have e_169 : ¬ ((x2_24 &&& s0_152 : Int32).toInt = (0 : Int32).toInt) := fun h => c_169 (i_eq.mpr h)
              have : (0 : Int32).toInt = 0 := by decide
              exact J_172 s0_152
        refine x_icmp_ne C 148 dX3_look_138 (by decide) (fun c_138 => ?_) (fun c_138 => ?_)
        · skip
          have e_138 : ¬ ((la : Int32).toInt = (2 : Int32).toInt) := fun h => c_138 (i_eq.mpr h)
          have : (2 : Int32).toInt = 2 := by decide
          refine x_aload_n C 2 dX3_look_148 rfl rfl ?_
          refine x_callV C [] [(hb, .inr (0, [.ref b0, .ref b1, .ref b2, .ref b3, .ref b4, .ref b5, .ref b6, .int wc, .int la, .int br])), (b0, .inl (cI, 4, .inl pa)), (b1, .inl (cI, 16, .inl mi)), (b2, .inl (cI, 4, .inl ga)), (b3, .inl (cI, 4, .inl te)), (b4, .inl (cI, 4, .inl kn)), (b5, .inl (cI, 6, .inl wa)), (b6, .inl (cI, 16, .inl ne))] [0] [1, 2, 3, 4, 5, 6, 7, 8] (q0 := 0) (c_X3_lowestOfRow (xl X) (xD X) (xt X) hT hm a ghm2_24 ghm3_24 mg ghm5_24 mb hb ) dX3_look_149 wd_375 wd_376 wd_377 wd_71 wd_378 (np := 0) ⟨by decide, by decide, by decide +kernel⟩ rfl rfl (Nat.le_of_ble_eq_true rfl) (by decide) rfl rfl rfl rfl (by decide) rfl (by decide) (by decide) (fun v W1 h => ?_)
          obtain ⟨r_149, rfl, rfl, h_149⟩ := h
          show V X 5 [(hb, .inr (0, [.ref b0, .ref b1, .ref b2, .ref b3, .ref b4, .ref b5, .ref b6, .int wc, .int la, .int br])), (b0, .inl (cI, 4, .inl pa)), (b1, .inl (cI, 16, .inl mi)), (b2, .inl (cI, 4, .inl ga)), (b3, .inl (cI, 4, .inl te)), (b4, .inl (cI, 4, .inl kn)), (b5, .inl (cI, 6, .inl wa)), (b6, .inl (cI, 16, .inl ne)), (hm, .inr (3, [.ref hb, .int a, .int ghm2_24, .int ghm3_24, .int mg, .int ghm5_24, .int mb]))] [(3, .int x3_24), (2, .int x2_24), (0, .ref hm), (1, .int a)] [.int r_149, .ref hm] 152 0 0
          refine x_sub [(hm, .inr (3, [.ref hb, .int a, .int ghm2_24, .int ghm3_24, .int mg, .int ghm5_24, .int mb])), (hb, .inr (0, [.ref b0, .ref b1, .ref b2, .ref b3, .ref b4, .ref b5, .ref b6, .int wc, .int la, .int br])), (b0, .inl (cI, 4, .inl pa)), (b1, .inl (cI, 16, .inl mi)), (b2, .inl (cI, 4, .inl ga)), (b3, .inl (cI, 4, .inl te)), (b4, .inl (cI, 4, .inl kn)), (b5, .inl (cI, 6, .inl wa)), (b6, .inl (cI, 16, .inl ne))] [8, 0, 1, 2, 3, 4, 5, 6, 7] (by decide) rfl ?_
          exact J_152 r_149
        · skip
          have e_138 : (la : Int32).toInt = (2 : Int32).toInt := i_eq.mp c_138
          have : (2 : Int32).toInt = 2 := by decide
          refine x_aload_n C 2 dX3_look_141 rfl rfl ?_
          refine x_get C 0 2 dX3_look_142 inlX3 rfl (by decide) wd_367 rfl rfl rfl ?_
          refine x_goto C 152 dX3_look_145 (by decide) ?_
          exact J_152 ghm2_24
      · skip
        have e_26 : ¬ ((4 : Int32).toInt ≤ (x3_24 : Int32).toInt) := fun h => c_26 (i_le.mpr h)
        have : (4 : Int32).toInt = 4 := by decide
        refine x_iload_n C 3 dX3_look_29 rfl rfl ?_
        refine x_iload_n C 0 dX3_look_30 rfl rfl ?_
        refine x_callS C [.int a, .int x3_24] [(hm, .inr (3, [.ref hb, .int a, .int ghm2_24, .int ghm3_24, .int mg, .int ghm5_24, .int mb])), (hb, .inr (0, [.ref b0, .ref b1, .ref b2, .ref b3, .ref b4, .ref b5, .ref b6, .int wc, .int la, .int br])), (b0, .inl (cI, 4, .inl pa)), (b1, .inl (cI, 16, .inl mi)), (b2, .inl (cI, 4, .inl ga)), (b3, .inl (cI, 4, .inl te)), (b4, .inl (cI, 4, .inl kn)), (b5, .inl (cI, 6, .inl wa)), (b6, .inl (cI, 16, .inl ne))] [] [0, 1, 2, 3, 4, 5, 6, 7, 8] (c_X3_partsTold (xl X) (xD X) (xt X) hT a x3_24 ) dX3_look_31 wd_372 wd_373 wd_71 wd_374 (np := 2) ⟨by decide, by decide, by decide +kernel⟩ rfl rfl (Nat.le_of_ble_eq_true rfl) (by decide) rfl (by decide) rfl (by decide) (by decide) (fun v W1 h => ?_)
        obtain ⟨r_31, rfl, rfl, h_31⟩ := h
        show V X 5 [(hm, .inr (3, [.ref hb, .int a, .int ghm2_24, .int ghm3_24, .int mg, .int ghm5_24, .int mb])), (hb, .inr (0, [.ref b0, .ref b1, .ref b2, .ref b3, .ref b4, .ref b5, .ref b6, .int wc, .int la, .int br])), (b0, .inl (cI, 4, .inl pa)), (b1, .inl (cI, 16, .inl mi)), (b2, .inl (cI, 4, .inl ga)), (b3, .inl (cI, 4, .inl te)), (b4, .inl (cI, 4, .inl kn)), (b5, .inl (cI, 6, .inl wa)), (b6, .inl (cI, 16, .inl ne))] [(3, .int x3_24), (2, .int x2_24), (0, .ref hm), (1, .int a)] [.int r_31] 34 0 0
        refine x_istore C [(4, .int r_31), (3, .int x3_24), (2, .int x2_24), (0, .ref hm), (1, .int a)] dX3_look_34 (by decide) rfl ?_
        refine x_iload C 0 dX3_look_36 rfl ?_
        refine x_aload_n C 3 dX3_look_38 rfl rfl ?_
        refine x_get C 0 0 dX3_look_39 inlX3 rfl (by decide) wd_77 rfl rfl rfl ?_
        refine x_getN C 1 0 dX3_look_42 inlX0 rfl (by decide) nt_5 rfl rfl rfl ?_
        refine x_iload_n C 1 dX3_look_45 rfl rfl ?_
        have v_46 : vp_in x3_24 4 := (vp_in_iff.mpr (by omega))
        refine x_iald C 2 0 dX3_look_46 hT.1 rfl v_46 ?_
        have J_123 : ∀ (x2_123 : Int32) (ghm2_123 : Int32) (ghm3_123 : Int32) (ghm5_123 : Int32), V X 5 [(hm, .inr (3, [.ref hb, .int a, .int ghm2_123, .int ghm3_123, .int mg, .int ghm5_123, .int mb])), (hb, .inr (0, [.ref b0, .ref b1, .ref b2, .ref b3, .ref b4, .ref b5, .ref b6, .int wc, .int la, .int br])), (b0, .inl (cI, 4, .inl pa)), (b1, .inl (cI, 16, .inl mi)), (b2, .inl (cI, 4, .inl ga)), (b3, .inl (cI, 4, .inl te)), (b4, .inl (cI, 4, .inl kn)), (b5, .inl (cI, 6, .inl wa)), (b6, .inl (cI, 16, .inl ne))] [(4, .int r_31), (3, .int x3_24), (2, .int x2_123), (0, .ref hm), (1, .int a)] [] 123 0 0 := by
          intro x2_123 ghm2_123 ghm3_123 ghm5_123
          refine x_iinc C 1 (x3_24 + 1) [(3, .int (x3_24 + 1)), (4, .int r_31), (2, .int x2_123), (0, .ref hm), (1, .int a)] dX3_look_123 rfl rfl (by decide) rfl ?_
          refine x_goto C 24 dX3_look_126 (by decide) ?_
          refine x_lv [(3, .int (x3_24 + 1)), (2, .int x2_123), (0, .ref hm), (1, .int a)] [0, 2, 3, 4] rfl ?_
          have : (1 : Int32).toInt = 1 := by decide
          have := i_add (x := x3_24) (y := 1) (by omega) (by omega)
          exact ih_24 (x3_24 + 1) x2_123 ghm2_123 ghm3_123 ghm5_123 (by omega) (by omega)
        refine x_icmp_lt C 65 dX3_look_47 (by decide) (fun c_47 => ?_) (fun c_47 => ?_)
        · skip
          have e_47 : (r_31 : Int32).toInt < (pa (Int32.toNatClampNeg x3_24) : Int32).toInt := i_lt.mp c_47
          refine x_iload C 0 dX3_look_65 rfl ?_
          refine x_if_le C 123 dX3_look_67 (by decide) (fun c_67 => ?_) (fun c_67 => ?_)
          · skip
            have e_67 : (r_31 : Int32).toInt ≤ (0 : Int32).toInt := i_le.mp c_67
            have : (0 : Int32).toInt = 0 := by decide
            exact J_123 x2_24 ghm2_24 ghm3_24 ghm5_24
          · skip
            have e_67 : ¬ ((r_31 : Int32).toInt ≤ (0 : Int32).toInt) := fun h => c_67 (i_le.mpr h)
            have : (0 : Int32).toInt = 0 := by decide
            refine x_aload_n C 3 dX3_look_70 rfl rfl ?_
            refine x_dup C dX3_look_71 rfl ?_
            refine x_get C 0 2 dX3_look_72 inlX3 rfl (by decide) wd_367 rfl rfl rfl ?_
            refine x_iconst C 1 dX3_look_75 (by decide) ?_
            refine x_iload_n C 1 dX3_look_76 rfl rfl ?_
            refine x_ishl C dX3_look_77 ?_
            refine x_ior C dX3_look_78 ?_
            refine x_put C 0 2 (ty := .int) [(hm, .inr (3, [.ref hb, .int a, .int (ghm2_24 ||| ((1 : Int32) <<< (x3_24 &&& 31))), .int ghm3_24, .int mg, .int ghm5_24, .int mb])), (hb, .inr (0, [.ref b0, .ref b1, .ref b2, .ref b3, .ref b4, .ref b5, .ref b6, .int wc, .int la, .int br])), (b0, .inl (cI, 4, .inl pa)), (b1, .inl (cI, 16, .inl mi)), (b2, .inl (cI, 4, .inl ga)), (b3, .inl (cI, 4, .inl te)), (b4, .inl (cI, 4, .inl kn)), (b5, .inl (cI, 6, .inl wa)), (b6, .inl (cI, 16, .inl ne))] dX3_look_79 inlX3 tyX3 tyX3_ok nmX3 rfl (by decide) wd_367 rfl rfl rfl rfl rfl rfl (Nat.le_of_ble_eq_true rfl) rfl ?_
            refine x_aload_n C 3 dX3_look_82 rfl rfl ?_
            refine x_dup C dX3_look_83 rfl ?_
            refine x_get C 0 5 dX3_look_84 inlX3 rfl (by decide) wd_369 rfl rfl rfl ?_
            refine x_iconst C 1 dX3_look_87 (by decide) ?_
            refine x_aload_n C 3 dX3_look_88 rfl rfl ?_
            refine x_get C 0 0 dX3_look_89 inlX3 rfl (by decide) wd_77 rfl rfl rfl ?_
            refine x_getN C 1 3 dX3_look_92 inlX0 rfl (by decide) nt_12 rfl rfl rfl ?_
            refine x_iload_n C 1 dX3_look_95 rfl rfl ?_
            have v_96 : vp_in x3_24 4 := (vp_in_iff.mpr (by omega))
            refine x_iald C 5 0 dX3_look_96 hT.1 rfl v_96 ?_
            refine x_ishl C dX3_look_97 ?_
            refine x_ior C dX3_look_98 ?_
            refine x_put C 0 5 (ty := .int) [(hm, .inr (3, [.ref hb, .int a, .int (ghm2_24 ||| ((1 : Int32) <<< (x3_24 &&& 31))), .int ghm3_24, .int mg, .int (ghm5_24 ||| ((1 : Int32) <<< ((te (Int32.toNatClampNeg x3_24)) &&& 31))), .int mb])), (hb, .inr (0, [.ref b0, .ref b1, .ref b2, .ref b3, .ref b4, .ref b5, .ref b6, .int wc, .int la, .int br])), (b0, .inl (cI, 4, .inl pa)), (b1, .inl (cI, 16, .inl mi)), (b2, .inl (cI, 4, .inl ga)), (b3, .inl (cI, 4, .inl te)), (b4, .inl (cI, 4, .inl kn)), (b5, .inl (cI, 6, .inl wa)), (b6, .inl (cI, 16, .inl ne))] dX3_look_99 inlX3 tyX3 tyX3_ok nmX3 rfl (by decide) wd_369 rfl rfl rfl rfl rfl rfl (Nat.le_of_ble_eq_true rfl) rfl ?_
            refine x_iload_n C 2 dX3_look_102 rfl rfl ?_
            refine x_aload_n C 3 dX3_look_103 rfl rfl ?_
            refine x_get C 0 0 dX3_look_104 inlX3 rfl (by decide) wd_77 rfl rfl rfl ?_
            refine x_getN C 1 2 dX3_look_107 inlX0 rfl (by decide) nt_8 rfl rfl rfl ?_
            refine x_iload_n C 1 dX3_look_110 rfl rfl ?_
            have v_111 : vp_in x3_24 4 := (vp_in_iff.mpr (by omega))
            refine x_iald C 4 0 dX3_look_111 hT.1 rfl v_111 ?_
            refine x_iload C 0 dX3_look_112 rfl ?_
            refine x_iconst C 1 dX3_look_114 (by decide) ?_
            refine x_isub C dX3_look_115 ?_
            refine x_ishr C dX3_look_116 ?_
            refine x_iconst C 1 dX3_look_117 (by decide) ?_
            refine x_iand C dX3_look_118 ?_
            refine x_iload_n C 1 dX3_look_119 rfl rfl ?_
            refine x_ishl C dX3_look_120 ?_
            refine x_ior C dX3_look_121 ?_
            refine x_istore_n C [(2, .int (x2_24 ||| ((((ga (Int32.toNatClampNeg x3_24)) >>> ((r_31 - 1) &&& 31)) &&& 1) <<< (x3_24 &&& 31)))), (4, .int r_31), (3, .int x3_24), (0, .ref hm), (1, .int a)] dX3_look_122 rfl (by decide) rfl ?_
            refine x_lv [(4, .int r_31), (3, .int x3_24), (2, .int (x2_24 ||| ((((ga (Int32.toNatClampNeg x3_24)) >>> ((r_31 - 1) &&& 31)) &&& 1) <<< (x3_24 &&& 31)))), (0, .ref hm), (1, .int a)] [1, 2, 0, 3, 4] rfl ?_
            exact J_123 (x2_24 ||| ((((ga (Int32.toNatClampNeg x3_24)) >>> ((r_31 - 1) &&& 31)) &&& 1) <<< (x3_24 &&& 31))) (ghm2_24 ||| ((1 : Int32) <<< (x3_24 &&& 31))) ghm3_24 (ghm5_24 ||| ((1 : Int32) <<< ((te (Int32.toNatClampNeg x3_24)) &&& 31)))
        · skip
          have e_47 : ¬ ((r_31 : Int32).toInt < (pa (Int32.toNatClampNeg x3_24) : Int32).toInt) := fun h => c_47 (i_lt.mpr h)
          refine x_aload_n C 3 dX3_look_50 rfl rfl ?_
          refine x_dup C dX3_look_51 rfl ?_
          refine x_get C 0 3 dX3_look_52 inlX3 rfl (by decide) wd_368 rfl rfl rfl ?_
          refine x_iconst C 1 dX3_look_55 (by decide) ?_
          refine x_iload_n C 1 dX3_look_56 rfl rfl ?_
          refine x_ishl C dX3_look_57 ?_
          refine x_ior C dX3_look_58 ?_
          refine x_put C 0 3 (ty := .int) [(hm, .inr (3, [.ref hb, .int a, .int ghm2_24, .int (ghm3_24 ||| ((1 : Int32) <<< (x3_24 &&& 31))), .int mg, .int ghm5_24, .int mb])), (hb, .inr (0, [.ref b0, .ref b1, .ref b2, .ref b3, .ref b4, .ref b5, .ref b6, .int wc, .int la, .int br])), (b0, .inl (cI, 4, .inl pa)), (b1, .inl (cI, 16, .inl mi)), (b2, .inl (cI, 4, .inl ga)), (b3, .inl (cI, 4, .inl te)), (b4, .inl (cI, 4, .inl kn)), (b5, .inl (cI, 6, .inl wa)), (b6, .inl (cI, 16, .inl ne))] dX3_look_59 inlX3 tyX3 tyX3_ok nmX3 rfl (by decide) wd_368 rfl rfl rfl rfl rfl rfl (Nat.le_of_ble_eq_true rfl) rfl ?_
          refine x_goto C 123 dX3_look_62 (by decide) ?_
          exact J_123 x2_24 ghm2_24 (ghm3_24 ||| ((1 : Int32) <<< (x3_24 &&& 31))) ghm5_24
  have : (0 : Int32).toInt = 0 := by decide
  exact L_24 _ 0 0 0 0 0 (by omega) (Nat.lt_succ_self _)
abbrev rm_X3_waitsFor : Room := { frames := 1, cells := 0, slots := 0, locals := 21 }
set_option maxHeartbeats 4000000 in
set_option maxRecDepth 100000 in
theorem c_X3_waitsFor (l : Launch) (D : va_G) (tys : List (ClassId × FieldType)) {cI cJ cZ cB : ClassId} (hT : Ty tys cI cJ cZ cB) (hm : Nat) (mn mo mu mg mt mb : Int32) (hb b0 b1 b2 b3 b4 b5 b6 : Nat) (pa mi ga te kn wa ne : Nat → Int32) (wc la br : Int32) (s a : Int32) (hs : 0 ≤ s.toInt ∧ s.toInt ≤ 3) : Cn l D tys yX3_waitsFor cX3_waitsFor 4 (some .int) rm_X3_waitsFor [(hm, .inr (3, [.ref hb, .int mn, .int mo, .int mu, .int mg, .int mt, .int mb])), (hb, .inr (0, [.ref b0, .ref b1, .ref b2, .ref b3, .ref b4, .ref b5, .ref b6, .int wc, .int la, .int br])), (b0, .inl (cI, 4, .inl pa)), (b1, .inl (cI, 16, .inl mi)), (b2, .inl (cI, 4, .inl ga)), (b3, .inl (cI, 4, .inl te)), (b4, .inl (cI, 4, .inl kn)), (b5, .inl (cI, 6, .inl wa)), (b6, .inl (cI, 16, .inl ne))] [.ref hm, .int s, .int a] (fun v W1 => ∃ (r : Int32), v = some (.int r) ∧ W1 = [(hm, .inr (3, [.ref hb, .int mn, .int mo, .int mu, .int mg, .int mt, .int mb])), (hb, .inr (0, [.ref b0, .ref b1, .ref b2, .ref b3, .ref b4, .ref b5, .ref b6, .int wc, .int la, .int br])), (b0, .inl (cI, 4, .inl pa)), (b1, .inl (cI, 16, .inl mi)), (b2, .inl (cI, 4, .inl ga)), (b3, .inl (cI, 4, .inl te)), (b4, .inl (cI, 4, .inl kn)), (b5, .inl (cI, 6, .inl wa)), (b6, .inl (cI, 16, .inl ne))] ∧ (True)) := by
  refine Cn.of (by decide) (Nat.le_of_ble_eq_true rfl) ?_ ?_ (fun X eL eD eT eO eK eN eM C => ?_)
  · intro h; cases h
  · intro v ws h; obtain ⟨_, rfl, rfl, _⟩ := h; exact Or.inl rfl
  subst eL eD eT
  show V X 4 [(hm, .inr (3, [.ref hb, .int mn, .int mo, .int mu, .int mg, .int mt, .int mb])), (hb, .inr (0, [.ref b0, .ref b1, .ref b2, .ref b3, .ref b4, .ref b5, .ref b6, .int wc, .int la, .int br])), (b0, .inl (cI, 4, .inl pa)), (b1, .inl (cI, 16, .inl mi)), (b2, .inl (cI, 4, .inl ga)), (b3, .inl (cI, 4, .inl te)), (b4, .inl (cI, 4, .inl kn)), (b5, .inl (cI, 6, .inl wa)), (b6, .inl (cI, 16, .inl ne))] [(0, .ref hm), (1, .int s), (2, .int a)] [] 0 0 0
  refine x_aload_n C 0 dX3_waitsFor_0 rfl rfl ?_
  refine x_get C 0 1 dX3_waitsFor_1 inlX3 rfl (by decide) wd_366 rfl rfl rfl ?_
  refine x_iload_n C 1 dX3_waitsFor_4 rfl rfl ?_
  refine x_callS C [.int mn, .int s] [(hm, .inr (3, [.ref hb, .int mn, .int mo, .int mu, .int mg, .int mt, .int mb])), (hb, .inr (0, [.ref b0, .ref b1, .ref b2, .ref b3, .ref b4, .ref b5, .ref b6, .int wc, .int la, .int br])), (b0, .inl (cI, 4, .inl pa)), (b1, .inl (cI, 16, .inl mi)), (b2, .inl (cI, 4, .inl ga)), (b3, .inl (cI, 4, .inl te)), (b4, .inl (cI, 4, .inl kn)), (b5, .inl (cI, 6, .inl wa)), (b6, .inl (cI, 16, .inl ne))] [] [0, 1, 2, 3, 4, 5, 6, 7, 8] (c_X3_partsTold (xl X) (xD X) (xt X) hT mn s ) dX3_waitsFor_5 wd_372 wd_373 wd_71 wd_374 (np := 2) ⟨by decide, by decide, by decide +kernel⟩ rfl rfl (Nat.le_of_ble_eq_true rfl) (by decide) rfl (by decide) rfl (by decide) (by decide) (fun v W1 h => ?_)
  obtain ⟨r_5, rfl, rfl, h_5⟩ := h
  show V X 4 [(hm, .inr (3, [.ref hb, .int mn, .int mo, .int mu, .int mg, .int mt, .int mb])), (hb, .inr (0, [.ref b0, .ref b1, .ref b2, .ref b3, .ref b4, .ref b5, .ref b6, .int wc, .int la, .int br])), (b0, .inl (cI, 4, .inl pa)), (b1, .inl (cI, 16, .inl mi)), (b2, .inl (cI, 4, .inl ga)), (b3, .inl (cI, 4, .inl te)), (b4, .inl (cI, 4, .inl kn)), (b5, .inl (cI, 6, .inl wa)), (b6, .inl (cI, 16, .inl ne))] [(0, .ref hm), (1, .int s), (2, .int a)] [.int r_5] 8 0 0
  refine x_istore_n C [(3, .int r_5), (0, .ref hm), (1, .int s), (2, .int a)] dX3_waitsFor_8 rfl (by decide) rfl ?_
  refine x_iload_n C 0 dX3_waitsFor_9 rfl rfl ?_
  refine x_iconst C 4 dX3_waitsFor_10 (by decide) ?_
  refine x_icmp_ge C 39 dX3_waitsFor_11 (by decide) (fun c_11 => ?_) (fun c_11 => ?_)
  · skip
    have e_11 : (4 : Int32).toInt ≤ (r_5 : Int32).toInt := i_le.mp c_11
    have : (4 : Int32).toInt = 4 := by decide
    refine x_iconst C 0 dX3_waitsFor_39 (by decide) ?_
    have : (0 : Int32).toInt = 0 := by decide
    exact x_iret C dX3_waitsFor_40 (Nat.zero_le _) (Nat.zero_le _) (by rw [eO]; exact ⟨0, rfl, rfl, trivial⟩)
  · skip
    have e_11 : ¬ ((4 : Int32).toInt ≤ (r_5 : Int32).toInt) := fun h => c_11 (i_le.mpr h)
    have : (4 : Int32).toInt = 4 := by decide
    refine x_aload_n C 1 dX3_waitsFor_14 rfl rfl ?_
    refine x_get C 0 0 dX3_waitsFor_15 inlX3 rfl (by decide) wd_77 rfl rfl rfl ?_
    refine x_getN C 1 6 dX3_waitsFor_18 inlX0 rfl (by decide) nt_16 rfl rfl rfl ?_
    refine x_iload_n C 2 dX3_waitsFor_21 rfl rfl ?_
    refine x_iconst C 4 dX3_waitsFor_22 (by decide) ?_
    refine x_imul C dX3_waitsFor_23 ?_
    refine x_iload_n C 0 dX3_waitsFor_24 rfl rfl ?_
    refine x_iadd C dX3_waitsFor_25 ?_
    have : (4 : Int32).toInt = 4 := by decide
    have := i_mulr (x := s) (y := 4) (d := 4) (by decide) (by omega) (by omega)
    have := i_add (x := (s * 4)) (y := r_5) (by omega) (by omega)
    have v_26 : vp_in ((s * 4) + r_5) 16 := (vp_in_iff.mpr (by omega))
    refine x_iald C 8 0 dX3_waitsFor_26 hT.1 rfl v_26 ?_
    refine x_iload_n C 3 dX3_waitsFor_27 rfl rfl ?_
    refine x_iand C dX3_waitsFor_28 ?_
    refine x_aload_n C 1 dX3_waitsFor_29 rfl rfl ?_
    refine x_get C 0 3 dX3_waitsFor_30 inlX3 rfl (by decide) wd_368 rfl rfl rfl ?_
    refine x_iconst C (-1) dX3_waitsFor_33 (by decide) ?_
    refine x_ixor C dX3_waitsFor_34 ?_
    refine x_iand C dX3_waitsFor_35 ?_
    refine x_goto C 40 dX3_waitsFor_36 (by decide) ?_
    exact x_iret C dX3_waitsFor_40 (Nat.zero_le _) (Nat.zero_le _) (by rw [eO]; exact ⟨(((ne (Int32.toNatClampNeg ((s * 4) + r_5))) &&& a) &&& (mu ^^^ ((-1)))), rfl, rfl, trivial⟩)
abbrev rm_X3_whyNot : Room := { frames := 2, cells := 0, slots := 0, locals := 44 }
set_option maxHeartbeats 4000000 in
set_option maxRecDepth 100000 in
theorem c_X3_whyNot (l : Launch) (D : va_G) (tys : List (ClassId × FieldType)) {cI cJ cZ cB : ClassId} (hT : Ty tys cI cJ cZ cB) (hm : Nat) (mn mo mu mg mt mb : Int32) (hb b0 b1 b2 b3 b4 b5 b6 : Nat) (pa mi ga te kn wa ne : Nat → Int32) (wc la br : Int32) (s a : Int32) (hs : 0 ≤ s.toInt ∧ s.toInt ≤ 3) : Cn l D tys yX3_whyNot cX3_whyNot 4 (some .int) rm_X3_whyNot [(hm, .inr (3, [.ref hb, .int mn, .int mo, .int mu, .int mg, .int mt, .int mb])), (hb, .inr (0, [.ref b0, .ref b1, .ref b2, .ref b3, .ref b4, .ref b5, .ref b6, .int wc, .int la, .int br])), (b0, .inl (cI, 4, .inl pa)), (b1, .inl (cI, 16, .inl mi)), (b2, .inl (cI, 4, .inl ga)), (b3, .inl (cI, 4, .inl te)), (b4, .inl (cI, 4, .inl kn)), (b5, .inl (cI, 6, .inl wa)), (b6, .inl (cI, 16, .inl ne))] [.ref hm, .int s, .int a] (fun v W1 => ∃ (r : Int32), v = some (.int r) ∧ W1 = [(hm, .inr (3, [.ref hb, .int mn, .int mo, .int mu, .int mg, .int mt, .int mb])), (hb, .inr (0, [.ref b0, .ref b1, .ref b2, .ref b3, .ref b4, .ref b5, .ref b6, .int wc, .int la, .int br])), (b0, .inl (cI, 4, .inl pa)), (b1, .inl (cI, 16, .inl mi)), (b2, .inl (cI, 4, .inl ga)), (b3, .inl (cI, 4, .inl te)), (b4, .inl (cI, 4, .inl kn)), (b5, .inl (cI, 6, .inl wa)), (b6, .inl (cI, 16, .inl ne))] ∧ (0 ≤ r.toInt ∧ r.toInt ≤ 5)) := by
  refine Cn.of (by decide) (Nat.le_of_ble_eq_true rfl) ?_ ?_ (fun X eL eD eT eO eK eN eM C => ?_)
  · intro h; cases h
  · intro v ws h; obtain ⟨_, rfl, rfl, _⟩ := h; exact Or.inl rfl
  subst eL eD eT
  show V X 4 [(hm, .inr (3, [.ref hb, .int mn, .int mo, .int mu, .int mg, .int mt, .int mb])), (hb, .inr (0, [.ref b0, .ref b1, .ref b2, .ref b3, .ref b4, .ref b5, .ref b6, .int wc, .int la, .int br])), (b0, .inl (cI, 4, .inl pa)), (b1, .inl (cI, 16, .inl mi)), (b2, .inl (cI, 4, .inl ga)), (b3, .inl (cI, 4, .inl te)), (b4, .inl (cI, 4, .inl kn)), (b5, .inl (cI, 6, .inl wa)), (b6, .inl (cI, 16, .inl ne))] [(0, .ref hm), (1, .int s), (2, .int a)] [] 0 0 0
  refine x_iconst C 1 dX3_whyNot_0 (by decide) ?_
  refine x_iload_n C 1 dX3_whyNot_1 rfl rfl ?_
  refine x_ishl C dX3_whyNot_2 ?_
  refine x_istore_n C [(3, .int ((1 : Int32) <<< (s &&& 31))), (0, .ref hm), (1, .int s), (2, .int a)] dX3_whyNot_3 rfl (by decide) rfl ?_
  refine x_aload_n C 1 dX3_whyNot_4 rfl rfl ?_
  refine x_get C 0 3 dX3_whyNot_5 inlX3 rfl (by decide) wd_368 rfl rfl rfl ?_
  refine x_iload_n C 0 dX3_whyNot_8 rfl rfl ?_
  refine x_iand C dX3_whyNot_9 ?_
  refine x_if_eq C 15 dX3_whyNot_10 (by decide) (fun c_10 => ?_) (fun c_10 => ?_)
  · skip
    have e_10 : (mu &&& ((1 : Int32) <<< (s &&& 31)) : Int32).toInt = (0 : Int32).toInt := i_eq.mp c_10
    have : (0 : Int32).toInt = 0 := by decide
    refine x_aload_n C 1 dX3_whyNot_15 rfl rfl ?_
    refine x_get C 0 2 dX3_whyNot_16 inlX3 rfl (by decide) wd_367 rfl rfl rfl ?_
    refine x_iload_n C 0 dX3_whyNot_19 rfl rfl ?_
    refine x_iand C dX3_whyNot_20 ?_
    have J_65 : V X 4 [(hm, .inr (3, [.ref hb, .int mn, .int mo, .int mu, .int mg, .int mt, .int mb])), (hb, .inr (0, [.ref b0, .ref b1, .ref b2, .ref b3, .ref b4, .ref b5, .ref b6, .int wc, .int la, .int br])), (b0, .inl (cI, 4, .inl pa)), (b1, .inl (cI, 16, .inl mi)), (b2, .inl (cI, 4, .inl ga)), (b3, .inl (cI, 4, .inl te)), (b4, .inl (cI, 4, .inl kn)), (b5, .inl (cI, 6, .inl wa)), (b6, .inl (cI, 16, .inl ne))] [(3, .int ((1 : Int32) <<< (s &&& 31))), (0, .ref hm), (1, .int s), (2, .int a)] [] 65 0 0 := by
      refine x_aload_n C 1 dX3_whyNot_65 rfl rfl ?_
      refine x_iload_n C 2 dX3_whyNot_66 rfl rfl ?_
      refine x_iload_n C 3 dX3_whyNot_67 rfl rfl ?_
      refine x_callV C [.int s, .int a] [] [0, 1, 2, 3, 4, 5, 6, 7, 8] [] (q0 := 0) (c_X3_waitsFor (xl X) (xD X) (xt X) hT hm mn mo mu mg mt mb hb b0 b1 b2 b3 b4 b5 b6 pa mi ga te kn wa ne wc la br s a (by omega)) dX3_whyNot_68 wd_384 wd_385 wd_386 wd_71 wd_387 (np := 2) ⟨by decide, by decide, by decide +kernel⟩ rfl rfl (Nat.le_of_ble_eq_true rfl) (by decide) rfl rfl rfl rfl (by decide) rfl (by decide) (by decide) (fun v W1 h => ?_)
      obtain ⟨r_68, rfl, rfl, h_68⟩ := h
      show V X 4 [(hm, .inr (3, [.ref hb, .int mn, .int mo, .int mu, .int mg, .int mt, .int mb])), (hb, .inr (0, [.ref b0, .ref b1, .ref b2, .ref b3, .ref b4, .ref b5, .ref b6, .int wc, .int la, .int br])), (b0, .inl (cI, 4, .inl pa)), (b1, .inl (cI, 16, .inl mi)), (b2, .inl (cI, 4, .inl ga)), (b3, .inl (cI, 4, .inl te)), (b4, .inl (cI, 4, .inl kn)), (b5, .inl (cI, 6, .inl wa)), (b6, .inl (cI, 16, .inl ne))] [(3, .int ((1 : Int32) <<< (s &&& 31))), (0, .ref hm), (1, .int s), (2, .int a)] [.int r_68] 71 0 0
      refine x_if_eq C 78 dX3_whyNot_71 (by decide) (fun c_71 => ?_) (fun c_71 => ?_)
      · skip
        have e_71 : (r_68 : Int32).toInt = (0 : Int32).toInt := i_eq.mp c_71
        have : (0 : Int32).toInt = 0 := by decide
        refine x_iconst C 0 dX3_whyNot_78 (by decide) ?_
        have : (0 : Int32).toInt = 0 := by decide
        exact x_iret C dX3_whyNot_79 (Nat.zero_le _) (Nat.zero_le _) (by rw [eO]; exact ⟨0, rfl, rfl, (by omega)⟩)
      · skip
        have e_71 : ¬ ((r_68 : Int32).toInt = (0 : Int32).toInt) := fun h => c_71 (i_eq.mpr h)
        have : (0 : Int32).toInt = 0 := by decide
        refine x_iconst C 5 dX3_whyNot_74 (by decide) ?_
        refine x_goto C 79 dX3_whyNot_75 (by decide) ?_
        have : (5 : Int32).toInt = 5 := by decide
        exact x_iret C dX3_whyNot_79 (Nat.zero_le _) (Nat.zero_le _) (by rw [eO]; exact ⟨5, rfl, rfl, (by omega)⟩)
    refine x_if_eq C 35 dX3_whyNot_21 (by decide) (fun c_21 => ?_) (fun c_21 => ?_)
    · skip
      have e_21 : (mo &&& ((1 : Int32) <<< (s &&& 31)) : Int32).toInt = (0 : Int32).toInt := i_eq.mp c_21
      have : (0 : Int32).toInt = 0 := by decide
      refine x_aload_n C 1 dX3_whyNot_35 rfl rfl ?_
      refine x_get C 0 6 dX3_whyNot_36 inlX3 rfl (by decide) wd_371 rfl rfl rfl ?_
      refine x_if_ne C 44 dX3_whyNot_39 (by decide) (fun c_39 => ?_) (fun c_39 => ?_)
      · skip
        have e_39 : ¬ ((mb : Int32).toInt = (0 : Int32).toInt) := fun h => c_39 (i_eq.mpr h)
        have : (0 : Int32).toInt = 0 := by decide
        refine x_aload_n C 1 dX3_whyNot_44 rfl rfl ?_
        refine x_get C 0 5 dX3_whyNot_45 inlX3 rfl (by decide) wd_369 rfl rfl rfl ?_
        refine x_aload_n C 1 dX3_whyNot_48 rfl rfl ?_
        refine x_get C 0 0 dX3_whyNot_49 inlX3 rfl (by decide) wd_77 rfl rfl rfl ?_
        refine x_getN C 1 3 dX3_whyNot_52 inlX0 rfl (by decide) nt_12 rfl rfl rfl ?_
        refine x_iload_n C 2 dX3_whyNot_55 rfl rfl ?_
        have v_56 : vp_in s 4 := (vp_in_iff.mpr (by omega))
        refine x_iald C 5 0 dX3_whyNot_56 hT.1 rfl v_56 ?_
        refine x_ishr C dX3_whyNot_57 ?_
        refine x_iconst C 1 dX3_whyNot_58 (by decide) ?_
        refine x_iand C dX3_whyNot_59 ?_
        refine x_if_eq C 65 dX3_whyNot_60 (by decide) (fun c_60 => ?_) (fun c_60 => ?_)
        · skip
          have e_60 : ((mt >>> ((te (Int32.toNatClampNeg s)) &&& 31)) &&& 1 : Int32).toInt = (0 : Int32).toInt := i_eq.mp c_60
          have : (0 : Int32).toInt = 0 := by decide
          exact J_65 
        · skip
          have e_60 : ¬ (((mt >>> ((te (Int32.toNatClampNeg s)) &&& 31)) &&& 1 : Int32).toInt = (0 : Int32).toInt) := fun h => c_60 (i_eq.mpr h)
          have : (0 : Int32).toInt = 0 := by decide
          refine x_iconst C 4 dX3_whyNot_63 (by decide) ?_
          have : (4 : Int32).toInt = 4 := by decide
          exact x_iret C dX3_whyNot_64 (Nat.zero_le _) (Nat.zero_le _) (by rw [eO]; exact ⟨4, rfl, rfl, (by omega)⟩)
      · skip
        have e_39 : (mb : Int32).toInt = (0 : Int32).toInt := i_eq.mp c_39
        have : (0 : Int32).toInt = 0 := by decide
        refine x_iconst C 3 dX3_whyNot_42 (by decide) ?_
        have : (3 : Int32).toInt = 3 := by decide
        exact x_iret C dX3_whyNot_43 (Nat.zero_le _) (Nat.zero_le _) (by rw [eO]; exact ⟨3, rfl, rfl, (by omega)⟩)
    · skip
      have e_21 : ¬ ((mo &&& ((1 : Int32) <<< (s &&& 31)) : Int32).toInt = (0 : Int32).toInt) := fun h => c_21 (i_eq.mpr h)
      have : (0 : Int32).toInt = 0 := by decide
      refine x_aload_n C 1 dX3_whyNot_24 rfl rfl ?_
      refine x_get C 0 4 dX3_whyNot_25 inlX3 rfl (by decide) wd_370 rfl rfl rfl ?_
      refine x_iload_n C 0 dX3_whyNot_28 rfl rfl ?_
      refine x_iand C dX3_whyNot_29 ?_
      refine x_if_ne C 65 dX3_whyNot_30 (by decide) (fun c_30 => ?_) (fun c_30 => ?_)
      · skip
        have e_30 : ¬ ((mg &&& ((1 : Int32) <<< (s &&& 31)) : Int32).toInt = (0 : Int32).toInt) := fun h => c_30 (i_eq.mpr h)
        have : (0 : Int32).toInt = 0 := by decide
        exact J_65 
      · skip
        have e_30 : (mg &&& ((1 : Int32) <<< (s &&& 31)) : Int32).toInt = (0 : Int32).toInt := i_eq.mp c_30
        have : (0 : Int32).toInt = 0 := by decide
        refine x_iconst C 2 dX3_whyNot_33 (by decide) ?_
        have : (2 : Int32).toInt = 2 := by decide
        exact x_iret C dX3_whyNot_34 (Nat.zero_le _) (Nat.zero_le _) (by rw [eO]; exact ⟨2, rfl, rfl, (by omega)⟩)
  · skip
    have e_10 : ¬ ((mu &&& ((1 : Int32) <<< (s &&& 31)) : Int32).toInt = (0 : Int32).toInt) := fun h => c_10 (i_eq.mpr h)
    have : (0 : Int32).toInt = 0 := by decide
    refine x_iconst C 1 dX3_whyNot_13 (by decide) ?_
    have : (1 : Int32).toInt = 1 := by decide
    exact x_iret C dX3_whyNot_14 (Nat.zero_le _) (Nat.zero_le _) (by rw [eO]; exact ⟨1, rfl, rfl, (by omega)⟩)
abbrev rm_J6_bitCount_0f7a4 : Room := { frames := 0, cells := 0, slots := 0, locals := 0 }
set_option maxHeartbeats 4000000 in
set_option maxRecDepth 100000 in
theorem c_J6_bitCount_0f7a4 (l : Launch) (D : va_G) (tys : List (ClassId × FieldType)) {cI cJ cZ cB : ClassId} (hT : Ty tys cI cJ cZ cB) (a : Int32)  : Cn l D tys yJ6_bitCount_0f7a4 cJ6_bitCount_0f7a4 1 (some .int) rm_J6_bitCount_0f7a4 [] [.int a] (fun v W1 => ∃ (r : Int32), v = some (.int r) ∧ W1 = [] ∧ (True)) := by
  refine Cn.of (by decide) (Nat.le_of_ble_eq_true rfl) ?_ ?_ (fun X eL eD eT eO eK eN eM C => ?_)
  · intro h; cases h
  · intro v ws h; obtain ⟨_, rfl, rfl, _⟩ := h; exact Or.inl rfl
  subst eL eD eT
  show V X 1 [] [(0, .int a)] [] 0 0 0
  refine x_iload_n C 0 dJ6_bitCount_0f7a4_0 rfl rfl ?_
  refine x_iload_n C 0 dJ6_bitCount_0f7a4_1 rfl rfl ?_
  refine x_iconst C 1 dJ6_bitCount_0f7a4_2 (by decide) ?_
  refine x_iushr C dJ6_bitCount_0f7a4_3 ?_
  refine x_ldcw C dJ6_bitCount_0f7a4_4 wd_404 ?_
  refine x_iand C dJ6_bitCount_0f7a4_7 ?_
  refine x_isub C dJ6_bitCount_0f7a4_8 ?_
  refine x_istore_n C [(0, .int (a - (((Int32.toUInt32 a >>> (Int32.toUInt32 1 &&& Int32.toUInt32 31)).toInt32) &&& 1431655765)))] dJ6_bitCount_0f7a4_9 rfl (by decide) rfl ?_
  refine x_iload_n C 0 dJ6_bitCount_0f7a4_10 rfl rfl ?_
  refine x_ldcw C dJ6_bitCount_0f7a4_11 wd_405 ?_
  refine x_iand C dJ6_bitCount_0f7a4_14 ?_
  refine x_iload_n C 0 dJ6_bitCount_0f7a4_15 rfl rfl ?_
  refine x_iconst C 2 dJ6_bitCount_0f7a4_16 (by decide) ?_
  refine x_iushr C dJ6_bitCount_0f7a4_17 ?_
  refine x_ldcw C dJ6_bitCount_0f7a4_18 wd_405 ?_
  refine x_iand C dJ6_bitCount_0f7a4_21 ?_
  refine x_iadd C dJ6_bitCount_0f7a4_22 ?_
  refine x_istore_n C [(0, .int (((a - (((Int32.toUInt32 a >>> (Int32.toUInt32 1 &&& Int32.toUInt32 31)).toInt32) &&& 1431655765)) &&& 858993459) + (((Int32.toUInt32 (a - (((Int32.toUInt32 a >>> (Int32.toUInt32 1 &&& Int32.toUInt32 31)).toInt32) &&& 1431655765)) >>> (Int32.toUInt32 2 &&& Int32.toUInt32 31)).toInt32) &&& 858993459)))] dJ6_bitCount_0f7a4_23 rfl (by decide) rfl ?_
  refine x_iload_n C 0 dJ6_bitCount_0f7a4_24 rfl rfl ?_
  refine x_iload_n C 0 dJ6_bitCount_0f7a4_25 rfl rfl ?_
  refine x_iconst C 4 dJ6_bitCount_0f7a4_26 (by decide) ?_
  refine x_iushr C dJ6_bitCount_0f7a4_27 ?_
  refine x_iadd C dJ6_bitCount_0f7a4_28 ?_
  refine x_ldcw C dJ6_bitCount_0f7a4_29 wd_406 ?_
  refine x_iand C dJ6_bitCount_0f7a4_32 ?_
  refine x_istore_n C [(0, .int (((((a - (((Int32.toUInt32 a >>> (Int32.toUInt32 1 &&& Int32.toUInt32 31)).toInt32) &&& 1431655765)) &&& 858993459) + (((Int32.toUInt32 (a - (((Int32.toUInt32 a >>> (Int32.toUInt32 1 &&& Int32.toUInt32 31)).toInt32) &&& 1431655765)) >>> (Int32.toUInt32 2 &&& Int32.toUInt32 31)).toInt32) &&& 858993459)) + ((Int32.toUInt32 (((a - (((Int32.toUInt32 a >>> (Int32.toUInt32 1 &&& Int32.toUInt32 31)).toInt32) &&& 1431655765)) &&& 858993459) + (((Int32.toUInt32 (a - (((Int32.toUInt32 a >>> (Int32.toUInt32 1 &&& Int32.toUInt32 31)).toInt32) &&& 1431655765)) >>> (Int32.toUInt32 2 &&& Int32.toUInt32 31)).toInt32) &&& 858993459)) >>> (Int32.toUInt32 4 &&& Int32.toUInt32 31)).toInt32)) &&& 252645135))] dJ6_bitCount_0f7a4_33 rfl (by decide) rfl ?_
  refine x_iload_n C 0 dJ6_bitCount_0f7a4_34 rfl rfl ?_
  refine x_iload_n C 0 dJ6_bitCount_0f7a4_35 rfl rfl ?_
  refine x_bipush C 8 dJ6_bitCount_0f7a4_36 (by decide) ?_
  refine x_iushr C dJ6_bitCount_0f7a4_38 ?_
  refine x_iadd C dJ6_bitCount_0f7a4_39 ?_
  refine x_istore_n C [(0, .int ((((((a - (((Int32.toUInt32 a >>> (Int32.toUInt32 1 &&& Int32.toUInt32 31)).toInt32) &&& 1431655765)) &&& 858993459) + (((Int32.toUInt32 (a - (((Int32.toUInt32 a >>> (Int32.toUInt32 1 &&& Int32.toUInt32 31)).toInt32) &&& 1431655765)) >>> (Int32.toUInt32 2 &&& Int32.toUInt32 31)).toInt32) &&& 858993459)) + ((Int32.toUInt32 (((a - (((Int32.toUInt32 a >>> (Int32.toUInt32 1 &&& Int32.toUInt32 31)).toInt32) &&& 1431655765)) &&& 858993459) + (((Int32.toUInt32 (a - (((Int32.toUInt32 a >>> (Int32.toUInt32 1 &&& Int32.toUInt32 31)).toInt32) &&& 1431655765)) >>> (Int32.toUInt32 2 &&& Int32.toUInt32 31)).toInt32) &&& 858993459)) >>> (Int32.toUInt32 4 &&& Int32.toUInt32 31)).toInt32)) &&& 252645135) + ((Int32.toUInt32 (((((a - (((Int32.toUInt32 a >>> (Int32.toUInt32 1 &&& Int32.toUInt32 31)).toInt32) &&& 1431655765)) &&& 858993459) + (((Int32.toUInt32 (a - (((Int32.toUInt32 a >>> (Int32.toUInt32 1 &&& Int32.toUInt32 31)).toInt32) &&& 1431655765)) >>> (Int32.toUInt32 2 &&& Int32.toUInt32 31)).toInt32) &&& 858993459)) + ((Int32.toUInt32 (((a - (((Int32.toUInt32 a >>> (Int32.toUInt32 1 &&& Int32.toUInt32 31)).toInt32) &&& 1431655765)) &&& 858993459) + (((Int32.toUInt32 (a - (((Int32.toUInt32 a >>> (Int32.toUInt32 1 &&& Int32.toUInt32 31)).toInt32) &&& 1431655765)) >>> (Int32.toUInt32 2 &&& Int32.toUInt32 31)).toInt32) &&& 858993459)) >>> (Int32.toUInt32 4 &&& Int32.toUInt32 31)).toInt32)) &&& 252645135) >>> (Int32.toUInt32 8 &&& Int32.toUInt32 31)).toInt32)))] dJ6_bitCount_0f7a4_40 rfl (by decide) rfl ?_
  refine x_iload_n C 0 dJ6_bitCount_0f7a4_41 rfl rfl ?_
  refine x_iload_n C 0 dJ6_bitCount_0f7a4_42 rfl rfl ?_
  refine x_bipush C 16 dJ6_bitCount_0f7a4_43 (by decide) ?_
  refine x_iushr C dJ6_bitCount_0f7a4_45 ?_
  refine x_iadd C dJ6_bitCount_0f7a4_46 ?_
  refine x_istore_n C [(0, .int (((((((a - (((Int32.toUInt32 a >>> (Int32.toUInt32 1 &&& Int32.toUInt32 31)).toInt32) &&& 1431655765)) &&& 858993459) + (((Int32.toUInt32 (a - (((Int32.toUInt32 a >>> (Int32.toUInt32 1 &&& Int32.toUInt32 31)).toInt32) &&& 1431655765)) >>> (Int32.toUInt32 2 &&& Int32.toUInt32 31)).toInt32) &&& 858993459)) + ((Int32.toUInt32 (((a - (((Int32.toUInt32 a >>> (Int32.toUInt32 1 &&& Int32.toUInt32 31)).toInt32) &&& 1431655765)) &&& 858993459) + (((Int32.toUInt32 (a - (((Int32.toUInt32 a >>> (Int32.toUInt32 1 &&& Int32.toUInt32 31)).toInt32) &&& 1431655765)) >>> (Int32.toUInt32 2 &&& Int32.toUInt32 31)).toInt32) &&& 858993459)) >>> (Int32.toUInt32 4 &&& Int32.toUInt32 31)).toInt32)) &&& 252645135) + ((Int32.toUInt32 (((((a - (((Int32.toUInt32 a >>> (Int32.toUInt32 1 &&& Int32.toUInt32 31)).toInt32) &&& 1431655765)) &&& 858993459) + (((Int32.toUInt32 (a - (((Int32.toUInt32 a >>> (Int32.toUInt32 1 &&& Int32.toUInt32 31)).toInt32) &&& 1431655765)) >>> (Int32.toUInt32 2 &&& Int32.toUInt32 31)).toInt32) &&& 858993459)) + ((Int32.toUInt32 (((a - (((Int32.toUInt32 a >>> (Int32.toUInt32 1 &&& Int32.toUInt32 31)).toInt32) &&& 1431655765)) &&& 858993459) + (((Int32.toUInt32 (a - (((Int32.toUInt32 a >>> (Int32.toUInt32 1 &&& Int32.toUInt32 31)).toInt32) &&& 1431655765)) >>> (Int32.toUInt32 2 &&& Int32.toUInt32 31)).toInt32) &&& 858993459)) >>> (Int32.toUInt32 4 &&& Int32.toUInt32 31)).toInt32)) &&& 252645135) >>> (Int32.toUInt32 8 &&& Int32.toUInt32 31)).toInt32)) + ((Int32.toUInt32 ((((((a - (((Int32.toUInt32 a >>> (Int32.toUInt32 1 &&& Int32.toUInt32 31)).toInt32) &&& 1431655765)) &&& 858993459) + (((Int32.toUInt32 (a - (((Int32.toUInt32 a >>> (Int32.toUInt32 1 &&& Int32.toUInt32 31)).toInt32) &&& 1431655765)) >>> (Int32.toUInt32 2 &&& Int32.toUInt32 31)).toInt32) &&& 858993459)) + ((Int32.toUInt32 (((a - (((Int32.toUInt32 a >>> (Int32.toUInt32 1 &&& Int32.toUInt32 31)).toInt32) &&& 1431655765)) &&& 858993459) + (((Int32.toUInt32 (a - (((Int32.toUInt32 a >>> (Int32.toUInt32 1 &&& Int32.toUInt32 31)).toInt32) &&& 1431655765)) >>> (Int32.toUInt32 2 &&& Int32.toUInt32 31)).toInt32) &&& 858993459)) >>> (Int32.toUInt32 4 &&& Int32.toUInt32 31)).toInt32)) &&& 252645135) + ((Int32.toUInt32 (((((a - (((Int32.toUInt32 a >>> (Int32.toUInt32 1 &&& Int32.toUInt32 31)).toInt32) &&& 1431655765)) &&& 858993459) + (((Int32.toUInt32 (a - (((Int32.toUInt32 a >>> (Int32.toUInt32 1 &&& Int32.toUInt32 31)).toInt32) &&& 1431655765)) >>> (Int32.toUInt32 2 &&& Int32.toUInt32 31)).toInt32) &&& 858993459)) + ((Int32.toUInt32 (((a - (((Int32.toUInt32 a >>> (Int32.toUInt32 1 &&& Int32.toUInt32 31)).toInt32) &&& 1431655765)) &&& 858993459) + (((Int32.toUInt32 (a - (((Int32.toUInt32 a >>> (Int32.toUInt32 1 &&& Int32.toUInt32 31)).toInt32) &&& 1431655765)) >>> (Int32.toUInt32 2 &&& Int32.toUInt32 31)).toInt32) &&& 858993459)) >>> (Int32.toUInt32 4 &&& Int32.toUInt32 31)).toInt32)) &&& 252645135) >>> (Int32.toUInt32 8 &&& Int32.toUInt32 31)).toInt32)) >>> (Int32.toUInt32 16 &&& Int32.toUInt32 31)).toInt32)))] dJ6_bitCount_0f7a4_47 rfl (by decide) rfl ?_
  refine x_iload_n C 0 dJ6_bitCount_0f7a4_48 rfl rfl ?_
  refine x_bipush C 63 dJ6_bitCount_0f7a4_49 (by decide) ?_
  refine x_iand C dJ6_bitCount_0f7a4_51 ?_
  exact x_iret C dJ6_bitCount_0f7a4_52 (Nat.zero_le _) (Nat.zero_le _) (by rw [eO]; exact ⟨((((((((a - (((Int32.toUInt32 a >>> (Int32.toUInt32 1 &&& Int32.toUInt32 31)).toInt32) &&& 1431655765)) &&& 858993459) + (((Int32.toUInt32 (a - (((Int32.toUInt32 a >>> (Int32.toUInt32 1 &&& Int32.toUInt32 31)).toInt32) &&& 1431655765)) >>> (Int32.toUInt32 2 &&& Int32.toUInt32 31)).toInt32) &&& 858993459)) + ((Int32.toUInt32 (((a - (((Int32.toUInt32 a >>> (Int32.toUInt32 1 &&& Int32.toUInt32 31)).toInt32) &&& 1431655765)) &&& 858993459) + (((Int32.toUInt32 (a - (((Int32.toUInt32 a >>> (Int32.toUInt32 1 &&& Int32.toUInt32 31)).toInt32) &&& 1431655765)) >>> (Int32.toUInt32 2 &&& Int32.toUInt32 31)).toInt32) &&& 858993459)) >>> (Int32.toUInt32 4 &&& Int32.toUInt32 31)).toInt32)) &&& 252645135) + ((Int32.toUInt32 (((((a - (((Int32.toUInt32 a >>> (Int32.toUInt32 1 &&& Int32.toUInt32 31)).toInt32) &&& 1431655765)) &&& 858993459) + (((Int32.toUInt32 (a - (((Int32.toUInt32 a >>> (Int32.toUInt32 1 &&& Int32.toUInt32 31)).toInt32) &&& 1431655765)) >>> (Int32.toUInt32 2 &&& Int32.toUInt32 31)).toInt32) &&& 858993459)) + ((Int32.toUInt32 (((a - (((Int32.toUInt32 a >>> (Int32.toUInt32 1 &&& Int32.toUInt32 31)).toInt32) &&& 1431655765)) &&& 858993459) + (((Int32.toUInt32 (a - (((Int32.toUInt32 a >>> (Int32.toUInt32 1 &&& Int32.toUInt32 31)).toInt32) &&& 1431655765)) >>> (Int32.toUInt32 2 &&& Int32.toUInt32 31)).toInt32) &&& 858993459)) >>> (Int32.toUInt32 4 &&& Int32.toUInt32 31)).toInt32)) &&& 252645135) >>> (Int32.toUInt32 8 &&& Int32.toUInt32 31)).toInt32)) + ((Int32.toUInt32 ((((((a - (((Int32.toUInt32 a >>> (Int32.toUInt32 1 &&& Int32.toUInt32 31)).toInt32) &&& 1431655765)) &&& 858993459) + (((Int32.toUInt32 (a - (((Int32.toUInt32 a >>> (Int32.toUInt32 1 &&& Int32.toUInt32 31)).toInt32) &&& 1431655765)) >>> (Int32.toUInt32 2 &&& Int32.toUInt32 31)).toInt32) &&& 858993459)) + ((Int32.toUInt32 (((a - (((Int32.toUInt32 a >>> (Int32.toUInt32 1 &&& Int32.toUInt32 31)).toInt32) &&& 1431655765)) &&& 858993459) + (((Int32.toUInt32 (a - (((Int32.toUInt32 a >>> (Int32.toUInt32 1 &&& Int32.toUInt32 31)).toInt32) &&& 1431655765)) >>> (Int32.toUInt32 2 &&& Int32.toUInt32 31)).toInt32) &&& 858993459)) >>> (Int32.toUInt32 4 &&& Int32.toUInt32 31)).toInt32)) &&& 252645135) + ((Int32.toUInt32 (((((a - (((Int32.toUInt32 a >>> (Int32.toUInt32 1 &&& Int32.toUInt32 31)).toInt32) &&& 1431655765)) &&& 858993459) + (((Int32.toUInt32 (a - (((Int32.toUInt32 a >>> (Int32.toUInt32 1 &&& Int32.toUInt32 31)).toInt32) &&& 1431655765)) >>> (Int32.toUInt32 2 &&& Int32.toUInt32 31)).toInt32) &&& 858993459)) + ((Int32.toUInt32 (((a - (((Int32.toUInt32 a >>> (Int32.toUInt32 1 &&& Int32.toUInt32 31)).toInt32) &&& 1431655765)) &&& 858993459) + (((Int32.toUInt32 (a - (((Int32.toUInt32 a >>> (Int32.toUInt32 1 &&& Int32.toUInt32 31)).toInt32) &&& 1431655765)) >>> (Int32.toUInt32 2 &&& Int32.toUInt32 31)).toInt32) &&& 858993459)) >>> (Int32.toUInt32 4 &&& Int32.toUInt32 31)).toInt32)) &&& 252645135) >>> (Int32.toUInt32 8 &&& Int32.toUInt32 31)).toInt32)) >>> (Int32.toUInt32 16 &&& Int32.toUInt32 31)).toInt32)) &&& 63), rfl, rfl, trivial⟩)
abbrev rm_X3_deepWith : Room := { frames := 1, cells := 0, slots := 0, locals := 20 }
set_option maxHeartbeats 4000000 in
set_option maxRecDepth 100000 in
theorem c_X3_deepWith (l : Launch) (D : va_G) (tys : List (ClassId × FieldType)) {cI cJ cZ cB : ClassId} (hT : Ty tys cI cJ cZ cB) (hm : Nat) (mn mo mu mg mt mb : Int32) (hb : Nat) (s : Int32)  : Cn l D tys yX3_deepWith cX3_deepWith 2 (some .int) rm_X3_deepWith [(hm, .inr (3, [.ref hb, .int mn, .int mo, .int mu, .int mg, .int mt, .int mb]))] [.ref hm, .int s] (fun v W1 => ∃ (r : Int32), v = some (.int r) ∧ W1 = [(hm, .inr (3, [.ref hb, .int mn, .int mo, .int mu, .int mg, .int mt, .int mb]))] ∧ (True)) := by
  refine Cn.of (by decide) (Nat.le_of_ble_eq_true rfl) ?_ ?_ (fun X eL eD eT eO eK eN eM C => ?_)
  · intro h; cases h
  · intro v ws h; obtain ⟨_, rfl, rfl, _⟩ := h; exact Or.inl rfl
  subst eL eD eT
  show V X 2 [(hm, .inr (3, [.ref hb, .int mn, .int mo, .int mu, .int mg, .int mt, .int mb]))] [(0, .ref hm), (1, .int s)] [] 0 0 0
  refine x_aload_n C 0 dX3_deepWith_0 rfl rfl ?_
  refine x_get C 0 2 dX3_deepWith_1 inlX3 rfl (by decide) wd_367 rfl rfl rfl ?_
  refine x_iconst C 1 dX3_deepWith_4 (by decide) ?_
  refine x_iload_n C 1 dX3_deepWith_5 rfl rfl ?_
  refine x_ishl C dX3_deepWith_6 ?_
  refine x_ior C dX3_deepWith_7 ?_
  refine x_callS C [.int (mo ||| ((1 : Int32) <<< (s &&& 31)))] [(hm, .inr (3, [.ref hb, .int mn, .int mo, .int mu, .int mg, .int mt, .int mb]))] [] [0] (c_J6_bitCount_0f7a4 (xl X) (xD X) (xt X) hT (mo ||| ((1 : Int32) <<< (s &&& 31))) ) dX3_deepWith_8 wd_400 wd_401 wd_402 wd_403 (np := 1) ⟨by decide, by decide, by decide +kernel⟩ rfl rfl (Nat.le_of_ble_eq_true rfl) (by decide) rfl (by decide) rfl (by decide) (by decide) (fun v W1 h => ?_)
  obtain ⟨r_8, rfl, rfl, h_8⟩ := h
  show V X 2 [(hm, .inr (3, [.ref hb, .int mn, .int mo, .int mu, .int mg, .int mt, .int mb]))] [(0, .ref hm), (1, .int s)] [.int r_8] 11 0 0
  exact x_iret C dX3_deepWith_11 (Nat.zero_le _) (Nat.zero_le _) (by rw [eO]; exact ⟨r_8, rfl, rfl, trivial⟩)
abbrev rm_X3_rowAfter : Room := { frames := 1, cells := 0, slots := 0, locals := 20 }
set_option maxHeartbeats 4000000 in
set_option maxRecDepth 100000 in
theorem c_X3_rowAfter (l : Launch) (D : va_G) (tys : List (ClassId × FieldType)) {cI cJ cZ cB : ClassId} (hT : Ty tys cI cJ cZ cB) (hm : Nat) (mn mo mu mg mt mb : Int32) (hb b0 b1 b2 b3 b4 b5 b6 : Nat) (pa mi ga te kn wa ne : Nat → Int32) (wc la br : Int32) (s a : Int32)  : Cn l D tys yX3_rowAfter cX3_rowAfter 6 (some .int) rm_X3_rowAfter [(hm, .inr (3, [.ref hb, .int mn, .int mo, .int mu, .int mg, .int mt, .int mb])), (hb, .inr (0, [.ref b0, .ref b1, .ref b2, .ref b3, .ref b4, .ref b5, .ref b6, .int wc, .int la, .int br])), (b0, .inl (cI, 4, .inl pa)), (b1, .inl (cI, 16, .inl mi)), (b2, .inl (cI, 4, .inl ga)), (b3, .inl (cI, 4, .inl te)), (b4, .inl (cI, 4, .inl kn)), (b5, .inl (cI, 6, .inl wa)), (b6, .inl (cI, 16, .inl ne))] [.ref hm, .int s, .int a] (fun v W1 => ∃ (r : Int32), v = some (.int r) ∧ W1 = [(hm, .inr (3, [.ref hb, .int mn, .int mo, .int mu, .int mg, .int mt, .int mb])), (hb, .inr (0, [.ref b0, .ref b1, .ref b2, .ref b3, .ref b4, .ref b5, .ref b6, .int wc, .int la, .int br])), (b0, .inl (cI, 4, .inl pa)), (b1, .inl (cI, 16, .inl mi)), (b2, .inl (cI, 4, .inl ga)), (b3, .inl (cI, 4, .inl te)), (b4, .inl (cI, 4, .inl kn)), (b5, .inl (cI, 6, .inl wa)), (b6, .inl (cI, 16, .inl ne))] ∧ (True)) := by
  refine Cn.of (by decide) (Nat.le_of_ble_eq_true rfl) ?_ ?_ (fun X eL eD eT eO eK eN eM C => ?_)
  · intro h; cases h
  · intro v ws h; obtain ⟨_, rfl, rfl, _⟩ := h; exact Or.inl rfl
  subst eL eD eT
  show V X 6 [(hm, .inr (3, [.ref hb, .int mn, .int mo, .int mu, .int mg, .int mt, .int mb])), (hb, .inr (0, [.ref b0, .ref b1, .ref b2, .ref b3, .ref b4, .ref b5, .ref b6, .int wc, .int la, .int br])), (b0, .inl (cI, 4, .inl pa)), (b1, .inl (cI, 16, .inl mi)), (b2, .inl (cI, 4, .inl ga)), (b3, .inl (cI, 4, .inl te)), (b4, .inl (cI, 4, .inl kn)), (b5, .inl (cI, 6, .inl wa)), (b6, .inl (cI, 16, .inl ne))] [(0, .ref hm), (1, .int s), (2, .int a)] [] 0 0 0
  refine x_aload_n C 0 dX3_rowAfter_0 rfl rfl ?_
  refine x_get C 0 1 dX3_rowAfter_1 inlX3 rfl (by decide) wd_366 rfl rfl rfl ?_
  refine x_bipush C 12 dX3_rowAfter_4 (by decide) ?_
  refine x_ishr C dX3_rowAfter_6 ?_
  refine x_istore_n C [(3, .int (mn >>> (12 &&& 31))), (0, .ref hm), (1, .int s), (2, .int a)] dX3_rowAfter_7 rfl (by decide) rfl ?_
  refine x_aload_n C 1 dX3_rowAfter_8 rfl rfl ?_
  refine x_get C 0 2 dX3_rowAfter_9 inlX3 rfl (by decide) wd_367 rfl rfl rfl ?_
  refine x_iload_n C 2 dX3_rowAfter_12 rfl rfl ?_
  refine x_ishr C dX3_rowAfter_13 ?_
  refine x_iconst C 1 dX3_rowAfter_14 (by decide) ?_
  refine x_iand C dX3_rowAfter_15 ?_
  have J_24 : ∀ (s0_24 : Int32), V X 6 [(hm, .inr (3, [.ref hb, .int mn, .int mo, .int mu, .int mg, .int mt, .int mb])), (hb, .inr (0, [.ref b0, .ref b1, .ref b2, .ref b3, .ref b4, .ref b5, .ref b6, .int wc, .int la, .int br])), (b0, .inl (cI, 4, .inl pa)), (b1, .inl (cI, 16, .inl mi)), (b2, .inl (cI, 4, .inl ga)), (b3, .inl (cI, 4, .inl te)), (b4, .inl (cI, 4, .inl kn)), (b5, .inl (cI, 6, .inl wa)), (b6, .inl (cI, 16, .inl ne))] [(3, .int (mn >>> (12 &&& 31))), (0, .ref hm), (1, .int s), (2, .int a)] [.int s0_24] 24 0 0 := by
    intro s0_24
    refine x_istore C [(4, .int s0_24), (3, .int (mn >>> (12 &&& 31))), (0, .ref hm), (1, .int s), (2, .int a)] dX3_rowAfter_24 (by decide) rfl ?_
    refine x_aload_n C 2 dX3_rowAfter_26 rfl rfl ?_
    refine x_get C 0 0 dX3_rowAfter_27 inlX3 rfl (by decide) wd_77 rfl rfl rfl ?_
    refine x_getN C 1 8 dX3_rowAfter_30 inlX0 rfl (by decide) nt_19 rfl rfl rfl ?_
    refine x_iconst C 2 dX3_rowAfter_33 (by decide) ?_
    refine x_icmp_eq C 43 dX3_rowAfter_34 (by decide) (fun c_34 => ?_) (fun c_34 => ?_)
    · skip
      have e_34 : (la : Int32).toInt = (2 : Int32).toInt := i_eq.mp c_34
      have : (2 : Int32).toInt = 2 := by decide
      refine x_iload_n C 1 dX3_rowAfter_43 rfl rfl ?_
      exact x_iret C dX3_rowAfter_44 (Nat.zero_le _) (Nat.zero_le _) (by rw [eO]; exact ⟨(mn >>> (12 &&& 31)), rfl, rfl, trivial⟩)
    · skip
      have e_34 : ¬ ((la : Int32).toInt = (2 : Int32).toInt) := fun h => c_34 (i_eq.mpr h)
      have : (2 : Int32).toInt = 2 := by decide
      refine x_iload C 0 dX3_rowAfter_37 rfl ?_
      refine x_iload_n C 4 dX3_rowAfter_39 rfl rfl ?_
      refine x_icmp_eq C 45 dX3_rowAfter_40 (by decide) (fun c_40 => ?_) (fun c_40 => ?_)
      · skip
        have e_40 : (s0_24 : Int32).toInt = (a : Int32).toInt := i_eq.mp c_40
        refine x_iload C 0 dX3_rowAfter_45 rfl ?_
        refine x_if_eq C 54 dX3_rowAfter_47 (by decide) (fun c_47 => ?_) (fun c_47 => ?_)
        · skip
          have e_47 : (s0_24 : Int32).toInt = (0 : Int32).toInt := i_eq.mp c_47
          have : (0 : Int32).toInt = 0 := by decide
          refine x_iload_n C 3 dX3_rowAfter_54 rfl rfl ?_
          refine x_iconst C 1 dX3_rowAfter_55 (by decide) ?_
          refine x_iadd C dX3_rowAfter_56 ?_
          refine x_istore C [(5, .int (s + 1)), (4, .int s0_24), (3, .int (mn >>> (12 &&& 31))), (0, .ref hm), (1, .int s), (2, .int a)] dX3_rowAfter_57 (by decide) rfl ?_
          refine x_aload_n C 3 dX3_rowAfter_59 rfl rfl ?_
          refine x_get C 0 0 dX3_rowAfter_60 inlX3 rfl (by decide) wd_77 rfl rfl rfl ?_
          refine x_getN C 1 8 dX3_rowAfter_63 inlX0 rfl (by decide) nt_19 rfl rfl rfl ?_
          refine x_if_ne C 78 dX3_rowAfter_66 (by decide) (fun c_66 => ?_) (fun c_66 => ?_)
          · skip
            have e_66 : ¬ ((la : Int32).toInt = (0 : Int32).toInt) := fun h => c_66 (i_eq.mpr h)
            have : (0 : Int32).toInt = 0 := by decide
            refine x_iload_n C 2 dX3_rowAfter_78 rfl rfl ?_
            refine x_iload C 0 dX3_rowAfter_79 rfl ?_
            refine x_iconst C 3 dX3_rowAfter_81 (by decide) ?_
            refine x_aload_n C 3 dX3_rowAfter_82 rfl rfl ?_
            refine x_get C 0 2 dX3_rowAfter_83 inlX3 rfl (by decide) wd_367 rfl rfl rfl ?_
            refine x_callS C [.int mo] [(hm, .inr (3, [.ref hb, .int mn, .int mo, .int mu, .int mg, .int mt, .int mb])), (hb, .inr (0, [.ref b0, .ref b1, .ref b2, .ref b3, .ref b4, .ref b5, .ref b6, .int wc, .int la, .int br])), (b0, .inl (cI, 4, .inl pa)), (b1, .inl (cI, 16, .inl mi)), (b2, .inl (cI, 4, .inl ga)), (b3, .inl (cI, 4, .inl te)), (b4, .inl (cI, 4, .inl kn)), (b5, .inl (cI, 6, .inl wa)), (b6, .inl (cI, 16, .inl ne))] [] [0, 1, 2, 3, 4, 5, 6, 7, 8] (c_J6_bitCount_0f7a4 (xl X) (xD X) (xt X) hT mo ) dX3_rowAfter_86 wd_400 wd_401 wd_402 wd_403 (np := 1) ⟨by decide, by decide, by decide +kernel⟩ rfl rfl (Nat.le_of_ble_eq_true rfl) (by decide) rfl (by decide) rfl (by decide) (by decide) (fun v W1 h => ?_)
            obtain ⟨r_86, rfl, rfl, h_86⟩ := h
            show V X 6 [(hm, .inr (3, [.ref hb, .int mn, .int mo, .int mu, .int mg, .int mt, .int mb])), (hb, .inr (0, [.ref b0, .ref b1, .ref b2, .ref b3, .ref b4, .ref b5, .ref b6, .int wc, .int la, .int br])), (b0, .inl (cI, 4, .inl pa)), (b1, .inl (cI, 16, .inl mi)), (b2, .inl (cI, 4, .inl ga)), (b3, .inl (cI, 4, .inl te)), (b4, .inl (cI, 4, .inl kn)), (b5, .inl (cI, 6, .inl wa)), (b6, .inl (cI, 16, .inl ne))] [(5, .int (s + 1)), (4, .int s0_24), (3, .int (mn >>> (12 &&& 31))), (0, .ref hm), (1, .int s), (2, .int a)] [.int r_86, .int 3, .int (s + 1), .int (mn >>> (12 &&& 31))] 89 0 0
            refine x_imul C dX3_rowAfter_89 ?_
            refine x_ishl C dX3_rowAfter_90 ?_
            refine x_ior C dX3_rowAfter_91 ?_
            exact x_iret C dX3_rowAfter_92 (Nat.zero_le _) (Nat.zero_le _) (by rw [eO]; exact ⟨((mn >>> (12 &&& 31)) ||| ((s + 1) <<< ((3 * r_86) &&& 31))), rfl, rfl, trivial⟩)
          · skip
            have e_66 : (la : Int32).toInt = (0 : Int32).toInt := i_eq.mp c_66
            have : (0 : Int32).toInt = 0 := by decide
            refine x_iload_n C 2 dX3_rowAfter_69 rfl rfl ?_
            refine x_iconst C 3 dX3_rowAfter_70 (by decide) ?_
            refine x_ishl C dX3_rowAfter_71 ?_
            refine x_iload C 0 dX3_rowAfter_72 rfl ?_
            refine x_ior C dX3_rowAfter_74 ?_
            refine x_goto C 92 dX3_rowAfter_75 (by decide) ?_
            exact x_iret C dX3_rowAfter_92 (Nat.zero_le _) (Nat.zero_le _) (by rw [eO]; exact ⟨(((mn >>> (12 &&& 31)) <<< (3 &&& 31)) ||| (s + 1)), rfl, rfl, trivial⟩)
        · skip
          have e_47 : ¬ ((s0_24 : Int32).toInt = (0 : Int32).toInt) := fun h => c_47 (i_eq.mpr h)
          have : (0 : Int32).toInt = 0 := by decide
          refine x_iload_n C 1 dX3_rowAfter_50 rfl rfl ?_
          refine x_iconst C 3 dX3_rowAfter_51 (by decide) ?_
          refine x_ishr C dX3_rowAfter_52 ?_
          exact x_iret C dX3_rowAfter_53 (Nat.zero_le _) (Nat.zero_le _) (by rw [eO]; exact ⟨((mn >>> (12 &&& 31)) >>> (3 &&& 31)), rfl, rfl, trivial⟩)
      · skip
        have e_40 : ¬ ((s0_24 : Int32).toInt = (a : Int32).toInt) := fun h => c_40 (i_eq.mpr h)
        refine x_iload_n C 1 dX3_rowAfter_43 rfl rfl ?_
        exact x_iret C dX3_rowAfter_44 (Nat.zero_le _) (Nat.zero_le _) (by rw [eO]; exact ⟨(mn >>> (12 &&& 31)), rfl, rfl, trivial⟩)
  refine x_if_eq C 23 dX3_rowAfter_16 (by decide) (fun c_16 => ?_) (fun c_16 => ?_)
  · skip
    have e_16 : ((mo >>> (s &&& 31)) &&& 1 : Int32).toInt = (0 : Int32).toInt := i_eq.mp c_16
    have : (0 : Int32).toInt = 0 := by decide
    refine x_iconst C 0 dX3_rowAfter_23 (by decide) ?_
    exact J_24 0
  · skip
    have e_16 : ¬ (((mo >>> (s &&& 31)) &&& 1 : Int32).toInt = (0 : Int32).toInt) := fun h => c_16 (i_eq.mpr h)
    have : (0 : Int32).toInt = 0 := by decide
    refine x_iconst C 1 dX3_rowAfter_19 (by decide) ?_
    refine x_goto C 24 dX3_rowAfter_20 (by decide) ?_
    exact J_24 1
abbrev rm_X3_after : Room := { frames := 2, cells := 0, slots := 0, locals := 45 }
set_option maxHeartbeats 4000000 in
set_option maxRecDepth 100000 in
theorem c_X3_after (l : Launch) (D : va_G) (tys : List (ClassId × FieldType)) {cI cJ cZ cB : ClassId} (hT : Ty tys cI cJ cZ cB) (hm : Nat) (mn mo mu mg mt mb : Int32) (hb b0 b1 b2 b3 b4 b5 b6 : Nat) (pa mi ga te kn wa ne : Nat → Int32) (wc la br : Int32) (s : Int32) (hs : 0 ≤ s.toInt ∧ s.toInt ≤ 3) : Cn l D tys yX3_after cX3_after 4 (some .int) rm_X3_after [(hm, .inr (3, [.ref hb, .int mn, .int mo, .int mu, .int mg, .int mt, .int mb])), (hb, .inr (0, [.ref b0, .ref b1, .ref b2, .ref b3, .ref b4, .ref b5, .ref b6, .int wc, .int la, .int br])), (b0, .inl (cI, 4, .inl pa)), (b1, .inl (cI, 16, .inl mi)), (b2, .inl (cI, 4, .inl ga)), (b3, .inl (cI, 4, .inl te)), (b4, .inl (cI, 4, .inl kn)), (b5, .inl (cI, 6, .inl wa)), (b6, .inl (cI, 16, .inl ne))] [.ref hm, .int s] (fun v W1 => ∃ (r : Int32), v = some (.int r) ∧ W1 = [(hm, .inr (3, [.ref hb, .int mn, .int mo, .int mu, .int mg, .int mt, .int mb])), (hb, .inr (0, [.ref b0, .ref b1, .ref b2, .ref b3, .ref b4, .ref b5, .ref b6, .int wc, .int la, .int br])), (b0, .inl (cI, 4, .inl pa)), (b1, .inl (cI, 16, .inl mi)), (b2, .inl (cI, 4, .inl ga)), (b3, .inl (cI, 4, .inl te)), (b4, .inl (cI, 4, .inl kn)), (b5, .inl (cI, 6, .inl wa)), (b6, .inl (cI, 16, .inl ne))] ∧ (True)) := by
  refine Cn.of (by decide) (Nat.le_of_ble_eq_true rfl) ?_ ?_ (fun X eL eD eT eO eK eN eM C => ?_)
  · intro h; cases h
  · intro v ws h; obtain ⟨_, rfl, rfl, _⟩ := h; exact Or.inl rfl
  subst eL eD eT
  show V X 4 [(hm, .inr (3, [.ref hb, .int mn, .int mo, .int mu, .int mg, .int mt, .int mb])), (hb, .inr (0, [.ref b0, .ref b1, .ref b2, .ref b3, .ref b4, .ref b5, .ref b6, .int wc, .int la, .int br])), (b0, .inl (cI, 4, .inl pa)), (b1, .inl (cI, 16, .inl mi)), (b2, .inl (cI, 4, .inl ga)), (b3, .inl (cI, 4, .inl te)), (b4, .inl (cI, 4, .inl kn)), (b5, .inl (cI, 6, .inl wa)), (b6, .inl (cI, 16, .inl ne))] [(0, .ref hm), (1, .int s)] [] 0 0 0
  refine x_aload_n C 0 dX3_after_0 rfl rfl ?_
  refine x_get C 0 1 dX3_after_1 inlX3 rfl (by decide) wd_366 rfl rfl rfl ?_
  refine x_sipush C 4095 dX3_after_4 (by decide) ?_
  refine x_iand C dX3_after_7 ?_
  refine x_iconst C 1 dX3_after_8 (by decide) ?_
  refine x_iconst C 3 dX3_after_9 (by decide) ?_
  refine x_iload_n C 1 dX3_after_10 rfl rfl ?_
  refine x_imul C dX3_after_11 ?_
  refine x_ishl C dX3_after_12 ?_
  refine x_iadd C dX3_after_13 ?_
  refine x_istore_n C [(2, .int ((mn &&& 4095) + ((1 : Int32) <<< ((3 * s) &&& 31)))), (0, .ref hm), (1, .int s)] dX3_after_14 rfl (by decide) rfl ?_
  refine x_iload_n C 0 dX3_after_15 rfl rfl ?_
  refine x_iload_n C 2 dX3_after_16 rfl rfl ?_
  refine x_callS C [.int ((mn &&& 4095) + ((1 : Int32) <<< ((3 * s) &&& 31))), .int s] [(hm, .inr (3, [.ref hb, .int mn, .int mo, .int mu, .int mg, .int mt, .int mb])), (hb, .inr (0, [.ref b0, .ref b1, .ref b2, .ref b3, .ref b4, .ref b5, .ref b6, .int wc, .int la, .int br])), (b0, .inl (cI, 4, .inl pa)), (b1, .inl (cI, 16, .inl mi)), (b2, .inl (cI, 4, .inl ga)), (b3, .inl (cI, 4, .inl te)), (b4, .inl (cI, 4, .inl kn)), (b5, .inl (cI, 6, .inl wa)), (b6, .inl (cI, 16, .inl ne))] [] [0, 1, 2, 3, 4, 5, 6, 7, 8] (c_X3_partsTold (xl X) (xD X) (xt X) hT ((mn &&& 4095) + ((1 : Int32) <<< ((3 * s) &&& 31))) s ) dX3_after_17 wd_372 wd_373 wd_71 wd_374 (np := 2) ⟨by decide, by decide, by decide +kernel⟩ rfl rfl (Nat.le_of_ble_eq_true rfl) (by decide) rfl (by decide) rfl (by decide) (by decide) (fun v W1 h => ?_)
  obtain ⟨r_17, rfl, rfl, h_17⟩ := h
  show V X 4 [(hm, .inr (3, [.ref hb, .int mn, .int mo, .int mu, .int mg, .int mt, .int mb])), (hb, .inr (0, [.ref b0, .ref b1, .ref b2, .ref b3, .ref b4, .ref b5, .ref b6, .int wc, .int la, .int br])), (b0, .inl (cI, 4, .inl pa)), (b1, .inl (cI, 16, .inl mi)), (b2, .inl (cI, 4, .inl ga)), (b3, .inl (cI, 4, .inl te)), (b4, .inl (cI, 4, .inl kn)), (b5, .inl (cI, 6, .inl wa)), (b6, .inl (cI, 16, .inl ne))] [(2, .int ((mn &&& 4095) + ((1 : Int32) <<< ((3 * s) &&& 31)))), (0, .ref hm), (1, .int s)] [.int r_17] 20 0 0
  refine x_aload_n C 1 dX3_after_20 rfl rfl ?_
  refine x_get C 0 0 dX3_after_21 inlX3 rfl (by decide) wd_77 rfl rfl rfl ?_
  refine x_getN C 1 0 dX3_after_24 inlX0 rfl (by decide) nt_5 rfl rfl rfl ?_
  refine x_iload_n C 2 dX3_after_27 rfl rfl ?_
  have v_28 : vp_in s 4 := (vp_in_iff.mpr (by omega))
  refine x_iald C 2 0 dX3_after_28 hT.1 rfl v_28 ?_
  have J_37 : ∀ (s0_37 : Int32), V X 4 [(hm, .inr (3, [.ref hb, .int mn, .int mo, .int mu, .int mg, .int mt, .int mb])), (hb, .inr (0, [.ref b0, .ref b1, .ref b2, .ref b3, .ref b4, .ref b5, .ref b6, .int wc, .int la, .int br])), (b0, .inl (cI, 4, .inl pa)), (b1, .inl (cI, 16, .inl mi)), (b2, .inl (cI, 4, .inl ga)), (b3, .inl (cI, 4, .inl te)), (b4, .inl (cI, 4, .inl kn)), (b5, .inl (cI, 6, .inl wa)), (b6, .inl (cI, 16, .inl ne))] [(2, .int ((mn &&& 4095) + ((1 : Int32) <<< ((3 * s) &&& 31)))), (0, .ref hm), (1, .int s)] [.int s0_37] 37 0 0 := by
    intro s0_37
    refine x_istore_n C [(3, .int s0_37), (2, .int ((mn &&& 4095) + ((1 : Int32) <<< ((3 * s) &&& 31)))), (0, .ref hm), (1, .int s)] dX3_after_37 rfl (by decide) rfl ?_
    refine x_aload_n C 2 dX3_after_38 rfl rfl ?_
    refine x_iload_n C 3 dX3_after_39 rfl rfl ?_
    refine x_iload_n C 0 dX3_after_40 rfl rfl ?_
    refine x_callV C [.int s, .int s0_37] [] [0, 1, 2, 3, 4, 5, 6, 7, 8] [] (q0 := 0) (c_X3_rowAfter (xl X) (xD X) (xt X) hT hm mn mo mu mg mt mb hb b0 b1 b2 b3 b4 b5 b6 pa mi ga te kn wa ne wc la br s s0_37 ) dX3_after_41 wd_413 wd_414 wd_415 wd_71 wd_416 (np := 2) ⟨by decide, by decide, by decide +kernel⟩ rfl rfl (Nat.le_of_ble_eq_true rfl) (by decide) rfl rfl rfl rfl (by decide) rfl (by decide) (by decide) (fun v W1 h => ?_)
    obtain ⟨r_41, rfl, rfl, h_41⟩ := h
    show V X 4 [(hm, .inr (3, [.ref hb, .int mn, .int mo, .int mu, .int mg, .int mt, .int mb])), (hb, .inr (0, [.ref b0, .ref b1, .ref b2, .ref b3, .ref b4, .ref b5, .ref b6, .int wc, .int la, .int br])), (b0, .inl (cI, 4, .inl pa)), (b1, .inl (cI, 16, .inl mi)), (b2, .inl (cI, 4, .inl ga)), (b3, .inl (cI, 4, .inl te)), (b4, .inl (cI, 4, .inl kn)), (b5, .inl (cI, 6, .inl wa)), (b6, .inl (cI, 16, .inl ne))] [(3, .int s0_37), (2, .int ((mn &&& 4095) + ((1 : Int32) <<< ((3 * s) &&& 31)))), (0, .ref hm), (1, .int s)] [.int r_41] 44 0 0
    refine x_bipush C 12 dX3_after_44 (by decide) ?_
    refine x_ishl C dX3_after_46 ?_
    refine x_iload_n C 1 dX3_after_47 rfl rfl ?_
    refine x_ior C dX3_after_48 ?_
    exact x_iret C dX3_after_49 (Nat.zero_le _) (Nat.zero_le _) (by rw [eO]; exact ⟨((r_41 <<< (12 &&& 31)) ||| ((mn &&& 4095) + ((1 : Int32) <<< ((3 * s) &&& 31)))), rfl, rfl, trivial⟩)
  refine x_icmp_lt C 36 dX3_after_29 (by decide) (fun c_29 => ?_) (fun c_29 => ?_)
  · skip
    have e_29 : (r_17 : Int32).toInt < (pa (Int32.toNatClampNeg s) : Int32).toInt := i_lt.mp c_29
    refine x_iconst C 0 dX3_after_36 (by decide) ?_
    exact J_37 0
  · skip
    have e_29 : ¬ ((r_17 : Int32).toInt < (pa (Int32.toNatClampNeg s) : Int32).toInt) := fun h => c_29 (i_lt.mpr h)
    refine x_iconst C 1 dX3_after_32 (by decide) ?_
    refine x_goto C 37 dX3_after_33 (by decide) ?_
    exact J_37 1
