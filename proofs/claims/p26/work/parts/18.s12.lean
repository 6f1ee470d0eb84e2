abbrev rm_X6_init : Room := { frames := 1, cells := 1, slots := 30, locals := 12 }
set_option maxHeartbeats 4000000 in
set_option maxRecDepth 100000 in
theorem c_X6_init (l : Launch) (D : va_G) (tys : List (ClassId × FieldType)) {cI cJ cZ cB : ClassId} (hT : Ty tys cI cJ cZ cB) (h : Nat)  : Cn l D tys yX6_init cX6_init 1 none rm_X6_init [(h, .inr (6, [.null, .int 0]))] [.ref h] (fun v W1 => ∃ (hs : Nat), v = none ∧ W1 = [(h, .inr (6, [.ref hs, .int 0])), (hs, .inl (cI, 30, .inl (fun _ => 0)))] ∧ (True)) := by
  refine Cn.of (by decide) (Nat.le_of_ble_eq_true rfl) ?_ ?_ (fun X eL eD eT eO eK eN eM C => ?_)
  · intro h; cases h
  · intro v ws h; obtain ⟨_, rfl, rfl, _⟩ := h; rfl
  subst eL eD eT
  show V X 1 [(h, .inr (6, [.null, .int 0]))] [(0, .ref h)] [] 0 0 0
  refine x_aload_n C 0 dX6_init_0 rfl rfl ?_
  refine x_objInit C dX6_init_1 wd_48 wd_10 wd_11 (by decide) (Nat.le_of_ble_eq_true rfl) ?_
  refine x_aload_n C 0 dX6_init_4 rfl rfl ?_
  refine x_bipush C 30 dX6_init_5 (by decide) ?_
  refine x_newa C 0 30 (30, .inl (fun _ => 0)) dX6_init_7 rfl wd_49 hT.1 (fun _ => rfl) (by decide) (by decide) (by decide) (by decide) (by decide) (fun q0 => ?_)
  show V X 1 [(h, .inr (6, [.null, .int 0])), (q0, .inl (cI, 30, .inl (fun _ => 0)))] [(0, .ref h)] [.ref q0, .ref h] 9 1 30
  refine x_putF C eM 0 0 (ty := .array .int) [(h, .inr (6, [.ref q0, .int 0])), (q0, .inl (cI, 30, .inl (fun _ => 0)))] dX6_init_9 inlX6 tyX6 tyX6_ok nmX6 rfl (by decide) wd_50 rfl rfl rfl rfl rfl rfl rfl (Nat.le_of_ble_eq_true rfl) rfl ?_
  exact x_vret C dX6_init_12 (by rw [eK]; decide) (by rw [eN]; decide) (by rw [eO]; exact ⟨q0, rfl, rfl, trivial⟩)
abbrev rm_X3_init : Room := { frames := 1, cells := 0, slots := 0, locals := 12 }
set_option maxHeartbeats 4000000 in
set_option maxRecDepth 100000 in
theorem c_X3_init (l : Launch) (D : va_G) (tys : List (ClassId × FieldType)) {cI cJ cZ cB : ClassId} (hT : Ty tys cI cJ cZ cB) (h hb : Nat)  : Cn l D tys yX3_init cX3_init 2 none rm_X3_init [(h, .inr (3, [.null, .int 0, .int 0, .int 0, .int 0, .int 0, .int 0]))] [.ref h, .ref hb] (fun v W1 => ∃ (_ : Unit), v = none ∧ W1 = [(h, .inr (3, [.ref hb, .int 0, .int 0, .int 0, .int 0, .int 0, .int 0]))] ∧ (True)) := by
  refine Cn.of (by decide) (Nat.le_of_ble_eq_true rfl) ?_ ?_ (fun X eL eD eT eO eK eN eM C => ?_)
  · intro h; cases h
  · intro v ws h; obtain ⟨_, rfl, rfl, _⟩ := h; rfl
  subst eL eD eT
  show V X 2 [(h, .inr (3, [.null, .int 0, .int 0, .int 0, .int 0, .int 0, .int 0]))] [(0, .ref h), (1, .ref hb)] [] 0 0 0
  refine x_aload_n C 0 dX3_init_0 rfl rfl ?_
  refine x_objInit C dX3_init_1 wd_76 wd_10 wd_11 (by decide) (Nat.le_of_ble_eq_true rfl) ?_
  refine x_aload_n C 0 dX3_init_4 rfl rfl ?_
  refine x_aload_n C 1 dX3_init_5 rfl rfl ?_
  refine x_putF C eM 0 0 (ty := .object "StoryNest$Book") [(h, .inr (3, [.ref hb, .int 0, .int 0, .int 0, .int 0, .int 0, .int 0]))] dX3_init_6 inlX3 tyX3 tyX3_ok nmX3 rfl (by decide) wd_77 rfl rfl rfl rfl rfl rfl rfl (Nat.le_of_ble_eq_true rfl) rfl ?_
  exact x_vret C dX3_init_9 (Nat.zero_le _) (Nat.zero_le _) (by rw [eO]; exact ⟨(), rfl, rfl, trivial⟩)
abbrev rm_X1_init : Room := { frames := 2, cells := 1, slots := 7, locals := 33 }
set_option maxHeartbeats 4000000 in
set_option maxRecDepth 100000 in
theorem c_X1_init (l : Launch) (D : va_G) (tys : List (ClassId × FieldType)) {cI cJ cZ cB : ClassId} (hT : Ty tys cI cJ cZ cB) (h hb hp : Nat)  : Cn l D tys yX1_init cX1_init 3 none rm_X1_init [(h, .inr (1, [.null, .null, .null, .int 0, .int 0, .int 0, .int 0, .int 0]))] [.ref h, .ref hb, .ref hp] (fun v W1 => ∃ (hm : Nat), v = none ∧ W1 = [(h, .inr (1, [.ref hb, .ref hp, .ref hm, .int 0, .int 0, .int 0, .int 0, .int 0])), (hm, .inr (3, [.ref hb, .int 0, .int 0, .int 0, .int 0, .int 0, .int 0]))] ∧ (True)) := by
  refine Cn.of (by decide) (Nat.le_of_ble_eq_true rfl) ?_ ?_ (fun X eL eD eT eO eK eN eM C => ?_)
  · intro h; cases h
  · intro v ws h; obtain ⟨_, rfl, rfl, _⟩ := h; rfl
  subst eL eD eT
  show V X 3 [(h, .inr (1, [.null, .null, .null, .int 0, .int 0, .int 0, .int 0, .int 0]))] [(0, .ref h), (1, .ref hb), (2, .ref hp)] [] 0 0 0
  refine x_aload_n C 0 dX1_init_0 rfl rfl ?_
  refine x_objInit C dX1_init_1 wd_66 wd_10 wd_11 (by decide) (Nat.le_of_ble_eq_true rfl) ?_
  refine x_aload_n C 0 dX1_init_4 rfl rfl ?_
  refine x_aload_n C 1 dX1_init_5 rfl rfl ?_
  refine x_putF C eM 0 0 (ty := .object "StoryNest$Book") [(h, .inr (1, [.ref hb, .null, .null, .int 0, .int 0, .int 0, .int 0, .int 0]))] dX1_init_6 inlX1 tyX1 tyX1_ok nmX1 rfl (by decide) wd_67 rfl rfl rfl rfl rfl rfl rfl (Nat.le_of_ble_eq_true rfl) rfl ?_
  refine x_aload_n C 0 dX1_init_9 rfl rfl ?_
  refine x_aload_n C 2 dX1_init_10 rfl rfl ?_
  refine x_putF C eM 0 1 (ty := .object "StoryNest$Pad") [(h, .inr (1, [.ref hb, .ref hp, .null, .int 0, .int 0, .int 0, .int 0, .int 0]))] dX1_init_11 inlX1 tyX1 tyX1_ok nmX1 rfl (by decide) wd_68 rfl rfl rfl rfl rfl rfl rfl (Nat.le_of_ble_eq_true rfl) rfl ?_
  refine x_aload_n C 0 dX1_init_14 rfl rfl ?_
  refine x_new (ci := 3) C [.null, .int 0, .int 0, .int 0, .int 0, .int 0, .int 0] dX1_init_15 inlX3 tyX3 tyX3_ok wd_69 wd_70 wd_71 rfl (fun j hj => by rcases (show j = 0 ∨ j = 1 ∨ j = 2 ∨ j = 3 ∨ j = 4 ∨ j = 5 ∨ j = 6 by omega) with rfl | rfl | rfl | rfl | rfl | rfl | rfl <;> rfl) (by decide) (by decide) (fun q0 => ?_)
  show V X 3 [(h, .inr (1, [.ref hb, .ref hp, .null, .int 0, .int 0, .int 0, .int 0, .int 0])), (q0, .inr (3, [.null, .int 0, .int 0, .int 0, .int 0, .int 0, .int 0]))] [(0, .ref h), (1, .ref hb), (2, .ref hp)] [.ref q0, .ref h] 18 1 7
  refine x_dup C dX1_init_18 rfl ?_
  refine x_aload_n C 1 dX1_init_19 rfl rfl ?_
  refine x_callI C [.ref hb] [(h, .inr (1, [.ref hb, .ref hp, .null, .int 0, .int 0, .int 0, .int 0, .int 0]))] [1] [0] (c_X3_init (xl X) (xD X) (xt X) hT q0 hb ) dX1_init_20 wd_73 wd_74 rfl wd_71 wd_75 (np := 1) ⟨by decide, by decide, by decide +kernel⟩ rfl rfl (Nat.le_of_ble_eq_true rfl) (by decide) rfl (by decide) rfl (by decide) (by decide) (fun v W1 h => ?_)
  obtain ⟨_, rfl, rfl, h_20⟩ := h
  show V X 3 [(h, .inr (1, [.ref hb, .ref hp, .null, .int 0, .int 0, .int 0, .int 0, .int 0])), (q0, .inr (3, [.ref hb, .int 0, .int 0, .int 0, .int 0, .int 0, .int 0]))] [(0, .ref h), (1, .ref hb), (2, .ref hp)] [.ref q0, .ref h] 23 1 7
  refine x_putF C eM 0 2 (ty := .object "StoryNest$Moment") [(h, .inr (1, [.ref hb, .ref hp, .ref q0, .int 0, .int 0, .int 0, .int 0, .int 0])), (q0, .inr (3, [.ref hb, .int 0, .int 0, .int 0, .int 0, .int 0, .int 0]))] dX1_init_23 inlX1 tyX1 tyX1_ok nmX1 rfl (by decide) wd_72 rfl rfl rfl rfl rfl rfl rfl (Nat.le_of_ble_eq_true rfl) rfl ?_
  exact x_vret C dX1_init_26 (by rw [eK]; decide) (by rw [eN]; decide) (by rw [eO]; exact ⟨q0, rfl, rfl, trivial⟩)
abbrev rm_X4_init : Room := { frames := 2, cells := 5, slots := 30903, locals := 33 }
set_option maxHeartbeats 4000000 in
set_option maxRecDepth 100000 in
theorem c_X4_init (l : Launch) (D : va_G) (tys : List (ClassId × FieldType)) {cI cJ cZ cB : ClassId} (hT : Ty tys cI cJ cZ cB) (h hb : Nat)  : Cn l D tys yX4_init cX4_init 2 none rm_X4_init [(h, .inr (4, [.null, .null, .null, .null, .null, .null, .int 0, .int 0, .int 0, .int 0]))] [.ref h, .ref hb] (fun v W1 => ∃ (hm n0 n1 n2 n3 : Nat), v = none ∧ W1 = [(h, .inr (4, [.ref hb, .ref hm, .ref n0, .ref n1, .ref n2, .ref n3, .int 0, .int 0, .int 0, .int 0])), (n0, .inl (cI, 3784, .inl (fun _ => 0))), (n1, .inl (cI, 15136, .inl (fun _ => 0))), (n2, .inl (cJ, 3784, .inr (.inl (fun _ => 0)))), (n3, .inl (cI, 8192, .inl (fun _ => 0))), (hm, .inr (3, [.ref hb, .int 0, .int 0, .int 0, .int 0, .int 0, .int 0]))] ∧ (True)) := by
  refine Cn.of (by decide) (Nat.le_of_ble_eq_true rfl) ?_ ?_ (fun X eL eD eT eO eK eN eM C => ?_)
  · intro h; cases h
  · intro v ws h; obtain ⟨_, _, _, _, _, rfl, rfl, _⟩ := h; rfl
  subst eL eD eT
  show V X 2 [(h, .inr (4, [.null, .null, .null, .null, .null, .null, .int 0, .int 0, .int 0, .int 0]))] [(0, .ref h), (1, .ref hb)] [] 0 0 0
  refine x_aload_n C 0 dX4_init_0 rfl rfl ?_
  refine x_objInit C dX4_init_1 wd_81 wd_10 wd_11 (by decide) (Nat.le_of_ble_eq_true rfl) ?_
  refine x_aload_n C 0 dX4_init_4 rfl rfl ?_
  refine x_sipush C 3784 dX4_init_5 (by decide) ?_
  refine x_newa C 0 3784 (3784, .inl (fun _ => 0)) dX4_init_8 rfl wd_49 hT.1 (fun _ => rfl) (by decide) (by decide) (by decide) (by decide) (by decide) (fun q0 => ?_)
  show V X 2 [(h, .inr (4, [.null, .null, .null, .null, .null, .null, .int 0, .int 0, .int 0, .int 0])), (q0, .inl (cI, 3784, .inl (fun _ => 0)))] [(0, .ref h), (1, .ref hb)] [.ref q0, .ref h] 10 1 3784
  refine x_putF C eM 0 2 (ty := .array .int) [(h, .inr (4, [.null, .null, .ref q0, .null, .null, .null, .int 0, .int 0, .int 0, .int 0])), (q0, .inl (cI, 3784, .inl (fun _ => 0)))] dX4_init_10 inlX4 tyX4 tyX4_ok nmX4 rfl (by decide) wd_82 rfl rfl rfl rfl rfl rfl rfl (Nat.le_of_ble_eq_true rfl) rfl ?_
  refine x_aload_n C 0 dX4_init_13 rfl rfl ?_
  refine x_sipush C 15136 dX4_init_14 (by decide) ?_
  refine x_newa C 0 15136 (15136, .inl (fun _ => 0)) dX4_init_17 rfl wd_49 hT.1 (fun _ => rfl) (by decide) (by decide) (by decide) (by decide) (by decide) (fun q1 => ?_)
  show V X 2 [(h, .inr (4, [.null, .null, .ref q0, .null, .null, .null, .int 0, .int 0, .int 0, .int 0])), (q0, .inl (cI, 3784, .inl (fun _ => 0))), (q1, .inl (cI, 15136, .inl (fun _ => 0)))] [(0, .ref h), (1, .ref hb)] [.ref q1, .ref h] 19 2 18920
  refine x_putF C eM 0 3 (ty := .array .int) [(h, .inr (4, [.null, .null, .ref q0, .ref q1, .null, .null, .int 0, .int 0, .int 0, .int 0])), (q0, .inl (cI, 3784, .inl (fun _ => 0))), (q1, .inl (cI, 15136, .inl (fun _ => 0)))] dX4_init_19 inlX4 tyX4 tyX4_ok nmX4 rfl (by decide) wd_83 rfl rfl rfl rfl rfl rfl rfl (Nat.le_of_ble_eq_true rfl) rfl ?_
  refine x_aload_n C 0 dX4_init_22 rfl rfl ?_
  refine x_sipush C 3784 dX4_init_23 (by decide) ?_
  refine x_newa C 1 3784 (3784, .inr (.inl (fun _ => 0))) dX4_init_26 rfl wd_84 hT.2.1 (fun _ => rfl) (by decide) (by decide) (by decide) (by decide) (by decide) (fun q2 => ?_)
  show V X 2 [(h, .inr (4, [.null, .null, .ref q0, .ref q1, .null, .null, .int 0, .int 0, .int 0, .int 0])), (q0, .inl (cI, 3784, .inl (fun _ => 0))), (q1, .inl (cI, 15136, .inl (fun _ => 0))), (q2, .inl (cJ, 3784, .inr (.inl (fun _ => 0))))] [(0, .ref h), (1, .ref hb)] [.ref q2, .ref h] 28 3 22704
  refine x_putF C eM 0 4 (ty := .array .long) [(h, .inr (4, [.null, .null, .ref q0, .ref q1, .ref q2, .null, .int 0, .int 0, .int 0, .int 0])), (q0, .inl (cI, 3784, .inl (fun _ => 0))), (q1, .inl (cI, 15136, .inl (fun _ => 0))), (q2, .inl (cJ, 3784, .inr (.inl (fun _ => 0))))] dX4_init_28 inlX4 tyX4 tyX4_ok nmX4 rfl (by decide) wd_85 rfl rfl rfl rfl rfl rfl rfl (Nat.le_of_ble_eq_true rfl) rfl ?_
  refine x_aload_n C 0 dX4_init_31 rfl rfl ?_
  refine x_sipush C 8192 dX4_init_32 (by decide) ?_
  refine x_newa C 0 8192 (8192, .inl (fun _ => 0)) dX4_init_35 rfl wd_49 hT.1 (fun _ => rfl) (by decide) (by decide) (by decide) (by decide) (by decide) (fun q3 => ?_)
  show V X 2 [(h, .inr (4, [.null, .null, .ref q0, .ref q1, .ref q2, .null, .int 0, .int 0, .int 0, .int 0])), (q0, .inl (cI, 3784, .inl (fun _ => 0))), (q1, .inl (cI, 15136, .inl (fun _ => 0))), (q2, .inl (cJ, 3784, .inr (.inl (fun _ => 0)))), (q3, .inl (cI, 8192, .inl (fun _ => 0)))] [(0, .ref h), (1, .ref hb)] [.ref q3, .ref h] 37 4 30896
  refine x_putF C eM 0 5 (ty := .array .int) [(h, .inr (4, [.null, .null, .ref q0, .ref q1, .ref q2, .ref q3, .int 0, .int 0, .int 0, .int 0])), (q0, .inl (cI, 3784, .inl (fun _ => 0))), (q1, .inl (cI, 15136, .inl (fun _ => 0))), (q2, .inl (cJ, 3784, .inr (.inl (fun _ => 0)))), (q3, .inl (cI, 8192, .inl (fun _ => 0)))] dX4_init_37 inlX4 tyX4 tyX4_ok nmX4 rfl (by decide) wd_86 rfl rfl rfl rfl rfl rfl rfl (Nat.le_of_ble_eq_true rfl) rfl ?_
  refine x_aload_n C 0 dX4_init_40 rfl rfl ?_
  refine x_aload_n C 1 dX4_init_41 rfl rfl ?_
  refine x_putF C eM 0 0 (ty := .object "StoryNest$Book") [(h, .inr (4, [.ref hb, .null, .ref q0, .ref q1, .ref q2, .ref q3, .int 0, .int 0, .int 0, .int 0])), (q0, .inl (cI, 3784, .inl (fun _ => 0))), (q1, .inl (cI, 15136, .inl (fun _ => 0))), (q2, .inl (cJ, 3784, .inr (.inl (fun _ => 0)))), (q3, .inl (cI, 8192, .inl (fun _ => 0)))] dX4_init_42 inlX4 tyX4 tyX4_ok nmX4 rfl (by decide) wd_87 rfl rfl rfl rfl rfl rfl rfl (Nat.le_of_ble_eq_true rfl) rfl ?_
  refine x_aload_n C 0 dX4_init_45 rfl rfl ?_
  refine x_new (ci := 3) C [.null, .int 0, .int 0, .int 0, .int 0, .int 0, .int 0] dX4_init_46 inlX3 tyX3 tyX3_ok wd_88 wd_70 wd_71 rfl (fun j hj => by rcases (show j = 0 ∨ j = 1 ∨ j = 2 ∨ j = 3 ∨ j = 4 ∨ j = 5 ∨ j = 6 by omega) with rfl | rfl | rfl | rfl | rfl | rfl | rfl <;> rfl) (by decide) (by decide) (fun q4 => ?_)
  show V X 2 [(h, .inr (4, [.ref hb, .null, .ref q0, .ref q1, .ref q2, .ref q3, .int 0, .int 0, .int 0, .int 0])), (q0, .inl (cI, 3784, .inl (fun _ => 0))), (q1, .inl (cI, 15136, .inl (fun _ => 0))), (q2, .inl (cJ, 3784, .inr (.inl (fun _ => 0)))), (q3, .inl (cI, 8192, .inl (fun _ => 0))), (q4, .inr (3, [.null, .int 0, .int 0, .int 0, .int 0, .int 0, .int 0]))] [(0, .ref h), (1, .ref hb)] [.ref q4, .ref h] 49 5 30903
  refine x_dup C dX4_init_49 rfl ?_
  refine x_aload_n C 1 dX4_init_50 rfl rfl ?_
  refine x_callI C [.ref hb] [(h, .inr (4, [.ref hb, .null, .ref q0, .ref q1, .ref q2, .ref q3, .int 0, .int 0, .int 0, .int 0])), (q0, .inl (cI, 3784, .inl (fun _ => 0))), (q1, .inl (cI, 15136, .inl (fun _ => 0))), (q2, .inl (cJ, 3784, .inr (.inl (fun _ => 0)))), (q3, .inl (cI, 8192, .inl (fun _ => 0)))] [5] [0, 1, 2, 3, 4] (c_X3_init (xl X) (xD X) (xt X) hT q4 hb ) dX4_init_51 wd_90 wd_74 rfl wd_71 wd_75 (np := 1) ⟨by decide, by decide, by decide +kernel⟩ rfl rfl (Nat.le_of_ble_eq_true rfl) (by decide) rfl (by decide) rfl (by decide) (by decide) (fun v W1 h => ?_)
  obtain ⟨_, rfl, rfl, h_51⟩ := h
  show V X 2 [(h, .inr (4, [.ref hb, .null, .ref q0, .ref q1, .ref q2, .ref q3, .int 0, .int 0, .int 0, .int 0])), (q0, .inl (cI, 3784, .inl (fun _ => 0))), (q1, .inl (cI, 15136, .inl (fun _ => 0))), (q2, .inl (cJ, 3784, .inr (.inl (fun _ => 0)))), (q3, .inl (cI, 8192, .inl (fun _ => 0))), (q4, .inr (3, [.ref hb, .int 0, .int 0, .int 0, .int 0, .int 0, .int 0]))] [(0, .ref h), (1, .ref hb)] [.ref q4, .ref h] 54 5 30903
  refine x_putF C eM 0 1 (ty := .object "StoryNest$Moment") [(h, .inr (4, [.ref hb, .ref q4, .ref q0, .ref q1, .ref q2, .ref q3, .int 0, .int 0, .int 0, .int 0])), (q0, .inl (cI, 3784, .inl (fun _ => 0))), (q1, .inl (cI, 15136, .inl (fun _ => 0))), (q2, .inl (cJ, 3784, .inr (.inl (fun _ => 0)))), (q3, .inl (cI, 8192, .inl (fun _ => 0))), (q4, .inr (3, [.ref hb, .int 0, .int 0, .int 0, .int 0, .int 0, .int 0]))] dX4_init_54 inlX4 tyX4 tyX4_ok nmX4 rfl (by decide) wd_89 rfl rfl rfl rfl rfl rfl rfl (Nat.le_of_ble_eq_true rfl) rfl ?_
  exact x_vret C dX4_init_57 (by rw [eK]; decide) (by rw [eN]; decide) (by rw [eO]; exact ⟨q4, q0, q1, q2, q3, rfl, rfl, trivial⟩)
abbrev rm_X5_init : Room := { frames := 1, cells := 2, slots := 149, locals := 12 }
set_option maxHeartbeats 4000000 in
set_option maxRecDepth 100000 in
theorem c_X5_init (l : Launch) (D : va_G) (tys : List (ClassId × FieldType)) {cI cJ cZ cB : ClassId} (hT : Ty tys cI cJ cZ cB) (h hb hn : Nat)  : Cn l D tys yX5_init cX5_init 3 none rm_X5_init [(h, .inr (5, [.null, .null, .null, .null]))] [.ref h, .ref hb, .ref hn] (fun v W1 => ∃ (o0 o1 : Nat), v = none ∧ W1 = [(h, .inr (5, [.ref hb, .ref hn, .ref o0, .ref o1])), (o0, .inl (cI, 4, .inl (fun _ => 0))), (o1, .inl (cZ, 145, .inl (fun _ => 0)))] ∧ (True)) := by
  refine Cn.of (by decide) (Nat.le_of_ble_eq_true rfl) ?_ ?_ (fun X eL eD eT eO eK eN eM C => ?_)
  · intro h; cases h
  · intro v ws h; obtain ⟨_, _, rfl, rfl, _⟩ := h; rfl
  subst eL eD eT
  show V X 3 [(h, .inr (5, [.null, .null, .null, .null]))] [(0, .ref h), (1, .ref hb), (2, .ref hn)] [] 0 0 0
  refine x_aload_n C 0 dX5_init_0 rfl rfl ?_
  refine x_objInit C dX5_init_1 wd_94 wd_10 wd_11 (by decide) (Nat.le_of_ble_eq_true rfl) ?_
  refine x_aload_n C 0 dX5_init_4 rfl rfl ?_
  refine x_iconst C 4 dX5_init_5 (by decide) ?_
  refine x_newa C 0 4 (4, .inl (fun _ => 0)) dX5_init_6 rfl wd_49 hT.1 (fun _ => rfl) (by decide) (by decide) (by decide) (by decide) (by decide) (fun q0 => ?_)
  show V X 3 [(h, .inr (5, [.null, .null, .null, .null])), (q0, .inl (cI, 4, .inl (fun _ => 0)))] [(0, .ref h), (1, .ref hb), (2, .ref hn)] [.ref q0, .ref h] 8 1 4
  refine x_putF C eM 0 2 (ty := .array .int) [(h, .inr (5, [.null, .null, .ref q0, .null])), (q0, .inl (cI, 4, .inl (fun _ => 0)))] dX5_init_8 inlX5 tyX5 tyX5_ok nmX5 rfl (by decide) wd_95 rfl rfl rfl rfl rfl rfl rfl (Nat.le_of_ble_eq_true rfl) rfl ?_
  refine x_aload_n C 0 dX5_init_11 rfl rfl ?_
  refine x_sipush C 145 dX5_init_12 (by decide) ?_
  refine x_newa C 2 145 (145, .inl (fun _ => 0)) dX5_init_15 rfl wd_96 hT.2.2.1 (fun _ => rfl) (by decide) (by decide) (by decide) (by decide) (by decide) (fun q1 => ?_)
  show V X 3 [(h, .inr (5, [.null, .null, .ref q0, .null])), (q0, .inl (cI, 4, .inl (fun _ => 0))), (q1, .inl (cZ, 145, .inl (fun _ => 0)))] [(0, .ref h), (1, .ref hb), (2, .ref hn)] [.ref q1, .ref h] 17 2 149
  refine x_putF C eM 0 3 (ty := .array .boolean) [(h, .inr (5, [.null, .null, .ref q0, .ref q1])), (q0, .inl (cI, 4, .inl (fun _ => 0))), (q1, .inl (cZ, 145, .inl (fun _ => 0)))] dX5_init_17 inlX5 tyX5 tyX5_ok nmX5 rfl (by decide) wd_97 rfl rfl rfl rfl rfl rfl rfl (Nat.le_of_ble_eq_true rfl) rfl ?_
  refine x_aload_n C 0 dX5_init_20 rfl rfl ?_
  refine x_aload_n C 1 dX5_init_21 rfl rfl ?_
  refine x_putF C eM 0 0 (ty := .object "StoryNest$Book") [(h, .inr (5, [.ref hb, .null, .ref q0, .ref q1])), (q0, .inl (cI, 4, .inl (fun _ => 0))), (q1, .inl (cZ, 145, .inl (fun _ => 0)))] dX5_init_22 inlX5 tyX5 tyX5_ok nmX5 rfl (by decide) wd_98 rfl rfl rfl rfl rfl rfl rfl (Nat.le_of_ble_eq_true rfl) rfl ?_
  refine x_aload_n C 0 dX5_init_25 rfl rfl ?_
  refine x_aload_n C 2 dX5_init_26 rfl rfl ?_
  refine x_putF C eM 0 1 (ty := .object "StoryNest$Nights") [(h, .inr (5, [.ref hb, .ref hn, .ref q0, .ref q1])), (q0, .inl (cI, 4, .inl (fun _ => 0))), (q1, .inl (cZ, 145, .inl (fun _ => 0)))] dX5_init_27 inlX5 tyX5 tyX5_ok nmX5 rfl (by decide) wd_99 rfl rfl rfl rfl rfl rfl rfl (Nat.le_of_ble_eq_true rfl) rfl ?_
  exact x_vret C dX5_init_30 (by rw [eK]; decide) (by rw [eN]; decide) (by rw [eO]; exact ⟨q0, q1, rfl, rfl, trivial⟩)
abbrev rm_X2_init : Room := { frames := 1, cells := 0, slots := 0, locals := 12 }
set_option maxHeartbeats 4000000 in
set_option maxRecDepth 100000 in
theorem c_X2_init (l : Launch) (D : va_G) (tys : List (ClassId × FieldType)) {cI cJ cZ cB : ClassId} (hT : Ty tys cI cJ cZ cB) (h hn : Nat)  : Cn l D tys yX2_init cX2_init 2 none rm_X2_init [(h, .inr (2, [.null]))] [.ref h, .ref hn] (fun v W1 => ∃ (_ : Unit), v = none ∧ W1 = [(h, .inr (2, [.ref hn]))] ∧ (True)) := by
  refine Cn.of (by decide) (Nat.le_of_ble_eq_true rfl) ?_ ?_ (fun X eL eD eT eO eK eN eM C => ?_)
  · intro h; cases h
  · intro v ws h; obtain ⟨_, rfl, rfl, _⟩ := h; rfl
  subst eL eD eT
  show V X 2 [(h, .inr (2, [.null]))] [(0, .ref h), (1, .ref hn)] [] 0 0 0
  refine x_aload_n C 0 dX2_init_0 rfl rfl ?_
  refine x_objInit C dX2_init_1 wd_103 wd_10 wd_11 (by decide) (Nat.le_of_ble_eq_true rfl) ?_
  refine x_aload_n C 0 dX2_init_4 rfl rfl ?_
  refine x_aload_n C 1 dX2_init_5 rfl rfl ?_
  refine x_putF C eM 0 0 (ty := .object "StoryNest$Nights") [(h, .inr (2, [.ref hn]))] dX2_init_6 inlX2 tyX2 tyX2_ok nmX2 rfl (by decide) wd_104 rfl rfl rfl rfl rfl rfl rfl (Nat.le_of_ble_eq_true rfl) rfl ?_
  exact x_vret C dX2_init_9 (Nat.zero_le _) (Nat.zero_le _) (by rw [eO]; exact ⟨(), rfl, rfl, trivial⟩)
abbrev rm_X8_init : Room := { frames := 1, cells := 1, slots := 3784, locals := 12 }
set_option maxHeartbeats 4000000 in
set_option maxRecDepth 100000 in
theorem c_X8_init (l : Launch) (D : va_G) (tys : List (ClassId × FieldType)) {cI cJ cZ cB : ClassId} (hT : Ty tys cI cJ cZ cB) (h hb hn hp : Nat)  : Cn l D tys yX8_init cX8_init 4 none rm_X8_init [(h, .inr (8, [.null, .null, .null, .null]))] [.ref h, .ref hb, .ref hn, .ref hp] (fun v W1 => ∃ (w0 : Nat), v = none ∧ W1 = [(h, .inr (8, [.ref hb, .ref hn, .ref hp, .ref w0])), (w0, .inl (cZ, 3784, .inl (fun _ => 0)))] ∧ (True)) := by
  refine Cn.of (by decide) (Nat.le_of_ble_eq_true rfl) ?_ ?_ (fun X eL eD eT eO eK eN eM C => ?_)
  · intro h; cases h
  · intro v ws h; obtain ⟨_, rfl, rfl, _⟩ := h; rfl
  subst eL eD eT
  show V X 4 [(h, .inr (8, [.null, .null, .null, .null]))] [(0, .ref h), (1, .ref hb), (2, .ref hn), (3, .ref hp)] [] 0 0 0
  refine x_aload_n C 0 dX8_init_0 rfl rfl ?_
  refine x_objInit C dX8_init_1 wd_108 wd_10 wd_11 (by decide) (Nat.le_of_ble_eq_true rfl) ?_
  refine x_aload_n C 0 dX8_init_4 rfl rfl ?_
  refine x_sipush C 3784 dX8_init_5 (by decide) ?_
  refine x_newa C 2 3784 (3784, .inl (fun _ => 0)) dX8_init_8 rfl wd_96 hT.2.2.1 (fun _ => rfl) (by decide) (by decide) (by decide) (by decide) (by decide) (fun q0 => ?_)
  show V X 4 [(h, .inr (8, [.null, .null, .null, .null])), (q0, .inl (cZ, 3784, .inl (fun _ => 0)))] [(0, .ref h), (1, .ref hb), (2, .ref hn), (3, .ref hp)] [.ref q0, .ref h] 10 1 3784
  refine x_putF C eM 0 3 (ty := .array .boolean) [(h, .inr (8, [.null, .null, .null, .ref q0])), (q0, .inl (cZ, 3784, .inl (fun _ => 0)))] dX8_init_10 inlX8 tyX8 tyX8_ok nmX8 rfl (by decide) wd_109 rfl rfl rfl rfl rfl rfl rfl (Nat.le_of_ble_eq_true rfl) rfl ?_
  refine x_aload_n C 0 dX8_init_13 rfl rfl ?_
  refine x_aload_n C 1 dX8_init_14 rfl rfl ?_
  refine x_putF C eM 0 0 (ty := .object "StoryNest$Book") [(h, .inr (8, [.ref hb, .null, .null, .ref q0])), (q0, .inl (cZ, 3784, .inl (fun _ => 0)))] dX8_init_15 inlX8 tyX8 tyX8_ok nmX8 rfl (by decide) wd_110 rfl rfl rfl rfl rfl rfl rfl (Nat.le_of_ble_eq_true rfl) rfl ?_
  refine x_aload_n C 0 dX8_init_18 rfl rfl ?_
  refine x_aload_n C 2 dX8_init_19 rfl rfl ?_
  refine x_putF C eM 0 1 (ty := .object "StoryNest$Nights") [(h, .inr (8, [.ref hb, .ref hn, .null, .ref q0])), (q0, .inl (cZ, 3784, .inl (fun _ => 0)))] dX8_init_20 inlX8 tyX8 tyX8_ok nmX8 rfl (by decide) wd_111 rfl rfl rfl rfl rfl rfl rfl (Nat.le_of_ble_eq_true rfl) rfl ?_
  refine x_aload_n C 0 dX8_init_23 rfl rfl ?_
  refine x_aload_n C 3 dX8_init_24 rfl rfl ?_
  refine x_putF C eM 0 2 (ty := .object "StoryNest$Pad") [(h, .inr (8, [.ref hb, .ref hn, .ref hp, .ref q0])), (q0, .inl (cZ, 3784, .inl (fun _ => 0)))] dX8_init_25 inlX8 tyX8 tyX8_ok nmX8 rfl (by decide) wd_112 rfl rfl rfl rfl rfl rfl rfl (Nat.le_of_ble_eq_true rfl) rfl ?_
  exact x_vret C dX8_init_28 (by rw [eK]; decide) (by rw [eN]; decide) (by rw [eO]; exact ⟨q0, rfl, rfl, trivial⟩)
abbrev rm_X7_init : Room := { frames := 1, cells := 0, slots := 0, locals := 12 }
set_option maxHeartbeats 4000000 in
set_option maxRecDepth 100000 in
theorem c_X7_init (l : Launch) (D : va_G) (tys : List (ClassId × FieldType)) {cI cJ cZ cB : ClassId} (hT : Ty tys cI cJ cZ cB) (h hb : Nat)  : Cn l D tys yX7_init cX7_init 2 none rm_X7_init [(h, .inr (7, [.null]))] [.ref h, .ref hb] (fun v W1 => ∃ (_ : Unit), v = none ∧ W1 = [(h, .inr (7, [.ref hb]))] ∧ (True)) := by
  refine Cn.of (by decide) (Nat.le_of_ble_eq_true rfl) ?_ ?_ (fun X eL eD eT eO eK eN eM C => ?_)
  · intro h; cases h
  · intro v ws h; obtain ⟨_, rfl, rfl, _⟩ := h; rfl
  subst eL eD eT
  show V X 2 [(h, .inr (7, [.null]))] [(0, .ref h), (1, .ref hb)] [] 0 0 0
  refine x_aload_n C 0 dX7_init_0 rfl rfl ?_
  refine x_objInit C dX7_init_1 wd_116 wd_10 wd_11 (by decide) (Nat.le_of_ble_eq_true rfl) ?_
  refine x_aload_n C 0 dX7_init_4 rfl rfl ?_
  refine x_aload_n C 1 dX7_init_5 rfl rfl ?_
  refine x_putF C eM 0 0 (ty := .object "StoryNest$Book") [(h, .inr (7, [.ref hb]))] dX7_init_6 inlX7 tyX7 tyX7_ok nmX7 rfl (by decide) wd_117 rfl rfl rfl rfl rfl rfl rfl (Nat.le_of_ble_eq_true rfl) rfl ?_
  exact x_vret C dX7_init_9 (Nat.zero_le _) (Nat.zero_le _) (by rw [eO]; exact ⟨(), rfl, rfl, trivial⟩)
