abbrev rm_X1_tellPart : Room := { frames := 3, cells := 0, slots := 0, locals := 68 }
set_option maxHeartbeats 4000000 in
set_option maxRecDepth 100000 in
theorem c_X1_tellPart (l : Launch) (D : va_G) (tys : List (ClassId × FieldType)) {cI cJ cZ cB : ClassId} (hT : Ty tys cI cJ cZ cB) (he : Nat) (ep ew eo ed em : Int32) (hm : Nat) (mn mo mu mg mt mb : Int32) (hb b0 b1 b2 b3 b4 b5 b6 : Nat) (pa mi ga te kn wa ne : Nat → Int32) (wc la br : Int32) (hp hs : Nat) (f : Nat → Int32) (z : Int32) (s t : Int32) (hs0 : 0 ≤ s.toInt ∧ s.toInt ≤ 3) : Cn l D tys yX1_tellPart cX1_tellPart 3 none rm_X1_tellPart [(he, .inr (1, [.ref hb, .ref hp, .ref hm, .int ep, .int ew, .int eo, .int ed, .int em])), (hm, .inr (3, [.ref hb, .int mn, .int mo, .int mu, .int mg, .int mt, .int mb])), (hb, .inr (0, [.ref b0, .ref b1, .ref b2, .ref b3, .ref b4, .ref b5, .ref b6, .int wc, .int la, .int br])), (b0, .inl (cI, 4, .inl pa)), (b1, .inl (cI, 16, .inl mi)), (b2, .inl (cI, 4, .inl ga)), (b3, .inl (cI, 4, .inl te)), (b4, .inl (cI, 4, .inl kn)), (b5, .inl (cI, 6, .inl wa)), (b6, .inl (cI, 16, .inl ne)), (hp, .inr (6, [.ref hs, .int z])), (hs, .inl (cI, 30, .inl f))] [.ref he, .int s, .int t] (fun v W1 => ∃ (ed2 em2 mn2 mo2 mu2 mg2 mt2 mb2 : Int32), v = none ∧ W1 = [(he, .inr (1, [.ref hb, .ref hp, .ref hm, .int ep, .int ew, .int eo, .int ed2, .int em2])), (hm, .inr (3, [.ref hb, .int mn2, .int mo2, .int mu2, .int mg2, .int mt2, .int mb2])), (hb, .inr (0, [.ref b0, .ref b1, .ref b2, .ref b3, .ref b4, .ref b5, .ref b6, .int wc, .int la, .int br])), (b0, .inl (cI, 4, .inl pa)), (b1, .inl (cI, 16, .inl mi)), (b2, .inl (cI, 4, .inl ga)), (b3, .inl (cI, 4, .inl te)), (b4, .inl (cI, 4, .inl kn)), (b5, .inl (cI, 6, .inl wa)), (b6, .inl (cI, 16, .inl ne)), (hp, .inr (6, [.ref hs, .int z])), (hs, .inl (cI, 30, .inl f))] ∧ (ed2 = dpF mo s ed ∧ em2 = tmF mi te br mn s t em ∧ mn2 = afF pa la mn mo s ∧ MOM pa ga te la mn2 mo2 mu2 mg2 mt2 mb2)) := by
  refine Cn.of (by decide) (Nat.le_of_ble_eq_true rfl) ?_ ?_ (fun X eL eD eT eO eK eN eM C => ?_)
  · intro h; cases h
  · intro v ws h; obtain ⟨_, _, _, _, _, _, _, _, rfl, rfl, _⟩ := h; rfl
  subst eL eD eT
  show V X 3 [(he, .inr (1, [.ref hb, .ref hp, .ref hm, .int ep, .int ew, .int eo, .int ed, .int em])), (hm, .inr (3, [.ref hb, .int mn, .int mo, .int mu, .int mg, .int mt, .int mb])), (hb, .inr (0, [.ref b0, .ref b1, .ref b2, .ref b3, .ref b4, .ref b5, .ref b6, .int wc, .int la, .int br])), (b0, .inl (cI, 4, .inl pa)), (b1, .inl (cI, 16, .inl mi)), (b2, .inl (cI, 4, .inl ga)), (b3, .inl (cI, 4, .inl te)), (b4, .inl (cI, 4, .inl kn)), (b5, .inl (cI, 6, .inl wa)), (b6, .inl (cI, 16, .inl ne)), (hp, .inr (6, [.ref hs, .int z])), (hs, .inl (cI, 30, .inl f))] [(0, .ref he), (1, .int s), (2, .int t)] [] 0 0 0
  refine x_aload_n C 0 dX1_tellPart_0 rfl rfl ?_
  refine x_aload_n C 0 dX1_tellPart_1 rfl rfl ?_
  refine x_get C 0 6 dX1_tellPart_2 inlX1 rfl (by decide) wd_359 rfl rfl rfl ?_
  refine x_aload_n C 0 dX1_tellPart_5 rfl rfl ?_
  refine x_get C 0 2 dX1_tellPart_6 inlX1 rfl (by decide) wd_72 rfl rfl rfl ?_
  refine x_iload_n C 1 dX1_tellPart_9 rfl rfl ?_
  refine x_callV C [.int s] [(he, .inr (1, [.ref hb, .ref hp, .ref hm, .int ep, .int ew, .int eo, .int ed, .int em])), (hb, .inr (0, [.ref b0, .ref b1, .ref b2, .ref b3, .ref b4, .ref b5, .ref b6, .int wc, .int la, .int br])), (b0, .inl (cI, 4, .inl pa)), (b1, .inl (cI, 16, .inl mi)), (b2, .inl (cI, 4, .inl ga)), (b3, .inl (cI, 4, .inl te)), (b4, .inl (cI, 4, .inl kn)), (b5, .inl (cI, 6, .inl wa)), (b6, .inl (cI, 16, .inl ne)), (hp, .inr (6, [.ref hs, .int z])), (hs, .inl (cI, 30, .inl f))] [1] [0, 2, 3, 4, 5, 6, 7, 8, 9, 10, 11] (q0 := 0) (c_X3_deepWith (xl X) (xD X) (xt X) hT hm mn mo mu mg mt mb hb s ) dX1_tellPart_10 wd_396 wd_397 wd_398 wd_71 wd_399 (np := 1) ⟨by decide, by decide, by decide +kernel⟩ rfl rfl (Nat.le_of_ble_eq_true rfl) (by decide) rfl rfl rfl rfl (by decide) rfl (by decide) (by decide) (fun v W1 h => ?_)
  obtain ⟨_, rfl, rfl, h_10⟩ := h
  show V X 3 [(he, .inr (1, [.ref hb, .ref hp, .ref hm, .int ep, .int ew, .int eo, .int ed, .int em])), (hb, .inr (0, [.ref b0, .ref b1, .ref b2, .ref b3, .ref b4, .ref b5, .ref b6, .int wc, .int la, .int br])), (b0, .inl (cI, 4, .inl pa)), (b1, .inl (cI, 16, .inl mi)), (b2, .inl (cI, 4, .inl ga)), (b3, .inl (cI, 4, .inl te)), (b4, .inl (cI, 4, .inl kn)), (b5, .inl (cI, 6, .inl wa)), (b6, .inl (cI, 16, .inl ne)), (hp, .inr (6, [.ref hs, .int z])), (hs, .inl (cI, 30, .inl f)), (hm, .inr (3, [.ref hb, .int mn, .int mo, .int mu, .int mg, .int mt, .int mb]))] [(0, .ref he), (1, .int s), (2, .int t)] [.int (bcF (mo ||| ((1 : Int32) <<< (s &&& 31)))), .int ed, .ref he] 13 0 0
  refine x_mmax C dX1_tellPart_13 wd_392 wd_393 wd_394 wd_395 (by decide) (Nat.le_of_ble_eq_true rfl) (by decide) (by decide) ?_
  obtain ⟨w_13, ew_13⟩ : ∃ y : Int32, y = if ed < (bcF (mo ||| ((1 : Int32) <<< (s &&& 31)))) then (bcF (mo ||| ((1 : Int32) <<< (s &&& 31)))) else ed := ⟨_, rfl⟩
  rw [← ew_13]
  refine x_put C 0 6 (ty := .int) [(he, .inr (1, [.ref hb, .ref hp, .ref hm, .int ep, .int ew, .int eo, .int w_13, .int em])), (hb, .inr (0, [.ref b0, .ref b1, .ref b2, .ref b3, .ref b4, .ref b5, .ref b6, .int wc, .int la, .int br])), (b0, .inl (cI, 4, .inl pa)), (b1, .inl (cI, 16, .inl mi)), (b2, .inl (cI, 4, .inl ga)), (b3, .inl (cI, 4, .inl te)), (b4, .inl (cI, 4, .inl kn)), (b5, .inl (cI, 6, .inl wa)), (b6, .inl (cI, 16, .inl ne)), (hp, .inr (6, [.ref hs, .int z])), (hs, .inl (cI, 30, .inl f)), (hm, .inr (3, [.ref hb, .int mn, .int mo, .int mu, .int mg, .int mt, .int mb]))] dX1_tellPart_16 inlX1 tyX1 tyX1_ok nmX1 rfl (by decide) wd_359 rfl rfl rfl rfl rfl rfl (Nat.le_of_ble_eq_true rfl) rfl ?_
  refine x_aload_n C 0 dX1_tellPart_19 rfl rfl ?_
  refine x_dup C dX1_tellPart_20 rfl ?_
  refine x_get C 0 7 dX1_tellPart_21 inlX1 rfl (by decide) wd_360 rfl rfl rfl ?_
  refine x_aload_n C 0 dX1_tellPart_24 rfl rfl ?_
  refine x_get C 0 0 dX1_tellPart_25 inlX1 rfl (by decide) wd_67 rfl rfl rfl ?_
  refine x_iload_n C 1 dX1_tellPart_28 rfl rfl ?_
  refine x_aload_n C 0 dX1_tellPart_29 rfl rfl ?_
  refine x_get C 0 2 dX1_tellPart_30 inlX1 rfl (by decide) wd_72 rfl rfl rfl ?_
  refine x_getN C 11 1 dX1_tellPart_33 inlX3 rfl (by decide) nt_24 rfl rfl rfl ?_
  refine x_iload_n C 1 dX1_tellPart_36 rfl rfl ?_
  refine x_callS C [.int mn, .int s] [(he, .inr (1, [.ref hb, .ref hp, .ref hm, .int ep, .int ew, .int eo, .int w_13, .int em])), (hb, .inr (0, [.ref b0, .ref b1, .ref b2, .ref b3, .ref b4, .ref b5, .ref b6, .int wc, .int la, .int br])), (b0, .inl (cI, 4, .inl pa)), (b1, .inl (cI, 16, .inl mi)), (b2, .inl (cI, 4, .inl ga)), (b3, .inl (cI, 4, .inl te)), (b4, .inl (cI, 4, .inl kn)), (b5, .inl (cI, 6, .inl wa)), (b6, .inl (cI, 16, .inl ne)), (hp, .inr (6, [.ref hs, .int z])), (hs, .inl (cI, 30, .inl f)), (hm, .inr (3, [.ref hb, .int mn, .int mo, .int mu, .int mg, .int mt, .int mb]))] [] [0, 1, 2, 3, 4, 5, 6, 7, 8, 9, 10, 11] (c_X3_partsTold (xl X) (xD X) (xt X) hT mn s ) dX1_tellPart_37 wd_407 wd_373 wd_71 wd_374 (np := 2) ⟨by decide, by decide, by decide +kernel⟩ rfl rfl (Nat.le_of_ble_eq_true rfl) (by decide) rfl (by decide) rfl (by decide) (by decide) (fun v W1 h => ?_)
  obtain ⟨_, rfl, rfl, h_37⟩ := h
  show V X 3 [(he, .inr (1, [.ref hb, .ref hp, .ref hm, .int ep, .int ew, .int eo, .int w_13, .int em])), (hb, .inr (0, [.ref b0, .ref b1, .ref b2, .ref b3, .ref b4, .ref b5, .ref b6, .int wc, .int la, .int br])), (b0, .inl (cI, 4, .inl pa)), (b1, .inl (cI, 16, .inl mi)), (b2, .inl (cI, 4, .inl ga)), (b3, .inl (cI, 4, .inl te)), (b4, .inl (cI, 4, .inl kn)), (b5, .inl (cI, 6, .inl wa)), (b6, .inl (cI, 16, .inl ne)), (hp, .inr (6, [.ref hs, .int z])), (hs, .inl (cI, 30, .inl f)), (hm, .inr (3, [.ref hb, .int mn, .int mo, .int mu, .int mg, .int mt, .int mb]))] [(0, .ref he), (1, .int s), (2, .int t)] [.int (ptI mn s), .int s, .ref hb, .int em, .ref he] 40 0 0
  refine x_callV C [.int s, .int (ptI mn s)] [(he, .inr (1, [.ref hb, .ref hp, .ref hm, .int ep, .int ew, .int eo, .int w_13, .int em])), (hp, .inr (6, [.ref hs, .int z])), (hs, .inl (cI, 30, .inl f)), (hm, .inr (3, [.ref hb, .int mn, .int mo, .int mu, .int mg, .int mt, .int mb]))] [1, 2, 3, 4, 5, 6, 7, 8] [0, 9, 10, 11] (q0 := 0) (c_X0_minutesAt (xl X) (xD X) (xt X) hT hb b0 b1 b2 b3 b4 b5 b6 pa mi ga te kn wa ne wc la br s (ptI mn s) (by omega)) dX1_tellPart_40 wd_408 wd_274 wd_275 wd_18 wd_276 (np := 2) ⟨by decide, by decide, by decide +kernel⟩ rfl rfl (Nat.le_of_ble_eq_true rfl) (by decide) rfl rfl rfl rfl (by decide) rfl (by decide) (by decide) (fun v W1 h => ?_)
  obtain ⟨r_40, rfl, rfl, h_40⟩ := h
  show V X 3 [(he, .inr (1, [.ref hb, .ref hp, .ref hm, .int ep, .int ew, .int eo, .int w_13, .int em])), (hp, .inr (6, [.ref hs, .int z])), (hs, .inl (cI, 30, .inl f)), (hm, .inr (3, [.ref hb, .int mn, .int mo, .int mu, .int mg, .int mt, .int mb])), (hb, .inr (0, [.ref b0, .ref b1, .ref b2, .ref b3, .ref b4, .ref b5, .ref b6, .int wc, .int la, .int br])), (b0, .inl (cI, 4, .inl pa)), (b1, .inl (cI, 16, .inl mi)), (b2, .inl (cI, 4, .inl ga)), (b3, .inl (cI, 4, .inl te)), (b4, .inl (cI, 4, .inl kn)), (b5, .inl (cI, 6, .inl wa)), (b6, .inl (cI, 16, .inl ne))] [(0, .ref he), (1, .int s), (2, .int t)] [.int r_40, .int em, .ref he] 43 0 0
  refine x_iadd C dX1_tellPart_43 ?_
  refine x_put C 0 7 (ty := .int) [(he, .inr (1, [.ref hb, .ref hp, .ref hm, .int ep, .int ew, .int eo, .int w_13, .int (em + r_40)])), (hp, .inr (6, [.ref hs, .int z])), (hs, .inl (cI, 30, .inl f)), (hm, .inr (3, [.ref hb, .int mn, .int mo, .int mu, .int mg, .int mt, .int mb])), (hb, .inr (0, [.ref b0, .ref b1, .ref b2, .ref b3, .ref b4, .ref b5, .ref b6, .int wc, .int la, .int br])), (b0, .inl (cI, 4, .inl pa)), (b1, .inl (cI, 16, .inl mi)), (b2, .inl (cI, 4, .inl ga)), (b3, .inl (cI, 4, .inl te)), (b4, .inl (cI, 4, .inl kn)), (b5, .inl (cI, 6, .inl wa)), (b6, .inl (cI, 16, .inl ne))] dX1_tellPart_44 inlX1 tyX1 tyX1_ok nmX1 rfl (by decide) wd_360 rfl rfl rfl rfl rfl rfl (Nat.le_of_ble_eq_true rfl) rfl ?_
  refine x_iload_n C 2 dX1_tellPart_47 rfl rfl ?_
  refine x_callSN C [.int t] [(he, .inr (1, [.ref hb, .ref hp, .ref hm, .int ep, .int ew, .int eo, .int w_13, .int (em + r_40)])), (hp, .inr (6, [.ref hs, .int z])), (hs, .inl (cI, 30, .inl f)), (hm, .inr (3, [.ref hb, .int mn, .int mo, .int mu, .int mg, .int mt, .int mb])), (hb, .inr (0, [.ref b0, .ref b1, .ref b2, .ref b3, .ref b4, .ref b5, .ref b6, .int wc, .int la, .int br])), (b0, .inl (cI, 4, .inl pa)), (b1, .inl (cI, 16, .inl mi)), (b2, .inl (cI, 4, .inl ga)), (b3, .inl (cI, 4, .inl te)), (b4, .inl (cI, 4, .inl kn)), (b5, .inl (cI, 6, .inl wa)), (b6, .inl (cI, 16, .inl ne))] [] [0, 1, 2, 3, 4, 5, 6, 7, 8, 9, 10, 11] (c_X9_isStory (xl X) (xD X) (xt X) hT t ) dX1_tellPart_48 nt_43 wd_220 wd_2 wd_221 (np := 1) ⟨by decide, by decide, by decide +kernel⟩ rfl rfl (Nat.le_of_ble_eq_true rfl) (by decide) rfl (by decide) rfl (by decide) (by decide) (fun v W1 h => ?_)
  obtain ⟨r_48, rfl, rfl, h_48⟩ := h
  show V X 3 [(he, .inr (1, [.ref hb, .ref hp, .ref hm, .int ep, .int ew, .int eo, .int w_13, .int (em + r_40)])), (hp, .inr (6, [.ref hs, .int z])), (hs, .inl (cI, 30, .inl f)), (hm, .inr (3, [.ref hb, .int mn, .int mo, .int mu, .int mg, .int mt, .int mb])), (hb, .inr (0, [.ref b0, .ref b1, .ref b2, .ref b3, .ref b4, .ref b5, .ref b6, .int wc, .int la, .int br])), (b0, .inl (cI, 4, .inl pa)), (b1, .inl (cI, 16, .inl mi)), (b2, .inl (cI, 4, .inl ga)), (b3, .inl (cI, 4, .inl te)), (b4, .inl (cI, 4, .inl kn)), (b5, .inl (cI, 6, .inl wa)), (b6, .inl (cI, 16, .inl ne))] [(0, .ref he), (1, .int s), (2, .int t)] [.int r_48] 51 0 0
  refine x_if_eq C 91 dX1_tellPart_51 (by decide) (fun c_51 => ?_) (fun c_51 => ?_)
  · skip
    have e_51 : (r_48 : Int32).toInt = (0 : Int32).toInt := i_eq.mp c_51
    have : (0 : Int32).toInt = 0 := by decide
    refine x_aload_n C 0 dX1_tellPart_91 rfl rfl ?_
    refine x_get C 0 2 dX1_tellPart_92 inlX1 rfl (by decide) wd_72 rfl rfl rfl ?_
    refine x_aload_n C 0 dX1_tellPart_95 rfl rfl ?_
    refine x_get C 0 2 dX1_tellPart_96 inlX1 rfl (by decide) wd_72 rfl rfl rfl ?_
    refine x_iload_n C 1 dX1_tellPart_99 rfl rfl ?_
    refine x_callV C [.int s] [(he, .inr (1, [.ref hb, .ref hp, .ref hm, .int ep, .int ew, .int eo, .int w_13, .int (em + r_40)])), (hp, .inr (6, [.ref hs, .int z])), (hs, .inl (cI, 30, .inl f))] [3, 4, 5, 6, 7, 8, 9, 10, 11] [0, 1, 2] (q0 := 0) (c_X3_after (xl X) (xD X) (xt X) hT hm mn mo mu mg mt mb hb b0 b1 b2 b3 b4 b5 b6 pa mi ga te kn wa ne wc la br s (by omega)) dX1_tellPart_100 wd_409 wd_410 wd_411 wd_71 wd_412 (np := 1) ⟨by decide, by decide, by decide +kernel⟩ rfl rfl (Nat.le_of_ble_eq_true rfl) (by decide) rfl rfl rfl rfl (by decide) rfl (by decide) (by decide) (fun v W1 h => ?_)
    obtain ⟨_, rfl, rfl, h_100⟩ := h
    show V X 3 [(he, .inr (1, [.ref hb, .ref hp, .ref hm, .int ep, .int ew, .int eo, .int w_13, .int (em + r_40)])), (hp, .inr (6, [.ref hs, .int z])), (hs, .inl (cI, 30, .inl f)), (hm, .inr (3, [.ref hb, .int mn, .int mo, .int mu, .int mg, .int mt, .int mb])), (hb, .inr (0, [.ref b0, .ref b1, .ref b2, .ref b3, .ref b4, .ref b5, .ref b6, .int wc, .int la, .int br])), (b0, .inl (cI, 4, .inl pa)), (b1, .inl (cI, 16, .inl mi)), (b2, .inl (cI, 4, .inl ga)), (b3, .inl (cI, 4, .inl te)), (b4, .inl (cI, 4, .inl kn)), (b5, .inl (cI, 6, .inl wa)), (b6, .inl (cI, 16, .inl ne))] [(0, .ref he), (1, .int s), (2, .int t)] [.int (afF pa la mn mo s), .ref hm] 103 0 0
    refine x_callV C [.int (afF pa la mn mo s)] [(he, .inr (1, [.ref hb, .ref hp, .ref hm, .int ep, .int ew, .int eo, .int w_13, .int (em + r_40)])), (hp, .inr (6, [.ref hs, .int z])), (hs, .inl (cI, 30, .inl f))] [3, 4, 5, 6, 7, 8, 9, 10, 11] [0, 1, 2] (q0 := 0) (c_X3_look (xl X) (xD X) (xt X) hT hm mn mo mu mg mt mb hb b0 b1 b2 b3 b4 b5 b6 pa mi ga te kn wa ne wc la br (afF pa la mn mo s) ) dX1_tellPart_103 wd_362 wd_363 wd_364 wd_71 wd_365 (np := 1) ⟨by decide, by decide, by decide +kernel⟩ rfl rfl (Nat.le_of_ble_eq_true rfl) (by decide) rfl rfl rfl rfl (by decide) rfl (by decide) (by decide) (fun v W1 h => ?_)
    obtain ⟨mo2_103, mu2_103, mg2_103, mt2_103, mb2_103, rfl, rfl, h_103⟩ := h
    show V X 3 [(he, .inr (1, [.ref hb, .ref hp, .ref hm, .int ep, .int ew, .int eo, .int w_13, .int (em + r_40)])), (hp, .inr (6, [.ref hs, .int z])), (hs, .inl (cI, 30, .inl f)), (hm, .inr (3, [.ref hb, .int ((afF pa la mn mo s)), .int mo2_103, .int mu2_103, .int mg2_103, .int mt2_103, .int mb2_103])), (hb, .inr (0, [.ref b0, .ref b1, .ref b2, .ref b3, .ref b4, .ref b5, .ref b6, .int wc, .int la, .int br])), (b0, .inl (cI, 4, .inl pa)), (b1, .inl (cI, 16, .inl mi)), (b2, .inl (cI, 4, .inl ga)), (b3, .inl (cI, 4, .inl te)), (b4, .inl (cI, 4, .inl kn)), (b5, .inl (cI, 6, .inl wa)), (b6, .inl (cI, 16, .inl ne))] [(0, .ref he), (1, .int s), (2, .int t)] [] 106 0 0
    have e9 : r_40 = mnF mi s (ptI mn s) := by
      unfold mnF
      by_cases c9 : 0 ≤ (ptI mn s).toInt ∧ (ptI mn s).toInt ≤ 3
      · rw [if_pos c9]; exact h_40.1 c9
      · rw [if_neg c9]; exact h_40.2 c9
    refine x_sub [(he, .inr (1, [.ref hb, .ref hp, .ref hm, .int ep, .int ew, .int eo, .int w_13, .int (em + r_40)])), (hm, .inr (3, [.ref hb, .int ((afF pa la mn mo s)), .int mo2_103, .int mu2_103, .int mg2_103, .int mt2_103, .int mb2_103])), (hb, .inr (0, [.ref b0, .ref b1, .ref b2, .ref b3, .ref b4, .ref b5, .ref b6, .int wc, .int la, .int br])), (b0, .inl (cI, 4, .inl pa)), (b1, .inl (cI, 16, .inl mi)), (b2, .inl (cI, 4, .inl ga)), (b3, .inl (cI, 4, .inl te)), (b4, .inl (cI, 4, .inl kn)), (b5, .inl (cI, 6, .inl wa)), (b6, .inl (cI, 16, .inl ne)), (hp, .inr (6, [.ref hs, .int z])), (hs, .inl (cI, 30, .inl f))] [0, 3, 4, 5, 6, 7, 8, 9, 10, 11, 1, 2] (by decide) rfl ?_
    exact x_vret C dX1_tellPart_106 (Nat.zero_le _) (Nat.zero_le _) (by rw [eO]; exact ⟨w_13, (em + r_40), ((afF pa la mn mo s)), mo2_103, mu2_103, mg2_103, mt2_103, mb2_103, rfl, rfl, ⟨ew_13, by unfold tmF; rw [if_neg (fun h => by omega), e9], rfl, h_103.2⟩⟩)
  · skip
    have e_51 : ¬ ((r_48 : Int32).toInt = (0 : Int32).toInt) := fun h => c_51 (i_eq.mpr h)
    have : (0 : Int32).toInt = 0 := by decide
    refine x_aload_n C 0 dX1_tellPart_54 rfl rfl ?_
    refine x_get C 0 0 dX1_tellPart_55 inlX1 rfl (by decide) wd_67 rfl rfl rfl ?_
    refine x_getN C 4 3 dX1_tellPart_58 inlX0 rfl (by decide) nt_10 rfl rfl rfl ?_
    refine x_iload_n C 2 dX1_tellPart_61 rfl rfl ?_
    have v_62 : vp_in t 4 := (vp_in_iff.mpr (by omega))
    refine x_iald C 8 0 dX1_tellPart_62 hT.1 rfl v_62 ?_
    refine x_aload_n C 0 dX1_tellPart_63 rfl rfl ?_
    refine x_get C 0 0 dX1_tellPart_64 inlX1 rfl (by decide) wd_67 rfl rfl rfl ?_
    refine x_getN C 4 3 dX1_tellPart_67 inlX0 rfl (by decide) nt_10 rfl rfl rfl ?_
    refine x_iload_n C 1 dX1_tellPart_70 rfl rfl ?_
    have v_71 : vp_in s 4 := (vp_in_iff.mpr (by omega))
    refine x_iald C 8 0 dX1_tellPart_71 hT.1 rfl v_71 ?_
    refine x_icmp_eq C 91 dX1_tellPart_72 (by decide) (fun c_72 => ?_) (fun c_72 => ?_)
    · skip
      have e_72 : (te (Int32.toNatClampNeg t) : Int32).toInt = (te (Int32.toNatClampNeg s) : Int32).toInt := i_eq.mp c_72
      refine x_aload_n C 0 dX1_tellPart_91 rfl rfl ?_
      refine x_get C 0 2 dX1_tellPart_92 inlX1 rfl (by decide) wd_72 rfl rfl rfl ?_
      refine x_aload_n C 0 dX1_tellPart_95 rfl rfl ?_
      refine x_get C 0 2 dX1_tellPart_96 inlX1 rfl (by decide) wd_72 rfl rfl rfl ?_
      refine x_iload_n C 1 dX1_tellPart_99 rfl rfl ?_
      refine x_callV C [.int s] [(he, .inr (1, [.ref hb, .ref hp, .ref hm, .int ep, .int ew, .int eo, .int w_13, .int (em + r_40)])), (hp, .inr (6, [.ref hs, .int z])), (hs, .inl (cI, 30, .inl f))] [3, 4, 5, 6, 7, 8, 9, 10, 11] [0, 1, 2] (q0 := 0) (c_X3_after (xl X) (xD X) (xt X) hT hm mn mo mu mg mt mb hb b0 b1 b2 b3 b4 b5 b6 pa mi ga te kn wa ne wc la br s (by omega)) dX1_tellPart_100 wd_409 wd_410 wd_411 wd_71 wd_412 (np := 1) ⟨by decide, by decide, by decide +kernel⟩ rfl rfl (Nat.le_of_ble_eq_true rfl) (by decide) rfl rfl rfl rfl (by decide) rfl (by decide) (by decide) (fun v W1 h => ?_)
      obtain ⟨_, rfl, rfl, h_100⟩ := h
      show V X 3 [(he, .inr (1, [.ref hb, .ref hp, .ref hm, .int ep, .int ew, .int eo, .int w_13, .int (em + r_40)])), (hp, .inr (6, [.ref hs, .int z])), (hs, .inl (cI, 30, .inl f)), (hm, .inr (3, [.ref hb, .int mn, .int mo, .int mu, .int mg, .int mt, .int mb])), (hb, .inr (0, [.ref b0, .ref b1, .ref b2, .ref b3, .ref b4, .ref b5, .ref b6, .int wc, .int la, .int br])), (b0, .inl (cI, 4, .inl pa)), (b1, .inl (cI, 16, .inl mi)), (b2, .inl (cI, 4, .inl ga)), (b3, .inl (cI, 4, .inl te)), (b4, .inl (cI, 4, .inl kn)), (b5, .inl (cI, 6, .inl wa)), (b6, .inl (cI, 16, .inl ne))] [(0, .ref he), (1, .int s), (2, .int t)] [.int (afF pa la mn mo s), .ref hm] 103 0 0
      refine x_callV C [.int (afF pa la mn mo s)] [(he, .inr (1, [.ref hb, .ref hp, .ref hm, .int ep, .int ew, .int eo, .int w_13, .int (em + r_40)])), (hp, .inr (6, [.ref hs, .int z])), (hs, .inl (cI, 30, .inl f))] [3, 4, 5, 6, 7, 8, 9, 10, 11] [0, 1, 2] (q0 := 0) (c_X3_look (xl X) (xD X) (xt X) hT hm mn mo mu mg mt mb hb b0 b1 b2 b3 b4 b5 b6 pa mi ga te kn wa ne wc la br (afF pa la mn mo s) ) dX1_tellPart_103 wd_362 wd_363 wd_364 wd_71 wd_365 (np := 1) ⟨by decide, by decide, by decide +kernel⟩ rfl rfl (Nat.le_of_ble_eq_true rfl) (by decide) rfl rfl rfl rfl (by decide) rfl (by decide) (by decide) (fun v W1 h => ?_)
      obtain ⟨mo2_103, mu2_103, mg2_103, mt2_103, mb2_103, rfl, rfl, h_103⟩ := h
      show V X 3 [(he, .inr (1, [.ref hb, .ref hp, .ref hm, .int ep, .int ew, .int eo, .int w_13, .int (em + r_40)])), (hp, .inr (6, [.ref hs, .int z])), (hs, .inl (cI, 30, .inl f)), (hm, .inr (3, [.ref hb, .int ((afF pa la mn mo s)), .int mo2_103, .int mu2_103, .int mg2_103, .int mt2_103, .int mb2_103])), (hb, .inr (0, [.ref b0, .ref b1, .ref b2, .ref b3, .ref b4, .ref b5, .ref b6, .int wc, .int la, .int br])), (b0, .inl (cI, 4, .inl pa)), (b1, .inl (cI, 16, .inl mi)), (b2, .inl (cI, 4, .inl ga)), (b3, .inl (cI, 4, .inl te)), (b4, .inl (cI, 4, .inl kn)), (b5, .inl (cI, 6, .inl wa)), (b6, .inl (cI, 16, .inl ne))] [(0, .ref he), (1, .int s), (2, .int t)] [] 106 0 0
      have e9 : r_40 = mnF mi s (ptI mn s) := by
        unfold mnF
        by_cases c9 : 0 ≤ (ptI mn s).toInt ∧ (ptI mn s).toInt ≤ 3
        · rw [if_pos c9]; exact h_40.1 c9
        · rw [if_neg c9]; exact h_40.2 c9
      refine x_sub [(he, .inr (1, [.ref hb, .ref hp, .ref hm, .int ep, .int ew, .int eo, .int w_13, .int (em + r_40)])), (hm, .inr (3, [.ref hb, .int ((afF pa la mn mo s)), .int mo2_103, .int mu2_103, .int mg2_103, .int mt2_103, .int mb2_103])), (hb, .inr (0, [.ref b0, .ref b1, .ref b2, .ref b3, .ref b4, .ref b5, .ref b6, .int wc, .int la, .int br])), (b0, .inl (cI, 4, .inl pa)), (b1, .inl (cI, 16, .inl mi)), (b2, .inl (cI, 4, .inl ga)), (b3, .inl (cI, 4, .inl te)), (b4, .inl (cI, 4, .inl kn)), (b5, .inl (cI, 6, .inl wa)), (b6, .inl (cI, 16, .inl ne)), (hp, .inr (6, [.ref hs, .int z])), (hs, .inl (cI, 30, .inl f))] [0, 3, 4, 5, 6, 7, 8, 9, 10, 11, 1, 2] (by decide) rfl ?_
      exact x_vret C dX1_tellPart_106 (Nat.zero_le _) (Nat.zero_le _) (by rw [eO]; exact ⟨w_13, (em + r_40), ((afF pa la mn mo s)), mo2_103, mu2_103, mg2_103, mt2_103, mb2_103, rfl, rfl, ⟨ew_13, by unfold tmF; rw [if_neg (fun h => h.2 c_72), e9], rfl, h_103.2⟩⟩)
    · skip
      have e_72 : ¬ ((te (Int32.toNatClampNeg t) : Int32).toInt = (te (Int32.toNatClampNeg s) : Int32).toInt) := fun h => c_72 (i_eq.mpr h)
      refine x_aload_n C 0 dX1_tellPart_75 rfl rfl ?_
      refine x_dup C dX1_tellPart_76 rfl ?_
      refine x_get C 0 7 dX1_tellPart_77 inlX1 rfl (by decide) wd_360 rfl rfl rfl ?_
      refine x_aload_n C 0 dX1_tellPart_80 rfl rfl ?_
      refine x_get C 0 0 dX1_tellPart_81 inlX1 rfl (by decide) wd_67 rfl rfl rfl ?_
      refine x_getN C 4 9 dX1_tellPart_84 inlX0 rfl (by decide) nt_21 rfl rfl rfl ?_
      refine x_iadd C dX1_tellPart_87 ?_
      refine x_put C 0 7 (ty := .int) [(he, .inr (1, [.ref hb, .ref hp, .ref hm, .int ep, .int ew, .int eo, .int w_13, .int ((em + r_40) + br)])), (hp, .inr (6, [.ref hs, .int z])), (hs, .inl (cI, 30, .inl f)), (hm, .inr (3, [.ref hb, .int mn, .int mo, .int mu, .int mg, .int mt, .int mb])), (hb, .inr (0, [.ref b0, .ref b1, .ref b2, .ref b3, .ref b4, .ref b5, .ref b6, .int wc, .int la, .int br])), (b0, .inl (cI, 4, .inl pa)), (b1, .inl (cI, 16, .inl mi)), (b2, .inl (cI, 4, .inl ga)), (b3, .inl (cI, 4, .inl te)), (b4, .inl (cI, 4, .inl kn)), (b5, .inl (cI, 6, .inl wa)), (b6, .inl (cI, 16, .inl ne))] dX1_tellPart_88 inlX1 tyX1 tyX1_ok nmX1 rfl (by decide) wd_360 rfl rfl rfl rfl rfl rfl (Nat.le_of_ble_eq_true rfl) rfl ?_
      refine x_aload_n C 0 dX1_tellPart_91 rfl rfl ?_
      refine x_get C 0 2 dX1_tellPart_92 inlX1 rfl (by decide) wd_72 rfl rfl rfl ?_
      refine x_aload_n C 0 dX1_tellPart_95 rfl rfl ?_
      refine x_get C 0 2 dX1_tellPart_96 inlX1 rfl (by decide) wd_72 rfl rfl rfl ?_
      refine x_iload_n C 1 dX1_tellPart_99 rfl rfl ?_
      refine x_callV C [.int s] [(he, .inr (1, [.ref hb, .ref hp, .ref hm, .int ep, .int ew, .int eo, .int w_13, .int ((em + r_40) + br)])), (hp, .inr (6, [.ref hs, .int z])), (hs, .inl (cI, 30, .inl f))] [3, 4, 5, 6, 7, 8, 9, 10, 11] [0, 1, 2] (q0 := 0) (c_X3_after (xl X) (xD X) (xt X) hT hm mn mo mu mg mt mb hb b0 b1 b2 b3 b4 b5 b6 pa mi ga te kn wa ne wc la br s (by omega)) dX1_tellPart_100 wd_409 wd_410 wd_411 wd_71 wd_412 (np := 1) ⟨by decide, by decide, by decide +kernel⟩ rfl rfl (Nat.le_of_ble_eq_true rfl) (by decide) rfl rfl rfl rfl (by decide) rfl (by decide) (by decide) (fun v W1 h => ?_)
      obtain ⟨_, rfl, rfl, h_100⟩ := h
      show V X 3 [(he, .inr (1, [.ref hb, .ref hp, .ref hm, .int ep, .int ew, .int eo, .int w_13, .int ((em + r_40) + br)])), (hp, .inr (6, [.ref hs, .int z])), (hs, .inl (cI, 30, .inl f)), (hm, .inr (3, [.ref hb, .int mn, .int mo, .int mu, .int mg, .int mt, .int mb])), (hb, .inr (0, [.ref b0, .ref b1, .ref b2, .ref b3, .ref b4, .ref b5, .ref b6, .int wc, .int la, .int br])), (b0, .inl (cI, 4, .inl pa)), (b1, .inl (cI, 16, .inl mi)), (b2, .inl (cI, 4, .inl ga)), (b3, .inl (cI, 4, .inl te)), (b4, .inl (cI, 4, .inl kn)), (b5, .inl (cI, 6, .inl wa)), (b6, .inl (cI, 16, .inl ne))] [(0, .ref he), (1, .int s), (2, .int t)] [.int (afF pa la mn mo s), .ref hm] 103 0 0
      refine x_callV C [.int (afF pa la mn mo s)] [(he, .inr (1, [.ref hb, .ref hp, .ref hm, .int ep, .int ew, .int eo, .int w_13, .int ((em + r_40) + br)])), (hp, .inr (6, [.ref hs, .int z])), (hs, .inl (cI, 30, .inl f))] [3, 4, 5, 6, 7, 8, 9, 10, 11] [0, 1, 2] (q0 := 0) (c_X3_look (xl X) (xD X) (xt X) hT hm mn mo mu mg mt mb hb b0 b1 b2 b3 b4 b5 b6 pa mi ga te kn wa ne wc la br (afF pa la mn mo s) ) dX1_tellPart_103 wd_362 wd_363 wd_364 wd_71 wd_365 (np := 1) ⟨by decide, by decide, by decide +kernel⟩ rfl rfl (Nat.le_of_ble_eq_true rfl) (by decide) rfl rfl rfl rfl (by decide) rfl (by decide) (by decide) (fun v W1 h => ?_)
      obtain ⟨mo2_103, mu2_103, mg2_103, mt2_103, mb2_103, rfl, rfl, h_103⟩ := h
      show V X 3 [(he, .inr (1, [.ref hb, .ref hp, .ref hm, .int ep, .int ew, .int eo, .int w_13, .int ((em + r_40) + br)])), (hp, .inr (6, [.ref hs, .int z])), (hs, .inl (cI, 30, .inl f)), (hm, .inr (3, [.ref hb, .int ((afF pa la mn mo s)), .int mo2_103, .int mu2_103, .int mg2_103, .int mt2_103, .int mb2_103])), (hb, .inr (0, [.ref b0, .ref b1, .ref b2, .ref b3, .ref b4, .ref b5, .ref b6, .int wc, .int la, .int br])), (b0, .inl (cI, 4, .inl pa)), (b1, .inl (cI, 16, .inl mi)), (b2, .inl (cI, 4, .inl ga)), (b3, .inl (cI, 4, .inl te)), (b4, .inl (cI, 4, .inl kn)), (b5, .inl (cI, 6, .inl wa)), (b6, .inl (cI, 16, .inl ne))] [(0, .ref he), (1, .int s), (2, .int t)] [] 106 0 0
      have e9 : r_40 = mnF mi s (ptI mn s) := by
        unfold mnF
        by_cases c9 : 0 ≤ (ptI mn s).toInt ∧ (ptI mn s).toInt ≤ 3
        · rw [if_pos c9]; exact h_40.1 c9
        · rw [if_neg c9]; exact h_40.2 c9
      refine x_sub [(he, .inr (1, [.ref hb, .ref hp, .ref hm, .int ep, .int ew, .int eo, .int w_13, .int ((em + r_40) + br)])), (hm, .inr (3, [.ref hb, .int ((afF pa la mn mo s)), .int mo2_103, .int mu2_103, .int mg2_103, .int mt2_103, .int mb2_103])), (hb, .inr (0, [.ref b0, .ref b1, .ref b2, .ref b3, .ref b4, .ref b5, .ref b6, .int wc, .int la, .int br])), (b0, .inl (cI, 4, .inl pa)), (b1, .inl (cI, 16, .inl mi)), (b2, .inl (cI, 4, .inl ga)), (b3, .inl (cI, 4, .inl te)), (b4, .inl (cI, 4, .inl kn)), (b5, .inl (cI, 6, .inl wa)), (b6, .inl (cI, 16, .inl ne)), (hp, .inr (6, [.ref hs, .int z])), (hs, .inl (cI, 30, .inl f))] [0, 3, 4, 5, 6, 7, 8, 9, 10, 11, 1, 2] (by decide) rfl ?_
      exact x_vret C dX1_tellPart_106 (Nat.zero_le _) (Nat.zero_le _) (by rw [eO]; exact ⟨w_13, ((em + r_40) + br), ((afF pa la mn mo s)), mo2_103, mu2_103, mg2_103, mt2_103, mb2_103, rfl, rfl, ⟨ew_13, by unfold tmF; rw [if_pos ⟨by omega, c_72⟩, e9], rfl, h_103.2⟩⟩)
abbrev rm_X1_isGood : Room := { frames := 4, cells := 0, slots := 0, locals := 90 }
set_option maxHeartbeats 4000000 in
set_option maxRecDepth 100000 in
theorem c_X1_isGood (l : Launch) (D : va_G) (tys : List (ClassId × FieldType)) {cI cJ cZ cB : ClassId} (hT : Ty tys cI cJ cZ cB) (he : Nat) (ep ew eo ed em : Int32) (hm : Nat) (mn mo mu mg mt mb : Int32) (hb b0 b1 b2 b3 b4 b5 b6 : Nat) (pa mi ga te kn wa ne : Nat → Int32) (wc la br : Int32) (hp hs : Nat) (f : Nat → Int32) (z : Int32) (hz : 0 ≤ z.toInt ∧ z.toInt ≤ 30) (hfr : FR f z 97 100) : Cn l D tys yX1_isGood cX1_isGood 4 (some .boolean) rm_X1_isGood [(he, .inr (1, [.ref hb, .ref hp, .ref hm, .int ep, .int ew, .int eo, .int ed, .int em])), (hm, .inr (3, [.ref hb, .int mn, .int mo, .int mu, .int mg, .int mt, .int mb])), (hb, .inr (0, [.ref b0, .ref b1, .ref b2, .ref b3, .ref b4, .ref b5, .ref b6, .int wc, .int la, .int br])), (b0, .inl (cI, 4, .inl pa)), (b1, .inl (cI, 16, .inl mi)), (b2, .inl (cI, 4, .inl ga)), (b3, .inl (cI, 4, .inl te)), (b4, .inl (cI, 4, .inl kn)), (b5, .inl (cI, 6, .inl wa)), (b6, .inl (cI, 16, .inl ne)), (hp, .inr (6, [.ref hs, .int z])), (hs, .inl (cI, 30, .inl f))] [.ref he] (fun v W1 => ∃ (r ep2 ew2 eo2 ed2 em2 mn2 mo2 mu2 mg2 mt2 mb2 : Int32), v = some (.int r) ∧ W1 = [(he, .inr (1, [.ref hb, .ref hp, .ref hm, .int ep2, .int ew2, .int eo2, .int ed2, .int em2])), (hm, .inr (3, [.ref hb, .int mn2, .int mo2, .int mu2, .int mg2, .int mt2, .int mb2])), (hb, .inr (0, [.ref b0, .ref b1, .ref b2, .ref b3, .ref b4, .ref b5, .ref b6, .int wc, .int la, .int br])), (b0, .inl (cI, 4, .inl pa)), (b1, .inl (cI, 16, .inl mi)), (b2, .inl (cI, 4, .inl ga)), (b3, .inl (cI, 4, .inl te)), (b4, .inl (cI, 4, .inl kn)), (b5, .inl (cI, 6, .inl wa)), (b6, .inl (cI, 16, .inl ne)), (hp, .inr (6, [.ref hs, .int z])), (hs, .inl (cI, 30, .inl f))] ∧ ((r.toInt = 0 ∨ r.toInt = 1) ∧ JDG pa ga te mi ne la br f z.toInt.toNat r ep2 ew2 eo2 ed2 em2)) := by
  refine Cn.of (by decide) (Nat.le_of_ble_eq_true rfl) ?_ ?_ (fun X eL eD eT eO eK eN eM C => ?_)
  · intro _ v ws h; obtain ⟨_, _, _, _, _, _, _, _, _, _, _, _, rfl, rfl, h⟩ := h; exact z_of (by omega)
  · intro v ws h; obtain ⟨_, _, _, _, _, _, _, _, _, _, _, _, rfl, rfl, _⟩ := h; exact Or.inr rfl
  subst eL eD eT
  show V X 4 [(he, .inr (1, [.ref hb, .ref hp, .ref hm, .int ep, .int ew, .int eo, .int ed, .int em])), (hm, .inr (3, [.ref hb, .int mn, .int mo, .int mu, .int mg, .int mt, .int mb])), (hb, .inr (0, [.ref b0, .ref b1, .ref b2, .ref b3, .ref b4, .ref b5, .ref b6, .int wc, .int la, .int br])), (b0, .inl (cI, 4, .inl pa)), (b1, .inl (cI, 16, .inl mi)), (b2, .inl (cI, 4, .inl ga)), (b3, .inl (cI, 4, .inl te)), (b4, .inl (cI, 4, .inl kn)), (b5, .inl (cI, 6, .inl wa)), (b6, .inl (cI, 16, .inl ne)), (hp, .inr (6, [.ref hs, .int z])), (hs, .inl (cI, 30, .inl f))] [(0, .ref he)] [] 0 0 0
  refine x_aload_n C 0 dX1_isGood_0 rfl rfl ?_
  refine x_iconst C 0 dX1_isGood_1 (by decide) ?_
  refine x_put C 0 3 (ty := .int) [(he, .inr (1, [.ref hb, .ref hp, .ref hm, .int 0, .int ew, .int eo, .int ed, .int em])), (hm, .inr (3, [.ref hb, .int mn, .int mo, .int mu, .int mg, .int mt, .int mb])), (hb, .inr (0, [.ref b0, .ref b1, .ref b2, .ref b3, .ref b4, .ref b5, .ref b6, .int wc, .int la, .int br])), (b0, .inl (cI, 4, .inl pa)), (b1, .inl (cI, 16, .inl mi)), (b2, .inl (cI, 4, .inl ga)), (b3, .inl (cI, 4, .inl te)), (b4, .inl (cI, 4, .inl kn)), (b5, .inl (cI, 6, .inl wa)), (b6, .inl (cI, 16, .inl ne)), (hp, .inr (6, [.ref hs, .int z])), (hs, .inl (cI, 30, .inl f))] dX1_isGood_2 inlX1 tyX1 tyX1_ok nmX1 rfl (by decide) wd_357 rfl rfl rfl rfl rfl rfl (Nat.le_of_ble_eq_true rfl) rfl ?_
  refine x_aload_n C 0 dX1_isGood_5 rfl rfl ?_
  refine x_iconst C 0 dX1_isGood_6 (by decide) ?_
  refine x_put C 0 4 (ty := .int) [(he, .inr (1, [.ref hb, .ref hp, .ref hm, .int 0, .int 0, .int eo, .int ed, .int em])), (hm, .inr (3, [.ref hb, .int mn, .int mo, .int mu, .int mg, .int mt, .int mb])), (hb, .inr (0, [.ref b0, .ref b1, .ref b2, .ref b3, .ref b4, .ref b5, .ref b6, .int wc, .int la, .int br])), (b0, .inl (cI, 4, .inl pa)), (b1, .inl (cI, 16, .inl mi)), (b2, .inl (cI, 4, .inl ga)), (b3, .inl (cI, 4, .inl te)), (b4, .inl (cI, 4, .inl kn)), (b5, .inl (cI, 6, .inl wa)), (b6, .inl (cI, 16, .inl ne)), (hp, .inr (6, [.ref hs, .int z])), (hs, .inl (cI, 30, .inl f))] dX1_isGood_7 inlX1 tyX1 tyX1_ok nmX1 rfl (by decide) wd_358 rfl rfl rfl rfl rfl rfl (Nat.le_of_ble_eq_true rfl) rfl ?_
  refine x_aload_n C 0 dX1_isGood_10 rfl rfl ?_
  refine x_iconst C 0 dX1_isGood_11 (by decide) ?_
  refine x_put C 0 6 (ty := .int) [(he, .inr (1, [.ref hb, .ref hp, .ref hm, .int 0, .int 0, .int eo, .int 0, .int em])), (hm, .inr (3, [.ref hb, .int mn, .int mo, .int mu, .int mg, .int mt, .int mb])), (hb, .inr (0, [.ref b0, .ref b1, .ref b2, .ref b3, .ref b4, .ref b5, .ref b6, .int wc, .int la, .int br])), (b0, .inl (cI, 4, .inl pa)), (b1, .inl (cI, 16, .inl mi)), (b2, .inl (cI, 4, .inl ga)), (b3, .inl (cI, 4, .inl te)), (b4, .inl (cI, 4, .inl kn)), (b5, .inl (cI, 6, .inl wa)), (b6, .inl (cI, 16, .inl ne)), (hp, .inr (6, [.ref hs, .int z])), (hs, .inl (cI, 30, .inl f))] dX1_isGood_12 inlX1 tyX1 tyX1_ok nmX1 rfl (by decide) wd_359 rfl rfl rfl rfl rfl rfl (Nat.le_of_ble_eq_true rfl) rfl ?_
  refine x_aload_n C 0 dX1_isGood_15 rfl rfl ?_
  refine x_iconst C 0 dX1_isGood_16 (by decide) ?_
  refine x_put C 0 7 (ty := .int) [(he, .inr (1, [.ref hb, .ref hp, .ref hm, .int 0, .int 0, .int eo, .int 0, .int 0])), (hm, .inr (3, [.ref hb, .int mn, .int mo, .int mu, .int mg, .int mt, .int mb])), (hb, .inr (0, [.ref b0, .ref b1, .ref b2, .ref b3, .ref b4, .ref b5, .ref b6, .int wc, .int la, .int br])), (b0, .inl (cI, 4, .inl pa)), (b1, .inl (cI, 16, .inl mi)), (b2, .inl (cI, 4, .inl ga)), (b3, .inl (cI, 4, .inl te)), (b4, .inl (cI, 4, .inl kn)), (b5, .inl (cI, 6, .inl wa)), (b6, .inl (cI, 16, .inl ne)), (hp, .inr (6, [.ref hs, .int z])), (hs, .inl (cI, 30, .inl f))] dX1_isGood_17 inlX1 tyX1 tyX1_ok nmX1 rfl (by decide) wd_360 rfl rfl rfl rfl rfl rfl (Nat.le_of_ble_eq_true rfl) rfl ?_
  refine x_aload_n C 0 dX1_isGood_20 rfl rfl ?_
  refine x_get C 0 2 dX1_isGood_21 inlX1 rfl (by decide) wd_72 rfl rfl rfl ?_
  refine x_iconst C 0 dX1_isGood_24 (by decide) ?_
  refine x_callV C [.int 0] [(he, .inr (1, [.ref hb, .ref hp, .ref hm, .int 0, .int 0, .int eo, .int 0, .int 0])), (hp, .inr (6, [.ref hs, .int z])), (hs, .inl (cI, 30, .inl f))] [1, 2, 3, 4, 5, 6, 7, 8, 9] [0, 10, 11] (q0 := 0) (c_X3_look (xl X) (xD X) (xt X) hT hm mn mo mu mg mt mb hb b0 b1 b2 b3 b4 b5 b6 pa mi ga te kn wa ne wc la br 0 ) dX1_isGood_25 wd_362 wd_363 wd_364 wd_71 wd_365 (np := 1) ⟨by decide, by decide, by decide +kernel⟩ rfl rfl (Nat.le_of_ble_eq_true rfl) (by decide) rfl rfl rfl rfl (by decide) rfl (by decide) (by decide) (fun v W1 h => ?_)
  obtain ⟨mo2_25, mu2_25, mg2_25, mt2_25, mb2_25, rfl, rfl, h_25⟩ := h
  have : (0 : Int32).toInt = 0 := by decide
  show V X 4 [(he, .inr (1, [.ref hb, .ref hp, .ref hm, .int 0, .int 0, .int eo, .int 0, .int 0])), (hp, .inr (6, [.ref hs, .int z])), (hs, .inl (cI, 30, .inl f)), (hm, .inr (3, [.ref hb, .int 0, .int mo2_25, .int mu2_25, .int mg2_25, .int mt2_25, .int mb2_25])), (hb, .inr (0, [.ref b0, .ref b1, .ref b2, .ref b3, .ref b4, .ref b5, .ref b6, .int wc, .int la, .int br])), (b0, .inl (cI, 4, .inl pa)), (b1, .inl (cI, 16, .inl mi)), (b2, .inl (cI, 4, .inl ga)), (b3, .inl (cI, 4, .inl te)), (b4, .inl (cI, 4, .inl kn)), (b5, .inl (cI, 6, .inl wa)), (b6, .inl (cI, 16, .inl ne))] [(0, .ref he)] [] 28 0 0
  refine x_bipush C (-6) dX1_isGood_28 (by decide) ?_
  refine x_istore_n C [(1, .int ((-6))), (0, .ref he)] dX1_isGood_30 rfl (by decide) rfl ?_
  refine x_iconst C 0 dX1_isGood_31 (by decide) ?_
  refine x_istore_n C [(2, .int 0), (1, .int ((-6))), (0, .ref he)] dX1_isGood_32 rfl (by decide) rfl ?_
  have L_33 : ∀ (n_33 : Nat) (x2_33 : Int32) (x1_33 : Int32) (ghe3_33 : Int32) (ghe4_33 : Int32) (ghe6_33 : Int32) (ghe7_33 : Int32) (ghm1_33 : Int32) (ghm2_33 : Int32) (ghm3_33 : Int32) (ghm4_33 : Int32) (ghm5_33 : Int32) (ghm6_33 : Int32), ((0 ≤ x2_33.toInt ∧ x2_33.toInt ≤ z.toInt) ∧ EVI pa ga te mi ne la br f x2_33.toInt.toNat ghm1_33 ghm2_33 ghm3_33 ghm4_33 ghm5_33 ghm6_33 ghe6_33 ghe7_33 x1_33) → ((z.toInt - x2_33.toInt).toNat < n_33) → V X 4 [(he, .inr (1, [.ref hb, .ref hp, .ref hm, .int ghe3_33, .int ghe4_33, .int eo, .int ghe6_33, .int ghe7_33])), (hp, .inr (6, [.ref hs, .int z])), (hs, .inl (cI, 30, .inl f)), (hm, .inr (3, [.ref hb, .int ghm1_33, .int ghm2_33, .int ghm3_33, .int ghm4_33, .int ghm5_33, .int ghm6_33])), (hb, .inr (0, [.ref b0, .ref b1, .ref b2, .ref b3, .ref b4, .ref b5, .ref b6, .int wc, .int la, .int br])), (b0, .inl (cI, 4, .inl pa)), (b1, .inl (cI, 16, .inl mi)), (b2, .inl (cI, 4, .inl ga)), (b3, .inl (cI, 4, .inl te)), (b4, .inl (cI, 4, .inl kn)), (b5, .inl (cI, 6, .inl wa)), (b6, .inl (cI, 16, .inl ne))] [(2, .int x2_33), (1, .int x1_33), (0, .ref he)] [] 33 0 0 := by
    intro n_33
    induction n_33 with
    | zero =>
      intro x2_33 x1_33 ghe3_33 ghe4_33 ghe6_33 ghe7_33 ghm1_33 ghm2_33 ghm3_33 ghm4_33 ghm5_33 ghm6_33 i_33 m_33
      exact absurd m_33 (Nat.not_lt_zero _)
    | succ n_33 ih_33 =>
      intro x2_33 x1_33 ghe3_33 ghe4_33 ghe6_33 ghe7_33 ghm1_33 ghm2_33 ghm3_33 ghm4_33 ghm5_33 ghm6_33 i_33 m_33
      refine x_iload_n C 0 dX1_isGood_33 rfl rfl ?_
      refine x_aload_n C 2 dX1_isGood_34 rfl rfl ?_
      refine x_get C 0 1 dX1_isGood_35 inlX1 rfl (by decide) wd_68 rfl rfl rfl ?_
      refine x_getN C 1 1 dX1_isGood_38 inlX6 rfl (by decide) nt_1 rfl rfl rfl ?_
      refine x_icmp_ge C 107 dX1_isGood_41 (by decide) (fun c_41 => ?_) (fun c_41 => ?_)
      · skip
        have e_41 : (z : Int32).toInt ≤ (x2_33 : Int32).toInt := i_le.mp c_41
        refine x_aload_n C 2 dX1_isGood_107 rfl rfl ?_
        refine x_aload_n C 2 dX1_isGood_108 rfl rfl ?_
        refine x_get C 0 2 dX1_isGood_109 inlX1 rfl (by decide) wd_72 rfl rfl rfl ?_
        refine x_getN C 3 2 dX1_isGood_112 inlX3 rfl (by decide) nt_25 rfl rfl rfl ?_
        refine x_put C 0 5 (ty := .int) [(he, .inr (1, [.ref hb, .ref hp, .ref hm, .int ghe3_33, .int ghe4_33, .int ghm2_33, .int ghe6_33, .int ghe7_33])), (hp, .inr (6, [.ref hs, .int z])), (hs, .inl (cI, 30, .inl f)), (hm, .inr (3, [.ref hb, .int ghm1_33, .int ghm2_33, .int ghm3_33, .int ghm4_33, .int ghm5_33, .int ghm6_33])), (hb, .inr (0, [.ref b0, .ref b1, .ref b2, .ref b3, .ref b4, .ref b5, .ref b6, .int wc, .int la, .int br])), (b0, .inl (cI, 4, .inl pa)), (b1, .inl (cI, 16, .inl mi)), (b2, .inl (cI, 4, .inl ga)), (b3, .inl (cI, 4, .inl te)), (b4, .inl (cI, 4, .inl kn)), (b5, .inl (cI, 6, .inl wa)), (b6, .inl (cI, 16, .inl ne))] dX1_isGood_115 inlX1 tyX1 tyX1_ok nmX1 rfl (by decide) wd_361 rfl rfl rfl rfl rfl rfl (Nat.le_of_ble_eq_true rfl) rfl ?_
        refine x_iconst C 1 dX1_isGood_118 (by decide) ?_
        refine x_sub [(he, .inr (1, [.ref hb, .ref hp, .ref hm, .int ghe3_33, .int ghe4_33, .int ghm2_33, .int ghe6_33, .int ghe7_33])), (hm, .inr (3, [.ref hb, .int ghm1_33, .int ghm2_33, .int ghm3_33, .int ghm4_33, .int ghm5_33, .int ghm6_33])), (hb, .inr (0, [.ref b0, .ref b1, .ref b2, .ref b3, .ref b4, .ref b5, .ref b6, .int wc, .int la, .int br])), (b0, .inl (cI, 4, .inl pa)), (b1, .inl (cI, 16, .inl mi)), (b2, .inl (cI, 4, .inl ga)), (b3, .inl (cI, 4, .inl te)), (b4, .inl (cI, 4, .inl kn)), (b5, .inl (cI, 6, .inl wa)), (b6, .inl (cI, 16, .inl ne)), (hp, .inr (6, [.ref hs, .int z])), (hs, .inl (cI, 30, .inl f))] [0, 3, 4, 5, 6, 7, 8, 9, 10, 11, 1, 2] (by decide) rfl ?_
        have : (1 : Int32).toInt = 1 := by decide
        exact x_iret C dX1_isGood_119 (Nat.zero_le _) (Nat.zero_le _) (by rw [eO]; exact ⟨1, ghe3_33, ghe4_33, ghm2_33, ghe6_33, ghe7_33, ghm1_33, ghm2_33, ghm3_33, ghm4_33, ghm5_33, ghm6_33, rfl, rfl, ⟨by omega, JDG.good i_33.2 (by omega)⟩⟩)
      · skip
        have e_41 : ¬ ((z : Int32).toInt ≤ (x2_33 : Int32).toInt) := fun h => c_41 (i_le.mpr h)
        refine x_aload_n C 2 dX1_isGood_44 rfl rfl ?_
        refine x_get C 0 1 dX1_isGood_45 inlX1 rfl (by decide) wd_68 rfl rfl rfl ?_
        refine x_iload_n C 0 dX1_isGood_48 rfl rfl ?_
        refine x_callV C [.int x2_33] [(he, .inr (1, [.ref hb, .ref hp, .ref hm, .int ghe3_33, .int ghe4_33, .int eo, .int ghe6_33, .int ghe7_33])), (hm, .inr (3, [.ref hb, .int ghm1_33, .int ghm2_33, .int ghm3_33, .int ghm4_33, .int ghm5_33, .int ghm6_33])), (hb, .inr (0, [.ref b0, .ref b1, .ref b2, .ref b3, .ref b4, .ref b5, .ref b6, .int wc, .int la, .int br])), (b0, .inl (cI, 4, .inl pa)), (b1, .inl (cI, 16, .inl mi)), (b2, .inl (cI, 4, .inl ga)), (b3, .inl (cI, 4, .inl te)), (b4, .inl (cI, 4, .inl kn)), (b5, .inl (cI, 6, .inl wa)), (b6, .inl (cI, 16, .inl ne))] [1, 2] [0, 3, 4, 5, 6, 7, 8, 9, 10, 11] (q0 := 0) (c_X6_signAt (xl X) (xD X) (xt X) hT hp hs f z x2_33 (by omega)) dX1_isGood_49 wd_379 wd_227 wd_228 wd_14 wd_229 (np := 1) ⟨by decide, by decide, by decide +kernel⟩ rfl rfl (Nat.le_of_ble_eq_true rfl) (by decide) rfl rfl rfl rfl (by decide) rfl (by decide) (by decide) (fun v W1 h => ?_)
        obtain ⟨r_49, rfl, rfl, h_49⟩ := h
        show V X 4 [(he, .inr (1, [.ref hb, .ref hp, .ref hm, .int ghe3_33, .int ghe4_33, .int eo, .int ghe6_33, .int ghe7_33])), (hm, .inr (3, [.ref hb, .int ghm1_33, .int ghm2_33, .int ghm3_33, .int ghm4_33, .int ghm5_33, .int ghm6_33])), (hb, .inr (0, [.ref b0, .ref b1, .ref b2, .ref b3, .ref b4, .ref b5, .ref b6, .int wc, .int la, .int br])), (b0, .inl (cI, 4, .inl pa)), (b1, .inl (cI, 16, .inl mi)), (b2, .inl (cI, 4, .inl ga)), (b3, .inl (cI, 4, .inl te)), (b4, .inl (cI, 4, .inl kn)), (b5, .inl (cI, 6, .inl wa)), (b6, .inl (cI, 16, .inl ne)), (hp, .inr (6, [.ref hs, .int z])), (hs, .inl (cI, 30, .inl f))] [(2, .int x2_33), (1, .int x1_33), (0, .ref he)] [.int r_49] 52 0 0
        have s8 : r_49 = f x2_33.toInt.toNat := h_49.1 (by omega)
        have f9 : 97 ≤ r_49.toInt ∧ r_49.toInt ≤ 100 := by rw [s8]; exact hfr.2 x2_33.toInt.toNat (by omega)
        have : (97 : Int32).toInt = 97 := by decide
        have s9 : r_49 - 97 = f x2_33.toInt.toNat - 97 := by rw [s8]
        have s7 := i_sub (x := r_49) (y := 97) (by omega) (by omega)
        refine x_bipush C 97 dX1_isGood_52 (by decide) ?_
        refine x_isub C dX1_isGood_54 ?_
        refine x_istore_n C [(3, .int (r_49 - 97)), (2, .int x2_33), (1, .int x1_33), (0, .ref he)] dX1_isGood_55 rfl (by decide) rfl ?_
        refine x_iload_n C 0 dX1_isGood_56 rfl rfl ?_
        refine x_callSN C [.int (r_49 - 97)] [(he, .inr (1, [.ref hb, .ref hp, .ref hm, .int ghe3_33, .int ghe4_33, .int eo, .int ghe6_33, .int ghe7_33])), (hm, .inr (3, [.ref hb, .int ghm1_33, .int ghm2_33, .int ghm3_33, .int ghm4_33, .int ghm5_33, .int ghm6_33])), (hb, .inr (0, [.ref b0, .ref b1, .ref b2, .ref b3, .ref b4, .ref b5, .ref b6, .int wc, .int la, .int br])), (b0, .inl (cI, 4, .inl pa)), (b1, .inl (cI, 16, .inl mi)), (b2, .inl (cI, 4, .inl ga)), (b3, .inl (cI, 4, .inl te)), (b4, .inl (cI, 4, .inl kn)), (b5, .inl (cI, 6, .inl wa)), (b6, .inl (cI, 16, .inl ne)), (hp, .inr (6, [.ref hs, .int z])), (hs, .inl (cI, 30, .inl f))] [] [0, 1, 2, 3, 4, 5, 6, 7, 8, 9, 10, 11] (c_X9_isStory (xl X) (xD X) (xt X) hT (r_49 - 97) ) dX1_isGood_57 nt_43 wd_220 wd_2 wd_221 (np := 1) ⟨by decide, by decide, by decide +kernel⟩ rfl rfl (Nat.le_of_ble_eq_true rfl) (by decide) rfl (by decide) rfl (by decide) (by decide) (fun v W1 h => ?_)
        obtain ⟨r_57, rfl, rfl, h_57⟩ := h
        have : (97 : Int32).toInt = 97 := by decide
        have := i_sub (x := r_49) (y := 97) (by omega) (by omega)
        show V X 4 [(he, .inr (1, [.ref hb, .ref hp, .ref hm, .int ghe3_33, .int ghe4_33, .int eo, .int ghe6_33, .int ghe7_33])), (hm, .inr (3, [.ref hb, .int ghm1_33, .int ghm2_33, .int ghm3_33, .int ghm4_33, .int ghm5_33, .int ghm6_33])), (hb, .inr (0, [.ref b0, .ref b1, .ref b2, .ref b3, .ref b4, .ref b5, .ref b6, .int wc, .int la, .int br])), (b0, .inl (cI, 4, .inl pa)), (b1, .inl (cI, 16, .inl mi)), (b2, .inl (cI, 4, .inl ga)), (b3, .inl (cI, 4, .inl te)), (b4, .inl (cI, 4, .inl kn)), (b5, .inl (cI, 6, .inl wa)), (b6, .inl (cI, 16, .inl ne)), (hp, .inr (6, [.ref hs, .int z])), (hs, .inl (cI, 30, .inl f))] [(3, .int (r_49 - 97)), (2, .int x2_33), (1, .int x1_33), (0, .ref he)] [.int r_57] 60 0 0
        refine x_if_ne C 65 dX1_isGood_60 (by decide) (fun c_60 => ?_) (fun c_60 => ?_)
        · skip
          have e_60 : ¬ ((r_57 : Int32).toInt = (0 : Int32).toInt) := fun h => c_60 (i_eq.mpr h)
          have : (0 : Int32).toInt = 0 := by decide
          refine x_aload_n C 3 dX1_isGood_65 rfl rfl ?_
          refine x_iload_n C 1 dX1_isGood_66 rfl rfl ?_
          refine x_put C 0 3 (ty := .int) [(he, .inr (1, [.ref hb, .ref hp, .ref hm, .int x2_33, .int ghe4_33, .int eo, .int ghe6_33, .int ghe7_33])), (hm, .inr (3, [.ref hb, .int ghm1_33, .int ghm2_33, .int ghm3_33, .int ghm4_33, .int ghm5_33, .int ghm6_33])), (hb, .inr (0, [.ref b0, .ref b1, .ref b2, .ref b3, .ref b4, .ref b5, .ref b6, .int wc, .int la, .int br])), (b0, .inl (cI, 4, .inl pa)), (b1, .inl (cI, 16, .inl mi)), (b2, .inl (cI, 4, .inl ga)), (b3, .inl (cI, 4, .inl te)), (b4, .inl (cI, 4, .inl kn)), (b5, .inl (cI, 6, .inl wa)), (b6, .inl (cI, 16, .inl ne)), (hp, .inr (6, [.ref hs, .int z])), (hs, .inl (cI, 30, .inl f))] dX1_isGood_67 inlX1 tyX1 tyX1_ok nmX1 rfl (by decide) wd_357 rfl rfl rfl rfl rfl rfl (Nat.le_of_ble_eq_true rfl) rfl ?_
          refine x_aload_n C 3 dX1_isGood_70 rfl rfl ?_
          refine x_aload_n C 3 dX1_isGood_71 rfl rfl ?_
          refine x_get C 0 2 dX1_isGood_72 inlX1 rfl (by decide) wd_72 rfl rfl rfl ?_
          refine x_iload_n C 0 dX1_isGood_75 rfl rfl ?_
          refine x_bipush C 15 dX1_isGood_76 (by decide) ?_
          refine x_callV C [.int (r_49 - 97), .int 15] [(he, .inr (1, [.ref hb, .ref hp, .ref hm, .int x2_33, .int ghe4_33, .int eo, .int ghe6_33, .int ghe7_33])), (hp, .inr (6, [.ref hs, .int z])), (hs, .inl (cI, 30, .inl f))] [1, 2, 3, 4, 5, 6, 7, 8, 9] [0, 10, 11] (q0 := 0) (c_X3_whyNot (xl X) (xD X) (xt X) hT hm ghm1_33 ghm2_33 ghm3_33 ghm4_33 ghm5_33 ghm6_33 hb b0 b1 b2 b3 b4 b5 b6 pa mi ga te kn wa ne wc la br (r_49 - 97) 15 (by omega)) dX1_isGood_78 wd_380 wd_381 wd_382 wd_71 wd_383 (np := 2) ⟨by decide, by decide, by decide +kernel⟩ rfl rfl (Nat.le_of_ble_eq_true rfl) (by decide) rfl rfl rfl rfl (by decide) rfl (by decide) (by decide) (fun v W1 h => ?_)
          obtain ⟨_, rfl, rfl, h_78⟩ := h
          have : (15 : Int32).toInt = 15 := by decide
          show V X 4 [(he, .inr (1, [.ref hb, .ref hp, .ref hm, .int x2_33, .int ghe4_33, .int eo, .int ghe6_33, .int ghe7_33])), (hp, .inr (6, [.ref hs, .int z])), (hs, .inl (cI, 30, .inl f)), (hm, .inr (3, [.ref hb, .int ghm1_33, .int ghm2_33, .int ghm3_33, .int ghm4_33, .int ghm5_33, .int ghm6_33])), (hb, .inr (0, [.ref b0, .ref b1, .ref b2, .ref b3, .ref b4, .ref b5, .ref b6, .int wc, .int la, .int br])), (b0, .inl (cI, 4, .inl pa)), (b1, .inl (cI, 16, .inl mi)), (b2, .inl (cI, 4, .inl ga)), (b3, .inl (cI, 4, .inl te)), (b4, .inl (cI, 4, .inl kn)), (b5, .inl (cI, 6, .inl wa)), (b6, .inl (cI, 16, .inl ne))] [(3, .int (r_49 - 97)), (2, .int x2_33), (1, .int x1_33), (0, .ref he)] [.int (wnF te ne ghm1_33 ghm2_33 ghm3_33 ghm4_33 ghm5_33 ghm6_33 (r_49 - 97) 15), .ref he] 81 0 0
          refine x_put C 0 4 (ty := .int) [(he, .inr (1, [.ref hb, .ref hp, .ref hm, .int x2_33, .int (wnF te ne ghm1_33 ghm2_33 ghm3_33 ghm4_33 ghm5_33 ghm6_33 (r_49 - 97) 15), .int eo, .int ghe6_33, .int ghe7_33])), (hp, .inr (6, [.ref hs, .int z])), (hs, .inl (cI, 30, .inl f)), (hm, .inr (3, [.ref hb, .int ghm1_33, .int ghm2_33, .int ghm3_33, .int ghm4_33, .int ghm5_33, .int ghm6_33])), (hb, .inr (0, [.ref b0, .ref b1, .ref b2, .ref b3, .ref b4, .ref b5, .ref b6, .int wc, .int la, .int br])), (b0, .inl (cI, 4, .inl pa)), (b1, .inl (cI, 16, .inl mi)), (b2, .inl (cI, 4, .inl ga)), (b3, .inl (cI, 4, .inl te)), (b4, .inl (cI, 4, .inl kn)), (b5, .inl (cI, 6, .inl wa)), (b6, .inl (cI, 16, .inl ne))] dX1_isGood_81 inlX1 tyX1 tyX1_ok nmX1 rfl (by decide) wd_358 rfl rfl rfl rfl rfl rfl (Nat.le_of_ble_eq_true rfl) rfl ?_
          refine x_aload_n C 3 dX1_isGood_84 rfl rfl ?_
          refine x_get C 0 4 dX1_isGood_85 inlX1 rfl (by decide) wd_358 rfl rfl rfl ?_
          refine x_if_eq C 93 dX1_isGood_88 (by decide) (fun c_88 => ?_) (fun c_88 => ?_)
          · skip
            have e_88 : (wnF te ne ghm1_33 ghm2_33 ghm3_33 ghm4_33 ghm5_33 ghm6_33 (r_49 - 97) 15 : Int32).toInt = (0 : Int32).toInt := i_eq.mp c_88
            have : (0 : Int32).toInt = 0 := by decide
            refine x_aload_n C 3 dX1_isGood_93 rfl rfl ?_
            refine x_iload_n C 0 dX1_isGood_94 rfl rfl ?_
            refine x_iload_n C 2 dX1_isGood_95 rfl rfl ?_
            refine x_callV C [.int (r_49 - 97), .int x1_33] [] [0, 3, 4, 5, 6, 7, 8, 9, 10, 11, 1, 2] [] (q0 := 0) (c_X1_tellPart (xl X) (xD X) (xt X) hT he x2_33 (wnF te ne ghm1_33 ghm2_33 ghm3_33 ghm4_33 ghm5_33 ghm6_33 (r_49 - 97) 15) eo ghe6_33 ghe7_33 hm ghm1_33 ghm2_33 ghm3_33 ghm4_33 ghm5_33 ghm6_33 hb b0 b1 b2 b3 b4 b5 b6 pa mi ga te kn wa ne wc la br hp hs f z (r_49 - 97) x1_33 (by omega)) dX1_isGood_96 wd_388 wd_389 wd_390 wd_24 wd_391 (np := 2) ⟨by decide, by decide, by decide +kernel⟩ rfl rfl (Nat.le_of_ble_eq_true rfl) (by decide) rfl rfl rfl rfl (by decide) rfl (by decide) (by decide) (fun v W1 h => ?_)
            obtain ⟨ed2_96, em2_96, mn2_96, mo2_96, mu2_96, mg2_96, mt2_96, mb2_96, rfl, rfl, h_96⟩ := h
            show V X 4 [(he, .inr (1, [.ref hb, .ref hp, .ref hm, .int x2_33, .int ((wnF te ne ghm1_33 ghm2_33 ghm3_33 ghm4_33 ghm5_33 ghm6_33 (r_49 - 97) 15)), .int eo, .int ed2_96, .int em2_96])), (hm, .inr (3, [.ref hb, .int mn2_96, .int mo2_96, .int mu2_96, .int mg2_96, .int mt2_96, .int mb2_96])), (hb, .inr (0, [.ref b0, .ref b1, .ref b2, .ref b3, .ref b4, .ref b5, .ref b6, .int wc, .int la, .int br])), (b0, .inl (cI, 4, .inl pa)), (b1, .inl (cI, 16, .inl mi)), (b2, .inl (cI, 4, .inl ga)), (b3, .inl (cI, 4, .inl te)), (b4, .inl (cI, 4, .inl kn)), (b5, .inl (cI, 6, .inl wa)), (b6, .inl (cI, 16, .inl ne)), (hp, .inr (6, [.ref hs, .int z])), (hs, .inl (cI, 30, .inl f))] [(3, .int (r_49 - 97)), (2, .int x2_33), (1, .int x1_33), (0, .ref he)] [] 99 0 0
            refine x_iload_n C 0 dX1_isGood_99 rfl rfl ?_
            refine x_istore_n C [(1, .int (r_49 - 97)), (3, .int (r_49 - 97)), (2, .int x2_33), (0, .ref he)] dX1_isGood_100 rfl (by decide) rfl ?_
            refine x_iinc C 2 (x2_33 + 1) [(2, .int (x2_33 + 1)), (1, .int (r_49 - 97)), (3, .int (r_49 - 97)), (0, .ref he)] dX1_isGood_101 rfl rfl (by decide) rfl ?_
            refine x_goto C 33 dX1_isGood_104 (by decide) ?_
            refine x_sub [(he, .inr (1, [.ref hb, .ref hp, .ref hm, .int x2_33, .int ((wnF te ne ghm1_33 ghm2_33 ghm3_33 ghm4_33 ghm5_33 ghm6_33 (r_49 - 97) 15)), .int eo, .int ed2_96, .int em2_96])), (hp, .inr (6, [.ref hs, .int z])), (hs, .inl (cI, 30, .inl f)), (hm, .inr (3, [.ref hb, .int mn2_96, .int mo2_96, .int mu2_96, .int mg2_96, .int mt2_96, .int mb2_96])), (hb, .inr (0, [.ref b0, .ref b1, .ref b2, .ref b3, .ref b4, .ref b5, .ref b6, .int wc, .int la, .int br])), (b0, .inl (cI, 4, .inl pa)), (b1, .inl (cI, 16, .inl mi)), (b2, .inl (cI, 4, .inl ga)), (b3, .inl (cI, 4, .inl te)), (b4, .inl (cI, 4, .inl kn)), (b5, .inl (cI, 6, .inl wa)), (b6, .inl (cI, 16, .inl ne))] [0, 10, 11, 1, 2, 3, 4, 5, 6, 7, 8, 9] (by decide) rfl ?_
            refine x_lv [(2, .int (x2_33 + 1)), (1, .int (r_49 - 97)), (0, .ref he)] [0, 1, 3] rfl ?_
            have : (1 : Int32).toInt = 1 := by decide
            have := i_add (x := x2_33) (y := 1) (by omega) (by omega)
            have : (97 : Int32).toInt = 97 := by decide
            have := i_sub (x := r_49) (y := 97) (by omega) (by omega)
            exact ih_33 (x2_33 + 1) (r_49 - 97) x2_33 ((wnF te ne ghm1_33 ghm2_33 ghm3_33 ghm4_33 ghm5_33 ghm6_33 (r_49 - 97) 15)) ed2_96 em2_96 mn2_96 mo2_96 mu2_96 mg2_96 mt2_96 mb2_96 ⟨by omega, by rw [h_96.1, h_96.2.1]; exact i_33.2.go s9 (by omega) c_88 h_96.2.2.1 h_96.2.2.2⟩ (by omega)
          · skip
            have e_88 : ¬ ((wnF te ne ghm1_33 ghm2_33 ghm3_33 ghm4_33 ghm5_33 ghm6_33 (r_49 - 97) 15 : Int32).toInt = (0 : Int32).toInt) := fun h => c_88 (i_eq.mpr h)
            have : (0 : Int32).toInt = 0 := by decide
            refine x_iconst C 0 dX1_isGood_91 (by decide) ?_
            refine x_sub [(he, .inr (1, [.ref hb, .ref hp, .ref hm, .int x2_33, .int (wnF te ne ghm1_33 ghm2_33 ghm3_33 ghm4_33 ghm5_33 ghm6_33 (r_49 - 97) 15), .int eo, .int ghe6_33, .int ghe7_33])), (hm, .inr (3, [.ref hb, .int ghm1_33, .int ghm2_33, .int ghm3_33, .int ghm4_33, .int ghm5_33, .int ghm6_33])), (hb, .inr (0, [.ref b0, .ref b1, .ref b2, .ref b3, .ref b4, .ref b5, .ref b6, .int wc, .int la, .int br])), (b0, .inl (cI, 4, .inl pa)), (b1, .inl (cI, 16, .inl mi)), (b2, .inl (cI, 4, .inl ga)), (b3, .inl (cI, 4, .inl te)), (b4, .inl (cI, 4, .inl kn)), (b5, .inl (cI, 6, .inl wa)), (b6, .inl (cI, 16, .inl ne)), (hp, .inr (6, [.ref hs, .int z])), (hs, .inl (cI, 30, .inl f))] [0, 3, 4, 5, 6, 7, 8, 9, 10, 11, 1, 2] (by decide) rfl ?_
            have : (0 : Int32).toInt = 0 := by decide
            exact x_iret C dX1_isGood_92 (Nat.zero_le _) (Nat.zero_le _) (by rw [eO]; exact ⟨0, x2_33, (wnF te ne ghm1_33 ghm2_33 ghm3_33 ghm4_33 ghm5_33 ghm6_33 (r_49 - 97) 15), eo, ghe6_33, ghe7_33, ghm1_33, ghm2_33, ghm3_33, ghm4_33, ghm5_33, ghm6_33, rfl, rfl, ⟨by omega, JDG.bad i_33.2 s9 (nI_sl (by omega)) (by omega) rfl c_88⟩⟩)
        · skip
          have e_60 : (r_57 : Int32).toInt = (0 : Int32).toInt := i_eq.mp c_60
          have : (0 : Int32).toInt = 0 := by decide
          refine x_iconst C 0 dX1_isGood_63 (by decide) ?_
          have : (0 : Int32).toInt = 0 := by decide
          exact x_iret C dX1_isGood_64 (Nat.zero_le _) (Nat.zero_le _) (by rw [eO]; exact ⟨0, ghe3_33, ghe4_33, eo, ghe6_33, ghe7_33, ghm1_33, ghm2_33, ghm3_33, ghm4_33, ghm5_33, ghm6_33, rfl, rfl, (by exfalso; omega)⟩)
  have : (0 : Int32).toInt = 0 := by decide
  have : ((-6) : Int32).toInt = -6 := by decide
  have : (0 : Int32).toInt = 0 := by decide
  have : (0 : Int32).toInt = 0 := by decide
  have : (0 : Int32).toInt = 0 := by decide
  exact L_33 _ 0 ((-6)) 0 0 0 0 0 mo2_25 mu2_25 mg2_25 mt2_25 mb2_25 ⟨by omega, by rw [t0_]; exact EVI.z h_25.2⟩ (Nat.lt_succ_self _)
