abbrev rm_X4_forget : Room := { frames := 0, cells := 0, slots := 0, locals := 0 }
set_option maxHeartbeats 4000000 in
set_option maxRecDepth 100000 in
theorem c_X4_forget (l : Launch) (D : va_G) (tys : List (ClassId × FieldType)) {cI cJ cZ cB : ClassId} (hT : Ty tys cI cJ cZ cB) (hn hb hm n0 n1 n2 n3 : Nat) (nr nz nt nd : Int32)  : Cn l D tys yX4_forget cX4_forget 1 none rm_X4_forget [(hn, .inr (4, [.ref hb, .ref hm, .ref n0, .ref n1, .ref n2, .ref n3, .int nr, .int nz, .int nt, .int nd]))] [.ref hn] (fun v W1 => ∃ (_ : Unit), v = none ∧ W1 = [(hn, .inr (4, [.ref hb, .ref hm, .ref n0, .ref n1, .ref n2, .ref n3, .int nr, .int nz, .int 0, .int nd]))] ∧ (True)) := by
  refine Cn.of (by decide) (Nat.le_of_ble_eq_true rfl) ?_ ?_ (fun X eL eD eT eO eK eN eM C => ?_)
  · intro h; cases h
  · intro v ws h; obtain ⟨_, rfl, rfl, _⟩ := h; rfl
  subst eL eD eT
  show V X 1 [(hn, .inr (4, [.ref hb, .ref hm, .ref n0, .ref n1, .ref n2, .ref n3, .int nr, .int nz, .int nt, .int nd]))] [(0, .ref hn)] [] 0 0 0
  refine x_aload_n C 0 dX4_forget_0 rfl rfl ?_
  refine x_iconst C 0 dX4_forget_1 (by decide) ?_
  refine x_put C 0 8 (ty := .int) [(hn, .inr (4, [.ref hb, .ref hm, .ref n0, .ref n1, .ref n2, .ref n3, .int nr, .int nz, .int 0, .int nd]))] dX4_forget_2 inlX4 tyX4 tyX4_ok nmX4 rfl (by decide) wd_255 rfl rfl rfl rfl rfl rfl (Nat.le_of_ble_eq_true rfl) rfl ?_
  exact x_vret C dX4_forget_5 (Nat.zero_le _) (Nat.zero_le _) (by rw [eO]; exact ⟨(), rfl, rfl, trivial⟩)
abbrev rm_X4_beginRound : Room := { frames := 0, cells := 0, slots := 0, locals := 0 }
set_option maxHeartbeats 4000000 in
set_option maxRecDepth 100000 in
theorem c_X4_beginRound (l : Launch) (D : va_G) (tys : List (ClassId × FieldType)) {cI cJ cZ cB : ClassId} (hT : Ty tys cI cJ cZ cB) (hn n0 n1 n2 n3 : Nat) (na nx ns : Nat → Int32) (nw : Nat → Int64) (nr nz nt nd : Int32) (hm : Nat) (mn mo mu mg mt mb : Int32) (hb b0 b1 b2 b3 b4 b5 b6 : Nat) (pa mi ga te kn wa ne : Nat → Int32) (wc la br : Int32) (htr : HTR ns nr) : Cn l D tys yX4_beginRound cX4_beginRound 2 none rm_X4_beginRound [(hn, .inr (4, [.ref hb, .ref hm, .ref n0, .ref n1, .ref n2, .ref n3, .int nr, .int nz, .int nt, .int nd])), (n0, .inl (cI, 3784, .inl na)), (n1, .inl (cI, 15136, .inl nx)), (n2, .inl (cJ, 3784, .inr (.inl nw))), (n3, .inl (cI, 8192, .inl ns)), (hm, .inr (3, [.ref hb, .int mn, .int mo, .int mu, .int mg, .int mt, .int mb])), (hb, .inr (0, [.ref b0, .ref b1, .ref b2, .ref b3, .ref b4, .ref b5, .ref b6, .int wc, .int la, .int br])), (b0, .inl (cI, 4, .inl pa)), (b1, .inl (cI, 16, .inl mi)), (b2, .inl (cI, 4, .inl ga)), (b3, .inl (cI, 4, .inl te)), (b4, .inl (cI, 4, .inl kn)), (b5, .inl (cI, 6, .inl wa)), (b6, .inl (cI, 16, .inl ne))] [.ref hn] (fun v W1 => ∃ (nr2 : Int32) (ns2 : Nat → Int32), v = none ∧ W1 = [(hn, .inr (4, [.ref hb, .ref hm, .ref n0, .ref n1, .ref n2, .ref n3, .int nr2, .int 0, .int nt, .int nd])), (n0, .inl (cI, 3784, .inl na)), (n1, .inl (cI, 15136, .inl nx)), (n2, .inl (cJ, 3784, .inr (.inl nw))), (n3, .inl (cI, 8192, .inl ns2)), (hm, .inr (3, [.ref hb, .int mn, .int mo, .int mu, .int mg, .int mt, .int mb])), (hb, .inr (0, [.ref b0, .ref b1, .ref b2, .ref b3, .ref b4, .ref b5, .ref b6, .int wc, .int la, .int br])), (b0, .inl (cI, 4, .inl pa)), (b1, .inl (cI, 16, .inl mi)), (b2, .inl (cI, 4, .inl ga)), (b3, .inl (cI, 4, .inl te)), (b4, .inl (cI, 4, .inl kn)), (b5, .inl (cI, 6, .inl wa)), (b6, .inl (cI, 16, .inl ne))] ∧ (HTI ns2 nr2 na 0)) := by
  refine Cn.of (by decide) (Nat.le_of_ble_eq_true rfl) ?_ ?_ (fun X eL eD eT eO eK eN eM C => ?_)
  · intro h; cases h
  · intro v ws h; obtain ⟨_, _, rfl, rfl, _⟩ := h; rfl
  subst eL eD eT
  show V X 2 [(hn, .inr (4, [.ref hb, .ref hm, .ref n0, .ref n1, .ref n2, .ref n3, .int nr, .int nz, .int nt, .int nd])), (n0, .inl (cI, 3784, .inl na)), (n1, .inl (cI, 15136, .inl nx)), (n2, .inl (cJ, 3784, .inr (.inl nw))), (n3, .inl (cI, 8192, .inl ns)), (hm, .inr (3, [.ref hb, .int mn, .int mo, .int mu, .int mg, .int mt, .int mb])), (hb, .inr (0, [.ref b0, .ref b1, .ref b2, .ref b3, .ref b4, .ref b5, .ref b6, .int wc, .int la, .int br])), (b0, .inl (cI, 4, .inl pa)), (b1, .inl (cI, 16, .inl mi)), (b2, .inl (cI, 4, .inl ga)), (b3, .inl (cI, 4, .inl te)), (b4, .inl (cI, 4, .inl kn)), (b5, .inl (cI, 6, .inl wa)), (b6, .inl (cI, 16, .inl ne))] [(0, .ref hn)] [] 0 0 0
  have := htr.1
  have := t1_
  have := t0_
  have : (500000 : Int32).toInt = 500000 := by decide
  have := i_add (x := nr) (y := 1) (by omega) (by omega)
  refine x_aload_n C 0 dX4_beginRound_0 rfl rfl ?_
  refine x_iconst C 0 dX4_beginRound_1 (by decide) ?_
  refine x_put C 0 7 (ty := .int) [(hn, .inr (4, [.ref hb, .ref hm, .ref n0, .ref n1, .ref n2, .ref n3, .int nr, .int 0, .int nt, .int nd])), (n0, .inl (cI, 3784, .inl na)), (n1, .inl (cI, 15136, .inl nx)), (n2, .inl (cJ, 3784, .inr (.inl nw))), (n3, .inl (cI, 8192, .inl ns)), (hm, .inr (3, [.ref hb, .int mn, .int mo, .int mu, .int mg, .int mt, .int mb])), (hb, .inr (0, [.ref b0, .ref b1, .ref b2, .ref b3, .ref b4, .ref b5, .ref b6, .int wc, .int la, .int br])), (b0, .inl (cI, 4, .inl pa)), (b1, .inl (cI, 16, .inl mi)), (b2, .inl (cI, 4, .inl ga)), (b3, .inl (cI, 4, .inl te)), (b4, .inl (cI, 4, .inl kn)), (b5, .inl (cI, 6, .inl wa)), (b6, .inl (cI, 16, .inl ne))] dX4_beginRound_2 inlX4 tyX4 tyX4_ok nmX4 rfl (by decide) wd_514 rfl rfl rfl rfl rfl rfl (Nat.le_of_ble_eq_true rfl) rfl ?_
  refine x_aload_n C 0 dX4_beginRound_5 rfl rfl ?_
  refine x_dup C dX4_beginRound_6 rfl ?_
  refine x_get C 0 6 dX4_beginRound_7 inlX4 rfl (by decide) wd_519 rfl rfl rfl ?_
  refine x_iconst C 1 dX4_beginRound_10 (by decide) ?_
  refine x_iadd C dX4_beginRound_11 ?_
  refine x_put C 0 6 (ty := .int) [(hn, .inr (4, [.ref hb, .ref hm, .ref n0, .ref n1, .ref n2, .ref n3, .int (nr + 1), .int 0, .int nt, .int nd])), (n0, .inl (cI, 3784, .inl na)), (n1, .inl (cI, 15136, .inl nx)), (n2, .inl (cJ, 3784, .inr (.inl nw))), (n3, .inl (cI, 8192, .inl ns)), (hm, .inr (3, [.ref hb, .int mn, .int mo, .int mu, .int mg, .int mt, .int mb])), (hb, .inr (0, [.ref b0, .ref b1, .ref b2, .ref b3, .ref b4, .ref b5, .ref b6, .int wc, .int la, .int br])), (b0, .inl (cI, 4, .inl pa)), (b1, .inl (cI, 16, .inl mi)), (b2, .inl (cI, 4, .inl ga)), (b3, .inl (cI, 4, .inl te)), (b4, .inl (cI, 4, .inl kn)), (b5, .inl (cI, 6, .inl wa)), (b6, .inl (cI, 16, .inl ne))] dX4_beginRound_12 inlX4 tyX4 tyX4_ok nmX4 rfl (by decide) wd_519 rfl rfl rfl rfl rfl rfl (Nat.le_of_ble_eq_true rfl) rfl ?_
  refine x_aload_n C 0 dX4_beginRound_15 rfl rfl ?_
  refine x_get C 0 6 dX4_beginRound_16 inlX4 rfl (by decide) wd_519 rfl rfl rfl ?_
  refine x_ldc C dX4_beginRound_19 wd_520 ?_
  refine x_icmp_lt C 51 dX4_beginRound_21 (by decide) (fun c_21 => ?_) (fun c_21 => ?_)
  · skip
    have e_21 : (nr + 1 : Int32).toInt < (500000 : Int32).toInt := i_lt.mp c_21
    have : (500000 : Int32).toInt = 500000 := by decide
    exact x_vret C dX4_beginRound_51 (Nat.zero_le _) (Nat.zero_le _) (by rw [eO]; exact ⟨(nr + 1), ns, rfl, rfl, (HTI.z htr (by omega) (by omega))⟩)
  · skip
    have e_21 : ¬ ((nr + 1 : Int32).toInt < (500000 : Int32).toInt) := fun h => c_21 (i_lt.mpr h)
    have : (500000 : Int32).toInt = 500000 := by decide
    refine x_iconst C 0 dX4_beginRound_24 (by decide) ?_
    refine x_istore_n C [(1, .int 0), (0, .ref hn)] dX4_beginRound_25 rfl (by decide) rfl ?_
    have L_26 : ∀ (n_26 : Nat) (x1_26 : Int32) (fn3_26 : Nat → Int32), ((0 ≤ x1_26.toInt ∧ x1_26.toInt ≤ 8192) ∧ ∀ q : Nat, (q : Int) < x1_26.toInt → fn3_26 q = 0) → ((8192 - x1_26.toInt).toNat < n_26) → V X 2 [(hn, .inr (4, [.ref hb, .ref hm, .ref n0, .ref n1, .ref n2, .ref n3, .int (nr + 1), .int 0, .int nt, .int nd])), (n0, .inl (cI, 3784, .inl na)), (n1, .inl (cI, 15136, .inl nx)), (n2, .inl (cJ, 3784, .inr (.inl nw))), (n3, .inl (cI, 8192, .inl fn3_26)), (hm, .inr (3, [.ref hb, .int mn, .int mo, .int mu, .int mg, .int mt, .int mb])), (hb, .inr (0, [.ref b0, .ref b1, .ref b2, .ref b3, .ref b4, .ref b5, .ref b6, .int wc, .int la, .int br])), (b0, .inl (cI, 4, .inl pa)), (b1, .inl (cI, 16, .inl mi)), (b2, .inl (cI, 4, .inl ga)), (b3, .inl (cI, 4, .inl te)), (b4, .inl (cI, 4, .inl kn)), (b5, .inl (cI, 6, .inl wa)), (b6, .inl (cI, 16, .inl ne))] [(1, .int x1_26), (0, .ref hn)] [] 26 0 0 := by
      intro n_26
      induction n_26 with
      | zero =>
        intro x1_26 fn3_26 i_26 m_26
        exact absurd m_26 (Nat.not_lt_zero _)
      | succ n_26 ih_26 =>
        intro x1_26 fn3_26 i_26 m_26
        refine x_iload_n C 0 dX4_beginRound_26 rfl rfl ?_
        refine x_sipush C 8192 dX4_beginRound_27 (by decide) ?_
        refine x_icmp_ge C 46 dX4_beginRound_30 (by decide) (fun c_30 => ?_) (fun c_30 => ?_)
        · skip
          have e_30 : (8192 : Int32).toInt ≤ (x1_26 : Int32).toInt := i_le.mp c_30
          have : (8192 : Int32).toInt = 8192 := by decide
          refine x_aload_n C 1 dX4_beginRound_46 rfl rfl ?_
          refine x_iconst C 1 dX4_beginRound_47 (by decide) ?_
          refine x_put C 0 6 (ty := .int) [(hn, .inr (4, [.ref hb, .ref hm, .ref n0, .ref n1, .ref n2, .ref n3, .int 1, .int 0, .int nt, .int nd])), (n0, .inl (cI, 3784, .inl na)), (n1, .inl (cI, 15136, .inl nx)), (n2, .inl (cJ, 3784, .inr (.inl nw))), (n3, .inl (cI, 8192, .inl fn3_26)), (hm, .inr (3, [.ref hb, .int mn, .int mo, .int mu, .int mg, .int mt, .int mb])), (hb, .inr (0, [.ref b0, .ref b1, .ref b2, .ref b3, .ref b4, .ref b5, .ref b6, .int wc, .int la, .int br])), (b0, .inl (cI, 4, .inl pa)), (b1, .inl (cI, 16, .inl mi)), (b2, .inl (cI, 4, .inl ga)), (b3, .inl (cI, 4, .inl te)), (b4, .inl (cI, 4, .inl kn)), (b5, .inl (cI, 6, .inl wa)), (b6, .inl (cI, 16, .inl ne))] dX4_beginRound_48 inlX4 tyX4 tyX4_ok nmX4 rfl (by decide) wd_519 rfl rfl rfl rfl rfl rfl (Nat.le_of_ble_eq_true rfl) rfl ?_
          exact x_vret C dX4_beginRound_51 (Nat.zero_le _) (Nat.zero_le _) (by rw [eO]; exact ⟨1, fn3_26, rfl, rfl, (HTI.z (HTR.clr (fun q hq => i_26.2 q (by omega))) (by omega) (by omega))⟩)
        · skip
          have e_30 : ¬ ((8192 : Int32).toInt ≤ (x1_26 : Int32).toInt) := fun h => c_30 (i_le.mpr h)
          have : (8192 : Int32).toInt = 8192 := by decide
          refine x_aload_n C 1 dX4_beginRound_33 rfl rfl ?_
          refine x_get C 0 5 dX4_beginRound_34 inlX4 rfl (by decide) wd_86 rfl rfl rfl ?_
          refine x_iload_n C 0 dX4_beginRound_37 rfl rfl ?_
          refine x_iconst C 0 dX4_beginRound_38 (by decide) ?_
          have v_39 : vp_in x1_26 8192 := (vp_in_iff.mpr (by omega))
          refine x_iast C 4 0 [(hn, .inr (4, [.ref hb, .ref hm, .ref n0, .ref n1, .ref n2, .ref n3, .int (nr + 1), .int 0, .int nt, .int nd])), (n0, .inl (cI, 3784, .inl na)), (n1, .inl (cI, 15136, .inl nx)), (n2, .inl (cJ, 3784, .inr (.inl nw))), (n3, .inl (cI, 8192, .inl (upd fn3_26 (Int32.toNatClampNeg x1_26) 0))), (hm, .inr (3, [.ref hb, .int mn, .int mo, .int mu, .int mg, .int mt, .int mb])), (hb, .inr (0, [.ref b0, .ref b1, .ref b2, .ref b3, .ref b4, .ref b5, .ref b6, .int wc, .int la, .int br])), (b0, .inl (cI, 4, .inl pa)), (b1, .inl (cI, 16, .inl mi)), (b2, .inl (cI, 4, .inl ga)), (b3, .inl (cI, 4, .inl te)), (b4, .inl (cI, 4, .inl kn)), (b5, .inl (cI, 6, .inl wa)), (b6, .inl (cI, 16, .inl ne))] dX4_beginRound_39 hT.1 rfl v_39 rfl ?_
          refine x_iinc C 0 (x1_26 + 1) [(1, .int (x1_26 + 1)), (0, .ref hn)] dX4_beginRound_40 rfl rfl (by decide) rfl ?_
          refine x_goto C 26 dX4_beginRound_43 (by decide) ?_
          have : (1 : Int32).toInt = 1 := by decide
          have := i_add (x := x1_26) (y := 1) (by omega) (by omega)
          exact ih_26 (x1_26 + 1) (upd fn3_26 (Int32.toNatClampNeg x1_26) 0) ⟨by omega, up_cp (g := fun _ => 0) v_39 (by omega) i_26.2⟩ (by omega)
    have : (0 : Int32).toInt = 0 := by decide
    exact L_26 _ 0 ns ⟨by omega, fun q hq => by exfalso; omega⟩ (Nat.lt_succ_self _)
abbrev rm_X4_addNode : Room := { frames := 0, cells := 0, slots := 0, locals := 0 }
set_option maxHeartbeats 4000000 in
set_option maxRecDepth 100000 in
theorem c_X4_addNode (l : Launch) (D : va_G) (tys : List (ClassId × FieldType)) {cI cJ cZ cB : ClassId} (hT : Ty tys cI cJ cZ cB) (hn n0 n1 n2 n3 : Nat) (na nx ns : Nat → Int32) (nw : Nat → Int64) (nr nz nt nd : Int32) (hm : Nat) (mn mo mu mg mt mb : Int32) (hb b0 b1 b2 b3 b4 b5 b6 : Nat) (pa mi ga te kn wa ne : Nat → Int32) (wc la br : Int32) (a b : Int32) (hz : 0 ≤ nz.toInt ∧ nz.toInt ≤ 3784) (hb0 : 0 ≤ b.toInt ∧ b.toInt ≤ 8191) : Cn l D tys yX4_addNode cX4_addNode 4 (some .int) rm_X4_addNode [(hn, .inr (4, [.ref hb, .ref hm, .ref n0, .ref n1, .ref n2, .ref n3, .int nr, .int nz, .int nt, .int nd])), (n0, .inl (cI, 3784, .inl na)), (n1, .inl (cI, 15136, .inl nx)), (n2, .inl (cJ, 3784, .inr (.inl nw))), (n3, .inl (cI, 8192, .inl ns)), (hm, .inr (3, [.ref hb, .int mn, .int mo, .int mu, .int mg, .int mt, .int mb])), (hb, .inr (0, [.ref b0, .ref b1, .ref b2, .ref b3, .ref b4, .ref b5, .ref b6, .int wc, .int la, .int br])), (b0, .inl (cI, 4, .inl pa)), (b1, .inl (cI, 16, .inl mi)), (b2, .inl (cI, 4, .inl ga)), (b3, .inl (cI, 4, .inl te)), (b4, .inl (cI, 4, .inl kn)), (b5, .inl (cI, 6, .inl wa)), (b6, .inl (cI, 16, .inl ne))] [.ref hn, .int a, .int b] (fun v W1 => ∃ (r nz2 : Int32) (na2 ns2 : Nat → Int32), v = some (.int r) ∧ W1 = [(hn, .inr (4, [.ref hb, .ref hm, .ref n0, .ref n1, .ref n2, .ref n3, .int nr, .int nz2, .int nt, .int nd])), (n0, .inl (cI, 3784, .inl na2)), (n1, .inl (cI, 15136, .inl nx)), (n2, .inl (cJ, 3784, .inr (.inl nw))), (n3, .inl (cI, 8192, .inl ns2)), (hm, .inr (3, [.ref hb, .int mn, .int mo, .int mu, .int mg, .int mt, .int mb])), (hb, .inr (0, [.ref b0, .ref b1, .ref b2, .ref b3, .ref b4, .ref b5, .ref b6, .int wc, .int la, .int br])), (b0, .inl (cI, 4, .inl pa)), (b1, .inl (cI, 16, .inl mi)), (b2, .inl (cI, 4, .inl ga)), (b3, .inl (cI, 4, .inl te)), (b4, .inl (cI, 4, .inl kn)), (b5, .inl (cI, 6, .inl wa)), (b6, .inl (cI, 16, .inl ne))] ∧ (ADN a b nr nz na ns r nz2 na2 ns2)) := by
  refine Cn.of (by decide) (Nat.le_of_ble_eq_true rfl) ?_ ?_ (fun X eL eD eT eO eK eN eM C => ?_)
  · intro h; cases h
  · intro v ws h; obtain ⟨_, _, _, _, rfl, rfl, _⟩ := h; exact Or.inl rfl
  subst eL eD eT
  show V X 4 [(hn, .inr (4, [.ref hb, .ref hm, .ref n0, .ref n1, .ref n2, .ref n3, .int nr, .int nz, .int nt, .int nd])), (n0, .inl (cI, 3784, .inl na)), (n1, .inl (cI, 15136, .inl nx)), (n2, .inl (cJ, 3784, .inr (.inl nw))), (n3, .inl (cI, 8192, .inl ns)), (hm, .inr (3, [.ref hb, .int mn, .int mo, .int mu, .int mg, .int mt, .int mb])), (hb, .inr (0, [.ref b0, .ref b1, .ref b2, .ref b3, .ref b4, .ref b5, .ref b6, .int wc, .int la, .int br])), (b0, .inl (cI, 4, .inl pa)), (b1, .inl (cI, 16, .inl mi)), (b2, .inl (cI, 4, .inl ga)), (b3, .inl (cI, 4, .inl te)), (b4, .inl (cI, 4, .inl kn)), (b5, .inl (cI, 6, .inl wa)), (b6, .inl (cI, 16, .inl ne))] [(0, .ref hn), (1, .int a), (2, .int b)] [] 0 0 0
  refine x_aload_n C 0 dX4_addNode_0 rfl rfl ?_
  refine x_get C 0 7 dX4_addNode_1 inlX4 rfl (by decide) wd_514 rfl rfl rfl ?_
  refine x_sipush C 3784 dX4_addNode_4 (by decide) ?_
  refine x_icmp_lt C 13 dX4_addNode_7 (by decide) (fun c_7 => ?_) (fun c_7 => ?_)
  · skip
    have e_7 : (nz : Int32).toInt < (3784 : Int32).toInt := i_lt.mp c_7
    have : (3784 : Int32).toInt = 3784 := by decide
    refine x_aload_n C 0 dX4_addNode_13 rfl rfl ?_
    refine x_get C 0 7 dX4_addNode_14 inlX4 rfl (by decide) wd_514 rfl rfl rfl ?_
    refine x_istore_n C [(3, .int nz), (0, .ref hn), (1, .int a), (2, .int b)] dX4_addNode_17 rfl (by decide) rfl ?_
    refine x_aload_n C 1 dX4_addNode_18 rfl rfl ?_
    refine x_get C 0 2 dX4_addNode_19 inlX4 rfl (by decide) wd_82 rfl rfl rfl ?_
    refine x_iload_n C 0 dX4_addNode_22 rfl rfl ?_
    refine x_iload_n C 2 dX4_addNode_23 rfl rfl ?_
    have v_24 : vp_in nz 3784 := (vp_in_iff.mpr (by omega))
    refine x_iast C 1 0 [(hn, .inr (4, [.ref hb, .ref hm, .ref n0, .ref n1, .ref n2, .ref n3, .int nr, .int nz, .int nt, .int nd])), (n0, .inl (cI, 3784, .inl (upd na (Int32.toNatClampNeg nz) a))), (n1, .inl (cI, 15136, .inl nx)), (n2, .inl (cJ, 3784, .inr (.inl nw))), (n3, .inl (cI, 8192, .inl ns)), (hm, .inr (3, [.ref hb, .int mn, .int mo, .int mu, .int mg, .int mt, .int mb])), (hb, .inr (0, [.ref b0, .ref b1, .ref b2, .ref b3, .ref b4, .ref b5, .ref b6, .int wc, .int la, .int br])), (b0, .inl (cI, 4, .inl pa)), (b1, .inl (cI, 16, .inl mi)), (b2, .inl (cI, 4, .inl ga)), (b3, .inl (cI, 4, .inl te)), (b4, .inl (cI, 4, .inl kn)), (b5, .inl (cI, 6, .inl wa)), (b6, .inl (cI, 16, .inl ne))] dX4_addNode_24 hT.1 rfl v_24 rfl ?_
    refine x_aload_n C 1 dX4_addNode_25 rfl rfl ?_
    refine x_get C 0 5 dX4_addNode_26 inlX4 rfl (by decide) wd_86 rfl rfl rfl ?_
    refine x_iload_n C 3 dX4_addNode_29 rfl rfl ?_
    refine x_aload_n C 1 dX4_addNode_30 rfl rfl ?_
    refine x_get C 0 6 dX4_addNode_31 inlX4 rfl (by decide) wd_519 rfl rfl rfl ?_
    refine x_bipush C 12 dX4_addNode_34 (by decide) ?_
    refine x_ishl C dX4_addNode_36 ?_
    refine x_iload_n C 0 dX4_addNode_37 rfl rfl ?_
    refine x_ior C dX4_addNode_38 ?_
    have v_39 : vp_in b 8192 := (vp_in_iff.mpr (by omega))
    refine x_iast C 4 0 [(hn, .inr (4, [.ref hb, .ref hm, .ref n0, .ref n1, .ref n2, .ref n3, .int nr, .int nz, .int nt, .int nd])), (n0, .inl (cI, 3784, .inl (upd na (Int32.toNatClampNeg nz) a))), (n1, .inl (cI, 15136, .inl nx)), (n2, .inl (cJ, 3784, .inr (.inl nw))), (n3, .inl (cI, 8192, .inl (upd ns (Int32.toNatClampNeg b) ((nr <<< (12 &&& 31)) ||| nz)))), (hm, .inr (3, [.ref hb, .int mn, .int mo, .int mu, .int mg, .int mt, .int mb])), (hb, .inr (0, [.ref b0, .ref b1, .ref b2, .ref b3, .ref b4, .ref b5, .ref b6, .int wc, .int la, .int br])), (b0, .inl (cI, 4, .inl pa)), (b1, .inl (cI, 16, .inl mi)), (b2, .inl (cI, 4, .inl ga)), (b3, .inl (cI, 4, .inl te)), (b4, .inl (cI, 4, .inl kn)), (b5, .inl (cI, 6, .inl wa)), (b6, .inl (cI, 16, .inl ne))] dX4_addNode_39 hT.1 rfl v_39 rfl ?_
    refine x_aload_n C 1 dX4_addNode_40 rfl rfl ?_
    refine x_dup C dX4_addNode_41 rfl ?_
    refine x_get C 0 7 dX4_addNode_42 inlX4 rfl (by decide) wd_514 rfl rfl rfl ?_
    refine x_iconst C 1 dX4_addNode_45 (by decide) ?_
    refine x_iadd C dX4_addNode_46 ?_
    refine x_put C 0 7 (ty := .int) [(hn, .inr (4, [.ref hb, .ref hm, .ref n0, .ref n1, .ref n2, .ref n3, .int nr, .int (nz + 1), .int nt, .int nd])), (n0, .inl (cI, 3784, .inl (upd na (Int32.toNatClampNeg nz) a))), (n1, .inl (cI, 15136, .inl nx)), (n2, .inl (cJ, 3784, .inr (.inl nw))), (n3, .inl (cI, 8192, .inl (upd ns (Int32.toNatClampNeg b) ((nr <<< (12 &&& 31)) ||| nz)))), (hm, .inr (3, [.ref hb, .int mn, .int mo, .int mu, .int mg, .int mt, .int mb])), (hb, .inr (0, [.ref b0, .ref b1, .ref b2, .ref b3, .ref b4, .ref b5, .ref b6, .int wc, .int la, .int br])), (b0, .inl (cI, 4, .inl pa)), (b1, .inl (cI, 16, .inl mi)), (b2, .inl (cI, 4, .inl ga)), (b3, .inl (cI, 4, .inl te)), (b4, .inl (cI, 4, .inl kn)), (b5, .inl (cI, 6, .inl wa)), (b6, .inl (cI, 16, .inl ne))] dX4_addNode_47 inlX4 tyX4 tyX4_ok nmX4 rfl (by decide) wd_514 rfl rfl rfl rfl rfl rfl (Nat.le_of_ble_eq_true rfl) rfl ?_
    refine x_iload_n C 0 dX4_addNode_50 rfl rfl ?_
    exact x_iret C dX4_addNode_51 (Nat.zero_le _) (Nat.zero_le _) (by rw [eO]; exact ⟨nz, (nz + 1), (upd na (Int32.toNatClampNeg nz) a), (upd ns (Int32.toNatClampNeg b) ((nr <<< (12 &&& 31)) ||| nz)), rfl, rfl, (Or.inr ⟨by omega, rfl, rfl, rfl, rfl⟩)⟩)
  · skip
    have e_7 : ¬ ((nz : Int32).toInt < (3784 : Int32).toInt) := fun h => c_7 (i_lt.mpr h)
    have : (3784 : Int32).toInt = 3784 := by decide
    refine x_bipush C (-6) dX4_addNode_10 (by decide) ?_
    have : ((-6) : Int32).toInt = -6 := by decide
    exact x_iret C dX4_addNode_12 (Nat.zero_le _) (Nat.zero_le _) (by rw [eO]; exact ⟨((-6)), nz, na, ns, rfl, rfl, (Or.inl ⟨by omega, rfl, rfl, rfl, rfl⟩)⟩)
abbrev rm_X4_nodeOf : Room := { frames := 1, cells := 0, slots := 0, locals := 23 }
set_option maxHeartbeats 4000000 in
set_option maxRecDepth 100000 in
theorem c_X4_nodeOf (l : Launch) (D : va_G) (tys : List (ClassId × FieldType)) {cI cJ cZ cB : ClassId} (hT : Ty tys cI cJ cZ cB) (hn n0 n1 n2 n3 : Nat) (na nx ns : Nat → Int32) (nw : Nat → Int64) (nr nz nt nd : Int32) (hm : Nat) (mn mo mu mg mt mb : Int32) (hb b0 b1 b2 b3 b4 b5 b6 : Nat) (pa mi ga te kn wa ne : Nat → Int32) (wc la br : Int32) (a : Int32) (hz : 0 ≤ nz.toInt ∧ nz.toInt ≤ 3784) (hti : HTI ns nr na nz.toInt.toNat) : Cn l D tys yX4_nodeOf cX4_nodeOf 6 (some .int) rm_X4_nodeOf [(hn, .inr (4, [.ref hb, .ref hm, .ref n0, .ref n1, .ref n2, .ref n3, .int nr, .int nz, .int nt, .int nd])), (n0, .inl (cI, 3784, .inl na)), (n1, .inl (cI, 15136, .inl nx)), (n2, .inl (cJ, 3784, .inr (.inl nw))), (n3, .inl (cI, 8192, .inl ns)), (hm, .inr (3, [.ref hb, .int mn, .int mo, .int mu, .int mg, .int mt, .int mb])), (hb, .inr (0, [.ref b0, .ref b1, .ref b2, .ref b3, .ref b4, .ref b5, .ref b6, .int wc, .int la, .int br])), (b0, .inl (cI, 4, .inl pa)), (b1, .inl (cI, 16, .inl mi)), (b2, .inl (cI, 4, .inl ga)), (b3, .inl (cI, 4, .inl te)), (b4, .inl (cI, 4, .inl kn)), (b5, .inl (cI, 6, .inl wa)), (b6, .inl (cI, 16, .inl ne))] [.ref hn, .int a] (fun v W1 => ∃ (r nz2 : Int32) (na2 ns2 : Nat → Int32), v = some (.int r) ∧ W1 = [(hn, .inr (4, [.ref hb, .ref hm, .ref n0, .ref n1, .ref n2, .ref n3, .int nr, .int nz2, .int nt, .int nd])), (n0, .inl (cI, 3784, .inl na2)), (n1, .inl (cI, 15136, .inl nx)), (n2, .inl (cJ, 3784, .inr (.inl nw))), (n3, .inl (cI, 8192, .inl ns2)), (hm, .inr (3, [.ref hb, .int mn, .int mo, .int mu, .int mg, .int mt, .int mb])), (hb, .inr (0, [.ref b0, .ref b1, .ref b2, .ref b3, .ref b4, .ref b5, .ref b6, .int wc, .int la, .int br])), (b0, .inl (cI, 4, .inl pa)), (b1, .inl (cI, 16, .inl mi)), (b2, .inl (cI, 4, .inl ga)), (b3, .inl (cI, 4, .inl te)), (b4, .inl (cI, 4, .inl kn)), (b5, .inl (cI, 6, .inl wa)), (b6, .inl (cI, 16, .inl ne))] ∧ ((0 ≤ nz2.toInt ∧ nz2.toInt ≤ 3784) ∧ HTI ns2 nr na2 nz2.toInt.toNat ∧ NOD a nz na r nz2 na2)) := by
  refine Cn.of (by decide) (Nat.le_of_ble_eq_true rfl) ?_ ?_ (fun X eL eD eT eO eK eN eM C => ?_)
  · intro h; cases h
  · intro v ws h; obtain ⟨_, _, _, _, rfl, rfl, _⟩ := h; exact Or.inl rfl
  subst eL eD eT
  show V X 6 [(hn, .inr (4, [.ref hb, .ref hm, .ref n0, .ref n1, .ref n2, .ref n3, .int nr, .int nz, .int nt, .int nd])), (n0, .inl (cI, 3784, .inl na)), (n1, .inl (cI, 15136, .inl nx)), (n2, .inl (cJ, 3784, .inr (.inl nw))), (n3, .inl (cI, 8192, .inl ns)), (hm, .inr (3, [.ref hb, .int mn, .int mo, .int mu, .int mg, .int mt, .int mb])), (hb, .inr (0, [.ref b0, .ref b1, .ref b2, .ref b3, .ref b4, .ref b5, .ref b6, .int wc, .int la, .int br])), (b0, .inl (cI, 4, .inl pa)), (b1, .inl (cI, 16, .inl mi)), (b2, .inl (cI, 4, .inl ga)), (b3, .inl (cI, 4, .inl te)), (b4, .inl (cI, 4, .inl kn)), (b5, .inl (cI, 6, .inl wa)), (b6, .inl (cI, 16, .inl ne))] [(0, .ref hn), (1, .int a)] [] 0 0 0
  refine x_iload_n C 1 dX4_nodeOf_0 rfl rfl ?_
  refine x_ldc C dX4_nodeOf_1 wd_525 ?_
  refine x_imul C dX4_nodeOf_3 ?_
  refine x_bipush C 19 dX4_nodeOf_4 (by decide) ?_
  refine x_iushr C dX4_nodeOf_6 ?_
  refine x_istore_n C [(2, .int ((Int32.toUInt32 (a * ((-1640531535))) >>> (Int32.toUInt32 19 &&& Int32.toUInt32 31)).toInt32)), (0, .ref hn), (1, .int a)] dX4_nodeOf_7 rfl (by decide) rfl ?_
  refine x_iconst C 0 dX4_nodeOf_8 (by decide) ?_
  refine x_istore_n C [(3, .int 0), (2, .int ((Int32.toUInt32 (a * ((-1640531535))) >>> (Int32.toUInt32 19 &&& Int32.toUInt32 31)).toInt32)), (0, .ref hn), (1, .int a)] dX4_nodeOf_9 rfl (by decide) rfl ?_
  have L_10 : ∀ (n_10 : Nat) (x3_10 : Int32) (x2_10 : Int32), ((0 ≤ x3_10.toInt ∧ x3_10.toInt ≤ 8192) ∧ (0 ≤ x2_10.toInt ∧ x2_10.toInt ≤ 8191) ∧ PRB ns nr na nz.toInt.toNat a x2_10 x3_10.toInt.toNat) → ((8192 - x3_10.toInt).toNat < n_10) → V X 6 [(hn, .inr (4, [.ref hb, .ref hm, .ref n0, .ref n1, .ref n2, .ref n3, .int nr, .int nz, .int nt, .int nd])), (n0, .inl (cI, 3784, .inl na)), (n1, .inl (cI, 15136, .inl nx)), (n2, .inl (cJ, 3784, .inr (.inl nw))), (n3, .inl (cI, 8192, .inl ns)), (hm, .inr (3, [.ref hb, .int mn, .int mo, .int mu, .int mg, .int mt, .int mb])), (hb, .inr (0, [.ref b0, .ref b1, .ref b2, .ref b3, .ref b4, .ref b5, .ref b6, .int wc, .int la, .int br])), (b0, .inl (cI, 4, .inl pa)), (b1, .inl (cI, 16, .inl mi)), (b2, .inl (cI, 4, .inl ga)), (b3, .inl (cI, 4, .inl te)), (b4, .inl (cI, 4, .inl kn)), (b5, .inl (cI, 6, .inl wa)), (b6, .inl (cI, 16, .inl ne))] [(3, .int x3_10), (2, .int x2_10), (0, .ref hn), (1, .int a)] [] 10 0 0 := by
    intro n_10
    induction n_10 with
    | zero =>
      intro x3_10 x2_10 i_10 m_10
      exact absurd m_10 (Nat.not_lt_zero _)
    | succ n_10 ih_10 =>
      intro x3_10 x2_10 i_10 m_10
      refine x_iload_n C 0 dX4_nodeOf_10 rfl rfl ?_
      refine x_sipush C 8192 dX4_nodeOf_11 (by decide) ?_
      refine x_icmp_ge C 89 dX4_nodeOf_14 (by decide) (fun c_14 => ?_) (fun c_14 => ?_)
      · skip
        have e_14 : (8192 : Int32).toInt ≤ (x3_10 : Int32).toInt := i_le.mp c_14
        have : (8192 : Int32).toInt = 8192 := by decide
        refine x_bipush C (-6) dX4_nodeOf_89 (by decide) ?_
        have : ((-6) : Int32).toInt = -6 := by decide
        exact x_iret C dX4_nodeOf_91 (Nat.zero_le _) (Nat.zero_le _) (by rw [eO]; exact ⟨((-6)), nz, na, ns, rfl, rfl, (by exfalso; exact hti.free (by omega) (hN_lt a) (fun d hd => (i_10.2.2.2 d (by omega)).1))⟩)
      · skip
        have e_14 : ¬ ((8192 : Int32).toInt ≤ (x3_10 : Int32).toInt) := fun h => c_14 (i_le.mpr h)
        have : (8192 : Int32).toInt = 8192 := by decide
        refine x_aload_n C 2 dX4_nodeOf_17 rfl rfl ?_
        refine x_get C 0 5 dX4_nodeOf_18 inlX4 rfl (by decide) wd_86 rfl rfl rfl ?_
        refine x_iload_n C 1 dX4_nodeOf_21 rfl rfl ?_
        have v_22 : vp_in x2_10 8192 := (vp_in_iff.mpr (by omega))
        refine x_iald C 4 0 dX4_nodeOf_22 hT.1 rfl v_22 ?_
        refine x_istore C [(4, .int (ns (Int32.toNatClampNeg x2_10))), (3, .int x3_10), (2, .int x2_10), (0, .ref hn), (1, .int a)] dX4_nodeOf_23 (by decide) rfl ?_
        refine x_iload C 0 dX4_nodeOf_25 rfl ?_
        refine x_bipush C 12 dX4_nodeOf_27 (by decide) ?_
        refine x_ishr C dX4_nodeOf_29 ?_
        refine x_aload_n C 3 dX4_nodeOf_30 rfl rfl ?_
        refine x_get C 0 6 dX4_nodeOf_31 inlX4 rfl (by decide) wd_519 rfl rfl rfl ?_
        refine x_icmp_eq C 44 dX4_nodeOf_34 (by decide) (fun c_34 => ?_) (fun c_34 => ?_)
        · skip
          have e_34 : ((ns (Int32.toNatClampNeg x2_10)) >>> (12 &&& 31) : Int32).toInt = (nr : Int32).toInt := i_eq.mp c_34
          refine x_iload C 0 dX4_nodeOf_44 rfl ?_
          refine x_sipush C 4095 dX4_nodeOf_46 (by decide) ?_
          refine x_iand C dX4_nodeOf_49 ?_
          refine x_istore C [(5, .int ((ns (Int32.toNatClampNeg x2_10)) &&& 4095)), (4, .int (ns (Int32.toNatClampNeg x2_10))), (3, .int x3_10), (2, .int x2_10), (0, .ref hn), (1, .int a)] dX4_nodeOf_50 (by decide) rfl ?_
          have := i_and4095 (ns (Int32.toNatClampNeg x2_10))
          refine x_iload C 0 dX4_nodeOf_52 rfl ?_
          refine x_aload_n C 4 dX4_nodeOf_54 rfl rfl ?_
          refine x_get C 0 7 dX4_nodeOf_55 inlX4 rfl (by decide) wd_514 rfl rfl rfl ?_
          refine x_icmp_ge C 75 dX4_nodeOf_58 (by decide) (fun c_58 => ?_) (fun c_58 => ?_)
          · skip
            have e_58 : (nz : Int32).toInt ≤ ((ns (Int32.toNatClampNeg x2_10)) &&& 4095 : Int32).toInt := i_le.mp c_58
            refine x_iload_n C 3 dX4_nodeOf_75 rfl rfl ?_
            refine x_iconst C 1 dX4_nodeOf_76 (by decide) ?_
            refine x_iadd C dX4_nodeOf_77 ?_
            refine x_sipush C 8191 dX4_nodeOf_78 (by decide) ?_
            refine x_iand C dX4_nodeOf_81 ?_
            refine x_istore_n C [(2, .int ((x2_10 + 1) &&& 8191)), (5, .int ((ns (Int32.toNatClampNeg x2_10)) &&& 4095)), (4, .int (ns (Int32.toNatClampNeg x2_10))), (3, .int x3_10), (0, .ref hn), (1, .int a)] dX4_nodeOf_82 rfl (by decide) rfl ?_
            refine x_iinc C 3 (x3_10 + 1) [(3, .int (x3_10 + 1)), (2, .int ((x2_10 + 1) &&& 8191)), (5, .int ((ns (Int32.toNatClampNeg x2_10)) &&& 4095)), (4, .int (ns (Int32.toNatClampNeg x2_10))), (0, .ref hn), (1, .int a)] dX4_nodeOf_83 rfl rfl (by decide) rfl ?_
            refine x_goto C 10 dX4_nodeOf_86 (by decide) ?_
            refine x_lv [(3, .int (x3_10 + 1)), (2, .int ((x2_10 + 1) &&& 8191)), (0, .ref hn), (1, .int a)] [0, 1, 4, 5] rfl ?_
            have := i_and8191 (x2_10 + 1)
            have : (1 : Int32).toInt = 1 := by decide
            have := i_add (x := x3_10) (y := 1) (by omega) (by omega)
            exact ih_10 (x3_10 + 1) ((x2_10 + 1) &&& 8191) ⟨by omega, by omega, i_10.2.2.go hti (by omega) (by omega) rfl c_34 (fun h9 => by exfalso; omega)⟩ (by omega)
          · skip
            have e_58 : ¬ ((nz : Int32).toInt ≤ ((ns (Int32.toNatClampNeg x2_10)) &&& 4095 : Int32).toInt) := fun h => c_58 (i_le.mpr h)
            refine x_aload_n C 4 dX4_nodeOf_61 rfl rfl ?_
            refine x_get C 0 2 dX4_nodeOf_62 inlX4 rfl (by decide) wd_82 rfl rfl rfl ?_
            refine x_iload C 0 dX4_nodeOf_65 rfl ?_
            have v_67 : vp_in ((ns (Int32.toNatClampNeg x2_10)) &&& 4095) 3784 := (vp_in_iff.mpr (by omega))
            refine x_iald C 1 0 dX4_nodeOf_67 hT.1 rfl v_67 ?_
            refine x_iload_n C 5 dX4_nodeOf_68 rfl rfl ?_
            refine x_icmp_ne C 75 dX4_nodeOf_69 (by decide) (fun c_69 => ?_) (fun c_69 => ?_)
            · skip
              have e_69 : ¬ ((na (Int32.toNatClampNeg ((ns (Int32.toNatClampNeg x2_10)) &&& 4095)) : Int32).toInt = (a : Int32).toInt) := fun h => c_69 (i_eq.mpr h)
              refine x_iload_n C 3 dX4_nodeOf_75 rfl rfl ?_
              refine x_iconst C 1 dX4_nodeOf_76 (by decide) ?_
              refine x_iadd C dX4_nodeOf_77 ?_
              refine x_sipush C 8191 dX4_nodeOf_78 (by decide) ?_
              refine x_iand C dX4_nodeOf_81 ?_
              refine x_istore_n C [(2, .int ((x2_10 + 1) &&& 8191)), (5, .int ((ns (Int32.toNatClampNeg x2_10)) &&& 4095)), (4, .int (ns (Int32.toNatClampNeg x2_10))), (3, .int x3_10), (0, .ref hn), (1, .int a)] dX4_nodeOf_82 rfl (by decide) rfl ?_
              refine x_iinc C 3 (x3_10 + 1) [(3, .int (x3_10 + 1)), (2, .int ((x2_10 + 1) &&& 8191)), (5, .int ((ns (Int32.toNatClampNeg x2_10)) &&& 4095)), (4, .int (ns (Int32.toNatClampNeg x2_10))), (0, .ref hn), (1, .int a)] dX4_nodeOf_83 rfl rfl (by decide) rfl ?_
              refine x_goto C 10 dX4_nodeOf_86 (by decide) ?_
              refine x_lv [(3, .int (x3_10 + 1)), (2, .int ((x2_10 + 1) &&& 8191)), (0, .ref hn), (1, .int a)] [0, 1, 4, 5] rfl ?_
              have := i_and8191 (x2_10 + 1)
              have : (1 : Int32).toInt = 1 := by decide
              have := i_add (x := x3_10) (y := 1) (by omega) (by omega)
              exact ih_10 (x3_10 + 1) ((x2_10 + 1) &&& 8191) ⟨by omega, by omega, i_10.2.2.go hti (by omega) (by omega) rfl c_34 (fun _ => c_69)⟩ (by omega)
            · skip
              have e_69 : (na (Int32.toNatClampNeg ((ns (Int32.toNatClampNeg x2_10)) &&& 4095)) : Int32).toInt = (a : Int32).toInt := i_eq.mp c_69
              refine x_iload C 0 dX4_nodeOf_72 rfl ?_
              exact x_iret C dX4_nodeOf_74 (Nat.zero_le _) (Nat.zero_le _) (by rw [eO]; exact ⟨((ns (Int32.toNatClampNeg x2_10)) &&& 4095), nz, na, ns, rfl, rfl, ⟨by omega, hti, Or.inl ⟨(ns (Int32.toNatClampNeg x2_10) &&& 4095).toInt.toNat, by omega, nI_sl (by omega), c_69, rfl, rfl⟩⟩⟩)
        · skip
          have e_34 : ¬ (((ns (Int32.toNatClampNeg x2_10)) >>> (12 &&& 31) : Int32).toInt = (nr : Int32).toInt) := fun h => c_34 (i_eq.mpr h)
          refine x_aload_n C 3 dX4_nodeOf_37 rfl rfl ?_
          refine x_iload_n C 4 dX4_nodeOf_38 rfl rfl ?_
          refine x_iload_n C 2 dX4_nodeOf_39 rfl rfl ?_
          refine x_callV C [.int a, .int x2_10] [] [0, 1, 2, 3, 4, 5, 6, 7, 8, 9, 10, 11, 12, 13] [] (q0 := 0) (c_X4_addNode (xl X) (xD X) (xt X) hT hn n0 n1 n2 n3 na nx ns nw nr nz nt nd hm mn mo mu mg mt mb hb b0 b1 b2 b3 b4 b5 b6 pa mi ga te kn wa ne wc la br a x2_10 (by omega) (by omega)) dX4_nodeOf_40 wd_526 wd_527 wd_528 wd_28 wd_529 (np := 2) ⟨by decide, by decide, by decide +kernel⟩ rfl rfl (Nat.le_of_ble_eq_true rfl) (by decide) rfl rfl rfl rfl (by decide) rfl (by decide) (by decide) (fun v W1 h => ?_)
          obtain ⟨r_40, nz2_40, na2_40, ns2_40, rfl, rfl, h_40⟩ := h
          show V X 6 [(hn, .inr (4, [.ref hb, .ref hm, .ref n0, .ref n1, .ref n2, .ref n3, .int nr, .int nz2_40, .int nt, .int nd])), (n0, .inl (cI, 3784, .inl na2_40)), (n1, .inl (cI, 15136, .inl nx)), (n2, .inl (cJ, 3784, .inr (.inl nw))), (n3, .inl (cI, 8192, .inl ns2_40)), (hm, .inr (3, [.ref hb, .int mn, .int mo, .int mu, .int mg, .int mt, .int mb])), (hb, .inr (0, [.ref b0, .ref b1, .ref b2, .ref b3, .ref b4, .ref b5, .ref b6, .int wc, .int la, .int br])), (b0, .inl (cI, 4, .inl pa)), (b1, .inl (cI, 16, .inl mi)), (b2, .inl (cI, 4, .inl ga)), (b3, .inl (cI, 4, .inl te)), (b4, .inl (cI, 4, .inl kn)), (b5, .inl (cI, 6, .inl wa)), (b6, .inl (cI, 16, .inl ne))] [(4, .int (ns (Int32.toNatClampNeg x2_10))), (3, .int x3_10), (2, .int x2_10), (0, .ref hn), (1, .int a)] [.int r_40] 43 0 0
          exact x_iret C dX4_nodeOf_43 (Nat.zero_le _) (Nat.zero_le _) (by rw [eO]; exact ⟨r_40, nz2_40, na2_40, ns2_40, rfl, rfl, (nod_add (by omega) hti i_10.2.2 (by omega) c_34 h_40)⟩)
  have := i_ushr19 (a * (-1640531535))
  have : (0 : Int32).toInt = 0 := by decide
  exact L_10 _ 0 ((Int32.toUInt32 (a * ((-1640531535))) >>> (Int32.toUInt32 19 &&& Int32.toUInt32 31)).toInt32) ⟨by omega, by omega, by rw [t0_]; exact PRB.z⟩ (Nat.lt_succ_self _)
abbrev rm_X4_canCome : Room := { frames := 3, cells := 0, slots := 0, locals := 67 }
set_option maxHeartbeats 4000000 in
set_option maxRecDepth 100000 in
theorem c_X4_canCome (l : Launch) (D : va_G) (tys : List (ClassId × FieldType)) {cI cJ cZ cB : ClassId} (hT : Ty tys cI cJ cZ cB) (hn n0 n1 n2 n3 : Nat) (na nx ns : Nat → Int32) (nw : Nat → Int64) (nr nz nt nd : Int32) (hm : Nat) (mn mo mu mg mt mb : Int32) (hb b0 b1 b2 b3 b4 b5 b6 : Nat) (pa mi ga te kn wa ne : Nat → Int32) (wc la br : Int32) (s : Int32) (hs0 : 0 ≤ s.toInt ∧ s.toInt ≤ 3) : Cn l D tys yX4_canCome cX4_canCome 2 (some .boolean) rm_X4_canCome [(hn, .inr (4, [.ref hb, .ref hm, .ref n0, .ref n1, .ref n2, .ref n3, .int nr, .int nz, .int nt, .int nd])), (n0, .inl (cI, 3784, .inl na)), (n1, .inl (cI, 15136, .inl nx)), (n2, .inl (cJ, 3784, .inr (.inl nw))), (n3, .inl (cI, 8192, .inl ns)), (hm, .inr (3, [.ref hb, .int mn, .int mo, .int mu, .int mg, .int mt, .int mb])), (hb, .inr (0, [.ref b0, .ref b1, .ref b2, .ref b3, .ref b4, .ref b5, .ref b6, .int wc, .int la, .int br])), (b0, .inl (cI, 4, .inl pa)), (b1, .inl (cI, 16, .inl mi)), (b2, .inl (cI, 4, .inl ga)), (b3, .inl (cI, 4, .inl te)), (b4, .inl (cI, 4, .inl kn)), (b5, .inl (cI, 6, .inl wa)), (b6, .inl (cI, 16, .inl ne))] [.ref hn, .int s] (fun v W1 => ∃ (r : Int32), v = some (.int r) ∧ W1 = [(hn, .inr (4, [.ref hb, .ref hm, .ref n0, .ref n1, .ref n2, .ref n3, .int nr, .int nz, .int nt, .int nd])), (n0, .inl (cI, 3784, .inl na)), (n1, .inl (cI, 15136, .inl nx)), (n2, .inl (cJ, 3784, .inr (.inl nw))), (n3, .inl (cI, 8192, .inl ns)), (hm, .inr (3, [.ref hb, .int mn, .int mo, .int mu, .int mg, .int mt, .int mb])), (hb, .inr (0, [.ref b0, .ref b1, .ref b2, .ref b3, .ref b4, .ref b5, .ref b6, .int wc, .int la, .int br])), (b0, .inl (cI, 4, .inl pa)), (b1, .inl (cI, 16, .inl mi)), (b2, .inl (cI, 4, .inl ga)), (b3, .inl (cI, 4, .inl te)), (b4, .inl (cI, 4, .inl kn)), (b5, .inl (cI, 6, .inl wa)), (b6, .inl (cI, 16, .inl ne))] ∧ (TB r ((¬ (nt >>> (s &&& 31)) &&& 1 = 0 ∧ ¬ nd.toInt < (bcF (mo ||| ((1 : Int32) <<< (s &&& 31)))).toInt) ∧ wnF te ne mn mo mu mg mt mb s nt = 0))) := by
  refine Cn.of (by decide) (Nat.le_of_ble_eq_true rfl) ?_ ?_ (fun X eL eD eT eO eK eN eM C => ?_)
  · intro _ v ws h; obtain ⟨_, rfl, rfl, h⟩ := h; exact z_of h.n
  · intro v ws h; obtain ⟨_, rfl, rfl, _⟩ := h; exact Or.inr rfl
  subst eL eD eT
  show V X 2 [(hn, .inr (4, [.ref hb, .ref hm, .ref n0, .ref n1, .ref n2, .ref n3, .int nr, .int nz, .int nt, .int nd])), (n0, .inl (cI, 3784, .inl na)), (n1, .inl (cI, 15136, .inl nx)), (n2, .inl (cJ, 3784, .inr (.inl nw))), (n3, .inl (cI, 8192, .inl ns)), (hm, .inr (3, [.ref hb, .int mn, .int mo, .int mu, .int mg, .int mt, .int mb])), (hb, .inr (0, [.ref b0, .ref b1, .ref b2, .ref b3, .ref b4, .ref b5, .ref b6, .int wc, .int la, .int br])), (b0, .inl (cI, 4, .inl pa)), (b1, .inl (cI, 16, .inl mi)), (b2, .inl (cI, 4, .inl ga)), (b3, .inl (cI, 4, .inl te)), (b4, .inl (cI, 4, .inl kn)), (b5, .inl (cI, 6, .inl wa)), (b6, .inl (cI, 16, .inl ne))] [(0, .ref hn), (1, .int s)] [] 0 0 0
  refine x_aload_n C 0 dX4_canCome_0 rfl rfl ?_
  refine x_get C 0 8 dX4_canCome_1 inlX4 rfl (by decide) wd_255 rfl rfl rfl ?_
  refine x_iload_n C 1 dX4_canCome_4 rfl rfl ?_
  refine x_ishr C dX4_canCome_5 ?_
  refine x_iconst C 1 dX4_canCome_6 (by decide) ?_
  refine x_iand C dX4_canCome_7 ?_
  refine x_if_eq C 45 dX4_canCome_8 (by decide) (fun c_8 => ?_) (fun c_8 => ?_)
  · skip
    have e_8 : ((nt >>> (s &&& 31)) &&& 1 : Int32).toInt = (0 : Int32).toInt := i_eq.mp c_8
    have : (0 : Int32).toInt = 0 := by decide
    refine x_iconst C 0 dX4_canCome_45 (by decide) ?_
    have : (0 : Int32).toInt = 0 := by decide
    exact x_iret C dX4_canCome_46 (Nat.zero_le _) (Nat.zero_le _) (by rw [eO]; exact ⟨0, rfl, rfl, (TB.nil (fun h => h.1.1 c_8))⟩)
  · skip
    have e_8 : ¬ (((nt >>> (s &&& 31)) &&& 1 : Int32).toInt = (0 : Int32).toInt) := fun h => c_8 (i_eq.mpr h)
    have : (0 : Int32).toInt = 0 := by decide
    refine x_aload_n C 0 dX4_canCome_11 rfl rfl ?_
    refine x_get C 0 1 dX4_canCome_12 inlX4 rfl (by decide) wd_89 rfl rfl rfl ?_
    refine x_iload_n C 1 dX4_canCome_15 rfl rfl ?_
    refine x_callV C [.int s] [(hn, .inr (4, [.ref hb, .ref hm, .ref n0, .ref n1, .ref n2, .ref n3, .int nr, .int nz, .int nt, .int nd])), (n0, .inl (cI, 3784, .inl na)), (n1, .inl (cI, 15136, .inl nx)), (n2, .inl (cJ, 3784, .inr (.inl nw))), (n3, .inl (cI, 8192, .inl ns)), (hb, .inr (0, [.ref b0, .ref b1, .ref b2, .ref b3, .ref b4, .ref b5, .ref b6, .int wc, .int la, .int br])), (b0, .inl (cI, 4, .inl pa)), (b1, .inl (cI, 16, .inl mi)), (b2, .inl (cI, 4, .inl ga)), (b3, .inl (cI, 4, .inl te)), (b4, .inl (cI, 4, .inl kn)), (b5, .inl (cI, 6, .inl wa)), (b6, .inl (cI, 16, .inl ne))] [5] [0, 1, 2, 3, 4, 6, 7, 8, 9, 10, 11, 12, 13] (q0 := 0) (c_X3_deepWith (xl X) (xD X) (xt X) hT hm mn mo mu mg mt mb hb s ) dX4_canCome_16 wd_539 wd_397 wd_398 wd_71 wd_399 (np := 1) ⟨by decide, by decide, by decide +kernel⟩ rfl rfl (Nat.le_of_ble_eq_true rfl) (by decide) rfl rfl rfl rfl (by decide) rfl (by decide) (by decide) (fun v W1 h => ?_)
    obtain ⟨_, rfl, rfl, h_16⟩ := h
    show V X 2 [(hn, .inr (4, [.ref hb, .ref hm, .ref n0, .ref n1, .ref n2, .ref n3, .int nr, .int nz, .int nt, .int nd])), (n0, .inl (cI, 3784, .inl na)), (n1, .inl (cI, 15136, .inl nx)), (n2, .inl (cJ, 3784, .inr (.inl nw))), (n3, .inl (cI, 8192, .inl ns)), (hb, .inr (0, [.ref b0, .ref b1, .ref b2, .ref b3, .ref b4, .ref b5, .ref b6, .int wc, .int la, .int br])), (b0, .inl (cI, 4, .inl pa)), (b1, .inl (cI, 16, .inl mi)), (b2, .inl (cI, 4, .inl ga)), (b3, .inl (cI, 4, .inl te)), (b4, .inl (cI, 4, .inl kn)), (b5, .inl (cI, 6, .inl wa)), (b6, .inl (cI, 16, .inl ne)), (hm, .inr (3, [.ref hb, .int mn, .int mo, .int mu, .int mg, .int mt, .int mb]))] [(0, .ref hn), (1, .int s)] [.int (bcF (mo ||| ((1 : Int32) <<< (s &&& 31))))] 19 0 0
    refine x_aload_n C 0 dX4_canCome_19 rfl rfl ?_
    refine x_get C 0 9 dX4_canCome_20 inlX4 rfl (by decide) wd_513 rfl rfl rfl ?_
    refine x_icmp_gt C 45 dX4_canCome_23 (by decide) (fun c_23 => ?_) (fun c_23 => ?_)
    · skip
      have e_23 : (nd : Int32).toInt < (bcF (mo ||| ((1 : Int32) <<< (s &&& 31))) : Int32).toInt := i_lt.mp c_23
      refine x_iconst C 0 dX4_canCome_45 (by decide) ?_
      refine x_sub [(hn, .inr (4, [.ref hb, .ref hm, .ref n0, .ref n1, .ref n2, .ref n3, .int nr, .int nz, .int nt, .int nd])), (n0, .inl (cI, 3784, .inl na)), (n1, .inl (cI, 15136, .inl nx)), (n2, .inl (cJ, 3784, .inr (.inl nw))), (n3, .inl (cI, 8192, .inl ns)), (hm, .inr (3, [.ref hb, .int mn, .int mo, .int mu, .int mg, .int mt, .int mb])), (hb, .inr (0, [.ref b0, .ref b1, .ref b2, .ref b3, .ref b4, .ref b5, .ref b6, .int wc, .int la, .int br])), (b0, .inl (cI, 4, .inl pa)), (b1, .inl (cI, 16, .inl mi)), (b2, .inl (cI, 4, .inl ga)), (b3, .inl (cI, 4, .inl te)), (b4, .inl (cI, 4, .inl kn)), (b5, .inl (cI, 6, .inl wa)), (b6, .inl (cI, 16, .inl ne))] [0, 1, 2, 3, 4, 13, 5, 6, 7, 8, 9, 10, 11, 12] (by decide) rfl ?_
      have : (0 : Int32).toInt = 0 := by decide
      exact x_iret C dX4_canCome_46 (Nat.zero_le _) (Nat.zero_le _) (by rw [eO]; exact ⟨0, rfl, rfl, (TB.nil (fun h => h.1.2 (by omega)))⟩)
    · skip
      have e_23 : ¬ ((nd : Int32).toInt < (bcF (mo ||| ((1 : Int32) <<< (s &&& 31))) : Int32).toInt) := fun h => c_23 (i_lt.mpr h)
      refine x_aload_n C 0 dX4_canCome_26 rfl rfl ?_
      refine x_get C 0 1 dX4_canCome_27 inlX4 rfl (by decide) wd_89 rfl rfl rfl ?_
      refine x_iload_n C 1 dX4_canCome_30 rfl rfl ?_
      refine x_aload_n C 0 dX4_canCome_31 rfl rfl ?_
      refine x_get C 0 8 dX4_canCome_32 inlX4 rfl (by decide) wd_255 rfl rfl rfl ?_
      refine x_callV C [.int s, .int nt] [(hn, .inr (4, [.ref hb, .ref hm, .ref n0, .ref n1, .ref n2, .ref n3, .int nr, .int nz, .int nt, .int nd])), (n0, .inl (cI, 3784, .inl na)), (n1, .inl (cI, 15136, .inl nx)), (n2, .inl (cJ, 3784, .inr (.inl nw))), (n3, .inl (cI, 8192, .inl ns))] [13, 5, 6, 7, 8, 9, 10, 11, 12] [0, 1, 2, 3, 4] (q0 := 0) (c_X3_whyNot (xl X) (xD X) (xt X) hT hm mn mo mu mg mt mb hb b0 b1 b2 b3 b4 b5 b6 pa mi ga te kn wa ne wc la br s nt (by omega)) dX4_canCome_35 wd_540 wd_381 wd_382 wd_71 wd_383 (np := 2) ⟨by decide, by decide, by decide +kernel⟩ rfl rfl (Nat.le_of_ble_eq_true rfl) (by decide) rfl rfl rfl rfl (by decide) rfl (by decide) (by decide) (fun v W1 h => ?_)
      obtain ⟨_, rfl, rfl, h_35⟩ := h
      show V X 2 [(hn, .inr (4, [.ref hb, .ref hm, .ref n0, .ref n1, .ref n2, .ref n3, .int nr, .int nz, .int nt, .int nd])), (n0, .inl (cI, 3784, .inl na)), (n1, .inl (cI, 15136, .inl nx)), (n2, .inl (cJ, 3784, .inr (.inl nw))), (n3, .inl (cI, 8192, .inl ns)), (hm, .inr (3, [.ref hb, .int mn, .int mo, .int mu, .int mg, .int mt, .int mb])), (hb, .inr (0, [.ref b0, .ref b1, .ref b2, .ref b3, .ref b4, .ref b5, .ref b6, .int wc, .int la, .int br])), (b0, .inl (cI, 4, .inl pa)), (b1, .inl (cI, 16, .inl mi)), (b2, .inl (cI, 4, .inl ga)), (b3, .inl (cI, 4, .inl te)), (b4, .inl (cI, 4, .inl kn)), (b5, .inl (cI, 6, .inl wa)), (b6, .inl (cI, 16, .inl ne))] [(0, .ref hn), (1, .int s)] [.int (wnF te ne mn mo mu mg mt mb s nt)] 38 0 0
      refine x_if_ne C 45 dX4_canCome_38 (by decide) (fun c_38 => ?_) (fun c_38 => ?_)
      · skip
        have e_38 : ¬ ((wnF te ne mn mo mu mg mt mb s nt : Int32).toInt = (0 : Int32).toInt) := fun h => c_38 (i_eq.mpr h)
        have : (0 : Int32).toInt = 0 := by decide
        refine x_iconst C 0 dX4_canCome_45 (by decide) ?_
        have : (0 : Int32).toInt = 0 := by decide
        exact x_iret C dX4_canCome_46 (Nat.zero_le _) (Nat.zero_le _) (by rw [eO]; exact ⟨0, rfl, rfl, (TB.nil (fun h => c_38 h.2))⟩)
      · skip
        have e_38 : (wnF te ne mn mo mu mg mt mb s nt : Int32).toInt = (0 : Int32).toInt := i_eq.mp c_38
        have : (0 : Int32).toInt = 0 := by decide
        refine x_iconst C 1 dX4_canCome_41 (by decide) ?_
        refine x_goto C 46 dX4_canCome_42 (by decide) ?_
        have : (1 : Int32).toInt = 1 := by decide
        exact x_iret C dX4_canCome_46 (Nat.zero_le _) (Nat.zero_le _) (by rw [eO]; exact ⟨1, rfl, rfl, (TB.one ⟨⟨c_8, by omega⟩, c_38⟩)⟩)
abbrev rm_X4_expand : Room := { frames := 4, cells := 0, slots := 0, locals := 88 }
set_option maxHeartbeats 4000000 in
set_option maxRecDepth 100000 in
theorem c_X4_expand (l : Launch) (D : va_G) (tys : List (ClassId × FieldType)) {cI cJ cZ cB : ClassId} (hT : Ty tys cI cJ cZ cB) (hn n0 n1 n2 n3 : Nat) (na nx ns : Nat → Int32) (nw : Nat → Int64) (nr nz nt nd : Int32) (hm : Nat) (mn mo mu mg mt mb : Int32) (hb b0 b1 b2 b3 b4 b5 b6 : Nat) (pa mi ga te kn wa ne : Nat → Int32) (wc la br : Int32) (gf gp gt : Nat → Int32) (gw : Int32) (a : Int32) (hz : 0 ≤ nz.toInt ∧ nz.toInt ≤ 3784) (hnode : 0 ≤ a.toInt ∧ a.toInt < nz.toInt) (hti : HTI ns nr na nz.toInt.toNat) (hgi : GRI pa ga te ne la nt nd na nx nz.toInt.toNat a.toInt.toNat 0) (hse : 0 ≤ nt.toInt ∧ nt.toInt < 16) (hsb : SB pa ga te ne pa ga te gf gp gt la gw) : Cn l D tys yX4_expand cX4_expand 3 none rm_X4_expand [(hn, .inr (4, [.ref hb, .ref hm, .ref n0, .ref n1, .ref n2, .ref n3, .int nr, .int nz, .int nt, .int nd])), (n0, .inl (cI, 3784, .inl na)), (n1, .inl (cI, 15136, .inl nx)), (n2, .inl (cJ, 3784, .inr (.inl nw))), (n3, .inl (cI, 8192, .inl ns)), (hm, .inr (3, [.ref hb, .int mn, .int mo, .int mu, .int mg, .int mt, .int mb])), (hb, .inr (0, [.ref b0, .ref b1, .ref b2, .ref b3, .ref b4, .ref b5, .ref b6, .int wc, .int la, .int br])), (b0, .inl (cI, 4, .inl pa)), (b1, .inl (cI, 16, .inl mi)), (b2, .inl (cI, 4, .inl ga)), (b3, .inl (cI, 4, .inl te)), (b4, .inl (cI, 4, .inl kn)), (b5, .inl (cI, 6, .inl wa)), (b6, .inl (cI, 16, .inl ne))] [.ref hn, .int a] (fun v W1 => ∃ (nz2 mn2 mo2 mu2 mg2 mt2 mb2 : Int32) (na2 nx2 ns2 : Nat → Int32), v = none ∧ W1 = [(hn, .inr (4, [.ref hb, .ref hm, .ref n0, .ref n1, .ref n2, .ref n3, .int nr, .int nz2, .int nt, .int nd])), (n0, .inl (cI, 3784, .inl na2)), (n1, .inl (cI, 15136, .inl nx2)), (n2, .inl (cJ, 3784, .inr (.inl nw))), (n3, .inl (cI, 8192, .inl ns2)), (hm, .inr (3, [.ref hb, .int mn2, .int mo2, .int mu2, .int mg2, .int mt2, .int mb2])), (hb, .inr (0, [.ref b0, .ref b1, .ref b2, .ref b3, .ref b4, .ref b5, .ref b6, .int wc, .int la, .int br])), (b0, .inl (cI, 4, .inl pa)), (b1, .inl (cI, 16, .inl mi)), (b2, .inl (cI, 4, .inl ga)), (b3, .inl (cI, 4, .inl te)), (b4, .inl (cI, 4, .inl kn)), (b5, .inl (cI, 6, .inl wa)), (b6, .inl (cI, 16, .inl ne))] ∧ (((0 ≤ nz2.toInt ∧ nz2.toInt ≤ 3784) ∧ nz.toInt ≤ nz2.toInt) ∧ HTI ns2 nr na2 nz2.toInt.toNat ∧ GRI pa ga te ne la nt nd na2 nx2 nz2.toInt.toNat a.toInt.toNat 4)) := by
  refine Cn.of (by decide) (Nat.le_of_ble_eq_true rfl) ?_ ?_ (fun X eL eD eT eO eK eN eM C => ?_)
  · intro h; cases h
  · intro v ws h; obtain ⟨_, _, _, _, _, _, _, _, _, _, rfl, rfl, _⟩ := h; rfl
  subst eL eD eT
  show V X 3 [(hn, .inr (4, [.ref hb, .ref hm, .ref n0, .ref n1, .ref n2, .ref n3, .int nr, .int nz, .int nt, .int nd])), (n0, .inl (cI, 3784, .inl na)), (n1, .inl (cI, 15136, .inl nx)), (n2, .inl (cJ, 3784, .inr (.inl nw))), (n3, .inl (cI, 8192, .inl ns)), (hm, .inr (3, [.ref hb, .int mn, .int mo, .int mu, .int mg, .int mt, .int mb])), (hb, .inr (0, [.ref b0, .ref b1, .ref b2, .ref b3, .ref b4, .ref b5, .ref b6, .int wc, .int la, .int br])), (b0, .inl (cI, 4, .inl pa)), (b1, .inl (cI, 16, .inl mi)), (b2, .inl (cI, 4, .inl ga)), (b3, .inl (cI, 4, .inl te)), (b4, .inl (cI, 4, .inl kn)), (b5, .inl (cI, 6, .inl wa)), (b6, .inl (cI, 16, .inl ne))] [(0, .ref hn), (1, .int a)] [] 0 0 0
  refine x_aload_n C 0 dX4_expand_0 rfl rfl ?_
  refine x_get C 0 1 dX4_expand_1 inlX4 rfl (by decide) wd_89 rfl rfl rfl ?_
  refine x_aload_n C 0 dX4_expand_4 rfl rfl ?_
  refine x_get C 0 2 dX4_expand_5 inlX4 rfl (by decide) wd_82 rfl rfl rfl ?_
  refine x_iload_n C 1 dX4_expand_8 rfl rfl ?_
  have v_9 : vp_in a 3784 := (vp_in_iff.mpr (by omega))
  refine x_iald C 1 0 dX4_expand_9 hT.1 rfl v_9 ?_
  refine x_callV C [.int (na (Int32.toNatClampNeg a))] [(hn, .inr (4, [.ref hb, .ref hm, .ref n0, .ref n1, .ref n2, .ref n3, .int nr, .int nz, .int nt, .int nd])), (n0, .inl (cI, 3784, .inl na)), (n1, .inl (cI, 15136, .inl nx)), (n2, .inl (cJ, 3784, .inr (.inl nw))), (n3, .inl (cI, 8192, .inl ns))] [5, 6, 7, 8, 9, 10, 11, 12, 13] [0, 1, 2, 3, 4] (q0 := 0) (c_X3_look (xl X) (xD X) (xt X) hT hm mn mo mu mg mt mb hb b0 b1 b2 b3 b4 b5 b6 pa mi ga te kn wa ne wc la br (na (Int32.toNatClampNeg a)) ) dX4_expand_10 wd_534 wd_363 wd_364 wd_71 wd_365 (np := 1) ⟨by decide, by decide, by decide +kernel⟩ rfl rfl (Nat.le_of_ble_eq_true rfl) (by decide) rfl rfl rfl rfl (by decide) rfl (by decide) (by decide) (fun v W1 h => ?_)
  obtain ⟨mo2_10, mu2_10, mg2_10, mt2_10, mb2_10, rfl, rfl, h_10⟩ := h
  show V X 3 [(hn, .inr (4, [.ref hb, .ref hm, .ref n0, .ref n1, .ref n2, .ref n3, .int nr, .int nz, .int nt, .int nd])), (n0, .inl (cI, 3784, .inl na)), (n1, .inl (cI, 15136, .inl nx)), (n2, .inl (cJ, 3784, .inr (.inl nw))), (n3, .inl (cI, 8192, .inl ns)), (hm, .inr (3, [.ref hb, .int (na (Int32.toNatClampNeg a)), .int mo2_10, .int mu2_10, .int mg2_10, .int mt2_10, .int mb2_10])), (hb, .inr (0, [.ref b0, .ref b1, .ref b2, .ref b3, .ref b4, .ref b5, .ref b6, .int wc, .int la, .int br])), (b0, .inl (cI, 4, .inl pa)), (b1, .inl (cI, 16, .inl mi)), (b2, .inl (cI, 4, .inl ga)), (b3, .inl (cI, 4, .inl te)), (b4, .inl (cI, 4, .inl kn)), (b5, .inl (cI, 6, .inl wa)), (b6, .inl (cI, 16, .inl ne))] [(0, .ref hn), (1, .int a)] [] 13 0 0
  refine x_iconst C 0 dX4_expand_13 (by decide) ?_
  refine x_istore_n C [(2, .int 0), (0, .ref hn), (1, .int a)] dX4_expand_14 rfl (by decide) rfl ?_
  have L_15 : ∀ (n_15 : Nat) (x2_15 : Int32) (ghn7_15 : Int32) (fn0_15 : Nat → Int32) (fn1_15 : Nat → Int32) (fn3_15 : Nat → Int32), (((0 ≤ x2_15.toInt ∧ x2_15.toInt ≤ 4) ∧ (0 ≤ ghn7_15.toInt ∧ ghn7_15.toInt ≤ 3784) ∧ nz.toInt ≤ ghn7_15.toInt) ∧ HTI fn3_15 nr fn0_15 ghn7_15.toInt.toNat ∧ GRI pa ga te ne la nt nd fn0_15 fn1_15 ghn7_15.toInt.toNat a.toInt.toNat x2_15.toInt.toNat ∧ fn0_15 a.toInt.toNat = na a.toInt.toNat) → ((4 - x2_15.toInt).toNat < n_15) → V X 3 [(hn, .inr (4, [.ref hb, .ref hm, .ref n0, .ref n1, .ref n2, .ref n3, .int nr, .int ghn7_15, .int nt, .int nd])), (n0, .inl (cI, 3784, .inl fn0_15)), (n1, .inl (cI, 15136, .inl fn1_15)), (n2, .inl (cJ, 3784, .inr (.inl nw))), (n3, .inl (cI, 8192, .inl fn3_15)), (hm, .inr (3, [.ref hb, .int (na (Int32.toNatClampNeg a)), .int mo2_10, .int mu2_10, .int mg2_10, .int mt2_10, .int mb2_10])), (hb, .inr (0, [.ref b0, .ref b1, .ref b2, .ref b3, .ref b4, .ref b5, .ref b6, .int wc, .int la, .int br])), (b0, .inl (cI, 4, .inl pa)), (b1, .inl (cI, 16, .inl mi)), (b2, .inl (cI, 4, .inl ga)), (b3, .inl (cI, 4, .inl te)), (b4, .inl (cI, 4, .inl kn)), (b5, .inl (cI, 6, .inl wa)), (b6, .inl (cI, 16, .inl ne))] [(2, .int x2_15), (0, .ref hn), (1, .int a)] [] 15 0 0 := by
    intro n_15
    induction n_15 with
    | zero =>
      intro x2_15 ghn7_15 fn0_15 fn1_15 fn3_15 i_15 m_15
      exact absurd m_15 (Nat.not_lt_zero _)
    | succ n_15 ih_15 =>
      intro x2_15 ghn7_15 fn0_15 fn1_15 fn3_15 i_15 m_15
      refine x_iload_n C 0 dX4_expand_15 rfl rfl ?_
      refine x_iconst C 4 dX4_expand_16 (by decide) ?_
      refine x_icmp_ge C 61 dX4_expand_17 (by decide) (fun c_17 => ?_) (fun c_17 => ?_)
      · skip
        have e_17 : (4 : Int32).toInt ≤ (x2_15 : Int32).toInt := i_le.mp c_17
        have : (4 : Int32).toInt = 4 := by decide
        exact x_vret C dX4_expand_61 (Nat.zero_le _) (Nat.zero_le _) (by rw [eO]; exact ⟨ghn7_15, (na (Int32.toNatClampNeg a)), mo2_10, mu2_10, mg2_10, mt2_10, mb2_10, fn0_15, fn1_15, fn3_15, rfl, rfl, ⟨⟨by omega, by omega⟩, i_15.2.1, by rw [show (4 : Nat) = x2_15.toInt.toNat by omega]; exact i_15.2.2.1⟩⟩)
      · skip
        have e_17 : ¬ ((4 : Int32).toInt ≤ (x2_15 : Int32).toInt) := fun h => c_17 (i_le.mpr h)
        have : (4 : Int32).toInt = 4 := by decide
        refine x_aload_n C 1 dX4_expand_20 rfl rfl ?_
        refine x_get C 0 3 dX4_expand_21 inlX4 rfl (by decide) wd_83 rfl rfl rfl ?_
        refine x_iload_n C 2 dX4_expand_24 rfl rfl ?_
        refine x_iconst C 4 dX4_expand_25 (by decide) ?_
        refine x_imul C dX4_expand_26 ?_
        refine x_iload_n C 0 dX4_expand_27 rfl rfl ?_
        refine x_iadd C dX4_expand_28 ?_
        refine x_aload_n C 1 dX4_expand_29 rfl rfl ?_
        refine x_iload_n C 0 dX4_expand_30 rfl rfl ?_
        refine x_callV C [.int x2_15] [] [0, 1, 2, 3, 4, 5, 6, 7, 8, 9, 10, 11, 12, 13] [] (q0 := 0) (c_X4_canCome (xl X) (xD X) (xt X) hT hn n0 n1 n2 n3 fn0_15 fn1_15 fn3_15 nw nr ghn7_15 nt nd hm (na (Int32.toNatClampNeg a)) mo2_10 mu2_10 mg2_10 mt2_10 mb2_10 hb b0 b1 b2 b3 b4 b5 b6 pa mi ga te kn wa ne wc la br x2_15 (by omega)) dX4_expand_31 wd_535 wd_536 wd_537 wd_28 wd_538 (np := 1) ⟨by decide, by decide, by decide +kernel⟩ rfl rfl (Nat.le_of_ble_eq_true rfl) (by decide) rfl rfl rfl rfl (by decide) rfl (by decide) (by decide) (fun v W1 h => ?_)
        obtain ⟨r_31, rfl, rfl, h_31⟩ := h
        show V X 3 [(hn, .inr (4, [.ref hb, .ref hm, .ref n0, .ref n1, .ref n2, .ref n3, .int nr, .int ghn7_15, .int nt, .int nd])), (n0, .inl (cI, 3784, .inl fn0_15)), (n1, .inl (cI, 15136, .inl fn1_15)), (n2, .inl (cJ, 3784, .inr (.inl nw))), (n3, .inl (cI, 8192, .inl fn3_15)), (hm, .inr (3, [.ref hb, .int (na (Int32.toNatClampNeg a)), .int mo2_10, .int mu2_10, .int mg2_10, .int mt2_10, .int mb2_10])), (hb, .inr (0, [.ref b0, .ref b1, .ref b2, .ref b3, .ref b4, .ref b5, .ref b6, .int wc, .int la, .int br])), (b0, .inl (cI, 4, .inl pa)), (b1, .inl (cI, 16, .inl mi)), (b2, .inl (cI, 4, .inl ga)), (b3, .inl (cI, 4, .inl te)), (b4, .inl (cI, 4, .inl kn)), (b5, .inl (cI, 6, .inl wa)), (b6, .inl (cI, 16, .inl ne))] [(2, .int x2_15), (0, .ref hn), (1, .int a)] [.int r_31, .int ((a * 4) + x2_15), .ref n1] 34 0 0
        have m9 : MOM pa ga te la (na a.toInt.toNat) mo2_10 mu2_10 mg2_10 mt2_10 mb2_10 := h_10.2
        have s9 : x2_15 = nI x2_15.toInt.toNat := nI_sl (by omega)
        have cc9 := ccp_iff (ne := ne) (set := nt) (deep := nd) (s := x2_15) m9
        have k9 : Int32.toNatClampNeg (a * 4 + x2_15) = 4 * a.toInt.toNat + x2_15.toInt.toNat := by
          have := t4_
          have := i_mulr (x := a) (y := 4) (d := 4) (by decide) (by omega) (by omega)
          have := i_add (x := a * 4) (y := x2_15) (by omega) (by omega)
          show (a * 4 + x2_15).toInt.toNat = _
          omega
        refine x_if_eq C 52 dX4_expand_34 (by decide) (fun c_34 => ?_) (fun c_34 => ?_)
        · skip
          have e_34 : (r_31 : Int32).toInt = (0 : Int32).toInt := i_eq.mp c_34
          have : (0 : Int32).toInt = 0 := by decide
          have n9 : ¬ ccP pa ga te ne la nt nd (fn0_15 a.toInt.toNat) (nI x2_15.toInt.toNat) := by rw [i_15.2.2.2, ← s9]; exact fun h => h_31.f (by omega) (cc9.mpr h)
          refine x_bipush C (-6) dX4_expand_52 (by decide) ?_
          have : (4 : Int32).toInt = 4 := by decide
          have := i_mulr (x := a) (y := 4) (d := 4) (by decide) (by omega) (by omega)
          have := i_add (x := (a * 4)) (y := x2_15) (by omega) (by omega)
          have v_54 : vp_in ((a * 4) + x2_15) 15136 := (vp_in_iff.mpr (by omega))
          refine x_iast C 2 0 [(hn, .inr (4, [.ref hb, .ref hm, .ref n0, .ref n1, .ref n2, .ref n3, .int nr, .int ghn7_15, .int nt, .int nd])), (n0, .inl (cI, 3784, .inl fn0_15)), (n1, .inl (cI, 15136, .inl (upd fn1_15 (Int32.toNatClampNeg ((a * 4) + x2_15)) ((-6))))), (n2, .inl (cJ, 3784, .inr (.inl nw))), (n3, .inl (cI, 8192, .inl fn3_15)), (hm, .inr (3, [.ref hb, .int (na (Int32.toNatClampNeg a)), .int mo2_10, .int mu2_10, .int mg2_10, .int mt2_10, .int mb2_10])), (hb, .inr (0, [.ref b0, .ref b1, .ref b2, .ref b3, .ref b4, .ref b5, .ref b6, .int wc, .int la, .int br])), (b0, .inl (cI, 4, .inl pa)), (b1, .inl (cI, 16, .inl mi)), (b2, .inl (cI, 4, .inl ga)), (b3, .inl (cI, 4, .inl te)), (b4, .inl (cI, 4, .inl kn)), (b5, .inl (cI, 6, .inl wa)), (b6, .inl (cI, 16, .inl ne))] dX4_expand_54 hT.1 rfl v_54 rfl ?_
          refine x_iinc C 0 (x2_15 + 1) [(2, .int (x2_15 + 1)), (0, .ref hn), (1, .int a)] dX4_expand_55 rfl rfl (by decide) rfl ?_
          refine x_goto C 15 dX4_expand_58 (by decide) ?_
          have : (1 : Int32).toInt = 1 := by decide
          have := i_add (x := x2_15) (y := 1) (by omega) (by omega)
          exact ih_15 (x2_15 + 1) ghn7_15 fn0_15 (upd fn1_15 (Int32.toNatClampNeg ((a * 4) + x2_15)) ((-6))) fn3_15 ⟨⟨by omega, by omega, by omega⟩, i_15.2.1, by rw [show Int32.toNatClampNeg (a * 4 + x2_15) = 4 * a.toInt.toNat + x2_15.toInt.toNat from k9, show (x2_15 + 1).toInt.toNat = x2_15.toInt.toNat + 1 by omega]; exact i_15.2.2.1.no (by omega) n9, i_15.2.2.2⟩ (by omega)
        · skip
          have e_34 : ¬ ((r_31 : Int32).toInt = (0 : Int32).toInt) := fun h => c_34 (i_eq.mpr h)
          have : (0 : Int32).toInt = 0 := by decide
          refine x_aload_n C 1 dX4_expand_37 rfl rfl ?_
          refine x_aload_n C 1 dX4_expand_38 rfl rfl ?_
          refine x_get C 0 1 dX4_expand_39 inlX4 rfl (by decide) wd_89 rfl rfl rfl ?_
          refine x_iload_n C 0 dX4_expand_42 rfl rfl ?_
          refine x_callV C [.int x2_15] [(hn, .inr (4, [.ref hb, .ref hm, .ref n0, .ref n1, .ref n2, .ref n3, .int nr, .int ghn7_15, .int nt, .int nd])), (n0, .inl (cI, 3784, .inl fn0_15)), (n1, .inl (cI, 15136, .inl fn1_15)), (n2, .inl (cJ, 3784, .inr (.inl nw))), (n3, .inl (cI, 8192, .inl fn3_15))] [5, 6, 7, 8, 9, 10, 11, 12, 13] [0, 1, 2, 3, 4] (q0 := 0) (c_X3_after (xl X) (xD X) (xt X) hT hm (na (Int32.toNatClampNeg a)) mo2_10 mu2_10 mg2_10 mt2_10 mb2_10 hb b0 b1 b2 b3 b4 b5 b6 pa mi ga te kn wa ne wc la br x2_15 (by omega)) dX4_expand_43 wd_541 wd_410 wd_411 wd_71 wd_412 (np := 1) ⟨by decide, by decide, by decide +kernel⟩ rfl rfl (Nat.le_of_ble_eq_true rfl) (by decide) rfl rfl rfl rfl (by decide) rfl (by decide) (by decide) (fun v W1 h => ?_)
          obtain ⟨_, rfl, rfl, h_43⟩ := h
          show V X 3 [(hn, .inr (4, [.ref hb, .ref hm, .ref n0, .ref n1, .ref n2, .ref n3, .int nr, .int ghn7_15, .int nt, .int nd])), (n0, .inl (cI, 3784, .inl fn0_15)), (n1, .inl (cI, 15136, .inl fn1_15)), (n2, .inl (cJ, 3784, .inr (.inl nw))), (n3, .inl (cI, 8192, .inl fn3_15)), (hm, .inr (3, [.ref hb, .int (na (Int32.toNatClampNeg a)), .int mo2_10, .int mu2_10, .int mg2_10, .int mt2_10, .int mb2_10])), (hb, .inr (0, [.ref b0, .ref b1, .ref b2, .ref b3, .ref b4, .ref b5, .ref b6, .int wc, .int la, .int br])), (b0, .inl (cI, 4, .inl pa)), (b1, .inl (cI, 16, .inl mi)), (b2, .inl (cI, 4, .inl ga)), (b3, .inl (cI, 4, .inl te)), (b4, .inl (cI, 4, .inl kn)), (b5, .inl (cI, 6, .inl wa)), (b6, .inl (cI, 16, .inl ne))] [(2, .int x2_15), (0, .ref hn), (1, .int a)] [.int (afF pa la (na (Int32.toNatClampNeg a)) mo2_10 x2_15), .ref hn, .int ((a * 4) + x2_15), .ref n1] 46 0 0
          refine x_callV C [.int (afF pa la (na (Int32.toNatClampNeg a)) mo2_10 x2_15)] [] [0, 1, 2, 3, 4, 5, 6, 7, 8, 9, 10, 11, 12, 13] [] (q0 := 0) (c_X4_nodeOf (xl X) (xD X) (xt X) hT hn n0 n1 n2 n3 fn0_15 fn1_15 fn3_15 nw nr ghn7_15 nt nd hm (na (Int32.toNatClampNeg a)) mo2_10 mu2_10 mg2_10 mt2_10 mb2_10 hb b0 b1 b2 b3 b4 b5 b6 pa mi ga te kn wa ne wc la br (afF pa la (na (Int32.toNatClampNeg a)) mo2_10 x2_15) (by omega) i_15.2.1) dX4_expand_46 wd_521 wd_522 wd_523 wd_28 wd_524 (np := 1) ⟨by decide, by decide, by decide +kernel⟩ rfl rfl (Nat.le_of_ble_eq_true rfl) (by decide) rfl rfl rfl rfl (by decide) rfl (by decide) (by decide) (fun v W1 h => ?_)
          obtain ⟨r_46, nz2_46, na2_46, ns2_46, rfl, rfl, h_46⟩ := h
          show V X 3 [(hn, .inr (4, [.ref hb, .ref hm, .ref n0, .ref n1, .ref n2, .ref n3, .int nr, .int nz2_46, .int nt, .int nd])), (n0, .inl (cI, 3784, .inl na2_46)), (n1, .inl (cI, 15136, .inl fn1_15)), (n2, .inl (cJ, 3784, .inr (.inl nw))), (n3, .inl (cI, 8192, .inl ns2_46)), (hm, .inr (3, [.ref hb, .int (na (Int32.toNatClampNeg a)), .int mo2_10, .int mu2_10, .int mg2_10, .int mt2_10, .int mb2_10])), (hb, .inr (0, [.ref b0, .ref b1, .ref b2, .ref b3, .ref b4, .ref b5, .ref b6, .int wc, .int la, .int br])), (b0, .inl (cI, 4, .inl pa)), (b1, .inl (cI, 16, .inl mi)), (b2, .inl (cI, 4, .inl ga)), (b3, .inl (cI, 4, .inl te)), (b4, .inl (cI, 4, .inl kn)), (b5, .inl (cI, 6, .inl wa)), (b6, .inl (cI, 16, .inl ne))] [(2, .int x2_15), (0, .ref hn), (1, .int a)] [.int r_46, .int ((a * 4) + x2_15), .ref n1] 49 0 0
          have y9 : ccP pa ga te ne la nt nd (fn0_15 a.toInt.toNat) (nI x2_15.toInt.toNat) := by rw [i_15.2.2.2, ← s9]; exact cc9.mp (h_31.t (by omega))
          have a9 : afF pa la (na (Int32.toNatClampNeg a)) mo2_10 x2_15 = nxN pa ga te la (fn0_15 a.toInt.toNat) (nI x2_15.toInt.toNat) := by rw [i_15.2.2.2, ← s9, m9.1]; rfl
          have g9 := i_15.2.2.1.come hsb hse (by omega) (by omega) (by omega) y9 a9 h_46.2.2
          refine x_goto C 54 dX4_expand_49 (by decide) ?_
          have : (4 : Int32).toInt = 4 := by decide
          have := i_mulr (x := a) (y := 4) (d := 4) (by decide) (by omega) (by omega)
          have := i_add (x := (a * 4)) (y := x2_15) (by omega) (by omega)
          have v_54 : vp_in ((a * 4) + x2_15) 15136 := (vp_in_iff.mpr (by omega))
          refine x_iast C 2 0 [(hn, .inr (4, [.ref hb, .ref hm, .ref n0, .ref n1, .ref n2, .ref n3, .int nr, .int nz2_46, .int nt, .int nd])), (n0, .inl (cI, 3784, .inl na2_46)), (n1, .inl (cI, 15136, .inl (upd fn1_15 (Int32.toNatClampNeg ((a * 4) + x2_15)) r_46))), (n2, .inl (cJ, 3784, .inr (.inl nw))), (n3, .inl (cI, 8192, .inl ns2_46)), (hm, .inr (3, [.ref hb, .int (na (Int32.toNatClampNeg a)), .int mo2_10, .int mu2_10, .int mg2_10, .int mt2_10, .int mb2_10])), (hb, .inr (0, [.ref b0, .ref b1, .ref b2, .ref b3, .ref b4, .ref b5, .ref b6, .int wc, .int la, .int br])), (b0, .inl (cI, 4, .inl pa)), (b1, .inl (cI, 16, .inl mi)), (b2, .inl (cI, 4, .inl ga)), (b3, .inl (cI, 4, .inl te)), (b4, .inl (cI, 4, .inl kn)), (b5, .inl (cI, 6, .inl wa)), (b6, .inl (cI, 16, .inl ne))] dX4_expand_54 hT.1 rfl v_54 rfl ?_
          refine x_iinc C 0 (x2_15 + 1) [(2, .int (x2_15 + 1)), (0, .ref hn), (1, .int a)] dX4_expand_55 rfl rfl (by decide) rfl ?_
          refine x_goto C 15 dX4_expand_58 (by decide) ?_
          have : (1 : Int32).toInt = 1 := by decide
          have := i_add (x := x2_15) (y := 1) (by omega) (by omega)
          exact ih_15 (x2_15 + 1) nz2_46 na2_46 (upd fn1_15 (Int32.toNatClampNeg ((a * 4) + x2_15)) r_46) ns2_46 ⟨⟨by omega, h_46.1, by have := g9.2.2; omega⟩, h_46.2.1, by rw [show Int32.toNatClampNeg (a * 4 + x2_15) = 4 * a.toInt.toNat + x2_15.toInt.toNat from k9, show (x2_15 + 1).toInt.toNat = x2_15.toInt.toNat + 1 by omega]; exact g9.1, g9.2.1.trans i_15.2.2.2⟩ (by omega)
  have : (0 : Int32).toInt = 0 := by decide
  exact L_15 _ 0 nz na nx ns ⟨⟨by omega, by omega, by omega⟩, hti, by rw [t0_]; exact hgi, rfl⟩ (Nat.lt_succ_self _)
abbrev rm_X4_gather : Room := { frames := 5, cells := 0, slots := 0, locals := 110 }
set_option maxHeartbeats 4000000 in
set_option maxRecDepth 100000 in
theorem c_X4_gather (l : Launch) (D : va_G) (tys : List (ClassId × FieldType)) {cI cJ cZ cB : ClassId} (hT : Ty tys cI cJ cZ cB) (hn n0 n1 n2 n3 : Nat) (na nx ns : Nat → Int32) (nw : Nat → Int64) (nr nz nt nd : Int32) (hm : Nat) (mn mo mu mg mt mb : Int32) (hb b0 b1 b2 b3 b4 b5 b6 : Nat) (pa mi ga te kn wa ne : Nat → Int32) (wc la br : Int32) (gf gp gt : Nat → Int32) (gw : Int32) (a b : Int32) (hz : 0 ≤ nz.toInt ∧ nz.toInt ≤ 3784) (htr : HTR ns nr) (hgr : nt.toInt = 0 ∨ GRF pa ga te ne la nt nd na nx nz.toInt.toNat) (hse : 1 ≤ a.toInt ∧ a.toInt < 16) (hsb : SB pa ga te ne pa ga te gf gp gt la gw) (hpa : POk pa) : Cn l D tys yX4_gather cX4_gather 4 none rm_X4_gather [(hn, .inr (4, [.ref hb, .ref hm, .ref n0, .ref n1, .ref n2, .ref n3, .int nr, .int nz, .int nt, .int nd])), (n0, .inl (cI, 3784, .inl na)), (n1, .inl (cI, 15136, .inl nx)), (n2, .inl (cJ, 3784, .inr (.inl nw))), (n3, .inl (cI, 8192, .inl ns)), (hm, .inr (3, [.ref hb, .int mn, .int mo, .int mu, .int mg, .int mt, .int mb])), (hb, .inr (0, [.ref b0, .ref b1, .ref b2, .ref b3, .ref b4, .ref b5, .ref b6, .int wc, .int la, .int br])), (b0, .inl (cI, 4, .inl pa)), (b1, .inl (cI, 16, .inl mi)), (b2, .inl (cI, 4, .inl ga)), (b3, .inl (cI, 4, .inl te)), (b4, .inl (cI, 4, .inl kn)), (b5, .inl (cI, 6, .inl wa)), (b6, .inl (cI, 16, .inl ne))] [.ref hn, .int a, .int b] (fun v W1 => ∃ (nr2 nz2 nt2 nd2 mn2 mo2 mu2 mg2 mt2 mb2 : Int32) (na2 nx2 ns2 : Nat → Int32), v = none ∧ W1 = [(hn, .inr (4, [.ref hb, .ref hm, .ref n0, .ref n1, .ref n2, .ref n3, .int nr2, .int nz2, .int nt2, .int nd2])), (n0, .inl (cI, 3784, .inl na2)), (n1, .inl (cI, 15136, .inl nx2)), (n2, .inl (cJ, 3784, .inr (.inl nw))), (n3, .inl (cI, 8192, .inl ns2)), (hm, .inr (3, [.ref hb, .int mn2, .int mo2, .int mu2, .int mg2, .int mt2, .int mb2])), (hb, .inr (0, [.ref b0, .ref b1, .ref b2, .ref b3, .ref b4, .ref b5, .ref b6, .int wc, .int la, .int br])), (b0, .inl (cI, 4, .inl pa)), (b1, .inl (cI, 16, .inl mi)), (b2, .inl (cI, 4, .inl ga)), (b3, .inl (cI, 4, .inl te)), (b4, .inl (cI, 4, .inl kn)), (b5, .inl (cI, 6, .inl wa)), (b6, .inl (cI, 16, .inl ne))] ∧ ((0 ≤ nz2.toInt ∧ nz2.toInt ≤ 3784) ∧ (HTR ns2 nr2 ∧ nt2 = a ∧ nd2 = b) ∧ GRF pa ga te ne la a b na2 nx2 nz2.toInt.toNat)) := by
  refine Cn.of (by decide) (Nat.le_of_ble_eq_true rfl) ?_ ?_ (fun X eL eD eT eO eK eN eM C => ?_)
  · intro h; cases h
  · intro v ws h; obtain ⟨_, _, _, _, _, _, _, _, _, _, _, _, _, rfl, rfl, _⟩ := h; rfl
  subst eL eD eT
  show V X 4 [(hn, .inr (4, [.ref hb, .ref hm, .ref n0, .ref n1, .ref n2, .ref n3, .int nr, .int nz, .int nt, .int nd])), (n0, .inl (cI, 3784, .inl na)), (n1, .inl (cI, 15136, .inl nx)), (n2, .inl (cJ, 3784, .inr (.inl nw))), (n3, .inl (cI, 8192, .inl ns)), (hm, .inr (3, [.ref hb, .int mn, .int mo, .int mu, .int mg, .int mt, .int mb])), (hb, .inr (0, [.ref b0, .ref b1, .ref b2, .ref b3, .ref b4, .ref b5, .ref b6, .int wc, .int la, .int br])), (b0, .inl (cI, 4, .inl pa)), (b1, .inl (cI, 16, .inl mi)), (b2, .inl (cI, 4, .inl ga)), (b3, .inl (cI, 4, .inl te)), (b4, .inl (cI, 4, .inl kn)), (b5, .inl (cI, 6, .inl wa)), (b6, .inl (cI, 16, .inl ne))] [(0, .ref hn), (1, .int a), (2, .int b)] [] 0 0 0
  refine x_aload_n C 0 dX4_gather_0 rfl rfl ?_
  refine x_get C 0 8 dX4_gather_1 inlX4 rfl (by decide) wd_255 rfl rfl rfl ?_
  refine x_iload_n C 1 dX4_gather_4 rfl rfl ?_
  refine x_icmp_ne C 17 dX4_gather_5 (by decide) (fun c_5 => ?_) (fun c_5 => ?_)
  · skip
    have e_5 : ¬ ((nt : Int32).toInt = (a : Int32).toInt) := fun h => c_5 (i_eq.mpr h)
    refine x_aload_n C 0 dX4_gather_17 rfl rfl ?_
    refine x_iload_n C 1 dX4_gather_18 rfl rfl ?_
    refine x_put C 0 8 (ty := .int) [(hn, .inr (4, [.ref hb, .ref hm, .ref n0, .ref n1, .ref n2, .ref n3, .int nr, .int nz, .int a, .int nd])), (n0, .inl (cI, 3784, .inl na)), (n1, .inl (cI, 15136, .inl nx)), (n2, .inl (cJ, 3784, .inr (.inl nw))), (n3, .inl (cI, 8192, .inl ns)), (hm, .inr (3, [.ref hb, .int mn, .int mo, .int mu, .int mg, .int mt, .int mb])), (hb, .inr (0, [.ref b0, .ref b1, .ref b2, .ref b3, .ref b4, .ref b5, .ref b6, .int wc, .int la, .int br])), (b0, .inl (cI, 4, .inl pa)), (b1, .inl (cI, 16, .inl mi)), (b2, .inl (cI, 4, .inl ga)), (b3, .inl (cI, 4, .inl te)), (b4, .inl (cI, 4, .inl kn)), (b5, .inl (cI, 6, .inl wa)), (b6, .inl (cI, 16, .inl ne))] dX4_gather_19 inlX4 tyX4 tyX4_ok nmX4 rfl (by decide) wd_255 rfl rfl rfl rfl rfl rfl (Nat.le_of_ble_eq_true rfl) rfl ?_
    refine x_aload_n C 0 dX4_gather_22 rfl rfl ?_
    refine x_iload_n C 2 dX4_gather_23 rfl rfl ?_
    refine x_put C 0 9 (ty := .int) [(hn, .inr (4, [.ref hb, .ref hm, .ref n0, .ref n1, .ref n2, .ref n3, .int nr, .int nz, .int a, .int b])), (n0, .inl (cI, 3784, .inl na)), (n1, .inl (cI, 15136, .inl nx)), (n2, .inl (cJ, 3784, .inr (.inl nw))), (n3, .inl (cI, 8192, .inl ns)), (hm, .inr (3, [.ref hb, .int mn, .int mo, .int mu, .int mg, .int mt, .int mb])), (hb, .inr (0, [.ref b0, .ref b1, .ref b2, .ref b3, .ref b4, .ref b5, .ref b6, .int wc, .int la, .int br])), (b0, .inl (cI, 4, .inl pa)), (b1, .inl (cI, 16, .inl mi)), (b2, .inl (cI, 4, .inl ga)), (b3, .inl (cI, 4, .inl te)), (b4, .inl (cI, 4, .inl kn)), (b5, .inl (cI, 6, .inl wa)), (b6, .inl (cI, 16, .inl ne))] dX4_gather_24 inlX4 tyX4 tyX4_ok nmX4 rfl (by decide) wd_513 rfl rfl rfl rfl rfl rfl (Nat.le_of_ble_eq_true rfl) rfl ?_
    refine x_aload_n C 0 dX4_gather_27 rfl rfl ?_
    refine x_callV C [] [] [0, 1, 2, 3, 4, 5, 6, 7, 8, 9, 10, 11, 12, 13] [] (q0 := 0) (c_X4_beginRound (xl X) (xD X) (xt X) hT hn n0 n1 n2 n3 na nx ns nw nr nz a b hm mn mo mu mg mt mb hb b0 b1 b2 b3 b4 b5 b6 pa mi ga te kn wa ne wc la br htr) dX4_gather_28 wd_515 wd_516 wd_517 wd_28 wd_518 (np := 0) ⟨by decide, by decide, by decide +kernel⟩ rfl rfl (Nat.le_of_ble_eq_true rfl) (by decide) rfl rfl rfl rfl (by decide) rfl (by decide) (by decide) (fun v W1 h => ?_)
    obtain ⟨nr2_28, ns2_28, rfl, rfl, h_28⟩ := h
    show V X 4 [(hn, .inr (4, [.ref hb, .ref hm, .ref n0, .ref n1, .ref n2, .ref n3, .int nr2_28, .int 0, .int a, .int b])), (n0, .inl (cI, 3784, .inl na)), (n1, .inl (cI, 15136, .inl nx)), (n2, .inl (cJ, 3784, .inr (.inl nw))), (n3, .inl (cI, 8192, .inl ns2_28)), (hm, .inr (3, [.ref hb, .int mn, .int mo, .int mu, .int mg, .int mt, .int mb])), (hb, .inr (0, [.ref b0, .ref b1, .ref b2, .ref b3, .ref b4, .ref b5, .ref b6, .int wc, .int la, .int br])), (b0, .inl (cI, 4, .inl pa)), (b1, .inl (cI, 16, .inl mi)), (b2, .inl (cI, 4, .inl ga)), (b3, .inl (cI, 4, .inl te)), (b4, .inl (cI, 4, .inl kn)), (b5, .inl (cI, 6, .inl wa)), (b6, .inl (cI, 16, .inl ne))] [(0, .ref hn), (1, .int a), (2, .int b)] [] 31 0 0
    refine x_aload_n C 0 dX4_gather_31 rfl rfl ?_
    refine x_iconst C 0 dX4_gather_32 (by decide) ?_
    have : (0 : Int32).toInt = 0 := by decide
    refine x_callV C [.int 0] [] [0, 1, 2, 3, 4, 5, 6, 7, 8, 9, 10, 11, 12, 13] [] (q0 := 0) (c_X4_nodeOf (xl X) (xD X) (xt X) hT hn n0 n1 n2 n3 na nx ns2_28 nw nr2_28 0 a b hm mn mo mu mg mt mb hb b0 b1 b2 b3 b4 b5 b6 pa mi ga te kn wa ne wc la br 0 (by omega) (by rw [t0_]; exact h_28)) dX4_gather_33 wd_521 wd_522 wd_523 wd_28 wd_524 (np := 1) ⟨by decide, by decide, by decide +kernel⟩ rfl rfl (Nat.le_of_ble_eq_true rfl) (by decide) rfl rfl rfl rfl (by decide) rfl (by decide) (by decide) (fun v W1 h => ?_)
    obtain ⟨r_33, nz2_33, na2_33, ns2_33, rfl, rfl, h_33⟩ := h
    have : (0 : Int32).toInt = 0 := by decide
    show V X 4 [(hn, .inr (4, [.ref hb, .ref hm, .ref n0, .ref n1, .ref n2, .ref n3, .int nr2_28, .int nz2_33, .int a, .int b])), (n0, .inl (cI, 3784, .inl na2_33)), (n1, .inl (cI, 15136, .inl nx)), (n2, .inl (cJ, 3784, .inr (.inl nw))), (n3, .inl (cI, 8192, .inl ns2_33)), (hm, .inr (3, [.ref hb, .int mn, .int mo, .int mu, .int mg, .int mt, .int mb])), (hb, .inr (0, [.ref b0, .ref b1, .ref b2, .ref b3, .ref b4, .ref b5, .ref b6, .int wc, .int la, .int br])), (b0, .inl (cI, 4, .inl pa)), (b1, .inl (cI, 16, .inl mi)), (b2, .inl (cI, 4, .inl ga)), (b3, .inl (cI, 4, .inl te)), (b4, .inl (cI, 4, .inl kn)), (b5, .inl (cI, 6, .inl wa)), (b6, .inl (cI, 16, .inl ne))] [(0, .ref hn), (1, .int a), (2, .int b)] [.int r_33] 36 0 0
    have z9 : GRI pa ga te ne la a b na2_33 nx nz2_33.toInt.toNat 0 0 := by
      rcases h_33.2.2 with ⟨i9, q9, _⟩ | ⟨_, ⟨q9, _⟩ | ⟨_, _, q1, q2⟩⟩
      · exfalso; rw [t0_] at q9; omega
      · exfalso; rw [t0_] at q9; omega
      · have e1 : nz2_33.toInt.toNat = 1 := by rw [q1]; rfl
        rw [e1]; exact GRI.z hpa (by rw [q2]; rfl)
    refine x_pop C dX4_gather_36 rfl ?_
    refine x_iconst C 0 dX4_gather_37 (by decide) ?_
    refine x_istore_n C [(3, .int 0), (0, .ref hn), (1, .int a), (2, .int b)] dX4_gather_38 rfl (by decide) rfl ?_
    have L_39 : ∀ (n_39 : Nat) (x3_39 : Int32) (ghn7_39 : Int32) (fn0_39 : Nat → Int32) (fn1_39 : Nat → Int32) (fn3_39 : Nat → Int32) (ghm1_39 : Int32) (ghm2_39 : Int32) (ghm3_39 : Int32) (ghm4_39 : Int32) (ghm5_39 : Int32) (ghm6_39 : Int32), (((0 ≤ x3_39.toInt ∧ x3_39.toInt ≤ 3784) ∧ (0 ≤ ghn7_39.toInt ∧ ghn7_39.toInt ≤ 3784) ∧ x3_39.toInt ≤ ghn7_39.toInt) ∧ HTI fn3_39 nr2_28 fn0_39 ghn7_39.toInt.toNat ∧ GRI pa ga te ne la a b fn0_39 fn1_39 ghn7_39.toInt.toNat x3_39.toInt.toNat 0) → ((3784 - x3_39.toInt).toNat < n_39) → V X 4 [(hn, .inr (4, [.ref hb, .ref hm, .ref n0, .ref n1, .ref n2, .ref n3, .int nr2_28, .int ghn7_39, .int a, .int b])), (n0, .inl (cI, 3784, .inl fn0_39)), (n1, .inl (cI, 15136, .inl fn1_39)), (n2, .inl (cJ, 3784, .inr (.inl nw))), (n3, .inl (cI, 8192, .inl fn3_39)), (hm, .inr (3, [.ref hb, .int ghm1_39, .int ghm2_39, .int ghm3_39, .int ghm4_39, .int ghm5_39, .int ghm6_39])), (hb, .inr (0, [.ref b0, .ref b1, .ref b2, .ref b3, .ref b4, .ref b5, .ref b6, .int wc, .int la, .int br])), (b0, .inl (cI, 4, .inl pa)), (b1, .inl (cI, 16, .inl mi)), (b2, .inl (cI, 4, .inl ga)), (b3, .inl (cI, 4, .inl te)), (b4, .inl (cI, 4, .inl kn)), (b5, .inl (cI, 6, .inl wa)), (b6, .inl (cI, 16, .inl ne))] [(3, .int x3_39), (0, .ref hn), (1, .int a), (2, .int b)] [] 39 0 0 := by
      intro n_39
      induction n_39 with
      | zero =>
        intro x3_39 ghn7_39 fn0_39 fn1_39 fn3_39 ghm1_39 ghm2_39 ghm3_39 ghm4_39 ghm5_39 ghm6_39 i_39 m_39
        exact absurd m_39 (Nat.not_lt_zero _)
      | succ n_39 ih_39 =>
        intro x3_39 ghn7_39 fn0_39 fn1_39 fn3_39 ghm1_39 ghm2_39 ghm3_39 ghm4_39 ghm5_39 ghm6_39 i_39 m_39
        refine x_iload_n C 0 dX4_gather_39 rfl rfl ?_
        refine x_aload_n C 1 dX4_gather_40 rfl rfl ?_
        refine x_get C 0 7 dX4_gather_41 inlX4 rfl (by decide) wd_514 rfl rfl rfl ?_
        refine x_icmp_ge C 65 dX4_gather_44 (by decide) (fun c_44 => ?_) (fun c_44 => ?_)
        · skip
          have e_44 : (ghn7_39 : Int32).toInt ≤ (x3_39 : Int32).toInt := i_le.mp c_44
          exact x_vret C dX4_gather_65 (Nat.zero_le _) (Nat.zero_le _) (by rw [eO]; exact ⟨nr2_28, ghn7_39, a, b, ghm1_39, ghm2_39, ghm3_39, ghm4_39, ghm5_39, ghm6_39, fn0_39, fn1_39, fn3_39, rfl, rfl, ⟨by omega, ⟨i_39.2.1.1.2, rfl, rfl⟩, i_39.2.2.out (by omega)⟩⟩)
        · skip
          have e_44 : ¬ ((ghn7_39 : Int32).toInt ≤ (x3_39 : Int32).toInt) := fun h => c_44 (i_le.mpr h)
          refine x_iload_n C 0 dX4_gather_47 rfl rfl ?_
          refine x_sipush C 3784 dX4_gather_48 (by decide) ?_
          refine x_icmp_ge C 65 dX4_gather_51 (by decide) (fun c_51 => ?_) (fun c_51 => ?_)
          · skip
            have e_51 : (3784 : Int32).toInt ≤ (x3_39 : Int32).toInt := i_le.mp c_51
            have : (3784 : Int32).toInt = 3784 := by decide
            exact x_vret C dX4_gather_65 (Nat.zero_le _) (Nat.zero_le _) (by rw [eO]; exact ⟨nr2_28, ghn7_39, a, b, ghm1_39, ghm2_39, ghm3_39, ghm4_39, ghm5_39, ghm6_39, fn0_39, fn1_39, fn3_39, rfl, rfl, ⟨by omega, ⟨i_39.2.1.1.2, rfl, rfl⟩, i_39.2.2.out (by omega)⟩⟩)
          · skip
            have e_51 : ¬ ((3784 : Int32).toInt ≤ (x3_39 : Int32).toInt) := fun h => c_51 (i_le.mpr h)
            have : (3784 : Int32).toInt = 3784 := by decide
            refine x_aload_n C 1 dX4_gather_54 rfl rfl ?_
            refine x_iload_n C 0 dX4_gather_55 rfl rfl ?_
            refine x_callV C [.int x3_39] [] [0, 1, 2, 3, 4, 5, 6, 7, 8, 9, 10, 11, 12, 13] [] (q0 := 0) (c_X4_expand (xl X) (xD X) (xt X) hT hn n0 n1 n2 n3 fn0_39 fn1_39 fn3_39 nw nr2_28 ghn7_39 a b hm ghm1_39 ghm2_39 ghm3_39 ghm4_39 ghm5_39 ghm6_39 hb b0 b1 b2 b3 b4 b5 b6 pa mi ga te kn wa ne wc la br gf gp gt gw x3_39 (by omega) (by omega) i_39.2.1 i_39.2.2 (by omega) hsb) dX4_gather_56 wd_530 wd_531 wd_532 wd_28 wd_533 (np := 1) ⟨by decide, by decide, by decide +kernel⟩ rfl rfl (Nat.le_of_ble_eq_true rfl) (by decide) rfl rfl rfl rfl (by decide) rfl (by decide) (by decide) (fun v W1 h => ?_)
            obtain ⟨nz2_56, mn2_56, mo2_56, mu2_56, mg2_56, mt2_56, mb2_56, na2_56, nx2_56, ns2_56, rfl, rfl, h_56⟩ := h
            show V X 4 [(hn, .inr (4, [.ref hb, .ref hm, .ref n0, .ref n1, .ref n2, .ref n3, .int nr2_28, .int nz2_56, .int a, .int b])), (n0, .inl (cI, 3784, .inl na2_56)), (n1, .inl (cI, 15136, .inl nx2_56)), (n2, .inl (cJ, 3784, .inr (.inl nw))), (n3, .inl (cI, 8192, .inl ns2_56)), (hm, .inr (3, [.ref hb, .int mn2_56, .int mo2_56, .int mu2_56, .int mg2_56, .int mt2_56, .int mb2_56])), (hb, .inr (0, [.ref b0, .ref b1, .ref b2, .ref b3, .ref b4, .ref b5, .ref b6, .int wc, .int la, .int br])), (b0, .inl (cI, 4, .inl pa)), (b1, .inl (cI, 16, .inl mi)), (b2, .inl (cI, 4, .inl ga)), (b3, .inl (cI, 4, .inl te)), (b4, .inl (cI, 4, .inl kn)), (b5, .inl (cI, 6, .inl wa)), (b6, .inl (cI, 16, .inl ne))] [(3, .int x3_39), (0, .ref hn), (1, .int a), (2, .int b)] [] 59 0 0
            refine x_iinc C 0 (x3_39 + 1) [(3, .int (x3_39 + 1)), (0, .ref hn), (1, .int a), (2, .int b)] dX4_gather_59 rfl rfl (by decide) rfl ?_
            refine x_goto C 39 dX4_gather_62 (by decide) ?_
            have : (1 : Int32).toInt = 1 := by decide
            have := i_add (x := x3_39) (y := 1) (by omega) (by omega)
            exact ih_39 (x3_39 + 1) nz2_56 na2_56 nx2_56 ns2_56 mn2_56 mo2_56 mu2_56 mg2_56 mt2_56 mb2_56 ⟨⟨by omega, by omega, by omega⟩, h_56.2.1, by rw [show (x3_39 + 1).toInt.toNat = x3_39.toInt.toNat + 1 by omega]; exact h_56.2.2.next (by omega)⟩ (by omega)
    have : (0 : Int32).toInt = 0 := by decide
    exact L_39 _ 0 nz2_33 na2_33 nx ns2_33 mn mo mu mg mt mb ⟨⟨by omega, by omega, by omega⟩, h_33.2.1, by rw [t0_]; exact z9⟩ (Nat.lt_succ_self _)
  · skip
    have e_5 : (nt : Int32).toInt = (a : Int32).toInt := i_eq.mp c_5
    refine x_aload_n C 0 dX4_gather_8 rfl rfl ?_
    refine x_get C 0 9 dX4_gather_9 inlX4 rfl (by decide) wd_513 rfl rfl rfl ?_
    refine x_iload_n C 2 dX4_gather_12 rfl rfl ?_
    refine x_icmp_ne C 17 dX4_gather_13 (by decide) (fun c_13 => ?_) (fun c_13 => ?_)
    · skip
      have e_13 : ¬ ((nd : Int32).toInt = (b : Int32).toInt) := fun h => c_13 (i_eq.mpr h)
      refine x_aload_n C 0 dX4_gather_17 rfl rfl ?_
      refine x_iload_n C 1 dX4_gather_18 rfl rfl ?_
      refine x_put C 0 8 (ty := .int) [(hn, .inr (4, [.ref hb, .ref hm, .ref n0, .ref n1, .ref n2, .ref n3, .int nr, .int nz, .int a, .int nd])), (n0, .inl (cI, 3784, .inl na)), (n1, .inl (cI, 15136, .inl nx)), (n2, .inl (cJ, 3784, .inr (.inl nw))), (n3, .inl (cI, 8192, .inl ns)), (hm, .inr (3, [.ref hb, .int mn, .int mo, .int mu, .int mg, .int mt, .int mb])), (hb, .inr (0, [.ref b0, .ref b1, .ref b2, .ref b3, .ref b4, .ref b5, .ref b6, .int wc, .int la, .int br])), (b0, .inl (cI, 4, .inl pa)), (b1, .inl (cI, 16, .inl mi)), (b2, .inl (cI, 4, .inl ga)), (b3, .inl (cI, 4, .inl te)), (b4, .inl (cI, 4, .inl kn)), (b5, .inl (cI, 6, .inl wa)), (b6, .inl (cI, 16, .inl ne))] dX4_gather_19 inlX4 tyX4 tyX4_ok nmX4 rfl (by decide) wd_255 rfl rfl rfl rfl rfl rfl (Nat.le_of_ble_eq_true rfl) rfl ?_
      refine x_aload_n C 0 dX4_gather_22 rfl rfl ?_
      refine x_iload_n C 2 dX4_gather_23 rfl rfl ?_
      refine x_put C 0 9 (ty := .int) [(hn, .inr (4, [.ref hb, .ref hm, .ref n0, .ref n1, .ref n2, .ref n3, .int nr, .int nz, .int a, .int b])), (n0, .inl (cI, 3784, .inl na)), (n1, .inl (cI, 15136, .inl nx)), (n2, .inl (cJ, 3784, .inr (.inl nw))), (n3, .inl (cI, 8192, .inl ns)), (hm, .inr (3, [.ref hb, .int mn, .int mo, .int mu, .int mg, .int mt, .int mb])), (hb, .inr (0, [.ref b0, .ref b1, .ref b2, .ref b3, .ref b4, .ref b5, .ref b6, .int wc, .int la, .int br])), (b0, .inl (cI, 4, .inl pa)), (b1, .inl (cI, 16, .inl mi)), (b2, .inl (cI, 4, .inl ga)), (b3, .inl (cI, 4, .inl te)), (b4, .inl (cI, 4, .inl kn)), (b5, .inl (cI, 6, .inl wa)), (b6, .inl (cI, 16, .inl ne))] dX4_gather_24 inlX4 tyX4 tyX4_ok nmX4 rfl (by decide) wd_513 rfl rfl rfl rfl rfl rfl (Nat.le_of_ble_eq_true rfl) rfl ?_
      refine x_aload_n C 0 dX4_gather_27 rfl rfl ?_
      refine x_callV C [] [] [0, 1, 2, 3, 4, 5, 6, 7, 8, 9, 10, 11, 12, 13] [] (q0 := 0) (c_X4_beginRound (xl X) (xD X) (xt X) hT hn n0 n1 n2 n3 na nx ns nw nr nz a b hm mn mo mu mg mt mb hb b0 b1 b2 b3 b4 b5 b6 pa mi ga te kn wa ne wc la br htr) dX4_gather_28 wd_515 wd_516 wd_517 wd_28 wd_518 (np := 0) ⟨by decide, by decide, by decide +kernel⟩ rfl rfl (Nat.le_of_ble_eq_true rfl) (by decide) rfl rfl rfl rfl (by decide) rfl (by decide) (by decide) (fun v W1 h => ?_)
      obtain ⟨nr2_28, ns2_28, rfl, rfl, h_28⟩ := h
      show V X 4 [(hn, .inr (4, [.ref hb, .ref hm, .ref n0, .ref n1, .ref n2, .ref n3, .int nr2_28, .int 0, .int a, .int b])), (n0, .inl (cI, 3784, .inl na)), (n1, .inl (cI, 15136, .inl nx)), (n2, .inl (cJ, 3784, .inr (.inl nw))), (n3, .inl (cI, 8192, .inl ns2_28)), (hm, .inr (3, [.ref hb, .int mn, .int mo, .int mu, .int mg, .int mt, .int mb])), (hb, .inr (0, [.ref b0, .ref b1, .ref b2, .ref b3, .ref b4, .ref b5, .ref b6, .int wc, .int la, .int br])), (b0, .inl (cI, 4, .inl pa)), (b1, .inl (cI, 16, .inl mi)), (b2, .inl (cI, 4, .inl ga)), (b3, .inl (cI, 4, .inl te)), (b4, .inl (cI, 4, .inl kn)), (b5, .inl (cI, 6, .inl wa)), (b6, .inl (cI, 16, .inl ne))] [(0, .ref hn), (1, .int a), (2, .int b)] [] 31 0 0
      refine x_aload_n C 0 dX4_gather_31 rfl rfl ?_
      refine x_iconst C 0 dX4_gather_32 (by decide) ?_
      have : (0 : Int32).toInt = 0 := by decide
      refine x_callV C [.int 0] [] [0, 1, 2, 3, 4, 5, 6, 7, 8, 9, 10, 11, 12, 13] [] (q0 := 0) (c_X4_nodeOf (xl X) (xD X) (xt X) hT hn n0 n1 n2 n3 na nx ns2_28 nw nr2_28 0 a b hm mn mo mu mg mt mb hb b0 b1 b2 b3 b4 b5 b6 pa mi ga te kn wa ne wc la br 0 (by omega) (by rw [t0_]; exact h_28)) dX4_gather_33 wd_521 wd_522 wd_523 wd_28 wd_524 (np := 1) ⟨by decide, by decide, by decide +kernel⟩ rfl rfl (Nat.le_of_ble_eq_true rfl) (by decide) rfl rfl rfl rfl (by decide) rfl (by decide) (by decide) (fun v W1 h => ?_)
      obtain ⟨r_33, nz2_33, na2_33, ns2_33, rfl, rfl, h_33⟩ := h
      have : (0 : Int32).toInt = 0 := by decide
      show V X 4 [(hn, .inr (4, [.ref hb, .ref hm, .ref n0, .ref n1, .ref n2, .ref n3, .int nr2_28, .int nz2_33, .int a, .int b])), (n0, .inl (cI, 3784, .inl na2_33)), (n1, .inl (cI, 15136, .inl nx)), (n2, .inl (cJ, 3784, .inr (.inl nw))), (n3, .inl (cI, 8192, .inl ns2_33)), (hm, .inr (3, [.ref hb, .int mn, .int mo, .int mu, .int mg, .int mt, .int mb])), (hb, .inr (0, [.ref b0, .ref b1, .ref b2, .ref b3, .ref b4, .ref b5, .ref b6, .int wc, .int la, .int br])), (b0, .inl (cI, 4, .inl pa)), (b1, .inl (cI, 16, .inl mi)), (b2, .inl (cI, 4, .inl ga)), (b3, .inl (cI, 4, .inl te)), (b4, .inl (cI, 4, .inl kn)), (b5, .inl (cI, 6, .inl wa)), (b6, .inl (cI, 16, .inl ne))] [(0, .ref hn), (1, .int a), (2, .int b)] [.int r_33] 36 0 0
      have z9 : GRI pa ga te ne la a b na2_33 nx nz2_33.toInt.toNat 0 0 := by
        rcases h_33.2.2 with ⟨i9, q9, _⟩ | ⟨_, ⟨q9, _⟩ | ⟨_, _, q1, q2⟩⟩
        · exfalso; rw [t0_] at q9; omega
        · exfalso; rw [t0_] at q9; omega
        · have e1 : nz2_33.toInt.toNat = 1 := by rw [q1]; rfl
          rw [e1]; exact GRI.z hpa (by rw [q2]; rfl)
      refine x_pop C dX4_gather_36 rfl ?_
      refine x_iconst C 0 dX4_gather_37 (by decide) ?_
      refine x_istore_n C [(3, .int 0), (0, .ref hn), (1, .int a), (2, .int b)] dX4_gather_38 rfl (by decide) rfl ?_
      have L_39 : ∀ (n_39 : Nat) (x3_39 : Int32) (ghn7_39 : Int32) (fn0_39 : Nat → Int32) (fn1_39 : Nat → Int32) (fn3_39 : Nat → Int32) (ghm1_39 : Int32) (ghm2_39 : Int32) (ghm3_39 : Int32) (ghm4_39 : Int32) (ghm5_39 : Int32) (ghm6_39 : Int32), (((0 ≤ x3_39.toInt ∧ x3_39.toInt ≤ 3784) ∧ (0 ≤ ghn7_39.toInt ∧ ghn7_39.toInt ≤ 3784) ∧ x3_39.toInt ≤ ghn7_39.toInt) ∧ HTI fn3_39 nr2_28 fn0_39 ghn7_39.toInt.toNat ∧ GRI pa ga te ne la a b fn0_39 fn1_39 ghn7_39.toInt.toNat x3_39.toInt.toNat 0) → ((3784 - x3_39.toInt).toNat < n_39) → V X 4 [(hn, .inr (4, [.ref hb, .ref hm, .ref n0, .ref n1, .ref n2, .ref n3, .int nr2_28, .int ghn7_39, .int a, .int b])), (n0, .inl (cI, 3784, .inl fn0_39)), (n1, .inl (cI, 15136, .inl fn1_39)), (n2, .inl (cJ, 3784, .inr (.inl nw))), (n3, .inl (cI, 8192, .inl fn3_39)), (hm, .inr (3, [.ref hb, .int ghm1_39, .int ghm2_39, .int ghm3_39, .int ghm4_39, .int ghm5_39, .int ghm6_39])), (hb, .inr (0, [.ref b0, .ref b1, .ref b2, .ref b3, .ref b4, .ref b5, .ref b6, .int wc, .int la, .int br])), (b0, .inl (cI, 4, .inl pa)), (b1, .inl (cI, 16, .inl mi)), (b2, .inl (cI, 4, .inl ga)), (b3, .inl (cI, 4, .inl te)), (b4, .inl (cI, 4, .inl kn)), (b5, .inl (cI, 6, .inl wa)), (b6, .inl (cI, 16, .inl ne))] [(3, .int x3_39), (0, .ref hn), (1, .int a), (2, .int b)] [] 39 0 0 := by
        intro n_39
        induction n_39 with
        | zero =>
          intro x3_39 ghn7_39 fn0_39 fn1_39 fn3_39 ghm1_39 ghm2_39 ghm3_39 ghm4_39 ghm5_39 ghm6_39 i_39 m_39
          exact absurd m_39 (Nat.not_lt_zero _)
        | succ n_39 ih_39 =>
          intro x3_39 ghn7_39 fn0_39 fn1_39 fn3_39 ghm1_39 ghm2_39 ghm3_39 ghm4_39 ghm5_39 ghm6_39 i_39 m_39
          refine x_iload_n C 0 dX4_gather_39 rfl rfl ?_
          refine x_aload_n C 1 dX4_gather_40 rfl rfl ?_
          refine x_get C 0 7 dX4_gather_41 inlX4 rfl (by decide) wd_514 rfl rfl rfl ?_
          refine x_icmp_ge C 65 dX4_gather_44 (by decide) (fun c_44 => ?_) (fun c_44 => ?_)
          · skip
            have e_44 : (ghn7_39 : Int32).toInt ≤ (x3_39 : Int32).toInt := i_le.mp c_44
            exact x_vret C dX4_gather_65 (Nat.zero_le _) (Nat.zero_le _) (by rw [eO]; exact ⟨nr2_28, ghn7_39, a, b, ghm1_39, ghm2_39, ghm3_39, ghm4_39, ghm5_39, ghm6_39, fn0_39, fn1_39, fn3_39, rfl, rfl, ⟨by omega, ⟨i_39.2.1.1.2, rfl, rfl⟩, i_39.2.2.out (by omega)⟩⟩)
          · skip
            have e_44 : ¬ ((ghn7_39 : Int32).toInt ≤ (x3_39 : Int32).toInt) := fun h => c_44 (i_le.mpr h)
            refine x_iload_n C 0 dX4_gather_47 rfl rfl ?_
            refine x_sipush C 3784 dX4_gather_48 (by decide) ?_
            refine x_icmp_ge C 65 dX4_gather_51 (by decide) (fun c_51 => ?_) (fun c_51 => ?_)
            · skip
              have e_51 : (3784 : Int32).toInt ≤ (x3_39 : Int32).toInt := i_le.mp c_51
              have : (3784 : Int32).toInt = 3784 := by decide
              exact x_vret C dX4_gather_65 (Nat.zero_le _) (Nat.zero_le _) (by rw [eO]; exact ⟨nr2_28, ghn7_39, a, b, ghm1_39, ghm2_39, ghm3_39, ghm4_39, ghm5_39, ghm6_39, fn0_39, fn1_39, fn3_39, rfl, rfl, ⟨by omega, ⟨i_39.2.1.1.2, rfl, rfl⟩, i_39.2.2.out (by omega)⟩⟩)
            · skip
              have e_51 : ¬ ((3784 : Int32).toInt ≤ (x3_39 : Int32).toInt) := fun h => c_51 (i_le.mpr h)
              have : (3784 : Int32).toInt = 3784 := by decide
              refine x_aload_n C 1 dX4_gather_54 rfl rfl ?_
              refine x_iload_n C 0 dX4_gather_55 rfl rfl ?_
              refine x_callV C [.int x3_39] [] [0, 1, 2, 3, 4, 5, 6, 7, 8, 9, 10, 11, 12, 13] [] (q0 := 0) (c_X4_expand (xl X) (xD X) (xt X) hT hn n0 n1 n2 n3 fn0_39 fn1_39 fn3_39 nw nr2_28 ghn7_39 a b hm ghm1_39 ghm2_39 ghm3_39 ghm4_39 ghm5_39 ghm6_39 hb b0 b1 b2 b3 b4 b5 b6 pa mi ga te kn wa ne wc la br gf gp gt gw x3_39 (by omega) (by omega) i_39.2.1 i_39.2.2 (by omega) hsb) dX4_gather_56 wd_530 wd_531 wd_532 wd_28 wd_533 (np := 1) ⟨by decide, by decide, by decide +kernel⟩ rfl rfl (Nat.le_of_ble_eq_true rfl) (by decide) rfl rfl rfl rfl (by decide) rfl (by decide) (by decide) (fun v W1 h => ?_)
              obtain ⟨nz2_56, mn2_56, mo2_56, mu2_56, mg2_56, mt2_56, mb2_56, na2_56, nx2_56, ns2_56, rfl, rfl, h_56⟩ := h
              show V X 4 [(hn, .inr (4, [.ref hb, .ref hm, .ref n0, .ref n1, .ref n2, .ref n3, .int nr2_28, .int nz2_56, .int a, .int b])), (n0, .inl (cI, 3784, .inl na2_56)), (n1, .inl (cI, 15136, .inl nx2_56)), (n2, .inl (cJ, 3784, .inr (.inl nw))), (n3, .inl (cI, 8192, .inl ns2_56)), (hm, .inr (3, [.ref hb, .int mn2_56, .int mo2_56, .int mu2_56, .int mg2_56, .int mt2_56, .int mb2_56])), (hb, .inr (0, [.ref b0, .ref b1, .ref b2, .ref b3, .ref b4, .ref b5, .ref b6, .int wc, .int la, .int br])), (b0, .inl (cI, 4, .inl pa)), (b1, .inl (cI, 16, .inl mi)), (b2, .inl (cI, 4, .inl ga)), (b3, .inl (cI, 4, .inl te)), (b4, .inl (cI, 4, .inl kn)), (b5, .inl (cI, 6, .inl wa)), (b6, .inl (cI, 16, .inl ne))] [(3, .int x3_39), (0, .ref hn), (1, .int a), (2, .int b)] [] 59 0 0
              refine x_iinc C 0 (x3_39 + 1) [(3, .int (x3_39 + 1)), (0, .ref hn), (1, .int a), (2, .int b)] dX4_gather_59 rfl rfl (by decide) rfl ?_
              refine x_goto C 39 dX4_gather_62 (by decide) ?_
              have : (1 : Int32).toInt = 1 := by decide
              have := i_add (x := x3_39) (y := 1) (by omega) (by omega)
              exact ih_39 (x3_39 + 1) nz2_56 na2_56 nx2_56 ns2_56 mn2_56 mo2_56 mu2_56 mg2_56 mt2_56 mb2_56 ⟨⟨by omega, by omega, by omega⟩, h_56.2.1, by rw [show (x3_39 + 1).toInt.toNat = x3_39.toInt.toNat + 1 by omega]; exact h_56.2.2.next (by omega)⟩ (by omega)
      have : (0 : Int32).toInt = 0 := by decide
      exact L_39 _ 0 nz2_33 na2_33 nx ns2_33 mn mo mu mg mt mb ⟨⟨by omega, by omega, by omega⟩, h_33.2.1, by rw [t0_]; exact z9⟩ (Nat.lt_succ_self _)
    · skip
      have e_13 : (nd : Int32).toInt = (b : Int32).toInt := i_eq.mp c_13
      exact x_vret C dX4_gather_16 (Nat.zero_le _) (Nat.zero_le _) (by rw [eO]; exact ⟨nr, nz, nt, nd, mn, mo, mu, mg, mt, mb, na, nx, ns, rfl, rfl, ⟨hz, ⟨htr, c_5, c_13⟩, by rw [← c_5, ← c_13]; exact hgr.resolve_left (fun h => by rw [c_5] at h; omega)⟩⟩)
abbrev rm_X4_nodeAfter : Room := { frames := 1, cells := 0, slots := 0, locals := 22 }
set_option maxHeartbeats 4000000 in
set_option maxRecDepth 100000 in
theorem c_X4_nodeAfter (l : Launch) (D : va_G) (tys : List (ClassId × FieldType)) {cI cJ cZ cB : ClassId} (hT : Ty tys cI cJ cZ cB) (hn n0 n1 n2 n3 : Nat) (na nx ns : Nat → Int32) (nw : Nat → Int64) (nr nz nt nd : Int32) (hm : Nat) (mn mo mu mg mt mb : Int32) (hb b0 b1 b2 b3 b4 b5 b6 : Nat) (pa mi ga te kn wa ne : Nat → Int32) (wc la br : Int32) (a s : Int32) (hz : 0 ≤ nz.toInt ∧ nz.toInt ≤ 3784) (hnode : 0 ≤ a.toInt ∧ a.toInt < 3784) (hs0 : 0 ≤ s.toInt ∧ s.toInt ≤ 3) : Cn l D tys yX4_nodeAfter cX4_nodeAfter 4 (some .int) rm_X4_nodeAfter [(hn, .inr (4, [.ref hb, .ref hm, .ref n0, .ref n1, .ref n2, .ref n3, .int nr, .int nz, .int nt, .int nd])), (n0, .inl (cI, 3784, .inl na)), (n1, .inl (cI, 15136, .inl nx)), (n2, .inl (cJ, 3784, .inr (.inl nw))), (n3, .inl (cI, 8192, .inl ns)), (hm, .inr (3, [.ref hb, .int mn, .int mo, .int mu, .int mg, .int mt, .int mb])), (hb, .inr (0, [.ref b0, .ref b1, .ref b2, .ref b3, .ref b4, .ref b5, .ref b6, .int wc, .int la, .int br])), (b0, .inl (cI, 4, .inl pa)), (b1, .inl (cI, 16, .inl mi)), (b2, .inl (cI, 4, .inl ga)), (b3, .inl (cI, 4, .inl te)), (b4, .inl (cI, 4, .inl kn)), (b5, .inl (cI, 6, .inl wa)), (b6, .inl (cI, 16, .inl ne))] [.ref hn, .int a, .int s] (fun v W1 => ∃ (r : Int32), v = some (.int r) ∧ W1 = [(hn, .inr (4, [.ref hb, .ref hm, .ref n0, .ref n1, .ref n2, .ref n3, .int nr, .int nz, .int nt, .int nd])), (n0, .inl (cI, 3784, .inl na)), (n1, .inl (cI, 15136, .inl nx)), (n2, .inl (cJ, 3784, .inr (.inl nw))), (n3, .inl (cI, 8192, .inl ns)), (hm, .inr (3, [.ref hb, .int mn, .int mo, .int mu, .int mg, .int mt, .int mb])), (hb, .inr (0, [.ref b0, .ref b1, .ref b2, .ref b3, .ref b4, .ref b5, .ref b6, .int wc, .int la, .int br])), (b0, .inl (cI, 4, .inl pa)), (b1, .inl (cI, 16, .inl mi)), (b2, .inl (cI, 4, .inl ga)), (b3, .inl (cI, 4, .inl te)), (b4, .inl (cI, 4, .inl kn)), (b5, .inl (cI, 6, .inl wa)), (b6, .inl (cI, 16, .inl ne))] ∧ ((r.toInt = -6 ∨ (0 ≤ r.toInt ∧ r.toInt < nz.toInt)) ∧ r = ndA nx nz a s)) := by
  refine Cn.of (by decide) (Nat.le_of_ble_eq_true rfl) ?_ ?_ (fun X eL eD eT eO eK eN eM C => ?_)
  · intro h; cases h
  · intro v ws h; obtain ⟨_, rfl, rfl, _⟩ := h; exact Or.inl rfl
  subst eL eD eT
  show V X 4 [(hn, .inr (4, [.ref hb, .ref hm, .ref n0, .ref n1, .ref n2, .ref n3, .int nr, .int nz, .int nt, .int nd])), (n0, .inl (cI, 3784, .inl na)), (n1, .inl (cI, 15136, .inl nx)), (n2, .inl (cJ, 3784, .inr (.inl nw))), (n3, .inl (cI, 8192, .inl ns)), (hm, .inr (3, [.ref hb, .int mn, .int mo, .int mu, .int mg, .int mt, .int mb])), (hb, .inr (0, [.ref b0, .ref b1, .ref b2, .ref b3, .ref b4, .ref b5, .ref b6, .int wc, .int la, .int br])), (b0, .inl (cI, 4, .inl pa)), (b1, .inl (cI, 16, .inl mi)), (b2, .inl (cI, 4, .inl ga)), (b3, .inl (cI, 4, .inl te)), (b4, .inl (cI, 4, .inl kn)), (b5, .inl (cI, 6, .inl wa)), (b6, .inl (cI, 16, .inl ne))] [(0, .ref hn), (1, .int a), (2, .int s)] [] 0 0 0
  refine x_aload_n C 0 dX4_nodeAfter_0 rfl rfl ?_
  refine x_get C 0 3 dX4_nodeAfter_1 inlX4 rfl (by decide) wd_83 rfl rfl rfl ?_
  refine x_iload_n C 1 dX4_nodeAfter_4 rfl rfl ?_
  refine x_iconst C 4 dX4_nodeAfter_5 (by decide) ?_
  refine x_imul C dX4_nodeAfter_6 ?_
  refine x_iload_n C 2 dX4_nodeAfter_7 rfl rfl ?_
  refine x_iadd C dX4_nodeAfter_8 ?_
  have : (4 : Int32).toInt = 4 := by decide
  have := i_mulr (x := a) (y := 4) (d := 4) (by decide) (by omega) (by omega)
  have := i_add (x := (a * 4)) (y := s) (by omega) (by omega)
  have v_9 : vp_in ((a * 4) + s) 15136 := (vp_in_iff.mpr (by omega))
  refine x_iald C 2 0 dX4_nodeAfter_9 hT.1 rfl v_9 ?_
  refine x_istore_n C [(3, .int (nx (Int32.toNatClampNeg ((a * 4) + s)))), (0, .ref hn), (1, .int a), (2, .int s)] dX4_nodeAfter_10 rfl (by decide) rfl ?_
  refine x_iload_n C 0 dX4_nodeAfter_11 rfl rfl ?_
  refine x_iconst C 0 dX4_nodeAfter_12 (by decide) ?_
  refine x_aload_n C 1 dX4_nodeAfter_13 rfl rfl ?_
  refine x_get C 0 7 dX4_nodeAfter_14 inlX4 rfl (by decide) wd_514 rfl rfl rfl ?_
  refine x_iconst C 1 dX4_nodeAfter_17 (by decide) ?_
  refine x_isub C dX4_nodeAfter_18 ?_
  refine x_callSN C [.int (nx (Int32.toNatClampNeg ((a * 4) + s))), .int 0, .int (nz - 1)] [(hn, .inr (4, [.ref hb, .ref hm, .ref n0, .ref n1, .ref n2, .ref n3, .int nr, .int nz, .int nt, .int nd])), (n0, .inl (cI, 3784, .inl na)), (n1, .inl (cI, 15136, .inl nx)), (n2, .inl (cJ, 3784, .inr (.inl nw))), (n3, .inl (cI, 8192, .inl ns)), (hm, .inr (3, [.ref hb, .int mn, .int mo, .int mu, .int mg, .int mt, .int mb])), (hb, .inr (0, [.ref b0, .ref b1, .ref b2, .ref b3, .ref b4, .ref b5, .ref b6, .int wc, .int la, .int br])), (b0, .inl (cI, 4, .inl pa)), (b1, .inl (cI, 16, .inl mi)), (b2, .inl (cI, 4, .inl ga)), (b3, .inl (cI, 4, .inl te)), (b4, .inl (cI, 4, .inl kn)), (b5, .inl (cI, 6, .inl wa)), (b6, .inl (cI, 16, .inl ne))] [] [0, 1, 2, 3, 4, 5, 6, 7, 8, 9, 10, 11, 12, 13] (c_X9_isIn (xl X) (xD X) (xt X) hT (nx (Int32.toNatClampNeg ((a * 4) + s))) 0 (nz - 1) ) dX4_nodeAfter_19 nt_44 wd_187 wd_2 wd_188 (np := 3) ⟨by decide, by decide, by decide +kernel⟩ rfl rfl (Nat.le_of_ble_eq_true rfl) (by decide) rfl (by decide) rfl (by decide) (by decide) (fun v W1 h => ?_)
  obtain ⟨r_19, rfl, rfl, h_19⟩ := h
  have : (0 : Int32).toInt = 0 := by decide
  have : (1 : Int32).toInt = 1 := by decide
  have := i_sub (x := nz) (y := 1) (by omega) (by omega)
  show V X 4 [(hn, .inr (4, [.ref hb, .ref hm, .ref n0, .ref n1, .ref n2, .ref n3, .int nr, .int nz, .int nt, .int nd])), (n0, .inl (cI, 3784, .inl na)), (n1, .inl (cI, 15136, .inl nx)), (n2, .inl (cJ, 3784, .inr (.inl nw))), (n3, .inl (cI, 8192, .inl ns)), (hm, .inr (3, [.ref hb, .int mn, .int mo, .int mu, .int mg, .int mt, .int mb])), (hb, .inr (0, [.ref b0, .ref b1, .ref b2, .ref b3, .ref b4, .ref b5, .ref b6, .int wc, .int la, .int br])), (b0, .inl (cI, 4, .inl pa)), (b1, .inl (cI, 16, .inl mi)), (b2, .inl (cI, 4, .inl ga)), (b3, .inl (cI, 4, .inl te)), (b4, .inl (cI, 4, .inl kn)), (b5, .inl (cI, 6, .inl wa)), (b6, .inl (cI, 16, .inl ne))] [(3, .int (nx (Int32.toNatClampNeg ((a * 4) + s)))), (0, .ref hn), (1, .int a), (2, .int s)] [.int r_19] 22 0 0
  refine x_if_eq C 29 dX4_nodeAfter_22 (by decide) (fun c_22 => ?_) (fun c_22 => ?_)
  · skip
    have e_22 : (r_19 : Int32).toInt = (0 : Int32).toInt := i_eq.mp c_22
    have : (0 : Int32).toInt = 0 := by decide
    refine x_bipush C (-6) dX4_nodeAfter_29 (by decide) ?_
    have : ((-6) : Int32).toInt = -6 := by decide
    exact x_iret C dX4_nodeAfter_31 (Nat.zero_le _) (Nat.zero_le _) (by rw [eO]; exact ⟨((-6)), rfl, rfl, ⟨by omega, by unfold ndA; first | rw [if_pos (by omega)] | rw [if_neg (by omega)]⟩⟩)
  · skip
    have e_22 : ¬ ((r_19 : Int32).toInt = (0 : Int32).toInt) := fun h => c_22 (i_eq.mpr h)
    have : (0 : Int32).toInt = 0 := by decide
    refine x_iload_n C 0 dX4_nodeAfter_25 rfl rfl ?_
    refine x_goto C 31 dX4_nodeAfter_26 (by decide) ?_
    exact x_iret C dX4_nodeAfter_31 (Nat.zero_le _) (Nat.zero_le _) (by rw [eO]; exact ⟨(nx (Int32.toNatClampNeg ((a * 4) + s))), rfl, rfl, ⟨by omega, by unfold ndA; first | rw [if_pos (by omega)] | rw [if_neg (by omega)]⟩⟩)
abbrev rm_X4_isOut : Room := { frames := 1, cells := 0, slots := 0, locals := 21 }
set_option maxHeartbeats 4000000 in
set_option maxRecDepth 100000 in
theorem c_X4_isOut (l : Launch) (D : va_G) (tys : List (ClassId × FieldType)) {cI cJ cZ cB : ClassId} (hT : Ty tys cI cJ cZ cB) (hn n0 n1 n2 n3 : Nat) (na nx ns : Nat → Int32) (nw : Nat → Int64) (nr nz nt nd : Int32) (hm : Nat) (mn mo mu mg mt mb : Int32) (hb b0 b1 b2 b3 b4 b5 b6 : Nat) (pa mi ga te kn wa ne : Nat → Int32) (wc la br : Int32) (a s : Int32) (hnode : 0 ≤ a.toInt ∧ a.toInt < 3784) (hs0 : 0 ≤ s.toInt ∧ s.toInt ≤ 3) : Cn l D tys yX4_isOut cX4_isOut 3 (some .boolean) rm_X4_isOut [(hn, .inr (4, [.ref hb, .ref hm, .ref n0, .ref n1, .ref n2, .ref n3, .int nr, .int nz, .int nt, .int nd])), (n0, .inl (cI, 3784, .inl na)), (n1, .inl (cI, 15136, .inl nx)), (n2, .inl (cJ, 3784, .inr (.inl nw))), (n3, .inl (cI, 8192, .inl ns)), (hm, .inr (3, [.ref hb, .int mn, .int mo, .int mu, .int mg, .int mt, .int mb])), (hb, .inr (0, [.ref b0, .ref b1, .ref b2, .ref b3, .ref b4, .ref b5, .ref b6, .int wc, .int la, .int br])), (b0, .inl (cI, 4, .inl pa)), (b1, .inl (cI, 16, .inl mi)), (b2, .inl (cI, 4, .inl ga)), (b3, .inl (cI, 4, .inl te)), (b4, .inl (cI, 4, .inl kn)), (b5, .inl (cI, 6, .inl wa)), (b6, .inl (cI, 16, .inl ne))] [.ref hn, .int a, .int s] (fun v W1 => ∃ (r : Int32), v = some (.int r) ∧ W1 = [(hn, .inr (4, [.ref hb, .ref hm, .ref n0, .ref n1, .ref n2, .ref n3, .int nr, .int nz, .int nt, .int nd])), (n0, .inl (cI, 3784, .inl na)), (n1, .inl (cI, 15136, .inl nx)), (n2, .inl (cJ, 3784, .inr (.inl nw))), (n3, .inl (cI, 8192, .inl ns)), (hm, .inr (3, [.ref hb, .int mn, .int mo, .int mu, .int mg, .int mt, .int mb])), (hb, .inr (0, [.ref b0, .ref b1, .ref b2, .ref b3, .ref b4, .ref b5, .ref b6, .int wc, .int la, .int br])), (b0, .inl (cI, 4, .inl pa)), (b1, .inl (cI, 16, .inl mi)), (b2, .inl (cI, 4, .inl ga)), (b3, .inl (cI, 4, .inl te)), (b4, .inl (cI, 4, .inl kn)), (b5, .inl (cI, 6, .inl wa)), (b6, .inl (cI, 16, .inl ne))] ∧ (TB r (¬ (ptI (na (Int32.toNatClampNeg a)) s).toInt < (pa (Int32.toNatClampNeg s)).toInt))) := by
  refine Cn.of (by decide) (Nat.le_of_ble_eq_true rfl) ?_ ?_ (fun X eL eD eT eO eK eN eM C => ?_)
  · intro _ v ws h; obtain ⟨_, rfl, rfl, h⟩ := h; exact z_of h.n
  · intro v ws h; obtain ⟨_, rfl, rfl, _⟩ := h; exact Or.inr rfl
  subst eL eD eT
  show V X 3 [(hn, .inr (4, [.ref hb, .ref hm, .ref n0, .ref n1, .ref n2, .ref n3, .int nr, .int nz, .int nt, .int nd])), (n0, .inl (cI, 3784, .inl na)), (n1, .inl (cI, 15136, .inl nx)), (n2, .inl (cJ, 3784, .inr (.inl nw))), (n3, .inl (cI, 8192, .inl ns)), (hm, .inr (3, [.ref hb, .int mn, .int mo, .int mu, .int mg, .int mt, .int mb])), (hb, .inr (0, [.ref b0, .ref b1, .ref b2, .ref b3, .ref b4, .ref b5, .ref b6, .int wc, .int la, .int br])), (b0, .inl (cI, 4, .inl pa)), (b1, .inl (cI, 16, .inl mi)), (b2, .inl (cI, 4, .inl ga)), (b3, .inl (cI, 4, .inl te)), (b4, .inl (cI, 4, .inl kn)), (b5, .inl (cI, 6, .inl wa)), (b6, .inl (cI, 16, .inl ne))] [(0, .ref hn), (1, .int a), (2, .int s)] [] 0 0 0
  refine x_aload_n C 0 dX4_isOut_0 rfl rfl ?_
  refine x_get C 0 2 dX4_isOut_1 inlX4 rfl (by decide) wd_82 rfl rfl rfl ?_
  refine x_iload_n C 1 dX4_isOut_4 rfl rfl ?_
  have v_5 : vp_in a 3784 := (vp_in_iff.mpr (by omega))
  refine x_iald C 1 0 dX4_isOut_5 hT.1 rfl v_5 ?_
  refine x_iload_n C 2 dX4_isOut_6 rfl rfl ?_
  refine x_callS C [.int (na (Int32.toNatClampNeg a)), .int s] [(hn, .inr (4, [.ref hb, .ref hm, .ref n0, .ref n1, .ref n2, .ref n3, .int nr, .int nz, .int nt, .int nd])), (n0, .inl (cI, 3784, .inl na)), (n1, .inl (cI, 15136, .inl nx)), (n2, .inl (cJ, 3784, .inr (.inl nw))), (n3, .inl (cI, 8192, .inl ns)), (hm, .inr (3, [.ref hb, .int mn, .int mo, .int mu, .int mg, .int mt, .int mb])), (hb, .inr (0, [.ref b0, .ref b1, .ref b2, .ref b3, .ref b4, .ref b5, .ref b6, .int wc, .int la, .int br])), (b0, .inl (cI, 4, .inl pa)), (b1, .inl (cI, 16, .inl mi)), (b2, .inl (cI, 4, .inl ga)), (b3, .inl (cI, 4, .inl te)), (b4, .inl (cI, 4, .inl kn)), (b5, .inl (cI, 6, .inl wa)), (b6, .inl (cI, 16, .inl ne))] [] [0, 1, 2, 3, 4, 5, 6, 7, 8, 9, 10, 11, 12, 13] (c_X3_partsTold (xl X) (xD X) (xt X) hT (na (Int32.toNatClampNeg a)) s ) dX4_isOut_7 wd_554 wd_373 wd_71 wd_374 (np := 2) ⟨by decide, by decide, by decide +kernel⟩ rfl rfl (Nat.le_of_ble_eq_true rfl) (by decide) rfl (by decide) rfl (by decide) (by decide) (fun v W1 h => ?_)
  obtain ⟨_, rfl, rfl, h_7⟩ := h
  show V X 3 [(hn, .inr (4, [.ref hb, .ref hm, .ref n0, .ref n1, .ref n2, .ref n3, .int nr, .int nz, .int nt, .int nd])), (n0, .inl (cI, 3784, .inl na)), (n1, .inl (cI, 15136, .inl nx)), (n2, .inl (cJ, 3784, .inr (.inl nw))), (n3, .inl (cI, 8192, .inl ns)), (hm, .inr (3, [.ref hb, .int mn, .int mo, .int mu, .int mg, .int mt, .int mb])), (hb, .inr (0, [.ref b0, .ref b1, .ref b2, .ref b3, .ref b4, .ref b5, .ref b6, .int wc, .int la, .int br])), (b0, .inl (cI, 4, .inl pa)), (b1, .inl (cI, 16, .inl mi)), (b2, .inl (cI, 4, .inl ga)), (b3, .inl (cI, 4, .inl te)), (b4, .inl (cI, 4, .inl kn)), (b5, .inl (cI, 6, .inl wa)), (b6, .inl (cI, 16, .inl ne))] [(0, .ref hn), (1, .int a), (2, .int s)] [.int (ptI (na (Int32.toNatClampNeg a)) s)] 10 0 0
  refine x_aload_n C 0 dX4_isOut_10 rfl rfl ?_
  refine x_get C 0 0 dX4_isOut_11 inlX4 rfl (by decide) wd_87 rfl rfl rfl ?_
  refine x_getN C 6 0 dX4_isOut_14 inlX0 rfl (by decide) nt_7 rfl rfl rfl ?_
  refine x_iload_n C 2 dX4_isOut_17 rfl rfl ?_
  have v_18 : vp_in s 4 := (vp_in_iff.mpr (by omega))
  refine x_iald C 7 0 dX4_isOut_18 hT.1 rfl v_18 ?_
  refine x_icmp_lt C 26 dX4_isOut_19 (by decide) (fun c_19 => ?_) (fun c_19 => ?_)
  · skip
    have e_19 : (ptI (na (Int32.toNatClampNeg a)) s : Int32).toInt < (pa (Int32.toNatClampNeg s) : Int32).toInt := i_lt.mp c_19
    refine x_iconst C 0 dX4_isOut_26 (by decide) ?_
    have : (0 : Int32).toInt = 0 := by decide
    exact x_iret C dX4_isOut_27 (Nat.zero_le _) (Nat.zero_le _) (by rw [eO]; exact ⟨0, rfl, rfl, (TB.nil (fun h => h e_19))⟩)
  · skip
    have e_19 : ¬ ((ptI (na (Int32.toNatClampNeg a)) s : Int32).toInt < (pa (Int32.toNatClampNeg s) : Int32).toInt) := fun h => c_19 (i_lt.mpr h)
    refine x_iconst C 1 dX4_isOut_22 (by decide) ?_
    refine x_goto C 27 dX4_isOut_23 (by decide) ?_
    have : (1 : Int32).toInt = 1 := by decide
    exact x_iret C dX4_isOut_27 (Nat.zero_le _) (Nat.zero_le _) (by rw [eO]; exact ⟨1, rfl, rfl, (TB.one e_19)⟩)
abbrev rm_X4_isAllOut : Room := { frames := 2, cells := 0, slots := 0, locals := 43 }
set_option maxHeartbeats 4000000 in
set_option maxRecDepth 100000 in
theorem c_X4_isAllOut (l : Launch) (D : va_G) (tys : List (ClassId × FieldType)) {cI cJ cZ cB : ClassId} (hT : Ty tys cI cJ cZ cB) (hn n0 n1 n2 n3 : Nat) (na nx ns : Nat → Int32) (nw : Nat → Int64) (nr nz nt nd : Int32) (hm : Nat) (mn mo mu mg mt mb : Int32) (hb b0 b1 b2 b3 b4 b5 b6 : Nat) (pa mi ga te kn wa ne : Nat → Int32) (wc la br : Int32) (a : Int32) (hnode : 0 ≤ a.toInt ∧ a.toInt < 3784) : Cn l D tys yX4_isAllOut cX4_isAllOut 3 (some .boolean) rm_X4_isAllOut [(hn, .inr (4, [.ref hb, .ref hm, .ref n0, .ref n1, .ref n2, .ref n3, .int nr, .int nz, .int nt, .int nd])), (n0, .inl (cI, 3784, .inl na)), (n1, .inl (cI, 15136, .inl nx)), (n2, .inl (cJ, 3784, .inr (.inl nw))), (n3, .inl (cI, 8192, .inl ns)), (hm, .inr (3, [.ref hb, .int mn, .int mo, .int mu, .int mg, .int mt, .int mb])), (hb, .inr (0, [.ref b0, .ref b1, .ref b2, .ref b3, .ref b4, .ref b5, .ref b6, .int wc, .int la, .int br])), (b0, .inl (cI, 4, .inl pa)), (b1, .inl (cI, 16, .inl mi)), (b2, .inl (cI, 4, .inl ga)), (b3, .inl (cI, 4, .inl te)), (b4, .inl (cI, 4, .inl kn)), (b5, .inl (cI, 6, .inl wa)), (b6, .inl (cI, 16, .inl ne))] [.ref hn, .int a] (fun v W1 => ∃ (r : Int32), v = some (.int r) ∧ W1 = [(hn, .inr (4, [.ref hb, .ref hm, .ref n0, .ref n1, .ref n2, .ref n3, .int nr, .int nz, .int nt, .int nd])), (n0, .inl (cI, 3784, .inl na)), (n1, .inl (cI, 15136, .inl nx)), (n2, .inl (cJ, 3784, .inr (.inl nw))), (n3, .inl (cI, 8192, .inl ns)), (hm, .inr (3, [.ref hb, .int mn, .int mo, .int mu, .int mg, .int mt, .int mb])), (hb, .inr (0, [.ref b0, .ref b1, .ref b2, .ref b3, .ref b4, .ref b5, .ref b6, .int wc, .int la, .int br])), (b0, .inl (cI, 4, .inl pa)), (b1, .inl (cI, 16, .inl mi)), (b2, .inl (cI, 4, .inl ga)), (b3, .inl (cI, 4, .inl te)), (b4, .inl (cI, 4, .inl kn)), (b5, .inl (cI, 6, .inl wa)), (b6, .inl (cI, 16, .inl ne))] ∧ (TB r (AOt pa na nt (Int32.toNatClampNeg a)))) := by
  refine Cn.of (by decide) (Nat.le_of_ble_eq_true rfl) ?_ ?_ (fun X eL eD eT eO eK eN eM C => ?_)
  · intro _ v ws h; obtain ⟨_, rfl, rfl, h⟩ := h; exact z_of h.n
  · intro v ws h; obtain ⟨_, rfl, rfl, _⟩ := h; exact Or.inr rfl
  subst eL eD eT
  show V X 3 [(hn, .inr (4, [.ref hb, .ref hm, .ref n0, .ref n1, .ref n2, .ref n3, .int nr, .int nz, .int nt, .int nd])), (n0, .inl (cI, 3784, .inl na)), (n1, .inl (cI, 15136, .inl nx)), (n2, .inl (cJ, 3784, .inr (.inl nw))), (n3, .inl (cI, 8192, .inl ns)), (hm, .inr (3, [.ref hb, .int mn, .int mo, .int mu, .int mg, .int mt, .int mb])), (hb, .inr (0, [.ref b0, .ref b1, .ref b2, .ref b3, .ref b4, .ref b5, .ref b6, .int wc, .int la, .int br])), (b0, .inl (cI, 4, .inl pa)), (b1, .inl (cI, 16, .inl mi)), (b2, .inl (cI, 4, .inl ga)), (b3, .inl (cI, 4, .inl te)), (b4, .inl (cI, 4, .inl kn)), (b5, .inl (cI, 6, .inl wa)), (b6, .inl (cI, 16, .inl ne))] [(0, .ref hn), (1, .int a)] [] 0 0 0
  refine x_iconst C 0 dX4_isAllOut_0 (by decide) ?_
  refine x_istore_n C [(2, .int 0), (0, .ref hn), (1, .int a)] dX4_isAllOut_1 rfl (by decide) rfl ?_
  have L_2 : ∀ (n_2 : Nat) (x2_2 : Int32), ((0 ≤ x2_2.toInt ∧ x2_2.toInt ≤ 4) ∧ AX (fun y => (nt >>> (y &&& 31)) &&& 1 = 0 ∨ ¬ (ptI (na (Int32.toNatClampNeg a)) y).toInt < (pa y.toNatClampNeg).toInt) x2_2) → ((4 - x2_2.toInt).toNat < n_2) → V X 3 [(hn, .inr (4, [.ref hb, .ref hm, .ref n0, .ref n1, .ref n2, .ref n3, .int nr, .int nz, .int nt, .int nd])), (n0, .inl (cI, 3784, .inl na)), (n1, .inl (cI, 15136, .inl nx)), (n2, .inl (cJ, 3784, .inr (.inl nw))), (n3, .inl (cI, 8192, .inl ns)), (hm, .inr (3, [.ref hb, .int mn, .int mo, .int mu, .int mg, .int mt, .int mb])), (hb, .inr (0, [.ref b0, .ref b1, .ref b2, .ref b3, .ref b4, .ref b5, .ref b6, .int wc, .int la, .int br])), (b0, .inl (cI, 4, .inl pa)), (b1, .inl (cI, 16, .inl mi)), (b2, .inl (cI, 4, .inl ga)), (b3, .inl (cI, 4, .inl te)), (b4, .inl (cI, 4, .inl kn)), (b5, .inl (cI, 6, .inl wa)), (b6, .inl (cI, 16, .inl ne))] [(2, .int x2_2), (0, .ref hn), (1, .int a)] [] 2 0 0 := by
    intro n_2
    induction n_2 with
    | zero =>
      intro x2_2 i_2 m_2
      exact absurd m_2 (Nat.not_lt_zero _)
    | succ n_2 ih_2 =>
      intro x2_2 i_2 m_2
      refine x_iload_n C 0 dX4_isAllOut_2 rfl rfl ?_
      refine x_iconst C 4 dX4_isAllOut_3 (by decide) ?_
      refine x_icmp_ge C 35 dX4_isAllOut_4 (by decide) (fun c_4 => ?_) (fun c_4 => ?_)
      · skip
        have e_4 : (4 : Int32).toInt ≤ (x2_2 : Int32).toInt := i_le.mp c_4
        have : (4 : Int32).toInt = 4 := by decide
        refine x_iconst C 1 dX4_isAllOut_35 (by decide) ?_
        have : (1 : Int32).toInt = 1 := by decide
        exact x_iret C dX4_isAllOut_36 (Nat.zero_le _) (Nat.zero_le _) (by rw [eO]; exact ⟨1, rfl, rfl, (TB.one (fun y y0 y1 => i_2.2 y y0 (by rw [t4_] at y1; omega)))⟩)
      · skip
        have e_4 : ¬ ((4 : Int32).toInt ≤ (x2_2 : Int32).toInt) := fun h => c_4 (i_le.mpr h)
        have : (4 : Int32).toInt = 4 := by decide
        refine x_aload_n C 1 dX4_isAllOut_7 rfl rfl ?_
        refine x_get C 0 8 dX4_isAllOut_8 inlX4 rfl (by decide) wd_255 rfl rfl rfl ?_
        refine x_iload_n C 0 dX4_isAllOut_11 rfl rfl ?_
        refine x_ishr C dX4_isAllOut_12 ?_
        refine x_iconst C 1 dX4_isAllOut_13 (by decide) ?_
        refine x_iand C dX4_isAllOut_14 ?_
        refine x_if_eq C 29 dX4_isAllOut_15 (by decide) (fun c_15 => ?_) (fun c_15 => ?_)
        · skip
          have e_15 : ((nt >>> (x2_2 &&& 31)) &&& 1 : Int32).toInt = (0 : Int32).toInt := i_eq.mp c_15
          have : (0 : Int32).toInt = 0 := by decide
          refine x_iinc C 0 (x2_2 + 1) [(2, .int (x2_2 + 1)), (0, .ref hn), (1, .int a)] dX4_isAllOut_29 rfl rfl (by decide) rfl ?_
          refine x_goto C 2 dX4_isAllOut_32 (by decide) ?_
          have : (1 : Int32).toInt = 1 := by decide
          have := i_add (x := x2_2) (y := 1) (by omega) (by omega)
          exact ih_2 (x2_2 + 1) ⟨by omega, ax_go i_2.2 (by omega) (Or.inl c_15)⟩ (by omega)
        · skip
          have e_15 : ¬ (((nt >>> (x2_2 &&& 31)) &&& 1 : Int32).toInt = (0 : Int32).toInt) := fun h => c_15 (i_eq.mpr h)
          have : (0 : Int32).toInt = 0 := by decide
          refine x_aload_n C 1 dX4_isAllOut_18 rfl rfl ?_
          refine x_iload_n C 2 dX4_isAllOut_19 rfl rfl ?_
          refine x_iload_n C 0 dX4_isAllOut_20 rfl rfl ?_
          refine x_callV C [.int a, .int x2_2] [] [0, 1, 2, 3, 4, 5, 6, 7, 8, 9, 10, 11, 12, 13] [] (q0 := 0) (c_X4_isOut (xl X) (xD X) (xt X) hT hn n0 n1 n2 n3 na nx ns nw nr nz nt nd hm mn mo mu mg mt mb hb b0 b1 b2 b3 b4 b5 b6 pa mi ga te kn wa ne wc la br a x2_2 (by omega) (by omega)) dX4_isAllOut_21 wd_550 wd_551 wd_552 wd_28 wd_553 (np := 2) ⟨by decide, by decide, by decide +kernel⟩ rfl rfl (Nat.le_of_ble_eq_true rfl) (by decide) rfl rfl rfl rfl (by decide) rfl (by decide) (by decide) (fun v W1 h => ?_)
          obtain ⟨r_21, rfl, rfl, h_21⟩ := h
          show V X 3 [(hn, .inr (4, [.ref hb, .ref hm, .ref n0, .ref n1, .ref n2, .ref n3, .int nr, .int nz, .int nt, .int nd])), (n0, .inl (cI, 3784, .inl na)), (n1, .inl (cI, 15136, .inl nx)), (n2, .inl (cJ, 3784, .inr (.inl nw))), (n3, .inl (cI, 8192, .inl ns)), (hm, .inr (3, [.ref hb, .int mn, .int mo, .int mu, .int mg, .int mt, .int mb])), (hb, .inr (0, [.ref b0, .ref b1, .ref b2, .ref b3, .ref b4, .ref b5, .ref b6, .int wc, .int la, .int br])), (b0, .inl (cI, 4, .inl pa)), (b1, .inl (cI, 16, .inl mi)), (b2, .inl (cI, 4, .inl ga)), (b3, .inl (cI, 4, .inl te)), (b4, .inl (cI, 4, .inl kn)), (b5, .inl (cI, 6, .inl wa)), (b6, .inl (cI, 16, .inl ne))] [(2, .int x2_2), (0, .ref hn), (1, .int a)] [.int r_21] 24 0 0
          refine x_if_ne C 29 dX4_isAllOut_24 (by decide) (fun c_24 => ?_) (fun c_24 => ?_)
          · skip
            have e_24 : ¬ ((r_21 : Int32).toInt = (0 : Int32).toInt) := fun h => c_24 (i_eq.mpr h)
            have : (0 : Int32).toInt = 0 := by decide
            refine x_iinc C 0 (x2_2 + 1) [(2, .int (x2_2 + 1)), (0, .ref hn), (1, .int a)] dX4_isAllOut_29 rfl rfl (by decide) rfl ?_
            refine x_goto C 2 dX4_isAllOut_32 (by decide) ?_
            have : (1 : Int32).toInt = 1 := by decide
            have := i_add (x := x2_2) (y := 1) (by omega) (by omega)
            exact ih_2 (x2_2 + 1) ⟨by omega, ax_go i_2.2 (by omega) (Or.inr (h_21.t (by omega)))⟩ (by omega)
          · skip
            have e_24 : (r_21 : Int32).toInt = (0 : Int32).toInt := i_eq.mp c_24
            have : (0 : Int32).toInt = 0 := by decide
            refine x_iconst C 0 dX4_isAllOut_27 (by decide) ?_
            have : (0 : Int32).toInt = 0 := by decide
            exact x_iret C dX4_isAllOut_28 (Nat.zero_le _) (Nat.zero_le _) (by rw [eO]; exact ⟨0, rfl, rfl, (TB.nil (fun h => (h x2_2 (by omega) (by rw [t4_]; omega)).elim c_15 (h_21.f (by omega))))⟩)
  have : (0 : Int32).toInt = 0 := by decide
  exact L_2 _ 0 ⟨by omega, AX.z (by omega)⟩ (Nat.lt_succ_self _)
abbrev rm_X4_minutesAt : Room := { frames := 3, cells := 0, slots := 0, locals := 68 }
set_option maxHeartbeats 4000000 in
set_option maxRecDepth 100000 in
theorem c_X4_minutesAt (l : Launch) (D : va_G) (tys : List (ClassId × FieldType)) {cI cJ cZ cB : ClassId} (hT : Ty tys cI cJ cZ cB) (hn n0 n1 n2 n3 : Nat) (na nx ns : Nat → Int32) (nw : Nat → Int64) (nr nz nt nd : Int32) (hm : Nat) (mn mo mu mg mt mb : Int32) (hb b0 b1 b2 b3 b4 b5 b6 : Nat) (pa mi ga te kn wa ne : Nat → Int32) (wc la br : Int32) (a : Int32) (hnode : 0 ≤ a.toInt ∧ a.toInt < 3784) : Cn l D tys yX4_minutesAt cX4_minutesAt 4 (some .int) rm_X4_minutesAt [(hn, .inr (4, [.ref hb, .ref hm, .ref n0, .ref n1, .ref n2, .ref n3, .int nr, .int nz, .int nt, .int nd])), (n0, .inl (cI, 3784, .inl na)), (n1, .inl (cI, 15136, .inl nx)), (n2, .inl (cJ, 3784, .inr (.inl nw))), (n3, .inl (cI, 8192, .inl ns)), (hm, .inr (3, [.ref hb, .int mn, .int mo, .int mu, .int mg, .int mt, .int mb])), (hb, .inr (0, [.ref b0, .ref b1, .ref b2, .ref b3, .ref b4, .ref b5, .ref b6, .int wc, .int la, .int br])), (b0, .inl (cI, 4, .inl pa)), (b1, .inl (cI, 16, .inl mi)), (b2, .inl (cI, 4, .inl ga)), (b3, .inl (cI, 4, .inl te)), (b4, .inl (cI, 4, .inl kn)), (b5, .inl (cI, 6, .inl wa)), (b6, .inl (cI, 16, .inl ne))] [.ref hn, .int a] (fun v W1 => ∃ (r : Int32), v = some (.int r) ∧ W1 = [(hn, .inr (4, [.ref hb, .ref hm, .ref n0, .ref n1, .ref n2, .ref n3, .int nr, .int nz, .int nt, .int nd])), (n0, .inl (cI, 3784, .inl na)), (n1, .inl (cI, 15136, .inl nx)), (n2, .inl (cJ, 3784, .inr (.inl nw))), (n3, .inl (cI, 8192, .inl ns)), (hm, .inr (3, [.ref hb, .int mn, .int mo, .int mu, .int mg, .int mt, .int mb])), (hb, .inr (0, [.ref b0, .ref b1, .ref b2, .ref b3, .ref b4, .ref b5, .ref b6, .int wc, .int la, .int br])), (b0, .inl (cI, 4, .inl pa)), (b1, .inl (cI, 16, .inl mi)), (b2, .inl (cI, 4, .inl ga)), (b3, .inl (cI, 4, .inl te)), (b4, .inl (cI, 4, .inl kn)), (b5, .inl (cI, 6, .inl wa)), (b6, .inl (cI, 16, .inl ne))] ∧ (True)) := by
  refine Cn.of (by decide) (Nat.le_of_ble_eq_true rfl) ?_ ?_ (fun X eL eD eT eO eK eN eM C => ?_)
  · intro h; cases h
  · intro v ws h; obtain ⟨_, rfl, rfl, _⟩ := h; exact Or.inl rfl
  subst eL eD eT
  show V X 4 [(hn, .inr (4, [.ref hb, .ref hm, .ref n0, .ref n1, .ref n2, .ref n3, .int nr, .int nz, .int nt, .int nd])), (n0, .inl (cI, 3784, .inl na)), (n1, .inl (cI, 15136, .inl nx)), (n2, .inl (cJ, 3784, .inr (.inl nw))), (n3, .inl (cI, 8192, .inl ns)), (hm, .inr (3, [.ref hb, .int mn, .int mo, .int mu, .int mg, .int mt, .int mb])), (hb, .inr (0, [.ref b0, .ref b1, .ref b2, .ref b3, .ref b4, .ref b5, .ref b6, .int wc, .int la, .int br])), (b0, .inl (cI, 4, .inl pa)), (b1, .inl (cI, 16, .inl mi)), (b2, .inl (cI, 4, .inl ga)), (b3, .inl (cI, 4, .inl te)), (b4, .inl (cI, 4, .inl kn)), (b5, .inl (cI, 6, .inl wa)), (b6, .inl (cI, 16, .inl ne))] [(0, .ref hn), (1, .int a)] [] 0 0 0
  refine x_iconst C 0 dX4_minutesAt_0 (by decide) ?_
  refine x_istore_n C [(2, .int 0), (0, .ref hn), (1, .int a)] dX4_minutesAt_1 rfl (by decide) rfl ?_
  refine x_iconst C 0 dX4_minutesAt_2 (by decide) ?_
  refine x_istore_n C [(3, .int 0), (2, .int 0), (0, .ref hn), (1, .int a)] dX4_minutesAt_3 rfl (by decide) rfl ?_
  have L_4 : ∀ (n_4 : Nat) (x3_4 : Int32) (x2_4 : Int32), ((0 ≤ x3_4.toInt ∧ x3_4.toInt ≤ 4)) → ((4 - x3_4.toInt).toNat < n_4) → V X 4 [(hn, .inr (4, [.ref hb, .ref hm, .ref n0, .ref n1, .ref n2, .ref n3, .int nr, .int nz, .int nt, .int nd])), (n0, .inl (cI, 3784, .inl na)), (n1, .inl (cI, 15136, .inl nx)), (n2, .inl (cJ, 3784, .inr (.inl nw))), (n3, .inl (cI, 8192, .inl ns)), (hm, .inr (3, [.ref hb, .int mn, .int mo, .int mu, .int mg, .int mt, .int mb])), (hb, .inr (0, [.ref b0, .ref b1, .ref b2, .ref b3, .ref b4, .ref b5, .ref b6, .int wc, .int la, .int br])), (b0, .inl (cI, 4, .inl pa)), (b1, .inl (cI, 16, .inl mi)), (b2, .inl (cI, 4, .inl ga)), (b3, .inl (cI, 4, .inl te)), (b4, .inl (cI, 4, .inl kn)), (b5, .inl (cI, 6, .inl wa)), (b6, .inl (cI, 16, .inl ne))] [(3, .int x3_4), (2, .int x2_4), (0, .ref hn), (1, .int a)] [] 4 0 0 := by
    intro n_4
    induction n_4 with
    | zero =>
      intro x3_4 x2_4 i_4 m_4
      exact absurd m_4 (Nat.not_lt_zero _)
    | succ n_4 ih_4 =>
      intro x3_4 x2_4 i_4 m_4
      refine x_iload_n C 0 dX4_minutesAt_4 rfl rfl ?_
      refine x_iconst C 4 dX4_minutesAt_5 (by decide) ?_
      refine x_icmp_ge C 36 dX4_minutesAt_6 (by decide) (fun c_6 => ?_) (fun c_6 => ?_)
      · skip
        have e_6 : (4 : Int32).toInt ≤ (x3_4 : Int32).toInt := i_le.mp c_6
        have : (4 : Int32).toInt = 4 := by decide
        refine x_iload_n C 1 dX4_minutesAt_36 rfl rfl ?_
        exact x_iret C dX4_minutesAt_37 (Nat.zero_le _) (Nat.zero_le _) (by rw [eO]; exact ⟨x2_4, rfl, rfl, trivial⟩)
      · skip
        have e_6 : ¬ ((4 : Int32).toInt ≤ (x3_4 : Int32).toInt) := fun h => c_6 (i_le.mpr h)
        have : (4 : Int32).toInt = 4 := by decide
        refine x_iload_n C 1 dX4_minutesAt_9 rfl rfl ?_
        refine x_aload_n C 2 dX4_minutesAt_10 rfl rfl ?_
        refine x_get C 0 0 dX4_minutesAt_11 inlX4 rfl (by decide) wd_87 rfl rfl rfl ?_
        refine x_iload_n C 0 dX4_minutesAt_14 rfl rfl ?_
        refine x_aload_n C 2 dX4_minutesAt_15 rfl rfl ?_
        refine x_get C 0 2 dX4_minutesAt_16 inlX4 rfl (by decide) wd_82 rfl rfl rfl ?_
        refine x_iload_n C 3 dX4_minutesAt_19 rfl rfl ?_
        have v_20 : vp_in a 3784 := (vp_in_iff.mpr (by omega))
        refine x_iald C 1 0 dX4_minutesAt_20 hT.1 rfl v_20 ?_
        refine x_iload_n C 0 dX4_minutesAt_21 rfl rfl ?_
        refine x_callS C [.int (na (Int32.toNatClampNeg a)), .int x3_4] [(hn, .inr (4, [.ref hb, .ref hm, .ref n0, .ref n1, .ref n2, .ref n3, .int nr, .int nz, .int nt, .int nd])), (n0, .inl (cI, 3784, .inl na)), (n1, .inl (cI, 15136, .inl nx)), (n2, .inl (cJ, 3784, .inr (.inl nw))), (n3, .inl (cI, 8192, .inl ns)), (hm, .inr (3, [.ref hb, .int mn, .int mo, .int mu, .int mg, .int mt, .int mb])), (hb, .inr (0, [.ref b0, .ref b1, .ref b2, .ref b3, .ref b4, .ref b5, .ref b6, .int wc, .int la, .int br])), (b0, .inl (cI, 4, .inl pa)), (b1, .inl (cI, 16, .inl mi)), (b2, .inl (cI, 4, .inl ga)), (b3, .inl (cI, 4, .inl te)), (b4, .inl (cI, 4, .inl kn)), (b5, .inl (cI, 6, .inl wa)), (b6, .inl (cI, 16, .inl ne))] [] [0, 1, 2, 3, 4, 5, 6, 7, 8, 9, 10, 11, 12, 13] (c_X3_partsTold (xl X) (xD X) (xt X) hT (na (Int32.toNatClampNeg a)) x3_4 ) dX4_minutesAt_22 wd_554 wd_373 wd_71 wd_374 (np := 2) ⟨by decide, by decide, by decide +kernel⟩ rfl rfl (Nat.le_of_ble_eq_true rfl) (by decide) rfl (by decide) rfl (by decide) (by decide) (fun v W1 h => ?_)
        obtain ⟨_, rfl, rfl, h_22⟩ := h
        show V X 4 [(hn, .inr (4, [.ref hb, .ref hm, .ref n0, .ref n1, .ref n2, .ref n3, .int nr, .int nz, .int nt, .int nd])), (n0, .inl (cI, 3784, .inl na)), (n1, .inl (cI, 15136, .inl nx)), (n2, .inl (cJ, 3784, .inr (.inl nw))), (n3, .inl (cI, 8192, .inl ns)), (hm, .inr (3, [.ref hb, .int mn, .int mo, .int mu, .int mg, .int mt, .int mb])), (hb, .inr (0, [.ref b0, .ref b1, .ref b2, .ref b3, .ref b4, .ref b5, .ref b6, .int wc, .int la, .int br])), (b0, .inl (cI, 4, .inl pa)), (b1, .inl (cI, 16, .inl mi)), (b2, .inl (cI, 4, .inl ga)), (b3, .inl (cI, 4, .inl te)), (b4, .inl (cI, 4, .inl kn)), (b5, .inl (cI, 6, .inl wa)), (b6, .inl (cI, 16, .inl ne))] [(3, .int x3_4), (2, .int x2_4), (0, .ref hn), (1, .int a)] [.int (ptI (na (Int32.toNatClampNeg a)) x3_4), .int x3_4, .ref hb, .int x2_4] 25 0 0
        refine x_callV C [.int x3_4, .int (ptI (na (Int32.toNatClampNeg a)) x3_4)] [(hn, .inr (4, [.ref hb, .ref hm, .ref n0, .ref n1, .ref n2, .ref n3, .int nr, .int nz, .int nt, .int nd])), (n0, .inl (cI, 3784, .inl na)), (n1, .inl (cI, 15136, .inl nx)), (n2, .inl (cJ, 3784, .inr (.inl nw))), (n3, .inl (cI, 8192, .inl ns)), (hm, .inr (3, [.ref hb, .int mn, .int mo, .int mu, .int mg, .int mt, .int mb]))] [6, 7, 8, 9, 10, 11, 12, 13] [0, 1, 2, 3, 4, 5] (q0 := 0) (c_X0_minutesOf (xl X) (xD X) (xt X) hT hb b0 b1 b2 b3 b4 b5 b6 pa mi ga te kn wa ne wc la br x3_4 (ptI (na (Int32.toNatClampNeg a)) x3_4) (by omega)) dX4_minutesAt_25 wd_668 wd_278 wd_279 wd_18 wd_280 (np := 2) ⟨by decide, by decide, by decide +kernel⟩ rfl rfl (Nat.le_of_ble_eq_true rfl) (by decide) rfl rfl rfl rfl (by decide) rfl (by decide) (by decide) (fun v W1 h => ?_)
        obtain ⟨r_25, rfl, rfl, h_25⟩ := h
        show V X 4 [(hn, .inr (4, [.ref hb, .ref hm, .ref n0, .ref n1, .ref n2, .ref n3, .int nr, .int nz, .int nt, .int nd])), (n0, .inl (cI, 3784, .inl na)), (n1, .inl (cI, 15136, .inl nx)), (n2, .inl (cJ, 3784, .inr (.inl nw))), (n3, .inl (cI, 8192, .inl ns)), (hm, .inr (3, [.ref hb, .int mn, .int mo, .int mu, .int mg, .int mt, .int mb])), (hb, .inr (0, [.ref b0, .ref b1, .ref b2, .ref b3, .ref b4, .ref b5, .ref b6, .int wc, .int la, .int br])), (b0, .inl (cI, 4, .inl pa)), (b1, .inl (cI, 16, .inl mi)), (b2, .inl (cI, 4, .inl ga)), (b3, .inl (cI, 4, .inl te)), (b4, .inl (cI, 4, .inl kn)), (b5, .inl (cI, 6, .inl wa)), (b6, .inl (cI, 16, .inl ne))] [(3, .int x3_4), (2, .int x2_4), (0, .ref hn), (1, .int a)] [.int r_25, .int x2_4] 28 0 0
        refine x_iadd C dX4_minutesAt_28 ?_
        refine x_istore_n C [(2, .int (x2_4 + r_25)), (3, .int x3_4), (0, .ref hn), (1, .int a)] dX4_minutesAt_29 rfl (by decide) rfl ?_
        refine x_iinc C 1 (x3_4 + 1) [(3, .int (x3_4 + 1)), (2, .int (x2_4 + r_25)), (0, .ref hn), (1, .int a)] dX4_minutesAt_30 rfl rfl (by decide) rfl ?_
        refine x_goto C 4 dX4_minutesAt_33 (by decide) ?_
        have : (1 : Int32).toInt = 1 := by decide
        have := i_add (x := x3_4) (y := 1) (by omega) (by omega)
        exact ih_4 (x3_4 + 1) (x2_4 + r_25) (by omega) (by omega)
  have : (0 : Int32).toInt = 0 := by decide
  exact L_4 _ 0 0 (by omega) (Nat.lt_succ_self _)
