abbrev rm_X5_evenings : Room := { frames := 3, cells := 0, slots := 0, locals := 65 }
set_option maxHeartbeats 4000000 in
set_option maxRecDepth 100000 in
theorem c_X5_evenings (l : Launch) (D : va_G) (tys : List (ClassId × FieldType)) {cI cJ cZ cB : ClassId} (hT : Ty tys cI cJ cZ cB) (ho o0 o1 : Nat) (op oe : Nat → Int32) (hn n0 n1 n2 n3 : Nat) (na nx ns : Nat → Int32) (nw : Nat → Int64) (nr nz nt nd : Int32) (hm : Nat) (mn mo mu mg mt mb : Int32) (hb b0 b1 b2 b3 b4 b5 b6 : Nat) (pa mi ga te kn wa ne : Nat → Int32) (wc la br : Int32) (hz : 0 ≤ nz.toInt ∧ nz.toInt ≤ 3784) (hup : UPG nx nz) : Cn l D tys yX5_evenings cX5_evenings 6 (some .long) rm_X5_evenings [(ho, .inr (5, [.ref hb, .ref hn, .ref o0, .ref o1])), (o0, .inl (cI, 4, .inl op)), (o1, .inl (cZ, 145, .inl oe)), (hn, .inr (4, [.ref hb, .ref hm, .ref n0, .ref n1, .ref n2, .ref n3, .int nr, .int nz, .int nt, .int nd])), (n0, .inl (cI, 3784, .inl na)), (n1, .inl (cI, 15136, .inl nx)), (n2, .inl (cJ, 3784, .inr (.inl nw))), (n3, .inl (cI, 8192, .inl ns)), (hm, .inr (3, [.ref hb, .int mn, .int mo, .int mu, .int mg, .int mt, .int mb])), (hb, .inr (0, [.ref b0, .ref b1, .ref b2, .ref b3, .ref b4, .ref b5, .ref b6, .int wc, .int la, .int br])), (b0, .inl (cI, 4, .inl pa)), (b1, .inl (cI, 16, .inl mi)), (b2, .inl (cI, 4, .inl ga)), (b3, .inl (cI, 4, .inl te)), (b4, .inl (cI, 4, .inl kn)), (b5, .inl (cI, 6, .inl wa)), (b6, .inl (cI, 16, .inl ne))] [.ref ho] (fun v W1 => ∃ (r : Int64) (nw2 : Nat → Int64), v = some (.long r) ∧ W1 = [(ho, .inr (5, [.ref hb, .ref hn, .ref o0, .ref o1])), (o0, .inl (cI, 4, .inl op)), (o1, .inl (cZ, 145, .inl oe)), (hn, .inr (4, [.ref hb, .ref hm, .ref n0, .ref n1, .ref n2, .ref n3, .int nr, .int nz, .int nt, .int nd])), (n0, .inl (cI, 3784, .inl na)), (n1, .inl (cI, 15136, .inl nx)), (n2, .inl (cJ, 3784, .inr (.inl nw2))), (n3, .inl (cI, 8192, .inl ns)), (hm, .inr (3, [.ref hb, .int mn, .int mo, .int mu, .int mg, .int mt, .int mb])), (hb, .inr (0, [.ref b0, .ref b1, .ref b2, .ref b3, .ref b4, .ref b5, .ref b6, .int wc, .int la, .int br])), (b0, .inl (cI, 4, .inl pa)), (b1, .inl (cI, 16, .inl mi)), (b2, .inl (cI, 4, .inl ga)), (b3, .inl (cI, 4, .inl te)), (b4, .inl (cI, 4, .inl kn)), (b5, .inl (cI, 6, .inl wa)), (b6, .inl (cI, 16, .inl ne))] ∧ (WGX pa na nx nt nz nw2 (-1) ∧ r = nw2 0)) := by
  refine Cn.of (by decide) (Nat.le_of_ble_eq_true rfl) ?_ ?_ (fun X eL eD eT eO eK eN eM C => ?_)
  · intro h; cases h
  · intro v ws h; obtain ⟨_, _, rfl, rfl, _⟩ := h; rfl
  subst eL eD eT
  show V X 6 [(ho, .inr (5, [.ref hb, .ref hn, .ref o0, .ref o1])), (o0, .inl (cI, 4, .inl op)), (o1, .inl (cZ, 145, .inl oe)), (hn, .inr (4, [.ref hb, .ref hm, .ref n0, .ref n1, .ref n2, .ref n3, .int nr, .int nz, .int nt, .int nd])), (n0, .inl (cI, 3784, .inl na)), (n1, .inl (cI, 15136, .inl nx)), (n2, .inl (cJ, 3784, .inr (.inl nw))), (n3, .inl (cI, 8192, .inl ns)), (hm, .inr (3, [.ref hb, .int mn, .int mo, .int mu, .int mg, .int mt, .int mb])), (hb, .inr (0, [.ref b0, .ref b1, .ref b2, .ref b3, .ref b4, .ref b5, .ref b6, .int wc, .int la, .int br])), (b0, .inl (cI, 4, .inl pa)), (b1, .inl (cI, 16, .inl mi)), (b2, .inl (cI, 4, .inl ga)), (b3, .inl (cI, 4, .inl te)), (b4, .inl (cI, 4, .inl kn)), (b5, .inl (cI, 6, .inl wa)), (b6, .inl (cI, 16, .inl ne))] [(0, .ref ho)] [] 0 0 0
  refine x_aload_n C 0 dX5_evenings_0 rfl rfl ?_
  refine x_get C 0 1 dX5_evenings_1 inlX5 rfl (by decide) wd_99 rfl rfl rfl ?_
  refine x_getN C 3 7 dX5_evenings_4 inlX4 rfl (by decide) nt_36 rfl rfl rfl ?_
  refine x_iconst C 1 dX5_evenings_7 (by decide) ?_
  refine x_isub C dX5_evenings_8 ?_
  refine x_istore_n C [(1, .int (nz - 1)), (0, .ref ho)] dX5_evenings_9 rfl (by decide) rfl ?_
  have L_10 : ∀ (n_10 : Nat) (x1_10 : Int32) (fn2_10 : Nat → Int64), ((-1 ≤ x1_10.toInt ∧ x1_10.toInt < nz.toInt) ∧ WGX pa na nx nt nz fn2_10 x1_10.toInt) → ((x1_10.toInt + 1).toNat < n_10) → V X 6 [(ho, .inr (5, [.ref hb, .ref hn, .ref o0, .ref o1])), (o0, .inl (cI, 4, .inl op)), (o1, .inl (cZ, 145, .inl oe)), (hn, .inr (4, [.ref hb, .ref hm, .ref n0, .ref n1, .ref n2, .ref n3, .int nr, .int nz, .int nt, .int nd])), (n0, .inl (cI, 3784, .inl na)), (n1, .inl (cI, 15136, .inl nx)), (n2, .inl (cJ, 3784, .inr (.inl fn2_10))), (n3, .inl (cI, 8192, .inl ns)), (hm, .inr (3, [.ref hb, .int mn, .int mo, .int mu, .int mg, .int mt, .int mb])), (hb, .inr (0, [.ref b0, .ref b1, .ref b2, .ref b3, .ref b4, .ref b5, .ref b6, .int wc, .int la, .int br])), (b0, .inl (cI, 4, .inl pa)), (b1, .inl (cI, 16, .inl mi)), (b2, .inl (cI, 4, .inl ga)), (b3, .inl (cI, 4, .inl te)), (b4, .inl (cI, 4, .inl kn)), (b5, .inl (cI, 6, .inl wa)), (b6, .inl (cI, 16, .inl ne))] [(1, .int x1_10), (0, .ref ho)] [] 10 0 0 := by
    intro n_10
    induction n_10 with
    | zero =>
      intro x1_10 fn2_10 i_10 m_10
      exact absurd m_10 (Nat.not_lt_zero _)
    | succ n_10 ih_10 =>
      intro x1_10 fn2_10 i_10 m_10
      refine x_iload_n C 0 dX5_evenings_10 rfl rfl ?_
      refine x_if_lt C 98 dX5_evenings_11 (by decide) (fun c_11 => ?_) (fun c_11 => ?_)
      · skip
        have e_11 : (x1_10 : Int32).toInt < (0 : Int32).toInt := i_lt.mp c_11
        have : (0 : Int32).toInt = 0 := by decide
        refine x_aload_n C 1 dX5_evenings_98 rfl rfl ?_
        refine x_get C 0 1 dX5_evenings_99 inlX5 rfl (by decide) wd_99 rfl rfl rfl ?_
        refine x_getN C 3 4 dX5_evenings_102 inlX4 rfl (by decide) nt_34 rfl rfl rfl ?_
        refine x_iconst C 0 dX5_evenings_105 (by decide) ?_
        have v_106 : vp_in 0 3784 := (vp_in_iff.mpr (by decide))
        refine x_lald C 6 1 dX5_evenings_106 hT.2.1 rfl v_106 ?_
        exact x_lret C dX5_evenings_107 (Nat.zero_le _) (Nat.zero_le _) (by rw [eO]; exact ⟨(fn2_10 (Int32.toNatClampNeg 0)), fn2_10, rfl, rfl, ⟨by rw [show (-1 : Int) = x1_10.toInt by omega]; exact i_10.2, rfl⟩⟩)
      · skip
        have e_11 : ¬ ((x1_10 : Int32).toInt < (0 : Int32).toInt) := fun h => c_11 (i_lt.mpr h)
        have : (0 : Int32).toInt = 0 := by decide
        refine x_aload_n C 1 dX5_evenings_14 rfl rfl ?_
        refine x_get C 0 1 dX5_evenings_15 inlX5 rfl (by decide) wd_99 rfl rfl rfl ?_
        refine x_iload_n C 0 dX5_evenings_18 rfl rfl ?_
        refine x_callV C [.int x1_10] [(ho, .inr (5, [.ref hb, .ref hn, .ref o0, .ref o1])), (o0, .inl (cI, 4, .inl op)), (o1, .inl (cZ, 145, .inl oe))] [3, 4, 5, 6, 7, 8, 9, 10, 11, 12, 13, 14, 15, 16] [0, 1, 2] (q0 := 0) (c_X4_isAllOut (xl X) (xD X) (xt X) hT hn n0 n1 n2 n3 na nx ns fn2_10 nr nz nt nd hm mn mo mu mg mt mb hb b0 b1 b2 b3 b4 b5 b6 pa mi ga te kn wa ne wc la br x1_10 (by omega)) dX5_evenings_19 wd_546 wd_547 wd_548 wd_28 wd_549 (np := 1) ⟨by decide, by decide, by decide +kernel⟩ rfl rfl (Nat.le_of_ble_eq_true rfl) (by decide) rfl rfl rfl rfl (by decide) rfl (by decide) (by decide) (fun v W1 h => ?_)
        obtain ⟨r_19, rfl, rfl, h_19⟩ := h
        show V X 6 [(ho, .inr (5, [.ref hb, .ref hn, .ref o0, .ref o1])), (o0, .inl (cI, 4, .inl op)), (o1, .inl (cZ, 145, .inl oe)), (hn, .inr (4, [.ref hb, .ref hm, .ref n0, .ref n1, .ref n2, .ref n3, .int nr, .int nz, .int nt, .int nd])), (n0, .inl (cI, 3784, .inl na)), (n1, .inl (cI, 15136, .inl nx)), (n2, .inl (cJ, 3784, .inr (.inl fn2_10))), (n3, .inl (cI, 8192, .inl ns)), (hm, .inr (3, [.ref hb, .int mn, .int mo, .int mu, .int mg, .int mt, .int mb])), (hb, .inr (0, [.ref b0, .ref b1, .ref b2, .ref b3, .ref b4, .ref b5, .ref b6, .int wc, .int la, .int br])), (b0, .inl (cI, 4, .inl pa)), (b1, .inl (cI, 16, .inl mi)), (b2, .inl (cI, 4, .inl ga)), (b3, .inl (cI, 4, .inl te)), (b4, .inl (cI, 4, .inl kn)), (b5, .inl (cI, 6, .inl wa)), (b6, .inl (cI, 16, .inl ne))] [(1, .int x1_10), (0, .ref ho)] [.int r_19] 22 0 0
        refine x_if_eq C 29 dX5_evenings_22 (by decide) (fun c_22 => ?_) (fun c_22 => ?_)
        · skip
          have e_22 : (r_19 : Int32).toInt = (0 : Int32).toInt := i_eq.mp c_22
          have : (0 : Int32).toInt = 0 := by decide
          refine x_lconst C 0 dX5_evenings_29 (by decide) ?_
          refine x_lstore_n C [(2, .long 0), (1, .int x1_10), (0, .ref ho)] dX5_evenings_30 rfl (by decide) rfl ?_
          refine x_iconst C 0 dX5_evenings_31 (by decide) ?_
          refine x_istore C [(4, .int 0), (2, .long 0), (1, .int x1_10), (0, .ref ho)] dX5_evenings_32 (by decide) rfl ?_
          have L_34 : ∀ (n_34 : Nat) (x4_34 : Int32) (x2_34 : Int64), ((0 ≤ x4_34.toInt ∧ x4_34.toInt ≤ 4) ∧ x2_34 = swC nx nz fn2_10 x1_10.toInt.toNat (aoW pa na nt x1_10.toInt.toNat) x4_34.toInt.toNat) → ((4 - x4_34.toInt).toNat < n_34) → V X 6 [(ho, .inr (5, [.ref hb, .ref hn, .ref o0, .ref o1])), (o0, .inl (cI, 4, .inl op)), (o1, .inl (cZ, 145, .inl oe)), (hn, .inr (4, [.ref hb, .ref hm, .ref n0, .ref n1, .ref n2, .ref n3, .int nr, .int nz, .int nt, .int nd])), (n0, .inl (cI, 3784, .inl na)), (n1, .inl (cI, 15136, .inl nx)), (n2, .inl (cJ, 3784, .inr (.inl fn2_10))), (n3, .inl (cI, 8192, .inl ns)), (hm, .inr (3, [.ref hb, .int mn, .int mo, .int mu, .int mg, .int mt, .int mb])), (hb, .inr (0, [.ref b0, .ref b1, .ref b2, .ref b3, .ref b4, .ref b5, .ref b6, .int wc, .int la, .int br])), (b0, .inl (cI, 4, .inl pa)), (b1, .inl (cI, 16, .inl mi)), (b2, .inl (cI, 4, .inl ga)), (b3, .inl (cI, 4, .inl te)), (b4, .inl (cI, 4, .inl kn)), (b5, .inl (cI, 6, .inl wa)), (b6, .inl (cI, 16, .inl ne))] [(4, .int x4_34), (2, .long x2_34), (1, .int x1_10), (0, .ref ho)] [] 34 0 0 := by
            intro n_34
            induction n_34 with
            | zero =>
              intro x4_34 x2_34 i_34 m_34
              exact absurd m_34 (Nat.not_lt_zero _)
            | succ n_34 ih_34 =>
              intro x4_34 x2_34 i_34 m_34
              refine x_iload C 0 dX5_evenings_34 rfl ?_
              refine x_iconst C 4 dX5_evenings_36 (by decide) ?_
              refine x_icmp_ge C 82 dX5_evenings_37 (by decide) (fun c_37 => ?_) (fun c_37 => ?_)
              · skip
                have e_37 : (4 : Int32).toInt ≤ (x4_34 : Int32).toInt := i_le.mp c_37
                have : (4 : Int32).toInt = 4 := by decide
                refine x_aload_n C 3 dX5_evenings_82 rfl rfl ?_
                refine x_get C 0 1 dX5_evenings_83 inlX5 rfl (by decide) wd_99 rfl rfl rfl ?_
                refine x_getN C 3 4 dX5_evenings_86 inlX4 rfl (by decide) nt_34 rfl rfl rfl ?_
                refine x_iload_n C 2 dX5_evenings_89 rfl rfl ?_
                refine x_lload_n C 1 dX5_evenings_90 rfl rfl ?_
                have v_91 : vp_in x1_10 3784 := (vp_in_iff.mpr (by omega))
                refine x_last C 6 1 [(ho, .inr (5, [.ref hb, .ref hn, .ref o0, .ref o1])), (o0, .inl (cI, 4, .inl op)), (o1, .inl (cZ, 145, .inl oe)), (hn, .inr (4, [.ref hb, .ref hm, .ref n0, .ref n1, .ref n2, .ref n3, .int nr, .int nz, .int nt, .int nd])), (n0, .inl (cI, 3784, .inl na)), (n1, .inl (cI, 15136, .inl nx)), (n2, .inl (cJ, 3784, .inr (.inl (vp_updL fn2_10 (Int32.toNatClampNeg x1_10) x2_34)))), (n3, .inl (cI, 8192, .inl ns)), (hm, .inr (3, [.ref hb, .int mn, .int mo, .int mu, .int mg, .int mt, .int mb])), (hb, .inr (0, [.ref b0, .ref b1, .ref b2, .ref b3, .ref b4, .ref b5, .ref b6, .int wc, .int la, .int br])), (b0, .inl (cI, 4, .inl pa)), (b1, .inl (cI, 16, .inl mi)), (b2, .inl (cI, 4, .inl ga)), (b3, .inl (cI, 4, .inl te)), (b4, .inl (cI, 4, .inl kn)), (b5, .inl (cI, 6, .inl wa)), (b6, .inl (cI, 16, .inl ne))] dX5_evenings_91 hT.2.1 rfl v_91 rfl ?_
                refine x_iinc C 2 (x1_10 - 1) [(1, .int (x1_10 - 1)), (4, .int x4_34), (2, .long x2_34), (0, .ref ho)] dX5_evenings_92 rfl (i_m1 _) (by decide) rfl ?_
                refine x_goto C 10 dX5_evenings_95 (by decide) ?_
                refine x_lv [(1, .int (x1_10 - 1)), (0, .ref ho)] [0, 3] rfl ?_
                have : (1 : Int32).toInt = 1 := by decide
                have := i_sub (x := x1_10) (y := 1) (by omega) (by omega)
                exact ih_10 (x1_10 - 1) (vp_updL fn2_10 (Int32.toNatClampNeg x1_10) x2_34) ⟨by omega, i_10.2.put hup (by omega) (by omega) (by rw [i_34.2, show x4_34.toInt.toNat = 4 by omega])⟩ (by omega)
              · skip
                have e_37 : ¬ ((4 : Int32).toInt ≤ (x4_34 : Int32).toInt) := fun h => c_37 (i_le.mpr h)
                have : (4 : Int32).toInt = 4 := by decide
                refine x_aload_n C 3 dX5_evenings_40 rfl rfl ?_
                refine x_get C 0 1 dX5_evenings_41 inlX5 rfl (by decide) wd_99 rfl rfl rfl ?_
                refine x_iload_n C 2 dX5_evenings_44 rfl rfl ?_
                refine x_iload C 0 dX5_evenings_45 rfl ?_
                refine x_callV C [.int x1_10, .int x4_34] [(ho, .inr (5, [.ref hb, .ref hn, .ref o0, .ref o1])), (o0, .inl (cI, 4, .inl op)), (o1, .inl (cZ, 145, .inl oe))] [3, 4, 5, 6, 7, 8, 9, 10, 11, 12, 13, 14, 15, 16] [0, 1, 2] (q0 := 0) (c_X4_nodeAfter (xl X) (xD X) (xt X) hT hn n0 n1 n2 n3 na nx ns fn2_10 nr nz nt nd hm mn mo mu mg mt mb hb b0 b1 b2 b3 b4 b5 b6 pa mi ga te kn wa ne wc la br x1_10 x4_34 (by omega) (by omega) (by omega)) dX5_evenings_47 wd_555 wd_556 wd_557 wd_28 wd_558 (np := 2) ⟨by decide, by decide, by decide +kernel⟩ rfl rfl (Nat.le_of_ble_eq_true rfl) (by decide) rfl rfl rfl rfl (by decide) rfl (by decide) (by decide) (fun v W1 h => ?_)
                obtain ⟨r_47, rfl, rfl, h_47⟩ := h
                show V X 6 [(ho, .inr (5, [.ref hb, .ref hn, .ref o0, .ref o1])), (o0, .inl (cI, 4, .inl op)), (o1, .inl (cZ, 145, .inl oe)), (hn, .inr (4, [.ref hb, .ref hm, .ref n0, .ref n1, .ref n2, .ref n3, .int nr, .int nz, .int nt, .int nd])), (n0, .inl (cI, 3784, .inl na)), (n1, .inl (cI, 15136, .inl nx)), (n2, .inl (cJ, 3784, .inr (.inl fn2_10))), (n3, .inl (cI, 8192, .inl ns)), (hm, .inr (3, [.ref hb, .int mn, .int mo, .int mu, .int mg, .int mt, .int mb])), (hb, .inr (0, [.ref b0, .ref b1, .ref b2, .ref b3, .ref b4, .ref b5, .ref b6, .int wc, .int la, .int br])), (b0, .inl (cI, 4, .inl pa)), (b1, .inl (cI, 16, .inl mi)), (b2, .inl (cI, 4, .inl ga)), (b3, .inl (cI, 4, .inl te)), (b4, .inl (cI, 4, .inl kn)), (b5, .inl (cI, 6, .inl wa)), (b6, .inl (cI, 16, .inl ne))] [(4, .int x4_34), (2, .long x2_34), (1, .int x1_10), (0, .ref ho)] [.int r_47] 50 0 0
                refine x_istore C [(5, .int r_47), (4, .int x4_34), (2, .long x2_34), (1, .int x1_10), (0, .ref ho)] dX5_evenings_50 (by decide) rfl ?_
                refine x_lload_n C 2 dX5_evenings_52 rfl rfl ?_
                refine x_iload C 0 dX5_evenings_53 rfl ?_
                refine x_bipush C (-6) dX5_evenings_55 (by decide) ?_
                refine x_icmp_ne C 64 dX5_evenings_57 (by decide) (fun c_57 => ?_) (fun c_57 => ?_)
                · skip
                  have e_57 : ¬ ((r_47 : Int32).toInt = ((-6) : Int32).toInt) := fun h => c_57 (i_eq.mpr h)
                  have : ((-6) : Int32).toInt = -6 := by decide
                  refine x_aload_n C 4 dX5_evenings_64 rfl rfl ?_
                  refine x_get C 0 1 dX5_evenings_65 inlX5 rfl (by decide) wd_99 rfl rfl rfl ?_
                  refine x_getN C 3 4 dX5_evenings_68 inlX4 rfl (by decide) nt_34 rfl rfl rfl ?_
                  refine x_iload C 0 dX5_evenings_71 rfl ?_
                  have v_73 : vp_in r_47 3784 := (vp_in_iff.mpr (by omega))
                  refine x_lald C 6 1 dX5_evenings_73 hT.2.1 rfl v_73 ?_
                  refine x_ladd C dX5_evenings_74 ?_
                  refine x_lstore_n C [(2, .long (x2_34 + (fn2_10 (Int32.toNatClampNeg r_47)))), (5, .int r_47), (4, .int x4_34), (1, .int x1_10), (0, .ref ho)] dX5_evenings_75 rfl (by decide) rfl ?_
                  refine x_iinc C 2 (x4_34 + 1) [(4, .int (x4_34 + 1)), (2, .long (x2_34 + (fn2_10 (Int32.toNatClampNeg r_47)))), (5, .int r_47), (1, .int x1_10), (0, .ref ho)] dX5_evenings_76 rfl rfl (by decide) rfl ?_
                  refine x_goto C 34 dX5_evenings_79 (by decide) ?_
                  refine x_lv [(4, .int (x4_34 + 1)), (2, .long (x2_34 + (fn2_10 (Int32.toNatClampNeg r_47)))), (1, .int x1_10), (0, .ref ho)] [0, 1, 3, 4] rfl ?_
                  have : (1 : Int32).toInt = 1 := by decide
                  have := i_add (x := x4_34) (y := 1) (by omega) (by omega)
                  exact ih_34 (x4_34 + 1) (x2_34 + (fn2_10 (Int32.toNatClampNeg r_47))) ⟨by omega, by rw [swC_p (nx := nx) (nz := nz) (a := x1_10) (s := x4_34) (nw := fn2_10) (w0 := aoW pa na nt x1_10.toInt.toNat) (by omega) (by omega) (by omega) (by rw [← h_47.2]; exact c_57), ← i_34.2, ← h_47.2]⟩ (by omega)
                · skip
                  have e_57 : (r_47 : Int32).toInt = ((-6) : Int32).toInt := i_eq.mp c_57
                  have : ((-6) : Int32).toInt = -6 := by decide
                  refine x_lconst C 0 dX5_evenings_60 (by decide) ?_
                  refine x_goto C 74 dX5_evenings_61 (by decide) ?_
                  refine x_ladd C dX5_evenings_74 ?_
                  refine x_lstore_n C [(2, .long (x2_34 + 0)), (5, .int r_47), (4, .int x4_34), (1, .int x1_10), (0, .ref ho)] dX5_evenings_75 rfl (by decide) rfl ?_
                  refine x_iinc C 2 (x4_34 + 1) [(4, .int (x4_34 + 1)), (2, .long (x2_34 + 0)), (5, .int r_47), (1, .int x1_10), (0, .ref ho)] dX5_evenings_76 rfl rfl (by decide) rfl ?_
                  refine x_goto C 34 dX5_evenings_79 (by decide) ?_
                  refine x_lv [(4, .int (x4_34 + 1)), (2, .long (x2_34 + 0)), (1, .int x1_10), (0, .ref ho)] [0, 1, 3, 4] rfl ?_
                  have : (1 : Int32).toInt = 1 := by decide
                  have := i_add (x := x4_34) (y := 1) (by omega) (by omega)
                  exact ih_34 (x4_34 + 1) (x2_34 + 0) ⟨by omega, by rw [swC_n (nx := nx) (nz := nz) (a := x1_10) (s := x4_34) (nw := fn2_10) (w0 := aoW pa na nt x1_10.toInt.toNat) (by omega) (by omega) (by omega) (by rw [← h_47.2]; exact c_57), ← i_34.2]⟩ (by omega)
          have : (0 : Int32).toInt = 0 := by decide
          exact L_34 _ 0 0 ⟨by omega, by rw [t0_]; exact (ifc_f (h_19.f (by omega))).symm⟩ (Nat.lt_succ_self _)
        · skip
          have e_22 : ¬ ((r_19 : Int32).toInt = (0 : Int32).toInt) := fun h => c_22 (i_eq.mpr h)
          have : (0 : Int32).toInt = 0 := by decide
          refine x_lconst C 1 dX5_evenings_25 (by decide) ?_
          refine x_goto C 30 dX5_evenings_26 (by decide) ?_
          refine x_lstore_n C [(2, .long 1), (1, .int x1_10), (0, .ref ho)] dX5_evenings_30 rfl (by decide) rfl ?_
          refine x_iconst C 0 dX5_evenings_31 (by decide) ?_
          refine x_istore C [(4, .int 0), (2, .long 1), (1, .int x1_10), (0, .ref ho)] dX5_evenings_32 (by decide) rfl ?_
          have L_34 : ∀ (n_34 : Nat) (x4_34 : Int32) (x2_34 : Int64), ((0 ≤ x4_34.toInt ∧ x4_34.toInt ≤ 4) ∧ x2_34 = swC nx nz fn2_10 x1_10.toInt.toNat (aoW pa na nt x1_10.toInt.toNat) x4_34.toInt.toNat) → ((4 - x4_34.toInt).toNat < n_34) → V X 6 [(ho, .inr (5, [.ref hb, .ref hn, .ref o0, .ref o1])), (o0, .inl (cI, 4, .inl op)), (o1, .inl (cZ, 145, .inl oe)), (hn, .inr (4, [.ref hb, .ref hm, .ref n0, .ref n1, .ref n2, .ref n3, .int nr, .int nz, .int nt, .int nd])), (n0, .inl (cI, 3784, .inl na)), (n1, .inl (cI, 15136, .inl nx)), (n2, .inl (cJ, 3784, .inr (.inl fn2_10))), (n3, .inl (cI, 8192, .inl ns)), (hm, .inr (3, [.ref hb, .int mn, .int mo, .int mu, .int mg, .int mt, .int mb])), (hb, .inr (0, [.ref b0, .ref b1, .ref b2, .ref b3, .ref b4, .ref b5, .ref b6, .int wc, .int la, .int br])), (b0, .inl (cI, 4, .inl pa)), (b1, .inl (cI, 16, .inl mi)), (b2, .inl (cI, 4, .inl ga)), (b3, .inl (cI, 4, .inl te)), (b4, .inl (cI, 4, .inl kn)), (b5, .inl (cI, 6, .inl wa)), (b6, .inl (cI, 16, .inl ne))] [(4, .int x4_34), (2, .long x2_34), (1, .int x1_10), (0, .ref ho)] [] 34 0 0 := by
            intro n_34
            induction n_34 with
            | zero =>
              intro x4_34 x2_34 i_34 m_34
              exact absurd m_34 (Nat.not_lt_zero _)
            | succ n_34 ih_34 =>
              intro x4_34 x2_34 i_34 m_34
              refine x_iload C 0 dX5_evenings_34 rfl ?_
              refine x_iconst C 4 dX5_evenings_36 (by decide) ?_
              refine x_icmp_ge C 82 dX5_evenings_37 (by decide) (fun c_37 => ?_) (fun c_37 => ?_)
              · skip
                have e_37 : (4 : Int32).toInt ≤ (x4_34 : Int32).toInt := i_le.mp c_37
                have : (4 : Int32).toInt = 4 := by decide
                refine x_aload_n C 3 dX5_evenings_82 rfl rfl ?_
                refine x_get C 0 1 dX5_evenings_83 inlX5 rfl (by decide) wd_99 rfl rfl rfl ?_
                refine x_getN C 3 4 dX5_evenings_86 inlX4 rfl (by decide) nt_34 rfl rfl rfl ?_
                refine x_iload_n C 2 dX5_evenings_89 rfl rfl ?_
                refine x_lload_n C 1 dX5_evenings_90 rfl rfl ?_
                have v_91 : vp_in x1_10 3784 := (vp_in_iff.mpr (by omega))
                refine x_last C 6 1 [(ho, .inr (5, [.ref hb, .ref hn, .ref o0, .ref o1])), (o0, .inl (cI, 4, .inl op)), (o1, .inl (cZ, 145, .inl oe)), (hn, .inr (4, [.ref hb, .ref hm, .ref n0, .ref n1, .ref n2, .ref n3, .int nr, .int nz, .int nt, .int nd])), (n0, .inl (cI, 3784, .inl na)), (n1, .inl (cI, 15136, .inl nx)), (n2, .inl (cJ, 3784, .inr (.inl (vp_updL fn2_10 (Int32.toNatClampNeg x1_10) x2_34)))), (n3, .inl (cI, 8192, .inl ns)), (hm, .inr (3, [.ref hb, .int mn, .int mo, .int mu, .int mg, .int mt, .int mb])), (hb, .inr (0, [.ref b0, .ref b1, .ref b2, .ref b3, .ref b4, .ref b5, .ref b6, .int wc, .int la, .int br])), (b0, .inl (cI, 4, .inl pa)), (b1, .inl (cI, 16, .inl mi)), (b2, .inl (cI, 4, .inl ga)), (b3, .inl (cI, 4, .inl te)), (b4, .inl (cI, 4, .inl kn)), (b5, .inl (cI, 6, .inl wa)), (b6, .inl (cI, 16, .inl ne))] dX5_evenings_91 hT.2.1 rfl v_91 rfl ?_
                refine x_iinc C 2 (x1_10 - 1) [(1, .int (x1_10 - 1)), (4, .int x4_34), (2, .long x2_34), (0, .ref ho)] dX5_evenings_92 rfl (i_m1 _) (by decide) rfl ?_
                refine x_goto C 10 dX5_evenings_95 (by decide) ?_
                refine x_lv [(1, .int (x1_10 - 1)), (0, .ref ho)] [0, 3] rfl ?_
                have : (1 : Int32).toInt = 1 := by decide
                have := i_sub (x := x1_10) (y := 1) (by omega) (by omega)
                exact ih_10 (x1_10 - 1) (vp_updL fn2_10 (Int32.toNatClampNeg x1_10) x2_34) ⟨by omega, i_10.2.put hup (by omega) (by omega) (by rw [i_34.2, show x4_34.toInt.toNat = 4 by omega])⟩ (by omega)
              · skip
                have e_37 : ¬ ((4 : Int32).toInt ≤ (x4_34 : Int32).toInt) := fun h => c_37 (i_le.mpr h)
                have : (4 : Int32).toInt = 4 := by decide
                refine x_aload_n C 3 dX5_evenings_40 rfl rfl ?_
                refine x_get C 0 1 dX5_evenings_41 inlX5 rfl (by decide) wd_99 rfl rfl rfl ?_
                refine x_iload_n C 2 dX5_evenings_44 rfl rfl ?_
                refine x_iload C 0 dX5_evenings_45 rfl ?_
                refine x_callV C [.int x1_10, .int x4_34] [(ho, .inr (5, [.ref hb, .ref hn, .ref o0, .ref o1])), (o0, .inl (cI, 4, .inl op)), (o1, .inl (cZ, 145, .inl oe))] [3, 4, 5, 6, 7, 8, 9, 10, 11, 12, 13, 14, 15, 16] [0, 1, 2] (q0 := 0) (c_X4_nodeAfter (xl X) (xD X) (xt X) hT hn n0 n1 n2 n3 na nx ns fn2_10 nr nz nt nd hm mn mo mu mg mt mb hb b0 b1 b2 b3 b4 b5 b6 pa mi ga te kn wa ne wc la br x1_10 x4_34 (by omega) (by omega) (by omega)) dX5_evenings_47 wd_555 wd_556 wd_557 wd_28 wd_558 (np := 2) ⟨by decide, by decide, by decide +kernel⟩ rfl rfl (Nat.le_of_ble_eq_true rfl) (by decide) rfl rfl rfl rfl (by decide) rfl (by decide) (by decide) (fun v W1 h => ?_)
                obtain ⟨r_47, rfl, rfl, h_47⟩ := h
                show V X 6 [(ho, .inr (5, [.ref hb, .ref hn, .ref o0, .ref o1])), (o0, .inl (cI, 4, .inl op)), (o1, .inl (cZ, 145, .inl oe)), (hn, .inr (4, [.ref hb, .ref hm, .ref n0, .ref n1, .ref n2, .ref n3, .int nr, .int nz, .int nt, .int nd])), (n0, .inl (cI, 3784, .inl na)), (n1, .inl (cI, 15136, .inl nx)), (n2, .inl (cJ, 3784, .inr (.inl fn2_10))), (n3, .inl (cI, 8192, .inl ns)), (hm, .inr (3, [.ref hb, .int mn, .int mo, .int mu, .int mg, .int mt, .int mb])), (hb, .inr (0, [.ref b0, .ref b1, .ref b2, .ref b3, .ref b4, .ref b5, .ref b6, .int wc, .int la, .int br])), (b0, .inl (cI, 4, .inl pa)), (b1, .inl (cI, 16, .inl mi)), (b2, .inl (cI, 4, .inl ga)), (b3, .inl (cI, 4, .inl te)), (b4, .inl (cI, 4, .inl kn)), (b5, .inl (cI, 6, .inl wa)), (b6, .inl (cI, 16, .inl ne))] [(4, .int x4_34), (2, .long x2_34), (1, .int x1_10), (0, .ref ho)] [.int r_47] 50 0 0
                refine x_istore C [(5, .int r_47), (4, .int x4_34), (2, .long x2_34), (1, .int x1_10), (0, .ref ho)] dX5_evenings_50 (by decide) rfl ?_
                refine x_lload_n C 2 dX5_evenings_52 rfl rfl ?_
                refine x_iload C 0 dX5_evenings_53 rfl ?_
                refine x_bipush C (-6) dX5_evenings_55 (by decide) ?_
                refine x_icmp_ne C 64 dX5_evenings_57 (by decide) (fun c_57 => ?_) (fun c_57 => ?_)
                · skip
                  have e_57 : ¬ ((r_47 : Int32).toInt = ((-6) : Int32).toInt) := fun h => c_57 (i_eq.mpr h)
                  have : ((-6) : Int32).toInt = -6 := by decide
                  refine x_aload_n C 4 dX5_evenings_64 rfl rfl ?_
                  refine x_get C 0 1 dX5_evenings_65 inlX5 rfl (by decide) wd_99 rfl rfl rfl ?_
                  refine x_getN C 3 4 dX5_evenings_68 inlX4 rfl (by decide) nt_34 rfl rfl rfl ?_
                  refine x_iload C 0 dX5_evenings_71 rfl ?_
                  have v_73 : vp_in r_47 3784 := (vp_in_iff.mpr (by omega))
                  refine x_lald C 6 1 dX5_evenings_73 hT.2.1 rfl v_73 ?_
                  refine x_ladd C dX5_evenings_74 ?_
                  refine x_lstore_n C [(2, .long (x2_34 + (fn2_10 (Int32.toNatClampNeg r_47)))), (5, .int r_47), (4, .int x4_34), (1, .int x1_10), (0, .ref ho)] dX5_evenings_75 rfl (by decide) rfl ?_
                  refine x_iinc C 2 (x4_34 + 1) [(4, .int (x4_34 + 1)), (2, .long (x2_34 + (fn2_10 (Int32.toNatClampNeg r_47)))), (5, .int r_47), (1, .int x1_10), (0, .ref ho)] dX5_evenings_76 rfl rfl (by decide) rfl ?_
                  refine x_goto C 34 dX5_evenings_79 (by decide) ?_
                  refine x_lv [(4, .int (x4_34 + 1)), (2, .long (x2_34 + (fn2_10 (Int32.toNatClampNeg r_47)))), (1, .int x1_10), (0, .ref ho)] [0, 1, 3, 4] rfl ?_
                  have : (1 : Int32).toInt = 1 := by decide
                  have := i_add (x := x4_34) (y := 1) (by omega) (by omega)
                  exact ih_34 (x4_34 + 1) (x2_34 + (fn2_10 (Int32.toNatClampNeg r_47))) ⟨by omega, by rw [swC_p (nx := nx) (nz := nz) (a := x1_10) (s := x4_34) (nw := fn2_10) (w0 := aoW pa na nt x1_10.toInt.toNat) (by omega) (by omega) (by omega) (by rw [← h_47.2]; exact c_57), ← i_34.2, ← h_47.2]⟩ (by omega)
                · skip
                  have e_57 : (r_47 : Int32).toInt = ((-6) : Int32).toInt := i_eq.mp c_57
                  have : ((-6) : Int32).toInt = -6 := by decide
                  refine x_lconst C 0 dX5_evenings_60 (by decide) ?_
                  refine x_goto C 74 dX5_evenings_61 (by decide) ?_
                  refine x_ladd C dX5_evenings_74 ?_
                  refine x_lstore_n C [(2, .long (x2_34 + 0)), (5, .int r_47), (4, .int x4_34), (1, .int x1_10), (0, .ref ho)] dX5_evenings_75 rfl (by decide) rfl ?_
                  refine x_iinc C 2 (x4_34 + 1) [(4, .int (x4_34 + 1)), (2, .long (x2_34 + 0)), (5, .int r_47), (1, .int x1_10), (0, .ref ho)] dX5_evenings_76 rfl rfl (by decide) rfl ?_
                  refine x_goto C 34 dX5_evenings_79 (by decide) ?_
                  refine x_lv [(4, .int (x4_34 + 1)), (2, .long (x2_34 + 0)), (1, .int x1_10), (0, .ref ho)] [0, 1, 3, 4] rfl ?_
                  have : (1 : Int32).toInt = 1 := by decide
                  have := i_add (x := x4_34) (y := 1) (by omega) (by omega)
                  exact ih_34 (x4_34 + 1) (x2_34 + 0) ⟨by omega, by rw [swC_n (nx := nx) (nz := nz) (a := x1_10) (s := x4_34) (nw := fn2_10) (w0 := aoW pa na nt x1_10.toInt.toNat) (by omega) (by omega) (by omega) (by rw [← h_47.2]; exact c_57), ← i_34.2]⟩ (by omega)
          have : (0 : Int32).toInt = 0 := by decide
          exact L_34 _ 0 1 ⟨by omega, by rw [t0_]; exact (ifc_t (h_19.t (by omega))).symm⟩ (Nat.lt_succ_self _)
  have : (1 : Int32).toInt = 1 := by decide
  have := i_sub (x := nz) (y := 1) (by omega) (by omega)
  exact L_10 _ (nz - 1) nw ⟨by omega, fun i h1 h2 => by exfalso; omega⟩ (Nat.lt_succ_self _)
abbrev rm_X5_priceOf : Room := { frames := 2, cells := 0, slots := 0, locals := 45 }
set_option maxHeartbeats 4000000 in
set_option maxRecDepth 100000 in
theorem c_X5_priceOf (l : Launch) (D : va_G) (tys : List (ClassId × FieldType)) {cI cJ cZ cB : ClassId} (hT : Ty tys cI cJ cZ cB) (ho o0 o1 : Nat) (op oe : Nat → Int32) (hn n0 n1 n2 n3 : Nat) (na nx ns : Nat → Int32) (nw : Nat → Int64) (nr nz nt nd : Int32) (hm : Nat) (mn mo mu mg mt mb : Int32) (hb b0 b1 b2 b3 b4 b5 b6 : Nat) (pa mi ga te kn wa ne : Nat → Int32) (wc la br : Int32) (a s t : Int32) (hz : 0 ≤ nz.toInt ∧ nz.toInt ≤ 3784) (hnode : 0 ≤ a.toInt ∧ a.toInt < 3784) (hs0 : 0 ≤ s.toInt ∧ s.toInt ≤ 3) : Cn l D tys yX5_priceOf cX5_priceOf 7 (some .int) rm_X5_priceOf [(ho, .inr (5, [.ref hb, .ref hn, .ref o0, .ref o1])), (o0, .inl (cI, 4, .inl op)), (o1, .inl (cZ, 145, .inl oe)), (hn, .inr (4, [.ref hb, .ref hm, .ref n0, .ref n1, .ref n2, .ref n3, .int nr, .int nz, .int nt, .int nd])), (n0, .inl (cI, 3784, .inl na)), (n1, .inl (cI, 15136, .inl nx)), (n2, .inl (cJ, 3784, .inr (.inl nw))), (n3, .inl (cI, 8192, .inl ns)), (hm, .inr (3, [.ref hb, .int mn, .int mo, .int mu, .int mg, .int mt, .int mb])), (hb, .inr (0, [.ref b0, .ref b1, .ref b2, .ref b3, .ref b4, .ref b5, .ref b6, .int wc, .int la, .int br])), (b0, .inl (cI, 4, .inl pa)), (b1, .inl (cI, 16, .inl mi)), (b2, .inl (cI, 4, .inl ga)), (b3, .inl (cI, 4, .inl te)), (b4, .inl (cI, 4, .inl kn)), (b5, .inl (cI, 6, .inl wa)), (b6, .inl (cI, 16, .inl ne))] [.ref ho, .int a, .int s, .int t] (fun v W1 => ∃ (r : Int32), v = some (.int r) ∧ W1 = [(ho, .inr (5, [.ref hb, .ref hn, .ref o0, .ref o1])), (o0, .inl (cI, 4, .inl op)), (o1, .inl (cZ, 145, .inl oe)), (hn, .inr (4, [.ref hb, .ref hm, .ref n0, .ref n1, .ref n2, .ref n3, .int nr, .int nz, .int nt, .int nd])), (n0, .inl (cI, 3784, .inl na)), (n1, .inl (cI, 15136, .inl nx)), (n2, .inl (cJ, 3784, .inr (.inl nw))), (n3, .inl (cI, 8192, .inl ns)), (hm, .inr (3, [.ref hb, .int mn, .int mo, .int mu, .int mg, .int mt, .int mb])), (hb, .inr (0, [.ref b0, .ref b1, .ref b2, .ref b3, .ref b4, .ref b5, .ref b6, .int wc, .int la, .int br])), (b0, .inl (cI, 4, .inl pa)), (b1, .inl (cI, 16, .inl mi)), (b2, .inl (cI, 4, .inl ga)), (b3, .inl (cI, 4, .inl te)), (b4, .inl (cI, 4, .inl kn)), (b5, .inl (cI, 6, .inl wa)), (b6, .inl (cI, 16, .inl ne))] ∧ (True)) := by
  refine Cn.of (by decide) (Nat.le_of_ble_eq_true rfl) ?_ ?_ (fun X eL eD eT eO eK eN eM C => ?_)
  · intro h; cases h
  · intro v ws h; obtain ⟨_, rfl, rfl, _⟩ := h; exact Or.inl rfl
  subst eL eD eT
  show V X 7 [(ho, .inr (5, [.ref hb, .ref hn, .ref o0, .ref o1])), (o0, .inl (cI, 4, .inl op)), (o1, .inl (cZ, 145, .inl oe)), (hn, .inr (4, [.ref hb, .ref hm, .ref n0, .ref n1, .ref n2, .ref n3, .int nr, .int nz, .int nt, .int nd])), (n0, .inl (cI, 3784, .inl na)), (n1, .inl (cI, 15136, .inl nx)), (n2, .inl (cJ, 3784, .inr (.inl nw))), (n3, .inl (cI, 8192, .inl ns)), (hm, .inr (3, [.ref hb, .int mn, .int mo, .int mu, .int mg, .int mt, .int mb])), (hb, .inr (0, [.ref b0, .ref b1, .ref b2, .ref b3, .ref b4, .ref b5, .ref b6, .int wc, .int la, .int br])), (b0, .inl (cI, 4, .inl pa)), (b1, .inl (cI, 16, .inl mi)), (b2, .inl (cI, 4, .inl ga)), (b3, .inl (cI, 4, .inl te)), (b4, .inl (cI, 4, .inl kn)), (b5, .inl (cI, 6, .inl wa)), (b6, .inl (cI, 16, .inl ne))] [(0, .ref ho), (1, .int a), (2, .int s), (3, .int t)] [] 0 0 0
  refine x_aload_n C 0 dX5_priceOf_0 rfl rfl ?_
  refine x_get C 0 1 dX5_priceOf_1 inlX5 rfl (by decide) wd_99 rfl rfl rfl ?_
  refine x_iload_n C 1 dX5_priceOf_4 rfl rfl ?_
  refine x_iload_n C 2 dX5_priceOf_5 rfl rfl ?_
  refine x_callV C [.int a, .int s] [(ho, .inr (5, [.ref hb, .ref hn, .ref o0, .ref o1])), (o0, .inl (cI, 4, .inl op)), (o1, .inl (cZ, 145, .inl oe))] [3, 4, 5, 6, 7, 8, 9, 10, 11, 12, 13, 14, 15, 16] [0, 1, 2] (q0 := 0) (c_X4_nodeAfter (xl X) (xD X) (xt X) hT hn n0 n1 n2 n3 na nx ns nw nr nz nt nd hm mn mo mu mg mt mb hb b0 b1 b2 b3 b4 b5 b6 pa mi ga te kn wa ne wc la br a s (by omega) (by omega) (by omega)) dX5_priceOf_6 wd_555 wd_556 wd_557 wd_28 wd_558 (np := 2) ⟨by decide, by decide, by decide +kernel⟩ rfl rfl (Nat.le_of_ble_eq_true rfl) (by decide) rfl rfl rfl rfl (by decide) rfl (by decide) (by decide) (fun v W1 h => ?_)
  obtain ⟨r_6, rfl, rfl, h_6⟩ := h
  show V X 7 [(ho, .inr (5, [.ref hb, .ref hn, .ref o0, .ref o1])), (o0, .inl (cI, 4, .inl op)), (o1, .inl (cZ, 145, .inl oe)), (hn, .inr (4, [.ref hb, .ref hm, .ref n0, .ref n1, .ref n2, .ref n3, .int nr, .int nz, .int nt, .int nd])), (n0, .inl (cI, 3784, .inl na)), (n1, .inl (cI, 15136, .inl nx)), (n2, .inl (cJ, 3784, .inr (.inl nw))), (n3, .inl (cI, 8192, .inl ns)), (hm, .inr (3, [.ref hb, .int mn, .int mo, .int mu, .int mg, .int mt, .int mb])), (hb, .inr (0, [.ref b0, .ref b1, .ref b2, .ref b3, .ref b4, .ref b5, .ref b6, .int wc, .int la, .int br])), (b0, .inl (cI, 4, .inl pa)), (b1, .inl (cI, 16, .inl mi)), (b2, .inl (cI, 4, .inl ga)), (b3, .inl (cI, 4, .inl te)), (b4, .inl (cI, 4, .inl kn)), (b5, .inl (cI, 6, .inl wa)), (b6, .inl (cI, 16, .inl ne))] [(0, .ref ho), (1, .int a), (2, .int s), (3, .int t)] [.int r_6] 9 0 0
  refine x_istore C [(4, .int r_6), (0, .ref ho), (1, .int a), (2, .int s), (3, .int t)] dX5_priceOf_9 (by decide) rfl ?_
  refine x_iload C 0 dX5_priceOf_11 rfl ?_
  refine x_bipush C (-6) dX5_priceOf_13 (by decide) ?_
  refine x_icmp_ne C 22 dX5_priceOf_15 (by decide) (fun c_15 => ?_) (fun c_15 => ?_)
  · skip
    have e_15 : ¬ ((r_6 : Int32).toInt = ((-6) : Int32).toInt) := fun h => c_15 (i_eq.mpr h)
    have : ((-6) : Int32).toInt = -6 := by decide
    refine x_aload_n C 1 dX5_priceOf_22 rfl rfl ?_
    refine x_get C 0 0 dX5_priceOf_23 inlX5 rfl (by decide) wd_98 rfl rfl rfl ?_
    refine x_getN C 9 3 dX5_priceOf_26 inlX0 rfl (by decide) nt_11 rfl rfl rfl ?_
    refine x_iload_n C 3 dX5_priceOf_29 rfl rfl ?_
    have v_30 : vp_in s 4 := (vp_in_iff.mpr (by omega))
    refine x_iald C 13 0 dX5_priceOf_30 hT.1 rfl v_30 ?_
    refine x_istore C [(5, .int (te (Int32.toNatClampNeg s))), (4, .int r_6), (0, .ref ho), (1, .int a), (2, .int s), (3, .int t)] dX5_priceOf_31 (by decide) rfl ?_
    refine x_aload_n C 2 dX5_priceOf_33 rfl rfl ?_
    refine x_get C 0 1 dX5_priceOf_34 inlX5 rfl (by decide) wd_99 rfl rfl rfl ?_
    refine x_getN C 3 4 dX5_priceOf_37 inlX4 rfl (by decide) nt_34 rfl rfl rfl ?_
    refine x_iload C 1 dX5_priceOf_40 rfl ?_
    have v_42 : vp_in r_6 3784 := (vp_in_iff.mpr (by omega))
    refine x_lald C 6 1 dX5_priceOf_42 hT.2.1 rfl v_42 ?_
    refine x_bipush C 16 dX5_priceOf_43 (by decide) ?_
    refine x_iload C 0 dX5_priceOf_45 rfl ?_
    refine x_imul C dX5_priceOf_47 ?_
    refine x_lshr C dX5_priceOf_48 ?_
    refine x_l2i C dX5_priceOf_49 ?_
    refine x_ldc C dX5_priceOf_50 wd_621 ?_
    refine x_iand C dX5_priceOf_52 ?_
    refine x_istore C [(6, .int ((Int64.toInt32 ((nw (Int32.toNatClampNeg r_6)) >>> (Int32.toInt64 (16 * (te (Int32.toNatClampNeg s))) &&& 63))) &&& 65535)), (5, .int (te (Int32.toNatClampNeg s))), (4, .int r_6), (0, .ref ho), (1, .int a), (2, .int s), (3, .int t)] dX5_priceOf_53 (by decide) rfl ?_
    refine x_iload_n C 6 dX5_priceOf_55 rfl rfl ?_
    refine x_bipush C (-6) dX5_priceOf_56 (by decide) ?_
    have J_67 : V X 7 [(ho, .inr (5, [.ref hb, .ref hn, .ref o0, .ref o1])), (o0, .inl (cI, 4, .inl op)), (o1, .inl (cZ, 145, .inl oe)), (hn, .inr (4, [.ref hb, .ref hm, .ref n0, .ref n1, .ref n2, .ref n3, .int nr, .int nz, .int nt, .int nd])), (n0, .inl (cI, 3784, .inl na)), (n1, .inl (cI, 15136, .inl nx)), (n2, .inl (cJ, 3784, .inr (.inl nw))), (n3, .inl (cI, 8192, .inl ns)), (hm, .inr (3, [.ref hb, .int mn, .int mo, .int mu, .int mg, .int mt, .int mb])), (hb, .inr (0, [.ref b0, .ref b1, .ref b2, .ref b3, .ref b4, .ref b5, .ref b6, .int wc, .int la, .int br])), (b0, .inl (cI, 4, .inl pa)), (b1, .inl (cI, 16, .inl mi)), (b2, .inl (cI, 4, .inl ga)), (b3, .inl (cI, 4, .inl te)), (b4, .inl (cI, 4, .inl kn)), (b5, .inl (cI, 6, .inl wa)), (b6, .inl (cI, 16, .inl ne))] [(6, .int ((Int64.toInt32 ((nw (Int32.toNatClampNeg r_6)) >>> (Int32.toInt64 (16 * (te (Int32.toNatClampNeg s))) &&& 63))) &&& 65535)), (5, .int (te (Int32.toNatClampNeg s))), (4, .int r_6), (0, .ref ho), (1, .int a), (2, .int s), (3, .int t)] [] 67 0 0 := by
      refine x_iload C 0 dX5_priceOf_67 rfl ?_
      refine x_goto C 82 dX5_priceOf_69 (by decide) ?_
      exact x_iret C dX5_priceOf_82 (Nat.zero_le _) (Nat.zero_le _) (by rw [eO]; exact ⟨((Int64.toInt32 ((nw (Int32.toNatClampNeg r_6)) >>> (Int32.toInt64 (16 * (te (Int32.toNatClampNeg s))) &&& 63))) &&& 65535), rfl, rfl, trivial⟩)
    refine x_icmp_eq C 67 dX5_priceOf_58 (by decide) (fun c_58 => ?_) (fun c_58 => ?_)
    · skip
      have e_58 : (t : Int32).toInt = ((-6) : Int32).toInt := i_eq.mp c_58
      have : ((-6) : Int32).toInt = -6 := by decide
      exact J_67 
    · skip
      have e_58 : ¬ ((t : Int32).toInt = ((-6) : Int32).toInt) := fun h => c_58 (i_eq.mpr h)
      have : ((-6) : Int32).toInt = -6 := by decide
      refine x_iload_n C 6 dX5_priceOf_61 rfl rfl ?_
      refine x_iload C 1 dX5_priceOf_62 rfl ?_
      refine x_icmp_ne C 72 dX5_priceOf_64 (by decide) (fun c_64 => ?_) (fun c_64 => ?_)
      · skip
        have e_64 : ¬ ((t : Int32).toInt = (te (Int32.toNatClampNeg s) : Int32).toInt) := fun h => c_64 (i_eq.mpr h)
        refine x_iload C 0 dX5_priceOf_72 rfl ?_
        refine x_aload_n C 3 dX5_priceOf_74 rfl rfl ?_
        refine x_get C 0 0 dX5_priceOf_75 inlX5 rfl (by decide) wd_98 rfl rfl rfl ?_
        refine x_getN C 9 9 dX5_priceOf_78 inlX0 rfl (by decide) nt_22 rfl rfl rfl ?_
        refine x_iadd C dX5_priceOf_81 ?_
        exact x_iret C dX5_priceOf_82 (Nat.zero_le _) (Nat.zero_le _) (by rw [eO]; exact ⟨(((Int64.toInt32 ((nw (Int32.toNatClampNeg r_6)) >>> (Int32.toInt64 (16 * (te (Int32.toNatClampNeg s))) &&& 63))) &&& 65535) + br), rfl, rfl, trivial⟩)
      · skip
        have e_64 : (t : Int32).toInt = (te (Int32.toNatClampNeg s) : Int32).toInt := i_eq.mp c_64
        exact J_67 
  · skip
    have e_15 : (r_6 : Int32).toInt = ((-6) : Int32).toInt := i_eq.mp c_15
    have : ((-6) : Int32).toInt = -6 := by decide
    refine x_sipush C 10000 dX5_priceOf_18 (by decide) ?_
    have : (10000 : Int32).toInt = 10000 := by decide
    exact x_iret C dX5_priceOf_21 (Nat.zero_le _) (Nat.zero_le _) (by rw [eO]; exact ⟨10000, rfl, rfl, trivial⟩)
abbrev rm_X5_packedPrices : Room := { frames := 3, cells := 0, slots := 0, locals := 71 }
set_option maxHeartbeats 4000000 in
set_option maxRecDepth 100000 in
theorem c_X5_packedPrices (l : Launch) (D : va_G) (tys : List (ClassId × FieldType)) {cI cJ cZ cB : ClassId} (hT : Ty tys cI cJ cZ cB) (ho o0 o1 : Nat) (op oe : Nat → Int32) (hn n0 n1 n2 n3 : Nat) (na nx ns : Nat → Int32) (nw : Nat → Int64) (nr nz nt nd : Int32) (hm : Nat) (mn mo mu mg mt mb : Int32) (hb b0 b1 b2 b3 b4 b5 b6 : Nat) (pa mi ga te kn wa ne : Nat → Int32) (wc la br : Int32) (a : Int32) (hz : 0 ≤ nz.toInt ∧ nz.toInt ≤ 3784) (hnode : 0 ≤ a.toInt ∧ a.toInt < 3784) (hte : TOk te) : Cn l D tys yX5_packedPrices cX5_packedPrices 6 (some .long) rm_X5_packedPrices [(ho, .inr (5, [.ref hb, .ref hn, .ref o0, .ref o1])), (o0, .inl (cI, 4, .inl op)), (o1, .inl (cZ, 145, .inl oe)), (hn, .inr (4, [.ref hb, .ref hm, .ref n0, .ref n1, .ref n2, .ref n3, .int nr, .int nz, .int nt, .int nd])), (n0, .inl (cI, 3784, .inl na)), (n1, .inl (cI, 15136, .inl nx)), (n2, .inl (cJ, 3784, .inr (.inl nw))), (n3, .inl (cI, 8192, .inl ns)), (hm, .inr (3, [.ref hb, .int mn, .int mo, .int mu, .int mg, .int mt, .int mb])), (hb, .inr (0, [.ref b0, .ref b1, .ref b2, .ref b3, .ref b4, .ref b5, .ref b6, .int wc, .int la, .int br])), (b0, .inl (cI, 4, .inl pa)), (b1, .inl (cI, 16, .inl mi)), (b2, .inl (cI, 4, .inl ga)), (b3, .inl (cI, 4, .inl te)), (b4, .inl (cI, 4, .inl kn)), (b5, .inl (cI, 6, .inl wa)), (b6, .inl (cI, 16, .inl ne))] [.ref ho, .int a] (fun v W1 => ∃ (r : Int64) (op2 : Nat → Int32), v = some (.long r) ∧ W1 = [(ho, .inr (5, [.ref hb, .ref hn, .ref o0, .ref o1])), (o0, .inl (cI, 4, .inl op2)), (o1, .inl (cZ, 145, .inl oe)), (hn, .inr (4, [.ref hb, .ref hm, .ref n0, .ref n1, .ref n2, .ref n3, .int nr, .int nz, .int nt, .int nd])), (n0, .inl (cI, 3784, .inl na)), (n1, .inl (cI, 15136, .inl nx)), (n2, .inl (cJ, 3784, .inr (.inl nw))), (n3, .inl (cI, 8192, .inl ns)), (hm, .inr (3, [.ref hb, .int mn, .int mo, .int mu, .int mg, .int mt, .int mb])), (hb, .inr (0, [.ref b0, .ref b1, .ref b2, .ref b3, .ref b4, .ref b5, .ref b6, .int wc, .int la, .int br])), (b0, .inl (cI, 4, .inl pa)), (b1, .inl (cI, 16, .inl mi)), (b2, .inl (cI, 4, .inl ga)), (b3, .inl (cI, 4, .inl te)), (b4, .inl (cI, 4, .inl kn)), (b5, .inl (cI, 6, .inl wa)), (b6, .inl (cI, 16, .inl ne))] ∧ (True)) := by
  refine Cn.of (by decide) (Nat.le_of_ble_eq_true rfl) ?_ ?_ (fun X eL eD eT eO eK eN eM C => ?_)
  · intro h; cases h
  · intro v ws h; obtain ⟨_, _, rfl, rfl, _⟩ := h; rfl
  subst eL eD eT
  show V X 6 [(ho, .inr (5, [.ref hb, .ref hn, .ref o0, .ref o1])), (o0, .inl (cI, 4, .inl op)), (o1, .inl (cZ, 145, .inl oe)), (hn, .inr (4, [.ref hb, .ref hm, .ref n0, .ref n1, .ref n2, .ref n3, .int nr, .int nz, .int nt, .int nd])), (n0, .inl (cI, 3784, .inl na)), (n1, .inl (cI, 15136, .inl nx)), (n2, .inl (cJ, 3784, .inr (.inl nw))), (n3, .inl (cI, 8192, .inl ns)), (hm, .inr (3, [.ref hb, .int mn, .int mo, .int mu, .int mg, .int mt, .int mb])), (hb, .inr (0, [.ref b0, .ref b1, .ref b2, .ref b3, .ref b4, .ref b5, .ref b6, .int wc, .int la, .int br])), (b0, .inl (cI, 4, .inl pa)), (b1, .inl (cI, 16, .inl mi)), (b2, .inl (cI, 4, .inl ga)), (b3, .inl (cI, 4, .inl te)), (b4, .inl (cI, 4, .inl kn)), (b5, .inl (cI, 6, .inl wa)), (b6, .inl (cI, 16, .inl ne))] [(0, .ref ho), (1, .int a)] [] 0 0 0
  refine x_iconst C 0 dX5_packedPrices_0 (by decide) ?_
  refine x_istore_n C [(2, .int 0), (0, .ref ho), (1, .int a)] dX5_packedPrices_1 rfl (by decide) rfl ?_
  have L_2 : ∀ (n_2 : Nat) (x2_2 : Int32) (fo0_2 : Nat → Int32), ((0 ≤ x2_2.toInt ∧ x2_2.toInt ≤ 4)) → ((4 - x2_2.toInt).toNat < n_2) → V X 6 [(ho, .inr (5, [.ref hb, .ref hn, .ref o0, .ref o1])), (o0, .inl (cI, 4, .inl fo0_2)), (o1, .inl (cZ, 145, .inl oe)), (hn, .inr (4, [.ref hb, .ref hm, .ref n0, .ref n1, .ref n2, .ref n3, .int nr, .int nz, .int nt, .int nd])), (n0, .inl (cI, 3784, .inl na)), (n1, .inl (cI, 15136, .inl nx)), (n2, .inl (cJ, 3784, .inr (.inl nw))), (n3, .inl (cI, 8192, .inl ns)), (hm, .inr (3, [.ref hb, .int mn, .int mo, .int mu, .int mg, .int mt, .int mb])), (hb, .inr (0, [.ref b0, .ref b1, .ref b2, .ref b3, .ref b4, .ref b5, .ref b6, .int wc, .int la, .int br])), (b0, .inl (cI, 4, .inl pa)), (b1, .inl (cI, 16, .inl mi)), (b2, .inl (cI, 4, .inl ga)), (b3, .inl (cI, 4, .inl te)), (b4, .inl (cI, 4, .inl kn)), (b5, .inl (cI, 6, .inl wa)), (b6, .inl (cI, 16, .inl ne))] [(2, .int x2_2), (0, .ref ho), (1, .int a)] [] 2 0 0 := by
    intro n_2
    induction n_2 with
    | zero =>
      intro x2_2 fo0_2 i_2 m_2
      exact absurd m_2 (Nat.not_lt_zero _)
    | succ n_2 ih_2 =>
      intro x2_2 fo0_2 i_2 m_2
      refine x_iload_n C 0 dX5_packedPrices_2 rfl rfl ?_
      refine x_iconst C 4 dX5_packedPrices_3 (by decide) ?_
      refine x_icmp_ge C 22 dX5_packedPrices_4 (by decide) (fun c_4 => ?_) (fun c_4 => ?_)
      · skip
        have e_4 : (4 : Int32).toInt ≤ (x2_2 : Int32).toInt := i_le.mp c_4
        have : (4 : Int32).toInt = 4 := by decide
        refine x_sipush C 10000 dX5_packedPrices_22 (by decide) ?_
        refine x_istore_n C [(2, .int 10000), (0, .ref ho), (1, .int a)] dX5_packedPrices_25 rfl (by decide) rfl ?_
        refine x_iconst C 0 dX5_packedPrices_26 (by decide) ?_
        refine x_istore_n C [(3, .int 0), (2, .int 10000), (0, .ref ho), (1, .int a)] dX5_packedPrices_27 rfl (by decide) rfl ?_
        have L_28 : ∀ (n_28 : Nat) (x3_28 : Int32) (x2_28 : Int32) (fo0_28 : Nat → Int32), ((0 ≤ x3_28.toInt ∧ x3_28.toInt ≤ 4)) → ((4 - x3_28.toInt).toNat < n_28) → V X 6 [(ho, .inr (5, [.ref hb, .ref hn, .ref o0, .ref o1])), (o0, .inl (cI, 4, .inl fo0_28)), (o1, .inl (cZ, 145, .inl oe)), (hn, .inr (4, [.ref hb, .ref hm, .ref n0, .ref n1, .ref n2, .ref n3, .int nr, .int nz, .int nt, .int nd])), (n0, .inl (cI, 3784, .inl na)), (n1, .inl (cI, 15136, .inl nx)), (n2, .inl (cJ, 3784, .inr (.inl nw))), (n3, .inl (cI, 8192, .inl ns)), (hm, .inr (3, [.ref hb, .int mn, .int mo, .int mu, .int mg, .int mt, .int mb])), (hb, .inr (0, [.ref b0, .ref b1, .ref b2, .ref b3, .ref b4, .ref b5, .ref b6, .int wc, .int la, .int br])), (b0, .inl (cI, 4, .inl pa)), (b1, .inl (cI, 16, .inl mi)), (b2, .inl (cI, 4, .inl ga)), (b3, .inl (cI, 4, .inl te)), (b4, .inl (cI, 4, .inl kn)), (b5, .inl (cI, 6, .inl wa)), (b6, .inl (cI, 16, .inl ne))] [(3, .int x3_28), (2, .int x2_28), (0, .ref ho), (1, .int a)] [] 28 0 0 := by
          intro n_28
          induction n_28 with
          | zero =>
            intro x3_28 x2_28 fo0_28 i_28 m_28
            exact absurd m_28 (Nat.not_lt_zero _)
          | succ n_28 ih_28 =>
            intro x3_28 x2_28 fo0_28 i_28 m_28
            refine x_iload_n C 0 dX5_packedPrices_28 rfl rfl ?_
            refine x_iconst C 4 dX5_packedPrices_29 (by decide) ?_
            refine x_icmp_ge C 86 dX5_packedPrices_30 (by decide) (fun c_30 => ?_) (fun c_30 => ?_)
            · skip
              have e_30 : (4 : Int32).toInt ≤ (x3_28 : Int32).toInt := i_le.mp c_30
              have : (4 : Int32).toInt = 4 := by decide
              refine x_lconst C 0 dX5_packedPrices_86 (by decide) ?_
              refine x_lstore_n C [(3, .long 0), (2, .int x2_28), (0, .ref ho), (1, .int a)] dX5_packedPrices_87 rfl (by decide) rfl ?_
              refine x_iconst C 0 dX5_packedPrices_88 (by decide) ?_
              refine x_istore C [(5, .int 0), (3, .long 0), (2, .int x2_28), (0, .ref ho), (1, .int a)] dX5_packedPrices_89 (by decide) rfl ?_
              have L_91 : ∀ (n_91 : Nat) (x5_91 : Int32) (x3_91 : Int64), ((0 ≤ x5_91.toInt ∧ x5_91.toInt ≤ 4)) → ((4 - x5_91.toInt).toNat < n_91) → V X 6 [(ho, .inr (5, [.ref hb, .ref hn, .ref o0, .ref o1])), (o0, .inl (cI, 4, .inl fo0_28)), (o1, .inl (cZ, 145, .inl oe)), (hn, .inr (4, [.ref hb, .ref hm, .ref n0, .ref n1, .ref n2, .ref n3, .int nr, .int nz, .int nt, .int nd])), (n0, .inl (cI, 3784, .inl na)), (n1, .inl (cI, 15136, .inl nx)), (n2, .inl (cJ, 3784, .inr (.inl nw))), (n3, .inl (cI, 8192, .inl ns)), (hm, .inr (3, [.ref hb, .int mn, .int mo, .int mu, .int mg, .int mt, .int mb])), (hb, .inr (0, [.ref b0, .ref b1, .ref b2, .ref b3, .ref b4, .ref b5, .ref b6, .int wc, .int la, .int br])), (b0, .inl (cI, 4, .inl pa)), (b1, .inl (cI, 16, .inl mi)), (b2, .inl (cI, 4, .inl ga)), (b3, .inl (cI, 4, .inl te)), (b4, .inl (cI, 4, .inl kn)), (b5, .inl (cI, 6, .inl wa)), (b6, .inl (cI, 16, .inl ne))] [(5, .int x5_91), (3, .long x3_91), (2, .int x2_28), (0, .ref ho), (1, .int a)] [] 91 0 0 := by
                intro n_91
                induction n_91 with
                | zero =>
                  intro x5_91 x3_91 i_91 m_91
                  exact absurd m_91 (Nat.not_lt_zero _)
                | succ n_91 ih_91 =>
                  intro x5_91 x3_91 i_91 m_91
                  refine x_iload C 0 dX5_packedPrices_91 rfl ?_
                  refine x_iconst C 4 dX5_packedPrices_93 (by decide) ?_
                  refine x_icmp_ge C 132 dX5_packedPrices_94 (by decide) (fun c_94 => ?_) (fun c_94 => ?_)
                  · skip
                    have e_94 : (4 : Int32).toInt ≤ (x5_91 : Int32).toInt := i_le.mp c_94
                    have : (4 : Int32).toInt = 4 := by decide
                    refine x_lload_n C 1 dX5_packedPrices_132 rfl rfl ?_
                    exact x_lret C dX5_packedPrices_133 (Nat.zero_le _) (Nat.zero_le _) (by rw [eO]; exact ⟨x3_91, fo0_28, rfl, rfl, trivial⟩)
                  · skip
                    have e_94 : ¬ ((4 : Int32).toInt ≤ (x5_91 : Int32).toInt) := fun h => c_94 (i_le.mpr h)
                    have : (4 : Int32).toInt = 4 := by decide
                    refine x_lload_n C 1 dX5_packedPrices_97 rfl rfl ?_
                    refine x_aload_n C 3 dX5_packedPrices_98 rfl rfl ?_
                    refine x_get C 0 2 dX5_packedPrices_99 inlX5 rfl (by decide) wd_95 rfl rfl rfl ?_
                    refine x_iload C 0 dX5_packedPrices_102 rfl ?_
                    have v_104 : vp_in x5_91 4 := (vp_in_iff.mpr (by omega))
                    refine x_iald C 1 0 dX5_packedPrices_104 hT.1 rfl v_104 ?_
                    refine x_iload_n C 2 dX5_packedPrices_105 rfl rfl ?_
                    refine x_aload_n C 3 dX5_packedPrices_106 rfl rfl ?_
                    refine x_get C 0 0 dX5_packedPrices_107 inlX5 rfl (by decide) wd_98 rfl rfl rfl ?_
                    refine x_getN C 9 9 dX5_packedPrices_110 inlX0 rfl (by decide) nt_22 rfl rfl rfl ?_
                    refine x_iadd C dX5_packedPrices_113 ?_
                    refine x_mmin C dX5_packedPrices_114 wd_614 wd_615 wd_394 wd_616 (by decide) (Nat.le_of_ble_eq_true rfl) (by decide) (by decide) ?_
                    obtain ⟨w_114, ew_114⟩ : ∃ y : Int32, y = if (x2_28 + br) < (fo0_28 (Int32.toNatClampNeg x5_91)) then (x2_28 + br) else (fo0_28 (Int32.toNatClampNeg x5_91)) := ⟨_, rfl⟩
                    rw [← ew_114]
                    refine x_i2l C dX5_packedPrices_117 ?_
                    refine x_bipush C 16 dX5_packedPrices_118 (by decide) ?_
                    refine x_iload C 0 dX5_packedPrices_120 rfl ?_
                    refine x_imul C dX5_packedPrices_122 ?_
                    refine x_lshl C dX5_packedPrices_123 ?_
                    refine x_lor C dX5_packedPrices_124 ?_
                    refine x_lstore_n C [(3, .long (x3_91 ||| ((Int32.toInt64 w_114) <<< (Int32.toInt64 (16 * x5_91) &&& 63)))), (5, .int x5_91), (2, .int x2_28), (0, .ref ho), (1, .int a)] dX5_packedPrices_125 rfl (by decide) rfl ?_
                    refine x_iinc C 1 (x5_91 + 1) [(5, .int (x5_91 + 1)), (3, .long (x3_91 ||| ((Int32.toInt64 w_114) <<< (Int32.toInt64 (16 * x5_91) &&& 63)))), (2, .int x2_28), (0, .ref ho), (1, .int a)] dX5_packedPrices_126 rfl rfl (by decide) rfl ?_
                    refine x_goto C 91 dX5_packedPrices_129 (by decide) ?_
                    have : (1 : Int32).toInt = 1 := by decide
                    have := i_add (x := x5_91) (y := 1) (by omega) (by omega)
                    exact ih_91 (x5_91 + 1) (x3_91 ||| ((Int32.toInt64 w_114) <<< (Int32.toInt64 (16 * x5_91) &&& 63))) (by omega) (by omega)
              have : (0 : Int32).toInt = 0 := by decide
              exact L_91 _ 0 0 (by omega) (Nat.lt_succ_self _)
            · skip
              have e_30 : ¬ ((4 : Int32).toInt ≤ (x3_28 : Int32).toInt) := fun h => c_30 (i_le.mpr h)
              have : (4 : Int32).toInt = 4 := by decide
              refine x_aload_n C 2 dX5_packedPrices_33 rfl rfl ?_
              refine x_get C 0 0 dX5_packedPrices_34 inlX5 rfl (by decide) wd_98 rfl rfl rfl ?_
              refine x_getN C 9 3 dX5_packedPrices_37 inlX0 rfl (by decide) nt_11 rfl rfl rfl ?_
              refine x_iload_n C 0 dX5_packedPrices_40 rfl rfl ?_
              have v_41 : vp_in x3_28 4 := (vp_in_iff.mpr (by omega))
              refine x_iald C 13 0 dX5_packedPrices_41 hT.1 rfl v_41 ?_
              have a_41 := hte.at v_41
              refine x_istore C [(4, .int (te (Int32.toNatClampNeg x3_28))), (3, .int x3_28), (2, .int x2_28), (0, .ref ho), (1, .int a)] dX5_packedPrices_42 (by decide) rfl ?_
              refine x_aload_n C 3 dX5_packedPrices_44 rfl rfl ?_
              refine x_iload_n C 4 dX5_packedPrices_45 rfl rfl ?_
              refine x_iload_n C 1 dX5_packedPrices_46 rfl rfl ?_
              refine x_iload C 0 dX5_packedPrices_47 rfl ?_
              refine x_callV C [.int a, .int x3_28, .int (te (Int32.toNatClampNeg x3_28))] [] [0, 1, 2, 3, 4, 5, 6, 7, 8, 9, 10, 11, 12, 13, 14, 15, 16] [] (q0 := 0) (c_X5_priceOf (xl X) (xD X) (xt X) hT ho o0 o1 fo0_28 oe hn n0 n1 n2 n3 na nx ns nw nr nz nt nd hm mn mo mu mg mt mb hb b0 b1 b2 b3 b4 b5 b6 pa mi ga te kn wa ne wc la br a x3_28 (te (Int32.toNatClampNeg x3_28)) (by omega) (by omega) (by omega)) dX5_packedPrices_49 wd_617 wd_618 wd_619 wd_32 wd_620 (np := 3) ⟨by decide, by decide, by decide +kernel⟩ rfl rfl (Nat.le_of_ble_eq_true rfl) (by decide) rfl rfl rfl rfl (by decide) rfl (by decide) (by decide) (fun v W1 h => ?_)
              obtain ⟨r_49, rfl, rfl, h_49⟩ := h
              show V X 6 [(ho, .inr (5, [.ref hb, .ref hn, .ref o0, .ref o1])), (o0, .inl (cI, 4, .inl fo0_28)), (o1, .inl (cZ, 145, .inl oe)), (hn, .inr (4, [.ref hb, .ref hm, .ref n0, .ref n1, .ref n2, .ref n3, .int nr, .int nz, .int nt, .int nd])), (n0, .inl (cI, 3784, .inl na)), (n1, .inl (cI, 15136, .inl nx)), (n2, .inl (cJ, 3784, .inr (.inl nw))), (n3, .inl (cI, 8192, .inl ns)), (hm, .inr (3, [.ref hb, .int mn, .int mo, .int mu, .int mg, .int mt, .int mb])), (hb, .inr (0, [.ref b0, .ref b1, .ref b2, .ref b3, .ref b4, .ref b5, .ref b6, .int wc, .int la, .int br])), (b0, .inl (cI, 4, .inl pa)), (b1, .inl (cI, 16, .inl mi)), (b2, .inl (cI, 4, .inl ga)), (b3, .inl (cI, 4, .inl te)), (b4, .inl (cI, 4, .inl kn)), (b5, .inl (cI, 6, .inl wa)), (b6, .inl (cI, 16, .inl ne))] [(4, .int (te (Int32.toNatClampNeg x3_28))), (3, .int x3_28), (2, .int x2_28), (0, .ref ho), (1, .int a)] [.int r_49] 52 0 0
              refine x_istore C [(5, .int r_49), (4, .int (te (Int32.toNatClampNeg x3_28))), (3, .int x3_28), (2, .int x2_28), (0, .ref ho), (1, .int a)] dX5_packedPrices_52 (by decide) rfl ?_
              refine x_aload_n C 4 dX5_packedPrices_54 rfl rfl ?_
              refine x_get C 0 2 dX5_packedPrices_55 inlX5 rfl (by decide) wd_95 rfl rfl rfl ?_
              refine x_iload C 1 dX5_packedPrices_58 rfl ?_
              refine x_aload_n C 4 dX5_packedPrices_60 rfl rfl ?_
              refine x_get C 0 2 dX5_packedPrices_61 inlX5 rfl (by decide) wd_95 rfl rfl rfl ?_
              refine x_iload C 1 dX5_packedPrices_64 rfl ?_
              have v_66 : vp_in (te (Int32.toNatClampNeg x3_28)) 4 := (vp_in_iff.mpr (by omega))
              refine x_iald C 1 0 dX5_packedPrices_66 hT.1 rfl v_66 ?_
              refine x_iload C 0 dX5_packedPrices_67 rfl ?_
              refine x_mmin C dX5_packedPrices_69 wd_614 wd_615 wd_394 wd_616 (by decide) (Nat.le_of_ble_eq_true rfl) (by decide) (by decide) ?_
              obtain ⟨w_69, ew_69⟩ : ∃ y : Int32, y = if r_49 < (fo0_28 (Int32.toNatClampNeg (te (Int32.toNatClampNeg x3_28)))) then r_49 else (fo0_28 (Int32.toNatClampNeg (te (Int32.toNatClampNeg x3_28)))) := ⟨_, rfl⟩
              rw [← ew_69]
              have v_72 : vp_in (te (Int32.toNatClampNeg x3_28)) 4 := (vp_in_iff.mpr (by omega))
              refine x_iast C 1 0 [(ho, .inr (5, [.ref hb, .ref hn, .ref o0, .ref o1])), (o0, .inl (cI, 4, .inl (upd fo0_28 (Int32.toNatClampNeg (te (Int32.toNatClampNeg x3_28))) w_69))), (o1, .inl (cZ, 145, .inl oe)), (hn, .inr (4, [.ref hb, .ref hm, .ref n0, .ref n1, .ref n2, .ref n3, .int nr, .int nz, .int nt, .int nd])), (n0, .inl (cI, 3784, .inl na)), (n1, .inl (cI, 15136, .inl nx)), (n2, .inl (cJ, 3784, .inr (.inl nw))), (n3, .inl (cI, 8192, .inl ns)), (hm, .inr (3, [.ref hb, .int mn, .int mo, .int mu, .int mg, .int mt, .int mb])), (hb, .inr (0, [.ref b0, .ref b1, .ref b2, .ref b3, .ref b4, .ref b5, .ref b6, .int wc, .int la, .int br])), (b0, .inl (cI, 4, .inl pa)), (b1, .inl (cI, 16, .inl mi)), (b2, .inl (cI, 4, .inl ga)), (b3, .inl (cI, 4, .inl te)), (b4, .inl (cI, 4, .inl kn)), (b5, .inl (cI, 6, .inl wa)), (b6, .inl (cI, 16, .inl ne))] dX5_packedPrices_72 hT.1 rfl v_72 rfl ?_
              refine x_iload_n C 3 dX5_packedPrices_73 rfl rfl ?_
              refine x_iload C 0 dX5_packedPrices_74 rfl ?_
              refine x_mmin C dX5_packedPrices_76 wd_614 wd_615 wd_394 wd_616 (by decide) (Nat.le_of_ble_eq_true rfl) (by decide) (by decide) ?_
              obtain ⟨w_76, ew_76⟩ : ∃ y : Int32, y = if r_49 < x2_28 then r_49 else x2_28 := ⟨_, rfl⟩
              rw [← ew_76]
              refine x_istore_n C [(2, .int w_76), (5, .int r_49), (4, .int (te (Int32.toNatClampNeg x3_28))), (3, .int x3_28), (0, .ref ho), (1, .int a)] dX5_packedPrices_79 rfl (by decide) rfl ?_
              refine x_iinc C 3 (x3_28 + 1) [(3, .int (x3_28 + 1)), (2, .int w_76), (5, .int r_49), (4, .int (te (Int32.toNatClampNeg x3_28))), (0, .ref ho), (1, .int a)] dX5_packedPrices_80 rfl rfl (by decide) rfl ?_
              refine x_goto C 28 dX5_packedPrices_83 (by decide) ?_
              refine x_lv [(3, .int (x3_28 + 1)), (2, .int w_76), (0, .ref ho), (1, .int a)] [0, 1, 4, 5] rfl ?_
              have : (1 : Int32).toInt = 1 := by decide
              have := i_add (x := x3_28) (y := 1) (by omega) (by omega)
              exact ih_28 (x3_28 + 1) w_76 (upd fo0_28 (Int32.toNatClampNeg (te (Int32.toNatClampNeg x3_28))) w_69) (by omega) (by omega)
        have : (0 : Int32).toInt = 0 := by decide
        exact L_28 _ 0 10000 fo0_2 (by omega) (Nat.lt_succ_self _)
      · skip
        have e_4 : ¬ ((4 : Int32).toInt ≤ (x2_2 : Int32).toInt) := fun h => c_4 (i_le.mpr h)
        have : (4 : Int32).toInt = 4 := by decide
        refine x_aload_n C 1 dX5_packedPrices_7 rfl rfl ?_
        refine x_get C 0 2 dX5_packedPrices_8 inlX5 rfl (by decide) wd_95 rfl rfl rfl ?_
        refine x_iload_n C 0 dX5_packedPrices_11 rfl rfl ?_
        refine x_sipush C 10000 dX5_packedPrices_12 (by decide) ?_
        have v_15 : vp_in x2_2 4 := (vp_in_iff.mpr (by omega))
        refine x_iast C 1 0 [(ho, .inr (5, [.ref hb, .ref hn, .ref o0, .ref o1])), (o0, .inl (cI, 4, .inl (upd fo0_2 (Int32.toNatClampNeg x2_2) 10000))), (o1, .inl (cZ, 145, .inl oe)), (hn, .inr (4, [.ref hb, .ref hm, .ref n0, .ref n1, .ref n2, .ref n3, .int nr, .int nz, .int nt, .int nd])), (n0, .inl (cI, 3784, .inl na)), (n1, .inl (cI, 15136, .inl nx)), (n2, .inl (cJ, 3784, .inr (.inl nw))), (n3, .inl (cI, 8192, .inl ns)), (hm, .inr (3, [.ref hb, .int mn, .int mo, .int mu, .int mg, .int mt, .int mb])), (hb, .inr (0, [.ref b0, .ref b1, .ref b2, .ref b3, .ref b4, .ref b5, .ref b6, .int wc, .int la, .int br])), (b0, .inl (cI, 4, .inl pa)), (b1, .inl (cI, 16, .inl mi)), (b2, .inl (cI, 4, .inl ga)), (b3, .inl (cI, 4, .inl te)), (b4, .inl (cI, 4, .inl kn)), (b5, .inl (cI, 6, .inl wa)), (b6, .inl (cI, 16, .inl ne))] dX5_packedPrices_15 hT.1 rfl v_15 rfl ?_
        refine x_iinc C 0 (x2_2 + 1) [(2, .int (x2_2 + 1)), (0, .ref ho), (1, .int a)] dX5_packedPrices_16 rfl rfl (by decide) rfl ?_
        refine x_goto C 2 dX5_packedPrices_19 (by decide) ?_
        have : (1 : Int32).toInt = 1 := by decide
        have := i_add (x := x2_2) (y := 1) (by omega) (by omega)
        exact ih_2 (x2_2 + 1) (upd fo0_2 (Int32.toNatClampNeg x2_2) 10000) (by omega) (by omega)
  have : (0 : Int32).toInt = 0 := by decide
  exact L_2 _ 0 op (by omega) (Nat.lt_succ_self _)
abbrev rm_X5_priceAll : Room := { frames := 4, cells := 0, slots := 0, locals := 96 }
set_option maxHeartbeats 4000000 in
set_option maxRecDepth 100000 in
theorem c_X5_priceAll (l : Launch) (D : va_G) (tys : List (ClassId × FieldType)) {cI cJ cZ cB : ClassId} (hT : Ty tys cI cJ cZ cB) (ho o0 o1 : Nat) (op oe : Nat → Int32) (hn n0 n1 n2 n3 : Nat) (na nx ns : Nat → Int32) (nw : Nat → Int64) (nr nz nt nd : Int32) (hm : Nat) (mn mo mu mg mt mb : Int32) (hb b0 b1 b2 b3 b4 b5 b6 : Nat) (pa mi ga te kn wa ne : Nat → Int32) (wc la br : Int32) (hz : 0 ≤ nz.toInt ∧ nz.toInt ≤ 3784) (hte : TOk te) : Cn l D tys yX5_priceAll cX5_priceAll 2 none rm_X5_priceAll [(ho, .inr (5, [.ref hb, .ref hn, .ref o0, .ref o1])), (o0, .inl (cI, 4, .inl op)), (o1, .inl (cZ, 145, .inl oe)), (hn, .inr (4, [.ref hb, .ref hm, .ref n0, .ref n1, .ref n2, .ref n3, .int nr, .int nz, .int nt, .int nd])), (n0, .inl (cI, 3784, .inl na)), (n1, .inl (cI, 15136, .inl nx)), (n2, .inl (cJ, 3784, .inr (.inl nw))), (n3, .inl (cI, 8192, .inl ns)), (hm, .inr (3, [.ref hb, .int mn, .int mo, .int mu, .int mg, .int mt, .int mb])), (hb, .inr (0, [.ref b0, .ref b1, .ref b2, .ref b3, .ref b4, .ref b5, .ref b6, .int wc, .int la, .int br])), (b0, .inl (cI, 4, .inl pa)), (b1, .inl (cI, 16, .inl mi)), (b2, .inl (cI, 4, .inl ga)), (b3, .inl (cI, 4, .inl te)), (b4, .inl (cI, 4, .inl kn)), (b5, .inl (cI, 6, .inl wa)), (b6, .inl (cI, 16, .inl ne))] [.ref ho] (fun v W1 => ∃ (nw2 : Nat → Int64) (op2 : Nat → Int32), v = none ∧ W1 = [(ho, .inr (5, [.ref hb, .ref hn, .ref o0, .ref o1])), (o0, .inl (cI, 4, .inl op2)), (o1, .inl (cZ, 145, .inl oe)), (hn, .inr (4, [.ref hb, .ref hm, .ref n0, .ref n1, .ref n2, .ref n3, .int nr, .int nz, .int nt, .int nd])), (n0, .inl (cI, 3784, .inl na)), (n1, .inl (cI, 15136, .inl nx)), (n2, .inl (cJ, 3784, .inr (.inl nw2))), (n3, .inl (cI, 8192, .inl ns)), (hm, .inr (3, [.ref hb, .int mn, .int mo, .int mu, .int mg, .int mt, .int mb])), (hb, .inr (0, [.ref b0, .ref b1, .ref b2, .ref b3, .ref b4, .ref b5, .ref b6, .int wc, .int la, .int br])), (b0, .inl (cI, 4, .inl pa)), (b1, .inl (cI, 16, .inl mi)), (b2, .inl (cI, 4, .inl ga)), (b3, .inl (cI, 4, .inl te)), (b4, .inl (cI, 4, .inl kn)), (b5, .inl (cI, 6, .inl wa)), (b6, .inl (cI, 16, .inl ne))] ∧ (True)) := by
  refine Cn.of (by decide) (Nat.le_of_ble_eq_true rfl) ?_ ?_ (fun X eL eD eT eO eK eN eM C => ?_)
  · intro h; cases h
  · intro v ws h; obtain ⟨_, _, rfl, rfl, _⟩ := h; rfl
  subst eL eD eT
  show V X 2 [(ho, .inr (5, [.ref hb, .ref hn, .ref o0, .ref o1])), (o0, .inl (cI, 4, .inl op)), (o1, .inl (cZ, 145, .inl oe)), (hn, .inr (4, [.ref hb, .ref hm, .ref n0, .ref n1, .ref n2, .ref n3, .int nr, .int nz, .int nt, .int nd])), (n0, .inl (cI, 3784, .inl na)), (n1, .inl (cI, 15136, .inl nx)), (n2, .inl (cJ, 3784, .inr (.inl nw))), (n3, .inl (cI, 8192, .inl ns)), (hm, .inr (3, [.ref hb, .int mn, .int mo, .int mu, .int mg, .int mt, .int mb])), (hb, .inr (0, [.ref b0, .ref b1, .ref b2, .ref b3, .ref b4, .ref b5, .ref b6, .int wc, .int la, .int br])), (b0, .inl (cI, 4, .inl pa)), (b1, .inl (cI, 16, .inl mi)), (b2, .inl (cI, 4, .inl ga)), (b3, .inl (cI, 4, .inl te)), (b4, .inl (cI, 4, .inl kn)), (b5, .inl (cI, 6, .inl wa)), (b6, .inl (cI, 16, .inl ne))] [(0, .ref ho)] [] 0 0 0
  refine x_aload_n C 0 dX5_priceAll_0 rfl rfl ?_
  refine x_get C 0 1 dX5_priceAll_1 inlX5 rfl (by decide) wd_99 rfl rfl rfl ?_
  refine x_getN C 3 7 dX5_priceAll_4 inlX4 rfl (by decide) nt_36 rfl rfl rfl ?_
  refine x_iconst C 1 dX5_priceAll_7 (by decide) ?_
  refine x_isub C dX5_priceAll_8 ?_
  refine x_istore_n C [(1, .int (nz - 1)), (0, .ref ho)] dX5_priceAll_9 rfl (by decide) rfl ?_
  have L_10 : ∀ (n_10 : Nat) (x1_10 : Int32) (fo0_10 : Nat → Int32) (fn2_10 : Nat → Int64), ((-1 ≤ x1_10.toInt ∧ x1_10.toInt < nz.toInt)) → ((x1_10.toInt + 1).toNat < n_10) → V X 2 [(ho, .inr (5, [.ref hb, .ref hn, .ref o0, .ref o1])), (o0, .inl (cI, 4, .inl fo0_10)), (o1, .inl (cZ, 145, .inl oe)), (hn, .inr (4, [.ref hb, .ref hm, .ref n0, .ref n1, .ref n2, .ref n3, .int nr, .int nz, .int nt, .int nd])), (n0, .inl (cI, 3784, .inl na)), (n1, .inl (cI, 15136, .inl nx)), (n2, .inl (cJ, 3784, .inr (.inl fn2_10))), (n3, .inl (cI, 8192, .inl ns)), (hm, .inr (3, [.ref hb, .int mn, .int mo, .int mu, .int mg, .int mt, .int mb])), (hb, .inr (0, [.ref b0, .ref b1, .ref b2, .ref b3, .ref b4, .ref b5, .ref b6, .int wc, .int la, .int br])), (b0, .inl (cI, 4, .inl pa)), (b1, .inl (cI, 16, .inl mi)), (b2, .inl (cI, 4, .inl ga)), (b3, .inl (cI, 4, .inl te)), (b4, .inl (cI, 4, .inl kn)), (b5, .inl (cI, 6, .inl wa)), (b6, .inl (cI, 16, .inl ne))] [(1, .int x1_10), (0, .ref ho)] [] 10 0 0 := by
    intro n_10
    induction n_10 with
    | zero =>
      intro x1_10 fo0_10 fn2_10 i_10 m_10
      exact absurd m_10 (Nat.not_lt_zero _)
    | succ n_10 ih_10 =>
      intro x1_10 fo0_10 fn2_10 i_10 m_10
      refine x_iload_n C 0 dX5_priceAll_10 rfl rfl ?_
      refine x_if_lt C 49 dX5_priceAll_11 (by decide) (fun c_11 => ?_) (fun c_11 => ?_)
      · skip
        have e_11 : (x1_10 : Int32).toInt < (0 : Int32).toInt := i_lt.mp c_11
        have : (0 : Int32).toInt = 0 := by decide
        exact x_vret C dX5_priceAll_49 (Nat.zero_le _) (Nat.zero_le _) (by rw [eO]; exact ⟨fn2_10, fo0_10, rfl, rfl, trivial⟩)
      · skip
        have e_11 : ¬ ((x1_10 : Int32).toInt < (0 : Int32).toInt) := fun h => c_11 (i_lt.mpr h)
        have : (0 : Int32).toInt = 0 := by decide
        refine x_aload_n C 1 dX5_priceAll_14 rfl rfl ?_
        refine x_get C 0 1 dX5_priceAll_15 inlX5 rfl (by decide) wd_99 rfl rfl rfl ?_
        refine x_getN C 3 4 dX5_priceAll_18 inlX4 rfl (by decide) nt_34 rfl rfl rfl ?_
        refine x_iload_n C 0 dX5_priceAll_21 rfl rfl ?_
        refine x_aload_n C 1 dX5_priceAll_22 rfl rfl ?_
        refine x_get C 0 1 dX5_priceAll_23 inlX5 rfl (by decide) wd_99 rfl rfl rfl ?_
        refine x_iload_n C 0 dX5_priceAll_26 rfl rfl ?_
        refine x_callV C [.int x1_10] [(ho, .inr (5, [.ref hb, .ref hn, .ref o0, .ref o1])), (o0, .inl (cI, 4, .inl fo0_10)), (o1, .inl (cZ, 145, .inl oe))] [3, 4, 5, 6, 7, 8, 9, 10, 11, 12, 13, 14, 15, 16] [0, 1, 2] (q0 := 0) (c_X4_isAllOut (xl X) (xD X) (xt X) hT hn n0 n1 n2 n3 na nx ns fn2_10 nr nz nt nd hm mn mo mu mg mt mb hb b0 b1 b2 b3 b4 b5 b6 pa mi ga te kn wa ne wc la br x1_10 (by omega)) dX5_priceAll_27 wd_546 wd_547 wd_548 wd_28 wd_549 (np := 1) ⟨by decide, by decide, by decide +kernel⟩ rfl rfl (Nat.le_of_ble_eq_true rfl) (by decide) rfl rfl rfl rfl (by decide) rfl (by decide) (by decide) (fun v W1 h => ?_)
        obtain ⟨r_27, rfl, rfl, h_27⟩ := h
        show V X 2 [(ho, .inr (5, [.ref hb, .ref hn, .ref o0, .ref o1])), (o0, .inl (cI, 4, .inl fo0_10)), (o1, .inl (cZ, 145, .inl oe)), (hn, .inr (4, [.ref hb, .ref hm, .ref n0, .ref n1, .ref n2, .ref n3, .int nr, .int nz, .int nt, .int nd])), (n0, .inl (cI, 3784, .inl na)), (n1, .inl (cI, 15136, .inl nx)), (n2, .inl (cJ, 3784, .inr (.inl fn2_10))), (n3, .inl (cI, 8192, .inl ns)), (hm, .inr (3, [.ref hb, .int mn, .int mo, .int mu, .int mg, .int mt, .int mb])), (hb, .inr (0, [.ref b0, .ref b1, .ref b2, .ref b3, .ref b4, .ref b5, .ref b6, .int wc, .int la, .int br])), (b0, .inl (cI, 4, .inl pa)), (b1, .inl (cI, 16, .inl mi)), (b2, .inl (cI, 4, .inl ga)), (b3, .inl (cI, 4, .inl te)), (b4, .inl (cI, 4, .inl kn)), (b5, .inl (cI, 6, .inl wa)), (b6, .inl (cI, 16, .inl ne))] [(1, .int x1_10), (0, .ref ho)] [.int r_27, .int x1_10, .ref n2] 30 0 0
        have J_42 : ∀ (s0_42 : Int64) (fo0_42 : Nat → Int32), V X 2 [(ho, .inr (5, [.ref hb, .ref hn, .ref o0, .ref o1])), (o0, .inl (cI, 4, .inl fo0_42)), (o1, .inl (cZ, 145, .inl oe)), (hn, .inr (4, [.ref hb, .ref hm, .ref n0, .ref n1, .ref n2, .ref n3, .int nr, .int nz, .int nt, .int nd])), (n0, .inl (cI, 3784, .inl na)), (n1, .inl (cI, 15136, .inl nx)), (n2, .inl (cJ, 3784, .inr (.inl fn2_10))), (n3, .inl (cI, 8192, .inl ns)), (hm, .inr (3, [.ref hb, .int mn, .int mo, .int mu, .int mg, .int mt, .int mb])), (hb, .inr (0, [.ref b0, .ref b1, .ref b2, .ref b3, .ref b4, .ref b5, .ref b6, .int wc, .int la, .int br])), (b0, .inl (cI, 4, .inl pa)), (b1, .inl (cI, 16, .inl mi)), (b2, .inl (cI, 4, .inl ga)), (b3, .inl (cI, 4, .inl te)), (b4, .inl (cI, 4, .inl kn)), (b5, .inl (cI, 6, .inl wa)), (b6, .inl (cI, 16, .inl ne))] [(1, .int x1_10), (0, .ref ho)] [.long s0_42, .int x1_10, .ref n2] 42 0 0 := by
          intro s0_42 fo0_42
          have v_42 : vp_in x1_10 3784 := (vp_in_iff.mpr (by omega))
          refine x_last C 6 1 [(ho, .inr (5, [.ref hb, .ref hn, .ref o0, .ref o1])), (o0, .inl (cI, 4, .inl fo0_42)), (o1, .inl (cZ, 145, .inl oe)), (hn, .inr (4, [.ref hb, .ref hm, .ref n0, .ref n1, .ref n2, .ref n3, .int nr, .int nz, .int nt, .int nd])), (n0, .inl (cI, 3784, .inl na)), (n1, .inl (cI, 15136, .inl nx)), (n2, .inl (cJ, 3784, .inr (.inl (vp_updL fn2_10 (Int32.toNatClampNeg x1_10) s0_42)))), (n3, .inl (cI, 8192, .inl ns)), (hm, .inr (3, [.ref hb, .int mn, .int mo, .int mu, .int mg, .int mt, .int mb])), (hb, .inr (0, [.ref b0, .ref b1, .ref b2, .ref b3, .ref b4, .ref b5, .ref b6, .int wc, .int la, .int br])), (b0, .inl (cI, 4, .inl pa)), (b1, .inl (cI, 16, .inl mi)), (b2, .inl (cI, 4, .inl ga)), (b3, .inl (cI, 4, .inl te)), (b4, .inl (cI, 4, .inl kn)), (b5, .inl (cI, 6, .inl wa)), (b6, .inl (cI, 16, .inl ne))] dX5_priceAll_42 hT.2.1 rfl v_42 rfl ?_
          refine x_iinc C 0 (x1_10 - 1) [(1, .int (x1_10 - 1)), (0, .ref ho)] dX5_priceAll_43 rfl (i_m1 _) (by decide) rfl ?_
          refine x_goto C 10 dX5_priceAll_46 (by decide) ?_
          have : (1 : Int32).toInt = 1 := by decide
          have := i_sub (x := x1_10) (y := 1) (by omega) (by omega)
          exact ih_10 (x1_10 - 1) fo0_42 (vp_updL fn2_10 (Int32.toNatClampNeg x1_10) s0_42) (by omega) (by omega)
        refine x_if_eq C 37 dX5_priceAll_30 (by decide) (fun c_30 => ?_) (fun c_30 => ?_)
        · skip
          have e_30 : (r_27 : Int32).toInt = (0 : Int32).toInt := i_eq.mp c_30
          have : (0 : Int32).toInt = 0 := by decide
          refine x_aload_n C 1 dX5_priceAll_37 rfl rfl ?_
          refine x_iload_n C 0 dX5_priceAll_38 rfl rfl ?_
          refine x_callV C [.int x1_10] [] [0, 1, 2, 3, 4, 5, 6, 7, 8, 9, 10, 11, 12, 13, 14, 15, 16] [] (q0 := 0) (c_X5_packedPrices (xl X) (xD X) (xt X) hT ho o0 o1 fo0_10 oe hn n0 n1 n2 n3 na nx ns fn2_10 nr nz nt nd hm mn mo mu mg mt mb hb b0 b1 b2 b3 b4 b5 b6 pa mi ga te kn wa ne wc la br x1_10 (by omega) (by omega) hte) dX5_priceAll_39 wd_610 wd_611 wd_612 wd_32 wd_613 (np := 1) ⟨by decide, by decide, by decide +kernel⟩ rfl rfl (Nat.le_of_ble_eq_true rfl) (by decide) rfl rfl rfl rfl (by decide) rfl (by decide) (by decide) (fun v W1 h => ?_)
          obtain ⟨r_39, op2_39, rfl, rfl, h_39⟩ := h
          show V X 2 [(ho, .inr (5, [.ref hb, .ref hn, .ref o0, .ref o1])), (o0, .inl (cI, 4, .inl op2_39)), (o1, .inl (cZ, 145, .inl oe)), (hn, .inr (4, [.ref hb, .ref hm, .ref n0, .ref n1, .ref n2, .ref n3, .int nr, .int nz, .int nt, .int nd])), (n0, .inl (cI, 3784, .inl na)), (n1, .inl (cI, 15136, .inl nx)), (n2, .inl (cJ, 3784, .inr (.inl fn2_10))), (n3, .inl (cI, 8192, .inl ns)), (hm, .inr (3, [.ref hb, .int mn, .int mo, .int mu, .int mg, .int mt, .int mb])), (hb, .inr (0, [.ref b0, .ref b1, .ref b2, .ref b3, .ref b4, .ref b5, .ref b6, .int wc, .int la, .int br])), (b0, .inl (cI, 4, .inl pa)), (b1, .inl (cI, 16, .inl mi)), (b2, .inl (cI, 4, .inl ga)), (b3, .inl (cI, 4, .inl te)), (b4, .inl (cI, 4, .inl kn)), (b5, .inl (cI, 6, .inl wa)), (b6, .inl (cI, 16, .inl ne))] [(1, .int x1_10), (0, .ref ho)] [.long r_39, .int x1_10, .ref n2] 42 0 0
          exact J_42 r_39 op2_39
        · skip
          have e_30 : ¬ ((r_27 : Int32).toInt = (0 : Int32).toInt) := fun h => c_30 (i_eq.mpr h)
          have : (0 : Int32).toInt = 0 := by decide
          refine x_lconst C 0 dX5_priceAll_33 (by decide) ?_
          refine x_goto C 42 dX5_priceAll_34 (by decide) ?_
          exact J_42 0 fo0_10
  have : (1 : Int32).toInt = 1 := by decide
  have := i_sub (x := nz) (y := 1) (by omega) (by omega)
  exact L_10 _ (nz - 1) op nw (by omega) (Nat.lt_succ_self _)
abbrev rm_X5_leastPrice : Room := { frames := 3, cells := 0, slots := 0, locals := 71 }
set_option maxHeartbeats 4000000 in
set_option maxRecDepth 100000 in
theorem c_X5_leastPrice (l : Launch) (D : va_G) (tys : List (ClassId × FieldType)) {cI cJ cZ cB : ClassId} (hT : Ty tys cI cJ cZ cB) (ho o0 o1 : Nat) (op oe : Nat → Int32) (hn n0 n1 n2 n3 : Nat) (na nx ns : Nat → Int32) (nw : Nat → Int64) (nr nz nt nd : Int32) (hm : Nat) (mn mo mu mg mt mb : Int32) (hb b0 b1 b2 b3 b4 b5 b6 : Nat) (pa mi ga te kn wa ne : Nat → Int32) (wc la br : Int32) (a t : Int32) (hz : 0 ≤ nz.toInt ∧ nz.toInt ≤ 3784) (hnode : 0 ≤ a.toInt ∧ a.toInt < 3784) : Cn l D tys yX5_leastPrice cX5_leastPrice 5 (some .int) rm_X5_leastPrice [(ho, .inr (5, [.ref hb, .ref hn, .ref o0, .ref o1])), (o0, .inl (cI, 4, .inl op)), (o1, .inl (cZ, 145, .inl oe)), (hn, .inr (4, [.ref hb, .ref hm, .ref n0, .ref n1, .ref n2, .ref n3, .int nr, .int nz, .int nt, .int nd])), (n0, .inl (cI, 3784, .inl na)), (n1, .inl (cI, 15136, .inl nx)), (n2, .inl (cJ, 3784, .inr (.inl nw))), (n3, .inl (cI, 8192, .inl ns)), (hm, .inr (3, [.ref hb, .int mn, .int mo, .int mu, .int mg, .int mt, .int mb])), (hb, .inr (0, [.ref b0, .ref b1, .ref b2, .ref b3, .ref b4, .ref b5, .ref b6, .int wc, .int la, .int br])), (b0, .inl (cI, 4, .inl pa)), (b1, .inl (cI, 16, .inl mi)), (b2, .inl (cI, 4, .inl ga)), (b3, .inl (cI, 4, .inl te)), (b4, .inl (cI, 4, .inl kn)), (b5, .inl (cI, 6, .inl wa)), (b6, .inl (cI, 16, .inl ne))] [.ref ho, .int a, .int t] (fun v W1 => ∃ (r : Int32), v = some (.int r) ∧ W1 = [(ho, .inr (5, [.ref hb, .ref hn, .ref o0, .ref o1])), (o0, .inl (cI, 4, .inl op)), (o1, .inl (cZ, 145, .inl oe)), (hn, .inr (4, [.ref hb, .ref hm, .ref n0, .ref n1, .ref n2, .ref n3, .int nr, .int nz, .int nt, .int nd])), (n0, .inl (cI, 3784, .inl na)), (n1, .inl (cI, 15136, .inl nx)), (n2, .inl (cJ, 3784, .inr (.inl nw))), (n3, .inl (cI, 8192, .inl ns)), (hm, .inr (3, [.ref hb, .int mn, .int mo, .int mu, .int mg, .int mt, .int mb])), (hb, .inr (0, [.ref b0, .ref b1, .ref b2, .ref b3, .ref b4, .ref b5, .ref b6, .int wc, .int la, .int br])), (b0, .inl (cI, 4, .inl pa)), (b1, .inl (cI, 16, .inl mi)), (b2, .inl (cI, 4, .inl ga)), (b3, .inl (cI, 4, .inl te)), (b4, .inl (cI, 4, .inl kn)), (b5, .inl (cI, 6, .inl wa)), (b6, .inl (cI, 16, .inl ne))] ∧ (True)) := by
  refine Cn.of (by decide) (Nat.le_of_ble_eq_true rfl) ?_ ?_ (fun X eL eD eT eO eK eN eM C => ?_)
  · intro h; cases h
  · intro v ws h; obtain ⟨_, rfl, rfl, _⟩ := h; exact Or.inl rfl
  subst eL eD eT
  show V X 5 [(ho, .inr (5, [.ref hb, .ref hn, .ref o0, .ref o1])), (o0, .inl (cI, 4, .inl op)), (o1, .inl (cZ, 145, .inl oe)), (hn, .inr (4, [.ref hb, .ref hm, .ref n0, .ref n1, .ref n2, .ref n3, .int nr, .int nz, .int nt, .int nd])), (n0, .inl (cI, 3784, .inl na)), (n1, .inl (cI, 15136, .inl nx)), (n2, .inl (cJ, 3784, .inr (.inl nw))), (n3, .inl (cI, 8192, .inl ns)), (hm, .inr (3, [.ref hb, .int mn, .int mo, .int mu, .int mg, .int mt, .int mb])), (hb, .inr (0, [.ref b0, .ref b1, .ref b2, .ref b3, .ref b4, .ref b5, .ref b6, .int wc, .int la, .int br])), (b0, .inl (cI, 4, .inl pa)), (b1, .inl (cI, 16, .inl mi)), (b2, .inl (cI, 4, .inl ga)), (b3, .inl (cI, 4, .inl te)), (b4, .inl (cI, 4, .inl kn)), (b5, .inl (cI, 6, .inl wa)), (b6, .inl (cI, 16, .inl ne))] [(0, .ref ho), (1, .int a), (2, .int t)] [] 0 0 0
  refine x_sipush C 10000 dX5_leastPrice_0 (by decide) ?_
  refine x_istore_n C [(3, .int 10000), (0, .ref ho), (1, .int a), (2, .int t)] dX5_leastPrice_3 rfl (by decide) rfl ?_
  refine x_iconst C 0 dX5_leastPrice_4 (by decide) ?_
  refine x_istore C [(4, .int 0), (3, .int 10000), (0, .ref ho), (1, .int a), (2, .int t)] dX5_leastPrice_5 (by decide) rfl ?_
  have L_7 : ∀ (n_7 : Nat) (x4_7 : Int32) (x3_7 : Int32), ((0 ≤ x4_7.toInt ∧ x4_7.toInt ≤ 4)) → ((4 - x4_7.toInt).toNat < n_7) → V X 5 [(ho, .inr (5, [.ref hb, .ref hn, .ref o0, .ref o1])), (o0, .inl (cI, 4, .inl op)), (o1, .inl (cZ, 145, .inl oe)), (hn, .inr (4, [.ref hb, .ref hm, .ref n0, .ref n1, .ref n2, .ref n3, .int nr, .int nz, .int nt, .int nd])), (n0, .inl (cI, 3784, .inl na)), (n1, .inl (cI, 15136, .inl nx)), (n2, .inl (cJ, 3784, .inr (.inl nw))), (n3, .inl (cI, 8192, .inl ns)), (hm, .inr (3, [.ref hb, .int mn, .int mo, .int mu, .int mg, .int mt, .int mb])), (hb, .inr (0, [.ref b0, .ref b1, .ref b2, .ref b3, .ref b4, .ref b5, .ref b6, .int wc, .int la, .int br])), (b0, .inl (cI, 4, .inl pa)), (b1, .inl (cI, 16, .inl mi)), (b2, .inl (cI, 4, .inl ga)), (b3, .inl (cI, 4, .inl te)), (b4, .inl (cI, 4, .inl kn)), (b5, .inl (cI, 6, .inl wa)), (b6, .inl (cI, 16, .inl ne))] [(4, .int x4_7), (3, .int x3_7), (0, .ref ho), (1, .int a), (2, .int t)] [] 7 0 0 := by
    intro n_7
    induction n_7 with
    | zero =>
      intro x4_7 x3_7 i_7 m_7
      exact absurd m_7 (Nat.not_lt_zero _)
    | succ n_7 ih_7 =>
      intro x4_7 x3_7 i_7 m_7
      refine x_iload C 0 dX5_leastPrice_7 rfl ?_
      refine x_iconst C 4 dX5_leastPrice_9 (by decide) ?_
      refine x_icmp_ge C 32 dX5_leastPrice_10 (by decide) (fun c_10 => ?_) (fun c_10 => ?_)
      · skip
        have e_10 : (4 : Int32).toInt ≤ (x4_7 : Int32).toInt := i_le.mp c_10
        have : (4 : Int32).toInt = 4 := by decide
        refine x_iload_n C 1 dX5_leastPrice_32 rfl rfl ?_
        exact x_iret C dX5_leastPrice_33 (Nat.zero_le _) (Nat.zero_le _) (by rw [eO]; exact ⟨x3_7, rfl, rfl, trivial⟩)
      · skip
        have e_10 : ¬ ((4 : Int32).toInt ≤ (x4_7 : Int32).toInt) := fun h => c_10 (i_le.mpr h)
        have : (4 : Int32).toInt = 4 := by decide
        refine x_iload_n C 1 dX5_leastPrice_13 rfl rfl ?_
        refine x_aload_n C 2 dX5_leastPrice_14 rfl rfl ?_
        refine x_iload_n C 3 dX5_leastPrice_15 rfl rfl ?_
        refine x_iload C 0 dX5_leastPrice_16 rfl ?_
        refine x_iload_n C 4 dX5_leastPrice_18 rfl rfl ?_
        refine x_callV C [.int a, .int x4_7, .int t] [] [0, 1, 2, 3, 4, 5, 6, 7, 8, 9, 10, 11, 12, 13, 14, 15, 16] [] (q0 := 0) (c_X5_priceOf (xl X) (xD X) (xt X) hT ho o0 o1 op oe hn n0 n1 n2 n3 na nx ns nw nr nz nt nd hm mn mo mu mg mt mb hb b0 b1 b2 b3 b4 b5 b6 pa mi ga te kn wa ne wc la br a x4_7 t (by omega) (by omega) (by omega)) dX5_leastPrice_19 wd_617 wd_618 wd_619 wd_32 wd_620 (np := 3) ⟨by decide, by decide, by decide +kernel⟩ rfl rfl (Nat.le_of_ble_eq_true rfl) (by decide) rfl rfl rfl rfl (by decide) rfl (by decide) (by decide) (fun v W1 h => ?_)
        obtain ⟨r_19, rfl, rfl, h_19⟩ := h
        show V X 5 [(ho, .inr (5, [.ref hb, .ref hn, .ref o0, .ref o1])), (o0, .inl (cI, 4, .inl op)), (o1, .inl (cZ, 145, .inl oe)), (hn, .inr (4, [.ref hb, .ref hm, .ref n0, .ref n1, .ref n2, .ref n3, .int nr, .int nz, .int nt, .int nd])), (n0, .inl (cI, 3784, .inl na)), (n1, .inl (cI, 15136, .inl nx)), (n2, .inl (cJ, 3784, .inr (.inl nw))), (n3, .inl (cI, 8192, .inl ns)), (hm, .inr (3, [.ref hb, .int mn, .int mo, .int mu, .int mg, .int mt, .int mb])), (hb, .inr (0, [.ref b0, .ref b1, .ref b2, .ref b3, .ref b4, .ref b5, .ref b6, .int wc, .int la, .int br])), (b0, .inl (cI, 4, .inl pa)), (b1, .inl (cI, 16, .inl mi)), (b2, .inl (cI, 4, .inl ga)), (b3, .inl (cI, 4, .inl te)), (b4, .inl (cI, 4, .inl kn)), (b5, .inl (cI, 6, .inl wa)), (b6, .inl (cI, 16, .inl ne))] [(4, .int x4_7), (3, .int x3_7), (0, .ref ho), (1, .int a), (2, .int t)] [.int r_19, .int x3_7] 22 0 0
        refine x_mmin C dX5_leastPrice_22 wd_614 wd_615 wd_394 wd_616 (by decide) (Nat.le_of_ble_eq_true rfl) (by decide) (by decide) ?_
        obtain ⟨w_22, ew_22⟩ : ∃ y : Int32, y = if r_19 < x3_7 then r_19 else x3_7 := ⟨_, rfl⟩
        rw [← ew_22]
        refine x_istore_n C [(3, .int w_22), (4, .int x4_7), (0, .ref ho), (1, .int a), (2, .int t)] dX5_leastPrice_25 rfl (by decide) rfl ?_
        refine x_iinc C 1 (x4_7 + 1) [(4, .int (x4_7 + 1)), (3, .int w_22), (0, .ref ho), (1, .int a), (2, .int t)] dX5_leastPrice_26 rfl rfl (by decide) rfl ?_
        refine x_goto C 7 dX5_leastPrice_29 (by decide) ?_
        have : (1 : Int32).toInt = 1 := by decide
        have := i_add (x := x4_7) (y := 1) (by omega) (by omega)
        exact ih_7 (x4_7 + 1) w_22 (by omega) (by omega)
  have : (0 : Int32).toInt = 0 := by decide
  exact L_7 _ 0 10000 (by omega) (Nat.lt_succ_self _)
abbrev rm_X5_cheapestStory : Room := { frames := 4, cells := 0, slots := 0, locals := 95 }
set_option maxHeartbeats 4000000 in
set_option maxRecDepth 100000 in
theorem c_X5_cheapestStory (l : Launch) (D : va_G) (tys : List (ClassId × FieldType)) {cI cJ cZ cB : ClassId} (hT : Ty tys cI cJ cZ cB) (ho o0 o1 : Nat) (op oe : Nat → Int32) (hn n0 n1 n2 n3 : Nat) (na nx ns : Nat → Int32) (nw : Nat → Int64) (nr nz nt nd : Int32) (hm : Nat) (mn mo mu mg mt mb : Int32) (hb b0 b1 b2 b3 b4 b5 b6 : Nat) (pa mi ga te kn wa ne : Nat → Int32) (wc la br : Int32) (a t : Int32) (hz : 0 ≤ nz.toInt ∧ nz.toInt ≤ 3784) (hnode : 0 ≤ a.toInt ∧ a.toInt < 3784) : Cn l D tys yX5_cheapestStory cX5_cheapestStory 5 (some .int) rm_X5_cheapestStory [(ho, .inr (5, [.ref hb, .ref hn, .ref o0, .ref o1])), (o0, .inl (cI, 4, .inl op)), (o1, .inl (cZ, 145, .inl oe)), (hn, .inr (4, [.ref hb, .ref hm, .ref n0, .ref n1, .ref n2, .ref n3, .int nr, .int nz, .int nt, .int nd])), (n0, .inl (cI, 3784, .inl na)), (n1, .inl (cI, 15136, .inl nx)), (n2, .inl (cJ, 3784, .inr (.inl nw))), (n3, .inl (cI, 8192, .inl ns)), (hm, .inr (3, [.ref hb, .int mn, .int mo, .int mu, .int mg, .int mt, .int mb])), (hb, .inr (0, [.ref b0, .ref b1, .ref b2, .ref b3, .ref b4, .ref b5, .ref b6, .int wc, .int la, .int br])), (b0, .inl (cI, 4, .inl pa)), (b1, .inl (cI, 16, .inl mi)), (b2, .inl (cI, 4, .inl ga)), (b3, .inl (cI, 4, .inl te)), (b4, .inl (cI, 4, .inl kn)), (b5, .inl (cI, 6, .inl wa)), (b6, .inl (cI, 16, .inl ne))] [.ref ho, .int a, .int t] (fun v W1 => ∃ (r : Int32), v = some (.int r) ∧ W1 = [(ho, .inr (5, [.ref hb, .ref hn, .ref o0, .ref o1])), (o0, .inl (cI, 4, .inl op)), (o1, .inl (cZ, 145, .inl oe)), (hn, .inr (4, [.ref hb, .ref hm, .ref n0, .ref n1, .ref n2, .ref n3, .int nr, .int nz, .int nt, .int nd])), (n0, .inl (cI, 3784, .inl na)), (n1, .inl (cI, 15136, .inl nx)), (n2, .inl (cJ, 3784, .inr (.inl nw))), (n3, .inl (cI, 8192, .inl ns)), (hm, .inr (3, [.ref hb, .int mn, .int mo, .int mu, .int mg, .int mt, .int mb])), (hb, .inr (0, [.ref b0, .ref b1, .ref b2, .ref b3, .ref b4, .ref b5, .ref b6, .int wc, .int la, .int br])), (b0, .inl (cI, 4, .inl pa)), (b1, .inl (cI, 16, .inl mi)), (b2, .inl (cI, 4, .inl ga)), (b3, .inl (cI, 4, .inl te)), (b4, .inl (cI, 4, .inl kn)), (b5, .inl (cI, 6, .inl wa)), (b6, .inl (cI, 16, .inl ne))] ∧ (r.toInt = -6 ∨ (0 ≤ r.toInt ∧ r.toInt ≤ 3))) := by
  refine Cn.of (by decide) (Nat.le_of_ble_eq_true rfl) ?_ ?_ (fun X eL eD eT eO eK eN eM C => ?_)
  · intro h; cases h
  · intro v ws h; obtain ⟨_, rfl, rfl, _⟩ := h; exact Or.inl rfl
  subst eL eD eT
  show V X 5 [(ho, .inr (5, [.ref hb, .ref hn, .ref o0, .ref o1])), (o0, .inl (cI, 4, .inl op)), (o1, .inl (cZ, 145, .inl oe)), (hn, .inr (4, [.ref hb, .ref hm, .ref n0, .ref n1, .ref n2, .ref n3, .int nr, .int nz, .int nt, .int nd])), (n0, .inl (cI, 3784, .inl na)), (n1, .inl (cI, 15136, .inl nx)), (n2, .inl (cJ, 3784, .inr (.inl nw))), (n3, .inl (cI, 8192, .inl ns)), (hm, .inr (3, [.ref hb, .int mn, .int mo, .int mu, .int mg, .int mt, .int mb])), (hb, .inr (0, [.ref b0, .ref b1, .ref b2, .ref b3, .ref b4, .ref b5, .ref b6, .int wc, .int la, .int br])), (b0, .inl (cI, 4, .inl pa)), (b1, .inl (cI, 16, .inl mi)), (b2, .inl (cI, 4, .inl ga)), (b3, .inl (cI, 4, .inl te)), (b4, .inl (cI, 4, .inl kn)), (b5, .inl (cI, 6, .inl wa)), (b6, .inl (cI, 16, .inl ne))] [(0, .ref ho), (1, .int a), (2, .int t)] [] 0 0 0
  refine x_aload_n C 0 dX5_cheapestStory_0 rfl rfl ?_
  refine x_iload_n C 1 dX5_cheapestStory_1 rfl rfl ?_
  refine x_iload_n C 2 dX5_cheapestStory_2 rfl rfl ?_
  refine x_callV C [.int a, .int t] [] [0, 1, 2, 3, 4, 5, 6, 7, 8, 9, 10, 11, 12, 13, 14, 15, 16] [] (q0 := 0) (c_X5_leastPrice (xl X) (xD X) (xt X) hT ho o0 o1 op oe hn n0 n1 n2 n3 na nx ns nw nr nz nt nd hm mn mo mu mg mt mb hb b0 b1 b2 b3 b4 b5 b6 pa mi ga te kn wa ne wc la br a t (by omega) (by omega)) dX5_cheapestStory_3 wd_622 wd_623 wd_624 wd_32 wd_625 (np := 2) ⟨by decide, by decide, by decide +kernel⟩ rfl rfl (Nat.le_of_ble_eq_true rfl) (by decide) rfl rfl rfl rfl (by decide) rfl (by decide) (by decide) (fun v W1 h => ?_)
  obtain ⟨r_3, rfl, rfl, h_3⟩ := h
  show V X 5 [(ho, .inr (5, [.ref hb, .ref hn, .ref o0, .ref o1])), (o0, .inl (cI, 4, .inl op)), (o1, .inl (cZ, 145, .inl oe)), (hn, .inr (4, [.ref hb, .ref hm, .ref n0, .ref n1, .ref n2, .ref n3, .int nr, .int nz, .int nt, .int nd])), (n0, .inl (cI, 3784, .inl na)), (n1, .inl (cI, 15136, .inl nx)), (n2, .inl (cJ, 3784, .inr (.inl nw))), (n3, .inl (cI, 8192, .inl ns)), (hm, .inr (3, [.ref hb, .int mn, .int mo, .int mu, .int mg, .int mt, .int mb])), (hb, .inr (0, [.ref b0, .ref b1, .ref b2, .ref b3, .ref b4, .ref b5, .ref b6, .int wc, .int la, .int br])), (b0, .inl (cI, 4, .inl pa)), (b1, .inl (cI, 16, .inl mi)), (b2, .inl (cI, 4, .inl ga)), (b3, .inl (cI, 4, .inl te)), (b4, .inl (cI, 4, .inl kn)), (b5, .inl (cI, 6, .inl wa)), (b6, .inl (cI, 16, .inl ne))] [(0, .ref ho), (1, .int a), (2, .int t)] [.int r_3] 6 0 0
  refine x_istore_n C [(3, .int r_3), (0, .ref ho), (1, .int a), (2, .int t)] dX5_cheapestStory_6 rfl (by decide) rfl ?_
  refine x_iload_n C 0 dX5_cheapestStory_7 rfl rfl ?_
  refine x_sipush C 10000 dX5_cheapestStory_8 (by decide) ?_
  refine x_icmp_lt C 17 dX5_cheapestStory_11 (by decide) (fun c_11 => ?_) (fun c_11 => ?_)
  · skip
    have e_11 : (r_3 : Int32).toInt < (10000 : Int32).toInt := i_lt.mp c_11
    have : (10000 : Int32).toInt = 10000 := by decide
    refine x_iconst C 0 dX5_cheapestStory_17 (by decide) ?_
    refine x_istore C [(4, .int 0), (3, .int r_3), (0, .ref ho), (1, .int a), (2, .int t)] dX5_cheapestStory_18 (by decide) rfl ?_
    have L_20 : ∀ (n_20 : Nat) (x4_20 : Int32), ((0 ≤ x4_20.toInt ∧ x4_20.toInt ≤ 4)) → ((4 - x4_20.toInt).toNat < n_20) → V X 5 [(ho, .inr (5, [.ref hb, .ref hn, .ref o0, .ref o1])), (o0, .inl (cI, 4, .inl op)), (o1, .inl (cZ, 145, .inl oe)), (hn, .inr (4, [.ref hb, .ref hm, .ref n0, .ref n1, .ref n2, .ref n3, .int nr, .int nz, .int nt, .int nd])), (n0, .inl (cI, 3784, .inl na)), (n1, .inl (cI, 15136, .inl nx)), (n2, .inl (cJ, 3784, .inr (.inl nw))), (n3, .inl (cI, 8192, .inl ns)), (hm, .inr (3, [.ref hb, .int mn, .int mo, .int mu, .int mg, .int mt, .int mb])), (hb, .inr (0, [.ref b0, .ref b1, .ref b2, .ref b3, .ref b4, .ref b5, .ref b6, .int wc, .int la, .int br])), (b0, .inl (cI, 4, .inl pa)), (b1, .inl (cI, 16, .inl mi)), (b2, .inl (cI, 4, .inl ga)), (b3, .inl (cI, 4, .inl te)), (b4, .inl (cI, 4, .inl kn)), (b5, .inl (cI, 6, .inl wa)), (b6, .inl (cI, 16, .inl ne))] [(4, .int x4_20), (3, .int r_3), (0, .ref ho), (1, .int a), (2, .int t)] [] 20 0 0 := by
      intro n_20
      induction n_20 with
      | zero =>
        intro x4_20 i_20 m_20
        exact absurd m_20 (Nat.not_lt_zero _)
      | succ n_20 ih_20 =>
        intro x4_20 i_20 m_20
        refine x_iload C 0 dX5_cheapestStory_20 rfl ?_
        refine x_iconst C 4 dX5_cheapestStory_22 (by decide) ?_
        refine x_icmp_ge C 47 dX5_cheapestStory_23 (by decide) (fun c_23 => ?_) (fun c_23 => ?_)
        · skip
          have e_23 : (4 : Int32).toInt ≤ (x4_20 : Int32).toInt := i_le.mp c_23
          have : (4 : Int32).toInt = 4 := by decide
          refine x_bipush C (-6) dX5_cheapestStory_47 (by decide) ?_
          have : ((-6) : Int32).toInt = -6 := by decide
          exact x_iret C dX5_cheapestStory_49 (Nat.zero_le _) (Nat.zero_le _) (by rw [eO]; exact ⟨((-6)), rfl, rfl, (by omega)⟩)
        · skip
          have e_23 : ¬ ((4 : Int32).toInt ≤ (x4_20 : Int32).toInt) := fun h => c_23 (i_le.mpr h)
          have : (4 : Int32).toInt = 4 := by decide
          refine x_aload_n C 2 dX5_cheapestStory_26 rfl rfl ?_
          refine x_iload_n C 3 dX5_cheapestStory_27 rfl rfl ?_
          refine x_iload C 0 dX5_cheapestStory_28 rfl ?_
          refine x_iload_n C 4 dX5_cheapestStory_30 rfl rfl ?_
          refine x_callV C [.int a, .int x4_20, .int t] [] [0, 1, 2, 3, 4, 5, 6, 7, 8, 9, 10, 11, 12, 13, 14, 15, 16] [] (q0 := 0) (c_X5_priceOf (xl X) (xD X) (xt X) hT ho o0 o1 op oe hn n0 n1 n2 n3 na nx ns nw nr nz nt nd hm mn mo mu mg mt mb hb b0 b1 b2 b3 b4 b5 b6 pa mi ga te kn wa ne wc la br a x4_20 t (by omega) (by omega) (by omega)) dX5_cheapestStory_31 wd_617 wd_618 wd_619 wd_32 wd_620 (np := 3) ⟨by decide, by decide, by decide +kernel⟩ rfl rfl (Nat.le_of_ble_eq_true rfl) (by decide) rfl rfl rfl rfl (by decide) rfl (by decide) (by decide) (fun v W1 h => ?_)
          obtain ⟨r_31, rfl, rfl, h_31⟩ := h
          show V X 5 [(ho, .inr (5, [.ref hb, .ref hn, .ref o0, .ref o1])), (o0, .inl (cI, 4, .inl op)), (o1, .inl (cZ, 145, .inl oe)), (hn, .inr (4, [.ref hb, .ref hm, .ref n0, .ref n1, .ref n2, .ref n3, .int nr, .int nz, .int nt, .int nd])), (n0, .inl (cI, 3784, .inl na)), (n1, .inl (cI, 15136, .inl nx)), (n2, .inl (cJ, 3784, .inr (.inl nw))), (n3, .inl (cI, 8192, .inl ns)), (hm, .inr (3, [.ref hb, .int mn, .int mo, .int mu, .int mg, .int mt, .int mb])), (hb, .inr (0, [.ref b0, .ref b1, .ref b2, .ref b3, .ref b4, .ref b5, .ref b6, .int wc, .int la, .int br])), (b0, .inl (cI, 4, .inl pa)), (b1, .inl (cI, 16, .inl mi)), (b2, .inl (cI, 4, .inl ga)), (b3, .inl (cI, 4, .inl te)), (b4, .inl (cI, 4, .inl kn)), (b5, .inl (cI, 6, .inl wa)), (b6, .inl (cI, 16, .inl ne))] [(4, .int x4_20), (3, .int r_3), (0, .ref ho), (1, .int a), (2, .int t)] [.int r_31] 34 0 0
          refine x_iload_n C 1 dX5_cheapestStory_34 rfl rfl ?_
          refine x_icmp_ne C 41 dX5_cheapestStory_35 (by decide) (fun c_35 => ?_) (fun c_35 => ?_)
          · skip
            have e_35 : ¬ ((r_31 : Int32).toInt = (r_3 : Int32).toInt) := fun h => c_35 (i_eq.mpr h)
            refine x_iinc C 0 (x4_20 + 1) [(4, .int (x4_20 + 1)), (3, .int r_3), (0, .ref ho), (1, .int a), (2, .int t)] dX5_cheapestStory_41 rfl rfl (by decide) rfl ?_
            refine x_goto C 20 dX5_cheapestStory_44 (by decide) ?_
            have : (1 : Int32).toInt = 1 := by decide
            have := i_add (x := x4_20) (y := 1) (by omega) (by omega)
            exact ih_20 (x4_20 + 1) (by omega) (by omega)
          · skip
            have e_35 : (r_31 : Int32).toInt = (r_3 : Int32).toInt := i_eq.mp c_35
            refine x_iload C 0 dX5_cheapestStory_38 rfl ?_
            exact x_iret C dX5_cheapestStory_40 (Nat.zero_le _) (Nat.zero_le _) (by rw [eO]; exact ⟨x4_20, rfl, rfl, (by omega)⟩)
    have : (0 : Int32).toInt = 0 := by decide
    exact L_20 _ 0 (by omega) (Nat.lt_succ_self _)
  · skip
    have e_11 : ¬ ((r_3 : Int32).toInt < (10000 : Int32).toInt) := fun h => c_11 (i_lt.mpr h)
    have : (10000 : Int32).toInt = 10000 := by decide
    refine x_bipush C (-6) dX5_cheapestStory_14 (by decide) ?_
    have : ((-6) : Int32).toInt = -6 := by decide
    exact x_iret C dX5_cheapestStory_16 (Nat.zero_le _) (Nat.zero_le _) (by rw [eO]; exact ⟨((-6)), rfl, rfl, (by omega)⟩)
abbrev rm_X5_leastMinutes : Room := { frames := 5, cells := 0, slots := 0, locals := 117 }
set_option maxHeartbeats 4000000 in
set_option maxRecDepth 100000 in
theorem c_X5_leastMinutes (l : Launch) (D : va_G) (tys : List (ClassId × FieldType)) {cI cJ cZ cB : ClassId} (hT : Ty tys cI cJ cZ cB) (ho o0 o1 : Nat) (op oe : Nat → Int32) (hn n0 n1 n2 n3 : Nat) (na nx ns : Nat → Int32) (nw : Nat → Int64) (nr nz nt nd : Int32) (hm : Nat) (mn mo mu mg mt mb : Int32) (hb b0 b1 b2 b3 b4 b5 b6 : Nat) (pa mi ga te kn wa ne : Nat → Int32) (wc la br : Int32) (hz : 0 ≤ nz.toInt ∧ nz.toInt ≤ 3784) (hte : TOk te) : Cn l D tys yX5_leastMinutes cX5_leastMinutes 4 (some .int) rm_X5_leastMinutes [(ho, .inr (5, [.ref hb, .ref hn, .ref o0, .ref o1])), (o0, .inl (cI, 4, .inl op)), (o1, .inl (cZ, 145, .inl oe)), (hn, .inr (4, [.ref hb, .ref hm, .ref n0, .ref n1, .ref n2, .ref n3, .int nr, .int nz, .int nt, .int nd])), (n0, .inl (cI, 3784, .inl na)), (n1, .inl (cI, 15136, .inl nx)), (n2, .inl (cJ, 3784, .inr (.inl nw))), (n3, .inl (cI, 8192, .inl ns)), (hm, .inr (3, [.ref hb, .int mn, .int mo, .int mu, .int mg, .int mt, .int mb])), (hb, .inr (0, [.ref b0, .ref b1, .ref b2, .ref b3, .ref b4, .ref b5, .ref b6, .int wc, .int la, .int br])), (b0, .inl (cI, 4, .inl pa)), (b1, .inl (cI, 16, .inl mi)), (b2, .inl (cI, 4, .inl ga)), (b3, .inl (cI, 4, .inl te)), (b4, .inl (cI, 4, .inl kn)), (b5, .inl (cI, 6, .inl wa)), (b6, .inl (cI, 16, .inl ne))] [.ref ho] (fun v W1 => ∃ (r : Int32) (nw2 : Nat → Int64) (op2 : Nat → Int32), v = some (.int r) ∧ W1 = [(ho, .inr (5, [.ref hb, .ref hn, .ref o0, .ref o1])), (o0, .inl (cI, 4, .inl op2)), (o1, .inl (cZ, 145, .inl oe)), (hn, .inr (4, [.ref hb, .ref hm, .ref n0, .ref n1, .ref n2, .ref n3, .int nr, .int nz, .int nt, .int nd])), (n0, .inl (cI, 3784, .inl na)), (n1, .inl (cI, 15136, .inl nx)), (n2, .inl (cJ, 3784, .inr (.inl nw2))), (n3, .inl (cI, 8192, .inl ns)), (hm, .inr (3, [.ref hb, .int mn, .int mo, .int mu, .int mg, .int mt, .int mb])), (hb, .inr (0, [.ref b0, .ref b1, .ref b2, .ref b3, .ref b4, .ref b5, .ref b6, .int wc, .int la, .int br])), (b0, .inl (cI, 4, .inl pa)), (b1, .inl (cI, 16, .inl mi)), (b2, .inl (cI, 4, .inl ga)), (b3, .inl (cI, 4, .inl te)), (b4, .inl (cI, 4, .inl kn)), (b5, .inl (cI, 6, .inl wa)), (b6, .inl (cI, 16, .inl ne))] ∧ (True)) := by
  refine Cn.of (by decide) (Nat.le_of_ble_eq_true rfl) ?_ ?_ (fun X eL eD eT eO eK eN eM C => ?_)
  · intro h; cases h
  · intro v ws h; obtain ⟨_, _, _, rfl, rfl, _⟩ := h; exact Or.inl rfl
  subst eL eD eT
  show V X 4 [(ho, .inr (5, [.ref hb, .ref hn, .ref o0, .ref o1])), (o0, .inl (cI, 4, .inl op)), (o1, .inl (cZ, 145, .inl oe)), (hn, .inr (4, [.ref hb, .ref hm, .ref n0, .ref n1, .ref n2, .ref n3, .int nr, .int nz, .int nt, .int nd])), (n0, .inl (cI, 3784, .inl na)), (n1, .inl (cI, 15136, .inl nx)), (n2, .inl (cJ, 3784, .inr (.inl nw))), (n3, .inl (cI, 8192, .inl ns)), (hm, .inr (3, [.ref hb, .int mn, .int mo, .int mu, .int mg, .int mt, .int mb])), (hb, .inr (0, [.ref b0, .ref b1, .ref b2, .ref b3, .ref b4, .ref b5, .ref b6, .int wc, .int la, .int br])), (b0, .inl (cI, 4, .inl pa)), (b1, .inl (cI, 16, .inl mi)), (b2, .inl (cI, 4, .inl ga)), (b3, .inl (cI, 4, .inl te)), (b4, .inl (cI, 4, .inl kn)), (b5, .inl (cI, 6, .inl wa)), (b6, .inl (cI, 16, .inl ne))] [(0, .ref ho)] [] 0 0 0
  refine x_aload_n C 0 dX5_leastMinutes_0 rfl rfl ?_
  refine x_callV C [] [] [0, 1, 2, 3, 4, 5, 6, 7, 8, 9, 10, 11, 12, 13, 14, 15, 16] [] (q0 := 0) (c_X5_priceAll (xl X) (xD X) (xt X) hT ho o0 o1 op oe hn n0 n1 n2 n3 na nx ns nw nr nz nt nd hm mn mo mu mg mt mb hb b0 b1 b2 b3 b4 b5 b6 pa mi ga te kn wa ne wc la br (by omega) hte) dX5_leastMinutes_1 wd_606 wd_607 wd_608 wd_32 wd_609 (np := 0) ⟨by decide, by decide, by decide +kernel⟩ rfl rfl (Nat.le_of_ble_eq_true rfl) (by decide) rfl rfl rfl rfl (by decide) rfl (by decide) (by decide) (fun v W1 h => ?_)
  obtain ⟨nw2_1, op2_1, rfl, rfl, h_1⟩ := h
  show V X 4 [(ho, .inr (5, [.ref hb, .ref hn, .ref o0, .ref o1])), (o0, .inl (cI, 4, .inl op2_1)), (o1, .inl (cZ, 145, .inl oe)), (hn, .inr (4, [.ref hb, .ref hm, .ref n0, .ref n1, .ref n2, .ref n3, .int nr, .int nz, .int nt, .int nd])), (n0, .inl (cI, 3784, .inl na)), (n1, .inl (cI, 15136, .inl nx)), (n2, .inl (cJ, 3784, .inr (.inl nw2_1))), (n3, .inl (cI, 8192, .inl ns)), (hm, .inr (3, [.ref hb, .int mn, .int mo, .int mu, .int mg, .int mt, .int mb])), (hb, .inr (0, [.ref b0, .ref b1, .ref b2, .ref b3, .ref b4, .ref b5, .ref b6, .int wc, .int la, .int br])), (b0, .inl (cI, 4, .inl pa)), (b1, .inl (cI, 16, .inl mi)), (b2, .inl (cI, 4, .inl ga)), (b3, .inl (cI, 4, .inl te)), (b4, .inl (cI, 4, .inl kn)), (b5, .inl (cI, 6, .inl wa)), (b6, .inl (cI, 16, .inl ne))] [(0, .ref ho)] [] 4 0 0
  refine x_aload_n C 0 dX5_leastMinutes_4 rfl rfl ?_
  refine x_iconst C 0 dX5_leastMinutes_5 (by decide) ?_
  refine x_bipush C (-6) dX5_leastMinutes_6 (by decide) ?_
  have : (0 : Int32).toInt = 0 := by decide
  refine x_callV C [.int 0, .int ((-6))] [] [0, 1, 2, 3, 4, 5, 6, 7, 8, 9, 10, 11, 12, 13, 14, 15, 16] [] (q0 := 0) (c_X5_leastPrice (xl X) (xD X) (xt X) hT ho o0 o1 op2_1 oe hn n0 n1 n2 n3 na nx ns nw2_1 nr nz nt nd hm mn mo mu mg mt mb hb b0 b1 b2 b3 b4 b5 b6 pa mi ga te kn wa ne wc la br 0 ((-6)) (by omega) (by omega)) dX5_leastMinutes_8 wd_622 wd_623 wd_624 wd_32 wd_625 (np := 2) ⟨by decide, by decide, by decide +kernel⟩ rfl rfl (Nat.le_of_ble_eq_true rfl) (by decide) rfl rfl rfl rfl (by decide) rfl (by decide) (by decide) (fun v W1 h => ?_)
  obtain ⟨r_8, rfl, rfl, h_8⟩ := h
  have : ((-6) : Int32).toInt = -6 := by decide
  have : (0 : Int32).toInt = 0 := by decide
  show V X 4 [(ho, .inr (5, [.ref hb, .ref hn, .ref o0, .ref o1])), (o0, .inl (cI, 4, .inl op2_1)), (o1, .inl (cZ, 145, .inl oe)), (hn, .inr (4, [.ref hb, .ref hm, .ref n0, .ref n1, .ref n2, .ref n3, .int nr, .int nz, .int nt, .int nd])), (n0, .inl (cI, 3784, .inl na)), (n1, .inl (cI, 15136, .inl nx)), (n2, .inl (cJ, 3784, .inr (.inl nw2_1))), (n3, .inl (cI, 8192, .inl ns)), (hm, .inr (3, [.ref hb, .int mn, .int mo, .int mu, .int mg, .int mt, .int mb])), (hb, .inr (0, [.ref b0, .ref b1, .ref b2, .ref b3, .ref b4, .ref b5, .ref b6, .int wc, .int la, .int br])), (b0, .inl (cI, 4, .inl pa)), (b1, .inl (cI, 16, .inl mi)), (b2, .inl (cI, 4, .inl ga)), (b3, .inl (cI, 4, .inl te)), (b4, .inl (cI, 4, .inl kn)), (b5, .inl (cI, 6, .inl wa)), (b6, .inl (cI, 16, .inl ne))] [(0, .ref ho)] [.int r_8] 11 0 0
  refine x_istore_n C [(1, .int r_8), (0, .ref ho)] dX5_leastMinutes_11 rfl (by decide) rfl ?_
  refine x_iload_n C 0 dX5_leastMinutes_12 rfl rfl ?_
  refine x_sipush C 10000 dX5_leastMinutes_13 (by decide) ?_
  refine x_icmp_lt C 22 dX5_leastMinutes_16 (by decide) (fun c_16 => ?_) (fun c_16 => ?_)
  · skip
    have e_16 : (r_8 : Int32).toInt < (10000 : Int32).toInt := i_lt.mp c_16
    have : (10000 : Int32).toInt = 10000 := by decide
    refine x_iload_n C 0 dX5_leastMinutes_22 rfl rfl ?_
    refine x_istore_n C [(2, .int r_8), (1, .int r_8), (0, .ref ho)] dX5_leastMinutes_23 rfl (by decide) rfl ?_
    refine x_iconst C 0 dX5_leastMinutes_24 (by decide) ?_
    refine x_istore_n C [(3, .int 0), (2, .int r_8), (1, .int r_8), (0, .ref ho)] dX5_leastMinutes_25 rfl (by decide) rfl ?_
    have L_26 : ∀ (n_26 : Nat) (x3_26 : Int32) (x2_26 : Int32), ((0 ≤ x3_26.toInt ∧ x3_26.toInt ≤ 4)) → ((4 - x3_26.toInt).toNat < n_26) → V X 4 [(ho, .inr (5, [.ref hb, .ref hn, .ref o0, .ref o1])), (o0, .inl (cI, 4, .inl op2_1)), (o1, .inl (cZ, 145, .inl oe)), (hn, .inr (4, [.ref hb, .ref hm, .ref n0, .ref n1, .ref n2, .ref n3, .int nr, .int nz, .int nt, .int nd])), (n0, .inl (cI, 3784, .inl na)), (n1, .inl (cI, 15136, .inl nx)), (n2, .inl (cJ, 3784, .inr (.inl nw2_1))), (n3, .inl (cI, 8192, .inl ns)), (hm, .inr (3, [.ref hb, .int mn, .int mo, .int mu, .int mg, .int mt, .int mb])), (hb, .inr (0, [.ref b0, .ref b1, .ref b2, .ref b3, .ref b4, .ref b5, .ref b6, .int wc, .int la, .int br])), (b0, .inl (cI, 4, .inl pa)), (b1, .inl (cI, 16, .inl mi)), (b2, .inl (cI, 4, .inl ga)), (b3, .inl (cI, 4, .inl te)), (b4, .inl (cI, 4, .inl kn)), (b5, .inl (cI, 6, .inl wa)), (b6, .inl (cI, 16, .inl ne))] [(3, .int x3_26), (2, .int x2_26), (1, .int r_8), (0, .ref ho)] [] 26 0 0 := by
      intro n_26
      induction n_26 with
      | zero =>
        intro x3_26 x2_26 i_26 m_26
        exact absurd m_26 (Nat.not_lt_zero _)
      | succ n_26 ih_26 =>
        intro x3_26 x2_26 i_26 m_26
        refine x_iload_n C 0 dX5_leastMinutes_26 rfl rfl ?_
        refine x_iconst C 4 dX5_leastMinutes_27 (by decide) ?_
        refine x_icmp_ge C 75 dX5_leastMinutes_28 (by decide) (fun c_28 => ?_) (fun c_28 => ?_)
        · skip
          have e_28 : (4 : Int32).toInt ≤ (x3_26 : Int32).toInt := i_le.mp c_28
          have : (4 : Int32).toInt = 4 := by decide
          refine x_iload_n C 1 dX5_leastMinutes_75 rfl rfl ?_
          exact x_iret C dX5_leastMinutes_76 (Nat.zero_le _) (Nat.zero_le _) (by rw [eO]; exact ⟨x2_26, nw2_1, op2_1, rfl, rfl, trivial⟩)
        · skip
          have e_28 : ¬ ((4 : Int32).toInt ≤ (x3_26 : Int32).toInt) := fun h => c_28 (i_le.mpr h)
          have : (4 : Int32).toInt = 4 := by decide
          refine x_iload_n C 1 dX5_leastMinutes_31 rfl rfl ?_
          refine x_aload_n C 3 dX5_leastMinutes_32 rfl rfl ?_
          refine x_get C 0 1 dX5_leastMinutes_33 inlX5 rfl (by decide) wd_99 rfl rfl rfl ?_
          refine x_getN C 3 8 dX5_leastMinutes_36 inlX4 rfl (by decide) nt_39 rfl rfl rfl ?_
          refine x_iload_n C 0 dX5_leastMinutes_39 rfl rfl ?_
          refine x_ishr C dX5_leastMinutes_40 ?_
          refine x_iconst C 1 dX5_leastMinutes_41 (by decide) ?_
          refine x_iand C dX5_leastMinutes_42 ?_
          have J_67 : ∀ (s0_67 : Int32), V X 4 [(ho, .inr (5, [.ref hb, .ref hn, .ref o0, .ref o1])), (o0, .inl (cI, 4, .inl op2_1)), (o1, .inl (cZ, 145, .inl oe)), (hn, .inr (4, [.ref hb, .ref hm, .ref n0, .ref n1, .ref n2, .ref n3, .int nr, .int nz, .int nt, .int nd])), (n0, .inl (cI, 3784, .inl na)), (n1, .inl (cI, 15136, .inl nx)), (n2, .inl (cJ, 3784, .inr (.inl nw2_1))), (n3, .inl (cI, 8192, .inl ns)), (hm, .inr (3, [.ref hb, .int mn, .int mo, .int mu, .int mg, .int mt, .int mb])), (hb, .inr (0, [.ref b0, .ref b1, .ref b2, .ref b3, .ref b4, .ref b5, .ref b6, .int wc, .int la, .int br])), (b0, .inl (cI, 4, .inl pa)), (b1, .inl (cI, 16, .inl mi)), (b2, .inl (cI, 4, .inl ga)), (b3, .inl (cI, 4, .inl te)), (b4, .inl (cI, 4, .inl kn)), (b5, .inl (cI, 6, .inl wa)), (b6, .inl (cI, 16, .inl ne))] [(3, .int x3_26), (2, .int x2_26), (1, .int r_8), (0, .ref ho)] [.int s0_67, .int x2_26] 67 0 0 := by
            intro s0_67
            refine x_iadd C dX5_leastMinutes_67 ?_
            refine x_istore_n C [(2, .int (x2_26 + s0_67)), (3, .int x3_26), (1, .int r_8), (0, .ref ho)] dX5_leastMinutes_68 rfl (by decide) rfl ?_
            refine x_iinc C 1 (x3_26 + 1) [(3, .int (x3_26 + 1)), (2, .int (x2_26 + s0_67)), (1, .int r_8), (0, .ref ho)] dX5_leastMinutes_69 rfl rfl (by decide) rfl ?_
            refine x_goto C 26 dX5_leastMinutes_72 (by decide) ?_
            have : (1 : Int32).toInt = 1 := by decide
            have := i_add (x := x3_26) (y := 1) (by omega) (by omega)
            exact ih_26 (x3_26 + 1) (x2_26 + s0_67) (by omega) (by omega)
          refine x_if_ne C 50 dX5_leastMinutes_43 (by decide) (fun c_43 => ?_) (fun c_43 => ?_)
          · skip
            have e_43 : ¬ (((nt >>> (x3_26 &&& 31)) &&& 1 : Int32).toInt = (0 : Int32).toInt) := fun h => c_43 (i_eq.mpr h)
            have : (0 : Int32).toInt = 0 := by decide
            refine x_aload_n C 3 dX5_leastMinutes_50 rfl rfl ?_
            refine x_get C 0 0 dX5_leastMinutes_51 inlX5 rfl (by decide) wd_98 rfl rfl rfl ?_
            refine x_iload_n C 0 dX5_leastMinutes_54 rfl rfl ?_
            refine x_aload_n C 3 dX5_leastMinutes_55 rfl rfl ?_
            refine x_get C 0 0 dX5_leastMinutes_56 inlX5 rfl (by decide) wd_98 rfl rfl rfl ?_
            refine x_getN C 9 0 dX5_leastMinutes_59 inlX0 rfl (by decide) nt_4 rfl rfl rfl ?_
            refine x_iload_n C 0 dX5_leastMinutes_62 rfl rfl ?_
            have v_63 : vp_in x3_26 4 := (vp_in_iff.mpr (by omega))
            refine x_iald C 10 0 dX5_leastMinutes_63 hT.1 rfl v_63 ?_
            refine x_callV C [.int x3_26, .int (pa (Int32.toNatClampNeg x3_26))] [(ho, .inr (5, [.ref hb, .ref hn, .ref o0, .ref o1])), (o0, .inl (cI, 4, .inl op2_1)), (o1, .inl (cZ, 145, .inl oe)), (hn, .inr (4, [.ref hb, .ref hm, .ref n0, .ref n1, .ref n2, .ref n3, .int nr, .int nz, .int nt, .int nd])), (n0, .inl (cI, 3784, .inl na)), (n1, .inl (cI, 15136, .inl nx)), (n2, .inl (cJ, 3784, .inr (.inl nw2_1))), (n3, .inl (cI, 8192, .inl ns)), (hm, .inr (3, [.ref hb, .int mn, .int mo, .int mu, .int mg, .int mt, .int mb]))] [9, 10, 11, 12, 13, 14, 15, 16] [0, 1, 2, 3, 4, 5, 6, 7, 8] (q0 := 0) (c_X0_minutesOf (xl X) (xD X) (xt X) hT hb b0 b1 b2 b3 b4 b5 b6 pa mi ga te kn wa ne wc la br x3_26 (pa (Int32.toNatClampNeg x3_26)) (by omega)) dX5_leastMinutes_64 wd_626 wd_278 wd_279 wd_18 wd_280 (np := 2) ⟨by decide, by decide, by decide +kernel⟩ rfl rfl (Nat.le_of_ble_eq_true rfl) (by decide) rfl rfl rfl rfl (by decide) rfl (by decide) (by decide) (fun v W1 h => ?_)
            obtain ⟨r_64, rfl, rfl, h_64⟩ := h
            show V X 4 [(ho, .inr (5, [.ref hb, .ref hn, .ref o0, .ref o1])), (o0, .inl (cI, 4, .inl op2_1)), (o1, .inl (cZ, 145, .inl oe)), (hn, .inr (4, [.ref hb, .ref hm, .ref n0, .ref n1, .ref n2, .ref n3, .int nr, .int nz, .int nt, .int nd])), (n0, .inl (cI, 3784, .inl na)), (n1, .inl (cI, 15136, .inl nx)), (n2, .inl (cJ, 3784, .inr (.inl nw2_1))), (n3, .inl (cI, 8192, .inl ns)), (hm, .inr (3, [.ref hb, .int mn, .int mo, .int mu, .int mg, .int mt, .int mb])), (hb, .inr (0, [.ref b0, .ref b1, .ref b2, .ref b3, .ref b4, .ref b5, .ref b6, .int wc, .int la, .int br])), (b0, .inl (cI, 4, .inl pa)), (b1, .inl (cI, 16, .inl mi)), (b2, .inl (cI, 4, .inl ga)), (b3, .inl (cI, 4, .inl te)), (b4, .inl (cI, 4, .inl kn)), (b5, .inl (cI, 6, .inl wa)), (b6, .inl (cI, 16, .inl ne))] [(3, .int x3_26), (2, .int x2_26), (1, .int r_8), (0, .ref ho)] [.int r_64, .int x2_26] 67 0 0
            exact J_67 r_64
          · skip
            have e_43 : ((nt >>> (x3_26 &&& 31)) &&& 1 : Int32).toInt = (0 : Int32).toInt := i_eq.mp c_43
            have : (0 : Int32).toInt = 0 := by decide
            refine x_iconst C 0 dX5_leastMinutes_46 (by decide) ?_
            refine x_goto C 67 dX5_leastMinutes_47 (by decide) ?_
            exact J_67 0
    have : (0 : Int32).toInt = 0 := by decide
    exact L_26 _ 0 r_8 (by omega) (Nat.lt_succ_self _)
  · skip
    have e_16 : ¬ ((r_8 : Int32).toInt < (10000 : Int32).toInt) := fun h => c_16 (i_lt.mpr h)
    have : (10000 : Int32).toInt = 10000 := by decide
    refine x_bipush C (-6) dX5_leastMinutes_19 (by decide) ?_
    have : ((-6) : Int32).toInt = -6 := by decide
    exact x_iret C dX5_leastMinutes_21 (Nat.zero_le _) (Nat.zero_le _) (by rw [eO]; exact ⟨((-6)), nw2_1, op2_1, rfl, rfl, trivial⟩)
abbrev rm_X5_leastLetter : Room := { frames := 5, cells := 0, slots := 0, locals := 119 }
set_option maxHeartbeats 4000000 in
set_option maxRecDepth 100000 in
theorem c_X5_leastLetter (l : Launch) (D : va_G) (tys : List (ClassId × FieldType)) {cI cJ cZ cB : ClassId} (hT : Ty tys cI cJ cZ cB) (ho o0 o1 : Nat) (op oe : Nat → Int32) (hn n0 n1 n2 n3 : Nat) (na nx ns : Nat → Int32) (nw : Nat → Int64) (nr nz nt nd : Int32) (hm : Nat) (mn mo mu mg mt mb : Int32) (hb b0 b1 b2 b3 b4 b5 b6 : Nat) (pa mi ga te kn wa ne : Nat → Int32) (wc la br : Int32) (i : Int32) (hz : 0 ≤ nz.toInt ∧ nz.toInt ≤ 3784) (hte : TOk te) : Cn l D tys yX5_leastLetter cX5_leastLetter 6 (some .int) rm_X5_leastLetter [(ho, .inr (5, [.ref hb, .ref hn, .ref o0, .ref o1])), (o0, .inl (cI, 4, .inl op)), (o1, .inl (cZ, 145, .inl oe)), (hn, .inr (4, [.ref hb, .ref hm, .ref n0, .ref n1, .ref n2, .ref n3, .int nr, .int nz, .int nt, .int nd])), (n0, .inl (cI, 3784, .inl na)), (n1, .inl (cI, 15136, .inl nx)), (n2, .inl (cJ, 3784, .inr (.inl nw))), (n3, .inl (cI, 8192, .inl ns)), (hm, .inr (3, [.ref hb, .int mn, .int mo, .int mu, .int mg, .int mt, .int mb])), (hb, .inr (0, [.ref b0, .ref b1, .ref b2, .ref b3, .ref b4, .ref b5, .ref b6, .int wc, .int la, .int br])), (b0, .inl (cI, 4, .inl pa)), (b1, .inl (cI, 16, .inl mi)), (b2, .inl (cI, 4, .inl ga)), (b3, .inl (cI, 4, .inl te)), (b4, .inl (cI, 4, .inl kn)), (b5, .inl (cI, 6, .inl wa)), (b6, .inl (cI, 16, .inl ne))] [.ref ho, .int i] (fun v W1 => ∃ (r : Int32) (nw2 : Nat → Int64) (op2 : Nat → Int32), v = some (.int r) ∧ W1 = [(ho, .inr (5, [.ref hb, .ref hn, .ref o0, .ref o1])), (o0, .inl (cI, 4, .inl op2)), (o1, .inl (cZ, 145, .inl oe)), (hn, .inr (4, [.ref hb, .ref hm, .ref n0, .ref n1, .ref n2, .ref n3, .int nr, .int nz, .int nt, .int nd])), (n0, .inl (cI, 3784, .inl na)), (n1, .inl (cI, 15136, .inl nx)), (n2, .inl (cJ, 3784, .inr (.inl nw2))), (n3, .inl (cI, 8192, .inl ns)), (hm, .inr (3, [.ref hb, .int mn, .int mo, .int mu, .int mg, .int mt, .int mb])), (hb, .inr (0, [.ref b0, .ref b1, .ref b2, .ref b3, .ref b4, .ref b5, .ref b6, .int wc, .int la, .int br])), (b0, .inl (cI, 4, .inl pa)), (b1, .inl (cI, 16, .inl mi)), (b2, .inl (cI, 4, .inl ga)), (b3, .inl (cI, 4, .inl te)), (b4, .inl (cI, 4, .inl kn)), (b5, .inl (cI, 6, .inl wa)), (b6, .inl (cI, 16, .inl ne))] ∧ (True)) := by
  refine Cn.of (by decide) (Nat.le_of_ble_eq_true rfl) ?_ ?_ (fun X eL eD eT eO eK eN eM C => ?_)
  · intro h; cases h
  · intro v ws h; obtain ⟨_, _, _, rfl, rfl, _⟩ := h; exact Or.inl rfl
  subst eL eD eT
  show V X 6 [(ho, .inr (5, [.ref hb, .ref hn, .ref o0, .ref o1])), (o0, .inl (cI, 4, .inl op)), (o1, .inl (cZ, 145, .inl oe)), (hn, .inr (4, [.ref hb, .ref hm, .ref n0, .ref n1, .ref n2, .ref n3, .int nr, .int nz, .int nt, .int nd])), (n0, .inl (cI, 3784, .inl na)), (n1, .inl (cI, 15136, .inl nx)), (n2, .inl (cJ, 3784, .inr (.inl nw))), (n3, .inl (cI, 8192, .inl ns)), (hm, .inr (3, [.ref hb, .int mn, .int mo, .int mu, .int mg, .int mt, .int mb])), (hb, .inr (0, [.ref b0, .ref b1, .ref b2, .ref b3, .ref b4, .ref b5, .ref b6, .int wc, .int la, .int br])), (b0, .inl (cI, 4, .inl pa)), (b1, .inl (cI, 16, .inl mi)), (b2, .inl (cI, 4, .inl ga)), (b3, .inl (cI, 4, .inl te)), (b4, .inl (cI, 4, .inl kn)), (b5, .inl (cI, 6, .inl wa)), (b6, .inl (cI, 16, .inl ne))] [(0, .ref ho), (1, .int i)] [] 0 0 0
  refine x_aload_n C 0 dX5_leastLetter_0 rfl rfl ?_
  refine x_callV C [] [] [0, 1, 2, 3, 4, 5, 6, 7, 8, 9, 10, 11, 12, 13, 14, 15, 16] [] (q0 := 0) (c_X5_priceAll (xl X) (xD X) (xt X) hT ho o0 o1 op oe hn n0 n1 n2 n3 na nx ns nw nr nz nt nd hm mn mo mu mg mt mb hb b0 b1 b2 b3 b4 b5 b6 pa mi ga te kn wa ne wc la br (by omega) hte) dX5_leastLetter_1 wd_606 wd_607 wd_608 wd_32 wd_609 (np := 0) ⟨by decide, by decide, by decide +kernel⟩ rfl rfl (Nat.le_of_ble_eq_true rfl) (by decide) rfl rfl rfl rfl (by decide) rfl (by decide) (by decide) (fun v W1 h => ?_)
  obtain ⟨nw2_1, op2_1, rfl, rfl, h_1⟩ := h
  show V X 6 [(ho, .inr (5, [.ref hb, .ref hn, .ref o0, .ref o1])), (o0, .inl (cI, 4, .inl op2_1)), (o1, .inl (cZ, 145, .inl oe)), (hn, .inr (4, [.ref hb, .ref hm, .ref n0, .ref n1, .ref n2, .ref n3, .int nr, .int nz, .int nt, .int nd])), (n0, .inl (cI, 3784, .inl na)), (n1, .inl (cI, 15136, .inl nx)), (n2, .inl (cJ, 3784, .inr (.inl nw2_1))), (n3, .inl (cI, 8192, .inl ns)), (hm, .inr (3, [.ref hb, .int mn, .int mo, .int mu, .int mg, .int mt, .int mb])), (hb, .inr (0, [.ref b0, .ref b1, .ref b2, .ref b3, .ref b4, .ref b5, .ref b6, .int wc, .int la, .int br])), (b0, .inl (cI, 4, .inl pa)), (b1, .inl (cI, 16, .inl mi)), (b2, .inl (cI, 4, .inl ga)), (b3, .inl (cI, 4, .inl te)), (b4, .inl (cI, 4, .inl kn)), (b5, .inl (cI, 6, .inl wa)), (b6, .inl (cI, 16, .inl ne))] [(0, .ref ho), (1, .int i)] [] 4 0 0
  refine x_iconst C 0 dX5_leastLetter_4 (by decide) ?_
  refine x_istore_n C [(2, .int 0), (0, .ref ho), (1, .int i)] dX5_leastLetter_5 rfl (by decide) rfl ?_
  refine x_bipush C (-6) dX5_leastLetter_6 (by decide) ?_
  refine x_istore_n C [(3, .int ((-6))), (2, .int 0), (0, .ref ho), (1, .int i)] dX5_leastLetter_8 rfl (by decide) rfl ?_
  refine x_iconst C 0 dX5_leastLetter_9 (by decide) ?_
  refine x_istore C [(4, .int 0), (3, .int ((-6))), (2, .int 0), (0, .ref ho), (1, .int i)] dX5_leastLetter_10 (by decide) rfl ?_
  have L_12 : ∀ (n_12 : Nat) (x4_12 : Int32) (x3_12 : Int32) (x2_12 : Int32), ((0 ≤ x4_12.toInt ∧ x4_12.toInt ≤ 16) ∧ (x2_12.toInt = -6 ∨ (0 ≤ x2_12.toInt ∧ x2_12.toInt < 3784))) → ((16 - x4_12.toInt).toNat < n_12) → V X 6 [(ho, .inr (5, [.ref hb, .ref hn, .ref o0, .ref o1])), (o0, .inl (cI, 4, .inl op2_1)), (o1, .inl (cZ, 145, .inl oe)), (hn, .inr (4, [.ref hb, .ref hm, .ref n0, .ref n1, .ref n2, .ref n3, .int nr, .int nz, .int nt, .int nd])), (n0, .inl (cI, 3784, .inl na)), (n1, .inl (cI, 15136, .inl nx)), (n2, .inl (cJ, 3784, .inr (.inl nw2_1))), (n3, .inl (cI, 8192, .inl ns)), (hm, .inr (3, [.ref hb, .int mn, .int mo, .int mu, .int mg, .int mt, .int mb])), (hb, .inr (0, [.ref b0, .ref b1, .ref b2, .ref b3, .ref b4, .ref b5, .ref b6, .int wc, .int la, .int br])), (b0, .inl (cI, 4, .inl pa)), (b1, .inl (cI, 16, .inl mi)), (b2, .inl (cI, 4, .inl ga)), (b3, .inl (cI, 4, .inl te)), (b4, .inl (cI, 4, .inl kn)), (b5, .inl (cI, 6, .inl wa)), (b6, .inl (cI, 16, .inl ne))] [(4, .int x4_12), (3, .int x3_12), (2, .int x2_12), (0, .ref ho), (1, .int i)] [] 12 0 0 := by
    intro n_12
    induction n_12 with
    | zero =>
      intro x4_12 x3_12 x2_12 i_12 m_12
      exact absurd m_12 (Nat.not_lt_zero _)
    | succ n_12 ih_12 =>
      intro x4_12 x3_12 x2_12 i_12 m_12
      refine x_iload C 0 dX5_leastLetter_12 rfl ?_
      refine x_bipush C 16 dX5_leastLetter_14 (by decide) ?_
      refine x_icmp_ge C 92 dX5_leastLetter_16 (by decide) (fun c_16 => ?_) (fun c_16 => ?_)
      · skip
        have e_16 : (16 : Int32).toInt ≤ (x4_12 : Int32).toInt := i_le.mp c_16
        have : (16 : Int32).toInt = 16 := by decide
        refine x_bipush C (-6) dX5_leastLetter_92 (by decide) ?_
        have : ((-6) : Int32).toInt = -6 := by decide
        exact x_iret C dX5_leastLetter_94 (Nat.zero_le _) (Nat.zero_le _) (by rw [eO]; exact ⟨((-6)), nw2_1, op2_1, rfl, rfl, trivial⟩)
      · skip
        have e_16 : ¬ ((16 : Int32).toInt ≤ (x4_12 : Int32).toInt) := fun h => c_16 (i_le.mpr h)
        have : (16 : Int32).toInt = 16 := by decide
        refine x_iload_n C 2 dX5_leastLetter_19 rfl rfl ?_
        refine x_bipush C (-6) dX5_leastLetter_20 (by decide) ?_
        refine x_icmp_eq C 92 dX5_leastLetter_22 (by decide) (fun c_22 => ?_) (fun c_22 => ?_)
        · skip
          have e_22 : (x2_12 : Int32).toInt = ((-6) : Int32).toInt := i_eq.mp c_22
          have : ((-6) : Int32).toInt = -6 := by decide
          refine x_bipush C (-6) dX5_leastLetter_92 (by decide) ?_
          have : ((-6) : Int32).toInt = -6 := by decide
          exact x_iret C dX5_leastLetter_94 (Nat.zero_le _) (Nat.zero_le _) (by rw [eO]; exact ⟨((-6)), nw2_1, op2_1, rfl, rfl, trivial⟩)
        · skip
          have e_22 : ¬ ((x2_12 : Int32).toInt = ((-6) : Int32).toInt) := fun h => c_22 (i_eq.mpr h)
          have : ((-6) : Int32).toInt = -6 := by decide
          refine x_aload_n C 3 dX5_leastLetter_25 rfl rfl ?_
          refine x_iload_n C 2 dX5_leastLetter_26 rfl rfl ?_
          refine x_iload_n C 1 dX5_leastLetter_27 rfl rfl ?_
          refine x_callV C [.int x2_12, .int x3_12] [] [0, 1, 2, 3, 4, 5, 6, 7, 8, 9, 10, 11, 12, 13, 14, 15, 16] [] (q0 := 0) (c_X5_cheapestStory (xl X) (xD X) (xt X) hT ho o0 o1 op2_1 oe hn n0 n1 n2 n3 na nx ns nw2_1 nr nz nt nd hm mn mo mu mg mt mb hb b0 b1 b2 b3 b4 b5 b6 pa mi ga te kn wa ne wc la br x2_12 x3_12 (by omega) (by omega)) dX5_leastLetter_28 wd_631 wd_632 wd_633 wd_32 wd_634 (np := 2) ⟨by decide, by decide, by decide +kernel⟩ rfl rfl (Nat.le_of_ble_eq_true rfl) (by decide) rfl rfl rfl rfl (by decide) rfl (by decide) (by decide) (fun v W1 h => ?_)
          obtain ⟨r_28, rfl, rfl, h_28⟩ := h
          show V X 6 [(ho, .inr (5, [.ref hb, .ref hn, .ref o0, .ref o1])), (o0, .inl (cI, 4, .inl op2_1)), (o1, .inl (cZ, 145, .inl oe)), (hn, .inr (4, [.ref hb, .ref hm, .ref n0, .ref n1, .ref n2, .ref n3, .int nr, .int nz, .int nt, .int nd])), (n0, .inl (cI, 3784, .inl na)), (n1, .inl (cI, 15136, .inl nx)), (n2, .inl (cJ, 3784, .inr (.inl nw2_1))), (n3, .inl (cI, 8192, .inl ns)), (hm, .inr (3, [.ref hb, .int mn, .int mo, .int mu, .int mg, .int mt, .int mb])), (hb, .inr (0, [.ref b0, .ref b1, .ref b2, .ref b3, .ref b4, .ref b5, .ref b6, .int wc, .int la, .int br])), (b0, .inl (cI, 4, .inl pa)), (b1, .inl (cI, 16, .inl mi)), (b2, .inl (cI, 4, .inl ga)), (b3, .inl (cI, 4, .inl te)), (b4, .inl (cI, 4, .inl kn)), (b5, .inl (cI, 6, .inl wa)), (b6, .inl (cI, 16, .inl ne))] [(4, .int x4_12), (3, .int x3_12), (2, .int x2_12), (0, .ref ho), (1, .int i)] [.int r_28] 31 0 0
          refine x_istore C [(5, .int r_28), (4, .int x4_12), (3, .int x3_12), (2, .int x2_12), (0, .ref ho), (1, .int i)] dX5_leastLetter_31 (by decide) rfl ?_
          refine x_iload C 0 dX5_leastLetter_33 rfl ?_
          refine x_bipush C (-6) dX5_leastLetter_35 (by decide) ?_
          refine x_icmp_eq C 46 dX5_leastLetter_37 (by decide) (fun c_37 => ?_) (fun c_37 => ?_)
          · skip
            have e_37 : (r_28 : Int32).toInt = ((-6) : Int32).toInt := i_eq.mp c_37
            have : ((-6) : Int32).toInt = -6 := by decide
            refine x_iload C 0 dX5_leastLetter_46 rfl ?_
            refine x_bipush C (-6) dX5_leastLetter_48 (by decide) ?_
            refine x_icmp_ne C 58 dX5_leastLetter_50 (by decide) (fun c_50 => ?_) (fun c_50 => ?_)
            · skip
              have e_50 : ¬ ((r_28 : Int32).toInt = ((-6) : Int32).toInt) := fun h => c_50 (i_eq.mpr h)
              have : ((-6) : Int32).toInt = -6 := by decide
              refine x_bipush C 97 dX5_leastLetter_58 (by decide) ?_
              refine x_iload C 0 dX5_leastLetter_60 rfl ?_
              refine x_iadd C dX5_leastLetter_62 ?_
              exact x_iret C dX5_leastLetter_63 (Nat.zero_le _) (Nat.zero_le _) (by rw [eO]; exact ⟨(97 + r_28), nw2_1, op2_1, rfl, rfl, trivial⟩)
            · skip
              have e_50 : (r_28 : Int32).toInt = ((-6) : Int32).toInt := i_eq.mp c_50
              have : ((-6) : Int32).toInt = -6 := by decide
              refine x_bipush C (-6) dX5_leastLetter_53 (by decide) ?_
              refine x_goto C 63 dX5_leastLetter_55 (by decide) ?_
              have : ((-6) : Int32).toInt = -6 := by decide
              exact x_iret C dX5_leastLetter_63 (Nat.zero_le _) (Nat.zero_le _) (by rw [eO]; exact ⟨((-6)), nw2_1, op2_1, rfl, rfl, trivial⟩)
          · skip
            have e_37 : ¬ ((r_28 : Int32).toInt = ((-6) : Int32).toInt) := fun h => c_37 (i_eq.mpr h)
            have : ((-6) : Int32).toInt = -6 := by decide
            refine x_iload C 1 dX5_leastLetter_40 rfl ?_
            refine x_iload_n C 5 dX5_leastLetter_42 rfl rfl ?_
            refine x_icmp_ne C 64 dX5_leastLetter_43 (by decide) (fun c_43 => ?_) (fun c_43 => ?_)
            · skip
              have e_43 : ¬ ((x4_12 : Int32).toInt = (i : Int32).toInt) := fun h => c_43 (i_eq.mpr h)
              refine x_aload_n C 4 dX5_leastLetter_64 rfl rfl ?_
              refine x_get C 0 1 dX5_leastLetter_65 inlX5 rfl (by decide) wd_99 rfl rfl rfl ?_
              refine x_iload_n C 3 dX5_leastLetter_68 rfl rfl ?_
              refine x_iload C 0 dX5_leastLetter_69 rfl ?_
              refine x_callV C [.int x2_12, .int r_28] [(ho, .inr (5, [.ref hb, .ref hn, .ref o0, .ref o1])), (o0, .inl (cI, 4, .inl op2_1)), (o1, .inl (cZ, 145, .inl oe))] [3, 4, 5, 6, 7, 8, 9, 10, 11, 12, 13, 14, 15, 16] [0, 1, 2] (q0 := 0) (c_X4_nodeAfter (xl X) (xD X) (xt X) hT hn n0 n1 n2 n3 na nx ns nw2_1 nr nz nt nd hm mn mo mu mg mt mb hb b0 b1 b2 b3 b4 b5 b6 pa mi ga te kn wa ne wc la br x2_12 r_28 (by omega) (by omega) (by omega)) dX5_leastLetter_71 wd_555 wd_556 wd_557 wd_28 wd_558 (np := 2) ⟨by decide, by decide, by decide +kernel⟩ rfl rfl (Nat.le_of_ble_eq_true rfl) (by decide) rfl rfl rfl rfl (by decide) rfl (by decide) (by decide) (fun v W1 h => ?_)
              obtain ⟨r_71, rfl, rfl, h_71⟩ := h
              show V X 6 [(ho, .inr (5, [.ref hb, .ref hn, .ref o0, .ref o1])), (o0, .inl (cI, 4, .inl op2_1)), (o1, .inl (cZ, 145, .inl oe)), (hn, .inr (4, [.ref hb, .ref hm, .ref n0, .ref n1, .ref n2, .ref n3, .int nr, .int nz, .int nt, .int nd])), (n0, .inl (cI, 3784, .inl na)), (n1, .inl (cI, 15136, .inl nx)), (n2, .inl (cJ, 3784, .inr (.inl nw2_1))), (n3, .inl (cI, 8192, .inl ns)), (hm, .inr (3, [.ref hb, .int mn, .int mo, .int mu, .int mg, .int mt, .int mb])), (hb, .inr (0, [.ref b0, .ref b1, .ref b2, .ref b3, .ref b4, .ref b5, .ref b6, .int wc, .int la, .int br])), (b0, .inl (cI, 4, .inl pa)), (b1, .inl (cI, 16, .inl mi)), (b2, .inl (cI, 4, .inl ga)), (b3, .inl (cI, 4, .inl te)), (b4, .inl (cI, 4, .inl kn)), (b5, .inl (cI, 6, .inl wa)), (b6, .inl (cI, 16, .inl ne))] [(5, .int r_28), (4, .int x4_12), (3, .int x3_12), (2, .int x2_12), (0, .ref ho), (1, .int i)] [.int r_71] 74 0 0
              refine x_istore_n C [(2, .int r_71), (5, .int r_28), (4, .int x4_12), (3, .int x3_12), (0, .ref ho), (1, .int i)] dX5_leastLetter_74 rfl (by decide) rfl ?_
              refine x_aload_n C 4 dX5_leastLetter_75 rfl rfl ?_
              refine x_get C 0 0 dX5_leastLetter_76 inlX5 rfl (by decide) wd_98 rfl rfl rfl ?_
              refine x_getN C 9 3 dX5_leastLetter_79 inlX0 rfl (by decide) nt_11 rfl rfl rfl ?_
              refine x_iload C 1 dX5_leastLetter_82 rfl ?_
              have v_84 : vp_in r_28 4 := (vp_in_iff.mpr (by omega))
              refine x_iald C 13 0 dX5_leastLetter_84 hT.1 rfl v_84 ?_
              refine x_istore_n C [(3, .int (te (Int32.toNatClampNeg r_28))), (2, .int r_71), (5, .int r_28), (4, .int x4_12), (0, .ref ho), (1, .int i)] dX5_leastLetter_85 rfl (by decide) rfl ?_
              refine x_iinc C 3 (x4_12 + 1) [(4, .int (x4_12 + 1)), (3, .int (te (Int32.toNatClampNeg r_28))), (2, .int r_71), (5, .int r_28), (0, .ref ho), (1, .int i)] dX5_leastLetter_86 rfl rfl (by decide) rfl ?_
              refine x_goto C 12 dX5_leastLetter_89 (by decide) ?_
              refine x_lv [(4, .int (x4_12 + 1)), (3, .int (te (Int32.toNatClampNeg r_28))), (2, .int r_71), (0, .ref ho), (1, .int i)] [0, 1, 2, 4, 5] rfl ?_
              have : (1 : Int32).toInt = 1 := by decide
              have := i_add (x := x4_12) (y := 1) (by omega) (by omega)
              exact ih_12 (x4_12 + 1) (te (Int32.toNatClampNeg r_28)) r_71 (by omega) (by omega)
            · skip
              have e_43 : (x4_12 : Int32).toInt = (i : Int32).toInt := i_eq.mp c_43
              refine x_iload C 0 dX5_leastLetter_46 rfl ?_
              refine x_bipush C (-6) dX5_leastLetter_48 (by decide) ?_
              refine x_icmp_ne C 58 dX5_leastLetter_50 (by decide) (fun c_50 => ?_) (fun c_50 => ?_)
              · skip
                have e_50 : ¬ ((r_28 : Int32).toInt = ((-6) : Int32).toInt) := fun h => c_50 (i_eq.mpr h)
                have : ((-6) : Int32).toInt = -6 := by decide
                refine x_bipush C 97 dX5_leastLetter_58 (by decide) ?_
                refine x_iload C 0 dX5_leastLetter_60 rfl ?_
                refine x_iadd C dX5_leastLetter_62 ?_
                exact x_iret C dX5_leastLetter_63 (Nat.zero_le _) (Nat.zero_le _) (by rw [eO]; exact ⟨(97 + r_28), nw2_1, op2_1, rfl, rfl, trivial⟩)
              · skip
                have e_50 : (r_28 : Int32).toInt = ((-6) : Int32).toInt := i_eq.mp c_50
                have : ((-6) : Int32).toInt = -6 := by decide
                refine x_bipush C (-6) dX5_leastLetter_53 (by decide) ?_
                refine x_goto C 63 dX5_leastLetter_55 (by decide) ?_
                have : ((-6) : Int32).toInt = -6 := by decide
                exact x_iret C dX5_leastLetter_63 (Nat.zero_le _) (Nat.zero_le _) (by rw [eO]; exact ⟨((-6)), nw2_1, op2_1, rfl, rfl, trivial⟩)
  have : (0 : Int32).toInt = 0 := by decide
  have : (0 : Int32).toInt = 0 := by decide
  exact L_12 _ 0 ((-6)) 0 (by omega) (Nat.lt_succ_self _)
abbrev rm_X5_markMinute : Room := { frames := 1, cells := 0, slots := 0, locals := 22 }
set_option maxHeartbeats 4000000 in
set_option maxRecDepth 100000 in
theorem c_X5_markMinute (l : Launch) (D : va_G) (tys : List (ClassId × FieldType)) {cI cJ cZ cB : ClassId} (hT : Ty tys cI cJ cZ cB) (ho o0 o1 : Nat) (op oe : Nat → Int32) (hb hn : Nat) (a : Int32)  : Cn l D tys yX5_markMinute cX5_markMinute 2 none rm_X5_markMinute [(ho, .inr (5, [.ref hb, .ref hn, .ref o0, .ref o1])), (o0, .inl (cI, 4, .inl op)), (o1, .inl (cZ, 145, .inl oe))] [.ref ho, .int a] (fun v W1 => ∃ (oe2 : Nat → Int32), v = none ∧ W1 = [(ho, .inr (5, [.ref hb, .ref hn, .ref o0, .ref o1])), (o0, .inl (cI, 4, .inl op)), (o1, .inl (cZ, 145, .inl oe2))] ∧ (True)) := by
  refine Cn.of (by decide) (Nat.le_of_ble_eq_true rfl) ?_ ?_ (fun X eL eD eT eO eK eN eM C => ?_)
  · intro h; cases h
  · intro v ws h; obtain ⟨_, rfl, rfl, _⟩ := h; rfl
  subst eL eD eT
  show V X 2 [(ho, .inr (5, [.ref hb, .ref hn, .ref o0, .ref o1])), (o0, .inl (cI, 4, .inl op)), (o1, .inl (cZ, 145, .inl oe))] [(0, .ref ho), (1, .int a)] [] 0 0 0
  refine x_iload_n C 1 dX5_markMinute_0 rfl rfl ?_
  refine x_iconst C 0 dX5_markMinute_1 (by decide) ?_
  refine x_sipush C 144 dX5_markMinute_2 (by decide) ?_
  refine x_callSN C [.int a, .int 0, .int 144] [(ho, .inr (5, [.ref hb, .ref hn, .ref o0, .ref o1])), (o0, .inl (cI, 4, .inl op)), (o1, .inl (cZ, 145, .inl oe))] [] [0, 1, 2] (c_X9_isIn (xl X) (xD X) (xt X) hT a 0 144 ) dX5_markMinute_5 nt_45 wd_187 wd_2 wd_188 (np := 3) ⟨by decide, by decide, by decide +kernel⟩ rfl rfl (Nat.le_of_ble_eq_true rfl) (by decide) rfl (by decide) rfl (by decide) (by decide) (fun v W1 h => ?_)
  obtain ⟨r_5, rfl, rfl, h_5⟩ := h
  have : (0 : Int32).toInt = 0 := by decide
  have : (144 : Int32).toInt = 144 := by decide
  show V X 2 [(ho, .inr (5, [.ref hb, .ref hn, .ref o0, .ref o1])), (o0, .inl (cI, 4, .inl op)), (o1, .inl (cZ, 145, .inl oe))] [(0, .ref ho), (1, .int a)] [.int r_5] 8 0 0
  refine x_if_eq C 18 dX5_markMinute_8 (by decide) (fun c_8 => ?_) (fun c_8 => ?_)
  · skip
    have e_8 : (r_5 : Int32).toInt = (0 : Int32).toInt := i_eq.mp c_8
    have : (0 : Int32).toInt = 0 := by decide
    exact x_vret C dX5_markMinute_18 (Nat.zero_le _) (Nat.zero_le _) (by rw [eO]; exact ⟨oe, rfl, rfl, trivial⟩)
  · skip
    have e_8 : ¬ ((r_5 : Int32).toInt = (0 : Int32).toInt) := fun h => c_8 (i_eq.mpr h)
    have : (0 : Int32).toInt = 0 := by decide
    refine x_aload_n C 0 dX5_markMinute_11 rfl rfl ?_
    refine x_get C 0 3 dX5_markMinute_12 inlX5 rfl (by decide) wd_97 rfl rfl rfl ?_
    refine x_iload_n C 1 dX5_markMinute_15 rfl rfl ?_
    refine x_iconst C 1 dX5_markMinute_16 (by decide) ?_
    have v_17 : vp_in a 145 := (vp_in_iff.mpr (by omega))
    refine x_zast C 2 2 [(ho, .inr (5, [.ref hb, .ref hn, .ref o0, .ref o1])), (o0, .inl (cI, 4, .inl op)), (o1, .inl (cZ, 145, .inl (upd oe (Int32.toNatClampNeg a) 1)))] dX5_markMinute_17 hT.2.2.1 rfl v_17 rfl rfl ?_
    exact x_vret C dX5_markMinute_18 (Nat.zero_le _) (Nat.zero_le _) (by rw [eO]; exact ⟨(upd oe (Int32.toNatClampNeg a) 1), rfl, rfl, trivial⟩)
abbrev rm_X5_markEnds : Room := { frames := 4, cells := 0, slots := 0, locals := 91 }
set_option maxHeartbeats 4000000 in
set_option maxRecDepth 100000 in
theorem c_X5_markEnds (l : Launch) (D : va_G) (tys : List (ClassId × FieldType)) {cI cJ cZ cB : ClassId} (hT : Ty tys cI cJ cZ cB) (ho o0 o1 : Nat) (op oe : Nat → Int32) (hn n0 n1 n2 n3 : Nat) (na nx ns : Nat → Int32) (nw : Nat → Int64) (nr nz nt nd : Int32) (hm : Nat) (mn mo mu mg mt mb : Int32) (hb b0 b1 b2 b3 b4 b5 b6 : Nat) (pa mi ga te kn wa ne : Nat → Int32) (wc la br : Int32) (s : Int32) (hz : 0 ≤ nz.toInt ∧ nz.toInt ≤ 3784) (hs0 : 0 ≤ s.toInt ∧ s.toInt ≤ 3) (hup : UPG nx nz) : Cn l D tys yX5_markEnds cX5_markEnds 4 none rm_X5_markEnds [(ho, .inr (5, [.ref hb, .ref hn, .ref o0, .ref o1])), (o0, .inl (cI, 4, .inl op)), (o1, .inl (cZ, 145, .inl oe)), (hn, .inr (4, [.ref hb, .ref hm, .ref n0, .ref n1, .ref n2, .ref n3, .int nr, .int nz, .int nt, .int nd])), (n0, .inl (cI, 3784, .inl na)), (n1, .inl (cI, 15136, .inl nx)), (n2, .inl (cJ, 3784, .inr (.inl nw))), (n3, .inl (cI, 8192, .inl ns)), (hm, .inr (3, [.ref hb, .int mn, .int mo, .int mu, .int mg, .int mt, .int mb])), (hb, .inr (0, [.ref b0, .ref b1, .ref b2, .ref b3, .ref b4, .ref b5, .ref b6, .int wc, .int la, .int br])), (b0, .inl (cI, 4, .inl pa)), (b1, .inl (cI, 16, .inl mi)), (b2, .inl (cI, 4, .inl ga)), (b3, .inl (cI, 4, .inl te)), (b4, .inl (cI, 4, .inl kn)), (b5, .inl (cI, 6, .inl wa)), (b6, .inl (cI, 16, .inl ne))] [.ref ho, .int s] (fun v W1 => ∃ (nw2 : Nat → Int64) (oe2 : Nat → Int32), v = none ∧ W1 = [(ho, .inr (5, [.ref hb, .ref hn, .ref o0, .ref o1])), (o0, .inl (cI, 4, .inl op)), (o1, .inl (cZ, 145, .inl oe2)), (hn, .inr (4, [.ref hb, .ref hm, .ref n0, .ref n1, .ref n2, .ref n3, .int nr, .int nz, .int nt, .int nd])), (n0, .inl (cI, 3784, .inl na)), (n1, .inl (cI, 15136, .inl nx)), (n2, .inl (cJ, 3784, .inr (.inl nw2))), (n3, .inl (cI, 8192, .inl ns)), (hm, .inr (3, [.ref hb, .int mn, .int mo, .int mu, .int mg, .int mt, .int mb])), (hb, .inr (0, [.ref b0, .ref b1, .ref b2, .ref b3, .ref b4, .ref b5, .ref b6, .int wc, .int la, .int br])), (b0, .inl (cI, 4, .inl pa)), (b1, .inl (cI, 16, .inl mi)), (b2, .inl (cI, 4, .inl ga)), (b3, .inl (cI, 4, .inl te)), (b4, .inl (cI, 4, .inl kn)), (b5, .inl (cI, 6, .inl wa)), (b6, .inl (cI, 16, .inl ne))] ∧ (True)) := by
  refine Cn.of (by decide) (Nat.le_of_ble_eq_true rfl) ?_ ?_ (fun X eL eD eT eO eK eN eM C => ?_)
  · intro h; cases h
  · intro v ws h; obtain ⟨_, _, rfl, rfl, _⟩ := h; rfl
  subst eL eD eT
  show V X 4 [(ho, .inr (5, [.ref hb, .ref hn, .ref o0, .ref o1])), (o0, .inl (cI, 4, .inl op)), (o1, .inl (cZ, 145, .inl oe)), (hn, .inr (4, [.ref hb, .ref hm, .ref n0, .ref n1, .ref n2, .ref n3, .int nr, .int nz, .int nt, .int nd])), (n0, .inl (cI, 3784, .inl na)), (n1, .inl (cI, 15136, .inl nx)), (n2, .inl (cJ, 3784, .inr (.inl nw))), (n3, .inl (cI, 8192, .inl ns)), (hm, .inr (3, [.ref hb, .int mn, .int mo, .int mu, .int mg, .int mt, .int mb])), (hb, .inr (0, [.ref b0, .ref b1, .ref b2, .ref b3, .ref b4, .ref b5, .ref b6, .int wc, .int la, .int br])), (b0, .inl (cI, 4, .inl pa)), (b1, .inl (cI, 16, .inl mi)), (b2, .inl (cI, 4, .inl ga)), (b3, .inl (cI, 4, .inl te)), (b4, .inl (cI, 4, .inl kn)), (b5, .inl (cI, 6, .inl wa)), (b6, .inl (cI, 16, .inl ne))] [(0, .ref ho), (1, .int s)] [] 0 0 0
  refine x_iconst C 0 dX5_markEnds_0 (by decide) ?_
  refine x_istore_n C [(2, .int 0), (0, .ref ho), (1, .int s)] dX5_markEnds_1 rfl (by decide) rfl ?_
  have L_2 : ∀ (n_2 : Nat) (x2_2 : Int32) (fo1_2 : Nat → Int32), ((0 ≤ x2_2.toInt ∧ x2_2.toInt ≤ 145)) → ((145 - x2_2.toInt).toNat < n_2) → V X 4 [(ho, .inr (5, [.ref hb, .ref hn, .ref o0, .ref o1])), (o0, .inl (cI, 4, .inl op)), (o1, .inl (cZ, 145, .inl fo1_2)), (hn, .inr (4, [.ref hb, .ref hm, .ref n0, .ref n1, .ref n2, .ref n3, .int nr, .int nz, .int nt, .int nd])), (n0, .inl (cI, 3784, .inl na)), (n1, .inl (cI, 15136, .inl nx)), (n2, .inl (cJ, 3784, .inr (.inl nw))), (n3, .inl (cI, 8192, .inl ns)), (hm, .inr (3, [.ref hb, .int mn, .int mo, .int mu, .int mg, .int mt, .int mb])), (hb, .inr (0, [.ref b0, .ref b1, .ref b2, .ref b3, .ref b4, .ref b5, .ref b6, .int wc, .int la, .int br])), (b0, .inl (cI, 4, .inl pa)), (b1, .inl (cI, 16, .inl mi)), (b2, .inl (cI, 4, .inl ga)), (b3, .inl (cI, 4, .inl te)), (b4, .inl (cI, 4, .inl kn)), (b5, .inl (cI, 6, .inl wa)), (b6, .inl (cI, 16, .inl ne))] [(2, .int x2_2), (0, .ref ho), (1, .int s)] [] 2 0 0 := by
    intro n_2
    induction n_2 with
    | zero =>
      intro x2_2 fo1_2 i_2 m_2
      exact absurd m_2 (Nat.not_lt_zero _)
    | succ n_2 ih_2 =>
      intro x2_2 fo1_2 i_2 m_2
      refine x_iload_n C 0 dX5_markEnds_2 rfl rfl ?_
      refine x_sipush C 144 dX5_markEnds_3 (by decide) ?_
      refine x_icmp_gt C 22 dX5_markEnds_6 (by decide) (fun c_6 => ?_) (fun c_6 => ?_)
      · skip
        have e_6 : (144 : Int32).toInt < (x2_2 : Int32).toInt := i_lt.mp c_6
        have : (144 : Int32).toInt = 144 := by decide
        refine x_aload_n C 1 dX5_markEnds_22 rfl rfl ?_
        refine x_callV C [] [] [0, 1, 2, 3, 4, 5, 6, 7, 8, 9, 10, 11, 12, 13, 14, 15, 16] [] (q0 := 0) (c_X5_evenings (xl X) (xD X) (xt X) hT ho o0 o1 op fo1_2 hn n0 n1 n2 n3 na nx ns nw nr nz nt nd hm mn mo mu mg mt mb hb b0 b1 b2 b3 b4 b5 b6 pa mi ga te kn wa ne wc la br (by omega) hup) dX5_markEnds_23 wd_662 wd_543 wd_544 wd_32 wd_545 (np := 0) ⟨by decide, by decide, by decide +kernel⟩ rfl rfl (Nat.le_of_ble_eq_true rfl) (by decide) rfl rfl rfl rfl (by decide) rfl (by decide) (by decide) (fun v W1 h => ?_)
        obtain ⟨r_23, nw2_23, rfl, rfl, h_23⟩ := h
        show V X 4 [(ho, .inr (5, [.ref hb, .ref hn, .ref o0, .ref o1])), (o0, .inl (cI, 4, .inl op)), (o1, .inl (cZ, 145, .inl fo1_2)), (hn, .inr (4, [.ref hb, .ref hm, .ref n0, .ref n1, .ref n2, .ref n3, .int nr, .int nz, .int nt, .int nd])), (n0, .inl (cI, 3784, .inl na)), (n1, .inl (cI, 15136, .inl nx)), (n2, .inl (cJ, 3784, .inr (.inl nw2_23))), (n3, .inl (cI, 8192, .inl ns)), (hm, .inr (3, [.ref hb, .int mn, .int mo, .int mu, .int mg, .int mt, .int mb])), (hb, .inr (0, [.ref b0, .ref b1, .ref b2, .ref b3, .ref b4, .ref b5, .ref b6, .int wc, .int la, .int br])), (b0, .inl (cI, 4, .inl pa)), (b1, .inl (cI, 16, .inl mi)), (b2, .inl (cI, 4, .inl ga)), (b3, .inl (cI, 4, .inl te)), (b4, .inl (cI, 4, .inl kn)), (b5, .inl (cI, 6, .inl wa)), (b6, .inl (cI, 16, .inl ne))] [(2, .int x2_2), (0, .ref ho), (1, .int s)] [.long r_23] 26 0 0
        refine x_pop2 C dX5_markEnds_26 rfl ?_
        refine x_iconst C 0 dX5_markEnds_27 (by decide) ?_
        refine x_istore_n C [(2, .int 0), (0, .ref ho), (1, .int s)] dX5_markEnds_28 rfl (by decide) rfl ?_
        have L_29 : ∀ (n_29 : Nat) (x2_29 : Int32) (fo1_29 : Nat → Int32), ((0 ≤ x2_29.toInt ∧ x2_29.toInt ≤ nz.toInt)) → ((nz.toInt - x2_29.toInt).toNat < n_29) → V X 4 [(ho, .inr (5, [.ref hb, .ref hn, .ref o0, .ref o1])), (o0, .inl (cI, 4, .inl op)), (o1, .inl (cZ, 145, .inl fo1_29)), (hn, .inr (4, [.ref hb, .ref hm, .ref n0, .ref n1, .ref n2, .ref n3, .int nr, .int nz, .int nt, .int nd])), (n0, .inl (cI, 3784, .inl na)), (n1, .inl (cI, 15136, .inl nx)), (n2, .inl (cJ, 3784, .inr (.inl nw2_23))), (n3, .inl (cI, 8192, .inl ns)), (hm, .inr (3, [.ref hb, .int mn, .int mo, .int mu, .int mg, .int mt, .int mb])), (hb, .inr (0, [.ref b0, .ref b1, .ref b2, .ref b3, .ref b4, .ref b5, .ref b6, .int wc, .int la, .int br])), (b0, .inl (cI, 4, .inl pa)), (b1, .inl (cI, 16, .inl mi)), (b2, .inl (cI, 4, .inl ga)), (b3, .inl (cI, 4, .inl te)), (b4, .inl (cI, 4, .inl kn)), (b5, .inl (cI, 6, .inl wa)), (b6, .inl (cI, 16, .inl ne))] [(2, .int x2_29), (0, .ref ho), (1, .int s)] [] 29 0 0 := by
          intro n_29
          induction n_29 with
          | zero =>
            intro x2_29 fo1_29 i_29 m_29
            exact absurd m_29 (Nat.not_lt_zero _)
          | succ n_29 ih_29 =>
            intro x2_29 fo1_29 i_29 m_29
            refine x_iload_n C 0 dX5_markEnds_29 rfl rfl ?_
            refine x_aload_n C 1 dX5_markEnds_30 rfl rfl ?_
            refine x_get C 0 1 dX5_markEnds_31 inlX5 rfl (by decide) wd_99 rfl rfl rfl ?_
            refine x_getN C 3 7 dX5_markEnds_34 inlX4 rfl (by decide) nt_36 rfl rfl rfl ?_
            refine x_icmp_ge C 100 dX5_markEnds_37 (by decide) (fun c_37 => ?_) (fun c_37 => ?_)
            · skip
              have e_37 : (nz : Int32).toInt ≤ (x2_29 : Int32).toInt := i_le.mp c_37
              exact x_vret C dX5_markEnds_100 (Nat.zero_le _) (Nat.zero_le _) (by rw [eO]; exact ⟨nw2_23, fo1_29, rfl, rfl, trivial⟩)
            · skip
              have e_37 : ¬ ((nz : Int32).toInt ≤ (x2_29 : Int32).toInt) := fun h => c_37 (i_le.mpr h)
              refine x_aload_n C 1 dX5_markEnds_40 rfl rfl ?_
              refine x_get C 0 1 dX5_markEnds_41 inlX5 rfl (by decide) wd_99 rfl rfl rfl ?_
              refine x_iload_n C 0 dX5_markEnds_44 rfl rfl ?_
              refine x_iload_n C 2 dX5_markEnds_45 rfl rfl ?_
              refine x_callV C [.int x2_29, .int s] [(ho, .inr (5, [.ref hb, .ref hn, .ref o0, .ref o1])), (o0, .inl (cI, 4, .inl op)), (o1, .inl (cZ, 145, .inl fo1_29))] [3, 4, 5, 6, 7, 8, 9, 10, 11, 12, 13, 14, 15, 16] [0, 1, 2] (q0 := 0) (c_X4_nodeAfter (xl X) (xD X) (xt X) hT hn n0 n1 n2 n3 na nx ns nw2_23 nr nz nt nd hm mn mo mu mg mt mb hb b0 b1 b2 b3 b4 b5 b6 pa mi ga te kn wa ne wc la br x2_29 s (by omega) (by omega) (by omega)) dX5_markEnds_46 wd_555 wd_556 wd_557 wd_28 wd_558 (np := 2) ⟨by decide, by decide, by decide +kernel⟩ rfl rfl (Nat.le_of_ble_eq_true rfl) (by decide) rfl rfl rfl rfl (by decide) rfl (by decide) (by decide) (fun v W1 h => ?_)
              obtain ⟨r_46, rfl, rfl, h_46⟩ := h
              show V X 4 [(ho, .inr (5, [.ref hb, .ref hn, .ref o0, .ref o1])), (o0, .inl (cI, 4, .inl op)), (o1, .inl (cZ, 145, .inl fo1_29)), (hn, .inr (4, [.ref hb, .ref hm, .ref n0, .ref n1, .ref n2, .ref n3, .int nr, .int nz, .int nt, .int nd])), (n0, .inl (cI, 3784, .inl na)), (n1, .inl (cI, 15136, .inl nx)), (n2, .inl (cJ, 3784, .inr (.inl nw2_23))), (n3, .inl (cI, 8192, .inl ns)), (hm, .inr (3, [.ref hb, .int mn, .int mo, .int mu, .int mg, .int mt, .int mb])), (hb, .inr (0, [.ref b0, .ref b1, .ref b2, .ref b3, .ref b4, .ref b5, .ref b6, .int wc, .int la, .int br])), (b0, .inl (cI, 4, .inl pa)), (b1, .inl (cI, 16, .inl mi)), (b2, .inl (cI, 4, .inl ga)), (b3, .inl (cI, 4, .inl te)), (b4, .inl (cI, 4, .inl kn)), (b5, .inl (cI, 6, .inl wa)), (b6, .inl (cI, 16, .inl ne))] [(2, .int x2_29), (0, .ref ho), (1, .int s)] [.int r_46] 49 0 0
              refine x_istore_n C [(3, .int r_46), (2, .int x2_29), (0, .ref ho), (1, .int s)] dX5_markEnds_49 rfl (by decide) rfl ?_
              refine x_iload_n C 0 dX5_markEnds_50 rfl rfl ?_
              refine x_bipush C (-6) dX5_markEnds_51 (by decide) ?_
              have J_94 : ∀ (fo1_94 : Nat → Int32), V X 4 [(hn, .inr (4, [.ref hb, .ref hm, .ref n0, .ref n1, .ref n2, .ref n3, .int nr, .int nz, .int nt, .int nd])), (n0, .inl (cI, 3784, .inl na)), (n1, .inl (cI, 15136, .inl nx)), (n2, .inl (cJ, 3784, .inr (.inl nw2_23))), (n3, .inl (cI, 8192, .inl ns)), (hm, .inr (3, [.ref hb, .int mn, .int mo, .int mu, .int mg, .int mt, .int mb])), (hb, .inr (0, [.ref b0, .ref b1, .ref b2, .ref b3, .ref b4, .ref b5, .ref b6, .int wc, .int la, .int br])), (b0, .inl (cI, 4, .inl pa)), (b1, .inl (cI, 16, .inl mi)), (b2, .inl (cI, 4, .inl ga)), (b3, .inl (cI, 4, .inl te)), (b4, .inl (cI, 4, .inl kn)), (b5, .inl (cI, 6, .inl wa)), (b6, .inl (cI, 16, .inl ne)), (ho, .inr (5, [.ref hb, .ref hn, .ref o0, .ref o1])), (o0, .inl (cI, 4, .inl op)), (o1, .inl (cZ, 145, .inl fo1_94))] [(3, .int r_46), (2, .int x2_29), (0, .ref ho), (1, .int s)] [] 94 0 0 := by
                intro fo1_94
                refine x_iinc C 1 (x2_29 + 1) [(2, .int (x2_29 + 1)), (3, .int r_46), (0, .ref ho), (1, .int s)] dX5_markEnds_94 rfl rfl (by decide) rfl ?_
                refine x_goto C 29 dX5_markEnds_97 (by decide) ?_
                refine x_sub [(ho, .inr (5, [.ref hb, .ref hn, .ref o0, .ref o1])), (o0, .inl (cI, 4, .inl op)), (o1, .inl (cZ, 145, .inl fo1_94)), (hn, .inr (4, [.ref hb, .ref hm, .ref n0, .ref n1, .ref n2, .ref n3, .int nr, .int nz, .int nt, .int nd])), (n0, .inl (cI, 3784, .inl na)), (n1, .inl (cI, 15136, .inl nx)), (n2, .inl (cJ, 3784, .inr (.inl nw2_23))), (n3, .inl (cI, 8192, .inl ns)), (hm, .inr (3, [.ref hb, .int mn, .int mo, .int mu, .int mg, .int mt, .int mb])), (hb, .inr (0, [.ref b0, .ref b1, .ref b2, .ref b3, .ref b4, .ref b5, .ref b6, .int wc, .int la, .int br])), (b0, .inl (cI, 4, .inl pa)), (b1, .inl (cI, 16, .inl mi)), (b2, .inl (cI, 4, .inl ga)), (b3, .inl (cI, 4, .inl te)), (b4, .inl (cI, 4, .inl kn)), (b5, .inl (cI, 6, .inl wa)), (b6, .inl (cI, 16, .inl ne))] [14, 15, 16, 0, 1, 2, 3, 4, 5, 6, 7, 8, 9, 10, 11, 12, 13] (by decide) rfl ?_
                refine x_lv [(2, .int (x2_29 + 1)), (0, .ref ho), (1, .int s)] [0, 2, 3] rfl ?_
                have : (1 : Int32).toInt = 1 := by decide
                have := i_add (x := x2_29) (y := 1) (by omega) (by omega)
                exact ih_29 (x2_29 + 1) fo1_94 (by omega) (by omega)
              refine x_icmp_eq C 94 dX5_markEnds_53 (by decide) (fun c_53 => ?_) (fun c_53 => ?_)
              · skip
                have e_53 : (r_46 : Int32).toInt = ((-6) : Int32).toInt := i_eq.mp c_53
                have : ((-6) : Int32).toInt = -6 := by decide
                refine x_sub [(hn, .inr (4, [.ref hb, .ref hm, .ref n0, .ref n1, .ref n2, .ref n3, .int nr, .int nz, .int nt, .int nd])), (n0, .inl (cI, 3784, .inl na)), (n1, .inl (cI, 15136, .inl nx)), (n2, .inl (cJ, 3784, .inr (.inl nw2_23))), (n3, .inl (cI, 8192, .inl ns)), (hm, .inr (3, [.ref hb, .int mn, .int mo, .int mu, .int mg, .int mt, .int mb])), (hb, .inr (0, [.ref b0, .ref b1, .ref b2, .ref b3, .ref b4, .ref b5, .ref b6, .int wc, .int la, .int br])), (b0, .inl (cI, 4, .inl pa)), (b1, .inl (cI, 16, .inl mi)), (b2, .inl (cI, 4, .inl ga)), (b3, .inl (cI, 4, .inl te)), (b4, .inl (cI, 4, .inl kn)), (b5, .inl (cI, 6, .inl wa)), (b6, .inl (cI, 16, .inl ne)), (ho, .inr (5, [.ref hb, .ref hn, .ref o0, .ref o1])), (o0, .inl (cI, 4, .inl op)), (o1, .inl (cZ, 145, .inl fo1_29))] [3, 4, 5, 6, 7, 8, 9, 10, 11, 12, 13, 14, 15, 16, 0, 1, 2] (by decide) rfl ?_
                exact J_94 fo1_29
              · skip
                have e_53 : ¬ ((r_46 : Int32).toInt = ((-6) : Int32).toInt) := fun h => c_53 (i_eq.mpr h)
                have : ((-6) : Int32).toInt = -6 := by decide
                refine x_aload_n C 2 dX5_markEnds_56 rfl rfl ?_
                refine x_get C 0 1 dX5_markEnds_57 inlX5 rfl (by decide) wd_99 rfl rfl rfl ?_
                refine x_iload_n C 0 dX5_markEnds_60 rfl rfl ?_
                refine x_iload_n C 3 dX5_markEnds_61 rfl rfl ?_
                refine x_callV C [.int r_46, .int s] [(ho, .inr (5, [.ref hb, .ref hn, .ref o0, .ref o1])), (o0, .inl (cI, 4, .inl op)), (o1, .inl (cZ, 145, .inl fo1_29))] [3, 4, 5, 6, 7, 8, 9, 10, 11, 12, 13, 14, 15, 16] [0, 1, 2] (q0 := 0) (c_X4_isOut (xl X) (xD X) (xt X) hT hn n0 n1 n2 n3 na nx ns nw2_23 nr nz nt nd hm mn mo mu mg mt mb hb b0 b1 b2 b3 b4 b5 b6 pa mi ga te kn wa ne wc la br r_46 s (by omega) (by omega)) dX5_markEnds_62 wd_663 wd_551 wd_552 wd_28 wd_553 (np := 2) ⟨by decide, by decide, by decide +kernel⟩ rfl rfl (Nat.le_of_ble_eq_true rfl) (by decide) rfl rfl rfl rfl (by decide) rfl (by decide) (by decide) (fun v W1 h => ?_)
                obtain ⟨r_62, rfl, rfl, h_62⟩ := h
                show V X 4 [(ho, .inr (5, [.ref hb, .ref hn, .ref o0, .ref o1])), (o0, .inl (cI, 4, .inl op)), (o1, .inl (cZ, 145, .inl fo1_29)), (hn, .inr (4, [.ref hb, .ref hm, .ref n0, .ref n1, .ref n2, .ref n3, .int nr, .int nz, .int nt, .int nd])), (n0, .inl (cI, 3784, .inl na)), (n1, .inl (cI, 15136, .inl nx)), (n2, .inl (cJ, 3784, .inr (.inl nw2_23))), (n3, .inl (cI, 8192, .inl ns)), (hm, .inr (3, [.ref hb, .int mn, .int mo, .int mu, .int mg, .int mt, .int mb])), (hb, .inr (0, [.ref b0, .ref b1, .ref b2, .ref b3, .ref b4, .ref b5, .ref b6, .int wc, .int la, .int br])), (b0, .inl (cI, 4, .inl pa)), (b1, .inl (cI, 16, .inl mi)), (b2, .inl (cI, 4, .inl ga)), (b3, .inl (cI, 4, .inl te)), (b4, .inl (cI, 4, .inl kn)), (b5, .inl (cI, 6, .inl wa)), (b6, .inl (cI, 16, .inl ne))] [(3, .int r_46), (2, .int x2_29), (0, .ref ho), (1, .int s)] [.int r_62] 65 0 0
                refine x_if_eq C 94 dX5_markEnds_65 (by decide) (fun c_65 => ?_) (fun c_65 => ?_)
                · skip
                  have e_65 : (r_62 : Int32).toInt = (0 : Int32).toInt := i_eq.mp c_65
                  have : (0 : Int32).toInt = 0 := by decide
                  refine x_sub [(hn, .inr (4, [.ref hb, .ref hm, .ref n0, .ref n1, .ref n2, .ref n3, .int nr, .int nz, .int nt, .int nd])), (n0, .inl (cI, 3784, .inl na)), (n1, .inl (cI, 15136, .inl nx)), (n2, .inl (cJ, 3784, .inr (.inl nw2_23))), (n3, .inl (cI, 8192, .inl ns)), (hm, .inr (3, [.ref hb, .int mn, .int mo, .int mu, .int mg, .int mt, .int mb])), (hb, .inr (0, [.ref b0, .ref b1, .ref b2, .ref b3, .ref b4, .ref b5, .ref b6, .int wc, .int la, .int br])), (b0, .inl (cI, 4, .inl pa)), (b1, .inl (cI, 16, .inl mi)), (b2, .inl (cI, 4, .inl ga)), (b3, .inl (cI, 4, .inl te)), (b4, .inl (cI, 4, .inl kn)), (b5, .inl (cI, 6, .inl wa)), (b6, .inl (cI, 16, .inl ne)), (ho, .inr (5, [.ref hb, .ref hn, .ref o0, .ref o1])), (o0, .inl (cI, 4, .inl op)), (o1, .inl (cZ, 145, .inl fo1_29))] [3, 4, 5, 6, 7, 8, 9, 10, 11, 12, 13, 14, 15, 16, 0, 1, 2] (by decide) rfl ?_
                  exact J_94 fo1_29
                · skip
                  have e_65 : ¬ ((r_62 : Int32).toInt = (0 : Int32).toInt) := fun h => c_65 (i_eq.mpr h)
                  have : (0 : Int32).toInt = 0 := by decide
                  refine x_aload_n C 2 dX5_markEnds_68 rfl rfl ?_
                  refine x_get C 0 1 dX5_markEnds_69 inlX5 rfl (by decide) wd_99 rfl rfl rfl ?_
                  refine x_getN C 3 4 dX5_markEnds_72 inlX4 rfl (by decide) nt_34 rfl rfl rfl ?_
                  refine x_iload_n C 0 dX5_markEnds_75 rfl rfl ?_
                  have v_76 : vp_in r_46 3784 := (vp_in_iff.mpr (by omega))
                  refine x_lald C 6 1 dX5_markEnds_76 hT.2.1 rfl v_76 ?_
                  refine x_lconst C 0 dX5_markEnds_77 (by decide) ?_
                  refine x_lcmp C dX5_markEnds_78 ?_
                  refine x_if_le C 94 dX5_markEnds_79 (by decide) (fun c_79 => ?_) (fun c_79 => ?_)
                  · skip
                    have e_79 : ((nw2_23 (Int32.toNatClampNeg r_46)) : Int64).toInt ≤ (0 : Int64).toInt := lc_le.mp c_79
                    have : (0 : Int64).toInt = 0 := by decide
                    refine x_sub [(hn, .inr (4, [.ref hb, .ref hm, .ref n0, .ref n1, .ref n2, .ref n3, .int nr, .int nz, .int nt, .int nd])), (n0, .inl (cI, 3784, .inl na)), (n1, .inl (cI, 15136, .inl nx)), (n2, .inl (cJ, 3784, .inr (.inl nw2_23))), (n3, .inl (cI, 8192, .inl ns)), (hm, .inr (3, [.ref hb, .int mn, .int mo, .int mu, .int mg, .int mt, .int mb])), (hb, .inr (0, [.ref b0, .ref b1, .ref b2, .ref b3, .ref b4, .ref b5, .ref b6, .int wc, .int la, .int br])), (b0, .inl (cI, 4, .inl pa)), (b1, .inl (cI, 16, .inl mi)), (b2, .inl (cI, 4, .inl ga)), (b3, .inl (cI, 4, .inl te)), (b4, .inl (cI, 4, .inl kn)), (b5, .inl (cI, 6, .inl wa)), (b6, .inl (cI, 16, .inl ne)), (ho, .inr (5, [.ref hb, .ref hn, .ref o0, .ref o1])), (o0, .inl (cI, 4, .inl op)), (o1, .inl (cZ, 145, .inl fo1_29))] [3, 4, 5, 6, 7, 8, 9, 10, 11, 12, 13, 14, 15, 16, 0, 1, 2] (by decide) rfl ?_
                    exact J_94 fo1_29
                  · skip
                    have e_79 : ¬ (((nw2_23 (Int32.toNatClampNeg r_46)) : Int64).toInt ≤ (0 : Int64).toInt) := fun h => c_79 (lc_le.mpr h)
                    have : (0 : Int64).toInt = 0 := by decide
                    refine x_aload_n C 2 dX5_markEnds_82 rfl rfl ?_
                    refine x_aload_n C 2 dX5_markEnds_83 rfl rfl ?_
                    refine x_get C 0 1 dX5_markEnds_84 inlX5 rfl (by decide) wd_99 rfl rfl rfl ?_
                    refine x_iload_n C 0 dX5_markEnds_87 rfl rfl ?_
                    refine x_callV C [.int r_46] [(ho, .inr (5, [.ref hb, .ref hn, .ref o0, .ref o1])), (o0, .inl (cI, 4, .inl op)), (o1, .inl (cZ, 145, .inl fo1_29))] [3, 4, 5, 6, 7, 8, 9, 10, 11, 12, 13, 14, 15, 16] [0, 1, 2] (q0 := 0) (c_X4_minutesAt (xl X) (xD X) (xt X) hT hn n0 n1 n2 n3 na nx ns nw2_23 nr nz nt nd hm mn mo mu mg mt mb hb b0 b1 b2 b3 b4 b5 b6 pa mi ga te kn wa ne wc la br r_46 (by omega)) dX5_markEnds_88 wd_664 wd_665 wd_666 wd_28 wd_667 (np := 1) ⟨by decide, by decide, by decide +kernel⟩ rfl rfl (Nat.le_of_ble_eq_true rfl) (by decide) rfl rfl rfl rfl (by decide) rfl (by decide) (by decide) (fun v W1 h => ?_)
                    obtain ⟨r_88, rfl, rfl, h_88⟩ := h
                    show V X 4 [(ho, .inr (5, [.ref hb, .ref hn, .ref o0, .ref o1])), (o0, .inl (cI, 4, .inl op)), (o1, .inl (cZ, 145, .inl fo1_29)), (hn, .inr (4, [.ref hb, .ref hm, .ref n0, .ref n1, .ref n2, .ref n3, .int nr, .int nz, .int nt, .int nd])), (n0, .inl (cI, 3784, .inl na)), (n1, .inl (cI, 15136, .inl nx)), (n2, .inl (cJ, 3784, .inr (.inl nw2_23))), (n3, .inl (cI, 8192, .inl ns)), (hm, .inr (3, [.ref hb, .int mn, .int mo, .int mu, .int mg, .int mt, .int mb])), (hb, .inr (0, [.ref b0, .ref b1, .ref b2, .ref b3, .ref b4, .ref b5, .ref b6, .int wc, .int la, .int br])), (b0, .inl (cI, 4, .inl pa)), (b1, .inl (cI, 16, .inl mi)), (b2, .inl (cI, 4, .inl ga)), (b3, .inl (cI, 4, .inl te)), (b4, .inl (cI, 4, .inl kn)), (b5, .inl (cI, 6, .inl wa)), (b6, .inl (cI, 16, .inl ne))] [(3, .int r_46), (2, .int x2_29), (0, .ref ho), (1, .int s)] [.int r_88, .ref ho] 91 0 0
                    refine x_callV C [.int r_88] [(hn, .inr (4, [.ref hb, .ref hm, .ref n0, .ref n1, .ref n2, .ref n3, .int nr, .int nz, .int nt, .int nd])), (n0, .inl (cI, 3784, .inl na)), (n1, .inl (cI, 15136, .inl nx)), (n2, .inl (cJ, 3784, .inr (.inl nw2_23))), (n3, .inl (cI, 8192, .inl ns)), (hm, .inr (3, [.ref hb, .int mn, .int mo, .int mu, .int mg, .int mt, .int mb])), (hb, .inr (0, [.ref b0, .ref b1, .ref b2, .ref b3, .ref b4, .ref b5, .ref b6, .int wc, .int la, .int br])), (b0, .inl (cI, 4, .inl pa)), (b1, .inl (cI, 16, .inl mi)), (b2, .inl (cI, 4, .inl ga)), (b3, .inl (cI, 4, .inl te)), (b4, .inl (cI, 4, .inl kn)), (b5, .inl (cI, 6, .inl wa)), (b6, .inl (cI, 16, .inl ne))] [0, 1, 2] [3, 4, 5, 6, 7, 8, 9, 10, 11, 12, 13, 14, 15, 16] (q0 := 0) (c_X5_markMinute (xl X) (xD X) (xt X) hT ho o0 o1 op fo1_29 hb hn r_88 ) dX5_markEnds_91 wd_669 wd_670 wd_671 wd_32 wd_672 (np := 1) ⟨by decide, by decide, by decide +kernel⟩ rfl rfl (Nat.le_of_ble_eq_true rfl) (by decide) rfl rfl rfl rfl (by decide) rfl (by decide) (by decide) (fun v W1 h => ?_)
                    obtain ⟨oe2_91, rfl, rfl, h_91⟩ := h
                    show V X 4 [(hn, .inr (4, [.ref hb, .ref hm, .ref n0, .ref n1, .ref n2, .ref n3, .int nr, .int nz, .int nt, .int nd])), (n0, .inl (cI, 3784, .inl na)), (n1, .inl (cI, 15136, .inl nx)), (n2, .inl (cJ, 3784, .inr (.inl nw2_23))), (n3, .inl (cI, 8192, .inl ns)), (hm, .inr (3, [.ref hb, .int mn, .int mo, .int mu, .int mg, .int mt, .int mb])), (hb, .inr (0, [.ref b0, .ref b1, .ref b2, .ref b3, .ref b4, .ref b5, .ref b6, .int wc, .int la, .int br])), (b0, .inl (cI, 4, .inl pa)), (b1, .inl (cI, 16, .inl mi)), (b2, .inl (cI, 4, .inl ga)), (b3, .inl (cI, 4, .inl te)), (b4, .inl (cI, 4, .inl kn)), (b5, .inl (cI, 6, .inl wa)), (b6, .inl (cI, 16, .inl ne)), (ho, .inr (5, [.ref hb, .ref hn, .ref o0, .ref o1])), (o0, .inl (cI, 4, .inl op)), (o1, .inl (cZ, 145, .inl oe2_91))] [(3, .int r_46), (2, .int x2_29), (0, .ref ho), (1, .int s)] [] 94 0 0
                    exact J_94 oe2_91
        have : (0 : Int32).toInt = 0 := by decide
        exact L_29 _ 0 fo1_2 (by omega) (Nat.lt_succ_self _)
      · skip
        have e_6 : ¬ ((144 : Int32).toInt < (x2_2 : Int32).toInt) := fun h => c_6 (i_lt.mpr h)
        have : (144 : Int32).toInt = 144 := by decide
        refine x_aload_n C 1 dX5_markEnds_9 rfl rfl ?_
        refine x_get C 0 3 dX5_markEnds_10 inlX5 rfl (by decide) wd_97 rfl rfl rfl ?_
        refine x_iload_n C 0 dX5_markEnds_13 rfl rfl ?_
        refine x_iconst C 0 dX5_markEnds_14 (by decide) ?_
        have v_15 : vp_in x2_2 145 := (vp_in_iff.mpr (by omega))
        refine x_zast C 2 2 [(ho, .inr (5, [.ref hb, .ref hn, .ref o0, .ref o1])), (o0, .inl (cI, 4, .inl op)), (o1, .inl (cZ, 145, .inl (upd fo1_2 (Int32.toNatClampNeg x2_2) 0))), (hn, .inr (4, [.ref hb, .ref hm, .ref n0, .ref n1, .ref n2, .ref n3, .int nr, .int nz, .int nt, .int nd])), (n0, .inl (cI, 3784, .inl na)), (n1, .inl (cI, 15136, .inl nx)), (n2, .inl (cJ, 3784, .inr (.inl nw))), (n3, .inl (cI, 8192, .inl ns)), (hm, .inr (3, [.ref hb, .int mn, .int mo, .int mu, .int mg, .int mt, .int mb])), (hb, .inr (0, [.ref b0, .ref b1, .ref b2, .ref b3, .ref b4, .ref b5, .ref b6, .int wc, .int la, .int br])), (b0, .inl (cI, 4, .inl pa)), (b1, .inl (cI, 16, .inl mi)), (b2, .inl (cI, 4, .inl ga)), (b3, .inl (cI, 4, .inl te)), (b4, .inl (cI, 4, .inl kn)), (b5, .inl (cI, 6, .inl wa)), (b6, .inl (cI, 16, .inl ne))] dX5_markEnds_15 hT.2.2.1 rfl v_15 rfl rfl ?_
        refine x_iinc C 0 (x2_2 + 1) [(2, .int (x2_2 + 1)), (0, .ref ho), (1, .int s)] dX5_markEnds_16 rfl rfl (by decide) rfl ?_
        refine x_goto C 2 dX5_markEnds_19 (by decide) ?_
        have : (1 : Int32).toInt = 1 := by decide
        have := i_add (x := x2_2) (y := 1) (by omega) (by omega)
        exact ih_2 (x2_2 + 1) (upd fo1_2 (Int32.toNatClampNeg x2_2) 0) (by omega) (by omega)
  have : (0 : Int32).toInt = 0 := by decide
  exact L_2 _ 0 oe (by omega) (Nat.lt_succ_self _)
abbrev rm_X5_marked : Room := { frames := 0, cells := 0, slots := 0, locals := 0 }
set_option maxHeartbeats 4000000 in
set_option maxRecDepth 100000 in
theorem c_X5_marked (l : Launch) (D : va_G) (tys : List (ClassId × FieldType)) {cI cJ cZ cB : ClassId} (hT : Ty tys cI cJ cZ cB) (ho o0 o1 : Nat) (op oe : Nat → Int32) (hb hn : Nat)  : Cn l D tys yX5_marked cX5_marked 3 (some .int) rm_X5_marked [(ho, .inr (5, [.ref hb, .ref hn, .ref o0, .ref o1])), (o0, .inl (cI, 4, .inl op)), (o1, .inl (cZ, 145, .inl oe))] [.ref ho] (fun v W1 => ∃ (r : Int32), v = some (.int r) ∧ W1 = [(ho, .inr (5, [.ref hb, .ref hn, .ref o0, .ref o1])), (o0, .inl (cI, 4, .inl op)), (o1, .inl (cZ, 145, .inl oe))] ∧ (True)) := by
  refine Cn.of (by decide) (Nat.le_of_ble_eq_true rfl) ?_ ?_ (fun X eL eD eT eO eK eN eM C => ?_)
  · intro h; cases h
  · intro v ws h; obtain ⟨_, rfl, rfl, _⟩ := h; exact Or.inl rfl
  subst eL eD eT
  show V X 3 [(ho, .inr (5, [.ref hb, .ref hn, .ref o0, .ref o1])), (o0, .inl (cI, 4, .inl op)), (o1, .inl (cZ, 145, .inl oe))] [(0, .ref ho)] [] 0 0 0
  refine x_iconst C 0 dX5_marked_0 (by decide) ?_
  refine x_istore_n C [(1, .int 0), (0, .ref ho)] dX5_marked_1 rfl (by decide) rfl ?_
  refine x_iconst C 0 dX5_marked_2 (by decide) ?_
  refine x_istore_n C [(2, .int 0), (1, .int 0), (0, .ref ho)] dX5_marked_3 rfl (by decide) rfl ?_
  have L_4 : ∀ (n_4 : Nat) (x2_4 : Int32) (x1_4 : Int32), ((0 ≤ x2_4.toInt ∧ x2_4.toInt ≤ 145)) → ((145 - x2_4.toInt).toNat < n_4) → V X 3 [(ho, .inr (5, [.ref hb, .ref hn, .ref o0, .ref o1])), (o0, .inl (cI, 4, .inl op)), (o1, .inl (cZ, 145, .inl oe))] [(2, .int x2_4), (1, .int x1_4), (0, .ref ho)] [] 4 0 0 := by
    intro n_4
    induction n_4 with
    | zero =>
      intro x2_4 x1_4 i_4 m_4
      exact absurd m_4 (Nat.not_lt_zero _)
    | succ n_4 ih_4 =>
      intro x2_4 x1_4 i_4 m_4
      refine x_iload_n C 0 dX5_marked_4 rfl rfl ?_
      refine x_sipush C 144 dX5_marked_5 (by decide) ?_
      refine x_icmp_gt C 34 dX5_marked_8 (by decide) (fun c_8 => ?_) (fun c_8 => ?_)
      · skip
        have e_8 : (144 : Int32).toInt < (x2_4 : Int32).toInt := i_lt.mp c_8
        have : (144 : Int32).toInt = 144 := by decide
        refine x_iload_n C 1 dX5_marked_34 rfl rfl ?_
        exact x_iret C dX5_marked_35 (Nat.zero_le _) (Nat.zero_le _) (by rw [eO]; exact ⟨x1_4, rfl, rfl, trivial⟩)
      · skip
        have e_8 : ¬ ((144 : Int32).toInt < (x2_4 : Int32).toInt) := fun h => c_8 (i_lt.mpr h)
        have : (144 : Int32).toInt = 144 := by decide
        refine x_iload_n C 1 dX5_marked_11 rfl rfl ?_
        refine x_aload_n C 2 dX5_marked_12 rfl rfl ?_
        refine x_get C 0 3 dX5_marked_13 inlX5 rfl (by decide) wd_97 rfl rfl rfl ?_
        refine x_iload_n C 0 dX5_marked_16 rfl rfl ?_
        have v_17 : vp_in x2_4 145 := (vp_in_iff.mpr (by omega))
        refine x_zald C 2 2 dX5_marked_17 hT.2.2.1 rfl v_17 ?_
        have J_26 : ∀ (s0_26 : Int32), V X 3 [(ho, .inr (5, [.ref hb, .ref hn, .ref o0, .ref o1])), (o0, .inl (cI, 4, .inl op)), (o1, .inl (cZ, 145, .inl oe))] [(2, .int x2_4), (1, .int x1_4), (0, .ref ho)] [.int s0_26, .int x1_4] 26 0 0 := by
          intro s0_26
          refine x_iadd C dX5_marked_26 ?_
          refine x_istore_n C [(1, .int (x1_4 + s0_26)), (2, .int x2_4), (0, .ref ho)] dX5_marked_27 rfl (by decide) rfl ?_
          refine x_iinc C 1 (x2_4 + 1) [(2, .int (x2_4 + 1)), (1, .int (x1_4 + s0_26)), (0, .ref ho)] dX5_marked_28 rfl rfl (by decide) rfl ?_
          refine x_goto C 4 dX5_marked_31 (by decide) ?_
          have : (1 : Int32).toInt = 1 := by decide
          have := i_add (x := x2_4) (y := 1) (by omega) (by omega)
          exact ih_4 (x2_4 + 1) (x1_4 + s0_26) (by omega) (by omega)
        refine x_if_eq C 25 dX5_marked_18 (by decide) (fun c_18 => ?_) (fun c_18 => ?_)
        · skip
          have e_18 : (oe (Int32.toNatClampNeg x2_4) : Int32).toInt = (0 : Int32).toInt := i_eq.mp c_18
          have : (0 : Int32).toInt = 0 := by decide
          refine x_iconst C 0 dX5_marked_25 (by decide) ?_
          exact J_26 0
        · skip
          have e_18 : ¬ ((oe (Int32.toNatClampNeg x2_4) : Int32).toInt = (0 : Int32).toInt) := fun h => c_18 (i_eq.mpr h)
          have : (0 : Int32).toInt = 0 := by decide
          refine x_iconst C 1 dX5_marked_21 (by decide) ?_
          refine x_goto C 26 dX5_marked_22 (by decide) ?_
          exact J_26 1
  have : (0 : Int32).toInt = 0 := by decide
  exact L_4 _ 0 0 (by omega) (Nat.lt_succ_self _)
abbrev rm_X5_markedMinute : Room := { frames := 0, cells := 0, slots := 0, locals := 0 }
set_option maxHeartbeats 4000000 in
set_option maxRecDepth 100000 in
theorem c_X5_markedMinute (l : Launch) (D : va_G) (tys : List (ClassId × FieldType)) {cI cJ cZ cB : ClassId} (hT : Ty tys cI cJ cZ cB) (ho o0 o1 : Nat) (op oe : Nat → Int32) (hb hn : Nat) (i : Int32)  : Cn l D tys yX5_markedMinute cX5_markedMinute 4 (some .int) rm_X5_markedMinute [(ho, .inr (5, [.ref hb, .ref hn, .ref o0, .ref o1])), (o0, .inl (cI, 4, .inl op)), (o1, .inl (cZ, 145, .inl oe))] [.ref ho, .int i] (fun v W1 => ∃ (r : Int32), v = some (.int r) ∧ W1 = [(ho, .inr (5, [.ref hb, .ref hn, .ref o0, .ref o1])), (o0, .inl (cI, 4, .inl op)), (o1, .inl (cZ, 145, .inl oe))] ∧ (True)) := by
  refine Cn.of (by decide) (Nat.le_of_ble_eq_true rfl) ?_ ?_ (fun X eL eD eT eO eK eN eM C => ?_)
  · intro h; cases h
  · intro v ws h; obtain ⟨_, rfl, rfl, _⟩ := h; exact Or.inl rfl
  subst eL eD eT
  show V X 4 [(ho, .inr (5, [.ref hb, .ref hn, .ref o0, .ref o1])), (o0, .inl (cI, 4, .inl op)), (o1, .inl (cZ, 145, .inl oe))] [(0, .ref ho), (1, .int i)] [] 0 0 0
  refine x_iconst C 0 dX5_markedMinute_0 (by decide) ?_
  refine x_istore_n C [(2, .int 0), (0, .ref ho), (1, .int i)] dX5_markedMinute_1 rfl (by decide) rfl ?_
  refine x_iconst C 0 dX5_markedMinute_2 (by decide) ?_
  refine x_istore_n C [(3, .int 0), (2, .int 0), (0, .ref ho), (1, .int i)] dX5_markedMinute_3 rfl (by decide) rfl ?_
  have L_4 : ∀ (n_4 : Nat) (x3_4 : Int32) (x2_4 : Int32), ((0 ≤ x3_4.toInt ∧ x3_4.toInt ≤ 145)) → ((145 - x3_4.toInt).toNat < n_4) → V X 4 [(ho, .inr (5, [.ref hb, .ref hn, .ref o0, .ref o1])), (o0, .inl (cI, 4, .inl op)), (o1, .inl (cZ, 145, .inl oe))] [(3, .int x3_4), (2, .int x2_4), (0, .ref ho), (1, .int i)] [] 4 0 0 := by
    intro n_4
    induction n_4 with
    | zero =>
      intro x3_4 x2_4 i_4 m_4
      exact absurd m_4 (Nat.not_lt_zero _)
    | succ n_4 ih_4 =>
      intro x3_4 x2_4 i_4 m_4
      refine x_iload_n C 0 dX5_markedMinute_4 rfl rfl ?_
      refine x_sipush C 144 dX5_markedMinute_5 (by decide) ?_
      refine x_icmp_gt C 50 dX5_markedMinute_8 (by decide) (fun c_8 => ?_) (fun c_8 => ?_)
      · skip
        have e_8 : (144 : Int32).toInt < (x3_4 : Int32).toInt := i_lt.mp c_8
        have : (144 : Int32).toInt = 144 := by decide
        refine x_bipush C (-6) dX5_markedMinute_50 (by decide) ?_
        have : ((-6) : Int32).toInt = -6 := by decide
        exact x_iret C dX5_markedMinute_52 (Nat.zero_le _) (Nat.zero_le _) (by rw [eO]; exact ⟨((-6)), rfl, rfl, trivial⟩)
      · skip
        have e_8 : ¬ ((144 : Int32).toInt < (x3_4 : Int32).toInt) := fun h => c_8 (i_lt.mpr h)
        have : (144 : Int32).toInt = 144 := by decide
        refine x_aload_n C 2 dX5_markedMinute_11 rfl rfl ?_
        refine x_get C 0 3 dX5_markedMinute_12 inlX5 rfl (by decide) wd_97 rfl rfl rfl ?_
        refine x_iload_n C 0 dX5_markedMinute_15 rfl rfl ?_
        have v_16 : vp_in x3_4 145 := (vp_in_iff.mpr (by omega))
        refine x_zald C 2 2 dX5_markedMinute_16 hT.2.2.1 rfl v_16 ?_
        refine x_if_eq C 27 dX5_markedMinute_17 (by decide) (fun c_17 => ?_) (fun c_17 => ?_)
        · skip
          have e_17 : (oe (Int32.toNatClampNeg x3_4) : Int32).toInt = (0 : Int32).toInt := i_eq.mp c_17
          have : (0 : Int32).toInt = 0 := by decide
          refine x_iload_n C 1 dX5_markedMinute_27 rfl rfl ?_
          refine x_aload_n C 2 dX5_markedMinute_28 rfl rfl ?_
          refine x_get C 0 3 dX5_markedMinute_29 inlX5 rfl (by decide) wd_97 rfl rfl rfl ?_
          refine x_iload_n C 0 dX5_markedMinute_32 rfl rfl ?_
          have v_33 : vp_in x3_4 145 := (vp_in_iff.mpr (by omega))
          refine x_zald C 2 2 dX5_markedMinute_33 hT.2.2.1 rfl v_33 ?_
          have J_42 : ∀ (s0_42 : Int32), V X 4 [(ho, .inr (5, [.ref hb, .ref hn, .ref o0, .ref o1])), (o0, .inl (cI, 4, .inl op)), (o1, .inl (cZ, 145, .inl oe))] [(3, .int x3_4), (2, .int x2_4), (0, .ref ho), (1, .int i)] [.int s0_42, .int x2_4] 42 0 0 := by
            intro s0_42
            refine x_iadd C dX5_markedMinute_42 ?_
            refine x_istore_n C [(2, .int (x2_4 + s0_42)), (3, .int x3_4), (0, .ref ho), (1, .int i)] dX5_markedMinute_43 rfl (by decide) rfl ?_
            refine x_iinc C 1 (x3_4 + 1) [(3, .int (x3_4 + 1)), (2, .int (x2_4 + s0_42)), (0, .ref ho), (1, .int i)] dX5_markedMinute_44 rfl rfl (by decide) rfl ?_
            refine x_goto C 4 dX5_markedMinute_47 (by decide) ?_
            have : (1 : Int32).toInt = 1 := by decide
            have := i_add (x := x3_4) (y := 1) (by omega) (by omega)
            exact ih_4 (x3_4 + 1) (x2_4 + s0_42) (by omega) (by omega)
          refine x_if_eq C 41 dX5_markedMinute_34 (by decide) (fun c_34 => ?_) (fun c_34 => ?_)
          · skip
            have e_34 : (oe (Int32.toNatClampNeg x3_4) : Int32).toInt = (0 : Int32).toInt := i_eq.mp c_34
            have : (0 : Int32).toInt = 0 := by decide
            refine x_iconst C 0 dX5_markedMinute_41 (by decide) ?_
            exact J_42 0
          · skip
            have e_34 : ¬ ((oe (Int32.toNatClampNeg x3_4) : Int32).toInt = (0 : Int32).toInt) := fun h => c_34 (i_eq.mpr h)
            have : (0 : Int32).toInt = 0 := by decide
            refine x_iconst C 1 dX5_markedMinute_37 (by decide) ?_
            refine x_goto C 42 dX5_markedMinute_38 (by decide) ?_
            exact J_42 1
        · skip
          have e_17 : ¬ ((oe (Int32.toNatClampNeg x3_4) : Int32).toInt = (0 : Int32).toInt) := fun h => c_17 (i_eq.mpr h)
          have : (0 : Int32).toInt = 0 := by decide
          refine x_iload_n C 1 dX5_markedMinute_20 rfl rfl ?_
          refine x_iload_n C 3 dX5_markedMinute_21 rfl rfl ?_
          refine x_icmp_ne C 27 dX5_markedMinute_22 (by decide) (fun c_22 => ?_) (fun c_22 => ?_)
          · skip
            have e_22 : ¬ ((x2_4 : Int32).toInt = (i : Int32).toInt) := fun h => c_22 (i_eq.mpr h)
            refine x_iload_n C 1 dX5_markedMinute_27 rfl rfl ?_
            refine x_aload_n C 2 dX5_markedMinute_28 rfl rfl ?_
            refine x_get C 0 3 dX5_markedMinute_29 inlX5 rfl (by decide) wd_97 rfl rfl rfl ?_
            refine x_iload_n C 0 dX5_markedMinute_32 rfl rfl ?_
            have v_33 : vp_in x3_4 145 := (vp_in_iff.mpr (by omega))
            refine x_zald C 2 2 dX5_markedMinute_33 hT.2.2.1 rfl v_33 ?_
            have J_42 : ∀ (s0_42 : Int32), V X 4 [(ho, .inr (5, [.ref hb, .ref hn, .ref o0, .ref o1])), (o0, .inl (cI, 4, .inl op)), (o1, .inl (cZ, 145, .inl oe))] [(3, .int x3_4), (2, .int x2_4), (0, .ref ho), (1, .int i)] [.int s0_42, .int x2_4] 42 0 0 := by
              intro s0_42
              refine x_iadd C dX5_markedMinute_42 ?_
              refine x_istore_n C [(2, .int (x2_4 + s0_42)), (3, .int x3_4), (0, .ref ho), (1, .int i)] dX5_markedMinute_43 rfl (by decide) rfl ?_
              refine x_iinc C 1 (x3_4 + 1) [(3, .int (x3_4 + 1)), (2, .int (x2_4 + s0_42)), (0, .ref ho), (1, .int i)] dX5_markedMinute_44 rfl rfl (by decide) rfl ?_
              refine x_goto C 4 dX5_markedMinute_47 (by decide) ?_
              have : (1 : Int32).toInt = 1 := by decide
              have := i_add (x := x3_4) (y := 1) (by omega) (by omega)
              exact ih_4 (x3_4 + 1) (x2_4 + s0_42) (by omega) (by omega)
            refine x_if_eq C 41 dX5_markedMinute_34 (by decide) (fun c_34 => ?_) (fun c_34 => ?_)
            · skip
              have e_34 : (oe (Int32.toNatClampNeg x3_4) : Int32).toInt = (0 : Int32).toInt := i_eq.mp c_34
              have : (0 : Int32).toInt = 0 := by decide
              refine x_iconst C 0 dX5_markedMinute_41 (by decide) ?_
              exact J_42 0
            · skip
              have e_34 : ¬ ((oe (Int32.toNatClampNeg x3_4) : Int32).toInt = (0 : Int32).toInt) := fun h => c_34 (i_eq.mpr h)
              have : (0 : Int32).toInt = 0 := by decide
              refine x_iconst C 1 dX5_markedMinute_37 (by decide) ?_
              refine x_goto C 42 dX5_markedMinute_38 (by decide) ?_
              exact J_42 1
          · skip
            have e_22 : (x2_4 : Int32).toInt = (i : Int32).toInt := i_eq.mp c_22
            refine x_iload_n C 0 dX5_markedMinute_25 rfl rfl ?_
            exact x_iret C dX5_markedMinute_26 (Nat.zero_le _) (Nat.zero_le _) (by rw [eO]; exact ⟨x3_4, rfl, rfl, trivial⟩)
  have : (0 : Int32).toInt = 0 := by decide
  exact L_4 _ 0 0 (by omega) (Nat.lt_succ_self _)
