theorem z_vn {x : Int32} (h : x.toInt = 0 ∨ x.toInt = 1) : vp_nar .boolean x = x := by unfold vp_nar; rw [(z_nar h).1]
theorem i_shl1 {x : Int32} (h : 0 ≤ x.toInt ∧ x.toInt ≤ 6) : 0 ≤ (((1 : Int32) <<< (x &&& 31)) - 1).toInt ∧ (((1 : Int32) <<< (x &&& 31)) - 1).toInt ≤ 63 := by
  obtain ⟨j, hj, rfl⟩ := nI_of2 (x := x) (M := 6) (n := 6) (by decide) (fun h9 => by
    have := i_lt.mp h9
    have : (0 : Int32).toInt = 0 := rfl
    omega) (i_le.mpr (by
    have : (6 : Int32).toInt = 6 := rfl
    omega))
  have h9 : ∀ j : Fin 7, 0 ≤ (((1 : Int32) <<< (nI j.val &&& 31)) - 1).toInt ∧ (((1 : Int32) <<< (nI j.val &&& 31)) - 1).toInt ≤ 63 := by decide
  exact h9 ⟨j, by omega⟩
abbrev rm_X2_canWin : Room := { frames := 2, cells := 0, slots := 0, locals := 45 }
set_option maxHeartbeats 4000000 in
set_option maxRecDepth 100000 in
theorem c_X2_canWin (l : Launch) (D : va_G) (tys : List (ClassId × FieldType)) {cI cJ cZ cB : ClassId} (hT : Ty tys cI cJ cZ cB) (hg : Nat) (hn n0 n1 n2 n3 : Nat) (na nx ns : Nat → Int32) (nw : Nat → Int64) (nr nz nt nd : Int32) (hm : Nat) (mn mo mu mg mt mb : Int32) (hb b0 b1 b2 b3 b4 b5 b6 : Nat) (pa mi ga te kn wa ne : Nat → Int32) (wc la br : Int32) (a : Int32) (hz : 0 ≤ nz.toInt ∧ nz.toInt ≤ 3784) (hnode : 0 ≤ a.toInt ∧ a.toInt < 3784) : Cn l D tys yX2_canWin cX2_canWin 6 (some .boolean) rm_X2_canWin [(hg, .inr (2, [.ref hn])), (hn, .inr (4, [.ref hb, .ref hm, .ref n0, .ref n1, .ref n2, .ref n3, .int nr, .int nz, .int nt, .int nd])), (n0, .inl (cI, 3784, .inl na)), (n1, .inl (cI, 15136, .inl nx)), (n2, .inl (cJ, 3784, .inr (.inl nw))), (n3, .inl (cI, 8192, .inl ns)), (hm, .inr (3, [.ref hb, .int mn, .int mo, .int mu, .int mg, .int mt, .int mb])), (hb, .inr (0, [.ref b0, .ref b1, .ref b2, .ref b3, .ref b4, .ref b5, .ref b6, .int wc, .int la, .int br])), (b0, .inl (cI, 4, .inl pa)), (b1, .inl (cI, 16, .inl mi)), (b2, .inl (cI, 4, .inl ga)), (b3, .inl (cI, 4, .inl te)), (b4, .inl (cI, 4, .inl kn)), (b5, .inl (cI, 6, .inl wa)), (b6, .inl (cI, 16, .inl ne))] [.ref hg, .int a] (fun v W1 => ∃ (r : Int32), v = some (.int r) ∧ W1 = [(hg, .inr (2, [.ref hn])), (hn, .inr (4, [.ref hb, .ref hm, .ref n0, .ref n1, .ref n2, .ref n3, .int nr, .int nz, .int nt, .int nd])), (n0, .inl (cI, 3784, .inl na)), (n1, .inl (cI, 15136, .inl nx)), (n2, .inl (cJ, 3784, .inr (.inl nw))), (n3, .inl (cI, 8192, .inl ns)), (hm, .inr (3, [.ref hb, .int mn, .int mo, .int mu, .int mg, .int mt, .int mb])), (hb, .inr (0, [.ref b0, .ref b1, .ref b2, .ref b3, .ref b4, .ref b5, .ref b6, .int wc, .int la, .int br])), (b0, .inl (cI, 4, .inl pa)), (b1, .inl (cI, 16, .inl mi)), (b2, .inl (cI, 4, .inl ga)), (b3, .inl (cI, 4, .inl te)), (b4, .inl (cI, 4, .inl kn)), (b5, .inl (cI, 6, .inl wa)), (b6, .inl (cI, 16, .inl ne))] ∧ (r.toInt = 0 ∨ r.toInt = 1)) := by
  refine Cn.of (by decide) (Nat.le_of_ble_eq_true rfl) ?_ ?_ (fun X eL eD eT eO eK eN eM C => ?_)
  · intro _ v ws h; obtain ⟨_, rfl, rfl, h⟩ := h; exact z_of (by omega)
  · intro v ws h; obtain ⟨_, rfl, rfl, _⟩ := h; exact Or.inr rfl
  subst eL eD eT
  show V X 6 [(hg, .inr (2, [.ref hn])), (hn, .inr (4, [.ref hb, .ref hm, .ref n0, .ref n1, .ref n2, .ref n3, .int nr, .int nz, .int nt, .int nd])), (n0, .inl (cI, 3784, .inl na)), (n1, .inl (cI, 15136, .inl nx)), (n2, .inl (cJ, 3784, .inr (.inl nw))), (n3, .inl (cI, 8192, .inl ns)), (hm, .inr (3, [.ref hb, .int mn, .int mo, .int mu, .int mg, .int mt, .int mb])), (hb, .inr (0, [.ref b0, .ref b1, .ref b2, .ref b3, .ref b4, .ref b5, .ref b6, .int wc, .int la, .int br])), (b0, .inl (cI, 4, .inl pa)), (b1, .inl (cI, 16, .inl mi)), (b2, .inl (cI, 4, .inl ga)), (b3, .inl (cI, 4, .inl te)), (b4, .inl (cI, 4, .inl kn)), (b5, .inl (cI, 6, .inl wa)), (b6, .inl (cI, 16, .inl ne))] [(0, .ref hg), (1, .int a)] [] 0 0 0
  refine x_iconst C 0 dX2_canWin_0 (by decide) ?_
  refine x_istore_n C [(2, .int 0), (0, .ref hg), (1, .int a)] dX2_canWin_1 rfl (by decide) rfl ?_
  refine x_iconst C 0 dX2_canWin_2 (by decide) ?_
  refine x_istore_n C [(3, .int 0), (2, .int 0), (0, .ref hg), (1, .int a)] dX2_canWin_3 rfl (by decide) rfl ?_
  refine x_iconst C 0 dX2_canWin_4 (by decide) ?_
  refine x_istore C [(4, .int 0), (3, .int 0), (2, .int 0), (0, .ref hg), (1, .int a)] dX2_canWin_5 (by decide) rfl ?_
  have L_7 : ∀ (n_7 : Nat) (x4_7 : Int32) (x3_7 : Int32) (x2_7 : Int32), ((0 ≤ x4_7.toInt ∧ x4_7.toInt ≤ 4)) → ((4 - x4_7.toInt).toNat < n_7) → V X 6 [(hg, .inr (2, [.ref hn])), (hn, .inr (4, [.ref hb, .ref hm, .ref n0, .ref n1, .ref n2, .ref n3, .int nr, .int nz, .int nt, .int nd])), (n0, .inl (cI, 3784, .inl na)), (n1, .inl (cI, 15136, .inl nx)), (n2, .inl (cJ, 3784, .inr (.inl nw))), (n3, .inl (cI, 8192, .inl ns)), (hm, .inr (3, [.ref hb, .int mn, .int mo, .int mu, .int mg, .int mt, .int mb])), (hb, .inr (0, [.ref b0, .ref b1, .ref b2, .ref b3, .ref b4, .ref b5, .ref b6, .int wc, .int la, .int br])), (b0, .inl (cI, 4, .inl pa)), (b1, .inl (cI, 16, .inl mi)), (b2, .inl (cI, 4, .inl ga)), (b3, .inl (cI, 4, .inl te)), (b4, .inl (cI, 4, .inl kn)), (b5, .inl (cI, 6, .inl wa)), (b6, .inl (cI, 16, .inl ne))] [(4, .int x4_7), (3, .int x3_7), (2, .int x2_7), (0, .ref hg), (1, .int a)] [] 7 0 0 := by
    intro n_7
    induction n_7 with
    | zero =>
      intro x4_7 x3_7 x2_7 i_7 m_7
      exact absurd m_7 (Nat.not_lt_zero _)
    | succ n_7 ih_7 =>
      intro x4_7 x3_7 x2_7 i_7 m_7
      refine x_iload C 0 dX2_canWin_7 rfl ?_
      refine x_iconst C 4 dX2_canWin_9 (by decide) ?_
      refine x_icmp_ge C 64 dX2_canWin_10 (by decide) (fun c_10 => ?_) (fun c_10 => ?_)
      · skip
        have e_10 : (4 : Int32).toInt ≤ (x4_7 : Int32).toInt := i_le.mp c_10
        have : (4 : Int32).toInt = 4 := by decide
        refine x_aload_n C 3 dX2_canWin_64 rfl rfl ?_
        refine x_get C 0 0 dX2_canWin_65 inlX2 rfl (by decide) wd_104 rfl rfl rfl ?_
        refine x_getN C 1 2 dX2_canWin_68 inlX4 rfl (by decide) nt_32 rfl rfl rfl ?_
        refine x_iload_n C 4 dX2_canWin_71 rfl rfl ?_
        have v_72 : vp_in a 3784 := (vp_in_iff.mpr (by omega))
        refine x_iald C 2 0 dX2_canWin_72 hT.1 rfl v_72 ?_
        refine x_callS C [.int (na (Int32.toNatClampNeg a))] [(hg, .inr (2, [.ref hn])), (hn, .inr (4, [.ref hb, .ref hm, .ref n0, .ref n1, .ref n2, .ref n3, .int nr, .int nz, .int nt, .int nd])), (n0, .inl (cI, 3784, .inl na)), (n1, .inl (cI, 15136, .inl nx)), (n2, .inl (cJ, 3784, .inr (.inl nw))), (n3, .inl (cI, 8192, .inl ns)), (hm, .inr (3, [.ref hb, .int mn, .int mo, .int mu, .int mg, .int mt, .int mb])), (hb, .inr (0, [.ref b0, .ref b1, .ref b2, .ref b3, .ref b4, .ref b5, .ref b6, .int wc, .int la, .int br])), (b0, .inl (cI, 4, .inl pa)), (b1, .inl (cI, 16, .inl mi)), (b2, .inl (cI, 4, .inl ga)), (b3, .inl (cI, 4, .inl te)), (b4, .inl (cI, 4, .inl kn)), (b5, .inl (cI, 6, .inl wa)), (b6, .inl (cI, 16, .inl ne))] [] [0, 1, 2, 3, 4, 5, 6, 7, 8, 9, 10, 11, 12, 13, 14] (c_X3_allPartsTold (xl X) (xD X) (xt X) hT (na (Int32.toNatClampNeg a)) ) dX2_canWin_73 wd_712 wd_713 wd_71 wd_714 (np := 1) ⟨by decide, by decide, by decide +kernel⟩ rfl rfl (Nat.le_of_ble_eq_true rfl) (by decide) rfl (by decide) rfl (by decide) (by decide) (fun v W1 h => ?_)
        obtain ⟨_, rfl, rfl, h_73⟩ := h
        show V X 6 [(hg, .inr (2, [.ref hn])), (hn, .inr (4, [.ref hb, .ref hm, .ref n0, .ref n1, .ref n2, .ref n3, .int nr, .int nz, .int nt, .int nd])), (n0, .inl (cI, 3784, .inl na)), (n1, .inl (cI, 15136, .inl nx)), (n2, .inl (cJ, 3784, .inr (.inl nw))), (n3, .inl (cI, 8192, .inl ns)), (hm, .inr (3, [.ref hb, .int mn, .int mo, .int mu, .int mg, .int mt, .int mb])), (hb, .inr (0, [.ref b0, .ref b1, .ref b2, .ref b3, .ref b4, .ref b5, .ref b6, .int wc, .int la, .int br])), (b0, .inl (cI, 4, .inl pa)), (b1, .inl (cI, 16, .inl mi)), (b2, .inl (cI, 4, .inl ga)), (b3, .inl (cI, 4, .inl te)), (b4, .inl (cI, 4, .inl kn)), (b5, .inl (cI, 6, .inl wa)), (b6, .inl (cI, 16, .inl ne))] [(4, .int x4_7), (3, .int x3_7), (2, .int x2_7), (0, .ref hg), (1, .int a)] [.int (ptI (na (Int32.toNatClampNeg a)) 0 + ptI (na (Int32.toNatClampNeg a)) 1 + ptI (na (Int32.toNatClampNeg a)) 2 + ptI (na (Int32.toNatClampNeg a)) 3)] 76 0 0
        refine x_iconst C 2 dX2_canWin_76 (by decide) ?_
        refine x_irem C dX2_canWin_77 (by decide) ?_
        have J_86 : ∀ (s0_86 : Int32), V X 6 [(hg, .inr (2, [.ref hn])), (hn, .inr (4, [.ref hb, .ref hm, .ref n0, .ref n1, .ref n2, .ref n3, .int nr, .int nz, .int nt, .int nd])), (n0, .inl (cI, 3784, .inl na)), (n1, .inl (cI, 15136, .inl nx)), (n2, .inl (cJ, 3784, .inr (.inl nw))), (n3, .inl (cI, 8192, .inl ns)), (hm, .inr (3, [.ref hb, .int mn, .int mo, .int mu, .int mg, .int mt, .int mb])), (hb, .inr (0, [.ref b0, .ref b1, .ref b2, .ref b3, .ref b4, .ref b5, .ref b6, .int wc, .int la, .int br])), (b0, .inl (cI, 4, .inl pa)), (b1, .inl (cI, 16, .inl mi)), (b2, .inl (cI, 4, .inl ga)), (b3, .inl (cI, 4, .inl te)), (b4, .inl (cI, 4, .inl kn)), (b5, .inl (cI, 6, .inl wa)), (b6, .inl (cI, 16, .inl ne))] [(4, .int x4_7), (3, .int x3_7), (2, .int x2_7), (0, .ref hg), (1, .int a)] [.int s0_86] 86 0 0 := by
          intro s0_86
          refine x_istore C [(4, .int s0_86), (3, .int x3_7), (2, .int x2_7), (0, .ref hg), (1, .int a)] dX2_canWin_86 (by decide) rfl ?_
          refine x_iload_n C 1 dX2_canWin_88 rfl rfl ?_
          refine x_if_le C 106 dX2_canWin_89 (by decide) (fun c_89 => ?_) (fun c_89 => ?_)
          · skip
            have e_89 : (x3_7 : Int32).toInt ≤ (0 : Int32).toInt := i_le.mp c_89
            have : (0 : Int32).toInt = 0 := by decide
            refine x_iconst C 0 dX2_canWin_106 (by decide) ?_
            have : (0 : Int32).toInt = 0 := by decide
            exact x_iret C dX2_canWin_107 (Nat.zero_le _) (Nat.zero_le _) (by rw [eO]; exact ⟨0, rfl, rfl, (by omega)⟩)
          · skip
            have e_89 : ¬ ((x3_7 : Int32).toInt ≤ (0 : Int32).toInt) := fun h => c_89 (i_le.mpr h)
            have : (0 : Int32).toInt = 0 := by decide
            refine x_iload C 0 dX2_canWin_92 rfl ?_
            have J_102 : ∀ (x4_102 : Int32), V X 6 [(hg, .inr (2, [.ref hn])), (hn, .inr (4, [.ref hb, .ref hm, .ref n0, .ref n1, .ref n2, .ref n3, .int nr, .int nz, .int nt, .int nd])), (n0, .inl (cI, 3784, .inl na)), (n1, .inl (cI, 15136, .inl nx)), (n2, .inl (cJ, 3784, .inr (.inl nw))), (n3, .inl (cI, 8192, .inl ns)), (hm, .inr (3, [.ref hb, .int mn, .int mo, .int mu, .int mg, .int mt, .int mb])), (hb, .inr (0, [.ref b0, .ref b1, .ref b2, .ref b3, .ref b4, .ref b5, .ref b6, .int wc, .int la, .int br])), (b0, .inl (cI, 4, .inl pa)), (b1, .inl (cI, 16, .inl mi)), (b2, .inl (cI, 4, .inl ga)), (b3, .inl (cI, 4, .inl te)), (b4, .inl (cI, 4, .inl kn)), (b5, .inl (cI, 6, .inl wa)), (b6, .inl (cI, 16, .inl ne))] [(4, .int x4_102), (3, .int x3_7), (2, .int x2_7), (0, .ref hg), (1, .int a)] [] 102 0 0 := by
              intro x4_102
              refine x_iconst C 1 dX2_canWin_102 (by decide) ?_
              refine x_goto C 107 dX2_canWin_103 (by decide) ?_
              have : (1 : Int32).toInt = 1 := by decide
              exact x_iret C dX2_canWin_107 (Nat.zero_le _) (Nat.zero_le _) (by rw [eO]; exact ⟨1, rfl, rfl, (by omega)⟩)
            refine x_if_ne C 102 dX2_canWin_94 (by decide) (fun c_94 => ?_) (fun c_94 => ?_)
            · skip
              have e_94 : ¬ ((s0_86 : Int32).toInt = (0 : Int32).toInt) := fun h => c_94 (i_eq.mpr h)
              have : (0 : Int32).toInt = 0 := by decide
              exact J_102 s0_86
            · skip
              have e_94 : (s0_86 : Int32).toInt = (0 : Int32).toInt := i_eq.mp c_94
              have : (0 : Int32).toInt = 0 := by decide
              refine x_iload_n C 1 dX2_canWin_97 rfl rfl ?_
              refine x_iload_n C 2 dX2_canWin_98 rfl rfl ?_
              refine x_icmp_ne C 106 dX2_canWin_99 (by decide) (fun c_99 => ?_) (fun c_99 => ?_)
              · skip
                have e_99 : ¬ ((x3_7 : Int32).toInt = (x2_7 : Int32).toInt) := fun h => c_99 (i_eq.mpr h)
                refine x_iconst C 0 dX2_canWin_106 (by decide) ?_
                have : (0 : Int32).toInt = 0 := by decide
                exact x_iret C dX2_canWin_107 (Nat.zero_le _) (Nat.zero_le _) (by rw [eO]; exact ⟨0, rfl, rfl, (by omega)⟩)
              · skip
                have e_99 : (x3_7 : Int32).toInt = (x2_7 : Int32).toInt := i_eq.mp c_99
                exact J_102 s0_86
        refine x_if_ne C 85 dX2_canWin_78 (by decide) (fun c_78 => ?_) (fun c_78 => ?_)
        · skip
          have e_78 : ¬ (((ptI (na (Int32.toNatClampNeg a)) 0 + ptI (na (Int32.toNatClampNeg a)) 1 + ptI (na (Int32.toNatClampNeg a)) 2 + ptI (na (Int32.toNatClampNeg a)) 3) - (ptI (na (Int32.toNatClampNeg a)) 0 + ptI (na (Int32.toNatClampNeg a)) 1 + ptI (na (Int32.toNatClampNeg a)) 2 + ptI (na (Int32.toNatClampNeg a)) 3) / 2 * 2 : Int32).toInt = (0 : Int32).toInt) := fun h => c_78 (i_eq.mpr h)
          have : (0 : Int32).toInt = 0 := by decide
          refine x_iconst C 0 dX2_canWin_85 (by decide) ?_
          exact J_86 0
        · skip
          have e_78 : ((ptI (na (Int32.toNatClampNeg a)) 0 + ptI (na (Int32.toNatClampNeg a)) 1 + ptI (na (Int32.toNatClampNeg a)) 2 + ptI (na (Int32.toNatClampNeg a)) 3) - (ptI (na (Int32.toNatClampNeg a)) 0 + ptI (na (Int32.toNatClampNeg a)) 1 + ptI (na (Int32.toNatClampNeg a)) 2 + ptI (na (Int32.toNatClampNeg a)) 3) / 2 * 2 : Int32).toInt = (0 : Int32).toInt := i_eq.mp c_78
          have : (0 : Int32).toInt = 0 := by decide
          refine x_iconst C 1 dX2_canWin_81 (by decide) ?_
          refine x_goto C 86 dX2_canWin_82 (by decide) ?_
          exact J_86 1
      · skip
        have e_10 : ¬ ((4 : Int32).toInt ≤ (x4_7 : Int32).toInt) := fun h => c_10 (i_le.mpr h)
        have : (4 : Int32).toInt = 4 := by decide
        refine x_aload_n C 3 dX2_canWin_13 rfl rfl ?_
        refine x_get C 0 0 dX2_canWin_14 inlX2 rfl (by decide) wd_104 rfl rfl rfl ?_
        refine x_iload_n C 4 dX2_canWin_17 rfl rfl ?_
        refine x_iload C 0 dX2_canWin_18 rfl ?_
        refine x_callV C [.int a, .int x4_7] [(hg, .inr (2, [.ref hn]))] [1, 2, 3, 4, 5, 6, 7, 8, 9, 10, 11, 12, 13, 14] [0] (q0 := 0) (c_X4_nodeAfter (xl X) (xD X) (xt X) hT hn n0 n1 n2 n3 na nx ns nw nr nz nt nd hm mn mo mu mg mt mb hb b0 b1 b2 b3 b4 b5 b6 pa mi ga te kn wa ne wc la br a x4_7 (by omega) (by omega) (by omega)) dX2_canWin_20 wd_711 wd_556 wd_557 wd_28 wd_558 (np := 2) ⟨by decide, by decide, by decide +kernel⟩ rfl rfl (Nat.le_of_ble_eq_true rfl) (by decide) rfl rfl rfl rfl (by decide) rfl (by decide) (by decide) (fun v W1 h => ?_)
        obtain ⟨r_20, rfl, rfl, h_20⟩ := h
        show V X 6 [(hg, .inr (2, [.ref hn])), (hn, .inr (4, [.ref hb, .ref hm, .ref n0, .ref n1, .ref n2, .ref n3, .int nr, .int nz, .int nt, .int nd])), (n0, .inl (cI, 3784, .inl na)), (n1, .inl (cI, 15136, .inl nx)), (n2, .inl (cJ, 3784, .inr (.inl nw))), (n3, .inl (cI, 8192, .inl ns)), (hm, .inr (3, [.ref hb, .int mn, .int mo, .int mu, .int mg, .int mt, .int mb])), (hb, .inr (0, [.ref b0, .ref b1, .ref b2, .ref b3, .ref b4, .ref b5, .ref b6, .int wc, .int la, .int br])), (b0, .inl (cI, 4, .inl pa)), (b1, .inl (cI, 16, .inl mi)), (b2, .inl (cI, 4, .inl ga)), (b3, .inl (cI, 4, .inl te)), (b4, .inl (cI, 4, .inl kn)), (b5, .inl (cI, 6, .inl wa)), (b6, .inl (cI, 16, .inl ne))] [(4, .int x4_7), (3, .int x3_7), (2, .int x2_7), (0, .ref hg), (1, .int a)] [.int r_20] 23 0 0
        refine x_istore C [(5, .int r_20), (4, .int x4_7), (3, .int x3_7), (2, .int x2_7), (0, .ref hg), (1, .int a)] dX2_canWin_23 (by decide) rfl ?_
        refine x_iload C 0 dX2_canWin_25 rfl ?_
        refine x_bipush C (-6) dX2_canWin_27 (by decide) ?_
        have J_58 : ∀ (x3_58 : Int32) (x2_58 : Int32), V X 6 [(hg, .inr (2, [.ref hn])), (hn, .inr (4, [.ref hb, .ref hm, .ref n0, .ref n1, .ref n2, .ref n3, .int nr, .int nz, .int nt, .int nd])), (n0, .inl (cI, 3784, .inl na)), (n1, .inl (cI, 15136, .inl nx)), (n2, .inl (cJ, 3784, .inr (.inl nw))), (n3, .inl (cI, 8192, .inl ns)), (hm, .inr (3, [.ref hb, .int mn, .int mo, .int mu, .int mg, .int mt, .int mb])), (hb, .inr (0, [.ref b0, .ref b1, .ref b2, .ref b3, .ref b4, .ref b5, .ref b6, .int wc, .int la, .int br])), (b0, .inl (cI, 4, .inl pa)), (b1, .inl (cI, 16, .inl mi)), (b2, .inl (cI, 4, .inl ga)), (b3, .inl (cI, 4, .inl te)), (b4, .inl (cI, 4, .inl kn)), (b5, .inl (cI, 6, .inl wa)), (b6, .inl (cI, 16, .inl ne))] [(5, .int r_20), (4, .int x4_7), (3, .int x3_58), (2, .int x2_58), (0, .ref hg), (1, .int a)] [] 58 0 0 := by
          intro x3_58 x2_58
          refine x_iinc C 1 (x4_7 + 1) [(4, .int (x4_7 + 1)), (5, .int r_20), (3, .int x3_58), (2, .int x2_58), (0, .ref hg), (1, .int a)] dX2_canWin_58 rfl rfl (by decide) rfl ?_
          refine x_goto C 7 dX2_canWin_61 (by decide) ?_
          refine x_lv [(4, .int (x4_7 + 1)), (3, .int x3_58), (2, .int x2_58), (0, .ref hg), (1, .int a)] [0, 2, 3, 4, 5] rfl ?_
          have : (1 : Int32).toInt = 1 := by decide
          have := i_add (x := x4_7) (y := 1) (by omega) (by omega)
          exact ih_7 (x4_7 + 1) x3_58 x2_58 (by omega) (by omega)
        refine x_icmp_eq C 58 dX2_canWin_29 (by decide) (fun c_29 => ?_) (fun c_29 => ?_)
        · skip
          have e_29 : (r_20 : Int32).toInt = ((-6) : Int32).toInt := i_eq.mp c_29
          have : ((-6) : Int32).toInt = -6 := by decide
          exact J_58 x3_7 x2_7
        · skip
          have e_29 : ¬ ((r_20 : Int32).toInt = ((-6) : Int32).toInt) := fun h => c_29 (i_eq.mpr h)
          have : ((-6) : Int32).toInt = -6 := by decide
          refine x_iinc C 3 (x2_7 + 1) [(2, .int (x2_7 + 1)), (5, .int r_20), (4, .int x4_7), (3, .int x3_7), (0, .ref hg), (1, .int a)] dX2_canWin_32 rfl rfl (by decide) rfl ?_
          refine x_iload_n C 3 dX2_canWin_35 rfl rfl ?_
          refine x_aload_n C 4 dX2_canWin_36 rfl rfl ?_
          refine x_get C 0 0 dX2_canWin_37 inlX2 rfl (by decide) wd_104 rfl rfl rfl ?_
          refine x_getN C 1 4 dX2_canWin_40 inlX4 rfl (by decide) nt_33 rfl rfl rfl ?_
          refine x_iload C 1 dX2_canWin_43 rfl ?_
          have v_45 : vp_in r_20 3784 := (vp_in_iff.mpr (by omega))
          refine x_lald C 4 1 dX2_canWin_45 hT.2.1 rfl v_45 ?_
          refine x_lconst C 0 dX2_canWin_46 (by decide) ?_
          refine x_lcmp C dX2_canWin_47 ?_
          have J_56 : ∀ (s0_56 : Int32), V X 6 [(hg, .inr (2, [.ref hn])), (hn, .inr (4, [.ref hb, .ref hm, .ref n0, .ref n1, .ref n2, .ref n3, .int nr, .int nz, .int nt, .int nd])), (n0, .inl (cI, 3784, .inl na)), (n1, .inl (cI, 15136, .inl nx)), (n2, .inl (cJ, 3784, .inr (.inl nw))), (n3, .inl (cI, 8192, .inl ns)), (hm, .inr (3, [.ref hb, .int mn, .int mo, .int mu, .int mg, .int mt, .int mb])), (hb, .inr (0, [.ref b0, .ref b1, .ref b2, .ref b3, .ref b4, .ref b5, .ref b6, .int wc, .int la, .int br])), (b0, .inl (cI, 4, .inl pa)), (b1, .inl (cI, 16, .inl mi)), (b2, .inl (cI, 4, .inl ga)), (b3, .inl (cI, 4, .inl te)), (b4, .inl (cI, 4, .inl kn)), (b5, .inl (cI, 6, .inl wa)), (b6, .inl (cI, 16, .inl ne))] [(2, .int (x2_7 + 1)), (5, .int r_20), (4, .int x4_7), (3, .int x3_7), (0, .ref hg), (1, .int a)] [.int s0_56, .int x3_7] 56 0 0 := by
            intro s0_56
            refine x_iadd C dX2_canWin_56 ?_
            refine x_istore_n C [(3, .int (x3_7 + s0_56)), (2, .int (x2_7 + 1)), (5, .int r_20), (4, .int x4_7), (0, .ref hg), (1, .int a)] dX2_canWin_57 rfl (by decide) rfl ?_
            refine x_lv [(5, .int r_20), (4, .int x4_7), (3, .int (x3_7 + s0_56)), (2, .int (x2_7 + 1)), (0, .ref hg), (1, .int a)] [2, 3, 0, 1, 4, 5] rfl ?_
            exact J_58 (x3_7 + s0_56) (x2_7 + 1)
          refine x_if_le C 55 dX2_canWin_48 (by decide) (fun c_48 => ?_) (fun c_48 => ?_)
          · skip
            have e_48 : ((nw (Int32.toNatClampNeg r_20)) : Int64).toInt ≤ (0 : Int64).toInt := lc_le.mp c_48
            have : (0 : Int64).toInt = 0 := by decide
            refine x_iconst C 0 dX2_canWin_55 (by decide) ?_
            exact J_56 0
          · skip
            have e_48 : ¬ (((nw (Int32.toNatClampNeg r_20)) : Int64).toInt ≤ (0 : Int64).toInt) := fun h => c_48 (lc_le.mpr h)
            have : (0 : Int64).toInt = 0 := by decide
            refine x_iconst C 1 dX2_canWin_51 (by decide) ?_
            refine x_goto C 56 dX2_canWin_52 (by decide) ?_
            exact J_56 1
  have : (0 : Int32).toInt = 0 := by decide
  exact L_7 _ 0 0 0 (by omega) (Nat.lt_succ_self _)
abbrev rm_X2_play : Room := { frames := 4, cells := 0, slots := 0, locals := 91 }
set_option maxHeartbeats 4000000 in
set_option maxRecDepth 100000 in
theorem c_X2_play (l : Launch) (D : va_G) (tys : List (ClassId × FieldType)) {cI cJ cZ cB : ClassId} (hT : Ty tys cI cJ cZ cB) (hg : Nat) (hn n0 n1 n2 n3 : Nat) (na nx ns : Nat → Int32) (nw : Nat → Int64) (nr nz nt nd : Int32) (hm : Nat) (mn mo mu mg mt mb : Int32) (hb b0 b1 b2 b3 b4 b5 b6 : Nat) (pa mi ga te kn wa ne : Nat → Int32) (wc la br : Int32) (s t : Int32) (hz : 0 ≤ nz.toInt ∧ nz.toInt ≤ 3784) (hs0 : 0 ≤ s.toInt ∧ s.toInt ≤ 3) : Cn l D tys yX2_play cX2_play 5 none rm_X2_play [(hg, .inr (2, [.ref hn])), (hn, .inr (4, [.ref hb, .ref hm, .ref n0, .ref n1, .ref n2, .ref n3, .int nr, .int nz, .int nt, .int nd])), (n0, .inl (cI, 3784, .inl na)), (n1, .inl (cI, 15136, .inl nx)), (n2, .inl (cJ, 3784, .inr (.inl nw))), (n3, .inl (cI, 8192, .inl ns)), (hm, .inr (3, [.ref hb, .int mn, .int mo, .int mu, .int mg, .int mt, .int mb])), (hb, .inr (0, [.ref b0, .ref b1, .ref b2, .ref b3, .ref b4, .ref b5, .ref b6, .int wc, .int la, .int br])), (b0, .inl (cI, 4, .inl pa)), (b1, .inl (cI, 16, .inl mi)), (b2, .inl (cI, 4, .inl ga)), (b3, .inl (cI, 4, .inl te)), (b4, .inl (cI, 4, .inl kn)), (b5, .inl (cI, 6, .inl wa)), (b6, .inl (cI, 16, .inl ne))] [.ref hg, .int s, .int t] (fun v W1 => ∃ (nw2 : Nat → Int64), v = none ∧ W1 = [(hg, .inr (2, [.ref hn])), (hn, .inr (4, [.ref hb, .ref hm, .ref n0, .ref n1, .ref n2, .ref n3, .int nr, .int nz, .int nt, .int nd])), (n0, .inl (cI, 3784, .inl na)), (n1, .inl (cI, 15136, .inl nx)), (n2, .inl (cJ, 3784, .inr (.inl nw2))), (n3, .inl (cI, 8192, .inl ns)), (hm, .inr (3, [.ref hb, .int mn, .int mo, .int mu, .int mg, .int mt, .int mb])), (hb, .inr (0, [.ref b0, .ref b1, .ref b2, .ref b3, .ref b4, .ref b5, .ref b6, .int wc, .int la, .int br])), (b0, .inl (cI, 4, .inl pa)), (b1, .inl (cI, 16, .inl mi)), (b2, .inl (cI, 4, .inl ga)), (b3, .inl (cI, 4, .inl te)), (b4, .inl (cI, 4, .inl kn)), (b5, .inl (cI, 6, .inl wa)), (b6, .inl (cI, 16, .inl ne))] ∧ (True)) := by
  refine Cn.of (by decide) (Nat.le_of_ble_eq_true rfl) ?_ ?_ (fun X eL eD eT eO eK eN eM C => ?_)
  · intro h; cases h
  · intro v ws h; obtain ⟨_, rfl, rfl, _⟩ := h; rfl
  subst eL eD eT
  show V X 5 [(hg, .inr (2, [.ref hn])), (hn, .inr (4, [.ref hb, .ref hm, .ref n0, .ref n1, .ref n2, .ref n3, .int nr, .int nz, .int nt, .int nd])), (n0, .inl (cI, 3784, .inl na)), (n1, .inl (cI, 15136, .inl nx)), (n2, .inl (cJ, 3784, .inr (.inl nw))), (n3, .inl (cI, 8192, .inl ns)), (hm, .inr (3, [.ref hb, .int mn, .int mo, .int mu, .int mg, .int mt, .int mb])), (hb, .inr (0, [.ref b0, .ref b1, .ref b2, .ref b3, .ref b4, .ref b5, .ref b6, .int wc, .int la, .int br])), (b0, .inl (cI, 4, .inl pa)), (b1, .inl (cI, 16, .inl mi)), (b2, .inl (cI, 4, .inl ga)), (b3, .inl (cI, 4, .inl te)), (b4, .inl (cI, 4, .inl kn)), (b5, .inl (cI, 6, .inl wa)), (b6, .inl (cI, 16, .inl ne))] [(0, .ref hg), (1, .int s), (2, .int t)] [] 0 0 0
  refine x_aload_n C 0 dX2_play_0 rfl rfl ?_
  refine x_get C 0 0 dX2_play_1 inlX2 rfl (by decide) wd_104 rfl rfl rfl ?_
  refine x_getN C 1 7 dX2_play_4 inlX4 rfl (by decide) nt_37 rfl rfl rfl ?_
  refine x_iconst C 1 dX2_play_7 (by decide) ?_
  refine x_isub C dX2_play_8 ?_
  refine x_istore_n C [(3, .int (nz - 1)), (0, .ref hg), (1, .int s), (2, .int t)] dX2_play_9 rfl (by decide) rfl ?_
  have L_10 : ∀ (n_10 : Nat) (x3_10 : Int32) (fn2_10 : Nat → Int64), ((-1 ≤ x3_10.toInt ∧ x3_10.toInt < nz.toInt)) → ((x3_10.toInt + 1).toNat < n_10) → V X 5 [(hg, .inr (2, [.ref hn])), (hn, .inr (4, [.ref hb, .ref hm, .ref n0, .ref n1, .ref n2, .ref n3, .int nr, .int nz, .int nt, .int nd])), (n0, .inl (cI, 3784, .inl na)), (n1, .inl (cI, 15136, .inl nx)), (n2, .inl (cJ, 3784, .inr (.inl fn2_10))), (n3, .inl (cI, 8192, .inl ns)), (hm, .inr (3, [.ref hb, .int mn, .int mo, .int mu, .int mg, .int mt, .int mb])), (hb, .inr (0, [.ref b0, .ref b1, .ref b2, .ref b3, .ref b4, .ref b5, .ref b6, .int wc, .int la, .int br])), (b0, .inl (cI, 4, .inl pa)), (b1, .inl (cI, 16, .inl mi)), (b2, .inl (cI, 4, .inl ga)), (b3, .inl (cI, 4, .inl te)), (b4, .inl (cI, 4, .inl kn)), (b5, .inl (cI, 6, .inl wa)), (b6, .inl (cI, 16, .inl ne))] [(3, .int x3_10), (0, .ref hg), (1, .int s), (2, .int t)] [] 10 0 0 := by
    intro n_10
    induction n_10 with
    | zero =>
      intro x3_10 fn2_10 i_10 m_10
      exact absurd m_10 (Nat.not_lt_zero _)
    | succ n_10 ih_10 =>
      intro x3_10 fn2_10 i_10 m_10
      refine x_iload_n C 0 dX2_play_10 rfl rfl ?_
      refine x_if_lt C 78 dX2_play_11 (by decide) (fun c_11 => ?_) (fun c_11 => ?_)
      · skip
        have e_11 : (x3_10 : Int32).toInt < (0 : Int32).toInt := i_lt.mp c_11
        have : (0 : Int32).toInt = 0 := by decide
        exact x_vret C dX2_play_78 (Nat.zero_le _) (Nat.zero_le _) (by rw [eO]; exact ⟨fn2_10, rfl, rfl, trivial⟩)
      · skip
        have e_11 : ¬ ((x3_10 : Int32).toInt < (0 : Int32).toInt) := fun h => c_11 (i_lt.mpr h)
        have : (0 : Int32).toInt = 0 := by decide
        refine x_aload_n C 1 dX2_play_14 rfl rfl ?_
        refine x_get C 0 0 dX2_play_15 inlX2 rfl (by decide) wd_104 rfl rfl rfl ?_
        refine x_iload_n C 0 dX2_play_18 rfl rfl ?_
        refine x_iload_n C 2 dX2_play_19 rfl rfl ?_
        refine x_callV C [.int x3_10, .int s] [(hg, .inr (2, [.ref hn]))] [1, 2, 3, 4, 5, 6, 7, 8, 9, 10, 11, 12, 13, 14] [0] (q0 := 0) (c_X4_isOut (xl X) (xD X) (xt X) hT hn n0 n1 n2 n3 na nx ns fn2_10 nr nz nt nd hm mn mo mu mg mt mb hb b0 b1 b2 b3 b4 b5 b6 pa mi ga te kn wa ne wc la br x3_10 s (by omega) (by omega)) dX2_play_20 wd_705 wd_551 wd_552 wd_28 wd_553 (np := 2) ⟨by decide, by decide, by decide +kernel⟩ rfl rfl (Nat.le_of_ble_eq_true rfl) (by decide) rfl rfl rfl rfl (by decide) rfl (by decide) (by decide) (fun v W1 h => ?_)
        obtain ⟨r_20, rfl, rfl, h_20⟩ := h
        show V X 5 [(hg, .inr (2, [.ref hn])), (hn, .inr (4, [.ref hb, .ref hm, .ref n0, .ref n1, .ref n2, .ref n3, .int nr, .int nz, .int nt, .int nd])), (n0, .inl (cI, 3784, .inl na)), (n1, .inl (cI, 15136, .inl nx)), (n2, .inl (cJ, 3784, .inr (.inl fn2_10))), (n3, .inl (cI, 8192, .inl ns)), (hm, .inr (3, [.ref hb, .int mn, .int mo, .int mu, .int mg, .int mt, .int mb])), (hb, .inr (0, [.ref b0, .ref b1, .ref b2, .ref b3, .ref b4, .ref b5, .ref b6, .int wc, .int la, .int br])), (b0, .inl (cI, 4, .inl pa)), (b1, .inl (cI, 16, .inl mi)), (b2, .inl (cI, 4, .inl ga)), (b3, .inl (cI, 4, .inl te)), (b4, .inl (cI, 4, .inl kn)), (b5, .inl (cI, 6, .inl wa)), (b6, .inl (cI, 16, .inl ne))] [(3, .int x3_10), (0, .ref hg), (1, .int s), (2, .int t)] [.int r_20] 23 0 0
        have J_51 : ∀ (s0_51 : Int32), V X 5 [(hg, .inr (2, [.ref hn])), (hn, .inr (4, [.ref hb, .ref hm, .ref n0, .ref n1, .ref n2, .ref n3, .int nr, .int nz, .int nt, .int nd])), (n0, .inl (cI, 3784, .inl na)), (n1, .inl (cI, 15136, .inl nx)), (n2, .inl (cJ, 3784, .inr (.inl fn2_10))), (n3, .inl (cI, 8192, .inl ns)), (hm, .inr (3, [.ref hb, .int mn, .int mo, .int mu, .int mg, .int mt, .int mb])), (hb, .inr (0, [.ref b0, .ref b1, .ref b2, .ref b3, .ref b4, .ref b5, .ref b6, .int wc, .int la, .int br])), (b0, .inl (cI, 4, .inl pa)), (b1, .inl (cI, 16, .inl mi)), (b2, .inl (cI, 4, .inl ga)), (b3, .inl (cI, 4, .inl te)), (b4, .inl (cI, 4, .inl kn)), (b5, .inl (cI, 6, .inl wa)), (b6, .inl (cI, 16, .inl ne))] [(3, .int x3_10), (0, .ref hg), (1, .int s), (2, .int t)] [.int s0_51] 51 0 0 := by
          intro s0_51
          refine x_istore C [(4, .int s0_51), (3, .int x3_10), (0, .ref hg), (1, .int s), (2, .int t)] dX2_play_51 (by decide) rfl ?_
          refine x_aload_n C 2 dX2_play_53 rfl rfl ?_
          refine x_get C 0 0 dX2_play_54 inlX2 rfl (by decide) wd_104 rfl rfl rfl ?_
          refine x_getN C 1 4 dX2_play_57 inlX4 rfl (by decide) nt_33 rfl rfl rfl ?_
          refine x_iload_n C 1 dX2_play_60 rfl rfl ?_
          refine x_iload C 0 dX2_play_61 rfl ?_
          have J_71 : ∀ (x4_71 : Int32) (s0_71 : Int64), V X 5 [(hg, .inr (2, [.ref hn])), (hn, .inr (4, [.ref hb, .ref hm, .ref n0, .ref n1, .ref n2, .ref n3, .int nr, .int nz, .int nt, .int nd])), (n0, .inl (cI, 3784, .inl na)), (n1, .inl (cI, 15136, .inl nx)), (n2, .inl (cJ, 3784, .inr (.inl fn2_10))), (n3, .inl (cI, 8192, .inl ns)), (hm, .inr (3, [.ref hb, .int mn, .int mo, .int mu, .int mg, .int mt, .int mb])), (hb, .inr (0, [.ref b0, .ref b1, .ref b2, .ref b3, .ref b4, .ref b5, .ref b6, .int wc, .int la, .int br])), (b0, .inl (cI, 4, .inl pa)), (b1, .inl (cI, 16, .inl mi)), (b2, .inl (cI, 4, .inl ga)), (b3, .inl (cI, 4, .inl te)), (b4, .inl (cI, 4, .inl kn)), (b5, .inl (cI, 6, .inl wa)), (b6, .inl (cI, 16, .inl ne))] [(4, .int x4_71), (3, .int x3_10), (0, .ref hg), (1, .int s), (2, .int t)] [.long s0_71, .int x3_10, .ref n2] 71 0 0 := by
            intro x4_71 s0_71
            have v_71 : vp_in x3_10 3784 := (vp_in_iff.mpr (by omega))
            refine x_last C 4 1 [(hg, .inr (2, [.ref hn])), (hn, .inr (4, [.ref hb, .ref hm, .ref n0, .ref n1, .ref n2, .ref n3, .int nr, .int nz, .int nt, .int nd])), (n0, .inl (cI, 3784, .inl na)), (n1, .inl (cI, 15136, .inl nx)), (n2, .inl (cJ, 3784, .inr (.inl (vp_updL fn2_10 (Int32.toNatClampNeg x3_10) s0_71)))), (n3, .inl (cI, 8192, .inl ns)), (hm, .inr (3, [.ref hb, .int mn, .int mo, .int mu, .int mg, .int mt, .int mb])), (hb, .inr (0, [.ref b0, .ref b1, .ref b2, .ref b3, .ref b4, .ref b5, .ref b6, .int wc, .int la, .int br])), (b0, .inl (cI, 4, .inl pa)), (b1, .inl (cI, 16, .inl mi)), (b2, .inl (cI, 4, .inl ga)), (b3, .inl (cI, 4, .inl te)), (b4, .inl (cI, 4, .inl kn)), (b5, .inl (cI, 6, .inl wa)), (b6, .inl (cI, 16, .inl ne))] dX2_play_71 hT.2.1 rfl v_71 rfl ?_
            refine x_iinc C 1 (x3_10 - 1) [(3, .int (x3_10 - 1)), (4, .int x4_71), (0, .ref hg), (1, .int s), (2, .int t)] dX2_play_72 rfl (i_m1 _) (by decide) rfl ?_
            refine x_goto C 10 dX2_play_75 (by decide) ?_
            refine x_lv [(3, .int (x3_10 - 1)), (0, .ref hg), (1, .int s), (2, .int t)] [0, 2, 3, 4] rfl ?_
            have : (1 : Int32).toInt = 1 := by decide
            have := i_sub (x := x3_10) (y := 1) (by omega) (by omega)
            exact ih_10 (x3_10 - 1) (vp_updL fn2_10 (Int32.toNatClampNeg x3_10) s0_71) (by omega) (by omega)
          refine x_if_eq C 70 dX2_play_63 (by decide) (fun c_63 => ?_) (fun c_63 => ?_)
          · skip
            have e_63 : (s0_51 : Int32).toInt = (0 : Int32).toInt := i_eq.mp c_63
            have : (0 : Int32).toInt = 0 := by decide
            refine x_lconst C 0 dX2_play_70 (by decide) ?_
            exact J_71 s0_51 0
          · skip
            have e_63 : ¬ ((s0_51 : Int32).toInt = (0 : Int32).toInt) := fun h => c_63 (i_eq.mpr h)
            have : (0 : Int32).toInt = 0 := by decide
            refine x_lconst C 1 dX2_play_66 (by decide) ?_
            refine x_goto C 71 dX2_play_67 (by decide) ?_
            exact J_71 s0_51 1
        refine x_if_eq C 46 dX2_play_23 (by decide) (fun c_23 => ?_) (fun c_23 => ?_)
        · skip
          have e_23 : (r_20 : Int32).toInt = (0 : Int32).toInt := i_eq.mp c_23
          have : (0 : Int32).toInt = 0 := by decide
          refine x_aload_n C 1 dX2_play_46 rfl rfl ?_
          refine x_iload_n C 0 dX2_play_47 rfl rfl ?_
          refine x_callV C [.int x3_10] [] [0, 1, 2, 3, 4, 5, 6, 7, 8, 9, 10, 11, 12, 13, 14] [] (q0 := 0) (c_X2_canWin (xl X) (xD X) (xt X) hT hg hn n0 n1 n2 n3 na nx ns fn2_10 nr nz nt nd hm mn mo mu mg mt mb hb b0 b1 b2 b3 b4 b5 b6 pa mi ga te kn wa ne wc la br x3_10 (by omega) (by omega)) dX2_play_48 wd_707 wd_708 wd_709 wd_36 wd_710 (np := 1) ⟨by decide, by decide, by decide +kernel⟩ rfl rfl (Nat.le_of_ble_eq_true rfl) (by decide) rfl rfl rfl rfl (by decide) rfl (by decide) (by decide) (fun v W1 h => ?_)
          obtain ⟨r_48, rfl, rfl, h_48⟩ := h
          show V X 5 [(hg, .inr (2, [.ref hn])), (hn, .inr (4, [.ref hb, .ref hm, .ref n0, .ref n1, .ref n2, .ref n3, .int nr, .int nz, .int nt, .int nd])), (n0, .inl (cI, 3784, .inl na)), (n1, .inl (cI, 15136, .inl nx)), (n2, .inl (cJ, 3784, .inr (.inl fn2_10))), (n3, .inl (cI, 8192, .inl ns)), (hm, .inr (3, [.ref hb, .int mn, .int mo, .int mu, .int mg, .int mt, .int mb])), (hb, .inr (0, [.ref b0, .ref b1, .ref b2, .ref b3, .ref b4, .ref b5, .ref b6, .int wc, .int la, .int br])), (b0, .inl (cI, 4, .inl pa)), (b1, .inl (cI, 16, .inl mi)), (b2, .inl (cI, 4, .inl ga)), (b3, .inl (cI, 4, .inl te)), (b4, .inl (cI, 4, .inl kn)), (b5, .inl (cI, 6, .inl wa)), (b6, .inl (cI, 16, .inl ne))] [(3, .int x3_10), (0, .ref hg), (1, .int s), (2, .int t)] [.int r_48] 51 0 0
          exact J_51 r_48
        · skip
          have e_23 : ¬ ((r_20 : Int32).toInt = (0 : Int32).toInt) := fun h => c_23 (i_eq.mpr h)
          have : (0 : Int32).toInt = 0 := by decide
          refine x_aload_n C 1 dX2_play_26 rfl rfl ?_
          refine x_get C 0 0 dX2_play_27 inlX2 rfl (by decide) wd_104 rfl rfl rfl ?_
          refine x_iload_n C 0 dX2_play_30 rfl rfl ?_
          refine x_callV C [.int x3_10] [(hg, .inr (2, [.ref hn]))] [1, 2, 3, 4, 5, 6, 7, 8, 9, 10, 11, 12, 13, 14] [0] (q0 := 0) (c_X4_minutesAt (xl X) (xD X) (xt X) hT hn n0 n1 n2 n3 na nx ns fn2_10 nr nz nt nd hm mn mo mu mg mt mb hb b0 b1 b2 b3 b4 b5 b6 pa mi ga te kn wa ne wc la br x3_10 (by omega)) dX2_play_31 wd_706 wd_665 wd_666 wd_28 wd_667 (np := 1) ⟨by decide, by decide, by decide +kernel⟩ rfl rfl (Nat.le_of_ble_eq_true rfl) (by decide) rfl rfl rfl rfl (by decide) rfl (by decide) (by decide) (fun v W1 h => ?_)
          obtain ⟨r_31, rfl, rfl, h_31⟩ := h
          show V X 5 [(hg, .inr (2, [.ref hn])), (hn, .inr (4, [.ref hb, .ref hm, .ref n0, .ref n1, .ref n2, .ref n3, .int nr, .int nz, .int nt, .int nd])), (n0, .inl (cI, 3784, .inl na)), (n1, .inl (cI, 15136, .inl nx)), (n2, .inl (cJ, 3784, .inr (.inl fn2_10))), (n3, .inl (cI, 8192, .inl ns)), (hm, .inr (3, [.ref hb, .int mn, .int mo, .int mu, .int mg, .int mt, .int mb])), (hb, .inr (0, [.ref b0, .ref b1, .ref b2, .ref b3, .ref b4, .ref b5, .ref b6, .int wc, .int la, .int br])), (b0, .inl (cI, 4, .inl pa)), (b1, .inl (cI, 16, .inl mi)), (b2, .inl (cI, 4, .inl ga)), (b3, .inl (cI, 4, .inl te)), (b4, .inl (cI, 4, .inl kn)), (b5, .inl (cI, 6, .inl wa)), (b6, .inl (cI, 16, .inl ne))] [(3, .int x3_10), (0, .ref hg), (1, .int s), (2, .int t)] [.int r_31] 34 0 0
          refine x_iload_n C 3 dX2_play_34 rfl rfl ?_
          refine x_icmp_ne C 42 dX2_play_35 (by decide) (fun c_35 => ?_) (fun c_35 => ?_)
          · skip
            have e_35 : ¬ ((r_31 : Int32).toInt = (t : Int32).toInt) := fun h => c_35 (i_eq.mpr h)
            refine x_iconst C 0 dX2_play_42 (by decide) ?_
            refine x_goto C 51 dX2_play_43 (by decide) ?_
            exact J_51 0
          · skip
            have e_35 : (r_31 : Int32).toInt = (t : Int32).toInt := i_eq.mp c_35
            refine x_iconst C 1 dX2_play_38 (by decide) ?_
            refine x_goto C 51 dX2_play_39 (by decide) ?_
            exact J_51 1
  have : (1 : Int32).toInt = 1 := by decide
  have := i_sub (x := nz) (y := 1) (by omega) (by omega)
  exact L_10 _ (nz - 1) nw (by omega) (Nat.lt_succ_self _)
abbrev rm_X2_winningBegin : Room := { frames := 2, cells := 0, slots := 0, locals := 45 }
set_option maxHeartbeats 4000000 in
set_option maxRecDepth 100000 in
theorem c_X2_winningBegin (l : Launch) (D : va_G) (tys : List (ClassId × FieldType)) {cI cJ cZ cB : ClassId} (hT : Ty tys cI cJ cZ cB) (hg : Nat) (hn n0 n1 n2 n3 : Nat) (na nx ns : Nat → Int32) (nw : Nat → Int64) (nr nz nt nd : Int32) (hm : Nat) (mn mo mu mg mt mb : Int32) (hb b0 b1 b2 b3 b4 b5 b6 : Nat) (pa mi ga te kn wa ne : Nat → Int32) (wc la br : Int32) (hz : 0 ≤ nz.toInt ∧ nz.toInt ≤ 3784) : Cn l D tys yX2_winningBegin cX2_winningBegin 3 (some .int) rm_X2_winningBegin [(hg, .inr (2, [.ref hn])), (hn, .inr (4, [.ref hb, .ref hm, .ref n0, .ref n1, .ref n2, .ref n3, .int nr, .int nz, .int nt, .int nd])), (n0, .inl (cI, 3784, .inl na)), (n1, .inl (cI, 15136, .inl nx)), (n2, .inl (cJ, 3784, .inr (.inl nw))), (n3, .inl (cI, 8192, .inl ns)), (hm, .inr (3, [.ref hb, .int mn, .int mo, .int mu, .int mg, .int mt, .int mb])), (hb, .inr (0, [.ref b0, .ref b1, .ref b2, .ref b3, .ref b4, .ref b5, .ref b6, .int wc, .int la, .int br])), (b0, .inl (cI, 4, .inl pa)), (b1, .inl (cI, 16, .inl mi)), (b2, .inl (cI, 4, .inl ga)), (b3, .inl (cI, 4, .inl te)), (b4, .inl (cI, 4, .inl kn)), (b5, .inl (cI, 6, .inl wa)), (b6, .inl (cI, 16, .inl ne))] [.ref hg] (fun v W1 => ∃ (r : Int32), v = some (.int r) ∧ W1 = [(hg, .inr (2, [.ref hn])), (hn, .inr (4, [.ref hb, .ref hm, .ref n0, .ref n1, .ref n2, .ref n3, .int nr, .int nz, .int nt, .int nd])), (n0, .inl (cI, 3784, .inl na)), (n1, .inl (cI, 15136, .inl nx)), (n2, .inl (cJ, 3784, .inr (.inl nw))), (n3, .inl (cI, 8192, .inl ns)), (hm, .inr (3, [.ref hb, .int mn, .int mo, .int mu, .int mg, .int mt, .int mb])), (hb, .inr (0, [.ref b0, .ref b1, .ref b2, .ref b3, .ref b4, .ref b5, .ref b6, .int wc, .int la, .int br])), (b0, .inl (cI, 4, .inl pa)), (b1, .inl (cI, 16, .inl mi)), (b2, .inl (cI, 4, .inl ga)), (b3, .inl (cI, 4, .inl te)), (b4, .inl (cI, 4, .inl kn)), (b5, .inl (cI, 6, .inl wa)), (b6, .inl (cI, 16, .inl ne))] ∧ (r.toInt = -6 ∨ (0 ≤ r.toInt ∧ r.toInt ≤ 3))) := by
  refine Cn.of (by decide) (Nat.le_of_ble_eq_true rfl) ?_ ?_ (fun X eL eD eT eO eK eN eM C => ?_)
  · intro h; cases h
  · intro v ws h; obtain ⟨_, rfl, rfl, _⟩ := h; exact Or.inl rfl
  subst eL eD eT
  show V X 3 [(hg, .inr (2, [.ref hn])), (hn, .inr (4, [.ref hb, .ref hm, .ref n0, .ref n1, .ref n2, .ref n3, .int nr, .int nz, .int nt, .int nd])), (n0, .inl (cI, 3784, .inl na)), (n1, .inl (cI, 15136, .inl nx)), (n2, .inl (cJ, 3784, .inr (.inl nw))), (n3, .inl (cI, 8192, .inl ns)), (hm, .inr (3, [.ref hb, .int mn, .int mo, .int mu, .int mg, .int mt, .int mb])), (hb, .inr (0, [.ref b0, .ref b1, .ref b2, .ref b3, .ref b4, .ref b5, .ref b6, .int wc, .int la, .int br])), (b0, .inl (cI, 4, .inl pa)), (b1, .inl (cI, 16, .inl mi)), (b2, .inl (cI, 4, .inl ga)), (b3, .inl (cI, 4, .inl te)), (b4, .inl (cI, 4, .inl kn)), (b5, .inl (cI, 6, .inl wa)), (b6, .inl (cI, 16, .inl ne))] [(0, .ref hg)] [] 0 0 0
  refine x_iconst C 0 dX2_winningBegin_0 (by decide) ?_
  refine x_istore_n C [(1, .int 0), (0, .ref hg)] dX2_winningBegin_1 rfl (by decide) rfl ?_
  have L_2 : ∀ (n_2 : Nat) (x1_2 : Int32), ((0 ≤ x1_2.toInt ∧ x1_2.toInt ≤ 4)) → ((4 - x1_2.toInt).toNat < n_2) → V X 3 [(hg, .inr (2, [.ref hn])), (hn, .inr (4, [.ref hb, .ref hm, .ref n0, .ref n1, .ref n2, .ref n3, .int nr, .int nz, .int nt, .int nd])), (n0, .inl (cI, 3784, .inl na)), (n1, .inl (cI, 15136, .inl nx)), (n2, .inl (cJ, 3784, .inr (.inl nw))), (n3, .inl (cI, 8192, .inl ns)), (hm, .inr (3, [.ref hb, .int mn, .int mo, .int mu, .int mg, .int mt, .int mb])), (hb, .inr (0, [.ref b0, .ref b1, .ref b2, .ref b3, .ref b4, .ref b5, .ref b6, .int wc, .int la, .int br])), (b0, .inl (cI, 4, .inl pa)), (b1, .inl (cI, 16, .inl mi)), (b2, .inl (cI, 4, .inl ga)), (b3, .inl (cI, 4, .inl te)), (b4, .inl (cI, 4, .inl kn)), (b5, .inl (cI, 6, .inl wa)), (b6, .inl (cI, 16, .inl ne))] [(1, .int x1_2), (0, .ref hg)] [] 2 0 0 := by
    intro n_2
    induction n_2 with
    | zero =>
      intro x1_2 i_2 m_2
      exact absurd m_2 (Nat.not_lt_zero _)
    | succ n_2 ih_2 =>
      intro x1_2 i_2 m_2
      refine x_iload_n C 0 dX2_winningBegin_2 rfl rfl ?_
      refine x_iconst C 4 dX2_winningBegin_3 (by decide) ?_
      refine x_icmp_ge C 45 dX2_winningBegin_4 (by decide) (fun c_4 => ?_) (fun c_4 => ?_)
      · skip
        have e_4 : (4 : Int32).toInt ≤ (x1_2 : Int32).toInt := i_le.mp c_4
        have : (4 : Int32).toInt = 4 := by decide
        refine x_bipush C (-6) dX2_winningBegin_45 (by decide) ?_
        have : ((-6) : Int32).toInt = -6 := by decide
        exact x_iret C dX2_winningBegin_47 (Nat.zero_le _) (Nat.zero_le _) (by rw [eO]; exact ⟨((-6)), rfl, rfl, (by omega)⟩)
      · skip
        have e_4 : ¬ ((4 : Int32).toInt ≤ (x1_2 : Int32).toInt) := fun h => c_4 (i_le.mpr h)
        have : (4 : Int32).toInt = 4 := by decide
        refine x_aload_n C 1 dX2_winningBegin_7 rfl rfl ?_
        refine x_get C 0 0 dX2_winningBegin_8 inlX2 rfl (by decide) wd_104 rfl rfl rfl ?_
        refine x_iconst C 0 dX2_winningBegin_11 (by decide) ?_
        refine x_iload_n C 0 dX2_winningBegin_12 rfl rfl ?_
        have : (0 : Int32).toInt = 0 := by decide
        refine x_callV C [.int 0, .int x1_2] [(hg, .inr (2, [.ref hn]))] [1, 2, 3, 4, 5, 6, 7, 8, 9, 10, 11, 12, 13, 14] [0] (q0 := 0) (c_X4_nodeAfter (xl X) (xD X) (xt X) hT hn n0 n1 n2 n3 na nx ns nw nr nz nt nd hm mn mo mu mg mt mb hb b0 b1 b2 b3 b4 b5 b6 pa mi ga te kn wa ne wc la br 0 x1_2 (by omega) (by omega) (by omega)) dX2_winningBegin_13 wd_711 wd_556 wd_557 wd_28 wd_558 (np := 2) ⟨by decide, by decide, by decide +kernel⟩ rfl rfl (Nat.le_of_ble_eq_true rfl) (by decide) rfl rfl rfl rfl (by decide) rfl (by decide) (by decide) (fun v W1 h => ?_)
        obtain ⟨r_13, rfl, rfl, h_13⟩ := h
        have : (0 : Int32).toInt = 0 := by decide
        show V X 3 [(hg, .inr (2, [.ref hn])), (hn, .inr (4, [.ref hb, .ref hm, .ref n0, .ref n1, .ref n2, .ref n3, .int nr, .int nz, .int nt, .int nd])), (n0, .inl (cI, 3784, .inl na)), (n1, .inl (cI, 15136, .inl nx)), (n2, .inl (cJ, 3784, .inr (.inl nw))), (n3, .inl (cI, 8192, .inl ns)), (hm, .inr (3, [.ref hb, .int mn, .int mo, .int mu, .int mg, .int mt, .int mb])), (hb, .inr (0, [.ref b0, .ref b1, .ref b2, .ref b3, .ref b4, .ref b5, .ref b6, .int wc, .int la, .int br])), (b0, .inl (cI, 4, .inl pa)), (b1, .inl (cI, 16, .inl mi)), (b2, .inl (cI, 4, .inl ga)), (b3, .inl (cI, 4, .inl te)), (b4, .inl (cI, 4, .inl kn)), (b5, .inl (cI, 6, .inl wa)), (b6, .inl (cI, 16, .inl ne))] [(1, .int x1_2), (0, .ref hg)] [.int r_13] 16 0 0
        refine x_istore_n C [(2, .int r_13), (1, .int x1_2), (0, .ref hg)] dX2_winningBegin_16 rfl (by decide) rfl ?_
        refine x_iload_n C 0 dX2_winningBegin_17 rfl rfl ?_
        refine x_bipush C (-6) dX2_winningBegin_18 (by decide) ?_
        refine x_icmp_eq C 39 dX2_winningBegin_20 (by decide) (fun c_20 => ?_) (fun c_20 => ?_)
        · skip
          have e_20 : (r_13 : Int32).toInt = ((-6) : Int32).toInt := i_eq.mp c_20
          have : ((-6) : Int32).toInt = -6 := by decide
          refine x_iinc C 1 (x1_2 + 1) [(1, .int (x1_2 + 1)), (2, .int r_13), (0, .ref hg)] dX2_winningBegin_39 rfl rfl (by decide) rfl ?_
          refine x_goto C 2 dX2_winningBegin_42 (by decide) ?_
          refine x_lv [(1, .int (x1_2 + 1)), (0, .ref hg)] [0, 2] rfl ?_
          have : (1 : Int32).toInt = 1 := by decide
          have := i_add (x := x1_2) (y := 1) (by omega) (by omega)
          exact ih_2 (x1_2 + 1) (by omega) (by omega)
        · skip
          have e_20 : ¬ ((r_13 : Int32).toInt = ((-6) : Int32).toInt) := fun h => c_20 (i_eq.mpr h)
          have : ((-6) : Int32).toInt = -6 := by decide
          refine x_aload_n C 2 dX2_winningBegin_23 rfl rfl ?_
          refine x_get C 0 0 dX2_winningBegin_24 inlX2 rfl (by decide) wd_104 rfl rfl rfl ?_
          refine x_getN C 1 4 dX2_winningBegin_27 inlX4 rfl (by decide) nt_33 rfl rfl rfl ?_
          refine x_iload_n C 0 dX2_winningBegin_30 rfl rfl ?_
          have v_31 : vp_in r_13 3784 := (vp_in_iff.mpr (by omega))
          refine x_lald C 4 1 dX2_winningBegin_31 hT.2.1 rfl v_31 ?_
          refine x_lconst C 0 dX2_winningBegin_32 (by decide) ?_
          refine x_lcmp C dX2_winningBegin_33 ?_
          refine x_if_le C 39 dX2_winningBegin_34 (by decide) (fun c_34 => ?_) (fun c_34 => ?_)
          · skip
            have e_34 : ((nw (Int32.toNatClampNeg r_13)) : Int64).toInt ≤ (0 : Int64).toInt := lc_le.mp c_34
            have : (0 : Int64).toInt = 0 := by decide
            refine x_iinc C 1 (x1_2 + 1) [(1, .int (x1_2 + 1)), (2, .int r_13), (0, .ref hg)] dX2_winningBegin_39 rfl rfl (by decide) rfl ?_
            refine x_goto C 2 dX2_winningBegin_42 (by decide) ?_
            refine x_lv [(1, .int (x1_2 + 1)), (0, .ref hg)] [0, 2] rfl ?_
            have : (1 : Int32).toInt = 1 := by decide
            have := i_add (x := x1_2) (y := 1) (by omega) (by omega)
            exact ih_2 (x1_2 + 1) (by omega) (by omega)
          · skip
            have e_34 : ¬ (((nw (Int32.toNatClampNeg r_13)) : Int64).toInt ≤ (0 : Int64).toInt) := fun h => c_34 (lc_le.mpr h)
            have : (0 : Int64).toInt = 0 := by decide
            refine x_iload_n C 1 dX2_winningBegin_37 rfl rfl ?_
            exact x_iret C dX2_winningBegin_38 (Nat.zero_le _) (Nat.zero_le _) (by rw [eO]; exact ⟨x1_2, rfl, rfl, (by omega)⟩)
  have : (0 : Int32).toInt = 0 := by decide
  exact L_2 _ 0 (by omega) (Nat.lt_succ_self _)
abbrev rm_X8_soundsAfter : Room := { frames := 2, cells := 0, slots := 0, locals := 45 }
set_option maxHeartbeats 4000000 in
set_option maxRecDepth 100000 in
theorem c_X8_soundsAfter (l : Launch) (D : va_G) (tys : List (ClassId × FieldType)) {cI cJ cZ cB : ClassId} (hT : Ty tys cI cJ cZ cB) (hl w0 : Nat) (wr : Nat → Int32) (hn n0 n1 n2 n3 : Nat) (na nx ns : Nat → Int32) (nw : Nat → Int64) (nr nz nt nd : Int32) (hm : Nat) (mn mo mu mg mt mb : Int32) (hb b0 b1 b2 b3 b4 b5 b6 : Nat) (pa mi ga te kn wa ne : Nat → Int32) (wc la br : Int32) (hp hs : Nat) (f : Nat → Int32) (z : Int32) (a s t : Int32) (hz : 0 ≤ nz.toInt ∧ nz.toInt ≤ 3784) (hnode : 0 ≤ a.toInt ∧ a.toInt < 3784) (hs0 : 0 ≤ s.toInt ∧ s.toInt ≤ 3) (hpz : 0 ≤ z.toInt ∧ z.toInt ≤ 30) (ht0 : 0 ≤ t.toInt) : Cn l D tys yX8_soundsAfter cX8_soundsAfter 6 (some .int) rm_X8_soundsAfter [(hl, .inr (8, [.ref hb, .ref hn, .ref hp, .ref w0])), (w0, .inl (cZ, 3784, .inl wr)), (hn, .inr (4, [.ref hb, .ref hm, .ref n0, .ref n1, .ref n2, .ref n3, .int nr, .int nz, .int nt, .int nd])), (n0, .inl (cI, 3784, .inl na)), (n1, .inl (cI, 15136, .inl nx)), (n2, .inl (cJ, 3784, .inr (.inl nw))), (n3, .inl (cI, 8192, .inl ns)), (hm, .inr (3, [.ref hb, .int mn, .int mo, .int mu, .int mg, .int mt, .int mb])), (hb, .inr (0, [.ref b0, .ref b1, .ref b2, .ref b3, .ref b4, .ref b5, .ref b6, .int wc, .int la, .int br])), (b0, .inl (cI, 4, .inl pa)), (b1, .inl (cI, 16, .inl mi)), (b2, .inl (cI, 4, .inl ga)), (b3, .inl (cI, 4, .inl te)), (b4, .inl (cI, 4, .inl kn)), (b5, .inl (cI, 6, .inl wa)), (b6, .inl (cI, 16, .inl ne)), (hp, .inr (6, [.ref hs, .int z])), (hs, .inl (cI, 30, .inl f))] [.ref hl, .int a, .int s, .int t] (fun v W1 => ∃ (r : Int32), v = some (.int r) ∧ W1 = [(hl, .inr (8, [.ref hb, .ref hn, .ref hp, .ref w0])), (w0, .inl (cZ, 3784, .inl wr)), (hn, .inr (4, [.ref hb, .ref hm, .ref n0, .ref n1, .ref n2, .ref n3, .int nr, .int nz, .int nt, .int nd])), (n0, .inl (cI, 3784, .inl na)), (n1, .inl (cI, 15136, .inl nx)), (n2, .inl (cJ, 3784, .inr (.inl nw))), (n3, .inl (cI, 8192, .inl ns)), (hm, .inr (3, [.ref hb, .int mn, .int mo, .int mu, .int mg, .int mt, .int mb])), (hb, .inr (0, [.ref b0, .ref b1, .ref b2, .ref b3, .ref b4, .ref b5, .ref b6, .int wc, .int la, .int br])), (b0, .inl (cI, 4, .inl pa)), (b1, .inl (cI, 16, .inl mi)), (b2, .inl (cI, 4, .inl ga)), (b3, .inl (cI, 4, .inl te)), (b4, .inl (cI, 4, .inl kn)), (b5, .inl (cI, 6, .inl wa)), (b6, .inl (cI, 16, .inl ne)), (hp, .inr (6, [.ref hs, .int z])), (hs, .inl (cI, 30, .inl f))] ∧ ((r.toInt = -6 ∨ (0 ≤ r.toInt ∧ r.toInt < nz.toInt)) ∧ r = sdA mi na nx f z nz a s t)) := by
  refine Cn.of (by decide) (Nat.le_of_ble_eq_true rfl) ?_ ?_ (fun X eL eD eT eO eK eN eM C => ?_)
  · intro h; cases h
  · intro v ws h; obtain ⟨_, rfl, rfl, _⟩ := h; exact Or.inl rfl
  subst eL eD eT
  show V X 6 [(hl, .inr (8, [.ref hb, .ref hn, .ref hp, .ref w0])), (w0, .inl (cZ, 3784, .inl wr)), (hn, .inr (4, [.ref hb, .ref hm, .ref n0, .ref n1, .ref n2, .ref n3, .int nr, .int nz, .int nt, .int nd])), (n0, .inl (cI, 3784, .inl na)), (n1, .inl (cI, 15136, .inl nx)), (n2, .inl (cJ, 3784, .inr (.inl nw))), (n3, .inl (cI, 8192, .inl ns)), (hm, .inr (3, [.ref hb, .int mn, .int mo, .int mu, .int mg, .int mt, .int mb])), (hb, .inr (0, [.ref b0, .ref b1, .ref b2, .ref b3, .ref b4, .ref b5, .ref b6, .int wc, .int la, .int br])), (b0, .inl (cI, 4, .inl pa)), (b1, .inl (cI, 16, .inl mi)), (b2, .inl (cI, 4, .inl ga)), (b3, .inl (cI, 4, .inl te)), (b4, .inl (cI, 4, .inl kn)), (b5, .inl (cI, 6, .inl wa)), (b6, .inl (cI, 16, .inl ne)), (hp, .inr (6, [.ref hs, .int z])), (hs, .inl (cI, 30, .inl f))] [(0, .ref hl), (1, .int a), (2, .int s), (3, .int t)] [] 0 0 0
  refine x_aload_n C 0 dX8_soundsAfter_0 rfl rfl ?_
  refine x_get C 0 1 dX8_soundsAfter_1 inlX8 rfl (by decide) wd_111 rfl rfl rfl ?_
  refine x_getN C 2 2 dX8_soundsAfter_4 inlX4 rfl (by decide) nt_31 rfl rfl rfl ?_
  refine x_iload_n C 1 dX8_soundsAfter_7 rfl rfl ?_
  have v_8 : vp_in a 3784 := (vp_in_iff.mpr (by omega))
  refine x_iald C 3 0 dX8_soundsAfter_8 hT.1 rfl v_8 ?_
  refine x_iload_n C 2 dX8_soundsAfter_9 rfl rfl ?_
  refine x_callS C [.int (na (Int32.toNatClampNeg a)), .int s] [(hl, .inr (8, [.ref hb, .ref hn, .ref hp, .ref w0])), (w0, .inl (cZ, 3784, .inl wr)), (hn, .inr (4, [.ref hb, .ref hm, .ref n0, .ref n1, .ref n2, .ref n3, .int nr, .int nz, .int nt, .int nd])), (n0, .inl (cI, 3784, .inl na)), (n1, .inl (cI, 15136, .inl nx)), (n2, .inl (cJ, 3784, .inr (.inl nw))), (n3, .inl (cI, 8192, .inl ns)), (hm, .inr (3, [.ref hb, .int mn, .int mo, .int mu, .int mg, .int mt, .int mb])), (hb, .inr (0, [.ref b0, .ref b1, .ref b2, .ref b3, .ref b4, .ref b5, .ref b6, .int wc, .int la, .int br])), (b0, .inl (cI, 4, .inl pa)), (b1, .inl (cI, 16, .inl mi)), (b2, .inl (cI, 4, .inl ga)), (b3, .inl (cI, 4, .inl te)), (b4, .inl (cI, 4, .inl kn)), (b5, .inl (cI, 6, .inl wa)), (b6, .inl (cI, 16, .inl ne)), (hp, .inr (6, [.ref hs, .int z])), (hs, .inl (cI, 30, .inl f))] [] [0, 1, 2, 3, 4, 5, 6, 7, 8, 9, 10, 11, 12, 13, 14, 15, 16, 17] (c_X3_partsTold (xl X) (xD X) (xt X) hT (na (Int32.toNatClampNeg a)) s ) dX8_soundsAfter_10 wd_782 wd_373 wd_71 wd_374 (np := 2) ⟨by decide, by decide, by decide +kernel⟩ rfl rfl (Nat.le_of_ble_eq_true rfl) (by decide) rfl (by decide) rfl (by decide) (by decide) (fun v W1 h => ?_)
  obtain ⟨_, rfl, rfl, h_10⟩ := h
  show V X 6 [(hl, .inr (8, [.ref hb, .ref hn, .ref hp, .ref w0])), (w0, .inl (cZ, 3784, .inl wr)), (hn, .inr (4, [.ref hb, .ref hm, .ref n0, .ref n1, .ref n2, .ref n3, .int nr, .int nz, .int nt, .int nd])), (n0, .inl (cI, 3784, .inl na)), (n1, .inl (cI, 15136, .inl nx)), (n2, .inl (cJ, 3784, .inr (.inl nw))), (n3, .inl (cI, 8192, .inl ns)), (hm, .inr (3, [.ref hb, .int mn, .int mo, .int mu, .int mg, .int mt, .int mb])), (hb, .inr (0, [.ref b0, .ref b1, .ref b2, .ref b3, .ref b4, .ref b5, .ref b6, .int wc, .int la, .int br])), (b0, .inl (cI, 4, .inl pa)), (b1, .inl (cI, 16, .inl mi)), (b2, .inl (cI, 4, .inl ga)), (b3, .inl (cI, 4, .inl te)), (b4, .inl (cI, 4, .inl kn)), (b5, .inl (cI, 6, .inl wa)), (b6, .inl (cI, 16, .inl ne)), (hp, .inr (6, [.ref hs, .int z])), (hs, .inl (cI, 30, .inl f))] [(0, .ref hl), (1, .int a), (2, .int s), (3, .int t)] [.int (ptI (na (Int32.toNatClampNeg a)) s)] 13 0 0
  refine x_istore C [(4, .int (ptI (na (Int32.toNatClampNeg a)) s)), (0, .ref hl), (1, .int a), (2, .int s), (3, .int t)] dX8_soundsAfter_13 (by decide) rfl ?_
  refine x_iload_n C 4 dX8_soundsAfter_15 rfl rfl ?_
  refine x_aload_n C 1 dX8_soundsAfter_16 rfl rfl ?_
  refine x_get C 0 2 dX8_soundsAfter_17 inlX8 rfl (by decide) wd_112 rfl rfl rfl ?_
  refine x_getN C 16 1 dX8_soundsAfter_20 inlX6 rfl (by decide) nt_0 rfl rfl rfl ?_
  refine x_icmp_ge C 54 dX8_soundsAfter_23 (by decide) (fun c_23 => ?_) (fun c_23 => ?_)
  · skip
    have e_23 : (z : Int32).toInt ≤ (t : Int32).toInt := i_le.mp c_23
    refine x_iconst C 0 dX8_soundsAfter_54 (by decide) ?_
    refine x_istore C [(5, .int 0), (4, .int (ptI (na (Int32.toNatClampNeg a)) s)), (0, .ref hl), (1, .int a), (2, .int s), (3, .int t)] dX8_soundsAfter_55 (by decide) rfl ?_
    refine x_iload C 0 dX8_soundsAfter_57 rfl ?_
    refine x_if_eq C 74 dX8_soundsAfter_59 (by decide) (fun c_59 => ?_) (fun c_59 => ?_)
    · skip
      have e_59 : (0 : Int32).toInt = (0 : Int32).toInt := i_eq.mp c_59
      have : (0 : Int32).toInt = 0 := by decide
      have : (0 : Int32).toInt = 0 := by decide
      refine x_bipush C (-6) dX8_soundsAfter_74 (by decide) ?_
      have : ((-6) : Int32).toInt = -6 := by decide
      exact x_iret C dX8_soundsAfter_76 (Nat.zero_le _) (Nat.zero_le _) (by rw [eO]; exact ⟨((-6)), rfl, rfl, ⟨by omega, by unfold sdA; rw [if_neg (fun h => by have := h.1; omega)]⟩⟩)
    · skip
      have e_59 : ¬ ((0 : Int32).toInt = (0 : Int32).toInt) := fun h => c_59 (i_eq.mpr h)
      have : (0 : Int32).toInt = 0 := by decide
      have : (0 : Int32).toInt = 0 := by decide
      exfalso
      omega
  · skip
    have e_23 : ¬ ((z : Int32).toInt ≤ (t : Int32).toInt) := fun h => c_23 (i_le.mpr h)
    refine x_aload_n C 1 dX8_soundsAfter_26 rfl rfl ?_
    refine x_get C 0 0 dX8_soundsAfter_27 inlX8 rfl (by decide) wd_110 rfl rfl rfl ?_
    refine x_iload_n C 3 dX8_soundsAfter_30 rfl rfl ?_
    refine x_iload C 0 dX8_soundsAfter_31 rfl ?_
    refine x_callV C [.int s, .int (ptI (na (Int32.toNatClampNeg a)) s)] [(hl, .inr (8, [.ref hb, .ref hn, .ref hp, .ref w0])), (w0, .inl (cZ, 3784, .inl wr)), (hn, .inr (4, [.ref hb, .ref hm, .ref n0, .ref n1, .ref n2, .ref n3, .int nr, .int nz, .int nt, .int nd])), (n0, .inl (cI, 3784, .inl na)), (n1, .inl (cI, 15136, .inl nx)), (n2, .inl (cJ, 3784, .inr (.inl nw))), (n3, .inl (cI, 8192, .inl ns)), (hm, .inr (3, [.ref hb, .int mn, .int mo, .int mu, .int mg, .int mt, .int mb])), (hp, .inr (6, [.ref hs, .int z])), (hs, .inl (cI, 30, .inl f))] [8, 9, 10, 11, 12, 13, 14, 15] [0, 1, 2, 3, 4, 5, 6, 7, 16, 17] (q0 := 0) (c_X0_minutesAt (xl X) (xD X) (xt X) hT hb b0 b1 b2 b3 b4 b5 b6 pa mi ga te kn wa ne wc la br s (ptI (na (Int32.toNatClampNeg a)) s) (by omega)) dX8_soundsAfter_33 wd_783 wd_274 wd_275 wd_18 wd_276 (np := 2) ⟨by decide, by decide, by decide +kernel⟩ rfl rfl (Nat.le_of_ble_eq_true rfl) (by decide) rfl rfl rfl rfl (by decide) rfl (by decide) (by decide) (fun v W1 h => ?_)
    obtain ⟨r_33, rfl, rfl, h_33⟩ := h
    show V X 6 [(hl, .inr (8, [.ref hb, .ref hn, .ref hp, .ref w0])), (w0, .inl (cZ, 3784, .inl wr)), (hn, .inr (4, [.ref hb, .ref hm, .ref n0, .ref n1, .ref n2, .ref n3, .int nr, .int nz, .int nt, .int nd])), (n0, .inl (cI, 3784, .inl na)), (n1, .inl (cI, 15136, .inl nx)), (n2, .inl (cJ, 3784, .inr (.inl nw))), (n3, .inl (cI, 8192, .inl ns)), (hm, .inr (3, [.ref hb, .int mn, .int mo, .int mu, .int mg, .int mt, .int mb])), (hp, .inr (6, [.ref hs, .int z])), (hs, .inl (cI, 30, .inl f)), (hb, .inr (0, [.ref b0, .ref b1, .ref b2, .ref b3, .ref b4, .ref b5, .ref b6, .int wc, .int la, .int br])), (b0, .inl (cI, 4, .inl pa)), (b1, .inl (cI, 16, .inl mi)), (b2, .inl (cI, 4, .inl ga)), (b3, .inl (cI, 4, .inl te)), (b4, .inl (cI, 4, .inl kn)), (b5, .inl (cI, 6, .inl wa)), (b6, .inl (cI, 16, .inl ne))] [(4, .int (ptI (na (Int32.toNatClampNeg a)) s)), (0, .ref hl), (1, .int a), (2, .int s), (3, .int t)] [.int r_33] 36 0 0
    refine x_aload_n C 1 dX8_soundsAfter_36 rfl rfl ?_
    refine x_get C 0 2 dX8_soundsAfter_37 inlX8 rfl (by decide) wd_112 rfl rfl rfl ?_
    refine x_iload_n C 4 dX8_soundsAfter_40 rfl rfl ?_
    refine x_callV C [.int t] [(hl, .inr (8, [.ref hb, .ref hn, .ref hp, .ref w0])), (w0, .inl (cZ, 3784, .inl wr)), (hn, .inr (4, [.ref hb, .ref hm, .ref n0, .ref n1, .ref n2, .ref n3, .int nr, .int nz, .int nt, .int nd])), (n0, .inl (cI, 3784, .inl na)), (n1, .inl (cI, 15136, .inl nx)), (n2, .inl (cJ, 3784, .inr (.inl nw))), (n3, .inl (cI, 8192, .inl ns)), (hm, .inr (3, [.ref hb, .int mn, .int mo, .int mu, .int mg, .int mt, .int mb])), (hb, .inr (0, [.ref b0, .ref b1, .ref b2, .ref b3, .ref b4, .ref b5, .ref b6, .int wc, .int la, .int br])), (b0, .inl (cI, 4, .inl pa)), (b1, .inl (cI, 16, .inl mi)), (b2, .inl (cI, 4, .inl ga)), (b3, .inl (cI, 4, .inl te)), (b4, .inl (cI, 4, .inl kn)), (b5, .inl (cI, 6, .inl wa)), (b6, .inl (cI, 16, .inl ne))] [8, 9] [0, 1, 2, 3, 4, 5, 6, 7, 10, 11, 12, 13, 14, 15, 16, 17] (q0 := 0) (c_X6_signAt (xl X) (xD X) (xt X) hT hp hs f z t (by omega)) dX8_soundsAfter_41 wd_784 wd_227 wd_228 wd_14 wd_229 (np := 1) ⟨by decide, by decide, by decide +kernel⟩ rfl rfl (Nat.le_of_ble_eq_true rfl) (by decide) rfl rfl rfl rfl (by decide) rfl (by decide) (by decide) (fun v W1 h => ?_)
    obtain ⟨r_41, rfl, rfl, h_41⟩ := h
    show V X 6 [(hl, .inr (8, [.ref hb, .ref hn, .ref hp, .ref w0])), (w0, .inl (cZ, 3784, .inl wr)), (hn, .inr (4, [.ref hb, .ref hm, .ref n0, .ref n1, .ref n2, .ref n3, .int nr, .int nz, .int nt, .int nd])), (n0, .inl (cI, 3784, .inl na)), (n1, .inl (cI, 15136, .inl nx)), (n2, .inl (cJ, 3784, .inr (.inl nw))), (n3, .inl (cI, 8192, .inl ns)), (hm, .inr (3, [.ref hb, .int mn, .int mo, .int mu, .int mg, .int mt, .int mb])), (hb, .inr (0, [.ref b0, .ref b1, .ref b2, .ref b3, .ref b4, .ref b5, .ref b6, .int wc, .int la, .int br])), (b0, .inl (cI, 4, .inl pa)), (b1, .inl (cI, 16, .inl mi)), (b2, .inl (cI, 4, .inl ga)), (b3, .inl (cI, 4, .inl te)), (b4, .inl (cI, 4, .inl kn)), (b5, .inl (cI, 6, .inl wa)), (b6, .inl (cI, 16, .inl ne)), (hp, .inr (6, [.ref hs, .int z])), (hs, .inl (cI, 30, .inl f))] [(4, .int (ptI (na (Int32.toNatClampNeg a)) s)), (0, .ref hl), (1, .int a), (2, .int s), (3, .int t)] [.int r_41, .int r_33] 44 0 0
    refine x_bipush C 48 dX8_soundsAfter_44 (by decide) ?_
    refine x_isub C dX8_soundsAfter_46 ?_
    refine x_icmp_ne C 54 dX8_soundsAfter_47 (by decide) (fun c_47 => ?_) (fun c_47 => ?_)
    · skip
      have e_47 : ¬ ((r_33 : Int32).toInt = (r_41 - 48 : Int32).toInt) := fun h => c_47 (i_eq.mpr h)
      refine x_iconst C 0 dX8_soundsAfter_54 (by decide) ?_
      refine x_istore C [(5, .int 0), (4, .int (ptI (na (Int32.toNatClampNeg a)) s)), (0, .ref hl), (1, .int a), (2, .int s), (3, .int t)] dX8_soundsAfter_55 (by decide) rfl ?_
      refine x_iload C 0 dX8_soundsAfter_57 rfl ?_
      refine x_if_eq C 74 dX8_soundsAfter_59 (by decide) (fun c_59 => ?_) (fun c_59 => ?_)
      · skip
        have e_59 : (0 : Int32).toInt = (0 : Int32).toInt := i_eq.mp c_59
        have : (0 : Int32).toInt = 0 := by decide
        have : (0 : Int32).toInt = 0 := by decide
        refine x_bipush C (-6) dX8_soundsAfter_74 (by decide) ?_
        have m9 : r_33 = mnF mi s (ptI (na (Int32.toNatClampNeg a)) s) := by
          unfold mnF
          by_cases c9 : 0 ≤ (ptI (na (Int32.toNatClampNeg a)) s).toInt ∧ (ptI (na (Int32.toNatClampNeg a)) s).toInt ≤ 3
          · rw [if_pos c9]; exact h_33.1 c9
          · rw [if_neg c9]; exact h_33.2 c9
        have f9 : r_41 = f (Int32.toNatClampNeg t) := h_41.1 (by omega)
        have : ((-6) : Int32).toInt = -6 := by decide
        exact x_iret C dX8_soundsAfter_76 (Nat.zero_le _) (Nat.zero_le _) (by rw [eO]; exact ⟨((-6)), rfl, rfl, ⟨by omega, by unfold sdA; rw [if_neg (fun h => c_47 (by rw [m9, f9]; exact h.2))]⟩⟩)
      · skip
        have e_59 : ¬ ((0 : Int32).toInt = (0 : Int32).toInt) := fun h => c_59 (i_eq.mpr h)
        have : (0 : Int32).toInt = 0 := by decide
        have : (0 : Int32).toInt = 0 := by decide
        exfalso
        omega
    · skip
      have e_47 : (r_33 : Int32).toInt = (r_41 - 48 : Int32).toInt := i_eq.mp c_47
      refine x_iconst C 1 dX8_soundsAfter_50 (by decide) ?_
      refine x_goto C 55 dX8_soundsAfter_51 (by decide) ?_
      refine x_istore C [(5, .int 1), (4, .int (ptI (na (Int32.toNatClampNeg a)) s)), (0, .ref hl), (1, .int a), (2, .int s), (3, .int t)] dX8_soundsAfter_55 (by decide) rfl ?_
      refine x_iload C 0 dX8_soundsAfter_57 rfl ?_
      refine x_if_eq C 74 dX8_soundsAfter_59 (by decide) (fun c_59 => ?_) (fun c_59 => ?_)
      · skip
        have e_59 : (1 : Int32).toInt = (0 : Int32).toInt := i_eq.mp c_59
        have : (1 : Int32).toInt = 1 := by decide
        have : (0 : Int32).toInt = 0 := by decide
        exfalso
        omega
      · skip
        have e_59 : ¬ ((1 : Int32).toInt = (0 : Int32).toInt) := fun h => c_59 (i_eq.mpr h)
        have : (1 : Int32).toInt = 1 := by decide
        have : (0 : Int32).toInt = 0 := by decide
        refine x_aload_n C 2 dX8_soundsAfter_62 rfl rfl ?_
        refine x_get C 0 1 dX8_soundsAfter_63 inlX8 rfl (by decide) wd_111 rfl rfl rfl ?_
        refine x_iload_n C 3 dX8_soundsAfter_66 rfl rfl ?_
        refine x_iload_n C 4 dX8_soundsAfter_67 rfl rfl ?_
        refine x_callV C [.int a, .int s] [(hl, .inr (8, [.ref hb, .ref hn, .ref hp, .ref w0])), (w0, .inl (cZ, 3784, .inl wr)), (hp, .inr (6, [.ref hs, .int z])), (hs, .inl (cI, 30, .inl f))] [2, 3, 4, 5, 6, 7, 8, 9, 10, 11, 12, 13, 14, 15] [0, 1, 16, 17] (q0 := 0) (c_X4_nodeAfter (xl X) (xD X) (xt X) hT hn n0 n1 n2 n3 na nx ns nw nr nz nt nd hm mn mo mu mg mt mb hb b0 b1 b2 b3 b4 b5 b6 pa mi ga te kn wa ne wc la br a s (by omega) (by omega) (by omega)) dX8_soundsAfter_68 wd_785 wd_556 wd_557 wd_28 wd_558 (np := 2) ⟨by decide, by decide, by decide +kernel⟩ rfl rfl (Nat.le_of_ble_eq_true rfl) (by decide) rfl rfl rfl rfl (by decide) rfl (by decide) (by decide) (fun v W1 h => ?_)
        obtain ⟨r_68, rfl, rfl, h_68⟩ := h
        show V X 6 [(hl, .inr (8, [.ref hb, .ref hn, .ref hp, .ref w0])), (w0, .inl (cZ, 3784, .inl wr)), (hp, .inr (6, [.ref hs, .int z])), (hs, .inl (cI, 30, .inl f)), (hn, .inr (4, [.ref hb, .ref hm, .ref n0, .ref n1, .ref n2, .ref n3, .int nr, .int nz, .int nt, .int nd])), (n0, .inl (cI, 3784, .inl na)), (n1, .inl (cI, 15136, .inl nx)), (n2, .inl (cJ, 3784, .inr (.inl nw))), (n3, .inl (cI, 8192, .inl ns)), (hm, .inr (3, [.ref hb, .int mn, .int mo, .int mu, .int mg, .int mt, .int mb])), (hb, .inr (0, [.ref b0, .ref b1, .ref b2, .ref b3, .ref b4, .ref b5, .ref b6, .int wc, .int la, .int br])), (b0, .inl (cI, 4, .inl pa)), (b1, .inl (cI, 16, .inl mi)), (b2, .inl (cI, 4, .inl ga)), (b3, .inl (cI, 4, .inl te)), (b4, .inl (cI, 4, .inl kn)), (b5, .inl (cI, 6, .inl wa)), (b6, .inl (cI, 16, .inl ne))] [(5, .int 1), (4, .int (ptI (na (Int32.toNatClampNeg a)) s)), (0, .ref hl), (1, .int a), (2, .int s), (3, .int t)] [.int r_68] 71 0 0
        refine x_goto C 76 dX8_soundsAfter_71 (by decide) ?_
        have m9 : r_33 = mnF mi s (ptI (na (Int32.toNatClampNeg a)) s) := by
          unfold mnF
          by_cases c9 : 0 ≤ (ptI (na (Int32.toNatClampNeg a)) s).toInt ∧ (ptI (na (Int32.toNatClampNeg a)) s).toInt ≤ 3
          · rw [if_pos c9]; exact h_33.1 c9
          · rw [if_neg c9]; exact h_33.2 c9
        have f9 : r_41 = f (Int32.toNatClampNeg t) := h_41.1 (by omega)
        refine x_sub [(hl, .inr (8, [.ref hb, .ref hn, .ref hp, .ref w0])), (w0, .inl (cZ, 3784, .inl wr)), (hn, .inr (4, [.ref hb, .ref hm, .ref n0, .ref n1, .ref n2, .ref n3, .int nr, .int nz, .int nt, .int nd])), (n0, .inl (cI, 3784, .inl na)), (n1, .inl (cI, 15136, .inl nx)), (n2, .inl (cJ, 3784, .inr (.inl nw))), (n3, .inl (cI, 8192, .inl ns)), (hm, .inr (3, [.ref hb, .int mn, .int mo, .int mu, .int mg, .int mt, .int mb])), (hb, .inr (0, [.ref b0, .ref b1, .ref b2, .ref b3, .ref b4, .ref b5, .ref b6, .int wc, .int la, .int br])), (b0, .inl (cI, 4, .inl pa)), (b1, .inl (cI, 16, .inl mi)), (b2, .inl (cI, 4, .inl ga)), (b3, .inl (cI, 4, .inl te)), (b4, .inl (cI, 4, .inl kn)), (b5, .inl (cI, 6, .inl wa)), (b6, .inl (cI, 16, .inl ne)), (hp, .inr (6, [.ref hs, .int z])), (hs, .inl (cI, 30, .inl f))] [0, 1, 4, 5, 6, 7, 8, 9, 10, 11, 12, 13, 14, 15, 16, 17, 2, 3] (by decide) rfl ?_
        exact x_iret C dX8_soundsAfter_76 (Nat.zero_le _) (Nat.zero_le _) (by rw [eO]; exact ⟨r_68, rfl, rfl, ⟨by omega, by unfold sdA; rw [if_pos ⟨by omega, by rw [← m9, ← f9]; exact c_47⟩]; exact h_68.2⟩⟩)
abbrev rm_X8_evenings : Room := { frames := 3, cells := 0, slots := 0, locals := 70 }
set_option maxHeartbeats 4000000 in
set_option maxRecDepth 100000 in
theorem c_X8_evenings (l : Launch) (D : va_G) (tys : List (ClassId × FieldType)) {cI cJ cZ cB : ClassId} (hT : Ty tys cI cJ cZ cB) (hl w0 : Nat) (wr : Nat → Int32) (hn n0 n1 n2 n3 : Nat) (na nx ns : Nat → Int32) (nw : Nat → Int64) (nr nz nt nd : Int32) (hm : Nat) (mn mo mu mg mt mb : Int32) (hb b0 b1 b2 b3 b4 b5 b6 : Nat) (pa mi ga te kn wa ne : Nat → Int32) (wc la br : Int32) (hp hs : Nat) (f : Nat → Int32) (z : Int32) (hz : 0 ≤ nz.toInt ∧ nz.toInt ≤ 3784) (hpz : 0 ≤ z.toInt ∧ z.toInt ≤ 30) (hup : UPG nx nz) : Cn l D tys yX8_evenings cX8_evenings 7 (some .long) rm_X8_evenings [(hl, .inr (8, [.ref hb, .ref hn, .ref hp, .ref w0])), (w0, .inl (cZ, 3784, .inl wr)), (hn, .inr (4, [.ref hb, .ref hm, .ref n0, .ref n1, .ref n2, .ref n3, .int nr, .int nz, .int nt, .int nd])), (n0, .inl (cI, 3784, .inl na)), (n1, .inl (cI, 15136, .inl nx)), (n2, .inl (cJ, 3784, .inr (.inl nw))), (n3, .inl (cI, 8192, .inl ns)), (hm, .inr (3, [.ref hb, .int mn, .int mo, .int mu, .int mg, .int mt, .int mb])), (hb, .inr (0, [.ref b0, .ref b1, .ref b2, .ref b3, .ref b4, .ref b5, .ref b6, .int wc, .int la, .int br])), (b0, .inl (cI, 4, .inl pa)), (b1, .inl (cI, 16, .inl mi)), (b2, .inl (cI, 4, .inl ga)), (b3, .inl (cI, 4, .inl te)), (b4, .inl (cI, 4, .inl kn)), (b5, .inl (cI, 6, .inl wa)), (b6, .inl (cI, 16, .inl ne)), (hp, .inr (6, [.ref hs, .int z])), (hs, .inl (cI, 30, .inl f))] [.ref hl] (fun v W1 => ∃ (r : Int64) (nw2 : Nat → Int64), v = some (.long r) ∧ W1 = [(hl, .inr (8, [.ref hb, .ref hn, .ref hp, .ref w0])), (w0, .inl (cZ, 3784, .inl wr)), (hn, .inr (4, [.ref hb, .ref hm, .ref n0, .ref n1, .ref n2, .ref n3, .int nr, .int nz, .int nt, .int nd])), (n0, .inl (cI, 3784, .inl na)), (n1, .inl (cI, 15136, .inl nx)), (n2, .inl (cJ, 3784, .inr (.inl nw2))), (n3, .inl (cI, 8192, .inl ns)), (hm, .inr (3, [.ref hb, .int mn, .int mo, .int mu, .int mg, .int mt, .int mb])), (hb, .inr (0, [.ref b0, .ref b1, .ref b2, .ref b3, .ref b4, .ref b5, .ref b6, .int wc, .int la, .int br])), (b0, .inl (cI, 4, .inl pa)), (b1, .inl (cI, 16, .inl mi)), (b2, .inl (cI, 4, .inl ga)), (b3, .inl (cI, 4, .inl te)), (b4, .inl (cI, 4, .inl kn)), (b5, .inl (cI, 6, .inl wa)), (b6, .inl (cI, 16, .inl ne)), (hp, .inr (6, [.ref hs, .int z])), (hs, .inl (cI, 30, .inl f))] ∧ (HGX mi na nx f z nz nw2 (-1) ∧ r = nw2 0)) := by
  refine Cn.of (by decide) (Nat.le_of_ble_eq_true rfl) ?_ ?_ (fun X eL eD eT eO eK eN eM C => ?_)
  · intro h; cases h
  · intro v ws h; obtain ⟨_, _, rfl, rfl, _⟩ := h; rfl
  subst eL eD eT
  show V X 7 [(hl, .inr (8, [.ref hb, .ref hn, .ref hp, .ref w0])), (w0, .inl (cZ, 3784, .inl wr)), (hn, .inr (4, [.ref hb, .ref hm, .ref n0, .ref n1, .ref n2, .ref n3, .int nr, .int nz, .int nt, .int nd])), (n0, .inl (cI, 3784, .inl na)), (n1, .inl (cI, 15136, .inl nx)), (n2, .inl (cJ, 3784, .inr (.inl nw))), (n3, .inl (cI, 8192, .inl ns)), (hm, .inr (3, [.ref hb, .int mn, .int mo, .int mu, .int mg, .int mt, .int mb])), (hb, .inr (0, [.ref b0, .ref b1, .ref b2, .ref b3, .ref b4, .ref b5, .ref b6, .int wc, .int la, .int br])), (b0, .inl (cI, 4, .inl pa)), (b1, .inl (cI, 16, .inl mi)), (b2, .inl (cI, 4, .inl ga)), (b3, .inl (cI, 4, .inl te)), (b4, .inl (cI, 4, .inl kn)), (b5, .inl (cI, 6, .inl wa)), (b6, .inl (cI, 16, .inl ne)), (hp, .inr (6, [.ref hs, .int z])), (hs, .inl (cI, 30, .inl f))] [(0, .ref hl)] [] 0 0 0
  refine x_aload_n C 0 dX8_evenings_0 rfl rfl ?_
  refine x_get C 0 1 dX8_evenings_1 inlX8 rfl (by decide) wd_111 rfl rfl rfl ?_
  refine x_getN C 2 7 dX8_evenings_4 inlX4 rfl (by decide) nt_38 rfl rfl rfl ?_
  refine x_iconst C 1 dX8_evenings_7 (by decide) ?_
  refine x_isub C dX8_evenings_8 ?_
  refine x_istore_n C [(1, .int (nz - 1)), (0, .ref hl)] dX8_evenings_9 rfl (by decide) rfl ?_
  have L_10 : ∀ (n_10 : Nat) (x1_10 : Int32) (fn2_10 : Nat → Int64), ((-1 ≤ x1_10.toInt ∧ x1_10.toInt < nz.toInt) ∧ HGX mi na nx f z nz fn2_10 x1_10.toInt) → ((x1_10.toInt + 1).toNat < n_10) → V X 7 [(hl, .inr (8, [.ref hb, .ref hn, .ref hp, .ref w0])), (w0, .inl (cZ, 3784, .inl wr)), (hn, .inr (4, [.ref hb, .ref hm, .ref n0, .ref n1, .ref n2, .ref n3, .int nr, .int nz, .int nt, .int nd])), (n0, .inl (cI, 3784, .inl na)), (n1, .inl (cI, 15136, .inl nx)), (n2, .inl (cJ, 3784, .inr (.inl fn2_10))), (n3, .inl (cI, 8192, .inl ns)), (hm, .inr (3, [.ref hb, .int mn, .int mo, .int mu, .int mg, .int mt, .int mb])), (hb, .inr (0, [.ref b0, .ref b1, .ref b2, .ref b3, .ref b4, .ref b5, .ref b6, .int wc, .int la, .int br])), (b0, .inl (cI, 4, .inl pa)), (b1, .inl (cI, 16, .inl mi)), (b2, .inl (cI, 4, .inl ga)), (b3, .inl (cI, 4, .inl te)), (b4, .inl (cI, 4, .inl kn)), (b5, .inl (cI, 6, .inl wa)), (b6, .inl (cI, 16, .inl ne)), (hp, .inr (6, [.ref hs, .int z])), (hs, .inl (cI, 30, .inl f))] [(1, .int x1_10), (0, .ref hl)] [] 10 0 0 := by
    intro n_10
    induction n_10 with
    | zero =>
      intro x1_10 fn2_10 i_10 m_10
      exact absurd m_10 (Nat.not_lt_zero _)
    | succ n_10 ih_10 =>
      intro x1_10 fn2_10 i_10 m_10
      refine x_iload_n C 0 dX8_evenings_10 rfl rfl ?_
      refine x_if_lt C 109 dX8_evenings_11 (by decide) (fun c_11 => ?_) (fun c_11 => ?_)
      · skip
        have e_11 : (x1_10 : Int32).toInt < (0 : Int32).toInt := i_lt.mp c_11
        have : (0 : Int32).toInt = 0 := by decide
        refine x_aload_n C 1 dX8_evenings_109 rfl rfl ?_
        refine x_get C 0 1 dX8_evenings_110 inlX8 rfl (by decide) wd_111 rfl rfl rfl ?_
        refine x_getN C 2 4 dX8_evenings_113 inlX4 rfl (by decide) nt_35 rfl rfl rfl ?_
        refine x_iconst C 0 dX8_evenings_116 (by decide) ?_
        have v_117 : vp_in 0 3784 := (vp_in_iff.mpr (by decide))
        refine x_lald C 5 1 dX8_evenings_117 hT.2.1 rfl v_117 ?_
        exact x_lret C dX8_evenings_118 (Nat.zero_le _) (Nat.zero_le _) (by rw [eO]; exact ⟨(fn2_10 (Int32.toNatClampNeg 0)), fn2_10, rfl, rfl, ⟨by rw [show (-1 : Int) = x1_10.toInt by omega]; exact i_10.2, rfl⟩⟩)
      · skip
        have e_11 : ¬ ((x1_10 : Int32).toInt < (0 : Int32).toInt) := fun h => c_11 (i_lt.mpr h)
        have : (0 : Int32).toInt = 0 := by decide
        refine x_aload_n C 1 dX8_evenings_14 rfl rfl ?_
        refine x_get C 0 1 dX8_evenings_15 inlX8 rfl (by decide) wd_111 rfl rfl rfl ?_
        refine x_getN C 2 2 dX8_evenings_18 inlX4 rfl (by decide) nt_31 rfl rfl rfl ?_
        refine x_iload_n C 0 dX8_evenings_21 rfl rfl ?_
        have v_22 : vp_in x1_10 3784 := (vp_in_iff.mpr (by omega))
        refine x_iald C 3 0 dX8_evenings_22 hT.1 rfl v_22 ?_
        refine x_callS C [.int (na (Int32.toNatClampNeg x1_10))] [(hl, .inr (8, [.ref hb, .ref hn, .ref hp, .ref w0])), (w0, .inl (cZ, 3784, .inl wr)), (hn, .inr (4, [.ref hb, .ref hm, .ref n0, .ref n1, .ref n2, .ref n3, .int nr, .int nz, .int nt, .int nd])), (n0, .inl (cI, 3784, .inl na)), (n1, .inl (cI, 15136, .inl nx)), (n2, .inl (cJ, 3784, .inr (.inl fn2_10))), (n3, .inl (cI, 8192, .inl ns)), (hm, .inr (3, [.ref hb, .int mn, .int mo, .int mu, .int mg, .int mt, .int mb])), (hb, .inr (0, [.ref b0, .ref b1, .ref b2, .ref b3, .ref b4, .ref b5, .ref b6, .int wc, .int la, .int br])), (b0, .inl (cI, 4, .inl pa)), (b1, .inl (cI, 16, .inl mi)), (b2, .inl (cI, 4, .inl ga)), (b3, .inl (cI, 4, .inl te)), (b4, .inl (cI, 4, .inl kn)), (b5, .inl (cI, 6, .inl wa)), (b6, .inl (cI, 16, .inl ne)), (hp, .inr (6, [.ref hs, .int z])), (hs, .inl (cI, 30, .inl f))] [] [0, 1, 2, 3, 4, 5, 6, 7, 8, 9, 10, 11, 12, 13, 14, 15, 16, 17] (c_X3_allPartsTold (xl X) (xD X) (xt X) hT (na (Int32.toNatClampNeg x1_10)) ) dX8_evenings_23 wd_777 wd_713 wd_71 wd_714 (np := 1) ⟨by decide, by decide, by decide +kernel⟩ rfl rfl (Nat.le_of_ble_eq_true rfl) (by decide) rfl (by decide) rfl (by decide) (by decide) (fun v W1 h => ?_)
        obtain ⟨_, rfl, rfl, h_23⟩ := h
        show V X 7 [(hl, .inr (8, [.ref hb, .ref hn, .ref hp, .ref w0])), (w0, .inl (cZ, 3784, .inl wr)), (hn, .inr (4, [.ref hb, .ref hm, .ref n0, .ref n1, .ref n2, .ref n3, .int nr, .int nz, .int nt, .int nd])), (n0, .inl (cI, 3784, .inl na)), (n1, .inl (cI, 15136, .inl nx)), (n2, .inl (cJ, 3784, .inr (.inl fn2_10))), (n3, .inl (cI, 8192, .inl ns)), (hm, .inr (3, [.ref hb, .int mn, .int mo, .int mu, .int mg, .int mt, .int mb])), (hb, .inr (0, [.ref b0, .ref b1, .ref b2, .ref b3, .ref b4, .ref b5, .ref b6, .int wc, .int la, .int br])), (b0, .inl (cI, 4, .inl pa)), (b1, .inl (cI, 16, .inl mi)), (b2, .inl (cI, 4, .inl ga)), (b3, .inl (cI, 4, .inl te)), (b4, .inl (cI, 4, .inl kn)), (b5, .inl (cI, 6, .inl wa)), (b6, .inl (cI, 16, .inl ne)), (hp, .inr (6, [.ref hs, .int z])), (hs, .inl (cI, 30, .inl f))] [(1, .int x1_10), (0, .ref hl)] [.int (ptI (na (Int32.toNatClampNeg x1_10)) 0 + ptI (na (Int32.toNatClampNeg x1_10)) 1 + ptI (na (Int32.toNatClampNeg x1_10)) 2 + ptI (na (Int32.toNatClampNeg x1_10)) 3)] 26 0 0
        refine x_istore_n C [(2, .int (ptI (na (Int32.toNatClampNeg x1_10)) 0 + ptI (na (Int32.toNatClampNeg x1_10)) 1 + ptI (na (Int32.toNatClampNeg x1_10)) 2 + ptI (na (Int32.toNatClampNeg x1_10)) 3)), (1, .int x1_10), (0, .ref hl)] dX8_evenings_26 rfl (by decide) rfl ?_
        refine x_iload_n C 0 dX8_evenings_27 rfl rfl ?_
        refine x_aload_n C 2 dX8_evenings_28 rfl rfl ?_
        refine x_get C 0 2 dX8_evenings_29 inlX8 rfl (by decide) wd_112 rfl rfl rfl ?_
        refine x_getN C 16 1 dX8_evenings_32 inlX6 rfl (by decide) nt_0 rfl rfl rfl ?_
        refine x_icmp_ne C 42 dX8_evenings_35 (by decide) (fun c_35 => ?_) (fun c_35 => ?_)
        · skip
          have e_35 : ¬ ((ptI (na (Int32.toNatClampNeg x1_10)) 0 + ptI (na (Int32.toNatClampNeg x1_10)) 1 + ptI (na (Int32.toNatClampNeg x1_10)) 2 + ptI (na (Int32.toNatClampNeg x1_10)) 3 : Int32).toInt = (z : Int32).toInt) := fun h => c_35 (i_eq.mpr h)
          refine x_lconst C 0 dX8_evenings_42 (by decide) ?_
          refine x_lstore_n C [(3, .long 0), (2, .int (ptI (na (Int32.toNatClampNeg x1_10)) 0 + ptI (na (Int32.toNatClampNeg x1_10)) 1 + ptI (na (Int32.toNatClampNeg x1_10)) 2 + ptI (na (Int32.toNatClampNeg x1_10)) 3)), (1, .int x1_10), (0, .ref hl)] dX8_evenings_43 rfl (by decide) rfl ?_
          refine x_iconst C 0 dX8_evenings_44 (by decide) ?_
          refine x_istore C [(5, .int 0), (3, .long 0), (2, .int (ptI (na (Int32.toNatClampNeg x1_10)) 0 + ptI (na (Int32.toNatClampNeg x1_10)) 1 + ptI (na (Int32.toNatClampNeg x1_10)) 2 + ptI (na (Int32.toNatClampNeg x1_10)) 3)), (1, .int x1_10), (0, .ref hl)] dX8_evenings_45 (by decide) rfl ?_
          have L_47 : ∀ (n_47 : Nat) (x5_47 : Int32) (x3_47 : Int64), ((0 ≤ x5_47.toInt ∧ x5_47.toInt ≤ 4) ∧ x3_47 = shC mi na nx f z nz x1_10 (ptA (na (Int32.toNatClampNeg x1_10))) fn2_10 (hgW na z (Int32.toNatClampNeg x1_10)) x5_47.toInt.toNat) → ((4 - x5_47.toInt).toNat < n_47) → V X 7 [(hl, .inr (8, [.ref hb, .ref hn, .ref hp, .ref w0])), (w0, .inl (cZ, 3784, .inl wr)), (hn, .inr (4, [.ref hb, .ref hm, .ref n0, .ref n1, .ref n2, .ref n3, .int nr, .int nz, .int nt, .int nd])), (n0, .inl (cI, 3784, .inl na)), (n1, .inl (cI, 15136, .inl nx)), (n2, .inl (cJ, 3784, .inr (.inl fn2_10))), (n3, .inl (cI, 8192, .inl ns)), (hm, .inr (3, [.ref hb, .int mn, .int mo, .int mu, .int mg, .int mt, .int mb])), (hb, .inr (0, [.ref b0, .ref b1, .ref b2, .ref b3, .ref b4, .ref b5, .ref b6, .int wc, .int la, .int br])), (b0, .inl (cI, 4, .inl pa)), (b1, .inl (cI, 16, .inl mi)), (b2, .inl (cI, 4, .inl ga)), (b3, .inl (cI, 4, .inl te)), (b4, .inl (cI, 4, .inl kn)), (b5, .inl (cI, 6, .inl wa)), (b6, .inl (cI, 16, .inl ne)), (hp, .inr (6, [.ref hs, .int z])), (hs, .inl (cI, 30, .inl f))] [(5, .int x5_47), (3, .long x3_47), (2, .int (ptI (na (Int32.toNatClampNeg x1_10)) 0 + ptI (na (Int32.toNatClampNeg x1_10)) 1 + ptI (na (Int32.toNatClampNeg x1_10)) 2 + ptI (na (Int32.toNatClampNeg x1_10)) 3)), (1, .int x1_10), (0, .ref hl)] [] 47 0 0 := by
            intro n_47
            induction n_47 with
            | zero =>
              intro x5_47 x3_47 i_47 m_47
              exact absurd m_47 (Nat.not_lt_zero _)
            | succ n_47 ih_47 =>
              intro x5_47 x3_47 i_47 m_47
              refine x_iload C 0 dX8_evenings_47 rfl ?_
              refine x_iconst C 4 dX8_evenings_49 (by decide) ?_
              refine x_icmp_ge C 93 dX8_evenings_50 (by decide) (fun c_50 => ?_) (fun c_50 => ?_)
              · skip
                have e_50 : (4 : Int32).toInt ≤ (x5_47 : Int32).toInt := i_le.mp c_50
                have : (4 : Int32).toInt = 4 := by decide
                refine x_aload_n C 4 dX8_evenings_93 rfl rfl ?_
                refine x_get C 0 1 dX8_evenings_94 inlX8 rfl (by decide) wd_111 rfl rfl rfl ?_
                refine x_getN C 2 4 dX8_evenings_97 inlX4 rfl (by decide) nt_35 rfl rfl rfl ?_
                refine x_iload_n C 3 dX8_evenings_100 rfl rfl ?_
                refine x_lload_n C 1 dX8_evenings_101 rfl rfl ?_
                have v_102 : vp_in x1_10 3784 := (vp_in_iff.mpr (by omega))
                refine x_last C 5 1 [(hl, .inr (8, [.ref hb, .ref hn, .ref hp, .ref w0])), (w0, .inl (cZ, 3784, .inl wr)), (hn, .inr (4, [.ref hb, .ref hm, .ref n0, .ref n1, .ref n2, .ref n3, .int nr, .int nz, .int nt, .int nd])), (n0, .inl (cI, 3784, .inl na)), (n1, .inl (cI, 15136, .inl nx)), (n2, .inl (cJ, 3784, .inr (.inl (vp_updL fn2_10 (Int32.toNatClampNeg x1_10) x3_47)))), (n3, .inl (cI, 8192, .inl ns)), (hm, .inr (3, [.ref hb, .int mn, .int mo, .int mu, .int mg, .int mt, .int mb])), (hb, .inr (0, [.ref b0, .ref b1, .ref b2, .ref b3, .ref b4, .ref b5, .ref b6, .int wc, .int la, .int br])), (b0, .inl (cI, 4, .inl pa)), (b1, .inl (cI, 16, .inl mi)), (b2, .inl (cI, 4, .inl ga)), (b3, .inl (cI, 4, .inl te)), (b4, .inl (cI, 4, .inl kn)), (b5, .inl (cI, 6, .inl wa)), (b6, .inl (cI, 16, .inl ne)), (hp, .inr (6, [.ref hs, .int z])), (hs, .inl (cI, 30, .inl f))] dX8_evenings_102 hT.2.1 rfl v_102 rfl ?_
                refine x_iinc C 3 (x1_10 - 1) [(1, .int (x1_10 - 1)), (5, .int x5_47), (3, .long x3_47), (2, .int (ptI (na (Int32.toNatClampNeg x1_10)) 0 + ptI (na (Int32.toNatClampNeg x1_10)) 1 + ptI (na (Int32.toNatClampNeg x1_10)) 2 + ptI (na (Int32.toNatClampNeg x1_10)) 3)), (0, .ref hl)] dX8_evenings_103 rfl (i_m1 _) (by decide) rfl ?_
                refine x_goto C 10 dX8_evenings_106 (by decide) ?_
                refine x_lv [(1, .int (x1_10 - 1)), (0, .ref hl)] [0, 4] rfl ?_
                have : (1 : Int32).toInt = 1 := by decide
                have := i_sub (x := x1_10) (y := 1) (by omega) (by omega)
                exact ih_10 (x1_10 - 1) (vp_updL fn2_10 (Int32.toNatClampNeg x1_10) x3_47) ⟨by omega, i_10.2.put hup (by omega) (by omega) (by omega) (by rw [i_47.2, show x5_47.toInt.toNat = 4 by omega])⟩ (by omega)
              · skip
                have e_50 : ¬ ((4 : Int32).toInt ≤ (x5_47 : Int32).toInt) := fun h => c_50 (i_le.mpr h)
                have : (4 : Int32).toInt = 4 := by decide
                refine x_aload_n C 4 dX8_evenings_53 rfl rfl ?_
                refine x_iload_n C 3 dX8_evenings_54 rfl rfl ?_
                refine x_iload C 0 dX8_evenings_55 rfl ?_
                refine x_iload_n C 2 dX8_evenings_57 rfl rfl ?_
                refine x_callV C [.int x1_10, .int x5_47, .int (ptI (na (Int32.toNatClampNeg x1_10)) 0 + ptI (na (Int32.toNatClampNeg x1_10)) 1 + ptI (na (Int32.toNatClampNeg x1_10)) 2 + ptI (na (Int32.toNatClampNeg x1_10)) 3)] [] [0, 1, 2, 3, 4, 5, 6, 7, 8, 9, 10, 11, 12, 13, 14, 15, 16, 17] [] (q0 := 0) (c_X8_soundsAfter (xl X) (xD X) (xt X) hT hl w0 wr hn n0 n1 n2 n3 na nx ns fn2_10 nr nz nt nd hm mn mo mu mg mt mb hb b0 b1 b2 b3 b4 b5 b6 pa mi ga te kn wa ne wc la br hp hs f z x1_10 x5_47 (ptI (na (Int32.toNatClampNeg x1_10)) 0 + ptI (na (Int32.toNatClampNeg x1_10)) 1 + ptI (na (Int32.toNatClampNeg x1_10)) 2 + ptI (na (Int32.toNatClampNeg x1_10)) 3) (by omega) (by omega) (by omega) (by omega) (by omega)) dX8_evenings_58 wd_778 wd_779 wd_780 wd_40 wd_781 (np := 3) ⟨by decide, by decide, by decide +kernel⟩ rfl rfl (Nat.le_of_ble_eq_true rfl) (by decide) rfl rfl rfl rfl (by decide) rfl (by decide) (by decide) (fun v W1 h => ?_)
                obtain ⟨r_58, rfl, rfl, h_58⟩ := h
                show V X 7 [(hl, .inr (8, [.ref hb, .ref hn, .ref hp, .ref w0])), (w0, .inl (cZ, 3784, .inl wr)), (hn, .inr (4, [.ref hb, .ref hm, .ref n0, .ref n1, .ref n2, .ref n3, .int nr, .int nz, .int nt, .int nd])), (n0, .inl (cI, 3784, .inl na)), (n1, .inl (cI, 15136, .inl nx)), (n2, .inl (cJ, 3784, .inr (.inl fn2_10))), (n3, .inl (cI, 8192, .inl ns)), (hm, .inr (3, [.ref hb, .int mn, .int mo, .int mu, .int mg, .int mt, .int mb])), (hb, .inr (0, [.ref b0, .ref b1, .ref b2, .ref b3, .ref b4, .ref b5, .ref b6, .int wc, .int la, .int br])), (b0, .inl (cI, 4, .inl pa)), (b1, .inl (cI, 16, .inl mi)), (b2, .inl (cI, 4, .inl ga)), (b3, .inl (cI, 4, .inl te)), (b4, .inl (cI, 4, .inl kn)), (b5, .inl (cI, 6, .inl wa)), (b6, .inl (cI, 16, .inl ne)), (hp, .inr (6, [.ref hs, .int z])), (hs, .inl (cI, 30, .inl f))] [(5, .int x5_47), (3, .long x3_47), (2, .int (ptI (na (Int32.toNatClampNeg x1_10)) 0 + ptI (na (Int32.toNatClampNeg x1_10)) 1 + ptI (na (Int32.toNatClampNeg x1_10)) 2 + ptI (na (Int32.toNatClampNeg x1_10)) 3)), (1, .int x1_10), (0, .ref hl)] [.int r_58] 61 0 0
                refine x_istore C [(6, .int r_58), (5, .int x5_47), (3, .long x3_47), (2, .int (ptI (na (Int32.toNatClampNeg x1_10)) 0 + ptI (na (Int32.toNatClampNeg x1_10)) 1 + ptI (na (Int32.toNatClampNeg x1_10)) 2 + ptI (na (Int32.toNatClampNeg x1_10)) 3)), (1, .int x1_10), (0, .ref hl)] dX8_evenings_61 (by decide) rfl ?_
                refine x_lload_n C 2 dX8_evenings_63 rfl rfl ?_
                refine x_iload C 0 dX8_evenings_64 rfl ?_
                refine x_bipush C (-6) dX8_evenings_66 (by decide) ?_
                refine x_icmp_ne C 75 dX8_evenings_68 (by decide) (fun c_68 => ?_) (fun c_68 => ?_)
                · skip
                  have e_68 : ¬ ((r_58 : Int32).toInt = ((-6) : Int32).toInt) := fun h => c_68 (i_eq.mpr h)
                  have : ((-6) : Int32).toInt = -6 := by decide
                  refine x_aload_n C 5 dX8_evenings_75 rfl rfl ?_
                  refine x_get C 0 1 dX8_evenings_76 inlX8 rfl (by decide) wd_111 rfl rfl rfl ?_
                  refine x_getN C 2 4 dX8_evenings_79 inlX4 rfl (by decide) nt_35 rfl rfl rfl ?_
                  refine x_iload C 0 dX8_evenings_82 rfl ?_
                  have v_84 : vp_in r_58 3784 := (vp_in_iff.mpr (by omega))
                  refine x_lald C 5 1 dX8_evenings_84 hT.2.1 rfl v_84 ?_
                  refine x_ladd C dX8_evenings_85 ?_
                  refine x_lstore_n C [(3, .long (x3_47 + (fn2_10 (Int32.toNatClampNeg r_58)))), (6, .int r_58), (5, .int x5_47), (2, .int (ptI (na (Int32.toNatClampNeg x1_10)) 0 + ptI (na (Int32.toNatClampNeg x1_10)) 1 + ptI (na (Int32.toNatClampNeg x1_10)) 2 + ptI (na (Int32.toNatClampNeg x1_10)) 3)), (1, .int x1_10), (0, .ref hl)] dX8_evenings_86 rfl (by decide) rfl ?_
                  refine x_iinc C 2 (x5_47 + 1) [(5, .int (x5_47 + 1)), (3, .long (x3_47 + (fn2_10 (Int32.toNatClampNeg r_58)))), (6, .int r_58), (2, .int (ptI (na (Int32.toNatClampNeg x1_10)) 0 + ptI (na (Int32.toNatClampNeg x1_10)) 1 + ptI (na (Int32.toNatClampNeg x1_10)) 2 + ptI (na (Int32.toNatClampNeg x1_10)) 3)), (1, .int x1_10), (0, .ref hl)] dX8_evenings_87 rfl rfl (by decide) rfl ?_
                  refine x_goto C 47 dX8_evenings_90 (by decide) ?_
                  refine x_lv [(5, .int (x5_47 + 1)), (3, .long (x3_47 + (fn2_10 (Int32.toNatClampNeg r_58)))), (2, .int (ptI (na (Int32.toNatClampNeg x1_10)) 0 + ptI (na (Int32.toNatClampNeg x1_10)) 1 + ptI (na (Int32.toNatClampNeg x1_10)) 2 + ptI (na (Int32.toNatClampNeg x1_10)) 3)), (1, .int x1_10), (0, .ref hl)] [0, 1, 3, 4, 5] rfl ?_
                  have : (1 : Int32).toInt = 1 := by decide
                  have := i_add (x := x5_47) (y := 1) (by omega) (by omega)
                  exact ih_47 (x5_47 + 1) (x3_47 + (fn2_10 (Int32.toNatClampNeg r_58))) ⟨by omega, by rw [shC_p (mi := mi) (na := na) (nx := nx) (f := f) (z := z) (nz := nz) (a := x1_10) (s := x5_47) (t := ptA (na (Int32.toNatClampNeg x1_10))) (nw := fn2_10) (w0 := hgW na z (Int32.toNatClampNeg x1_10)) (by omega) (by omega) (fun h => c_68 (h_58.2.trans h)), ← i_47.2]; exact congrArg (fun z => x3_47 + fn2_10 (Int32.toNatClampNeg z)) h_58.2⟩ (by omega)
                · skip
                  have e_68 : (r_58 : Int32).toInt = ((-6) : Int32).toInt := i_eq.mp c_68
                  have : ((-6) : Int32).toInt = -6 := by decide
                  refine x_lconst C 0 dX8_evenings_71 (by decide) ?_
                  refine x_goto C 85 dX8_evenings_72 (by decide) ?_
                  refine x_ladd C dX8_evenings_85 ?_
                  refine x_lstore_n C [(3, .long (x3_47 + 0)), (6, .int r_58), (5, .int x5_47), (2, .int (ptI (na (Int32.toNatClampNeg x1_10)) 0 + ptI (na (Int32.toNatClampNeg x1_10)) 1 + ptI (na (Int32.toNatClampNeg x1_10)) 2 + ptI (na (Int32.toNatClampNeg x1_10)) 3)), (1, .int x1_10), (0, .ref hl)] dX8_evenings_86 rfl (by decide) rfl ?_
                  refine x_iinc C 2 (x5_47 + 1) [(5, .int (x5_47 + 1)), (3, .long (x3_47 + 0)), (6, .int r_58), (2, .int (ptI (na (Int32.toNatClampNeg x1_10)) 0 + ptI (na (Int32.toNatClampNeg x1_10)) 1 + ptI (na (Int32.toNatClampNeg x1_10)) 2 + ptI (na (Int32.toNatClampNeg x1_10)) 3)), (1, .int x1_10), (0, .ref hl)] dX8_evenings_87 rfl rfl (by decide) rfl ?_
                  refine x_goto C 47 dX8_evenings_90 (by decide) ?_
                  refine x_lv [(5, .int (x5_47 + 1)), (3, .long (x3_47 + 0)), (2, .int (ptI (na (Int32.toNatClampNeg x1_10)) 0 + ptI (na (Int32.toNatClampNeg x1_10)) 1 + ptI (na (Int32.toNatClampNeg x1_10)) 2 + ptI (na (Int32.toNatClampNeg x1_10)) 3)), (1, .int x1_10), (0, .ref hl)] [0, 1, 3, 4, 5] rfl ?_
                  have : (1 : Int32).toInt = 1 := by decide
                  have := i_add (x := x5_47) (y := 1) (by omega) (by omega)
                  exact ih_47 (x5_47 + 1) (x3_47 + 0) ⟨by omega, by rw [shC_n (mi := mi) (na := na) (nx := nx) (f := f) (z := z) (nz := nz) (a := x1_10) (s := x5_47) (t := ptA (na (Int32.toNatClampNeg x1_10))) (nw := fn2_10) (w0 := hgW na z (Int32.toNatClampNeg x1_10)) (by omega) (by omega) (h_58.2.symm.trans c_68), ← i_47.2]⟩ (by omega)
          have : (0 : Int32).toInt = 0 := by decide
          exact L_47 _ 0 0 ⟨by omega, by rw [t0_]; exact (if_neg c_35).symm⟩ (Nat.lt_succ_self _)
        · skip
          have e_35 : (ptI (na (Int32.toNatClampNeg x1_10)) 0 + ptI (na (Int32.toNatClampNeg x1_10)) 1 + ptI (na (Int32.toNatClampNeg x1_10)) 2 + ptI (na (Int32.toNatClampNeg x1_10)) 3 : Int32).toInt = (z : Int32).toInt := i_eq.mp c_35
          refine x_lconst C 1 dX8_evenings_38 (by decide) ?_
          refine x_goto C 43 dX8_evenings_39 (by decide) ?_
          refine x_lstore_n C [(3, .long 1), (2, .int (ptI (na (Int32.toNatClampNeg x1_10)) 0 + ptI (na (Int32.toNatClampNeg x1_10)) 1 + ptI (na (Int32.toNatClampNeg x1_10)) 2 + ptI (na (Int32.toNatClampNeg x1_10)) 3)), (1, .int x1_10), (0, .ref hl)] dX8_evenings_43 rfl (by decide) rfl ?_
          refine x_iconst C 0 dX8_evenings_44 (by decide) ?_
          refine x_istore C [(5, .int 0), (3, .long 1), (2, .int (ptI (na (Int32.toNatClampNeg x1_10)) 0 + ptI (na (Int32.toNatClampNeg x1_10)) 1 + ptI (na (Int32.toNatClampNeg x1_10)) 2 + ptI (na (Int32.toNatClampNeg x1_10)) 3)), (1, .int x1_10), (0, .ref hl)] dX8_evenings_45 (by decide) rfl ?_
          have L_47 : ∀ (n_47 : Nat) (x5_47 : Int32) (x3_47 : Int64), ((0 ≤ x5_47.toInt ∧ x5_47.toInt ≤ 4) ∧ x3_47 = shC mi na nx f z nz x1_10 (ptA (na (Int32.toNatClampNeg x1_10))) fn2_10 (hgW na z (Int32.toNatClampNeg x1_10)) x5_47.toInt.toNat) → ((4 - x5_47.toInt).toNat < n_47) → V X 7 [(hl, .inr (8, [.ref hb, .ref hn, .ref hp, .ref w0])), (w0, .inl (cZ, 3784, .inl wr)), (hn, .inr (4, [.ref hb, .ref hm, .ref n0, .ref n1, .ref n2, .ref n3, .int nr, .int nz, .int nt, .int nd])), (n0, .inl (cI, 3784, .inl na)), (n1, .inl (cI, 15136, .inl nx)), (n2, .inl (cJ, 3784, .inr (.inl fn2_10))), (n3, .inl (cI, 8192, .inl ns)), (hm, .inr (3, [.ref hb, .int mn, .int mo, .int mu, .int mg, .int mt, .int mb])), (hb, .inr (0, [.ref b0, .ref b1, .ref b2, .ref b3, .ref b4, .ref b5, .ref b6, .int wc, .int la, .int br])), (b0, .inl (cI, 4, .inl pa)), (b1, .inl (cI, 16, .inl mi)), (b2, .inl (cI, 4, .inl ga)), (b3, .inl (cI, 4, .inl te)), (b4, .inl (cI, 4, .inl kn)), (b5, .inl (cI, 6, .inl wa)), (b6, .inl (cI, 16, .inl ne)), (hp, .inr (6, [.ref hs, .int z])), (hs, .inl (cI, 30, .inl f))] [(5, .int x5_47), (3, .long x3_47), (2, .int (ptI (na (Int32.toNatClampNeg x1_10)) 0 + ptI (na (Int32.toNatClampNeg x1_10)) 1 + ptI (na (Int32.toNatClampNeg x1_10)) 2 + ptI (na (Int32.toNatClampNeg x1_10)) 3)), (1, .int x1_10), (0, .ref hl)] [] 47 0 0 := by
            intro n_47
            induction n_47 with
            | zero =>
              intro x5_47 x3_47 i_47 m_47
              exact absurd m_47 (Nat.not_lt_zero _)
            | succ n_47 ih_47 =>
              intro x5_47 x3_47 i_47 m_47
              refine x_iload C 0 dX8_evenings_47 rfl ?_
              refine x_iconst C 4 dX8_evenings_49 (by decide) ?_
              refine x_icmp_ge C 93 dX8_evenings_50 (by decide) (fun c_50 => ?_) (fun c_50 => ?_)
              · skip
                have e_50 : (4 : Int32).toInt ≤ (x5_47 : Int32).toInt := i_le.mp c_50
                have : (4 : Int32).toInt = 4 := by decide
                refine x_aload_n C 4 dX8_evenings_93 rfl rfl ?_
                refine x_get C 0 1 dX8_evenings_94 inlX8 rfl (by decide) wd_111 rfl rfl rfl ?_
                refine x_getN C 2 4 dX8_evenings_97 inlX4 rfl (by decide) nt_35 rfl rfl rfl ?_
                refine x_iload_n C 3 dX8_evenings_100 rfl rfl ?_
                refine x_lload_n C 1 dX8_evenings_101 rfl rfl ?_
                have v_102 : vp_in x1_10 3784 := (vp_in_iff.mpr (by omega))
                refine x_last C 5 1 [(hl, .inr (8, [.ref hb, .ref hn, .ref hp, .ref w0])), (w0, .inl (cZ, 3784, .inl wr)), (hn, .inr (4, [.ref hb, .ref hm, .ref n0, .ref n1, .ref n2, .ref n3, .int nr, .int nz, .int nt, .int nd])), (n0, .inl (cI, 3784, .inl na)), (n1, .inl (cI, 15136, .inl nx)), (n2, .inl (cJ, 3784, .inr (.inl (vp_updL fn2_10 (Int32.toNatClampNeg x1_10) x3_47)))), (n3, .inl (cI, 8192, .inl ns)), (hm, .inr (3, [.ref hb, .int mn, .int mo, .int mu, .int mg, .int mt, .int mb])), (hb, .inr (0, [.ref b0, .ref b1, .ref b2, .ref b3, .ref b4, .ref b5, .ref b6, .int wc, .int la, .int br])), (b0, .inl (cI, 4, .inl pa)), (b1, .inl (cI, 16, .inl mi)), (b2, .inl (cI, 4, .inl ga)), (b3, .inl (cI, 4, .inl te)), (b4, .inl (cI, 4, .inl kn)), (b5, .inl (cI, 6, .inl wa)), (b6, .inl (cI, 16, .inl ne)), (hp, .inr (6, [.ref hs, .int z])), (hs, .inl (cI, 30, .inl f))] dX8_evenings_102 hT.2.1 rfl v_102 rfl ?_
                refine x_iinc C 3 (x1_10 - 1) [(1, .int (x1_10 - 1)), (5, .int x5_47), (3, .long x3_47), (2, .int (ptI (na (Int32.toNatClampNeg x1_10)) 0 + ptI (na (Int32.toNatClampNeg x1_10)) 1 + ptI (na (Int32.toNatClampNeg x1_10)) 2 + ptI (na (Int32.toNatClampNeg x1_10)) 3)), (0, .ref hl)] dX8_evenings_103 rfl (i_m1 _) (by decide) rfl ?_
                refine x_goto C 10 dX8_evenings_106 (by decide) ?_
                refine x_lv [(1, .int (x1_10 - 1)), (0, .ref hl)] [0, 4] rfl ?_
                have : (1 : Int32).toInt = 1 := by decide
                have := i_sub (x := x1_10) (y := 1) (by omega) (by omega)
                exact ih_10 (x1_10 - 1) (vp_updL fn2_10 (Int32.toNatClampNeg x1_10) x3_47) ⟨by omega, i_10.2.put hup (by omega) (by omega) (by omega) (by rw [i_47.2, show x5_47.toInt.toNat = 4 by omega])⟩ (by omega)
              · skip
                have e_50 : ¬ ((4 : Int32).toInt ≤ (x5_47 : Int32).toInt) := fun h => c_50 (i_le.mpr h)
                have : (4 : Int32).toInt = 4 := by decide
                refine x_aload_n C 4 dX8_evenings_53 rfl rfl ?_
                refine x_iload_n C 3 dX8_evenings_54 rfl rfl ?_
                refine x_iload C 0 dX8_evenings_55 rfl ?_
                refine x_iload_n C 2 dX8_evenings_57 rfl rfl ?_
                refine x_callV C [.int x1_10, .int x5_47, .int (ptI (na (Int32.toNatClampNeg x1_10)) 0 + ptI (na (Int32.toNatClampNeg x1_10)) 1 + ptI (na (Int32.toNatClampNeg x1_10)) 2 + ptI (na (Int32.toNatClampNeg x1_10)) 3)] [] [0, 1, 2, 3, 4, 5, 6, 7, 8, 9, 10, 11, 12, 13, 14, 15, 16, 17] [] (q0 := 0) (c_X8_soundsAfter (xl X) (xD X) (xt X) hT hl w0 wr hn n0 n1 n2 n3 na nx ns fn2_10 nr nz nt nd hm mn mo mu mg mt mb hb b0 b1 b2 b3 b4 b5 b6 pa mi ga te kn wa ne wc la br hp hs f z x1_10 x5_47 (ptI (na (Int32.toNatClampNeg x1_10)) 0 + ptI (na (Int32.toNatClampNeg x1_10)) 1 + ptI (na (Int32.toNatClampNeg x1_10)) 2 + ptI (na (Int32.toNatClampNeg x1_10)) 3) (by omega) (by omega) (by omega) (by omega) (by omega)) dX8_evenings_58 wd_778 wd_779 wd_780 wd_40 wd_781 (np := 3) ⟨by decide, by decide, by decide +kernel⟩ rfl rfl (Nat.le_of_ble_eq_true rfl) (by decide) rfl rfl rfl rfl (by decide) rfl (by decide) (by decide) (fun v W1 h => ?_)
                obtain ⟨r_58, rfl, rfl, h_58⟩ := h
                show V X 7 [(hl, .inr (8, [.ref hb, .ref hn, .ref hp, .ref w0])), (w0, .inl (cZ, 3784, .inl wr)), (hn, .inr (4, [.ref hb, .ref hm, .ref n0, .ref n1, .ref n2, .ref n3, .int nr, .int nz, .int nt, .int nd])), (n0, .inl (cI, 3784, .inl na)), (n1, .inl (cI, 15136, .inl nx)), (n2, .inl (cJ, 3784, .inr (.inl fn2_10))), (n3, .inl (cI, 8192, .inl ns)), (hm, .inr (3, [.ref hb, .int mn, .int mo, .int mu, .int mg, .int mt, .int mb])), (hb, .inr (0, [.ref b0, .ref b1, .ref b2, .ref b3, .ref b4, .ref b5, .ref b6, .int wc, .int la, .int br])), (b0, .inl (cI, 4, .inl pa)), (b1, .inl (cI, 16, .inl mi)), (b2, .inl (cI, 4, .inl ga)), (b3, .inl (cI, 4, .inl te)), (b4, .inl (cI, 4, .inl kn)), (b5, .inl (cI, 6, .inl wa)), (b6, .inl (cI, 16, .inl ne)), (hp, .inr (6, [.ref hs, .int z])), (hs, .inl (cI, 30, .inl f))] [(5, .int x5_47), (3, .long x3_47), (2, .int (ptI (na (Int32.toNatClampNeg x1_10)) 0 + ptI (na (Int32.toNatClampNeg x1_10)) 1 + ptI (na (Int32.toNatClampNeg x1_10)) 2 + ptI (na (Int32.toNatClampNeg x1_10)) 3)), (1, .int x1_10), (0, .ref hl)] [.int r_58] 61 0 0
                refine x_istore C [(6, .int r_58), (5, .int x5_47), (3, .long x3_47), (2, .int (ptI (na (Int32.toNatClampNeg x1_10)) 0 + ptI (na (Int32.toNatClampNeg x1_10)) 1 + ptI (na (Int32.toNatClampNeg x1_10)) 2 + ptI (na (Int32.toNatClampNeg x1_10)) 3)), (1, .int x1_10), (0, .ref hl)] dX8_evenings_61 (by decide) rfl ?_
                refine x_lload_n C 2 dX8_evenings_63 rfl rfl ?_
                refine x_iload C 0 dX8_evenings_64 rfl ?_
                refine x_bipush C (-6) dX8_evenings_66 (by decide) ?_
                refine x_icmp_ne C 75 dX8_evenings_68 (by decide) (fun c_68 => ?_) (fun c_68 => ?_)
                · skip
                  have e_68 : ¬ ((r_58 : Int32).toInt = ((-6) : Int32).toInt) := fun h => c_68 (i_eq.mpr h)
                  have : ((-6) : Int32).toInt = -6 := by decide
                  refine x_aload_n C 5 dX8_evenings_75 rfl rfl ?_
                  refine x_get C 0 1 dX8_evenings_76 inlX8 rfl (by decide) wd_111 rfl rfl rfl ?_
                  refine x_getN C 2 4 dX8_evenings_79 inlX4 rfl (by decide) nt_35 rfl rfl rfl ?_
                  refine x_iload C 0 dX8_evenings_82 rfl ?_
                  have v_84 : vp_in r_58 3784 := (vp_in_iff.mpr (by omega))
                  refine x_lald C 5 1 dX8_evenings_84 hT.2.1 rfl v_84 ?_
                  refine x_ladd C dX8_evenings_85 ?_
                  refine x_lstore_n C [(3, .long (x3_47 + (fn2_10 (Int32.toNatClampNeg r_58)))), (6, .int r_58), (5, .int x5_47), (2, .int (ptI (na (Int32.toNatClampNeg x1_10)) 0 + ptI (na (Int32.toNatClampNeg x1_10)) 1 + ptI (na (Int32.toNatClampNeg x1_10)) 2 + ptI (na (Int32.toNatClampNeg x1_10)) 3)), (1, .int x1_10), (0, .ref hl)] dX8_evenings_86 rfl (by decide) rfl ?_
                  refine x_iinc C 2 (x5_47 + 1) [(5, .int (x5_47 + 1)), (3, .long (x3_47 + (fn2_10 (Int32.toNatClampNeg r_58)))), (6, .int r_58), (2, .int (ptI (na (Int32.toNatClampNeg x1_10)) 0 + ptI (na (Int32.toNatClampNeg x1_10)) 1 + ptI (na (Int32.toNatClampNeg x1_10)) 2 + ptI (na (Int32.toNatClampNeg x1_10)) 3)), (1, .int x1_10), (0, .ref hl)] dX8_evenings_87 rfl rfl (by decide) rfl ?_
                  refine x_goto C 47 dX8_evenings_90 (by decide) ?_
                  refine x_lv [(5, .int (x5_47 + 1)), (3, .long (x3_47 + (fn2_10 (Int32.toNatClampNeg r_58)))), (2, .int (ptI (na (Int32.toNatClampNeg x1_10)) 0 + ptI (na (Int32.toNatClampNeg x1_10)) 1 + ptI (na (Int32.toNatClampNeg x1_10)) 2 + ptI (na (Int32.toNatClampNeg x1_10)) 3)), (1, .int x1_10), (0, .ref hl)] [0, 1, 3, 4, 5] rfl ?_
                  have : (1 : Int32).toInt = 1 := by decide
                  have := i_add (x := x5_47) (y := 1) (by omega) (by omega)
                  exact ih_47 (x5_47 + 1) (x3_47 + (fn2_10 (Int32.toNatClampNeg r_58))) ⟨by omega, by rw [shC_p (mi := mi) (na := na) (nx := nx) (f := f) (z := z) (nz := nz) (a := x1_10) (s := x5_47) (t := ptA (na (Int32.toNatClampNeg x1_10))) (nw := fn2_10) (w0 := hgW na z (Int32.toNatClampNeg x1_10)) (by omega) (by omega) (fun h => c_68 (h_58.2.trans h)), ← i_47.2]; exact congrArg (fun z => x3_47 + fn2_10 (Int32.toNatClampNeg z)) h_58.2⟩ (by omega)
                · skip
                  have e_68 : (r_58 : Int32).toInt = ((-6) : Int32).toInt := i_eq.mp c_68
                  have : ((-6) : Int32).toInt = -6 := by decide
                  refine x_lconst C 0 dX8_evenings_71 (by decide) ?_
                  refine x_goto C 85 dX8_evenings_72 (by decide) ?_
                  refine x_ladd C dX8_evenings_85 ?_
                  refine x_lstore_n C [(3, .long (x3_47 + 0)), (6, .int r_58), (5, .int x5_47), (2, .int (ptI (na (Int32.toNatClampNeg x1_10)) 0 + ptI (na (Int32.toNatClampNeg x1_10)) 1 + ptI (na (Int32.toNatClampNeg x1_10)) 2 + ptI (na (Int32.toNatClampNeg x1_10)) 3)), (1, .int x1_10), (0, .ref hl)] dX8_evenings_86 rfl (by decide) rfl ?_
                  refine x_iinc C 2 (x5_47 + 1) [(5, .int (x5_47 + 1)), (3, .long (x3_47 + 0)), (6, .int r_58), (2, .int (ptI (na (Int32.toNatClampNeg x1_10)) 0 + ptI (na (Int32.toNatClampNeg x1_10)) 1 + ptI (na (Int32.toNatClampNeg x1_10)) 2 + ptI (na (Int32.toNatClampNeg x1_10)) 3)), (1, .int x1_10), (0, .ref hl)] dX8_evenings_87 rfl rfl (by decide) rfl ?_
                  refine x_goto C 47 dX8_evenings_90 (by decide) ?_
                  refine x_lv [(5, .int (x5_47 + 1)), (3, .long (x3_47 + 0)), (2, .int (ptI (na (Int32.toNatClampNeg x1_10)) 0 + ptI (na (Int32.toNatClampNeg x1_10)) 1 + ptI (na (Int32.toNatClampNeg x1_10)) 2 + ptI (na (Int32.toNatClampNeg x1_10)) 3)), (1, .int x1_10), (0, .ref hl)] [0, 1, 3, 4, 5] rfl ?_
                  have : (1 : Int32).toInt = 1 := by decide
                  have := i_add (x := x5_47) (y := 1) (by omega) (by omega)
                  exact ih_47 (x5_47 + 1) (x3_47 + 0) ⟨by omega, by rw [shC_n (mi := mi) (na := na) (nx := nx) (f := f) (z := z) (nz := nz) (a := x1_10) (s := x5_47) (t := ptA (na (Int32.toNatClampNeg x1_10))) (nw := fn2_10) (w0 := hgW na z (Int32.toNatClampNeg x1_10)) (by omega) (by omega) (h_58.2.symm.trans c_68), ← i_47.2]⟩ (by omega)
          have : (0 : Int32).toInt = 0 := by decide
          exact L_47 _ 0 1 ⟨by omega, by rw [t0_]; exact (if_pos c_35).symm⟩ (Nat.lt_succ_self _)
  have : (1 : Int32).toInt = 1 := by decide
  have := i_sub (x := nz) (y := 1) (by omega) (by omega)
  exact L_10 _ (nz - 1) nw ⟨by omega, fun i h1 h2 => by exfalso; omega⟩ (Nat.lt_succ_self _)
abbrev rm_X8_firstStory : Room := { frames := 3, cells := 0, slots := 0, locals := 70 }
set_option maxHeartbeats 4000000 in
set_option maxRecDepth 100000 in
theorem c_X8_firstStory (l : Launch) (D : va_G) (tys : List (ClassId × FieldType)) {cI cJ cZ cB : ClassId} (hT : Ty tys cI cJ cZ cB) (hl w0 : Nat) (wr : Nat → Int32) (hn n0 n1 n2 n3 : Nat) (na nx ns : Nat → Int32) (nw : Nat → Int64) (nr nz nt nd : Int32) (hm : Nat) (mn mo mu mg mt mb : Int32) (hb b0 b1 b2 b3 b4 b5 b6 : Nat) (pa mi ga te kn wa ne : Nat → Int32) (wc la br : Int32) (hp hs : Nat) (f : Nat → Int32) (z : Int32) (a t : Int32) (hz : 0 ≤ nz.toInt ∧ nz.toInt ≤ 3784) (hnode : 0 ≤ a.toInt ∧ a.toInt < 3784) (hpz : 0 ≤ z.toInt ∧ z.toInt ≤ 30) (ht0 : 0 ≤ t.toInt) : Cn l D tys yX8_firstStory cX8_firstStory 5 (some .int) rm_X8_firstStory [(hl, .inr (8, [.ref hb, .ref hn, .ref hp, .ref w0])), (w0, .inl (cZ, 3784, .inl wr)), (hn, .inr (4, [.ref hb, .ref hm, .ref n0, .ref n1, .ref n2, .ref n3, .int nr, .int nz, .int nt, .int nd])), (n0, .inl (cI, 3784, .inl na)), (n1, .inl (cI, 15136, .inl nx)), (n2, .inl (cJ, 3784, .inr (.inl nw))), (n3, .inl (cI, 8192, .inl ns)), (hm, .inr (3, [.ref hb, .int mn, .int mo, .int mu, .int mg, .int mt, .int mb])), (hb, .inr (0, [.ref b0, .ref b1, .ref b2, .ref b3, .ref b4, .ref b5, .ref b6, .int wc, .int la, .int br])), (b0, .inl (cI, 4, .inl pa)), (b1, .inl (cI, 16, .inl mi)), (b2, .inl (cI, 4, .inl ga)), (b3, .inl (cI, 4, .inl te)), (b4, .inl (cI, 4, .inl kn)), (b5, .inl (cI, 6, .inl wa)), (b6, .inl (cI, 16, .inl ne)), (hp, .inr (6, [.ref hs, .int z])), (hs, .inl (cI, 30, .inl f))] [.ref hl, .int a, .int t] (fun v W1 => ∃ (r : Int32), v = some (.int r) ∧ W1 = [(hl, .inr (8, [.ref hb, .ref hn, .ref hp, .ref w0])), (w0, .inl (cZ, 3784, .inl wr)), (hn, .inr (4, [.ref hb, .ref hm, .ref n0, .ref n1, .ref n2, .ref n3, .int nr, .int nz, .int nt, .int nd])), (n0, .inl (cI, 3784, .inl na)), (n1, .inl (cI, 15136, .inl nx)), (n2, .inl (cJ, 3784, .inr (.inl nw))), (n3, .inl (cI, 8192, .inl ns)), (hm, .inr (3, [.ref hb, .int mn, .int mo, .int mu, .int mg, .int mt, .int mb])), (hb, .inr (0, [.ref b0, .ref b1, .ref b2, .ref b3, .ref b4, .ref b5, .ref b6, .int wc, .int la, .int br])), (b0, .inl (cI, 4, .inl pa)), (b1, .inl (cI, 16, .inl mi)), (b2, .inl (cI, 4, .inl ga)), (b3, .inl (cI, 4, .inl te)), (b4, .inl (cI, 4, .inl kn)), (b5, .inl (cI, 6, .inl wa)), (b6, .inl (cI, 16, .inl ne)), (hp, .inr (6, [.ref hs, .int z])), (hs, .inl (cI, 30, .inl f))] ∧ ((r.toInt = -6 ∨ (0 ≤ r.toInt ∧ r.toInt ≤ 3)) ∧ r = fs4 (okV mi na nx f z nz nw a t))) := by
  refine Cn.of (by decide) (Nat.le_of_ble_eq_true rfl) ?_ ?_ (fun X eL eD eT eO eK eN eM C => ?_)
  · intro h; cases h
  · intro v ws h; obtain ⟨_, rfl, rfl, _⟩ := h; exact Or.inl rfl
  subst eL eD eT
  show V X 5 [(hl, .inr (8, [.ref hb, .ref hn, .ref hp, .ref w0])), (w0, .inl (cZ, 3784, .inl wr)), (hn, .inr (4, [.ref hb, .ref hm, .ref n0, .ref n1, .ref n2, .ref n3, .int nr, .int nz, .int nt, .int nd])), (n0, .inl (cI, 3784, .inl na)), (n1, .inl (cI, 15136, .inl nx)), (n2, .inl (cJ, 3784, .inr (.inl nw))), (n3, .inl (cI, 8192, .inl ns)), (hm, .inr (3, [.ref hb, .int mn, .int mo, .int mu, .int mg, .int mt, .int mb])), (hb, .inr (0, [.ref b0, .ref b1, .ref b2, .ref b3, .ref b4, .ref b5, .ref b6, .int wc, .int la, .int br])), (b0, .inl (cI, 4, .inl pa)), (b1, .inl (cI, 16, .inl mi)), (b2, .inl (cI, 4, .inl ga)), (b3, .inl (cI, 4, .inl te)), (b4, .inl (cI, 4, .inl kn)), (b5, .inl (cI, 6, .inl wa)), (b6, .inl (cI, 16, .inl ne)), (hp, .inr (6, [.ref hs, .int z])), (hs, .inl (cI, 30, .inl f))] [(0, .ref hl), (1, .int a), (2, .int t)] [] 0 0 0
  refine x_iconst C 0 dX8_firstStory_0 (by decide) ?_
  refine x_istore_n C [(3, .int 0), (0, .ref hl), (1, .int a), (2, .int t)] dX8_firstStory_1 rfl (by decide) rfl ?_
  have L_2 : ∀ (n_2 : Nat) (x3_2 : Int32), ((0 ≤ x3_2.toInt ∧ x3_2.toInt ≤ 4) ∧ ∀ k : Nat, (k : Int) < x3_2.toInt → okV mi na nx f z nz nw a t k = false) → ((4 - x3_2.toInt).toNat < n_2) → V X 5 [(hl, .inr (8, [.ref hb, .ref hn, .ref hp, .ref w0])), (w0, .inl (cZ, 3784, .inl wr)), (hn, .inr (4, [.ref hb, .ref hm, .ref n0, .ref n1, .ref n2, .ref n3, .int nr, .int nz, .int nt, .int nd])), (n0, .inl (cI, 3784, .inl na)), (n1, .inl (cI, 15136, .inl nx)), (n2, .inl (cJ, 3784, .inr (.inl nw))), (n3, .inl (cI, 8192, .inl ns)), (hm, .inr (3, [.ref hb, .int mn, .int mo, .int mu, .int mg, .int mt, .int mb])), (hb, .inr (0, [.ref b0, .ref b1, .ref b2, .ref b3, .ref b4, .ref b5, .ref b6, .int wc, .int la, .int br])), (b0, .inl (cI, 4, .inl pa)), (b1, .inl (cI, 16, .inl mi)), (b2, .inl (cI, 4, .inl ga)), (b3, .inl (cI, 4, .inl te)), (b4, .inl (cI, 4, .inl kn)), (b5, .inl (cI, 6, .inl wa)), (b6, .inl (cI, 16, .inl ne)), (hp, .inr (6, [.ref hs, .int z])), (hs, .inl (cI, 30, .inl f))] [(3, .int x3_2), (0, .ref hl), (1, .int a), (2, .int t)] [] 2 0 0 := by
    intro n_2
    induction n_2 with
    | zero =>
      intro x3_2 i_2 m_2
      exact absurd m_2 (Nat.not_lt_zero _)
    | succ n_2 ih_2 =>
      intro x3_2 i_2 m_2
      refine x_iload_n C 0 dX8_firstStory_2 rfl rfl ?_
      refine x_iconst C 4 dX8_firstStory_3 (by decide) ?_
      refine x_icmp_ge C 46 dX8_firstStory_4 (by decide) (fun c_4 => ?_) (fun c_4 => ?_)
      · skip
        have e_4 : (4 : Int32).toInt ≤ (x3_2 : Int32).toInt := i_le.mp c_4
        have : (4 : Int32).toInt = 4 := by decide
        refine x_bipush C (-6) dX8_firstStory_46 (by decide) ?_
        have : ((-6) : Int32).toInt = -6 := by decide
        exact x_iret C dX8_firstStory_48 (Nat.zero_le _) (Nat.zero_le _) (by rw [eO]; exact ⟨((-6)), rfl, rfl, ⟨by omega, (fs4_no (fun k hk => i_2.2 k (by omega))).symm⟩⟩)
      · skip
        have e_4 : ¬ ((4 : Int32).toInt ≤ (x3_2 : Int32).toInt) := fun h => c_4 (i_le.mpr h)
        have : (4 : Int32).toInt = 4 := by decide
        refine x_aload_n C 1 dX8_firstStory_7 rfl rfl ?_
        refine x_iload_n C 2 dX8_firstStory_8 rfl rfl ?_
        refine x_iload_n C 0 dX8_firstStory_9 rfl rfl ?_
        refine x_iload_n C 3 dX8_firstStory_10 rfl rfl ?_
        refine x_callV C [.int a, .int x3_2, .int t] [] [0, 1, 2, 3, 4, 5, 6, 7, 8, 9, 10, 11, 12, 13, 14, 15, 16, 17] [] (q0 := 0) (c_X8_soundsAfter (xl X) (xD X) (xt X) hT hl w0 wr hn n0 n1 n2 n3 na nx ns nw nr nz nt nd hm mn mo mu mg mt mb hb b0 b1 b2 b3 b4 b5 b6 pa mi ga te kn wa ne wc la br hp hs f z a x3_2 t (by omega) (by omega) (by omega) (by omega) (by omega)) dX8_firstStory_11 wd_778 wd_779 wd_780 wd_40 wd_781 (np := 3) ⟨by decide, by decide, by decide +kernel⟩ rfl rfl (Nat.le_of_ble_eq_true rfl) (by decide) rfl rfl rfl rfl (by decide) rfl (by decide) (by decide) (fun v W1 h => ?_)
        obtain ⟨r_11, rfl, rfl, h_11⟩ := h
        show V X 5 [(hl, .inr (8, [.ref hb, .ref hn, .ref hp, .ref w0])), (w0, .inl (cZ, 3784, .inl wr)), (hn, .inr (4, [.ref hb, .ref hm, .ref n0, .ref n1, .ref n2, .ref n3, .int nr, .int nz, .int nt, .int nd])), (n0, .inl (cI, 3784, .inl na)), (n1, .inl (cI, 15136, .inl nx)), (n2, .inl (cJ, 3784, .inr (.inl nw))), (n3, .inl (cI, 8192, .inl ns)), (hm, .inr (3, [.ref hb, .int mn, .int mo, .int mu, .int mg, .int mt, .int mb])), (hb, .inr (0, [.ref b0, .ref b1, .ref b2, .ref b3, .ref b4, .ref b5, .ref b6, .int wc, .int la, .int br])), (b0, .inl (cI, 4, .inl pa)), (b1, .inl (cI, 16, .inl mi)), (b2, .inl (cI, 4, .inl ga)), (b3, .inl (cI, 4, .inl te)), (b4, .inl (cI, 4, .inl kn)), (b5, .inl (cI, 6, .inl wa)), (b6, .inl (cI, 16, .inl ne)), (hp, .inr (6, [.ref hs, .int z])), (hs, .inl (cI, 30, .inl f))] [(3, .int x3_2), (0, .ref hl), (1, .int a), (2, .int t)] [.int r_11] 14 0 0
        refine x_istore C [(4, .int r_11), (3, .int x3_2), (0, .ref hl), (1, .int a), (2, .int t)] dX8_firstStory_14 (by decide) rfl ?_
        refine x_iload C 0 dX8_firstStory_16 rfl ?_
        refine x_bipush C (-6) dX8_firstStory_18 (by decide) ?_
        refine x_icmp_eq C 40 dX8_firstStory_20 (by decide) (fun c_20 => ?_) (fun c_20 => ?_)
        · skip
          have e_20 : (r_11 : Int32).toInt = ((-6) : Int32).toInt := i_eq.mp c_20
          have : ((-6) : Int32).toInt = -6 := by decide
          refine x_iinc C 1 (x3_2 + 1) [(3, .int (x3_2 + 1)), (4, .int r_11), (0, .ref hl), (1, .int a), (2, .int t)] dX8_firstStory_40 rfl rfl (by decide) rfl ?_
          refine x_goto C 2 dX8_firstStory_43 (by decide) ?_
          refine x_lv [(3, .int (x3_2 + 1)), (0, .ref hl), (1, .int a), (2, .int t)] [0, 2, 3, 4] rfl ?_
          have : (1 : Int32).toInt = 1 := by decide
          have := i_add (x := x3_2) (y := 1) (by omega) (by omega)
          exact ih_2 (x3_2 + 1) ⟨by omega, ok_go i_2.2 (by omega) (by omega) (okV_f (by omega) h_11.2 (Or.inl c_20))⟩ (by omega)
        · skip
          have e_20 : ¬ ((r_11 : Int32).toInt = ((-6) : Int32).toInt) := fun h => c_20 (i_eq.mpr h)
          have : ((-6) : Int32).toInt = -6 := by decide
          refine x_aload_n C 2 dX8_firstStory_23 rfl rfl ?_
          refine x_get C 0 1 dX8_firstStory_24 inlX8 rfl (by decide) wd_111 rfl rfl rfl ?_
          refine x_getN C 2 4 dX8_firstStory_27 inlX4 rfl (by decide) nt_35 rfl rfl rfl ?_
          refine x_iload C 0 dX8_firstStory_30 rfl ?_
          have v_32 : vp_in r_11 3784 := (vp_in_iff.mpr (by omega))
          refine x_lald C 5 1 dX8_firstStory_32 hT.2.1 rfl v_32 ?_
          refine x_lconst C 0 dX8_firstStory_33 (by decide) ?_
          refine x_lcmp C dX8_firstStory_34 ?_
          refine x_if_le C 40 dX8_firstStory_35 (by decide) (fun c_35 => ?_) (fun c_35 => ?_)
          · skip
            have e_35 : ((nw (Int32.toNatClampNeg r_11)) : Int64).toInt ≤ (0 : Int64).toInt := lc_le.mp c_35
            have : (0 : Int64).toInt = 0 := by decide
            refine x_iinc C 1 (x3_2 + 1) [(3, .int (x3_2 + 1)), (4, .int r_11), (0, .ref hl), (1, .int a), (2, .int t)] dX8_firstStory_40 rfl rfl (by decide) rfl ?_
            refine x_goto C 2 dX8_firstStory_43 (by decide) ?_
            refine x_lv [(3, .int (x3_2 + 1)), (0, .ref hl), (1, .int a), (2, .int t)] [0, 2, 3, 4] rfl ?_
            have : (1 : Int32).toInt = 1 := by decide
            have := i_add (x := x3_2) (y := 1) (by omega) (by omega)
            exact ih_2 (x3_2 + 1) ⟨by omega, ok_go i_2.2 (by omega) (by omega) (okV_f (by omega) h_11.2 (Or.inr e_35))⟩ (by omega)
          · skip
            have e_35 : ¬ (((nw (Int32.toNatClampNeg r_11)) : Int64).toInt ≤ (0 : Int64).toInt) := fun h => c_35 (lc_le.mpr h)
            have : (0 : Int64).toInt = 0 := by decide
            refine x_iload_n C 1 dX8_firstStory_38 rfl rfl ?_
            exact x_iret C dX8_firstStory_39 (Nat.zero_le _) (Nat.zero_le _) (by rw [eO]; exact ⟨x3_2, rfl, rfl, ⟨by omega, (fs4_at (by omega) i_2.2 (okV_t (by omega) h_11.2 c_20 e_35)).symm⟩⟩)
  have : (0 : Int32).toInt = 0 := by decide
  exact L_2 _ 0 ⟨by omega, fun k hk => by exfalso; omega⟩ (Nat.lt_succ_self _)
abbrev rm_X8_firstLetter : Room := { frames := 4, cells := 0, slots := 0, locals := 96 }
set_option maxHeartbeats 4000000 in
set_option maxRecDepth 100000 in
theorem c_X8_firstLetter (l : Launch) (D : va_G) (tys : List (ClassId × FieldType)) {cI cJ cZ cB : ClassId} (hT : Ty tys cI cJ cZ cB) (hl w0 : Nat) (wr : Nat → Int32) (hn n0 n1 n2 n3 : Nat) (na nx ns : Nat → Int32) (nw : Nat → Int64) (nr nz nt nd : Int32) (hm : Nat) (mn mo mu mg mt mb : Int32) (hb b0 b1 b2 b3 b4 b5 b6 : Nat) (pa mi ga te kn wa ne : Nat → Int32) (wc la br : Int32) (hp hs : Nat) (f : Nat → Int32) (z : Int32) (i : Int32) (hz : 0 ≤ nz.toInt ∧ nz.toInt ≤ 3784) (hpz : 0 ≤ z.toInt ∧ z.toInt ≤ 30) (hup : UPG nx nz) : Cn l D tys yX8_firstLetter cX8_firstLetter 5 (some .int) rm_X8_firstLetter [(hl, .inr (8, [.ref hb, .ref hn, .ref hp, .ref w0])), (w0, .inl (cZ, 3784, .inl wr)), (hn, .inr (4, [.ref hb, .ref hm, .ref n0, .ref n1, .ref n2, .ref n3, .int nr, .int nz, .int nt, .int nd])), (n0, .inl (cI, 3784, .inl na)), (n1, .inl (cI, 15136, .inl nx)), (n2, .inl (cJ, 3784, .inr (.inl nw))), (n3, .inl (cI, 8192, .inl ns)), (hm, .inr (3, [.ref hb, .int mn, .int mo, .int mu, .int mg, .int mt, .int mb])), (hb, .inr (0, [.ref b0, .ref b1, .ref b2, .ref b3, .ref b4, .ref b5, .ref b6, .int wc, .int la, .int br])), (b0, .inl (cI, 4, .inl pa)), (b1, .inl (cI, 16, .inl mi)), (b2, .inl (cI, 4, .inl ga)), (b3, .inl (cI, 4, .inl te)), (b4, .inl (cI, 4, .inl kn)), (b5, .inl (cI, 6, .inl wa)), (b6, .inl (cI, 16, .inl ne)), (hp, .inr (6, [.ref hs, .int z])), (hs, .inl (cI, 30, .inl f))] [.ref hl, .int i] (fun v W1 => ∃ (r : Int32) (nw2 : Nat → Int64), v = some (.int r) ∧ W1 = [(hl, .inr (8, [.ref hb, .ref hn, .ref hp, .ref w0])), (w0, .inl (cZ, 3784, .inl wr)), (hn, .inr (4, [.ref hb, .ref hm, .ref n0, .ref n1, .ref n2, .ref n3, .int nr, .int nz, .int nt, .int nd])), (n0, .inl (cI, 3784, .inl na)), (n1, .inl (cI, 15136, .inl nx)), (n2, .inl (cJ, 3784, .inr (.inl nw2))), (n3, .inl (cI, 8192, .inl ns)), (hm, .inr (3, [.ref hb, .int mn, .int mo, .int mu, .int mg, .int mt, .int mb])), (hb, .inr (0, [.ref b0, .ref b1, .ref b2, .ref b3, .ref b4, .ref b5, .ref b6, .int wc, .int la, .int br])), (b0, .inl (cI, 4, .inl pa)), (b1, .inl (cI, 16, .inl mi)), (b2, .inl (cI, 4, .inl ga)), (b3, .inl (cI, 4, .inl te)), (b4, .inl (cI, 4, .inl kn)), (b5, .inl (cI, 6, .inl wa)), (b6, .inl (cI, 16, .inl ne)), (hp, .inr (6, [.ref hs, .int z])), (hs, .inl (cI, 30, .inl f))] ∧ ((¬ (0 ≤ i.toInt ∧ i.toInt < z.toInt) ∧ r = -6) ∨ ((0 ≤ i.toInt ∧ i.toInt < z.toInt) ∧ HGX mi na nx f z nz nw2 (-1) ∧ ((nw2 0 = 0 ∧ r = -6) ∨ (¬ nw2 0 = 0 ∧ r = flV (fun a t => fs4 (okV mi na nx f z nz nw2 a t)) (fun a s => ndA nx nz a s) i z.toInt.toNat 0 0))))) := by
  refine Cn.of (by decide) (Nat.le_of_ble_eq_true rfl) ?_ ?_ (fun X eL eD eT eO eK eN eM C => ?_)
  · intro h; cases h
  · intro v ws h; obtain ⟨_, _, rfl, rfl, _⟩ := h; exact Or.inl rfl
  subst eL eD eT
  show V X 5 [(hl, .inr (8, [.ref hb, .ref hn, .ref hp, .ref w0])), (w0, .inl (cZ, 3784, .inl wr)), (hn, .inr (4, [.ref hb, .ref hm, .ref n0, .ref n1, .ref n2, .ref n3, .int nr, .int nz, .int nt, .int nd])), (n0, .inl (cI, 3784, .inl na)), (n1, .inl (cI, 15136, .inl nx)), (n2, .inl (cJ, 3784, .inr (.inl nw))), (n3, .inl (cI, 8192, .inl ns)), (hm, .inr (3, [.ref hb, .int mn, .int mo, .int mu, .int mg, .int mt, .int mb])), (hb, .inr (0, [.ref b0, .ref b1, .ref b2, .ref b3, .ref b4, .ref b5, .ref b6, .int wc, .int la, .int br])), (b0, .inl (cI, 4, .inl pa)), (b1, .inl (cI, 16, .inl mi)), (b2, .inl (cI, 4, .inl ga)), (b3, .inl (cI, 4, .inl te)), (b4, .inl (cI, 4, .inl kn)), (b5, .inl (cI, 6, .inl wa)), (b6, .inl (cI, 16, .inl ne)), (hp, .inr (6, [.ref hs, .int z])), (hs, .inl (cI, 30, .inl f))] [(0, .ref hl), (1, .int i)] [] 0 0 0
  refine x_iload_n C 1 dX8_firstLetter_0 rfl rfl ?_
  refine x_iconst C 0 dX8_firstLetter_1 (by decide) ?_
  refine x_aload_n C 0 dX8_firstLetter_2 rfl rfl ?_
  refine x_get C 0 2 dX8_firstLetter_3 inlX8 rfl (by decide) wd_112 rfl rfl rfl ?_
  refine x_getN C 16 1 dX8_firstLetter_6 inlX6 rfl (by decide) nt_0 rfl rfl rfl ?_
  refine x_iconst C 1 dX8_firstLetter_9 (by decide) ?_
  refine x_isub C dX8_firstLetter_10 ?_
  refine x_callSN C [.int i, .int 0, .int (z - 1)] [(hl, .inr (8, [.ref hb, .ref hn, .ref hp, .ref w0])), (w0, .inl (cZ, 3784, .inl wr)), (hn, .inr (4, [.ref hb, .ref hm, .ref n0, .ref n1, .ref n2, .ref n3, .int nr, .int nz, .int nt, .int nd])), (n0, .inl (cI, 3784, .inl na)), (n1, .inl (cI, 15136, .inl nx)), (n2, .inl (cJ, 3784, .inr (.inl nw))), (n3, .inl (cI, 8192, .inl ns)), (hm, .inr (3, [.ref hb, .int mn, .int mo, .int mu, .int mg, .int mt, .int mb])), (hb, .inr (0, [.ref b0, .ref b1, .ref b2, .ref b3, .ref b4, .ref b5, .ref b6, .int wc, .int la, .int br])), (b0, .inl (cI, 4, .inl pa)), (b1, .inl (cI, 16, .inl mi)), (b2, .inl (cI, 4, .inl ga)), (b3, .inl (cI, 4, .inl te)), (b4, .inl (cI, 4, .inl kn)), (b5, .inl (cI, 6, .inl wa)), (b6, .inl (cI, 16, .inl ne)), (hp, .inr (6, [.ref hs, .int z])), (hs, .inl (cI, 30, .inl f))] [] [0, 1, 2, 3, 4, 5, 6, 7, 8, 9, 10, 11, 12, 13, 14, 15, 16, 17] (c_X9_isIn (xl X) (xD X) (xt X) hT i 0 (z - 1) ) dX8_firstLetter_11 nt_46 wd_187 wd_2 wd_188 (np := 3) ⟨by decide, by decide, by decide +kernel⟩ rfl rfl (Nat.le_of_ble_eq_true rfl) (by decide) rfl (by decide) rfl (by decide) (by decide) (fun v W1 h => ?_)
  obtain ⟨r_11, rfl, rfl, h_11⟩ := h
  have : (0 : Int32).toInt = 0 := by decide
  have : (1 : Int32).toInt = 1 := by decide
  have := i_sub (x := z) (y := 1) (by omega) (by omega)
  show V X 5 [(hl, .inr (8, [.ref hb, .ref hn, .ref hp, .ref w0])), (w0, .inl (cZ, 3784, .inl wr)), (hn, .inr (4, [.ref hb, .ref hm, .ref n0, .ref n1, .ref n2, .ref n3, .int nr, .int nz, .int nt, .int nd])), (n0, .inl (cI, 3784, .inl na)), (n1, .inl (cI, 15136, .inl nx)), (n2, .inl (cJ, 3784, .inr (.inl nw))), (n3, .inl (cI, 8192, .inl ns)), (hm, .inr (3, [.ref hb, .int mn, .int mo, .int mu, .int mg, .int mt, .int mb])), (hb, .inr (0, [.ref b0, .ref b1, .ref b2, .ref b3, .ref b4, .ref b5, .ref b6, .int wc, .int la, .int br])), (b0, .inl (cI, 4, .inl pa)), (b1, .inl (cI, 16, .inl mi)), (b2, .inl (cI, 4, .inl ga)), (b3, .inl (cI, 4, .inl te)), (b4, .inl (cI, 4, .inl kn)), (b5, .inl (cI, 6, .inl wa)), (b6, .inl (cI, 16, .inl ne)), (hp, .inr (6, [.ref hs, .int z])), (hs, .inl (cI, 30, .inl f))] [(0, .ref hl), (1, .int i)] [.int r_11] 14 0 0
  refine x_if_eq C 26 dX8_firstLetter_14 (by decide) (fun c_14 => ?_) (fun c_14 => ?_)
  · skip
    have e_14 : (r_11 : Int32).toInt = (0 : Int32).toInt := i_eq.mp c_14
    have : (0 : Int32).toInt = 0 := by decide
    refine x_bipush C (-6) dX8_firstLetter_26 (by decide) ?_
    have : ((-6) : Int32).toInt = -6 := by decide
    exact x_iret C dX8_firstLetter_28 (Nat.zero_le _) (Nat.zero_le _) (by rw [eO]; exact ⟨((-6)), nw, rfl, rfl, (Or.inl ⟨by omega, rfl⟩)⟩)
  · skip
    have e_14 : ¬ ((r_11 : Int32).toInt = (0 : Int32).toInt) := fun h => c_14 (i_eq.mpr h)
    have : (0 : Int32).toInt = 0 := by decide
    refine x_aload_n C 0 dX8_firstLetter_17 rfl rfl ?_
    refine x_callV C [] [] [0, 1, 2, 3, 4, 5, 6, 7, 8, 9, 10, 11, 12, 13, 14, 15, 16, 17] [] (q0 := 0) (c_X8_evenings (xl X) (xD X) (xt X) hT hl w0 wr hn n0 n1 n2 n3 na nx ns nw nr nz nt nd hm mn mo mu mg mt mb hb b0 b1 b2 b3 b4 b5 b6 pa mi ga te kn wa ne wc la br hp hs f z (by omega) (by omega) hup) dX8_firstLetter_18 wd_807 wd_774 wd_775 wd_40 wd_776 (np := 0) ⟨by decide, by decide, by decide +kernel⟩ rfl rfl (Nat.le_of_ble_eq_true rfl) (by decide) rfl rfl rfl rfl (by decide) rfl (by decide) (by decide) (fun v W1 h => ?_)
    obtain ⟨r_18, nw2_18, rfl, rfl, h_18⟩ := h
    show V X 5 [(hl, .inr (8, [.ref hb, .ref hn, .ref hp, .ref w0])), (w0, .inl (cZ, 3784, .inl wr)), (hn, .inr (4, [.ref hb, .ref hm, .ref n0, .ref n1, .ref n2, .ref n3, .int nr, .int nz, .int nt, .int nd])), (n0, .inl (cI, 3784, .inl na)), (n1, .inl (cI, 15136, .inl nx)), (n2, .inl (cJ, 3784, .inr (.inl nw2_18))), (n3, .inl (cI, 8192, .inl ns)), (hm, .inr (3, [.ref hb, .int mn, .int mo, .int mu, .int mg, .int mt, .int mb])), (hb, .inr (0, [.ref b0, .ref b1, .ref b2, .ref b3, .ref b4, .ref b5, .ref b6, .int wc, .int la, .int br])), (b0, .inl (cI, 4, .inl pa)), (b1, .inl (cI, 16, .inl mi)), (b2, .inl (cI, 4, .inl ga)), (b3, .inl (cI, 4, .inl te)), (b4, .inl (cI, 4, .inl kn)), (b5, .inl (cI, 6, .inl wa)), (b6, .inl (cI, 16, .inl ne)), (hp, .inr (6, [.ref hs, .int z])), (hs, .inl (cI, 30, .inl f))] [(0, .ref hl), (1, .int i)] [.long r_18] 21 0 0
    refine x_lconst C 0 dX8_firstLetter_21 (by decide) ?_
    refine x_lcmp C dX8_firstLetter_22 ?_
    refine x_if_ne C 29 dX8_firstLetter_23 (by decide) (fun c_23 => ?_) (fun c_23 => ?_)
    · skip
      have e_23 : ¬ ((r_18 : Int64).toInt = (0 : Int64).toInt) := fun h => c_23 (lc_eq.mpr h)
      have : (0 : Int64).toInt = 0 := by decide
      refine x_iconst C 0 dX8_firstLetter_29 (by decide) ?_
      refine x_istore_n C [(2, .int 0), (0, .ref hl), (1, .int i)] dX8_firstLetter_30 rfl (by decide) rfl ?_
      refine x_iconst C 0 dX8_firstLetter_31 (by decide) ?_
      refine x_istore_n C [(3, .int 0), (2, .int 0), (0, .ref hl), (1, .int i)] dX8_firstLetter_32 rfl (by decide) rfl ?_
      have L_33 : ∀ (n_33 : Nat) (x3_33 : Int32) (x2_33 : Int32), (((0 ≤ x3_33.toInt ∧ x3_33.toInt ≤ z.toInt) ∧ (x2_33.toInt = -6 ∨ (0 ≤ x2_33.toInt ∧ x2_33.toInt < 3784))) ∧ flV (fun a t => fs4 (okV mi na nx f z nz nw2_18 a t)) (fun a s => ndA nx nz a s) i (z.toInt - x3_33.toInt).toNat x2_33 x3_33 = flV (fun a t => fs4 (okV mi na nx f z nz nw2_18 a t)) (fun a s => ndA nx nz a s) i z.toInt.toNat 0 0) → ((z.toInt - x3_33.toInt).toNat < n_33) → V X 5 [(hl, .inr (8, [.ref hb, .ref hn, .ref hp, .ref w0])), (w0, .inl (cZ, 3784, .inl wr)), (hn, .inr (4, [.ref hb, .ref hm, .ref n0, .ref n1, .ref n2, .ref n3, .int nr, .int nz, .int nt, .int nd])), (n0, .inl (cI, 3784, .inl na)), (n1, .inl (cI, 15136, .inl nx)), (n2, .inl (cJ, 3784, .inr (.inl nw2_18))), (n3, .inl (cI, 8192, .inl ns)), (hm, .inr (3, [.ref hb, .int mn, .int mo, .int mu, .int mg, .int mt, .int mb])), (hb, .inr (0, [.ref b0, .ref b1, .ref b2, .ref b3, .ref b4, .ref b5, .ref b6, .int wc, .int la, .int br])), (b0, .inl (cI, 4, .inl pa)), (b1, .inl (cI, 16, .inl mi)), (b2, .inl (cI, 4, .inl ga)), (b3, .inl (cI, 4, .inl te)), (b4, .inl (cI, 4, .inl kn)), (b5, .inl (cI, 6, .inl wa)), (b6, .inl (cI, 16, .inl ne)), (hp, .inr (6, [.ref hs, .int z])), (hs, .inl (cI, 30, .inl f))] [(3, .int x3_33), (2, .int x2_33), (0, .ref hl), (1, .int i)] [] 33 0 0 := by
        intro n_33
        induction n_33 with
        | zero =>
          intro x3_33 x2_33 i_33 m_33
          exact absurd m_33 (Nat.not_lt_zero _)
        | succ n_33 ih_33 =>
          intro x3_33 x2_33 i_33 m_33
          refine x_iload_n C 0 dX8_firstLetter_33 rfl rfl ?_
          refine x_aload_n C 2 dX8_firstLetter_34 rfl rfl ?_
          refine x_get C 0 2 dX8_firstLetter_35 inlX8 rfl (by decide) wd_112 rfl rfl rfl ?_
          refine x_getN C 16 1 dX8_firstLetter_38 inlX6 rfl (by decide) nt_0 rfl rfl rfl ?_
          refine x_icmp_ge C 105 dX8_firstLetter_41 (by decide) (fun c_41 => ?_) (fun c_41 => ?_)
          · skip
            have e_41 : (z : Int32).toInt ≤ (x3_33 : Int32).toInt := i_le.mp c_41
            refine x_bipush C (-6) dX8_firstLetter_105 (by decide) ?_
            have : ((-6) : Int32).toInt = -6 := by decide
            exact x_iret C dX8_firstLetter_107 (Nat.zero_le _) (Nat.zero_le _) (by rw [eO]; exact ⟨((-6)), nw2_18, rfl, rfl, (Or.inr ⟨by omega, h_18.1, Or.inr ⟨(fun h => e_23 (by rw [h_18.2, h])), by rw [← i_33.2, show (z.toInt - x3_33.toInt).toNat = 0 by omega]; rfl⟩⟩)⟩)
          · skip
            have e_41 : ¬ ((z : Int32).toInt ≤ (x3_33 : Int32).toInt) := fun h => c_41 (i_le.mpr h)
            refine x_iload_n C 1 dX8_firstLetter_44 rfl rfl ?_
            refine x_bipush C (-6) dX8_firstLetter_45 (by decide) ?_
            refine x_icmp_eq C 105 dX8_firstLetter_47 (by decide) (fun c_47 => ?_) (fun c_47 => ?_)
            · skip
              have e_47 : (x2_33 : Int32).toInt = ((-6) : Int32).toInt := i_eq.mp c_47
              have : ((-6) : Int32).toInt = -6 := by decide
              refine x_bipush C (-6) dX8_firstLetter_105 (by decide) ?_
              have : ((-6) : Int32).toInt = -6 := by decide
              exact x_iret C dX8_firstLetter_107 (Nat.zero_le _) (Nat.zero_le _) (by rw [eO]; exact ⟨((-6)), nw2_18, rfl, rfl, (Or.inr ⟨by omega, h_18.1, Or.inr ⟨(fun h => e_23 (by rw [h_18.2, h])), by rw [← i_33.2, c_47, flV_6]⟩⟩)⟩)
            · skip
              have e_47 : ¬ ((x2_33 : Int32).toInt = ((-6) : Int32).toInt) := fun h => c_47 (i_eq.mpr h)
              have : ((-6) : Int32).toInt = -6 := by decide
              refine x_aload_n C 2 dX8_firstLetter_50 rfl rfl ?_
              refine x_iload_n C 1 dX8_firstLetter_51 rfl rfl ?_
              refine x_iload_n C 0 dX8_firstLetter_52 rfl rfl ?_
              refine x_callV C [.int x2_33, .int x3_33] [] [0, 1, 2, 3, 4, 5, 6, 7, 8, 9, 10, 11, 12, 13, 14, 15, 16, 17] [] (q0 := 0) (c_X8_firstStory (xl X) (xD X) (xt X) hT hl w0 wr hn n0 n1 n2 n3 na nx ns nw2_18 nr nz nt nd hm mn mo mu mg mt mb hb b0 b1 b2 b3 b4 b5 b6 pa mi ga te kn wa ne wc la br hp hs f z x2_33 x3_33 (by omega) (by omega) (by omega) (by omega)) dX8_firstLetter_53 wd_808 wd_809 wd_810 wd_40 wd_811 (np := 2) ⟨by decide, by decide, by decide +kernel⟩ rfl rfl (Nat.le_of_ble_eq_true rfl) (by decide) rfl rfl rfl rfl (by decide) rfl (by decide) (by decide) (fun v W1 h => ?_)
              obtain ⟨r_53, rfl, rfl, h_53⟩ := h
              show V X 5 [(hl, .inr (8, [.ref hb, .ref hn, .ref hp, .ref w0])), (w0, .inl (cZ, 3784, .inl wr)), (hn, .inr (4, [.ref hb, .ref hm, .ref n0, .ref n1, .ref n2, .ref n3, .int nr, .int nz, .int nt, .int nd])), (n0, .inl (cI, 3784, .inl na)), (n1, .inl (cI, 15136, .inl nx)), (n2, .inl (cJ, 3784, .inr (.inl nw2_18))), (n3, .inl (cI, 8192, .inl ns)), (hm, .inr (3, [.ref hb, .int mn, .int mo, .int mu, .int mg, .int mt, .int mb])), (hb, .inr (0, [.ref b0, .ref b1, .ref b2, .ref b3, .ref b4, .ref b5, .ref b6, .int wc, .int la, .int br])), (b0, .inl (cI, 4, .inl pa)), (b1, .inl (cI, 16, .inl mi)), (b2, .inl (cI, 4, .inl ga)), (b3, .inl (cI, 4, .inl te)), (b4, .inl (cI, 4, .inl kn)), (b5, .inl (cI, 6, .inl wa)), (b6, .inl (cI, 16, .inl ne)), (hp, .inr (6, [.ref hs, .int z])), (hs, .inl (cI, 30, .inl f))] [(3, .int x3_33), (2, .int x2_33), (0, .ref hl), (1, .int i)] [.int r_53] 56 0 0
              refine x_istore C [(4, .int r_53), (3, .int x3_33), (2, .int x2_33), (0, .ref hl), (1, .int i)] dX8_firstLetter_56 (by decide) rfl ?_
              refine x_iload C 0 dX8_firstLetter_58 rfl ?_
              refine x_bipush C (-6) dX8_firstLetter_60 (by decide) ?_
              refine x_icmp_eq C 70 dX8_firstLetter_62 (by decide) (fun c_62 => ?_) (fun c_62 => ?_)
              · skip
                have e_62 : (r_53 : Int32).toInt = ((-6) : Int32).toInt := i_eq.mp c_62
                have : ((-6) : Int32).toInt = -6 := by decide
                refine x_iload C 0 dX8_firstLetter_70 rfl ?_
                refine x_bipush C (-6) dX8_firstLetter_72 (by decide) ?_
                refine x_icmp_ne C 82 dX8_firstLetter_74 (by decide) (fun c_74 => ?_) (fun c_74 => ?_)
                · skip
                  have e_74 : ¬ ((r_53 : Int32).toInt = ((-6) : Int32).toInt) := fun h => c_74 (i_eq.mpr h)
                  have : ((-6) : Int32).toInt = -6 := by decide
                  refine x_bipush C 97 dX8_firstLetter_82 (by decide) ?_
                  refine x_iload C 0 dX8_firstLetter_84 rfl ?_
                  refine x_iadd C dX8_firstLetter_86 ?_
                  exact x_iret C dX8_firstLetter_87 (Nat.zero_le _) (Nat.zero_le _) (by rw [eO]; exact ⟨(97 + r_53), nw2_18, rfl, rfl, (absurd c_62 c_74)⟩)
                · skip
                  have e_74 : (r_53 : Int32).toInt = ((-6) : Int32).toInt := i_eq.mp c_74
                  have : ((-6) : Int32).toInt = -6 := by decide
                  refine x_bipush C (-6) dX8_firstLetter_77 (by decide) ?_
                  refine x_goto C 87 dX8_firstLetter_79 (by decide) ?_
                  have := t1_
                  have u1 := i_add (x := x3_33) (y := 1) (by omega) (by omega)
                  have : ((-6) : Int32).toInt = -6 := by decide
                  exact x_iret C dX8_firstLetter_87 (Nat.zero_le _) (Nat.zero_le _) (by rw [eO]; exact ⟨((-6)), nw2_18, rfl, rfl, (Or.inr ⟨by omega, h_18.1, Or.inr ⟨(fun h => e_23 (by rw [h_18.2, h])), by rw [← i_33.2, show (z.toInt - x3_33.toInt).toNat = (z.toInt - (x3_33 + 1).toInt).toNat + 1 by omega, flV, if_neg c_47, if_pos (h_53.2.symm.trans c_62)]⟩⟩)⟩)
              · skip
                have e_62 : ¬ ((r_53 : Int32).toInt = ((-6) : Int32).toInt) := fun h => c_62 (i_eq.mpr h)
                have : ((-6) : Int32).toInt = -6 := by decide
                refine x_iload_n C 1 dX8_firstLetter_65 rfl rfl ?_
                refine x_iload_n C 4 dX8_firstLetter_66 rfl rfl ?_
                refine x_icmp_ne C 88 dX8_firstLetter_67 (by decide) (fun c_67 => ?_) (fun c_67 => ?_)
                · skip
                  have e_67 : ¬ ((x3_33 : Int32).toInt = (i : Int32).toInt) := fun h => c_67 (i_eq.mpr h)
                  refine x_aload_n C 3 dX8_firstLetter_88 rfl rfl ?_
                  refine x_get C 0 1 dX8_firstLetter_89 inlX8 rfl (by decide) wd_111 rfl rfl rfl ?_
                  refine x_iload_n C 2 dX8_firstLetter_92 rfl rfl ?_
                  refine x_iload C 0 dX8_firstLetter_93 rfl ?_
                  refine x_callV C [.int x2_33, .int r_53] [(hl, .inr (8, [.ref hb, .ref hn, .ref hp, .ref w0])), (w0, .inl (cZ, 3784, .inl wr)), (hp, .inr (6, [.ref hs, .int z])), (hs, .inl (cI, 30, .inl f))] [2, 3, 4, 5, 6, 7, 8, 9, 10, 11, 12, 13, 14, 15] [0, 1, 16, 17] (q0 := 0) (c_X4_nodeAfter (xl X) (xD X) (xt X) hT hn n0 n1 n2 n3 na nx ns nw2_18 nr nz nt nd hm mn mo mu mg mt mb hb b0 b1 b2 b3 b4 b5 b6 pa mi ga te kn wa ne wc la br x2_33 r_53 (by omega) (by omega) (by omega)) dX8_firstLetter_95 wd_785 wd_556 wd_557 wd_28 wd_558 (np := 2) ⟨by decide, by decide, by decide +kernel⟩ rfl rfl (Nat.le_of_ble_eq_true rfl) (by decide) rfl rfl rfl rfl (by decide) rfl (by decide) (by decide) (fun v W1 h => ?_)
                  obtain ⟨r_95, rfl, rfl, h_95⟩ := h
                  show V X 5 [(hl, .inr (8, [.ref hb, .ref hn, .ref hp, .ref w0])), (w0, .inl (cZ, 3784, .inl wr)), (hp, .inr (6, [.ref hs, .int z])), (hs, .inl (cI, 30, .inl f)), (hn, .inr (4, [.ref hb, .ref hm, .ref n0, .ref n1, .ref n2, .ref n3, .int nr, .int nz, .int nt, .int nd])), (n0, .inl (cI, 3784, .inl na)), (n1, .inl (cI, 15136, .inl nx)), (n2, .inl (cJ, 3784, .inr (.inl nw2_18))), (n3, .inl (cI, 8192, .inl ns)), (hm, .inr (3, [.ref hb, .int mn, .int mo, .int mu, .int mg, .int mt, .int mb])), (hb, .inr (0, [.ref b0, .ref b1, .ref b2, .ref b3, .ref b4, .ref b5, .ref b6, .int wc, .int la, .int br])), (b0, .inl (cI, 4, .inl pa)), (b1, .inl (cI, 16, .inl mi)), (b2, .inl (cI, 4, .inl ga)), (b3, .inl (cI, 4, .inl te)), (b4, .inl (cI, 4, .inl kn)), (b5, .inl (cI, 6, .inl wa)), (b6, .inl (cI, 16, .inl ne))] [(4, .int r_53), (3, .int x3_33), (2, .int x2_33), (0, .ref hl), (1, .int i)] [.int r_95] 98 0 0
                  refine x_istore_n C [(2, .int r_95), (4, .int r_53), (3, .int x3_33), (0, .ref hl), (1, .int i)] dX8_firstLetter_98 rfl (by decide) rfl ?_
                  refine x_iinc C 2 (x3_33 + 1) [(3, .int (x3_33 + 1)), (2, .int r_95), (4, .int r_53), (0, .ref hl), (1, .int i)] dX8_firstLetter_99 rfl rfl (by decide) rfl ?_
                  refine x_goto C 33 dX8_firstLetter_102 (by decide) ?_
                  refine x_sub [(hl, .inr (8, [.ref hb, .ref hn, .ref hp, .ref w0])), (w0, .inl (cZ, 3784, .inl wr)), (hn, .inr (4, [.ref hb, .ref hm, .ref n0, .ref n1, .ref n2, .ref n3, .int nr, .int nz, .int nt, .int nd])), (n0, .inl (cI, 3784, .inl na)), (n1, .inl (cI, 15136, .inl nx)), (n2, .inl (cJ, 3784, .inr (.inl nw2_18))), (n3, .inl (cI, 8192, .inl ns)), (hm, .inr (3, [.ref hb, .int mn, .int mo, .int mu, .int mg, .int mt, .int mb])), (hb, .inr (0, [.ref b0, .ref b1, .ref b2, .ref b3, .ref b4, .ref b5, .ref b6, .int wc, .int la, .int br])), (b0, .inl (cI, 4, .inl pa)), (b1, .inl (cI, 16, .inl mi)), (b2, .inl (cI, 4, .inl ga)), (b3, .inl (cI, 4, .inl te)), (b4, .inl (cI, 4, .inl kn)), (b5, .inl (cI, 6, .inl wa)), (b6, .inl (cI, 16, .inl ne)), (hp, .inr (6, [.ref hs, .int z])), (hs, .inl (cI, 30, .inl f))] [0, 1, 4, 5, 6, 7, 8, 9, 10, 11, 12, 13, 14, 15, 16, 17, 2, 3] (by decide) rfl ?_
                  refine x_lv [(3, .int (x3_33 + 1)), (2, .int r_95), (0, .ref hl), (1, .int i)] [0, 1, 3, 4] rfl ?_
                  have : (1 : Int32).toInt = 1 := by decide
                  have := i_add (x := x3_33) (y := 1) (by omega) (by omega)
                  exact ih_33 (x3_33 + 1) r_95 ⟨⟨by omega, by omega⟩, by rw [← i_33.2, show (z.toInt - x3_33.toInt).toNat = (z.toInt - (x3_33 + 1).toInt).toNat + 1 by omega, flV, if_neg c_47, if_neg (fun h => c_62 (h_53.2.trans h)), if_neg c_67, ← h_53.2, ← h_95.2]⟩ (by omega)
                · skip
                  have e_67 : (x3_33 : Int32).toInt = (i : Int32).toInt := i_eq.mp c_67
                  refine x_iload C 0 dX8_firstLetter_70 rfl ?_
                  refine x_bipush C (-6) dX8_firstLetter_72 (by decide) ?_
                  refine x_icmp_ne C 82 dX8_firstLetter_74 (by decide) (fun c_74 => ?_) (fun c_74 => ?_)
                  · skip
                    have e_74 : ¬ ((r_53 : Int32).toInt = ((-6) : Int32).toInt) := fun h => c_74 (i_eq.mpr h)
                    have : ((-6) : Int32).toInt = -6 := by decide
                    refine x_bipush C 97 dX8_firstLetter_82 (by decide) ?_
                    refine x_iload C 0 dX8_firstLetter_84 rfl ?_
                    refine x_iadd C dX8_firstLetter_86 ?_
                    have := t1_
                    have u1 := i_add (x := x3_33) (y := 1) (by omega) (by omega)
                    exact x_iret C dX8_firstLetter_87 (Nat.zero_le _) (Nat.zero_le _) (by rw [eO]; exact ⟨(97 + r_53), nw2_18, rfl, rfl, (Or.inr ⟨by omega, h_18.1, Or.inr ⟨(fun h => e_23 (by rw [h_18.2, h])), by rw [← i_33.2, show (z.toInt - x3_33.toInt).toNat = (z.toInt - (x3_33 + 1).toInt).toNat + 1 by omega, flV, if_neg c_47, if_neg (fun h => c_62 (h_53.2.trans h)), if_pos c_67, ← h_53.2]⟩⟩)⟩)
                  · skip
                    have e_74 : (r_53 : Int32).toInt = ((-6) : Int32).toInt := i_eq.mp c_74
                    have : ((-6) : Int32).toInt = -6 := by decide
                    refine x_bipush C (-6) dX8_firstLetter_77 (by decide) ?_
                    refine x_goto C 87 dX8_firstLetter_79 (by decide) ?_
                    have : ((-6) : Int32).toInt = -6 := by decide
                    exact x_iret C dX8_firstLetter_87 (Nat.zero_le _) (Nat.zero_le _) (by rw [eO]; exact ⟨((-6)), nw2_18, rfl, rfl, (absurd c_74 c_62)⟩)
      have : (0 : Int32).toInt = 0 := by decide
      have : (0 : Int32).toInt = 0 := by decide
      exact L_33 _ 0 0 ⟨⟨by omega, by omega⟩, by rw [t0_, Int.sub_zero]⟩ (Nat.lt_succ_self _)
    · skip
      have e_23 : (r_18 : Int64).toInt = (0 : Int64).toInt := lc_eq.mp c_23
      have : (0 : Int64).toInt = 0 := by decide
      refine x_bipush C (-6) dX8_firstLetter_26 (by decide) ?_
      have : ((-6) : Int32).toInt = -6 := by decide
      exact x_iret C dX8_firstLetter_28 (Nat.zero_le _) (Nat.zero_le _) (by rw [eO]; exact ⟨((-6)), nw2_18, rfl, rfl, (Or.inr ⟨by omega, h_18.1, Or.inl ⟨h_18.2.symm.trans (Int64.toInt_inj.mp e_23), rfl⟩⟩)⟩)
abbrev rm_X8_reachFrom : Room := { frames := 3, cells := 0, slots := 0, locals := 70 }
set_option maxHeartbeats 4000000 in
set_option maxRecDepth 100000 in
theorem c_X8_reachFrom (l : Launch) (D : va_G) (tys : List (ClassId × FieldType)) {cI cJ cZ cB : ClassId} (hT : Ty tys cI cJ cZ cB) (hl w0 : Nat) (wr : Nat → Int32) (hn n0 n1 n2 n3 : Nat) (na nx ns : Nat → Int32) (nw : Nat → Int64) (nr nz nt nd : Int32) (hm : Nat) (mn mo mu mg mt mb : Int32) (hb b0 b1 b2 b3 b4 b5 b6 : Nat) (pa mi ga te kn wa ne : Nat → Int32) (wc la br : Int32) (hp hs : Nat) (f : Nat → Int32) (z : Int32) (a t : Int32) (hz : 0 ≤ nz.toInt ∧ nz.toInt ≤ 3784) (hnode : 0 ≤ a.toInt ∧ a.toInt < 3784) (hpz : 0 ≤ z.toInt ∧ z.toInt ≤ 30) (ht0 : 0 ≤ t.toInt) : Cn l D tys yX8_reachFrom cX8_reachFrom 6 (some .int) rm_X8_reachFrom [(hl, .inr (8, [.ref hb, .ref hn, .ref hp, .ref w0])), (w0, .inl (cZ, 3784, .inl wr)), (hn, .inr (4, [.ref hb, .ref hm, .ref n0, .ref n1, .ref n2, .ref n3, .int nr, .int nz, .int nt, .int nd])), (n0, .inl (cI, 3784, .inl na)), (n1, .inl (cI, 15136, .inl nx)), (n2, .inl (cJ, 3784, .inr (.inl nw))), (n3, .inl (cI, 8192, .inl ns)), (hm, .inr (3, [.ref hb, .int mn, .int mo, .int mu, .int mg, .int mt, .int mb])), (hb, .inr (0, [.ref b0, .ref b1, .ref b2, .ref b3, .ref b4, .ref b5, .ref b6, .int wc, .int la, .int br])), (b0, .inl (cI, 4, .inl pa)), (b1, .inl (cI, 16, .inl mi)), (b2, .inl (cI, 4, .inl ga)), (b3, .inl (cI, 4, .inl te)), (b4, .inl (cI, 4, .inl kn)), (b5, .inl (cI, 6, .inl wa)), (b6, .inl (cI, 16, .inl ne)), (hp, .inr (6, [.ref hs, .int z])), (hs, .inl (cI, 30, .inl f))] [.ref hl, .int a, .int t] (fun v W1 => ∃ (r : Int32) (wr2 : Nat → Int32), v = some (.int r) ∧ W1 = [(hl, .inr (8, [.ref hb, .ref hn, .ref hp, .ref w0])), (w0, .inl (cZ, 3784, .inl wr2)), (hn, .inr (4, [.ref hb, .ref hm, .ref n0, .ref n1, .ref n2, .ref n3, .int nr, .int nz, .int nt, .int nd])), (n0, .inl (cI, 3784, .inl na)), (n1, .inl (cI, 15136, .inl nx)), (n2, .inl (cJ, 3784, .inr (.inl nw))), (n3, .inl (cI, 8192, .inl ns)), (hm, .inr (3, [.ref hb, .int mn, .int mo, .int mu, .int mg, .int mt, .int mb])), (hb, .inr (0, [.ref b0, .ref b1, .ref b2, .ref b3, .ref b4, .ref b5, .ref b6, .int wc, .int la, .int br])), (b0, .inl (cI, 4, .inl pa)), (b1, .inl (cI, 16, .inl mi)), (b2, .inl (cI, 4, .inl ga)), (b3, .inl (cI, 4, .inl te)), (b4, .inl (cI, 4, .inl kn)), (b5, .inl (cI, 6, .inl wa)), (b6, .inl (cI, 16, .inl ne)), (hp, .inr (6, [.ref hs, .int z])), (hs, .inl (cI, 30, .inl f))] ∧ (True)) := by
  refine Cn.of (by decide) (Nat.le_of_ble_eq_true rfl) ?_ ?_ (fun X eL eD eT eO eK eN eM C => ?_)
  · intro h; cases h
  · intro v ws h; obtain ⟨_, _, rfl, rfl, _⟩ := h; exact Or.inl rfl
  subst eL eD eT
  show V X 6 [(hl, .inr (8, [.ref hb, .ref hn, .ref hp, .ref w0])), (w0, .inl (cZ, 3784, .inl wr)), (hn, .inr (4, [.ref hb, .ref hm, .ref n0, .ref n1, .ref n2, .ref n3, .int nr, .int nz, .int nt, .int nd])), (n0, .inl (cI, 3784, .inl na)), (n1, .inl (cI, 15136, .inl nx)), (n2, .inl (cJ, 3784, .inr (.inl nw))), (n3, .inl (cI, 8192, .inl ns)), (hm, .inr (3, [.ref hb, .int mn, .int mo, .int mu, .int mg, .int mt, .int mb])), (hb, .inr (0, [.ref b0, .ref b1, .ref b2, .ref b3, .ref b4, .ref b5, .ref b6, .int wc, .int la, .int br])), (b0, .inl (cI, 4, .inl pa)), (b1, .inl (cI, 16, .inl mi)), (b2, .inl (cI, 4, .inl ga)), (b3, .inl (cI, 4, .inl te)), (b4, .inl (cI, 4, .inl kn)), (b5, .inl (cI, 6, .inl wa)), (b6, .inl (cI, 16, .inl ne)), (hp, .inr (6, [.ref hs, .int z])), (hs, .inl (cI, 30, .inl f))] [(0, .ref hl), (1, .int a), (2, .int t)] [] 0 0 0
  refine x_iconst C 0 dX8_reachFrom_0 (by decide) ?_
  refine x_istore_n C [(3, .int 0), (0, .ref hl), (1, .int a), (2, .int t)] dX8_reachFrom_1 rfl (by decide) rfl ?_
  refine x_iconst C 0 dX8_reachFrom_2 (by decide) ?_
  refine x_istore C [(4, .int 0), (3, .int 0), (0, .ref hl), (1, .int a), (2, .int t)] dX8_reachFrom_3 (by decide) rfl ?_
  have L_5 : ∀ (n_5 : Nat) (x4_5 : Int32) (x3_5 : Int32) (fw0_5 : Nat → Int32), ((0 ≤ x4_5.toInt ∧ x4_5.toInt ≤ 4)) → ((4 - x4_5.toInt).toNat < n_5) → V X 6 [(hl, .inr (8, [.ref hb, .ref hn, .ref hp, .ref w0])), (w0, .inl (cZ, 3784, .inl fw0_5)), (hn, .inr (4, [.ref hb, .ref hm, .ref n0, .ref n1, .ref n2, .ref n3, .int nr, .int nz, .int nt, .int nd])), (n0, .inl (cI, 3784, .inl na)), (n1, .inl (cI, 15136, .inl nx)), (n2, .inl (cJ, 3784, .inr (.inl nw))), (n3, .inl (cI, 8192, .inl ns)), (hm, .inr (3, [.ref hb, .int mn, .int mo, .int mu, .int mg, .int mt, .int mb])), (hb, .inr (0, [.ref b0, .ref b1, .ref b2, .ref b3, .ref b4, .ref b5, .ref b6, .int wc, .int la, .int br])), (b0, .inl (cI, 4, .inl pa)), (b1, .inl (cI, 16, .inl mi)), (b2, .inl (cI, 4, .inl ga)), (b3, .inl (cI, 4, .inl te)), (b4, .inl (cI, 4, .inl kn)), (b5, .inl (cI, 6, .inl wa)), (b6, .inl (cI, 16, .inl ne)), (hp, .inr (6, [.ref hs, .int z])), (hs, .inl (cI, 30, .inl f))] [(4, .int x4_5), (3, .int x3_5), (0, .ref hl), (1, .int a), (2, .int t)] [] 5 0 0 := by
    intro n_5
    induction n_5 with
    | zero =>
      intro x4_5 x3_5 fw0_5 i_5 m_5
      exact absurd m_5 (Nat.not_lt_zero _)
    | succ n_5 ih_5 =>
      intro x4_5 x3_5 fw0_5 i_5 m_5
      refine x_iload C 0 dX8_reachFrom_5 rfl ?_
      refine x_iconst C 4 dX8_reachFrom_7 (by decide) ?_
      refine x_icmp_ge C 64 dX8_reachFrom_8 (by decide) (fun c_8 => ?_) (fun c_8 => ?_)
      · skip
        have e_8 : (4 : Int32).toInt ≤ (x4_5 : Int32).toInt := i_le.mp c_8
        have : (4 : Int32).toInt = 4 := by decide
        refine x_iload_n C 1 dX8_reachFrom_64 rfl rfl ?_
        exact x_iret C dX8_reachFrom_65 (Nat.zero_le _) (Nat.zero_le _) (by rw [eO]; exact ⟨x3_5, fw0_5, rfl, rfl, trivial⟩)
      · skip
        have e_8 : ¬ ((4 : Int32).toInt ≤ (x4_5 : Int32).toInt) := fun h => c_8 (i_le.mpr h)
        have : (4 : Int32).toInt = 4 := by decide
        refine x_aload_n C 2 dX8_reachFrom_11 rfl rfl ?_
        refine x_iload_n C 3 dX8_reachFrom_12 rfl rfl ?_
        refine x_iload C 0 dX8_reachFrom_13 rfl ?_
        refine x_iload_n C 4 dX8_reachFrom_15 rfl rfl ?_
        refine x_callV C [.int a, .int x4_5, .int t] [] [0, 1, 2, 3, 4, 5, 6, 7, 8, 9, 10, 11, 12, 13, 14, 15, 16, 17] [] (q0 := 0) (c_X8_soundsAfter (xl X) (xD X) (xt X) hT hl w0 fw0_5 hn n0 n1 n2 n3 na nx ns nw nr nz nt nd hm mn mo mu mg mt mb hb b0 b1 b2 b3 b4 b5 b6 pa mi ga te kn wa ne wc la br hp hs f z a x4_5 t (by omega) (by omega) (by omega) (by omega) (by omega)) dX8_reachFrom_16 wd_778 wd_779 wd_780 wd_40 wd_781 (np := 3) ⟨by decide, by decide, by decide +kernel⟩ rfl rfl (Nat.le_of_ble_eq_true rfl) (by decide) rfl rfl rfl rfl (by decide) rfl (by decide) (by decide) (fun v W1 h => ?_)
        obtain ⟨r_16, rfl, rfl, h_16⟩ := h
        show V X 6 [(hl, .inr (8, [.ref hb, .ref hn, .ref hp, .ref w0])), (w0, .inl (cZ, 3784, .inl fw0_5)), (hn, .inr (4, [.ref hb, .ref hm, .ref n0, .ref n1, .ref n2, .ref n3, .int nr, .int nz, .int nt, .int nd])), (n0, .inl (cI, 3784, .inl na)), (n1, .inl (cI, 15136, .inl nx)), (n2, .inl (cJ, 3784, .inr (.inl nw))), (n3, .inl (cI, 8192, .inl ns)), (hm, .inr (3, [.ref hb, .int mn, .int mo, .int mu, .int mg, .int mt, .int mb])), (hb, .inr (0, [.ref b0, .ref b1, .ref b2, .ref b3, .ref b4, .ref b5, .ref b6, .int wc, .int la, .int br])), (b0, .inl (cI, 4, .inl pa)), (b1, .inl (cI, 16, .inl mi)), (b2, .inl (cI, 4, .inl ga)), (b3, .inl (cI, 4, .inl te)), (b4, .inl (cI, 4, .inl kn)), (b5, .inl (cI, 6, .inl wa)), (b6, .inl (cI, 16, .inl ne)), (hp, .inr (6, [.ref hs, .int z])), (hs, .inl (cI, 30, .inl f))] [(4, .int x4_5), (3, .int x3_5), (0, .ref hl), (1, .int a), (2, .int t)] [.int r_16] 19 0 0
        refine x_istore C [(5, .int r_16), (4, .int x4_5), (3, .int x3_5), (0, .ref hl), (1, .int a), (2, .int t)] dX8_reachFrom_19 (by decide) rfl ?_
        refine x_iload C 0 dX8_reachFrom_21 rfl ?_
        refine x_bipush C (-6) dX8_reachFrom_23 (by decide) ?_
        have J_58 : ∀ (x3_58 : Int32) (fw0_58 : Nat → Int32), V X 6 [(hl, .inr (8, [.ref hb, .ref hn, .ref hp, .ref w0])), (w0, .inl (cZ, 3784, .inl fw0_58)), (hn, .inr (4, [.ref hb, .ref hm, .ref n0, .ref n1, .ref n2, .ref n3, .int nr, .int nz, .int nt, .int nd])), (n0, .inl (cI, 3784, .inl na)), (n1, .inl (cI, 15136, .inl nx)), (n2, .inl (cJ, 3784, .inr (.inl nw))), (n3, .inl (cI, 8192, .inl ns)), (hm, .inr (3, [.ref hb, .int mn, .int mo, .int mu, .int mg, .int mt, .int mb])), (hb, .inr (0, [.ref b0, .ref b1, .ref b2, .ref b3, .ref b4, .ref b5, .ref b6, .int wc, .int la, .int br])), (b0, .inl (cI, 4, .inl pa)), (b1, .inl (cI, 16, .inl mi)), (b2, .inl (cI, 4, .inl ga)), (b3, .inl (cI, 4, .inl te)), (b4, .inl (cI, 4, .inl kn)), (b5, .inl (cI, 6, .inl wa)), (b6, .inl (cI, 16, .inl ne)), (hp, .inr (6, [.ref hs, .int z])), (hs, .inl (cI, 30, .inl f))] [(3, .int x3_58), (5, .int r_16), (4, .int x4_5), (0, .ref hl), (1, .int a), (2, .int t)] [] 58 0 0 := by
          intro x3_58 fw0_58
          refine x_iinc C 2 (x4_5 + 1) [(4, .int (x4_5 + 1)), (3, .int x3_58), (5, .int r_16), (0, .ref hl), (1, .int a), (2, .int t)] dX8_reachFrom_58 rfl rfl (by decide) rfl ?_
          refine x_goto C 5 dX8_reachFrom_61 (by decide) ?_
          refine x_lv [(4, .int (x4_5 + 1)), (3, .int x3_58), (0, .ref hl), (1, .int a), (2, .int t)] [0, 1, 3, 4, 5] rfl ?_
          have : (1 : Int32).toInt = 1 := by decide
          have := i_add (x := x4_5) (y := 1) (by omega) (by omega)
          exact ih_5 (x4_5 + 1) x3_58 fw0_58 (by omega) (by omega)
        refine x_icmp_eq C 58 dX8_reachFrom_25 (by decide) (fun c_25 => ?_) (fun c_25 => ?_)
        · skip
          have e_25 : (r_16 : Int32).toInt = ((-6) : Int32).toInt := i_eq.mp c_25
          have : ((-6) : Int32).toInt = -6 := by decide
          refine x_lv [(3, .int x3_5), (5, .int r_16), (4, .int x4_5), (0, .ref hl), (1, .int a), (2, .int t)] [2, 0, 1, 3, 4, 5] rfl ?_
          exact J_58 x3_5 fw0_5
        · skip
          have e_25 : ¬ ((r_16 : Int32).toInt = ((-6) : Int32).toInt) := fun h => c_25 (i_eq.mpr h)
          have : ((-6) : Int32).toInt = -6 := by decide
          refine x_aload_n C 3 dX8_reachFrom_28 rfl rfl ?_
          refine x_get C 0 1 dX8_reachFrom_29 inlX8 rfl (by decide) wd_111 rfl rfl rfl ?_
          refine x_getN C 2 4 dX8_reachFrom_32 inlX4 rfl (by decide) nt_35 rfl rfl rfl ?_
          refine x_iload C 0 dX8_reachFrom_35 rfl ?_
          have v_37 : vp_in r_16 3784 := (vp_in_iff.mpr (by omega))
          refine x_lald C 5 1 dX8_reachFrom_37 hT.2.1 rfl v_37 ?_
          refine x_lconst C 0 dX8_reachFrom_38 (by decide) ?_
          refine x_lcmp C dX8_reachFrom_39 ?_
          refine x_if_le C 58 dX8_reachFrom_40 (by decide) (fun c_40 => ?_) (fun c_40 => ?_)
          · skip
            have e_40 : ((nw (Int32.toNatClampNeg r_16)) : Int64).toInt ≤ (0 : Int64).toInt := lc_le.mp c_40
            have : (0 : Int64).toInt = 0 := by decide
            refine x_lv [(3, .int x3_5), (5, .int r_16), (4, .int x4_5), (0, .ref hl), (1, .int a), (2, .int t)] [2, 0, 1, 3, 4, 5] rfl ?_
            exact J_58 x3_5 fw0_5
          · skip
            have e_40 : ¬ (((nw (Int32.toNatClampNeg r_16)) : Int64).toInt ≤ (0 : Int64).toInt) := fun h => c_40 (lc_le.mpr h)
            have : (0 : Int64).toInt = 0 := by decide
            refine x_aload_n C 3 dX8_reachFrom_43 rfl rfl ?_
            refine x_get C 0 3 dX8_reachFrom_44 inlX8 rfl (by decide) wd_109 rfl rfl rfl ?_
            refine x_iload C 0 dX8_reachFrom_47 rfl ?_
            refine x_iconst C 1 dX8_reachFrom_49 (by decide) ?_
            have v_50 : vp_in r_16 3784 := (vp_in_iff.mpr (by omega))
            refine x_zast C 1 2 [(hl, .inr (8, [.ref hb, .ref hn, .ref hp, .ref w0])), (w0, .inl (cZ, 3784, .inl (upd fw0_5 (Int32.toNatClampNeg r_16) 1))), (hn, .inr (4, [.ref hb, .ref hm, .ref n0, .ref n1, .ref n2, .ref n3, .int nr, .int nz, .int nt, .int nd])), (n0, .inl (cI, 3784, .inl na)), (n1, .inl (cI, 15136, .inl nx)), (n2, .inl (cJ, 3784, .inr (.inl nw))), (n3, .inl (cI, 8192, .inl ns)), (hm, .inr (3, [.ref hb, .int mn, .int mo, .int mu, .int mg, .int mt, .int mb])), (hb, .inr (0, [.ref b0, .ref b1, .ref b2, .ref b3, .ref b4, .ref b5, .ref b6, .int wc, .int la, .int br])), (b0, .inl (cI, 4, .inl pa)), (b1, .inl (cI, 16, .inl mi)), (b2, .inl (cI, 4, .inl ga)), (b3, .inl (cI, 4, .inl te)), (b4, .inl (cI, 4, .inl kn)), (b5, .inl (cI, 6, .inl wa)), (b6, .inl (cI, 16, .inl ne)), (hp, .inr (6, [.ref hs, .int z])), (hs, .inl (cI, 30, .inl f))] dX8_reachFrom_50 hT.2.2.1 rfl v_50 rfl rfl ?_
            refine x_iload_n C 2 dX8_reachFrom_51 rfl rfl ?_
            refine x_iconst C 1 dX8_reachFrom_52 (by decide) ?_
            refine x_iload C 1 dX8_reachFrom_53 rfl ?_
            refine x_ishl C dX8_reachFrom_55 ?_
            refine x_ior C dX8_reachFrom_56 ?_
            refine x_istore_n C [(3, .int (x3_5 ||| ((1 : Int32) <<< (x4_5 &&& 31)))), (5, .int r_16), (4, .int x4_5), (0, .ref hl), (1, .int a), (2, .int t)] dX8_reachFrom_57 rfl (by decide) rfl ?_
            exact J_58 (x3_5 ||| ((1 : Int32) <<< (x4_5 &&& 31))) (upd fw0_5 (Int32.toNatClampNeg r_16) 1)
  have : (0 : Int32).toInt = 0 := by decide
  exact L_5 _ 0 0 wr (by omega) (Nat.lt_succ_self _)
abbrev rm_X8_storiesAt : Room := { frames := 4, cells := 0, slots := 0, locals := 96 }
set_option maxHeartbeats 4000000 in
set_option maxRecDepth 100000 in
theorem c_X8_storiesAt (l : Launch) (D : va_G) (tys : List (ClassId × FieldType)) {cI cJ cZ cB : ClassId} (hT : Ty tys cI cJ cZ cB) (hl w0 : Nat) (wr : Nat → Int32) (hn n0 n1 n2 n3 : Nat) (na nx ns : Nat → Int32) (nw : Nat → Int64) (nr nz nt nd : Int32) (hm : Nat) (mn mo mu mg mt mb : Int32) (hb b0 b1 b2 b3 b4 b5 b6 : Nat) (pa mi ga te kn wa ne : Nat → Int32) (wc la br : Int32) (hp hs : Nat) (f : Nat → Int32) (z : Int32) (t : Int32) (hz : 0 ≤ nz.toInt ∧ nz.toInt ≤ 3784) (hpz : 0 ≤ z.toInt ∧ z.toInt ≤ 30) (hup : UPG nx nz) : Cn l D tys yX8_storiesAt cX8_storiesAt 6 (some .int) rm_X8_storiesAt [(hl, .inr (8, [.ref hb, .ref hn, .ref hp, .ref w0])), (w0, .inl (cZ, 3784, .inl wr)), (hn, .inr (4, [.ref hb, .ref hm, .ref n0, .ref n1, .ref n2, .ref n3, .int nr, .int nz, .int nt, .int nd])), (n0, .inl (cI, 3784, .inl na)), (n1, .inl (cI, 15136, .inl nx)), (n2, .inl (cJ, 3784, .inr (.inl nw))), (n3, .inl (cI, 8192, .inl ns)), (hm, .inr (3, [.ref hb, .int mn, .int mo, .int mu, .int mg, .int mt, .int mb])), (hb, .inr (0, [.ref b0, .ref b1, .ref b2, .ref b3, .ref b4, .ref b5, .ref b6, .int wc, .int la, .int br])), (b0, .inl (cI, 4, .inl pa)), (b1, .inl (cI, 16, .inl mi)), (b2, .inl (cI, 4, .inl ga)), (b3, .inl (cI, 4, .inl te)), (b4, .inl (cI, 4, .inl kn)), (b5, .inl (cI, 6, .inl wa)), (b6, .inl (cI, 16, .inl ne)), (hp, .inr (6, [.ref hs, .int z])), (hs, .inl (cI, 30, .inl f))] [.ref hl, .int t] (fun v W1 => ∃ (r : Int32) (nw2 : Nat → Int64) (wr2 : Nat → Int32), v = some (.int r) ∧ W1 = [(hl, .inr (8, [.ref hb, .ref hn, .ref hp, .ref w0])), (w0, .inl (cZ, 3784, .inl wr2)), (hn, .inr (4, [.ref hb, .ref hm, .ref n0, .ref n1, .ref n2, .ref n3, .int nr, .int nz, .int nt, .int nd])), (n0, .inl (cI, 3784, .inl na)), (n1, .inl (cI, 15136, .inl nx)), (n2, .inl (cJ, 3784, .inr (.inl nw2))), (n3, .inl (cI, 8192, .inl ns)), (hm, .inr (3, [.ref hb, .int mn, .int mo, .int mu, .int mg, .int mt, .int mb])), (hb, .inr (0, [.ref b0, .ref b1, .ref b2, .ref b3, .ref b4, .ref b5, .ref b6, .int wc, .int la, .int br])), (b0, .inl (cI, 4, .inl pa)), (b1, .inl (cI, 16, .inl mi)), (b2, .inl (cI, 4, .inl ga)), (b3, .inl (cI, 4, .inl te)), (b4, .inl (cI, 4, .inl kn)), (b5, .inl (cI, 6, .inl wa)), (b6, .inl (cI, 16, .inl ne)), (hp, .inr (6, [.ref hs, .int z])), (hs, .inl (cI, 30, .inl f))] ∧ (True)) := by
  refine Cn.of (by decide) (Nat.le_of_ble_eq_true rfl) ?_ ?_ (fun X eL eD eT eO eK eN eM C => ?_)
  · intro h; cases h
  · intro v ws h; obtain ⟨_, _, _, rfl, rfl, _⟩ := h; exact Or.inl rfl
  subst eL eD eT
  show V X 6 [(hl, .inr (8, [.ref hb, .ref hn, .ref hp, .ref w0])), (w0, .inl (cZ, 3784, .inl wr)), (hn, .inr (4, [.ref hb, .ref hm, .ref n0, .ref n1, .ref n2, .ref n3, .int nr, .int nz, .int nt, .int nd])), (n0, .inl (cI, 3784, .inl na)), (n1, .inl (cI, 15136, .inl nx)), (n2, .inl (cJ, 3784, .inr (.inl nw))), (n3, .inl (cI, 8192, .inl ns)), (hm, .inr (3, [.ref hb, .int mn, .int mo, .int mu, .int mg, .int mt, .int mb])), (hb, .inr (0, [.ref b0, .ref b1, .ref b2, .ref b3, .ref b4, .ref b5, .ref b6, .int wc, .int la, .int br])), (b0, .inl (cI, 4, .inl pa)), (b1, .inl (cI, 16, .inl mi)), (b2, .inl (cI, 4, .inl ga)), (b3, .inl (cI, 4, .inl te)), (b4, .inl (cI, 4, .inl kn)), (b5, .inl (cI, 6, .inl wa)), (b6, .inl (cI, 16, .inl ne)), (hp, .inr (6, [.ref hs, .int z])), (hs, .inl (cI, 30, .inl f))] [(0, .ref hl), (1, .int t)] [] 0 0 0
  refine x_aload_n C 0 dX8_storiesAt_0 rfl rfl ?_
  refine x_callV C [] [] [0, 1, 2, 3, 4, 5, 6, 7, 8, 9, 10, 11, 12, 13, 14, 15, 16, 17] [] (q0 := 0) (c_X8_evenings (xl X) (xD X) (xt X) hT hl w0 wr hn n0 n1 n2 n3 na nx ns nw nr nz nt nd hm mn mo mu mg mt mb hb b0 b1 b2 b3 b4 b5 b6 pa mi ga te kn wa ne wc la br hp hs f z (by omega) (by omega) hup) dX8_storiesAt_1 wd_807 wd_774 wd_775 wd_40 wd_776 (np := 0) ⟨by decide, by decide, by decide +kernel⟩ rfl rfl (Nat.le_of_ble_eq_true rfl) (by decide) rfl rfl rfl rfl (by decide) rfl (by decide) (by decide) (fun v W1 h => ?_)
  obtain ⟨r_1, nw2_1, rfl, rfl, h_1⟩ := h
  show V X 6 [(hl, .inr (8, [.ref hb, .ref hn, .ref hp, .ref w0])), (w0, .inl (cZ, 3784, .inl wr)), (hn, .inr (4, [.ref hb, .ref hm, .ref n0, .ref n1, .ref n2, .ref n3, .int nr, .int nz, .int nt, .int nd])), (n0, .inl (cI, 3784, .inl na)), (n1, .inl (cI, 15136, .inl nx)), (n2, .inl (cJ, 3784, .inr (.inl nw2_1))), (n3, .inl (cI, 8192, .inl ns)), (hm, .inr (3, [.ref hb, .int mn, .int mo, .int mu, .int mg, .int mt, .int mb])), (hb, .inr (0, [.ref b0, .ref b1, .ref b2, .ref b3, .ref b4, .ref b5, .ref b6, .int wc, .int la, .int br])), (b0, .inl (cI, 4, .inl pa)), (b1, .inl (cI, 16, .inl mi)), (b2, .inl (cI, 4, .inl ga)), (b3, .inl (cI, 4, .inl te)), (b4, .inl (cI, 4, .inl kn)), (b5, .inl (cI, 6, .inl wa)), (b6, .inl (cI, 16, .inl ne)), (hp, .inr (6, [.ref hs, .int z])), (hs, .inl (cI, 30, .inl f))] [(0, .ref hl), (1, .int t)] [.long r_1] 4 0 0
  refine x_pop2 C dX8_storiesAt_4 rfl ?_
  refine x_iconst C 0 dX8_storiesAt_5 (by decide) ?_
  refine x_istore_n C [(2, .int 0), (0, .ref hl), (1, .int t)] dX8_storiesAt_6 rfl (by decide) rfl ?_
  have L_7 : ∀ (n_7 : Nat) (x2_7 : Int32) (fw0_7 : Nat → Int32), ((0 ≤ x2_7.toInt ∧ x2_7.toInt ≤ nz.toInt)) → ((nz.toInt - x2_7.toInt).toNat < n_7) → V X 6 [(hl, .inr (8, [.ref hb, .ref hn, .ref hp, .ref w0])), (w0, .inl (cZ, 3784, .inl fw0_7)), (hn, .inr (4, [.ref hb, .ref hm, .ref n0, .ref n1, .ref n2, .ref n3, .int nr, .int nz, .int nt, .int nd])), (n0, .inl (cI, 3784, .inl na)), (n1, .inl (cI, 15136, .inl nx)), (n2, .inl (cJ, 3784, .inr (.inl nw2_1))), (n3, .inl (cI, 8192, .inl ns)), (hm, .inr (3, [.ref hb, .int mn, .int mo, .int mu, .int mg, .int mt, .int mb])), (hb, .inr (0, [.ref b0, .ref b1, .ref b2, .ref b3, .ref b4, .ref b5, .ref b6, .int wc, .int la, .int br])), (b0, .inl (cI, 4, .inl pa)), (b1, .inl (cI, 16, .inl mi)), (b2, .inl (cI, 4, .inl ga)), (b3, .inl (cI, 4, .inl te)), (b4, .inl (cI, 4, .inl kn)), (b5, .inl (cI, 6, .inl wa)), (b6, .inl (cI, 16, .inl ne)), (hp, .inr (6, [.ref hs, .int z])), (hs, .inl (cI, 30, .inl f))] [(2, .int x2_7), (0, .ref hl), (1, .int t)] [] 7 0 0 := by
    intro n_7
    induction n_7 with
    | zero =>
      intro x2_7 fw0_7 i_7 m_7
      exact absurd m_7 (Nat.not_lt_zero _)
    | succ n_7 ih_7 =>
      intro x2_7 fw0_7 i_7 m_7
      refine x_iload_n C 0 dX8_storiesAt_7 rfl rfl ?_
      refine x_aload_n C 1 dX8_storiesAt_8 rfl rfl ?_
      refine x_get C 0 1 dX8_storiesAt_9 inlX8 rfl (by decide) wd_111 rfl rfl rfl ?_
      refine x_getN C 2 7 dX8_storiesAt_12 inlX4 rfl (by decide) nt_38 rfl rfl rfl ?_
      refine x_icmp_ge C 39 dX8_storiesAt_15 (by decide) (fun c_15 => ?_) (fun c_15 => ?_)
      · skip
        have e_15 : (nz : Int32).toInt ≤ (x2_7 : Int32).toInt := i_le.mp c_15
        refine x_iconst C 0 dX8_storiesAt_39 (by decide) ?_
        refine x_istore_n C [(2, .int 0), (0, .ref hl), (1, .int t)] dX8_storiesAt_40 rfl (by decide) rfl ?_
        refine x_iconst C 0 dX8_storiesAt_41 (by decide) ?_
        refine x_istore_n C [(3, .int 0), (2, .int 0), (0, .ref hl), (1, .int t)] dX8_storiesAt_42 rfl (by decide) rfl ?_
        have L_43 : ∀ (n_43 : Nat) (x3_43 : Int32) (x2_43 : Int32) (fw0_43 : Nat → Int32), ((0 ≤ x3_43.toInt ∧ x3_43.toInt ≤ nz.toInt)) → ((nz.toInt - x3_43.toInt).toNat < n_43) → V X 6 [(hl, .inr (8, [.ref hb, .ref hn, .ref hp, .ref w0])), (w0, .inl (cZ, 3784, .inl fw0_43)), (hn, .inr (4, [.ref hb, .ref hm, .ref n0, .ref n1, .ref n2, .ref n3, .int nr, .int nz, .int nt, .int nd])), (n0, .inl (cI, 3784, .inl na)), (n1, .inl (cI, 15136, .inl nx)), (n2, .inl (cJ, 3784, .inr (.inl nw2_1))), (n3, .inl (cI, 8192, .inl ns)), (hm, .inr (3, [.ref hb, .int mn, .int mo, .int mu, .int mg, .int mt, .int mb])), (hb, .inr (0, [.ref b0, .ref b1, .ref b2, .ref b3, .ref b4, .ref b5, .ref b6, .int wc, .int la, .int br])), (b0, .inl (cI, 4, .inl pa)), (b1, .inl (cI, 16, .inl mi)), (b2, .inl (cI, 4, .inl ga)), (b3, .inl (cI, 4, .inl te)), (b4, .inl (cI, 4, .inl kn)), (b5, .inl (cI, 6, .inl wa)), (b6, .inl (cI, 16, .inl ne)), (hp, .inr (6, [.ref hs, .int z])), (hs, .inl (cI, 30, .inl f))] [(3, .int x3_43), (2, .int x2_43), (0, .ref hl), (1, .int t)] [] 43 0 0 := by
          intro n_43
          induction n_43 with
          | zero =>
            intro x3_43 x2_43 fw0_43 i_43 m_43
            exact absurd m_43 (Nat.not_lt_zero _)
          | succ n_43 ih_43 =>
            intro x3_43 x2_43 fw0_43 i_43 m_43
            refine x_iload_n C 0 dX8_storiesAt_43 rfl rfl ?_
            refine x_aload_n C 2 dX8_storiesAt_44 rfl rfl ?_
            refine x_get C 0 1 dX8_storiesAt_45 inlX8 rfl (by decide) wd_111 rfl rfl rfl ?_
            refine x_getN C 2 7 dX8_storiesAt_48 inlX4 rfl (by decide) nt_38 rfl rfl rfl ?_
            refine x_icmp_ge C 113 dX8_storiesAt_51 (by decide) (fun c_51 => ?_) (fun c_51 => ?_)
            · skip
              have e_51 : (nz : Int32).toInt ≤ (x3_43 : Int32).toInt := i_le.mp c_51
              refine x_iload_n C 1 dX8_storiesAt_113 rfl rfl ?_
              exact x_iret C dX8_storiesAt_114 (Nat.zero_le _) (Nat.zero_le _) (by rw [eO]; exact ⟨x2_43, nw2_1, fw0_43, rfl, rfl, trivial⟩)
            · skip
              have e_51 : ¬ ((nz : Int32).toInt ≤ (x3_43 : Int32).toInt) := fun h => c_51 (i_le.mpr h)
              refine x_aload_n C 2 dX8_storiesAt_54 rfl rfl ?_
              refine x_get C 0 1 dX8_storiesAt_55 inlX8 rfl (by decide) wd_111 rfl rfl rfl ?_
              refine x_getN C 2 2 dX8_storiesAt_58 inlX4 rfl (by decide) nt_31 rfl rfl rfl ?_
              refine x_iload_n C 0 dX8_storiesAt_61 rfl rfl ?_
              have v_62 : vp_in x3_43 3784 := (vp_in_iff.mpr (by omega))
              refine x_iald C 3 0 dX8_storiesAt_62 hT.1 rfl v_62 ?_
              refine x_callS C [.int (na (Int32.toNatClampNeg x3_43))] [(hl, .inr (8, [.ref hb, .ref hn, .ref hp, .ref w0])), (w0, .inl (cZ, 3784, .inl fw0_43)), (hn, .inr (4, [.ref hb, .ref hm, .ref n0, .ref n1, .ref n2, .ref n3, .int nr, .int nz, .int nt, .int nd])), (n0, .inl (cI, 3784, .inl na)), (n1, .inl (cI, 15136, .inl nx)), (n2, .inl (cJ, 3784, .inr (.inl nw2_1))), (n3, .inl (cI, 8192, .inl ns)), (hm, .inr (3, [.ref hb, .int mn, .int mo, .int mu, .int mg, .int mt, .int mb])), (hb, .inr (0, [.ref b0, .ref b1, .ref b2, .ref b3, .ref b4, .ref b5, .ref b6, .int wc, .int la, .int br])), (b0, .inl (cI, 4, .inl pa)), (b1, .inl (cI, 16, .inl mi)), (b2, .inl (cI, 4, .inl ga)), (b3, .inl (cI, 4, .inl te)), (b4, .inl (cI, 4, .inl kn)), (b5, .inl (cI, 6, .inl wa)), (b6, .inl (cI, 16, .inl ne)), (hp, .inr (6, [.ref hs, .int z])), (hs, .inl (cI, 30, .inl f))] [] [0, 1, 2, 3, 4, 5, 6, 7, 8, 9, 10, 11, 12, 13, 14, 15, 16, 17] (c_X3_allPartsTold (xl X) (xD X) (xt X) hT (na (Int32.toNatClampNeg x3_43)) ) dX8_storiesAt_63 wd_777 wd_713 wd_71 wd_714 (np := 1) ⟨by decide, by decide, by decide +kernel⟩ rfl rfl (Nat.le_of_ble_eq_true rfl) (by decide) rfl (by decide) rfl (by decide) (by decide) (fun v W1 h => ?_)
              obtain ⟨_, rfl, rfl, h_63⟩ := h
              show V X 6 [(hl, .inr (8, [.ref hb, .ref hn, .ref hp, .ref w0])), (w0, .inl (cZ, 3784, .inl fw0_43)), (hn, .inr (4, [.ref hb, .ref hm, .ref n0, .ref n1, .ref n2, .ref n3, .int nr, .int nz, .int nt, .int nd])), (n0, .inl (cI, 3784, .inl na)), (n1, .inl (cI, 15136, .inl nx)), (n2, .inl (cJ, 3784, .inr (.inl nw2_1))), (n3, .inl (cI, 8192, .inl ns)), (hm, .inr (3, [.ref hb, .int mn, .int mo, .int mu, .int mg, .int mt, .int mb])), (hb, .inr (0, [.ref b0, .ref b1, .ref b2, .ref b3, .ref b4, .ref b5, .ref b6, .int wc, .int la, .int br])), (b0, .inl (cI, 4, .inl pa)), (b1, .inl (cI, 16, .inl mi)), (b2, .inl (cI, 4, .inl ga)), (b3, .inl (cI, 4, .inl te)), (b4, .inl (cI, 4, .inl kn)), (b5, .inl (cI, 6, .inl wa)), (b6, .inl (cI, 16, .inl ne)), (hp, .inr (6, [.ref hs, .int z])), (hs, .inl (cI, 30, .inl f))] [(3, .int x3_43), (2, .int x2_43), (0, .ref hl), (1, .int t)] [.int (ptI (na (Int32.toNatClampNeg x3_43)) 0 + ptI (na (Int32.toNatClampNeg x3_43)) 1 + ptI (na (Int32.toNatClampNeg x3_43)) 2 + ptI (na (Int32.toNatClampNeg x3_43)) 3)] 66 0 0
              refine x_istore C [(4, .int (ptI (na (Int32.toNatClampNeg x3_43)) 0 + ptI (na (Int32.toNatClampNeg x3_43)) 1 + ptI (na (Int32.toNatClampNeg x3_43)) 2 + ptI (na (Int32.toNatClampNeg x3_43)) 3)), (3, .int x3_43), (2, .int x2_43), (0, .ref hl), (1, .int t)] dX8_storiesAt_66 (by decide) rfl ?_
              refine x_aload_n C 3 dX8_storiesAt_68 rfl rfl ?_
              refine x_get C 0 3 dX8_storiesAt_69 inlX8 rfl (by decide) wd_109 rfl rfl rfl ?_
              refine x_iload_n C 1 dX8_storiesAt_72 rfl rfl ?_
              have v_73 : vp_in x3_43 3784 := (vp_in_iff.mpr (by omega))
              refine x_zald C 1 2 dX8_storiesAt_73 hT.2.2.1 rfl v_73 ?_
              have J_107 : ∀ (x2_107 : Int32) (fw0_107 : Nat → Int32), V X 6 [(hl, .inr (8, [.ref hb, .ref hn, .ref hp, .ref w0])), (w0, .inl (cZ, 3784, .inl fw0_107)), (hn, .inr (4, [.ref hb, .ref hm, .ref n0, .ref n1, .ref n2, .ref n3, .int nr, .int nz, .int nt, .int nd])), (n0, .inl (cI, 3784, .inl na)), (n1, .inl (cI, 15136, .inl nx)), (n2, .inl (cJ, 3784, .inr (.inl nw2_1))), (n3, .inl (cI, 8192, .inl ns)), (hm, .inr (3, [.ref hb, .int mn, .int mo, .int mu, .int mg, .int mt, .int mb])), (hb, .inr (0, [.ref b0, .ref b1, .ref b2, .ref b3, .ref b4, .ref b5, .ref b6, .int wc, .int la, .int br])), (b0, .inl (cI, 4, .inl pa)), (b1, .inl (cI, 16, .inl mi)), (b2, .inl (cI, 4, .inl ga)), (b3, .inl (cI, 4, .inl te)), (b4, .inl (cI, 4, .inl kn)), (b5, .inl (cI, 6, .inl wa)), (b6, .inl (cI, 16, .inl ne)), (hp, .inr (6, [.ref hs, .int z])), (hs, .inl (cI, 30, .inl f))] [(4, .int (ptI (na (Int32.toNatClampNeg x3_43)) 0 + ptI (na (Int32.toNatClampNeg x3_43)) 1 + ptI (na (Int32.toNatClampNeg x3_43)) 2 + ptI (na (Int32.toNatClampNeg x3_43)) 3)), (3, .int x3_43), (2, .int x2_107), (0, .ref hl), (1, .int t)] [] 107 0 0 := by
                intro x2_107 fw0_107
                refine x_iinc C 1 (x3_43 + 1) [(3, .int (x3_43 + 1)), (4, .int (ptI (na (Int32.toNatClampNeg x3_43)) 0 + ptI (na (Int32.toNatClampNeg x3_43)) 1 + ptI (na (Int32.toNatClampNeg x3_43)) 2 + ptI (na (Int32.toNatClampNeg x3_43)) 3)), (2, .int x2_107), (0, .ref hl), (1, .int t)] dX8_storiesAt_107 rfl rfl (by decide) rfl ?_
                refine x_goto C 43 dX8_storiesAt_110 (by decide) ?_
                refine x_lv [(3, .int (x3_43 + 1)), (2, .int x2_107), (0, .ref hl), (1, .int t)] [0, 2, 3, 4] rfl ?_
                have : (1 : Int32).toInt = 1 := by decide
                have := i_add (x := x3_43) (y := 1) (by omega) (by omega)
                exact ih_43 (x3_43 + 1) x2_107 fw0_107 (by omega) (by omega)
              refine x_if_eq C 107 dX8_storiesAt_74 (by decide) (fun c_74 => ?_) (fun c_74 => ?_)
              · skip
                have e_74 : (fw0_43 (Int32.toNatClampNeg x3_43) : Int32).toInt = (0 : Int32).toInt := i_eq.mp c_74
                have : (0 : Int32).toInt = 0 := by decide
                exact J_107 x2_43 fw0_43
              · skip
                have e_74 : ¬ ((fw0_43 (Int32.toNatClampNeg x3_43) : Int32).toInt = (0 : Int32).toInt) := fun h => c_74 (i_eq.mpr h)
                have : (0 : Int32).toInt = 0 := by decide
                refine x_iload C 0 dX8_storiesAt_77 rfl ?_
                refine x_iload_n C 4 dX8_storiesAt_79 rfl rfl ?_
                refine x_icmp_gt C 107 dX8_storiesAt_80 (by decide) (fun c_80 => ?_) (fun c_80 => ?_)
                · skip
                  have e_80 : (t : Int32).toInt < (ptI (na (Int32.toNatClampNeg x3_43)) 0 + ptI (na (Int32.toNatClampNeg x3_43)) 1 + ptI (na (Int32.toNatClampNeg x3_43)) 2 + ptI (na (Int32.toNatClampNeg x3_43)) 3 : Int32).toInt := i_lt.mp c_80
                  exact J_107 x2_43 fw0_43
                · skip
                  have e_80 : ¬ ((t : Int32).toInt < (ptI (na (Int32.toNatClampNeg x3_43)) 0 + ptI (na (Int32.toNatClampNeg x3_43)) 1 + ptI (na (Int32.toNatClampNeg x3_43)) 2 + ptI (na (Int32.toNatClampNeg x3_43)) 3 : Int32).toInt) := fun h => c_80 (i_lt.mpr h)
                  refine x_aload_n C 3 dX8_storiesAt_83 rfl rfl ?_
                  refine x_iload_n C 1 dX8_storiesAt_84 rfl rfl ?_
                  refine x_iload C 0 dX8_storiesAt_85 rfl ?_
                  refine x_callV C [.int x3_43, .int (ptI (na (Int32.toNatClampNeg x3_43)) 0 + ptI (na (Int32.toNatClampNeg x3_43)) 1 + ptI (na (Int32.toNatClampNeg x3_43)) 2 + ptI (na (Int32.toNatClampNeg x3_43)) 3)] [] [0, 1, 2, 3, 4, 5, 6, 7, 8, 9, 10, 11, 12, 13, 14, 15, 16, 17] [] (q0 := 0) (c_X8_reachFrom (xl X) (xD X) (xt X) hT hl w0 fw0_43 hn n0 n1 n2 n3 na nx ns nw2_1 nr nz nt nd hm mn mo mu mg mt mb hb b0 b1 b2 b3 b4 b5 b6 pa mi ga te kn wa ne wc la br hp hs f z x3_43 (ptI (na (Int32.toNatClampNeg x3_43)) 0 + ptI (na (Int32.toNatClampNeg x3_43)) 1 + ptI (na (Int32.toNatClampNeg x3_43)) 2 + ptI (na (Int32.toNatClampNeg x3_43)) 3) (by omega) (by omega) (by omega) (by omega)) dX8_storiesAt_87 wd_824 wd_825 wd_826 wd_40 wd_827 (np := 2) ⟨by decide, by decide, by decide +kernel⟩ rfl rfl (Nat.le_of_ble_eq_true rfl) (by decide) rfl rfl rfl rfl (by decide) rfl (by decide) (by decide) (fun v W1 h => ?_)
                  obtain ⟨r_87, wr2_87, rfl, rfl, h_87⟩ := h
                  show V X 6 [(hl, .inr (8, [.ref hb, .ref hn, .ref hp, .ref w0])), (w0, .inl (cZ, 3784, .inl wr2_87)), (hn, .inr (4, [.ref hb, .ref hm, .ref n0, .ref n1, .ref n2, .ref n3, .int nr, .int nz, .int nt, .int nd])), (n0, .inl (cI, 3784, .inl na)), (n1, .inl (cI, 15136, .inl nx)), (n2, .inl (cJ, 3784, .inr (.inl nw2_1))), (n3, .inl (cI, 8192, .inl ns)), (hm, .inr (3, [.ref hb, .int mn, .int mo, .int mu, .int mg, .int mt, .int mb])), (hb, .inr (0, [.ref b0, .ref b1, .ref b2, .ref b3, .ref b4, .ref b5, .ref b6, .int wc, .int la, .int br])), (b0, .inl (cI, 4, .inl pa)), (b1, .inl (cI, 16, .inl mi)), (b2, .inl (cI, 4, .inl ga)), (b3, .inl (cI, 4, .inl te)), (b4, .inl (cI, 4, .inl kn)), (b5, .inl (cI, 6, .inl wa)), (b6, .inl (cI, 16, .inl ne)), (hp, .inr (6, [.ref hs, .int z])), (hs, .inl (cI, 30, .inl f))] [(4, .int (ptI (na (Int32.toNatClampNeg x3_43)) 0 + ptI (na (Int32.toNatClampNeg x3_43)) 1 + ptI (na (Int32.toNatClampNeg x3_43)) 2 + ptI (na (Int32.toNatClampNeg x3_43)) 3)), (3, .int x3_43), (2, .int x2_43), (0, .ref hl), (1, .int t)] [.int r_87] 90 0 0
                  refine x_istore C [(5, .int r_87), (4, .int (ptI (na (Int32.toNatClampNeg x3_43)) 0 + ptI (na (Int32.toNatClampNeg x3_43)) 1 + ptI (na (Int32.toNatClampNeg x3_43)) 2 + ptI (na (Int32.toNatClampNeg x3_43)) 3)), (3, .int x3_43), (2, .int x2_43), (0, .ref hl), (1, .int t)] dX8_storiesAt_90 (by decide) rfl ?_
                  refine x_iload_n C 3 dX8_storiesAt_92 rfl rfl ?_
                  refine x_iload C 1 dX8_storiesAt_93 rfl ?_
                  refine x_iload_n C 5 dX8_storiesAt_95 rfl rfl ?_
                  have J_105 : ∀ (s0_105 : Int32), V X 6 [(hl, .inr (8, [.ref hb, .ref hn, .ref hp, .ref w0])), (w0, .inl (cZ, 3784, .inl wr2_87)), (hn, .inr (4, [.ref hb, .ref hm, .ref n0, .ref n1, .ref n2, .ref n3, .int nr, .int nz, .int nt, .int nd])), (n0, .inl (cI, 3784, .inl na)), (n1, .inl (cI, 15136, .inl nx)), (n2, .inl (cJ, 3784, .inr (.inl nw2_1))), (n3, .inl (cI, 8192, .inl ns)), (hm, .inr (3, [.ref hb, .int mn, .int mo, .int mu, .int mg, .int mt, .int mb])), (hb, .inr (0, [.ref b0, .ref b1, .ref b2, .ref b3, .ref b4, .ref b5, .ref b6, .int wc, .int la, .int br])), (b0, .inl (cI, 4, .inl pa)), (b1, .inl (cI, 16, .inl mi)), (b2, .inl (cI, 4, .inl ga)), (b3, .inl (cI, 4, .inl te)), (b4, .inl (cI, 4, .inl kn)), (b5, .inl (cI, 6, .inl wa)), (b6, .inl (cI, 16, .inl ne)), (hp, .inr (6, [.ref hs, .int z])), (hs, .inl (cI, 30, .inl f))] [(5, .int r_87), (4, .int (ptI (na (Int32.toNatClampNeg x3_43)) 0 + ptI (na (Int32.toNatClampNeg x3_43)) 1 + ptI (na (Int32.toNatClampNeg x3_43)) 2 + ptI (na (Int32.toNatClampNeg x3_43)) 3)), (3, .int x3_43), (2, .int x2_43), (0, .ref hl), (1, .int t)] [.int s0_105, .int x2_43] 105 0 0 := by
                    intro s0_105
                    refine x_ior C dX8_storiesAt_105 ?_
                    refine x_istore_n C [(2, .int (x2_43 ||| s0_105)), (5, .int r_87), (4, .int (ptI (na (Int32.toNatClampNeg x3_43)) 0 + ptI (na (Int32.toNatClampNeg x3_43)) 1 + ptI (na (Int32.toNatClampNeg x3_43)) 2 + ptI (na (Int32.toNatClampNeg x3_43)) 3)), (3, .int x3_43), (0, .ref hl), (1, .int t)] dX8_storiesAt_106 rfl (by decide) rfl ?_
                    refine x_lv [(4, .int (ptI (na (Int32.toNatClampNeg x3_43)) 0 + ptI (na (Int32.toNatClampNeg x3_43)) 1 + ptI (na (Int32.toNatClampNeg x3_43)) 2 + ptI (na (Int32.toNatClampNeg x3_43)) 3)), (3, .int x3_43), (2, .int (x2_43 ||| s0_105)), (0, .ref hl), (1, .int t)] [2, 3, 0, 4, 5] rfl ?_
                    exact J_107 (x2_43 ||| s0_105) wr2_87
                  refine x_icmp_ne C 104 dX8_storiesAt_96 (by decide) (fun c_96 => ?_) (fun c_96 => ?_)
                  · skip
                    have e_96 : ¬ ((ptI (na (Int32.toNatClampNeg x3_43)) 0 + ptI (na (Int32.toNatClampNeg x3_43)) 1 + ptI (na (Int32.toNatClampNeg x3_43)) 2 + ptI (na (Int32.toNatClampNeg x3_43)) 3 : Int32).toInt = (t : Int32).toInt) := fun h => c_96 (i_eq.mpr h)
                    refine x_iconst C 0 dX8_storiesAt_104 (by decide) ?_
                    exact J_105 0
                  · skip
                    have e_96 : (ptI (na (Int32.toNatClampNeg x3_43)) 0 + ptI (na (Int32.toNatClampNeg x3_43)) 1 + ptI (na (Int32.toNatClampNeg x3_43)) 2 + ptI (na (Int32.toNatClampNeg x3_43)) 3 : Int32).toInt = (t : Int32).toInt := i_eq.mp c_96
                    refine x_iload C 0 dX8_storiesAt_99 rfl ?_
                    refine x_goto C 105 dX8_storiesAt_101 (by decide) ?_
                    exact J_105 r_87
        have : (0 : Int32).toInt = 0 := by decide
        exact L_43 _ 0 0 fw0_7 (by omega) (Nat.lt_succ_self _)
      · skip
        have e_15 : ¬ ((nz : Int32).toInt ≤ (x2_7 : Int32).toInt) := fun h => c_15 (i_le.mpr h)
        refine x_aload_n C 1 dX8_storiesAt_18 rfl rfl ?_
        refine x_get C 0 3 dX8_storiesAt_19 inlX8 rfl (by decide) wd_109 rfl rfl rfl ?_
        refine x_iload_n C 0 dX8_storiesAt_22 rfl rfl ?_
        refine x_iload_n C 0 dX8_storiesAt_23 rfl rfl ?_
        have J_32 : ∀ (s0_32 : Int32), (s0_32.toInt = 0 ∨ s0_32.toInt = 1) → V X 6 [(hl, .inr (8, [.ref hb, .ref hn, .ref hp, .ref w0])), (w0, .inl (cZ, 3784, .inl fw0_7)), (hn, .inr (4, [.ref hb, .ref hm, .ref n0, .ref n1, .ref n2, .ref n3, .int nr, .int nz, .int nt, .int nd])), (n0, .inl (cI, 3784, .inl na)), (n1, .inl (cI, 15136, .inl nx)), (n2, .inl (cJ, 3784, .inr (.inl nw2_1))), (n3, .inl (cI, 8192, .inl ns)), (hm, .inr (3, [.ref hb, .int mn, .int mo, .int mu, .int mg, .int mt, .int mb])), (hb, .inr (0, [.ref b0, .ref b1, .ref b2, .ref b3, .ref b4, .ref b5, .ref b6, .int wc, .int la, .int br])), (b0, .inl (cI, 4, .inl pa)), (b1, .inl (cI, 16, .inl mi)), (b2, .inl (cI, 4, .inl ga)), (b3, .inl (cI, 4, .inl te)), (b4, .inl (cI, 4, .inl kn)), (b5, .inl (cI, 6, .inl wa)), (b6, .inl (cI, 16, .inl ne)), (hp, .inr (6, [.ref hs, .int z])), (hs, .inl (cI, 30, .inl f))] [(2, .int x2_7), (0, .ref hl), (1, .int t)] [.int s0_32, .int x2_7, .ref w0] 32 0 0 := by
          intro s0_32 i_32
          have v_32 : vp_in x2_7 3784 := (vp_in_iff.mpr (by omega))
          refine x_zast C 1 2 [(hl, .inr (8, [.ref hb, .ref hn, .ref hp, .ref w0])), (w0, .inl (cZ, 3784, .inl (upd fw0_7 (Int32.toNatClampNeg x2_7) s0_32))), (hn, .inr (4, [.ref hb, .ref hm, .ref n0, .ref n1, .ref n2, .ref n3, .int nr, .int nz, .int nt, .int nd])), (n0, .inl (cI, 3784, .inl na)), (n1, .inl (cI, 15136, .inl nx)), (n2, .inl (cJ, 3784, .inr (.inl nw2_1))), (n3, .inl (cI, 8192, .inl ns)), (hm, .inr (3, [.ref hb, .int mn, .int mo, .int mu, .int mg, .int mt, .int mb])), (hb, .inr (0, [.ref b0, .ref b1, .ref b2, .ref b3, .ref b4, .ref b5, .ref b6, .int wc, .int la, .int br])), (b0, .inl (cI, 4, .inl pa)), (b1, .inl (cI, 16, .inl mi)), (b2, .inl (cI, 4, .inl ga)), (b3, .inl (cI, 4, .inl te)), (b4, .inl (cI, 4, .inl kn)), (b5, .inl (cI, 6, .inl wa)), (b6, .inl (cI, 16, .inl ne)), (hp, .inr (6, [.ref hs, .int z])), (hs, .inl (cI, 30, .inl f))] dX8_storiesAt_32 hT.2.2.1 rfl v_32 (z_vn i_32) rfl ?_
          refine x_iinc C 0 (x2_7 + 1) [(2, .int (x2_7 + 1)), (0, .ref hl), (1, .int t)] dX8_storiesAt_33 rfl rfl (by decide) rfl ?_
          refine x_goto C 7 dX8_storiesAt_36 (by decide) ?_
          have : (1 : Int32).toInt = 1 := by decide
          have := i_add (x := x2_7) (y := 1) (by omega) (by omega)
          exact ih_7 (x2_7 + 1) (upd fw0_7 (Int32.toNatClampNeg x2_7) s0_32) (by omega) (by omega)
        refine x_if_ne C 31 dX8_storiesAt_24 (by decide) (fun c_24 => ?_) (fun c_24 => ?_)
        · skip
          have e_24 : ¬ ((x2_7 : Int32).toInt = (0 : Int32).toInt) := fun h => c_24 (i_eq.mpr h)
          have : (0 : Int32).toInt = 0 := by decide
          refine x_iconst C 0 dX8_storiesAt_31 (by decide) ?_
          have : (0 : Int32).toInt = 0 := by decide
          exact J_32 0 (by omega)
        · skip
          have e_24 : (x2_7 : Int32).toInt = (0 : Int32).toInt := i_eq.mp c_24
          have : (0 : Int32).toInt = 0 := by decide
          refine x_iconst C 1 dX8_storiesAt_27 (by decide) ?_
          refine x_goto C 32 dX8_storiesAt_28 (by decide) ?_
          have : (1 : Int32).toInt = 1 := by decide
          exact J_32 1 (by omega)
  have : (0 : Int32).toInt = 0 := by decide
  exact L_7 _ 0 wr (by omega) (Nat.lt_succ_self _)
/-! LEVEL 4: rings of waits, the class's side -/
/-- the stories of a set that wait for another one of it -/
def wtS (wa : Nat → Int32) (a d : Int32) : Nat → Int32
  | 0 => 0
  | n + 1 => if ((d >>> (nI n &&& 31)) &&& 1 = 0 ∧ ¬ (a >>> (nI ((wa n).toInt % 10).toNat &&& 31)) &&& 1 = 0) ∧ ¬ (a >>> (nI ((wa n).toInt / 100).toNat &&& 31)) &&& 1 = 0 then wtS wa a d n ||| ((1 : Int32) <<< (nI ((wa n).toInt / 100).toNat &&& 31)) else wtS wa a d n
theorem wt_t {wa : Nat → Int32} {a d x y s o : Int32} (h0 : 0 ≤ x.toInt) (hy : y.toInt = x.toInt + 1) (hs : s.toInt = (wa x.toNatClampNeg).toInt / 100) (hs0 : 0 ≤ s.toInt) (ho : o.toInt = (wa x.toNatClampNeg).toInt % 10) (ho0 : 0 ≤ o.toInt) (hc : ((d >>> (x &&& 31)) &&& 1 = 0 ∧ ¬ (a >>> (o &&& 31)) &&& 1 = 0) ∧ ¬ (a >>> (s &&& 31)) &&& 1 = 0) : wtS wa a d y.toInt.toNat = wtS wa a d x.toInt.toNat ||| ((1 : Int32) <<< (s &&& 31)) := by
  have es : nI ((wa x.toInt.toNat).toInt / 100).toNat = s := by rw [show (wa x.toInt.toNat).toInt / 100 = s.toInt from hs.symm]; exact (nI_sl hs0).symm
  have eo : nI ((wa x.toInt.toNat).toInt % 10).toNat = o := by rw [show (wa x.toInt.toNat).toInt % 10 = o.toInt from ho.symm]; exact (nI_sl ho0).symm
  rw [show y.toInt.toNat = x.toInt.toNat + 1 by omega, wtS, ← nI_sl h0, es, eo, if_pos hc]
theorem wt_f {wa : Nat → Int32} {a d x y s o : Int32} (h0 : 0 ≤ x.toInt) (hy : y.toInt = x.toInt + 1) (hs : s.toInt = (wa x.toNatClampNeg).toInt / 100) (hs0 : 0 ≤ s.toInt) (ho : o.toInt = (wa x.toNatClampNeg).toInt % 10) (ho0 : 0 ≤ o.toInt) (hc : ¬ (((d >>> (x &&& 31)) &&& 1 = 0 ∧ ¬ (a >>> (o &&& 31)) &&& 1 = 0) ∧ ¬ (a >>> (s &&& 31)) &&& 1 = 0)) : wtS wa a d y.toInt.toNat = wtS wa a d x.toInt.toNat := by
  have es : nI ((wa x.toInt.toNat).toInt / 100).toNat = s := by rw [show (wa x.toInt.toNat).toInt / 100 = s.toInt from hs.symm]; exact (nI_sl hs0).symm
  have eo : nI ((wa x.toInt.toNat).toInt % 10).toNat = o := by rw [show (wa x.toInt.toNat).toInt % 10 = o.toInt from ho.symm]; exact (nI_sl ho0).symm
  rw [show y.toInt.toNat = x.toInt.toNat + 1 by omega, wtS, ← nI_sl h0, es, eo, if_neg hc]
theorem wt_d {wa : Nat → Int32} {a d x y : Int32} (h0 : 0 ≤ x.toInt) (hy : y.toInt = x.toInt + 1) (hc : ¬ (d >>> (x &&& 31)) &&& 1 = 0) : wtS wa a d y.toInt.toNat = wtS wa a d x.toInt.toNat := by
  rw [show y.toInt.toNat = x.toInt.toNat + 1 by omega, wtS, ← nI_sl h0, if_neg (fun h => hc h.1.1)]
def rgI (wa : Nat → Int32) (n : Nat) (d a : Int32) : Nat → Int32
  | 0 => a
  | k + 1 => wtS wa (rgI wa n d a k) d n
/-- which of the sets 1 to 15 are so -/
def rbn (p : Nat → Bool) : Nat → Int32
  | 0 => 0
  | n + 1 => if p (n + 1) then rbn p n ||| ((1 : Int32) <<< (nI n &&& 31)) else rbn p n
theorem rbn_cg {p q : Nat → Bool} : ∀ n : Nat, (∀ k : Nat, 1 ≤ k → k ≤ n → p k = q k) → rbn p n = rbn q n := by
  intro n
  induction n with
  | zero => intro _; rfl
  | succ n ih => intro h; rw [rbn, rbn, ih (fun k h1 h2 => h k h1 (by omega)), h (n + 1) (by omega) (by omega)]
/-- a number whose bits are those of the sets below x that are so: yes, or no -/
def RBI (g x : Int32) (Y N : Nat → Prop) : Prop := ∃ p : Nat → Bool, (∀ k : Nat, 1 ≤ k → (k : Int) < x.toInt → ((p k = true ∧ Y k) ∨ (p k = false ∧ N k))) ∧ g = rbn p (x.toInt - 1).toNat
def RBS (g : Int32) (Y N : Nat → Prop) : Prop := ∃ p : Nat → Bool, (∀ k : Nat, 1 ≤ k → k ≤ 15 → ((p k = true ∧ Y k) ∨ (p k = false ∧ N k))) ∧ g = rbn p 15
theorem RBI.z {x : Int32} {Y N : Nat → Prop} (h : x.toInt = 1) : RBI 0 x Y N := ⟨fun _ => false, fun k h1 h2 => by omega, by rw [h]; rfl⟩
theorem RBI.yes {g x y : Int32} {Y N : Nat → Prop} (h : RBI g x Y N) (h0 : 1 ≤ x.toInt) (h9 : x.toInt ≤ 16) (hy : y.toInt = x.toInt + 1) (hp : Y x.toInt.toNat) : RBI (g ||| ((1 : Int32) <<< ((x - 1) &&& 31))) y Y N := by
  obtain ⟨p, h1, h2⟩ := h
  have t1 := t1_
  have s := i_sub (x := x) (y := 1) (by omega) (by omega)
  have e : x - 1 = nI (x.toInt - 1).toNat := by
    rw [show x.toInt - 1 = (x - 1).toInt by omega]; exact nI_sl (by omega)
  refine ⟨fun k => if k = x.toInt.toNat then true else p k, fun k k1 hk => ?_, ?_⟩
  · show ((if k = x.toInt.toNat then true else p k) = true ∧ Y k) ∨ ((if k = x.toInt.toNat then true else p k) = false ∧ N k)
    by_cases c : k = x.toInt.toNat
    · rw [if_pos c, c]; exact Or.inl ⟨rfl, hp⟩
    · rw [if_neg c]; exact h1 k k1 (by omega)
  · rw [show (y.toInt - 1).toNat = (x.toInt - 1).toNat + 1 by omega, rbn, if_pos (if_pos (by omega)), ← e, h2]
    congr 1
    refine rbn_cg _ fun k k1 k2 => ?_
    rw [if_neg (by omega)]
theorem RBI.no {g x y : Int32} {Y N : Nat → Prop} (h : RBI g x Y N) (h0 : 1 ≤ x.toInt) (hy : y.toInt = x.toInt + 1) (hp : N x.toInt.toNat) : RBI g y Y N := by
  obtain ⟨p, h1, h2⟩ := h
  refine ⟨fun k => if k = x.toInt.toNat then false else p k, fun k k1 hk => ?_, ?_⟩
  · show ((if k = x.toInt.toNat then false else p k) = true ∧ Y k) ∨ ((if k = x.toInt.toNat then false else p k) = false ∧ N k)
    by_cases c : k = x.toInt.toNat
    · rw [if_pos c, c]; exact Or.inr ⟨rfl, hp⟩
    · rw [if_neg c]; exact h1 k k1 (by omega)
  · rw [show (y.toInt - 1).toNat = (x.toInt - 1).toNat + 1 by omega, rbn, if_neg (by rw [if_pos (by omega)]; decide), h2]
    refine rbn_cg _ fun k k1 k2 => ?_
    rw [if_neg (by omega)]
theorem RBI.out {g x : Int32} {Y N : Nat → Prop} (h : RBI g x Y N) (hx : x.toInt = 16) : RBS g Y N := by
  obtain ⟨p, h1, h2⟩ := h
  exact ⟨p, fun k k1 k2 => h1 k k1 (by omega), by rw [h2, hx]; rfl⟩
theorem RBS.eq {g u : Int32} {Y N Y' N' : Nat → Prop} (h : RBS g Y N) (h' : RBS u Y' N') (e : ∀ k : Nat, 1 ≤ k → k ≤ 15 → ¬ (Y k ∧ N' k) ∧ ¬ (N k ∧ Y' k)) : g = u := by
  obtain ⟨p, h1, h2⟩ := h
  obtain ⟨q, h3, h4⟩ := h'
  rw [h2, h4]
  refine rbn_cg 15 fun k k1 k2 => ?_
  have e1 := e k k1 k2
  rcases h1 k k1 k2 with ⟨a, b⟩ | ⟨a, b⟩ <;> rcases h3 k k1 k2 with ⟨c, d⟩ | ⟨c, d⟩
  · rw [a, c]
  · exact absurd ⟨b, d⟩ e1.1
  · exact absurd ⟨b, d⟩ e1.2
  · rw [a, c]
/-! the fewest waits to drop -/
def pcB (d : Nat) : Int := (bcF (nI d)).toInt
def LEX (b d : Nat) : Prop := pcB b < pcB d ∨ (pcB b = pcB d ∧ b ≤ d)
/-- the best as far down as x -/
def FDI (wa : Nat → Int32) (n : Nat) (s best : Int32) (x : Int) : Prop := ∃ b : Nat, b < 2 ^ n ∧ best = nI b ∧ (b = 2 ^ n - 1 ∨ rgI wa n (nI b) s 4 = 0) ∧ ∀ d : Nat, d < 2 ^ n → x < (d : Int) → rgI wa n (nI d) s 4 = 0 → LEX b d
theorem FDI.z {wa : Nat → Int32} {n : Nat} {s best : Int32} {x : Int} (hn : 1 ≤ 2 ^ n) (hb : best = nI (2 ^ n - 1)) (hx : x = ((2 ^ n - 1 : Nat) : Int)) : FDI wa n s best x := ⟨2 ^ n - 1, by omega, hb, Or.inl rfl, fun d h1 h2 => by omega⟩
theorem FDI.keep {wa : Nat → Int32} {n : Nat} {s best x : Int32} {y : Int} (h : FDI wa n s best x.toInt) (h0 : 0 ≤ x.toInt) (hy : y = x.toInt - 1) (hc : ¬ ((bcF x).toInt ≤ (bcF best).toInt ∧ rgI wa n x s 4 = 0)) : FDI wa n s best y := by
  obtain ⟨b, b1, b2, b3, b4⟩ := h
  refine ⟨b, b1, b2, b3, fun d d1 d2 d3 => ?_⟩
  by_cases c : (d : Int) = x.toInt
  · have ex : x = nI d := by rw [show d = x.toInt.toNat by omega]; exact nI_sl h0
    rw [← ex] at d3
    have : ¬ (bcF x).toInt ≤ (bcF best).toInt := fun h9 => hc ⟨h9, d3⟩
    left
    unfold pcB
    rw [← ex, ← b2]
    omega
  · exact b4 d d1 (by omega) d3
theorem FDI.take {wa : Nat → Int32} {n : Nat} {s best x : Int32} {y : Int} (h : FDI wa n s best x.toInt) (h0 : 0 ≤ x.toInt) (hx : x.toInt < ((2 ^ n : Nat) : Int)) (hy : y = x.toInt - 1) (h1 : (bcF x).toInt ≤ (bcF best).toInt) (h2 : rgI wa n x s 4 = 0) : FDI wa n s x y := by
  obtain ⟨b, b1, b2, b3, b4⟩ := h
  have ex : x = nI x.toInt.toNat := nI_sl h0
  have le : pcB x.toInt.toNat ≤ pcB b := by unfold pcB; rw [← ex, ← b2]; exact h1
  refine ⟨x.toInt.toNat, by omega, ex, Or.inr (by rw [← ex]; exact h2), fun d d1 d2 d3 => ?_⟩
  by_cases c : (d : Int) = x.toInt
  · right; exact ⟨by rw [show d = x.toInt.toNat by omega], by omega⟩
  · rcases b4 d d1 (by omega) d3 with q | q
    · left; omega
    · by_cases e : pcB x.toInt.toNat = pcB d
      · right; exact ⟨e, by omega⟩
      · left; omega
theorem sh_pow : ∀ n : Fin 7, ((1 : Int32) <<< (nI n.val &&& 31)) - 1 = nI (2 ^ n.val - 1) ∧ (((1 : Int32) <<< (nI n.val &&& 31)) - 1).toInt = ((2 ^ n.val - 1 : Nat) : Int) ∧ ((1 : Int32) <<< (nI n.val &&& 31)).toInt = ((2 ^ n.val : Nat) : Int) ∧ 1 ≤ 2 ^ n.val := by decide +kernel
theorem sh_powI {x : Int32} (h : 0 ≤ x.toInt ∧ x.toInt ≤ 6) : ((1 : Int32) <<< (x &&& 31)) - 1 = nI (2 ^ x.toInt.toNat - 1) ∧ (((1 : Int32) <<< (x &&& 31)) - 1).toInt = ((2 ^ x.toInt.toNat - 1 : Nat) : Int) ∧ ((1 : Int32) <<< (x &&& 31)).toInt = ((2 ^ x.toInt.toNat : Nat) : Int) ∧ 1 ≤ 2 ^ x.toInt.toNat := by
  have e : x = nI x.toInt.toNat := nI_sl h.1
  have q := sh_pow ⟨x.toInt.toNat, by omega⟩
  have q : ((1 : Int32) <<< (nI x.toInt.toNat &&& 31)) - 1 = nI (2 ^ x.toInt.toNat - 1) ∧ (((1 : Int32) <<< (nI x.toInt.toNat &&& 31)) - 1).toInt = ((2 ^ x.toInt.toNat - 1 : Nat) : Int) ∧ ((1 : Int32) <<< (nI x.toInt.toNat &&& 31)).toInt = ((2 ^ x.toInt.toNat : Nat) : Int) ∧ 1 ≤ 2 ^ x.toInt.toNat := q
  rw [← e] at q
  exact q
theorem i_shl1y {x : Int32} (h : 0 ≤ x.toInt ∧ x.toInt ≤ 6) : ((1 : Int32) <<< (x &&& 31)).toInt ≤ 64 := by
  have e : x = nI x.toInt.toNat := nI_sl h.1
  have h9 : ∀ j : Fin 7, ((1 : Int32) <<< (nI j.val &&& 31)).toInt ≤ 64 := by decide
  have q : ((1 : Int32) <<< (nI x.toInt.toNat &&& 31)).toInt ≤ 64 := h9 ⟨x.toInt.toNat, by omega⟩
  rw [← e] at q
  exact q
abbrev rm_X7_waiting : Room := { frames := 1, cells := 0, slots := 0, locals := 21 }
set_option maxHeartbeats 4000000 in
set_option maxRecDepth 100000 in
theorem c_X7_waiting (l : Launch) (D : va_G) (tys : List (ClassId × FieldType)) {cI cJ cZ cB : ClassId} (hT : Ty tys cI cJ cZ cB) (hr : Nat) (hb b0 b1 b2 b3 b4 b5 b6 : Nat) (pa mi ga te kn wa ne : Nat → Int32) (wc la br : Int32) (s t : Int32) (hwc : 0 ≤ wc.toInt ∧ wc.toInt ≤ 6) (hw : WOk wa wc) : Cn l D tys yX7_waiting cX7_waiting 7 (some .int) rm_X7_waiting [(hr, .inr (7, [.ref hb])), (hb, .inr (0, [.ref b0, .ref b1, .ref b2, .ref b3, .ref b4, .ref b5, .ref b6, .int wc, .int la, .int br])), (b0, .inl (cI, 4, .inl pa)), (b1, .inl (cI, 16, .inl mi)), (b2, .inl (cI, 4, .inl ga)), (b3, .inl (cI, 4, .inl te)), (b4, .inl (cI, 4, .inl kn)), (b5, .inl (cI, 6, .inl wa)), (b6, .inl (cI, 16, .inl ne))] [.ref hr, .int s, .int t] (fun v W1 => ∃ (r : Int32), v = some (.int r) ∧ W1 = [(hr, .inr (7, [.ref hb])), (hb, .inr (0, [.ref b0, .ref b1, .ref b2, .ref b3, .ref b4, .ref b5, .ref b6, .int wc, .int la, .int br])), (b0, .inl (cI, 4, .inl pa)), (b1, .inl (cI, 16, .inl mi)), (b2, .inl (cI, 4, .inl ga)), (b3, .inl (cI, 4, .inl te)), (b4, .inl (cI, 4, .inl kn)), (b5, .inl (cI, 6, .inl wa)), (b6, .inl (cI, 16, .inl ne))] ∧ (r = wtS wa s t wc.toInt.toNat)) := by
  refine Cn.of (by decide) (Nat.le_of_ble_eq_true rfl) ?_ ?_ (fun X eL eD eT eO eK eN eM C => ?_)
  · intro h; cases h
  · intro v ws h; obtain ⟨_, rfl, rfl, _⟩ := h; exact Or.inl rfl
  subst eL eD eT
  show V X 7 [(hr, .inr (7, [.ref hb])), (hb, .inr (0, [.ref b0, .ref b1, .ref b2, .ref b3, .ref b4, .ref b5, .ref b6, .int wc, .int la, .int br])), (b0, .inl (cI, 4, .inl pa)), (b1, .inl (cI, 16, .inl mi)), (b2, .inl (cI, 4, .inl ga)), (b3, .inl (cI, 4, .inl te)), (b4, .inl (cI, 4, .inl kn)), (b5, .inl (cI, 6, .inl wa)), (b6, .inl (cI, 16, .inl ne))] [(0, .ref hr), (1, .int s), (2, .int t)] [] 0 0 0
  refine x_iconst C 0 dX7_waiting_0 (by decide) ?_
  refine x_istore_n C [(3, .int 0), (0, .ref hr), (1, .int s), (2, .int t)] dX7_waiting_1 rfl (by decide) rfl ?_
  refine x_iconst C 0 dX7_waiting_2 (by decide) ?_
  refine x_istore C [(4, .int 0), (3, .int 0), (0, .ref hr), (1, .int s), (2, .int t)] dX7_waiting_3 (by decide) rfl ?_
  have L_5 : ∀ (n_5 : Nat) (x4_5 : Int32) (x3_5 : Int32), ((0 ≤ x4_5.toInt ∧ x4_5.toInt ≤ wc.toInt) ∧ x3_5 = wtS wa s t x4_5.toInt.toNat) → ((wc.toInt - x4_5.toInt).toNat < n_5) → V X 7 [(hr, .inr (7, [.ref hb])), (hb, .inr (0, [.ref b0, .ref b1, .ref b2, .ref b3, .ref b4, .ref b5, .ref b6, .int wc, .int la, .int br])), (b0, .inl (cI, 4, .inl pa)), (b1, .inl (cI, 16, .inl mi)), (b2, .inl (cI, 4, .inl ga)), (b3, .inl (cI, 4, .inl te)), (b4, .inl (cI, 4, .inl kn)), (b5, .inl (cI, 6, .inl wa)), (b6, .inl (cI, 16, .inl ne))] [(4, .int x4_5), (3, .int x3_5), (0, .ref hr), (1, .int s), (2, .int t)] [] 5 0 0 := by
    intro n_5
    induction n_5 with
    | zero =>
      intro x4_5 x3_5 i_5 m_5
      exact absurd m_5 (Nat.not_lt_zero _)
    | succ n_5 ih_5 =>
      intro x4_5 x3_5 i_5 m_5
      refine x_iload C 0 dX7_waiting_5 rfl ?_
      refine x_aload_n C 2 dX7_waiting_7 rfl rfl ?_
      refine x_get C 0 0 dX7_waiting_8 inlX7 rfl (by decide) wd_117 rfl rfl rfl ?_
      refine x_getN C 1 7 dX7_waiting_11 inlX0 rfl (by decide) nt_17 rfl rfl rfl ?_
      refine x_icmp_ge C 87 dX7_waiting_14 (by decide) (fun c_14 => ?_) (fun c_14 => ?_)
      · skip
        have e_14 : (wc : Int32).toInt ≤ (x4_5 : Int32).toInt := i_le.mp c_14
        refine x_iload_n C 1 dX7_waiting_87 rfl rfl ?_
        exact x_iret C dX7_waiting_88 (Nat.zero_le _) (Nat.zero_le _) (by rw [eO]; exact ⟨x3_5, rfl, rfl, (by rw [i_5.2, show x4_5.toInt.toNat = wc.toInt.toNat by omega])⟩)
      · skip
        have e_14 : ¬ ((wc : Int32).toInt ≤ (x4_5 : Int32).toInt) := fun h => c_14 (i_le.mpr h)
        refine x_aload_n C 2 dX7_waiting_17 rfl rfl ?_
        refine x_get C 0 0 dX7_waiting_18 inlX7 rfl (by decide) wd_117 rfl rfl rfl ?_
        refine x_iload C 0 dX7_waiting_21 rfl ?_
        refine x_callV C [.int x4_5] [(hr, .inr (7, [.ref hb]))] [1, 2, 3, 4, 5, 6, 7, 8] [0] (q0 := 0) (c_X0_storyOf (xl X) (xD X) (xt X) hT hb b0 b1 b2 b3 b4 b5 b6 pa mi ga te kn wa ne wc la br x4_5 (by omega) hw (by omega)) dX7_waiting_23 wd_748 wd_236 wd_237 wd_18 wd_238 (np := 1) ⟨by decide, by decide, by decide +kernel⟩ rfl rfl (Nat.le_of_ble_eq_true rfl) (by decide) rfl rfl rfl rfl (by decide) rfl (by decide) (by decide) (fun v W1 h => ?_)
        obtain ⟨r_23, rfl, rfl, h_23⟩ := h
        show V X 7 [(hr, .inr (7, [.ref hb])), (hb, .inr (0, [.ref b0, .ref b1, .ref b2, .ref b3, .ref b4, .ref b5, .ref b6, .int wc, .int la, .int br])), (b0, .inl (cI, 4, .inl pa)), (b1, .inl (cI, 16, .inl mi)), (b2, .inl (cI, 4, .inl ga)), (b3, .inl (cI, 4, .inl te)), (b4, .inl (cI, 4, .inl kn)), (b5, .inl (cI, 6, .inl wa)), (b6, .inl (cI, 16, .inl ne))] [(4, .int x4_5), (3, .int x3_5), (0, .ref hr), (1, .int s), (2, .int t)] [.int r_23] 26 0 0
        refine x_istore C [(5, .int r_23), (4, .int x4_5), (3, .int x3_5), (0, .ref hr), (1, .int s), (2, .int t)] dX7_waiting_26 (by decide) rfl ?_
        refine x_iload_n C 5 dX7_waiting_28 rfl rfl ?_
        refine x_iload C 1 dX7_waiting_29 rfl ?_
        refine x_ishr C dX7_waiting_31 ?_
        refine x_iconst C 1 dX7_waiting_32 (by decide) ?_
        refine x_iand C dX7_waiting_33 ?_
        refine x_if_ne C 57 dX7_waiting_34 (by decide) (fun c_34 => ?_) (fun c_34 => ?_)
        · skip
          have e_34 : ¬ (((t >>> (x4_5 &&& 31)) &&& 1 : Int32).toInt = (0 : Int32).toInt) := fun h => c_34 (i_eq.mpr h)
          have : (0 : Int32).toInt = 0 := by decide
          refine x_iconst C 0 dX7_waiting_57 (by decide) ?_
          refine x_istore C [(6, .int 0), (5, .int r_23), (4, .int x4_5), (3, .int x3_5), (0, .ref hr), (1, .int s), (2, .int t)] dX7_waiting_58 (by decide) rfl ?_
          refine x_iload C 0 dX7_waiting_60 rfl ?_
          refine x_if_eq C 81 dX7_waiting_62 (by decide) (fun c_62 => ?_) (fun c_62 => ?_)
          · skip
            have e_62 : (0 : Int32).toInt = (0 : Int32).toInt := i_eq.mp c_62
            have : (0 : Int32).toInt = 0 := by decide
            have : (0 : Int32).toInt = 0 := by decide
            refine x_iinc C 2 (x4_5 + 1) [(4, .int (x4_5 + 1)), (6, .int 0), (5, .int r_23), (3, .int x3_5), (0, .ref hr), (1, .int s), (2, .int t)] dX7_waiting_81 rfl rfl (by decide) rfl ?_
            refine x_goto C 5 dX7_waiting_84 (by decide) ?_
            refine x_lv [(4, .int (x4_5 + 1)), (3, .int x3_5), (0, .ref hr), (1, .int s), (2, .int t)] [0, 3, 4, 5, 6] rfl ?_
            have : (1 : Int32).toInt = 1 := by decide
            have := i_add (x := x4_5) (y := 1) (by omega) (by omega)
            exact ih_5 (x4_5 + 1) x3_5 ⟨by omega, by rw [wt_d (wa := wa) (a := s) (d := t) (x := x4_5) (by omega) (by omega) c_34]; exact i_5.2⟩ (by omega)
          · skip
            have e_62 : ¬ ((0 : Int32).toInt = (0 : Int32).toInt) := fun h => c_62 (i_eq.mpr h)
            have : (0 : Int32).toInt = 0 := by decide
            have : (0 : Int32).toInt = 0 := by decide
            exfalso
            omega
        · skip
          have e_34 : ((t >>> (x4_5 &&& 31)) &&& 1 : Int32).toInt = (0 : Int32).toInt := i_eq.mp c_34
          have : (0 : Int32).toInt = 0 := by decide
          refine x_iload_n C 4 dX7_waiting_37 rfl rfl ?_
          refine x_aload_n C 3 dX7_waiting_38 rfl rfl ?_
          refine x_get C 0 0 dX7_waiting_39 inlX7 rfl (by decide) wd_117 rfl rfl rfl ?_
          refine x_iload C 1 dX7_waiting_42 rfl ?_
          refine x_callV C [.int x4_5] [(hr, .inr (7, [.ref hb]))] [1, 2, 3, 4, 5, 6, 7, 8] [0] (q0 := 0) (c_X0_otherOf (xl X) (xD X) (xt X) hT hb b0 b1 b2 b3 b4 b5 b6 pa mi ga te kn wa ne wc la br x4_5 (by omega) hw (by omega)) dX7_waiting_44 wd_749 wd_248 wd_249 wd_18 wd_250 (np := 1) ⟨by decide, by decide, by decide +kernel⟩ rfl rfl (Nat.le_of_ble_eq_true rfl) (by decide) rfl rfl rfl rfl (by decide) rfl (by decide) (by decide) (fun v W1 h => ?_)
          obtain ⟨r_44, rfl, rfl, h_44⟩ := h
          show V X 7 [(hr, .inr (7, [.ref hb])), (hb, .inr (0, [.ref b0, .ref b1, .ref b2, .ref b3, .ref b4, .ref b5, .ref b6, .int wc, .int la, .int br])), (b0, .inl (cI, 4, .inl pa)), (b1, .inl (cI, 16, .inl mi)), (b2, .inl (cI, 4, .inl ga)), (b3, .inl (cI, 4, .inl te)), (b4, .inl (cI, 4, .inl kn)), (b5, .inl (cI, 6, .inl wa)), (b6, .inl (cI, 16, .inl ne))] [(5, .int r_23), (4, .int x4_5), (3, .int x3_5), (0, .ref hr), (1, .int s), (2, .int t)] [.int r_44, .int s] 47 0 0
          refine x_ishr C dX7_waiting_47 ?_
          refine x_iconst C 1 dX7_waiting_48 (by decide) ?_
          refine x_iand C dX7_waiting_49 ?_
          refine x_if_eq C 57 dX7_waiting_50 (by decide) (fun c_50 => ?_) (fun c_50 => ?_)
          · skip
            have e_50 : ((s >>> (r_44 &&& 31)) &&& 1 : Int32).toInt = (0 : Int32).toInt := i_eq.mp c_50
            have : (0 : Int32).toInt = 0 := by decide
            refine x_iconst C 0 dX7_waiting_57 (by decide) ?_
            refine x_istore C [(6, .int 0), (5, .int r_23), (4, .int x4_5), (3, .int x3_5), (0, .ref hr), (1, .int s), (2, .int t)] dX7_waiting_58 (by decide) rfl ?_
            refine x_iload C 0 dX7_waiting_60 rfl ?_
            refine x_if_eq C 81 dX7_waiting_62 (by decide) (fun c_62 => ?_) (fun c_62 => ?_)
            · skip
              have e_62 : (0 : Int32).toInt = (0 : Int32).toInt := i_eq.mp c_62
              have : (0 : Int32).toInt = 0 := by decide
              have : (0 : Int32).toInt = 0 := by decide
              refine x_iinc C 2 (x4_5 + 1) [(4, .int (x4_5 + 1)), (6, .int 0), (5, .int r_23), (3, .int x3_5), (0, .ref hr), (1, .int s), (2, .int t)] dX7_waiting_81 rfl rfl (by decide) rfl ?_
              refine x_goto C 5 dX7_waiting_84 (by decide) ?_
              refine x_lv [(4, .int (x4_5 + 1)), (3, .int x3_5), (0, .ref hr), (1, .int s), (2, .int t)] [0, 3, 4, 5, 6] rfl ?_
              have : (1 : Int32).toInt = 1 := by decide
              have := i_add (x := x4_5) (y := 1) (by omega) (by omega)
              exact ih_5 (x4_5 + 1) x3_5 ⟨by omega, by rw [wt_f (wa := wa) (a := s) (d := t) (x := x4_5) (s := r_23) (o := r_44) (by omega) (by omega) h_23.1 (by omega) h_44.1 (by omega) (fun h => h.1.2 c_50)]; exact i_5.2⟩ (by omega)
            · skip
              have e_62 : ¬ ((0 : Int32).toInt = (0 : Int32).toInt) := fun h => c_62 (i_eq.mpr h)
              have : (0 : Int32).toInt = 0 := by decide
              have : (0 : Int32).toInt = 0 := by decide
              exfalso
              omega
          · skip
            have e_50 : ¬ (((s >>> (r_44 &&& 31)) &&& 1 : Int32).toInt = (0 : Int32).toInt) := fun h => c_50 (i_eq.mpr h)
            have : (0 : Int32).toInt = 0 := by decide
            refine x_iconst C 1 dX7_waiting_53 (by decide) ?_
            refine x_goto C 58 dX7_waiting_54 (by decide) ?_
            refine x_istore C [(6, .int 1), (5, .int r_23), (4, .int x4_5), (3, .int x3_5), (0, .ref hr), (1, .int s), (2, .int t)] dX7_waiting_58 (by decide) rfl ?_
            refine x_iload C 0 dX7_waiting_60 rfl ?_
            refine x_if_eq C 81 dX7_waiting_62 (by decide) (fun c_62 => ?_) (fun c_62 => ?_)
            · skip
              have e_62 : (1 : Int32).toInt = (0 : Int32).toInt := i_eq.mp c_62
              have : (1 : Int32).toInt = 1 := by decide
              have : (0 : Int32).toInt = 0 := by decide
              exfalso
              omega
            · skip
              have e_62 : ¬ ((1 : Int32).toInt = (0 : Int32).toInt) := fun h => c_62 (i_eq.mpr h)
              have : (1 : Int32).toInt = 1 := by decide
              have : (0 : Int32).toInt = 0 := by decide
              refine x_iload_n C 5 dX7_waiting_65 rfl rfl ?_
              refine x_iload C 1 dX7_waiting_66 rfl ?_
              refine x_ishr C dX7_waiting_68 ?_
              refine x_iconst C 1 dX7_waiting_69 (by decide) ?_
              refine x_iand C dX7_waiting_70 ?_
              refine x_if_eq C 81 dX7_waiting_71 (by decide) (fun c_71 => ?_) (fun c_71 => ?_)
              · skip
                have e_71 : ((s >>> (r_23 &&& 31)) &&& 1 : Int32).toInt = (0 : Int32).toInt := i_eq.mp c_71
                have : (0 : Int32).toInt = 0 := by decide
                refine x_iinc C 2 (x4_5 + 1) [(4, .int (x4_5 + 1)), (6, .int 1), (5, .int r_23), (3, .int x3_5), (0, .ref hr), (1, .int s), (2, .int t)] dX7_waiting_81 rfl rfl (by decide) rfl ?_
                refine x_goto C 5 dX7_waiting_84 (by decide) ?_
                refine x_lv [(4, .int (x4_5 + 1)), (3, .int x3_5), (0, .ref hr), (1, .int s), (2, .int t)] [0, 3, 4, 5, 6] rfl ?_
                have : (1 : Int32).toInt = 1 := by decide
                have := i_add (x := x4_5) (y := 1) (by omega) (by omega)
                exact ih_5 (x4_5 + 1) x3_5 ⟨by omega, by rw [wt_f (wa := wa) (a := s) (d := t) (x := x4_5) (s := r_23) (o := r_44) (by omega) (by omega) h_23.1 (by omega) h_44.1 (by omega) (fun h => h.2 c_71)]; exact i_5.2⟩ (by omega)
              · skip
                have e_71 : ¬ (((s >>> (r_23 &&& 31)) &&& 1 : Int32).toInt = (0 : Int32).toInt) := fun h => c_71 (i_eq.mpr h)
                have : (0 : Int32).toInt = 0 := by decide
                refine x_iload_n C 3 dX7_waiting_74 rfl rfl ?_
                refine x_iconst C 1 dX7_waiting_75 (by decide) ?_
                refine x_iload C 1 dX7_waiting_76 rfl ?_
                refine x_ishl C dX7_waiting_78 ?_
                refine x_ior C dX7_waiting_79 ?_
                refine x_istore_n C [(3, .int (x3_5 ||| ((1 : Int32) <<< (r_23 &&& 31)))), (6, .int 1), (5, .int r_23), (4, .int x4_5), (0, .ref hr), (1, .int s), (2, .int t)] dX7_waiting_80 rfl (by decide) rfl ?_
                refine x_iinc C 3 (x4_5 + 1) [(4, .int (x4_5 + 1)), (3, .int (x3_5 ||| ((1 : Int32) <<< (r_23 &&& 31)))), (6, .int 1), (5, .int r_23), (0, .ref hr), (1, .int s), (2, .int t)] dX7_waiting_81 rfl rfl (by decide) rfl ?_
                refine x_goto C 5 dX7_waiting_84 (by decide) ?_
                refine x_lv [(4, .int (x4_5 + 1)), (3, .int (x3_5 ||| ((1 : Int32) <<< (r_23 &&& 31)))), (0, .ref hr), (1, .int s), (2, .int t)] [0, 1, 4, 5, 6] rfl ?_
                have : (1 : Int32).toInt = 1 := by decide
                have := i_add (x := x4_5) (y := 1) (by omega) (by omega)
                exact ih_5 (x4_5 + 1) (x3_5 ||| ((1 : Int32) <<< (r_23 &&& 31))) ⟨by omega, by rw [wt_t (wa := wa) (a := s) (d := t) (x := x4_5) (s := r_23) (o := r_44) (by omega) (by omega) h_23.1 (by omega) h_44.1 (by omega) ⟨⟨c_34, c_50⟩, c_71⟩, ← i_5.2]⟩ (by omega)
  have : (0 : Int32).toInt = 0 := by decide
  have : (0 : Int32).toInt = 0 := by decide
  exact L_5 _ 0 0 ⟨by omega, by rw [t0_]; rfl⟩ (Nat.lt_succ_self _)
abbrev rm_X7_isRing : Room := { frames := 2, cells := 0, slots := 0, locals := 47 }
set_option maxHeartbeats 4000000 in
set_option maxRecDepth 100000 in
theorem c_X7_isRing (l : Launch) (D : va_G) (tys : List (ClassId × FieldType)) {cI cJ cZ cB : ClassId} (hT : Ty tys cI cJ cZ cB) (hr : Nat) (hb b0 b1 b2 b3 b4 b5 b6 : Nat) (pa mi ga te kn wa ne : Nat → Int32) (wc la br : Int32) (s t : Int32) (hwc : 0 ≤ wc.toInt ∧ wc.toInt ≤ 6) (hw : WOk wa wc) : Cn l D tys yX7_isRing cX7_isRing 5 (some .boolean) rm_X7_isRing [(hr, .inr (7, [.ref hb])), (hb, .inr (0, [.ref b0, .ref b1, .ref b2, .ref b3, .ref b4, .ref b5, .ref b6, .int wc, .int la, .int br])), (b0, .inl (cI, 4, .inl pa)), (b1, .inl (cI, 16, .inl mi)), (b2, .inl (cI, 4, .inl ga)), (b3, .inl (cI, 4, .inl te)), (b4, .inl (cI, 4, .inl kn)), (b5, .inl (cI, 6, .inl wa)), (b6, .inl (cI, 16, .inl ne))] [.ref hr, .int s, .int t] (fun v W1 => ∃ (r : Int32), v = some (.int r) ∧ W1 = [(hr, .inr (7, [.ref hb])), (hb, .inr (0, [.ref b0, .ref b1, .ref b2, .ref b3, .ref b4, .ref b5, .ref b6, .int wc, .int la, .int br])), (b0, .inl (cI, 4, .inl pa)), (b1, .inl (cI, 16, .inl mi)), (b2, .inl (cI, 4, .inl ga)), (b3, .inl (cI, 4, .inl te)), (b4, .inl (cI, 4, .inl kn)), (b5, .inl (cI, 6, .inl wa)), (b6, .inl (cI, 16, .inl ne))] ∧ (TB r (¬ rgI wa wc.toInt.toNat t s 4 = 0))) := by
  refine Cn.of (by decide) (Nat.le_of_ble_eq_true rfl) ?_ ?_ (fun X eL eD eT eO eK eN eM C => ?_)
  · intro _ v ws h; obtain ⟨_, rfl, rfl, h⟩ := h; exact z_of h.n
  · intro v ws h; obtain ⟨_, rfl, rfl, _⟩ := h; exact Or.inr rfl
  subst eL eD eT
  show V X 5 [(hr, .inr (7, [.ref hb])), (hb, .inr (0, [.ref b0, .ref b1, .ref b2, .ref b3, .ref b4, .ref b5, .ref b6, .int wc, .int la, .int br])), (b0, .inl (cI, 4, .inl pa)), (b1, .inl (cI, 16, .inl mi)), (b2, .inl (cI, 4, .inl ga)), (b3, .inl (cI, 4, .inl te)), (b4, .inl (cI, 4, .inl kn)), (b5, .inl (cI, 6, .inl wa)), (b6, .inl (cI, 16, .inl ne))] [(0, .ref hr), (1, .int s), (2, .int t)] [] 0 0 0
  refine x_iload_n C 1 dX7_isRing_0 rfl rfl ?_
  refine x_istore_n C [(3, .int s), (0, .ref hr), (1, .int s), (2, .int t)] dX7_isRing_1 rfl (by decide) rfl ?_
  refine x_iconst C 0 dX7_isRing_2 (by decide) ?_
  refine x_istore C [(4, .int 0), (3, .int s), (0, .ref hr), (1, .int s), (2, .int t)] dX7_isRing_3 (by decide) rfl ?_
  have L_5 : ∀ (n_5 : Nat) (x4_5 : Int32) (x3_5 : Int32), ((0 ≤ x4_5.toInt ∧ x4_5.toInt ≤ 4) ∧ x3_5 = rgI wa wc.toInt.toNat t s x4_5.toInt.toNat) → ((4 - x4_5.toInt).toNat < n_5) → V X 5 [(hr, .inr (7, [.ref hb])), (hb, .inr (0, [.ref b0, .ref b1, .ref b2, .ref b3, .ref b4, .ref b5, .ref b6, .int wc, .int la, .int br])), (b0, .inl (cI, 4, .inl pa)), (b1, .inl (cI, 16, .inl mi)), (b2, .inl (cI, 4, .inl ga)), (b3, .inl (cI, 4, .inl te)), (b4, .inl (cI, 4, .inl kn)), (b5, .inl (cI, 6, .inl wa)), (b6, .inl (cI, 16, .inl ne))] [(4, .int x4_5), (3, .int x3_5), (0, .ref hr), (1, .int s), (2, .int t)] [] 5 0 0 := by
    intro n_5
    induction n_5 with
    | zero =>
      intro x4_5 x3_5 i_5 m_5
      exact absurd m_5 (Nat.not_lt_zero _)
    | succ n_5 ih_5 =>
      intro x4_5 x3_5 i_5 m_5
      refine x_iload C 0 dX7_isRing_5 rfl ?_
      refine x_iconst C 4 dX7_isRing_7 (by decide) ?_
      refine x_icmp_ge C 24 dX7_isRing_8 (by decide) (fun c_8 => ?_) (fun c_8 => ?_)
      · skip
        have e_8 : (4 : Int32).toInt ≤ (x4_5 : Int32).toInt := i_le.mp c_8
        have : (4 : Int32).toInt = 4 := by decide
        have e9 : x3_5 = rgI wa wc.toInt.toNat t s 4 := by rw [i_5.2, show x4_5.toInt.toNat = 4 by omega]
        refine x_iload_n C 1 dX7_isRing_24 rfl rfl ?_
        refine x_if_eq C 32 dX7_isRing_25 (by decide) (fun c_25 => ?_) (fun c_25 => ?_)
        · skip
          have e_25 : (x3_5 : Int32).toInt = (0 : Int32).toInt := i_eq.mp c_25
          have : (0 : Int32).toInt = 0 := by decide
          refine x_iconst C 0 dX7_isRing_32 (by decide) ?_
          have : (0 : Int32).toInt = 0 := by decide
          exact x_iret C dX7_isRing_33 (Nat.zero_le _) (Nat.zero_le _) (by rw [eO]; exact ⟨0, rfl, rfl, (TB.nil (fun h => h (by rw [← e9]; exact c_25)))⟩)
        · skip
          have e_25 : ¬ ((x3_5 : Int32).toInt = (0 : Int32).toInt) := fun h => c_25 (i_eq.mpr h)
          have : (0 : Int32).toInt = 0 := by decide
          refine x_iconst C 1 dX7_isRing_28 (by decide) ?_
          refine x_goto C 33 dX7_isRing_29 (by decide) ?_
          have : (1 : Int32).toInt = 1 := by decide
          exact x_iret C dX7_isRing_33 (Nat.zero_le _) (Nat.zero_le _) (by rw [eO]; exact ⟨1, rfl, rfl, (TB.one (by rw [← e9]; exact c_25))⟩)
      · skip
        have e_8 : ¬ ((4 : Int32).toInt ≤ (x4_5 : Int32).toInt) := fun h => c_8 (i_le.mpr h)
        have : (4 : Int32).toInt = 4 := by decide
        refine x_aload_n C 2 dX7_isRing_11 rfl rfl ?_
        refine x_iload_n C 1 dX7_isRing_12 rfl rfl ?_
        refine x_iload_n C 4 dX7_isRing_13 rfl rfl ?_
        refine x_callV C [.int x3_5, .int t] [] [0, 1, 2, 3, 4, 5, 6, 7, 8] [] (q0 := 0) (c_X7_waiting (xl X) (xD X) (xt X) hT hr hb b0 b1 b2 b3 b4 b5 b6 pa mi ga te kn wa ne wc la br x3_5 t (by omega) hw) dX7_isRing_14 wd_744 wd_745 wd_746 wd_44 wd_747 (np := 2) ⟨by decide, by decide, by decide +kernel⟩ rfl rfl (Nat.le_of_ble_eq_true rfl) (by decide) rfl rfl rfl rfl (by decide) rfl (by decide) (by decide) (fun v W1 h => ?_)
        obtain ⟨r_14, rfl, rfl, h_14⟩ := h
        show V X 5 [(hr, .inr (7, [.ref hb])), (hb, .inr (0, [.ref b0, .ref b1, .ref b2, .ref b3, .ref b4, .ref b5, .ref b6, .int wc, .int la, .int br])), (b0, .inl (cI, 4, .inl pa)), (b1, .inl (cI, 16, .inl mi)), (b2, .inl (cI, 4, .inl ga)), (b3, .inl (cI, 4, .inl te)), (b4, .inl (cI, 4, .inl kn)), (b5, .inl (cI, 6, .inl wa)), (b6, .inl (cI, 16, .inl ne))] [(4, .int x4_5), (3, .int x3_5), (0, .ref hr), (1, .int s), (2, .int t)] [.int r_14] 17 0 0
        refine x_istore_n C [(3, .int r_14), (4, .int x4_5), (0, .ref hr), (1, .int s), (2, .int t)] dX7_isRing_17 rfl (by decide) rfl ?_
        refine x_iinc C 1 (x4_5 + 1) [(4, .int (x4_5 + 1)), (3, .int r_14), (0, .ref hr), (1, .int s), (2, .int t)] dX7_isRing_18 rfl rfl (by decide) rfl ?_
        refine x_goto C 5 dX7_isRing_21 (by decide) ?_
        have : (1 : Int32).toInt = 1 := by decide
        have := i_add (x := x4_5) (y := 1) (by omega) (by omega)
        exact ih_5 (x4_5 + 1) r_14 ⟨by omega, by rw [h_14, i_5.2, show (x4_5 + 1).toInt.toNat = x4_5.toInt.toNat + 1 by omega]; rfl⟩ (by omega)
  have : (0 : Int32).toInt = 0 := by decide
  exact L_5 _ 0 s ⟨by omega, by rw [t0_]; rfl⟩ (Nat.lt_succ_self _)
abbrev rm_X7_fewestToDrop : Room := { frames := 3, cells := 0, slots := 0, locals := 71 }
set_option maxHeartbeats 4000000 in
set_option maxRecDepth 100000 in
theorem c_X7_fewestToDrop (l : Launch) (D : va_G) (tys : List (ClassId × FieldType)) {cI cJ cZ cB : ClassId} (hT : Ty tys cI cJ cZ cB) (hr : Nat) (hb b0 b1 b2 b3 b4 b5 b6 : Nat) (pa mi ga te kn wa ne : Nat → Int32) (wc la br : Int32) (s : Int32) (hwc : 0 ≤ wc.toInt ∧ wc.toInt ≤ 6) (hw : WOk wa wc) : Cn l D tys yX7_fewestToDrop cX7_fewestToDrop 5 (some .int) rm_X7_fewestToDrop [(hr, .inr (7, [.ref hb])), (hb, .inr (0, [.ref b0, .ref b1, .ref b2, .ref b3, .ref b4, .ref b5, .ref b6, .int wc, .int la, .int br])), (b0, .inl (cI, 4, .inl pa)), (b1, .inl (cI, 16, .inl mi)), (b2, .inl (cI, 4, .inl ga)), (b3, .inl (cI, 4, .inl te)), (b4, .inl (cI, 4, .inl kn)), (b5, .inl (cI, 6, .inl wa)), (b6, .inl (cI, 16, .inl ne))] [.ref hr, .int s] (fun v W1 => ∃ (r : Int32), v = some (.int r) ∧ W1 = [(hr, .inr (7, [.ref hb])), (hb, .inr (0, [.ref b0, .ref b1, .ref b2, .ref b3, .ref b4, .ref b5, .ref b6, .int wc, .int la, .int br])), (b0, .inl (cI, 4, .inl pa)), (b1, .inl (cI, 16, .inl mi)), (b2, .inl (cI, 4, .inl ga)), (b3, .inl (cI, 4, .inl te)), (b4, .inl (cI, 4, .inl kn)), (b5, .inl (cI, 6, .inl wa)), (b6, .inl (cI, 16, .inl ne))] ∧ (FDI wa wc.toInt.toNat s r (-1))) := by
  refine Cn.of (by decide) (Nat.le_of_ble_eq_true rfl) ?_ ?_ (fun X eL eD eT eO eK eN eM C => ?_)
  · intro h; cases h
  · intro v ws h; obtain ⟨_, rfl, rfl, _⟩ := h; exact Or.inl rfl
  subst eL eD eT
  show V X 5 [(hr, .inr (7, [.ref hb])), (hb, .inr (0, [.ref b0, .ref b1, .ref b2, .ref b3, .ref b4, .ref b5, .ref b6, .int wc, .int la, .int br])), (b0, .inl (cI, 4, .inl pa)), (b1, .inl (cI, 16, .inl mi)), (b2, .inl (cI, 4, .inl ga)), (b3, .inl (cI, 4, .inl te)), (b4, .inl (cI, 4, .inl kn)), (b5, .inl (cI, 6, .inl wa)), (b6, .inl (cI, 16, .inl ne))] [(0, .ref hr), (1, .int s)] [] 0 0 0
  have p9 := sh_powI hwc
  have := t1_
  have q64 : ((2 ^ wc.toInt.toNat : Nat) : Int) ≤ 64 := by have := i_shl1y hwc; omega
  refine x_iconst C 1 dX7_fewestToDrop_0 (by decide) ?_
  refine x_aload_n C 0 dX7_fewestToDrop_1 rfl rfl ?_
  refine x_get C 0 0 dX7_fewestToDrop_2 inlX7 rfl (by decide) wd_117 rfl rfl rfl ?_
  refine x_getN C 1 7 dX7_fewestToDrop_5 inlX0 rfl (by decide) nt_17 rfl rfl rfl ?_
  refine x_ishl C dX7_fewestToDrop_8 ?_
  refine x_iconst C 1 dX7_fewestToDrop_9 (by decide) ?_
  refine x_isub C dX7_fewestToDrop_10 ?_
  refine x_istore_n C [(2, .int (((1 : Int32) <<< (wc &&& 31)) - 1)), (0, .ref hr), (1, .int s)] dX7_fewestToDrop_11 rfl (by decide) rfl ?_
  refine x_iconst C 1 dX7_fewestToDrop_12 (by decide) ?_
  refine x_aload_n C 1 dX7_fewestToDrop_13 rfl rfl ?_
  refine x_get C 0 0 dX7_fewestToDrop_14 inlX7 rfl (by decide) wd_117 rfl rfl rfl ?_
  refine x_getN C 1 7 dX7_fewestToDrop_17 inlX0 rfl (by decide) nt_17 rfl rfl rfl ?_
  refine x_ishl C dX7_fewestToDrop_20 ?_
  refine x_iconst C 1 dX7_fewestToDrop_21 (by decide) ?_
  refine x_isub C dX7_fewestToDrop_22 ?_
  refine x_istore_n C [(3, .int (((1 : Int32) <<< (wc &&& 31)) - 1)), (2, .int (((1 : Int32) <<< (wc &&& 31)) - 1)), (0, .ref hr), (1, .int s)] dX7_fewestToDrop_23 rfl (by decide) rfl ?_
  have L_24 : ∀ (n_24 : Nat) (x3_24 : Int32) (x2_24 : Int32), ((-1 ≤ x3_24.toInt ∧ x3_24.toInt < ((2 ^ wc.toInt.toNat : Nat) : Int)) ∧ FDI wa wc.toInt.toNat s x2_24 x3_24.toInt) → ((x3_24.toInt + 1).toNat < n_24) → V X 5 [(hr, .inr (7, [.ref hb])), (hb, .inr (0, [.ref b0, .ref b1, .ref b2, .ref b3, .ref b4, .ref b5, .ref b6, .int wc, .int la, .int br])), (b0, .inl (cI, 4, .inl pa)), (b1, .inl (cI, 16, .inl mi)), (b2, .inl (cI, 4, .inl ga)), (b3, .inl (cI, 4, .inl te)), (b4, .inl (cI, 4, .inl kn)), (b5, .inl (cI, 6, .inl wa)), (b6, .inl (cI, 16, .inl ne))] [(3, .int x3_24), (2, .int x2_24), (0, .ref hr), (1, .int s)] [] 24 0 0 := by
    intro n_24
    induction n_24 with
    | zero =>
      intro x3_24 x2_24 i_24 m_24
      exact absurd m_24 (Nat.not_lt_zero _)
    | succ n_24 ih_24 =>
      intro x3_24 x2_24 i_24 m_24
      refine x_iload_n C 0 dX7_fewestToDrop_24 rfl rfl ?_
      refine x_if_lt C 68 dX7_fewestToDrop_25 (by decide) (fun c_25 => ?_) (fun c_25 => ?_)
      · skip
        have e_25 : (x3_24 : Int32).toInt < (0 : Int32).toInt := i_lt.mp c_25
        have : (0 : Int32).toInt = 0 := by decide
        refine x_iload_n C 1 dX7_fewestToDrop_68 rfl rfl ?_
        exact x_iret C dX7_fewestToDrop_69 (Nat.zero_le _) (Nat.zero_le _) (by rw [eO]; exact ⟨x2_24, rfl, rfl, (by rw [show (-1 : Int) = x3_24.toInt by omega]; exact i_24.2)⟩)
      · skip
        have e_25 : ¬ ((x3_24 : Int32).toInt < (0 : Int32).toInt) := fun h => c_25 (i_lt.mpr h)
        have : (0 : Int32).toInt = 0 := by decide
        refine x_iload_n C 0 dX7_fewestToDrop_28 rfl rfl ?_
        refine x_callS C [.int x3_24] [(hr, .inr (7, [.ref hb])), (hb, .inr (0, [.ref b0, .ref b1, .ref b2, .ref b3, .ref b4, .ref b5, .ref b6, .int wc, .int la, .int br])), (b0, .inl (cI, 4, .inl pa)), (b1, .inl (cI, 16, .inl mi)), (b2, .inl (cI, 4, .inl ga)), (b3, .inl (cI, 4, .inl te)), (b4, .inl (cI, 4, .inl kn)), (b5, .inl (cI, 6, .inl wa)), (b6, .inl (cI, 16, .inl ne))] [] [0, 1, 2, 3, 4, 5, 6, 7, 8] (c_J6_bitCount_0f7a4 (xl X) (xD X) (xt X) hT x3_24 ) dX7_fewestToDrop_29 wd_762 wd_401 wd_402 wd_403 (np := 1) ⟨by decide, by decide, by decide +kernel⟩ rfl rfl (Nat.le_of_ble_eq_true rfl) (by decide) rfl (by decide) rfl (by decide) (by decide) (fun v W1 h => ?_)
        obtain ⟨_, rfl, rfl, h_29⟩ := h
        show V X 5 [(hr, .inr (7, [.ref hb])), (hb, .inr (0, [.ref b0, .ref b1, .ref b2, .ref b3, .ref b4, .ref b5, .ref b6, .int wc, .int la, .int br])), (b0, .inl (cI, 4, .inl pa)), (b1, .inl (cI, 16, .inl mi)), (b2, .inl (cI, 4, .inl ga)), (b3, .inl (cI, 4, .inl te)), (b4, .inl (cI, 4, .inl kn)), (b5, .inl (cI, 6, .inl wa)), (b6, .inl (cI, 16, .inl ne))] [(3, .int x3_24), (2, .int x2_24), (0, .ref hr), (1, .int s)] [.int (bcF x3_24)] 32 0 0
        refine x_iload_n C 1 dX7_fewestToDrop_32 rfl rfl ?_
        refine x_callS C [.int x2_24] [(hr, .inr (7, [.ref hb])), (hb, .inr (0, [.ref b0, .ref b1, .ref b2, .ref b3, .ref b4, .ref b5, .ref b6, .int wc, .int la, .int br])), (b0, .inl (cI, 4, .inl pa)), (b1, .inl (cI, 16, .inl mi)), (b2, .inl (cI, 4, .inl ga)), (b3, .inl (cI, 4, .inl te)), (b4, .inl (cI, 4, .inl kn)), (b5, .inl (cI, 6, .inl wa)), (b6, .inl (cI, 16, .inl ne))] [] [0, 1, 2, 3, 4, 5, 6, 7, 8] (c_J6_bitCount_0f7a4 (xl X) (xD X) (xt X) hT x2_24 ) dX7_fewestToDrop_33 wd_762 wd_401 wd_402 wd_403 (np := 1) ⟨by decide, by decide, by decide +kernel⟩ rfl rfl (Nat.le_of_ble_eq_true rfl) (by decide) rfl (by decide) rfl (by decide) (by decide) (fun v W1 h => ?_)
        obtain ⟨_, rfl, rfl, h_33⟩ := h
        show V X 5 [(hr, .inr (7, [.ref hb])), (hb, .inr (0, [.ref b0, .ref b1, .ref b2, .ref b3, .ref b4, .ref b5, .ref b6, .int wc, .int la, .int br])), (b0, .inl (cI, 4, .inl pa)), (b1, .inl (cI, 16, .inl mi)), (b2, .inl (cI, 4, .inl ga)), (b3, .inl (cI, 4, .inl te)), (b4, .inl (cI, 4, .inl kn)), (b5, .inl (cI, 6, .inl wa)), (b6, .inl (cI, 16, .inl ne))] [(3, .int x3_24), (2, .int x2_24), (0, .ref hr), (1, .int s)] [.int (bcF x2_24), .int (bcF x3_24)] 36 0 0
        refine x_icmp_gt C 43 dX7_fewestToDrop_36 (by decide) (fun c_36 => ?_) (fun c_36 => ?_)
        · skip
          have e_36 : (bcF x2_24 : Int32).toInt < (bcF x3_24 : Int32).toInt := i_lt.mp c_36
          refine x_iconst C 0 dX7_fewestToDrop_43 (by decide) ?_
          refine x_istore C [(4, .int 0), (3, .int x3_24), (2, .int x2_24), (0, .ref hr), (1, .int s)] dX7_fewestToDrop_44 (by decide) rfl ?_
          refine x_iload C 0 dX7_fewestToDrop_46 rfl ?_
          refine x_if_eq C 62 dX7_fewestToDrop_48 (by decide) (fun c_48 => ?_) (fun c_48 => ?_)
          · skip
            have e_48 : (0 : Int32).toInt = (0 : Int32).toInt := i_eq.mp c_48
            have : (0 : Int32).toInt = 0 := by decide
            have : (0 : Int32).toInt = 0 := by decide
            refine x_iinc C 1 (x3_24 - 1) [(3, .int (x3_24 - 1)), (4, .int 0), (2, .int x2_24), (0, .ref hr), (1, .int s)] dX7_fewestToDrop_62 rfl (i_m1 _) (by decide) rfl ?_
            refine x_goto C 24 dX7_fewestToDrop_65 (by decide) ?_
            refine x_lv [(3, .int (x3_24 - 1)), (2, .int x2_24), (0, .ref hr), (1, .int s)] [0, 2, 3, 4] rfl ?_
            have : (1 : Int32).toInt = 1 := by decide
            have := i_sub (x := x3_24) (y := 1) (by omega) (by omega)
            exact ih_24 (x3_24 - 1) x2_24 ⟨by omega, i_24.2.keep (by omega) (by omega) (fun h => by have := h.1; omega)⟩ (by omega)
          · skip
            have e_48 : ¬ ((0 : Int32).toInt = (0 : Int32).toInt) := fun h => c_48 (i_eq.mpr h)
            have : (0 : Int32).toInt = 0 := by decide
            have : (0 : Int32).toInt = 0 := by decide
            exfalso
            omega
        · skip
          have e_36 : ¬ ((bcF x2_24 : Int32).toInt < (bcF x3_24 : Int32).toInt) := fun h => c_36 (i_lt.mpr h)
          refine x_iconst C 1 dX7_fewestToDrop_39 (by decide) ?_
          refine x_goto C 44 dX7_fewestToDrop_40 (by decide) ?_
          refine x_istore C [(4, .int 1), (3, .int x3_24), (2, .int x2_24), (0, .ref hr), (1, .int s)] dX7_fewestToDrop_44 (by decide) rfl ?_
          refine x_iload C 0 dX7_fewestToDrop_46 rfl ?_
          refine x_if_eq C 62 dX7_fewestToDrop_48 (by decide) (fun c_48 => ?_) (fun c_48 => ?_)
          · skip
            have e_48 : (1 : Int32).toInt = (0 : Int32).toInt := i_eq.mp c_48
            have : (1 : Int32).toInt = 1 := by decide
            have : (0 : Int32).toInt = 0 := by decide
            exfalso
            omega
          · skip
            have e_48 : ¬ ((1 : Int32).toInt = (0 : Int32).toInt) := fun h => c_48 (i_eq.mpr h)
            have : (1 : Int32).toInt = 1 := by decide
            have : (0 : Int32).toInt = 0 := by decide
            refine x_aload_n C 3 dX7_fewestToDrop_51 rfl rfl ?_
            refine x_iload_n C 4 dX7_fewestToDrop_52 rfl rfl ?_
            refine x_iload_n C 1 dX7_fewestToDrop_53 rfl rfl ?_
            refine x_callV C [.int s, .int x3_24] [] [0, 1, 2, 3, 4, 5, 6, 7, 8] [] (q0 := 0) (c_X7_isRing (xl X) (xD X) (xt X) hT hr hb b0 b1 b2 b3 b4 b5 b6 pa mi ga te kn wa ne wc la br s x3_24 (by omega) hw) dX7_fewestToDrop_54 wd_763 wd_741 wd_742 wd_44 wd_743 (np := 2) ⟨by decide, by decide, by decide +kernel⟩ rfl rfl (Nat.le_of_ble_eq_true rfl) (by decide) rfl rfl rfl rfl (by decide) rfl (by decide) (by decide) (fun v W1 h => ?_)
            obtain ⟨r_54, rfl, rfl, h_54⟩ := h
            show V X 5 [(hr, .inr (7, [.ref hb])), (hb, .inr (0, [.ref b0, .ref b1, .ref b2, .ref b3, .ref b4, .ref b5, .ref b6, .int wc, .int la, .int br])), (b0, .inl (cI, 4, .inl pa)), (b1, .inl (cI, 16, .inl mi)), (b2, .inl (cI, 4, .inl ga)), (b3, .inl (cI, 4, .inl te)), (b4, .inl (cI, 4, .inl kn)), (b5, .inl (cI, 6, .inl wa)), (b6, .inl (cI, 16, .inl ne))] [(4, .int 1), (3, .int x3_24), (2, .int x2_24), (0, .ref hr), (1, .int s)] [.int r_54] 57 0 0
            refine x_if_ne C 62 dX7_fewestToDrop_57 (by decide) (fun c_57 => ?_) (fun c_57 => ?_)
            · skip
              have e_57 : ¬ ((r_54 : Int32).toInt = (0 : Int32).toInt) := fun h => c_57 (i_eq.mpr h)
              have : (0 : Int32).toInt = 0 := by decide
              refine x_iinc C 1 (x3_24 - 1) [(3, .int (x3_24 - 1)), (4, .int 1), (2, .int x2_24), (0, .ref hr), (1, .int s)] dX7_fewestToDrop_62 rfl (i_m1 _) (by decide) rfl ?_
              refine x_goto C 24 dX7_fewestToDrop_65 (by decide) ?_
              refine x_lv [(3, .int (x3_24 - 1)), (2, .int x2_24), (0, .ref hr), (1, .int s)] [0, 2, 3, 4] rfl ?_
              have : (1 : Int32).toInt = 1 := by decide
              have := i_sub (x := x3_24) (y := 1) (by omega) (by omega)
              exact ih_24 (x3_24 - 1) x2_24 ⟨by omega, i_24.2.keep (by omega) (by omega) (fun h => (h_54.t (by omega)) h.2)⟩ (by omega)
            · skip
              have e_57 : (r_54 : Int32).toInt = (0 : Int32).toInt := i_eq.mp c_57
              have : (0 : Int32).toInt = 0 := by decide
              refine x_iload_n C 1 dX7_fewestToDrop_60 rfl rfl ?_
              refine x_istore_n C [(2, .int x3_24), (4, .int 1), (3, .int x3_24), (0, .ref hr), (1, .int s)] dX7_fewestToDrop_61 rfl (by decide) rfl ?_
              refine x_iinc C 2 (x3_24 - 1) [(3, .int (x3_24 - 1)), (2, .int x3_24), (4, .int 1), (0, .ref hr), (1, .int s)] dX7_fewestToDrop_62 rfl (i_m1 _) (by decide) rfl ?_
              refine x_goto C 24 dX7_fewestToDrop_65 (by decide) ?_
              refine x_lv [(3, .int (x3_24 - 1)), (2, .int x3_24), (0, .ref hr), (1, .int s)] [0, 1, 3, 4] rfl ?_
              have : (1 : Int32).toInt = 1 := by decide
              have := i_sub (x := x3_24) (y := 1) (by omega) (by omega)
              exact ih_24 (x3_24 - 1) x3_24 ⟨by omega, i_24.2.take (by omega) (by omega) (by omega) (by omega) (Classical.not_not.mp (h_54.f (by omega)))⟩ (by omega)
  exact L_24 _ (((1 : Int32) <<< (wc &&& 31)) - 1) (((1 : Int32) <<< (wc &&& 31)) - 1) ⟨by omega, FDI.z p9.2.2.2 p9.1 p9.2.1⟩ (Nat.lt_succ_self _)
