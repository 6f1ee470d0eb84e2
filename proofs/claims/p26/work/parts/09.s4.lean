/-- how many parts a text tells -/
def ctL (f : Nat → Int32) : Nat → Int32
  | 0 => 0
  | n + 1 => if f n = 58 then ctL f n else if (ctL f n).toInt < 4 then ctL f n + 1 else ctL f n
theorem ct_c {f : Nat → Int32} {x y : Int32} (h0 : 0 ≤ x.toInt) (hy : y.toInt = x.toInt + 1) (h : f x.toNatClampNeg = 58) : ctL f y.toInt.toNat = ctL f x.toInt.toNat := by
  rw [show y.toInt.toNat = x.toInt.toNat + 1 by omega, ctL, if_pos (show f x.toInt.toNat = 58 from h)]
theorem ct_d {f : Nat → Int32} {x y : Int32} (h0 : 0 ≤ x.toInt) (hy : y.toInt = x.toInt + 1) (h : ¬ f x.toNatClampNeg = 58) (h4 : (ctL f x.toInt.toNat).toInt < 4) : ctL f y.toInt.toNat = ctL f x.toInt.toNat + 1 := by
  rw [show y.toInt.toNat = x.toInt.toNat + 1 by omega, ctL, if_neg (show ¬ f x.toInt.toNat = 58 from h), if_pos h4]
theorem ct_f {f : Nat → Int32} {x y : Int32} (h0 : 0 ≤ x.toInt) (hy : y.toInt = x.toInt + 1) (h : ¬ f x.toNatClampNeg = 58) (h4 : ¬ (ctL f x.toInt.toNat).toInt < 4) : ctL f y.toInt.toNat = ctL f x.toInt.toNat := by
  rw [show y.toInt.toNat = x.toInt.toNat + 1 by omega, ctL, if_neg (show ¬ f x.toInt.toNat = 58 from h), if_neg h4]
/-- gates and minutes that a text tells -/
def wrB (f : Nat → Int32) : Nat → Int32
  | 0 => 0
  | n + 1 => if f n = 58 then wrB f n ||| ((1 : Int32) <<< ((ctL f n - 1) &&& 31)) else wrB f n
def wrM (f : Nat → Int32) (b : Nat) (m : Nat → Int32) : Nat → Nat → Int32
  | 0 => m
  | n + 1 => if f n = 58 then wrM f b m n else if (ctL f n).toInt < 4 then upd (wrM f b m n) (b + (ctL f n).toInt.toNat) (f n - 48) else wrM f b m n
theorem wr_c {f : Nat → Int32} {b : Nat} {m : Nat → Int32} {x y : Int32} (h0 : 0 ≤ x.toInt) (hy : y.toInt = x.toInt + 1) (h : f x.toNatClampNeg = 58) : wrB f y.toInt.toNat = (wrB f x.toInt.toNat ||| ((1 : Int32) <<< ((ctL f x.toInt.toNat - 1) &&& 31))) ∧ wrM f b m y.toInt.toNat = wrM f b m x.toInt.toNat := by
  rw [show y.toInt.toNat = x.toInt.toNat + 1 by omega, wrB, wrM, if_pos (show f x.toInt.toNat = 58 from h), if_pos (show f x.toInt.toNat = 58 from h)]
  exact ⟨rfl, rfl⟩
theorem wr_d {f : Nat → Int32} {b : Nat} {m : Nat → Int32} {x y : Int32} (h0 : 0 ≤ x.toInt) (hy : y.toInt = x.toInt + 1) (h : ¬ f x.toNatClampNeg = 58) (h4 : (ctL f x.toInt.toNat).toInt < 4) : wrB f y.toInt.toNat = wrB f x.toInt.toNat ∧ wrM f b m y.toInt.toNat = upd (wrM f b m x.toInt.toNat) (b + (ctL f x.toInt.toNat).toInt.toNat) (f x.toNatClampNeg - 48) := by
  rw [show y.toInt.toNat = x.toInt.toNat + 1 by omega, wrB, wrM, if_neg (show ¬ f x.toInt.toNat = 58 from h), if_neg (show ¬ f x.toInt.toNat = 58 from h), if_pos h4]
  exact ⟨rfl, rfl⟩
theorem wr_f {f : Nat → Int32} {b : Nat} {m : Nat → Int32} {x y : Int32} (h0 : 0 ≤ x.toInt) (hy : y.toInt = x.toInt + 1) (h : ¬ f x.toNatClampNeg = 58) (h4 : ¬ (ctL f x.toInt.toNat).toInt < 4) : wrB f y.toInt.toNat = wrB f x.toInt.toNat ∧ wrM f b m y.toInt.toNat = wrM f b m x.toInt.toNat := by
  rw [show y.toInt.toNat = x.toInt.toNat + 1 by omega, wrB, wrM, if_neg (show ¬ f x.toInt.toNat = 58 from h), if_neg (show ¬ f x.toInt.toNat = 58 from h), if_neg h4]
  exact ⟨rfl, rfl⟩
theorem wrM_congr {f : Nat → Int32} {b : Nat} {m m2 : Nat → Int32} (h : ∀ j : Nat, j < 16 → m j = m2 j) : ∀ n j : Nat, j < 16 → wrM f b m n j = wrM f b m2 n j := by
  intro n
  induction n with
  | zero => exact h
  | succ n ih =>
    intro j hj
    rw [wrM, wrM]
    by_cases c : f n = 58
    · rw [if_pos c, if_pos c]; exact ih j hj
    · rw [if_neg c, if_neg c]
      by_cases c2 : (ctL f n).toInt < 4
      · rw [if_pos c2, if_pos c2, upd_eq, upd_eq, ih j hj]
      · rw [if_neg c2, if_neg c2]; exact ih j hj
abbrev rm_X0_write : Room := { frames := 3, cells := 0, slots := 0, locals := 67 }
set_option maxHeartbeats 4000000 in
set_option maxRecDepth 100000 in
theorem c_X0_write (l : Launch) (D : va_G) (tys : List (ClassId × FieldType)) {cI cJ cZ cB : ClassId} (hT : Ty tys cI cJ cZ cB) (hb b0 b1 b2 b3 b4 b5 b6 : Nat) (pa mi ga te kn wa ne : Nat → Int32) (wc la br : Int32) (hp hs : Nat) (f : Nat → Int32) (z : Int32) (s : Int32) (hwc : 0 ≤ wc.toInt ∧ wc.toInt ≤ 6) (hw : WOk wa wc) (hs0 : 0 ≤ s.toInt ∧ s.toInt ≤ 3) (hz : 0 ≤ z.toInt ∧ z.toInt ≤ 30) (hpa : POk pa) : Cn l D tys yX0_write cX0_write 7 none rm_X0_write [(hb, .inr (0, [.ref b0, .ref b1, .ref b2, .ref b3, .ref b4, .ref b5, .ref b6, .int wc, .int la, .int br])), (b0, .inl (cI, 4, .inl pa)), (b1, .inl (cI, 16, .inl mi)), (b2, .inl (cI, 4, .inl ga)), (b3, .inl (cI, 4, .inl te)), (b4, .inl (cI, 4, .inl kn)), (b5, .inl (cI, 6, .inl wa)), (b6, .inl (cI, 16, .inl ne)), (hp, .inr (6, [.ref hs, .int z])), (hs, .inl (cI, 30, .inl f))] [.ref hb, .int s, .ref hp] (fun v W1 => ∃ (pa2 mi2 ga2 wa2 ne2 : Nat → Int32) (wc2 : Int32), v = none ∧ W1 = [(hb, .inr (0, [.ref b0, .ref b1, .ref b2, .ref b3, .ref b4, .ref b5, .ref b6, .int wc2, .int la, .int br])), (b0, .inl (cI, 4, .inl pa2)), (b1, .inl (cI, 16, .inl mi2)), (b2, .inl (cI, 4, .inl ga2)), (b3, .inl (cI, 4, .inl te)), (b4, .inl (cI, 4, .inl kn)), (b5, .inl (cI, 6, .inl wa2)), (b6, .inl (cI, 16, .inl ne2)), (hp, .inr (6, [.ref hs, .int z])), (hs, .inl (cI, 30, .inl f))] ∧ (((((0 ≤ wc2.toInt ∧ wc2.toInt ≤ 6) ∧ WOk wa2 wc2) ∧ POk pa2) ∧ pa2 = upd pa (Int32.toNatClampNeg s) (ctL f z.toInt.toNat) ∧ (mi2 = wrM f (4 * s.toInt).toNat mi z.toInt.toNat ∧ ga2 = upd ga (Int32.toNatClampNeg s) (wrB f z.toInt.toNat) ∧ FL (wk wa s (ctL f z.toInt.toNat)) wc wa wc2 wa2)) ∧ NEI wa2 wc2 ne2)) := by
  refine Cn.of (by decide) (Nat.le_of_ble_eq_true rfl) ?_ ?_ (fun X eL eD eT eO eK eN eM C => ?_)
  · intro h; cases h
  · intro v ws h; obtain ⟨_, _, _, _, _, _, rfl, rfl, _⟩ := h; rfl
  subst eL eD eT
  show V X 7 [(hb, .inr (0, [.ref b0, .ref b1, .ref b2, .ref b3, .ref b4, .ref b5, .ref b6, .int wc, .int la, .int br])), (b0, .inl (cI, 4, .inl pa)), (b1, .inl (cI, 16, .inl mi)), (b2, .inl (cI, 4, .inl ga)), (b3, .inl (cI, 4, .inl te)), (b4, .inl (cI, 4, .inl kn)), (b5, .inl (cI, 6, .inl wa)), (b6, .inl (cI, 16, .inl ne)), (hp, .inr (6, [.ref hs, .int z])), (hs, .inl (cI, 30, .inl f))] [(0, .ref hb), (1, .int s), (2, .ref hp)] [] 0 0 0
  refine x_iconst C 0 dX0_write_0 (by decide) ?_
  refine x_istore_n C [(3, .int 0), (0, .ref hb), (1, .int s), (2, .ref hp)] dX0_write_1 rfl (by decide) rfl ?_
  refine x_iconst C 0 dX0_write_2 (by decide) ?_
  refine x_istore C [(4, .int 0), (3, .int 0), (0, .ref hb), (1, .int s), (2, .ref hp)] dX0_write_3 (by decide) rfl ?_
  refine x_iconst C 0 dX0_write_5 (by decide) ?_
  refine x_istore C [(5, .int 0), (4, .int 0), (3, .int 0), (0, .ref hb), (1, .int s), (2, .ref hp)] dX0_write_6 (by decide) rfl ?_
  have L_8 : ∀ (n_8 : Nat) (x5_8 : Int32) (x4_8 : Int32) (x3_8 : Int32) (fb1_8 : Nat → Int32), (((0 ≤ x5_8.toInt ∧ x5_8.toInt ≤ z.toInt) ∧ 0 ≤ x3_8.toInt ∧ x3_8.toInt ≤ 4) ∧ x3_8 = ctL f x5_8.toInt.toNat ∧ x4_8 = wrB f x5_8.toInt.toNat ∧ fb1_8 = wrM f (4 * s.toInt).toNat mi x5_8.toInt.toNat) → ((z.toInt - x5_8.toInt).toNat < n_8) → V X 7 [(hb, .inr (0, [.ref b0, .ref b1, .ref b2, .ref b3, .ref b4, .ref b5, .ref b6, .int wc, .int la, .int br])), (b0, .inl (cI, 4, .inl pa)), (b1, .inl (cI, 16, .inl fb1_8)), (b2, .inl (cI, 4, .inl ga)), (b3, .inl (cI, 4, .inl te)), (b4, .inl (cI, 4, .inl kn)), (b5, .inl (cI, 6, .inl wa)), (b6, .inl (cI, 16, .inl ne)), (hp, .inr (6, [.ref hs, .int z])), (hs, .inl (cI, 30, .inl f))] [(5, .int x5_8), (4, .int x4_8), (3, .int x3_8), (0, .ref hb), (1, .int s), (2, .ref hp)] [] 8 0 0 := by
    intro n_8
    induction n_8 with
    | zero =>
      intro x5_8 x4_8 x3_8 fb1_8 i_8 m_8
      exact absurd m_8 (Nat.not_lt_zero _)
    | succ n_8 ih_8 =>
      intro x5_8 x4_8 x3_8 fb1_8 i_8 m_8
      refine x_iload C 0 dX0_write_8 rfl ?_
      refine x_aload_n C 5 dX0_write_10 rfl rfl ?_
      refine x_getN C 8 1 dX0_write_11 inlX6 rfl (by decide) nt_2 rfl rfl rfl ?_
      refine x_icmp_ge C 74 dX0_write_14 (by decide) (fun c_14 => ?_) (fun c_14 => ?_)
      · skip
        have e_14 : (z : Int32).toInt ≤ (x5_8 : Int32).toInt := i_le.mp c_14
        refine x_aload_n C 3 dX0_write_74 rfl rfl ?_
        refine x_get C 0 0 dX0_write_75 inlX0 rfl (by decide) wd_55 rfl rfl rfl ?_
        refine x_iload_n C 4 dX0_write_78 rfl rfl ?_
        refine x_iload_n C 2 dX0_write_79 rfl rfl ?_
        have v_80 : vp_in s 4 := (vp_in_iff.mpr (by omega))
        refine x_iast C 1 0 [(hb, .inr (0, [.ref b0, .ref b1, .ref b2, .ref b3, .ref b4, .ref b5, .ref b6, .int wc, .int la, .int br])), (b0, .inl (cI, 4, .inl (upd pa (Int32.toNatClampNeg s) x3_8))), (b1, .inl (cI, 16, .inl fb1_8)), (b2, .inl (cI, 4, .inl ga)), (b3, .inl (cI, 4, .inl te)), (b4, .inl (cI, 4, .inl kn)), (b5, .inl (cI, 6, .inl wa)), (b6, .inl (cI, 16, .inl ne)), (hp, .inr (6, [.ref hs, .int z])), (hs, .inl (cI, 30, .inl f))] dX0_write_80 hT.1 rfl v_80 rfl ?_
        refine x_aload_n C 3 dX0_write_81 rfl rfl ?_
        refine x_get C 0 2 dX0_write_82 inlX0 rfl (by decide) wd_57 rfl rfl rfl ?_
        refine x_iload_n C 4 dX0_write_85 rfl rfl ?_
        refine x_iload C 1 dX0_write_86 rfl ?_
        have v_88 : vp_in s 4 := (vp_in_iff.mpr (by omega))
        refine x_iast C 3 0 [(hb, .inr (0, [.ref b0, .ref b1, .ref b2, .ref b3, .ref b4, .ref b5, .ref b6, .int wc, .int la, .int br])), (b0, .inl (cI, 4, .inl (upd pa (Int32.toNatClampNeg s) x3_8))), (b1, .inl (cI, 16, .inl fb1_8)), (b2, .inl (cI, 4, .inl (upd ga (Int32.toNatClampNeg s) x4_8))), (b3, .inl (cI, 4, .inl te)), (b4, .inl (cI, 4, .inl kn)), (b5, .inl (cI, 6, .inl wa)), (b6, .inl (cI, 16, .inl ne)), (hp, .inr (6, [.ref hs, .int z])), (hs, .inl (cI, 30, .inl f))] dX0_write_88 hT.1 rfl v_88 rfl ?_
        refine x_aload_n C 3 dX0_write_89 rfl rfl ?_
        refine x_iload_n C 4 dX0_write_90 rfl rfl ?_
        refine x_iload_n C 2 dX0_write_91 rfl rfl ?_
        refine x_callV C [.int s, .int x3_8] [(hp, .inr (6, [.ref hs, .int z])), (hs, .inl (cI, 30, .inl f))] [0, 1, 2, 3, 4, 5, 6, 7] [8, 9] (q0 := 0) (c_X0_dropWaitsBeyond (xl X) (xD X) (xt X) hT hb b0 b1 b2 b3 b4 b5 b6 (upd pa (Int32.toNatClampNeg s) x3_8) fb1_8 (upd ga (Int32.toNatClampNeg s) x4_8) te kn wa ne wc la br s x3_8 (by omega) hw) dX0_write_92 wd_230 wd_231 wd_232 wd_18 wd_233 (np := 2) ⟨by decide, by decide, by decide +kernel⟩ rfl rfl (Nat.le_of_ble_eq_true rfl) (by decide) rfl rfl rfl rfl (by decide) rfl (by decide) (by decide) (fun v W1 h => ?_)
        obtain ⟨wa2_92, ne2_92, wc2_92, rfl, rfl, h_92⟩ := h
        show V X 7 [(hp, .inr (6, [.ref hs, .int z])), (hs, .inl (cI, 30, .inl f)), (hb, .inr (0, [.ref b0, .ref b1, .ref b2, .ref b3, .ref b4, .ref b5, .ref b6, .int wc2_92, .int la, .int br])), (b0, .inl (cI, 4, .inl ((upd pa (Int32.toNatClampNeg s) x3_8)))), (b1, .inl (cI, 16, .inl fb1_8)), (b2, .inl (cI, 4, .inl ((upd ga (Int32.toNatClampNeg s) x4_8)))), (b3, .inl (cI, 4, .inl te)), (b4, .inl (cI, 4, .inl kn)), (b5, .inl (cI, 6, .inl wa2_92)), (b6, .inl (cI, 16, .inl ne2_92))] [(5, .int x5_8), (4, .int x4_8), (3, .int x3_8), (0, .ref hb), (1, .int s), (2, .ref hp)] [] 95 0 0
        refine x_sub [(hb, .inr (0, [.ref b0, .ref b1, .ref b2, .ref b3, .ref b4, .ref b5, .ref b6, .int wc2_92, .int la, .int br])), (b0, .inl (cI, 4, .inl ((upd pa (Int32.toNatClampNeg s) x3_8)))), (b1, .inl (cI, 16, .inl fb1_8)), (b2, .inl (cI, 4, .inl ((upd ga (Int32.toNatClampNeg s) x4_8)))), (b3, .inl (cI, 4, .inl te)), (b4, .inl (cI, 4, .inl kn)), (b5, .inl (cI, 6, .inl wa2_92)), (b6, .inl (cI, 16, .inl ne2_92)), (hp, .inr (6, [.ref hs, .int z])), (hs, .inl (cI, 30, .inl f))] [2, 3, 4, 5, 6, 7, 8, 9, 0, 1] (by decide) rfl ?_
        exact x_vret C dX0_write_95 (Nat.zero_le _) (Nat.zero_le _) (by rw [eO]; exact ⟨((upd pa (Int32.toNatClampNeg s) x3_8)), fb1_8, ((upd ga (Int32.toNatClampNeg s) x4_8)), wa2_92, ne2_92, wc2_92, rfl, rfl, ⟨⟨⟨h_92.1.1, hpa.upd (by omega)⟩, by rw [i_8.2.1, show x5_8.toInt.toNat = z.toInt.toNat by omega], by rw [i_8.2.2.2, show x5_8.toInt.toNat = z.toInt.toNat by omega], by rw [i_8.2.2.1, show x5_8.toInt.toNat = z.toInt.toNat by omega], by have h9 := h_92.1.2; rw [i_8.2.1, show x5_8.toInt.toNat = z.toInt.toNat by omega] at h9; exact h9⟩, h_92.2⟩⟩)
      · skip
        have e_14 : ¬ ((z : Int32).toInt ≤ (x5_8 : Int32).toInt) := fun h => c_14 (i_le.mpr h)
        refine x_aload_n C 5 dX0_write_17 rfl rfl ?_
        refine x_iload C 0 dX0_write_18 rfl ?_
        refine x_callV C [.int x5_8] [(hb, .inr (0, [.ref b0, .ref b1, .ref b2, .ref b3, .ref b4, .ref b5, .ref b6, .int wc, .int la, .int br])), (b0, .inl (cI, 4, .inl pa)), (b1, .inl (cI, 16, .inl fb1_8)), (b2, .inl (cI, 4, .inl ga)), (b3, .inl (cI, 4, .inl te)), (b4, .inl (cI, 4, .inl kn)), (b5, .inl (cI, 6, .inl wa)), (b6, .inl (cI, 16, .inl ne))] [8, 9] [0, 1, 2, 3, 4, 5, 6, 7] (q0 := 0) (c_X6_signAt (xl X) (xD X) (xt X) hT hp hs f z x5_8 (by omega)) dX0_write_20 wd_226 wd_227 wd_228 wd_14 wd_229 (np := 1) ⟨by decide, by decide, by decide +kernel⟩ rfl rfl (Nat.le_of_ble_eq_true rfl) (by decide) rfl rfl rfl rfl (by decide) rfl (by decide) (by decide) (fun v W1 h => ?_)
        obtain ⟨r_20, rfl, rfl, h_20⟩ := h
        show V X 7 [(hb, .inr (0, [.ref b0, .ref b1, .ref b2, .ref b3, .ref b4, .ref b5, .ref b6, .int wc, .int la, .int br])), (b0, .inl (cI, 4, .inl pa)), (b1, .inl (cI, 16, .inl fb1_8)), (b2, .inl (cI, 4, .inl ga)), (b3, .inl (cI, 4, .inl te)), (b4, .inl (cI, 4, .inl kn)), (b5, .inl (cI, 6, .inl wa)), (b6, .inl (cI, 16, .inl ne)), (hp, .inr (6, [.ref hs, .int z])), (hs, .inl (cI, 30, .inl f))] [(5, .int x5_8), (4, .int x4_8), (3, .int x3_8), (0, .ref hb), (1, .int s), (2, .ref hp)] [.int r_20] 23 0 0
        have s9 := h_20.1 (by omega)
        have k9 : Int32.toNatClampNeg (s * 4 + x3_8) = (4 * s.toInt).toNat + x3_8.toInt.toNat := by
          have : (4 : Int32).toInt = 4 := by decide
          have := i_mulr (x := s) (y := 4) (d := 4) (by decide) (by omega) (by omega)
          have := i_add (x := s * 4) (y := x3_8) (by omega) (by omega)
          show (s * 4 + x3_8).toInt.toNat = _
          omega
        refine x_istore C [(6, .int r_20), (5, .int x5_8), (4, .int x4_8), (3, .int x3_8), (0, .ref hb), (1, .int s), (2, .ref hp)] dX0_write_23 (by decide) rfl ?_
        refine x_iload C 0 dX0_write_25 rfl ?_
        refine x_bipush C 58 dX0_write_27 (by decide) ?_
        refine x_icmp_ne C 45 dX0_write_29 (by decide) (fun c_29 => ?_) (fun c_29 => ?_)
        · skip
          have e_29 : ¬ ((r_20 : Int32).toInt = (58 : Int32).toInt) := fun h => c_29 (i_eq.mpr h)
          have : (58 : Int32).toInt = 58 := by decide
          refine x_iload_n C 3 dX0_write_45 rfl rfl ?_
          refine x_iconst C 4 dX0_write_46 (by decide) ?_
          refine x_icmp_ge C 68 dX0_write_47 (by decide) (fun c_47 => ?_) (fun c_47 => ?_)
          · skip
            have e_47 : (4 : Int32).toInt ≤ (x3_8 : Int32).toInt := i_le.mp c_47
            have : (4 : Int32).toInt = 4 := by decide
            refine x_iinc C 1 (x5_8 + 1) [(5, .int (x5_8 + 1)), (6, .int r_20), (4, .int x4_8), (3, .int x3_8), (0, .ref hb), (1, .int s), (2, .ref hp)] dX0_write_68 rfl rfl (by decide) rfl ?_
            refine x_goto C 8 dX0_write_71 (by decide) ?_
            refine x_lv [(5, .int (x5_8 + 1)), (4, .int x4_8), (3, .int x3_8), (0, .ref hb), (1, .int s), (2, .ref hp)] [0, 2, 3, 4, 5, 6] rfl ?_
            have : (1 : Int32).toInt = 1 := by decide
            have := i_add (x := x5_8) (y := 1) (by omega) (by omega)
            exact ih_8 (x5_8 + 1) x4_8 x3_8 fb1_8 ⟨by omega, i_8.2.1.trans (ct_f (f := f) (x := x5_8) (by omega) (by omega) (by rw [← s9]; assumption) (by rw [← i_8.2.1]; omega)).symm, i_8.2.2.1.trans (wr_f (f := f) (b := (4 * s.toInt).toNat) (m := mi) (x := x5_8) (by omega) (by omega) (by rw [← s9]; assumption) (by rw [← i_8.2.1]; omega)).1.symm, i_8.2.2.2.trans (wr_f (f := f) (b := (4 * s.toInt).toNat) (m := mi) (x := x5_8) (by omega) (by omega) (by rw [← s9]; assumption) (by rw [← i_8.2.1]; omega)).2.symm⟩ (by omega)
          · skip
            have e_47 : ¬ ((4 : Int32).toInt ≤ (x3_8 : Int32).toInt) := fun h => c_47 (i_le.mpr h)
            have : (4 : Int32).toInt = 4 := by decide
            refine x_aload_n C 4 dX0_write_50 rfl rfl ?_
            refine x_get C 0 1 dX0_write_51 inlX0 rfl (by decide) wd_56 rfl rfl rfl ?_
            refine x_iload_n C 5 dX0_write_54 rfl rfl ?_
            refine x_iconst C 4 dX0_write_55 (by decide) ?_
            refine x_imul C dX0_write_56 ?_
            refine x_iload_n C 3 dX0_write_57 rfl rfl ?_
            refine x_iadd C dX0_write_58 ?_
            refine x_iload C 0 dX0_write_59 rfl ?_
            refine x_bipush C 48 dX0_write_61 (by decide) ?_
            refine x_isub C dX0_write_63 ?_
            have : (4 : Int32).toInt = 4 := by decide
            have := i_mulr (x := s) (y := 4) (d := 4) (by decide) (by omega) (by omega)
            have := i_add (x := (s * 4)) (y := x3_8) (by omega) (by omega)
            have v_64 : vp_in ((s * 4) + x3_8) 16 := (vp_in_iff.mpr (by omega))
            refine x_iast C 2 0 [(hb, .inr (0, [.ref b0, .ref b1, .ref b2, .ref b3, .ref b4, .ref b5, .ref b6, .int wc, .int la, .int br])), (b0, .inl (cI, 4, .inl pa)), (b1, .inl (cI, 16, .inl (upd fb1_8 (Int32.toNatClampNeg ((s * 4) + x3_8)) (r_20 - 48)))), (b2, .inl (cI, 4, .inl ga)), (b3, .inl (cI, 4, .inl te)), (b4, .inl (cI, 4, .inl kn)), (b5, .inl (cI, 6, .inl wa)), (b6, .inl (cI, 16, .inl ne)), (hp, .inr (6, [.ref hs, .int z])), (hs, .inl (cI, 30, .inl f))] dX0_write_64 hT.1 rfl v_64 rfl ?_
            refine x_iinc C 3 (x3_8 + 1) [(3, .int (x3_8 + 1)), (6, .int r_20), (5, .int x5_8), (4, .int x4_8), (0, .ref hb), (1, .int s), (2, .ref hp)] dX0_write_65 rfl rfl (by decide) rfl ?_
            refine x_iinc C 2 (x5_8 + 1) [(5, .int (x5_8 + 1)), (3, .int (x3_8 + 1)), (6, .int r_20), (4, .int x4_8), (0, .ref hb), (1, .int s), (2, .ref hp)] dX0_write_68 rfl rfl (by decide) rfl ?_
            refine x_goto C 8 dX0_write_71 (by decide) ?_
            refine x_lv [(5, .int (x5_8 + 1)), (4, .int x4_8), (3, .int (x3_8 + 1)), (0, .ref hb), (1, .int s), (2, .ref hp)] [0, 3, 1, 4, 5, 6] rfl ?_
            have : (1 : Int32).toInt = 1 := by decide
            have := i_add (x := x5_8) (y := 1) (by omega) (by omega)
            have : (1 : Int32).toInt = 1 := by decide
            have := i_add (x := x3_8) (y := 1) (by omega) (by omega)
            exact ih_8 (x5_8 + 1) x4_8 (x3_8 + 1) (upd fb1_8 (Int32.toNatClampNeg ((s * 4) + x3_8)) (r_20 - 48)) ⟨by omega, (congrArg (fun z => z + 1) i_8.2.1).trans (ct_d (f := f) (x := x5_8) (by omega) (by omega) (by rw [← s9]; assumption) (by rw [← i_8.2.1]; omega)).symm, i_8.2.2.1.trans (wr_d (f := f) (b := (4 * s.toInt).toNat) (m := mi) (x := x5_8) (by omega) (by omega) (by rw [← s9]; assumption) (by rw [← i_8.2.1]; omega)).1.symm, by rw [(wr_d (f := f) (b := (4 * s.toInt).toNat) (m := mi) (x := x5_8) (by omega) (by omega) (by rw [← s9]; assumption) (by rw [← i_8.2.1]; omega)).2, ← i_8.2.1, ← i_8.2.2.2, ← s9, k9]⟩ (by omega)
        · skip
          have e_29 : (r_20 : Int32).toInt = (58 : Int32).toInt := i_eq.mp c_29
          have : (58 : Int32).toInt = 58 := by decide
          refine x_iload C 2 dX0_write_32 rfl ?_
          refine x_iconst C 1 dX0_write_34 (by decide) ?_
          refine x_iload_n C 3 dX0_write_35 rfl rfl ?_
          refine x_iconst C 1 dX0_write_36 (by decide) ?_
          refine x_isub C dX0_write_37 ?_
          refine x_ishl C dX0_write_38 ?_
          refine x_ior C dX0_write_39 ?_
          refine x_istore C [(4, .int (x4_8 ||| ((1 : Int32) <<< ((x3_8 - 1) &&& 31)))), (6, .int r_20), (5, .int x5_8), (3, .int x3_8), (0, .ref hb), (1, .int s), (2, .ref hp)] dX0_write_40 (by decide) rfl ?_
          refine x_goto C 68 dX0_write_42 (by decide) ?_
          refine x_iinc C 2 (x5_8 + 1) [(5, .int (x5_8 + 1)), (4, .int (x4_8 ||| ((1 : Int32) <<< ((x3_8 - 1) &&& 31)))), (6, .int r_20), (3, .int x3_8), (0, .ref hb), (1, .int s), (2, .ref hp)] dX0_write_68 rfl rfl (by decide) rfl ?_
          refine x_goto C 8 dX0_write_71 (by decide) ?_
          refine x_lv [(5, .int (x5_8 + 1)), (4, .int (x4_8 ||| ((1 : Int32) <<< ((x3_8 - 1) &&& 31)))), (3, .int x3_8), (0, .ref hb), (1, .int s), (2, .ref hp)] [0, 1, 3, 4, 5, 6] rfl ?_
          have : (1 : Int32).toInt = 1 := by decide
          have := i_add (x := x5_8) (y := 1) (by omega) (by omega)
          exact ih_8 (x5_8 + 1) (x4_8 ||| ((1 : Int32) <<< ((x3_8 - 1) &&& 31))) x3_8 fb1_8 ⟨by omega, i_8.2.1.trans (ct_c (f := f) (x := x5_8) (by omega) (by omega) (by rw [← s9]; assumption)).symm, by rw [(wr_c (f := f) (b := (4 * s.toInt).toNat) (m := mi) (x := x5_8) (by omega) (by omega) (by rw [← s9]; assumption)).1, ← i_8.2.1, ← i_8.2.2.1], i_8.2.2.2.trans (wr_c (f := f) (b := (4 * s.toInt).toNat) (m := mi) (x := x5_8) (by omega) (by omega) (by rw [← s9]; assumption)).2.symm⟩ (by omega)
  have : (0 : Int32).toInt = 0 := by decide
  have : (0 : Int32).toInt = 0 := by decide
  have : (0 : Int32).toInt = 0 := by decide
  exact L_8 _ 0 0 0 mi ⟨by omega, rfl, rfl, rfl⟩ (Nat.lt_succ_self _)
abbrev rm_X0_copy : Room := { frames := 0, cells := 0, slots := 0, locals := 0 }
set_option maxHeartbeats 4000000 in
set_option maxRecDepth 100000 in
theorem c_X0_copy (l : Launch) (D : va_G) (tys : List (ClassId × FieldType)) {cI cJ cZ cB : ClassId} (hT : Ty tys cI cJ cZ cB) (hb b0 b1 b2 b3 b4 b5 b6 : Nat) (pa mi ga te kn wa ne : Nat → Int32) (wc la br : Int32) (kb k0 k1 k2 k3 k4 k5 k6 : Nat) (pa2 mi2 ga2 te2 kn2 wa2 ne2 : Nat → Int32) (wc2 la2 br2 : Int32)  : Cn l D tys yX0_copy cX0_copy 3 none rm_X0_copy [(hb, .inr (0, [.ref b0, .ref b1, .ref b2, .ref b3, .ref b4, .ref b5, .ref b6, .int wc, .int la, .int br])), (b0, .inl (cI, 4, .inl pa)), (b1, .inl (cI, 16, .inl mi)), (b2, .inl (cI, 4, .inl ga)), (b3, .inl (cI, 4, .inl te)), (b4, .inl (cI, 4, .inl kn)), (b5, .inl (cI, 6, .inl wa)), (b6, .inl (cI, 16, .inl ne)), (kb, .inr (0, [.ref k0, .ref k1, .ref k2, .ref k3, .ref k4, .ref k5, .ref k6, .int wc2, .int la2, .int br2])), (k0, .inl (cI, 4, .inl pa2)), (k1, .inl (cI, 16, .inl mi2)), (k2, .inl (cI, 4, .inl ga2)), (k3, .inl (cI, 4, .inl te2)), (k4, .inl (cI, 4, .inl kn2)), (k5, .inl (cI, 6, .inl wa2)), (k6, .inl (cI, 16, .inl ne2))] [.ref hb, .ref kb] (fun v W1 => ∃ (pa3 mi3 ga3 te3 kn3 wa3 ne3 : Nat → Int32), v = none ∧ W1 = [(hb, .inr (0, [.ref b0, .ref b1, .ref b2, .ref b3, .ref b4, .ref b5, .ref b6, .int wc2, .int la2, .int br2])), (b0, .inl (cI, 4, .inl pa3)), (b1, .inl (cI, 16, .inl mi3)), (b2, .inl (cI, 4, .inl ga3)), (b3, .inl (cI, 4, .inl te3)), (b4, .inl (cI, 4, .inl kn3)), (b5, .inl (cI, 6, .inl wa3)), (b6, .inl (cI, 16, .inl ne3)), (kb, .inr (0, [.ref k0, .ref k1, .ref k2, .ref k3, .ref k4, .ref k5, .ref k6, .int wc2, .int la2, .int br2])), (k0, .inl (cI, 4, .inl pa2)), (k1, .inl (cI, 16, .inl mi2)), (k2, .inl (cI, 4, .inl ga2)), (k3, .inl (cI, 4, .inl te2)), (k4, .inl (cI, 4, .inl kn2)), (k5, .inl (cI, 6, .inl wa2)), (k6, .inl (cI, 16, .inl ne2))] ∧ ((∀ j : Nat, j < 4 → pa3 j = pa2 j) ∧ (∀ j : Nat, j < 16 → mi3 j = mi2 j) ∧ (∀ j : Nat, j < 4 → ga3 j = ga2 j) ∧ (∀ j : Nat, j < 4 → te3 j = te2 j) ∧ (∀ j : Nat, j < 4 → kn3 j = kn2 j) ∧ (∀ j : Nat, j < 6 → wa3 j = wa2 j) ∧ (∀ j : Nat, j < 16 → ne3 j = ne2 j))) := by
  refine Cn.of (by decide) (Nat.le_of_ble_eq_true rfl) ?_ ?_ (fun X eL eD eT eO eK eN eM C => ?_)
  · intro h; cases h
  · intro v ws h; obtain ⟨_, _, _, _, _, _, _, rfl, rfl, _⟩ := h; rfl
  subst eL eD eT
  show V X 3 [(hb, .inr (0, [.ref b0, .ref b1, .ref b2, .ref b3, .ref b4, .ref b5, .ref b6, .int wc, .int la, .int br])), (b0, .inl (cI, 4, .inl pa)), (b1, .inl (cI, 16, .inl mi)), (b2, .inl (cI, 4, .inl ga)), (b3, .inl (cI, 4, .inl te)), (b4, .inl (cI, 4, .inl kn)), (b5, .inl (cI, 6, .inl wa)), (b6, .inl (cI, 16, .inl ne)), (kb, .inr (0, [.ref k0, .ref k1, .ref k2, .ref k3, .ref k4, .ref k5, .ref k6, .int wc2, .int la2, .int br2])), (k0, .inl (cI, 4, .inl pa2)), (k1, .inl (cI, 16, .inl mi2)), (k2, .inl (cI, 4, .inl ga2)), (k3, .inl (cI, 4, .inl te2)), (k4, .inl (cI, 4, .inl kn2)), (k5, .inl (cI, 6, .inl wa2)), (k6, .inl (cI, 16, .inl ne2))] [(0, .ref hb), (1, .ref kb)] [] 0 0 0
  refine x_iconst C 0 dX0_copy_0 (by decide) ?_
  refine x_istore_n C [(2, .int 0), (0, .ref hb), (1, .ref kb)] dX0_copy_1 rfl (by decide) rfl ?_
  have L_2 : ∀ (n_2 : Nat) (x2_2 : Int32) (fb0_2 : Nat → Int32) (fb2_2 : Nat → Int32) (fb3_2 : Nat → Int32) (fb4_2 : Nat → Int32), ((0 ≤ x2_2.toInt ∧ x2_2.toInt ≤ 4) ∧ (∀ j : Nat, (j : Int) < x2_2.toInt → fb0_2 j = pa2 j) ∧ (∀ j : Nat, (j : Int) < x2_2.toInt → fb2_2 j = ga2 j) ∧ (∀ j : Nat, (j : Int) < x2_2.toInt → fb3_2 j = te2 j) ∧ (∀ j : Nat, (j : Int) < x2_2.toInt → fb4_2 j = kn2 j)) → ((4 - x2_2.toInt).toNat < n_2) → V X 3 [(hb, .inr (0, [.ref b0, .ref b1, .ref b2, .ref b3, .ref b4, .ref b5, .ref b6, .int wc, .int la, .int br])), (b0, .inl (cI, 4, .inl fb0_2)), (b1, .inl (cI, 16, .inl mi)), (b2, .inl (cI, 4, .inl fb2_2)), (b3, .inl (cI, 4, .inl fb3_2)), (b4, .inl (cI, 4, .inl fb4_2)), (b5, .inl (cI, 6, .inl wa)), (b6, .inl (cI, 16, .inl ne)), (kb, .inr (0, [.ref k0, .ref k1, .ref k2, .ref k3, .ref k4, .ref k5, .ref k6, .int wc2, .int la2, .int br2])), (k0, .inl (cI, 4, .inl pa2)), (k1, .inl (cI, 16, .inl mi2)), (k2, .inl (cI, 4, .inl ga2)), (k3, .inl (cI, 4, .inl te2)), (k4, .inl (cI, 4, .inl kn2)), (k5, .inl (cI, 6, .inl wa2)), (k6, .inl (cI, 16, .inl ne2))] [(2, .int x2_2), (0, .ref hb), (1, .ref kb)] [] 2 0 0 := by
    intro n_2
    induction n_2 with
    | zero =>
      intro x2_2 fb0_2 fb2_2 fb3_2 fb4_2 i_2 m_2
      exact absurd m_2 (Nat.not_lt_zero _)
    | succ n_2 ih_2 =>
      intro x2_2 fb0_2 fb2_2 fb3_2 fb4_2 i_2 m_2
      refine x_iload_n C 0 dX0_copy_2 rfl rfl ?_
      refine x_iconst C 4 dX0_copy_3 (by decide) ?_
      refine x_icmp_ge C 61 dX0_copy_4 (by decide) (fun c_4 => ?_) (fun c_4 => ?_)
      · skip
        have e_4 : (4 : Int32).toInt ≤ (x2_2 : Int32).toInt := i_le.mp c_4
        have : (4 : Int32).toInt = 4 := by decide
        refine x_iconst C 0 dX0_copy_61 (by decide) ?_
        refine x_istore_n C [(2, .int 0), (0, .ref hb), (1, .ref kb)] dX0_copy_62 rfl (by decide) rfl ?_
        have L_63 : ∀ (n_63 : Nat) (x2_63 : Int32) (fb1_63 : Nat → Int32) (fb6_63 : Nat → Int32), ((0 ≤ x2_63.toInt ∧ x2_63.toInt ≤ 16) ∧ (∀ j : Nat, (j : Int) < x2_63.toInt → fb1_63 j = mi2 j) ∧ (∀ j : Nat, (j : Int) < x2_63.toInt → fb6_63 j = ne2 j)) → ((16 - x2_63.toInt).toNat < n_63) → V X 3 [(hb, .inr (0, [.ref b0, .ref b1, .ref b2, .ref b3, .ref b4, .ref b5, .ref b6, .int wc, .int la, .int br])), (b0, .inl (cI, 4, .inl fb0_2)), (b1, .inl (cI, 16, .inl fb1_63)), (b2, .inl (cI, 4, .inl fb2_2)), (b3, .inl (cI, 4, .inl fb3_2)), (b4, .inl (cI, 4, .inl fb4_2)), (b5, .inl (cI, 6, .inl wa)), (b6, .inl (cI, 16, .inl fb6_63)), (kb, .inr (0, [.ref k0, .ref k1, .ref k2, .ref k3, .ref k4, .ref k5, .ref k6, .int wc2, .int la2, .int br2])), (k0, .inl (cI, 4, .inl pa2)), (k1, .inl (cI, 16, .inl mi2)), (k2, .inl (cI, 4, .inl ga2)), (k3, .inl (cI, 4, .inl te2)), (k4, .inl (cI, 4, .inl kn2)), (k5, .inl (cI, 6, .inl wa2)), (k6, .inl (cI, 16, .inl ne2))] [(2, .int x2_63), (0, .ref hb), (1, .ref kb)] [] 63 0 0 := by
          intro n_63
          induction n_63 with
          | zero =>
            intro x2_63 fb1_63 fb6_63 i_63 m_63
            exact absurd m_63 (Nat.not_lt_zero _)
          | succ n_63 ih_63 =>
            intro x2_63 fb1_63 fb6_63 i_63 m_63
            refine x_iload_n C 0 dX0_copy_63 rfl rfl ?_
            refine x_bipush C 16 dX0_copy_64 (by decide) ?_
            refine x_icmp_ge C 99 dX0_copy_66 (by decide) (fun c_66 => ?_) (fun c_66 => ?_)
            · skip
              have e_66 : (16 : Int32).toInt ≤ (x2_63 : Int32).toInt := i_le.mp c_66
              have : (16 : Int32).toInt = 16 := by decide
              refine x_iconst C 0 dX0_copy_99 (by decide) ?_
              refine x_istore_n C [(2, .int 0), (0, .ref hb), (1, .ref kb)] dX0_copy_100 rfl (by decide) rfl ?_
              have L_101 : ∀ (n_101 : Nat) (x2_101 : Int32) (fb5_101 : Nat → Int32), ((0 ≤ x2_101.toInt ∧ x2_101.toInt ≤ 6) ∧ (∀ j : Nat, (j : Int) < x2_101.toInt → fb5_101 j = wa2 j)) → ((6 - x2_101.toInt).toNat < n_101) → V X 3 [(hb, .inr (0, [.ref b0, .ref b1, .ref b2, .ref b3, .ref b4, .ref b5, .ref b6, .int wc, .int la, .int br])), (b0, .inl (cI, 4, .inl fb0_2)), (b1, .inl (cI, 16, .inl fb1_63)), (b2, .inl (cI, 4, .inl fb2_2)), (b3, .inl (cI, 4, .inl fb3_2)), (b4, .inl (cI, 4, .inl fb4_2)), (b5, .inl (cI, 6, .inl fb5_101)), (b6, .inl (cI, 16, .inl fb6_63)), (kb, .inr (0, [.ref k0, .ref k1, .ref k2, .ref k3, .ref k4, .ref k5, .ref k6, .int wc2, .int la2, .int br2])), (k0, .inl (cI, 4, .inl pa2)), (k1, .inl (cI, 16, .inl mi2)), (k2, .inl (cI, 4, .inl ga2)), (k3, .inl (cI, 4, .inl te2)), (k4, .inl (cI, 4, .inl kn2)), (k5, .inl (cI, 6, .inl wa2)), (k6, .inl (cI, 16, .inl ne2))] [(2, .int x2_101), (0, .ref hb), (1, .ref kb)] [] 101 0 0 := by
                intro n_101
                induction n_101 with
                | zero =>
                  intro x2_101 fb5_101 i_101 m_101
                  exact absurd m_101 (Nat.not_lt_zero _)
                | succ n_101 ih_101 =>
                  intro x2_101 fb5_101 i_101 m_101
                  refine x_iload_n C 0 dX0_copy_101 rfl rfl ?_
                  refine x_bipush C 6 dX0_copy_102 (by decide) ?_
                  refine x_icmp_ge C 125 dX0_copy_104 (by decide) (fun c_104 => ?_) (fun c_104 => ?_)
                  · skip
                    have e_104 : (6 : Int32).toInt ≤ (x2_101 : Int32).toInt := i_le.mp c_104
                    have : (6 : Int32).toInt = 6 := by decide
                    refine x_aload_n C 1 dX0_copy_125 rfl rfl ?_
                    refine x_aload_n C 2 dX0_copy_126 rfl rfl ?_
                    refine x_get C 8 7 dX0_copy_127 inlX0 rfl (by decide) wd_234 rfl rfl rfl ?_
                    refine x_put C 0 7 (ty := .int) [(hb, .inr (0, [.ref b0, .ref b1, .ref b2, .ref b3, .ref b4, .ref b5, .ref b6, .int wc2, .int la, .int br])), (b0, .inl (cI, 4, .inl fb0_2)), (b1, .inl (cI, 16, .inl fb1_63)), (b2, .inl (cI, 4, .inl fb2_2)), (b3, .inl (cI, 4, .inl fb3_2)), (b4, .inl (cI, 4, .inl fb4_2)), (b5, .inl (cI, 6, .inl fb5_101)), (b6, .inl (cI, 16, .inl fb6_63)), (kb, .inr (0, [.ref k0, .ref k1, .ref k2, .ref k3, .ref k4, .ref k5, .ref k6, .int wc2, .int la2, .int br2])), (k0, .inl (cI, 4, .inl pa2)), (k1, .inl (cI, 16, .inl mi2)), (k2, .inl (cI, 4, .inl ga2)), (k3, .inl (cI, 4, .inl te2)), (k4, .inl (cI, 4, .inl kn2)), (k5, .inl (cI, 6, .inl wa2)), (k6, .inl (cI, 16, .inl ne2))] dX0_copy_130 inlX0 tyX0 tyX0_ok nmX0 rfl (by decide) wd_234 rfl rfl rfl rfl rfl rfl (Nat.le_of_ble_eq_true rfl) rfl ?_
                    refine x_aload_n C 1 dX0_copy_133 rfl rfl ?_
                    refine x_aload_n C 2 dX0_copy_134 rfl rfl ?_
                    refine x_get C 8 8 dX0_copy_135 inlX0 rfl (by decide) wd_62 rfl rfl rfl ?_
                    refine x_put C 0 8 (ty := .int) [(hb, .inr (0, [.ref b0, .ref b1, .ref b2, .ref b3, .ref b4, .ref b5, .ref b6, .int wc2, .int la2, .int br])), (b0, .inl (cI, 4, .inl fb0_2)), (b1, .inl (cI, 16, .inl fb1_63)), (b2, .inl (cI, 4, .inl fb2_2)), (b3, .inl (cI, 4, .inl fb3_2)), (b4, .inl (cI, 4, .inl fb4_2)), (b5, .inl (cI, 6, .inl fb5_101)), (b6, .inl (cI, 16, .inl fb6_63)), (kb, .inr (0, [.ref k0, .ref k1, .ref k2, .ref k3, .ref k4, .ref k5, .ref k6, .int wc2, .int la2, .int br2])), (k0, .inl (cI, 4, .inl pa2)), (k1, .inl (cI, 16, .inl mi2)), (k2, .inl (cI, 4, .inl ga2)), (k3, .inl (cI, 4, .inl te2)), (k4, .inl (cI, 4, .inl kn2)), (k5, .inl (cI, 6, .inl wa2)), (k6, .inl (cI, 16, .inl ne2))] dX0_copy_138 inlX0 tyX0 tyX0_ok nmX0 rfl (by decide) wd_62 rfl rfl rfl rfl rfl rfl (Nat.le_of_ble_eq_true rfl) rfl ?_
                    refine x_aload_n C 1 dX0_copy_141 rfl rfl ?_
                    refine x_aload_n C 2 dX0_copy_142 rfl rfl ?_
                    refine x_get C 8 9 dX0_copy_143 inlX0 rfl (by decide) wd_856 rfl rfl rfl ?_
                    refine x_put C 0 9 (ty := .int) [(hb, .inr (0, [.ref b0, .ref b1, .ref b2, .ref b3, .ref b4, .ref b5, .ref b6, .int wc2, .int la2, .int br2])), (b0, .inl (cI, 4, .inl fb0_2)), (b1, .inl (cI, 16, .inl fb1_63)), (b2, .inl (cI, 4, .inl fb2_2)), (b3, .inl (cI, 4, .inl fb3_2)), (b4, .inl (cI, 4, .inl fb4_2)), (b5, .inl (cI, 6, .inl fb5_101)), (b6, .inl (cI, 16, .inl fb6_63)), (kb, .inr (0, [.ref k0, .ref k1, .ref k2, .ref k3, .ref k4, .ref k5, .ref k6, .int wc2, .int la2, .int br2])), (k0, .inl (cI, 4, .inl pa2)), (k1, .inl (cI, 16, .inl mi2)), (k2, .inl (cI, 4, .inl ga2)), (k3, .inl (cI, 4, .inl te2)), (k4, .inl (cI, 4, .inl kn2)), (k5, .inl (cI, 6, .inl wa2)), (k6, .inl (cI, 16, .inl ne2))] dX0_copy_146 inlX0 tyX0 tyX0_ok nmX0 rfl (by decide) wd_856 rfl rfl rfl rfl rfl rfl (Nat.le_of_ble_eq_true rfl) rfl ?_
                    exact x_vret C dX0_copy_149 (Nat.zero_le _) (Nat.zero_le _) (by rw [eO]; exact ⟨fb0_2, fb1_63, fb2_2, fb3_2, fb4_2, fb5_101, fb6_63, rfl, rfl, ⟨(fun j hj => i_2.2.1 j (by omega)), (fun j hj => i_63.2.1 j (by omega)), (fun j hj => i_2.2.2.1 j (by omega)), (fun j hj => i_2.2.2.2.1 j (by omega)), (fun j hj => i_2.2.2.2.2 j (by omega)), (fun j hj => i_101.2 j (by omega)), (fun j hj => i_63.2.2 j (by omega))⟩⟩)
                  · skip
                    have e_104 : ¬ ((6 : Int32).toInt ≤ (x2_101 : Int32).toInt) := fun h => c_104 (i_le.mpr h)
                    have : (6 : Int32).toInt = 6 := by decide
                    refine x_aload_n C 1 dX0_copy_107 rfl rfl ?_
                    refine x_get C 0 5 dX0_copy_108 inlX0 rfl (by decide) wd_60 rfl rfl rfl ?_
                    refine x_iload_n C 0 dX0_copy_111 rfl rfl ?_
                    refine x_aload_n C 2 dX0_copy_112 rfl rfl ?_
                    refine x_get C 8 5 dX0_copy_113 inlX0 rfl (by decide) wd_60 rfl rfl rfl ?_
                    refine x_iload_n C 0 dX0_copy_116 rfl rfl ?_
                    have v_117 : vp_in x2_101 6 := (vp_in_iff.mpr (by omega))
                    refine x_iald C 14 0 dX0_copy_117 hT.1 rfl v_117 ?_
                    have v_118 : vp_in x2_101 6 := (vp_in_iff.mpr (by omega))
                    refine x_iast C 6 0 [(hb, .inr (0, [.ref b0, .ref b1, .ref b2, .ref b3, .ref b4, .ref b5, .ref b6, .int wc, .int la, .int br])), (b0, .inl (cI, 4, .inl fb0_2)), (b1, .inl (cI, 16, .inl fb1_63)), (b2, .inl (cI, 4, .inl fb2_2)), (b3, .inl (cI, 4, .inl fb3_2)), (b4, .inl (cI, 4, .inl fb4_2)), (b5, .inl (cI, 6, .inl (upd fb5_101 (Int32.toNatClampNeg x2_101) (wa2 (Int32.toNatClampNeg x2_101))))), (b6, .inl (cI, 16, .inl fb6_63)), (kb, .inr (0, [.ref k0, .ref k1, .ref k2, .ref k3, .ref k4, .ref k5, .ref k6, .int wc2, .int la2, .int br2])), (k0, .inl (cI, 4, .inl pa2)), (k1, .inl (cI, 16, .inl mi2)), (k2, .inl (cI, 4, .inl ga2)), (k3, .inl (cI, 4, .inl te2)), (k4, .inl (cI, 4, .inl kn2)), (k5, .inl (cI, 6, .inl wa2)), (k6, .inl (cI, 16, .inl ne2))] dX0_copy_118 hT.1 rfl v_118 rfl ?_
                    refine x_iinc C 0 (x2_101 + 1) [(2, .int (x2_101 + 1)), (0, .ref hb), (1, .ref kb)] dX0_copy_119 rfl rfl (by decide) rfl ?_
                    refine x_goto C 101 dX0_copy_122 (by decide) ?_
                    have : (1 : Int32).toInt = 1 := by decide
                    have := i_add (x := x2_101) (y := 1) (by omega) (by omega)
                    exact ih_101 (x2_101 + 1) (upd fb5_101 (Int32.toNatClampNeg x2_101) (wa2 (Int32.toNatClampNeg x2_101))) ⟨by omega, up_cp v_118 (by omega) i_101.2⟩ (by omega)
              have : (0 : Int32).toInt = 0 := by decide
              exact L_101 _ 0 wa ⟨by omega, cp0⟩ (Nat.lt_succ_self _)
            · skip
              have e_66 : ¬ ((16 : Int32).toInt ≤ (x2_63 : Int32).toInt) := fun h => c_66 (i_le.mpr h)
              have : (16 : Int32).toInt = 16 := by decide
              refine x_aload_n C 1 dX0_copy_69 rfl rfl ?_
              refine x_get C 0 1 dX0_copy_70 inlX0 rfl (by decide) wd_56 rfl rfl rfl ?_
              refine x_iload_n C 0 dX0_copy_73 rfl rfl ?_
              refine x_aload_n C 2 dX0_copy_74 rfl rfl ?_
              refine x_get C 8 1 dX0_copy_75 inlX0 rfl (by decide) wd_56 rfl rfl rfl ?_
              refine x_iload_n C 0 dX0_copy_78 rfl rfl ?_
              have v_79 : vp_in x2_63 16 := (vp_in_iff.mpr (by omega))
              refine x_iald C 10 0 dX0_copy_79 hT.1 rfl v_79 ?_
              have v_80 : vp_in x2_63 16 := (vp_in_iff.mpr (by omega))
              refine x_iast C 2 0 [(hb, .inr (0, [.ref b0, .ref b1, .ref b2, .ref b3, .ref b4, .ref b5, .ref b6, .int wc, .int la, .int br])), (b0, .inl (cI, 4, .inl fb0_2)), (b1, .inl (cI, 16, .inl (upd fb1_63 (Int32.toNatClampNeg x2_63) (mi2 (Int32.toNatClampNeg x2_63))))), (b2, .inl (cI, 4, .inl fb2_2)), (b3, .inl (cI, 4, .inl fb3_2)), (b4, .inl (cI, 4, .inl fb4_2)), (b5, .inl (cI, 6, .inl wa)), (b6, .inl (cI, 16, .inl fb6_63)), (kb, .inr (0, [.ref k0, .ref k1, .ref k2, .ref k3, .ref k4, .ref k5, .ref k6, .int wc2, .int la2, .int br2])), (k0, .inl (cI, 4, .inl pa2)), (k1, .inl (cI, 16, .inl mi2)), (k2, .inl (cI, 4, .inl ga2)), (k3, .inl (cI, 4, .inl te2)), (k4, .inl (cI, 4, .inl kn2)), (k5, .inl (cI, 6, .inl wa2)), (k6, .inl (cI, 16, .inl ne2))] dX0_copy_80 hT.1 rfl v_80 rfl ?_
              refine x_aload_n C 1 dX0_copy_81 rfl rfl ?_
              refine x_get C 0 6 dX0_copy_82 inlX0 rfl (by decide) wd_61 rfl rfl rfl ?_
              refine x_iload_n C 0 dX0_copy_85 rfl rfl ?_
              refine x_aload_n C 2 dX0_copy_86 rfl rfl ?_
              refine x_get C 8 6 dX0_copy_87 inlX0 rfl (by decide) wd_61 rfl rfl rfl ?_
              refine x_iload_n C 0 dX0_copy_90 rfl rfl ?_
              have v_91 : vp_in x2_63 16 := (vp_in_iff.mpr (by omega))
              refine x_iald C 15 0 dX0_copy_91 hT.1 rfl v_91 ?_
              have v_92 : vp_in x2_63 16 := (vp_in_iff.mpr (by omega))
              refine x_iast C 7 0 [(hb, .inr (0, [.ref b0, .ref b1, .ref b2, .ref b3, .ref b4, .ref b5, .ref b6, .int wc, .int la, .int br])), (b0, .inl (cI, 4, .inl fb0_2)), (b1, .inl (cI, 16, .inl (upd fb1_63 (Int32.toNatClampNeg x2_63) (mi2 (Int32.toNatClampNeg x2_63))))), (b2, .inl (cI, 4, .inl fb2_2)), (b3, .inl (cI, 4, .inl fb3_2)), (b4, .inl (cI, 4, .inl fb4_2)), (b5, .inl (cI, 6, .inl wa)), (b6, .inl (cI, 16, .inl (upd fb6_63 (Int32.toNatClampNeg x2_63) (ne2 (Int32.toNatClampNeg x2_63))))), (kb, .inr (0, [.ref k0, .ref k1, .ref k2, .ref k3, .ref k4, .ref k5, .ref k6, .int wc2, .int la2, .int br2])), (k0, .inl (cI, 4, .inl pa2)), (k1, .inl (cI, 16, .inl mi2)), (k2, .inl (cI, 4, .inl ga2)), (k3, .inl (cI, 4, .inl te2)), (k4, .inl (cI, 4, .inl kn2)), (k5, .inl (cI, 6, .inl wa2)), (k6, .inl (cI, 16, .inl ne2))] dX0_copy_92 hT.1 rfl v_92 rfl ?_
              refine x_iinc C 0 (x2_63 + 1) [(2, .int (x2_63 + 1)), (0, .ref hb), (1, .ref kb)] dX0_copy_93 rfl rfl (by decide) rfl ?_
              refine x_goto C 63 dX0_copy_96 (by decide) ?_
              have : (1 : Int32).toInt = 1 := by decide
              have := i_add (x := x2_63) (y := 1) (by omega) (by omega)
              exact ih_63 (x2_63 + 1) (upd fb1_63 (Int32.toNatClampNeg x2_63) (mi2 (Int32.toNatClampNeg x2_63))) (upd fb6_63 (Int32.toNatClampNeg x2_63) (ne2 (Int32.toNatClampNeg x2_63))) ⟨by omega, up_cp v_80 (by omega) i_63.2.1, up_cp v_92 (by omega) i_63.2.2⟩ (by omega)
        have : (0 : Int32).toInt = 0 := by decide
        exact L_63 _ 0 mi ne ⟨by omega, cp0, cp0⟩ (Nat.lt_succ_self _)
      · skip
        have e_4 : ¬ ((4 : Int32).toInt ≤ (x2_2 : Int32).toInt) := fun h => c_4 (i_le.mpr h)
        have : (4 : Int32).toInt = 4 := by decide
        refine x_aload_n C 1 dX0_copy_7 rfl rfl ?_
        refine x_get C 0 0 dX0_copy_8 inlX0 rfl (by decide) wd_55 rfl rfl rfl ?_
        refine x_iload_n C 0 dX0_copy_11 rfl rfl ?_
        refine x_aload_n C 2 dX0_copy_12 rfl rfl ?_
        refine x_get C 8 0 dX0_copy_13 inlX0 rfl (by decide) wd_55 rfl rfl rfl ?_
        refine x_iload_n C 0 dX0_copy_16 rfl rfl ?_
        have v_17 : vp_in x2_2 4 := (vp_in_iff.mpr (by omega))
        refine x_iald C 9 0 dX0_copy_17 hT.1 rfl v_17 ?_
        have v_18 : vp_in x2_2 4 := (vp_in_iff.mpr (by omega))
        refine x_iast C 1 0 [(hb, .inr (0, [.ref b0, .ref b1, .ref b2, .ref b3, .ref b4, .ref b5, .ref b6, .int wc, .int la, .int br])), (b0, .inl (cI, 4, .inl (upd fb0_2 (Int32.toNatClampNeg x2_2) (pa2 (Int32.toNatClampNeg x2_2))))), (b1, .inl (cI, 16, .inl mi)), (b2, .inl (cI, 4, .inl fb2_2)), (b3, .inl (cI, 4, .inl fb3_2)), (b4, .inl (cI, 4, .inl fb4_2)), (b5, .inl (cI, 6, .inl wa)), (b6, .inl (cI, 16, .inl ne)), (kb, .inr (0, [.ref k0, .ref k1, .ref k2, .ref k3, .ref k4, .ref k5, .ref k6, .int wc2, .int la2, .int br2])), (k0, .inl (cI, 4, .inl pa2)), (k1, .inl (cI, 16, .inl mi2)), (k2, .inl (cI, 4, .inl ga2)), (k3, .inl (cI, 4, .inl te2)), (k4, .inl (cI, 4, .inl kn2)), (k5, .inl (cI, 6, .inl wa2)), (k6, .inl (cI, 16, .inl ne2))] dX0_copy_18 hT.1 rfl v_18 rfl ?_
        refine x_aload_n C 1 dX0_copy_19 rfl rfl ?_
        refine x_get C 0 2 dX0_copy_20 inlX0 rfl (by decide) wd_57 rfl rfl rfl ?_
        refine x_iload_n C 0 dX0_copy_23 rfl rfl ?_
        refine x_aload_n C 2 dX0_copy_24 rfl rfl ?_
        refine x_get C 8 2 dX0_copy_25 inlX0 rfl (by decide) wd_57 rfl rfl rfl ?_
        refine x_iload_n C 0 dX0_copy_28 rfl rfl ?_
        have v_29 : vp_in x2_2 4 := (vp_in_iff.mpr (by omega))
        refine x_iald C 11 0 dX0_copy_29 hT.1 rfl v_29 ?_
        have v_30 : vp_in x2_2 4 := (vp_in_iff.mpr (by omega))
        refine x_iast C 3 0 [(hb, .inr (0, [.ref b0, .ref b1, .ref b2, .ref b3, .ref b4, .ref b5, .ref b6, .int wc, .int la, .int br])), (b0, .inl (cI, 4, .inl (upd fb0_2 (Int32.toNatClampNeg x2_2) (pa2 (Int32.toNatClampNeg x2_2))))), (b1, .inl (cI, 16, .inl mi)), (b2, .inl (cI, 4, .inl (upd fb2_2 (Int32.toNatClampNeg x2_2) (ga2 (Int32.toNatClampNeg x2_2))))), (b3, .inl (cI, 4, .inl fb3_2)), (b4, .inl (cI, 4, .inl fb4_2)), (b5, .inl (cI, 6, .inl wa)), (b6, .inl (cI, 16, .inl ne)), (kb, .inr (0, [.ref k0, .ref k1, .ref k2, .ref k3, .ref k4, .ref k5, .ref k6, .int wc2, .int la2, .int br2])), (k0, .inl (cI, 4, .inl pa2)), (k1, .inl (cI, 16, .inl mi2)), (k2, .inl (cI, 4, .inl ga2)), (k3, .inl (cI, 4, .inl te2)), (k4, .inl (cI, 4, .inl kn2)), (k5, .inl (cI, 6, .inl wa2)), (k6, .inl (cI, 16, .inl ne2))] dX0_copy_30 hT.1 rfl v_30 rfl ?_
        refine x_aload_n C 1 dX0_copy_31 rfl rfl ?_
        refine x_get C 0 3 dX0_copy_32 inlX0 rfl (by decide) wd_58 rfl rfl rfl ?_
        refine x_iload_n C 0 dX0_copy_35 rfl rfl ?_
        refine x_aload_n C 2 dX0_copy_36 rfl rfl ?_
        refine x_get C 8 3 dX0_copy_37 inlX0 rfl (by decide) wd_58 rfl rfl rfl ?_
        refine x_iload_n C 0 dX0_copy_40 rfl rfl ?_
        have v_41 : vp_in x2_2 4 := (vp_in_iff.mpr (by omega))
        refine x_iald C 12 0 dX0_copy_41 hT.1 rfl v_41 ?_
        have v_42 : vp_in x2_2 4 := (vp_in_iff.mpr (by omega))
        refine x_iast C 4 0 [(hb, .inr (0, [.ref b0, .ref b1, .ref b2, .ref b3, .ref b4, .ref b5, .ref b6, .int wc, .int la, .int br])), (b0, .inl (cI, 4, .inl (upd fb0_2 (Int32.toNatClampNeg x2_2) (pa2 (Int32.toNatClampNeg x2_2))))), (b1, .inl (cI, 16, .inl mi)), (b2, .inl (cI, 4, .inl (upd fb2_2 (Int32.toNatClampNeg x2_2) (ga2 (Int32.toNatClampNeg x2_2))))), (b3, .inl (cI, 4, .inl (upd fb3_2 (Int32.toNatClampNeg x2_2) (te2 (Int32.toNatClampNeg x2_2))))), (b4, .inl (cI, 4, .inl fb4_2)), (b5, .inl (cI, 6, .inl wa)), (b6, .inl (cI, 16, .inl ne)), (kb, .inr (0, [.ref k0, .ref k1, .ref k2, .ref k3, .ref k4, .ref k5, .ref k6, .int wc2, .int la2, .int br2])), (k0, .inl (cI, 4, .inl pa2)), (k1, .inl (cI, 16, .inl mi2)), (k2, .inl (cI, 4, .inl ga2)), (k3, .inl (cI, 4, .inl te2)), (k4, .inl (cI, 4, .inl kn2)), (k5, .inl (cI, 6, .inl wa2)), (k6, .inl (cI, 16, .inl ne2))] dX0_copy_42 hT.1 rfl v_42 rfl ?_
        refine x_aload_n C 1 dX0_copy_43 rfl rfl ?_
        refine x_get C 0 4 dX0_copy_44 inlX0 rfl (by decide) wd_59 rfl rfl rfl ?_
        refine x_iload_n C 0 dX0_copy_47 rfl rfl ?_
        refine x_aload_n C 2 dX0_copy_48 rfl rfl ?_
        refine x_get C 8 4 dX0_copy_49 inlX0 rfl (by decide) wd_59 rfl rfl rfl ?_
        refine x_iload_n C 0 dX0_copy_52 rfl rfl ?_
        have v_53 : vp_in x2_2 4 := (vp_in_iff.mpr (by omega))
        refine x_iald C 13 0 dX0_copy_53 hT.1 rfl v_53 ?_
        have v_54 : vp_in x2_2 4 := (vp_in_iff.mpr (by omega))
        refine x_iast C 5 0 [(hb, .inr (0, [.ref b0, .ref b1, .ref b2, .ref b3, .ref b4, .ref b5, .ref b6, .int wc, .int la, .int br])), (b0, .inl (cI, 4, .inl (upd fb0_2 (Int32.toNatClampNeg x2_2) (pa2 (Int32.toNatClampNeg x2_2))))), (b1, .inl (cI, 16, .inl mi)), (b2, .inl (cI, 4, .inl (upd fb2_2 (Int32.toNatClampNeg x2_2) (ga2 (Int32.toNatClampNeg x2_2))))), (b3, .inl (cI, 4, .inl (upd fb3_2 (Int32.toNatClampNeg x2_2) (te2 (Int32.toNatClampNeg x2_2))))), (b4, .inl (cI, 4, .inl (upd fb4_2 (Int32.toNatClampNeg x2_2) (kn2 (Int32.toNatClampNeg x2_2))))), (b5, .inl (cI, 6, .inl wa)), (b6, .inl (cI, 16, .inl ne)), (kb, .inr (0, [.ref k0, .ref k1, .ref k2, .ref k3, .ref k4, .ref k5, .ref k6, .int wc2, .int la2, .int br2])), (k0, .inl (cI, 4, .inl pa2)), (k1, .inl (cI, 16, .inl mi2)), (k2, .inl (cI, 4, .inl ga2)), (k3, .inl (cI, 4, .inl te2)), (k4, .inl (cI, 4, .inl kn2)), (k5, .inl (cI, 6, .inl wa2)), (k6, .inl (cI, 16, .inl ne2))] dX0_copy_54 hT.1 rfl v_54 rfl ?_
        refine x_iinc C 0 (x2_2 + 1) [(2, .int (x2_2 + 1)), (0, .ref hb), (1, .ref kb)] dX0_copy_55 rfl rfl (by decide) rfl ?_
        refine x_goto C 2 dX0_copy_58 (by decide) ?_
        have : (1 : Int32).toInt = 1 := by decide
        have := i_add (x := x2_2) (y := 1) (by omega) (by omega)
        exact ih_2 (x2_2 + 1) (upd fb0_2 (Int32.toNatClampNeg x2_2) (pa2 (Int32.toNatClampNeg x2_2))) (upd fb2_2 (Int32.toNatClampNeg x2_2) (ga2 (Int32.toNatClampNeg x2_2))) (upd fb3_2 (Int32.toNatClampNeg x2_2) (te2 (Int32.toNatClampNeg x2_2))) (upd fb4_2 (Int32.toNatClampNeg x2_2) (kn2 (Int32.toNatClampNeg x2_2))) ⟨by omega, up_cp v_18 (by omega) i_2.2.1, up_cp v_30 (by omega) i_2.2.2.1, up_cp v_42 (by omega) i_2.2.2.2.1, up_cp v_54 (by omega) i_2.2.2.2.2⟩ (by omega)
  have : (0 : Int32).toInt = 0 := by decide
  exact L_2 _ 0 pa ga te kn ⟨by omega, cp0, cp0, cp0, cp0⟩ (Nat.lt_succ_self _)
