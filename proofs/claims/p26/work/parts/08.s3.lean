/-! the book: what its rows hold -/
theorem i_div {x y : Int32} (h : 0 ≤ x.toInt) (hy : 1 < y.toInt) : (x / y).toInt = x.toInt / y.toInt := by
  rw [Int32.toInt_div_of_ne_right _ _ (fun h9 => by rw [h9] at hy; exact absurd hy (by decide))]
  exact Int.tdiv_eq_ediv_of_nonneg h
theorem i_rem {x y : Int32} (h : 0 ≤ x.toInt) (hy : 1 < y.toInt) : (x - x / y * y).toInt = x.toInt % y.toInt := by
  have h1 := i_div h hy
  have hx := i_rng x
  have h2 : 0 ≤ x.toInt / y.toInt := Int.ediv_nonneg h (by omega)
  have h3 : x.toInt / y.toInt * y.toInt ≤ x.toInt := Int.ediv_mul_le _ (by omega)
  have h4 : 0 ≤ x.toInt / y.toInt * y.toInt := Int.mul_nonneg h2 (by omega)
  have h5 := i_mul (x := x / y) (y := y) (by rw [h1]; omega) (by rw [h1]; omega)
  rw [h1] at h5
  have h6 := i_sub (x := x) (y := x / y * y) (by rw [h5]; omega) (by rw [h5]; omega)
  rw [h6, h5]
  have := Int.emod_add_mul_ediv x.toInt y.toInt
  have h7 : y.toInt * (x.toInt / y.toInt) = x.toInt / y.toInt * y.toInt := Int.mul_comm _ _
  omega
/-- a wait, as it is kept -/
def wo (x : Int32) : Prop := 0 ≤ x.toInt ∧ x.toInt < 400 ∧ x.toInt / 10 % 10 ≤ 3 ∧ x.toInt % 10 ≤ 3
def WOk (wa : Nat → Int32) (wc : Int32) : Prop := ∀ j : Nat, (j : Int) < wc.toInt → wo (wa j)
def TOk (te : Nat → Int32) : Prop := ∀ j : Nat, j < 4 → 0 ≤ (te j).toInt ∧ (te j).toInt ≤ 3
def POk (pa : Nat → Int32) : Prop := ∀ j : Nat, j < 4 → 0 ≤ (pa j).toInt ∧ (pa j).toInt ≤ 4
theorem POk.at {te : Nat → Int32} {x : Int32} (h : POk te) (hv : vp_in x 4) : 0 ≤ (te x.toNatClampNeg).toInt ∧ (te x.toNatClampNeg).toInt ≤ 4 := h _ (vi_lt hv)
theorem WOk.at {wa : Nat → Int32} {wc x : Int32} {n : Nat} (h : WOk wa wc) (hv : vp_in x n) (hx : x.toInt < wc.toInt) : wo (wa x.toNatClampNeg) := h _ (by have := vi_cl hv; omega)
theorem TOk.at {te : Nat → Int32} {x : Int32} (h : TOk te) (hv : vp_in x 4) : 0 ≤ (te x.toNatClampNeg).toInt ∧ (te x.toNatClampNeg).toInt ≤ 3 := h _ (vi_lt hv)
theorem upd_eq {f : Nat → Int32} {k j : Nat} {x : Int32} : upd f k x j = if j = k then x else f j := by
  by_cases h : j = k
  · rw [if_pos h, h]; exact pk_us
  · rw [if_neg h]; exact pk_un h
theorem up_cp {f g : Nat → Int32} {x y : Int32} {n : Nat} (hv : vp_in x n) (hy : y.toInt = x.toInt + 1) (h : ∀ j : Nat, (j : Int) < x.toInt → f j = g j) : ∀ j : Nat, (j : Int) < y.toInt → upd f x.toNatClampNeg (g x.toNatClampNeg) j = g j := by
  intro j hj
  have h1 := vi_cl hv
  rw [upd_eq]
  by_cases h2 : j = x.toNatClampNeg
  · rw [if_pos h2, h2]
  · rw [if_neg h2]; exact h j (by omega)
theorem cp0 {f g : Nat → Int32} : ∀ j : Nat, (j : Int) < (0 : Int32).toInt → f j = g j := fun j hj => by
  have : (0 : Int32).toInt = 0 := by decide
  exfalso; omega
theorem POk.upd {te : Nat → Int32} {k : Nat} {x : Int32} (h : POk te) (hx : 0 ≤ x.toInt ∧ x.toInt ≤ 4) : POk (upd te k x) := fun j hj => by
  rw [upd_eq]
  by_cases h9 : j = k
  · rw [if_pos h9]; exact hx
  · rw [if_neg h9]; exact h j hj
theorem WOk.upd {wa : Nat → Int32} {wc y : Int32} {k : Nat} (h : WOk wa wc) (hy : wo y) : WOk (upd wa k y) wc := fun j hj => by
  rw [upd_eq]
  by_cases h2 : j = k
  · rw [if_pos h2]; exact hy
  · rw [if_neg h2]; exact h j hj
/-- minutes of the first parts of a story -/
def mnS (m : Nat → Int32) (b : Nat) : Nat → Int32
  | 0 => 0
  | n + 1 => mnS m b n + (if n ≤ 3 then m (b + n) else 0)
theorem mn_t {m : Nat → Int32} {b : Nat} {x y : Int32} (h0 : 0 ≤ x.toInt) (hy : y.toInt = x.toInt + 1) (h : x.toInt ≤ 3) : mnS m b y.toInt.toNat = mnS m b x.toInt.toNat + m (b + x.toInt.toNat) := by
  rw [show y.toInt.toNat = x.toInt.toNat + 1 by omega, mnS, if_pos (by omega)]
theorem mn_f {m : Nat → Int32} {b : Nat} {x y : Int32} (h0 : 0 ≤ x.toInt) (hy : y.toInt = x.toInt + 1) (h : ¬ x.toInt ≤ 3) : mnS m b y.toInt.toNat = mnS m b x.toInt.toNat + 0 := by
  rw [show y.toInt.toNat = x.toInt.toNat + 1 by omega, mnS, if_neg (by omega)]
theorem mn_congr {m m2 : Nat → Int32} {b : Nat} (hb : b ≤ 12) (h : ∀ j : Nat, j < 16 → m j = m2 j) : ∀ n : Nat, mnS m b n = mnS m2 b n := by
  intro n
  induction n with
  | zero => rfl
  | succ n ih =>
    rw [mnS, mnS, ih]
    by_cases c : n ≤ 3
    · rw [if_pos c, if_pos c, h (b + n) (by omega)]
    · rw [if_neg c, if_neg c]
/-- how many of the first are kept -/
def kc (K : Nat → Bool) : Nat → Nat
  | 0 => 0
  | n + 1 => kc K n + (if K n then 1 else 0)
theorem kc_t {K : Nat → Bool} {n : Nat} (h : K n = true) : kc K (n + 1) = kc K n + 1 := by rw [kc, if_pos h]
theorem kc_f {K : Nat → Bool} {n : Nat} (h : K n = false) : kc K (n + 1) = kc K n := by rw [kc, h]; rfl
theorem kc_mono {K : Nat → Bool} {a b : Nat} (h : a ≤ b) : kc K a ≤ kc K b := by
  induction b with
  | zero => rw [Nat.le_zero.mp h]; exact Nat.le_refl _
  | succ b ih =>
    by_cases h9 : a = b + 1
    · rw [h9]; exact Nat.le_refl _
    · have := ih (by omega)
      rw [kc]; omega
theorem kc_lt {K : Nat → Bool} {a b : Nat} (h : a < b) (hr : K a = true) : kc K a < kc K b := by
  have := kc_mono (K := K) (show a + 1 ≤ b from h)
  rw [kc_t hr] at this
  omega
theorem kc_le {K : Nat → Bool} (n : Nat) : kc K n ≤ n := by
  induction n with
  | zero => exact Nat.le_refl _
  | succ n ih =>
    rw [kc]
    by_cases h : K n = true
    · rw [if_pos h]; omega
    · rw [if_neg h]; omega
theorem kc_ex {K : Nat → Bool} {i : Nat} : ∀ n : Nat, i < kc K n → ∃ j : Nat, j < n ∧ K j = true ∧ kc K j = i := by
  intro n
  induction n with
  | zero => intro h; rw [kc] at h; omega
  | succ n ih =>
    intro h
    by_cases c : i < kc K n
    · obtain ⟨j, h1, h2⟩ := ih c
      exact ⟨j, by omega, h2⟩
    · by_cases hn : K n = true
      · rw [kc_t hn] at h
        exact ⟨n, by omega, hn, by omega⟩
      · rw [kc, if_neg hn] at h; omega
theorem kc_congr {K K2 : Nat → Bool} : ∀ n : Nat, (∀ j, j < n → K j = K2 j) → kc K n = kc K2 n := by
  intro n
  induction n with
  | zero => intro _; rfl
  | succ n ih => intro h; rw [kc, kc, ih (fun j hj => h j (by omega)), h n (by omega)]
def wk (wa : Nat → Int32) (s c : Int32) (j : Nat) : Bool := decide (¬ ((wa j).toInt / 100 = s.toInt ∧ c.toInt ≤ (wa j).toInt / 10 % 10))
theorem wk_t {wa : Nat → Int32} {s c : Int32} {j : Nat} (h : ¬ ((wa j).toInt / 100 = s.toInt ∧ c.toInt ≤ (wa j).toInt / 10 % 10)) : wk wa s c j = true := by unfold wk; rw [decide_eq_true_eq]; exact h
theorem wk_f {wa : Nat → Int32} {s c : Int32} {j : Nat} (h : (wa j).toInt / 100 = s.toInt ∧ c.toInt ≤ (wa j).toInt / 10 % 10) : wk wa s c j = false := by unfold wk; rw [decide_eq_false_iff_not]; exact fun h9 => h9 h
/-- what is kept lies in its order at the front -/
def FL (K : Nat → Bool) (n : Int32) (f : Nat → Int32) (n2 : Int32) (f2 : Nat → Int32) : Prop := n2.toInt = (kc K n.toInt.toNat : Int) ∧ ∀ j : Nat, (j : Int) < n.toInt → K j = true → f2 (kc K j) = f j
def DB (K : Nat → Bool) (wa f : Nat → Int32) (w l : Int) : Prop := l = (kc K w.toNat : Int) ∧ (∀ j : Nat, (j : Int) < w → K j = true → f (kc K j) = wa j) ∧ ∀ j : Nat, w ≤ (j : Int) → f j = wa j
theorem DB.z {K : Nat → Bool} {wa : Nat → Int32} {w l : Int} (hw : w = 0) (hl : l = 0) : DB K wa wa w l := by
  subst hw hl
  exact ⟨rfl, fun j hj => by omega, fun j _ => rfl⟩
theorem DB.drop {K : Nat → Bool} {wa f : Nat → Int32} {w l w' : Int} (h : DB K wa f w l) (h0 : 0 ≤ w) (hw : w' = w + 1) (hK : K w.toNat = false) : DB K wa f w' l := by
  subst hw
  refine ⟨?_, fun j hj hj2 => ?_, fun j hj => h.2.2 j (by omega)⟩
  · rw [show (w + 1).toNat = w.toNat + 1 by omega, kc_f hK]; exact h.1
  · have : ¬ j = w.toNat := fun h9 => by rw [h9, hK] at hj2; exact absurd hj2 (by decide)
    exact h.2.1 j (by omega) hj2
theorem DB.keep {K : Nat → Bool} {wa f : Nat → Int32} {w l w' l' : Int} (h : DB K wa f w l) (h0 : 0 ≤ w) (hw : w' = w + 1) (hl : l' = l + 1) (hK : K w.toNat = true) : DB K wa (upd f l.toNat (f w.toNat)) w' l' := by
  subst hw hl
  have e : l.toNat = kc K w.toNat := by have := h.1; omega
  have le := kc_le (K := K) w.toNat
  refine ⟨?_, fun j hj hj2 => ?_, fun j hj => ?_⟩
  · rw [show (w + 1).toNat = w.toNat + 1 by omega, kc_t hK]; have := h.1; omega
  · rw [upd_eq, e]
    by_cases c : j = w.toNat
    · rw [if_pos (by rw [c]), c]; exact h.2.2 _ (by omega)
    · have := kc_lt (show j < w.toNat by omega) hj2
      rw [if_neg (by omega)]
      exact h.2.1 j (by omega) hj2
  · rw [upd_eq, if_neg (by omega)]; exact h.2.2 j (by omega)
/-- one goes, those behind it move up -/
def SHf (a n2 : Int) (f f2 : Nat → Int32) : Prop := ∀ j : Nat, (j : Int) < n2 → f2 j = f (if (j : Int) < a then j else j + 1)
def RMV (wa f : Nat → Int32) (a x : Int) : Prop := (∀ j : Nat, (j : Int) < x → f j = wa (if (j : Int) < a then j else j + 1)) ∧ ∀ j : Nat, x ≤ (j : Int) → f j = wa j
theorem RMV.z {wa : Nat → Int32} {a x : Int} (h : x = a) : RMV wa wa a x := by
  subst h
  exact ⟨fun j hj => by rw [if_pos hj], fun j _ => rfl⟩
theorem RMV.go {wa f : Nat → Int32} {a x x' : Int} {k : Nat} {v : Int32} (h : RMV wa f a x) (h0 : 0 ≤ x) (ha : a ≤ x) (hx : x' = x + 1) (hk : k = x.toNat) (hv : v = f (x.toNat + 1)) : RMV wa (upd f k v) a x' := by
  subst hx hk hv
  refine ⟨fun j hj => ?_, fun j hj => ?_⟩
  · rw [upd_eq]
    by_cases c : j = x.toNat
    · rw [if_pos c, c, if_neg (by omega)]; exact h.2 _ (by omega)
    · rw [if_neg c]; exact h.1 j (by omega)
  · rw [upd_eq, if_neg (by omega)]; exact h.2 j (by omega)
theorem nI_sl {x : Int32} (h : 0 ≤ x.toInt) : x = nI x.toInt.toNat := by
  have := i_rng x
  refine i_eq.mpr ?_
  rw [nI_toInt (by omega)]
  omega
/-- for each part the stories it waits for -/
def nsF (wa : Nat → Int32) : Nat → Nat → Int32
  | 0 => fun _ => 0
  | n + 1 => upd (nsF wa n) ((wa n).toInt / 100 * 4 + (wa n).toInt / 10 % 10).toNat (nsF wa n ((wa n).toInt / 100 * 4 + (wa n).toInt / 10 % 10).toNat ||| ((1 : Int32) <<< (nI ((wa n).toInt % 10).toNat &&& 31)))
def NEI (wa : Nat → Int32) (wc : Int32) (ne : Nat → Int32) : Prop := ∀ j : Nat, j < 16 → ne j = nsF wa wc.toInt.toNat j
theorem ns_go {wa f : Nat → Int32} {x y a c : Int32} (h : ∀ j : Nat, j < 16 → f j = nsF wa x.toInt.toNat j) (h0 : 0 ≤ x.toInt) (hy : y.toInt = x.toInt + 1) (ha : a.toInt = (wa x.toNatClampNeg).toInt / 100 * 4 + (wa x.toNatClampNeg).toInt / 10 % 10) (h16 : 0 ≤ a.toInt ∧ a.toInt < 16) (hc : c.toInt = (wa x.toNatClampNeg).toInt % 10) (hc0 : 0 ≤ c.toInt) : ∀ j : Nat, j < 16 → upd f (Int32.toNatClampNeg a) (f (Int32.toNatClampNeg a) ||| ((1 : Int32) <<< (c &&& 31))) j = nsF wa y.toInt.toNat j := by
  have ha : a.toInt = (wa x.toInt.toNat).toInt / 100 * 4 + (wa x.toInt.toNat).toInt / 10 % 10 := ha
  have hc : c.toInt = (wa x.toInt.toNat).toInt % 10 := hc
  intro j hj
  show upd f a.toInt.toNat (f a.toInt.toNat ||| ((1 : Int32) <<< (c &&& 31))) j = _
  rw [show y.toInt.toNat = x.toInt.toNat + 1 by omega, nsF, ← ha, ← hc, ← nI_sl hc0, upd_eq, upd_eq, h a.toInt.toNat (by omega), h j hj]
theorem nsF_congr {wa wb : Nat → Int32} : ∀ n : Nat, (∀ j : Nat, j < n → wb j = wa j) → nsF wb n = nsF wa n := by
  intro n
  induction n with
  | zero => intro _; rfl
  | succ n ih => intro h; rw [nsF, nsF, ih (fun j hj => h j (by omega)), h n (by omega)]
theorem NEI.cp {wa wb ne nf : Nat → Int32} {wc : Int32} (h : NEI wa wc ne) (hc : wc.toInt ≤ 6) (hw : ∀ j : Nat, j < 6 → wb j = wa j) (hn : ∀ j : Nat, j < 16 → nf j = ne j) : NEI wb wc nf := fun j hj => by
  rw [hn j hj, h j hj, nsF_congr wc.toInt.toNat (fun i hi => hw i (by omega))]
theorem NEI.z {wa : Nat → Int32} : NEI wa 0 (fun _ => 0) := fun j _ => by rw [t0_]; rfl
/-- the stories of a teller -/
def tbF (te : Nat → Int32) (t : Int32) : Nat → Int32
  | 0 => 0
  | n + 1 => if te n = t then tbF te t n ||| ((1 : Int32) <<< (nI n &&& 31)) else tbF te t n
theorem tb_t {te : Nat → Int32} {t x y : Int32} (h0 : 0 ≤ x.toInt) (hy : y.toInt = x.toInt + 1) (h : te x.toNatClampNeg = t) : tbF te t y.toInt.toNat = tbF te t x.toInt.toNat ||| ((1 : Int32) <<< (x &&& 31)) := by
  rw [show y.toInt.toNat = x.toInt.toNat + 1 by omega, tbF, if_pos (show te x.toInt.toNat = t from h), ← nI_sl h0]
theorem tb_f {te : Nat → Int32} {t x y : Int32} (h0 : 0 ≤ x.toInt) (hy : y.toInt = x.toInt + 1) (h : ¬ te x.toNatClampNeg = t) : tbF te t y.toInt.toNat = tbF te t x.toInt.toNat := by
  rw [show y.toInt.toNat = x.toInt.toNat + 1 by omega, tbF, if_neg (show ¬ te x.toInt.toNat = t from h)]
abbrev rm_X0_storyOf : Room := { frames := 0, cells := 0, slots := 0, locals := 0 }
set_option maxHeartbeats 4000000 in
set_option maxRecDepth 100000 in
theorem c_X0_storyOf (l : Launch) (D : va_G) (tys : List (ClassId × FieldType)) {cI cJ cZ cB : ClassId} (hT : Ty tys cI cJ cZ cB) (hb b0 b1 b2 b3 b4 b5 b6 : Nat) (pa mi ga te kn wa ne : Nat → Int32) (wc la br : Int32) (a : Int32) (hwc : 0 ≤ wc.toInt ∧ wc.toInt ≤ 6) (hw : WOk wa wc) (ha : 0 ≤ a.toInt ∧ a.toInt < wc.toInt) : Cn l D tys yX0_storyOf cX0_storyOf 2 (some .int) rm_X0_storyOf [(hb, .inr (0, [.ref b0, .ref b1, .ref b2, .ref b3, .ref b4, .ref b5, .ref b6, .int wc, .int la, .int br])), (b0, .inl (cI, 4, .inl pa)), (b1, .inl (cI, 16, .inl mi)), (b2, .inl (cI, 4, .inl ga)), (b3, .inl (cI, 4, .inl te)), (b4, .inl (cI, 4, .inl kn)), (b5, .inl (cI, 6, .inl wa)), (b6, .inl (cI, 16, .inl ne))] [.ref hb, .int a] (fun v W1 => ∃ (r : Int32), v = some (.int r) ∧ W1 = [(hb, .inr (0, [.ref b0, .ref b1, .ref b2, .ref b3, .ref b4, .ref b5, .ref b6, .int wc, .int la, .int br])), (b0, .inl (cI, 4, .inl pa)), (b1, .inl (cI, 16, .inl mi)), (b2, .inl (cI, 4, .inl ga)), (b3, .inl (cI, 4, .inl te)), (b4, .inl (cI, 4, .inl kn)), (b5, .inl (cI, 6, .inl wa)), (b6, .inl (cI, 16, .inl ne))] ∧ (r.toInt = (wa a.toNatClampNeg).toInt / 100 ∧ 0 ≤ r.toInt ∧ r.toInt ≤ 3)) := by
  refine Cn.of (by decide) (Nat.le_of_ble_eq_true rfl) ?_ ?_ (fun X eL eD eT eO eK eN eM C => ?_)
  · intro h; cases h
  · intro v ws h; obtain ⟨_, rfl, rfl, _⟩ := h; exact Or.inl rfl
  subst eL eD eT
  show V X 2 [(hb, .inr (0, [.ref b0, .ref b1, .ref b2, .ref b3, .ref b4, .ref b5, .ref b6, .int wc, .int la, .int br])), (b0, .inl (cI, 4, .inl pa)), (b1, .inl (cI, 16, .inl mi)), (b2, .inl (cI, 4, .inl ga)), (b3, .inl (cI, 4, .inl te)), (b4, .inl (cI, 4, .inl kn)), (b5, .inl (cI, 6, .inl wa)), (b6, .inl (cI, 16, .inl ne))] [(0, .ref hb), (1, .int a)] [] 0 0 0
  refine x_aload_n C 0 dX0_storyOf_0 rfl rfl ?_
  refine x_get C 0 5 dX0_storyOf_1 inlX0 rfl (by decide) wd_60 rfl rfl rfl ?_
  refine x_iload_n C 1 dX0_storyOf_4 rfl rfl ?_
  have v_5 : vp_in a 6 := (vp_in_iff.mpr (by omega))
  refine x_iald C 6 0 dX0_storyOf_5 hT.1 rfl v_5 ?_
  have a_5 := hw.at v_5 (by omega)
  unfold wo at a_5
  have : (100 : Int32).toInt = 100 := by decide
  have d1 := i_div (x := (wa (Int32.toNatClampNeg a))) (y := 100) (by omega) (by omega)
  rw [show (100 : Int32).toInt = 100 from rfl] at d1
  refine x_bipush C 100 dX0_storyOf_6 (by decide) ?_
  refine x_idiv C dX0_storyOf_8 (by decide) ?_
  exact x_iret C dX0_storyOf_9 (Nat.zero_le _) (Nat.zero_le _) (by rw [eO]; exact ⟨((wa (Int32.toNatClampNeg a)) / 100), rfl, rfl, (by omega)⟩)
abbrev rm_X0_partOf : Room := { frames := 0, cells := 0, slots := 0, locals := 0 }
set_option maxHeartbeats 4000000 in
set_option maxRecDepth 100000 in
theorem c_X0_partOf (l : Launch) (D : va_G) (tys : List (ClassId × FieldType)) {cI cJ cZ cB : ClassId} (hT : Ty tys cI cJ cZ cB) (hb b0 b1 b2 b3 b4 b5 b6 : Nat) (pa mi ga te kn wa ne : Nat → Int32) (wc la br : Int32) (a : Int32) (hwc : 0 ≤ wc.toInt ∧ wc.toInt ≤ 6) (hw : WOk wa wc) (ha : 0 ≤ a.toInt ∧ a.toInt < wc.toInt) : Cn l D tys yX0_partOf cX0_partOf 2 (some .int) rm_X0_partOf [(hb, .inr (0, [.ref b0, .ref b1, .ref b2, .ref b3, .ref b4, .ref b5, .ref b6, .int wc, .int la, .int br])), (b0, .inl (cI, 4, .inl pa)), (b1, .inl (cI, 16, .inl mi)), (b2, .inl (cI, 4, .inl ga)), (b3, .inl (cI, 4, .inl te)), (b4, .inl (cI, 4, .inl kn)), (b5, .inl (cI, 6, .inl wa)), (b6, .inl (cI, 16, .inl ne))] [.ref hb, .int a] (fun v W1 => ∃ (r : Int32), v = some (.int r) ∧ W1 = [(hb, .inr (0, [.ref b0, .ref b1, .ref b2, .ref b3, .ref b4, .ref b5, .ref b6, .int wc, .int la, .int br])), (b0, .inl (cI, 4, .inl pa)), (b1, .inl (cI, 16, .inl mi)), (b2, .inl (cI, 4, .inl ga)), (b3, .inl (cI, 4, .inl te)), (b4, .inl (cI, 4, .inl kn)), (b5, .inl (cI, 6, .inl wa)), (b6, .inl (cI, 16, .inl ne))] ∧ (r.toInt = (wa a.toNatClampNeg).toInt / 10 % 10 ∧ 0 ≤ r.toInt ∧ r.toInt ≤ 3)) := by
  refine Cn.of (by decide) (Nat.le_of_ble_eq_true rfl) ?_ ?_ (fun X eL eD eT eO eK eN eM C => ?_)
  · intro h; cases h
  · intro v ws h; obtain ⟨_, rfl, rfl, _⟩ := h; exact Or.inl rfl
  subst eL eD eT
  show V X 2 [(hb, .inr (0, [.ref b0, .ref b1, .ref b2, .ref b3, .ref b4, .ref b5, .ref b6, .int wc, .int la, .int br])), (b0, .inl (cI, 4, .inl pa)), (b1, .inl (cI, 16, .inl mi)), (b2, .inl (cI, 4, .inl ga)), (b3, .inl (cI, 4, .inl te)), (b4, .inl (cI, 4, .inl kn)), (b5, .inl (cI, 6, .inl wa)), (b6, .inl (cI, 16, .inl ne))] [(0, .ref hb), (1, .int a)] [] 0 0 0
  refine x_aload_n C 0 dX0_partOf_0 rfl rfl ?_
  refine x_get C 0 5 dX0_partOf_1 inlX0 rfl (by decide) wd_60 rfl rfl rfl ?_
  refine x_iload_n C 1 dX0_partOf_4 rfl rfl ?_
  have v_5 : vp_in a 6 := (vp_in_iff.mpr (by omega))
  refine x_iald C 6 0 dX0_partOf_5 hT.1 rfl v_5 ?_
  have a_5 := hw.at v_5 (by omega)
  unfold wo at a_5
  have : (10 : Int32).toInt = 10 := by decide
  have d1 := i_div (x := (wa (Int32.toNatClampNeg a))) (y := 10) (by omega) (by omega)
  rw [show (10 : Int32).toInt = 10 from rfl] at d1
  have d2 := i_rem (x := (wa (Int32.toNatClampNeg a)) / 10) (y := 10) (by omega) (by omega)
  rw [show (10 : Int32).toInt = 10 from rfl] at d2
  refine x_bipush C 10 dX0_partOf_6 (by decide) ?_
  refine x_idiv C dX0_partOf_8 (by decide) ?_
  refine x_bipush C 10 dX0_partOf_9 (by decide) ?_
  refine x_irem C dX0_partOf_11 (by decide) ?_
  exact x_iret C dX0_partOf_12 (Nat.zero_le _) (Nat.zero_le _) (by rw [eO]; exact ⟨(((wa (Int32.toNatClampNeg a)) / 10) - ((wa (Int32.toNatClampNeg a)) / 10) / 10 * 10), rfl, rfl, (by omega)⟩)
abbrev rm_X0_otherOf : Room := { frames := 0, cells := 0, slots := 0, locals := 0 }
set_option maxHeartbeats 4000000 in
set_option maxRecDepth 100000 in
theorem c_X0_otherOf (l : Launch) (D : va_G) (tys : List (ClassId × FieldType)) {cI cJ cZ cB : ClassId} (hT : Ty tys cI cJ cZ cB) (hb b0 b1 b2 b3 b4 b5 b6 : Nat) (pa mi ga te kn wa ne : Nat → Int32) (wc la br : Int32) (a : Int32) (hwc : 0 ≤ wc.toInt ∧ wc.toInt ≤ 6) (hw : WOk wa wc) (ha : 0 ≤ a.toInt ∧ a.toInt < wc.toInt) : Cn l D tys yX0_otherOf cX0_otherOf 2 (some .int) rm_X0_otherOf [(hb, .inr (0, [.ref b0, .ref b1, .ref b2, .ref b3, .ref b4, .ref b5, .ref b6, .int wc, .int la, .int br])), (b0, .inl (cI, 4, .inl pa)), (b1, .inl (cI, 16, .inl mi)), (b2, .inl (cI, 4, .inl ga)), (b3, .inl (cI, 4, .inl te)), (b4, .inl (cI, 4, .inl kn)), (b5, .inl (cI, 6, .inl wa)), (b6, .inl (cI, 16, .inl ne))] [.ref hb, .int a] (fun v W1 => ∃ (r : Int32), v = some (.int r) ∧ W1 = [(hb, .inr (0, [.ref b0, .ref b1, .ref b2, .ref b3, .ref b4, .ref b5, .ref b6, .int wc, .int la, .int br])), (b0, .inl (cI, 4, .inl pa)), (b1, .inl (cI, 16, .inl mi)), (b2, .inl (cI, 4, .inl ga)), (b3, .inl (cI, 4, .inl te)), (b4, .inl (cI, 4, .inl kn)), (b5, .inl (cI, 6, .inl wa)), (b6, .inl (cI, 16, .inl ne))] ∧ (r.toInt = (wa a.toNatClampNeg).toInt % 10 ∧ 0 ≤ r.toInt ∧ r.toInt ≤ 3)) := by
  refine Cn.of (by decide) (Nat.le_of_ble_eq_true rfl) ?_ ?_ (fun X eL eD eT eO eK eN eM C => ?_)
  · intro h; cases h
  · intro v ws h; obtain ⟨_, rfl, rfl, _⟩ := h; exact Or.inl rfl
  subst eL eD eT
  show V X 2 [(hb, .inr (0, [.ref b0, .ref b1, .ref b2, .ref b3, .ref b4, .ref b5, .ref b6, .int wc, .int la, .int br])), (b0, .inl (cI, 4, .inl pa)), (b1, .inl (cI, 16, .inl mi)), (b2, .inl (cI, 4, .inl ga)), (b3, .inl (cI, 4, .inl te)), (b4, .inl (cI, 4, .inl kn)), (b5, .inl (cI, 6, .inl wa)), (b6, .inl (cI, 16, .inl ne))] [(0, .ref hb), (1, .int a)] [] 0 0 0
  refine x_aload_n C 0 dX0_otherOf_0 rfl rfl ?_
  refine x_get C 0 5 dX0_otherOf_1 inlX0 rfl (by decide) wd_60 rfl rfl rfl ?_
  refine x_iload_n C 1 dX0_otherOf_4 rfl rfl ?_
  have v_5 : vp_in a 6 := (vp_in_iff.mpr (by omega))
  refine x_iald C 6 0 dX0_otherOf_5 hT.1 rfl v_5 ?_
  have a_5 := hw.at v_5 (by omega)
  unfold wo at a_5
  have : (10 : Int32).toInt = 10 := by decide
  have d1 := i_rem (x := (wa (Int32.toNatClampNeg a))) (y := 10) (by omega) (by omega)
  rw [show (10 : Int32).toInt = 10 from rfl] at d1
  refine x_bipush C 10 dX0_otherOf_6 (by decide) ?_
  refine x_irem C dX0_otherOf_8 (by decide) ?_
  exact x_iret C dX0_otherOf_9 (Nat.zero_le _) (Nat.zero_le _) (by rw [eO]; exact ⟨((wa (Int32.toNatClampNeg a)) - (wa (Int32.toNatClampNeg a)) / 10 * 10), rfl, rfl, (by omega)⟩)
abbrev rm_X0_minutesAt : Room := { frames := 1, cells := 0, slots := 0, locals := 22 }
set_option maxHeartbeats 4000000 in
set_option maxRecDepth 100000 in
theorem c_X0_minutesAt (l : Launch) (D : va_G) (tys : List (ClassId × FieldType)) {cI cJ cZ cB : ClassId} (hT : Ty tys cI cJ cZ cB) (hb b0 b1 b2 b3 b4 b5 b6 : Nat) (pa mi ga te kn wa ne : Nat → Int32) (wc la br : Int32) (s p : Int32) (hs : 0 ≤ s.toInt ∧ s.toInt ≤ 3) : Cn l D tys yX0_minutesAt cX0_minutesAt 3 (some .int) rm_X0_minutesAt [(hb, .inr (0, [.ref b0, .ref b1, .ref b2, .ref b3, .ref b4, .ref b5, .ref b6, .int wc, .int la, .int br])), (b0, .inl (cI, 4, .inl pa)), (b1, .inl (cI, 16, .inl mi)), (b2, .inl (cI, 4, .inl ga)), (b3, .inl (cI, 4, .inl te)), (b4, .inl (cI, 4, .inl kn)), (b5, .inl (cI, 6, .inl wa)), (b6, .inl (cI, 16, .inl ne))] [.ref hb, .int s, .int p] (fun v W1 => ∃ (r : Int32), v = some (.int r) ∧ W1 = [(hb, .inr (0, [.ref b0, .ref b1, .ref b2, .ref b3, .ref b4, .ref b5, .ref b6, .int wc, .int la, .int br])), (b0, .inl (cI, 4, .inl pa)), (b1, .inl (cI, 16, .inl mi)), (b2, .inl (cI, 4, .inl ga)), (b3, .inl (cI, 4, .inl te)), (b4, .inl (cI, 4, .inl kn)), (b5, .inl (cI, 6, .inl wa)), (b6, .inl (cI, 16, .inl ne))] ∧ ((0 ≤ p.toInt ∧ p.toInt ≤ 3 → r = mi (s * 4 + p).toNatClampNeg) ∧ (¬ (0 ≤ p.toInt ∧ p.toInt ≤ 3) → r = 0))) := by
  refine Cn.of (by decide) (Nat.le_of_ble_eq_true rfl) ?_ ?_ (fun X eL eD eT eO eK eN eM C => ?_)
  · intro h; cases h
  · intro v ws h; obtain ⟨_, rfl, rfl, _⟩ := h; exact Or.inl rfl
  subst eL eD eT
  show V X 3 [(hb, .inr (0, [.ref b0, .ref b1, .ref b2, .ref b3, .ref b4, .ref b5, .ref b6, .int wc, .int la, .int br])), (b0, .inl (cI, 4, .inl pa)), (b1, .inl (cI, 16, .inl mi)), (b2, .inl (cI, 4, .inl ga)), (b3, .inl (cI, 4, .inl te)), (b4, .inl (cI, 4, .inl kn)), (b5, .inl (cI, 6, .inl wa)), (b6, .inl (cI, 16, .inl ne))] [(0, .ref hb), (1, .int s), (2, .int p)] [] 0 0 0
  refine x_iload_n C 2 dX0_minutesAt_0 rfl rfl ?_
  refine x_iconst C 0 dX0_minutesAt_1 (by decide) ?_
  refine x_iconst C 3 dX0_minutesAt_2 (by decide) ?_
  refine x_callSN C [.int p, .int 0, .int 3] [(hb, .inr (0, [.ref b0, .ref b1, .ref b2, .ref b3, .ref b4, .ref b5, .ref b6, .int wc, .int la, .int br])), (b0, .inl (cI, 4, .inl pa)), (b1, .inl (cI, 16, .inl mi)), (b2, .inl (cI, 4, .inl ga)), (b3, .inl (cI, 4, .inl te)), (b4, .inl (cI, 4, .inl kn)), (b5, .inl (cI, 6, .inl wa)), (b6, .inl (cI, 16, .inl ne))] [] [0, 1, 2, 3, 4, 5, 6, 7] (c_X9_isIn (xl X) (xD X) (xt X) hT p 0 3 ) dX0_minutesAt_3 nt_42 wd_187 wd_2 wd_188 (np := 3) ⟨by decide, by decide, by decide +kernel⟩ rfl rfl (Nat.le_of_ble_eq_true rfl) (by decide) rfl (by decide) rfl (by decide) (by decide) (fun v W1 h => ?_)
  obtain ⟨r_3, rfl, rfl, h_3⟩ := h
  have : (0 : Int32).toInt = 0 := by decide
  have : (3 : Int32).toInt = 3 := by decide
  show V X 3 [(hb, .inr (0, [.ref b0, .ref b1, .ref b2, .ref b3, .ref b4, .ref b5, .ref b6, .int wc, .int la, .int br])), (b0, .inl (cI, 4, .inl pa)), (b1, .inl (cI, 16, .inl mi)), (b2, .inl (cI, 4, .inl ga)), (b3, .inl (cI, 4, .inl te)), (b4, .inl (cI, 4, .inl kn)), (b5, .inl (cI, 6, .inl wa)), (b6, .inl (cI, 16, .inl ne))] [(0, .ref hb), (1, .int s), (2, .int p)] [.int r_3] 6 0 0
  refine x_if_eq C 22 dX0_minutesAt_6 (by decide) (fun c_6 => ?_) (fun c_6 => ?_)
  · skip
    have e_6 : (r_3 : Int32).toInt = (0 : Int32).toInt := i_eq.mp c_6
    have : (0 : Int32).toInt = 0 := by decide
    refine x_iconst C 0 dX0_minutesAt_22 (by decide) ?_
    have : (0 : Int32).toInt = 0 := by decide
    exact x_iret C dX0_minutesAt_23 (Nat.zero_le _) (Nat.zero_le _) (by rw [eO]; exact ⟨0, rfl, rfl, (by constructor <;> intro h <;> first | rfl | (exfalso; omega))⟩)
  · skip
    have e_6 : ¬ ((r_3 : Int32).toInt = (0 : Int32).toInt) := fun h => c_6 (i_eq.mpr h)
    have : (0 : Int32).toInt = 0 := by decide
    refine x_aload_n C 0 dX0_minutesAt_9 rfl rfl ?_
    refine x_get C 0 1 dX0_minutesAt_10 inlX0 rfl (by decide) wd_56 rfl rfl rfl ?_
    refine x_iload_n C 1 dX0_minutesAt_13 rfl rfl ?_
    refine x_iconst C 4 dX0_minutesAt_14 (by decide) ?_
    refine x_imul C dX0_minutesAt_15 ?_
    refine x_iload_n C 2 dX0_minutesAt_16 rfl rfl ?_
    refine x_iadd C dX0_minutesAt_17 ?_
    have : (4 : Int32).toInt = 4 := by decide
    have := i_mulr (x := s) (y := 4) (d := 4) (by decide) (by omega) (by omega)
    have := i_add (x := (s * 4)) (y := p) (by omega) (by omega)
    have v_18 : vp_in ((s * 4) + p) 16 := (vp_in_iff.mpr (by omega))
    refine x_iald C 2 0 dX0_minutesAt_18 hT.1 rfl v_18 ?_
    refine x_goto C 23 dX0_minutesAt_19 (by decide) ?_
    exact x_iret C dX0_minutesAt_23 (Nat.zero_le _) (Nat.zero_le _) (by rw [eO]; exact ⟨(mi (Int32.toNatClampNeg ((s * 4) + p))), rfl, rfl, (by constructor <;> intro h <;> first | rfl | (exfalso; omega))⟩)
abbrev rm_X0_minutesOf : Room := { frames := 2, cells := 0, slots := 0, locals := 44 }
set_option maxHeartbeats 4000000 in
set_option maxRecDepth 100000 in
theorem c_X0_minutesOf (l : Launch) (D : va_G) (tys : List (ClassId × FieldType)) {cI cJ cZ cB : ClassId} (hT : Ty tys cI cJ cZ cB) (hb b0 b1 b2 b3 b4 b5 b6 : Nat) (pa mi ga te kn wa ne : Nat → Int32) (wc la br : Int32) (s p : Int32) (hs : 0 ≤ s.toInt ∧ s.toInt ≤ 3) : Cn l D tys yX0_minutesOf cX0_minutesOf 5 (some .int) rm_X0_minutesOf [(hb, .inr (0, [.ref b0, .ref b1, .ref b2, .ref b3, .ref b4, .ref b5, .ref b6, .int wc, .int la, .int br])), (b0, .inl (cI, 4, .inl pa)), (b1, .inl (cI, 16, .inl mi)), (b2, .inl (cI, 4, .inl ga)), (b3, .inl (cI, 4, .inl te)), (b4, .inl (cI, 4, .inl kn)), (b5, .inl (cI, 6, .inl wa)), (b6, .inl (cI, 16, .inl ne))] [.ref hb, .int s, .int p] (fun v W1 => ∃ (r : Int32), v = some (.int r) ∧ W1 = [(hb, .inr (0, [.ref b0, .ref b1, .ref b2, .ref b3, .ref b4, .ref b5, .ref b6, .int wc, .int la, .int br])), (b0, .inl (cI, 4, .inl pa)), (b1, .inl (cI, 16, .inl mi)), (b2, .inl (cI, 4, .inl ga)), (b3, .inl (cI, 4, .inl te)), (b4, .inl (cI, 4, .inl kn)), (b5, .inl (cI, 6, .inl wa)), (b6, .inl (cI, 16, .inl ne))] ∧ (r = mnS mi (4 * s.toInt).toNat p.toInt.toNat)) := by
  refine Cn.of (by decide) (Nat.le_of_ble_eq_true rfl) ?_ ?_ (fun X eL eD eT eO eK eN eM C => ?_)
  · intro h; cases h
  · intro v ws h; obtain ⟨_, rfl, rfl, _⟩ := h; exact Or.inl rfl
  subst eL eD eT
  show V X 5 [(hb, .inr (0, [.ref b0, .ref b1, .ref b2, .ref b3, .ref b4, .ref b5, .ref b6, .int wc, .int la, .int br])), (b0, .inl (cI, 4, .inl pa)), (b1, .inl (cI, 16, .inl mi)), (b2, .inl (cI, 4, .inl ga)), (b3, .inl (cI, 4, .inl te)), (b4, .inl (cI, 4, .inl kn)), (b5, .inl (cI, 6, .inl wa)), (b6, .inl (cI, 16, .inl ne))] [(0, .ref hb), (1, .int s), (2, .int p)] [] 0 0 0
  refine x_iconst C 0 dX0_minutesOf_0 (by decide) ?_
  refine x_istore_n C [(3, .int 0), (0, .ref hb), (1, .int s), (2, .int p)] dX0_minutesOf_1 rfl (by decide) rfl ?_
  refine x_iconst C 0 dX0_minutesOf_2 (by decide) ?_
  refine x_istore C [(4, .int 0), (3, .int 0), (0, .ref hb), (1, .int s), (2, .int p)] dX0_minutesOf_3 (by decide) rfl ?_
  have L_5 : ∀ (n_5 : Nat) (x4_5 : Int32) (x3_5 : Int32), ((0 ≤ x4_5.toInt ∧ (x4_5.toInt ≤ p.toInt ∨ x4_5.toInt = 0)) ∧ x3_5 = mnS mi (4 * s.toInt).toNat x4_5.toInt.toNat) → ((p.toInt - x4_5.toInt).toNat < n_5) → V X 5 [(hb, .inr (0, [.ref b0, .ref b1, .ref b2, .ref b3, .ref b4, .ref b5, .ref b6, .int wc, .int la, .int br])), (b0, .inl (cI, 4, .inl pa)), (b1, .inl (cI, 16, .inl mi)), (b2, .inl (cI, 4, .inl ga)), (b3, .inl (cI, 4, .inl te)), (b4, .inl (cI, 4, .inl kn)), (b5, .inl (cI, 6, .inl wa)), (b6, .inl (cI, 16, .inl ne))] [(4, .int x4_5), (3, .int x3_5), (0, .ref hb), (1, .int s), (2, .int p)] [] 5 0 0 := by
    intro n_5
    induction n_5 with
    | zero =>
      intro x4_5 x3_5 i_5 m_5
      exact absurd m_5 (Nat.not_lt_zero _)
    | succ n_5 ih_5 =>
      intro x4_5 x3_5 i_5 m_5
      refine x_iload C 0 dX0_minutesOf_5 rfl ?_
      refine x_iload_n C 4 dX0_minutesOf_7 rfl rfl ?_
      refine x_icmp_ge C 27 dX0_minutesOf_8 (by decide) (fun c_8 => ?_) (fun c_8 => ?_)
      · skip
        have e_8 : (p : Int32).toInt ≤ (x4_5 : Int32).toInt := i_le.mp c_8
        refine x_iload_n C 1 dX0_minutesOf_27 rfl rfl ?_
        exact x_iret C dX0_minutesOf_28 (Nat.zero_le _) (Nat.zero_le _) (by rw [eO]; exact ⟨x3_5, rfl, rfl, (by rw [i_5.2]; congr 1; omega)⟩)
      · skip
        have e_8 : ¬ ((p : Int32).toInt ≤ (x4_5 : Int32).toInt) := fun h => c_8 (i_le.mpr h)
        refine x_iload_n C 1 dX0_minutesOf_11 rfl rfl ?_
        refine x_aload_n C 2 dX0_minutesOf_12 rfl rfl ?_
        refine x_iload_n C 3 dX0_minutesOf_13 rfl rfl ?_
        refine x_iload C 0 dX0_minutesOf_14 rfl ?_
        refine x_callV C [.int s, .int x4_5] [] [0, 1, 2, 3, 4, 5, 6, 7] [] (q0 := 0) (c_X0_minutesAt (xl X) (xD X) (xt X) hT hb b0 b1 b2 b3 b4 b5 b6 pa mi ga te kn wa ne wc la br s x4_5 (by omega)) dX0_minutesOf_16 wd_281 wd_274 wd_275 wd_18 wd_276 (np := 2) ⟨by decide, by decide, by decide +kernel⟩ rfl rfl (Nat.le_of_ble_eq_true rfl) (by decide) rfl rfl rfl rfl (by decide) rfl (by decide) (by decide) (fun v W1 h => ?_)
        obtain ⟨r_16, rfl, rfl, h_16⟩ := h
        show V X 5 [(hb, .inr (0, [.ref b0, .ref b1, .ref b2, .ref b3, .ref b4, .ref b5, .ref b6, .int wc, .int la, .int br])), (b0, .inl (cI, 4, .inl pa)), (b1, .inl (cI, 16, .inl mi)), (b2, .inl (cI, 4, .inl ga)), (b3, .inl (cI, 4, .inl te)), (b4, .inl (cI, 4, .inl kn)), (b5, .inl (cI, 6, .inl wa)), (b6, .inl (cI, 16, .inl ne))] [(4, .int x4_5), (3, .int x3_5), (0, .ref hb), (1, .int s), (2, .int p)] [.int r_16, .int x3_5] 19 0 0
        have k9 : x4_5.toInt ≤ 3 → Int32.toNatClampNeg (s * 4 + x4_5) = (4 * s.toInt).toNat + x4_5.toInt.toNat := fun h9 => by
          have : (4 : Int32).toInt = 4 := by decide
          have := i_mulr (x := s) (y := 4) (d := 4) (by decide) (by omega) (by omega)
          have := i_add (x := s * 4) (y := x4_5) (by omega) (by omega)
          show (s * 4 + x4_5).toInt.toNat = _
          omega
        refine x_iadd C dX0_minutesOf_19 ?_
        refine x_istore_n C [(3, .int (x3_5 + r_16)), (4, .int x4_5), (0, .ref hb), (1, .int s), (2, .int p)] dX0_minutesOf_20 rfl (by decide) rfl ?_
        refine x_iinc C 1 (x4_5 + 1) [(4, .int (x4_5 + 1)), (3, .int (x3_5 + r_16)), (0, .ref hb), (1, .int s), (2, .int p)] dX0_minutesOf_21 rfl rfl (by decide) rfl ?_
        refine x_goto C 5 dX0_minutesOf_24 (by decide) ?_
        have := i_rng p
        have : (1 : Int32).toInt = 1 := by decide
        have := i_add (x := x4_5) (y := 1) (by omega) (by omega)
        exact ih_5 (x4_5 + 1) (x3_5 + r_16) ⟨by omega, by rcases Classical.em (x4_5.toInt ≤ 3) with c9 | c9 <;> first | rw [mn_t (x := x4_5) (by omega) (by omega) c9, ← i_5.2, h_16.1 (by omega), k9 (by omega)] | rw [mn_f (x := x4_5) (by omega) (by omega) c9, ← i_5.2, h_16.2 (by omega)]⟩ (by omega)
  have := i_rng p
  have : (0 : Int32).toInt = 0 := by decide
  have : (0 : Int32).toInt = 0 := by decide
  exact L_5 _ 0 0 ⟨by omega, rfl⟩ (Nat.lt_succ_self _)
abbrev rm_X0_toldBy : Room := { frames := 0, cells := 0, slots := 0, locals := 0 }
set_option maxHeartbeats 4000000 in
set_option maxRecDepth 100000 in
theorem c_X0_toldBy (l : Launch) (D : va_G) (tys : List (ClassId × FieldType)) {cI cJ cZ cB : ClassId} (hT : Ty tys cI cJ cZ cB) (hb b0 b1 b2 b3 b4 b5 b6 : Nat) (pa mi ga te kn wa ne : Nat → Int32) (wc la br : Int32) (t : Int32)  : Cn l D tys yX0_toldBy cX0_toldBy 4 (some .int) rm_X0_toldBy [(hb, .inr (0, [.ref b0, .ref b1, .ref b2, .ref b3, .ref b4, .ref b5, .ref b6, .int wc, .int la, .int br])), (b0, .inl (cI, 4, .inl pa)), (b1, .inl (cI, 16, .inl mi)), (b2, .inl (cI, 4, .inl ga)), (b3, .inl (cI, 4, .inl te)), (b4, .inl (cI, 4, .inl kn)), (b5, .inl (cI, 6, .inl wa)), (b6, .inl (cI, 16, .inl ne))] [.ref hb, .int t] (fun v W1 => ∃ (r : Int32), v = some (.int r) ∧ W1 = [(hb, .inr (0, [.ref b0, .ref b1, .ref b2, .ref b3, .ref b4, .ref b5, .ref b6, .int wc, .int la, .int br])), (b0, .inl (cI, 4, .inl pa)), (b1, .inl (cI, 16, .inl mi)), (b2, .inl (cI, 4, .inl ga)), (b3, .inl (cI, 4, .inl te)), (b4, .inl (cI, 4, .inl kn)), (b5, .inl (cI, 6, .inl wa)), (b6, .inl (cI, 16, .inl ne))] ∧ (r = tbF te t 4)) := by
  refine Cn.of (by decide) (Nat.le_of_ble_eq_true rfl) ?_ ?_ (fun X eL eD eT eO eK eN eM C => ?_)
  · intro h; cases h
  · intro v ws h; obtain ⟨_, rfl, rfl, _⟩ := h; exact Or.inl rfl
  subst eL eD eT
  show V X 4 [(hb, .inr (0, [.ref b0, .ref b1, .ref b2, .ref b3, .ref b4, .ref b5, .ref b6, .int wc, .int la, .int br])), (b0, .inl (cI, 4, .inl pa)), (b1, .inl (cI, 16, .inl mi)), (b2, .inl (cI, 4, .inl ga)), (b3, .inl (cI, 4, .inl te)), (b4, .inl (cI, 4, .inl kn)), (b5, .inl (cI, 6, .inl wa)), (b6, .inl (cI, 16, .inl ne))] [(0, .ref hb), (1, .int t)] [] 0 0 0
  refine x_iconst C 0 dX0_toldBy_0 (by decide) ?_
  refine x_istore_n C [(2, .int 0), (0, .ref hb), (1, .int t)] dX0_toldBy_1 rfl (by decide) rfl ?_
  refine x_iconst C 0 dX0_toldBy_2 (by decide) ?_
  refine x_istore_n C [(3, .int 0), (2, .int 0), (0, .ref hb), (1, .int t)] dX0_toldBy_3 rfl (by decide) rfl ?_
  have L_4 : ∀ (n_4 : Nat) (x3_4 : Int32) (x2_4 : Int32), ((0 ≤ x3_4.toInt ∧ x3_4.toInt ≤ 4) ∧ x2_4 = tbF te t x3_4.toInt.toNat) → ((4 - x3_4.toInt).toNat < n_4) → V X 4 [(hb, .inr (0, [.ref b0, .ref b1, .ref b2, .ref b3, .ref b4, .ref b5, .ref b6, .int wc, .int la, .int br])), (b0, .inl (cI, 4, .inl pa)), (b1, .inl (cI, 16, .inl mi)), (b2, .inl (cI, 4, .inl ga)), (b3, .inl (cI, 4, .inl te)), (b4, .inl (cI, 4, .inl kn)), (b5, .inl (cI, 6, .inl wa)), (b6, .inl (cI, 16, .inl ne))] [(3, .int x3_4), (2, .int x2_4), (0, .ref hb), (1, .int t)] [] 4 0 0 := by
    intro n_4
    induction n_4 with
    | zero =>
      intro x3_4 x2_4 i_4 m_4
      exact absurd m_4 (Nat.not_lt_zero _)
    | succ n_4 ih_4 =>
      intro x3_4 x2_4 i_4 m_4
      refine x_iload_n C 0 dX0_toldBy_4 rfl rfl ?_
      refine x_iconst C 4 dX0_toldBy_5 (by decide) ?_
      refine x_icmp_ge C 31 dX0_toldBy_6 (by decide) (fun c_6 => ?_) (fun c_6 => ?_)
      · skip
        have e_6 : (4 : Int32).toInt ≤ (x3_4 : Int32).toInt := i_le.mp c_6
        have : (4 : Int32).toInt = 4 := by decide
        refine x_iload_n C 1 dX0_toldBy_31 rfl rfl ?_
        exact x_iret C dX0_toldBy_32 (Nat.zero_le _) (Nat.zero_le _) (by rw [eO]; exact ⟨x2_4, rfl, rfl, (by rw [i_4.2, show x3_4.toInt.toNat = 4 by omega])⟩)
      · skip
        have e_6 : ¬ ((4 : Int32).toInt ≤ (x3_4 : Int32).toInt) := fun h => c_6 (i_le.mpr h)
        have : (4 : Int32).toInt = 4 := by decide
        refine x_aload_n C 2 dX0_toldBy_9 rfl rfl ?_
        refine x_get C 0 3 dX0_toldBy_10 inlX0 rfl (by decide) wd_58 rfl rfl rfl ?_
        refine x_iload_n C 0 dX0_toldBy_13 rfl rfl ?_
        have v_14 : vp_in x3_4 4 := (vp_in_iff.mpr (by omega))
        refine x_iald C 4 0 dX0_toldBy_14 hT.1 rfl v_14 ?_
        refine x_iload_n C 3 dX0_toldBy_15 rfl rfl ?_
        refine x_icmp_ne C 25 dX0_toldBy_16 (by decide) (fun c_16 => ?_) (fun c_16 => ?_)
        · skip
          have e_16 : ¬ ((te (Int32.toNatClampNeg x3_4) : Int32).toInt = (t : Int32).toInt) := fun h => c_16 (i_eq.mpr h)
          refine x_iinc C 0 (x3_4 + 1) [(3, .int (x3_4 + 1)), (2, .int x2_4), (0, .ref hb), (1, .int t)] dX0_toldBy_25 rfl rfl (by decide) rfl ?_
          refine x_goto C 4 dX0_toldBy_28 (by decide) ?_
          have : (1 : Int32).toInt = 1 := by decide
          have := i_add (x := x3_4) (y := 1) (by omega) (by omega)
          exact ih_4 (x3_4 + 1) x2_4 ⟨by omega, by rw [tb_f (x := x3_4) (by omega) (by omega) c_16]; exact i_4.2⟩ (by omega)
        · skip
          have e_16 : (te (Int32.toNatClampNeg x3_4) : Int32).toInt = (t : Int32).toInt := i_eq.mp c_16
          refine x_iload_n C 1 dX0_toldBy_19 rfl rfl ?_
          refine x_iconst C 1 dX0_toldBy_20 (by decide) ?_
          refine x_iload_n C 0 dX0_toldBy_21 rfl rfl ?_
          refine x_ishl C dX0_toldBy_22 ?_
          refine x_ior C dX0_toldBy_23 ?_
          refine x_istore_n C [(2, .int (x2_4 ||| ((1 : Int32) <<< (x3_4 &&& 31)))), (3, .int x3_4), (0, .ref hb), (1, .int t)] dX0_toldBy_24 rfl (by decide) rfl ?_
          refine x_iinc C 1 (x3_4 + 1) [(3, .int (x3_4 + 1)), (2, .int (x2_4 ||| ((1 : Int32) <<< (x3_4 &&& 31)))), (0, .ref hb), (1, .int t)] dX0_toldBy_25 rfl rfl (by decide) rfl ?_
          refine x_goto C 4 dX0_toldBy_28 (by decide) ?_
          have : (1 : Int32).toInt = 1 := by decide
          have := i_add (x := x3_4) (y := 1) (by omega) (by omega)
          exact ih_4 (x3_4 + 1) (x2_4 ||| ((1 : Int32) <<< (x3_4 &&& 31))) ⟨by omega, by rw [tb_t (x := x3_4) (by omega) (by omega) c_16, ← i_4.2]⟩ (by omega)
  have : (0 : Int32).toInt = 0 := by decide
  have : (0 : Int32).toInt = 0 := by decide
  exact L_4 _ 0 0 ⟨by omega, by rw [t0_]; rfl⟩ (Nat.lt_succ_self _)
abbrev rm_X0_hasWait : Room := { frames := 0, cells := 0, slots := 0, locals := 0 }
set_option maxHeartbeats 4000000 in
set_option maxRecDepth 100000 in
theorem c_X0_hasWait (l : Launch) (D : va_G) (tys : List (ClassId × FieldType)) {cI cJ cZ cB : ClassId} (hT : Ty tys cI cJ cZ cB) (hb b0 b1 b2 b3 b4 b5 b6 : Nat) (pa mi ga te kn wa ne : Nat → Int32) (wc la br : Int32) (s p o : Int32) (hwc : 0 ≤ wc.toInt ∧ wc.toInt ≤ 6) : Cn l D tys yX0_hasWait cX0_hasWait 5 (some .boolean) rm_X0_hasWait [(hb, .inr (0, [.ref b0, .ref b1, .ref b2, .ref b3, .ref b4, .ref b5, .ref b6, .int wc, .int la, .int br])), (b0, .inl (cI, 4, .inl pa)), (b1, .inl (cI, 16, .inl mi)), (b2, .inl (cI, 4, .inl ga)), (b3, .inl (cI, 4, .inl te)), (b4, .inl (cI, 4, .inl kn)), (b5, .inl (cI, 6, .inl wa)), (b6, .inl (cI, 16, .inl ne))] [.ref hb, .int s, .int p, .int o] (fun v W1 => ∃ (r : Int32), v = some (.int r) ∧ W1 = [(hb, .inr (0, [.ref b0, .ref b1, .ref b2, .ref b3, .ref b4, .ref b5, .ref b6, .int wc, .int la, .int br])), (b0, .inl (cI, 4, .inl pa)), (b1, .inl (cI, 16, .inl mi)), (b2, .inl (cI, 4, .inl ga)), (b3, .inl (cI, 4, .inl te)), (b4, .inl (cI, 4, .inl kn)), (b5, .inl (cI, 6, .inl wa)), (b6, .inl (cI, 16, .inl ne))] ∧ (TB r (EX (fun y => wa (Int32.toNatClampNeg y) = 100 * s + 10 * p + o) wc))) := by
  refine Cn.of (by decide) (Nat.le_of_ble_eq_true rfl) ?_ ?_ (fun X eL eD eT eO eK eN eM C => ?_)
  · intro _ v ws h; obtain ⟨_, rfl, rfl, h⟩ := h; exact z_of h.n
  · intro v ws h; obtain ⟨_, rfl, rfl, _⟩ := h; exact Or.inr rfl
  subst eL eD eT
  show V X 5 [(hb, .inr (0, [.ref b0, .ref b1, .ref b2, .ref b3, .ref b4, .ref b5, .ref b6, .int wc, .int la, .int br])), (b0, .inl (cI, 4, .inl pa)), (b1, .inl (cI, 16, .inl mi)), (b2, .inl (cI, 4, .inl ga)), (b3, .inl (cI, 4, .inl te)), (b4, .inl (cI, 4, .inl kn)), (b5, .inl (cI, 6, .inl wa)), (b6, .inl (cI, 16, .inl ne))] [(0, .ref hb), (1, .int s), (2, .int p), (3, .int o)] [] 0 0 0
  refine x_iconst C 0 dX0_hasWait_0 (by decide) ?_
  refine x_istore C [(4, .int 0), (0, .ref hb), (1, .int s), (2, .int p), (3, .int o)] dX0_hasWait_1 (by decide) rfl ?_
  have L_3 : ∀ (n_3 : Nat) (x4_3 : Int32), ((0 ≤ x4_3.toInt ∧ x4_3.toInt ≤ wc.toInt) ∧ ¬ EX (fun y => wa (Int32.toNatClampNeg y) = 100 * s + 10 * p + o) x4_3) → ((wc.toInt - x4_3.toInt).toNat < n_3) → V X 5 [(hb, .inr (0, [.ref b0, .ref b1, .ref b2, .ref b3, .ref b4, .ref b5, .ref b6, .int wc, .int la, .int br])), (b0, .inl (cI, 4, .inl pa)), (b1, .inl (cI, 16, .inl mi)), (b2, .inl (cI, 4, .inl ga)), (b3, .inl (cI, 4, .inl te)), (b4, .inl (cI, 4, .inl kn)), (b5, .inl (cI, 6, .inl wa)), (b6, .inl (cI, 16, .inl ne))] [(4, .int x4_3), (0, .ref hb), (1, .int s), (2, .int p), (3, .int o)] [] 3 0 0 := by
    intro n_3
    induction n_3 with
    | zero =>
      intro x4_3 i_3 m_3
      exact absurd m_3 (Nat.not_lt_zero _)
    | succ n_3 ih_3 =>
      intro x4_3 i_3 m_3
      refine x_iload C 0 dX0_hasWait_3 rfl ?_
      refine x_aload_n C 1 dX0_hasWait_5 rfl rfl ?_
      refine x_get C 0 7 dX0_hasWait_6 inlX0 rfl (by decide) wd_234 rfl rfl rfl ?_
      refine x_icmp_ge C 41 dX0_hasWait_9 (by decide) (fun c_9 => ?_) (fun c_9 => ?_)
      · skip
        have e_9 : (wc : Int32).toInt ≤ (x4_3 : Int32).toInt := i_le.mp c_9
        refine x_iconst C 0 dX0_hasWait_41 (by decide) ?_
        have : (0 : Int32).toInt = 0 := by decide
        exact x_iret C dX0_hasWait_42 (Nat.zero_le _) (Nat.zero_le _) (by rw [eO]; exact ⟨0, rfl, rfl, (TB.nil (by rw [← i_eq.mpr (show x4_3.toInt = wc.toInt by omega)]; exact i_3.2))⟩)
      · skip
        have e_9 : ¬ ((wc : Int32).toInt ≤ (x4_3 : Int32).toInt) := fun h => c_9 (i_le.mpr h)
        refine x_aload_n C 1 dX0_hasWait_12 rfl rfl ?_
        refine x_get C 0 5 dX0_hasWait_13 inlX0 rfl (by decide) wd_60 rfl rfl rfl ?_
        refine x_iload C 0 dX0_hasWait_16 rfl ?_
        have v_18 : vp_in x4_3 6 := (vp_in_iff.mpr (by omega))
        refine x_iald C 6 0 dX0_hasWait_18 hT.1 rfl v_18 ?_
        refine x_bipush C 100 dX0_hasWait_19 (by decide) ?_
        refine x_iload_n C 2 dX0_hasWait_21 rfl rfl ?_
        refine x_imul C dX0_hasWait_22 ?_
        refine x_bipush C 10 dX0_hasWait_23 (by decide) ?_
        refine x_iload_n C 3 dX0_hasWait_25 rfl rfl ?_
        refine x_imul C dX0_hasWait_26 ?_
        refine x_iadd C dX0_hasWait_27 ?_
        refine x_iload_n C 4 dX0_hasWait_28 rfl rfl ?_
        refine x_iadd C dX0_hasWait_29 ?_
        refine x_icmp_ne C 35 dX0_hasWait_30 (by decide) (fun c_30 => ?_) (fun c_30 => ?_)
        · skip
          have e_30 : ¬ ((wa (Int32.toNatClampNeg x4_3) : Int32).toInt = (((100 * s) + (10 * p)) + o : Int32).toInt) := fun h => c_30 (i_eq.mpr h)
          refine x_iinc C 0 (x4_3 + 1) [(4, .int (x4_3 + 1)), (0, .ref hb), (1, .int s), (2, .int p), (3, .int o)] dX0_hasWait_35 rfl rfl (by decide) rfl ?_
          refine x_goto C 3 dX0_hasWait_38 (by decide) ?_
          have : (1 : Int32).toInt = 1 := by decide
          have := i_add (x := x4_3) (y := 1) (by omega) (by omega)
          exact ih_3 (x4_3 + 1) ⟨by omega, (EX.no (TB.nil i_3.2) t0_ c_30 (by omega)).f t0_⟩ (by omega)
        · skip
          have e_30 : (wa (Int32.toNatClampNeg x4_3) : Int32).toInt = (((100 * s) + (10 * p)) + o : Int32).toInt := i_eq.mp c_30
          refine x_iconst C 1 dX0_hasWait_33 (by decide) ?_
          have : (1 : Int32).toInt = 1 := by decide
          exact x_iret C dX0_hasWait_34 (Nat.zero_le _) (Nat.zero_le _) (by rw [eO]; exact ⟨1, rfl, rfl, (TB.one ⟨x4_3, by omega, by omega, c_30⟩)⟩)
  have : (0 : Int32).toInt = 0 := by decide
  exact L_3 _ 0 ⟨by omega, EX.z (by omega)⟩ (Nat.lt_succ_self _)
abbrev rm_X0_gatherNeeds : Room := { frames := 1, cells := 0, slots := 0, locals := 21 }
set_option maxHeartbeats 4000000 in
set_option maxRecDepth 100000 in
theorem c_X0_gatherNeeds (l : Launch) (D : va_G) (tys : List (ClassId × FieldType)) {cI cJ cZ cB : ClassId} (hT : Ty tys cI cJ cZ cB) (hb b0 b1 b2 b3 b4 b5 b6 : Nat) (pa mi ga te kn wa ne : Nat → Int32) (wc la br : Int32) (hwc : 0 ≤ wc.toInt ∧ wc.toInt ≤ 6) (hw : WOk wa wc) : Cn l D tys yX0_gatherNeeds cX0_gatherNeeds 2 none rm_X0_gatherNeeds [(hb, .inr (0, [.ref b0, .ref b1, .ref b2, .ref b3, .ref b4, .ref b5, .ref b6, .int wc, .int la, .int br])), (b0, .inl (cI, 4, .inl pa)), (b1, .inl (cI, 16, .inl mi)), (b2, .inl (cI, 4, .inl ga)), (b3, .inl (cI, 4, .inl te)), (b4, .inl (cI, 4, .inl kn)), (b5, .inl (cI, 6, .inl wa)), (b6, .inl (cI, 16, .inl ne))] [.ref hb] (fun v W1 => ∃ (ne2 : Nat → Int32), v = none ∧ W1 = [(hb, .inr (0, [.ref b0, .ref b1, .ref b2, .ref b3, .ref b4, .ref b5, .ref b6, .int wc, .int la, .int br])), (b0, .inl (cI, 4, .inl pa)), (b1, .inl (cI, 16, .inl mi)), (b2, .inl (cI, 4, .inl ga)), (b3, .inl (cI, 4, .inl te)), (b4, .inl (cI, 4, .inl kn)), (b5, .inl (cI, 6, .inl wa)), (b6, .inl (cI, 16, .inl ne2))] ∧ (NEI wa wc ne2)) := by
  refine Cn.of (by decide) (Nat.le_of_ble_eq_true rfl) ?_ ?_ (fun X eL eD eT eO eK eN eM C => ?_)
  · intro h; cases h
  · intro v ws h; obtain ⟨_, rfl, rfl, _⟩ := h; rfl
  subst eL eD eT
  show V X 2 [(hb, .inr (0, [.ref b0, .ref b1, .ref b2, .ref b3, .ref b4, .ref b5, .ref b6, .int wc, .int la, .int br])), (b0, .inl (cI, 4, .inl pa)), (b1, .inl (cI, 16, .inl mi)), (b2, .inl (cI, 4, .inl ga)), (b3, .inl (cI, 4, .inl te)), (b4, .inl (cI, 4, .inl kn)), (b5, .inl (cI, 6, .inl wa)), (b6, .inl (cI, 16, .inl ne))] [(0, .ref hb)] [] 0 0 0
  refine x_iconst C 0 dX0_gatherNeeds_0 (by decide) ?_
  refine x_istore_n C [(1, .int 0), (0, .ref hb)] dX0_gatherNeeds_1 rfl (by decide) rfl ?_
  have L_2 : ∀ (n_2 : Nat) (x1_2 : Int32) (fb6_2 : Nat → Int32), ((0 ≤ x1_2.toInt ∧ x1_2.toInt ≤ 16) ∧ ∀ j : Nat, (j : Int) < x1_2.toInt → fb6_2 j = 0) → ((16 - x1_2.toInt).toNat < n_2) → V X 2 [(hb, .inr (0, [.ref b0, .ref b1, .ref b2, .ref b3, .ref b4, .ref b5, .ref b6, .int wc, .int la, .int br])), (b0, .inl (cI, 4, .inl pa)), (b1, .inl (cI, 16, .inl mi)), (b2, .inl (cI, 4, .inl ga)), (b3, .inl (cI, 4, .inl te)), (b4, .inl (cI, 4, .inl kn)), (b5, .inl (cI, 6, .inl wa)), (b6, .inl (cI, 16, .inl fb6_2))] [(1, .int x1_2), (0, .ref hb)] [] 2 0 0 := by
    intro n_2
    induction n_2 with
    | zero =>
      intro x1_2 fb6_2 i_2 m_2
      exact absurd m_2 (Nat.not_lt_zero _)
    | succ n_2 ih_2 =>
      intro x1_2 fb6_2 i_2 m_2
      refine x_iload_n C 0 dX0_gatherNeeds_2 rfl rfl ?_
      refine x_bipush C 16 dX0_gatherNeeds_3 (by decide) ?_
      refine x_icmp_ge C 21 dX0_gatherNeeds_5 (by decide) (fun c_5 => ?_) (fun c_5 => ?_)
      · skip
        have e_5 : (16 : Int32).toInt ≤ (x1_2 : Int32).toInt := i_le.mp c_5
        have : (16 : Int32).toInt = 16 := by decide
        refine x_iconst C 0 dX0_gatherNeeds_21 (by decide) ?_
        refine x_istore_n C [(1, .int 0), (0, .ref hb)] dX0_gatherNeeds_22 rfl (by decide) rfl ?_
        have L_23 : ∀ (n_23 : Nat) (x1_23 : Int32) (fb6_23 : Nat → Int32), ((0 ≤ x1_23.toInt ∧ x1_23.toInt ≤ wc.toInt) ∧ ∀ j : Nat, j < 16 → fb6_23 j = nsF wa x1_23.toInt.toNat j) → ((wc.toInt - x1_23.toInt).toNat < n_23) → V X 2 [(hb, .inr (0, [.ref b0, .ref b1, .ref b2, .ref b3, .ref b4, .ref b5, .ref b6, .int wc, .int la, .int br])), (b0, .inl (cI, 4, .inl pa)), (b1, .inl (cI, 16, .inl mi)), (b2, .inl (cI, 4, .inl ga)), (b3, .inl (cI, 4, .inl te)), (b4, .inl (cI, 4, .inl kn)), (b5, .inl (cI, 6, .inl wa)), (b6, .inl (cI, 16, .inl fb6_23))] [(1, .int x1_23), (0, .ref hb)] [] 23 0 0 := by
          intro n_23
          induction n_23 with
          | zero =>
            intro x1_23 fb6_23 i_23 m_23
            exact absurd m_23 (Nat.not_lt_zero _)
          | succ n_23 ih_23 =>
            intro x1_23 fb6_23 i_23 m_23
            refine x_iload_n C 0 dX0_gatherNeeds_23 rfl rfl ?_
            refine x_aload_n C 1 dX0_gatherNeeds_24 rfl rfl ?_
            refine x_get C 0 7 dX0_gatherNeeds_25 inlX0 rfl (by decide) wd_234 rfl rfl rfl ?_
            refine x_icmp_ge C 65 dX0_gatherNeeds_28 (by decide) (fun c_28 => ?_) (fun c_28 => ?_)
            · skip
              have e_28 : (wc : Int32).toInt ≤ (x1_23 : Int32).toInt := i_le.mp c_28
              exact x_vret C dX0_gatherNeeds_65 (Nat.zero_le _) (Nat.zero_le _) (by rw [eO]; exact ⟨fb6_23, rfl, rfl, (fun j hj => by rw [i_23.2 j hj, show x1_23.toInt.toNat = wc.toInt.toNat by omega])⟩)
            · skip
              have e_28 : ¬ ((wc : Int32).toInt ≤ (x1_23 : Int32).toInt) := fun h => c_28 (i_le.mpr h)
              refine x_aload_n C 1 dX0_gatherNeeds_31 rfl rfl ?_
              refine x_get C 0 6 dX0_gatherNeeds_32 inlX0 rfl (by decide) wd_61 rfl rfl rfl ?_
              refine x_aload_n C 1 dX0_gatherNeeds_35 rfl rfl ?_
              refine x_iload_n C 0 dX0_gatherNeeds_36 rfl rfl ?_
              refine x_callV C [.int x1_23] [] [0, 1, 2, 3, 4, 5, 6, 7] [] (q0 := 0) (c_X0_storyOf (xl X) (xD X) (xt X) hT hb b0 b1 b2 b3 b4 b5 b6 pa mi ga te kn wa fb6_23 wc la br x1_23 (by omega) hw (by omega)) dX0_gatherNeeds_37 wd_235 wd_236 wd_237 wd_18 wd_238 (np := 1) ⟨by decide, by decide, by decide +kernel⟩ rfl rfl (Nat.le_of_ble_eq_true rfl) (by decide) rfl rfl rfl rfl (by decide) rfl (by decide) (by decide) (fun v W1 h => ?_)
              obtain ⟨r_37, rfl, rfl, h_37⟩ := h
              show V X 2 [(hb, .inr (0, [.ref b0, .ref b1, .ref b2, .ref b3, .ref b4, .ref b5, .ref b6, .int wc, .int la, .int br])), (b0, .inl (cI, 4, .inl pa)), (b1, .inl (cI, 16, .inl mi)), (b2, .inl (cI, 4, .inl ga)), (b3, .inl (cI, 4, .inl te)), (b4, .inl (cI, 4, .inl kn)), (b5, .inl (cI, 6, .inl wa)), (b6, .inl (cI, 16, .inl fb6_23))] [(1, .int x1_23), (0, .ref hb)] [.int r_37, .ref b6] 40 0 0
              refine x_iconst C 4 dX0_gatherNeeds_40 (by decide) ?_
              refine x_imul C dX0_gatherNeeds_41 ?_
              refine x_aload_n C 1 dX0_gatherNeeds_42 rfl rfl ?_
              refine x_iload_n C 0 dX0_gatherNeeds_43 rfl rfl ?_
              refine x_callV C [.int x1_23] [] [0, 1, 2, 3, 4, 5, 6, 7] [] (q0 := 0) (c_X0_partOf (xl X) (xD X) (xt X) hT hb b0 b1 b2 b3 b4 b5 b6 pa mi ga te kn wa fb6_23 wc la br x1_23 (by omega) hw (by omega)) dX0_gatherNeeds_44 wd_239 wd_240 wd_241 wd_18 wd_242 (np := 1) ⟨by decide, by decide, by decide +kernel⟩ rfl rfl (Nat.le_of_ble_eq_true rfl) (by decide) rfl rfl rfl rfl (by decide) rfl (by decide) (by decide) (fun v W1 h => ?_)
              obtain ⟨r_44, rfl, rfl, h_44⟩ := h
              show V X 2 [(hb, .inr (0, [.ref b0, .ref b1, .ref b2, .ref b3, .ref b4, .ref b5, .ref b6, .int wc, .int la, .int br])), (b0, .inl (cI, 4, .inl pa)), (b1, .inl (cI, 16, .inl mi)), (b2, .inl (cI, 4, .inl ga)), (b3, .inl (cI, 4, .inl te)), (b4, .inl (cI, 4, .inl kn)), (b5, .inl (cI, 6, .inl wa)), (b6, .inl (cI, 16, .inl fb6_23))] [(1, .int x1_23), (0, .ref hb)] [.int r_44, .int (r_37 * 4), .ref b6] 47 0 0
              refine x_iadd C dX0_gatherNeeds_47 ?_
              refine x_dup2 C dX0_gatherNeeds_48 rfl rfl ?_
              have : (4 : Int32).toInt = 4 := by decide
              have := i_mulr (x := r_37) (y := 4) (d := 4) (by decide) (by omega) (by omega)
              have := i_add (x := (r_37 * 4)) (y := r_44) (by omega) (by omega)
              have v_49 : vp_in ((r_37 * 4) + r_44) 16 := (vp_in_iff.mpr (by omega))
              refine x_iald C 7 0 dX0_gatherNeeds_49 hT.1 rfl v_49 ?_
              refine x_iconst C 1 dX0_gatherNeeds_50 (by decide) ?_
              refine x_aload_n C 1 dX0_gatherNeeds_51 rfl rfl ?_
              refine x_iload_n C 0 dX0_gatherNeeds_52 rfl rfl ?_
              refine x_callV C [.int x1_23] [] [0, 1, 2, 3, 4, 5, 6, 7] [] (q0 := 0) (c_X0_otherOf (xl X) (xD X) (xt X) hT hb b0 b1 b2 b3 b4 b5 b6 pa mi ga te kn wa fb6_23 wc la br x1_23 (by omega) hw (by omega)) dX0_gatherNeeds_53 wd_247 wd_248 wd_249 wd_18 wd_250 (np := 1) ⟨by decide, by decide, by decide +kernel⟩ rfl rfl (Nat.le_of_ble_eq_true rfl) (by decide) rfl rfl rfl rfl (by decide) rfl (by decide) (by decide) (fun v W1 h => ?_)
              obtain ⟨r_53, rfl, rfl, h_53⟩ := h
              show V X 2 [(hb, .inr (0, [.ref b0, .ref b1, .ref b2, .ref b3, .ref b4, .ref b5, .ref b6, .int wc, .int la, .int br])), (b0, .inl (cI, 4, .inl pa)), (b1, .inl (cI, 16, .inl mi)), (b2, .inl (cI, 4, .inl ga)), (b3, .inl (cI, 4, .inl te)), (b4, .inl (cI, 4, .inl kn)), (b5, .inl (cI, 6, .inl wa)), (b6, .inl (cI, 16, .inl fb6_23))] [(1, .int x1_23), (0, .ref hb)] [.int r_53, .int 1, .int (fb6_23 (Int32.toNatClampNeg ((r_37 * 4) + r_44))), .int ((r_37 * 4) + r_44), .ref b6] 56 0 0
              refine x_ishl C dX0_gatherNeeds_56 ?_
              refine x_ior C dX0_gatherNeeds_57 ?_
              have : (4 : Int32).toInt = 4 := by decide
              have := i_mulr (x := r_37) (y := 4) (d := 4) (by decide) (by omega) (by omega)
              have := i_add (x := (r_37 * 4)) (y := r_44) (by omega) (by omega)
              have v_58 : vp_in ((r_37 * 4) + r_44) 16 := (vp_in_iff.mpr (by omega))
              refine x_iast C 7 0 [(hb, .inr (0, [.ref b0, .ref b1, .ref b2, .ref b3, .ref b4, .ref b5, .ref b6, .int wc, .int la, .int br])), (b0, .inl (cI, 4, .inl pa)), (b1, .inl (cI, 16, .inl mi)), (b2, .inl (cI, 4, .inl ga)), (b3, .inl (cI, 4, .inl te)), (b4, .inl (cI, 4, .inl kn)), (b5, .inl (cI, 6, .inl wa)), (b6, .inl (cI, 16, .inl (upd fb6_23 (Int32.toNatClampNeg ((r_37 * 4) + r_44)) ((fb6_23 (Int32.toNatClampNeg ((r_37 * 4) + r_44))) ||| ((1 : Int32) <<< (r_53 &&& 31))))))] dX0_gatherNeeds_58 hT.1 rfl v_58 rfl ?_
              refine x_iinc C 0 (x1_23 + 1) [(1, .int (x1_23 + 1)), (0, .ref hb)] dX0_gatherNeeds_59 rfl rfl (by decide) rfl ?_
              refine x_goto C 23 dX0_gatherNeeds_62 (by decide) ?_
              have : (1 : Int32).toInt = 1 := by decide
              have := i_add (x := x1_23) (y := 1) (by omega) (by omega)
              exact ih_23 (x1_23 + 1) (upd fb6_23 (Int32.toNatClampNeg ((r_37 * 4) + r_44)) ((fb6_23 (Int32.toNatClampNeg ((r_37 * 4) + r_44))) ||| ((1 : Int32) <<< (r_53 &&& 31)))) ⟨by omega, ns_go i_23.2 (by omega) (by omega) (by omega) (by omega) (by omega) (by omega)⟩ (by omega)
        have : (0 : Int32).toInt = 0 := by decide
        exact L_23 _ 0 fb6_2 ⟨by omega, fun j hj => by rw [t0_]; exact i_2.2 j (by omega)⟩ (Nat.lt_succ_self _)
      · skip
        have e_5 : ¬ ((16 : Int32).toInt ≤ (x1_2 : Int32).toInt) := fun h => c_5 (i_le.mpr h)
        have : (16 : Int32).toInt = 16 := by decide
        refine x_aload_n C 1 dX0_gatherNeeds_8 rfl rfl ?_
        refine x_get C 0 6 dX0_gatherNeeds_9 inlX0 rfl (by decide) wd_61 rfl rfl rfl ?_
        refine x_iload_n C 0 dX0_gatherNeeds_12 rfl rfl ?_
        refine x_iconst C 0 dX0_gatherNeeds_13 (by decide) ?_
        have v_14 : vp_in x1_2 16 := (vp_in_iff.mpr (by omega))
        refine x_iast C 7 0 [(hb, .inr (0, [.ref b0, .ref b1, .ref b2, .ref b3, .ref b4, .ref b5, .ref b6, .int wc, .int la, .int br])), (b0, .inl (cI, 4, .inl pa)), (b1, .inl (cI, 16, .inl mi)), (b2, .inl (cI, 4, .inl ga)), (b3, .inl (cI, 4, .inl te)), (b4, .inl (cI, 4, .inl kn)), (b5, .inl (cI, 6, .inl wa)), (b6, .inl (cI, 16, .inl (upd fb6_2 (Int32.toNatClampNeg x1_2) 0)))] dX0_gatherNeeds_14 hT.1 rfl v_14 rfl ?_
        refine x_iinc C 0 (x1_2 + 1) [(1, .int (x1_2 + 1)), (0, .ref hb)] dX0_gatherNeeds_15 rfl rfl (by decide) rfl ?_
        refine x_goto C 2 dX0_gatherNeeds_18 (by decide) ?_
        have : (1 : Int32).toInt = 1 := by decide
        have := i_add (x := x1_2) (y := 1) (by omega) (by omega)
        exact ih_2 (x1_2 + 1) (upd fb6_2 (Int32.toNatClampNeg x1_2) 0) ⟨by omega, up_cp (g := fun _ => 0) v_14 (by omega) i_2.2⟩ (by omega)
  have : (0 : Int32).toInt = 0 := by decide
  exact L_2 _ 0 ne ⟨by omega, fun j hj => by exfalso; omega⟩ (Nat.lt_succ_self _)
abbrev rm_X0_addWait : Room := { frames := 2, cells := 0, slots := 0, locals := 42 }
set_option maxHeartbeats 4000000 in
set_option maxRecDepth 100000 in
theorem c_X0_addWait (l : Launch) (D : va_G) (tys : List (ClassId × FieldType)) {cI cJ cZ cB : ClassId} (hT : Ty tys cI cJ cZ cB) (hb b0 b1 b2 b3 b4 b5 b6 : Nat) (pa mi ga te kn wa ne : Nat → Int32) (wc la br : Int32) (s p o : Int32) (hwc : 0 ≤ wc.toInt ∧ wc.toInt < 6) (hw : WOk wa wc) (hs : 0 ≤ s.toInt ∧ s.toInt ≤ 3) (hp : 0 ≤ p.toInt ∧ p.toInt ≤ 3) (ho : 0 ≤ o.toInt ∧ o.toInt ≤ 3) : Cn l D tys yX0_addWait cX0_addWait 5 (some .int) rm_X0_addWait [(hb, .inr (0, [.ref b0, .ref b1, .ref b2, .ref b3, .ref b4, .ref b5, .ref b6, .int wc, .int la, .int br])), (b0, .inl (cI, 4, .inl pa)), (b1, .inl (cI, 16, .inl mi)), (b2, .inl (cI, 4, .inl ga)), (b3, .inl (cI, 4, .inl te)), (b4, .inl (cI, 4, .inl kn)), (b5, .inl (cI, 6, .inl wa)), (b6, .inl (cI, 16, .inl ne))] [.ref hb, .int s, .int p, .int o] (fun v W1 => ∃ (ne2 : Nat → Int32), v = some (.int wc) ∧ W1 = [(hb, .inr (0, [.ref b0, .ref b1, .ref b2, .ref b3, .ref b4, .ref b5, .ref b6, .int (wc + 1), .int la, .int br])), (b0, .inl (cI, 4, .inl pa)), (b1, .inl (cI, 16, .inl mi)), (b2, .inl (cI, 4, .inl ga)), (b3, .inl (cI, 4, .inl te)), (b4, .inl (cI, 4, .inl kn)), (b5, .inl (cI, 6, .inl (upd wa (Int32.toNatClampNeg wc) (100 * s + 10 * p + o)))), (b6, .inl (cI, 16, .inl ne2))] ∧ (WOk (upd wa (Int32.toNatClampNeg wc) (100 * s + 10 * p + o)) (wc + 1) ∧ NEI (upd wa (Int32.toNatClampNeg wc) (100 * s + 10 * p + o)) (wc + 1) ne2)) := by
  refine Cn.of (by decide) (Nat.le_of_ble_eq_true rfl) ?_ ?_ (fun X eL eD eT eO eK eN eM C => ?_)
  · intro h; cases h
  · intro v ws h; obtain ⟨_, rfl, rfl, _⟩ := h; exact Or.inl rfl
  subst eL eD eT
  show V X 5 [(hb, .inr (0, [.ref b0, .ref b1, .ref b2, .ref b3, .ref b4, .ref b5, .ref b6, .int wc, .int la, .int br])), (b0, .inl (cI, 4, .inl pa)), (b1, .inl (cI, 16, .inl mi)), (b2, .inl (cI, 4, .inl ga)), (b3, .inl (cI, 4, .inl te)), (b4, .inl (cI, 4, .inl kn)), (b5, .inl (cI, 6, .inl wa)), (b6, .inl (cI, 16, .inl ne))] [(0, .ref hb), (1, .int s), (2, .int p), (3, .int o)] [] 0 0 0
  refine x_aload_n C 0 dX0_addWait_0 rfl rfl ?_
  refine x_get C 0 7 dX0_addWait_1 inlX0 rfl (by decide) wd_234 rfl rfl rfl ?_
  refine x_istore C [(4, .int wc), (0, .ref hb), (1, .int s), (2, .int p), (3, .int o)] dX0_addWait_4 (by decide) rfl ?_
  refine x_iload C 0 dX0_addWait_6 rfl ?_
  refine x_bipush C 6 dX0_addWait_8 (by decide) ?_
  refine x_icmp_ge C 45 dX0_addWait_10 (by decide) (fun c_10 => ?_) (fun c_10 => ?_)
  · skip
    have e_10 : (6 : Int32).toInt ≤ (wc : Int32).toInt := i_le.mp c_10
    have : (6 : Int32).toInt = 6 := by decide
    exfalso
    omega
  · skip
    have e_10 : ¬ ((6 : Int32).toInt ≤ (wc : Int32).toInt) := fun h => c_10 (i_le.mpr h)
    have : (6 : Int32).toInt = 6 := by decide
    refine x_aload_n C 1 dX0_addWait_13 rfl rfl ?_
    refine x_get C 0 5 dX0_addWait_14 inlX0 rfl (by decide) wd_60 rfl rfl rfl ?_
    refine x_iload C 0 dX0_addWait_17 rfl ?_
    refine x_bipush C 100 dX0_addWait_19 (by decide) ?_
    refine x_iload_n C 2 dX0_addWait_21 rfl rfl ?_
    refine x_imul C dX0_addWait_22 ?_
    refine x_bipush C 10 dX0_addWait_23 (by decide) ?_
    refine x_iload_n C 3 dX0_addWait_25 rfl rfl ?_
    refine x_imul C dX0_addWait_26 ?_
    refine x_iadd C dX0_addWait_27 ?_
    refine x_iload_n C 4 dX0_addWait_28 rfl rfl ?_
    refine x_iadd C dX0_addWait_29 ?_
    have v_30 : vp_in wc 6 := (vp_in_iff.mpr (by omega))
    refine x_iast C 6 0 [(hb, .inr (0, [.ref b0, .ref b1, .ref b2, .ref b3, .ref b4, .ref b5, .ref b6, .int wc, .int la, .int br])), (b0, .inl (cI, 4, .inl pa)), (b1, .inl (cI, 16, .inl mi)), (b2, .inl (cI, 4, .inl ga)), (b3, .inl (cI, 4, .inl te)), (b4, .inl (cI, 4, .inl kn)), (b5, .inl (cI, 6, .inl (upd wa (Int32.toNatClampNeg wc) (((100 * s) + (10 * p)) + o)))), (b6, .inl (cI, 16, .inl ne))] dX0_addWait_30 hT.1 rfl v_30 rfl ?_
    refine x_aload_n C 1 dX0_addWait_31 rfl rfl ?_
    refine x_dup C dX0_addWait_32 rfl ?_
    refine x_get C 0 7 dX0_addWait_33 inlX0 rfl (by decide) wd_234 rfl rfl rfl ?_
    refine x_iconst C 1 dX0_addWait_36 (by decide) ?_
    refine x_iadd C dX0_addWait_37 ?_
    refine x_put C 0 7 (ty := .int) [(hb, .inr (0, [.ref b0, .ref b1, .ref b2, .ref b3, .ref b4, .ref b5, .ref b6, .int (wc + 1), .int la, .int br])), (b0, .inl (cI, 4, .inl pa)), (b1, .inl (cI, 16, .inl mi)), (b2, .inl (cI, 4, .inl ga)), (b3, .inl (cI, 4, .inl te)), (b4, .inl (cI, 4, .inl kn)), (b5, .inl (cI, 6, .inl (upd wa (Int32.toNatClampNeg wc) (((100 * s) + (10 * p)) + o)))), (b6, .inl (cI, 16, .inl ne))] dX0_addWait_38 inlX0 tyX0 tyX0_ok nmX0 rfl (by decide) wd_234 rfl rfl rfl rfl rfl rfl (Nat.le_of_ble_eq_true rfl) rfl ?_
    refine x_aload_n C 1 dX0_addWait_41 rfl rfl ?_
    have : (1 : Int32).toInt = 1 := by decide
    have := i_add (x := wc) (y := 1) (by omega) (by omega)
    have : (100 : Int32).toInt = 100 := by decide
    have : (10 : Int32).toInt = 10 := by decide
    have := i_mull (x := 100) (y := s) (d := 100) (by decide) (by omega) (by omega)
    have := i_mull (x := 10) (y := p) (d := 10) (by decide) (by omega) (by omega)
    have := i_add (x := 100 * s) (y := 10 * p) (by omega) (by omega)
    have := i_add (x := 100 * s + 10 * p) (y := o) (by omega) (by omega)
    have w9 : WOk (upd wa (Int32.toNatClampNeg wc) (100 * s + 10 * p + o)) (wc + 1) := by
      intro j hj
      rw [upd_eq]
      by_cases h2 : j = Int32.toNatClampNeg wc
      · rw [if_pos h2]; unfold wo; omega
      · rw [if_neg h2]; exact hw j (by have := vi_cl v_30; omega)
    refine x_callV C [] [] [0, 1, 2, 3, 4, 5, 6, 7] [] (q0 := 0) (c_X0_gatherNeeds (xl X) (xD X) (xt X) hT hb b0 b1 b2 b3 b4 b5 b6 pa mi ga te kn (upd wa (Int32.toNatClampNeg wc) (((100 * s) + (10 * p)) + o)) ne (wc + 1) la br (by omega) w9) dX0_addWait_42 wd_243 wd_244 wd_245 wd_18 wd_246 (np := 0) ⟨by decide, by decide, by decide +kernel⟩ rfl rfl (Nat.le_of_ble_eq_true rfl) (by decide) rfl rfl rfl rfl (by decide) rfl (by decide) (by decide) (fun v W1 h => ?_)
    obtain ⟨ne2_42, rfl, rfl, h_42⟩ := h
    show V X 5 [(hb, .inr (0, [.ref b0, .ref b1, .ref b2, .ref b3, .ref b4, .ref b5, .ref b6, .int ((wc + 1)), .int la, .int br])), (b0, .inl (cI, 4, .inl pa)), (b1, .inl (cI, 16, .inl mi)), (b2, .inl (cI, 4, .inl ga)), (b3, .inl (cI, 4, .inl te)), (b4, .inl (cI, 4, .inl kn)), (b5, .inl (cI, 6, .inl ((upd wa (Int32.toNatClampNeg wc) (((100 * s) + (10 * p)) + o))))), (b6, .inl (cI, 16, .inl ne2_42))] [(4, .int wc), (0, .ref hb), (1, .int s), (2, .int p), (3, .int o)] [] 45 0 0
    refine x_iload C 0 dX0_addWait_45 rfl ?_
    exact x_iret C dX0_addWait_47 (Nat.zero_le _) (Nat.zero_le _) (by rw [eO]; exact ⟨ne2_42, rfl, rfl, ⟨w9, h_42⟩⟩)
abbrev rm_X0_removeWait : Room := { frames := 2, cells := 0, slots := 0, locals := 42 }
set_option maxHeartbeats 4000000 in
set_option maxRecDepth 100000 in
theorem c_X0_removeWait (l : Launch) (D : va_G) (tys : List (ClassId × FieldType)) {cI cJ cZ cB : ClassId} (hT : Ty tys cI cJ cZ cB) (hb b0 b1 b2 b3 b4 b5 b6 : Nat) (pa mi ga te kn wa ne : Nat → Int32) (wc la br : Int32) (a : Int32) (hwc : 0 ≤ wc.toInt ∧ wc.toInt ≤ 6) (hw : WOk wa wc) (ha : 0 ≤ a.toInt ∧ a.toInt < wc.toInt) : Cn l D tys yX0_removeWait cX0_removeWait 3 (some .int) rm_X0_removeWait [(hb, .inr (0, [.ref b0, .ref b1, .ref b2, .ref b3, .ref b4, .ref b5, .ref b6, .int wc, .int la, .int br])), (b0, .inl (cI, 4, .inl pa)), (b1, .inl (cI, 16, .inl mi)), (b2, .inl (cI, 4, .inl ga)), (b3, .inl (cI, 4, .inl te)), (b4, .inl (cI, 4, .inl kn)), (b5, .inl (cI, 6, .inl wa)), (b6, .inl (cI, 16, .inl ne))] [.ref hb, .int a] (fun v W1 => ∃ (wa2 ne2 : Nat → Int32), v = some (.int (wc - 1)) ∧ W1 = [(hb, .inr (0, [.ref b0, .ref b1, .ref b2, .ref b3, .ref b4, .ref b5, .ref b6, .int (wc - 1), .int la, .int br])), (b0, .inl (cI, 4, .inl pa)), (b1, .inl (cI, 16, .inl mi)), (b2, .inl (cI, 4, .inl ga)), (b3, .inl (cI, 4, .inl te)), (b4, .inl (cI, 4, .inl kn)), (b5, .inl (cI, 6, .inl wa2)), (b6, .inl (cI, 16, .inl ne2))] ∧ ((WOk wa2 (wc - 1) ∧ SHf a.toInt (wc - 1).toInt wa wa2) ∧ NEI wa2 (wc - 1) ne2)) := by
  refine Cn.of (by decide) (Nat.le_of_ble_eq_true rfl) ?_ ?_ (fun X eL eD eT eO eK eN eM C => ?_)
  · intro h; cases h
  · intro v ws h; obtain ⟨_, _, rfl, rfl, _⟩ := h; exact Or.inl rfl
  subst eL eD eT
  show V X 3 [(hb, .inr (0, [.ref b0, .ref b1, .ref b2, .ref b3, .ref b4, .ref b5, .ref b6, .int wc, .int la, .int br])), (b0, .inl (cI, 4, .inl pa)), (b1, .inl (cI, 16, .inl mi)), (b2, .inl (cI, 4, .inl ga)), (b3, .inl (cI, 4, .inl te)), (b4, .inl (cI, 4, .inl kn)), (b5, .inl (cI, 6, .inl wa)), (b6, .inl (cI, 16, .inl ne))] [(0, .ref hb), (1, .int a)] [] 0 0 0
  refine x_iload_n C 1 dX0_removeWait_0 rfl rfl ?_
  refine x_istore_n C [(2, .int a), (0, .ref hb), (1, .int a)] dX0_removeWait_1 rfl (by decide) rfl ?_
  have L_2 : ∀ (n_2 : Nat) (x2_2 : Int32) (fb5_2 : Nat → Int32), ((a.toInt ≤ x2_2.toInt ∧ x2_2.toInt < wc.toInt) ∧ WOk fb5_2 wc ∧ RMV wa fb5_2 a.toInt x2_2.toInt) → ((wc.toInt - x2_2.toInt).toNat < n_2) → V X 3 [(hb, .inr (0, [.ref b0, .ref b1, .ref b2, .ref b3, .ref b4, .ref b5, .ref b6, .int wc, .int la, .int br])), (b0, .inl (cI, 4, .inl pa)), (b1, .inl (cI, 16, .inl mi)), (b2, .inl (cI, 4, .inl ga)), (b3, .inl (cI, 4, .inl te)), (b4, .inl (cI, 4, .inl kn)), (b5, .inl (cI, 6, .inl fb5_2)), (b6, .inl (cI, 16, .inl ne))] [(2, .int x2_2), (0, .ref hb), (1, .int a)] [] 2 0 0 := by
    intro n_2
    induction n_2 with
    | zero =>
      intro x2_2 fb5_2 i_2 m_2
      exact absurd m_2 (Nat.not_lt_zero _)
    | succ n_2 ih_2 =>
      intro x2_2 fb5_2 i_2 m_2
      refine x_iload_n C 0 dX0_removeWait_2 rfl rfl ?_
      refine x_aload_n C 1 dX0_removeWait_3 rfl rfl ?_
      refine x_get C 0 7 dX0_removeWait_4 inlX0 rfl (by decide) wd_234 rfl rfl rfl ?_
      refine x_iconst C 1 dX0_removeWait_7 (by decide) ?_
      refine x_isub C dX0_removeWait_8 ?_
      have : (1 : Int32).toInt = 1 := by decide
      have := i_sub (x := wc) (y := 1) (by omega) (by omega)
      refine x_icmp_ge C 32 dX0_removeWait_9 (by decide) (fun c_9 => ?_) (fun c_9 => ?_)
      · skip
        have e_9 : (wc - 1 : Int32).toInt ≤ (x2_2 : Int32).toInt := i_le.mp c_9
        refine x_aload_n C 1 dX0_removeWait_32 rfl rfl ?_
        refine x_dup C dX0_removeWait_33 rfl ?_
        refine x_get C 0 7 dX0_removeWait_34 inlX0 rfl (by decide) wd_234 rfl rfl rfl ?_
        refine x_iconst C 1 dX0_removeWait_37 (by decide) ?_
        refine x_isub C dX0_removeWait_38 ?_
        refine x_put C 0 7 (ty := .int) [(hb, .inr (0, [.ref b0, .ref b1, .ref b2, .ref b3, .ref b4, .ref b5, .ref b6, .int (wc - 1), .int la, .int br])), (b0, .inl (cI, 4, .inl pa)), (b1, .inl (cI, 16, .inl mi)), (b2, .inl (cI, 4, .inl ga)), (b3, .inl (cI, 4, .inl te)), (b4, .inl (cI, 4, .inl kn)), (b5, .inl (cI, 6, .inl fb5_2)), (b6, .inl (cI, 16, .inl ne))] dX0_removeWait_39 inlX0 tyX0 tyX0_ok nmX0 rfl (by decide) wd_234 rfl rfl rfl rfl rfl rfl (Nat.le_of_ble_eq_true rfl) rfl ?_
        refine x_aload_n C 1 dX0_removeWait_42 rfl rfl ?_
        have : (1 : Int32).toInt = 1 := by decide
        have := i_sub (x := wc) (y := 1) (by omega) (by omega)
        refine x_callV C [] [] [0, 1, 2, 3, 4, 5, 6, 7] [] (q0 := 0) (c_X0_gatherNeeds (xl X) (xD X) (xt X) hT hb b0 b1 b2 b3 b4 b5 b6 pa mi ga te kn fb5_2 ne (wc - 1) la br (by omega) (fun j hj => i_2.2.1 j (by omega))) dX0_removeWait_43 wd_243 wd_244 wd_245 wd_18 wd_246 (np := 0) ⟨by decide, by decide, by decide +kernel⟩ rfl rfl (Nat.le_of_ble_eq_true rfl) (by decide) rfl rfl rfl rfl (by decide) rfl (by decide) (by decide) (fun v W1 h => ?_)
        obtain ⟨ne2_43, rfl, rfl, h_43⟩ := h
        show V X 3 [(hb, .inr (0, [.ref b0, .ref b1, .ref b2, .ref b3, .ref b4, .ref b5, .ref b6, .int ((wc - 1)), .int la, .int br])), (b0, .inl (cI, 4, .inl pa)), (b1, .inl (cI, 16, .inl mi)), (b2, .inl (cI, 4, .inl ga)), (b3, .inl (cI, 4, .inl te)), (b4, .inl (cI, 4, .inl kn)), (b5, .inl (cI, 6, .inl fb5_2)), (b6, .inl (cI, 16, .inl ne2_43))] [(2, .int x2_2), (0, .ref hb), (1, .int a)] [] 46 0 0
        refine x_aload_n C 1 dX0_removeWait_46 rfl rfl ?_
        refine x_get C 0 7 dX0_removeWait_47 inlX0 rfl (by decide) wd_234 rfl rfl rfl ?_
        exact x_iret C dX0_removeWait_50 (Nat.zero_le _) (Nat.zero_le _) (by rw [eO]; exact ⟨fb5_2, ne2_43, rfl, rfl, ⟨⟨fun j hj => i_2.2.1 j (by omega), fun j hj => i_2.2.2.1 j (by omega)⟩, h_43⟩⟩)
      · skip
        have e_9 : ¬ ((wc - 1 : Int32).toInt ≤ (x2_2 : Int32).toInt) := fun h => c_9 (i_le.mpr h)
        refine x_aload_n C 1 dX0_removeWait_12 rfl rfl ?_
        refine x_get C 0 5 dX0_removeWait_13 inlX0 rfl (by decide) wd_60 rfl rfl rfl ?_
        refine x_iload_n C 0 dX0_removeWait_16 rfl rfl ?_
        refine x_aload_n C 1 dX0_removeWait_17 rfl rfl ?_
        refine x_get C 0 5 dX0_removeWait_18 inlX0 rfl (by decide) wd_60 rfl rfl rfl ?_
        refine x_iload_n C 0 dX0_removeWait_21 rfl rfl ?_
        refine x_iconst C 1 dX0_removeWait_22 (by decide) ?_
        refine x_iadd C dX0_removeWait_23 ?_
        have : (1 : Int32).toInt = 1 := by decide
        have := i_add (x := x2_2) (y := 1) (by omega) (by omega)
        have v_24 : vp_in (x2_2 + 1) 6 := (vp_in_iff.mpr (by omega))
        refine x_iald C 6 0 dX0_removeWait_24 hT.1 rfl v_24 ?_
        have v_25 : vp_in x2_2 6 := (vp_in_iff.mpr (by omega))
        refine x_iast C 6 0 [(hb, .inr (0, [.ref b0, .ref b1, .ref b2, .ref b3, .ref b4, .ref b5, .ref b6, .int wc, .int la, .int br])), (b0, .inl (cI, 4, .inl pa)), (b1, .inl (cI, 16, .inl mi)), (b2, .inl (cI, 4, .inl ga)), (b3, .inl (cI, 4, .inl te)), (b4, .inl (cI, 4, .inl kn)), (b5, .inl (cI, 6, .inl (upd fb5_2 (Int32.toNatClampNeg x2_2) (fb5_2 (Int32.toNatClampNeg (x2_2 + 1)))))), (b6, .inl (cI, 16, .inl ne))] dX0_removeWait_25 hT.1 rfl v_25 rfl ?_
        refine x_iinc C 0 (x2_2 + 1) [(2, .int (x2_2 + 1)), (0, .ref hb), (1, .int a)] dX0_removeWait_26 rfl rfl (by decide) rfl ?_
        refine x_goto C 2 dX0_removeWait_29 (by decide) ?_
        have : (1 : Int32).toInt = 1 := by decide
        have := i_add (x := x2_2) (y := 1) (by omega) (by omega)
        exact ih_2 (x2_2 + 1) (upd fb5_2 (Int32.toNatClampNeg x2_2) (fb5_2 (Int32.toNatClampNeg (x2_2 + 1)))) ⟨by omega, i_2.2.1.upd (i_2.2.1.at v_24 (by omega)), i_2.2.2.go (by omega) (by omega) (by omega) rfl (by show fb5_2 (x2_2 + 1).toInt.toNat = _; congr 1; omega)⟩ (by omega)
  exact L_2 _ a wa ⟨by omega, hw, RMV.z rfl⟩ (Nat.lt_succ_self _)
abbrev rm_X0_dropWaitsBeyond : Room := { frames := 2, cells := 0, slots := 0, locals := 42 }
set_option maxHeartbeats 4000000 in
set_option maxRecDepth 100000 in
theorem c_X0_dropWaitsBeyond (l : Launch) (D : va_G) (tys : List (ClassId × FieldType)) {cI cJ cZ cB : ClassId} (hT : Ty tys cI cJ cZ cB) (hb b0 b1 b2 b3 b4 b5 b6 : Nat) (pa mi ga te kn wa ne : Nat → Int32) (wc la br : Int32) (s p : Int32) (hwc : 0 ≤ wc.toInt ∧ wc.toInt ≤ 6) (hw : WOk wa wc) : Cn l D tys yX0_dropWaitsBeyond cX0_dropWaitsBeyond 6 none rm_X0_dropWaitsBeyond [(hb, .inr (0, [.ref b0, .ref b1, .ref b2, .ref b3, .ref b4, .ref b5, .ref b6, .int wc, .int la, .int br])), (b0, .inl (cI, 4, .inl pa)), (b1, .inl (cI, 16, .inl mi)), (b2, .inl (cI, 4, .inl ga)), (b3, .inl (cI, 4, .inl te)), (b4, .inl (cI, 4, .inl kn)), (b5, .inl (cI, 6, .inl wa)), (b6, .inl (cI, 16, .inl ne))] [.ref hb, .int s, .int p] (fun v W1 => ∃ (wa2 ne2 : Nat → Int32) (wc2 : Int32), v = none ∧ W1 = [(hb, .inr (0, [.ref b0, .ref b1, .ref b2, .ref b3, .ref b4, .ref b5, .ref b6, .int wc2, .int la, .int br])), (b0, .inl (cI, 4, .inl pa)), (b1, .inl (cI, 16, .inl mi)), (b2, .inl (cI, 4, .inl ga)), (b3, .inl (cI, 4, .inl te)), (b4, .inl (cI, 4, .inl kn)), (b5, .inl (cI, 6, .inl wa2)), (b6, .inl (cI, 16, .inl ne2))] ∧ ((((0 ≤ wc2.toInt ∧ wc2.toInt ≤ 6) ∧ WOk wa2 wc2) ∧ FL (wk wa s p) wc wa wc2 wa2) ∧ NEI wa2 wc2 ne2)) := by
  refine Cn.of (by decide) (Nat.le_of_ble_eq_true rfl) ?_ ?_ (fun X eL eD eT eO eK eN eM C => ?_)
  · intro h; cases h
  · intro v ws h; obtain ⟨_, _, _, rfl, rfl, _⟩ := h; rfl
  subst eL eD eT
  show V X 6 [(hb, .inr (0, [.ref b0, .ref b1, .ref b2, .ref b3, .ref b4, .ref b5, .ref b6, .int wc, .int la, .int br])), (b0, .inl (cI, 4, .inl pa)), (b1, .inl (cI, 16, .inl mi)), (b2, .inl (cI, 4, .inl ga)), (b3, .inl (cI, 4, .inl te)), (b4, .inl (cI, 4, .inl kn)), (b5, .inl (cI, 6, .inl wa)), (b6, .inl (cI, 16, .inl ne))] [(0, .ref hb), (1, .int s), (2, .int p)] [] 0 0 0
  refine x_iconst C 0 dX0_dropWaitsBeyond_0 (by decide) ?_
  refine x_istore_n C [(3, .int 0), (0, .ref hb), (1, .int s), (2, .int p)] dX0_dropWaitsBeyond_1 rfl (by decide) rfl ?_
  refine x_iconst C 0 dX0_dropWaitsBeyond_2 (by decide) ?_
  refine x_istore C [(4, .int 0), (3, .int 0), (0, .ref hb), (1, .int s), (2, .int p)] dX0_dropWaitsBeyond_3 (by decide) rfl ?_
  have L_5 : ∀ (n_5 : Nat) (x4_5 : Int32) (x3_5 : Int32) (fb5_5 : Nat → Int32), ((0 ≤ x4_5.toInt ∧ x4_5.toInt ≤ wc.toInt ∧ 0 ≤ x3_5.toInt ∧ x3_5.toInt ≤ x4_5.toInt) ∧ WOk fb5_5 wc ∧ DB (wk wa s p) wa fb5_5 x4_5.toInt x3_5.toInt) → ((wc.toInt - x4_5.toInt).toNat < n_5) → V X 6 [(hb, .inr (0, [.ref b0, .ref b1, .ref b2, .ref b3, .ref b4, .ref b5, .ref b6, .int wc, .int la, .int br])), (b0, .inl (cI, 4, .inl pa)), (b1, .inl (cI, 16, .inl mi)), (b2, .inl (cI, 4, .inl ga)), (b3, .inl (cI, 4, .inl te)), (b4, .inl (cI, 4, .inl kn)), (b5, .inl (cI, 6, .inl fb5_5)), (b6, .inl (cI, 16, .inl ne))] [(4, .int x4_5), (3, .int x3_5), (0, .ref hb), (1, .int s), (2, .int p)] [] 5 0 0 := by
    intro n_5
    induction n_5 with
    | zero =>
      intro x4_5 x3_5 fb5_5 i_5 m_5
      exact absurd m_5 (Nat.not_lt_zero _)
    | succ n_5 ih_5 =>
      intro x4_5 x3_5 fb5_5 i_5 m_5
      refine x_iload C 0 dX0_dropWaitsBeyond_5 rfl ?_
      refine x_aload_n C 2 dX0_dropWaitsBeyond_7 rfl rfl ?_
      refine x_get C 0 7 dX0_dropWaitsBeyond_8 inlX0 rfl (by decide) wd_234 rfl rfl rfl ?_
      refine x_icmp_ge C 68 dX0_dropWaitsBeyond_11 (by decide) (fun c_11 => ?_) (fun c_11 => ?_)
      · skip
        have e_11 : (wc : Int32).toInt ≤ (x4_5 : Int32).toInt := i_le.mp c_11
        refine x_aload_n C 2 dX0_dropWaitsBeyond_68 rfl rfl ?_
        refine x_iload_n C 1 dX0_dropWaitsBeyond_69 rfl rfl ?_
        refine x_put C 0 7 (ty := .int) [(hb, .inr (0, [.ref b0, .ref b1, .ref b2, .ref b3, .ref b4, .ref b5, .ref b6, .int x3_5, .int la, .int br])), (b0, .inl (cI, 4, .inl pa)), (b1, .inl (cI, 16, .inl mi)), (b2, .inl (cI, 4, .inl ga)), (b3, .inl (cI, 4, .inl te)), (b4, .inl (cI, 4, .inl kn)), (b5, .inl (cI, 6, .inl fb5_5)), (b6, .inl (cI, 16, .inl ne))] dX0_dropWaitsBeyond_70 inlX0 tyX0 tyX0_ok nmX0 rfl (by decide) wd_234 rfl rfl rfl rfl rfl rfl (Nat.le_of_ble_eq_true rfl) rfl ?_
        refine x_aload_n C 2 dX0_dropWaitsBeyond_73 rfl rfl ?_
        refine x_callV C [] [] [0, 1, 2, 3, 4, 5, 6, 7] [] (q0 := 0) (c_X0_gatherNeeds (xl X) (xD X) (xt X) hT hb b0 b1 b2 b3 b4 b5 b6 pa mi ga te kn fb5_5 ne x3_5 la br (by omega) (fun j hj => i_5.2.1 j (by omega))) dX0_dropWaitsBeyond_74 wd_243 wd_244 wd_245 wd_18 wd_246 (np := 0) ⟨by decide, by decide, by decide +kernel⟩ rfl rfl (Nat.le_of_ble_eq_true rfl) (by decide) rfl rfl rfl rfl (by decide) rfl (by decide) (by decide) (fun v W1 h => ?_)
        obtain ⟨ne2_74, rfl, rfl, h_74⟩ := h
        show V X 6 [(hb, .inr (0, [.ref b0, .ref b1, .ref b2, .ref b3, .ref b4, .ref b5, .ref b6, .int x3_5, .int la, .int br])), (b0, .inl (cI, 4, .inl pa)), (b1, .inl (cI, 16, .inl mi)), (b2, .inl (cI, 4, .inl ga)), (b3, .inl (cI, 4, .inl te)), (b4, .inl (cI, 4, .inl kn)), (b5, .inl (cI, 6, .inl fb5_5)), (b6, .inl (cI, 16, .inl ne2_74))] [(4, .int x4_5), (3, .int x3_5), (0, .ref hb), (1, .int s), (2, .int p)] [] 77 0 0
        exact x_vret C dX0_dropWaitsBeyond_77 (Nat.zero_le _) (Nat.zero_le _) (by rw [eO]; exact ⟨fb5_5, ne2_74, x3_5, rfl, rfl, ⟨⟨⟨by omega, fun j hj => i_5.2.1 j (by omega)⟩, by have := i_5.2.2.1; rw [show x4_5.toInt.toNat = wc.toInt.toNat by omega] at this; exact this, fun j hj => i_5.2.2.2.1 j (by omega)⟩, h_74⟩⟩)
      · skip
        have e_11 : ¬ ((wc : Int32).toInt ≤ (x4_5 : Int32).toInt) := fun h => c_11 (i_le.mpr h)
        refine x_aload_n C 2 dX0_dropWaitsBeyond_14 rfl rfl ?_
        refine x_iload C 0 dX0_dropWaitsBeyond_15 rfl ?_
        refine x_callV C [.int x4_5] [] [0, 1, 2, 3, 4, 5, 6, 7] [] (q0 := 0) (c_X0_storyOf (xl X) (xD X) (xt X) hT hb b0 b1 b2 b3 b4 b5 b6 pa mi ga te kn fb5_5 ne wc la br x4_5 (by omega) i_5.2.1 (by omega)) dX0_dropWaitsBeyond_17 wd_235 wd_236 wd_237 wd_18 wd_238 (np := 1) ⟨by decide, by decide, by decide +kernel⟩ rfl rfl (Nat.le_of_ble_eq_true rfl) (by decide) rfl rfl rfl rfl (by decide) rfl (by decide) (by decide) (fun v W1 h => ?_)
        obtain ⟨r_17, rfl, rfl, h_17⟩ := h
        show V X 6 [(hb, .inr (0, [.ref b0, .ref b1, .ref b2, .ref b3, .ref b4, .ref b5, .ref b6, .int wc, .int la, .int br])), (b0, .inl (cI, 4, .inl pa)), (b1, .inl (cI, 16, .inl mi)), (b2, .inl (cI, 4, .inl ga)), (b3, .inl (cI, 4, .inl te)), (b4, .inl (cI, 4, .inl kn)), (b5, .inl (cI, 6, .inl fb5_5)), (b6, .inl (cI, 16, .inl ne))] [(4, .int x4_5), (3, .int x3_5), (0, .ref hb), (1, .int s), (2, .int p)] [.int r_17] 20 0 0
        have f9 : fb5_5 (Int32.toNatClampNeg x4_5) = wa x4_5.toInt.toNat := i_5.2.2.2.2 _ (by show x4_5.toInt ≤ (x4_5.toInt.toNat : Int); omega)
        refine x_iload_n C 3 dX0_dropWaitsBeyond_20 rfl rfl ?_
        refine x_icmp_ne C 38 dX0_dropWaitsBeyond_21 (by decide) (fun c_21 => ?_) (fun c_21 => ?_)
        · skip
          have e_21 : ¬ ((r_17 : Int32).toInt = (s : Int32).toInt) := fun h => c_21 (i_eq.mpr h)
          refine x_iconst C 0 dX0_dropWaitsBeyond_38 (by decide) ?_
          refine x_istore C [(5, .int 0), (4, .int x4_5), (3, .int x3_5), (0, .ref hb), (1, .int s), (2, .int p)] dX0_dropWaitsBeyond_39 (by decide) rfl ?_
          refine x_iload C 0 dX0_dropWaitsBeyond_41 rfl ?_
          refine x_if_ne C 62 dX0_dropWaitsBeyond_43 (by decide) (fun c_43 => ?_) (fun c_43 => ?_)
          · skip
            have e_43 : ¬ ((0 : Int32).toInt = (0 : Int32).toInt) := fun h => c_43 (i_eq.mpr h)
            have : (0 : Int32).toInt = 0 := by decide
            have : (0 : Int32).toInt = 0 := by decide
            exfalso
            omega
          · skip
            have e_43 : (0 : Int32).toInt = (0 : Int32).toInt := i_eq.mp c_43
            have : (0 : Int32).toInt = 0 := by decide
            have : (0 : Int32).toInt = 0 := by decide
            refine x_aload_n C 3 dX0_dropWaitsBeyond_46 rfl rfl ?_
            refine x_get C 0 5 dX0_dropWaitsBeyond_47 inlX0 rfl (by decide) wd_60 rfl rfl rfl ?_
            refine x_iload_n C 2 dX0_dropWaitsBeyond_50 rfl rfl ?_
            refine x_aload_n C 3 dX0_dropWaitsBeyond_51 rfl rfl ?_
            refine x_get C 0 5 dX0_dropWaitsBeyond_52 inlX0 rfl (by decide) wd_60 rfl rfl rfl ?_
            refine x_iload C 1 dX0_dropWaitsBeyond_55 rfl ?_
            have v_57 : vp_in x4_5 6 := (vp_in_iff.mpr (by omega))
            refine x_iald C 6 0 dX0_dropWaitsBeyond_57 hT.1 rfl v_57 ?_
            have v_58 : vp_in x3_5 6 := (vp_in_iff.mpr (by omega))
            refine x_iast C 6 0 [(hb, .inr (0, [.ref b0, .ref b1, .ref b2, .ref b3, .ref b4, .ref b5, .ref b6, .int wc, .int la, .int br])), (b0, .inl (cI, 4, .inl pa)), (b1, .inl (cI, 16, .inl mi)), (b2, .inl (cI, 4, .inl ga)), (b3, .inl (cI, 4, .inl te)), (b4, .inl (cI, 4, .inl kn)), (b5, .inl (cI, 6, .inl (upd fb5_5 (Int32.toNatClampNeg x3_5) (fb5_5 (Int32.toNatClampNeg x4_5))))), (b6, .inl (cI, 16, .inl ne))] dX0_dropWaitsBeyond_58 hT.1 rfl v_58 rfl ?_
            refine x_iinc C 2 (x3_5 + 1) [(3, .int (x3_5 + 1)), (5, .int 0), (4, .int x4_5), (0, .ref hb), (1, .int s), (2, .int p)] dX0_dropWaitsBeyond_59 rfl rfl (by decide) rfl ?_
            refine x_iinc C 2 (x4_5 + 1) [(4, .int (x4_5 + 1)), (3, .int (x3_5 + 1)), (5, .int 0), (0, .ref hb), (1, .int s), (2, .int p)] dX0_dropWaitsBeyond_62 rfl rfl (by decide) rfl ?_
            refine x_goto C 5 dX0_dropWaitsBeyond_65 (by decide) ?_
            refine x_lv [(4, .int (x4_5 + 1)), (3, .int (x3_5 + 1)), (0, .ref hb), (1, .int s), (2, .int p)] [0, 1, 3, 4, 5] rfl ?_
            have : (1 : Int32).toInt = 1 := by decide
            have := i_add (x := x4_5) (y := 1) (by omega) (by omega)
            have : (1 : Int32).toInt = 1 := by decide
            have := i_add (x := x3_5) (y := 1) (by omega) (by omega)
            exact ih_5 (x4_5 + 1) (x3_5 + 1) (upd fb5_5 (Int32.toNatClampNeg x3_5) (fb5_5 (Int32.toNatClampNeg x4_5))) ⟨by omega, i_5.2.1.upd (i_5.2.1.at v_57 (by omega)), i_5.2.2.keep (by omega) (by omega) (by omega) (wk_t (by rw [← f9]; omega))⟩ (by omega)
        · skip
          have e_21 : (r_17 : Int32).toInt = (s : Int32).toInt := i_eq.mp c_21
          refine x_aload_n C 2 dX0_dropWaitsBeyond_24 rfl rfl ?_
          refine x_iload C 0 dX0_dropWaitsBeyond_25 rfl ?_
          refine x_callV C [.int x4_5] [] [0, 1, 2, 3, 4, 5, 6, 7] [] (q0 := 0) (c_X0_partOf (xl X) (xD X) (xt X) hT hb b0 b1 b2 b3 b4 b5 b6 pa mi ga te kn fb5_5 ne wc la br x4_5 (by omega) i_5.2.1 (by omega)) dX0_dropWaitsBeyond_27 wd_239 wd_240 wd_241 wd_18 wd_242 (np := 1) ⟨by decide, by decide, by decide +kernel⟩ rfl rfl (Nat.le_of_ble_eq_true rfl) (by decide) rfl rfl rfl rfl (by decide) rfl (by decide) (by decide) (fun v W1 h => ?_)
          obtain ⟨r_27, rfl, rfl, h_27⟩ := h
          show V X 6 [(hb, .inr (0, [.ref b0, .ref b1, .ref b2, .ref b3, .ref b4, .ref b5, .ref b6, .int wc, .int la, .int br])), (b0, .inl (cI, 4, .inl pa)), (b1, .inl (cI, 16, .inl mi)), (b2, .inl (cI, 4, .inl ga)), (b3, .inl (cI, 4, .inl te)), (b4, .inl (cI, 4, .inl kn)), (b5, .inl (cI, 6, .inl fb5_5)), (b6, .inl (cI, 16, .inl ne))] [(4, .int x4_5), (3, .int x3_5), (0, .ref hb), (1, .int s), (2, .int p)] [.int r_27] 30 0 0
          refine x_iload_n C 4 dX0_dropWaitsBeyond_30 rfl rfl ?_
          refine x_icmp_lt C 38 dX0_dropWaitsBeyond_31 (by decide) (fun c_31 => ?_) (fun c_31 => ?_)
          · skip
            have e_31 : (r_27 : Int32).toInt < (p : Int32).toInt := i_lt.mp c_31
            refine x_iconst C 0 dX0_dropWaitsBeyond_38 (by decide) ?_
            refine x_istore C [(5, .int 0), (4, .int x4_5), (3, .int x3_5), (0, .ref hb), (1, .int s), (2, .int p)] dX0_dropWaitsBeyond_39 (by decide) rfl ?_
            refine x_iload C 0 dX0_dropWaitsBeyond_41 rfl ?_
            refine x_if_ne C 62 dX0_dropWaitsBeyond_43 (by decide) (fun c_43 => ?_) (fun c_43 => ?_)
            · skip
              have e_43 : ¬ ((0 : Int32).toInt = (0 : Int32).toInt) := fun h => c_43 (i_eq.mpr h)
              have : (0 : Int32).toInt = 0 := by decide
              have : (0 : Int32).toInt = 0 := by decide
              exfalso
              omega
            · skip
              have e_43 : (0 : Int32).toInt = (0 : Int32).toInt := i_eq.mp c_43
              have : (0 : Int32).toInt = 0 := by decide
              have : (0 : Int32).toInt = 0 := by decide
              refine x_aload_n C 3 dX0_dropWaitsBeyond_46 rfl rfl ?_
              refine x_get C 0 5 dX0_dropWaitsBeyond_47 inlX0 rfl (by decide) wd_60 rfl rfl rfl ?_
              refine x_iload_n C 2 dX0_dropWaitsBeyond_50 rfl rfl ?_
              refine x_aload_n C 3 dX0_dropWaitsBeyond_51 rfl rfl ?_
              refine x_get C 0 5 dX0_dropWaitsBeyond_52 inlX0 rfl (by decide) wd_60 rfl rfl rfl ?_
              refine x_iload C 1 dX0_dropWaitsBeyond_55 rfl ?_
              have v_57 : vp_in x4_5 6 := (vp_in_iff.mpr (by omega))
              refine x_iald C 6 0 dX0_dropWaitsBeyond_57 hT.1 rfl v_57 ?_
              have v_58 : vp_in x3_5 6 := (vp_in_iff.mpr (by omega))
              refine x_iast C 6 0 [(hb, .inr (0, [.ref b0, .ref b1, .ref b2, .ref b3, .ref b4, .ref b5, .ref b6, .int wc, .int la, .int br])), (b0, .inl (cI, 4, .inl pa)), (b1, .inl (cI, 16, .inl mi)), (b2, .inl (cI, 4, .inl ga)), (b3, .inl (cI, 4, .inl te)), (b4, .inl (cI, 4, .inl kn)), (b5, .inl (cI, 6, .inl (upd fb5_5 (Int32.toNatClampNeg x3_5) (fb5_5 (Int32.toNatClampNeg x4_5))))), (b6, .inl (cI, 16, .inl ne))] dX0_dropWaitsBeyond_58 hT.1 rfl v_58 rfl ?_
              refine x_iinc C 2 (x3_5 + 1) [(3, .int (x3_5 + 1)), (5, .int 0), (4, .int x4_5), (0, .ref hb), (1, .int s), (2, .int p)] dX0_dropWaitsBeyond_59 rfl rfl (by decide) rfl ?_
              refine x_iinc C 2 (x4_5 + 1) [(4, .int (x4_5 + 1)), (3, .int (x3_5 + 1)), (5, .int 0), (0, .ref hb), (1, .int s), (2, .int p)] dX0_dropWaitsBeyond_62 rfl rfl (by decide) rfl ?_
              refine x_goto C 5 dX0_dropWaitsBeyond_65 (by decide) ?_
              refine x_lv [(4, .int (x4_5 + 1)), (3, .int (x3_5 + 1)), (0, .ref hb), (1, .int s), (2, .int p)] [0, 1, 3, 4, 5] rfl ?_
              have : (1 : Int32).toInt = 1 := by decide
              have := i_add (x := x4_5) (y := 1) (by omega) (by omega)
              have : (1 : Int32).toInt = 1 := by decide
              have := i_add (x := x3_5) (y := 1) (by omega) (by omega)
              exact ih_5 (x4_5 + 1) (x3_5 + 1) (upd fb5_5 (Int32.toNatClampNeg x3_5) (fb5_5 (Int32.toNatClampNeg x4_5))) ⟨by omega, i_5.2.1.upd (i_5.2.1.at v_57 (by omega)), i_5.2.2.keep (by omega) (by omega) (by omega) (wk_t (by rw [← f9]; omega))⟩ (by omega)
          · skip
            have e_31 : ¬ ((r_27 : Int32).toInt < (p : Int32).toInt) := fun h => c_31 (i_lt.mpr h)
            refine x_iconst C 1 dX0_dropWaitsBeyond_34 (by decide) ?_
            refine x_goto C 39 dX0_dropWaitsBeyond_35 (by decide) ?_
            refine x_istore C [(5, .int 1), (4, .int x4_5), (3, .int x3_5), (0, .ref hb), (1, .int s), (2, .int p)] dX0_dropWaitsBeyond_39 (by decide) rfl ?_
            refine x_iload C 0 dX0_dropWaitsBeyond_41 rfl ?_
            refine x_if_ne C 62 dX0_dropWaitsBeyond_43 (by decide) (fun c_43 => ?_) (fun c_43 => ?_)
            · skip
              have e_43 : ¬ ((1 : Int32).toInt = (0 : Int32).toInt) := fun h => c_43 (i_eq.mpr h)
              have : (1 : Int32).toInt = 1 := by decide
              have : (0 : Int32).toInt = 0 := by decide
              refine x_iinc C 1 (x4_5 + 1) [(4, .int (x4_5 + 1)), (5, .int 1), (3, .int x3_5), (0, .ref hb), (1, .int s), (2, .int p)] dX0_dropWaitsBeyond_62 rfl rfl (by decide) rfl ?_
              refine x_goto C 5 dX0_dropWaitsBeyond_65 (by decide) ?_
              refine x_lv [(4, .int (x4_5 + 1)), (3, .int x3_5), (0, .ref hb), (1, .int s), (2, .int p)] [0, 2, 3, 4, 5] rfl ?_
              have : (1 : Int32).toInt = 1 := by decide
              have := i_add (x := x4_5) (y := 1) (by omega) (by omega)
              exact ih_5 (x4_5 + 1) x3_5 fb5_5 ⟨by omega, i_5.2.1, i_5.2.2.drop (by omega) (by omega) (wk_f (by rw [← f9]; omega))⟩ (by omega)
            · skip
              have e_43 : (1 : Int32).toInt = (0 : Int32).toInt := i_eq.mp c_43
              have : (1 : Int32).toInt = 1 := by decide
              have : (0 : Int32).toInt = 0 := by decide
              exfalso
              omega
  have : (0 : Int32).toInt = 0 := by decide
  have : (0 : Int32).toInt = 0 := by decide
  exact L_5 _ 0 0 wa ⟨by omega, hw, DB.z (by omega) (by omega)⟩ (Nat.lt_succ_self _)
