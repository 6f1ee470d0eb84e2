/-! pure rows: numbers -/
def Ty (tys : List (ClassId × FieldType)) (cI cJ cZ cB : ClassId) : Prop := tys[0]? = some (cI, .int) ∧ tys[1]? = some (cJ, .long) ∧ tys[2]? = some (cZ, .boolean) ∧ tys[3]? = some (cB, .object "StoryNest$Book")
theorem i_le {x y : Int32} : x ≤ y ↔ x.toInt ≤ y.toInt := Int32.le_iff_toInt_le
theorem i_lt {x y : Int32} : x < y ↔ x.toInt < y.toInt := Int32.lt_iff_toInt_lt
theorem i_eq {x y : Int32} : x = y ↔ x.toInt = y.toInt := Int32.toInt_inj.symm
theorem i_rng (x : Int32) : -2147483648 ≤ x.toInt ∧ x.toInt < 2147483648 := ⟨x.le_toInt, x.toInt_lt⟩
theorem i_bmod {a : Int} (h1 : -2147483648 ≤ a) (h2 : a < 2147483648) : a.bmod (2 ^ 32) = a := Int.bmod_eq_of_le (by omega) (by omega)
theorem i_add {x y : Int32} (h1 : -2147483648 ≤ x.toInt + y.toInt) (h2 : x.toInt + y.toInt < 2147483648) : (x + y).toInt = x.toInt + y.toInt := by rw [Int32.toInt_add]; exact i_bmod h1 h2
theorem i_sub {x y : Int32} (h1 : -2147483648 ≤ x.toInt - y.toInt) (h2 : x.toInt - y.toInt < 2147483648) : (x - y).toInt = x.toInt - y.toInt := by rw [Int32.toInt_sub]; exact i_bmod h1 h2
theorem i_mul {x y : Int32} (h1 : -2147483648 ≤ x.toInt * y.toInt) (h2 : x.toInt * y.toInt < 2147483648) : (x * y).toInt = x.toInt * y.toInt := by rw [Int32.toInt_mul]; exact i_bmod h1 h2
theorem i_m1 (x : Int32) : x + Int32.ofInt (-1) = x - 1 := (Int32.sub_eq_add_neg x 1).symm
theorem i_mulr {x y : Int32} {d : Int} (hd : y.toInt = d) (h1 : -2147483648 ≤ x.toInt * d) (h2 : x.toInt * d < 2147483648) : (x * y).toInt = x.toInt * d := by subst hd; exact i_mul h1 h2
theorem i_mull {x y : Int32} {d : Int} (hd : x.toInt = d) (h1 : -2147483648 ≤ d * y.toInt) (h2 : d * y.toInt < 2147483648) : (x * y).toInt = d * y.toInt := by subst hd; exact i_mul h1 h2
theorem lc_key (x y : Int64) : (y.toInt < x.toInt ∧ lg_cmp x y = 1) ∨ (x.toInt = y.toInt ∧ lg_cmp x y = 0) ∨ (x.toInt < y.toInt ∧ lg_cmp x y = -1) := by
  unfold lg_cmp
  by_cases h1 : x > y
  · left; exact ⟨Int64.lt_iff_toInt_lt.mp h1, if_pos h1⟩
  · rw [if_neg h1]
    by_cases h2 : x = y
    · right; left; exact ⟨by rw [h2], if_pos h2⟩
    · right; right
      refine ⟨?_, if_neg h2⟩
      have a : ¬ y.toInt < x.toInt := fun h => h1 (Int64.lt_iff_toInt_lt.mpr h)
      have b : ¬ x.toInt = y.toInt := fun h => h2 (Int64.toInt_inj.mp h)
      omega
theorem lc_lt {x y : Int64} : lg_cmp x y < 0 ↔ x.toInt < y.toInt := by
  rcases lc_key x y with ⟨h, e⟩ | ⟨h, e⟩ | ⟨h, e⟩ <;> rw [e] <;> constructor <;> intro h9 <;> first | omega | exact absurd h9 (by decide) | decide
theorem lc_le {x y : Int64} : lg_cmp x y ≤ 0 ↔ x.toInt ≤ y.toInt := by
  rcases lc_key x y with ⟨h, e⟩ | ⟨h, e⟩ | ⟨h, e⟩ <;> rw [e] <;> constructor <;> intro h9 <;> first | omega | exact absurd h9 (by decide) | decide
theorem lc_eq {x y : Int64} : lg_cmp x y = 0 ↔ x.toInt = y.toInt := by
  rcases lc_key x y with ⟨h, e⟩ | ⟨h, e⟩ | ⟨h, e⟩ <;> rw [e] <;> constructor <;> intro h9 <;> first | omega | exact absurd h9 (by decide) | decide
theorem lc_gt {x y : Int64} : 0 < lg_cmp x y ↔ x.toInt > y.toInt := by
  rcases lc_key x y with ⟨h, e⟩ | ⟨h, e⟩ | ⟨h, e⟩ <;> rw [e] <;> constructor <;> intro h9 <;> first | omega | exact absurd h9 (by decide) | decide
theorem lc_ge {x y : Int64} : 0 ≤ lg_cmp x y ↔ x.toInt ≥ y.toInt := by
  rcases lc_key x y with ⟨h, e⟩ | ⟨h, e⟩ | ⟨h, e⟩ <;> rw [e] <;> constructor <;> intro h9 <;> first | omega | exact absurd h9 (by decide) | decide
theorem z_of {r : Int32} (h : r.toInt = 0 ∨ r.toInt = 1) : some (Value.int r) = some (.int 0) ∨ some (Value.int r) = some (.int 1) := by
  rcases h with h | h
  · left; rw [i_eq.mpr (show r.toInt = (0 : Int32).toInt by rw [h]; rfl)]
  · right; rw [i_eq.mpr (show r.toInt = (1 : Int32).toInt by rw [h]; rfl)]
theorem vi_lt {x : Int32} {n : Nat} (h : vp_in x n) : x.toNatClampNeg < n := Nat.not_le.mp fun q => h (Or.inr q)
theorem vi_cl {x : Int32} {n : Nat} (h : vp_in x n) : (x.toNatClampNeg : Int) = x.toInt := by
  have h1 := vp_in_iff.mp h
  have : x.toNatClampNeg = x.toInt.toNat := rfl
  omega
/-! THE REFERENCE, PURE: tests, loops over small numbers, codes of rows, stands -/
theorem t0_ : (0 : Int32).toInt = 0 := by decide
theorem t1_ : (1 : Int32).toInt = 1 := by decide
theorem t2_ : (2 : Int32).toInt = 2 := by decide
theorem t3_ : (3 : Int32).toInt = 3 := by decide
theorem t4_ : (4 : Int32).toInt = 4 := by decide
theorem t5_ : (5 : Int32).toInt = 5 := by decide
theorem t65_ : (65 : Int32).toInt = 65 := by decide
theorem tm6_ : (-6 : Int32).toInt = -6 := by decide
def TB (r : Int32) (P : Prop) : Prop := (r.toInt = 1 ∧ P) ∨ (r.toInt = 0 ∧ ¬ P)
theorem TB.t {r : Int32} {P : Prop} (h : TB r P) (h0 : ¬ r.toInt = 0) : P := by
  rcases h with h | h
  · exact h.2
  · exact absurd h.1 h0
theorem TB.f {r : Int32} {P : Prop} (h : TB r P) (h0 : r.toInt = 0) : ¬ P := by
  rcases h with h | h
  · omega
  · exact h.2
theorem TB.n {r : Int32} {P : Prop} (h : TB r P) : r.toInt = 0 ∨ r.toInt = 1 := by
  rcases h with h | h
  · exact Or.inr h.1
  · exact Or.inl h.1
theorem TB.one {P : Prop} (h : P) : TB 1 P := Or.inl ⟨t1_, h⟩
theorem TB.nil {P : Prop} (h : ¬ P) : TB 0 P := Or.inr ⟨t0_, h⟩
theorem TB.iff {r : Int32} {P Q : Prop} (h : TB r P) (h9 : P ↔ Q) : TB r Q := by
  rcases h with h | h
  · exact Or.inl ⟨h.1, h9.mp h.2⟩
  · exact Or.inr ⟨h.1, fun q => h.2 (h9.mpr q)⟩
theorem TB.same {r u : Int32} {P : Prop} (h : TB r P) (h9 : TB u P) : r = u := by
  refine i_eq.mpr ?_
  rcases h with h | h <;> rcases h9 with h9 | h9
  · omega
  · exact absurd h.2 h9.2
  · exact absurd h9.2 h.2
  · omega
noncomputable def ifc {α : Type} (P : Prop) (a b : α) : α := @ite α P (Classical.propDecidable P) a b
theorem ifc_t {α : Type} {P : Prop} {a b : α} (h : P) : ifc P a b = a := by unfold ifc; exact if_pos h
theorem ifc_f {α : Type} {P : Prop} {a b : α} (h : ¬ P) : ifc P a b = b := by unfold ifc; exact if_neg h
/-- some number below x -/
def EX (Q : Int32 → Prop) (x : Int32) : Prop := ∃ y : Int32, 0 ≤ y.toInt ∧ y.toInt < x.toInt ∧ Q y
def AX (Q : Int32 → Prop) (x : Int32) : Prop := ∀ y : Int32, 0 ≤ y.toInt → y.toInt < x.toInt → Q y
theorem EX.z {Q : Int32 → Prop} {x : Int32} (h : x.toInt ≤ 0) : ¬ EX Q x := fun ⟨y, h1, h2, _⟩ => by omega
theorem AX.z {Q : Int32 → Prop} {x : Int32} (h : x.toInt ≤ 0) : AX Q x := fun y h1 h2 => by omega
theorem EX.keep {Q : Int32 → Prop} {g x y : Int32} (h : TB g (EX Q x)) (hg : ¬ g.toInt = 0) (hx : y.toInt = x.toInt + 1) : TB 1 (EX Q y) := by
  obtain ⟨u, h1, h2, h3⟩ := h.t hg
  exact TB.one ⟨u, h1, by omega, h3⟩
theorem EX.yes {Q : Int32 → Prop} {x y : Int32} (h0 : 0 ≤ x.toInt) (hq : Q x) (hx : y.toInt = x.toInt + 1) : TB 1 (EX Q y) := TB.one ⟨x, h0, by omega, hq⟩
theorem EX.no {Q : Int32 → Prop} {g x y : Int32} (h : TB g (EX Q x)) (hg : g.toInt = 0) (hq : ¬ Q x) (hx : y.toInt = x.toInt + 1) : TB 0 (EX Q y) := by
  refine TB.nil fun ⟨u, h1, h2, h3⟩ => ?_
  by_cases h9 : u.toInt = x.toInt
  · rw [i_eq.mpr h9] at h3; exact hq h3
  · exact h.f hg ⟨u, h1, by omega, h3⟩
theorem AX.keep {Q : Int32 → Prop} {g x y : Int32} (h : TB g (AX Q x)) (hg : g.toInt = 0) (hx : y.toInt = x.toInt + 1) : TB 0 (AX Q y) :=
  TB.nil fun h9 => h.f hg fun u h1 h2 => h9 u h1 (by omega)
theorem AX.no {Q : Int32 → Prop} {x y : Int32} (h0 : 0 ≤ x.toInt) (hq : ¬ Q x) (hx : y.toInt = x.toInt + 1) : TB 0 (AX Q y) := TB.nil fun h9 => hq (h9 x h0 (by omega))
theorem AX.yes {Q : Int32 → Prop} {g x y : Int32} (h : TB g (AX Q x)) (hg : ¬ g.toInt = 0) (hq : Q x) (hx : y.toInt = x.toInt + 1) : TB 1 (AX Q y) := by
  refine TB.one fun u h1 h2 => ?_
  by_cases h9 : u.toInt = x.toInt
  · rw [i_eq.mpr h9]; exact hq
  · exact h.t hg u h1 (by omega)
abbrev rm_X9_isIn : Room := { frames := 0, cells := 0, slots := 0, locals := 0 }
set_option maxHeartbeats 4000000 in
set_option maxRecDepth 100000 in
theorem c_X9_isIn (l : Launch) (D : va_G) (tys : List (ClassId × FieldType)) {cI cJ cZ cB : ClassId} (hT : Ty tys cI cJ cZ cB) (a b c : Int32)  : Cn l D tys yX9_isIn cX9_isIn 3 (some .boolean) rm_X9_isIn [] [.int a, .int b, .int c] (fun v W1 => ∃ (r : Int32), v = some (.int r) ∧ W1 = [] ∧ (((r.toInt = 1 ∧ b.toInt ≤ a.toInt ∧ a.toInt ≤ c.toInt) ∨ (r.toInt = 0 ∧ ¬ (b.toInt ≤ a.toInt ∧ a.toInt ≤ c.toInt))))) := by
  refine Cn.of (by decide) (Nat.le_of_ble_eq_true rfl) ?_ ?_ (fun X eL eD eT eO eK eN eM C => ?_)
  · intro _ v ws h; obtain ⟨_, rfl, rfl, h⟩ := h; exact z_of (by omega)
  · intro v ws h; obtain ⟨_, rfl, rfl, _⟩ := h; exact Or.inr rfl
  subst eL eD eT
  show V X 3 [] [(0, .int a), (1, .int b), (2, .int c)] [] 0 0 0
  refine x_iload_n C 0 dX9_isIn_0 rfl rfl ?_
  refine x_iload_n C 1 dX9_isIn_1 rfl rfl ?_
  refine x_icmp_lt C 14 dX9_isIn_2 (by decide) (fun c_2 => ?_) (fun c_2 => ?_)
  · skip
    have e_2 : (a : Int32).toInt < (b : Int32).toInt := i_lt.mp c_2
    refine x_iconst C 0 dX9_isIn_14 (by decide) ?_
    have : (0 : Int32).toInt = 0 := by decide
    exact x_iret C dX9_isIn_15 (Nat.zero_le _) (Nat.zero_le _) (by rw [eO]; exact ⟨0, rfl, rfl, (by omega)⟩)
  · skip
    have e_2 : ¬ ((a : Int32).toInt < (b : Int32).toInt) := fun h => c_2 (i_lt.mpr h)
    refine x_iload_n C 0 dX9_isIn_5 rfl rfl ?_
    refine x_iload_n C 2 dX9_isIn_6 rfl rfl ?_
    refine x_icmp_gt C 14 dX9_isIn_7 (by decide) (fun c_7 => ?_) (fun c_7 => ?_)
    · skip
      have e_7 : (c : Int32).toInt < (a : Int32).toInt := i_lt.mp c_7
      refine x_iconst C 0 dX9_isIn_14 (by decide) ?_
      have : (0 : Int32).toInt = 0 := by decide
      exact x_iret C dX9_isIn_15 (Nat.zero_le _) (Nat.zero_le _) (by rw [eO]; exact ⟨0, rfl, rfl, (by omega)⟩)
    · skip
      have e_7 : ¬ ((c : Int32).toInt < (a : Int32).toInt) := fun h => c_7 (i_lt.mpr h)
      refine x_iconst C 1 dX9_isIn_10 (by decide) ?_
      refine x_goto C 15 dX9_isIn_11 (by decide) ?_
      have : (1 : Int32).toInt = 1 := by decide
      exact x_iret C dX9_isIn_15 (Nat.zero_le _) (Nat.zero_le _) (by rw [eO]; exact ⟨1, rfl, rfl, (by omega)⟩)
abbrev rm_X9_isStory : Room := { frames := 1, cells := 0, slots := 0, locals := 22 }
set_option maxHeartbeats 4000000 in
set_option maxRecDepth 100000 in
theorem c_X9_isStory (l : Launch) (D : va_G) (tys : List (ClassId × FieldType)) {cI cJ cZ cB : ClassId} (hT : Ty tys cI cJ cZ cB) (a : Int32)  : Cn l D tys yX9_isStory cX9_isStory 1 (some .boolean) rm_X9_isStory [] [.int a] (fun v W1 => ∃ (r : Int32), v = some (.int r) ∧ W1 = [] ∧ (((r.toInt = 1 ∧ 0 ≤ a.toInt ∧ a.toInt ≤ 3) ∨ (r.toInt = 0 ∧ ¬ (0 ≤ a.toInt ∧ a.toInt ≤ 3))))) := by
  refine Cn.of (by decide) (Nat.le_of_ble_eq_true rfl) ?_ ?_ (fun X eL eD eT eO eK eN eM C => ?_)
  · intro _ v ws h; obtain ⟨_, rfl, rfl, h⟩ := h; exact z_of (by omega)
  · intro v ws h; obtain ⟨_, rfl, rfl, _⟩ := h; exact Or.inr rfl
  subst eL eD eT
  show V X 1 [] [(0, .int a)] [] 0 0 0
  refine x_iload_n C 0 dX9_isStory_0 rfl rfl ?_
  refine x_iconst C 0 dX9_isStory_1 (by decide) ?_
  refine x_iconst C 3 dX9_isStory_2 (by decide) ?_
  refine x_callS C [.int a, .int 0, .int 3] [] [] [] (c_X9_isIn (xl X) (xD X) (xt X) hT a 0 3 ) dX9_isStory_3 wd_186 wd_187 wd_2 wd_188 (np := 3) ⟨by decide, by decide, by decide +kernel⟩ rfl rfl (Nat.le_of_ble_eq_true rfl) (by decide) rfl (by decide) rfl (by decide) (by decide) (fun v W1 h => ?_)
  obtain ⟨r_3, rfl, rfl, h_3⟩ := h
  have : (0 : Int32).toInt = 0 := by decide
  have : (3 : Int32).toInt = 3 := by decide
  show V X 1 [] [(0, .int a)] [.int r_3] 6 0 0
  exact x_iret C dX9_isStory_6 (Nat.zero_le _) (Nat.zero_le _) (by rw [eO]; exact ⟨r_3, rfl, rfl, (by omega)⟩)
abbrev rm_X9_isTeller : Room := { frames := 1, cells := 0, slots := 0, locals := 22 }
set_option maxHeartbeats 4000000 in
set_option maxRecDepth 100000 in
theorem c_X9_isTeller (l : Launch) (D : va_G) (tys : List (ClassId × FieldType)) {cI cJ cZ cB : ClassId} (hT : Ty tys cI cJ cZ cB) (a : Int32)  : Cn l D tys yX9_isTeller cX9_isTeller 1 (some .boolean) rm_X9_isTeller [] [.int a] (fun v W1 => ∃ (r : Int32), v = some (.int r) ∧ W1 = [] ∧ (((r.toInt = 1 ∧ 0 ≤ a.toInt ∧ a.toInt ≤ 3) ∨ (r.toInt = 0 ∧ ¬ (0 ≤ a.toInt ∧ a.toInt ≤ 3))))) := by
  refine Cn.of (by decide) (Nat.le_of_ble_eq_true rfl) ?_ ?_ (fun X eL eD eT eO eK eN eM C => ?_)
  · intro _ v ws h; obtain ⟨_, rfl, rfl, h⟩ := h; exact z_of (by omega)
  · intro v ws h; obtain ⟨_, rfl, rfl, _⟩ := h; exact Or.inr rfl
  subst eL eD eT
  show V X 1 [] [(0, .int a)] [] 0 0 0
  refine x_iload_n C 0 dX9_isTeller_0 rfl rfl ?_
  refine x_iconst C 0 dX9_isTeller_1 (by decide) ?_
  refine x_iconst C 3 dX9_isTeller_2 (by decide) ?_
  refine x_callS C [.int a, .int 0, .int 3] [] [] [] (c_X9_isIn (xl X) (xD X) (xt X) hT a 0 3 ) dX9_isTeller_3 wd_186 wd_187 wd_2 wd_188 (np := 3) ⟨by decide, by decide, by decide +kernel⟩ rfl rfl (Nat.le_of_ble_eq_true rfl) (by decide) rfl (by decide) rfl (by decide) (by decide) (fun v W1 h => ?_)
  obtain ⟨r_3, rfl, rfl, h_3⟩ := h
  have : (0 : Int32).toInt = 0 := by decide
  have : (3 : Int32).toInt = 3 := by decide
  show V X 1 [] [(0, .int a)] [.int r_3] 6 0 0
  exact x_iret C dX9_isTeller_6 (Nat.zero_le _) (Nat.zero_le _) (by rw [eO]; exact ⟨r_3, rfl, rfl, (by omega)⟩)
abbrev rm_X9_isSet : Room := { frames := 1, cells := 0, slots := 0, locals := 22 }
set_option maxHeartbeats 4000000 in
set_option maxRecDepth 100000 in
theorem c_X9_isSet (l : Launch) (D : va_G) (tys : List (ClassId × FieldType)) {cI cJ cZ cB : ClassId} (hT : Ty tys cI cJ cZ cB) (a : Int32)  : Cn l D tys yX9_isSet cX9_isSet 1 (some .boolean) rm_X9_isSet [] [.int a] (fun v W1 => ∃ (r : Int32), v = some (.int r) ∧ W1 = [] ∧ (((r.toInt = 1 ∧ 1 ≤ a.toInt ∧ a.toInt ≤ 15) ∨ (r.toInt = 0 ∧ ¬ (1 ≤ a.toInt ∧ a.toInt ≤ 15))))) := by
  refine Cn.of (by decide) (Nat.le_of_ble_eq_true rfl) ?_ ?_ (fun X eL eD eT eO eK eN eM C => ?_)
  · intro _ v ws h; obtain ⟨_, rfl, rfl, h⟩ := h; exact z_of (by omega)
  · intro v ws h; obtain ⟨_, rfl, rfl, _⟩ := h; exact Or.inr rfl
  subst eL eD eT
  show V X 1 [] [(0, .int a)] [] 0 0 0
  refine x_iload_n C 0 dX9_isSet_0 rfl rfl ?_
  refine x_iconst C 1 dX9_isSet_1 (by decide) ?_
  refine x_bipush C 15 dX9_isSet_2 (by decide) ?_
  refine x_callS C [.int a, .int 1, .int 15] [] [] [] (c_X9_isIn (xl X) (xD X) (xt X) hT a 1 15 ) dX9_isSet_4 wd_186 wd_187 wd_2 wd_188 (np := 3) ⟨by decide, by decide, by decide +kernel⟩ rfl rfl (Nat.le_of_ble_eq_true rfl) (by decide) rfl (by decide) rfl (by decide) (by decide) (fun v W1 h => ?_)
  obtain ⟨r_4, rfl, rfl, h_4⟩ := h
  have : (1 : Int32).toInt = 1 := by decide
  have : (15 : Int32).toInt = 15 := by decide
  show V X 1 [] [(0, .int a)] [.int r_4] 7 0 0
  exact x_iret C dX9_isSet_7 (Nat.zero_le _) (Nat.zero_le _) (by rw [eO]; exact ⟨r_4, rfl, rfl, (by omega)⟩)
abbrev rm_X9_isDeep : Room := { frames := 1, cells := 0, slots := 0, locals := 22 }
set_option maxHeartbeats 4000000 in
set_option maxRecDepth 100000 in
theorem c_X9_isDeep (l : Launch) (D : va_G) (tys : List (ClassId × FieldType)) {cI cJ cZ cB : ClassId} (hT : Ty tys cI cJ cZ cB) (a : Int32)  : Cn l D tys yX9_isDeep cX9_isDeep 1 (some .boolean) rm_X9_isDeep [] [.int a] (fun v W1 => ∃ (r : Int32), v = some (.int r) ∧ W1 = [] ∧ (((r.toInt = 1 ∧ 1 ≤ a.toInt ∧ a.toInt ≤ 4) ∨ (r.toInt = 0 ∧ ¬ (1 ≤ a.toInt ∧ a.toInt ≤ 4))))) := by
  refine Cn.of (by decide) (Nat.le_of_ble_eq_true rfl) ?_ ?_ (fun X eL eD eT eO eK eN eM C => ?_)
  · intro _ v ws h; obtain ⟨_, rfl, rfl, h⟩ := h; exact z_of (by omega)
  · intro v ws h; obtain ⟨_, rfl, rfl, _⟩ := h; exact Or.inr rfl
  subst eL eD eT
  show V X 1 [] [(0, .int a)] [] 0 0 0
  refine x_iload_n C 0 dX9_isDeep_0 rfl rfl ?_
  refine x_iconst C 1 dX9_isDeep_1 (by decide) ?_
  refine x_iconst C 4 dX9_isDeep_2 (by decide) ?_
  refine x_callS C [.int a, .int 1, .int 4] [] [] [] (c_X9_isIn (xl X) (xD X) (xt X) hT a 1 4 ) dX9_isDeep_3 wd_186 wd_187 wd_2 wd_188 (np := 3) ⟨by decide, by decide, by decide +kernel⟩ rfl rfl (Nat.le_of_ble_eq_true rfl) (by decide) rfl (by decide) rfl (by decide) (by decide) (fun v W1 h => ?_)
  obtain ⟨r_3, rfl, rfl, h_3⟩ := h
  have : (1 : Int32).toInt = 1 := by decide
  have : (4 : Int32).toInt = 4 := by decide
  show V X 1 [] [(0, .int a)] [.int r_3] 6 0 0
  exact x_iret C dX9_isDeep_6 (Nat.zero_le _) (Nat.zero_le _) (by rw [eO]; exact ⟨r_3, rfl, rfl, (by omega)⟩)
