theorem TOk.upd {te : Nat → Int32} {k : Nat} {x : Int32} (h : TOk te) (hx : 0 ≤ x.toInt ∧ x.toInt ≤ 3) : TOk (upd te k x) := fun j hj => by
  rw [upd_eq]
  by_cases h9 : j = k
  · rw [if_pos h9]; exact hx
  · rw [if_neg h9]; exact h j hj
theorem ini_te {f : Nat → Int32} {x y : Int32} (hv : vp_in x 4) (hy : y.toInt = x.toInt + 1) {g : Nat → Int32} (h : ∀ j : Nat, (j : Int) < x.toInt → (0 ≤ (f j).toInt ∧ (f j).toInt ≤ 3) ∧ g j = 1) : ∀ j : Nat, (j : Int) < y.toInt → (0 ≤ (upd f x.toNatClampNeg x j).toInt ∧ (upd f x.toNatClampNeg x j).toInt ≤ 3) ∧ upd g x.toNatClampNeg 1 j = 1 := by
  intro j hj
  have h1 := vi_cl hv
  have h2 := vi_lt hv
  rw [upd_eq, upd_eq]
  by_cases h9 : j = x.toNatClampNeg
  · rw [if_pos h9, if_pos h9]; exact ⟨by omega, rfl⟩
  · rw [if_neg h9, if_neg h9]; exact h j (by omega)
/-- what a teller's change answers and leaves -/
def TE (s t : Int32) (te : Nat → Int32) (r : Int32) (te2 : Nat → Int32) : Prop := (((0 ≤ s.toInt ∧ s.toInt ≤ 3) ∧ (0 ≤ t.toInt ∧ t.toInt ≤ 3)) ∧ r = te (Int32.toNatClampNeg s) ∧ te2 = upd te (Int32.toNatClampNeg s) t) ∨ (¬ ((0 ≤ s.toInt ∧ s.toInt ≤ 3) ∧ (0 ≤ t.toInt ∧ t.toInt ≤ 3)) ∧ r = -1 ∧ te2 = te)
theorem TE.ok {s t r : Int32} {te te2 : Nat → Int32} (h : TE s t te r te2) (hte : TOk te) : TOk te2 := by
  rcases h with ⟨a, _, rfl⟩ | ⟨_, _, rfl⟩
  · exact hte.upd a.2
  · exact hte
def EQn (n : Nat) (f g : Nat → Int32) : Prop := ∀ j : Nat, j < n → f j = g j
theorem EQn.upd {n k : Nat} {f g : Nat → Int32} {x : Int32} (h : EQn n f g) : EQn n (upd f k x) (upd g k x) := fun j hj => by rw [upd_eq, upd_eq, h j hj]
theorem cl3 {s : Int32} (h : 0 ≤ s.toInt ∧ s.toInt ≤ 3) : Int32.toNatClampNeg s < 4 := by show s.toInt.toNat < 4; omega
theorem TE.eq {s t r mr : Int32} {te te2 mt mt2 : Nat → Int32} (he : EQn 4 te mt) (h : TE s t te r te2) (h' : TE s t mt mr mt2) : r = mr ∧ EQn 4 te2 mt2 := by
  rcases h with ⟨a, rfl, rfl⟩ | ⟨a, rfl, rfl⟩ <;> rcases h' with ⟨b, rfl, rfl⟩ | ⟨b, rfl, rfl⟩
  · exact ⟨he _ (cl3 a.1), he.upd⟩
  · exact absurd a b
  · exact absurd b a
  · exact ⟨rfl, he⟩
def KN (s t : Int32) (kn : Nat → Int32) (r : Int32) (kn2 : Nat → Int32) : Prop := ((0 ≤ s.toInt ∧ s.toInt ≤ 3) ∧ (0 ≤ t.toInt ∧ t.toInt ≤ 15) ∧ r = kn (Int32.toNatClampNeg s) ∧ kn2 = upd kn (Int32.toNatClampNeg s) t) ∨ ((0 ≤ s.toInt ∧ s.toInt ≤ 3) ∧ ¬ (0 ≤ t.toInt ∧ t.toInt ≤ 15) ∧ r = -2 ∧ kn2 = kn) ∨ (¬ (0 ≤ s.toInt ∧ s.toInt ≤ 3) ∧ r = -1 ∧ kn2 = kn)
theorem KN.eq {s t r mr : Int32} {te te2 mt mt2 : Nat → Int32} (he : EQn 4 te mt) (h : KN s t te r te2) (h' : KN s t mt mr mt2) : r = mr ∧ EQn 4 te2 mt2 := by
  rcases h with ⟨a, a1, rfl, rfl⟩ | ⟨a, a1, rfl, rfl⟩ | ⟨a, rfl, rfl⟩ <;> rcases h' with ⟨b, b1, rfl, rfl⟩ | ⟨b, b1, rfl, rfl⟩ | ⟨b, rfl, rfl⟩
  · exact ⟨he _ (cl3 a), he.upd⟩
  · exact absurd a1 b1
  · exact absurd a b
  · exact absurd b1 a1
  · exact ⟨rfl, he⟩
  · exact absurd a b
  · exact absurd b a
  · exact absurd b a
  · exact ⟨rfl, he⟩
def SE (a b la br r la2 br2 : Int32) : Prop := ((a.toInt = 0 ∧ 0 ≤ b.toInt ∧ b.toInt ≤ 2) ∧ r = la ∧ la2 = b ∧ br2 = br) ∨ ((a.toInt = 1 ∧ 0 ≤ b.toInt ∧ b.toInt ≤ 9) ∧ r = br ∧ la2 = la ∧ br2 = b) ∨ ((¬ (a.toInt = 0 ∧ 0 ≤ b.toInt ∧ b.toInt ≤ 2) ∧ ¬ (a.toInt = 1 ∧ 0 ≤ b.toInt ∧ b.toInt ≤ 9)) ∧ r = -2 ∧ la2 = la ∧ br2 = br)
theorem SE.eq {a b la br r la2 br2 mr ml2 mb2 : Int32} (h : SE a b la br r la2 br2) (h' : SE a b la br mr ml2 mb2) : r = mr ∧ la2 = ml2 ∧ br2 = mb2 := by
  rcases h with ⟨x, rfl, rfl, rfl⟩ | ⟨x, rfl, rfl, rfl⟩ | ⟨x, rfl, rfl, rfl⟩ <;> rcases h' with ⟨y, rfl, rfl, rfl⟩ | ⟨y, rfl, rfl, rfl⟩ | ⟨y, rfl, rfl, rfl⟩ <;> first | exact ⟨rfl, rfl, rfl⟩ | (exfalso; omega)
def AB (pa mi ga : Nat → Int32) (s x r : Int32) : Prop := (¬ (0 ≤ s.toInt ∧ s.toInt ≤ 3) ∧ r = -1) ∨ ((0 ≤ s.toInt ∧ s.toInt ≤ 3) ∧ (((10 ≤ x.toInt ∧ x.toInt ≤ 13) ∧ x.toInt - 10 < (pa (Int32.toNatClampNeg s)).toInt ∧ r = mi (4 * s.toInt + x.toInt - 10).toNat) ∨ ((10 ≤ x.toInt ∧ x.toInt ≤ 13) ∧ ¬ x.toInt - 10 < (pa (Int32.toNatClampNeg s)).toInt ∧ r = -6) ∨ (x.toInt = 0 ∧ r = pa (Int32.toNatClampNeg s)) ∨ (x.toInt = 1 ∧ r = mnS mi (4 * s.toInt).toNat (pa (Int32.toNatClampNeg s)).toInt.toNat) ∨ (x.toInt = 2 ∧ r = ga (Int32.toNatClampNeg s)) ∨ ((¬ (0 ≤ x.toInt ∧ x.toInt ≤ 2) ∧ ¬ (10 ≤ x.toInt ∧ x.toInt ≤ 13)) ∧ r = -2)))
theorem AB.eq {pa mi ga ma mm mg : Nat → Int32} {s x r mr : Int32} (h1 : EQn 4 pa ma) (h2 : EQn 16 mi mm) (h3 : EQn 4 ga mg) (h : AB pa mi ga s x r) (h' : AB ma mm mg s x mr) : r = mr := by
  rcases h with ⟨a, rfl⟩ | ⟨a, h⟩ <;> rcases h' with ⟨b, rfl⟩ | ⟨b, h'⟩
  · rfl
  · exact absurd b a
  · exact absurd a b
  · have e1 := h1 _ (cl3 a)
    have e3 := h3 _ (cl3 a)
    rw [← e1] at h'
    rcases h with ⟨c, c1, rfl⟩ | ⟨c, c1, rfl⟩ | ⟨c, rfl⟩ | ⟨c, rfl⟩ | ⟨c, rfl⟩ | ⟨c, rfl⟩ <;> rcases h' with ⟨d, d1, rfl⟩ | ⟨d, d1, rfl⟩ | ⟨d, rfl⟩ | ⟨d, rfl⟩ | ⟨d, rfl⟩ | ⟨d, rfl⟩ <;> first | rfl | exact h2 _ (by omega) | exact mn_congr (by omega) h2 _ | exact e3 | (exfalso; omega)
def WC (pa : Nat → Int32) (s p o wc : Int32) (wa : Nat → Int32) (E : Prop) (r wc2 : Int32) (wa2 : Nat → Int32) : Prop :=
  (¬ (((0 ≤ s.toInt ∧ s.toInt ≤ 3) ∧ (0 ≤ o.toInt ∧ o.toInt ≤ 3) ∧ ¬ s.toInt = o.toInt) ∧ 0 ≤ p.toInt ∧ p.toInt < (pa (Int32.toNatClampNeg s)).toInt) ∧ r = -1 ∧ wc2 = wc ∧ wa2 = wa) ∨
  ((((0 ≤ s.toInt ∧ s.toInt ≤ 3) ∧ (0 ≤ o.toInt ∧ o.toInt ≤ 3) ∧ ¬ s.toInt = o.toInt) ∧ 0 ≤ p.toInt ∧ p.toInt < (pa (Int32.toNatClampNeg s)).toInt) ∧
    ((E ∧ r = -5 ∧ wc2 = wc ∧ wa2 = wa) ∨ (¬ E ∧ 6 ≤ wc.toInt ∧ r = -4 ∧ wc2 = wc ∧ wa2 = wa) ∨ (¬ E ∧ wc.toInt < 6 ∧ r = wc ∧ wc2 = wc + 1 ∧ wa2 = upd wa (Int32.toNatClampNeg wc) (100 * s + 10 * p + o))))
/-- the first books -/
def INI (pa mi te kn : Nat → Int32) (n : Int) : Prop := (∀ j : Nat, j < 16 → mi j = if j % 4 = 0 ∧ ((j / 4 : Nat) : Int) < n then 1 else 0) ∧ ∀ j : Nat, (j : Int) < n → pa j = 1 ∧ te j = nI j ∧ kn j = (1 : Int32) <<< (nI j &&& 31)
theorem INI.z {pa te kn : Nat → Int32} {n : Int} (h : n = 0) : INI pa (fun _ => 0) te kn n := ⟨fun j hj => (if_neg (by omega)).symm, fun j hj => by omega⟩
theorem INI.go {pa mi te kn : Nat → Int32} {n n' : Int} {x y : Int32} (h : INI pa mi te kn n) (hx : x.toInt = n) (h0 : 0 ≤ n) (h4 : n < 4) (hy : y.toInt = 4 * n) (hn : n' = n + 1) : INI (upd pa (Int32.toNatClampNeg x) 1) (upd mi (Int32.toNatClampNeg y) 1) (upd te (Int32.toNatClampNeg x) x) (upd kn (Int32.toNatClampNeg x) ((1 : Int32) <<< (x &&& 31))) n' := by
  subst hn
  have ex : Int32.toNatClampNeg x = n.toNat := by show x.toInt.toNat = _; omega
  have ey : Int32.toNatClampNeg y = 4 * n.toNat := by show y.toInt.toNat = _; omega
  have en : x = nI n.toNat := i_eq.mpr (by rw [nI_toInt (by omega)]; omega)
  refine ⟨fun j hj => ?_, fun j hj => ?_⟩
  · rw [upd_eq, ey]
    by_cases c : j = 4 * n.toNat
    · rw [if_pos c, if_pos (by omega)]
    · rw [if_neg c, h.1 j hj]
      by_cases d : j % 4 = 0 ∧ ((j / 4 : Nat) : Int) < n
      · rw [if_pos d, if_pos (by omega)]
      · rw [if_neg d, if_neg (by omega)]
  · rw [upd_eq, upd_eq, upd_eq, ex]
    by_cases c : j = n.toNat
    · rw [if_pos c, if_pos c, if_pos c, c, ← en]; exact ⟨rfl, rfl, rfl⟩
    · rw [if_neg c, if_neg c, if_neg c]; exact h.2 j (by omega)
def DR (a wc : Int32) (wa : Nat → Int32) (r wc2 : Int32) (wa2 : Nat → Int32) : Prop := (¬ (0 ≤ a.toInt ∧ a.toInt < wc.toInt) ∧ r = -1 ∧ wc2 = wc ∧ wa2 = wa) ∨ ((0 ≤ a.toInt ∧ a.toInt < wc.toInt) ∧ r = wc - 1 ∧ wc2 = wc - 1 ∧ SHf a.toInt (wc - 1).toInt wa wa2)
/-- what a book holds by itself -/
def BKI (wa : Nat → Int32) (wc : Int32) (ne : Nat → Int32) (la : Int32) : Prop := NEI wa wc ne ∧ (0 ≤ la.toInt ∧ la.toInt ≤ 2)
theorem SE.la {a b la br r la2 br2 : Int32} (h : SE a b la br r la2 br2) (hl : 0 ≤ la.toInt ∧ la.toInt ≤ 2) : 0 ≤ la2.toInt ∧ la2.toInt ≤ 2 := by
  rcases h with ⟨x, _, e, _⟩ | ⟨x, _, e, _⟩ | ⟨x, _, e, _⟩
  · rw [e]; exact x.2
  · rw [e]; exact hl
  · rw [e]; exact hl
theorem ref_no {A : Prop} {J : Int32 → Prop} {r : Int32} (h : (¬ A ∧ r = -5) ∨ (A ∧ ∃ g : Int32, J g ∧ ((g.toInt = 1 ∧ r = 0) ∨ (g.toInt = 0 ∧ r = -3)))) (hn : ¬ r.toInt = 0) : (¬ A ∧ r = -5) ∨ (A ∧ ∃ g : Int32, J g ∧ g.toInt = 0 ∧ r = -3) := by
  rcases h with h | ⟨a, g, j, ⟨_, e⟩ | q⟩
  · exact Or.inl h
  · rw [e] at hn; exact absurd t0_ hn
  · exact Or.inr ⟨a, g, j, q⟩
theorem ref_yes {A : Prop} {J : Int32 → Prop} {r : Int32} (h : (¬ A ∧ r = -5) ∨ (A ∧ ∃ g : Int32, J g ∧ ((g.toInt = 1 ∧ r = 0) ∨ (g.toInt = 0 ∧ r = -3)))) (hn : r.toInt = 0) : A ∧ ∃ g : Int32, J g ∧ g.toInt = 1 := by
  rcases h with ⟨_, e⟩ | ⟨a, g, j, q | ⟨_, e⟩⟩
  · rw [e] at hn; exact absurd hn (by decide)
  · exact ⟨a, g, j, q.1⟩
  · rw [e] at hn; exact absurd hn (by decide)
/-- who can close what a teller leaves -/
def clF (te kn : Nat → Int32) (eo t x : Int32) : Nat → Int32
  | 0 => 0
  | n + 1 => if (¬ nI n = t ∧ x &&& (kn n ^^^ (-1)) = 0) ∧ tbF te (nI n) 4 &&& eo = 0 then clF te kn eo t x n ||| ((1 : Int32) <<< (nI n &&& 31)) else clF te kn eo t x n
theorem cl_t {te kn : Nat → Int32} {eo t x y z : Int32} (h0 : 0 ≤ y.toInt) (hy : z.toInt = y.toInt + 1) (h : (¬ y = t ∧ x &&& (kn y.toNatClampNeg ^^^ (-1)) = 0) ∧ tbF te y 4 &&& eo = 0) : clF te kn eo t x z.toInt.toNat = clF te kn eo t x y.toInt.toNat ||| ((1 : Int32) <<< (y &&& 31)) := by
  have h : (¬ y = t ∧ x &&& (kn y.toInt.toNat ^^^ (-1)) = 0) ∧ tbF te y 4 &&& eo = 0 := h
  rw [show z.toInt.toNat = y.toInt.toNat + 1 by omega, clF, ← nI_sl h0, if_pos h]
theorem cl_f {te kn : Nat → Int32} {eo t x y z : Int32} (h0 : 0 ≤ y.toInt) (hy : z.toInt = y.toInt + 1) (h : ¬ ((¬ y = t ∧ x &&& (kn y.toNatClampNeg ^^^ (-1)) = 0) ∧ tbF te y 4 &&& eo = 0)) : clF te kn eo t x z.toInt.toNat = clF te kn eo t x y.toInt.toNat := by
  have h : ¬ ((¬ y = t ∧ x &&& (kn y.toInt.toNat ^^^ (-1)) = 0) ∧ tbF te y 4 &&& eo = 0) := h
  rw [show z.toInt.toNat = y.toInt.toNat + 1 by omega, clF, ← nI_sl h0, if_neg h]
abbrev rm_X9_isStoryOf : Room := { frames := 2, cells := 0, slots := 0, locals := 42 }
set_option maxHeartbeats 4000000 in
set_option maxRecDepth 100000 in
theorem c_X9_isStoryOf (l : Launch) (D : va_G) (tys : List (ClassId × FieldType)) {cI cJ cZ cB : ClassId} (hT : Ty tys cI cJ cZ cB) (a b : Int32)  : Cn l D tys yX9_isStoryOf cX9_isStoryOf 2 (some .boolean) rm_X9_isStoryOf [] [.int a, .int b] (fun v W1 => ∃ (r : Int32), v = some (.int r) ∧ W1 = [] ∧ ((r.toInt = 0 ∨ r.toInt = 1) ∧ (r.toInt = 1 → 0 ≤ a.toInt ∧ a.toInt ≤ 3))) := by
  refine Cn.of (by decide) (Nat.le_of_ble_eq_true rfl) ?_ ?_ (fun X eL eD eT eO eK eN eM C => ?_)
  · intro _ v ws h; obtain ⟨_, rfl, rfl, h⟩ := h; exact z_of (by omega)
  · intro v ws h; obtain ⟨_, rfl, rfl, _⟩ := h; exact Or.inr rfl
  subst eL eD eT
  show V X 2 [] [(0, .int a), (1, .int b)] [] 0 0 0
  refine x_iload_n C 0 dX9_isStoryOf_0 rfl rfl ?_
  refine x_callS C [.int a] [] [] [] (c_X9_isStory (xl X) (xD X) (xt X) hT a ) dX9_isStoryOf_1 wd_219 wd_220 wd_2 wd_221 (np := 1) ⟨by decide, by decide, by decide +kernel⟩ rfl rfl (Nat.le_of_ble_eq_true rfl) (by decide) rfl (by decide) rfl (by decide) (by decide) (fun v W1 h => ?_)
  obtain ⟨r_1, rfl, rfl, h_1⟩ := h
  show V X 2 [] [(0, .int a), (1, .int b)] [.int r_1] 4 0 0
  refine x_if_eq C 19 dX9_isStoryOf_4 (by decide) (fun c_4 => ?_) (fun c_4 => ?_)
  · skip
    have e_4 : (r_1 : Int32).toInt = (0 : Int32).toInt := i_eq.mp c_4
    have : (0 : Int32).toInt = 0 := by decide
    refine x_iconst C 0 dX9_isStoryOf_19 (by decide) ?_
    have : (0 : Int32).toInt = 0 := by decide
    exact x_iret C dX9_isStoryOf_20 (Nat.zero_le _) (Nat.zero_le _) (by rw [eO]; exact ⟨0, rfl, rfl, (by omega)⟩)
  · skip
    have e_4 : ¬ ((r_1 : Int32).toInt = (0 : Int32).toInt) := fun h => c_4 (i_eq.mpr h)
    have : (0 : Int32).toInt = 0 := by decide
    refine x_iload_n C 1 dX9_isStoryOf_7 rfl rfl ?_
    refine x_iload_n C 0 dX9_isStoryOf_8 rfl rfl ?_
    refine x_ishr C dX9_isStoryOf_9 ?_
    refine x_iconst C 1 dX9_isStoryOf_10 (by decide) ?_
    refine x_iand C dX9_isStoryOf_11 ?_
    refine x_if_eq C 19 dX9_isStoryOf_12 (by decide) (fun c_12 => ?_) (fun c_12 => ?_)
    · skip
      have e_12 : ((b >>> (a &&& 31)) &&& 1 : Int32).toInt = (0 : Int32).toInt := i_eq.mp c_12
      have : (0 : Int32).toInt = 0 := by decide
      refine x_iconst C 0 dX9_isStoryOf_19 (by decide) ?_
      have : (0 : Int32).toInt = 0 := by decide
      exact x_iret C dX9_isStoryOf_20 (Nat.zero_le _) (Nat.zero_le _) (by rw [eO]; exact ⟨0, rfl, rfl, (by omega)⟩)
    · skip
      have e_12 : ¬ (((b >>> (a &&& 31)) &&& 1 : Int32).toInt = (0 : Int32).toInt) := fun h => c_12 (i_eq.mpr h)
      have : (0 : Int32).toInt = 0 := by decide
      refine x_iconst C 1 dX9_isStoryOf_15 (by decide) ?_
      refine x_goto C 20 dX9_isStoryOf_16 (by decide) ?_
      have : (1 : Int32).toInt = 1 := by decide
      exact x_iret C dX9_isStoryOf_20 (Nat.zero_le _) (Nat.zero_le _) (by rw [eO]; exact ⟨1, rfl, rfl, (by omega)⟩)
abbrev rm_X9_say : Room := { frames := 2, cells := 0, slots := 0, locals := 41 }
set_option maxHeartbeats 4000000 in
set_option maxRecDepth 100000 in
theorem c_X9_say (l : Launch) (D : va_G) (tys : List (ClassId × FieldType)) {cI cJ cZ cB : ClassId} (hT : Ty tys cI cJ cZ cB) (hx hp hb hi he hn ho hg hl hr hs : Nat) (f : Nat → Int32) (kp z : Int32) (x : Int32) (hz : 0 ≤ z.toInt ∧ z.toInt ≤ 30) : Cn l D tys yX9_say cX9_say 2 (some .int) rm_X9_say [(hx, .inr (9, [.ref hp, .ref hb, .ref hi, .int kp, .ref he, .ref hn, .ref ho, .ref hg, .ref hl, .ref hr])), (hp, .inr (6, [.ref hs, .int z])), (hs, .inl (cI, 30, .inl f))] [.ref hx, .int x] (fun v W1 => ∃ (r z2 : Int32) (f2 : Nat → Int32), v = some (.int r) ∧ W1 = [(hx, .inr (9, [.ref hp, .ref hb, .ref hi, .int kp, .ref he, .ref hn, .ref ho, .ref hg, .ref hl, .ref hr])), (hp, .inr (6, [.ref hs, .int z2])), (hs, .inl (cI, 30, .inl f2))] ∧ ((¬ (33 ≤ x.toInt ∧ x.toInt ≤ 126) ∧ r = -2 ∧ z2 = z ∧ f2 = f) ∨ ((33 ≤ x.toInt ∧ x.toInt ≤ 126) ∧ z.toInt = 30 ∧ r = -4 ∧ z2 = z ∧ f2 = f) ∨ ((33 ≤ x.toInt ∧ x.toInt ≤ 126) ∧ z.toInt < 30 ∧ r = z + 1 ∧ z2 = z + 1 ∧ f2 = upd f z.toNatClampNeg x))) := by
  refine Cn.of (by decide) (Nat.le_of_ble_eq_true rfl) ?_ ?_ (fun X eL eD eT eO eK eN eM C => ?_)
  · intro h; cases h
  · intro v ws h; obtain ⟨_, _, _, rfl, rfl, _⟩ := h; exact Or.inl rfl
  subst eL eD eT
  show V X 2 [(hx, .inr (9, [.ref hp, .ref hb, .ref hi, .int kp, .ref he, .ref hn, .ref ho, .ref hg, .ref hl, .ref hr])), (hp, .inr (6, [.ref hs, .int z])), (hs, .inl (cI, 30, .inl f))] [(0, .ref hx), (1, .int x)] [] 0 0 0
  refine x_iload_n C 1 dX9_say_0 rfl rfl ?_
  refine x_bipush C 33 dX9_say_1 (by decide) ?_
  refine x_icmp_lt C 12 dX9_say_3 (by decide) (fun c_3 => ?_) (fun c_3 => ?_)
  · skip
    have e_3 : (x : Int32).toInt < (33 : Int32).toInt := i_lt.mp c_3
    have : (33 : Int32).toInt = 33 := by decide
    refine x_bipush C (-2) dX9_say_12 (by decide) ?_
    have : ((-2) : Int32).toInt = -2 := by decide
    exact x_iret C dX9_say_14 (Nat.zero_le _) (Nat.zero_le _) (by rw [eO]; exact ⟨((-2)), z, f, rfl, rfl, (by first | exact Or.inl ⟨by omega, rfl, rfl, rfl⟩ | exact Or.inr (Or.inl ⟨by omega, by omega, rfl, rfl, rfl⟩) | exact Or.inr (Or.inr ⟨by omega, by omega, rfl, rfl, rfl⟩))⟩)
  · skip
    have e_3 : ¬ ((x : Int32).toInt < (33 : Int32).toInt) := fun h => c_3 (i_lt.mpr h)
    have : (33 : Int32).toInt = 33 := by decide
    refine x_iload_n C 1 dX9_say_6 rfl rfl ?_
    refine x_bipush C 126 dX9_say_7 (by decide) ?_
    refine x_icmp_le C 15 dX9_say_9 (by decide) (fun c_9 => ?_) (fun c_9 => ?_)
    · skip
      have e_9 : (x : Int32).toInt ≤ (126 : Int32).toInt := i_le.mp c_9
      have : (126 : Int32).toInt = 126 := by decide
      refine x_aload_n C 0 dX9_say_15 rfl rfl ?_
      refine x_get C 0 0 dX9_say_16 inlX9 rfl (by decide) wd_15 rfl rfl rfl ?_
      refine x_callV C [] [(hx, .inr (9, [.ref hp, .ref hb, .ref hi, .int kp, .ref he, .ref hn, .ref ho, .ref hg, .ref hl, .ref hr]))] [1, 2] [0] (q0 := 0) (c_X6_isFull (xl X) (xD X) (xt X) hT hp hs f z ) dX9_say_19 wd_150 wd_151 wd_152 wd_14 wd_153 (np := 0) ⟨by decide, by decide, by decide +kernel⟩ rfl rfl (Nat.le_of_ble_eq_true rfl) (by decide) rfl rfl rfl rfl (by decide) rfl (by decide) (by decide) (fun v W1 h => ?_)
      obtain ⟨r_19, rfl, rfl, h_19⟩ := h
      show V X 2 [(hx, .inr (9, [.ref hp, .ref hb, .ref hi, .int kp, .ref he, .ref hn, .ref ho, .ref hg, .ref hl, .ref hr])), (hp, .inr (6, [.ref hs, .int z])), (hs, .inl (cI, 30, .inl f))] [(0, .ref hx), (1, .int x)] [.int r_19] 22 0 0
      refine x_if_eq C 30 dX9_say_22 (by decide) (fun c_22 => ?_) (fun c_22 => ?_)
      · skip
        have e_22 : (r_19 : Int32).toInt = (0 : Int32).toInt := i_eq.mp c_22
        have : (0 : Int32).toInt = 0 := by decide
        refine x_aload_n C 0 dX9_say_30 rfl rfl ?_
        refine x_get C 0 0 dX9_say_31 inlX9 rfl (by decide) wd_15 rfl rfl rfl ?_
        refine x_iload_n C 1 dX9_say_34 rfl rfl ?_
        refine x_callV C [.int x] [(hx, .inr (9, [.ref hp, .ref hb, .ref hi, .int kp, .ref he, .ref hn, .ref ho, .ref hg, .ref hl, .ref hr]))] [1, 2] [0] (q0 := 0) (c_X6_add (xl X) (xD X) (xt X) hT hp hs f z x (by omega)) dX9_say_35 wd_155 wd_156 wd_157 wd_14 wd_158 (np := 1) ⟨by decide, by decide, by decide +kernel⟩ rfl rfl (Nat.le_of_ble_eq_true rfl) (by decide) rfl rfl rfl rfl (by decide) rfl (by decide) (by decide) (fun v W1 h => ?_)
        obtain ⟨_, rfl, rfl, h_35⟩ := h
        show V X 2 [(hx, .inr (9, [.ref hp, .ref hb, .ref hi, .int kp, .ref he, .ref hn, .ref ho, .ref hg, .ref hl, .ref hr])), (hp, .inr (6, [.ref hs, .int (z + 1)])), (hs, .inl (cI, 30, .inl (upd f (Int32.toNatClampNeg z) x)))] [(0, .ref hx), (1, .int x)] [.int (z + 1)] 38 0 0
        exact x_iret C dX9_say_38 (Nat.zero_le _) (Nat.zero_le _) (by rw [eO]; exact ⟨(z + 1), (z + 1), (upd f (Int32.toNatClampNeg z) x), rfl, rfl, (by first | exact Or.inl ⟨by omega, rfl, rfl, rfl⟩ | exact Or.inr (Or.inl ⟨by omega, by omega, rfl, rfl, rfl⟩) | exact Or.inr (Or.inr ⟨by omega, by omega, rfl, rfl, rfl⟩))⟩)
      · skip
        have e_22 : ¬ ((r_19 : Int32).toInt = (0 : Int32).toInt) := fun h => c_22 (i_eq.mpr h)
        have : (0 : Int32).toInt = 0 := by decide
        refine x_bipush C (-4) dX9_say_25 (by decide) ?_
        refine x_goto C 38 dX9_say_27 (by decide) ?_
        have : ((-4) : Int32).toInt = -4 := by decide
        exact x_iret C dX9_say_38 (Nat.zero_le _) (Nat.zero_le _) (by rw [eO]; exact ⟨((-4)), z, f, rfl, rfl, (by first | exact Or.inl ⟨by omega, rfl, rfl, rfl⟩ | exact Or.inr (Or.inl ⟨by omega, by omega, rfl, rfl, rfl⟩) | exact Or.inr (Or.inr ⟨by omega, by omega, rfl, rfl, rfl⟩))⟩)
    · skip
      have e_9 : ¬ ((x : Int32).toInt ≤ (126 : Int32).toInt) := fun h => c_9 (i_le.mpr h)
      have : (126 : Int32).toInt = 126 := by decide
      refine x_bipush C (-2) dX9_say_12 (by decide) ?_
      have : ((-2) : Int32).toInt = -2 := by decide
      exact x_iret C dX9_say_14 (Nat.zero_le _) (Nat.zero_le _) (by rw [eO]; exact ⟨((-2)), z, f, rfl, rfl, (by first | exact Or.inl ⟨by omega, rfl, rfl, rfl⟩ | exact Or.inr (Or.inl ⟨by omega, by omega, rfl, rfl, rfl⟩) | exact Or.inr (Or.inr ⟨by omega, by omega, rfl, rfl, rfl⟩))⟩)
abbrev rm_X9_wipe : Room := { frames := 1, cells := 0, slots := 0, locals := 21 }
set_option maxHeartbeats 4000000 in
set_option maxRecDepth 100000 in
theorem c_X9_wipe (l : Launch) (D : va_G) (tys : List (ClassId × FieldType)) {cI cJ cZ cB : ClassId} (hT : Ty tys cI cJ cZ cB) (hx hp hb hi he hn ho hg hl hr hs : Nat) (f : Nat → Int32) (kp z : Int32)  : Cn l D tys yX9_wipe cX9_wipe 1 (some .int) rm_X9_wipe [(hx, .inr (9, [.ref hp, .ref hb, .ref hi, .int kp, .ref he, .ref hn, .ref ho, .ref hg, .ref hl, .ref hr])), (hp, .inr (6, [.ref hs, .int z])), (hs, .inl (cI, 30, .inl f))] [.ref hx] (fun v W1 => ∃ (_ : Unit), v = some (.int z) ∧ W1 = [(hx, .inr (9, [.ref hp, .ref hb, .ref hi, .int kp, .ref he, .ref hn, .ref ho, .ref hg, .ref hl, .ref hr])), (hp, .inr (6, [.ref hs, .int 0])), (hs, .inl (cI, 30, .inl f))] ∧ (True)) := by
  refine Cn.of (by decide) (Nat.le_of_ble_eq_true rfl) ?_ ?_ (fun X eL eD eT eO eK eN eM C => ?_)
  · intro h; cases h
  · intro v ws h; obtain ⟨_, rfl, rfl, _⟩ := h; exact Or.inl rfl
  subst eL eD eT
  show V X 1 [(hx, .inr (9, [.ref hp, .ref hb, .ref hi, .int kp, .ref he, .ref hn, .ref ho, .ref hg, .ref hl, .ref hr])), (hp, .inr (6, [.ref hs, .int z])), (hs, .inl (cI, 30, .inl f))] [(0, .ref hx)] [] 0 0 0
  refine x_aload_n C 0 dX9_wipe_0 rfl rfl ?_
  refine x_get C 0 0 dX9_wipe_1 inlX9 rfl (by decide) wd_15 rfl rfl rfl ?_
  refine x_callV C [] [(hx, .inr (9, [.ref hp, .ref hb, .ref hi, .int kp, .ref he, .ref hn, .ref ho, .ref hg, .ref hl, .ref hr]))] [1, 2] [0] (q0 := 0) (c_X6_clear (xl X) (xD X) (xt X) hT hp hs f z ) dX9_wipe_4 wd_174 wd_175 wd_176 wd_14 wd_177 (np := 0) ⟨by decide, by decide, by decide +kernel⟩ rfl rfl (Nat.le_of_ble_eq_true rfl) (by decide) rfl rfl rfl rfl (by decide) rfl (by decide) (by decide) (fun v W1 h => ?_)
  obtain ⟨_, rfl, rfl, h_4⟩ := h
  show V X 1 [(hx, .inr (9, [.ref hp, .ref hb, .ref hi, .int kp, .ref he, .ref hn, .ref ho, .ref hg, .ref hl, .ref hr])), (hp, .inr (6, [.ref hs, .int 0])), (hs, .inl (cI, 30, .inl f))] [(0, .ref hx)] [.int z] 7 0 0
  exact x_iret C dX9_wipe_7 (Nat.zero_le _) (Nat.zero_le _) (by rw [eO]; exact ⟨(), rfl, rfl, trivial⟩)
abbrev rm_X9_fault : Room := { frames := 3, cells := 0, slots := 0, locals := 67 }
set_option maxHeartbeats 4000000 in
set_option maxRecDepth 100000 in
theorem c_X9_fault (l : Launch) (D : va_G) (tys : List (ClassId × FieldType)) {cI cJ cZ cB : ClassId} (hT : Ty tys cI cJ cZ cB) (hx hp hb hi he hn ho hg hl hr hs : Nat) (f : Nat → Int32) (kp z : Int32) (x : Int32) (hz : 0 ≤ z.toInt ∧ z.toInt ≤ 30) : Cn l D tys yX9_fault cX9_fault 2 (some .int) rm_X9_fault [(hx, .inr (9, [.ref hp, .ref hb, .ref hi, .int kp, .ref he, .ref hn, .ref ho, .ref hg, .ref hl, .ref hr])), (hp, .inr (6, [.ref hs, .int z])), (hs, .inl (cI, 30, .inl f))] [.ref hx, .int x] (fun v W1 => ∃ (r : Int32), v = some (.int r) ∧ W1 = [(hx, .inr (9, [.ref hp, .ref hb, .ref hi, .int kp, .ref he, .ref hn, .ref ho, .ref hg, .ref hl, .ref hr])), (hp, .inr (6, [.ref hs, .int z])), (hs, .inl (cI, 30, .inl f))] ∧ ((x.toInt = 0 → r = sfZ f z) ∧ (x.toInt = 1 → r = rfZ f 97 100 z) ∧ (x.toInt = 2 → r = rfZ f 49 57 z) ∧ (¬ (0 ≤ x.toInt ∧ x.toInt ≤ 2) → r = -2))) := by
  refine Cn.of (by decide) (Nat.le_of_ble_eq_true rfl) ?_ ?_ (fun X eL eD eT eO eK eN eM C => ?_)
  · intro h; cases h
  · intro v ws h; obtain ⟨_, rfl, rfl, _⟩ := h; exact Or.inl rfl
  subst eL eD eT
  show V X 2 [(hx, .inr (9, [.ref hp, .ref hb, .ref hi, .int kp, .ref he, .ref hn, .ref ho, .ref hg, .ref hl, .ref hr])), (hp, .inr (6, [.ref hs, .int z])), (hs, .inl (cI, 30, .inl f))] [(0, .ref hx), (1, .int x)] [] 0 0 0
  refine x_iload_n C 1 dX9_fault_0 rfl rfl ?_
  refine x_iconst C 0 dX9_fault_1 (by decide) ?_
  refine x_iconst C 2 dX9_fault_2 (by decide) ?_
  refine x_callS C [.int x, .int 0, .int 2] [(hx, .inr (9, [.ref hp, .ref hb, .ref hi, .int kp, .ref he, .ref hn, .ref ho, .ref hg, .ref hl, .ref hr])), (hp, .inr (6, [.ref hs, .int z])), (hs, .inl (cI, 30, .inl f))] [] [0, 1, 2] (c_X9_isIn (xl X) (xD X) (xt X) hT x 0 2 ) dX9_fault_3 wd_186 wd_187 wd_2 wd_188 (np := 3) ⟨by decide, by decide, by decide +kernel⟩ rfl rfl (Nat.le_of_ble_eq_true rfl) (by decide) rfl (by decide) rfl (by decide) (by decide) (fun v W1 h => ?_)
  obtain ⟨r_3, rfl, rfl, h_3⟩ := h
  have : (0 : Int32).toInt = 0 := by decide
  have : (2 : Int32).toInt = 2 := by decide
  show V X 2 [(hx, .inr (9, [.ref hp, .ref hb, .ref hi, .int kp, .ref he, .ref hn, .ref ho, .ref hg, .ref hl, .ref hr])), (hp, .inr (6, [.ref hs, .int z])), (hs, .inl (cI, 30, .inl f))] [(0, .ref hx), (1, .int x)] [.int r_3] 6 0 0
  refine x_if_eq C 20 dX9_fault_6 (by decide) (fun c_6 => ?_) (fun c_6 => ?_)
  · skip
    have e_6 : (r_3 : Int32).toInt = (0 : Int32).toInt := i_eq.mp c_6
    have : (0 : Int32).toInt = 0 := by decide
    refine x_bipush C (-2) dX9_fault_20 (by decide) ?_
    have : ((-2) : Int32).toInt = -2 := by decide
    exact x_iret C dX9_fault_22 (Nat.zero_le _) (Nat.zero_le _) (by rw [eO]; exact ⟨((-2)), rfl, rfl, (by refine ⟨fun h => ?_, fun h => ?_, fun h => ?_, fun h => ?_⟩ <;> first | (exfalso; omega) | exact h_14.1 h | exact h_14.2.1 h | exact h_14.2.2 (by omega) (by omega) | rfl)⟩)
  · skip
    have e_6 : ¬ ((r_3 : Int32).toInt = (0 : Int32).toInt) := fun h => c_6 (i_eq.mpr h)
    have : (0 : Int32).toInt = 0 := by decide
    refine x_aload_n C 0 dX9_fault_9 rfl rfl ?_
    refine x_get C 0 0 dX9_fault_10 inlX9 rfl (by decide) wd_15 rfl rfl rfl ?_
    refine x_iload_n C 1 dX9_fault_13 rfl rfl ?_
    refine x_callV C [.int x] [(hx, .inr (9, [.ref hp, .ref hb, .ref hi, .int kp, .ref he, .ref hn, .ref ho, .ref hg, .ref hl, .ref hr]))] [1, 2] [0] (q0 := 0) (c_X6_faultAs (xl X) (xD X) (xt X) hT hp hs f z x (by omega)) dX9_fault_14 wd_189 wd_190 wd_191 wd_14 wd_192 (np := 1) ⟨by decide, by decide, by decide +kernel⟩ rfl rfl (Nat.le_of_ble_eq_true rfl) (by decide) rfl rfl rfl rfl (by decide) rfl (by decide) (by decide) (fun v W1 h => ?_)
    obtain ⟨r_14, rfl, rfl, h_14⟩ := h
    show V X 2 [(hx, .inr (9, [.ref hp, .ref hb, .ref hi, .int kp, .ref he, .ref hn, .ref ho, .ref hg, .ref hl, .ref hr])), (hp, .inr (6, [.ref hs, .int z])), (hs, .inl (cI, 30, .inl f))] [(0, .ref hx), (1, .int x)] [.int r_14] 17 0 0
    refine x_goto C 22 dX9_fault_17 (by decide) ?_
    exact x_iret C dX9_fault_22 (Nat.zero_le _) (Nat.zero_le _) (by rw [eO]; exact ⟨r_14, rfl, rfl, (by refine ⟨fun h => ?_, fun h => ?_, fun h => ?_, fun h => ?_⟩ <;> first | (exfalso; omega) | exact h_14.1 h | exact h_14.2.1 h | exact h_14.2.2 (by omega) (by omega) | rfl)⟩)
abbrev rm_X9_story : Room := { frames := 4, cells := 0, slots := 0, locals := 93 }
set_option maxHeartbeats 4000000 in
set_option maxRecDepth 100000 in
theorem c_X9_story (l : Launch) (D : va_G) (tys : List (ClassId × FieldType)) {cI cJ cZ cB : ClassId} (hT : Ty tys cI cJ cZ cB) (hx hp hb hi he hn ho hg hl hr b0 b1 b2 b3 b4 b5 b6 hs hm n0 n1 n2 n3 : Nat) (pa mi ga te kn wa ne f : Nat → Int32) (kp wc la br z nr nz nt nd : Int32) (s : Int32) (hwc : 0 ≤ wc.toInt ∧ wc.toInt ≤ 6) (hw : WOk wa wc) (hz : 0 ≤ z.toInt ∧ z.toInt ≤ 30) (hpa : POk pa) : Cn l D tys yX9_story cX9_story 2 (some .int) rm_X9_story [(hx, .inr (9, [.ref hp, .ref hb, .ref hi, .int kp, .ref he, .ref hn, .ref ho, .ref hg, .ref hl, .ref hr])), (hb, .inr (0, [.ref b0, .ref b1, .ref b2, .ref b3, .ref b4, .ref b5, .ref b6, .int wc, .int la, .int br])), (b0, .inl (cI, 4, .inl pa)), (b1, .inl (cI, 16, .inl mi)), (b2, .inl (cI, 4, .inl ga)), (b3, .inl (cI, 4, .inl te)), (b4, .inl (cI, 4, .inl kn)), (b5, .inl (cI, 6, .inl wa)), (b6, .inl (cI, 16, .inl ne)), (hp, .inr (6, [.ref hs, .int z])), (hs, .inl (cI, 30, .inl f)), (hn, .inr (4, [.ref hb, .ref hm, .ref n0, .ref n1, .ref n2, .ref n3, .int nr, .int nz, .int nt, .int nd]))] [.ref hx, .int s] (fun v W1 => ∃ (r wc2 z2 nt2 : Int32) (pa2 mi2 ga2 wa2 ne2 : Nat → Int32), v = some (.int r) ∧ W1 = [(hx, .inr (9, [.ref hp, .ref hb, .ref hi, .int kp, .ref he, .ref hn, .ref ho, .ref hg, .ref hl, .ref hr])), (hb, .inr (0, [.ref b0, .ref b1, .ref b2, .ref b3, .ref b4, .ref b5, .ref b6, .int wc2, .int la, .int br])), (b0, .inl (cI, 4, .inl pa2)), (b1, .inl (cI, 16, .inl mi2)), (b2, .inl (cI, 4, .inl ga2)), (b3, .inl (cI, 4, .inl te)), (b4, .inl (cI, 4, .inl kn)), (b5, .inl (cI, 6, .inl wa2)), (b6, .inl (cI, 16, .inl ne2)), (hp, .inr (6, [.ref hs, .int z2])), (hs, .inl (cI, 30, .inl f)), (hn, .inr (4, [.ref hb, .ref hm, .ref n0, .ref n1, .ref n2, .ref n3, .int nr, .int nz, .int nt2, .int nd]))] ∧ (((((((0 ≤ wc2.toInt ∧ wc2.toInt ≤ 6) ∧ WOk wa2 wc2) ∧ POk pa2) ∧ ((¬ ((0 ≤ s.toInt ∧ s.toInt ≤ 3) ∧ sfZ f z = -6) ∧ z2 = z) ∨ (((0 ≤ s.toInt ∧ s.toInt ≤ 3) ∧ sfZ f z = -6) ∧ z2 = 0))) ∧ ((¬ (0 ≤ s.toInt ∧ s.toInt ≤ 3) → r = -1) ∧ ((0 ≤ s.toInt ∧ s.toInt ≤ 3) → ¬ sfZ f z = -6 → r = -5) ∧ ((0 ≤ s.toInt ∧ s.toInt ≤ 3) → sfZ f z = -6 → r = ctL f z.toInt.toNat)) ∧ ((¬ ((0 ≤ s.toInt ∧ s.toInt ≤ 3) ∧ sfZ f z = -6) → pa2 = pa ∧ mi2 = mi ∧ ga2 = ga ∧ wa2 = wa ∧ wc2 = wc) ∧ (((0 ≤ s.toInt ∧ s.toInt ≤ 3) ∧ sfZ f z = -6) → pa2 = upd pa (Int32.toNatClampNeg s) (ctL f z.toInt.toNat) ∧ mi2 = wrM f (4 * s.toInt).toNat mi z.toInt.toNat ∧ ga2 = upd ga (Int32.toNatClampNeg s) (wrB f z.toInt.toNat) ∧ FL (wk wa s (ctL f z.toInt.toNat)) wc wa wc2 wa2))) ∧ (BKI wa wc ne la → BKI wa2 wc2 ne2 la)) ∧ (nt2 = 0 ∨ (nt2 = nt ∧ pa2 = pa ∧ ga2 = ga ∧ ne2 = ne)))) := by
  refine Cn.of (by decide) (Nat.le_of_ble_eq_true rfl) ?_ ?_ (fun X eL eD eT eO eK eN eM C => ?_)
  · intro h; cases h
  · intro v ws h; obtain ⟨_, _, _, _, _, _, _, _, _, rfl, rfl, _⟩ := h; exact Or.inl rfl
  subst eL eD eT
  show V X 2 [(hx, .inr (9, [.ref hp, .ref hb, .ref hi, .int kp, .ref he, .ref hn, .ref ho, .ref hg, .ref hl, .ref hr])), (hb, .inr (0, [.ref b0, .ref b1, .ref b2, .ref b3, .ref b4, .ref b5, .ref b6, .int wc, .int la, .int br])), (b0, .inl (cI, 4, .inl pa)), (b1, .inl (cI, 16, .inl mi)), (b2, .inl (cI, 4, .inl ga)), (b3, .inl (cI, 4, .inl te)), (b4, .inl (cI, 4, .inl kn)), (b5, .inl (cI, 6, .inl wa)), (b6, .inl (cI, 16, .inl ne)), (hp, .inr (6, [.ref hs, .int z])), (hs, .inl (cI, 30, .inl f)), (hn, .inr (4, [.ref hb, .ref hm, .ref n0, .ref n1, .ref n2, .ref n3, .int nr, .int nz, .int nt, .int nd]))] [(0, .ref hx), (1, .int s)] [] 0 0 0
  refine x_iload_n C 1 dX9_story_0 rfl rfl ?_
  refine x_callS C [.int s] [(hx, .inr (9, [.ref hp, .ref hb, .ref hi, .int kp, .ref he, .ref hn, .ref ho, .ref hg, .ref hl, .ref hr])), (hb, .inr (0, [.ref b0, .ref b1, .ref b2, .ref b3, .ref b4, .ref b5, .ref b6, .int wc, .int la, .int br])), (b0, .inl (cI, 4, .inl pa)), (b1, .inl (cI, 16, .inl mi)), (b2, .inl (cI, 4, .inl ga)), (b3, .inl (cI, 4, .inl te)), (b4, .inl (cI, 4, .inl kn)), (b5, .inl (cI, 6, .inl wa)), (b6, .inl (cI, 16, .inl ne)), (hp, .inr (6, [.ref hs, .int z])), (hs, .inl (cI, 30, .inl f)), (hn, .inr (4, [.ref hb, .ref hm, .ref n0, .ref n1, .ref n2, .ref n3, .int nr, .int nz, .int nt, .int nd]))] [] [0, 1, 2, 3, 4, 5, 6, 7, 8, 9, 10, 11] (c_X9_isStory (xl X) (xD X) (xt X) hT s ) dX9_story_1 wd_219 wd_220 wd_2 wd_221 (np := 1) ⟨by decide, by decide, by decide +kernel⟩ rfl rfl (Nat.le_of_ble_eq_true rfl) (by decide) rfl (by decide) rfl (by decide) (by decide) (fun v W1 h => ?_)
  obtain ⟨r_1, rfl, rfl, h_1⟩ := h
  show V X 2 [(hx, .inr (9, [.ref hp, .ref hb, .ref hi, .int kp, .ref he, .ref hn, .ref ho, .ref hg, .ref hl, .ref hr])), (hb, .inr (0, [.ref b0, .ref b1, .ref b2, .ref b3, .ref b4, .ref b5, .ref b6, .int wc, .int la, .int br])), (b0, .inl (cI, 4, .inl pa)), (b1, .inl (cI, 16, .inl mi)), (b2, .inl (cI, 4, .inl ga)), (b3, .inl (cI, 4, .inl te)), (b4, .inl (cI, 4, .inl kn)), (b5, .inl (cI, 6, .inl wa)), (b6, .inl (cI, 16, .inl ne)), (hp, .inr (6, [.ref hs, .int z])), (hs, .inl (cI, 30, .inl f)), (hn, .inr (4, [.ref hb, .ref hm, .ref n0, .ref n1, .ref n2, .ref n3, .int nr, .int nz, .int nt, .int nd]))] [(0, .ref hx), (1, .int s)] [.int r_1] 4 0 0
  refine x_if_ne C 9 dX9_story_4 (by decide) (fun c_4 => ?_) (fun c_4 => ?_)
  · skip
    have e_4 : ¬ ((r_1 : Int32).toInt = (0 : Int32).toInt) := fun h => c_4 (i_eq.mpr h)
    have : (0 : Int32).toInt = 0 := by decide
    refine x_aload_n C 0 dX9_story_9 rfl rfl ?_
    refine x_get C 0 0 dX9_story_10 inlX9 rfl (by decide) wd_15 rfl rfl rfl ?_
    refine x_iconst C 0 dX9_story_13 (by decide) ?_
    have : (0 : Int32).toInt = 0 := by decide
    refine x_callV C [.int 0] [(hx, .inr (9, [.ref hp, .ref hb, .ref hi, .int kp, .ref he, .ref hn, .ref ho, .ref hg, .ref hl, .ref hr])), (hb, .inr (0, [.ref b0, .ref b1, .ref b2, .ref b3, .ref b4, .ref b5, .ref b6, .int wc, .int la, .int br])), (b0, .inl (cI, 4, .inl pa)), (b1, .inl (cI, 16, .inl mi)), (b2, .inl (cI, 4, .inl ga)), (b3, .inl (cI, 4, .inl te)), (b4, .inl (cI, 4, .inl kn)), (b5, .inl (cI, 6, .inl wa)), (b6, .inl (cI, 16, .inl ne)), (hn, .inr (4, [.ref hb, .ref hm, .ref n0, .ref n1, .ref n2, .ref n3, .int nr, .int nz, .int nt, .int nd]))] [9, 10] [0, 1, 2, 3, 4, 5, 6, 7, 8, 11] (q0 := 0) (c_X6_faultAs (xl X) (xD X) (xt X) hT hp hs f z 0 (by omega)) dX9_story_14 wd_189 wd_190 wd_191 wd_14 wd_192 (np := 1) ⟨by decide, by decide, by decide +kernel⟩ rfl rfl (Nat.le_of_ble_eq_true rfl) (by decide) rfl rfl rfl rfl (by decide) rfl (by decide) (by decide) (fun v W1 h => ?_)
    obtain ⟨r_14, rfl, rfl, h_14⟩ := h
    have : (0 : Int32).toInt = 0 := by decide
    show V X 2 [(hx, .inr (9, [.ref hp, .ref hb, .ref hi, .int kp, .ref he, .ref hn, .ref ho, .ref hg, .ref hl, .ref hr])), (hb, .inr (0, [.ref b0, .ref b1, .ref b2, .ref b3, .ref b4, .ref b5, .ref b6, .int wc, .int la, .int br])), (b0, .inl (cI, 4, .inl pa)), (b1, .inl (cI, 16, .inl mi)), (b2, .inl (cI, 4, .inl ga)), (b3, .inl (cI, 4, .inl te)), (b4, .inl (cI, 4, .inl kn)), (b5, .inl (cI, 6, .inl wa)), (b6, .inl (cI, 16, .inl ne)), (hn, .inr (4, [.ref hb, .ref hm, .ref n0, .ref n1, .ref n2, .ref n3, .int nr, .int nz, .int nt, .int nd])), (hp, .inr (6, [.ref hs, .int z])), (hs, .inl (cI, 30, .inl f))] [(0, .ref hx), (1, .int s)] [.int r_14] 17 0 0
    refine x_bipush C (-6) dX9_story_17 (by decide) ?_
    refine x_icmp_eq C 25 dX9_story_19 (by decide) (fun c_19 => ?_) (fun c_19 => ?_)
    · skip
      have e_19 : (r_14 : Int32).toInt = ((-6) : Int32).toInt := i_eq.mp c_19
      have : ((-6) : Int32).toInt = -6 := by decide
      refine x_aload_n C 0 dX9_story_25 rfl rfl ?_
      refine x_get C 0 1 dX9_story_26 inlX9 rfl (by decide) wd_19 rfl rfl rfl ?_
      refine x_iload_n C 1 dX9_story_29 rfl rfl ?_
      refine x_aload_n C 0 dX9_story_30 rfl rfl ?_
      refine x_get C 0 0 dX9_story_31 inlX9 rfl (by decide) wd_15 rfl rfl rfl ?_
      refine x_callV C [.int s, .ref hp] [(hx, .inr (9, [.ref hp, .ref hb, .ref hi, .int kp, .ref he, .ref hn, .ref ho, .ref hg, .ref hl, .ref hr])), (hn, .inr (4, [.ref hb, .ref hm, .ref n0, .ref n1, .ref n2, .ref n3, .int nr, .int nz, .int nt, .int nd]))] [1, 2, 3, 4, 5, 6, 7, 8, 10, 11] [0, 9] (q0 := 0) (c_X0_write (xl X) (xD X) (xt X) hT hb b0 b1 b2 b3 b4 b5 b6 pa mi ga te kn wa ne wc la br hp hs f z s (by omega) hw (by omega) (by omega) hpa) dX9_story_34 wd_222 wd_223 wd_224 wd_18 wd_225 (np := 2) ⟨by decide, by decide, by decide +kernel⟩ rfl rfl (Nat.le_of_ble_eq_true rfl) (by decide) rfl rfl rfl rfl (by decide) rfl (by decide) (by decide) (fun v W1 h => ?_)
      obtain ⟨pa2_34, mi2_34, ga2_34, wa2_34, ne2_34, wc2_34, rfl, rfl, h_34⟩ := h
      show V X 2 [(hx, .inr (9, [.ref hp, .ref hb, .ref hi, .int kp, .ref he, .ref hn, .ref ho, .ref hg, .ref hl, .ref hr])), (hn, .inr (4, [.ref hb, .ref hm, .ref n0, .ref n1, .ref n2, .ref n3, .int nr, .int nz, .int nt, .int nd])), (hb, .inr (0, [.ref b0, .ref b1, .ref b2, .ref b3, .ref b4, .ref b5, .ref b6, .int wc2_34, .int la, .int br])), (b0, .inl (cI, 4, .inl pa2_34)), (b1, .inl (cI, 16, .inl mi2_34)), (b2, .inl (cI, 4, .inl ga2_34)), (b3, .inl (cI, 4, .inl te)), (b4, .inl (cI, 4, .inl kn)), (b5, .inl (cI, 6, .inl wa2_34)), (b6, .inl (cI, 16, .inl ne2_34)), (hp, .inr (6, [.ref hs, .int z])), (hs, .inl (cI, 30, .inl f))] [(0, .ref hx), (1, .int s)] [] 37 0 0
      refine x_aload_n C 0 dX9_story_37 rfl rfl ?_
      refine x_get C 0 0 dX9_story_38 inlX9 rfl (by decide) wd_15 rfl rfl rfl ?_
      refine x_callV C [] [(hx, .inr (9, [.ref hp, .ref hb, .ref hi, .int kp, .ref he, .ref hn, .ref ho, .ref hg, .ref hl, .ref hr])), (hn, .inr (4, [.ref hb, .ref hm, .ref n0, .ref n1, .ref n2, .ref n3, .int nr, .int nz, .int nt, .int nd])), (hb, .inr (0, [.ref b0, .ref b1, .ref b2, .ref b3, .ref b4, .ref b5, .ref b6, .int wc2_34, .int la, .int br])), (b0, .inl (cI, 4, .inl pa2_34)), (b1, .inl (cI, 16, .inl mi2_34)), (b2, .inl (cI, 4, .inl ga2_34)), (b3, .inl (cI, 4, .inl te)), (b4, .inl (cI, 4, .inl kn)), (b5, .inl (cI, 6, .inl wa2_34)), (b6, .inl (cI, 16, .inl ne2_34))] [10, 11] [0, 1, 2, 3, 4, 5, 6, 7, 8, 9] (q0 := 0) (c_X6_clear (xl X) (xD X) (xt X) hT hp hs f z ) dX9_story_41 wd_174 wd_175 wd_176 wd_14 wd_177 (np := 0) ⟨by decide, by decide, by decide +kernel⟩ rfl rfl (Nat.le_of_ble_eq_true rfl) (by decide) rfl rfl rfl rfl (by decide) rfl (by decide) (by decide) (fun v W1 h => ?_)
      obtain ⟨_, rfl, rfl, h_41⟩ := h
      show V X 2 [(hx, .inr (9, [.ref hp, .ref hb, .ref hi, .int kp, .ref he, .ref hn, .ref ho, .ref hg, .ref hl, .ref hr])), (hn, .inr (4, [.ref hb, .ref hm, .ref n0, .ref n1, .ref n2, .ref n3, .int nr, .int nz, .int nt, .int nd])), (hb, .inr (0, [.ref b0, .ref b1, .ref b2, .ref b3, .ref b4, .ref b5, .ref b6, .int wc2_34, .int la, .int br])), (b0, .inl (cI, 4, .inl pa2_34)), (b1, .inl (cI, 16, .inl mi2_34)), (b2, .inl (cI, 4, .inl ga2_34)), (b3, .inl (cI, 4, .inl te)), (b4, .inl (cI, 4, .inl kn)), (b5, .inl (cI, 6, .inl wa2_34)), (b6, .inl (cI, 16, .inl ne2_34)), (hp, .inr (6, [.ref hs, .int 0])), (hs, .inl (cI, 30, .inl f))] [(0, .ref hx), (1, .int s)] [.int z] 44 0 0
      refine x_pop C dX9_story_44 rfl ?_
      refine x_aload_n C 0 dX9_story_45 rfl rfl ?_
      refine x_get C 0 5 dX9_story_46 inlX9 rfl (by decide) wd_29 rfl rfl rfl ?_
      refine x_callV C [] [(hx, .inr (9, [.ref hp, .ref hb, .ref hi, .int kp, .ref he, .ref hn, .ref ho, .ref hg, .ref hl, .ref hr])), (hb, .inr (0, [.ref b0, .ref b1, .ref b2, .ref b3, .ref b4, .ref b5, .ref b6, .int wc2_34, .int la, .int br])), (b0, .inl (cI, 4, .inl pa2_34)), (b1, .inl (cI, 16, .inl mi2_34)), (b2, .inl (cI, 4, .inl ga2_34)), (b3, .inl (cI, 4, .inl te)), (b4, .inl (cI, 4, .inl kn)), (b5, .inl (cI, 6, .inl wa2_34)), (b6, .inl (cI, 16, .inl ne2_34)), (hp, .inr (6, [.ref hs, .int 0])), (hs, .inl (cI, 30, .inl f))] [1] [0, 2, 3, 4, 5, 6, 7, 8, 9, 10, 11] (q0 := 0) (c_X4_forget (xl X) (xD X) (xt X) hT hn hb hm n0 n1 n2 n3 nr nz nt nd ) dX9_story_49 wd_251 wd_252 wd_253 wd_28 wd_254 (np := 0) ⟨by decide, by decide, by decide +kernel⟩ rfl rfl (Nat.le_of_ble_eq_true rfl) (by decide) rfl rfl rfl rfl (by decide) rfl (by decide) (by decide) (fun v W1 h => ?_)
      obtain ⟨_, rfl, rfl, h_49⟩ := h
      show V X 2 [(hx, .inr (9, [.ref hp, .ref hb, .ref hi, .int kp, .ref he, .ref hn, .ref ho, .ref hg, .ref hl, .ref hr])), (hb, .inr (0, [.ref b0, .ref b1, .ref b2, .ref b3, .ref b4, .ref b5, .ref b6, .int wc2_34, .int la, .int br])), (b0, .inl (cI, 4, .inl pa2_34)), (b1, .inl (cI, 16, .inl mi2_34)), (b2, .inl (cI, 4, .inl ga2_34)), (b3, .inl (cI, 4, .inl te)), (b4, .inl (cI, 4, .inl kn)), (b5, .inl (cI, 6, .inl wa2_34)), (b6, .inl (cI, 16, .inl ne2_34)), (hp, .inr (6, [.ref hs, .int 0])), (hs, .inl (cI, 30, .inl f)), (hn, .inr (4, [.ref hb, .ref hm, .ref n0, .ref n1, .ref n2, .ref n3, .int nr, .int nz, .int 0, .int nd]))] [(0, .ref hx), (1, .int s)] [] 52 0 0
      refine x_aload_n C 0 dX9_story_52 rfl rfl ?_
      refine x_get C 0 1 dX9_story_53 inlX9 rfl (by decide) wd_19 rfl rfl rfl ?_
      refine x_getN C 1 0 dX9_story_56 inlX0 rfl (by decide) nt_6 rfl rfl rfl ?_
      refine x_iload_n C 1 dX9_story_59 rfl rfl ?_
      have v_60 : vp_in s 4 := (vp_in_iff.mpr (by omega))
      refine x_iald C 2 0 dX9_story_60 hT.1 rfl v_60 ?_
      exact x_iret C dX9_story_61 (Nat.zero_le _) (Nat.zero_le _) (by rw [eO]; exact ⟨(pa2_34 (Int32.toNatClampNeg s)), wc2_34, 0, 0, pa2_34, mi2_34, ga2_34, wa2_34, ne2_34, rfl, rfl, ⟨⟨⟨⟨h_34.1.1, Or.inr ⟨⟨by omega, (h_14.1 (by omega)).symm.trans (by assumption)⟩, rfl⟩⟩, ⟨fun h => by exfalso; omega, fun h h2 => absurd ((h_14.1 (by omega)).symm.trans (by assumption)) h2, fun h h2 => by rw [h_34.1.2.1, upd_eq, if_pos rfl]⟩, ⟨fun h => absurd ⟨by omega, (h_14.1 (by omega)).symm.trans (by assumption)⟩ h, fun h => ⟨h_34.1.2.1, h_34.1.2.2⟩⟩⟩, fun h => ⟨h_34.2, h.2⟩⟩, Or.inl rfl⟩⟩)
    · skip
      have e_19 : ¬ ((r_14 : Int32).toInt = ((-6) : Int32).toInt) := fun h => c_19 (i_eq.mpr h)
      have : ((-6) : Int32).toInt = -6 := by decide
      refine x_bipush C (-5) dX9_story_22 (by decide) ?_
      refine x_sub [(hx, .inr (9, [.ref hp, .ref hb, .ref hi, .int kp, .ref he, .ref hn, .ref ho, .ref hg, .ref hl, .ref hr])), (hb, .inr (0, [.ref b0, .ref b1, .ref b2, .ref b3, .ref b4, .ref b5, .ref b6, .int wc, .int la, .int br])), (b0, .inl (cI, 4, .inl pa)), (b1, .inl (cI, 16, .inl mi)), (b2, .inl (cI, 4, .inl ga)), (b3, .inl (cI, 4, .inl te)), (b4, .inl (cI, 4, .inl kn)), (b5, .inl (cI, 6, .inl wa)), (b6, .inl (cI, 16, .inl ne)), (hp, .inr (6, [.ref hs, .int z])), (hs, .inl (cI, 30, .inl f)), (hn, .inr (4, [.ref hb, .ref hm, .ref n0, .ref n1, .ref n2, .ref n3, .int nr, .int nz, .int nt, .int nd]))] [0, 1, 2, 3, 4, 5, 6, 7, 8, 10, 11, 9] (by decide) rfl ?_
      have : ((-5) : Int32).toInt = -5 := by decide
      exact x_iret C dX9_story_24 (Nat.zero_le _) (Nat.zero_le _) (by rw [eO]; exact ⟨((-5)), wc, z, nt, pa, mi, ga, wa, ne, rfl, rfl, ⟨⟨⟨⟨⟨⟨hwc, hw⟩, hpa⟩, Or.inl ⟨by first | (intro h; omega) | (intro h; exact absurd ((h_14.1 (by omega)).trans h.2) (by assumption)), rfl⟩⟩, ⟨fun h => by exfalso; omega, fun h h2 => rfl, fun h h2 => absurd ((h_14.1 (by omega)).trans h2) (by assumption)⟩, ⟨fun h => ⟨rfl, rfl, rfl, rfl, rfl⟩, fun h => absurd ((h_14.1 (by omega)).trans h.2) (by assumption)⟩⟩, fun h => h⟩, Or.inr ⟨rfl, rfl, rfl, rfl⟩⟩⟩)
  · skip
    have e_4 : (r_1 : Int32).toInt = (0 : Int32).toInt := i_eq.mp c_4
    have : (0 : Int32).toInt = 0 := by decide
    refine x_iconst C (-1) dX9_story_7 (by decide) ?_
    have : ((-1) : Int32).toInt = -1 := by decide
    exact x_iret C dX9_story_8 (Nat.zero_le _) (Nat.zero_le _) (by rw [eO]; exact ⟨((-1)), wc, z, nt, pa, mi, ga, wa, ne, rfl, rfl, ⟨⟨⟨⟨⟨⟨hwc, hw⟩, hpa⟩, Or.inl ⟨by first | (intro h; omega) | (intro h; exact absurd ((h_14.1 (by omega)).trans h.2) (by assumption)), rfl⟩⟩, ⟨fun h => rfl, fun h => by exfalso; omega, fun h => by exfalso; omega⟩, ⟨fun h => ⟨rfl, rfl, rfl, rfl, rfl⟩, fun h => by exfalso; omega⟩⟩, fun h => h⟩, Or.inr ⟨rfl, rfl, rfl, rfl⟩⟩⟩)
abbrev rm_X9_about : Room := { frames := 3, cells := 0, slots := 0, locals := 68 }
set_option maxHeartbeats 4000000 in
set_option maxRecDepth 100000 in
theorem c_X9_about (l : Launch) (D : va_G) (tys : List (ClassId × FieldType)) {cI cJ cZ cB : ClassId} (hT : Ty tys cI cJ cZ cB) (hx hp hb hi he hn ho hg hl hr b0 b1 b2 b3 b4 b5 b6 : Nat) (pa mi ga te kn wa ne : Nat → Int32) (kp wc la br : Int32) (s x : Int32) (hpa : POk pa) : Cn l D tys yX9_about cX9_about 4 (some .int) rm_X9_about [(hx, .inr (9, [.ref hp, .ref hb, .ref hi, .int kp, .ref he, .ref hn, .ref ho, .ref hg, .ref hl, .ref hr])), (hb, .inr (0, [.ref b0, .ref b1, .ref b2, .ref b3, .ref b4, .ref b5, .ref b6, .int wc, .int la, .int br])), (b0, .inl (cI, 4, .inl pa)), (b1, .inl (cI, 16, .inl mi)), (b2, .inl (cI, 4, .inl ga)), (b3, .inl (cI, 4, .inl te)), (b4, .inl (cI, 4, .inl kn)), (b5, .inl (cI, 6, .inl wa)), (b6, .inl (cI, 16, .inl ne))] [.ref hx, .int s, .int x] (fun v W1 => ∃ (r : Int32), v = some (.int r) ∧ W1 = [(hx, .inr (9, [.ref hp, .ref hb, .ref hi, .int kp, .ref he, .ref hn, .ref ho, .ref hg, .ref hl, .ref hr])), (hb, .inr (0, [.ref b0, .ref b1, .ref b2, .ref b3, .ref b4, .ref b5, .ref b6, .int wc, .int la, .int br])), (b0, .inl (cI, 4, .inl pa)), (b1, .inl (cI, 16, .inl mi)), (b2, .inl (cI, 4, .inl ga)), (b3, .inl (cI, 4, .inl te)), (b4, .inl (cI, 4, .inl kn)), (b5, .inl (cI, 6, .inl wa)), (b6, .inl (cI, 16, .inl ne))] ∧ (AB pa mi ga s x r)) := by
  refine Cn.of (by decide) (Nat.le_of_ble_eq_true rfl) ?_ ?_ (fun X eL eD eT eO eK eN eM C => ?_)
  · intro h; cases h
  · intro v ws h; obtain ⟨_, rfl, rfl, _⟩ := h; exact Or.inl rfl
  subst eL eD eT
  show V X 4 [(hx, .inr (9, [.ref hp, .ref hb, .ref hi, .int kp, .ref he, .ref hn, .ref ho, .ref hg, .ref hl, .ref hr])), (hb, .inr (0, [.ref b0, .ref b1, .ref b2, .ref b3, .ref b4, .ref b5, .ref b6, .int wc, .int la, .int br])), (b0, .inl (cI, 4, .inl pa)), (b1, .inl (cI, 16, .inl mi)), (b2, .inl (cI, 4, .inl ga)), (b3, .inl (cI, 4, .inl te)), (b4, .inl (cI, 4, .inl kn)), (b5, .inl (cI, 6, .inl wa)), (b6, .inl (cI, 16, .inl ne))] [(0, .ref hx), (1, .int s), (2, .int x)] [] 0 0 0
  refine x_iload_n C 1 dX9_about_0 rfl rfl ?_
  refine x_callS C [.int s] [(hx, .inr (9, [.ref hp, .ref hb, .ref hi, .int kp, .ref he, .ref hn, .ref ho, .ref hg, .ref hl, .ref hr])), (hb, .inr (0, [.ref b0, .ref b1, .ref b2, .ref b3, .ref b4, .ref b5, .ref b6, .int wc, .int la, .int br])), (b0, .inl (cI, 4, .inl pa)), (b1, .inl (cI, 16, .inl mi)), (b2, .inl (cI, 4, .inl ga)), (b3, .inl (cI, 4, .inl te)), (b4, .inl (cI, 4, .inl kn)), (b5, .inl (cI, 6, .inl wa)), (b6, .inl (cI, 16, .inl ne))] [] [0, 1, 2, 3, 4, 5, 6, 7, 8] (c_X9_isStory (xl X) (xD X) (xt X) hT s ) dX9_about_1 wd_219 wd_220 wd_2 wd_221 (np := 1) ⟨by decide, by decide, by decide +kernel⟩ rfl rfl (Nat.le_of_ble_eq_true rfl) (by decide) rfl (by decide) rfl (by decide) (by decide) (fun v W1 h => ?_)
  obtain ⟨r_1, rfl, rfl, h_1⟩ := h
  show V X 4 [(hx, .inr (9, [.ref hp, .ref hb, .ref hi, .int kp, .ref he, .ref hn, .ref ho, .ref hg, .ref hl, .ref hr])), (hb, .inr (0, [.ref b0, .ref b1, .ref b2, .ref b3, .ref b4, .ref b5, .ref b6, .int wc, .int la, .int br])), (b0, .inl (cI, 4, .inl pa)), (b1, .inl (cI, 16, .inl mi)), (b2, .inl (cI, 4, .inl ga)), (b3, .inl (cI, 4, .inl te)), (b4, .inl (cI, 4, .inl kn)), (b5, .inl (cI, 6, .inl wa)), (b6, .inl (cI, 16, .inl ne))] [(0, .ref hx), (1, .int s), (2, .int x)] [.int r_1] 4 0 0
  refine x_if_ne C 9 dX9_about_4 (by decide) (fun c_4 => ?_) (fun c_4 => ?_)
  · skip
    have e_4 : ¬ ((r_1 : Int32).toInt = (0 : Int32).toInt) := fun h => c_4 (i_eq.mpr h)
    have : (0 : Int32).toInt = 0 := by decide
    refine x_iload_n C 2 dX9_about_9 rfl rfl ?_
    refine x_bipush C 10 dX9_about_10 (by decide) ?_
    refine x_bipush C 13 dX9_about_12 (by decide) ?_
    refine x_callS C [.int x, .int 10, .int 13] [(hx, .inr (9, [.ref hp, .ref hb, .ref hi, .int kp, .ref he, .ref hn, .ref ho, .ref hg, .ref hl, .ref hr])), (hb, .inr (0, [.ref b0, .ref b1, .ref b2, .ref b3, .ref b4, .ref b5, .ref b6, .int wc, .int la, .int br])), (b0, .inl (cI, 4, .inl pa)), (b1, .inl (cI, 16, .inl mi)), (b2, .inl (cI, 4, .inl ga)), (b3, .inl (cI, 4, .inl te)), (b4, .inl (cI, 4, .inl kn)), (b5, .inl (cI, 6, .inl wa)), (b6, .inl (cI, 16, .inl ne))] [] [0, 1, 2, 3, 4, 5, 6, 7, 8] (c_X9_isIn (xl X) (xD X) (xt X) hT x 10 13 ) dX9_about_14 wd_186 wd_187 wd_2 wd_188 (np := 3) ⟨by decide, by decide, by decide +kernel⟩ rfl rfl (Nat.le_of_ble_eq_true rfl) (by decide) rfl (by decide) rfl (by decide) (by decide) (fun v W1 h => ?_)
    obtain ⟨r_14, rfl, rfl, h_14⟩ := h
    have : (10 : Int32).toInt = 10 := by decide
    have : (13 : Int32).toInt = 13 := by decide
    show V X 4 [(hx, .inr (9, [.ref hp, .ref hb, .ref hi, .int kp, .ref he, .ref hn, .ref ho, .ref hg, .ref hl, .ref hr])), (hb, .inr (0, [.ref b0, .ref b1, .ref b2, .ref b3, .ref b4, .ref b5, .ref b6, .int wc, .int la, .int br])), (b0, .inl (cI, 4, .inl pa)), (b1, .inl (cI, 16, .inl mi)), (b2, .inl (cI, 4, .inl ga)), (b3, .inl (cI, 4, .inl te)), (b4, .inl (cI, 4, .inl kn)), (b5, .inl (cI, 6, .inl wa)), (b6, .inl (cI, 16, .inl ne))] [(0, .ref hx), (1, .int s), (2, .int x)] [.int r_14] 17 0 0
    refine x_if_eq C 53 dX9_about_17 (by decide) (fun c_17 => ?_) (fun c_17 => ?_)
    · skip
      have e_17 : (r_14 : Int32).toInt = (0 : Int32).toInt := i_eq.mp c_17
      have : (0 : Int32).toInt = 0 := by decide
      refine x_iload_n C 2 dX9_about_53 rfl rfl ?_
      rcases Classical.em ((x : Int32).toInt < 0 ∨ 2 < (x : Int32).toInt) with h_54 | h_54
      · refine x_tswOut C 118 dX9_about_54 h_54 (by decide) ?_
        refine x_bipush C (-2) dX9_about_118 (by decide) ?_
        have : ((-2) : Int32).toInt = -2 := by decide
        exact x_iret C dX9_about_120 (Nat.zero_le _) (Nat.zero_le _) (by rw [eO]; exact ⟨((-2)), rfl, rfl, (Or.inr ⟨by omega, Or.inr (Or.inr (Or.inr (Or.inr (Or.inr (⟨by omega, rfl⟩)))))⟩)⟩)
      · skip
        rcases Classical.em ((x : Int32).toInt = 0) with hk_54 | hk_54
        · refine x_tswIn C 80 dX9_about_54 (by omega) (by omega) (by rw [hk_54]; rfl) (by decide) ?_
          refine x_aload_n C 0 dX9_about_80 rfl rfl ?_
          refine x_get C 0 1 dX9_about_81 inlX9 rfl (by decide) wd_19 rfl rfl rfl ?_
          refine x_getN C 1 0 dX9_about_84 inlX0 rfl (by decide) nt_6 rfl rfl rfl ?_
          refine x_iload_n C 1 dX9_about_87 rfl rfl ?_
          have v_88 : vp_in s 4 := (vp_in_iff.mpr (by omega))
          refine x_iald C 2 0 dX9_about_88 hT.1 rfl v_88 ?_
          exact x_iret C dX9_about_89 (Nat.zero_le _) (Nat.zero_le _) (by rw [eO]; exact ⟨(pa (Int32.toNatClampNeg s)), rfl, rfl, (Or.inr ⟨by omega, Or.inr (Or.inr (Or.inl ⟨by omega, rfl⟩))⟩)⟩)
        · have hn_54_0 := hk_54
          rcases Classical.em ((x : Int32).toInt = 1) with hk_54 | hk_54
          · refine x_tswIn C 90 dX9_about_54 (by omega) (by omega) (by rw [hk_54]; rfl) (by decide) ?_
            refine x_aload_n C 0 dX9_about_90 rfl rfl ?_
            refine x_get C 0 1 dX9_about_91 inlX9 rfl (by decide) wd_19 rfl rfl rfl ?_
            refine x_iload_n C 1 dX9_about_94 rfl rfl ?_
            refine x_aload_n C 0 dX9_about_95 rfl rfl ?_
            refine x_get C 0 1 dX9_about_96 inlX9 rfl (by decide) wd_19 rfl rfl rfl ?_
            refine x_getN C 1 0 dX9_about_99 inlX0 rfl (by decide) nt_6 rfl rfl rfl ?_
            refine x_iload_n C 1 dX9_about_102 rfl rfl ?_
            have v_103 : vp_in s 4 := (vp_in_iff.mpr (by omega))
            refine x_iald C 2 0 dX9_about_103 hT.1 rfl v_103 ?_
            refine x_callV C [.int s, .int (pa (Int32.toNatClampNeg s))] [(hx, .inr (9, [.ref hp, .ref hb, .ref hi, .int kp, .ref he, .ref hn, .ref ho, .ref hg, .ref hl, .ref hr]))] [1, 2, 3, 4, 5, 6, 7, 8] [0] (q0 := 0) (c_X0_minutesOf (xl X) (xD X) (xt X) hT hb b0 b1 b2 b3 b4 b5 b6 pa mi ga te kn wa ne wc la br s (pa (Int32.toNatClampNeg s)) (by omega)) dX9_about_104 wd_277 wd_278 wd_279 wd_18 wd_280 (np := 2) ⟨by decide, by decide, by decide +kernel⟩ rfl rfl (Nat.le_of_ble_eq_true rfl) (by decide) rfl rfl rfl rfl (by decide) rfl (by decide) (by decide) (fun v W1 h => ?_)
            obtain ⟨r_104, rfl, rfl, h_104⟩ := h
            show V X 4 [(hx, .inr (9, [.ref hp, .ref hb, .ref hi, .int kp, .ref he, .ref hn, .ref ho, .ref hg, .ref hl, .ref hr])), (hb, .inr (0, [.ref b0, .ref b1, .ref b2, .ref b3, .ref b4, .ref b5, .ref b6, .int wc, .int la, .int br])), (b0, .inl (cI, 4, .inl pa)), (b1, .inl (cI, 16, .inl mi)), (b2, .inl (cI, 4, .inl ga)), (b3, .inl (cI, 4, .inl te)), (b4, .inl (cI, 4, .inl kn)), (b5, .inl (cI, 6, .inl wa)), (b6, .inl (cI, 16, .inl ne))] [(0, .ref hx), (1, .int s), (2, .int x)] [.int r_104] 107 0 0
            exact x_iret C dX9_about_107 (Nat.zero_le _) (Nat.zero_le _) (by rw [eO]; exact ⟨r_104, rfl, rfl, (Or.inr ⟨by omega, Or.inr (Or.inr (Or.inr (Or.inl ⟨by omega, h_104⟩)))⟩)⟩)
          · have hn_54_1 := hk_54
            rcases Classical.em ((x : Int32).toInt = 2) with hk_54 | hk_54
            · refine x_tswIn C 108 dX9_about_54 (by omega) (by omega) (by rw [hk_54]; rfl) (by decide) ?_
              refine x_aload_n C 0 dX9_about_108 rfl rfl ?_
              refine x_get C 0 1 dX9_about_109 inlX9 rfl (by decide) wd_19 rfl rfl rfl ?_
              refine x_getN C 1 2 dX9_about_112 inlX0 rfl (by decide) nt_9 rfl rfl rfl ?_
              refine x_iload_n C 1 dX9_about_115 rfl rfl ?_
              have v_116 : vp_in s 4 := (vp_in_iff.mpr (by omega))
              refine x_iald C 4 0 dX9_about_116 hT.1 rfl v_116 ?_
              exact x_iret C dX9_about_117 (Nat.zero_le _) (Nat.zero_le _) (by rw [eO]; exact ⟨(ga (Int32.toNatClampNeg s)), rfl, rfl, (Or.inr ⟨by omega, Or.inr (Or.inr (Or.inr (Or.inr (Or.inl ⟨by omega, rfl⟩))))⟩)⟩)
            · have hn_54_2 := hk_54
              exfalso; omega
    · skip
      have e_17 : ¬ ((r_14 : Int32).toInt = (0 : Int32).toInt) := fun h => c_17 (i_eq.mpr h)
      have : (0 : Int32).toInt = 0 := by decide
      have : (10 : Int32).toInt = 10 := by decide
      have x109 := i_sub (x := x) (y := 10) (by omega) (by omega)
      refine x_iload_n C 2 dX9_about_20 rfl rfl ?_
      refine x_bipush C 10 dX9_about_21 (by decide) ?_
      refine x_isub C dX9_about_23 ?_
      refine x_istore_n C [(3, .int (x - 10)), (0, .ref hx), (1, .int s), (2, .int x)] dX9_about_24 rfl (by decide) rfl ?_
      refine x_iload_n C 0 dX9_about_25 rfl rfl ?_
      refine x_aload_n C 1 dX9_about_26 rfl rfl ?_
      refine x_get C 0 1 dX9_about_27 inlX9 rfl (by decide) wd_19 rfl rfl rfl ?_
      refine x_getN C 1 0 dX9_about_30 inlX0 rfl (by decide) nt_6 rfl rfl rfl ?_
      refine x_iload_n C 2 dX9_about_33 rfl rfl ?_
      have v_34 : vp_in s 4 := (vp_in_iff.mpr (by omega))
      refine x_iald C 2 0 dX9_about_34 hT.1 rfl v_34 ?_
      have a_34 := hpa.at v_34
      refine x_icmp_ge C 50 dX9_about_35 (by decide) (fun c_35 => ?_) (fun c_35 => ?_)
      · skip
        have e_35 : (pa (Int32.toNatClampNeg s) : Int32).toInt ≤ (x - 10 : Int32).toInt := i_le.mp c_35
        refine x_bipush C (-6) dX9_about_50 (by decide) ?_
        have : ((-6) : Int32).toInt = -6 := by decide
        exact x_iret C dX9_about_52 (Nat.zero_le _) (Nat.zero_le _) (by rw [eO]; exact ⟨((-6)), rfl, rfl, (Or.inr ⟨by omega, Or.inr (Or.inl ⟨by omega, by omega, rfl⟩)⟩)⟩)
      · skip
        have e_35 : ¬ ((pa (Int32.toNatClampNeg s) : Int32).toInt ≤ (x - 10 : Int32).toInt) := fun h => c_35 (i_le.mpr h)
        refine x_aload_n C 1 dX9_about_38 rfl rfl ?_
        refine x_get C 0 1 dX9_about_39 inlX9 rfl (by decide) wd_19 rfl rfl rfl ?_
        refine x_iload_n C 2 dX9_about_42 rfl rfl ?_
        refine x_iload_n C 0 dX9_about_43 rfl rfl ?_
        refine x_callV C [.int s, .int (x - 10)] [(hx, .inr (9, [.ref hp, .ref hb, .ref hi, .int kp, .ref he, .ref hn, .ref ho, .ref hg, .ref hl, .ref hr]))] [1, 2, 3, 4, 5, 6, 7, 8] [0] (q0 := 0) (c_X0_minutesAt (xl X) (xD X) (xt X) hT hb b0 b1 b2 b3 b4 b5 b6 pa mi ga te kn wa ne wc la br s (x - 10) (by omega)) dX9_about_44 wd_273 wd_274 wd_275 wd_18 wd_276 (np := 2) ⟨by decide, by decide, by decide +kernel⟩ rfl rfl (Nat.le_of_ble_eq_true rfl) (by decide) rfl rfl rfl rfl (by decide) rfl (by decide) (by decide) (fun v W1 h => ?_)
        obtain ⟨r_44, rfl, rfl, h_44⟩ := h
        show V X 4 [(hx, .inr (9, [.ref hp, .ref hb, .ref hi, .int kp, .ref he, .ref hn, .ref ho, .ref hg, .ref hl, .ref hr])), (hb, .inr (0, [.ref b0, .ref b1, .ref b2, .ref b3, .ref b4, .ref b5, .ref b6, .int wc, .int la, .int br])), (b0, .inl (cI, 4, .inl pa)), (b1, .inl (cI, 16, .inl mi)), (b2, .inl (cI, 4, .inl ga)), (b3, .inl (cI, 4, .inl te)), (b4, .inl (cI, 4, .inl kn)), (b5, .inl (cI, 6, .inl wa)), (b6, .inl (cI, 16, .inl ne))] [(3, .int (x - 10)), (0, .ref hx), (1, .int s), (2, .int x)] [.int r_44] 47 0 0
        refine x_goto C 52 dX9_about_47 (by decide) ?_
        exact x_iret C dX9_about_52 (Nat.zero_le _) (Nat.zero_le _) (by rw [eO]; exact ⟨r_44, rfl, rfl, (Or.inr ⟨by omega, Or.inl ⟨by omega, by omega, (h_44.1 (by omega)).trans (congrArg mi (by show (s * 4 + (x - 10)).toInt.toNat = _; have := i_mulr (x := s) (y := 4) (d := 4) (by decide) (by omega) (by omega); have := i_add (x := s * 4) (y := x - 10) (by omega) (by omega); omega))⟩⟩)⟩)
  · skip
    have e_4 : (r_1 : Int32).toInt = (0 : Int32).toInt := i_eq.mp c_4
    have : (0 : Int32).toInt = 0 := by decide
    refine x_iconst C (-1) dX9_about_7 (by decide) ?_
    have : ((-1) : Int32).toInt = -1 := by decide
    exact x_iret C dX9_about_8 (Nat.zero_le _) (Nat.zero_le _) (by rw [eO]; exact ⟨((-1)), rfl, rfl, (Or.inl ⟨by omega, rfl⟩)⟩)
abbrev rm_X9_teller : Room := { frames := 2, cells := 0, slots := 0, locals := 42 }
set_option maxHeartbeats 4000000 in
set_option maxRecDepth 100000 in
theorem c_X9_teller (l : Launch) (D : va_G) (tys : List (ClassId × FieldType)) {cI cJ cZ cB : ClassId} (hT : Ty tys cI cJ cZ cB) (hx hp hb hi he hn ho hg hl hr b0 b1 b2 b3 b4 b5 b6 hm n0 n1 n2 n3 : Nat) (pa mi ga te kn wa ne : Nat → Int32) (kp wc la br nr nz nt nd : Int32) (s t : Int32) (hte : TOk te) : Cn l D tys yX9_teller cX9_teller 4 (some .int) rm_X9_teller [(hx, .inr (9, [.ref hp, .ref hb, .ref hi, .int kp, .ref he, .ref hn, .ref ho, .ref hg, .ref hl, .ref hr])), (hb, .inr (0, [.ref b0, .ref b1, .ref b2, .ref b3, .ref b4, .ref b5, .ref b6, .int wc, .int la, .int br])), (b0, .inl (cI, 4, .inl pa)), (b1, .inl (cI, 16, .inl mi)), (b2, .inl (cI, 4, .inl ga)), (b3, .inl (cI, 4, .inl te)), (b4, .inl (cI, 4, .inl kn)), (b5, .inl (cI, 6, .inl wa)), (b6, .inl (cI, 16, .inl ne)), (hn, .inr (4, [.ref hb, .ref hm, .ref n0, .ref n1, .ref n2, .ref n3, .int nr, .int nz, .int nt, .int nd]))] [.ref hx, .int s, .int t] (fun v W1 => ∃ (r nt2 : Int32) (te2 : Nat → Int32), v = some (.int r) ∧ W1 = [(hx, .inr (9, [.ref hp, .ref hb, .ref hi, .int kp, .ref he, .ref hn, .ref ho, .ref hg, .ref hl, .ref hr])), (hb, .inr (0, [.ref b0, .ref b1, .ref b2, .ref b3, .ref b4, .ref b5, .ref b6, .int wc, .int la, .int br])), (b0, .inl (cI, 4, .inl pa)), (b1, .inl (cI, 16, .inl mi)), (b2, .inl (cI, 4, .inl ga)), (b3, .inl (cI, 4, .inl te2)), (b4, .inl (cI, 4, .inl kn)), (b5, .inl (cI, 6, .inl wa)), (b6, .inl (cI, 16, .inl ne)), (hn, .inr (4, [.ref hb, .ref hm, .ref n0, .ref n1, .ref n2, .ref n3, .int nr, .int nz, .int nt2, .int nd]))] ∧ ((TE s t te r te2) ∧ (nt2 = 0 ∨ (nt2 = nt ∧ te2 = te)))) := by
  refine Cn.of (by decide) (Nat.le_of_ble_eq_true rfl) ?_ ?_ (fun X eL eD eT eO eK eN eM C => ?_)
  · intro h; cases h
  · intro v ws h; obtain ⟨_, _, _, rfl, rfl, _⟩ := h; exact Or.inl rfl
  subst eL eD eT
  show V X 4 [(hx, .inr (9, [.ref hp, .ref hb, .ref hi, .int kp, .ref he, .ref hn, .ref ho, .ref hg, .ref hl, .ref hr])), (hb, .inr (0, [.ref b0, .ref b1, .ref b2, .ref b3, .ref b4, .ref b5, .ref b6, .int wc, .int la, .int br])), (b0, .inl (cI, 4, .inl pa)), (b1, .inl (cI, 16, .inl mi)), (b2, .inl (cI, 4, .inl ga)), (b3, .inl (cI, 4, .inl te)), (b4, .inl (cI, 4, .inl kn)), (b5, .inl (cI, 6, .inl wa)), (b6, .inl (cI, 16, .inl ne)), (hn, .inr (4, [.ref hb, .ref hm, .ref n0, .ref n1, .ref n2, .ref n3, .int nr, .int nz, .int nt, .int nd]))] [(0, .ref hx), (1, .int s), (2, .int t)] [] 0 0 0
  refine x_iload_n C 1 dX9_teller_0 rfl rfl ?_
  refine x_callS C [.int s] [(hx, .inr (9, [.ref hp, .ref hb, .ref hi, .int kp, .ref he, .ref hn, .ref ho, .ref hg, .ref hl, .ref hr])), (hb, .inr (0, [.ref b0, .ref b1, .ref b2, .ref b3, .ref b4, .ref b5, .ref b6, .int wc, .int la, .int br])), (b0, .inl (cI, 4, .inl pa)), (b1, .inl (cI, 16, .inl mi)), (b2, .inl (cI, 4, .inl ga)), (b3, .inl (cI, 4, .inl te)), (b4, .inl (cI, 4, .inl kn)), (b5, .inl (cI, 6, .inl wa)), (b6, .inl (cI, 16, .inl ne)), (hn, .inr (4, [.ref hb, .ref hm, .ref n0, .ref n1, .ref n2, .ref n3, .int nr, .int nz, .int nt, .int nd]))] [] [0, 1, 2, 3, 4, 5, 6, 7, 8, 9] (c_X9_isStory (xl X) (xD X) (xt X) hT s ) dX9_teller_1 wd_219 wd_220 wd_2 wd_221 (np := 1) ⟨by decide, by decide, by decide +kernel⟩ rfl rfl (Nat.le_of_ble_eq_true rfl) (by decide) rfl (by decide) rfl (by decide) (by decide) (fun v W1 h => ?_)
  obtain ⟨r_1, rfl, rfl, h_1⟩ := h
  show V X 4 [(hx, .inr (9, [.ref hp, .ref hb, .ref hi, .int kp, .ref he, .ref hn, .ref ho, .ref hg, .ref hl, .ref hr])), (hb, .inr (0, [.ref b0, .ref b1, .ref b2, .ref b3, .ref b4, .ref b5, .ref b6, .int wc, .int la, .int br])), (b0, .inl (cI, 4, .inl pa)), (b1, .inl (cI, 16, .inl mi)), (b2, .inl (cI, 4, .inl ga)), (b3, .inl (cI, 4, .inl te)), (b4, .inl (cI, 4, .inl kn)), (b5, .inl (cI, 6, .inl wa)), (b6, .inl (cI, 16, .inl ne)), (hn, .inr (4, [.ref hb, .ref hm, .ref n0, .ref n1, .ref n2, .ref n3, .int nr, .int nz, .int nt, .int nd]))] [(0, .ref hx), (1, .int s), (2, .int t)] [.int r_1] 4 0 0
  refine x_if_eq C 14 dX9_teller_4 (by decide) (fun c_4 => ?_) (fun c_4 => ?_)
  · skip
    have e_4 : (r_1 : Int32).toInt = (0 : Int32).toInt := i_eq.mp c_4
    have : (0 : Int32).toInt = 0 := by decide
    refine x_iconst C (-1) dX9_teller_14 (by decide) ?_
    have : ((-1) : Int32).toInt = -1 := by decide
    exact x_iret C dX9_teller_15 (Nat.zero_le _) (Nat.zero_le _) (by rw [eO]; exact ⟨((-1)), nt, te, rfl, rfl, ⟨(Or.inr ⟨by omega, rfl, rfl⟩), Or.inr ⟨rfl, rfl⟩⟩⟩)
  · skip
    have e_4 : ¬ ((r_1 : Int32).toInt = (0 : Int32).toInt) := fun h => c_4 (i_eq.mpr h)
    have : (0 : Int32).toInt = 0 := by decide
    refine x_iload_n C 2 dX9_teller_7 rfl rfl ?_
    refine x_callS C [.int t] [(hx, .inr (9, [.ref hp, .ref hb, .ref hi, .int kp, .ref he, .ref hn, .ref ho, .ref hg, .ref hl, .ref hr])), (hb, .inr (0, [.ref b0, .ref b1, .ref b2, .ref b3, .ref b4, .ref b5, .ref b6, .int wc, .int la, .int br])), (b0, .inl (cI, 4, .inl pa)), (b1, .inl (cI, 16, .inl mi)), (b2, .inl (cI, 4, .inl ga)), (b3, .inl (cI, 4, .inl te)), (b4, .inl (cI, 4, .inl kn)), (b5, .inl (cI, 6, .inl wa)), (b6, .inl (cI, 16, .inl ne)), (hn, .inr (4, [.ref hb, .ref hm, .ref n0, .ref n1, .ref n2, .ref n3, .int nr, .int nz, .int nt, .int nd]))] [] [0, 1, 2, 3, 4, 5, 6, 7, 8, 9] (c_X9_isTeller (xl X) (xD X) (xt X) hT t ) dX9_teller_8 wd_296 wd_297 wd_2 wd_298 (np := 1) ⟨by decide, by decide, by decide +kernel⟩ rfl rfl (Nat.le_of_ble_eq_true rfl) (by decide) rfl (by decide) rfl (by decide) (by decide) (fun v W1 h => ?_)
    obtain ⟨r_8, rfl, rfl, h_8⟩ := h
    show V X 4 [(hx, .inr (9, [.ref hp, .ref hb, .ref hi, .int kp, .ref he, .ref hn, .ref ho, .ref hg, .ref hl, .ref hr])), (hb, .inr (0, [.ref b0, .ref b1, .ref b2, .ref b3, .ref b4, .ref b5, .ref b6, .int wc, .int la, .int br])), (b0, .inl (cI, 4, .inl pa)), (b1, .inl (cI, 16, .inl mi)), (b2, .inl (cI, 4, .inl ga)), (b3, .inl (cI, 4, .inl te)), (b4, .inl (cI, 4, .inl kn)), (b5, .inl (cI, 6, .inl wa)), (b6, .inl (cI, 16, .inl ne)), (hn, .inr (4, [.ref hb, .ref hm, .ref n0, .ref n1, .ref n2, .ref n3, .int nr, .int nz, .int nt, .int nd]))] [(0, .ref hx), (1, .int s), (2, .int t)] [.int r_8] 11 0 0
    refine x_if_ne C 16 dX9_teller_11 (by decide) (fun c_11 => ?_) (fun c_11 => ?_)
    · skip
      have e_11 : ¬ ((r_8 : Int32).toInt = (0 : Int32).toInt) := fun h => c_11 (i_eq.mpr h)
      have : (0 : Int32).toInt = 0 := by decide
      refine x_aload_n C 0 dX9_teller_16 rfl rfl ?_
      refine x_get C 0 1 dX9_teller_17 inlX9 rfl (by decide) wd_19 rfl rfl rfl ?_
      refine x_getN C 1 3 dX9_teller_20 inlX0 rfl (by decide) nt_13 rfl rfl rfl ?_
      refine x_iload_n C 1 dX9_teller_23 rfl rfl ?_
      have v_24 : vp_in s 4 := (vp_in_iff.mpr (by omega))
      refine x_iald C 5 0 dX9_teller_24 hT.1 rfl v_24 ?_
      refine x_istore_n C [(3, .int (te (Int32.toNatClampNeg s))), (0, .ref hx), (1, .int s), (2, .int t)] dX9_teller_25 rfl (by decide) rfl ?_
      refine x_aload_n C 1 dX9_teller_26 rfl rfl ?_
      refine x_get C 0 1 dX9_teller_27 inlX9 rfl (by decide) wd_19 rfl rfl rfl ?_
      refine x_getN C 1 3 dX9_teller_30 inlX0 rfl (by decide) nt_13 rfl rfl rfl ?_
      refine x_iload_n C 2 dX9_teller_33 rfl rfl ?_
      refine x_iload_n C 3 dX9_teller_34 rfl rfl ?_
      have v_35 : vp_in s 4 := (vp_in_iff.mpr (by omega))
      refine x_iast C 5 0 [(hx, .inr (9, [.ref hp, .ref hb, .ref hi, .int kp, .ref he, .ref hn, .ref ho, .ref hg, .ref hl, .ref hr])), (hb, .inr (0, [.ref b0, .ref b1, .ref b2, .ref b3, .ref b4, .ref b5, .ref b6, .int wc, .int la, .int br])), (b0, .inl (cI, 4, .inl pa)), (b1, .inl (cI, 16, .inl mi)), (b2, .inl (cI, 4, .inl ga)), (b3, .inl (cI, 4, .inl (upd te (Int32.toNatClampNeg s) t))), (b4, .inl (cI, 4, .inl kn)), (b5, .inl (cI, 6, .inl wa)), (b6, .inl (cI, 16, .inl ne)), (hn, .inr (4, [.ref hb, .ref hm, .ref n0, .ref n1, .ref n2, .ref n3, .int nr, .int nz, .int nt, .int nd]))] dX9_teller_35 hT.1 rfl v_35 rfl ?_
      refine x_aload_n C 1 dX9_teller_36 rfl rfl ?_
      refine x_get C 0 5 dX9_teller_37 inlX9 rfl (by decide) wd_29 rfl rfl rfl ?_
      refine x_callV C [] [(hx, .inr (9, [.ref hp, .ref hb, .ref hi, .int kp, .ref he, .ref hn, .ref ho, .ref hg, .ref hl, .ref hr])), (hb, .inr (0, [.ref b0, .ref b1, .ref b2, .ref b3, .ref b4, .ref b5, .ref b6, .int wc, .int la, .int br])), (b0, .inl (cI, 4, .inl pa)), (b1, .inl (cI, 16, .inl mi)), (b2, .inl (cI, 4, .inl ga)), (b3, .inl (cI, 4, .inl (upd te (Int32.toNatClampNeg s) t))), (b4, .inl (cI, 4, .inl kn)), (b5, .inl (cI, 6, .inl wa)), (b6, .inl (cI, 16, .inl ne))] [9] [0, 1, 2, 3, 4, 5, 6, 7, 8] (q0 := 0) (c_X4_forget (xl X) (xD X) (xt X) hT hn hb hm n0 n1 n2 n3 nr nz nt nd ) dX9_teller_40 wd_251 wd_252 wd_253 wd_28 wd_254 (np := 0) ⟨by decide, by decide, by decide +kernel⟩ rfl rfl (Nat.le_of_ble_eq_true rfl) (by decide) rfl rfl rfl rfl (by decide) rfl (by decide) (by decide) (fun v W1 h => ?_)
      obtain ⟨_, rfl, rfl, h_40⟩ := h
      show V X 4 [(hx, .inr (9, [.ref hp, .ref hb, .ref hi, .int kp, .ref he, .ref hn, .ref ho, .ref hg, .ref hl, .ref hr])), (hb, .inr (0, [.ref b0, .ref b1, .ref b2, .ref b3, .ref b4, .ref b5, .ref b6, .int wc, .int la, .int br])), (b0, .inl (cI, 4, .inl pa)), (b1, .inl (cI, 16, .inl mi)), (b2, .inl (cI, 4, .inl ga)), (b3, .inl (cI, 4, .inl (upd te (Int32.toNatClampNeg s) t))), (b4, .inl (cI, 4, .inl kn)), (b5, .inl (cI, 6, .inl wa)), (b6, .inl (cI, 16, .inl ne)), (hn, .inr (4, [.ref hb, .ref hm, .ref n0, .ref n1, .ref n2, .ref n3, .int nr, .int nz, .int 0, .int nd]))] [(3, .int (te (Int32.toNatClampNeg s))), (0, .ref hx), (1, .int s), (2, .int t)] [] 43 0 0
      refine x_iload_n C 0 dX9_teller_43 rfl rfl ?_
      exact x_iret C dX9_teller_44 (Nat.zero_le _) (Nat.zero_le _) (by rw [eO]; exact ⟨(te (Int32.toNatClampNeg s)), 0, (upd te (Int32.toNatClampNeg s) t), rfl, rfl, ⟨(Or.inl ⟨by omega, rfl, rfl⟩), Or.inl rfl⟩⟩)
    · skip
      have e_11 : (r_8 : Int32).toInt = (0 : Int32).toInt := i_eq.mp c_11
      have : (0 : Int32).toInt = 0 := by decide
      refine x_iconst C (-1) dX9_teller_14 (by decide) ?_
      have : ((-1) : Int32).toInt = -1 := by decide
      exact x_iret C dX9_teller_15 (Nat.zero_le _) (Nat.zero_le _) (by rw [eO]; exact ⟨((-1)), nt, te, rfl, rfl, ⟨(Or.inr ⟨by omega, rfl, rfl⟩), Or.inr ⟨rfl, rfl⟩⟩⟩)
abbrev rm_X9_knows : Room := { frames := 2, cells := 0, slots := 0, locals := 42 }
set_option maxHeartbeats 4000000 in
set_option maxRecDepth 100000 in
theorem c_X9_knows (l : Launch) (D : va_G) (tys : List (ClassId × FieldType)) {cI cJ cZ cB : ClassId} (hT : Ty tys cI cJ cZ cB) (hx hp hb hi he hn ho hg hl hr b0 b1 b2 b3 b4 b5 b6 : Nat) (pa mi ga te kn wa ne : Nat → Int32) (kp wc la br : Int32) (s t : Int32)  : Cn l D tys yX9_knows cX9_knows 4 (some .int) rm_X9_knows [(hx, .inr (9, [.ref hp, .ref hb, .ref hi, .int kp, .ref he, .ref hn, .ref ho, .ref hg, .ref hl, .ref hr])), (hb, .inr (0, [.ref b0, .ref b1, .ref b2, .ref b3, .ref b4, .ref b5, .ref b6, .int wc, .int la, .int br])), (b0, .inl (cI, 4, .inl pa)), (b1, .inl (cI, 16, .inl mi)), (b2, .inl (cI, 4, .inl ga)), (b3, .inl (cI, 4, .inl te)), (b4, .inl (cI, 4, .inl kn)), (b5, .inl (cI, 6, .inl wa)), (b6, .inl (cI, 16, .inl ne))] [.ref hx, .int s, .int t] (fun v W1 => ∃ (r : Int32) (kn2 : Nat → Int32), v = some (.int r) ∧ W1 = [(hx, .inr (9, [.ref hp, .ref hb, .ref hi, .int kp, .ref he, .ref hn, .ref ho, .ref hg, .ref hl, .ref hr])), (hb, .inr (0, [.ref b0, .ref b1, .ref b2, .ref b3, .ref b4, .ref b5, .ref b6, .int wc, .int la, .int br])), (b0, .inl (cI, 4, .inl pa)), (b1, .inl (cI, 16, .inl mi)), (b2, .inl (cI, 4, .inl ga)), (b3, .inl (cI, 4, .inl te)), (b4, .inl (cI, 4, .inl kn2)), (b5, .inl (cI, 6, .inl wa)), (b6, .inl (cI, 16, .inl ne))] ∧ (KN s t kn r kn2)) := by
  refine Cn.of (by decide) (Nat.le_of_ble_eq_true rfl) ?_ ?_ (fun X eL eD eT eO eK eN eM C => ?_)
  · intro h; cases h
  · intro v ws h; obtain ⟨_, _, rfl, rfl, _⟩ := h; exact Or.inl rfl
  subst eL eD eT
  show V X 4 [(hx, .inr (9, [.ref hp, .ref hb, .ref hi, .int kp, .ref he, .ref hn, .ref ho, .ref hg, .ref hl, .ref hr])), (hb, .inr (0, [.ref b0, .ref b1, .ref b2, .ref b3, .ref b4, .ref b5, .ref b6, .int wc, .int la, .int br])), (b0, .inl (cI, 4, .inl pa)), (b1, .inl (cI, 16, .inl mi)), (b2, .inl (cI, 4, .inl ga)), (b3, .inl (cI, 4, .inl te)), (b4, .inl (cI, 4, .inl kn)), (b5, .inl (cI, 6, .inl wa)), (b6, .inl (cI, 16, .inl ne))] [(0, .ref hx), (1, .int s), (2, .int t)] [] 0 0 0
  refine x_iload_n C 1 dX9_knows_0 rfl rfl ?_
  refine x_callS C [.int s] [(hx, .inr (9, [.ref hp, .ref hb, .ref hi, .int kp, .ref he, .ref hn, .ref ho, .ref hg, .ref hl, .ref hr])), (hb, .inr (0, [.ref b0, .ref b1, .ref b2, .ref b3, .ref b4, .ref b5, .ref b6, .int wc, .int la, .int br])), (b0, .inl (cI, 4, .inl pa)), (b1, .inl (cI, 16, .inl mi)), (b2, .inl (cI, 4, .inl ga)), (b3, .inl (cI, 4, .inl te)), (b4, .inl (cI, 4, .inl kn)), (b5, .inl (cI, 6, .inl wa)), (b6, .inl (cI, 16, .inl ne))] [] [0, 1, 2, 3, 4, 5, 6, 7, 8] (c_X9_isTeller (xl X) (xD X) (xt X) hT s ) dX9_knows_1 wd_296 wd_297 wd_2 wd_298 (np := 1) ⟨by decide, by decide, by decide +kernel⟩ rfl rfl (Nat.le_of_ble_eq_true rfl) (by decide) rfl (by decide) rfl (by decide) (by decide) (fun v W1 h => ?_)
  obtain ⟨r_1, rfl, rfl, h_1⟩ := h
  show V X 4 [(hx, .inr (9, [.ref hp, .ref hb, .ref hi, .int kp, .ref he, .ref hn, .ref ho, .ref hg, .ref hl, .ref hr])), (hb, .inr (0, [.ref b0, .ref b1, .ref b2, .ref b3, .ref b4, .ref b5, .ref b6, .int wc, .int la, .int br])), (b0, .inl (cI, 4, .inl pa)), (b1, .inl (cI, 16, .inl mi)), (b2, .inl (cI, 4, .inl ga)), (b3, .inl (cI, 4, .inl te)), (b4, .inl (cI, 4, .inl kn)), (b5, .inl (cI, 6, .inl wa)), (b6, .inl (cI, 16, .inl ne))] [(0, .ref hx), (1, .int s), (2, .int t)] [.int r_1] 4 0 0
  refine x_if_ne C 9 dX9_knows_4 (by decide) (fun c_4 => ?_) (fun c_4 => ?_)
  · skip
    have e_4 : ¬ ((r_1 : Int32).toInt = (0 : Int32).toInt) := fun h => c_4 (i_eq.mpr h)
    have : (0 : Int32).toInt = 0 := by decide
    refine x_iload_n C 2 dX9_knows_9 rfl rfl ?_
    refine x_iconst C 0 dX9_knows_10 (by decide) ?_
    refine x_bipush C 15 dX9_knows_11 (by decide) ?_
    refine x_callS C [.int t, .int 0, .int 15] [(hx, .inr (9, [.ref hp, .ref hb, .ref hi, .int kp, .ref he, .ref hn, .ref ho, .ref hg, .ref hl, .ref hr])), (hb, .inr (0, [.ref b0, .ref b1, .ref b2, .ref b3, .ref b4, .ref b5, .ref b6, .int wc, .int la, .int br])), (b0, .inl (cI, 4, .inl pa)), (b1, .inl (cI, 16, .inl mi)), (b2, .inl (cI, 4, .inl ga)), (b3, .inl (cI, 4, .inl te)), (b4, .inl (cI, 4, .inl kn)), (b5, .inl (cI, 6, .inl wa)), (b6, .inl (cI, 16, .inl ne))] [] [0, 1, 2, 3, 4, 5, 6, 7, 8] (c_X9_isIn (xl X) (xD X) (xt X) hT t 0 15 ) dX9_knows_13 wd_186 wd_187 wd_2 wd_188 (np := 3) ⟨by decide, by decide, by decide +kernel⟩ rfl rfl (Nat.le_of_ble_eq_true rfl) (by decide) rfl (by decide) rfl (by decide) (by decide) (fun v W1 h => ?_)
    obtain ⟨r_13, rfl, rfl, h_13⟩ := h
    have : (0 : Int32).toInt = 0 := by decide
    have : (15 : Int32).toInt = 15 := by decide
    show V X 4 [(hx, .inr (9, [.ref hp, .ref hb, .ref hi, .int kp, .ref he, .ref hn, .ref ho, .ref hg, .ref hl, .ref hr])), (hb, .inr (0, [.ref b0, .ref b1, .ref b2, .ref b3, .ref b4, .ref b5, .ref b6, .int wc, .int la, .int br])), (b0, .inl (cI, 4, .inl pa)), (b1, .inl (cI, 16, .inl mi)), (b2, .inl (cI, 4, .inl ga)), (b3, .inl (cI, 4, .inl te)), (b4, .inl (cI, 4, .inl kn)), (b5, .inl (cI, 6, .inl wa)), (b6, .inl (cI, 16, .inl ne))] [(0, .ref hx), (1, .int s), (2, .int t)] [.int r_13] 16 0 0
    refine x_if_ne C 22 dX9_knows_16 (by decide) (fun c_16 => ?_) (fun c_16 => ?_)
    · skip
      have e_16 : ¬ ((r_13 : Int32).toInt = (0 : Int32).toInt) := fun h => c_16 (i_eq.mpr h)
      have : (0 : Int32).toInt = 0 := by decide
      refine x_aload_n C 0 dX9_knows_22 rfl rfl ?_
      refine x_get C 0 1 dX9_knows_23 inlX9 rfl (by decide) wd_19 rfl rfl rfl ?_
      refine x_getN C 1 4 dX9_knows_26 inlX0 rfl (by decide) nt_14 rfl rfl rfl ?_
      refine x_iload_n C 1 dX9_knows_29 rfl rfl ?_
      have v_30 : vp_in s 4 := (vp_in_iff.mpr (by omega))
      refine x_iald C 6 0 dX9_knows_30 hT.1 rfl v_30 ?_
      refine x_istore_n C [(3, .int (kn (Int32.toNatClampNeg s))), (0, .ref hx), (1, .int s), (2, .int t)] dX9_knows_31 rfl (by decide) rfl ?_
      refine x_aload_n C 1 dX9_knows_32 rfl rfl ?_
      refine x_get C 0 1 dX9_knows_33 inlX9 rfl (by decide) wd_19 rfl rfl rfl ?_
      refine x_getN C 1 4 dX9_knows_36 inlX0 rfl (by decide) nt_14 rfl rfl rfl ?_
      refine x_iload_n C 2 dX9_knows_39 rfl rfl ?_
      refine x_iload_n C 3 dX9_knows_40 rfl rfl ?_
      have v_41 : vp_in s 4 := (vp_in_iff.mpr (by omega))
      refine x_iast C 6 0 [(hx, .inr (9, [.ref hp, .ref hb, .ref hi, .int kp, .ref he, .ref hn, .ref ho, .ref hg, .ref hl, .ref hr])), (hb, .inr (0, [.ref b0, .ref b1, .ref b2, .ref b3, .ref b4, .ref b5, .ref b6, .int wc, .int la, .int br])), (b0, .inl (cI, 4, .inl pa)), (b1, .inl (cI, 16, .inl mi)), (b2, .inl (cI, 4, .inl ga)), (b3, .inl (cI, 4, .inl te)), (b4, .inl (cI, 4, .inl (upd kn (Int32.toNatClampNeg s) t))), (b5, .inl (cI, 6, .inl wa)), (b6, .inl (cI, 16, .inl ne))] dX9_knows_41 hT.1 rfl v_41 rfl ?_
      refine x_iload_n C 0 dX9_knows_42 rfl rfl ?_
      exact x_iret C dX9_knows_43 (Nat.zero_le _) (Nat.zero_le _) (by rw [eO]; exact ⟨(kn (Int32.toNatClampNeg s)), (upd kn (Int32.toNatClampNeg s) t), rfl, rfl, (Or.inl ⟨by omega, by omega, rfl, rfl⟩)⟩)
    · skip
      have e_16 : (r_13 : Int32).toInt = (0 : Int32).toInt := i_eq.mp c_16
      have : (0 : Int32).toInt = 0 := by decide
      refine x_bipush C (-2) dX9_knows_19 (by decide) ?_
      have : ((-2) : Int32).toInt = -2 := by decide
      exact x_iret C dX9_knows_21 (Nat.zero_le _) (Nat.zero_le _) (by rw [eO]; exact ⟨((-2)), kn, rfl, rfl, (Or.inr (Or.inl ⟨by omega, by omega, rfl, rfl⟩))⟩)
  · skip
    have e_4 : (r_1 : Int32).toInt = (0 : Int32).toInt := i_eq.mp c_4
    have : (0 : Int32).toInt = 0 := by decide
    refine x_iconst C (-1) dX9_knows_7 (by decide) ?_
    have : ((-1) : Int32).toInt = -1 := by decide
    exact x_iret C dX9_knows_8 (Nat.zero_le _) (Nat.zero_le _) (by rw [eO]; exact ⟨((-1)), kn, rfl, rfl, (Or.inr (Or.inr ⟨by omega, rfl, rfl⟩))⟩)
abbrev rm_X9_wait : Room := { frames := 3, cells := 0, slots := 0, locals := 66 }
set_option maxHeartbeats 4000000 in
set_option maxRecDepth 100000 in
theorem c_X9_wait (l : Launch) (D : va_G) (tys : List (ClassId × FieldType)) {cI cJ cZ cB : ClassId} (hT : Ty tys cI cJ cZ cB) (hx hp hb hi he hn ho hg hl hr b0 b1 b2 b3 b4 b5 b6 hm n0 n1 n2 n3 : Nat) (pa mi ga te kn wa ne : Nat → Int32) (kp wc la br nr nz nt nd : Int32) (s p o : Int32) (hwc : 0 ≤ wc.toInt ∧ wc.toInt ≤ 6) (hw : WOk wa wc) (hpa : POk pa) : Cn l D tys yX9_wait cX9_wait 4 (some .int) rm_X9_wait [(hx, .inr (9, [.ref hp, .ref hb, .ref hi, .int kp, .ref he, .ref hn, .ref ho, .ref hg, .ref hl, .ref hr])), (hb, .inr (0, [.ref b0, .ref b1, .ref b2, .ref b3, .ref b4, .ref b5, .ref b6, .int wc, .int la, .int br])), (b0, .inl (cI, 4, .inl pa)), (b1, .inl (cI, 16, .inl mi)), (b2, .inl (cI, 4, .inl ga)), (b3, .inl (cI, 4, .inl te)), (b4, .inl (cI, 4, .inl kn)), (b5, .inl (cI, 6, .inl wa)), (b6, .inl (cI, 16, .inl ne)), (hn, .inr (4, [.ref hb, .ref hm, .ref n0, .ref n1, .ref n2, .ref n3, .int nr, .int nz, .int nt, .int nd]))] [.ref hx, .int s, .int p, .int o] (fun v W1 => ∃ (r wc2 nt2 : Int32) (wa2 ne2 : Nat → Int32), v = some (.int r) ∧ W1 = [(hx, .inr (9, [.ref hp, .ref hb, .ref hi, .int kp, .ref he, .ref hn, .ref ho, .ref hg, .ref hl, .ref hr])), (hb, .inr (0, [.ref b0, .ref b1, .ref b2, .ref b3, .ref b4, .ref b5, .ref b6, .int wc2, .int la, .int br])), (b0, .inl (cI, 4, .inl pa)), (b1, .inl (cI, 16, .inl mi)), (b2, .inl (cI, 4, .inl ga)), (b3, .inl (cI, 4, .inl te)), (b4, .inl (cI, 4, .inl kn)), (b5, .inl (cI, 6, .inl wa2)), (b6, .inl (cI, 16, .inl ne2)), (hn, .inr (4, [.ref hb, .ref hm, .ref n0, .ref n1, .ref n2, .ref n3, .int nr, .int nz, .int nt2, .int nd]))] ∧ (((((0 ≤ wc2.toInt ∧ wc2.toInt ≤ 6) ∧ WOk wa2 wc2) ∧ WC pa s p o wc wa (EX (fun y => wa (Int32.toNatClampNeg y) = 100 * s + 10 * p + o) wc) r wc2 wa2) ∧ (BKI wa wc ne la → BKI wa2 wc2 ne2 la)) ∧ (nt2 = 0 ∨ (nt2 = nt ∧ ne2 = ne)))) := by
  refine Cn.of (by decide) (Nat.le_of_ble_eq_true rfl) ?_ ?_ (fun X eL eD eT eO eK eN eM C => ?_)
  · intro h; cases h
  · intro v ws h; obtain ⟨_, _, _, _, _, rfl, rfl, _⟩ := h; exact Or.inl rfl
  subst eL eD eT
  show V X 4 [(hx, .inr (9, [.ref hp, .ref hb, .ref hi, .int kp, .ref he, .ref hn, .ref ho, .ref hg, .ref hl, .ref hr])), (hb, .inr (0, [.ref b0, .ref b1, .ref b2, .ref b3, .ref b4, .ref b5, .ref b6, .int wc, .int la, .int br])), (b0, .inl (cI, 4, .inl pa)), (b1, .inl (cI, 16, .inl mi)), (b2, .inl (cI, 4, .inl ga)), (b3, .inl (cI, 4, .inl te)), (b4, .inl (cI, 4, .inl kn)), (b5, .inl (cI, 6, .inl wa)), (b6, .inl (cI, 16, .inl ne)), (hn, .inr (4, [.ref hb, .ref hm, .ref n0, .ref n1, .ref n2, .ref n3, .int nr, .int nz, .int nt, .int nd]))] [(0, .ref hx), (1, .int s), (2, .int p), (3, .int o)] [] 0 0 0
  refine x_iload_n C 1 dX9_wait_0 rfl rfl ?_
  refine x_callS C [.int s] [(hx, .inr (9, [.ref hp, .ref hb, .ref hi, .int kp, .ref he, .ref hn, .ref ho, .ref hg, .ref hl, .ref hr])), (hb, .inr (0, [.ref b0, .ref b1, .ref b2, .ref b3, .ref b4, .ref b5, .ref b6, .int wc, .int la, .int br])), (b0, .inl (cI, 4, .inl pa)), (b1, .inl (cI, 16, .inl mi)), (b2, .inl (cI, 4, .inl ga)), (b3, .inl (cI, 4, .inl te)), (b4, .inl (cI, 4, .inl kn)), (b5, .inl (cI, 6, .inl wa)), (b6, .inl (cI, 16, .inl ne)), (hn, .inr (4, [.ref hb, .ref hm, .ref n0, .ref n1, .ref n2, .ref n3, .int nr, .int nz, .int nt, .int nd]))] [] [0, 1, 2, 3, 4, 5, 6, 7, 8, 9] (c_X9_isStory (xl X) (xD X) (xt X) hT s ) dX9_wait_1 wd_219 wd_220 wd_2 wd_221 (np := 1) ⟨by decide, by decide, by decide +kernel⟩ rfl rfl (Nat.le_of_ble_eq_true rfl) (by decide) rfl (by decide) rfl (by decide) (by decide) (fun v W1 h => ?_)
  obtain ⟨r_1, rfl, rfl, h_1⟩ := h
  show V X 4 [(hx, .inr (9, [.ref hp, .ref hb, .ref hi, .int kp, .ref he, .ref hn, .ref ho, .ref hg, .ref hl, .ref hr])), (hb, .inr (0, [.ref b0, .ref b1, .ref b2, .ref b3, .ref b4, .ref b5, .ref b6, .int wc, .int la, .int br])), (b0, .inl (cI, 4, .inl pa)), (b1, .inl (cI, 16, .inl mi)), (b2, .inl (cI, 4, .inl ga)), (b3, .inl (cI, 4, .inl te)), (b4, .inl (cI, 4, .inl kn)), (b5, .inl (cI, 6, .inl wa)), (b6, .inl (cI, 16, .inl ne)), (hn, .inr (4, [.ref hb, .ref hm, .ref n0, .ref n1, .ref n2, .ref n3, .int nr, .int nz, .int nt, .int nd]))] [(0, .ref hx), (1, .int s), (2, .int p), (3, .int o)] [.int r_1] 4 0 0
  refine x_if_eq C 19 dX9_wait_4 (by decide) (fun c_4 => ?_) (fun c_4 => ?_)
  · skip
    have e_4 : (r_1 : Int32).toInt = (0 : Int32).toInt := i_eq.mp c_4
    have : (0 : Int32).toInt = 0 := by decide
    refine x_iconst C (-1) dX9_wait_19 (by decide) ?_
    have : ((-1) : Int32).toInt = -1 := by decide
    exact x_iret C dX9_wait_20 (Nat.zero_le _) (Nat.zero_le _) (by rw [eO]; exact ⟨((-1)), wc, nt, wa, ne, rfl, rfl, ⟨⟨⟨⟨hwc, hw⟩, Or.inl ⟨by omega, rfl, rfl, rfl⟩⟩, fun h => h⟩, Or.inr ⟨rfl, rfl⟩⟩⟩)
  · skip
    have e_4 : ¬ ((r_1 : Int32).toInt = (0 : Int32).toInt) := fun h => c_4 (i_eq.mpr h)
    have : (0 : Int32).toInt = 0 := by decide
    refine x_iload_n C 3 dX9_wait_7 rfl rfl ?_
    refine x_callS C [.int o] [(hx, .inr (9, [.ref hp, .ref hb, .ref hi, .int kp, .ref he, .ref hn, .ref ho, .ref hg, .ref hl, .ref hr])), (hb, .inr (0, [.ref b0, .ref b1, .ref b2, .ref b3, .ref b4, .ref b5, .ref b6, .int wc, .int la, .int br])), (b0, .inl (cI, 4, .inl pa)), (b1, .inl (cI, 16, .inl mi)), (b2, .inl (cI, 4, .inl ga)), (b3, .inl (cI, 4, .inl te)), (b4, .inl (cI, 4, .inl kn)), (b5, .inl (cI, 6, .inl wa)), (b6, .inl (cI, 16, .inl ne)), (hn, .inr (4, [.ref hb, .ref hm, .ref n0, .ref n1, .ref n2, .ref n3, .int nr, .int nz, .int nt, .int nd]))] [] [0, 1, 2, 3, 4, 5, 6, 7, 8, 9] (c_X9_isStory (xl X) (xD X) (xt X) hT o ) dX9_wait_8 wd_219 wd_220 wd_2 wd_221 (np := 1) ⟨by decide, by decide, by decide +kernel⟩ rfl rfl (Nat.le_of_ble_eq_true rfl) (by decide) rfl (by decide) rfl (by decide) (by decide) (fun v W1 h => ?_)
    obtain ⟨r_8, rfl, rfl, h_8⟩ := h
    show V X 4 [(hx, .inr (9, [.ref hp, .ref hb, .ref hi, .int kp, .ref he, .ref hn, .ref ho, .ref hg, .ref hl, .ref hr])), (hb, .inr (0, [.ref b0, .ref b1, .ref b2, .ref b3, .ref b4, .ref b5, .ref b6, .int wc, .int la, .int br])), (b0, .inl (cI, 4, .inl pa)), (b1, .inl (cI, 16, .inl mi)), (b2, .inl (cI, 4, .inl ga)), (b3, .inl (cI, 4, .inl te)), (b4, .inl (cI, 4, .inl kn)), (b5, .inl (cI, 6, .inl wa)), (b6, .inl (cI, 16, .inl ne)), (hn, .inr (4, [.ref hb, .ref hm, .ref n0, .ref n1, .ref n2, .ref n3, .int nr, .int nz, .int nt, .int nd]))] [(0, .ref hx), (1, .int s), (2, .int p), (3, .int o)] [.int r_8] 11 0 0
    refine x_if_eq C 19 dX9_wait_11 (by decide) (fun c_11 => ?_) (fun c_11 => ?_)
    · skip
      have e_11 : (r_8 : Int32).toInt = (0 : Int32).toInt := i_eq.mp c_11
      have : (0 : Int32).toInt = 0 := by decide
      refine x_iconst C (-1) dX9_wait_19 (by decide) ?_
      have : ((-1) : Int32).toInt = -1 := by decide
      exact x_iret C dX9_wait_20 (Nat.zero_le _) (Nat.zero_le _) (by rw [eO]; exact ⟨((-1)), wc, nt, wa, ne, rfl, rfl, ⟨⟨⟨⟨hwc, hw⟩, Or.inl ⟨by omega, rfl, rfl, rfl⟩⟩, fun h => h⟩, Or.inr ⟨rfl, rfl⟩⟩⟩)
    · skip
      have e_11 : ¬ ((r_8 : Int32).toInt = (0 : Int32).toInt) := fun h => c_11 (i_eq.mpr h)
      have : (0 : Int32).toInt = 0 := by decide
      refine x_iload_n C 1 dX9_wait_14 rfl rfl ?_
      refine x_iload_n C 3 dX9_wait_15 rfl rfl ?_
      refine x_icmp_ne C 21 dX9_wait_16 (by decide) (fun c_16 => ?_) (fun c_16 => ?_)
      · skip
        have e_16 : ¬ ((s : Int32).toInt = (o : Int32).toInt) := fun h => c_16 (i_eq.mpr h)
        refine x_iload_n C 2 dX9_wait_21 rfl rfl ?_
        refine x_iconst C 0 dX9_wait_22 (by decide) ?_
        refine x_aload_n C 0 dX9_wait_23 rfl rfl ?_
        refine x_get C 0 1 dX9_wait_24 inlX9 rfl (by decide) wd_19 rfl rfl rfl ?_
        refine x_getN C 1 0 dX9_wait_27 inlX0 rfl (by decide) nt_6 rfl rfl rfl ?_
        refine x_iload_n C 1 dX9_wait_30 rfl rfl ?_
        have v_31 : vp_in s 4 := (vp_in_iff.mpr (by omega))
        refine x_iald C 2 0 dX9_wait_31 hT.1 rfl v_31 ?_
        have a_31 := hpa.at v_31
        have : (1 : Int32).toInt = 1 := by decide
        have := i_sub (x := pa (Int32.toNatClampNeg s)) (y := 1) (by omega) (by omega)
        refine x_iconst C 1 dX9_wait_32 (by decide) ?_
        refine x_isub C dX9_wait_33 ?_
        refine x_callS C [.int p, .int 0, .int ((pa (Int32.toNatClampNeg s)) - 1)] [(hx, .inr (9, [.ref hp, .ref hb, .ref hi, .int kp, .ref he, .ref hn, .ref ho, .ref hg, .ref hl, .ref hr])), (hb, .inr (0, [.ref b0, .ref b1, .ref b2, .ref b3, .ref b4, .ref b5, .ref b6, .int wc, .int la, .int br])), (b0, .inl (cI, 4, .inl pa)), (b1, .inl (cI, 16, .inl mi)), (b2, .inl (cI, 4, .inl ga)), (b3, .inl (cI, 4, .inl te)), (b4, .inl (cI, 4, .inl kn)), (b5, .inl (cI, 6, .inl wa)), (b6, .inl (cI, 16, .inl ne)), (hn, .inr (4, [.ref hb, .ref hm, .ref n0, .ref n1, .ref n2, .ref n3, .int nr, .int nz, .int nt, .int nd]))] [] [0, 1, 2, 3, 4, 5, 6, 7, 8, 9] (c_X9_isIn (xl X) (xD X) (xt X) hT p 0 ((pa (Int32.toNatClampNeg s)) - 1) ) dX9_wait_34 wd_186 wd_187 wd_2 wd_188 (np := 3) ⟨by decide, by decide, by decide +kernel⟩ rfl rfl (Nat.le_of_ble_eq_true rfl) (by decide) rfl (by decide) rfl (by decide) (by decide) (fun v W1 h => ?_)
        obtain ⟨r_34, rfl, rfl, h_34⟩ := h
        have : (0 : Int32).toInt = 0 := by decide
        show V X 4 [(hx, .inr (9, [.ref hp, .ref hb, .ref hi, .int kp, .ref he, .ref hn, .ref ho, .ref hg, .ref hl, .ref hr])), (hb, .inr (0, [.ref b0, .ref b1, .ref b2, .ref b3, .ref b4, .ref b5, .ref b6, .int wc, .int la, .int br])), (b0, .inl (cI, 4, .inl pa)), (b1, .inl (cI, 16, .inl mi)), (b2, .inl (cI, 4, .inl ga)), (b3, .inl (cI, 4, .inl te)), (b4, .inl (cI, 4, .inl kn)), (b5, .inl (cI, 6, .inl wa)), (b6, .inl (cI, 16, .inl ne)), (hn, .inr (4, [.ref hb, .ref hm, .ref n0, .ref n1, .ref n2, .ref n3, .int nr, .int nz, .int nt, .int nd]))] [(0, .ref hx), (1, .int s), (2, .int p), (3, .int o)] [.int r_34] 37 0 0
        refine x_if_ne C 42 dX9_wait_37 (by decide) (fun c_37 => ?_) (fun c_37 => ?_)
        · skip
          have e_37 : ¬ ((r_34 : Int32).toInt = (0 : Int32).toInt) := fun h => c_37 (i_eq.mpr h)
          have : (0 : Int32).toInt = 0 := by decide
          refine x_aload_n C 0 dX9_wait_42 rfl rfl ?_
          refine x_get C 0 1 dX9_wait_43 inlX9 rfl (by decide) wd_19 rfl rfl rfl ?_
          refine x_iload_n C 1 dX9_wait_46 rfl rfl ?_
          refine x_iload_n C 2 dX9_wait_47 rfl rfl ?_
          refine x_iload_n C 3 dX9_wait_48 rfl rfl ?_
          refine x_callV C [.int s, .int p, .int o] [(hx, .inr (9, [.ref hp, .ref hb, .ref hi, .int kp, .ref he, .ref hn, .ref ho, .ref hg, .ref hl, .ref hr])), (hn, .inr (4, [.ref hb, .ref hm, .ref n0, .ref n1, .ref n2, .ref n3, .int nr, .int nz, .int nt, .int nd]))] [1, 2, 3, 4, 5, 6, 7, 8] [0, 9] (q0 := 0) (c_X0_hasWait (xl X) (xD X) (xt X) hT hb b0 b1 b2 b3 b4 b5 b6 pa mi ga te kn wa ne wc la br s p o (by omega)) dX9_wait_49 wd_316 wd_317 wd_318 wd_18 wd_319 (np := 3) ⟨by decide, by decide, by decide +kernel⟩ rfl rfl (Nat.le_of_ble_eq_true rfl) (by decide) rfl rfl rfl rfl (by decide) rfl (by decide) (by decide) (fun v W1 h => ?_)
          obtain ⟨r_49, rfl, rfl, h_49⟩ := h
          show V X 4 [(hx, .inr (9, [.ref hp, .ref hb, .ref hi, .int kp, .ref he, .ref hn, .ref ho, .ref hg, .ref hl, .ref hr])), (hn, .inr (4, [.ref hb, .ref hm, .ref n0, .ref n1, .ref n2, .ref n3, .int nr, .int nz, .int nt, .int nd])), (hb, .inr (0, [.ref b0, .ref b1, .ref b2, .ref b3, .ref b4, .ref b5, .ref b6, .int wc, .int la, .int br])), (b0, .inl (cI, 4, .inl pa)), (b1, .inl (cI, 16, .inl mi)), (b2, .inl (cI, 4, .inl ga)), (b3, .inl (cI, 4, .inl te)), (b4, .inl (cI, 4, .inl kn)), (b5, .inl (cI, 6, .inl wa)), (b6, .inl (cI, 16, .inl ne))] [(0, .ref hx), (1, .int s), (2, .int p), (3, .int o)] [.int r_49] 52 0 0
          refine x_if_eq C 58 dX9_wait_52 (by decide) (fun c_52 => ?_) (fun c_52 => ?_)
          · skip
            have e_52 : (r_49 : Int32).toInt = (0 : Int32).toInt := i_eq.mp c_52
            have : (0 : Int32).toInt = 0 := by decide
            refine x_aload_n C 0 dX9_wait_58 rfl rfl ?_
            refine x_get C 0 1 dX9_wait_59 inlX9 rfl (by decide) wd_19 rfl rfl rfl ?_
            refine x_getN C 2 7 dX9_wait_62 inlX0 rfl (by decide) nt_18 rfl rfl rfl ?_
            refine x_bipush C 6 dX9_wait_65 (by decide) ?_
            refine x_icmp_lt C 73 dX9_wait_67 (by decide) (fun c_67 => ?_) (fun c_67 => ?_)
            · skip
              have e_67 : (wc : Int32).toInt < (6 : Int32).toInt := i_lt.mp c_67
              have : (6 : Int32).toInt = 6 := by decide
              refine x_aload_n C 0 dX9_wait_73 rfl rfl ?_
              refine x_get C 0 5 dX9_wait_74 inlX9 rfl (by decide) wd_29 rfl rfl rfl ?_
              refine x_callV C [] [(hx, .inr (9, [.ref hp, .ref hb, .ref hi, .int kp, .ref he, .ref hn, .ref ho, .ref hg, .ref hl, .ref hr])), (hb, .inr (0, [.ref b0, .ref b1, .ref b2, .ref b3, .ref b4, .ref b5, .ref b6, .int wc, .int la, .int br])), (b0, .inl (cI, 4, .inl pa)), (b1, .inl (cI, 16, .inl mi)), (b2, .inl (cI, 4, .inl ga)), (b3, .inl (cI, 4, .inl te)), (b4, .inl (cI, 4, .inl kn)), (b5, .inl (cI, 6, .inl wa)), (b6, .inl (cI, 16, .inl ne))] [1] [0, 2, 3, 4, 5, 6, 7, 8, 9] (q0 := 0) (c_X4_forget (xl X) (xD X) (xt X) hT hn hb hm n0 n1 n2 n3 nr nz nt nd ) dX9_wait_77 wd_251 wd_252 wd_253 wd_28 wd_254 (np := 0) ⟨by decide, by decide, by decide +kernel⟩ rfl rfl (Nat.le_of_ble_eq_true rfl) (by decide) rfl rfl rfl rfl (by decide) rfl (by decide) (by decide) (fun v W1 h => ?_)
              obtain ⟨_, rfl, rfl, h_77⟩ := h
              show V X 4 [(hx, .inr (9, [.ref hp, .ref hb, .ref hi, .int kp, .ref he, .ref hn, .ref ho, .ref hg, .ref hl, .ref hr])), (hb, .inr (0, [.ref b0, .ref b1, .ref b2, .ref b3, .ref b4, .ref b5, .ref b6, .int wc, .int la, .int br])), (b0, .inl (cI, 4, .inl pa)), (b1, .inl (cI, 16, .inl mi)), (b2, .inl (cI, 4, .inl ga)), (b3, .inl (cI, 4, .inl te)), (b4, .inl (cI, 4, .inl kn)), (b5, .inl (cI, 6, .inl wa)), (b6, .inl (cI, 16, .inl ne)), (hn, .inr (4, [.ref hb, .ref hm, .ref n0, .ref n1, .ref n2, .ref n3, .int nr, .int nz, .int 0, .int nd]))] [(0, .ref hx), (1, .int s), (2, .int p), (3, .int o)] [] 80 0 0
              refine x_aload_n C 0 dX9_wait_80 rfl rfl ?_
              refine x_get C 0 1 dX9_wait_81 inlX9 rfl (by decide) wd_19 rfl rfl rfl ?_
              refine x_iload_n C 1 dX9_wait_84 rfl rfl ?_
              refine x_iload_n C 2 dX9_wait_85 rfl rfl ?_
              refine x_iload_n C 3 dX9_wait_86 rfl rfl ?_
              refine x_callV C [.int s, .int p, .int o] [(hx, .inr (9, [.ref hp, .ref hb, .ref hi, .int kp, .ref he, .ref hn, .ref ho, .ref hg, .ref hl, .ref hr])), (hn, .inr (4, [.ref hb, .ref hm, .ref n0, .ref n1, .ref n2, .ref n3, .int nr, .int nz, .int 0, .int nd]))] [1, 2, 3, 4, 5, 6, 7, 8] [0, 9] (q0 := 0) (c_X0_addWait (xl X) (xD X) (xt X) hT hb b0 b1 b2 b3 b4 b5 b6 pa mi ga te kn wa ne wc la br s p o (by omega) hw (by omega) (by omega) (by omega)) dX9_wait_87 wd_320 wd_321 wd_322 wd_18 wd_323 (np := 3) ⟨by decide, by decide, by decide +kernel⟩ rfl rfl (Nat.le_of_ble_eq_true rfl) (by decide) rfl rfl rfl rfl (by decide) rfl (by decide) (by decide) (fun v W1 h => ?_)
              obtain ⟨ne2_87, rfl, rfl, h_87⟩ := h
              show V X 4 [(hx, .inr (9, [.ref hp, .ref hb, .ref hi, .int kp, .ref he, .ref hn, .ref ho, .ref hg, .ref hl, .ref hr])), (hn, .inr (4, [.ref hb, .ref hm, .ref n0, .ref n1, .ref n2, .ref n3, .int nr, .int nz, .int 0, .int nd])), (hb, .inr (0, [.ref b0, .ref b1, .ref b2, .ref b3, .ref b4, .ref b5, .ref b6, .int (wc + 1), .int la, .int br])), (b0, .inl (cI, 4, .inl pa)), (b1, .inl (cI, 16, .inl mi)), (b2, .inl (cI, 4, .inl ga)), (b3, .inl (cI, 4, .inl te)), (b4, .inl (cI, 4, .inl kn)), (b5, .inl (cI, 6, .inl (upd wa (Int32.toNatClampNeg wc) (100 * s + 10 * p + o)))), (b6, .inl (cI, 16, .inl ne2_87))] [(0, .ref hx), (1, .int s), (2, .int p), (3, .int o)] [.int wc] 90 0 0
              have : (1 : Int32).toInt = 1 := by decide
              have := i_add (x := wc) (y := 1) (by omega) (by omega)
              refine x_sub [(hx, .inr (9, [.ref hp, .ref hb, .ref hi, .int kp, .ref he, .ref hn, .ref ho, .ref hg, .ref hl, .ref hr])), (hb, .inr (0, [.ref b0, .ref b1, .ref b2, .ref b3, .ref b4, .ref b5, .ref b6, .int (wc + 1), .int la, .int br])), (b0, .inl (cI, 4, .inl pa)), (b1, .inl (cI, 16, .inl mi)), (b2, .inl (cI, 4, .inl ga)), (b3, .inl (cI, 4, .inl te)), (b4, .inl (cI, 4, .inl kn)), (b5, .inl (cI, 6, .inl (upd wa (Int32.toNatClampNeg wc) (100 * s + 10 * p + o)))), (b6, .inl (cI, 16, .inl ne2_87)), (hn, .inr (4, [.ref hb, .ref hm, .ref n0, .ref n1, .ref n2, .ref n3, .int nr, .int nz, .int 0, .int nd]))] [0, 2, 3, 4, 5, 6, 7, 8, 9, 1] (by decide) rfl ?_
              exact x_iret C dX9_wait_90 (Nat.zero_le _) (Nat.zero_le _) (by rw [eO]; exact ⟨wc, (wc + 1), 0, (upd wa (Int32.toNatClampNeg wc) (100 * s + 10 * p + o)), ne2_87, rfl, rfl, ⟨⟨⟨⟨by omega, h_87.1⟩, Or.inr ⟨by omega, Or.inr (Or.inr ⟨h_49.f (by omega), by omega, rfl, rfl, rfl⟩)⟩⟩, fun h => ⟨h_87.2, h.2⟩⟩, Or.inl rfl⟩⟩)
            · skip
              have e_67 : ¬ ((wc : Int32).toInt < (6 : Int32).toInt) := fun h => c_67 (i_lt.mpr h)
              have : (6 : Int32).toInt = 6 := by decide
              refine x_bipush C (-4) dX9_wait_70 (by decide) ?_
              refine x_sub [(hx, .inr (9, [.ref hp, .ref hb, .ref hi, .int kp, .ref he, .ref hn, .ref ho, .ref hg, .ref hl, .ref hr])), (hb, .inr (0, [.ref b0, .ref b1, .ref b2, .ref b3, .ref b4, .ref b5, .ref b6, .int wc, .int la, .int br])), (b0, .inl (cI, 4, .inl pa)), (b1, .inl (cI, 16, .inl mi)), (b2, .inl (cI, 4, .inl ga)), (b3, .inl (cI, 4, .inl te)), (b4, .inl (cI, 4, .inl kn)), (b5, .inl (cI, 6, .inl wa)), (b6, .inl (cI, 16, .inl ne)), (hn, .inr (4, [.ref hb, .ref hm, .ref n0, .ref n1, .ref n2, .ref n3, .int nr, .int nz, .int nt, .int nd]))] [0, 2, 3, 4, 5, 6, 7, 8, 9, 1] (by decide) rfl ?_
              have : ((-4) : Int32).toInt = -4 := by decide
              exact x_iret C dX9_wait_72 (Nat.zero_le _) (Nat.zero_le _) (by rw [eO]; exact ⟨((-4)), wc, nt, wa, ne, rfl, rfl, ⟨⟨⟨⟨hwc, hw⟩, Or.inr ⟨by omega, Or.inr (Or.inl ⟨h_49.f (by omega), by omega, rfl, rfl, rfl⟩)⟩⟩, fun h => h⟩, Or.inr ⟨rfl, rfl⟩⟩⟩)
          · skip
            have e_52 : ¬ ((r_49 : Int32).toInt = (0 : Int32).toInt) := fun h => c_52 (i_eq.mpr h)
            have : (0 : Int32).toInt = 0 := by decide
            refine x_bipush C (-5) dX9_wait_55 (by decide) ?_
            refine x_sub [(hx, .inr (9, [.ref hp, .ref hb, .ref hi, .int kp, .ref he, .ref hn, .ref ho, .ref hg, .ref hl, .ref hr])), (hb, .inr (0, [.ref b0, .ref b1, .ref b2, .ref b3, .ref b4, .ref b5, .ref b6, .int wc, .int la, .int br])), (b0, .inl (cI, 4, .inl pa)), (b1, .inl (cI, 16, .inl mi)), (b2, .inl (cI, 4, .inl ga)), (b3, .inl (cI, 4, .inl te)), (b4, .inl (cI, 4, .inl kn)), (b5, .inl (cI, 6, .inl wa)), (b6, .inl (cI, 16, .inl ne)), (hn, .inr (4, [.ref hb, .ref hm, .ref n0, .ref n1, .ref n2, .ref n3, .int nr, .int nz, .int nt, .int nd]))] [0, 2, 3, 4, 5, 6, 7, 8, 9, 1] (by decide) rfl ?_
            have : ((-5) : Int32).toInt = -5 := by decide
            exact x_iret C dX9_wait_57 (Nat.zero_le _) (Nat.zero_le _) (by rw [eO]; exact ⟨((-5)), wc, nt, wa, ne, rfl, rfl, ⟨⟨⟨⟨hwc, hw⟩, Or.inr ⟨by omega, Or.inl ⟨h_49.t (by omega), rfl, rfl, rfl⟩⟩⟩, fun h => h⟩, Or.inr ⟨rfl, rfl⟩⟩⟩)
        · skip
          have e_37 : (r_34 : Int32).toInt = (0 : Int32).toInt := i_eq.mp c_37
          have : (0 : Int32).toInt = 0 := by decide
          refine x_iconst C (-1) dX9_wait_40 (by decide) ?_
          have : ((-1) : Int32).toInt = -1 := by decide
          exact x_iret C dX9_wait_41 (Nat.zero_le _) (Nat.zero_le _) (by rw [eO]; exact ⟨((-1)), wc, nt, wa, ne, rfl, rfl, ⟨⟨⟨⟨hwc, hw⟩, Or.inl ⟨by omega, rfl, rfl, rfl⟩⟩, fun h => h⟩, Or.inr ⟨rfl, rfl⟩⟩⟩)
      · skip
        have e_16 : (s : Int32).toInt = (o : Int32).toInt := i_eq.mp c_16
        refine x_iconst C (-1) dX9_wait_19 (by decide) ?_
        have : ((-1) : Int32).toInt = -1 := by decide
        exact x_iret C dX9_wait_20 (Nat.zero_le _) (Nat.zero_le _) (by rw [eO]; exact ⟨((-1)), wc, nt, wa, ne, rfl, rfl, ⟨⟨⟨⟨hwc, hw⟩, Or.inl ⟨by omega, rfl, rfl, rfl⟩⟩, fun h => h⟩, Or.inr ⟨rfl, rfl⟩⟩⟩)
abbrev rm_X9_drop : Room := { frames := 3, cells := 0, slots := 0, locals := 64 }
set_option maxHeartbeats 4000000 in
set_option maxRecDepth 100000 in
theorem c_X9_drop (l : Launch) (D : va_G) (tys : List (ClassId × FieldType)) {cI cJ cZ cB : ClassId} (hT : Ty tys cI cJ cZ cB) (hx hp hb hi he hn ho hg hl hr b0 b1 b2 b3 b4 b5 b6 hm n0 n1 n2 n3 : Nat) (pa mi ga te kn wa ne : Nat → Int32) (kp wc la br nr nz nt nd : Int32) (a : Int32) (hwc : 0 ≤ wc.toInt ∧ wc.toInt ≤ 6) (hw : WOk wa wc) : Cn l D tys yX9_drop cX9_drop 2 (some .int) rm_X9_drop [(hx, .inr (9, [.ref hp, .ref hb, .ref hi, .int kp, .ref he, .ref hn, .ref ho, .ref hg, .ref hl, .ref hr])), (hb, .inr (0, [.ref b0, .ref b1, .ref b2, .ref b3, .ref b4, .ref b5, .ref b6, .int wc, .int la, .int br])), (b0, .inl (cI, 4, .inl pa)), (b1, .inl (cI, 16, .inl mi)), (b2, .inl (cI, 4, .inl ga)), (b3, .inl (cI, 4, .inl te)), (b4, .inl (cI, 4, .inl kn)), (b5, .inl (cI, 6, .inl wa)), (b6, .inl (cI, 16, .inl ne)), (hn, .inr (4, [.ref hb, .ref hm, .ref n0, .ref n1, .ref n2, .ref n3, .int nr, .int nz, .int nt, .int nd]))] [.ref hx, .int a] (fun v W1 => ∃ (r wc2 nt2 : Int32) (wa2 ne2 : Nat → Int32), v = some (.int r) ∧ W1 = [(hx, .inr (9, [.ref hp, .ref hb, .ref hi, .int kp, .ref he, .ref hn, .ref ho, .ref hg, .ref hl, .ref hr])), (hb, .inr (0, [.ref b0, .ref b1, .ref b2, .ref b3, .ref b4, .ref b5, .ref b6, .int wc2, .int la, .int br])), (b0, .inl (cI, 4, .inl pa)), (b1, .inl (cI, 16, .inl mi)), (b2, .inl (cI, 4, .inl ga)), (b3, .inl (cI, 4, .inl te)), (b4, .inl (cI, 4, .inl kn)), (b5, .inl (cI, 6, .inl wa2)), (b6, .inl (cI, 16, .inl ne2)), (hn, .inr (4, [.ref hb, .ref hm, .ref n0, .ref n1, .ref n2, .ref n3, .int nr, .int nz, .int nt2, .int nd]))] ∧ (((((0 ≤ wc2.toInt ∧ wc2.toInt ≤ 6) ∧ WOk wa2 wc2) ∧ DR a wc wa r wc2 wa2) ∧ (BKI wa wc ne la → BKI wa2 wc2 ne2 la)) ∧ (nt2 = 0 ∨ (nt2 = nt ∧ ne2 = ne)))) := by
  refine Cn.of (by decide) (Nat.le_of_ble_eq_true rfl) ?_ ?_ (fun X eL eD eT eO eK eN eM C => ?_)
  · intro h; cases h
  · intro v ws h; obtain ⟨_, _, _, _, _, rfl, rfl, _⟩ := h; exact Or.inl rfl
  subst eL eD eT
  show V X 2 [(hx, .inr (9, [.ref hp, .ref hb, .ref hi, .int kp, .ref he, .ref hn, .ref ho, .ref hg, .ref hl, .ref hr])), (hb, .inr (0, [.ref b0, .ref b1, .ref b2, .ref b3, .ref b4, .ref b5, .ref b6, .int wc, .int la, .int br])), (b0, .inl (cI, 4, .inl pa)), (b1, .inl (cI, 16, .inl mi)), (b2, .inl (cI, 4, .inl ga)), (b3, .inl (cI, 4, .inl te)), (b4, .inl (cI, 4, .inl kn)), (b5, .inl (cI, 6, .inl wa)), (b6, .inl (cI, 16, .inl ne)), (hn, .inr (4, [.ref hb, .ref hm, .ref n0, .ref n1, .ref n2, .ref n3, .int nr, .int nz, .int nt, .int nd]))] [(0, .ref hx), (1, .int a)] [] 0 0 0
  refine x_iload_n C 1 dX9_drop_0 rfl rfl ?_
  refine x_iconst C 0 dX9_drop_1 (by decide) ?_
  refine x_aload_n C 0 dX9_drop_2 rfl rfl ?_
  refine x_get C 0 1 dX9_drop_3 inlX9 rfl (by decide) wd_19 rfl rfl rfl ?_
  refine x_getN C 1 7 dX9_drop_6 inlX0 rfl (by decide) nt_18 rfl rfl rfl ?_
  refine x_iconst C 1 dX9_drop_9 (by decide) ?_
  refine x_isub C dX9_drop_10 ?_
  refine x_callS C [.int a, .int 0, .int (wc - 1)] [(hx, .inr (9, [.ref hp, .ref hb, .ref hi, .int kp, .ref he, .ref hn, .ref ho, .ref hg, .ref hl, .ref hr])), (hb, .inr (0, [.ref b0, .ref b1, .ref b2, .ref b3, .ref b4, .ref b5, .ref b6, .int wc, .int la, .int br])), (b0, .inl (cI, 4, .inl pa)), (b1, .inl (cI, 16, .inl mi)), (b2, .inl (cI, 4, .inl ga)), (b3, .inl (cI, 4, .inl te)), (b4, .inl (cI, 4, .inl kn)), (b5, .inl (cI, 6, .inl wa)), (b6, .inl (cI, 16, .inl ne)), (hn, .inr (4, [.ref hb, .ref hm, .ref n0, .ref n1, .ref n2, .ref n3, .int nr, .int nz, .int nt, .int nd]))] [] [0, 1, 2, 3, 4, 5, 6, 7, 8, 9] (c_X9_isIn (xl X) (xD X) (xt X) hT a 0 (wc - 1) ) dX9_drop_11 wd_186 wd_187 wd_2 wd_188 (np := 3) ⟨by decide, by decide, by decide +kernel⟩ rfl rfl (Nat.le_of_ble_eq_true rfl) (by decide) rfl (by decide) rfl (by decide) (by decide) (fun v W1 h => ?_)
  obtain ⟨r_11, rfl, rfl, h_11⟩ := h
  have : (0 : Int32).toInt = 0 := by decide
  have : (1 : Int32).toInt = 1 := by decide
  have := i_sub (x := wc) (y := 1) (by omega) (by omega)
  show V X 2 [(hx, .inr (9, [.ref hp, .ref hb, .ref hi, .int kp, .ref he, .ref hn, .ref ho, .ref hg, .ref hl, .ref hr])), (hb, .inr (0, [.ref b0, .ref b1, .ref b2, .ref b3, .ref b4, .ref b5, .ref b6, .int wc, .int la, .int br])), (b0, .inl (cI, 4, .inl pa)), (b1, .inl (cI, 16, .inl mi)), (b2, .inl (cI, 4, .inl ga)), (b3, .inl (cI, 4, .inl te)), (b4, .inl (cI, 4, .inl kn)), (b5, .inl (cI, 6, .inl wa)), (b6, .inl (cI, 16, .inl ne)), (hn, .inr (4, [.ref hb, .ref hm, .ref n0, .ref n1, .ref n2, .ref n3, .int nr, .int nz, .int nt, .int nd]))] [(0, .ref hx), (1, .int a)] [.int r_11] 14 0 0
  refine x_if_ne C 19 dX9_drop_14 (by decide) (fun c_14 => ?_) (fun c_14 => ?_)
  · skip
    have e_14 : ¬ ((r_11 : Int32).toInt = (0 : Int32).toInt) := fun h => c_14 (i_eq.mpr h)
    have : (0 : Int32).toInt = 0 := by decide
    refine x_aload_n C 0 dX9_drop_19 rfl rfl ?_
    refine x_get C 0 5 dX9_drop_20 inlX9 rfl (by decide) wd_29 rfl rfl rfl ?_
    refine x_callV C [] [(hx, .inr (9, [.ref hp, .ref hb, .ref hi, .int kp, .ref he, .ref hn, .ref ho, .ref hg, .ref hl, .ref hr])), (hb, .inr (0, [.ref b0, .ref b1, .ref b2, .ref b3, .ref b4, .ref b5, .ref b6, .int wc, .int la, .int br])), (b0, .inl (cI, 4, .inl pa)), (b1, .inl (cI, 16, .inl mi)), (b2, .inl (cI, 4, .inl ga)), (b3, .inl (cI, 4, .inl te)), (b4, .inl (cI, 4, .inl kn)), (b5, .inl (cI, 6, .inl wa)), (b6, .inl (cI, 16, .inl ne))] [9] [0, 1, 2, 3, 4, 5, 6, 7, 8] (q0 := 0) (c_X4_forget (xl X) (xD X) (xt X) hT hn hb hm n0 n1 n2 n3 nr nz nt nd ) dX9_drop_23 wd_251 wd_252 wd_253 wd_28 wd_254 (np := 0) ⟨by decide, by decide, by decide +kernel⟩ rfl rfl (Nat.le_of_ble_eq_true rfl) (by decide) rfl rfl rfl rfl (by decide) rfl (by decide) (by decide) (fun v W1 h => ?_)
    obtain ⟨_, rfl, rfl, h_23⟩ := h
    show V X 2 [(hx, .inr (9, [.ref hp, .ref hb, .ref hi, .int kp, .ref he, .ref hn, .ref ho, .ref hg, .ref hl, .ref hr])), (hb, .inr (0, [.ref b0, .ref b1, .ref b2, .ref b3, .ref b4, .ref b5, .ref b6, .int wc, .int la, .int br])), (b0, .inl (cI, 4, .inl pa)), (b1, .inl (cI, 16, .inl mi)), (b2, .inl (cI, 4, .inl ga)), (b3, .inl (cI, 4, .inl te)), (b4, .inl (cI, 4, .inl kn)), (b5, .inl (cI, 6, .inl wa)), (b6, .inl (cI, 16, .inl ne)), (hn, .inr (4, [.ref hb, .ref hm, .ref n0, .ref n1, .ref n2, .ref n3, .int nr, .int nz, .int 0, .int nd]))] [(0, .ref hx), (1, .int a)] [] 26 0 0
    refine x_aload_n C 0 dX9_drop_26 rfl rfl ?_
    refine x_get C 0 1 dX9_drop_27 inlX9 rfl (by decide) wd_19 rfl rfl rfl ?_
    refine x_iload_n C 1 dX9_drop_30 rfl rfl ?_
    refine x_callV C [.int a] [(hx, .inr (9, [.ref hp, .ref hb, .ref hi, .int kp, .ref he, .ref hn, .ref ho, .ref hg, .ref hl, .ref hr])), (hn, .inr (4, [.ref hb, .ref hm, .ref n0, .ref n1, .ref n2, .ref n3, .int nr, .int nz, .int 0, .int nd]))] [1, 2, 3, 4, 5, 6, 7, 8] [0, 9] (q0 := 0) (c_X0_removeWait (xl X) (xD X) (xt X) hT hb b0 b1 b2 b3 b4 b5 b6 pa mi ga te kn wa ne wc la br a (by omega) hw (by omega)) dX9_drop_31 wd_332 wd_333 wd_334 wd_18 wd_335 (np := 1) ⟨by decide, by decide, by decide +kernel⟩ rfl rfl (Nat.le_of_ble_eq_true rfl) (by decide) rfl rfl rfl rfl (by decide) rfl (by decide) (by decide) (fun v W1 h => ?_)
    obtain ⟨wa2_31, ne2_31, rfl, rfl, h_31⟩ := h
    show V X 2 [(hx, .inr (9, [.ref hp, .ref hb, .ref hi, .int kp, .ref he, .ref hn, .ref ho, .ref hg, .ref hl, .ref hr])), (hn, .inr (4, [.ref hb, .ref hm, .ref n0, .ref n1, .ref n2, .ref n3, .int nr, .int nz, .int 0, .int nd])), (hb, .inr (0, [.ref b0, .ref b1, .ref b2, .ref b3, .ref b4, .ref b5, .ref b6, .int (wc - 1), .int la, .int br])), (b0, .inl (cI, 4, .inl pa)), (b1, .inl (cI, 16, .inl mi)), (b2, .inl (cI, 4, .inl ga)), (b3, .inl (cI, 4, .inl te)), (b4, .inl (cI, 4, .inl kn)), (b5, .inl (cI, 6, .inl wa2_31)), (b6, .inl (cI, 16, .inl ne2_31))] [(0, .ref hx), (1, .int a)] [.int (wc - 1)] 34 0 0
    have : (1 : Int32).toInt = 1 := by decide
    have := i_sub (x := wc) (y := 1) (by omega) (by omega)
    refine x_sub [(hx, .inr (9, [.ref hp, .ref hb, .ref hi, .int kp, .ref he, .ref hn, .ref ho, .ref hg, .ref hl, .ref hr])), (hb, .inr (0, [.ref b0, .ref b1, .ref b2, .ref b3, .ref b4, .ref b5, .ref b6, .int (wc - 1), .int la, .int br])), (b0, .inl (cI, 4, .inl pa)), (b1, .inl (cI, 16, .inl mi)), (b2, .inl (cI, 4, .inl ga)), (b3, .inl (cI, 4, .inl te)), (b4, .inl (cI, 4, .inl kn)), (b5, .inl (cI, 6, .inl wa2_31)), (b6, .inl (cI, 16, .inl ne2_31)), (hn, .inr (4, [.ref hb, .ref hm, .ref n0, .ref n1, .ref n2, .ref n3, .int nr, .int nz, .int 0, .int nd]))] [0, 2, 3, 4, 5, 6, 7, 8, 9, 1] (by decide) rfl ?_
    exact x_iret C dX9_drop_34 (Nat.zero_le _) (Nat.zero_le _) (by rw [eO]; exact ⟨(wc - 1), (wc - 1), 0, wa2_31, ne2_31, rfl, rfl, ⟨⟨⟨⟨by omega, h_31.1.1⟩, Or.inr ⟨by omega, rfl, rfl, h_31.1.2⟩⟩, fun h => ⟨h_31.2, h.2⟩⟩, Or.inl rfl⟩⟩)
  · skip
    have e_14 : (r_11 : Int32).toInt = (0 : Int32).toInt := i_eq.mp c_14
    have : (0 : Int32).toInt = 0 := by decide
    refine x_iconst C (-1) dX9_drop_17 (by decide) ?_
    have : ((-1) : Int32).toInt = -1 := by decide
    exact x_iret C dX9_drop_18 (Nat.zero_le _) (Nat.zero_le _) (by rw [eO]; exact ⟨((-1)), wc, nt, wa, ne, rfl, rfl, ⟨⟨⟨⟨hwc, hw⟩, Or.inl ⟨by omega, rfl, rfl, rfl⟩⟩, fun h => h⟩, Or.inr ⟨rfl, rfl⟩⟩⟩)
abbrev rm_X9_set : Room := { frames := 1, cells := 0, slots := 0, locals := 22 }
set_option maxHeartbeats 4000000 in
set_option maxRecDepth 100000 in
theorem c_X9_set (l : Launch) (D : va_G) (tys : List (ClassId × FieldType)) {cI cJ cZ cB : ClassId} (hT : Ty tys cI cJ cZ cB) (hx hp hb hi he hn ho hg hl hr b0 b1 b2 b3 b4 b5 b6 hm n0 n1 n2 n3 : Nat) (pa mi ga te kn wa ne : Nat → Int32) (kp wc la br nr nz nt nd : Int32) (a b : Int32)  : Cn l D tys yX9_set cX9_set 4 (some .int) rm_X9_set [(hx, .inr (9, [.ref hp, .ref hb, .ref hi, .int kp, .ref he, .ref hn, .ref ho, .ref hg, .ref hl, .ref hr])), (hb, .inr (0, [.ref b0, .ref b1, .ref b2, .ref b3, .ref b4, .ref b5, .ref b6, .int wc, .int la, .int br])), (b0, .inl (cI, 4, .inl pa)), (b1, .inl (cI, 16, .inl mi)), (b2, .inl (cI, 4, .inl ga)), (b3, .inl (cI, 4, .inl te)), (b4, .inl (cI, 4, .inl kn)), (b5, .inl (cI, 6, .inl wa)), (b6, .inl (cI, 16, .inl ne)), (hn, .inr (4, [.ref hb, .ref hm, .ref n0, .ref n1, .ref n2, .ref n3, .int nr, .int nz, .int nt, .int nd]))] [.ref hx, .int a, .int b] (fun v W1 => ∃ (r la2 br2 nt2 : Int32), v = some (.int r) ∧ W1 = [(hx, .inr (9, [.ref hp, .ref hb, .ref hi, .int kp, .ref he, .ref hn, .ref ho, .ref hg, .ref hl, .ref hr])), (hb, .inr (0, [.ref b0, .ref b1, .ref b2, .ref b3, .ref b4, .ref b5, .ref b6, .int wc, .int la2, .int br2])), (b0, .inl (cI, 4, .inl pa)), (b1, .inl (cI, 16, .inl mi)), (b2, .inl (cI, 4, .inl ga)), (b3, .inl (cI, 4, .inl te)), (b4, .inl (cI, 4, .inl kn)), (b5, .inl (cI, 6, .inl wa)), (b6, .inl (cI, 16, .inl ne)), (hn, .inr (4, [.ref hb, .ref hm, .ref n0, .ref n1, .ref n2, .ref n3, .int nr, .int nz, .int nt2, .int nd]))] ∧ ((SE a b la br r la2 br2) ∧ (nt2 = 0 ∨ (nt2 = nt ∧ la2 = la)))) := by
  refine Cn.of (by decide) (Nat.le_of_ble_eq_true rfl) ?_ ?_ (fun X eL eD eT eO eK eN eM C => ?_)
  · intro h; cases h
  · intro v ws h; obtain ⟨_, _, _, _, rfl, rfl, _⟩ := h; exact Or.inl rfl
  subst eL eD eT
  show V X 4 [(hx, .inr (9, [.ref hp, .ref hb, .ref hi, .int kp, .ref he, .ref hn, .ref ho, .ref hg, .ref hl, .ref hr])), (hb, .inr (0, [.ref b0, .ref b1, .ref b2, .ref b3, .ref b4, .ref b5, .ref b6, .int wc, .int la, .int br])), (b0, .inl (cI, 4, .inl pa)), (b1, .inl (cI, 16, .inl mi)), (b2, .inl (cI, 4, .inl ga)), (b3, .inl (cI, 4, .inl te)), (b4, .inl (cI, 4, .inl kn)), (b5, .inl (cI, 6, .inl wa)), (b6, .inl (cI, 16, .inl ne)), (hn, .inr (4, [.ref hb, .ref hm, .ref n0, .ref n1, .ref n2, .ref n3, .int nr, .int nz, .int nt, .int nd]))] [(0, .ref hx), (1, .int a), (2, .int b)] [] 0 0 0
  refine x_iload_n C 1 dX9_set_0 rfl rfl ?_
  refine x_if_ne C 38 dX9_set_1 (by decide) (fun c_1 => ?_) (fun c_1 => ?_)
  · skip
    have e_1 : ¬ ((a : Int32).toInt = (0 : Int32).toInt) := fun h => c_1 (i_eq.mpr h)
    have : (0 : Int32).toInt = 0 := by decide
    refine x_iload_n C 1 dX9_set_38 rfl rfl ?_
    refine x_iconst C 1 dX9_set_39 (by decide) ?_
    refine x_icmp_ne C 71 dX9_set_40 (by decide) (fun c_40 => ?_) (fun c_40 => ?_)
    · skip
      have e_40 : ¬ ((a : Int32).toInt = (1 : Int32).toInt) := fun h => c_40 (i_eq.mpr h)
      have : (1 : Int32).toInt = 1 := by decide
      refine x_bipush C (-2) dX9_set_71 (by decide) ?_
      have : ((-2) : Int32).toInt = -2 := by decide
      exact x_iret C dX9_set_73 (Nat.zero_le _) (Nat.zero_le _) (by rw [eO]; exact ⟨((-2)), la, br, nt, rfl, rfl, ⟨(Or.inr (Or.inr ⟨⟨by omega, by omega⟩, rfl, rfl, rfl⟩)), Or.inr ⟨rfl, rfl⟩⟩⟩)
    · skip
      have e_40 : (a : Int32).toInt = (1 : Int32).toInt := i_eq.mp c_40
      have : (1 : Int32).toInt = 1 := by decide
      refine x_iload_n C 2 dX9_set_43 rfl rfl ?_
      refine x_iconst C 0 dX9_set_44 (by decide) ?_
      refine x_bipush C 9 dX9_set_45 (by decide) ?_
      refine x_callS C [.int b, .int 0, .int 9] [(hx, .inr (9, [.ref hp, .ref hb, .ref hi, .int kp, .ref he, .ref hn, .ref ho, .ref hg, .ref hl, .ref hr])), (hb, .inr (0, [.ref b0, .ref b1, .ref b2, .ref b3, .ref b4, .ref b5, .ref b6, .int wc, .int la, .int br])), (b0, .inl (cI, 4, .inl pa)), (b1, .inl (cI, 16, .inl mi)), (b2, .inl (cI, 4, .inl ga)), (b3, .inl (cI, 4, .inl te)), (b4, .inl (cI, 4, .inl kn)), (b5, .inl (cI, 6, .inl wa)), (b6, .inl (cI, 16, .inl ne)), (hn, .inr (4, [.ref hb, .ref hm, .ref n0, .ref n1, .ref n2, .ref n3, .int nr, .int nz, .int nt, .int nd]))] [] [0, 1, 2, 3, 4, 5, 6, 7, 8, 9] (c_X9_isIn (xl X) (xD X) (xt X) hT b 0 9 ) dX9_set_47 wd_186 wd_187 wd_2 wd_188 (np := 3) ⟨by decide, by decide, by decide +kernel⟩ rfl rfl (Nat.le_of_ble_eq_true rfl) (by decide) rfl (by decide) rfl (by decide) (by decide) (fun v W1 h => ?_)
      obtain ⟨r_47, rfl, rfl, h_47⟩ := h
      have : (0 : Int32).toInt = 0 := by decide
      have : (9 : Int32).toInt = 9 := by decide
      show V X 4 [(hx, .inr (9, [.ref hp, .ref hb, .ref hi, .int kp, .ref he, .ref hn, .ref ho, .ref hg, .ref hl, .ref hr])), (hb, .inr (0, [.ref b0, .ref b1, .ref b2, .ref b3, .ref b4, .ref b5, .ref b6, .int wc, .int la, .int br])), (b0, .inl (cI, 4, .inl pa)), (b1, .inl (cI, 16, .inl mi)), (b2, .inl (cI, 4, .inl ga)), (b3, .inl (cI, 4, .inl te)), (b4, .inl (cI, 4, .inl kn)), (b5, .inl (cI, 6, .inl wa)), (b6, .inl (cI, 16, .inl ne)), (hn, .inr (4, [.ref hb, .ref hm, .ref n0, .ref n1, .ref n2, .ref n3, .int nr, .int nz, .int nt, .int nd]))] [(0, .ref hx), (1, .int a), (2, .int b)] [.int r_47] 50 0 0
      refine x_if_eq C 71 dX9_set_50 (by decide) (fun c_50 => ?_) (fun c_50 => ?_)
      · skip
        have e_50 : (r_47 : Int32).toInt = (0 : Int32).toInt := i_eq.mp c_50
        have : (0 : Int32).toInt = 0 := by decide
        refine x_bipush C (-2) dX9_set_71 (by decide) ?_
        have : ((-2) : Int32).toInt = -2 := by decide
        exact x_iret C dX9_set_73 (Nat.zero_le _) (Nat.zero_le _) (by rw [eO]; exact ⟨((-2)), la, br, nt, rfl, rfl, ⟨(Or.inr (Or.inr ⟨⟨by omega, by omega⟩, rfl, rfl, rfl⟩)), Or.inr ⟨rfl, rfl⟩⟩⟩)
      · skip
        have e_50 : ¬ ((r_47 : Int32).toInt = (0 : Int32).toInt) := fun h => c_50 (i_eq.mpr h)
        have : (0 : Int32).toInt = 0 := by decide
        refine x_aload_n C 0 dX9_set_53 rfl rfl ?_
        refine x_get C 0 1 dX9_set_54 inlX9 rfl (by decide) wd_19 rfl rfl rfl ?_
        refine x_getN C 1 9 dX9_set_57 inlX0 rfl (by decide) nt_23 rfl rfl rfl ?_
        refine x_istore_n C [(3, .int br), (0, .ref hx), (1, .int a), (2, .int b)] dX9_set_60 rfl (by decide) rfl ?_
        refine x_aload_n C 1 dX9_set_61 rfl rfl ?_
        refine x_get C 0 1 dX9_set_62 inlX9 rfl (by decide) wd_19 rfl rfl rfl ?_
        refine x_iload_n C 3 dX9_set_65 rfl rfl ?_
        refine x_putN C 1 9 (ty := .int) [(hx, .inr (9, [.ref hp, .ref hb, .ref hi, .int kp, .ref he, .ref hn, .ref ho, .ref hg, .ref hl, .ref hr])), (hb, .inr (0, [.ref b0, .ref b1, .ref b2, .ref b3, .ref b4, .ref b5, .ref b6, .int wc, .int la, .int b])), (b0, .inl (cI, 4, .inl pa)), (b1, .inl (cI, 16, .inl mi)), (b2, .inl (cI, 4, .inl ga)), (b3, .inl (cI, 4, .inl te)), (b4, .inl (cI, 4, .inl kn)), (b5, .inl (cI, 6, .inl wa)), (b6, .inl (cI, 16, .inl ne)), (hn, .inr (4, [.ref hb, .ref hm, .ref n0, .ref n1, .ref n2, .ref n3, .int nr, .int nz, .int nt, .int nd]))] dX9_set_66 inlX0 tyX0 tyX0_ok nmX0 rfl (by decide) nt_23 rfl rfl rfl rfl rfl rfl (Nat.le_of_ble_eq_true rfl) rfl ?_
        refine x_iload_n C 0 dX9_set_69 rfl rfl ?_
        exact x_iret C dX9_set_70 (Nat.zero_le _) (Nat.zero_le _) (by rw [eO]; exact ⟨br, la, b, nt, rfl, rfl, ⟨(Or.inr (Or.inl ⟨by omega, rfl, rfl, rfl⟩)), Or.inr ⟨rfl, rfl⟩⟩⟩)
  · skip
    have e_1 : (a : Int32).toInt = (0 : Int32).toInt := i_eq.mp c_1
    have : (0 : Int32).toInt = 0 := by decide
    refine x_iload_n C 2 dX9_set_4 rfl rfl ?_
    refine x_iconst C 0 dX9_set_5 (by decide) ?_
    refine x_iconst C 2 dX9_set_6 (by decide) ?_
    refine x_callS C [.int b, .int 0, .int 2] [(hx, .inr (9, [.ref hp, .ref hb, .ref hi, .int kp, .ref he, .ref hn, .ref ho, .ref hg, .ref hl, .ref hr])), (hb, .inr (0, [.ref b0, .ref b1, .ref b2, .ref b3, .ref b4, .ref b5, .ref b6, .int wc, .int la, .int br])), (b0, .inl (cI, 4, .inl pa)), (b1, .inl (cI, 16, .inl mi)), (b2, .inl (cI, 4, .inl ga)), (b3, .inl (cI, 4, .inl te)), (b4, .inl (cI, 4, .inl kn)), (b5, .inl (cI, 6, .inl wa)), (b6, .inl (cI, 16, .inl ne)), (hn, .inr (4, [.ref hb, .ref hm, .ref n0, .ref n1, .ref n2, .ref n3, .int nr, .int nz, .int nt, .int nd]))] [] [0, 1, 2, 3, 4, 5, 6, 7, 8, 9] (c_X9_isIn (xl X) (xD X) (xt X) hT b 0 2 ) dX9_set_7 wd_186 wd_187 wd_2 wd_188 (np := 3) ⟨by decide, by decide, by decide +kernel⟩ rfl rfl (Nat.le_of_ble_eq_true rfl) (by decide) rfl (by decide) rfl (by decide) (by decide) (fun v W1 h => ?_)
    obtain ⟨r_7, rfl, rfl, h_7⟩ := h
    have : (0 : Int32).toInt = 0 := by decide
    have : (2 : Int32).toInt = 2 := by decide
    show V X 4 [(hx, .inr (9, [.ref hp, .ref hb, .ref hi, .int kp, .ref he, .ref hn, .ref ho, .ref hg, .ref hl, .ref hr])), (hb, .inr (0, [.ref b0, .ref b1, .ref b2, .ref b3, .ref b4, .ref b5, .ref b6, .int wc, .int la, .int br])), (b0, .inl (cI, 4, .inl pa)), (b1, .inl (cI, 16, .inl mi)), (b2, .inl (cI, 4, .inl ga)), (b3, .inl (cI, 4, .inl te)), (b4, .inl (cI, 4, .inl kn)), (b5, .inl (cI, 6, .inl wa)), (b6, .inl (cI, 16, .inl ne)), (hn, .inr (4, [.ref hb, .ref hm, .ref n0, .ref n1, .ref n2, .ref n3, .int nr, .int nz, .int nt, .int nd]))] [(0, .ref hx), (1, .int a), (2, .int b)] [.int r_7] 10 0 0
    refine x_if_eq C 38 dX9_set_10 (by decide) (fun c_10 => ?_) (fun c_10 => ?_)
    · skip
      have e_10 : (r_7 : Int32).toInt = (0 : Int32).toInt := i_eq.mp c_10
      have : (0 : Int32).toInt = 0 := by decide
      refine x_iload_n C 1 dX9_set_38 rfl rfl ?_
      refine x_iconst C 1 dX9_set_39 (by decide) ?_
      refine x_icmp_ne C 71 dX9_set_40 (by decide) (fun c_40 => ?_) (fun c_40 => ?_)
      · skip
        have e_40 : ¬ ((a : Int32).toInt = (1 : Int32).toInt) := fun h => c_40 (i_eq.mpr h)
        have : (1 : Int32).toInt = 1 := by decide
        refine x_bipush C (-2) dX9_set_71 (by decide) ?_
        have : ((-2) : Int32).toInt = -2 := by decide
        exact x_iret C dX9_set_73 (Nat.zero_le _) (Nat.zero_le _) (by rw [eO]; exact ⟨((-2)), la, br, nt, rfl, rfl, ⟨(Or.inr (Or.inr ⟨⟨by omega, by omega⟩, rfl, rfl, rfl⟩)), Or.inr ⟨rfl, rfl⟩⟩⟩)
      · skip
        have e_40 : (a : Int32).toInt = (1 : Int32).toInt := i_eq.mp c_40
        have : (1 : Int32).toInt = 1 := by decide
        refine x_iload_n C 2 dX9_set_43 rfl rfl ?_
        refine x_iconst C 0 dX9_set_44 (by decide) ?_
        refine x_bipush C 9 dX9_set_45 (by decide) ?_
        refine x_callS C [.int b, .int 0, .int 9] [(hx, .inr (9, [.ref hp, .ref hb, .ref hi, .int kp, .ref he, .ref hn, .ref ho, .ref hg, .ref hl, .ref hr])), (hb, .inr (0, [.ref b0, .ref b1, .ref b2, .ref b3, .ref b4, .ref b5, .ref b6, .int wc, .int la, .int br])), (b0, .inl (cI, 4, .inl pa)), (b1, .inl (cI, 16, .inl mi)), (b2, .inl (cI, 4, .inl ga)), (b3, .inl (cI, 4, .inl te)), (b4, .inl (cI, 4, .inl kn)), (b5, .inl (cI, 6, .inl wa)), (b6, .inl (cI, 16, .inl ne)), (hn, .inr (4, [.ref hb, .ref hm, .ref n0, .ref n1, .ref n2, .ref n3, .int nr, .int nz, .int nt, .int nd]))] [] [0, 1, 2, 3, 4, 5, 6, 7, 8, 9] (c_X9_isIn (xl X) (xD X) (xt X) hT b 0 9 ) dX9_set_47 wd_186 wd_187 wd_2 wd_188 (np := 3) ⟨by decide, by decide, by decide +kernel⟩ rfl rfl (Nat.le_of_ble_eq_true rfl) (by decide) rfl (by decide) rfl (by decide) (by decide) (fun v W1 h => ?_)
        obtain ⟨r_47, rfl, rfl, h_47⟩ := h
        have : (0 : Int32).toInt = 0 := by decide
        have : (9 : Int32).toInt = 9 := by decide
        show V X 4 [(hx, .inr (9, [.ref hp, .ref hb, .ref hi, .int kp, .ref he, .ref hn, .ref ho, .ref hg, .ref hl, .ref hr])), (hb, .inr (0, [.ref b0, .ref b1, .ref b2, .ref b3, .ref b4, .ref b5, .ref b6, .int wc, .int la, .int br])), (b0, .inl (cI, 4, .inl pa)), (b1, .inl (cI, 16, .inl mi)), (b2, .inl (cI, 4, .inl ga)), (b3, .inl (cI, 4, .inl te)), (b4, .inl (cI, 4, .inl kn)), (b5, .inl (cI, 6, .inl wa)), (b6, .inl (cI, 16, .inl ne)), (hn, .inr (4, [.ref hb, .ref hm, .ref n0, .ref n1, .ref n2, .ref n3, .int nr, .int nz, .int nt, .int nd]))] [(0, .ref hx), (1, .int a), (2, .int b)] [.int r_47] 50 0 0
        refine x_if_eq C 71 dX9_set_50 (by decide) (fun c_50 => ?_) (fun c_50 => ?_)
        · skip
          have e_50 : (r_47 : Int32).toInt = (0 : Int32).toInt := i_eq.mp c_50
          have : (0 : Int32).toInt = 0 := by decide
          refine x_bipush C (-2) dX9_set_71 (by decide) ?_
          have : ((-2) : Int32).toInt = -2 := by decide
          exact x_iret C dX9_set_73 (Nat.zero_le _) (Nat.zero_le _) (by rw [eO]; exact ⟨((-2)), la, br, nt, rfl, rfl, ⟨(Or.inr (Or.inr ⟨⟨by omega, by omega⟩, rfl, rfl, rfl⟩)), Or.inr ⟨rfl, rfl⟩⟩⟩)
        · skip
          have e_50 : ¬ ((r_47 : Int32).toInt = (0 : Int32).toInt) := fun h => c_50 (i_eq.mpr h)
          have : (0 : Int32).toInt = 0 := by decide
          refine x_aload_n C 0 dX9_set_53 rfl rfl ?_
          refine x_get C 0 1 dX9_set_54 inlX9 rfl (by decide) wd_19 rfl rfl rfl ?_
          refine x_getN C 1 9 dX9_set_57 inlX0 rfl (by decide) nt_23 rfl rfl rfl ?_
          refine x_istore_n C [(3, .int br), (0, .ref hx), (1, .int a), (2, .int b)] dX9_set_60 rfl (by decide) rfl ?_
          refine x_aload_n C 1 dX9_set_61 rfl rfl ?_
          refine x_get C 0 1 dX9_set_62 inlX9 rfl (by decide) wd_19 rfl rfl rfl ?_
          refine x_iload_n C 3 dX9_set_65 rfl rfl ?_
          refine x_putN C 1 9 (ty := .int) [(hx, .inr (9, [.ref hp, .ref hb, .ref hi, .int kp, .ref he, .ref hn, .ref ho, .ref hg, .ref hl, .ref hr])), (hb, .inr (0, [.ref b0, .ref b1, .ref b2, .ref b3, .ref b4, .ref b5, .ref b6, .int wc, .int la, .int b])), (b0, .inl (cI, 4, .inl pa)), (b1, .inl (cI, 16, .inl mi)), (b2, .inl (cI, 4, .inl ga)), (b3, .inl (cI, 4, .inl te)), (b4, .inl (cI, 4, .inl kn)), (b5, .inl (cI, 6, .inl wa)), (b6, .inl (cI, 16, .inl ne)), (hn, .inr (4, [.ref hb, .ref hm, .ref n0, .ref n1, .ref n2, .ref n3, .int nr, .int nz, .int nt, .int nd]))] dX9_set_66 inlX0 tyX0 tyX0_ok nmX0 rfl (by decide) nt_23 rfl rfl rfl rfl rfl rfl (Nat.le_of_ble_eq_true rfl) rfl ?_
          refine x_iload_n C 0 dX9_set_69 rfl rfl ?_
          exact x_iret C dX9_set_70 (Nat.zero_le _) (Nat.zero_le _) (by rw [eO]; exact ⟨br, la, b, nt, rfl, rfl, ⟨(Or.inr (Or.inl ⟨by omega, rfl, rfl, rfl⟩)), Or.inr ⟨rfl, rfl⟩⟩⟩)
    · skip
      have e_10 : ¬ ((r_7 : Int32).toInt = (0 : Int32).toInt) := fun h => c_10 (i_eq.mpr h)
      have : (0 : Int32).toInt = 0 := by decide
      refine x_aload_n C 0 dX9_set_13 rfl rfl ?_
      refine x_get C 0 1 dX9_set_14 inlX9 rfl (by decide) wd_19 rfl rfl rfl ?_
      refine x_getN C 1 8 dX9_set_17 inlX0 rfl (by decide) nt_20 rfl rfl rfl ?_
      refine x_istore_n C [(3, .int la), (0, .ref hx), (1, .int a), (2, .int b)] dX9_set_20 rfl (by decide) rfl ?_
      refine x_aload_n C 1 dX9_set_21 rfl rfl ?_
      refine x_get C 0 1 dX9_set_22 inlX9 rfl (by decide) wd_19 rfl rfl rfl ?_
      refine x_iload_n C 3 dX9_set_25 rfl rfl ?_
      refine x_putN C 1 8 (ty := .int) [(hx, .inr (9, [.ref hp, .ref hb, .ref hi, .int kp, .ref he, .ref hn, .ref ho, .ref hg, .ref hl, .ref hr])), (hb, .inr (0, [.ref b0, .ref b1, .ref b2, .ref b3, .ref b4, .ref b5, .ref b6, .int wc, .int b, .int br])), (b0, .inl (cI, 4, .inl pa)), (b1, .inl (cI, 16, .inl mi)), (b2, .inl (cI, 4, .inl ga)), (b3, .inl (cI, 4, .inl te)), (b4, .inl (cI, 4, .inl kn)), (b5, .inl (cI, 6, .inl wa)), (b6, .inl (cI, 16, .inl ne)), (hn, .inr (4, [.ref hb, .ref hm, .ref n0, .ref n1, .ref n2, .ref n3, .int nr, .int nz, .int nt, .int nd]))] dX9_set_26 inlX0 tyX0 tyX0_ok nmX0 rfl (by decide) nt_20 rfl rfl rfl rfl rfl rfl (Nat.le_of_ble_eq_true rfl) rfl ?_
      refine x_aload_n C 1 dX9_set_29 rfl rfl ?_
      refine x_get C 0 5 dX9_set_30 inlX9 rfl (by decide) wd_29 rfl rfl rfl ?_
      refine x_callV C [] [(hx, .inr (9, [.ref hp, .ref hb, .ref hi, .int kp, .ref he, .ref hn, .ref ho, .ref hg, .ref hl, .ref hr])), (hb, .inr (0, [.ref b0, .ref b1, .ref b2, .ref b3, .ref b4, .ref b5, .ref b6, .int wc, .int b, .int br])), (b0, .inl (cI, 4, .inl pa)), (b1, .inl (cI, 16, .inl mi)), (b2, .inl (cI, 4, .inl ga)), (b3, .inl (cI, 4, .inl te)), (b4, .inl (cI, 4, .inl kn)), (b5, .inl (cI, 6, .inl wa)), (b6, .inl (cI, 16, .inl ne))] [9] [0, 1, 2, 3, 4, 5, 6, 7, 8] (q0 := 0) (c_X4_forget (xl X) (xD X) (xt X) hT hn hb hm n0 n1 n2 n3 nr nz nt nd ) dX9_set_33 wd_251 wd_252 wd_253 wd_28 wd_254 (np := 0) ⟨by decide, by decide, by decide +kernel⟩ rfl rfl (Nat.le_of_ble_eq_true rfl) (by decide) rfl rfl rfl rfl (by decide) rfl (by decide) (by decide) (fun v W1 h => ?_)
      obtain ⟨_, rfl, rfl, h_33⟩ := h
      show V X 4 [(hx, .inr (9, [.ref hp, .ref hb, .ref hi, .int kp, .ref he, .ref hn, .ref ho, .ref hg, .ref hl, .ref hr])), (hb, .inr (0, [.ref b0, .ref b1, .ref b2, .ref b3, .ref b4, .ref b5, .ref b6, .int wc, .int b, .int br])), (b0, .inl (cI, 4, .inl pa)), (b1, .inl (cI, 16, .inl mi)), (b2, .inl (cI, 4, .inl ga)), (b3, .inl (cI, 4, .inl te)), (b4, .inl (cI, 4, .inl kn)), (b5, .inl (cI, 6, .inl wa)), (b6, .inl (cI, 16, .inl ne)), (hn, .inr (4, [.ref hb, .ref hm, .ref n0, .ref n1, .ref n2, .ref n3, .int nr, .int nz, .int 0, .int nd]))] [(3, .int la), (0, .ref hx), (1, .int a), (2, .int b)] [] 36 0 0
      refine x_iload_n C 0 dX9_set_36 rfl rfl ?_
      exact x_iret C dX9_set_37 (Nat.zero_le _) (Nat.zero_le _) (by rw [eO]; exact ⟨la, b, br, 0, rfl, rfl, ⟨(Or.inl ⟨by omega, rfl, rfl, rfl⟩), Or.inl rfl⟩⟩)
abbrev rm_X9_refusedEvening : Room := { frames := 5, cells := 0, slots := 0, locals := 113 }
set_option maxHeartbeats 4000000 in
set_option maxRecDepth 100000 in
theorem c_X9_refusedEvening (l : Launch) (D : va_G) (tys : List (ClassId × FieldType)) {cI cJ cZ cB : ClassId} (hT : Ty tys cI cJ cZ cB) (hx hp hb hi he hn ho hg hl hr hm b0 b1 b2 b3 b4 b5 b6 hs : Nat) (pa mi ga te kn wa ne f : Nat → Int32) (kp ep ew eo ed em mn mo mu mg mt mb wc la br z : Int32) (hz : 0 ≤ z.toInt ∧ z.toInt ≤ 30) : Cn l D tys yX9_refusedEvening cX9_refusedEvening 1 (some .int) rm_X9_refusedEvening [(hx, .inr (9, [.ref hp, .ref hb, .ref hi, .int kp, .ref he, .ref hn, .ref ho, .ref hg, .ref hl, .ref hr])), (he, .inr (1, [.ref hb, .ref hp, .ref hm, .int ep, .int ew, .int eo, .int ed, .int em])), (hm, .inr (3, [.ref hb, .int mn, .int mo, .int mu, .int mg, .int mt, .int mb])), (hb, .inr (0, [.ref b0, .ref b1, .ref b2, .ref b3, .ref b4, .ref b5, .ref b6, .int wc, .int la, .int br])), (b0, .inl (cI, 4, .inl pa)), (b1, .inl (cI, 16, .inl mi)), (b2, .inl (cI, 4, .inl ga)), (b3, .inl (cI, 4, .inl te)), (b4, .inl (cI, 4, .inl kn)), (b5, .inl (cI, 6, .inl wa)), (b6, .inl (cI, 16, .inl ne)), (hp, .inr (6, [.ref hs, .int z])), (hs, .inl (cI, 30, .inl f))] [.ref hx] (fun v W1 => ∃ (r ep2 ew2 eo2 ed2 em2 mn2 mo2 mu2 mg2 mt2 mb2 : Int32), v = some (.int r) ∧ W1 = [(hx, .inr (9, [.ref hp, .ref hb, .ref hi, .int kp, .ref he, .ref hn, .ref ho, .ref hg, .ref hl, .ref hr])), (he, .inr (1, [.ref hb, .ref hp, .ref hm, .int ep2, .int ew2, .int eo2, .int ed2, .int em2])), (hm, .inr (3, [.ref hb, .int mn2, .int mo2, .int mu2, .int mg2, .int mt2, .int mb2])), (hb, .inr (0, [.ref b0, .ref b1, .ref b2, .ref b3, .ref b4, .ref b5, .ref b6, .int wc, .int la, .int br])), (b0, .inl (cI, 4, .inl pa)), (b1, .inl (cI, 16, .inl mi)), (b2, .inl (cI, 4, .inl ga)), (b3, .inl (cI, 4, .inl te)), (b4, .inl (cI, 4, .inl kn)), (b5, .inl (cI, 6, .inl wa)), (b6, .inl (cI, 16, .inl ne)), (hp, .inr (6, [.ref hs, .int z])), (hs, .inl (cI, 30, .inl f))] ∧ ((¬ rfZ f 97 100 z = -6 ∧ r = -5) ∨ (rfZ f 97 100 z = -6 ∧ ∃ g : Int32, JDG pa ga te mi ne la br f z.toInt.toNat g ep2 ew2 eo2 ed2 em2 ∧ ((g.toInt = 1 ∧ r = 0) ∨ (g.toInt = 0 ∧ r = -3))))) := by
  refine Cn.of (by decide) (Nat.le_of_ble_eq_true rfl) ?_ ?_ (fun X eL eD eT eO eK eN eM C => ?_)
  · intro h; cases h
  · intro v ws h; obtain ⟨_, _, _, _, _, _, _, _, _, _, _, _, rfl, rfl, _⟩ := h; exact Or.inl rfl
  subst eL eD eT
  show V X 1 [(hx, .inr (9, [.ref hp, .ref hb, .ref hi, .int kp, .ref he, .ref hn, .ref ho, .ref hg, .ref hl, .ref hr])), (he, .inr (1, [.ref hb, .ref hp, .ref hm, .int ep, .int ew, .int eo, .int ed, .int em])), (hm, .inr (3, [.ref hb, .int mn, .int mo, .int mu, .int mg, .int mt, .int mb])), (hb, .inr (0, [.ref b0, .ref b1, .ref b2, .ref b3, .ref b4, .ref b5, .ref b6, .int wc, .int la, .int br])), (b0, .inl (cI, 4, .inl pa)), (b1, .inl (cI, 16, .inl mi)), (b2, .inl (cI, 4, .inl ga)), (b3, .inl (cI, 4, .inl te)), (b4, .inl (cI, 4, .inl kn)), (b5, .inl (cI, 6, .inl wa)), (b6, .inl (cI, 16, .inl ne)), (hp, .inr (6, [.ref hs, .int z])), (hs, .inl (cI, 30, .inl f))] [(0, .ref hx)] [] 0 0 0
  refine x_aload_n C 0 dX9_refusedEvening_0 rfl rfl ?_
  refine x_get C 0 0 dX9_refusedEvening_1 inlX9 rfl (by decide) wd_15 rfl rfl rfl ?_
  refine x_iconst C 1 dX9_refusedEvening_4 (by decide) ?_
  refine x_callV C [.int 1] [(hx, .inr (9, [.ref hp, .ref hb, .ref hi, .int kp, .ref he, .ref hn, .ref ho, .ref hg, .ref hl, .ref hr])), (he, .inr (1, [.ref hb, .ref hp, .ref hm, .int ep, .int ew, .int eo, .int ed, .int em])), (hm, .inr (3, [.ref hb, .int mn, .int mo, .int mu, .int mg, .int mt, .int mb])), (hb, .inr (0, [.ref b0, .ref b1, .ref b2, .ref b3, .ref b4, .ref b5, .ref b6, .int wc, .int la, .int br])), (b0, .inl (cI, 4, .inl pa)), (b1, .inl (cI, 16, .inl mi)), (b2, .inl (cI, 4, .inl ga)), (b3, .inl (cI, 4, .inl te)), (b4, .inl (cI, 4, .inl kn)), (b5, .inl (cI, 6, .inl wa)), (b6, .inl (cI, 16, .inl ne))] [11, 12] [0, 1, 2, 3, 4, 5, 6, 7, 8, 9, 10] (q0 := 0) (c_X6_faultAs (xl X) (xD X) (xt X) hT hp hs f z 1 (by omega)) dX9_refusedEvening_5 wd_189 wd_190 wd_191 wd_14 wd_192 (np := 1) ⟨by decide, by decide, by decide +kernel⟩ rfl rfl (Nat.le_of_ble_eq_true rfl) (by decide) rfl rfl rfl rfl (by decide) rfl (by decide) (by decide) (fun v W1 h => ?_)
  obtain ⟨r_5, rfl, rfl, h_5⟩ := h
  have : (1 : Int32).toInt = 1 := by decide
  show V X 1 [(hx, .inr (9, [.ref hp, .ref hb, .ref hi, .int kp, .ref he, .ref hn, .ref ho, .ref hg, .ref hl, .ref hr])), (he, .inr (1, [.ref hb, .ref hp, .ref hm, .int ep, .int ew, .int eo, .int ed, .int em])), (hm, .inr (3, [.ref hb, .int mn, .int mo, .int mu, .int mg, .int mt, .int mb])), (hb, .inr (0, [.ref b0, .ref b1, .ref b2, .ref b3, .ref b4, .ref b5, .ref b6, .int wc, .int la, .int br])), (b0, .inl (cI, 4, .inl pa)), (b1, .inl (cI, 16, .inl mi)), (b2, .inl (cI, 4, .inl ga)), (b3, .inl (cI, 4, .inl te)), (b4, .inl (cI, 4, .inl kn)), (b5, .inl (cI, 6, .inl wa)), (b6, .inl (cI, 16, .inl ne)), (hp, .inr (6, [.ref hs, .int z])), (hs, .inl (cI, 30, .inl f))] [(0, .ref hx)] [.int r_5] 8 0 0
  refine x_bipush C (-6) dX9_refusedEvening_8 (by decide) ?_
  refine x_icmp_eq C 16 dX9_refusedEvening_10 (by decide) (fun c_10 => ?_) (fun c_10 => ?_)
  · skip
    have e_10 : (r_5 : Int32).toInt = ((-6) : Int32).toInt := i_eq.mp c_10
    have : ((-6) : Int32).toInt = -6 := by decide
    refine x_aload_n C 0 dX9_refusedEvening_16 rfl rfl ?_
    refine x_get C 0 4 dX9_refusedEvening_17 inlX9 rfl (by decide) wd_25 rfl rfl rfl ?_
    refine x_callV C [] [(hx, .inr (9, [.ref hp, .ref hb, .ref hi, .int kp, .ref he, .ref hn, .ref ho, .ref hg, .ref hl, .ref hr]))] [1, 2, 3, 4, 5, 6, 7, 8, 9, 10, 11, 12] [0] (q0 := 0) (c_X1_isGood (xl X) (xD X) (xt X) hT he ep ew eo ed em hm mn mo mu mg mt mb hb b0 b1 b2 b3 b4 b5 b6 pa mi ga te kn wa ne wc la br hp hs f z (by omega) (FR_of (h_5.2.1 (by omega)) hz (by omega))) dX9_refusedEvening_20 wd_353 wd_354 wd_355 wd_24 wd_356 (np := 0) ⟨by decide, by decide, by decide +kernel⟩ rfl rfl (Nat.le_of_ble_eq_true rfl) (by decide) rfl rfl rfl rfl (by decide) rfl (by decide) (by decide) (fun v W1 h => ?_)
    obtain ⟨r_20, ep2_20, ew2_20, eo2_20, ed2_20, em2_20, mn2_20, mo2_20, mu2_20, mg2_20, mt2_20, mb2_20, rfl, rfl, h_20⟩ := h
    show V X 1 [(hx, .inr (9, [.ref hp, .ref hb, .ref hi, .int kp, .ref he, .ref hn, .ref ho, .ref hg, .ref hl, .ref hr])), (he, .inr (1, [.ref hb, .ref hp, .ref hm, .int ep2_20, .int ew2_20, .int eo2_20, .int ed2_20, .int em2_20])), (hm, .inr (3, [.ref hb, .int mn2_20, .int mo2_20, .int mu2_20, .int mg2_20, .int mt2_20, .int mb2_20])), (hb, .inr (0, [.ref b0, .ref b1, .ref b2, .ref b3, .ref b4, .ref b5, .ref b6, .int wc, .int la, .int br])), (b0, .inl (cI, 4, .inl pa)), (b1, .inl (cI, 16, .inl mi)), (b2, .inl (cI, 4, .inl ga)), (b3, .inl (cI, 4, .inl te)), (b4, .inl (cI, 4, .inl kn)), (b5, .inl (cI, 6, .inl wa)), (b6, .inl (cI, 16, .inl ne)), (hp, .inr (6, [.ref hs, .int z])), (hs, .inl (cI, 30, .inl f))] [(0, .ref hx)] [.int r_20] 23 0 0
    refine x_if_eq C 30 dX9_refusedEvening_23 (by decide) (fun c_23 => ?_) (fun c_23 => ?_)
    · skip
      have e_23 : (r_20 : Int32).toInt = (0 : Int32).toInt := i_eq.mp c_23
      have : (0 : Int32).toInt = 0 := by decide
      refine x_bipush C (-3) dX9_refusedEvening_30 (by decide) ?_
      have : ((-3) : Int32).toInt = -3 := by decide
      exact x_iret C dX9_refusedEvening_32 (Nat.zero_le _) (Nat.zero_le _) (by rw [eO]; exact ⟨((-3)), ep2_20, ew2_20, eo2_20, ed2_20, em2_20, mn2_20, mo2_20, mu2_20, mg2_20, mt2_20, mb2_20, rfl, rfl, (Or.inr ⟨(h_5.2.1 (by omega)).symm.trans c_10, r_20, h_20.2, Or.inr ⟨by omega, rfl⟩⟩)⟩)
    · skip
      have e_23 : ¬ ((r_20 : Int32).toInt = (0 : Int32).toInt) := fun h => c_23 (i_eq.mpr h)
      have : (0 : Int32).toInt = 0 := by decide
      refine x_iconst C 0 dX9_refusedEvening_26 (by decide) ?_
      refine x_goto C 32 dX9_refusedEvening_27 (by decide) ?_
      have : (0 : Int32).toInt = 0 := by decide
      exact x_iret C dX9_refusedEvening_32 (Nat.zero_le _) (Nat.zero_le _) (by rw [eO]; exact ⟨0, ep2_20, ew2_20, eo2_20, ed2_20, em2_20, mn2_20, mo2_20, mu2_20, mg2_20, mt2_20, mb2_20, rfl, rfl, (Or.inr ⟨(h_5.2.1 (by omega)).symm.trans c_10, r_20, h_20.2, Or.inl ⟨by omega, rfl⟩⟩)⟩)
  · skip
    have e_10 : ¬ ((r_5 : Int32).toInt = ((-6) : Int32).toInt) := fun h => c_10 (i_eq.mpr h)
    have : ((-6) : Int32).toInt = -6 := by decide
    refine x_bipush C (-5) dX9_refusedEvening_13 (by decide) ?_
    have : ((-5) : Int32).toInt = -5 := by decide
    exact x_iret C dX9_refusedEvening_15 (Nat.zero_le _) (Nat.zero_le _) (by rw [eO]; exact ⟨((-5)), ep, ew, eo, ed, em, mn, mo, mu, mg, mt, mb, rfl, rfl, (Or.inl ⟨fun h => c_10 ((h_5.2.1 (by omega)).trans h), rfl⟩)⟩)
abbrev rm_X9_judge : Room := { frames := 5, cells := 0, slots := 0, locals := 113 }
set_option maxHeartbeats 4000000 in
set_option maxRecDepth 100000 in
theorem c_X9_judge (l : Launch) (D : va_G) (tys : List (ClassId × FieldType)) {cI cJ cZ cB : ClassId} (hT : Ty tys cI cJ cZ cB) (hx hp hb hi he hn ho hg hl hr hm b0 b1 b2 b3 b4 b5 b6 hs : Nat) (pa mi ga te kn wa ne f : Nat → Int32) (kp ep ew eo ed em mn mo mu mg mt mb wc la br z : Int32) (x : Int32) (hz : 0 ≤ z.toInt ∧ z.toInt ≤ 30) : Cn l D tys yX9_judge cX9_judge 2 (some .int) rm_X9_judge [(hx, .inr (9, [.ref hp, .ref hb, .ref hi, .int kp, .ref he, .ref hn, .ref ho, .ref hg, .ref hl, .ref hr])), (he, .inr (1, [.ref hb, .ref hp, .ref hm, .int ep, .int ew, .int eo, .int ed, .int em])), (hm, .inr (3, [.ref hb, .int mn, .int mo, .int mu, .int mg, .int mt, .int mb])), (hb, .inr (0, [.ref b0, .ref b1, .ref b2, .ref b3, .ref b4, .ref b5, .ref b6, .int wc, .int la, .int br])), (b0, .inl (cI, 4, .inl pa)), (b1, .inl (cI, 16, .inl mi)), (b2, .inl (cI, 4, .inl ga)), (b3, .inl (cI, 4, .inl te)), (b4, .inl (cI, 4, .inl kn)), (b5, .inl (cI, 6, .inl wa)), (b6, .inl (cI, 16, .inl ne)), (hp, .inr (6, [.ref hs, .int z])), (hs, .inl (cI, 30, .inl f))] [.ref hx, .int x] (fun v W1 => ∃ (r ep2 ew2 eo2 ed2 em2 mn2 mo2 mu2 mg2 mt2 mb2 : Int32), v = some (.int r) ∧ W1 = [(hx, .inr (9, [.ref hp, .ref hb, .ref hi, .int kp, .ref he, .ref hn, .ref ho, .ref hg, .ref hl, .ref hr])), (he, .inr (1, [.ref hb, .ref hp, .ref hm, .int ep2, .int ew2, .int eo2, .int ed2, .int em2])), (hm, .inr (3, [.ref hb, .int mn2, .int mo2, .int mu2, .int mg2, .int mt2, .int mb2])), (hb, .inr (0, [.ref b0, .ref b1, .ref b2, .ref b3, .ref b4, .ref b5, .ref b6, .int wc, .int la, .int br])), (b0, .inl (cI, 4, .inl pa)), (b1, .inl (cI, 16, .inl mi)), (b2, .inl (cI, 4, .inl ga)), (b3, .inl (cI, 4, .inl te)), (b4, .inl (cI, 4, .inl kn)), (b5, .inl (cI, 6, .inl wa)), (b6, .inl (cI, 16, .inl ne)), (hp, .inr (6, [.ref hs, .int z])), (hs, .inl (cI, 30, .inl f))] ∧ ((¬ (0 ≤ x.toInt ∧ x.toInt ≤ 1) ∧ r = -2) ∨ ((0 ≤ x.toInt ∧ x.toInt ≤ 1) ∧ ((¬ rfZ f 97 100 z = -6 ∧ r = -5) ∨ (rfZ f 97 100 z = -6 ∧ ∃ g : Int32, JDG pa ga te mi ne la br f z.toInt.toNat g ep2 ew2 eo2 ed2 em2 ∧ ((g.toInt = 1 ∧ r = -6) ∨ (g.toInt = 0 ∧ x.toInt = 0 ∧ r = ep2) ∨ (g.toInt = 0 ∧ x.toInt = 1 ∧ r = ew2))))))) := by
  refine Cn.of (by decide) (Nat.le_of_ble_eq_true rfl) ?_ ?_ (fun X eL eD eT eO eK eN eM C => ?_)
  · intro h; cases h
  · intro v ws h; obtain ⟨_, _, _, _, _, _, _, _, _, _, _, _, rfl, rfl, _⟩ := h; exact Or.inl rfl
  subst eL eD eT
  show V X 2 [(hx, .inr (9, [.ref hp, .ref hb, .ref hi, .int kp, .ref he, .ref hn, .ref ho, .ref hg, .ref hl, .ref hr])), (he, .inr (1, [.ref hb, .ref hp, .ref hm, .int ep, .int ew, .int eo, .int ed, .int em])), (hm, .inr (3, [.ref hb, .int mn, .int mo, .int mu, .int mg, .int mt, .int mb])), (hb, .inr (0, [.ref b0, .ref b1, .ref b2, .ref b3, .ref b4, .ref b5, .ref b6, .int wc, .int la, .int br])), (b0, .inl (cI, 4, .inl pa)), (b1, .inl (cI, 16, .inl mi)), (b2, .inl (cI, 4, .inl ga)), (b3, .inl (cI, 4, .inl te)), (b4, .inl (cI, 4, .inl kn)), (b5, .inl (cI, 6, .inl wa)), (b6, .inl (cI, 16, .inl ne)), (hp, .inr (6, [.ref hs, .int z])), (hs, .inl (cI, 30, .inl f))] [(0, .ref hx), (1, .int x)] [] 0 0 0
  refine x_iload_n C 1 dX9_judge_0 rfl rfl ?_
  refine x_iconst C 0 dX9_judge_1 (by decide) ?_
  refine x_iconst C 1 dX9_judge_2 (by decide) ?_
  refine x_callS C [.int x, .int 0, .int 1] [(hx, .inr (9, [.ref hp, .ref hb, .ref hi, .int kp, .ref he, .ref hn, .ref ho, .ref hg, .ref hl, .ref hr])), (he, .inr (1, [.ref hb, .ref hp, .ref hm, .int ep, .int ew, .int eo, .int ed, .int em])), (hm, .inr (3, [.ref hb, .int mn, .int mo, .int mu, .int mg, .int mt, .int mb])), (hb, .inr (0, [.ref b0, .ref b1, .ref b2, .ref b3, .ref b4, .ref b5, .ref b6, .int wc, .int la, .int br])), (b0, .inl (cI, 4, .inl pa)), (b1, .inl (cI, 16, .inl mi)), (b2, .inl (cI, 4, .inl ga)), (b3, .inl (cI, 4, .inl te)), (b4, .inl (cI, 4, .inl kn)), (b5, .inl (cI, 6, .inl wa)), (b6, .inl (cI, 16, .inl ne)), (hp, .inr (6, [.ref hs, .int z])), (hs, .inl (cI, 30, .inl f))] [] [0, 1, 2, 3, 4, 5, 6, 7, 8, 9, 10, 11, 12] (c_X9_isIn (xl X) (xD X) (xt X) hT x 0 1 ) dX9_judge_3 wd_186 wd_187 wd_2 wd_188 (np := 3) ⟨by decide, by decide, by decide +kernel⟩ rfl rfl (Nat.le_of_ble_eq_true rfl) (by decide) rfl (by decide) rfl (by decide) (by decide) (fun v W1 h => ?_)
  obtain ⟨r_3, rfl, rfl, h_3⟩ := h
  have : (0 : Int32).toInt = 0 := by decide
  have : (1 : Int32).toInt = 1 := by decide
  show V X 2 [(hx, .inr (9, [.ref hp, .ref hb, .ref hi, .int kp, .ref he, .ref hn, .ref ho, .ref hg, .ref hl, .ref hr])), (he, .inr (1, [.ref hb, .ref hp, .ref hm, .int ep, .int ew, .int eo, .int ed, .int em])), (hm, .inr (3, [.ref hb, .int mn, .int mo, .int mu, .int mg, .int mt, .int mb])), (hb, .inr (0, [.ref b0, .ref b1, .ref b2, .ref b3, .ref b4, .ref b5, .ref b6, .int wc, .int la, .int br])), (b0, .inl (cI, 4, .inl pa)), (b1, .inl (cI, 16, .inl mi)), (b2, .inl (cI, 4, .inl ga)), (b3, .inl (cI, 4, .inl te)), (b4, .inl (cI, 4, .inl kn)), (b5, .inl (cI, 6, .inl wa)), (b6, .inl (cI, 16, .inl ne)), (hp, .inr (6, [.ref hs, .int z])), (hs, .inl (cI, 30, .inl f))] [(0, .ref hx), (1, .int x)] [.int r_3] 6 0 0
  refine x_if_ne C 12 dX9_judge_6 (by decide) (fun c_6 => ?_) (fun c_6 => ?_)
  · skip
    have e_6 : ¬ ((r_3 : Int32).toInt = (0 : Int32).toInt) := fun h => c_6 (i_eq.mpr h)
    have : (0 : Int32).toInt = 0 := by decide
    refine x_aload_n C 0 dX9_judge_12 rfl rfl ?_
    refine x_get C 0 0 dX9_judge_13 inlX9 rfl (by decide) wd_15 rfl rfl rfl ?_
    refine x_iconst C 1 dX9_judge_16 (by decide) ?_
    refine x_callV C [.int 1] [(hx, .inr (9, [.ref hp, .ref hb, .ref hi, .int kp, .ref he, .ref hn, .ref ho, .ref hg, .ref hl, .ref hr])), (he, .inr (1, [.ref hb, .ref hp, .ref hm, .int ep, .int ew, .int eo, .int ed, .int em])), (hm, .inr (3, [.ref hb, .int mn, .int mo, .int mu, .int mg, .int mt, .int mb])), (hb, .inr (0, [.ref b0, .ref b1, .ref b2, .ref b3, .ref b4, .ref b5, .ref b6, .int wc, .int la, .int br])), (b0, .inl (cI, 4, .inl pa)), (b1, .inl (cI, 16, .inl mi)), (b2, .inl (cI, 4, .inl ga)), (b3, .inl (cI, 4, .inl te)), (b4, .inl (cI, 4, .inl kn)), (b5, .inl (cI, 6, .inl wa)), (b6, .inl (cI, 16, .inl ne))] [11, 12] [0, 1, 2, 3, 4, 5, 6, 7, 8, 9, 10] (q0 := 0) (c_X6_faultAs (xl X) (xD X) (xt X) hT hp hs f z 1 (by omega)) dX9_judge_17 wd_189 wd_190 wd_191 wd_14 wd_192 (np := 1) ⟨by decide, by decide, by decide +kernel⟩ rfl rfl (Nat.le_of_ble_eq_true rfl) (by decide) rfl rfl rfl rfl (by decide) rfl (by decide) (by decide) (fun v W1 h => ?_)
    obtain ⟨r_17, rfl, rfl, h_17⟩ := h
    have : (1 : Int32).toInt = 1 := by decide
    show V X 2 [(hx, .inr (9, [.ref hp, .ref hb, .ref hi, .int kp, .ref he, .ref hn, .ref ho, .ref hg, .ref hl, .ref hr])), (he, .inr (1, [.ref hb, .ref hp, .ref hm, .int ep, .int ew, .int eo, .int ed, .int em])), (hm, .inr (3, [.ref hb, .int mn, .int mo, .int mu, .int mg, .int mt, .int mb])), (hb, .inr (0, [.ref b0, .ref b1, .ref b2, .ref b3, .ref b4, .ref b5, .ref b6, .int wc, .int la, .int br])), (b0, .inl (cI, 4, .inl pa)), (b1, .inl (cI, 16, .inl mi)), (b2, .inl (cI, 4, .inl ga)), (b3, .inl (cI, 4, .inl te)), (b4, .inl (cI, 4, .inl kn)), (b5, .inl (cI, 6, .inl wa)), (b6, .inl (cI, 16, .inl ne)), (hp, .inr (6, [.ref hs, .int z])), (hs, .inl (cI, 30, .inl f))] [(0, .ref hx), (1, .int x)] [.int r_17] 20 0 0
    refine x_bipush C (-6) dX9_judge_20 (by decide) ?_
    refine x_icmp_eq C 28 dX9_judge_22 (by decide) (fun c_22 => ?_) (fun c_22 => ?_)
    · skip
      have e_22 : (r_17 : Int32).toInt = ((-6) : Int32).toInt := i_eq.mp c_22
      have : ((-6) : Int32).toInt = -6 := by decide
      refine x_aload_n C 0 dX9_judge_28 rfl rfl ?_
      refine x_get C 0 4 dX9_judge_29 inlX9 rfl (by decide) wd_25 rfl rfl rfl ?_
      refine x_callV C [] [(hx, .inr (9, [.ref hp, .ref hb, .ref hi, .int kp, .ref he, .ref hn, .ref ho, .ref hg, .ref hl, .ref hr]))] [1, 2, 3, 4, 5, 6, 7, 8, 9, 10, 11, 12] [0] (q0 := 0) (c_X1_isGood (xl X) (xD X) (xt X) hT he ep ew eo ed em hm mn mo mu mg mt mb hb b0 b1 b2 b3 b4 b5 b6 pa mi ga te kn wa ne wc la br hp hs f z (by omega) (FR_of (h_17.2.1 (by omega)) hz (by omega))) dX9_judge_32 wd_353 wd_354 wd_355 wd_24 wd_356 (np := 0) ⟨by decide, by decide, by decide +kernel⟩ rfl rfl (Nat.le_of_ble_eq_true rfl) (by decide) rfl rfl rfl rfl (by decide) rfl (by decide) (by decide) (fun v W1 h => ?_)
      obtain ⟨r_32, ep2_32, ew2_32, eo2_32, ed2_32, em2_32, mn2_32, mo2_32, mu2_32, mg2_32, mt2_32, mb2_32, rfl, rfl, h_32⟩ := h
      show V X 2 [(hx, .inr (9, [.ref hp, .ref hb, .ref hi, .int kp, .ref he, .ref hn, .ref ho, .ref hg, .ref hl, .ref hr])), (he, .inr (1, [.ref hb, .ref hp, .ref hm, .int ep2_32, .int ew2_32, .int eo2_32, .int ed2_32, .int em2_32])), (hm, .inr (3, [.ref hb, .int mn2_32, .int mo2_32, .int mu2_32, .int mg2_32, .int mt2_32, .int mb2_32])), (hb, .inr (0, [.ref b0, .ref b1, .ref b2, .ref b3, .ref b4, .ref b5, .ref b6, .int wc, .int la, .int br])), (b0, .inl (cI, 4, .inl pa)), (b1, .inl (cI, 16, .inl mi)), (b2, .inl (cI, 4, .inl ga)), (b3, .inl (cI, 4, .inl te)), (b4, .inl (cI, 4, .inl kn)), (b5, .inl (cI, 6, .inl wa)), (b6, .inl (cI, 16, .inl ne)), (hp, .inr (6, [.ref hs, .int z])), (hs, .inl (cI, 30, .inl f))] [(0, .ref hx), (1, .int x)] [.int r_32] 35 0 0
      refine x_if_eq C 41 dX9_judge_35 (by decide) (fun c_35 => ?_) (fun c_35 => ?_)
      · skip
        have e_35 : (r_32 : Int32).toInt = (0 : Int32).toInt := i_eq.mp c_35
        have : (0 : Int32).toInt = 0 := by decide
        refine x_iload_n C 1 dX9_judge_41 rfl rfl ?_
        refine x_if_ne C 55 dX9_judge_42 (by decide) (fun c_42 => ?_) (fun c_42 => ?_)
        · skip
          have e_42 : ¬ ((x : Int32).toInt = (0 : Int32).toInt) := fun h => c_42 (i_eq.mpr h)
          have : (0 : Int32).toInt = 0 := by decide
          refine x_aload_n C 0 dX9_judge_55 rfl rfl ?_
          refine x_get C 0 4 dX9_judge_56 inlX9 rfl (by decide) wd_25 rfl rfl rfl ?_
          refine x_getN C 1 4 dX9_judge_59 inlX1 rfl (by decide) nt_27 rfl rfl rfl ?_
          exact x_iret C dX9_judge_62 (Nat.zero_le _) (Nat.zero_le _) (by rw [eO]; exact ⟨ew2_32, ep2_32, ew2_32, eo2_32, ed2_32, em2_32, mn2_32, mo2_32, mu2_32, mg2_32, mt2_32, mb2_32, rfl, rfl, (Or.inr ⟨by omega, Or.inr ⟨(h_17.2.1 (by omega)).symm.trans c_22, r_32, h_32.2, Or.inr (Or.inr ⟨by omega, by omega, rfl⟩)⟩⟩)⟩)
        · skip
          have e_42 : (x : Int32).toInt = (0 : Int32).toInt := i_eq.mp c_42
          have : (0 : Int32).toInt = 0 := by decide
          refine x_aload_n C 0 dX9_judge_45 rfl rfl ?_
          refine x_get C 0 4 dX9_judge_46 inlX9 rfl (by decide) wd_25 rfl rfl rfl ?_
          refine x_getN C 1 3 dX9_judge_49 inlX1 rfl (by decide) nt_26 rfl rfl rfl ?_
          refine x_goto C 62 dX9_judge_52 (by decide) ?_
          exact x_iret C dX9_judge_62 (Nat.zero_le _) (Nat.zero_le _) (by rw [eO]; exact ⟨ep2_32, ep2_32, ew2_32, eo2_32, ed2_32, em2_32, mn2_32, mo2_32, mu2_32, mg2_32, mt2_32, mb2_32, rfl, rfl, (Or.inr ⟨by omega, Or.inr ⟨(h_17.2.1 (by omega)).symm.trans c_22, r_32, h_32.2, Or.inr (Or.inl ⟨by omega, by omega, rfl⟩)⟩⟩)⟩)
      · skip
        have e_35 : ¬ ((r_32 : Int32).toInt = (0 : Int32).toInt) := fun h => c_35 (i_eq.mpr h)
        have : (0 : Int32).toInt = 0 := by decide
        refine x_bipush C (-6) dX9_judge_38 (by decide) ?_
        have : ((-6) : Int32).toInt = -6 := by decide
        exact x_iret C dX9_judge_40 (Nat.zero_le _) (Nat.zero_le _) (by rw [eO]; exact ⟨((-6)), ep2_32, ew2_32, eo2_32, ed2_32, em2_32, mn2_32, mo2_32, mu2_32, mg2_32, mt2_32, mb2_32, rfl, rfl, (Or.inr ⟨by omega, Or.inr ⟨(h_17.2.1 (by omega)).symm.trans c_22, r_32, h_32.2, Or.inl ⟨by omega, rfl⟩⟩⟩)⟩)
    · skip
      have e_22 : ¬ ((r_17 : Int32).toInt = ((-6) : Int32).toInt) := fun h => c_22 (i_eq.mpr h)
      have : ((-6) : Int32).toInt = -6 := by decide
      refine x_bipush C (-5) dX9_judge_25 (by decide) ?_
      have : ((-5) : Int32).toInt = -5 := by decide
      exact x_iret C dX9_judge_27 (Nat.zero_le _) (Nat.zero_le _) (by rw [eO]; exact ⟨((-5)), ep, ew, eo, ed, em, mn, mo, mu, mg, mt, mb, rfl, rfl, (Or.inr ⟨by omega, Or.inl ⟨fun h => c_22 ((h_17.2.1 (by omega)).trans h), rfl⟩⟩)⟩)
  · skip
    have e_6 : (r_3 : Int32).toInt = (0 : Int32).toInt := i_eq.mp c_6
    have : (0 : Int32).toInt = 0 := by decide
    refine x_bipush C (-2) dX9_judge_9 (by decide) ?_
    have : ((-2) : Int32).toInt = -2 := by decide
    exact x_iret C dX9_judge_11 (Nat.zero_le _) (Nat.zero_le _) (by rw [eO]; exact ⟨((-2)), ep, ew, eo, ed, em, mn, mo, mu, mg, mt, mb, rfl, rfl, (Or.inl ⟨by omega, rfl⟩)⟩)
abbrev rm_X9_evening : Room := { frames := 6, cells := 0, slots := 0, locals := 133 }
set_option maxHeartbeats 4000000 in
set_option maxRecDepth 100000 in
theorem c_X9_evening (l : Launch) (D : va_G) (tys : List (ClassId × FieldType)) {cI cJ cZ cB : ClassId} (hT : Ty tys cI cJ cZ cB) (hx hp hb hi he hn ho hg hl hr hm b0 b1 b2 b3 b4 b5 b6 hs : Nat) (pa mi ga te kn wa ne f : Nat → Int32) (kp ep ew eo ed em mn mo mu mg mt mb wc la br z : Int32) (x : Int32) (hz : 0 ≤ z.toInt ∧ z.toInt ≤ 30) : Cn l D tys yX9_evening cX9_evening 3 (some .int) rm_X9_evening [(hx, .inr (9, [.ref hp, .ref hb, .ref hi, .int kp, .ref he, .ref hn, .ref ho, .ref hg, .ref hl, .ref hr])), (he, .inr (1, [.ref hb, .ref hp, .ref hm, .int ep, .int ew, .int eo, .int ed, .int em])), (hm, .inr (3, [.ref hb, .int mn, .int mo, .int mu, .int mg, .int mt, .int mb])), (hb, .inr (0, [.ref b0, .ref b1, .ref b2, .ref b3, .ref b4, .ref b5, .ref b6, .int wc, .int la, .int br])), (b0, .inl (cI, 4, .inl pa)), (b1, .inl (cI, 16, .inl mi)), (b2, .inl (cI, 4, .inl ga)), (b3, .inl (cI, 4, .inl te)), (b4, .inl (cI, 4, .inl kn)), (b5, .inl (cI, 6, .inl wa)), (b6, .inl (cI, 16, .inl ne)), (hp, .inr (6, [.ref hs, .int z])), (hs, .inl (cI, 30, .inl f))] [.ref hx, .int x] (fun v W1 => ∃ (r ep2 ew2 eo2 ed2 em2 mn2 mo2 mu2 mg2 mt2 mb2 : Int32), v = some (.int r) ∧ W1 = [(hx, .inr (9, [.ref hp, .ref hb, .ref hi, .int kp, .ref he, .ref hn, .ref ho, .ref hg, .ref hl, .ref hr])), (he, .inr (1, [.ref hb, .ref hp, .ref hm, .int ep2, .int ew2, .int eo2, .int ed2, .int em2])), (hm, .inr (3, [.ref hb, .int mn2, .int mo2, .int mu2, .int mg2, .int mt2, .int mb2])), (hb, .inr (0, [.ref b0, .ref b1, .ref b2, .ref b3, .ref b4, .ref b5, .ref b6, .int wc, .int la, .int br])), (b0, .inl (cI, 4, .inl pa)), (b1, .inl (cI, 16, .inl mi)), (b2, .inl (cI, 4, .inl ga)), (b3, .inl (cI, 4, .inl te)), (b4, .inl (cI, 4, .inl kn)), (b5, .inl (cI, 6, .inl wa)), (b6, .inl (cI, 16, .inl ne)), (hp, .inr (6, [.ref hs, .int z])), (hs, .inl (cI, 30, .inl f))] ∧ ((¬ (0 ≤ x.toInt ∧ x.toInt ≤ 2) ∧ r = -2) ∨ ((0 ≤ x.toInt ∧ x.toInt ≤ 2) ∧ ((¬ rfZ f 97 100 z = -6 ∧ r = -5) ∨ (rfZ f 97 100 z = -6 ∧ ∃ g : Int32, JDG pa ga te mi ne la br f z.toInt.toNat g ep2 ew2 eo2 ed2 em2 ∧ ((g.toInt = 0 ∧ r = -3) ∨ (g.toInt = 1 ∧ x.toInt = 0 ∧ r = eo2) ∨ (g.toInt = 1 ∧ x.toInt = 1 ∧ r = ed2) ∨ (g.toInt = 1 ∧ x.toInt = 2 ∧ r = em2))))))) := by
  refine Cn.of (by decide) (Nat.le_of_ble_eq_true rfl) ?_ ?_ (fun X eL eD eT eO eK eN eM C => ?_)
  · intro h; cases h
  · intro v ws h; obtain ⟨_, _, _, _, _, _, _, _, _, _, _, _, rfl, rfl, _⟩ := h; exact Or.inl rfl
  subst eL eD eT
  show V X 3 [(hx, .inr (9, [.ref hp, .ref hb, .ref hi, .int kp, .ref he, .ref hn, .ref ho, .ref hg, .ref hl, .ref hr])), (he, .inr (1, [.ref hb, .ref hp, .ref hm, .int ep, .int ew, .int eo, .int ed, .int em])), (hm, .inr (3, [.ref hb, .int mn, .int mo, .int mu, .int mg, .int mt, .int mb])), (hb, .inr (0, [.ref b0, .ref b1, .ref b2, .ref b3, .ref b4, .ref b5, .ref b6, .int wc, .int la, .int br])), (b0, .inl (cI, 4, .inl pa)), (b1, .inl (cI, 16, .inl mi)), (b2, .inl (cI, 4, .inl ga)), (b3, .inl (cI, 4, .inl te)), (b4, .inl (cI, 4, .inl kn)), (b5, .inl (cI, 6, .inl wa)), (b6, .inl (cI, 16, .inl ne)), (hp, .inr (6, [.ref hs, .int z])), (hs, .inl (cI, 30, .inl f))] [(0, .ref hx), (1, .int x)] [] 0 0 0
  refine x_iload_n C 1 dX9_evening_0 rfl rfl ?_
  refine x_iconst C 0 dX9_evening_1 (by decide) ?_
  refine x_iconst C 2 dX9_evening_2 (by decide) ?_
  refine x_callS C [.int x, .int 0, .int 2] [(hx, .inr (9, [.ref hp, .ref hb, .ref hi, .int kp, .ref he, .ref hn, .ref ho, .ref hg, .ref hl, .ref hr])), (he, .inr (1, [.ref hb, .ref hp, .ref hm, .int ep, .int ew, .int eo, .int ed, .int em])), (hm, .inr (3, [.ref hb, .int mn, .int mo, .int mu, .int mg, .int mt, .int mb])), (hb, .inr (0, [.ref b0, .ref b1, .ref b2, .ref b3, .ref b4, .ref b5, .ref b6, .int wc, .int la, .int br])), (b0, .inl (cI, 4, .inl pa)), (b1, .inl (cI, 16, .inl mi)), (b2, .inl (cI, 4, .inl ga)), (b3, .inl (cI, 4, .inl te)), (b4, .inl (cI, 4, .inl kn)), (b5, .inl (cI, 6, .inl wa)), (b6, .inl (cI, 16, .inl ne)), (hp, .inr (6, [.ref hs, .int z])), (hs, .inl (cI, 30, .inl f))] [] [0, 1, 2, 3, 4, 5, 6, 7, 8, 9, 10, 11, 12] (c_X9_isIn (xl X) (xD X) (xt X) hT x 0 2 ) dX9_evening_3 wd_186 wd_187 wd_2 wd_188 (np := 3) ⟨by decide, by decide, by decide +kernel⟩ rfl rfl (Nat.le_of_ble_eq_true rfl) (by decide) rfl (by decide) rfl (by decide) (by decide) (fun v W1 h => ?_)
  obtain ⟨r_3, rfl, rfl, h_3⟩ := h
  have : (0 : Int32).toInt = 0 := by decide
  have : (2 : Int32).toInt = 2 := by decide
  show V X 3 [(hx, .inr (9, [.ref hp, .ref hb, .ref hi, .int kp, .ref he, .ref hn, .ref ho, .ref hg, .ref hl, .ref hr])), (he, .inr (1, [.ref hb, .ref hp, .ref hm, .int ep, .int ew, .int eo, .int ed, .int em])), (hm, .inr (3, [.ref hb, .int mn, .int mo, .int mu, .int mg, .int mt, .int mb])), (hb, .inr (0, [.ref b0, .ref b1, .ref b2, .ref b3, .ref b4, .ref b5, .ref b6, .int wc, .int la, .int br])), (b0, .inl (cI, 4, .inl pa)), (b1, .inl (cI, 16, .inl mi)), (b2, .inl (cI, 4, .inl ga)), (b3, .inl (cI, 4, .inl te)), (b4, .inl (cI, 4, .inl kn)), (b5, .inl (cI, 6, .inl wa)), (b6, .inl (cI, 16, .inl ne)), (hp, .inr (6, [.ref hs, .int z])), (hs, .inl (cI, 30, .inl f))] [(0, .ref hx), (1, .int x)] [.int r_3] 6 0 0
  refine x_if_ne C 12 dX9_evening_6 (by decide) (fun c_6 => ?_) (fun c_6 => ?_)
  · skip
    have e_6 : ¬ ((r_3 : Int32).toInt = (0 : Int32).toInt) := fun h => c_6 (i_eq.mpr h)
    have : (0 : Int32).toInt = 0 := by decide
    refine x_aload_n C 0 dX9_evening_12 rfl rfl ?_
    refine x_callV C [] [] [0, 1, 2, 3, 4, 5, 6, 7, 8, 9, 10, 11, 12] [] (q0 := 0) (c_X9_refusedEvening (xl X) (xD X) (xt X) hT hx hp hb hi he hn ho hg hl hr hm b0 b1 b2 b3 b4 b5 b6 hs pa mi ga te kn wa ne f kp ep ew eo ed em mn mo mu mg mt mb wc la br z (by omega)) dX9_evening_13 wd_490 wd_491 wd_492 wd_2 wd_493 (np := 0) ⟨by decide, by decide, by decide +kernel⟩ rfl rfl (Nat.le_of_ble_eq_true rfl) (by decide) rfl rfl rfl rfl (by decide) rfl (by decide) (by decide) (fun v W1 h => ?_)
    obtain ⟨r_13, ep2_13, ew2_13, eo2_13, ed2_13, em2_13, mn2_13, mo2_13, mu2_13, mg2_13, mt2_13, mb2_13, rfl, rfl, h_13⟩ := h
    show V X 3 [(hx, .inr (9, [.ref hp, .ref hb, .ref hi, .int kp, .ref he, .ref hn, .ref ho, .ref hg, .ref hl, .ref hr])), (he, .inr (1, [.ref hb, .ref hp, .ref hm, .int ep2_13, .int ew2_13, .int eo2_13, .int ed2_13, .int em2_13])), (hm, .inr (3, [.ref hb, .int mn2_13, .int mo2_13, .int mu2_13, .int mg2_13, .int mt2_13, .int mb2_13])), (hb, .inr (0, [.ref b0, .ref b1, .ref b2, .ref b3, .ref b4, .ref b5, .ref b6, .int wc, .int la, .int br])), (b0, .inl (cI, 4, .inl pa)), (b1, .inl (cI, 16, .inl mi)), (b2, .inl (cI, 4, .inl ga)), (b3, .inl (cI, 4, .inl te)), (b4, .inl (cI, 4, .inl kn)), (b5, .inl (cI, 6, .inl wa)), (b6, .inl (cI, 16, .inl ne)), (hp, .inr (6, [.ref hs, .int z])), (hs, .inl (cI, 30, .inl f))] [(0, .ref hx), (1, .int x)] [.int r_13] 16 0 0
    refine x_istore_n C [(2, .int r_13), (0, .ref hx), (1, .int x)] dX9_evening_16 rfl (by decide) rfl ?_
    refine x_iload_n C 0 dX9_evening_17 rfl rfl ?_
    refine x_if_eq C 23 dX9_evening_18 (by decide) (fun c_18 => ?_) (fun c_18 => ?_)
    · skip
      have e_18 : (r_13 : Int32).toInt = (0 : Int32).toInt := i_eq.mp c_18
      have : (0 : Int32).toInt = 0 := by decide
      refine x_iload_n C 2 dX9_evening_23 rfl rfl ?_
      rcases Classical.em ((x : Int32).toInt = 0) with hk_24 | hk_24
      · refine x_lsw C 52 dX9_evening_24 (by decide) (by first | (rw [hk_24]; done) | (rw [hk_24]; rfl)) (by decide) ?_
        refine x_aload_n C 1 dX9_evening_52 rfl rfl ?_
        refine x_get C 0 4 dX9_evening_53 inlX9 rfl (by decide) wd_25 rfl rfl rfl ?_
        refine x_getN C 1 5 dX9_evening_56 inlX1 rfl (by decide) nt_28 rfl rfl rfl ?_
        exact x_iret C dX9_evening_59 (Nat.zero_le _) (Nat.zero_le _) (by rw [eO]; exact ⟨eo2_13, ep2_13, ew2_13, eo2_13, ed2_13, em2_13, mn2_13, mo2_13, mu2_13, mg2_13, mt2_13, mb2_13, rfl, rfl, (Or.inr ⟨by omega, Or.inr ⟨(ref_yes h_13 (by omega)).1, (ref_yes h_13 (by omega)).2.elim (fun g q => ⟨g, q.1, Or.inr (Or.inl ⟨q.2, by omega, rfl⟩)⟩)⟩⟩)⟩)
      · have hn_24_0 := hk_24
        rcases Classical.em ((x : Int32).toInt = 1) with hk_24 | hk_24
        · refine x_lsw C 60 dX9_evening_24 (by decide) (by first | (rw [hk_24]; done) | (rw [hk_24]; rfl)) (by decide) ?_
          refine x_aload_n C 1 dX9_evening_60 rfl rfl ?_
          refine x_get C 0 4 dX9_evening_61 inlX9 rfl (by decide) wd_25 rfl rfl rfl ?_
          refine x_getN C 1 6 dX9_evening_64 inlX1 rfl (by decide) nt_29 rfl rfl rfl ?_
          exact x_iret C dX9_evening_67 (Nat.zero_le _) (Nat.zero_le _) (by rw [eO]; exact ⟨ed2_13, ep2_13, ew2_13, eo2_13, ed2_13, em2_13, mn2_13, mo2_13, mu2_13, mg2_13, mt2_13, mb2_13, rfl, rfl, (Or.inr ⟨by omega, Or.inr ⟨(ref_yes h_13 (by omega)).1, (ref_yes h_13 (by omega)).2.elim (fun g q => ⟨g, q.1, Or.inr (Or.inr (Or.inl ⟨q.2, by omega, rfl⟩))⟩)⟩⟩)⟩)
        · have hn_24_1 := hk_24
          refine x_lsw C 68 dX9_evening_24 (by decide) (lsw_no (by intro q hq; simp only [List.mem_cons, List.not_mem_nil, or_false] at hq; rcases hq with rfl | rfl <;> (first | exact hn_24_0 | assumption))) (by decide) ?_
          refine x_aload_n C 1 dX9_evening_68 rfl rfl ?_
          refine x_get C 0 4 dX9_evening_69 inlX9 rfl (by decide) wd_25 rfl rfl rfl ?_
          refine x_getN C 1 7 dX9_evening_72 inlX1 rfl (by decide) nt_30 rfl rfl rfl ?_
          exact x_iret C dX9_evening_75 (Nat.zero_le _) (Nat.zero_le _) (by rw [eO]; exact ⟨em2_13, ep2_13, ew2_13, eo2_13, ed2_13, em2_13, mn2_13, mo2_13, mu2_13, mg2_13, mt2_13, mb2_13, rfl, rfl, (Or.inr ⟨by omega, Or.inr ⟨(ref_yes h_13 (by omega)).1, (ref_yes h_13 (by omega)).2.elim (fun g q => ⟨g, q.1, Or.inr (Or.inr (Or.inr ⟨q.2, by omega, rfl⟩))⟩)⟩⟩)⟩)
    · skip
      have e_18 : ¬ ((r_13 : Int32).toInt = (0 : Int32).toInt) := fun h => c_18 (i_eq.mpr h)
      have : (0 : Int32).toInt = 0 := by decide
      refine x_iload_n C 0 dX9_evening_21 rfl rfl ?_
      exact x_iret C dX9_evening_22 (Nat.zero_le _) (Nat.zero_le _) (by rw [eO]; exact ⟨r_13, ep2_13, ew2_13, eo2_13, ed2_13, em2_13, mn2_13, mo2_13, mu2_13, mg2_13, mt2_13, mb2_13, rfl, rfl, (Or.inr ⟨by omega, (ref_no h_13 (by omega)).imp id (fun h => ⟨h.1, h.2.elim (fun g q => ⟨g, q.1, Or.inl q.2⟩)⟩)⟩)⟩)
  · skip
    have e_6 : (r_3 : Int32).toInt = (0 : Int32).toInt := i_eq.mp c_6
    have : (0 : Int32).toInt = 0 := by decide
    refine x_bipush C (-2) dX9_evening_9 (by decide) ?_
    have : ((-2) : Int32).toInt = -2 := by decide
    exact x_iret C dX9_evening_11 (Nat.zero_le _) (Nat.zero_le _) (by rw [eO]; exact ⟨((-2)), ep, ew, eo, ed, em, mn, mo, mu, mg, mt, mb, rfl, rfl, (Or.inl ⟨by omega, rfl⟩)⟩)
abbrev rm_X9_closers : Room := { frames := 1, cells := 0, slots := 0, locals := 23 }
set_option maxHeartbeats 4000000 in
set_option maxRecDepth 100000 in
theorem c_X9_closers (l : Launch) (D : va_G) (tys : List (ClassId × FieldType)) {cI cJ cZ cB : ClassId} (hT : Ty tys cI cJ cZ cB) (hx hp hb hi he hn ho hg hl hr hm b0 b1 b2 b3 b4 b5 b6 hs : Nat) (pa mi ga te kn wa ne f : Nat → Int32) (kp ep ew eo ed em mn mo mu mg mt mb wc la br z : Int32) (t x : Int32)  : Cn l D tys yX9_closers cX9_closers 7 (some .int) rm_X9_closers [(hx, .inr (9, [.ref hp, .ref hb, .ref hi, .int kp, .ref he, .ref hn, .ref ho, .ref hg, .ref hl, .ref hr])), (he, .inr (1, [.ref hb, .ref hp, .ref hm, .int ep, .int ew, .int eo, .int ed, .int em])), (hm, .inr (3, [.ref hb, .int mn, .int mo, .int mu, .int mg, .int mt, .int mb])), (hb, .inr (0, [.ref b0, .ref b1, .ref b2, .ref b3, .ref b4, .ref b5, .ref b6, .int wc, .int la, .int br])), (b0, .inl (cI, 4, .inl pa)), (b1, .inl (cI, 16, .inl mi)), (b2, .inl (cI, 4, .inl ga)), (b3, .inl (cI, 4, .inl te)), (b4, .inl (cI, 4, .inl kn)), (b5, .inl (cI, 6, .inl wa)), (b6, .inl (cI, 16, .inl ne)), (hp, .inr (6, [.ref hs, .int z])), (hs, .inl (cI, 30, .inl f))] [.ref hx, .int t, .int x] (fun v W1 => ∃ (r : Int32), v = some (.int r) ∧ W1 = [(hx, .inr (9, [.ref hp, .ref hb, .ref hi, .int kp, .ref he, .ref hn, .ref ho, .ref hg, .ref hl, .ref hr])), (he, .inr (1, [.ref hb, .ref hp, .ref hm, .int ep, .int ew, .int eo, .int ed, .int em])), (hm, .inr (3, [.ref hb, .int mn, .int mo, .int mu, .int mg, .int mt, .int mb])), (hb, .inr (0, [.ref b0, .ref b1, .ref b2, .ref b3, .ref b4, .ref b5, .ref b6, .int wc, .int la, .int br])), (b0, .inl (cI, 4, .inl pa)), (b1, .inl (cI, 16, .inl mi)), (b2, .inl (cI, 4, .inl ga)), (b3, .inl (cI, 4, .inl te)), (b4, .inl (cI, 4, .inl kn)), (b5, .inl (cI, 6, .inl wa)), (b6, .inl (cI, 16, .inl ne)), (hp, .inr (6, [.ref hs, .int z])), (hs, .inl (cI, 30, .inl f))] ∧ (r = clF te kn eo t x 4)) := by
  refine Cn.of (by decide) (Nat.le_of_ble_eq_true rfl) ?_ ?_ (fun X eL eD eT eO eK eN eM C => ?_)
  · intro h; cases h
  · intro v ws h; obtain ⟨_, rfl, rfl, _⟩ := h; exact Or.inl rfl
  subst eL eD eT
  show V X 7 [(hx, .inr (9, [.ref hp, .ref hb, .ref hi, .int kp, .ref he, .ref hn, .ref ho, .ref hg, .ref hl, .ref hr])), (he, .inr (1, [.ref hb, .ref hp, .ref hm, .int ep, .int ew, .int eo, .int ed, .int em])), (hm, .inr (3, [.ref hb, .int mn, .int mo, .int mu, .int mg, .int mt, .int mb])), (hb, .inr (0, [.ref b0, .ref b1, .ref b2, .ref b3, .ref b4, .ref b5, .ref b6, .int wc, .int la, .int br])), (b0, .inl (cI, 4, .inl pa)), (b1, .inl (cI, 16, .inl mi)), (b2, .inl (cI, 4, .inl ga)), (b3, .inl (cI, 4, .inl te)), (b4, .inl (cI, 4, .inl kn)), (b5, .inl (cI, 6, .inl wa)), (b6, .inl (cI, 16, .inl ne)), (hp, .inr (6, [.ref hs, .int z])), (hs, .inl (cI, 30, .inl f))] [(0, .ref hx), (1, .int t), (2, .int x)] [] 0 0 0
  refine x_iconst C 0 dX9_closers_0 (by decide) ?_
  refine x_istore_n C [(3, .int 0), (0, .ref hx), (1, .int t), (2, .int x)] dX9_closers_1 rfl (by decide) rfl ?_
  refine x_iconst C 0 dX9_closers_2 (by decide) ?_
  refine x_istore C [(4, .int 0), (3, .int 0), (0, .ref hx), (1, .int t), (2, .int x)] dX9_closers_3 (by decide) rfl ?_
  have L_5 : ∀ (n_5 : Nat) (x4_5 : Int32) (x3_5 : Int32), ((0 ≤ x4_5.toInt ∧ x4_5.toInt ≤ 4) ∧ x3_5 = clF te kn eo t x x4_5.toInt.toNat) → ((4 - x4_5.toInt).toNat < n_5) → V X 7 [(hx, .inr (9, [.ref hp, .ref hb, .ref hi, .int kp, .ref he, .ref hn, .ref ho, .ref hg, .ref hl, .ref hr])), (he, .inr (1, [.ref hb, .ref hp, .ref hm, .int ep, .int ew, .int eo, .int ed, .int em])), (hm, .inr (3, [.ref hb, .int mn, .int mo, .int mu, .int mg, .int mt, .int mb])), (hb, .inr (0, [.ref b0, .ref b1, .ref b2, .ref b3, .ref b4, .ref b5, .ref b6, .int wc, .int la, .int br])), (b0, .inl (cI, 4, .inl pa)), (b1, .inl (cI, 16, .inl mi)), (b2, .inl (cI, 4, .inl ga)), (b3, .inl (cI, 4, .inl te)), (b4, .inl (cI, 4, .inl kn)), (b5, .inl (cI, 6, .inl wa)), (b6, .inl (cI, 16, .inl ne)), (hp, .inr (6, [.ref hs, .int z])), (hs, .inl (cI, 30, .inl f))] [(4, .int x4_5), (3, .int x3_5), (0, .ref hx), (1, .int t), (2, .int x)] [] 5 0 0 := by
    intro n_5
    induction n_5 with
    | zero =>
      intro x4_5 x3_5 i_5 m_5
      exact absurd m_5 (Nat.not_lt_zero _)
    | succ n_5 ih_5 =>
      intro x4_5 x3_5 i_5 m_5
      refine x_iload C 0 dX9_closers_5 rfl ?_
      refine x_iconst C 4 dX9_closers_7 (by decide) ?_
      refine x_icmp_ge C 91 dX9_closers_8 (by decide) (fun c_8 => ?_) (fun c_8 => ?_)
      · skip
        have e_8 : (4 : Int32).toInt ≤ (x4_5 : Int32).toInt := i_le.mp c_8
        have : (4 : Int32).toInt = 4 := by decide
        refine x_iload_n C 1 dX9_closers_91 rfl rfl ?_
        exact x_iret C dX9_closers_92 (Nat.zero_le _) (Nat.zero_le _) (by rw [eO]; exact ⟨x3_5, rfl, rfl, (by rw [i_5.2, show x4_5.toInt.toNat = 4 by omega])⟩)
      · skip
        have e_8 : ¬ ((4 : Int32).toInt ≤ (x4_5 : Int32).toInt) := fun h => c_8 (i_le.mpr h)
        have : (4 : Int32).toInt = 4 := by decide
        refine x_iload_n C 4 dX9_closers_11 rfl rfl ?_
        refine x_aload_n C 2 dX9_closers_12 rfl rfl ?_
        refine x_get C 0 1 dX9_closers_13 inlX9 rfl (by decide) wd_19 rfl rfl rfl ?_
        refine x_getN C 3 4 dX9_closers_16 inlX0 rfl (by decide) nt_14 rfl rfl rfl ?_
        refine x_iload C 0 dX9_closers_19 rfl ?_
        have v_21 : vp_in x4_5 4 := (vp_in_iff.mpr (by omega))
        refine x_iald C 8 0 dX9_closers_21 hT.1 rfl v_21 ?_
        refine x_iconst C (-1) dX9_closers_22 (by decide) ?_
        refine x_ixor C dX9_closers_23 ?_
        refine x_iand C dX9_closers_24 ?_
        refine x_if_ne C 32 dX9_closers_25 (by decide) (fun c_25 => ?_) (fun c_25 => ?_)
        · skip
          have e_25 : ¬ ((x &&& ((kn (Int32.toNatClampNeg x4_5)) ^^^ ((-1))) : Int32).toInt = (0 : Int32).toInt) := fun h => c_25 (i_eq.mpr h)
          have : (0 : Int32).toInt = 0 := by decide
          refine x_iconst C 0 dX9_closers_32 (by decide) ?_
          refine x_istore C [(5, .int 0), (4, .int x4_5), (3, .int x3_5), (0, .ref hx), (1, .int t), (2, .int x)] dX9_closers_33 (by decide) rfl ?_
          refine x_aload_n C 3 dX9_closers_35 rfl rfl ?_
          refine x_get C 0 1 dX9_closers_36 inlX9 rfl (by decide) wd_19 rfl rfl rfl ?_
          refine x_iload C 1 dX9_closers_39 rfl ?_
          refine x_callV C [.int x4_5] [(hx, .inr (9, [.ref hp, .ref hb, .ref hi, .int kp, .ref he, .ref hn, .ref ho, .ref hg, .ref hl, .ref hr])), (he, .inr (1, [.ref hb, .ref hp, .ref hm, .int ep, .int ew, .int eo, .int ed, .int em])), (hm, .inr (3, [.ref hb, .int mn, .int mo, .int mu, .int mg, .int mt, .int mb])), (hp, .inr (6, [.ref hs, .int z])), (hs, .inl (cI, 30, .inl f))] [3, 4, 5, 6, 7, 8, 9, 10] [0, 1, 2, 11, 12] (q0 := 0) (c_X0_toldBy (xl X) (xD X) (xt X) hT hb b0 b1 b2 b3 b4 b5 b6 pa mi ga te kn wa ne wc la br x4_5 ) dX9_closers_41 wd_836 wd_837 wd_838 wd_18 wd_839 (np := 1) ⟨by decide, by decide, by decide +kernel⟩ rfl rfl (Nat.le_of_ble_eq_true rfl) (by decide) rfl rfl rfl rfl (by decide) rfl (by decide) (by decide) (fun v W1 h => ?_)
          obtain ⟨r_41, rfl, rfl, h_41⟩ := h
          show V X 7 [(hx, .inr (9, [.ref hp, .ref hb, .ref hi, .int kp, .ref he, .ref hn, .ref ho, .ref hg, .ref hl, .ref hr])), (he, .inr (1, [.ref hb, .ref hp, .ref hm, .int ep, .int ew, .int eo, .int ed, .int em])), (hm, .inr (3, [.ref hb, .int mn, .int mo, .int mu, .int mg, .int mt, .int mb])), (hp, .inr (6, [.ref hs, .int z])), (hs, .inl (cI, 30, .inl f)), (hb, .inr (0, [.ref b0, .ref b1, .ref b2, .ref b3, .ref b4, .ref b5, .ref b6, .int wc, .int la, .int br])), (b0, .inl (cI, 4, .inl pa)), (b1, .inl (cI, 16, .inl mi)), (b2, .inl (cI, 4, .inl ga)), (b3, .inl (cI, 4, .inl te)), (b4, .inl (cI, 4, .inl kn)), (b5, .inl (cI, 6, .inl wa)), (b6, .inl (cI, 16, .inl ne))] [(5, .int 0), (4, .int x4_5), (3, .int x3_5), (0, .ref hx), (1, .int t), (2, .int x)] [.int r_41] 44 0 0
          refine x_aload_n C 3 dX9_closers_44 rfl rfl ?_
          refine x_get C 0 4 dX9_closers_45 inlX9 rfl (by decide) wd_25 rfl rfl rfl ?_
          refine x_getN C 1 5 dX9_closers_48 inlX1 rfl (by decide) nt_28 rfl rfl rfl ?_
          refine x_iand C dX9_closers_51 ?_
          refine x_if_ne C 59 dX9_closers_52 (by decide) (fun c_52 => ?_) (fun c_52 => ?_)
          · skip
            have e_52 : ¬ ((r_41 &&& eo : Int32).toInt = (0 : Int32).toInt) := fun h => c_52 (i_eq.mpr h)
            have : (0 : Int32).toInt = 0 := by decide
            refine x_iconst C 0 dX9_closers_59 (by decide) ?_
            refine x_istore C [(6, .int 0), (5, .int 0), (4, .int x4_5), (3, .int x3_5), (0, .ref hx), (1, .int t), (2, .int x)] dX9_closers_60 (by decide) rfl ?_
            refine x_iload C 2 dX9_closers_62 rfl ?_
            refine x_iload_n C 5 dX9_closers_64 rfl rfl ?_
            refine x_icmp_eq C 85 dX9_closers_65 (by decide) (fun c_65 => ?_) (fun c_65 => ?_)
            · skip
              have e_65 : (x4_5 : Int32).toInt = (t : Int32).toInt := i_eq.mp c_65
              refine x_iinc C 2 (x4_5 + 1) [(4, .int (x4_5 + 1)), (6, .int 0), (5, .int 0), (3, .int x3_5), (0, .ref hx), (1, .int t), (2, .int x)] dX9_closers_85 rfl rfl (by decide) rfl ?_
              refine x_goto C 5 dX9_closers_88 (by decide) ?_
              refine x_sub [(hx, .inr (9, [.ref hp, .ref hb, .ref hi, .int kp, .ref he, .ref hn, .ref ho, .ref hg, .ref hl, .ref hr])), (he, .inr (1, [.ref hb, .ref hp, .ref hm, .int ep, .int ew, .int eo, .int ed, .int em])), (hm, .inr (3, [.ref hb, .int mn, .int mo, .int mu, .int mg, .int mt, .int mb])), (hb, .inr (0, [.ref b0, .ref b1, .ref b2, .ref b3, .ref b4, .ref b5, .ref b6, .int wc, .int la, .int br])), (b0, .inl (cI, 4, .inl pa)), (b1, .inl (cI, 16, .inl mi)), (b2, .inl (cI, 4, .inl ga)), (b3, .inl (cI, 4, .inl te)), (b4, .inl (cI, 4, .inl kn)), (b5, .inl (cI, 6, .inl wa)), (b6, .inl (cI, 16, .inl ne)), (hp, .inr (6, [.ref hs, .int z])), (hs, .inl (cI, 30, .inl f))] [0, 1, 2, 5, 6, 7, 8, 9, 10, 11, 12, 3, 4] (by decide) rfl ?_
              refine x_lv [(4, .int (x4_5 + 1)), (3, .int x3_5), (0, .ref hx), (1, .int t), (2, .int x)] [0, 3, 4, 5, 6] rfl ?_
              have : (1 : Int32).toInt = 1 := by decide
              have := i_add (x := x4_5) (y := 1) (by omega) (by omega)
              exact ih_5 (x4_5 + 1) x3_5 ⟨by omega, by rw [cl_f (te := te) (kn := kn) (eo := eo) (t := t) (x := x) (y := x4_5) (by omega) (by omega) (fun h => h.1.1 c_65)]; exact i_5.2⟩ (by omega)
            · skip
              have e_65 : ¬ ((x4_5 : Int32).toInt = (t : Int32).toInt) := fun h => c_65 (i_eq.mpr h)
              refine x_iload C 1 dX9_closers_68 rfl ?_
              refine x_if_eq C 85 dX9_closers_70 (by decide) (fun c_70 => ?_) (fun c_70 => ?_)
              · skip
                have e_70 : (0 : Int32).toInt = (0 : Int32).toInt := i_eq.mp c_70
                have : (0 : Int32).toInt = 0 := by decide
                have : (0 : Int32).toInt = 0 := by decide
                refine x_iinc C 2 (x4_5 + 1) [(4, .int (x4_5 + 1)), (6, .int 0), (5, .int 0), (3, .int x3_5), (0, .ref hx), (1, .int t), (2, .int x)] dX9_closers_85 rfl rfl (by decide) rfl ?_
                refine x_goto C 5 dX9_closers_88 (by decide) ?_
                refine x_sub [(hx, .inr (9, [.ref hp, .ref hb, .ref hi, .int kp, .ref he, .ref hn, .ref ho, .ref hg, .ref hl, .ref hr])), (he, .inr (1, [.ref hb, .ref hp, .ref hm, .int ep, .int ew, .int eo, .int ed, .int em])), (hm, .inr (3, [.ref hb, .int mn, .int mo, .int mu, .int mg, .int mt, .int mb])), (hb, .inr (0, [.ref b0, .ref b1, .ref b2, .ref b3, .ref b4, .ref b5, .ref b6, .int wc, .int la, .int br])), (b0, .inl (cI, 4, .inl pa)), (b1, .inl (cI, 16, .inl mi)), (b2, .inl (cI, 4, .inl ga)), (b3, .inl (cI, 4, .inl te)), (b4, .inl (cI, 4, .inl kn)), (b5, .inl (cI, 6, .inl wa)), (b6, .inl (cI, 16, .inl ne)), (hp, .inr (6, [.ref hs, .int z])), (hs, .inl (cI, 30, .inl f))] [0, 1, 2, 5, 6, 7, 8, 9, 10, 11, 12, 3, 4] (by decide) rfl ?_
                refine x_lv [(4, .int (x4_5 + 1)), (3, .int x3_5), (0, .ref hx), (1, .int t), (2, .int x)] [0, 3, 4, 5, 6] rfl ?_
                have : (1 : Int32).toInt = 1 := by decide
                have := i_add (x := x4_5) (y := 1) (by omega) (by omega)
                exact ih_5 (x4_5 + 1) x3_5 ⟨by omega, by rw [cl_f (te := te) (kn := kn) (eo := eo) (t := t) (x := x) (y := x4_5) (by omega) (by omega) (fun h => c_25 h.1.2)]; exact i_5.2⟩ (by omega)
              · skip
                have e_70 : ¬ ((0 : Int32).toInt = (0 : Int32).toInt) := fun h => c_70 (i_eq.mpr h)
                have : (0 : Int32).toInt = 0 := by decide
                have : (0 : Int32).toInt = 0 := by decide
                exfalso
                omega
          · skip
            have e_52 : (r_41 &&& eo : Int32).toInt = (0 : Int32).toInt := i_eq.mp c_52
            have : (0 : Int32).toInt = 0 := by decide
            refine x_iconst C 1 dX9_closers_55 (by decide) ?_
            refine x_goto C 60 dX9_closers_56 (by decide) ?_
            refine x_istore C [(6, .int 1), (5, .int 0), (4, .int x4_5), (3, .int x3_5), (0, .ref hx), (1, .int t), (2, .int x)] dX9_closers_60 (by decide) rfl ?_
            refine x_iload C 2 dX9_closers_62 rfl ?_
            refine x_iload_n C 5 dX9_closers_64 rfl rfl ?_
            refine x_icmp_eq C 85 dX9_closers_65 (by decide) (fun c_65 => ?_) (fun c_65 => ?_)
            · skip
              have e_65 : (x4_5 : Int32).toInt = (t : Int32).toInt := i_eq.mp c_65
              refine x_iinc C 2 (x4_5 + 1) [(4, .int (x4_5 + 1)), (6, .int 1), (5, .int 0), (3, .int x3_5), (0, .ref hx), (1, .int t), (2, .int x)] dX9_closers_85 rfl rfl (by decide) rfl ?_
              refine x_goto C 5 dX9_closers_88 (by decide) ?_
              refine x_sub [(hx, .inr (9, [.ref hp, .ref hb, .ref hi, .int kp, .ref he, .ref hn, .ref ho, .ref hg, .ref hl, .ref hr])), (he, .inr (1, [.ref hb, .ref hp, .ref hm, .int ep, .int ew, .int eo, .int ed, .int em])), (hm, .inr (3, [.ref hb, .int mn, .int mo, .int mu, .int mg, .int mt, .int mb])), (hb, .inr (0, [.ref b0, .ref b1, .ref b2, .ref b3, .ref b4, .ref b5, .ref b6, .int wc, .int la, .int br])), (b0, .inl (cI, 4, .inl pa)), (b1, .inl (cI, 16, .inl mi)), (b2, .inl (cI, 4, .inl ga)), (b3, .inl (cI, 4, .inl te)), (b4, .inl (cI, 4, .inl kn)), (b5, .inl (cI, 6, .inl wa)), (b6, .inl (cI, 16, .inl ne)), (hp, .inr (6, [.ref hs, .int z])), (hs, .inl (cI, 30, .inl f))] [0, 1, 2, 5, 6, 7, 8, 9, 10, 11, 12, 3, 4] (by decide) rfl ?_
              refine x_lv [(4, .int (x4_5 + 1)), (3, .int x3_5), (0, .ref hx), (1, .int t), (2, .int x)] [0, 3, 4, 5, 6] rfl ?_
              have : (1 : Int32).toInt = 1 := by decide
              have := i_add (x := x4_5) (y := 1) (by omega) (by omega)
              exact ih_5 (x4_5 + 1) x3_5 ⟨by omega, by rw [cl_f (te := te) (kn := kn) (eo := eo) (t := t) (x := x) (y := x4_5) (by omega) (by omega) (fun h => h.1.1 c_65)]; exact i_5.2⟩ (by omega)
            · skip
              have e_65 : ¬ ((x4_5 : Int32).toInt = (t : Int32).toInt) := fun h => c_65 (i_eq.mpr h)
              refine x_iload C 1 dX9_closers_68 rfl ?_
              refine x_if_eq C 85 dX9_closers_70 (by decide) (fun c_70 => ?_) (fun c_70 => ?_)
              · skip
                have e_70 : (0 : Int32).toInt = (0 : Int32).toInt := i_eq.mp c_70
                have : (0 : Int32).toInt = 0 := by decide
                have : (0 : Int32).toInt = 0 := by decide
                refine x_iinc C 2 (x4_5 + 1) [(4, .int (x4_5 + 1)), (6, .int 1), (5, .int 0), (3, .int x3_5), (0, .ref hx), (1, .int t), (2, .int x)] dX9_closers_85 rfl rfl (by decide) rfl ?_
                refine x_goto C 5 dX9_closers_88 (by decide) ?_
                refine x_sub [(hx, .inr (9, [.ref hp, .ref hb, .ref hi, .int kp, .ref he, .ref hn, .ref ho, .ref hg, .ref hl, .ref hr])), (he, .inr (1, [.ref hb, .ref hp, .ref hm, .int ep, .int ew, .int eo, .int ed, .int em])), (hm, .inr (3, [.ref hb, .int mn, .int mo, .int mu, .int mg, .int mt, .int mb])), (hb, .inr (0, [.ref b0, .ref b1, .ref b2, .ref b3, .ref b4, .ref b5, .ref b6, .int wc, .int la, .int br])), (b0, .inl (cI, 4, .inl pa)), (b1, .inl (cI, 16, .inl mi)), (b2, .inl (cI, 4, .inl ga)), (b3, .inl (cI, 4, .inl te)), (b4, .inl (cI, 4, .inl kn)), (b5, .inl (cI, 6, .inl wa)), (b6, .inl (cI, 16, .inl ne)), (hp, .inr (6, [.ref hs, .int z])), (hs, .inl (cI, 30, .inl f))] [0, 1, 2, 5, 6, 7, 8, 9, 10, 11, 12, 3, 4] (by decide) rfl ?_
                refine x_lv [(4, .int (x4_5 + 1)), (3, .int x3_5), (0, .ref hx), (1, .int t), (2, .int x)] [0, 3, 4, 5, 6] rfl ?_
                have : (1 : Int32).toInt = 1 := by decide
                have := i_add (x := x4_5) (y := 1) (by omega) (by omega)
                exact ih_5 (x4_5 + 1) x3_5 ⟨by omega, by rw [cl_f (te := te) (kn := kn) (eo := eo) (t := t) (x := x) (y := x4_5) (by omega) (by omega) (fun h => c_25 h.1.2)]; exact i_5.2⟩ (by omega)
              · skip
                have e_70 : ¬ ((0 : Int32).toInt = (0 : Int32).toInt) := fun h => c_70 (i_eq.mpr h)
                have : (0 : Int32).toInt = 0 := by decide
                have : (0 : Int32).toInt = 0 := by decide
                exfalso
                omega
        · skip
          have e_25 : (x &&& ((kn (Int32.toNatClampNeg x4_5)) ^^^ ((-1))) : Int32).toInt = (0 : Int32).toInt := i_eq.mp c_25
          have : (0 : Int32).toInt = 0 := by decide
          refine x_iconst C 1 dX9_closers_28 (by decide) ?_
          refine x_goto C 33 dX9_closers_29 (by decide) ?_
          refine x_istore C [(5, .int 1), (4, .int x4_5), (3, .int x3_5), (0, .ref hx), (1, .int t), (2, .int x)] dX9_closers_33 (by decide) rfl ?_
          refine x_aload_n C 3 dX9_closers_35 rfl rfl ?_
          refine x_get C 0 1 dX9_closers_36 inlX9 rfl (by decide) wd_19 rfl rfl rfl ?_
          refine x_iload C 1 dX9_closers_39 rfl ?_
          refine x_callV C [.int x4_5] [(hx, .inr (9, [.ref hp, .ref hb, .ref hi, .int kp, .ref he, .ref hn, .ref ho, .ref hg, .ref hl, .ref hr])), (he, .inr (1, [.ref hb, .ref hp, .ref hm, .int ep, .int ew, .int eo, .int ed, .int em])), (hm, .inr (3, [.ref hb, .int mn, .int mo, .int mu, .int mg, .int mt, .int mb])), (hp, .inr (6, [.ref hs, .int z])), (hs, .inl (cI, 30, .inl f))] [3, 4, 5, 6, 7, 8, 9, 10] [0, 1, 2, 11, 12] (q0 := 0) (c_X0_toldBy (xl X) (xD X) (xt X) hT hb b0 b1 b2 b3 b4 b5 b6 pa mi ga te kn wa ne wc la br x4_5 ) dX9_closers_41 wd_836 wd_837 wd_838 wd_18 wd_839 (np := 1) ⟨by decide, by decide, by decide +kernel⟩ rfl rfl (Nat.le_of_ble_eq_true rfl) (by decide) rfl rfl rfl rfl (by decide) rfl (by decide) (by decide) (fun v W1 h => ?_)
          obtain ⟨r_41, rfl, rfl, h_41⟩ := h
          show V X 7 [(hx, .inr (9, [.ref hp, .ref hb, .ref hi, .int kp, .ref he, .ref hn, .ref ho, .ref hg, .ref hl, .ref hr])), (he, .inr (1, [.ref hb, .ref hp, .ref hm, .int ep, .int ew, .int eo, .int ed, .int em])), (hm, .inr (3, [.ref hb, .int mn, .int mo, .int mu, .int mg, .int mt, .int mb])), (hp, .inr (6, [.ref hs, .int z])), (hs, .inl (cI, 30, .inl f)), (hb, .inr (0, [.ref b0, .ref b1, .ref b2, .ref b3, .ref b4, .ref b5, .ref b6, .int wc, .int la, .int br])), (b0, .inl (cI, 4, .inl pa)), (b1, .inl (cI, 16, .inl mi)), (b2, .inl (cI, 4, .inl ga)), (b3, .inl (cI, 4, .inl te)), (b4, .inl (cI, 4, .inl kn)), (b5, .inl (cI, 6, .inl wa)), (b6, .inl (cI, 16, .inl ne))] [(5, .int 1), (4, .int x4_5), (3, .int x3_5), (0, .ref hx), (1, .int t), (2, .int x)] [.int r_41] 44 0 0
          refine x_aload_n C 3 dX9_closers_44 rfl rfl ?_
          refine x_get C 0 4 dX9_closers_45 inlX9 rfl (by decide) wd_25 rfl rfl rfl ?_
          refine x_getN C 1 5 dX9_closers_48 inlX1 rfl (by decide) nt_28 rfl rfl rfl ?_
          refine x_iand C dX9_closers_51 ?_
          refine x_if_ne C 59 dX9_closers_52 (by decide) (fun c_52 => ?_) (fun c_52 => ?_)
          · skip
            have e_52 : ¬ ((r_41 &&& eo : Int32).toInt = (0 : Int32).toInt) := fun h => c_52 (i_eq.mpr h)
            have : (0 : Int32).toInt = 0 := by decide
            refine x_iconst C 0 dX9_closers_59 (by decide) ?_
            refine x_istore C [(6, .int 0), (5, .int 1), (4, .int x4_5), (3, .int x3_5), (0, .ref hx), (1, .int t), (2, .int x)] dX9_closers_60 (by decide) rfl ?_
            refine x_iload C 2 dX9_closers_62 rfl ?_
            refine x_iload_n C 5 dX9_closers_64 rfl rfl ?_
            refine x_icmp_eq C 85 dX9_closers_65 (by decide) (fun c_65 => ?_) (fun c_65 => ?_)
            · skip
              have e_65 : (x4_5 : Int32).toInt = (t : Int32).toInt := i_eq.mp c_65
              refine x_iinc C 2 (x4_5 + 1) [(4, .int (x4_5 + 1)), (6, .int 0), (5, .int 1), (3, .int x3_5), (0, .ref hx), (1, .int t), (2, .int x)] dX9_closers_85 rfl rfl (by decide) rfl ?_
              refine x_goto C 5 dX9_closers_88 (by decide) ?_
              refine x_sub [(hx, .inr (9, [.ref hp, .ref hb, .ref hi, .int kp, .ref he, .ref hn, .ref ho, .ref hg, .ref hl, .ref hr])), (he, .inr (1, [.ref hb, .ref hp, .ref hm, .int ep, .int ew, .int eo, .int ed, .int em])), (hm, .inr (3, [.ref hb, .int mn, .int mo, .int mu, .int mg, .int mt, .int mb])), (hb, .inr (0, [.ref b0, .ref b1, .ref b2, .ref b3, .ref b4, .ref b5, .ref b6, .int wc, .int la, .int br])), (b0, .inl (cI, 4, .inl pa)), (b1, .inl (cI, 16, .inl mi)), (b2, .inl (cI, 4, .inl ga)), (b3, .inl (cI, 4, .inl te)), (b4, .inl (cI, 4, .inl kn)), (b5, .inl (cI, 6, .inl wa)), (b6, .inl (cI, 16, .inl ne)), (hp, .inr (6, [.ref hs, .int z])), (hs, .inl (cI, 30, .inl f))] [0, 1, 2, 5, 6, 7, 8, 9, 10, 11, 12, 3, 4] (by decide) rfl ?_
              refine x_lv [(4, .int (x4_5 + 1)), (3, .int x3_5), (0, .ref hx), (1, .int t), (2, .int x)] [0, 3, 4, 5, 6] rfl ?_
              have : (1 : Int32).toInt = 1 := by decide
              have := i_add (x := x4_5) (y := 1) (by omega) (by omega)
              exact ih_5 (x4_5 + 1) x3_5 ⟨by omega, by rw [cl_f (te := te) (kn := kn) (eo := eo) (t := t) (x := x) (y := x4_5) (by omega) (by omega) (fun h => h.1.1 c_65)]; exact i_5.2⟩ (by omega)
            · skip
              have e_65 : ¬ ((x4_5 : Int32).toInt = (t : Int32).toInt) := fun h => c_65 (i_eq.mpr h)
              refine x_iload C 1 dX9_closers_68 rfl ?_
              refine x_if_eq C 85 dX9_closers_70 (by decide) (fun c_70 => ?_) (fun c_70 => ?_)
              · skip
                have e_70 : (1 : Int32).toInt = (0 : Int32).toInt := i_eq.mp c_70
                have : (1 : Int32).toInt = 1 := by decide
                have : (0 : Int32).toInt = 0 := by decide
                exfalso
                omega
              · skip
                have e_70 : ¬ ((1 : Int32).toInt = (0 : Int32).toInt) := fun h => c_70 (i_eq.mpr h)
                have : (1 : Int32).toInt = 1 := by decide
                have : (0 : Int32).toInt = 0 := by decide
                refine x_iload C 0 dX9_closers_73 rfl ?_
                refine x_if_eq C 85 dX9_closers_75 (by decide) (fun c_75 => ?_) (fun c_75 => ?_)
                · skip
                  have e_75 : (0 : Int32).toInt = (0 : Int32).toInt := i_eq.mp c_75
                  have : (0 : Int32).toInt = 0 := by decide
                  have : (0 : Int32).toInt = 0 := by decide
                  refine x_iinc C 2 (x4_5 + 1) [(4, .int (x4_5 + 1)), (6, .int 0), (5, .int 1), (3, .int x3_5), (0, .ref hx), (1, .int t), (2, .int x)] dX9_closers_85 rfl rfl (by decide) rfl ?_
                  refine x_goto C 5 dX9_closers_88 (by decide) ?_
                  refine x_sub [(hx, .inr (9, [.ref hp, .ref hb, .ref hi, .int kp, .ref he, .ref hn, .ref ho, .ref hg, .ref hl, .ref hr])), (he, .inr (1, [.ref hb, .ref hp, .ref hm, .int ep, .int ew, .int eo, .int ed, .int em])), (hm, .inr (3, [.ref hb, .int mn, .int mo, .int mu, .int mg, .int mt, .int mb])), (hb, .inr (0, [.ref b0, .ref b1, .ref b2, .ref b3, .ref b4, .ref b5, .ref b6, .int wc, .int la, .int br])), (b0, .inl (cI, 4, .inl pa)), (b1, .inl (cI, 16, .inl mi)), (b2, .inl (cI, 4, .inl ga)), (b3, .inl (cI, 4, .inl te)), (b4, .inl (cI, 4, .inl kn)), (b5, .inl (cI, 6, .inl wa)), (b6, .inl (cI, 16, .inl ne)), (hp, .inr (6, [.ref hs, .int z])), (hs, .inl (cI, 30, .inl f))] [0, 1, 2, 5, 6, 7, 8, 9, 10, 11, 12, 3, 4] (by decide) rfl ?_
                  refine x_lv [(4, .int (x4_5 + 1)), (3, .int x3_5), (0, .ref hx), (1, .int t), (2, .int x)] [0, 3, 4, 5, 6] rfl ?_
                  have : (1 : Int32).toInt = 1 := by decide
                  have := i_add (x := x4_5) (y := 1) (by omega) (by omega)
                  exact ih_5 (x4_5 + 1) x3_5 ⟨by omega, by rw [cl_f (te := te) (kn := kn) (eo := eo) (t := t) (x := x) (y := x4_5) (by omega) (by omega) (fun h => c_52 (by rw [h_41]; exact h.2))]; exact i_5.2⟩ (by omega)
                · skip
                  have e_75 : ¬ ((0 : Int32).toInt = (0 : Int32).toInt) := fun h => c_75 (i_eq.mpr h)
                  have : (0 : Int32).toInt = 0 := by decide
                  have : (0 : Int32).toInt = 0 := by decide
                  exfalso
                  omega
          · skip
            have e_52 : (r_41 &&& eo : Int32).toInt = (0 : Int32).toInt := i_eq.mp c_52
            have : (0 : Int32).toInt = 0 := by decide
            refine x_iconst C 1 dX9_closers_55 (by decide) ?_
            refine x_goto C 60 dX9_closers_56 (by decide) ?_
            refine x_istore C [(6, .int 1), (5, .int 1), (4, .int x4_5), (3, .int x3_5), (0, .ref hx), (1, .int t), (2, .int x)] dX9_closers_60 (by decide) rfl ?_
            refine x_iload C 2 dX9_closers_62 rfl ?_
            refine x_iload_n C 5 dX9_closers_64 rfl rfl ?_
            refine x_icmp_eq C 85 dX9_closers_65 (by decide) (fun c_65 => ?_) (fun c_65 => ?_)
            · skip
              have e_65 : (x4_5 : Int32).toInt = (t : Int32).toInt := i_eq.mp c_65
              refine x_iinc C 2 (x4_5 + 1) [(4, .int (x4_5 + 1)), (6, .int 1), (5, .int 1), (3, .int x3_5), (0, .ref hx), (1, .int t), (2, .int x)] dX9_closers_85 rfl rfl (by decide) rfl ?_
              refine x_goto C 5 dX9_closers_88 (by decide) ?_
              refine x_sub [(hx, .inr (9, [.ref hp, .ref hb, .ref hi, .int kp, .ref he, .ref hn, .ref ho, .ref hg, .ref hl, .ref hr])), (he, .inr (1, [.ref hb, .ref hp, .ref hm, .int ep, .int ew, .int eo, .int ed, .int em])), (hm, .inr (3, [.ref hb, .int mn, .int mo, .int mu, .int mg, .int mt, .int mb])), (hb, .inr (0, [.ref b0, .ref b1, .ref b2, .ref b3, .ref b4, .ref b5, .ref b6, .int wc, .int la, .int br])), (b0, .inl (cI, 4, .inl pa)), (b1, .inl (cI, 16, .inl mi)), (b2, .inl (cI, 4, .inl ga)), (b3, .inl (cI, 4, .inl te)), (b4, .inl (cI, 4, .inl kn)), (b5, .inl (cI, 6, .inl wa)), (b6, .inl (cI, 16, .inl ne)), (hp, .inr (6, [.ref hs, .int z])), (hs, .inl (cI, 30, .inl f))] [0, 1, 2, 5, 6, 7, 8, 9, 10, 11, 12, 3, 4] (by decide) rfl ?_
              refine x_lv [(4, .int (x4_5 + 1)), (3, .int x3_5), (0, .ref hx), (1, .int t), (2, .int x)] [0, 3, 4, 5, 6] rfl ?_
              have : (1 : Int32).toInt = 1 := by decide
              have := i_add (x := x4_5) (y := 1) (by omega) (by omega)
              exact ih_5 (x4_5 + 1) x3_5 ⟨by omega, by rw [cl_f (te := te) (kn := kn) (eo := eo) (t := t) (x := x) (y := x4_5) (by omega) (by omega) (fun h => h.1.1 c_65)]; exact i_5.2⟩ (by omega)
            · skip
              have e_65 : ¬ ((x4_5 : Int32).toInt = (t : Int32).toInt) := fun h => c_65 (i_eq.mpr h)
              refine x_iload C 1 dX9_closers_68 rfl ?_
              refine x_if_eq C 85 dX9_closers_70 (by decide) (fun c_70 => ?_) (fun c_70 => ?_)
              · skip
                have e_70 : (1 : Int32).toInt = (0 : Int32).toInt := i_eq.mp c_70
                have : (1 : Int32).toInt = 1 := by decide
                have : (0 : Int32).toInt = 0 := by decide
                exfalso
                omega
              · skip
                have e_70 : ¬ ((1 : Int32).toInt = (0 : Int32).toInt) := fun h => c_70 (i_eq.mpr h)
                have : (1 : Int32).toInt = 1 := by decide
                have : (0 : Int32).toInt = 0 := by decide
                refine x_iload C 0 dX9_closers_73 rfl ?_
                refine x_if_eq C 85 dX9_closers_75 (by decide) (fun c_75 => ?_) (fun c_75 => ?_)
                · skip
                  have e_75 : (1 : Int32).toInt = (0 : Int32).toInt := i_eq.mp c_75
                  have : (1 : Int32).toInt = 1 := by decide
                  have : (0 : Int32).toInt = 0 := by decide
                  exfalso
                  omega
                · skip
                  have e_75 : ¬ ((1 : Int32).toInt = (0 : Int32).toInt) := fun h => c_75 (i_eq.mpr h)
                  have : (1 : Int32).toInt = 1 := by decide
                  have : (0 : Int32).toInt = 0 := by decide
                  refine x_iload_n C 3 dX9_closers_78 rfl rfl ?_
                  refine x_iconst C 1 dX9_closers_79 (by decide) ?_
                  refine x_iload C 2 dX9_closers_80 rfl ?_
                  refine x_ishl C dX9_closers_82 ?_
                  refine x_ior C dX9_closers_83 ?_
                  refine x_istore_n C [(3, .int (x3_5 ||| ((1 : Int32) <<< (x4_5 &&& 31)))), (6, .int 1), (5, .int 1), (4, .int x4_5), (0, .ref hx), (1, .int t), (2, .int x)] dX9_closers_84 rfl (by decide) rfl ?_
                  refine x_iinc C 3 (x4_5 + 1) [(4, .int (x4_5 + 1)), (3, .int (x3_5 ||| ((1 : Int32) <<< (x4_5 &&& 31)))), (6, .int 1), (5, .int 1), (0, .ref hx), (1, .int t), (2, .int x)] dX9_closers_85 rfl rfl (by decide) rfl ?_
                  refine x_goto C 5 dX9_closers_88 (by decide) ?_
                  refine x_sub [(hx, .inr (9, [.ref hp, .ref hb, .ref hi, .int kp, .ref he, .ref hn, .ref ho, .ref hg, .ref hl, .ref hr])), (he, .inr (1, [.ref hb, .ref hp, .ref hm, .int ep, .int ew, .int eo, .int ed, .int em])), (hm, .inr (3, [.ref hb, .int mn, .int mo, .int mu, .int mg, .int mt, .int mb])), (hb, .inr (0, [.ref b0, .ref b1, .ref b2, .ref b3, .ref b4, .ref b5, .ref b6, .int wc, .int la, .int br])), (b0, .inl (cI, 4, .inl pa)), (b1, .inl (cI, 16, .inl mi)), (b2, .inl (cI, 4, .inl ga)), (b3, .inl (cI, 4, .inl te)), (b4, .inl (cI, 4, .inl kn)), (b5, .inl (cI, 6, .inl wa)), (b6, .inl (cI, 16, .inl ne)), (hp, .inr (6, [.ref hs, .int z])), (hs, .inl (cI, 30, .inl f))] [0, 1, 2, 5, 6, 7, 8, 9, 10, 11, 12, 3, 4] (by decide) rfl ?_
                  refine x_lv [(4, .int (x4_5 + 1)), (3, .int (x3_5 ||| ((1 : Int32) <<< (x4_5 &&& 31)))), (0, .ref hx), (1, .int t), (2, .int x)] [0, 1, 4, 5, 6] rfl ?_
                  have : (1 : Int32).toInt = 1 := by decide
                  have := i_add (x := x4_5) (y := 1) (by omega) (by omega)
                  exact ih_5 (x4_5 + 1) (x3_5 ||| ((1 : Int32) <<< (x4_5 &&& 31))) ⟨by omega, by rw [cl_t (te := te) (kn := kn) (eo := eo) (t := t) (x := x) (y := x4_5) (by omega) (by omega) ⟨⟨c_65, c_25⟩, by rw [← h_41]; exact c_52⟩, ← i_5.2]⟩ (by omega)
  have : (0 : Int32).toInt = 0 := by decide
  have : (0 : Int32).toInt = 0 := by decide
  exact L_5 _ 0 0 ⟨by omega, by rw [t0_]; rfl⟩ (Nat.lt_succ_self _)
abbrev rm_X9_left : Room := { frames := 6, cells := 0, slots := 0, locals := 133 }
set_option maxHeartbeats 4000000 in
set_option maxRecDepth 100000 in
theorem c_X9_left (l : Launch) (D : va_G) (tys : List (ClassId × FieldType)) {cI cJ cZ cB : ClassId} (hT : Ty tys cI cJ cZ cB) (hx hp hb hi he hn ho hg hl hr hm b0 b1 b2 b3 b4 b5 b6 hs : Nat) (pa mi ga te kn wa ne f : Nat → Int32) (kp ep ew eo ed em mn mo mu mg mt mb wc la br z : Int32) (t x : Int32) (hz : 0 ≤ z.toInt ∧ z.toInt ≤ 30) : Cn l D tys yX9_left cX9_left 5 (some .int) rm_X9_left [(hx, .inr (9, [.ref hp, .ref hb, .ref hi, .int kp, .ref he, .ref hn, .ref ho, .ref hg, .ref hl, .ref hr])), (he, .inr (1, [.ref hb, .ref hp, .ref hm, .int ep, .int ew, .int eo, .int ed, .int em])), (hm, .inr (3, [.ref hb, .int mn, .int mo, .int mu, .int mg, .int mt, .int mb])), (hb, .inr (0, [.ref b0, .ref b1, .ref b2, .ref b3, .ref b4, .ref b5, .ref b6, .int wc, .int la, .int br])), (b0, .inl (cI, 4, .inl pa)), (b1, .inl (cI, 16, .inl mi)), (b2, .inl (cI, 4, .inl ga)), (b3, .inl (cI, 4, .inl te)), (b4, .inl (cI, 4, .inl kn)), (b5, .inl (cI, 6, .inl wa)), (b6, .inl (cI, 16, .inl ne)), (hp, .inr (6, [.ref hs, .int z])), (hs, .inl (cI, 30, .inl f))] [.ref hx, .int t, .int x] (fun v W1 => ∃ (r ep2 ew2 eo2 ed2 em2 mn2 mo2 mu2 mg2 mt2 mb2 : Int32), v = some (.int r) ∧ W1 = [(hx, .inr (9, [.ref hp, .ref hb, .ref hi, .int kp, .ref he, .ref hn, .ref ho, .ref hg, .ref hl, .ref hr])), (he, .inr (1, [.ref hb, .ref hp, .ref hm, .int ep2, .int ew2, .int eo2, .int ed2, .int em2])), (hm, .inr (3, [.ref hb, .int mn2, .int mo2, .int mu2, .int mg2, .int mt2, .int mb2])), (hb, .inr (0, [.ref b0, .ref b1, .ref b2, .ref b3, .ref b4, .ref b5, .ref b6, .int wc, .int la, .int br])), (b0, .inl (cI, 4, .inl pa)), (b1, .inl (cI, 16, .inl mi)), (b2, .inl (cI, 4, .inl ga)), (b3, .inl (cI, 4, .inl te)), (b4, .inl (cI, 4, .inl kn)), (b5, .inl (cI, 6, .inl wa)), (b6, .inl (cI, 16, .inl ne)), (hp, .inr (6, [.ref hs, .int z])), (hs, .inl (cI, 30, .inl f))] ∧ ((¬ (0 ≤ t.toInt ∧ t.toInt ≤ 3) ∧ r = -1) ∨ ((0 ≤ t.toInt ∧ t.toInt ≤ 3) ∧ ((¬ (0 ≤ x.toInt ∧ x.toInt ≤ 1) ∧ r = -2) ∨ ((0 ≤ x.toInt ∧ x.toInt ≤ 1) ∧ ((¬ rfZ f 97 100 z = -6 ∧ r = -5) ∨ (rfZ f 97 100 z = -6 ∧ ∃ g : Int32, JDG pa ga te mi ne la br f z.toInt.toNat g ep2 ew2 eo2 ed2 em2 ∧ ((g.toInt = 0 ∧ r = -3) ∨ (g.toInt = 1 ∧ x.toInt = 0 ∧ r = tbF te t 4 &&& eo2) ∨ (g.toInt = 1 ∧ x.toInt = 1 ∧ r = clF te kn eo2 t (tbF te t 4 &&& eo2) 4))))))))) := by
  refine Cn.of (by decide) (Nat.le_of_ble_eq_true rfl) ?_ ?_ (fun X eL eD eT eO eK eN eM C => ?_)
  · intro h; cases h
  · intro v ws h; obtain ⟨_, _, _, _, _, _, _, _, _, _, _, _, rfl, rfl, _⟩ := h; exact Or.inl rfl
  subst eL eD eT
  show V X 5 [(hx, .inr (9, [.ref hp, .ref hb, .ref hi, .int kp, .ref he, .ref hn, .ref ho, .ref hg, .ref hl, .ref hr])), (he, .inr (1, [.ref hb, .ref hp, .ref hm, .int ep, .int ew, .int eo, .int ed, .int em])), (hm, .inr (3, [.ref hb, .int mn, .int mo, .int mu, .int mg, .int mt, .int mb])), (hb, .inr (0, [.ref b0, .ref b1, .ref b2, .ref b3, .ref b4, .ref b5, .ref b6, .int wc, .int la, .int br])), (b0, .inl (cI, 4, .inl pa)), (b1, .inl (cI, 16, .inl mi)), (b2, .inl (cI, 4, .inl ga)), (b3, .inl (cI, 4, .inl te)), (b4, .inl (cI, 4, .inl kn)), (b5, .inl (cI, 6, .inl wa)), (b6, .inl (cI, 16, .inl ne)), (hp, .inr (6, [.ref hs, .int z])), (hs, .inl (cI, 30, .inl f))] [(0, .ref hx), (1, .int t), (2, .int x)] [] 0 0 0
  refine x_iload_n C 1 dX9_left_0 rfl rfl ?_
  refine x_callS C [.int t] [(hx, .inr (9, [.ref hp, .ref hb, .ref hi, .int kp, .ref he, .ref hn, .ref ho, .ref hg, .ref hl, .ref hr])), (he, .inr (1, [.ref hb, .ref hp, .ref hm, .int ep, .int ew, .int eo, .int ed, .int em])), (hm, .inr (3, [.ref hb, .int mn, .int mo, .int mu, .int mg, .int mt, .int mb])), (hb, .inr (0, [.ref b0, .ref b1, .ref b2, .ref b3, .ref b4, .ref b5, .ref b6, .int wc, .int la, .int br])), (b0, .inl (cI, 4, .inl pa)), (b1, .inl (cI, 16, .inl mi)), (b2, .inl (cI, 4, .inl ga)), (b3, .inl (cI, 4, .inl te)), (b4, .inl (cI, 4, .inl kn)), (b5, .inl (cI, 6, .inl wa)), (b6, .inl (cI, 16, .inl ne)), (hp, .inr (6, [.ref hs, .int z])), (hs, .inl (cI, 30, .inl f))] [] [0, 1, 2, 3, 4, 5, 6, 7, 8, 9, 10, 11, 12] (c_X9_isTeller (xl X) (xD X) (xt X) hT t ) dX9_left_1 wd_296 wd_297 wd_2 wd_298 (np := 1) ⟨by decide, by decide, by decide +kernel⟩ rfl rfl (Nat.le_of_ble_eq_true rfl) (by decide) rfl (by decide) rfl (by decide) (by decide) (fun v W1 h => ?_)
  obtain ⟨r_1, rfl, rfl, h_1⟩ := h
  show V X 5 [(hx, .inr (9, [.ref hp, .ref hb, .ref hi, .int kp, .ref he, .ref hn, .ref ho, .ref hg, .ref hl, .ref hr])), (he, .inr (1, [.ref hb, .ref hp, .ref hm, .int ep, .int ew, .int eo, .int ed, .int em])), (hm, .inr (3, [.ref hb, .int mn, .int mo, .int mu, .int mg, .int mt, .int mb])), (hb, .inr (0, [.ref b0, .ref b1, .ref b2, .ref b3, .ref b4, .ref b5, .ref b6, .int wc, .int la, .int br])), (b0, .inl (cI, 4, .inl pa)), (b1, .inl (cI, 16, .inl mi)), (b2, .inl (cI, 4, .inl ga)), (b3, .inl (cI, 4, .inl te)), (b4, .inl (cI, 4, .inl kn)), (b5, .inl (cI, 6, .inl wa)), (b6, .inl (cI, 16, .inl ne)), (hp, .inr (6, [.ref hs, .int z])), (hs, .inl (cI, 30, .inl f))] [(0, .ref hx), (1, .int t), (2, .int x)] [.int r_1] 4 0 0
  refine x_if_ne C 9 dX9_left_4 (by decide) (fun c_4 => ?_) (fun c_4 => ?_)
  · skip
    have e_4 : ¬ ((r_1 : Int32).toInt = (0 : Int32).toInt) := fun h => c_4 (i_eq.mpr h)
    have : (0 : Int32).toInt = 0 := by decide
    refine x_iload_n C 2 dX9_left_9 rfl rfl ?_
    refine x_iconst C 0 dX9_left_10 (by decide) ?_
    refine x_iconst C 1 dX9_left_11 (by decide) ?_
    refine x_callS C [.int x, .int 0, .int 1] [(hx, .inr (9, [.ref hp, .ref hb, .ref hi, .int kp, .ref he, .ref hn, .ref ho, .ref hg, .ref hl, .ref hr])), (he, .inr (1, [.ref hb, .ref hp, .ref hm, .int ep, .int ew, .int eo, .int ed, .int em])), (hm, .inr (3, [.ref hb, .int mn, .int mo, .int mu, .int mg, .int mt, .int mb])), (hb, .inr (0, [.ref b0, .ref b1, .ref b2, .ref b3, .ref b4, .ref b5, .ref b6, .int wc, .int la, .int br])), (b0, .inl (cI, 4, .inl pa)), (b1, .inl (cI, 16, .inl mi)), (b2, .inl (cI, 4, .inl ga)), (b3, .inl (cI, 4, .inl te)), (b4, .inl (cI, 4, .inl kn)), (b5, .inl (cI, 6, .inl wa)), (b6, .inl (cI, 16, .inl ne)), (hp, .inr (6, [.ref hs, .int z])), (hs, .inl (cI, 30, .inl f))] [] [0, 1, 2, 3, 4, 5, 6, 7, 8, 9, 10, 11, 12] (c_X9_isIn (xl X) (xD X) (xt X) hT x 0 1 ) dX9_left_12 wd_186 wd_187 wd_2 wd_188 (np := 3) ⟨by decide, by decide, by decide +kernel⟩ rfl rfl (Nat.le_of_ble_eq_true rfl) (by decide) rfl (by decide) rfl (by decide) (by decide) (fun v W1 h => ?_)
    obtain ⟨r_12, rfl, rfl, h_12⟩ := h
    have : (0 : Int32).toInt = 0 := by decide
    have : (1 : Int32).toInt = 1 := by decide
    show V X 5 [(hx, .inr (9, [.ref hp, .ref hb, .ref hi, .int kp, .ref he, .ref hn, .ref ho, .ref hg, .ref hl, .ref hr])), (he, .inr (1, [.ref hb, .ref hp, .ref hm, .int ep, .int ew, .int eo, .int ed, .int em])), (hm, .inr (3, [.ref hb, .int mn, .int mo, .int mu, .int mg, .int mt, .int mb])), (hb, .inr (0, [.ref b0, .ref b1, .ref b2, .ref b3, .ref b4, .ref b5, .ref b6, .int wc, .int la, .int br])), (b0, .inl (cI, 4, .inl pa)), (b1, .inl (cI, 16, .inl mi)), (b2, .inl (cI, 4, .inl ga)), (b3, .inl (cI, 4, .inl te)), (b4, .inl (cI, 4, .inl kn)), (b5, .inl (cI, 6, .inl wa)), (b6, .inl (cI, 16, .inl ne)), (hp, .inr (6, [.ref hs, .int z])), (hs, .inl (cI, 30, .inl f))] [(0, .ref hx), (1, .int t), (2, .int x)] [.int r_12] 15 0 0
    refine x_if_ne C 21 dX9_left_15 (by decide) (fun c_15 => ?_) (fun c_15 => ?_)
    · skip
      have e_15 : ¬ ((r_12 : Int32).toInt = (0 : Int32).toInt) := fun h => c_15 (i_eq.mpr h)
      have : (0 : Int32).toInt = 0 := by decide
      refine x_aload_n C 0 dX9_left_21 rfl rfl ?_
      refine x_callV C [] [] [0, 1, 2, 3, 4, 5, 6, 7, 8, 9, 10, 11, 12] [] (q0 := 0) (c_X9_refusedEvening (xl X) (xD X) (xt X) hT hx hp hb hi he hn ho hg hl hr hm b0 b1 b2 b3 b4 b5 b6 hs pa mi ga te kn wa ne f kp ep ew eo ed em mn mo mu mg mt mb wc la br z (by omega)) dX9_left_22 wd_490 wd_491 wd_492 wd_2 wd_493 (np := 0) ⟨by decide, by decide, by decide +kernel⟩ rfl rfl (Nat.le_of_ble_eq_true rfl) (by decide) rfl rfl rfl rfl (by decide) rfl (by decide) (by decide) (fun v W1 h => ?_)
      obtain ⟨r_22, ep2_22, ew2_22, eo2_22, ed2_22, em2_22, mn2_22, mo2_22, mu2_22, mg2_22, mt2_22, mb2_22, rfl, rfl, h_22⟩ := h
      show V X 5 [(hx, .inr (9, [.ref hp, .ref hb, .ref hi, .int kp, .ref he, .ref hn, .ref ho, .ref hg, .ref hl, .ref hr])), (he, .inr (1, [.ref hb, .ref hp, .ref hm, .int ep2_22, .int ew2_22, .int eo2_22, .int ed2_22, .int em2_22])), (hm, .inr (3, [.ref hb, .int mn2_22, .int mo2_22, .int mu2_22, .int mg2_22, .int mt2_22, .int mb2_22])), (hb, .inr (0, [.ref b0, .ref b1, .ref b2, .ref b3, .ref b4, .ref b5, .ref b6, .int wc, .int la, .int br])), (b0, .inl (cI, 4, .inl pa)), (b1, .inl (cI, 16, .inl mi)), (b2, .inl (cI, 4, .inl ga)), (b3, .inl (cI, 4, .inl te)), (b4, .inl (cI, 4, .inl kn)), (b5, .inl (cI, 6, .inl wa)), (b6, .inl (cI, 16, .inl ne)), (hp, .inr (6, [.ref hs, .int z])), (hs, .inl (cI, 30, .inl f))] [(0, .ref hx), (1, .int t), (2, .int x)] [.int r_22] 25 0 0
      refine x_istore_n C [(3, .int r_22), (0, .ref hx), (1, .int t), (2, .int x)] dX9_left_25 rfl (by decide) rfl ?_
      refine x_iload_n C 0 dX9_left_26 rfl rfl ?_
      refine x_if_eq C 32 dX9_left_27 (by decide) (fun c_27 => ?_) (fun c_27 => ?_)
      · skip
        have e_27 : (r_22 : Int32).toInt = (0 : Int32).toInt := i_eq.mp c_27
        have : (0 : Int32).toInt = 0 := by decide
        refine x_aload_n C 1 dX9_left_32 rfl rfl ?_
        refine x_get C 0 1 dX9_left_33 inlX9 rfl (by decide) wd_19 rfl rfl rfl ?_
        refine x_iload_n C 2 dX9_left_36 rfl rfl ?_
        refine x_callV C [.int t] [(hx, .inr (9, [.ref hp, .ref hb, .ref hi, .int kp, .ref he, .ref hn, .ref ho, .ref hg, .ref hl, .ref hr])), (he, .inr (1, [.ref hb, .ref hp, .ref hm, .int ep2_22, .int ew2_22, .int eo2_22, .int ed2_22, .int em2_22])), (hm, .inr (3, [.ref hb, .int mn2_22, .int mo2_22, .int mu2_22, .int mg2_22, .int mt2_22, .int mb2_22])), (hp, .inr (6, [.ref hs, .int z])), (hs, .inl (cI, 30, .inl f))] [3, 4, 5, 6, 7, 8, 9, 10] [0, 1, 2, 11, 12] (q0 := 0) (c_X0_toldBy (xl X) (xD X) (xt X) hT hb b0 b1 b2 b3 b4 b5 b6 pa mi ga te kn wa ne wc la br t ) dX9_left_37 wd_836 wd_837 wd_838 wd_18 wd_839 (np := 1) ⟨by decide, by decide, by decide +kernel⟩ rfl rfl (Nat.le_of_ble_eq_true rfl) (by decide) rfl rfl rfl rfl (by decide) rfl (by decide) (by decide) (fun v W1 h => ?_)
        obtain ⟨r_37, rfl, rfl, h_37⟩ := h
        show V X 5 [(hx, .inr (9, [.ref hp, .ref hb, .ref hi, .int kp, .ref he, .ref hn, .ref ho, .ref hg, .ref hl, .ref hr])), (he, .inr (1, [.ref hb, .ref hp, .ref hm, .int ep2_22, .int ew2_22, .int eo2_22, .int ed2_22, .int em2_22])), (hm, .inr (3, [.ref hb, .int mn2_22, .int mo2_22, .int mu2_22, .int mg2_22, .int mt2_22, .int mb2_22])), (hp, .inr (6, [.ref hs, .int z])), (hs, .inl (cI, 30, .inl f)), (hb, .inr (0, [.ref b0, .ref b1, .ref b2, .ref b3, .ref b4, .ref b5, .ref b6, .int wc, .int la, .int br])), (b0, .inl (cI, 4, .inl pa)), (b1, .inl (cI, 16, .inl mi)), (b2, .inl (cI, 4, .inl ga)), (b3, .inl (cI, 4, .inl te)), (b4, .inl (cI, 4, .inl kn)), (b5, .inl (cI, 6, .inl wa)), (b6, .inl (cI, 16, .inl ne))] [(3, .int r_22), (0, .ref hx), (1, .int t), (2, .int x)] [.int r_37] 40 0 0
        refine x_aload_n C 1 dX9_left_40 rfl rfl ?_
        refine x_get C 0 4 dX9_left_41 inlX9 rfl (by decide) wd_25 rfl rfl rfl ?_
        refine x_getN C 1 5 dX9_left_44 inlX1 rfl (by decide) nt_28 rfl rfl rfl ?_
        refine x_iand C dX9_left_47 ?_
        refine x_istore C [(4, .int (r_37 &&& eo2_22)), (3, .int r_22), (0, .ref hx), (1, .int t), (2, .int x)] dX9_left_48 (by decide) rfl ?_
        refine x_iload_n C 4 dX9_left_50 rfl rfl ?_
        refine x_if_ne C 59 dX9_left_51 (by decide) (fun c_51 => ?_) (fun c_51 => ?_)
        · skip
          have e_51 : ¬ ((x : Int32).toInt = (0 : Int32).toInt) := fun h => c_51 (i_eq.mpr h)
          have : (0 : Int32).toInt = 0 := by decide
          refine x_aload_n C 2 dX9_left_59 rfl rfl ?_
          refine x_iload_n C 3 dX9_left_60 rfl rfl ?_
          refine x_iload C 0 dX9_left_61 rfl ?_
          refine x_callV C [.int t, .int (r_37 &&& eo2_22)] [] [0, 1, 2, 5, 6, 7, 8, 9, 10, 11, 12, 3, 4] [] (q0 := 0) (c_X9_closers (xl X) (xD X) (xt X) hT hx hp hb hi he hn ho hg hl hr hm b0 b1 b2 b3 b4 b5 b6 hs pa mi ga te kn wa ne f kp ep2_22 ew2_22 eo2_22 ed2_22 em2_22 mn2_22 mo2_22 mu2_22 mg2_22 mt2_22 mb2_22 wc la br z t (r_37 &&& eo2_22) ) dX9_left_63 wd_840 wd_841 wd_842 wd_2 wd_843 (np := 2) ⟨by decide, by decide, by decide +kernel⟩ rfl rfl (Nat.le_of_ble_eq_true rfl) (by decide) rfl rfl rfl rfl (by decide) rfl (by decide) (by decide) (fun v W1 h => ?_)
          obtain ⟨r_63, rfl, rfl, h_63⟩ := h
          show V X 5 [(hx, .inr (9, [.ref hp, .ref hb, .ref hi, .int kp, .ref he, .ref hn, .ref ho, .ref hg, .ref hl, .ref hr])), (he, .inr (1, [.ref hb, .ref hp, .ref hm, .int ep2_22, .int ew2_22, .int eo2_22, .int ed2_22, .int em2_22])), (hm, .inr (3, [.ref hb, .int mn2_22, .int mo2_22, .int mu2_22, .int mg2_22, .int mt2_22, .int mb2_22])), (hb, .inr (0, [.ref b0, .ref b1, .ref b2, .ref b3, .ref b4, .ref b5, .ref b6, .int wc, .int la, .int br])), (b0, .inl (cI, 4, .inl pa)), (b1, .inl (cI, 16, .inl mi)), (b2, .inl (cI, 4, .inl ga)), (b3, .inl (cI, 4, .inl te)), (b4, .inl (cI, 4, .inl kn)), (b5, .inl (cI, 6, .inl wa)), (b6, .inl (cI, 16, .inl ne)), (hp, .inr (6, [.ref hs, .int z])), (hs, .inl (cI, 30, .inl f))] [(4, .int (r_37 &&& eo2_22)), (3, .int r_22), (0, .ref hx), (1, .int t), (2, .int x)] [.int r_63] 66 0 0
          exact x_iret C dX9_left_66 (Nat.zero_le _) (Nat.zero_le _) (by rw [eO]; exact ⟨r_63, ep2_22, ew2_22, eo2_22, ed2_22, em2_22, mn2_22, mo2_22, mu2_22, mg2_22, mt2_22, mb2_22, rfl, rfl, (Or.inr ⟨by omega, Or.inr ⟨by omega, Or.inr ⟨(ref_yes h_22 (by omega)).1, (ref_yes h_22 (by omega)).2.elim (fun g q => ⟨g, q.1, Or.inr (Or.inr ⟨q.2, by omega, by rw [h_63, h_37]⟩)⟩)⟩⟩⟩)⟩)
        · skip
          have e_51 : (x : Int32).toInt = (0 : Int32).toInt := i_eq.mp c_51
          have : (0 : Int32).toInt = 0 := by decide
          refine x_iload C 0 dX9_left_54 rfl ?_
          refine x_goto C 66 dX9_left_56 (by decide) ?_
          refine x_sub [(hx, .inr (9, [.ref hp, .ref hb, .ref hi, .int kp, .ref he, .ref hn, .ref ho, .ref hg, .ref hl, .ref hr])), (he, .inr (1, [.ref hb, .ref hp, .ref hm, .int ep2_22, .int ew2_22, .int eo2_22, .int ed2_22, .int em2_22])), (hm, .inr (3, [.ref hb, .int mn2_22, .int mo2_22, .int mu2_22, .int mg2_22, .int mt2_22, .int mb2_22])), (hb, .inr (0, [.ref b0, .ref b1, .ref b2, .ref b3, .ref b4, .ref b5, .ref b6, .int wc, .int la, .int br])), (b0, .inl (cI, 4, .inl pa)), (b1, .inl (cI, 16, .inl mi)), (b2, .inl (cI, 4, .inl ga)), (b3, .inl (cI, 4, .inl te)), (b4, .inl (cI, 4, .inl kn)), (b5, .inl (cI, 6, .inl wa)), (b6, .inl (cI, 16, .inl ne)), (hp, .inr (6, [.ref hs, .int z])), (hs, .inl (cI, 30, .inl f))] [0, 1, 2, 5, 6, 7, 8, 9, 10, 11, 12, 3, 4] (by decide) rfl ?_
          exact x_iret C dX9_left_66 (Nat.zero_le _) (Nat.zero_le _) (by rw [eO]; exact ⟨(r_37 &&& eo2_22), ep2_22, ew2_22, eo2_22, ed2_22, em2_22, mn2_22, mo2_22, mu2_22, mg2_22, mt2_22, mb2_22, rfl, rfl, (Or.inr ⟨by omega, Or.inr ⟨by omega, Or.inr ⟨(ref_yes h_22 (by omega)).1, (ref_yes h_22 (by omega)).2.elim (fun g q => ⟨g, q.1, Or.inr (Or.inl ⟨q.2, by omega, by rw [h_37]⟩)⟩)⟩⟩⟩)⟩)
      · skip
        have e_27 : ¬ ((r_22 : Int32).toInt = (0 : Int32).toInt) := fun h => c_27 (i_eq.mpr h)
        have : (0 : Int32).toInt = 0 := by decide
        refine x_iload_n C 0 dX9_left_30 rfl rfl ?_
        exact x_iret C dX9_left_31 (Nat.zero_le _) (Nat.zero_le _) (by rw [eO]; exact ⟨r_22, ep2_22, ew2_22, eo2_22, ed2_22, em2_22, mn2_22, mo2_22, mu2_22, mg2_22, mt2_22, mb2_22, rfl, rfl, (Or.inr ⟨by omega, Or.inr ⟨by omega, (ref_no h_22 (by omega)).imp id (fun h => ⟨h.1, h.2.elim (fun g q => ⟨g, q.1, Or.inl q.2⟩)⟩)⟩⟩)⟩)
    · skip
      have e_15 : (r_12 : Int32).toInt = (0 : Int32).toInt := i_eq.mp c_15
      have : (0 : Int32).toInt = 0 := by decide
      refine x_bipush C (-2) dX9_left_18 (by decide) ?_
      have : ((-2) : Int32).toInt = -2 := by decide
      exact x_iret C dX9_left_20 (Nat.zero_le _) (Nat.zero_le _) (by rw [eO]; exact ⟨((-2)), ep, ew, eo, ed, em, mn, mo, mu, mg, mt, mb, rfl, rfl, (Or.inr ⟨by omega, Or.inl ⟨by omega, rfl⟩⟩)⟩)
  · skip
    have e_4 : (r_1 : Int32).toInt = (0 : Int32).toInt := i_eq.mp c_4
    have : (0 : Int32).toInt = 0 := by decide
    refine x_iconst C (-1) dX9_left_7 (by decide) ?_
    have : ((-1) : Int32).toInt = -1 := by decide
    exact x_iret C dX9_left_8 (Nat.zero_le _) (Nat.zero_le _) (by rw [eO]; exact ⟨((-1)), ep, ew, eo, ed, em, mn, mo, mu, mg, mt, mb, rfl, rfl, (Or.inl ⟨by omega, rfl⟩)⟩)
abbrev rm_X9_told : Room := { frames := 1, cells := 0, slots := 0, locals := 22 }
set_option maxHeartbeats 4000000 in
set_option maxRecDepth 100000 in
theorem c_X9_told (l : Launch) (D : va_G) (tys : List (ClassId × FieldType)) {cI cJ cZ cB : ClassId} (hT : Ty tys cI cJ cZ cB) (hx hp hb hi he hn ho hg hl hr b0 b1 b2 b3 b4 b5 b6 hs : Nat) (pa mi ga te kn wa ne f : Nat → Int32) (kp wc la br z : Int32) (x : Int32) (hwc : 0 ≤ wc.toInt ∧ wc.toInt ≤ 6) : Cn l D tys yX9_told cX9_told 3 (some .int) rm_X9_told [(hx, .inr (9, [.ref hp, .ref hb, .ref hi, .int kp, .ref he, .ref hn, .ref ho, .ref hg, .ref hl, .ref hr])), (hb, .inr (0, [.ref b0, .ref b1, .ref b2, .ref b3, .ref b4, .ref b5, .ref b6, .int wc, .int la, .int br])), (b0, .inl (cI, 4, .inl pa)), (b1, .inl (cI, 16, .inl mi)), (b2, .inl (cI, 4, .inl ga)), (b3, .inl (cI, 4, .inl te)), (b4, .inl (cI, 4, .inl kn)), (b5, .inl (cI, 6, .inl wa)), (b6, .inl (cI, 16, .inl ne)), (hp, .inr (6, [.ref hs, .int z])), (hs, .inl (cI, 30, .inl f))] [.ref hx, .int x] (fun v W1 => ∃ (r : Int32), v = some (.int r) ∧ W1 = [(hx, .inr (9, [.ref hp, .ref hb, .ref hi, .int kp, .ref he, .ref hn, .ref ho, .ref hg, .ref hl, .ref hr])), (hb, .inr (0, [.ref b0, .ref b1, .ref b2, .ref b3, .ref b4, .ref b5, .ref b6, .int wc, .int la, .int br])), (b0, .inl (cI, 4, .inl pa)), (b1, .inl (cI, 16, .inl mi)), (b2, .inl (cI, 4, .inl ga)), (b3, .inl (cI, 4, .inl te)), (b4, .inl (cI, 4, .inl kn)), (b5, .inl (cI, 6, .inl wa)), (b6, .inl (cI, 16, .inl ne)), (hp, .inr (6, [.ref hs, .int z])), (hs, .inl (cI, 30, .inl f))] ∧ ((((10 ≤ x.toInt ∧ x.toInt ≤ 13) ∧ r = te (x.toInt - 10).toNat) ∨ ((20 ≤ x.toInt ∧ x.toInt ≤ 23) ∧ r = kn (x.toInt - 20).toNat) ∨ ((30 ≤ x.toInt ∧ x.toInt ≤ 35) ∧ x.toInt - 30 < wc.toInt ∧ r = wa (x.toInt - 30).toNat) ∨ ((30 ≤ x.toInt ∧ x.toInt ≤ 35) ∧ ¬ x.toInt - 30 < wc.toInt ∧ r = -6) ∨ (x.toInt = 0 ∧ r = z) ∨ (x.toInt = 1 ∧ r = wc) ∨ (x.toInt = 2 ∧ r = la) ∨ (x.toInt = 3 ∧ r = br) ∨ (¬ ((0 ≤ x.toInt ∧ x.toInt ≤ 3) ∨ (10 ≤ x.toInt ∧ x.toInt ≤ 13) ∨ (20 ≤ x.toInt ∧ x.toInt ≤ 23) ∨ (30 ≤ x.toInt ∧ x.toInt ≤ 35)) ∧ r = -2)))) := by
  refine Cn.of (by decide) (Nat.le_of_ble_eq_true rfl) ?_ ?_ (fun X eL eD eT eO eK eN eM C => ?_)
  · intro h; cases h
  · intro v ws h; obtain ⟨_, rfl, rfl, _⟩ := h; exact Or.inl rfl
  subst eL eD eT
  show V X 3 [(hx, .inr (9, [.ref hp, .ref hb, .ref hi, .int kp, .ref he, .ref hn, .ref ho, .ref hg, .ref hl, .ref hr])), (hb, .inr (0, [.ref b0, .ref b1, .ref b2, .ref b3, .ref b4, .ref b5, .ref b6, .int wc, .int la, .int br])), (b0, .inl (cI, 4, .inl pa)), (b1, .inl (cI, 16, .inl mi)), (b2, .inl (cI, 4, .inl ga)), (b3, .inl (cI, 4, .inl te)), (b4, .inl (cI, 4, .inl kn)), (b5, .inl (cI, 6, .inl wa)), (b6, .inl (cI, 16, .inl ne)), (hp, .inr (6, [.ref hs, .int z])), (hs, .inl (cI, 30, .inl f))] [(0, .ref hx), (1, .int x)] [] 0 0 0
  refine x_iload_n C 1 dX9_told_0 rfl rfl ?_
  refine x_bipush C 10 dX9_told_1 (by decide) ?_
  refine x_bipush C 13 dX9_told_3 (by decide) ?_
  refine x_callS C [.int x, .int 10, .int 13] [(hx, .inr (9, [.ref hp, .ref hb, .ref hi, .int kp, .ref he, .ref hn, .ref ho, .ref hg, .ref hl, .ref hr])), (hb, .inr (0, [.ref b0, .ref b1, .ref b2, .ref b3, .ref b4, .ref b5, .ref b6, .int wc, .int la, .int br])), (b0, .inl (cI, 4, .inl pa)), (b1, .inl (cI, 16, .inl mi)), (b2, .inl (cI, 4, .inl ga)), (b3, .inl (cI, 4, .inl te)), (b4, .inl (cI, 4, .inl kn)), (b5, .inl (cI, 6, .inl wa)), (b6, .inl (cI, 16, .inl ne)), (hp, .inr (6, [.ref hs, .int z])), (hs, .inl (cI, 30, .inl f))] [] [0, 1, 2, 3, 4, 5, 6, 7, 8, 9, 10] (c_X9_isIn (xl X) (xD X) (xt X) hT x 10 13 ) dX9_told_5 wd_186 wd_187 wd_2 wd_188 (np := 3) ⟨by decide, by decide, by decide +kernel⟩ rfl rfl (Nat.le_of_ble_eq_true rfl) (by decide) rfl (by decide) rfl (by decide) (by decide) (fun v W1 h => ?_)
  obtain ⟨r_5, rfl, rfl, h_5⟩ := h
  have : (10 : Int32).toInt = 10 := by decide
  have : (13 : Int32).toInt = 13 := by decide
  show V X 3 [(hx, .inr (9, [.ref hp, .ref hb, .ref hi, .int kp, .ref he, .ref hn, .ref ho, .ref hg, .ref hl, .ref hr])), (hb, .inr (0, [.ref b0, .ref b1, .ref b2, .ref b3, .ref b4, .ref b5, .ref b6, .int wc, .int la, .int br])), (b0, .inl (cI, 4, .inl pa)), (b1, .inl (cI, 16, .inl mi)), (b2, .inl (cI, 4, .inl ga)), (b3, .inl (cI, 4, .inl te)), (b4, .inl (cI, 4, .inl kn)), (b5, .inl (cI, 6, .inl wa)), (b6, .inl (cI, 16, .inl ne)), (hp, .inr (6, [.ref hs, .int z])), (hs, .inl (cI, 30, .inl f))] [(0, .ref hx), (1, .int x)] [.int r_5] 8 0 0
  refine x_if_eq C 24 dX9_told_8 (by decide) (fun c_8 => ?_) (fun c_8 => ?_)
  · skip
    have e_8 : (r_5 : Int32).toInt = (0 : Int32).toInt := i_eq.mp c_8
    have : (0 : Int32).toInt = 0 := by decide
    refine x_iload_n C 1 dX9_told_24 rfl rfl ?_
    refine x_bipush C 20 dX9_told_25 (by decide) ?_
    refine x_bipush C 23 dX9_told_27 (by decide) ?_
    refine x_callS C [.int x, .int 20, .int 23] [(hx, .inr (9, [.ref hp, .ref hb, .ref hi, .int kp, .ref he, .ref hn, .ref ho, .ref hg, .ref hl, .ref hr])), (hb, .inr (0, [.ref b0, .ref b1, .ref b2, .ref b3, .ref b4, .ref b5, .ref b6, .int wc, .int la, .int br])), (b0, .inl (cI, 4, .inl pa)), (b1, .inl (cI, 16, .inl mi)), (b2, .inl (cI, 4, .inl ga)), (b3, .inl (cI, 4, .inl te)), (b4, .inl (cI, 4, .inl kn)), (b5, .inl (cI, 6, .inl wa)), (b6, .inl (cI, 16, .inl ne)), (hp, .inr (6, [.ref hs, .int z])), (hs, .inl (cI, 30, .inl f))] [] [0, 1, 2, 3, 4, 5, 6, 7, 8, 9, 10] (c_X9_isIn (xl X) (xD X) (xt X) hT x 20 23 ) dX9_told_29 wd_186 wd_187 wd_2 wd_188 (np := 3) ⟨by decide, by decide, by decide +kernel⟩ rfl rfl (Nat.le_of_ble_eq_true rfl) (by decide) rfl (by decide) rfl (by decide) (by decide) (fun v W1 h => ?_)
    obtain ⟨r_29, rfl, rfl, h_29⟩ := h
    have : (20 : Int32).toInt = 20 := by decide
    have : (23 : Int32).toInt = 23 := by decide
    show V X 3 [(hx, .inr (9, [.ref hp, .ref hb, .ref hi, .int kp, .ref he, .ref hn, .ref ho, .ref hg, .ref hl, .ref hr])), (hb, .inr (0, [.ref b0, .ref b1, .ref b2, .ref b3, .ref b4, .ref b5, .ref b6, .int wc, .int la, .int br])), (b0, .inl (cI, 4, .inl pa)), (b1, .inl (cI, 16, .inl mi)), (b2, .inl (cI, 4, .inl ga)), (b3, .inl (cI, 4, .inl te)), (b4, .inl (cI, 4, .inl kn)), (b5, .inl (cI, 6, .inl wa)), (b6, .inl (cI, 16, .inl ne)), (hp, .inr (6, [.ref hs, .int z])), (hs, .inl (cI, 30, .inl f))] [(0, .ref hx), (1, .int x)] [.int r_29] 32 0 0
    refine x_if_eq C 48 dX9_told_32 (by decide) (fun c_32 => ?_) (fun c_32 => ?_)
    · skip
      have e_32 : (r_29 : Int32).toInt = (0 : Int32).toInt := i_eq.mp c_32
      have : (0 : Int32).toInt = 0 := by decide
      refine x_iload_n C 1 dX9_told_48 rfl rfl ?_
      refine x_bipush C 30 dX9_told_49 (by decide) ?_
      refine x_bipush C 35 dX9_told_51 (by decide) ?_
      refine x_callS C [.int x, .int 30, .int 35] [(hx, .inr (9, [.ref hp, .ref hb, .ref hi, .int kp, .ref he, .ref hn, .ref ho, .ref hg, .ref hl, .ref hr])), (hb, .inr (0, [.ref b0, .ref b1, .ref b2, .ref b3, .ref b4, .ref b5, .ref b6, .int wc, .int la, .int br])), (b0, .inl (cI, 4, .inl pa)), (b1, .inl (cI, 16, .inl mi)), (b2, .inl (cI, 4, .inl ga)), (b3, .inl (cI, 4, .inl te)), (b4, .inl (cI, 4, .inl kn)), (b5, .inl (cI, 6, .inl wa)), (b6, .inl (cI, 16, .inl ne)), (hp, .inr (6, [.ref hs, .int z])), (hs, .inl (cI, 30, .inl f))] [] [0, 1, 2, 3, 4, 5, 6, 7, 8, 9, 10] (c_X9_isIn (xl X) (xD X) (xt X) hT x 30 35 ) dX9_told_53 wd_186 wd_187 wd_2 wd_188 (np := 3) ⟨by decide, by decide, by decide +kernel⟩ rfl rfl (Nat.le_of_ble_eq_true rfl) (by decide) rfl (by decide) rfl (by decide) (by decide) (fun v W1 h => ?_)
      obtain ⟨r_53, rfl, rfl, h_53⟩ := h
      have : (30 : Int32).toInt = 30 := by decide
      have : (35 : Int32).toInt = 35 := by decide
      show V X 3 [(hx, .inr (9, [.ref hp, .ref hb, .ref hi, .int kp, .ref he, .ref hn, .ref ho, .ref hg, .ref hl, .ref hr])), (hb, .inr (0, [.ref b0, .ref b1, .ref b2, .ref b3, .ref b4, .ref b5, .ref b6, .int wc, .int la, .int br])), (b0, .inl (cI, 4, .inl pa)), (b1, .inl (cI, 16, .inl mi)), (b2, .inl (cI, 4, .inl ga)), (b3, .inl (cI, 4, .inl te)), (b4, .inl (cI, 4, .inl kn)), (b5, .inl (cI, 6, .inl wa)), (b6, .inl (cI, 16, .inl ne)), (hp, .inr (6, [.ref hs, .int z])), (hs, .inl (cI, 30, .inl f))] [(0, .ref hx), (1, .int x)] [.int r_53] 56 0 0
      refine x_if_eq C 90 dX9_told_56 (by decide) (fun c_56 => ?_) (fun c_56 => ?_)
      · skip
        have e_56 : (r_53 : Int32).toInt = (0 : Int32).toInt := i_eq.mp c_56
        have : (0 : Int32).toInt = 0 := by decide
        refine x_iload_n C 1 dX9_told_90 rfl rfl ?_
        rcases Classical.em ((x : Int32).toInt < 0 ∨ 3 < (x : Int32).toInt) with h_91 | h_91
        · refine x_tswOut C 152 dX9_told_91 h_91 (by decide) ?_
          refine x_bipush C (-2) dX9_told_152 (by decide) ?_
          have : ((-2) : Int32).toInt = -2 := by decide
          exact x_iret C dX9_told_154 (Nat.zero_le _) (Nat.zero_le _) (by rw [eO]; exact ⟨((-2)), rfl, rfl, (Or.inr (Or.inr (Or.inr (Or.inr (Or.inr (Or.inr (Or.inr (Or.inr (⟨by omega, rfl⟩)))))))))⟩)
        · skip
          rcases Classical.em ((x : Int32).toInt = 0) with hk_91 | hk_91
          · refine x_tswIn C 120 dX9_told_91 (by omega) (by omega) (by rw [hk_91]; rfl) (by decide) ?_
            refine x_aload_n C 0 dX9_told_120 rfl rfl ?_
            refine x_get C 0 0 dX9_told_121 inlX9 rfl (by decide) wd_15 rfl rfl rfl ?_
            refine x_getN C 9 1 dX9_told_124 inlX6 rfl (by decide) nt_3 rfl rfl rfl ?_
            exact x_iret C dX9_told_127 (Nat.zero_le _) (Nat.zero_le _) (by rw [eO]; exact ⟨z, rfl, rfl, (Or.inr (Or.inr (Or.inr (Or.inr (Or.inl ⟨by omega, rfl⟩)))))⟩)
          · have hn_91_0 := hk_91
            rcases Classical.em ((x : Int32).toInt = 1) with hk_91 | hk_91
            · refine x_tswIn C 128 dX9_told_91 (by omega) (by omega) (by rw [hk_91]; rfl) (by decide) ?_
              refine x_aload_n C 0 dX9_told_128 rfl rfl ?_
              refine x_get C 0 1 dX9_told_129 inlX9 rfl (by decide) wd_19 rfl rfl rfl ?_
              refine x_getN C 1 7 dX9_told_132 inlX0 rfl (by decide) nt_18 rfl rfl rfl ?_
              exact x_iret C dX9_told_135 (Nat.zero_le _) (Nat.zero_le _) (by rw [eO]; exact ⟨wc, rfl, rfl, (Or.inr (Or.inr (Or.inr (Or.inr (Or.inr (Or.inl ⟨by omega, rfl⟩))))))⟩)
            · have hn_91_1 := hk_91
              rcases Classical.em ((x : Int32).toInt = 2) with hk_91 | hk_91
              · refine x_tswIn C 136 dX9_told_91 (by omega) (by omega) (by rw [hk_91]; rfl) (by decide) ?_
                refine x_aload_n C 0 dX9_told_136 rfl rfl ?_
                refine x_get C 0 1 dX9_told_137 inlX9 rfl (by decide) wd_19 rfl rfl rfl ?_
                refine x_getN C 1 8 dX9_told_140 inlX0 rfl (by decide) nt_20 rfl rfl rfl ?_
                exact x_iret C dX9_told_143 (Nat.zero_le _) (Nat.zero_le _) (by rw [eO]; exact ⟨la, rfl, rfl, (Or.inr (Or.inr (Or.inr (Or.inr (Or.inr (Or.inr (Or.inl ⟨by omega, rfl⟩)))))))⟩)
              · have hn_91_2 := hk_91
                rcases Classical.em ((x : Int32).toInt = 3) with hk_91 | hk_91
                · refine x_tswIn C 144 dX9_told_91 (by omega) (by omega) (by rw [hk_91]; rfl) (by decide) ?_
                  refine x_aload_n C 0 dX9_told_144 rfl rfl ?_
                  refine x_get C 0 1 dX9_told_145 inlX9 rfl (by decide) wd_19 rfl rfl rfl ?_
                  refine x_getN C 1 9 dX9_told_148 inlX0 rfl (by decide) nt_23 rfl rfl rfl ?_
                  exact x_iret C dX9_told_151 (Nat.zero_le _) (Nat.zero_le _) (by rw [eO]; exact ⟨br, rfl, rfl, (Or.inr (Or.inr (Or.inr (Or.inr (Or.inr (Or.inr (Or.inr (Or.inl ⟨by omega, rfl⟩))))))))⟩)
                · have hn_91_3 := hk_91
                  exfalso; omega
      · skip
        have e_56 : ¬ ((r_53 : Int32).toInt = (0 : Int32).toInt) := fun h => c_56 (i_eq.mpr h)
        have : (0 : Int32).toInt = 0 := by decide
        have : (30 : Int32).toInt = 30 := by decide
        have x309 := i_sub (x := x) (y := 30) (by omega) (by omega)
        refine x_iload_n C 1 dX9_told_59 rfl rfl ?_
        refine x_bipush C 30 dX9_told_60 (by decide) ?_
        refine x_isub C dX9_told_62 ?_
        refine x_istore_n C [(2, .int (x - 30)), (0, .ref hx), (1, .int x)] dX9_told_63 rfl (by decide) rfl ?_
        refine x_iload_n C 0 dX9_told_64 rfl rfl ?_
        refine x_aload_n C 1 dX9_told_65 rfl rfl ?_
        refine x_get C 0 1 dX9_told_66 inlX9 rfl (by decide) wd_19 rfl rfl rfl ?_
        refine x_getN C 1 7 dX9_told_69 inlX0 rfl (by decide) nt_18 rfl rfl rfl ?_
        refine x_icmp_ge C 87 dX9_told_72 (by decide) (fun c_72 => ?_) (fun c_72 => ?_)
        · skip
          have e_72 : (wc : Int32).toInt ≤ (x - 30 : Int32).toInt := i_le.mp c_72
          refine x_bipush C (-6) dX9_told_87 (by decide) ?_
          have : ((-6) : Int32).toInt = -6 := by decide
          exact x_iret C dX9_told_89 (Nat.zero_le _) (Nat.zero_le _) (by rw [eO]; exact ⟨((-6)), rfl, rfl, (Or.inr (Or.inr (Or.inr (Or.inl ⟨by omega, by omega, rfl⟩))))⟩)
        · skip
          have e_72 : ¬ ((wc : Int32).toInt ≤ (x - 30 : Int32).toInt) := fun h => c_72 (i_le.mpr h)
          refine x_aload_n C 1 dX9_told_75 rfl rfl ?_
          refine x_get C 0 1 dX9_told_76 inlX9 rfl (by decide) wd_19 rfl rfl rfl ?_
          refine x_getN C 1 5 dX9_told_79 inlX0 rfl (by decide) nt_15 rfl rfl rfl ?_
          refine x_iload_n C 0 dX9_told_82 rfl rfl ?_
          have : (30 : Int32).toInt = 30 := by decide
          have := i_sub (x := x) (y := 30) (by omega) (by omega)
          have v_83 : vp_in (x - 30) 6 := (vp_in_iff.mpr (by omega))
          refine x_iald C 7 0 dX9_told_83 hT.1 rfl v_83 ?_
          refine x_goto C 89 dX9_told_84 (by decide) ?_
          exact x_iret C dX9_told_89 (Nat.zero_le _) (Nat.zero_le _) (by rw [eO]; exact ⟨(wa (Int32.toNatClampNeg (x - 30))), rfl, rfl, (Or.inr (Or.inr (Or.inl ⟨by omega, by omega, congrArg wa (by show (x - 30).toInt.toNat = _; have : (30 : Int32).toInt = 30 := (by decide); have := i_sub (x := x) (y := 30) (by omega) (by omega); omega)⟩)))⟩)
    · skip
      have e_32 : ¬ ((r_29 : Int32).toInt = (0 : Int32).toInt) := fun h => c_32 (i_eq.mpr h)
      have : (0 : Int32).toInt = 0 := by decide
      refine x_aload_n C 0 dX9_told_35 rfl rfl ?_
      refine x_get C 0 1 dX9_told_36 inlX9 rfl (by decide) wd_19 rfl rfl rfl ?_
      refine x_getN C 1 4 dX9_told_39 inlX0 rfl (by decide) nt_14 rfl rfl rfl ?_
      refine x_iload_n C 1 dX9_told_42 rfl rfl ?_
      refine x_bipush C 20 dX9_told_43 (by decide) ?_
      refine x_isub C dX9_told_45 ?_
      have : (20 : Int32).toInt = 20 := by decide
      have := i_sub (x := x) (y := 20) (by omega) (by omega)
      have v_46 : vp_in (x - 20) 4 := (vp_in_iff.mpr (by omega))
      refine x_iald C 6 0 dX9_told_46 hT.1 rfl v_46 ?_
      exact x_iret C dX9_told_47 (Nat.zero_le _) (Nat.zero_le _) (by rw [eO]; exact ⟨(kn (Int32.toNatClampNeg (x - 20))), rfl, rfl, (Or.inr (Or.inl ⟨by omega, congrArg kn (by show (x - 20).toInt.toNat = _; have : (20 : Int32).toInt = 20 := (by decide); have := i_sub (x := x) (y := 20) (by omega) (by omega); omega)⟩))⟩)
  · skip
    have e_8 : ¬ ((r_5 : Int32).toInt = (0 : Int32).toInt) := fun h => c_8 (i_eq.mpr h)
    have : (0 : Int32).toInt = 0 := by decide
    refine x_aload_n C 0 dX9_told_11 rfl rfl ?_
    refine x_get C 0 1 dX9_told_12 inlX9 rfl (by decide) wd_19 rfl rfl rfl ?_
    refine x_getN C 1 3 dX9_told_15 inlX0 rfl (by decide) nt_13 rfl rfl rfl ?_
    refine x_iload_n C 1 dX9_told_18 rfl rfl ?_
    refine x_bipush C 10 dX9_told_19 (by decide) ?_
    refine x_isub C dX9_told_21 ?_
    have : (10 : Int32).toInt = 10 := by decide
    have := i_sub (x := x) (y := 10) (by omega) (by omega)
    have v_22 : vp_in (x - 10) 4 := (vp_in_iff.mpr (by omega))
    refine x_iald C 5 0 dX9_told_22 hT.1 rfl v_22 ?_
    exact x_iret C dX9_told_23 (Nat.zero_le _) (Nat.zero_le _) (by rw [eO]; exact ⟨(te (Int32.toNatClampNeg (x - 10))), rfl, rfl, (Or.inl ⟨by omega, congrArg te (by show (x - 10).toInt.toNat = _; have : (10 : Int32).toInt = 10 := (by decide); have := i_sub (x := x) (y := 10) (by omega) (by omega); omega)⟩)⟩)
