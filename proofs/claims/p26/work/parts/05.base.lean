/-! THE LAYER: one judgement V over explicit data (world, locals, stack, pc), and contracts Cn of one form -/
def nwl : List Cond := [.fieldLinkNest RX8 42 "StoryNest$Pad" "size" "I" "StoryNest", .fieldLinkNest RX1 45 "StoryNest$Pad" "size" "I" "StoryNest", .fieldLinkNest RX0 43 "StoryNest$Pad" "size" "I" "StoryNest", .fieldLinkNest RX9 230 "StoryNest$Pad" "size" "I" "StoryNest", .fieldLinkNest RX5 54 "StoryNest$Book" "parts" "[I" "StoryNest", .fieldLinkNest RX3 32 "StoryNest$Book" "parts" "[I" "StoryNest", .fieldLinkNest RX9 113 "StoryNest$Book" "parts" "[I" "StoryNest", .fieldLinkNest RX4 91 "StoryNest$Book" "parts" "[I" "StoryNest", .fieldLinkNest RX3 41 "StoryNest$Book" "gates" "[I" "StoryNest", .fieldLinkNest RX9 124 "StoryNest$Book" "gates" "[I" "StoryNest", .fieldLinkNest RX1 89 "StoryNest$Book" "tellers" "[I" "StoryNest", .fieldLinkNest RX5 65 "StoryNest$Book" "tellers" "[I" "StoryNest", .fieldLinkNest RX3 38 "StoryNest$Book" "tellers" "[I" "StoryNest", .fieldLinkNest RX9 130 "StoryNest$Book" "tellers" "[I" "StoryNest", .fieldLinkNest RX9 133 "StoryNest$Book" "known" "[I" "StoryNest", .fieldLinkNest RX9 245 "StoryNest$Book" "waits" "[I" "StoryNest", .fieldLinkNest RX3 61 "StoryNest$Book" "needs" "[I" "StoryNest", .fieldLinkNest RX7 19 "StoryNest$Book" "waitCount" "I" "StoryNest", .fieldLinkNest RX9 139 "StoryNest$Book" "waitCount" "I" "StoryNest", .fieldLinkNest RX3 44 "StoryNest$Book" "law" "I" "StoryNest", .fieldLinkNest RX9 149 "StoryNest$Book" "law" "I" "StoryNest", .fieldLinkNest RX1 93 "StoryNest$Book" "breath" "I" "StoryNest", .fieldLinkNest RX5 81 "StoryNest$Book" "breath" "I" "StoryNest", .fieldLinkNest RX9 152 "StoryNest$Book" "breath" "I" "StoryNest", .fieldLinkNest RX1 78 "StoryNest$Moment" "night" "I" "StoryNest", .fieldLinkNest RX1 66 "StoryNest$Moment" "open" "I" "StoryNest", .fieldLinkNest RX9 158 "StoryNest$Evening" "place" "I" "StoryNest", .fieldLinkNest RX9 161 "StoryNest$Evening" "why" "I" "StoryNest", .fieldLinkNest RX9 167 "StoryNest$Evening" "open" "I" "StoryNest", .fieldLinkNest RX9 170 "StoryNest$Evening" "deep" "I" "StoryNest", .fieldLinkNest RX9 173 "StoryNest$Evening" "minutes" "I" "StoryNest", .fieldLinkNest RX8 33 "StoryNest$Nights" "nights" "[I" "StoryNest", .fieldLinkNest RX2 41 "StoryNest$Nights" "nights" "[I" "StoryNest", .fieldLinkNest RX2 33 "StoryNest$Nights" "worth" "[J" "StoryNest", .fieldLinkNest RX5 41 "StoryNest$Nights" "worth" "[J" "StoryNest", .fieldLinkNest RX8 49 "StoryNest$Nights" "worth" "[J" "StoryNest", .fieldLinkNest RX5 27 "StoryNest$Nights" "size" "I" "StoryNest", .fieldLinkNest RX2 15 "StoryNest$Nights" "size" "I" "StoryNest", .fieldLinkNest RX8 29 "StoryNest$Nights" "size" "I" "StoryNest", .fieldLinkNest RX5 51 "StoryNest$Nights" "set" "I" "StoryNest", .methodLinkNest RX9 9 yX6_init "StoryNest", .methodLinkNest RX6 23 yX9_isIn "StoryNest", .methodLinkNest RX0 56 yX9_isIn "StoryNest", .methodLinkNest RX1 54 yX9_isStory "StoryNest", .methodLinkNest RX4 84 yX9_isIn "StoryNest", .methodLinkNest RX5 101 yX9_isIn "StoryNest", .methodLinkNest RX8 68 yX9_isIn "StoryNest"]
def NW (U : State) : Prop := (∀ w ∈ nwl, va_Nw w U) ∧ va_AO "StoryNest$Book" U
theorem nwl_kind : ∀ w ∈ nwl, (∃ a i b n d h, w = Cond.fieldLinkNest a i b n d h) ∨ (∃ a i x h, w = Cond.methodLinkNest a i x h) := by
  intro w hw
  simp only [nwl, List.mem_cons, List.not_mem_nil, or_false] at hw
  rcases hw with rfl | rfl | rfl | rfl | rfl | rfl | rfl | rfl | rfl | rfl | rfl | rfl | rfl | rfl | rfl | rfl | rfl | rfl | rfl | rfl | rfl | rfl | rfl | rfl | rfl | rfl | rfl | rfl | rfl | rfl | rfl | rfl | rfl | rfl | rfl | rfl | rfl | rfl | rfl | rfl | rfl | rfl | rfl | rfl | rfl | rfl | rfl <;> first | exact Or.inl ⟨_, _, _, _, _, _, rfl⟩ | exact Or.inr ⟨_, _, _, _, rfl⟩
theorem NW.same {u U : State} (h : u.vm = U.vm) (hZ : NW u) : NW U := by
  refine ⟨?_, va_AO.moved (by rw [h]; exact Vm.Alike.refl U.vm) hZ.2⟩
  intro w hw
  rcases nwl_kind w hw with ⟨a, i, b, n, d, h', rfl⟩ | ⟨a, i, x, h', rfl⟩
  · exact va_Nw.same rfl h (hZ.1 _ hw)
  · exact va_Nw.same rfl h (hZ.1 _ hw)
theorem NW.warm {s U : State} (hW : s.WarmedH U.vm) (hZ : NW s) : NW U := by
  refine ⟨?_, va_AO.moved hW.alike hZ.2⟩
  intro w hw
  rcases nwl_kind w hw with ⟨a, i, b, n, d, h', rfl⟩ | ⟨a, i, x, h', rfl⟩
  · exact va_Nw.warmF hW (hZ.1 _ hw)
  · exact va_Nw.warmM hW (hZ.1 _ hw)

theorem fm_of {α β : Type} {f : α → Option β} {l : List α} {r : List β} (h : l.map f = r.map some) : l.filterMap f = r := by
  induction l generalizing r with
  | nil => cases r with
    | nil => rfl
    | cons => simp at h
  | cons a l ih => cases r with
    | nil => simp at h
    | cons b r =>
      simp only [List.map_cons, List.cons.injEq] at h
      rw [List.filterMap_cons, h.1, ih h.2]
/-- what stays the same over one method's walk -/
abbrev Cx : Type := Program × Launch × Env × Room × State × MethodId × Array Value × List Frame × Method × Code × (State → Prop) × (Nat → Prop) × va_G × List (ClassId × FieldType) × (Option Value → va_W → Prop) × Nat × Nat
abbrev xp (X : Cx) : Program := X.1
abbrev xl (X : Cx) : Launch := X.2.1
abbrev xe (X : Cx) : Env := X.2.2.1
abbrev xR (X : Cx) : Room := X.2.2.2.1
abbrev xs (X : Cx) : State := X.2.2.2.2.1
abbrev xm (X : Cx) : MethodId := X.2.2.2.2.2.1
abbrev xa (X : Cx) : Array Value := X.2.2.2.2.2.2.1
abbrev xb (X : Cx) : List Frame := X.2.2.2.2.2.2.2.1
abbrev xh (X : Cx) : Method := X.2.2.2.2.2.2.2.2.1
abbrev xc (X : Cx) : Code := X.2.2.2.2.2.2.2.2.2.1
abbrev xQ (X : Cx) : State → Prop := X.2.2.2.2.2.2.2.2.2.2.1
abbrev xA (X : Cx) : Nat → Prop := X.2.2.2.2.2.2.2.2.2.2.2.1
abbrev xD (X : Cx) : va_G := X.2.2.2.2.2.2.2.2.2.2.2.2.1
abbrev xt (X : Cx) : List (ClassId × FieldType) := X.2.2.2.2.2.2.2.2.2.2.2.2.2.1
abbrev xo (X : Cx) : Option Value → va_W → Prop := X.2.2.2.2.2.2.2.2.2.2.2.2.2.2.1
abbrev xk (X : Cx) : Nat := X.2.2.2.2.2.2.2.2.2.2.2.2.2.2.2.1
abbrev xn (X : Cx) : Nat := X.2.2.2.2.2.2.2.2.2.2.2.2.2.2.2.2
/-- the machine at pc, with this world, these locals, this stack, k cells and n slots made so far, comes to its end -/
def V (X : Cx) (nL : Nat) (ws : va_W) (lv : List (Nat × Value)) (st : List Value) (pc k n : Nat) : Prop :=
  ∀ (H : Heap) (locs : List Loc) (ls : Array Slot), va_P (xD X) vwCl ws H → va_D (xA X) ws → va_S (xA X) (xs X).heap H locs → lv_has ls nL lv →
    W (xp X) (xl X) (xe X) (xR X) (xs X) (xm X) (xa X) (xb X) (xh X) (xc X) H locs k n (xQ X) (F0 (xm X) pc ls st)
/-- the end with an answer -/
def Endj (X : Cx) (cc : ByteArray) (v : Option Value) (ws : va_W) : Prop := ∀ (H : Heap) (locs : List Loc) (ls : Array Slot) (pc : Nat), va_P (xD X) vwCl ws H → va_D (xA X) ws → va_S (xA X) (xs X).heap H locs →
  decode cc pc = .ok (match v with | none => (.return_, 1) | some (.long _) => (.lreturn, 1) | _ => (.ireturn, 1)) →
    W (xp X) (xl X) (xe X) (xR X) (xs X) (xm X) (xa X) (xb X) (xh X) (xc X) H locs (xk X) (xn X) (xQ X) (F0 (xm X) pc ls v.toList)
def Ok (X : Cx) (cc : ByteArray) (nL : Nat) (own : String) (rm : Room) : Prop :=
  (xp X).tables.exec = Jvm.exec ∧ (xc X).code = cc ∧ (xc X).maxLocals = nL ∧ (xs X).vm.findClass own = some (xm X).cls ∧ (∀ w ∈ wsL_law, w.before (xa X) (xs X) = true) ∧ (∀ q, (xs X).heap.size ≤ q → xA X q) ∧ va_K (xD X) vwCl (xt X) (xs X) ∧ NW (xs X) ∧ xR X = rm ∧ (∀ v ws, xo X v ws → Endj X cc v ws)
section XR
variable {X : Cx} {cc : ByteArray} {nL : Nat} {own : String} {rm : Room} {ws : va_W} {lv : List (Nat × Value)} {st : List Value} {pc k n : Nat}
theorem Ok.hx (C : Ok X cc nL own rm) : (xp X).tables.exec = Jvm.exec := C.1
theorem Ok.hb (C : Ok X cc nL own rm) : (xc X).code = cc := C.2.1
theorem Ok.hml (C : Ok X cc nL own rm) : (xc X).maxLocals = nL := C.2.2.1
theorem Ok.ho (C : Ok X cc nL own rm) : (xs X).vm.findClass own = some (xm X).cls := C.2.2.2.1
theorem Ok.w (C : Ok X cc nL own rm) {w : Cond} (h : w ∈ wsL_law) : w.before (xa X) (xs X) = true := C.2.2.2.2.1 w h
theorem Ok.hA (C : Ok X cc nL own rm) : ∀ q, (xs X).heap.size ≤ q → xA X q := C.2.2.2.2.2.1
theorem Ok.hK (C : Ok X cc nL own rm) : va_K (xD X) vwCl (xt X) (xs X) := C.2.2.2.2.2.2.1
theorem Ok.hN (C : Ok X cc nL own rm) : NW (xs X) := C.2.2.2.2.2.2.2.1
theorem Ok.hR (C : Ok X cc nL own rm) : xR X = rm := C.2.2.2.2.2.2.2.2.1
theorem Ok.he (C : Ok X cc nL own rm) {v : Option Value} {ws : va_W} (h : xo X v ws) : Endj X cc v ws := C.2.2.2.2.2.2.2.2.2 v ws h
theorem Ok.nw (C : Ok X cc nL own rm) {w : Cond} (h : w ∈ nwl) : va_Nw w (xs X) := C.hN.1 w h
theorem x_iconst (C : Ok X cc nL own rm) {z : Int} (v : Int32) (hd : decode cc pc = .ok (.iconst z, 1)) (hv : Int32.ofInt z = v) (kk : V X nL ws lv (.int v :: st) (pc + 1) k n) : V X nL ws lv st pc k n :=
  fun H locs ls hP hD hS hl => lv_iconst C.hx C.hb hd hv (kk H locs ls hP hD hS hl)
theorem x_bipush (C : Ok X cc nL own rm) {z : Int} (v : Int32) (hd : decode cc pc = .ok (.bipush z, 2)) (hv : (Int8.ofInt z).toInt32 = v) (kk : V X nL ws lv (.int v :: st) (pc + 2) k n) : V X nL ws lv st pc k n :=
  fun H locs ls hP hD hS hl => lv_bipush C.hx C.hb hd hv (kk H locs ls hP hD hS hl)
theorem x_sipush (C : Ok X cc nL own rm) {z : Int} (v : Int32) (hd : decode cc pc = .ok (.sipush z, 3)) (hv : (Int16.ofInt z).toInt32 = v) (kk : V X nL ws lv (.int v :: st) (pc + 3) k n) : V X nL ws lv st pc k n :=
  fun H locs ls hP hD hS hl => lv_sipush C.hx C.hb hd hv (kk H locs ls hP hD hS hl)
theorem x_lconst (C : Ok X cc nL own rm) {z : Fin 2} (v : Int64) (hd : decode cc pc = .ok (.lconst z, 1)) (hv : Int64.ofNat (z : Nat) = v) (kk : V X nL ws lv (.long v :: st) (pc + 1) k n) : V X nL ws lv st pc k n :=
  fun H locs ls hP hD hS hl => lv_lconst C.hx C.hb hd hv (kk H locs ls hP hD hS hl)
theorem x_ldc (C : Ok X cc nL own rm) {i : Nat} {v : Int32} (hd : decode cc pc = .ok (.ldc i, 2)) (hw : Cond.constant own i v ∈ wsL_law) (kk : V X nL ws lv (.int v :: st) (pc + 2) k n) : V X nL ws lv st pc k n :=
  fun H locs ls hP hD hS hl => lv_ldc C.hx C.hb C.ho (C.w hw) hd (kk H locs ls hP hD hS hl)
theorem x_ldcw (C : Ok X cc nL own rm) {i : Nat} {v : Int32} (hd : decode cc pc = .ok (.ldc_w i, 3)) (hw : Cond.constant own i v ∈ wsL_law) (kk : V X nL ws lv (.int v :: st) (pc + 3) k n) : V X nL ws lv st pc k n :=
  fun H locs ls hP hD hS hl => lv_ldcw C.hx C.hb C.ho (C.w hw) hd (kk H locs ls hP hD hS hl)
theorem x_ldc2 (C : Ok X cc nL own rm) {i : Nat} {v : Int64} (hd : decode cc pc = .ok (.ldc2_w i, 3)) (hw : Cond.constantLong own i v ∈ wsL_law) (kk : V X nL ws lv (.long v :: st) (pc + 3) k n) : V X nL ws lv st pc k n :=
  fun H locs ls hP hD hS hl => lv_ldc2 C.hx C.hb C.ho (C.w hw) hd (kk H locs ls hP hD hS hl)
theorem x_iload_n (C : Ok X cc nL own rm) (q : Nat) {j : Fin 4} {i : Nat} {x : Int32} (hd : decode cc pc = .ok (.iload_n j, 1)) (hi : (j : Nat) = i) (hq : lv[q]? = some (i, .int x)) (kk : V X nL ws lv (.int x :: st) (pc + 1) k n) : V X nL ws lv st pc k n :=
  fun H locs ls hP hD hS hl => lv_iload_n C.hx C.hb hd hi (lv_at hl q hq) (kk H locs ls hP hD hS hl)
theorem x_iload (C : Ok X cc nL own rm) (q : Nat) {i : Nat} {x : Int32} (hd : decode cc pc = .ok (.iload i, 2)) (hq : lv[q]? = some (i, .int x)) (kk : V X nL ws lv (.int x :: st) (pc + 2) k n) : V X nL ws lv st pc k n :=
  fun H locs ls hP hD hS hl => lv_iload C.hx C.hb hd (lv_at hl q hq) (kk H locs ls hP hD hS hl)
theorem x_lload_n (C : Ok X cc nL own rm) (q : Nat) {j : Fin 4} {i : Nat} {x : Int64} (hd : decode cc pc = .ok (.lload_n j, 1)) (hi : (j : Nat) = i) (hq : lv[q]? = some (i, .long x)) (kk : V X nL ws lv (.long x :: st) (pc + 1) k n) : V X nL ws lv st pc k n :=
  fun H locs ls hP hD hS hl => lv_lload_n C.hx C.hb hd hi (lv_at hl q hq) (kk H locs ls hP hD hS hl)
theorem x_lload (C : Ok X cc nL own rm) (q : Nat) {i : Nat} {x : Int64} (hd : decode cc pc = .ok (.lload i, 2)) (hq : lv[q]? = some (i, .long x)) (kk : V X nL ws lv (.long x :: st) (pc + 2) k n) : V X nL ws lv st pc k n :=
  fun H locs ls hP hD hS hl => lv_lload C.hx C.hb hd (lv_at hl q hq) (kk H locs ls hP hD hS hl)
theorem x_aload_n (C : Ok X cc nL own rm) (q : Nat) {j : Fin 4} {i : Nat} {x : Nat} (hd : decode cc pc = .ok (.aload_n j, 1)) (hi : (j : Nat) = i) (hq : lv[q]? = some (i, .ref x)) (kk : V X nL ws lv (.ref x :: st) (pc + 1) k n) : V X nL ws lv st pc k n :=
  fun H locs ls hP hD hS hl => lv_aload_n C.hx C.hb hd hi (lv_at hl q hq) (kk H locs ls hP hD hS hl)
theorem x_istore_n (C : Ok X cc nL own rm) {j : Fin 4} {i : Nat} {x : Int32} (lv' : List (Nat × Value)) (hd : decode cc pc = .ok (.istore_n j, 1)) (hi : (j : Nat) = i) (hn : i < nL) (hl' : (i, Value.int x) :: lv.filter (fun q => !(q.1 == i) && !(q.1 + 1 == i && q.2.category == 2)) = lv') (kk : V X nL ws lv' st (pc + 1) k n) : V X nL ws lv (.int x :: st) pc k n :=
  fun H locs ls hP hD hS hl => lv_istore_n C.hx C.hb hd hi hl hn hl' (fun ls' hl2 => kk H locs ls' hP hD hS hl2)
theorem x_istore (C : Ok X cc nL own rm) {i : Nat} {x : Int32} (lv' : List (Nat × Value)) (hd : decode cc pc = .ok (.istore i, 2)) (hn : i < nL) (hl' : (i, Value.int x) :: lv.filter (fun q => !(q.1 == i) && !(q.1 + 1 == i && q.2.category == 2)) = lv') (kk : V X nL ws lv' st (pc + 2) k n) : V X nL ws lv (.int x :: st) pc k n :=
  fun H locs ls hP hD hS hl => lv_istore C.hx C.hb hd hl hn hl' (fun ls' hl2 => kk H locs ls' hP hD hS hl2)
theorem x_lstore_n (C : Ok X cc nL own rm) {j : Fin 4} {i : Nat} {x : Int64} (lv' : List (Nat × Value)) (hd : decode cc pc = .ok (.lstore_n j, 1)) (hi : (j : Nat) = i) (hn : i + 1 < nL) (hl' : (i, Value.long x) :: lv.filter (fun q => !(q.1 == i) && (!(q.1 == i + 1) && !(q.1 + 1 == i && q.2.category == 2))) = lv') (kk : V X nL ws lv' st (pc + 1) k n) : V X nL ws lv (.long x :: st) pc k n :=
  fun H locs ls hP hD hS hl => lv_lstore_n C.hx C.hb hd hi hl hn hl' (fun ls' hl2 => kk H locs ls' hP hD hS hl2)
theorem x_lstore (C : Ok X cc nL own rm) {i : Nat} {x : Int64} (lv' : List (Nat × Value)) (hd : decode cc pc = .ok (.lstore i, 2)) (hn : i + 1 < nL) (hl' : (i, Value.long x) :: lv.filter (fun q => !(q.1 == i) && (!(q.1 == i + 1) && !(q.1 + 1 == i && q.2.category == 2))) = lv') (kk : V X nL ws lv' st (pc + 2) k n) : V X nL ws lv (.long x :: st) pc k n :=
  fun H locs ls hP hD hS hl => lv_lstore C.hx C.hb hd hl hn hl' (fun ls' hl2 => kk H locs ls' hP hD hS hl2)
theorem x_astore_n (C : Ok X cc nL own rm) {j : Fin 4} {i : Nat} {x : Nat} (lv' : List (Nat × Value)) (hd : decode cc pc = .ok (.astore_n j, 1)) (hi : (j : Nat) = i) (hn : i < nL) (hl' : (i, Value.ref x) :: lv.filter (fun q => !(q.1 == i) && !(q.1 + 1 == i && q.2.category == 2)) = lv') (kk : V X nL ws lv' st (pc + 1) k n) : V X nL ws lv (.ref x :: st) pc k n :=
  fun H locs ls hP hD hS hl => lv_astore_n C.hx C.hb hd hi hl hn hl' (fun ls' hl2 => kk H locs ls' hP hD hS hl2)
theorem x_iinc (C : Ok X cc nL own rm) (q : Nat) {i : Nat} {z : Int} {x : Int32} (v : Int32) (lv' : List (Nat × Value)) (hd : decode cc pc = .ok (.iinc i z, 3)) (hq : lv[q]? = some (i, .int x)) (hv : x + Int32.ofInt z = v) (hn : i < nL) (hl' : (i, Value.int v) :: lv.filter (fun q => !(q.1 == i) && !(q.1 + 1 == i && q.2.category == 2)) = lv') (kk : V X nL ws lv' st (pc + 3) k n) : V X nL ws lv st pc k n :=
  fun H locs ls hP hD hS hl => lv_iinc C.hx C.hb hd hl hq hv hn hl' (fun ls' hl2 => kk H locs ls' hP hD hS hl2)
theorem x_iadd (C : Ok X cc nL own rm) {x y : Int32} (hd : decode cc pc = .ok (.iadd, 1)) (kk : V X nL ws lv (.int (x + y) :: st) (pc + 1) k n) : V X nL ws lv (.int y :: .int x :: st) pc k n :=
  fun H locs ls hP hD hS hl => lv_iadd C.hx C.hb hd (kk H locs ls hP hD hS hl)
theorem x_isub (C : Ok X cc nL own rm) {x y : Int32} (hd : decode cc pc = .ok (.isub, 1)) (kk : V X nL ws lv (.int (x - y) :: st) (pc + 1) k n) : V X nL ws lv (.int y :: .int x :: st) pc k n :=
  fun H locs ls hP hD hS hl => lv_isub C.hx C.hb hd (kk H locs ls hP hD hS hl)
theorem x_imul (C : Ok X cc nL own rm) {x y : Int32} (hd : decode cc pc = .ok (.imul, 1)) (kk : V X nL ws lv (.int (x * y) :: st) (pc + 1) k n) : V X nL ws lv (.int y :: .int x :: st) pc k n :=
  fun H locs ls hP hD hS hl => lv_imul C.hx C.hb hd (kk H locs ls hP hD hS hl)
theorem x_iand (C : Ok X cc nL own rm) {x y : Int32} (hd : decode cc pc = .ok (.iand, 1)) (kk : V X nL ws lv (.int (x &&& y) :: st) (pc + 1) k n) : V X nL ws lv (.int y :: .int x :: st) pc k n :=
  fun H locs ls hP hD hS hl => lv_iand C.hx C.hb hd (kk H locs ls hP hD hS hl)
theorem x_ior (C : Ok X cc nL own rm) {x y : Int32} (hd : decode cc pc = .ok (.ior, 1)) (kk : V X nL ws lv (.int (x ||| y) :: st) (pc + 1) k n) : V X nL ws lv (.int y :: .int x :: st) pc k n :=
  fun H locs ls hP hD hS hl => lv_ior C.hx C.hb hd (kk H locs ls hP hD hS hl)
theorem x_ixor (C : Ok X cc nL own rm) {x y : Int32} (hd : decode cc pc = .ok (.ixor, 1)) (kk : V X nL ws lv (.int (x ^^^ y) :: st) (pc + 1) k n) : V X nL ws lv (.int y :: .int x :: st) pc k n :=
  fun H locs ls hP hD hS hl => lv_ixor C.hx C.hb hd (kk H locs ls hP hD hS hl)
theorem x_ishl (C : Ok X cc nL own rm) {x y : Int32} (hd : decode cc pc = .ok (.ishl, 1)) (kk : V X nL ws lv (.int (x <<< (y &&& 31)) :: st) (pc + 1) k n) : V X nL ws lv (.int y :: .int x :: st) pc k n :=
  fun H locs ls hP hD hS hl => lv_ishl C.hx C.hb hd (kk H locs ls hP hD hS hl)
theorem x_ishr (C : Ok X cc nL own rm) {x y : Int32} (hd : decode cc pc = .ok (.ishr, 1)) (kk : V X nL ws lv (.int (x >>> (y &&& 31)) :: st) (pc + 1) k n) : V X nL ws lv (.int y :: .int x :: st) pc k n :=
  fun H locs ls hP hD hS hl => lv_ishr C.hx C.hb hd (kk H locs ls hP hD hS hl)
theorem x_iushr (C : Ok X cc nL own rm) {x y : Int32} (hd : decode cc pc = .ok (.iushr, 1)) (kk : V X nL ws lv (.int ((x.toUInt32 >>> (y.toUInt32 &&& Int32.toUInt32 31)).toInt32) :: st) (pc + 1) k n) : V X nL ws lv (.int y :: .int x :: st) pc k n :=
  fun H locs ls hP hD hS hl => lv_iushr C.hx C.hb hd rfl (kk H locs ls hP hD hS hl)
theorem x_idiv (C : Ok X cc nL own rm) {x y : Int32} (hd : decode cc pc = .ok (.idiv, 1)) (hne : ¬ y = 0) (kk : V X nL ws lv (.int (x / y) :: st) (pc + 1) k n) : V X nL ws lv (.int y :: .int x :: st) pc k n :=
  fun H locs ls hP hD hS hl => lv_idiv C.hx C.hb hd hne (kk H locs ls hP hD hS hl)
theorem x_irem (C : Ok X cc nL own rm) {x y : Int32} (hd : decode cc pc = .ok (.irem, 1)) (hne : ¬ y = 0) (kk : V X nL ws lv (.int (x - x / y * y) :: st) (pc + 1) k n) : V X nL ws lv (.int y :: .int x :: st) pc k n :=
  fun H locs ls hP hD hS hl => lv_irem C.hx C.hb hd hne (kk H locs ls hP hD hS hl)
theorem x_ladd (C : Ok X cc nL own rm) {x y : Int64} (hd : decode cc pc = .ok (.ladd, 1)) (kk : V X nL ws lv (.long (x + y) :: st) (pc + 1) k n) : V X nL ws lv (.long y :: .long x :: st) pc k n :=
  fun H locs ls hP hD hS hl => lv_ladd C.hx C.hb hd (kk H locs ls hP hD hS hl)
theorem x_lor (C : Ok X cc nL own rm) {x y : Int64} (hd : decode cc pc = .ok (.lor, 1)) (kk : V X nL ws lv (.long (x ||| y) :: st) (pc + 1) k n) : V X nL ws lv (.long y :: .long x :: st) pc k n :=
  fun H locs ls hP hD hS hl => lv_lor C.hx C.hb hd (kk H locs ls hP hD hS hl)
theorem x_lshl (C : Ok X cc nL own rm) {x : Int64} {y : Int32} (hd : decode cc pc = .ok (.lshl, 1)) (kk : V X nL ws lv (.long (x <<< (y.toInt64 &&& 63)) :: st) (pc + 1) k n) : V X nL ws lv (.int y :: .long x :: st) pc k n :=
  fun H locs ls hP hD hS hl => lv_lshl C.hx C.hb hd rfl (kk H locs ls hP hD hS hl)
theorem x_lshr (C : Ok X cc nL own rm) {x : Int64} {y : Int32} (hd : decode cc pc = .ok (.lshr, 1)) (kk : V X nL ws lv (.long (x >>> (y.toInt64 &&& 63)) :: st) (pc + 1) k n) : V X nL ws lv (.int y :: .long x :: st) pc k n :=
  fun H locs ls hP hD hS hl => lv_lshr C.hx C.hb hd rfl (kk H locs ls hP hD hS hl)
theorem x_i2l (C : Ok X cc nL own rm) {x : Int32} (hd : decode cc pc = .ok (.i2l, 1)) (kk : V X nL ws lv (.long x.toInt64 :: st) (pc + 1) k n) : V X nL ws lv (.int x :: st) pc k n :=
  fun H locs ls hP hD hS hl => lv_i2l C.hx C.hb hd rfl (kk H locs ls hP hD hS hl)
theorem x_l2i (C : Ok X cc nL own rm) {x : Int64} (hd : decode cc pc = .ok (.l2i, 1)) (kk : V X nL ws lv (.int x.toInt32 :: st) (pc + 1) k n) : V X nL ws lv (.long x :: st) pc k n :=
  fun H locs ls hP hD hS hl => lv_l2i C.hx C.hb hd rfl (kk H locs ls hP hD hS hl)
theorem x_dup (C : Ok X cc nL own rm) {v : Value} (hd : decode cc pc = .ok (.dup, 1)) (hv : v.category = 1) (kk : V X nL ws lv (v :: v :: st) (pc + 1) k n) : V X nL ws lv (v :: st) pc k n :=
  fun H locs ls hP hD hS hl => lv_dup C.hx C.hb hd hv (kk H locs ls hP hD hS hl)
theorem x_pop (C : Ok X cc nL own rm) {v : Value} (hd : decode cc pc = .ok (.pop, 1)) (hv : v.category = 1) (kk : V X nL ws lv st (pc + 1) k n) : V X nL ws lv (v :: st) pc k n :=
  fun H locs ls hP hD hS hl => lv_pop C.hx C.hb hd hv (kk H locs ls hP hD hS hl)
theorem x_pop2 (C : Ok X cc nL own rm) {v : Value} (hd : decode cc pc = .ok (.pop2, 1)) (hv : v.category = 2) (kk : V X nL ws lv st (pc + 1) k n) : V X nL ws lv (v :: st) pc k n :=
  fun H locs ls hP hD hS hl => lv_pop2_2 C.hx C.hb hd hv (kk H locs ls hP hD hS hl)
theorem x_dup2 (C : Ok X cc nL own rm) {v w : Value} (hd : decode cc pc = .ok (.dup2, 1)) (hv : v.category = 1) (hw : w.category = 1) (kk : V X nL ws lv (v :: w :: v :: w :: st) (pc + 1) k n) : V X nL ws lv (v :: w :: st) pc k n :=
  fun H locs ls hP hD hS hl => lv_dup2_11 C.hx C.hb hd hv hw (kk H locs ls hP hD hS hl)
theorem x_goto (C : Ok X cc nL own rm) {off : Int} (tgt : Nat) (hd : decode cc pc = .ok (.goto off, 3)) (ht : (pc : Int) + off = (tgt : Int)) (kk : V X nL ws lv st tgt k n) : V X nL ws lv st pc k n :=
  fun H locs ls hP hD hS hl => lv_goto C.hx C.hb hd ht (kk H locs ls hP hD hS hl)
theorem x_lcmp (C : Ok X cc nL own rm) {x y : Int64} (hd : decode cc pc = .ok (.lcmp, 1)) (kk : V X nL ws lv (.int (lg_cmp x y) :: st) (pc + 1) k n) : V X nL ws lv (.long y :: .long x :: st) pc k n :=
  fun H locs ls hP hD hS hl => W.lcmp C.hx C.hb hd (kk H locs ls hP hD hS hl)
theorem x_if_eq (C : Ok X cc nL own rm) {x : Int32} {off : Int} (tgt : Nat) (hd : decode cc pc = .ok (.ifCond .eq off, 3)) (ht : (pc : Int) + off = (tgt : Int)) (kt : x = 0 → V X nL ws lv st tgt k n) (kf : ¬ x = 0 → V X nL ws lv st (pc + 3) k n) : V X nL ws lv (.int x :: st) pc k n :=
  fun H locs ls hP hD hS hl => lv_if_eq C.hx C.hb hd ht (fun c => kt c H locs ls hP hD hS hl) (fun c => kf c H locs ls hP hD hS hl)
theorem x_icmp_eq (C : Ok X cc nL own rm) {x y : Int32} {off : Int} (tgt : Nat) (hd : decode cc pc = .ok (.if_icmp .eq off, 3)) (ht : (pc : Int) + off = (tgt : Int)) (kt : x = y → V X nL ws lv st tgt k n) (kf : ¬ x = y → V X nL ws lv st (pc + 3) k n) : V X nL ws lv (.int y :: .int x :: st) pc k n :=
  fun H locs ls hP hD hS hl => lv_icmp_eq C.hx C.hb hd ht (fun c => kt c H locs ls hP hD hS hl) (fun c => kf c H locs ls hP hD hS hl)
theorem x_if_ne (C : Ok X cc nL own rm) {x : Int32} {off : Int} (tgt : Nat) (hd : decode cc pc = .ok (.ifCond .ne off, 3)) (ht : (pc : Int) + off = (tgt : Int)) (kt : ¬ x = 0 → V X nL ws lv st tgt k n) (kf : x = 0 → V X nL ws lv st (pc + 3) k n) : V X nL ws lv (.int x :: st) pc k n :=
  fun H locs ls hP hD hS hl => lv_if_ne C.hx C.hb hd ht (fun c => kt c H locs ls hP hD hS hl) (fun c => kf c H locs ls hP hD hS hl)
theorem x_icmp_ne (C : Ok X cc nL own rm) {x y : Int32} {off : Int} (tgt : Nat) (hd : decode cc pc = .ok (.if_icmp .ne off, 3)) (ht : (pc : Int) + off = (tgt : Int)) (kt : ¬ x = y → V X nL ws lv st tgt k n) (kf : x = y → V X nL ws lv st (pc + 3) k n) : V X nL ws lv (.int y :: .int x :: st) pc k n :=
  fun H locs ls hP hD hS hl => lv_icmp_ne C.hx C.hb hd ht (fun c => kt c H locs ls hP hD hS hl) (fun c => kf c H locs ls hP hD hS hl)
theorem x_if_lt (C : Ok X cc nL own rm) {x : Int32} {off : Int} (tgt : Nat) (hd : decode cc pc = .ok (.ifCond .lt off, 3)) (ht : (pc : Int) + off = (tgt : Int)) (kt : x < 0 → V X nL ws lv st tgt k n) (kf : ¬ x < 0 → V X nL ws lv st (pc + 3) k n) : V X nL ws lv (.int x :: st) pc k n :=
  fun H locs ls hP hD hS hl => lv_if_lt C.hx C.hb hd ht (fun c => kt c H locs ls hP hD hS hl) (fun c => kf c H locs ls hP hD hS hl)
theorem x_icmp_lt (C : Ok X cc nL own rm) {x y : Int32} {off : Int} (tgt : Nat) (hd : decode cc pc = .ok (.if_icmp .lt off, 3)) (ht : (pc : Int) + off = (tgt : Int)) (kt : x < y → V X nL ws lv st tgt k n) (kf : ¬ x < y → V X nL ws lv st (pc + 3) k n) : V X nL ws lv (.int y :: .int x :: st) pc k n :=
  fun H locs ls hP hD hS hl => lv_icmp_lt C.hx C.hb hd ht (fun c => kt c H locs ls hP hD hS hl) (fun c => kf c H locs ls hP hD hS hl)
theorem x_if_ge (C : Ok X cc nL own rm) {x : Int32} {off : Int} (tgt : Nat) (hd : decode cc pc = .ok (.ifCond .ge off, 3)) (ht : (pc : Int) + off = (tgt : Int)) (kt : 0 ≤ x → V X nL ws lv st tgt k n) (kf : ¬ 0 ≤ x → V X nL ws lv st (pc + 3) k n) : V X nL ws lv (.int x :: st) pc k n :=
  fun H locs ls hP hD hS hl => lv_if_ge C.hx C.hb hd ht (fun c => kt c H locs ls hP hD hS hl) (fun c => kf c H locs ls hP hD hS hl)
theorem x_icmp_ge (C : Ok X cc nL own rm) {x y : Int32} {off : Int} (tgt : Nat) (hd : decode cc pc = .ok (.if_icmp .ge off, 3)) (ht : (pc : Int) + off = (tgt : Int)) (kt : y ≤ x → V X nL ws lv st tgt k n) (kf : ¬ y ≤ x → V X nL ws lv st (pc + 3) k n) : V X nL ws lv (.int y :: .int x :: st) pc k n :=
  fun H locs ls hP hD hS hl => lv_icmp_ge C.hx C.hb hd ht (fun c => kt c H locs ls hP hD hS hl) (fun c => kf c H locs ls hP hD hS hl)
theorem x_if_gt (C : Ok X cc nL own rm) {x : Int32} {off : Int} (tgt : Nat) (hd : decode cc pc = .ok (.ifCond .gt off, 3)) (ht : (pc : Int) + off = (tgt : Int)) (kt : 0 < x → V X nL ws lv st tgt k n) (kf : ¬ 0 < x → V X nL ws lv st (pc + 3) k n) : V X nL ws lv (.int x :: st) pc k n :=
  fun H locs ls hP hD hS hl => lv_if_gt C.hx C.hb hd ht (fun c => kt c H locs ls hP hD hS hl) (fun c => kf c H locs ls hP hD hS hl)
theorem x_icmp_gt (C : Ok X cc nL own rm) {x y : Int32} {off : Int} (tgt : Nat) (hd : decode cc pc = .ok (.if_icmp .gt off, 3)) (ht : (pc : Int) + off = (tgt : Int)) (kt : y < x → V X nL ws lv st tgt k n) (kf : ¬ y < x → V X nL ws lv st (pc + 3) k n) : V X nL ws lv (.int y :: .int x :: st) pc k n :=
  fun H locs ls hP hD hS hl => lv_icmp_gt C.hx C.hb hd ht (fun c => kt c H locs ls hP hD hS hl) (fun c => kf c H locs ls hP hD hS hl)
theorem x_if_le (C : Ok X cc nL own rm) {x : Int32} {off : Int} (tgt : Nat) (hd : decode cc pc = .ok (.ifCond .le off, 3)) (ht : (pc : Int) + off = (tgt : Int)) (kt : x ≤ 0 → V X nL ws lv st tgt k n) (kf : ¬ x ≤ 0 → V X nL ws lv st (pc + 3) k n) : V X nL ws lv (.int x :: st) pc k n :=
  fun H locs ls hP hD hS hl => lv_if_le C.hx C.hb hd ht (fun c => kt c H locs ls hP hD hS hl) (fun c => kf c H locs ls hP hD hS hl)
theorem x_icmp_le (C : Ok X cc nL own rm) {x y : Int32} {off : Int} (tgt : Nat) (hd : decode cc pc = .ok (.if_icmp .le off, 3)) (ht : (pc : Int) + off = (tgt : Int)) (kt : x ≤ y → V X nL ws lv st tgt k n) (kf : ¬ x ≤ y → V X nL ws lv st (pc + 3) k n) : V X nL ws lv (.int y :: .int x :: st) pc k n :=
  fun H locs ls hP hD hS hl => lv_icmp_le C.hx C.hb hd ht (fun c => kt c H locs ls hP hD hS hl) (fun c => kf c H locs ls hP hD hS hl)
theorem x_get (C : Ok X cc nL own rm) {ref Cn : String} {T : u_T} {N ci index : Nat} (q0 : Nat) {a : Nat} {fs : List Value} (j : Nat) {v : Value} (hd : decode cc pc = .ok (.getfield index, 3)) (hin : ∀ w ∈ u_ws Cn T N, w ∈ wsL_law) (hc : vwCl[ci]? = some (Cn, T, N)) (hj : j < N) (hw : Cond.fieldLink own index ref (T j).2.1 (T j).2.2.1 ∈ wsL_law) (hr : (T j).1 = ref) (he : ws[q0]? = some (a, .inr (ci, fs))) (hv : fs[j]? = some v) (kk : V X nL ws lv (v :: st) (pc + 3) k n) : V X nL ws lv (.ref a :: st) pc k n :=
  fun H locs ls hP hD hS hl => va_get (C := Cn) C.hx C.hb (fun w h => C.w h) hin C.ho C.hK hP q0 he hc j hj (C.w hw) (fun _ h9 => hr ▸ h9) hv hd (kk H locs ls hP hD hS hl)
theorem x_getN (C : Ok X cc nL own rm) {ref Cn host : String} {T : u_T} {N ci index : Nat} (q0 : Nat) {a : Nat} {fs : List Value} (j : Nat) {v : Value} (hd : decode cc pc = .ok (.getfield index, 3)) (hin : ∀ w ∈ u_ws Cn T N, w ∈ wsL_law) (hc : vwCl[ci]? = some (Cn, T, N)) (hj : j < N) (hw : Cond.fieldLinkNest own index ref (T j).2.1 (T j).2.2.1 host ∈ nwl) (hr : (T j).1 = ref) (he : ws[q0]? = some (a, .inr (ci, fs))) (hv : fs[j]? = some v) (kk : V X nL ws lv (v :: st) (pc + 3) k n) : V X nL ws lv (.ref a :: st) pc k n :=
  fun H locs ls hP hD hS hl => va_getN (C := Cn) C.hx C.hb (fun w h => C.w h) hin C.ho C.hK hP q0 he hc j hj (va_Nw.use rfl (C.nw hw)) (fun _ h9 => hr ▸ h9) hv hd (kk H locs ls hP hD hS hl)
theorem x_put (C : Ok X cc nL own rm) {ref Cn : String} {T : u_T} {N ci index : Nat} (q0 : Nat) {a : Nat} {fs : List Value} (j : Nat) {v : Value} {ty : FieldType} (ws' : va_W) (hd : decode cc pc = .ok (.putfield index, 3)) (hin : ∀ w ∈ u_ws Cn T N, w ∈ wsL_law) (ty0 : Nat → FieldType) (hty : ∀ k, k < N → parseFieldDescriptor (T k).2.2.1 = some (ty0 k)) (hnm : ∀ a, a < N → ∀ b, b < N → a ≠ b → (T a).2.1 ≠ (T b).2.1) (hc : vwCl[ci]? = some (Cn, T, N)) (hj : j < N) (hw : Cond.fieldLink own index ref (T j).2.1 (T j).2.2.1 ∈ wsL_law) (hr : (T j).1 = ref) (he : ws[q0]? = some (a, .inr (ci, fs))) (hfin : (T j).2.2.2 = false) (ht : parseFieldDescriptor (T j).2.2.1 = some ty) (hn : narrow ty v = v) (hfit : fits ty v = true) (hl0 : j < fs.length) (hs : ws.set q0 (a, .inr (ci, fs.set j v)) = ws') (kk : V X nL ws' lv st (pc + 3) k n) : V X nL ws lv (v :: .ref a :: st) pc k n :=
  fun H locs ls hP hD hS hl => va_put (C := Cn) C.hx C.hb (fun w h => C.w h) hin ty0 hty hnm C.ho C.hK hP hD hS q0 he hc j hj (C.w hw) (fun _ h9 => hr ▸ h9) hfin ht hn hfit hl0 hd (fun H1 locs1 hP1 hD1 hS1 => kk H1 locs1 ls (hs ▸ hP1) (hs ▸ hD1) hS1 hl)
theorem x_putN (C : Ok X cc nL own rm) {ref Cn host : String} {T : u_T} {N ci index : Nat} (q0 : Nat) {a : Nat} {fs : List Value} (j : Nat) {v : Value} {ty : FieldType} (ws' : va_W) (hd : decode cc pc = .ok (.putfield index, 3)) (hin : ∀ w ∈ u_ws Cn T N, w ∈ wsL_law) (ty0 : Nat → FieldType) (hty : ∀ k, k < N → parseFieldDescriptor (T k).2.2.1 = some (ty0 k)) (hnm : ∀ a, a < N → ∀ b, b < N → a ≠ b → (T a).2.1 ≠ (T b).2.1) (hc : vwCl[ci]? = some (Cn, T, N)) (hj : j < N) (hw : Cond.fieldLinkNest own index ref (T j).2.1 (T j).2.2.1 host ∈ nwl) (hr : (T j).1 = ref) (he : ws[q0]? = some (a, .inr (ci, fs))) (hfin : (T j).2.2.2 = false) (ht : parseFieldDescriptor (T j).2.2.1 = some ty) (hn : narrow ty v = v) (hfit : fits ty v = true) (hl0 : j < fs.length) (hs : ws.set q0 (a, .inr (ci, fs.set j v)) = ws') (kk : V X nL ws' lv st (pc + 3) k n) : V X nL ws lv (v :: .ref a :: st) pc k n :=
  fun H locs ls hP hD hS hl => va_putN (C := Cn) C.hx C.hb (fun w h => C.w h) hin ty0 hty hnm C.ho C.hK hP hD hS q0 he hc j hj (va_Nw.use rfl (C.nw hw)) (fun _ h9 => hr ▸ h9) hfin ht hn hfit hl0 hd (fun H1 locs1 hP1 hD1 hS1 => kk H1 locs1 ls (hs ▸ hP1) (hs ▸ hD1) hS1 hl)
theorem x_iald (C : Ok X cc nL own rm) (q0 t0 : Nat) {a : Nat} {cA : ClassId} {N : Nat} {f : Nat → Int32} {i : Int32} (hd : decode cc pc = .ok (.iaload, 1)) (ht : (xt X)[t0]? = some (cA, .int)) (ha : ws[q0]? = some (a, .inl (cA, N, .inl f))) (hin : vp_in i N) (kk : V X nL ws lv (.int (f i.toNatClampNeg) :: st) (pc + 1) k n) : V X nL ws lv (.int i :: .ref a :: st) pc k n :=
  fun H locs ls hP hD hS hl => va_iald C.hx C.hb C.hK hP q0 t0 ha ht hin hd (kk H locs ls hP hD hS hl)
theorem x_lald (C : Ok X cc nL own rm) (q0 t0 : Nat) {a : Nat} {cA : ClassId} {N : Nat} {f : Nat → Int64} {i : Int32} (hd : decode cc pc = .ok (.laload, 1)) (ht : (xt X)[t0]? = some (cA, .long)) (ha : ws[q0]? = some (a, .inl (cA, N, .inr (.inl f)))) (hin : vp_in i N) (kk : V X nL ws lv (.long (f i.toNatClampNeg) :: st) (pc + 1) k n) : V X nL ws lv (.int i :: .ref a :: st) pc k n :=
  fun H locs ls hP hD hS hl => va_lald C.hx C.hb C.hK hP q0 t0 ha ht hin hd (kk H locs ls hP hD hS hl)
theorem x_iast (C : Ok X cc nL own rm) (q0 t0 : Nat) {a : Nat} {cA : ClassId} {N : Nat} {f : Nat → Int32} {i x : Int32} (ws' : va_W) (hd : decode cc pc = .ok (.iastore, 1)) (ht : (xt X)[t0]? = some (cA, .int)) (ha : ws[q0]? = some (a, .inl (cA, N, .inl f))) (hin : vp_in i N) (hs : ws.set q0 (a, .inl (cA, N, .inl (upd f i.toNatClampNeg x))) = ws') (kk : V X nL ws' lv st (pc + 1) k n) : V X nL ws lv (.int x :: .int i :: .ref a :: st) pc k n :=
  fun H locs ls hP hD hS hl => va_iast C.hx C.hb C.hK hP hD hS q0 t0 ha ht hin hd (fun H1 locs1 hP1 hD1 hS1 => kk H1 locs1 ls (hs ▸ hP1) (hs ▸ hD1) hS1 hl)
theorem x_last (C : Ok X cc nL own rm) (q0 t0 : Nat) {a : Nat} {cA : ClassId} {N : Nat} {f : Nat → Int64} {i : Int32} {x : Int64} (ws' : va_W) (hd : decode cc pc = .ok (.lastore, 1)) (ht : (xt X)[t0]? = some (cA, .long)) (ha : ws[q0]? = some (a, .inl (cA, N, .inr (.inl f)))) (hin : vp_in i N) (hs : ws.set q0 (a, .inl (cA, N, .inr (.inl (vp_updL f i.toNatClampNeg x)))) = ws') (kk : V X nL ws' lv st (pc + 1) k n) : V X nL ws lv (.long x :: .int i :: .ref a :: st) pc k n :=
  fun H locs ls hP hD hS hl => va_last C.hx C.hb C.hK hP hD hS q0 t0 ha ht hin hd (fun H1 locs1 hP1 hD1 hS1 => kk H1 locs1 ls (hs ▸ hP1) (hs ▸ hD1) hS1 hl)
theorem x_zald (C : Ok X cc nL own rm) (q0 t0 : Nat) {a : Nat} {cA : ClassId} {N : Nat} {f : Nat → Int32} {i : Int32} (hd : decode cc pc = .ok (.baload, 1)) (ht : (xt X)[t0]? = some (cA, .boolean)) (ha : ws[q0]? = some (a, .inl (cA, N, .inl f))) (hin : vp_in i N) (kk : V X nL ws lv (.int (f i.toNatClampNeg) :: st) (pc + 1) k n) : V X nL ws lv (.int i :: .ref a :: st) pc k n :=
  fun H locs ls hP hD hS hl => va_zald C.hx C.hb C.hK hP q0 t0 ha ht hin hd (kk H locs ls hP hD hS hl)
theorem x_zast (C : Ok X cc nL own rm) (q0 t0 : Nat) {a : Nat} {cA : ClassId} {N : Nat} {f : Nat → Int32} {i x : Int32} (ws' : va_W) (hd : decode cc pc = .ok (.bastore, 1)) (ht : (xt X)[t0]? = some (cA, .boolean)) (ha : ws[q0]? = some (a, .inl (cA, N, .inl f))) (hin : vp_in i N) (hz : vp_nar .boolean x = x) (hs : ws.set q0 (a, .inl (cA, N, .inl (upd f i.toNatClampNeg x))) = ws') (kk : V X nL ws' lv st (pc + 1) k n) : V X nL ws lv (.int x :: .int i :: .ref a :: st) pc k n :=
  fun H locs ls hP hD hS hl => va_zast C.hx C.hb C.hK hP hD hS q0 t0 ha ht hin hd (fun H1 locs1 hP1 hD1 hS1 => kk H1 locs1 ls (hs ▸ by rw [hz] at hP1; exact hP1) (hs ▸ by rw [hz] at hD1; exact hD1) hS1 hl)
/-- the world in another order, or less of it -/
theorem x_sub (ws' : va_W) (is : List Nat) (hn : va_nd is = true) (hs : is.map (fun i => ws[i]?) = ws'.map some) (kk : V X nL ws' lv st pc k n) : V X nL ws lv st pc k n :=
  fun H locs ls hP hD hS hl => kk H locs ls (hP.sub is (fm_of hs)) (hD.sub is hn hs) hS hl
/-- the locals in another order, or fewer -/
theorem x_lv (lv' : List (Nat × Value)) (is : List Nat) (hs : lv_pick lv is = lv') (kk : V X nL ws lv' st pc k n) : V X nL ws lv st pc k n :=
  fun H locs ls hP hD hS hl => kk H locs ls hP hD hS (lv_sub hl is hs)
theorem x_wide {k' n' : Nat} (h1 : k ≤ k') (h2 : n ≤ n') (kk : V X nL ws lv st pc k' n') : V X nL ws lv st pc k n :=
  fun H locs ls hP hD hS hl => W.widen h1 h2 (kk H locs ls hP hD hS hl)
theorem x_iret (C : Ok X cc nL own rm) {v : Int32} (hd : decode cc pc = .ok (.ireturn, 1)) (hk : k ≤ xk X) (hn : n ≤ xn X) (h : xo X (some (.int v)) ws) : V X nL ws lv [.int v] pc k n :=
  fun H locs ls hP hD hS hl => W.widen hk hn (C.he h H locs ls pc hP hD hS hd)
theorem x_lret (C : Ok X cc nL own rm) {v : Int64} (hd : decode cc pc = .ok (.lreturn, 1)) (hk : k ≤ xk X) (hn : n ≤ xn X) (h : xo X (some (.long v)) ws) : V X nL ws lv [.long v] pc k n :=
  fun H locs ls hP hD hS hl => W.widen hk hn (C.he h H locs ls pc hP hD hS hd)
theorem x_vret (C : Ok X cc nL own rm) (hd : decode cc pc = .ok (.return_, 1)) (hk : k ≤ xk X) (hn : n ≤ xn X) (h : xo X none ws) : V X nL ws lv [] pc k n :=
  fun H locs ls hP hD hS hl => W.widen hk hn (C.he h H locs ls pc hP hD hS hd)
theorem x_mmax (C : Ok X cc nL own rm) {index : Nat} {x y : Int32} (hd : decode cc pc = .ok (.invokestatic index, 3)) (hw : Cond.methodLink own index Lib.Math.max.name ∈ wsL_law) (h1 : Cond.static Lib.Math.max.name ∈ wsL_law) (h2 : Cond.initialized "java/lang/Math" ∈ wsL_law) (h3 : Cond.code Lib.Math.max.name Lib.Math.max.code 2 (some .int) ∈ wsL_law) (hf : 1 ≤ rm.frames) (hlc : (st.map fun v => v.category).sum + 13 ≤ rm.locals) (hk : k ≤ rm.cells) (hn : n ≤ rm.slots) (kk : V X nL ws lv (.int (if x < y then y else x) :: st) (pc + 3) k n) : V X nL ws lv (.int y :: .int x :: st) pc k n :=
  fun H locs ls hP hD hS hl => va_mmax C.hx C.hb (C.hml.trans hl.1.symm) C.ho (C.w hw) (C.w h1) (C.w h2) (C.w h3) (by rw [C.hR]; exact hf) (by rw [C.hR]; exact hlc) (by rw [C.hR]; exact hk) (by rw [C.hR]; exact hn) hd (kk H locs ls hP hD hS hl)
theorem x_mmin (C : Ok X cc nL own rm) {index : Nat} {x y : Int32} (hd : decode cc pc = .ok (.invokestatic index, 3)) (hw : Cond.methodLink own index Lib.Math.min.name ∈ wsL_law) (h1 : Cond.static Lib.Math.min.name ∈ wsL_law) (h2 : Cond.initialized "java/lang/Math" ∈ wsL_law) (h3 : Cond.code Lib.Math.min.name Lib.Math.min.code 2 (some .int) ∈ wsL_law) (hf : 1 ≤ rm.frames) (hlc : (st.map fun v => v.category).sum + 13 ≤ rm.locals) (hk : k ≤ rm.cells) (hn : n ≤ rm.slots) (kk : V X nL ws lv (.int (if y < x then y else x) :: st) (pc + 3) k n) : V X nL ws lv (.int y :: .int x :: st) pc k n :=
  fun H locs ls hP hD hS hl => va_mmin C.hx C.hb (C.hml.trans hl.1.symm) C.ho (C.w hw) (C.w h1) (C.w h2) (C.w h3) (by rw [C.hR]; exact hf) (by rw [C.hR]; exact hlc) (by rw [C.hR]; exact hk) (by rw [C.hR]; exact hn) hd (kk H locs ls hP hD hS hl)
end XR
/-- a contract: from the world W0 with the arguments av the method y returns; its answer and the world behind it are as Po says -/
def Pw (D : va_G) (tys : List (ClassId × FieldType)) (W0 : va_W) (sz : Nat) (U : State) : Prop := U.heap.size = sz ∧ va_P D vwCl W0 U.heap ∧ va_K D vwCl tys U ∧ NW U ∧ va_D (fun _ => True) W0
def Qw (D : va_G) (W0 : va_W) (sz : Nat) (Po : Option Value → va_W → Prop) : Array Value → State → Outcome → State → Prop := fun _ st oc t => (∃ (v : Option Value) (W1 : va_W), oc = .returned v ∧ Po v W1 ∧ va_P D vwCl W1 t.heap ∧ va_D (va_A W0 sz) W1) ∧ va_F (va_A W0 sz) st t
def Cn (l : Launch) (D : va_G) (tys : List (ClassId × FieldType)) (y : MethodName) (cc : ByteArray) (nL : Nat) (ret : Option FieldType) (rm : Room) (W0 : va_W) (av : List Value) (Po : Option Value → va_W → Prop) : Prop :=
  ∀ sz : Nat, Met l y (.code y cc nL ret :: wsL_law) rm (va_Pc av (Pw D tys W0 sz)) (Qw D W0 sz Po) rm.cells rm.slots (va_A W0 sz)
theorem wsL_good : wsL_law.all goodWord = true := by decide +kernel
theorem Cn.of {l : Launch} {D : va_G} {tys : List (ClassId × FieldType)} {y : MethodName} {cc : ByteArray} {nL : Nat} {ret : Option FieldType} {rm : Room} {W0 : va_W} {av : List Value} {Po : Option Value → va_W → Prop}
    (hy : plainName y.cls = true) (hav : (lg_sl av).length ≤ nL) (hz : ret = some .boolean → ∀ v ws, Po v ws → v = some (.int 0) ∨ v = some (.int 1)) (hi : ∀ v ws, Po v ws → (match v with | none => ret = none | some (.int _) => ret = some .int ∨ ret = some .boolean | some (.long _) => ret = some .long | _ => False))
    (h : ∀ X : Cx, xl X = l → xD X = D → xt X = tys → xo X = Po → xk X = rm.cells → xn X = rm.slots → (xh X).name = y.name → Ok X cc nL y.cls rm → V X nL W0 (lv_args 0 av) [] 0 0 0) : Cn l D tys y cc nL ret rm W0 av Po := by
  intro sz
  refine Met.ofW (cc := cc) (maxL := nL) (ret := ret) hy rfl ?_
  intro p e s m args below meth c s₁ B hml hv
  obtain ⟨rfl, hsz, hP, hK, hN, hD0⟩ := hv
  have hx := B.exec
  have hb := B.bytes
  have hr := B.returns
  have hlk := B.notSynchronized
  have hts := atoms_spec (ws := Cond.code y cc nL ret :: wsL_law) B.pre
  have hown : s.vm.findClass y.cls = some m.cls := findClass_of_methodNamed B.named
  subst hsz
  have hD := hD0.self (sz := s.heap.size)
  have hA : ∀ q : Nat, s.heap.size ≤ q → va_A W0 s.heap.size q := fun q h => Or.inr h
  have hl := lv_entry av (n := nL) hav
  rw [lg_entry_eq]
  refine h (p, l, e, rm, s, m, av.toArray, below, meth, c, MQ below (Qw D W0 s.heap.size Po) av.toArray s rm.cells rm.slots (va_A W0 s.heap.size), va_A W0 s.heap.size, D, tys, Po, rm.cells, rm.slots) rfl rfl rfl rfl rfl rfl (name_of_methodNamed B.named B.method).1 ⟨hx, hb, hml, hown, fun w hw => hts w (List.mem_cons_of_mem _ hw), hA, hK, hN, rfl, ?_⟩ s.heap [] _ hP hD va_S.rf hl
  intro v ws hPo H locs ls pc hP1 hD1 hS1 hd
  have hq : ∀ t : State, t.heap = H → s.WarmedH t.vm → Qw D W0 s.heap.size Po av.toArray s (.returned v) t := fun t ht hW => ⟨⟨v, ws, rfl, hPo, by rw [ht]; exact hP1, hD1⟩, hS1.F ht⟩
  have hi' := hi v ws hPo
  match v, hi', hd, hq, hPo with
  | none, hi', hd, hq, _ => exact W.vret hx hb (hr.trans hi') hq hS1.2.2 hd
  | some (.int x), hi', hd, hq, hPo =>
    rcases hi' with h1 | h1
    · exact W.iret hx hb (hr.trans h1) hq hS1.2.2 hd
    · refine W.zret (ty := .boolean) hx hb (hr.trans h1) ?_ hq hS1.2.2 hd
      rcases hz h1 _ _ hPo with h2 | h2 <;> (cases h2; rfl)
  | some (.long x), hi', hd, hq, _ => exact W.lret hx hb (hr.trans hi') hq hS1.2.2 hd
section XN
variable {X : Cx} {cc : ByteArray} {nL : Nat} {own : String} {rm : Room} {ws : va_W} {lv : List (Nat × Value)} {st : List Value} {pc k n : Nat}
theorem x_putF (C : Ok X cc nL own rm) (hM : (xh X).name = "<init>") {ref Cn : String} {T : u_T} {N ci index : Nat} (q0 : Nat) {a : Nat} {fs : List Value} (j : Nat) {v : Value} {ty : FieldType} (ws' : va_W) (hd : decode cc pc = .ok (.putfield index, 3)) (hin : ∀ w ∈ u_ws Cn T N, w ∈ wsL_law) (ty0 : Nat → FieldType) (hty : ∀ k, k < N → parseFieldDescriptor (T k).2.2.1 = some (ty0 k)) (hnm : ∀ a, a < N → ∀ b, b < N → a ≠ b → (T a).2.1 ≠ (T b).2.1) (hc : vwCl[ci]? = some (Cn, T, N)) (hj : j < N) (hw : Cond.fieldLink own index ref (T j).2.1 (T j).2.2.1 ∈ wsL_law) (hr : (T j).1 = ref) (he : ws[q0]? = some (a, .inr (ci, fs))) (hfin : (T j).2.2.2 = true) (hdc : (T j).1 = own) (ht : parseFieldDescriptor (T j).2.2.1 = some ty) (hn : narrow ty v = v) (hfit : fits ty v = true) (hl0 : j < fs.length) (hs : ws.set q0 (a, .inr (ci, fs.set j v)) = ws') (kk : V X nL ws' lv st (pc + 3) k n) : V X nL ws lv (v :: .ref a :: st) pc k n :=
  fun H locs ls hP hD hS hl => va_putF (C := Cn) C.hx C.hb (fun w h => C.w h) hin ty0 hty hnm C.ho C.hK hP hD hS q0 he hc j hj (C.w hw) (fun _ h9 => hr ▸ h9) hfin hM hdc ht hn hfit hl0 hd (fun H1 locs1 hP1 hD1 hS1 => kk H1 locs1 ls (hs ▸ hP1) (hs ▸ hD1) hS1 hl)
theorem x_new (C : Ok X cc nL own rm) {Cn : String} {T : u_T} {N ci index : Nat} (fs : List Value) (hd : decode cc pc = .ok (.new index, 3)) (hin : ∀ w ∈ u_ws Cn T N, w ∈ wsL_law) (ty0 : Nat → FieldType) (hty : ∀ k, k < N → parseFieldDescriptor (T k).2.2.1 = some (ty0 k)) (h1 : Cond.classLink own index Cn ∈ wsL_law) (h2 : Cond.instantiable Cn N ∈ wsL_law) (h3 : Cond.initialized Cn ∈ wsL_law) (hc : vwCl[ci]? = some (Cn, T, N)) (hfs : ∀ j, j < N → defaultValue (ty0 j) = vp_V fs j) (hk : k + 1 ≤ rm.cells) (hn : n + N ≤ rm.slots)
    (kk : ∀ q : Nat, V X nL (ws ++ [(q, .inr (ci, fs))]) lv (.ref q :: st) (pc + 3) (k + 1) (n + N)) : V X nL ws lv st pc k n :=
  fun H locs ls hP hD hS hl => va_new (C := Cn) C.hx C.hb (fun w h => C.w h) hin ty0 hty C.ho (C.w h1) (C.w h2) (C.w h3) C.hK hP hD hS C.hA hc hfs (by rw [C.hR]; exact hk) (by rw [C.hR]; exact hn) hd (fun q H1 hP1 hD1 hS1 => kk q H1 locs ls hP1 hD1 hS1 hl)
theorem va_RA_uniq {s : State} {c1 c2 : ClassId} {ty : FieldType} (h1 : va_RA s c1 ty) (h2 : va_RA s c2 ty) : c1 = c2 := by
  cases ty with
  | object C =>
    obtain ⟨_, _, _, _, _, a⟩ := h1
    obtain ⟨_, _, _, _, _, b⟩ := h2
    exact Option.some.inj (a.symm.trans b)
  | _ => exact Option.some.inj ((show _ = some c1 from h1).symm.trans (show _ = some c2 from h2))
theorem x_newa (C : Ok X cc nL own rm) (t0 : Nat) {atype : ArrayType} {ty : FieldType} {cA : ClassId} {x : Int32} (N : Nat) (a0 : vp_A) (hd : decode cc pc = .ok (.newarray atype, 2)) (hty : newarray.typeOf atype = ty) (h1 : Cond.arrayClass (newarray.typeOf atype) ∈ wsL_law) (ht : (xt X)[t0]? = some (cA, ty)) (ha : ∀ cA : ClassId, vp_cell cA a0 = arrV cA N (fun _ => defaultValue ty)) (hx0 : ¬ x < 0) (hN : x.toNatClampNeg = N) (hby : N * componentBytes ty ≤ 536870912) (hk : k + 1 ≤ rm.cells) (hn : n + N ≤ rm.slots)
    (kk : ∀ q : Nat, V X nL (ws ++ [(q, .inl (cA, a0))]) lv (.ref q :: st) (pc + 2) (k + 1) (n + N)) : V X nL ws lv (.int x :: st) pc k n :=
  fun H locs ls hP hD hS hl => va_newa C.hx C.hb (C.w h1) hty C.hK hP hD hS C.hA ha hx0 hN hby (by rw [C.hR]; exact hk) (by rw [C.hR]; exact hn) hd (fun q cB H1 hK1 hP1 hD1 hS1 => by
    have e : cA = cB := va_RA_uniq (C.hK.2 t0 _ ht).2 (hK1.2 (xt X).length (cB, ty) (by simp)).2
    subst e
    exact kk q H1 locs ls hP1 hD1 hS1 hl)
theorem x_newq (C : Ok X cc nL own rm) (t0 : Nat) {index : Nat} {cA : ClassId} {x : Int32} (N : Nat) (hd : decode cc pc = .ok (.anewarray index, 3)) (h1 : Cond.classLink own index "StoryNest$Book" ∈ wsL_law) (ht : (xt X)[t0]? = some (cA, .object "StoryNest$Book")) (hx0 : ¬ x < 0) (hN : x.toNatClampNeg = N) (hby : N * 4 ≤ 536870912) (hk : k + 1 ≤ rm.cells) (hn : n + N ≤ rm.slots)
    (kk : ∀ q : Nat, V X nL (ws ++ [(q, .inl (cA, N, .inr (.inr (.inr (.inr (fun _ => none))))))]) lv (.ref q :: st) (pc + 3) (k + 1) (n + N)) : V X nL ws lv (.int x :: st) pc k n :=
  fun H locs ls hP hD hS hl => va_newq C.hx C.hb C.ho (C.w h1) C.hN.2 C.hK hP hD hS C.hA hx0 hN hby (by rw [C.hR]; exact hk) (by rw [C.hR]; exact hn) hd (fun q cB H1 hK1 hP1 hD1 hS1 => by
    have e : cA = cB := va_RA_uniq (C.hK.2 t0 _ ht).2 (hK1.2 (xt X).length (cB, .object "StoryNest$Book") (by simp)).2
    subst e
    exact kk q H1 locs ls hP1 hD1 hS1 hl)
theorem x_aast (C : Ok X cc nL own rm) (q0 t0 qk ci : Nat) {a : Nat} {cA : ClassId} {r : vw_C} {N v : Nat} {vs : List Value} {f : Nat → Option Nat} {i : Int32} (ws' : va_W) (hd : decode cc pc = .ok (.aastore, 1)) (ht : (xt X)[t0]? = some (cA, .object r.1)) (ha : ws[q0]? = some (a, .inl (cA, N, .inr (.inr (.inr (.inr f)))))) (hv : ws[qk]? = some (v, .inr (ci, vs))) (hc : vwCl[ci]? = some r) (hin : vp_in i N) (hs : ws.set q0 (a, .inl (cA, N, .inr (.inr (.inr (.inr (va_up f i.toNatClampNeg (some v))))))) = ws') (kk : V X nL ws' lv st (pc + 1) k n) : V X nL ws lv (.ref v :: .int i :: .ref a :: st) pc k n :=
  fun H locs ls hP hD hS hl => va_astq C.hx C.hb C.hK hP hD hS q0 t0 qk ci ha ht hv hc hin hd (fun H1 locs1 hP1 hD1 hS1 => kk H1 locs1 ls (hs ▸ hP1) (hs ▸ hD1) hS1 hl)
theorem x_objInit (C : Ok X cc nL own rm) {idx a : Nat} (hd : decode cc pc = .ok (.invokespecial idx, 3)) (h1 : Cond.methodLink own idx objectInit ∈ wsL_law) (h2 : Cond.instanceMethod objectInit ∈ wsL_law) (h3 : Cond.code objectInit ⟨#[0xb1]⟩ 1 none ∈ wsL_law) (hf : 1 ≤ rm.frames) (hlo : 2 * (F0 (xm X) pc (#[] : Array Slot) (.ref a :: st)).monitorRoom + (st.map fun v => v.category).sum + 12 ≤ rm.locals) (kk : V X nL ws lv st (pc + 3) k n) : V X nL ws lv (.ref a :: st) pc k n :=
  fun H locs ls hP hD hS hl => W.objInit C.hx C.hb C.ho (C.w h1) (C.w h2) (C.w h3) rfl (by rw [C.hml]; exact hl.1) rfl hd (by rw [C.hR]; exact hf) (by rw [C.hR]; exact hlo) (kk H locs ls hP hD hS hl)
end XN
section XC
variable {X : Cx} {cc : ByteArray} {nL : Nat} {own : String} {rm : Room} {ws : va_W} {lv : List (Nat × Value)} {st : List Value} {pc k n : Nat}
theorem Pw.blind {D : va_G} {tys : List (ClassId × FieldType)} {W0 : va_W} {sz : Nat} {av : List Value} : FrameBlind (va_Pc av (Pw D tys W0 sz)) := fun a U g mk q => by
  obtain ⟨q0, q1, qP, qK, qN, qD⟩ := q
  exact ⟨q0, q1, qP, va_K.moved (u := U) (U := U.calling g mk a) (Vm.Alike.refl U.vm) qK, NW.same (u := U) (U := U.calling g mk a) rfl qN, qD⟩
/-- behind a call -/
theorem x_back {W0 : va_W} {a : Array Value} {Po : Option Value → va_W → Prop} {mc ms : Nat} {H : Heap} {locs : List Loc} {ls : Array Slot} {rest : List Value} (wr : va_W) (isC isR : List Nat)
    (hC : isC.map (fun i => ws[i]?) = W0.map some) (hR : isR.map (fun i => ws[i]?) = wr.map some) (hn : va_nd isR = true) (hdis : ∀ i ∈ isR, i ∉ isC) (hA : ∀ q, (xs X).heap.size ≤ q → xA X q)
    (hP : va_P (xD X) vwCl ws H) (hD : va_D (xA X) ws) (hS : va_S (xA X) (xs X).heap H locs) (hl : lv_has ls nL lv)
    (hr : va_Run (xp X) (xl X) (xe X) (xR X) (xs X) (xm X) (xa X) (xb X) (xh X) (xc X) H locs k n mc ms (F0 (xm X) pc ls st) rest (Qw (xD X) W0 H.size Po a) (va_A W0 H.size))
    (kk : ∀ (v : Option Value) (W1 : va_W), Po v W1 → V X nL (wr ++ W1) lv (v.toList ++ rest) (pc + 3) (k + mc) (n + ms)) :
    W (xp X) (xl X) (xe X) (xR X) (xs X) (xm X) (xa X) (xb X) (xh X) (xc X) H locs k n (xQ X) (F0 (xm X) pc ls st) := by
  intro T hT Y
  obtain ⟨v, st₀, t, T', L, h0, Y', hL, e1, e2, ⟨⟨v', W1, hv, hp, hP1, hD1⟩, hz, hk⟩, go⟩ := hr T hT Y
  cases hv
  rw [h0] at hz hk
  have hF : ∀ q, va_A W0 H.size q → xA X q := va_free hD hS hA isC hC
  obtain ⟨hP2, hD2⟩ := va_join hP hD isC isR hC hR hn hdis (H1 := T'.heap) (fun q h1 h2 => by rw [e1]; exact hk q h1 h2) hF (by rw [e1]; exact hP1) hD1
  obtain ⟨t2, a1, b1⟩ := kk v W1 hp T'.heap (locs ++ L) ls hP2 hD2 ⟨Nat.le_trans hS.1 (by rw [e1]; exact hz), fun q h1 h2 => by rw [e1, hk q (Nat.lt_of_lt_of_le h1 hS.1) (fun z => h2 (hF q z))]; exact hS.2.1 q h1 h2, fun q hq => by
      rcases List.mem_append.mp hq with h | h
      · exact hS.2.2 q h
      · exact hF _ (hL q h)⟩ hl T' rfl Y'
  exact ⟨t2, go t2 a1, b1⟩
theorem x_payGood {a : Array Value} {s : State} (hts : ∀ w ∈ wsL_law, w.before a s = true) {y : MethodName} {b : ByteArray} {N : Nat} {ret : Option FieldType} (hc : Cond.code y b N ret ∈ wsL_law) : ∀ w ∈ (Cond.code y b N ret :: wsL_law), ∀ (a' : Array Value) (U : State), s.WarmedH U.vm → w.before a' U = true := by
  intro w hw
  have h1 : w ∈ wsL_law := by
    rcases List.mem_cons.mp hw with h | h
    · rw [h]; exact hc
    · exact h
  exact fun a' U hW => word_at hW (good_of_word (List.all_eq_true.mp wsL_good w h1)) (hts w h1)
/-- invokevirtual -/
theorem x_callV (C : Ok X cc nL own rm) {y : MethodName} {b : ByteArray} {N : Nat} {ret : Option FieldType} {rm1 : Room} {W0 : va_W} {a : Nat} (As : List Value) {rest : List Value} {Po : Option Value → va_W → Prop} {idx : Nat} (wr : va_W) (isC isR : List Nat) {q0 ci : Nat} {fs : List Value} {q : vw_C}
    (hM : Cn (xl X) (xD X) (xt X) y b N ret rm1 W0 (.ref a :: As) Po) (hd : decode cc pc = .ok (.invokevirtual idx, 3)) (h1 : Cond.methodLink own idx y ∈ wsL_law) (h2 : Cond.instanceMethod y ∈ wsL_law) (h3 : Cond.selects y.cls y y ∈ wsL_law) (h4 : Cond.initialized y.cls ∈ wsL_law) (h5 : Cond.code y b N ret ∈ wsL_law)
    {np : Nat} (hds0 : y.cls ≠ "java/lang/invoke/MethodHandle" ∧ y.cls ≠ "java/lang/invoke/VarHandle" ∧ (parseMethodDescriptor y.desc).map (fun d => d.parameters.length) = some np) (hnp : As.length = np)
    (hst : st = As.reverse ++ .ref a :: rest) (hcat : (rest.map fun v => v.category).sum ≤ 8) (hro : rm1.frames + 1 ≤ rm.frames ∧ 8 + (N + 11) + rm1.locals ≤ rm.locals ∧ k + rm1.cells ≤ rm.cells ∧ n + rm1.slots ≤ rm.slots)
    (hq : vwCl[ci]? = some q) (hqc : q.1 = y.cls) (hrc : W0[q0]? = some (a, .inr (ci, fs)))
    (hC : isC.map (fun i => ws[i]?) = W0.map some) (hnc : va_nd isC = true) (hR : isR.map (fun i => ws[i]?) = wr.map some) (hn : va_nd isR = true) (hdis : ∀ i ∈ isR, i ∉ isC)
    (kk : ∀ (v : Option Value) (W1 : va_W), Po v W1 → V X nL (wr ++ W1) lv (v.toList ++ rest) (pc + 3) (k + rm1.cells) (n + rm1.slots)) : V X nL ws lv st pc k n := by
  have hds : y.cls ≠ "java/lang/invoke/MethodHandle" ∧ y.cls ≠ "java/lang/invoke/VarHandle" ∧ (parseMethodDescriptor y.desc).map (fun d => d.parameters.length) = some As.length := by rw [hnp]; exact hds0
  intro H locs ls hP hD hS hl
  have hPc := hP.sub isC (fm_of hC)
  have hDc := hD.sub isC hnc hC
  refine x_back wr isC isR hC hR hn hdis C.hA hP hD hS hl (va_runV (C := y.cls) (bytes := b) (maxL := N) (ret := ret) (As := As) (b := a) ⟨C.hx, C.hb, C.hml, C.ho, fun w h => C.w h⟩ (hM H.size) ⟨⟨rfl, rfl, by rw [C.hR]; exact hro.1, by rw [C.hR]; exact hro.2.1, x_payGood (fun w h => C.w h) h5, List.mem_cons_self, C.w h5, C.w h4, ⟨hds.1, hds.2.1⟩, fun sig h => ?_, C.w h1⟩, C.w h2, C.w h3⟩ ⟨Pw.blind, ?_, fun U hU hW => ⟨rfl, by rw [hU], by rw [hU]; exact hPc, va_K.moved hW.alike C.hK, NW.warm hW C.hN, hDc.weaken (fun _ _ _ _ => trivial)⟩⟩ rfl rfl hl.1 hst (lv_room hcat) hd ⟨by rw [C.hR]; exact hro.2.2.1, by rw [C.hR]; exact hro.2.2.2⟩) kk
  · have h9 := hds.2.2
    rw [h] at h9
    exact (Option.some.inj h9).symm
  · rw [← hqc]
    exact va_recv C.hK hPc hq hrc
/-- invokestatic, of the class itself -/
theorem x_callS (C : Ok X cc nL own rm) {y : MethodName} {b : ByteArray} {N : Nat} {ret : Option FieldType} {rm1 : Room} {W0 : va_W} (As : List Value) {rest : List Value} {Po : Option Value → va_W → Prop} {idx : Nat} (wr : va_W) (isC isR : List Nat)
    (hM : Cn (xl X) (xD X) (xt X) y b N ret rm1 W0 As Po) (hd : decode cc pc = .ok (.invokestatic idx, 3)) (h1 : Cond.methodLink own idx y ∈ wsL_law) (h2 : Cond.static y ∈ wsL_law) (h4 : Cond.initialized y.cls ∈ wsL_law) (h5 : Cond.code y b N ret ∈ wsL_law)
    {np : Nat} (hds0 : y.cls ≠ "java/lang/invoke/MethodHandle" ∧ y.cls ≠ "java/lang/invoke/VarHandle" ∧ (parseMethodDescriptor y.desc).map (fun d => d.parameters.length) = some np) (hnp : As.length = np)
    (hst : st = As.reverse ++ rest) (hcat : (rest.map fun v => v.category).sum ≤ 8) (hro : rm1.frames + 1 ≤ rm.frames ∧ 8 + (N + 11) + rm1.locals ≤ rm.locals ∧ k + rm1.cells ≤ rm.cells ∧ n + rm1.slots ≤ rm.slots)
    (hC : isC.map (fun i => ws[i]?) = W0.map some) (hnc : va_nd isC = true) (hR : isR.map (fun i => ws[i]?) = wr.map some) (hn : va_nd isR = true) (hdis : ∀ i ∈ isR, i ∉ isC)
    (kk : ∀ (v : Option Value) (W1 : va_W), Po v W1 → V X nL (wr ++ W1) lv (v.toList ++ rest) (pc + 3) (k + rm1.cells) (n + rm1.slots)) : V X nL ws lv st pc k n := by
  have hds : y.cls ≠ "java/lang/invoke/MethodHandle" ∧ y.cls ≠ "java/lang/invoke/VarHandle" ∧ (parseMethodDescriptor y.desc).map (fun d => d.parameters.length) = some As.length := by rw [hnp]; exact hds0
  intro H locs ls hP hD hS hl
  have hPc := hP.sub isC (fm_of hC)
  have hDc := hD.sub isC hnc hC
  refine x_back wr isC isR hC hR hn hdis C.hA hP hD hS hl (va_runS (bytes := b) (maxL := N) (ret := ret) (As := As) ⟨C.hx, C.hb, C.hml, C.ho, fun w h => C.w h⟩ (hM H.size) ⟨⟨rfl, rfl, by rw [C.hR]; exact hro.1, by rw [C.hR]; exact hro.2.1, x_payGood (fun w h => C.w h) h5, List.mem_cons_self, C.w h5, C.w h4, ⟨hds.1, hds.2.1⟩, fun sig h => ?_, C.w h1⟩, C.w h2⟩ ⟨Pw.blind, fun U hU hW => ⟨rfl, by rw [hU], by rw [hU]; exact hPc, va_K.moved hW.alike C.hK, NW.warm hW C.hN, hDc.weaken (fun _ _ _ _ => trivial)⟩⟩ rfl rfl hl.1 hst (lv_room hcat) hd ⟨by rw [C.hR]; exact hro.2.2.1, by rw [C.hR]; exact hro.2.2.2⟩) kk
  have h9 := hds.2.2
  rw [h] at h9
  exact (Option.some.inj h9).symm
/-- invokestatic, of a nest mate -/
theorem x_callSN (C : Ok X cc nL own rm) {y : MethodName} {b : ByteArray} {N : Nat} {ret : Option FieldType} {rm1 : Room} {W0 : va_W} (As : List Value) {rest : List Value} {Po : Option Value → va_W → Prop} {idx : Nat} {host : String} (wr : va_W) (isC isR : List Nat)
    (hM : Cn (xl X) (xD X) (xt X) y b N ret rm1 W0 As Po) (hd : decode cc pc = .ok (.invokestatic idx, 3)) (h1 : Cond.methodLinkNest own idx y host ∈ nwl) (h2 : Cond.static y ∈ wsL_law) (h4 : Cond.initialized y.cls ∈ wsL_law) (h5 : Cond.code y b N ret ∈ wsL_law)
    {np : Nat} (hds0 : y.cls ≠ "java/lang/invoke/MethodHandle" ∧ y.cls ≠ "java/lang/invoke/VarHandle" ∧ (parseMethodDescriptor y.desc).map (fun d => d.parameters.length) = some np) (hnp : As.length = np)
    (hst : st = As.reverse ++ rest) (hcat : (rest.map fun v => v.category).sum ≤ 8) (hro : rm1.frames + 1 ≤ rm.frames ∧ 8 + (N + 11) + rm1.locals ≤ rm.locals ∧ k + rm1.cells ≤ rm.cells ∧ n + rm1.slots ≤ rm.slots)
    (hC : isC.map (fun i => ws[i]?) = W0.map some) (hnc : va_nd isC = true) (hR : isR.map (fun i => ws[i]?) = wr.map some) (hn : va_nd isR = true) (hdis : ∀ i ∈ isR, i ∉ isC)
    (kk : ∀ (v : Option Value) (W1 : va_W), Po v W1 → V X nL (wr ++ W1) lv (v.toList ++ rest) (pc + 3) (k + rm1.cells) (n + rm1.slots)) : V X nL ws lv st pc k n := by
  have hds : y.cls ≠ "java/lang/invoke/MethodHandle" ∧ y.cls ≠ "java/lang/invoke/VarHandle" ∧ (parseMethodDescriptor y.desc).map (fun d => d.parameters.length) = some As.length := by rw [hnp]; exact hds0
  intro H locs ls hP hD hS hl
  have hPc := hP.sub isC (fm_of hC)
  have hDc := hD.sub isC hnc hC
  have hG : GoodIn (Cond.code y b N ret :: wsL_law) (Cond.code y b N ret :: wsL_law) := fun w hw => ⟨hw, by
    have h9 : w ∈ wsL_law := by
      rcases List.mem_cons.mp hw with h | h
      · rw [h]; exact h5
      · exact h
    exact good_of_word (List.all_eq_true.mp wsL_good w h9)⟩
  exact x_back wr isC isR hC hR hn hdis C.hA hP hD hS hl (va_runSN (bytes := b) (maxL := N) (ret := ret) (As := As) ⟨C.hx, C.hb, C.hml, C.ho, fun w h => C.w h⟩ (hM H.size) ⟨va_cnB As.length (Ts := Cond.code y b N ret :: wsL_law) (fun w hw => (List.mem_cons.mp hw).elim (fun h => by rw [h]; exact C.w h5) (fun h => C.w h)) hG rfl rfl rfl (C.nw h1) (C.w h4) hds (by rw [C.hR]; exact ⟨hro.1, hro.2.1⟩), C.w h2, trivial⟩ ⟨Pw.blind, fun U hU hW => ⟨rfl, by rw [hU], by rw [hU]; exact hPc, va_K.moved hW.alike C.hK, NW.warm hW C.hN, hDc.weaken (fun _ _ _ _ => trivial)⟩⟩ rfl rfl hl.1 hst (lv_room hcat) hd ⟨by rw [C.hR]; exact hro.2.2.1, by rw [C.hR]; exact hro.2.2.2⟩) kk
/-- invokespecial of a constructor -/
theorem x_callI (C : Ok X cc nL own rm) {y : MethodName} {b : ByteArray} {N : Nat} {rm1 : Room} {W0 : va_W} {a : Nat} (As : List Value) {rest : List Value} {Po : Option Value → va_W → Prop} {idx : Nat} (wr : va_W) (isC isR : List Nat)
    (hM : Cn (xl X) (xD X) (xt X) y b N none rm1 W0 (.ref a :: As) Po) (hd : decode cc pc = .ok (.invokespecial idx, 3)) (h1 : Cond.methodLink own idx y ∈ wsL_law) (h2 : Cond.instanceMethod y ∈ wsL_law) (hin : y.name = "<init>") (h4 : Cond.initialized y.cls ∈ wsL_law) (h5 : Cond.code y b N none ∈ wsL_law)
    {np : Nat} (hds0 : y.cls ≠ "java/lang/invoke/MethodHandle" ∧ y.cls ≠ "java/lang/invoke/VarHandle" ∧ (parseMethodDescriptor y.desc).map (fun d => d.parameters.length) = some np) (hnp : As.length = np)
    (hst : st = As.reverse ++ .ref a :: rest) (hcat : (rest.map fun v => v.category).sum ≤ 8) (hro : rm1.frames + 1 ≤ rm.frames ∧ 8 + (N + 11) + rm1.locals ≤ rm.locals ∧ k + rm1.cells ≤ rm.cells ∧ n + rm1.slots ≤ rm.slots)
    (hC : isC.map (fun i => ws[i]?) = W0.map some) (hnc : va_nd isC = true) (hR : isR.map (fun i => ws[i]?) = wr.map some) (hn : va_nd isR = true) (hdis : ∀ i ∈ isR, i ∉ isC)
    (kk : ∀ (v : Option Value) (W1 : va_W), Po v W1 → V X nL (wr ++ W1) lv (v.toList ++ rest) (pc + 3) (k + rm1.cells) (n + rm1.slots)) : V X nL ws lv st pc k n := by
  have hds : y.cls ≠ "java/lang/invoke/MethodHandle" ∧ y.cls ≠ "java/lang/invoke/VarHandle" ∧ (parseMethodDescriptor y.desc).map (fun d => d.parameters.length) = some As.length := by rw [hnp]; exact hds0
  intro H locs ls hP hD hS hl
  have hPc := hP.sub isC (fm_of hC)
  have hDc := hD.sub isC hnc hC
  refine x_back wr isC isR hC hR hn hdis C.hA hP hD hS hl (va_runI (bytes := b) (maxL := N) (As := As) (b := a) ⟨C.hx, C.hb, C.hml, C.ho, fun w h => C.w h⟩ (hM H.size) ⟨⟨rfl, rfl, by rw [C.hR]; exact hro.1, by rw [C.hR]; exact hro.2.1, x_payGood (fun w h => C.w h) h5, List.mem_cons_self, C.w h5, C.w h4, ⟨hds.1, hds.2.1⟩, fun sig h => ?_, C.w h1⟩, hin, C.w h2⟩ ⟨Pw.blind, fun U hU hW => ⟨rfl, by rw [hU], by rw [hU]; exact hPc, va_K.moved hW.alike C.hK, NW.warm hW C.hN, hDc.weaken (fun _ _ _ _ => trivial)⟩⟩ rfl rfl hl.1 hst (lv_room hcat) hd ⟨by rw [C.hR]; exact hro.2.2.1, by rw [C.hR]; exact hro.2.2.2⟩) kk
  have h9 := hds.2.2
  rw [h] at h9
  exact (Option.some.inj h9).symm
/-- invokespecial of a nest mate's constructor -/
theorem x_callIN (C : Ok X cc nL own rm) {y : MethodName} {b : ByteArray} {N : Nat} {rm1 : Room} {W0 : va_W} {a : Nat} (As : List Value) {rest : List Value} {Po : Option Value → va_W → Prop} {idx : Nat} {host : String} (wr : va_W) (isC isR : List Nat)
    (hM : Cn (xl X) (xD X) (xt X) y b N none rm1 W0 (.ref a :: As) Po) (hd : decode cc pc = .ok (.invokespecial idx, 3)) (h1 : Cond.methodLinkNest own idx y host ∈ nwl) (h2 : Cond.instanceMethod y ∈ wsL_law) (hin : y.name = "<init>") (h4 : Cond.initialized y.cls ∈ wsL_law) (h5 : Cond.code y b N none ∈ wsL_law)
    {np : Nat} (hds0 : y.cls ≠ "java/lang/invoke/MethodHandle" ∧ y.cls ≠ "java/lang/invoke/VarHandle" ∧ (parseMethodDescriptor y.desc).map (fun d => d.parameters.length) = some np) (hnp : As.length = np)
    (hst : st = As.reverse ++ .ref a :: rest) (hcat : (rest.map fun v => v.category).sum ≤ 8) (hro : rm1.frames + 1 ≤ rm.frames ∧ 8 + (N + 11) + rm1.locals ≤ rm.locals ∧ k + rm1.cells ≤ rm.cells ∧ n + rm1.slots ≤ rm.slots)
    (hC : isC.map (fun i => ws[i]?) = W0.map some) (hnc : va_nd isC = true) (hR : isR.map (fun i => ws[i]?) = wr.map some) (hn : va_nd isR = true) (hdis : ∀ i ∈ isR, i ∉ isC)
    (kk : ∀ (v : Option Value) (W1 : va_W), Po v W1 → V X nL (wr ++ W1) lv (v.toList ++ rest) (pc + 3) (k + rm1.cells) (n + rm1.slots)) : V X nL ws lv st pc k n := by
  have hds : y.cls ≠ "java/lang/invoke/MethodHandle" ∧ y.cls ≠ "java/lang/invoke/VarHandle" ∧ (parseMethodDescriptor y.desc).map (fun d => d.parameters.length) = some As.length := by rw [hnp]; exact hds0
  intro H locs ls hP hD hS hl
  have hPc := hP.sub isC (fm_of hC)
  have hDc := hD.sub isC hnc hC
  have hG : GoodIn (Cond.code y b N none :: wsL_law) (Cond.code y b N none :: wsL_law) := fun w hw => ⟨hw, by
    have h9 : w ∈ wsL_law := by
      rcases List.mem_cons.mp hw with h | h
      · rw [h]; exact h5
      · exact h
    exact good_of_word (List.all_eq_true.mp wsL_good w h9)⟩
  exact x_back wr isC isR hC hR hn hdis C.hA hP hD hS hl (va_runIN (bytes := b) (maxL := N) (As := As) (b := a) ⟨C.hx, C.hb, C.hml, C.ho, fun w h => C.w h⟩ (hM H.size) ⟨va_cnB As.length (Ts := Cond.code y b N none :: wsL_law) (fun w hw => (List.mem_cons.mp hw).elim (fun h => by rw [h]; exact C.w h5) (fun h => C.w h)) hG rfl rfl rfl (C.nw h1) (C.w h4) hds (by rw [C.hR]; exact ⟨hro.1, hro.2.1⟩), hin, C.w h2⟩ ⟨Pw.blind, fun U hU hW => ⟨rfl, by rw [hU], by rw [hU]; exact hPc, va_K.moved hW.alike C.hK, NW.warm hW C.hN, hDc.weaken (fun _ _ _ _ => trivial)⟩⟩ rfl rfl hl.1 hst (lv_room hcat) hd ⟨by rw [C.hR]; exact hro.2.2.1, by rw [C.hR]; exact hro.2.2.2⟩) kk
end XC
section XR2
variable {X : Cx} {cc : ByteArray} {nL : Nat} {own : String} {rm : Room} {ws : va_W} {lv : List (Nat × Value)} {st : List Value} {pc k n : Nat}
theorem x_aald (C : Ok X cc nL own rm) (q0 t0 : Nat) {a : Nat} {cA : ClassId} {Cl : String} {N : Nat} {f : Nat → Option Nat} {i : Int32} {b : Nat} (hd : decode cc pc = .ok (.aaload, 1)) (ht : (xt X)[t0]? = some (cA, .object Cl)) (ha : ws[q0]? = some (a, .inl (cA, N, .inr (.inr (.inr (.inr f)))))) (hin : vp_in i N) (hv : f i.toNatClampNeg = some b) (kk : V X nL ws lv (.ref b :: st) (pc + 1) k n) : V X nL ws lv (.int i :: .ref a :: st) pc k n :=
  fun H locs ls hP hD hS hl => va_aldq C.hx C.hb C.hK hP q0 t0 ha ht hin hd (by rw [hv]; exact kk H locs ls hP hD hS hl)
theorem x_tswOut (C : Ok X cc nL own rm) {dflt lo hi : Int} {offs : Array Int} {len : Nat} {x : Int32} (tgt : Nat) (hd : decode cc pc = .ok (.tableswitch dflt lo hi offs, len)) (h : x.toInt < lo ∨ hi < x.toInt) (ht : (pc : Int) + dflt = (tgt : Int)) (kk : V X nL ws lv st tgt k n) : V X nL ws lv (.int x :: st) pc k n :=
  fun H locs ls hP hD hS hl => lv_tableOut C.hx C.hb hd h ht (kk H locs ls hP hD hS hl)
theorem x_tswIn (C : Ok X cc nL own rm) {dflt lo hi : Int} {offs : Array Int} {len : Nat} {x : Int32} {off : Int} (tgt : Nat) (hd : decode cc pc = .ok (.tableswitch dflt lo hi offs, len)) (h1 : ¬ x.toInt < lo) (h2 : ¬ hi < x.toInt) (ho : offs[(x.toInt - lo).toNat]? = some off) (ht : (pc : Int) + off = (tgt : Int)) (kk : V X nL ws lv st tgt k n) : V X nL ws lv (.int x :: st) pc k n :=
  fun H locs ls hP hD hS hl => lv_tableIn C.hx C.hb hd h1 h2 ho ht (kk H locs ls hP hD hS hl)
theorem x_lsw (C : Ok X cc nL own rm) {dflt : Int} {ps : Array (Int × Int)} {len : Nat} {x : Int32} {off : Int} (tgt : Nat) (hd : decode cc pc = .ok (.lookupswitch dflt ps, len)) (hp : (ps.toList.zip (ps.toList.drop 1)).all (fun (a, next) => a.1 < next.1) = true) (ho : Op.lookupswitch.offset ps.toList dflt x.toInt = off) (ht : (pc : Int) + off = (tgt : Int)) (kk : V X nL ws lv st tgt k n) : V X nL ws lv (.int x :: st) pc k n :=
  fun H locs ls hP hD hS hl => lv_lookup C.hx C.hb hd hp ho ht (kk H locs ls hP hD hS hl)
theorem lsw_no {ps : List (Int × Int)} {d x : Int} (h : ∀ q ∈ ps, ¬ x = q.1) : Op.lookupswitch.offset ps d x = d := by
  induction ps with
  | nil => rfl
  | cons a l ih =>
    have h1 := h a List.mem_cons_self
    have h2 := ih (fun q hq => h q (List.mem_cons_of_mem _ hq))
    obtain ⟨u, v⟩ := a
    simp only [Op.lookupswitch.offset]
    rw [if_neg (by first | exact h1 | exact fun e => h1 e.symm | simpa using h1 | (intro e; exact h1 (by simpa using e)) | (intro e; exact h1 (by simpa using e.symm)))]
    exact h2
end XR2
