/-! THE CLAIM OUT OF ONE WALK OF THE LAW'S BODY. Your part is whole_start (and what it stands on); all else here is the same for every law, but numbers. -/
def R_law : String := "StoryNestLaw"
def lw_P (b : Addr) (xs : List Int32) (args : Array Value) (s : State) : Prop := args = #[.ref b] ∧ s.IntsAt b xs ∧ xs.length ≤ 2560 ∧ (Jvm.Cond.and given_1 narrow_1).before args s = true
def lw_Q (_ : Array Value) (s : State) (o : Outcome) (t : State) : Prop := o = .returned (some (.int 1)) ∧ Framed s o t [] 600000 7302249
def lw_Z (below : List Frame) (a : Array Value) (s : State) : State → Prop := fun t => ∃ o, t.status = .running ∧ Ended t below o ∧ lw_Q a s o t
/-- the law's own end, with 1 on the stack, nothing written that was there before, its room as the claim has it -/
theorem lw_ret {p : Program} {l : Launch} {e : Env} {s : State} {m : MethodId} {below : List Frame} {meth : Method} {c : Code} {b : Nat} (hx : p.tables.exec = Jvm.exec) (hb : c.code = code) (hr : meth.sig.returnType = ret) (hlocks : meth.locks = false) {pc : Nat} {H : Heap} {ls : Array Slot} (hdg : decode code pc = .ok (.ireturn, 1)) : W p l e room_1 s m #[Value.ref b] below meth c H [] 600000 7302249 (lw_Z below #[Value.ref b] s) (F0 m pc ls [.int 1]) := by
  intro T hT X
  obtain ⟨fs, hret, hrun, hended, hW, hframe⟩ := X.leave (v := some (.int 1)) (hlocks := hlocks) (fun h => by rw [hr] at h; cases h)
  have hmeth' : T.vm.method? m = some meth := X.method'
  refine ⟨T.setFrames fs, ?_, .returned (some (.int 1)), hrun, hended, rfl, ⟨_, rfl⟩, hW, hframe⟩
  jvm_step X.here [X.here.top, hx, hb, hdg, hmeth', hr, ret, narrow_b1]
  (try refine ⟨rfl, ?_⟩); (try refine ⟨rfl, ?_⟩)
  first | (intro acts; rw [hret _ acts rfl rfl rfl]) | rw [hret _ _ rfl rfl rfl]
  exact Steps.refl _
/-- what holds at the law's entry: the machine, the code, the tables' words (any of lw_tbl by 'hts w (by decide +kernel)'), the script of L ints xs at the cell b, what the Statement gives of the start (any of its parts by flat_of_before) -/
def lw_At (p : Program) (s : State) (m : MethodId) (meth : Method) (c : Code) (b L : Nat) (xs : Nat → Int32) : Prop :=
  p.tables.exec = Jvm.exec ∧ c.code = code ∧ meth.sig.returnType = ret ∧ c.maxLocals = 4 ∧ s.vm.findClass R_law = some m.cls ∧ (∀ w ∈ lw_tbl, w.before #[Value.ref b] s = true) ∧ va_X b L xs s s.heap ∧ b < s.heap.size ∧ meth.locks = false ∧ (Jvm.Cond.and given_1 narrow_1).before #[Value.ref b] s = true
theorem tn_0 : Cond.fieldLinkNest RX8 42 "StoryNest$Pad" "size" "I" "StoryNest" ∈ lw_tbl := List.mem_append_right _ (List.mem_append_left _ (List.mem_of_getElem? (i := 30) rfl))
theorem tn_1 : Cond.fieldLinkNest RX1 45 "StoryNest$Pad" "size" "I" "StoryNest" ∈ lw_tbl := List.mem_append_right _ (List.mem_append_left _ (List.mem_of_getElem? (i := 31) rfl))
theorem tn_2 : Cond.fieldLinkNest RX0 43 "StoryNest$Pad" "size" "I" "StoryNest" ∈ lw_tbl := List.mem_append_right _ (List.mem_append_left _ (List.mem_of_getElem? (i := 32) rfl))
theorem tn_3 : Cond.fieldLinkNest RX9 230 "StoryNest$Pad" "size" "I" "StoryNest" ∈ lw_tbl := List.mem_append_right _ (List.mem_append_left _ (List.mem_of_getElem? (i := 33) rfl))
theorem tn_4 : Cond.fieldLinkNest RX5 54 "StoryNest$Book" "parts" "[I" "StoryNest" ∈ lw_tbl := List.mem_append_right _ (List.mem_append_left _ (List.mem_of_getElem? (i := 47) rfl))
theorem tn_5 : Cond.fieldLinkNest RX3 32 "StoryNest$Book" "parts" "[I" "StoryNest" ∈ lw_tbl := List.mem_append_right _ (List.mem_append_left _ (List.mem_of_getElem? (i := 48) rfl))
theorem tn_6 : Cond.fieldLinkNest RX9 113 "StoryNest$Book" "parts" "[I" "StoryNest" ∈ lw_tbl := List.mem_append_right _ (List.mem_append_left _ (List.mem_of_getElem? (i := 49) rfl))
theorem tn_7 : Cond.fieldLinkNest RX4 91 "StoryNest$Book" "parts" "[I" "StoryNest" ∈ lw_tbl := List.mem_append_right _ (List.mem_append_left _ (List.mem_of_getElem? (i := 50) rfl))
theorem tn_8 : Cond.fieldLinkNest RX3 41 "StoryNest$Book" "gates" "[I" "StoryNest" ∈ lw_tbl := List.mem_append_right _ (List.mem_append_left _ (List.mem_of_getElem? (i := 53) rfl))
theorem tn_9 : Cond.fieldLinkNest RX9 124 "StoryNest$Book" "gates" "[I" "StoryNest" ∈ lw_tbl := List.mem_append_right _ (List.mem_append_left _ (List.mem_of_getElem? (i := 54) rfl))
theorem tn_10 : Cond.fieldLinkNest RX1 89 "StoryNest$Book" "tellers" "[I" "StoryNest" ∈ lw_tbl := List.mem_append_right _ (List.mem_append_left _ (List.mem_of_getElem? (i := 56) rfl))
theorem tn_11 : Cond.fieldLinkNest RX5 65 "StoryNest$Book" "tellers" "[I" "StoryNest" ∈ lw_tbl := List.mem_append_right _ (List.mem_append_left _ (List.mem_of_getElem? (i := 57) rfl))
theorem tn_12 : Cond.fieldLinkNest RX3 38 "StoryNest$Book" "tellers" "[I" "StoryNest" ∈ lw_tbl := List.mem_append_right _ (List.mem_append_left _ (List.mem_of_getElem? (i := 58) rfl))
theorem tn_13 : Cond.fieldLinkNest RX9 130 "StoryNest$Book" "tellers" "[I" "StoryNest" ∈ lw_tbl := List.mem_append_right _ (List.mem_append_left _ (List.mem_of_getElem? (i := 59) rfl))
theorem tn_14 : Cond.fieldLinkNest RX9 133 "StoryNest$Book" "known" "[I" "StoryNest" ∈ lw_tbl := List.mem_append_right _ (List.mem_append_left _ (List.mem_of_getElem? (i := 61) rfl))
theorem tn_15 : Cond.fieldLinkNest RX9 245 "StoryNest$Book" "waits" "[I" "StoryNest" ∈ lw_tbl := List.mem_append_right _ (List.mem_append_left _ (List.mem_of_getElem? (i := 63) rfl))
theorem tn_16 : Cond.fieldLinkNest RX3 61 "StoryNest$Book" "needs" "[I" "StoryNest" ∈ lw_tbl := List.mem_append_right _ (List.mem_append_left _ (List.mem_of_getElem? (i := 65) rfl))
theorem tn_17 : Cond.fieldLinkNest RX7 19 "StoryNest$Book" "waitCount" "I" "StoryNest" ∈ lw_tbl := List.mem_append_right _ (List.mem_append_left _ (List.mem_of_getElem? (i := 67) rfl))
theorem tn_18 : Cond.fieldLinkNest RX9 139 "StoryNest$Book" "waitCount" "I" "StoryNest" ∈ lw_tbl := List.mem_append_right _ (List.mem_append_left _ (List.mem_of_getElem? (i := 68) rfl))
theorem tn_19 : Cond.fieldLinkNest RX3 44 "StoryNest$Book" "law" "I" "StoryNest" ∈ lw_tbl := List.mem_append_right _ (List.mem_append_left _ (List.mem_of_getElem? (i := 70) rfl))
theorem tn_20 : Cond.fieldLinkNest RX9 149 "StoryNest$Book" "law" "I" "StoryNest" ∈ lw_tbl := List.mem_append_right _ (List.mem_append_left _ (List.mem_of_getElem? (i := 71) rfl))
theorem tn_21 : Cond.fieldLinkNest RX1 93 "StoryNest$Book" "breath" "I" "StoryNest" ∈ lw_tbl := List.mem_append_right _ (List.mem_append_left _ (List.mem_of_getElem? (i := 73) rfl))
theorem tn_22 : Cond.fieldLinkNest RX5 81 "StoryNest$Book" "breath" "I" "StoryNest" ∈ lw_tbl := List.mem_append_right _ (List.mem_append_left _ (List.mem_of_getElem? (i := 74) rfl))
theorem tn_23 : Cond.fieldLinkNest RX9 152 "StoryNest$Book" "breath" "I" "StoryNest" ∈ lw_tbl := List.mem_append_right _ (List.mem_append_left _ (List.mem_of_getElem? (i := 75) rfl))
theorem tn_24 : Cond.fieldLinkNest RX1 78 "StoryNest$Moment" "night" "I" "StoryNest" ∈ lw_tbl := List.mem_append_right _ (List.mem_append_left _ (List.mem_of_getElem? (i := 111) rfl))
theorem tn_25 : Cond.fieldLinkNest RX1 66 "StoryNest$Moment" "open" "I" "StoryNest" ∈ lw_tbl := List.mem_append_right _ (List.mem_append_left _ (List.mem_of_getElem? (i := 113) rfl))
theorem tn_26 : Cond.fieldLinkNest RX9 158 "StoryNest$Evening" "place" "I" "StoryNest" ∈ lw_tbl := List.mem_append_right _ (List.mem_append_left _ (List.mem_of_getElem? (i := 138) rfl))
theorem tn_27 : Cond.fieldLinkNest RX9 161 "StoryNest$Evening" "why" "I" "StoryNest" ∈ lw_tbl := List.mem_append_right _ (List.mem_append_left _ (List.mem_of_getElem? (i := 140) rfl))
theorem tn_28 : Cond.fieldLinkNest RX9 167 "StoryNest$Evening" "open" "I" "StoryNest" ∈ lw_tbl := List.mem_append_right _ (List.mem_append_left _ (List.mem_of_getElem? (i := 142) rfl))
theorem tn_29 : Cond.fieldLinkNest RX9 170 "StoryNest$Evening" "deep" "I" "StoryNest" ∈ lw_tbl := List.mem_append_right _ (List.mem_append_left _ (List.mem_of_getElem? (i := 144) rfl))
theorem tn_30 : Cond.fieldLinkNest RX9 173 "StoryNest$Evening" "minutes" "I" "StoryNest" ∈ lw_tbl := List.mem_append_right _ (List.mem_append_left _ (List.mem_of_getElem? (i := 146) rfl))
theorem tn_31 : Cond.fieldLinkNest RX8 33 "StoryNest$Nights" "nights" "[I" "StoryNest" ∈ lw_tbl := List.mem_append_right _ (List.mem_append_left _ (List.mem_of_getElem? (i := 175) rfl))
theorem tn_32 : Cond.fieldLinkNest RX2 41 "StoryNest$Nights" "nights" "[I" "StoryNest" ∈ lw_tbl := List.mem_append_right _ (List.mem_append_left _ (List.mem_of_getElem? (i := 176) rfl))
theorem tn_33 : Cond.fieldLinkNest RX2 33 "StoryNest$Nights" "worth" "[J" "StoryNest" ∈ lw_tbl := List.mem_append_right _ (List.mem_append_left _ (List.mem_of_getElem? (i := 179) rfl))
theorem tn_34 : Cond.fieldLinkNest RX5 41 "StoryNest$Nights" "worth" "[J" "StoryNest" ∈ lw_tbl := List.mem_append_right _ (List.mem_append_left _ (List.mem_of_getElem? (i := 180) rfl))
theorem tn_35 : Cond.fieldLinkNest RX8 49 "StoryNest$Nights" "worth" "[J" "StoryNest" ∈ lw_tbl := List.mem_append_right _ (List.mem_append_left _ (List.mem_of_getElem? (i := 181) rfl))
theorem tn_36 : Cond.fieldLinkNest RX5 27 "StoryNest$Nights" "size" "I" "StoryNest" ∈ lw_tbl := List.mem_append_right _ (List.mem_append_left _ (List.mem_of_getElem? (i := 184) rfl))
theorem tn_37 : Cond.fieldLinkNest RX2 15 "StoryNest$Nights" "size" "I" "StoryNest" ∈ lw_tbl := List.mem_append_right _ (List.mem_append_left _ (List.mem_of_getElem? (i := 185) rfl))
theorem tn_38 : Cond.fieldLinkNest RX8 29 "StoryNest$Nights" "size" "I" "StoryNest" ∈ lw_tbl := List.mem_append_right _ (List.mem_append_left _ (List.mem_of_getElem? (i := 186) rfl))
theorem tn_39 : Cond.fieldLinkNest RX5 51 "StoryNest$Nights" "set" "I" "StoryNest" ∈ lw_tbl := List.mem_append_right _ (List.mem_append_left _ (List.mem_of_getElem? (i := 189) rfl))
theorem tn_40 : Cond.methodLinkNest RX9 9 yX6_init "StoryNest" ∈ lw_tbl := List.mem_append_right _ (List.mem_append_left _ (List.mem_of_getElem? (i := 24) rfl))
theorem tn_41 : Cond.methodLinkNest RX6 23 yX9_isIn "StoryNest" ∈ lw_tbl := List.mem_append_right _ (List.mem_append_right _ (List.mem_append_left _ (List.mem_of_getElem? (i := 99) rfl)))
theorem tn_42 : Cond.methodLinkNest RX0 56 yX9_isIn "StoryNest" ∈ lw_tbl := List.mem_append_right _ (List.mem_append_right _ (List.mem_append_left _ (List.mem_of_getElem? (i := 151) rfl)))
theorem tn_43 : Cond.methodLinkNest RX1 54 yX9_isStory "StoryNest" ∈ lw_tbl := List.mem_append_right _ (List.mem_append_right _ (List.mem_append_left _ (List.mem_of_getElem? (i := 212) rfl)))
theorem tn_44 : Cond.methodLinkNest RX4 84 yX9_isIn "StoryNest" ∈ lw_tbl := List.mem_append_right _ (List.mem_append_right _ (List.mem_append_right _ (List.mem_append_left _ (List.mem_of_getElem? (i := 74) rfl))))
theorem tn_45 : Cond.methodLinkNest RX5 101 yX9_isIn "StoryNest" ∈ lw_tbl := List.mem_append_right _ (List.mem_append_right _ (List.mem_append_right _ (List.mem_append_left _ (List.mem_of_getElem? (i := 134) rfl))))
theorem tn_46 : Cond.methodLinkNest RX8 68 yX9_isIn "StoryNest" ∈ lw_tbl := List.mem_append_right _ (List.mem_append_right _ (List.mem_append_right _ (List.mem_append_left _ (List.mem_of_getElem? (i := 215) rfl))))
theorem nwl_in : ∀ w ∈ nwl, w ∈ lw_tbl := by
  intro w hw
  simp only [nwl, List.mem_cons, List.not_mem_nil, or_false] at hw
  rcases hw with rfl | rfl | rfl | rfl | rfl | rfl | rfl | rfl | rfl | rfl | rfl | rfl | rfl | rfl | rfl | rfl | rfl | rfl | rfl | rfl | rfl | rfl | rfl | rfl | rfl | rfl | rfl | rfl | rfl | rfl | rfl | rfl | rfl | rfl | rfl | rfl | rfl | rfl | rfl | rfl | rfl | rfl | rfl | rfl | rfl | rfl | rfl
  · exact tn_0
  · exact tn_1
  · exact tn_2
  · exact tn_3
  · exact tn_4
  · exact tn_5
  · exact tn_6
  · exact tn_7
  · exact tn_8
  · exact tn_9
  · exact tn_10
  · exact tn_11
  · exact tn_12
  · exact tn_13
  · exact tn_14
  · exact tn_15
  · exact tn_16
  · exact tn_17
  · exact tn_18
  · exact tn_19
  · exact tn_20
  · exact tn_21
  · exact tn_22
  · exact tn_23
  · exact tn_24
  · exact tn_25
  · exact tn_26
  · exact tn_27
  · exact tn_28
  · exact tn_29
  · exact tn_30
  · exact tn_31
  · exact tn_32
  · exact tn_33
  · exact tn_34
  · exact tn_35
  · exact tn_36
  · exact tn_37
  · exact tn_38
  · exact tn_39
  · exact tn_40
  · exact tn_41
  · exact tn_42
  · exact tn_43
  · exact tn_44
  · exact tn_45
  · exact tn_46
theorem ao_in : Cond.arrayOver (.object "StoryNest$Book") ∈ lw_tbl := List.mem_append_right _ (List.mem_append_left _ (List.mem_of_getElem? (i := 97) rfl))
theorem nwl_tab : ∀ w ∈ nwl, w.onTables = true := by
  intro w hw
  rcases nwl_kind w hw with ⟨a, i, b, n, d, h, rfl⟩ | ⟨a, i, x, h, rfl⟩ <;> rfl
theorem tys_of {s : State} {args : Array Value} (hts : ∀ w ∈ wsL_law, w.before args s = true) (ha : va_AO "StoryNest$Book" s) : ∃ cI cJ cZ cB : ClassId, ∀ (k : Nat) (q : ClassId × FieldType), [(cI, FieldType.int), (cJ, .long), (cZ, .boolean), (cB, .object "StoryNest$Book")][k]? = some q → ArrOfT s q.1 q.2 ∧ va_RA s q.1 q.2 := by
  obtain ⟨cI, kI, mI, fI, gI, hI⟩ := Cond.arrayClass_spec (hts _ wd_49)
  obtain ⟨cJ, kJ, mJ, fJ, gJ, hJ⟩ := Cond.arrayClass_spec (hts _ wd_84)
  obtain ⟨cZ, kZ, mZ, fZ, gZ, hZ⟩ := Cond.arrayClass_spec (hts _ wd_96)
  obtain ⟨comp, cB, kB, f1, f2, f3, f4, f5⟩ := Cond.arrayOver_spec ha
  refine ⟨cI, cJ, cZ, cB, fun k q hk => ?_⟩
  match k, hk with
  | 0, hk => cases hk; exact ⟨fun n z => ⟨fun k h => (by cases h), kI, gI, mI, hI⟩, fI⟩
  | 1, hk => cases hk; exact ⟨fun n z => ⟨fun k h => (by cases h), kJ, gJ, mJ, hJ⟩, fJ⟩
  | 2, hk => cases hk; exact ⟨fun n z => ⟨fun k h => (by cases h), kZ, gZ, mZ, hZ⟩, fZ⟩
  | 3, hk => cases hk; exact ⟨fun n z => ⟨fun k h => (by cases h), kB, f3, comp, f4⟩, kB, comp, f3, f4, f1, f5⟩
  | k + 4, hk => simp at hk
theorem u_all {s : State} {args : Array Value} (hts : ∀ w ∈ wsL_law, w.before args s = true) : ∃ D : va_G, ∀ (k : Nat) (q : vw_C), vwCl[k]? = some q → u_Kn s q.1 q.2.1 q.2.2 (D.1 k) (D.2 k) := by
  obtain ⟨c0, i0, k0⟩ := u_known (C := RX0) (T := TX0) (N := 10) (n := 10) hts inlX0 (hts _ wd_17)
  obtain ⟨c1, i1, k1⟩ := u_known (C := RX1) (T := TX1) (N := 8) (n := 8) hts inlX1 (hts _ wd_23)
  obtain ⟨c2, i2, k2⟩ := u_known (C := RX2) (T := TX2) (N := 1) (n := 1) hts inlX2 (hts _ wd_35)
  obtain ⟨c3, i3, k3⟩ := u_known (C := RX3) (T := TX3) (N := 7) (n := 7) hts inlX3 (hts _ wd_70)
  obtain ⟨c4, i4, k4⟩ := u_known (C := RX4) (T := TX4) (N := 10) (n := 10) hts inlX4 (hts _ wd_27)
  obtain ⟨c5, i5, k5⟩ := u_known (C := RX5) (T := TX5) (N := 4) (n := 4) hts inlX5 (hts _ wd_31)
  obtain ⟨c6, i6, k6⟩ := u_known (C := RX6) (T := TX6) (N := 2) (n := 2) hts inlX6 (hts _ wd_13)
  obtain ⟨c7, i7, k7⟩ := u_known (C := RX7) (T := TX7) (N := 1) (n := 1) hts inlX7 (hts _ wd_43)
  obtain ⟨c8, i8, k8⟩ := u_known (C := RX8) (T := TX8) (N := 4) (n := 4) hts inlX8 (hts _ wd_39)
  obtain ⟨c9, i9, k9⟩ := u_known (C := RX9) (T := TX9) (N := 10) (n := 10) hts inlX9 (hts _ wd_1)
  obtain ⟨c10, i10, k10⟩ := u_known (C := RX10) (T := TX10) (N := 30) (n := 30) hts inlX10 (hts _ wd_4)
  refine ⟨(fun k => if k = 0 then c0 else if k = 1 then c1 else if k = 2 then c2 else if k = 3 then c3 else if k = 4 then c4 else if k = 5 then c5 else if k = 6 then c6 else if k = 7 then c7 else if k = 8 then c8 else if k = 9 then c9 else c10, fun k => if k = 0 then i0 else if k = 1 then i1 else if k = 2 then i2 else if k = 3 then i3 else if k = 4 then i4 else if k = 5 then i5 else if k = 6 then i6 else if k = 7 then i7 else if k = 8 then i8 else if k = 9 then i9 else i10), ?_⟩
  intro k q hq
  match k, hq with
  | 0, hq => cases hq; exact k0
  | 1, hq => cases hq; exact k1
  | 2, hq => cases hq; exact k2
  | 3, hq => cases hq; exact k3
  | 4, hq => cases hq; exact k4
  | 5, hq => cases hq; exact k5
  | 6, hq => cases hq; exact k6
  | 7, hq => cases hq; exact k7
  | 8, hq => cases hq; exact k8
  | 9, hq => cases hq; exact k9
  | 10, hq => cases hq; exact k10
  | k + 11, hq => simp [vwCl] at hq
section XS
variable {X : Cx} {cc : ByteArray} {nL : Nat} {own : String} {rm : Room} {ws : va_W} {lv : List (Nat × Value)} {st : List Value} {pc k n : Nat}
theorem x_sld (C : Ok X cc nL own rm) {b L : Nat} {sc : Nat → Int32} (hX : va_X b L sc (xs X) (xs X).heap) (hbl : b < (xs X).heap.size) (hbA : ¬ xA X b) {i : Int32} (hd : decode cc pc = .ok (.iaload, 1)) (hin : vp_in i L) (kk : V X nL ws lv (.int (sc i.toNatClampNeg) :: st) (pc + 1) k n) : V X nL ws lv (.int i :: .ref b :: st) pc k n :=
  fun H locs ls hP hD hS hl => va_sld C.hx C.hb hX hbl hbA hS hin hd (kk H locs ls hP hD hS hl)
theorem x_slen (C : Ok X cc nL own rm) {b L : Nat} {sc : Nat → Int32} (hX : va_X b L sc (xs X) (xs X).heap) (hbl : b < (xs X).heap.size) (hbA : ¬ xA X b) (hd : decode cc pc = .ok (.arraylength, 1)) (kk : V X nL ws lv (.int (Int32.ofNat L) :: st) (pc + 1) k n) : V X nL ws lv (.ref b :: st) pc k n :=
  fun H locs ls hP hD hS hl => va_slen C.hx C.hb hX hbl hbA hS hd (kk H locs ls hP hD hS hl)
end XS
def SY (x z : Int32) (f : Nat → Int32) (r z2 : Int32) (f2 : Nat → Int32) : Prop := (¬ (33 ≤ x.toInt ∧ x.toInt ≤ 126) ∧ r = -2 ∧ z2 = z ∧ f2 = f) ∨ ((33 ≤ x.toInt ∧ x.toInt ≤ 126) ∧ z.toInt = 30 ∧ r = -4 ∧ z2 = z ∧ f2 = f) ∨ ((33 ≤ x.toInt ∧ x.toInt ≤ 126) ∧ z.toInt < 30 ∧ r = z + 1 ∧ z2 = z + 1 ∧ f2 = upd f z.toNatClampNeg x)
theorem say_ok {x z mz r z2 mr mz2 : Int32} {f mp f2 mp2 : Nat → Int32} (h : SY x z f r z2 f2) (h' : SY x mz mp mr mz2 mp2) (hz : 0 ≤ z.toInt ∧ z.toInt ≤ 30) (ez : z = mz) (ef : f = mp) : (0 ≤ z2.toInt ∧ z2.toInt ≤ 30) ∧ z2 = mz2 ∧ f2 = mp2 ∧ r = mr := by
  subst ez ef
  have := t1_
  unfold SY at h h'
  rcases h with ⟨a, rfl, rfl, rfl⟩ | ⟨a, a1, rfl, rfl, rfl⟩ | ⟨a, a1, rfl, rfl, rfl⟩ <;> rcases h' with ⟨b, rfl, rfl, rfl⟩ | ⟨b, b1, rfl, rfl, rfl⟩ | ⟨b, b1, rfl, rfl, rfl⟩
  · exact ⟨hz, rfl, rfl, rfl⟩
  · exact absurd b a
  · exact absurd b a
  · exact absurd a b
  · exact ⟨hz, rfl, rfl, rfl⟩
  · exfalso; omega
  · exact absurd a b
  · exfalso; omega
  · have := i_add (x := z) (y := 1) (by omega) (by omega)
    exact ⟨by omega, rfl, rfl, rfl⟩
theorem sto_ok {s z mz z2 mz2 : Int32} {f mp : Nat → Int32} (h : (¬ ((0 ≤ s.toInt ∧ s.toInt ≤ 3) ∧ sfZ f z = -6) ∧ z2 = z) ∨ (((0 ≤ s.toInt ∧ s.toInt ≤ 3) ∧ sfZ f z = -6) ∧ z2 = 0)) (h' : (¬ ((0 ≤ s.toInt ∧ s.toInt ≤ 3) ∧ sfZ mp mz = -6) ∧ mz2 = mz) ∨ (((0 ≤ s.toInt ∧ s.toInt ≤ 3) ∧ sfZ mp mz = -6) ∧ mz2 = 0)) (hz : 0 ≤ z.toInt ∧ z.toInt ≤ 30) (ez : z = mz) (ef : f = mp) : (0 ≤ z2.toInt ∧ z2.toInt ≤ 30) ∧ z2 = mz2 := by
  subst ez ef
  rcases h with ⟨a, rfl⟩ | ⟨a, rfl⟩ <;> rcases h' with ⟨b, rfl⟩ | ⟨b, rfl⟩
  · exact ⟨hz, rfl⟩
  · exact absurd b a
  · exact absurd a b
  · exact ⟨by decide, rfl⟩
/-- which images are kept -/
def RK (kp : Int32) (ik : Nat → Int32) : Prop := (0 ≤ kp.toInt ∧ kp.toInt ≤ 3) ∧ ∀ a : Int32, (0 ≤ a.toInt ∧ a.toInt ≤ 1) → (((kp >>> (a &&& 31)) &&& 1).toInt = 0 ↔ (ik a.toNatClampNeg).toInt = 0)
theorem RK.z : RK 0 (fun _ => 0) := ⟨by decide, fun a ha => ⟨fun _ => t0_, fun _ => by
  obtain ⟨j, hj, rfl⟩ : ∃ j : Nat, j < 2 ∧ a = nI j := ⟨a.toInt.toNat, by omega, nI_self ha.1⟩
  have h9 : ∀ j : Fin 2, (((0 : Int32) >>> (nI j.val &&& 31)) &&& 1).toInt = 0 := by decide
  exact h9 ⟨j, hj⟩⟩⟩
theorem RK.img {kp a kp2 : Int32} {ik ik2 : Nat → Int32} (h : RK kp ik) (hc : ((0 ≤ a.toInt ∧ a.toInt ≤ 1) → kp2 = kp ||| ((1 : Int32) <<< (a &&& 31))) ∧ (¬ (0 ≤ a.toInt ∧ a.toInt ≤ 1) → kp2 = kp)) (hm : ((0 ≤ a.toInt ∧ a.toInt ≤ 1) → ik2 = upd ik (Int32.toNatClampNeg a) 1) ∧ (¬ (0 ≤ a.toInt ∧ a.toInt ≤ 1) → ik2 = ik)) : RK kp2 ik2 := by
  by_cases c : 0 ≤ a.toInt ∧ a.toInt ≤ 1
  · rw [hc.1 c, hm.1 c]
    obtain ⟨i, hi, e1⟩ : ∃ i : Nat, i < 4 ∧ kp = nI i := ⟨kp.toInt.toNat, by have := h.1; omega, nI_self h.1.1⟩
    obtain ⟨j, hj, e2⟩ : ∃ j : Nat, j < 2 ∧ a = nI j := ⟨a.toInt.toNat, by omega, nI_self c.1⟩
    have h8 : ∀ i : Fin 4, ∀ j : Fin 2, 0 ≤ (nI i.val ||| ((1 : Int32) <<< (nI j.val &&& 31))).toInt ∧ (nI i.val ||| ((1 : Int32) <<< (nI j.val &&& 31))).toInt ≤ 3 := by decide
    have h9 : ∀ i : Fin 4, ∀ j k : Fin 2, (((nI i.val ||| ((1 : Int32) <<< (nI j.val &&& 31))) >>> (nI k.val &&& 31)) &&& 1).toInt = if k = j then 1 else ((nI i.val >>> (nI k.val &&& 31)) &&& 1).toInt := by decide
    refine ⟨by rw [e1, e2]; exact h8 ⟨i, hi⟩ ⟨j, hj⟩, fun b hb => ?_⟩
    obtain ⟨k, hk, e3⟩ : ∃ k : Nat, k < 2 ∧ b = nI k := ⟨b.toInt.toNat, by omega, nI_self hb.1⟩
    have h7 := h.2 b hb
    have h6 := h9 ⟨i, hi⟩ ⟨j, hj⟩ ⟨k, hk⟩
    rw [e1, e3] at h7
    rw [e1, e2, e3, upd_eq, nI_clamp (show k < 2 ^ 31 by omega), nI_clamp (show j < 2 ^ 31 by omega)]
    rw [nI_clamp (show k < 2 ^ 31 by omega)] at h7
    by_cases q : k = j
    · subst q
      rw [if_pos rfl] at h6
      rw [if_pos rfl, t1_]
      have h6 : (((nI i ||| ((1 : Int32) <<< (nI k &&& 31))) >>> (nI k &&& 31)) &&& 1).toInt = 1 := h6
      omega
    · rw [if_neg (fun h => q (Fin.mk.inj h))] at h6
      rw [if_neg q, ← h7]
      have h6 : (((nI i ||| ((1 : Int32) <<< (nI j &&& 31))) >>> (nI k &&& 31)) &&& 1).toInt = ((nI i >>> (nI k &&& 31)) &&& 1).toInt := h6
      rw [h6]
  · rw [hc.2 c, hm.2 c]; exact h
theorem res_ok {kp a r mr : Int32} {ik : Nat → Int32} (h : RK kp ik) (hc : (¬ (0 ≤ a.toInt ∧ a.toInt ≤ 1) → r = -2) ∧ ((0 ≤ a.toInt ∧ a.toInt ≤ 1) → ((kp >>> (a &&& 31)) &&& 1).toInt = 0 → r = -3) ∧ ((0 ≤ a.toInt ∧ a.toInt ≤ 1) → ¬ ((kp >>> (a &&& 31)) &&& 1).toInt = 0 → r = 1)) (hm : (¬ (0 ≤ a.toInt ∧ a.toInt ≤ 1) → mr = -2) ∧ ((0 ≤ a.toInt ∧ a.toInt ≤ 1) → (ik (Int32.toNatClampNeg a)).toInt = 0 → mr = -3) ∧ ((0 ≤ a.toInt ∧ a.toInt ≤ 1) → ¬ (ik (Int32.toNatClampNeg a)).toInt = 0 → mr = 1)) : r = mr := by
  by_cases c : 0 ≤ a.toInt ∧ a.toInt ≤ 1
  · have h7 := h.2 a c
    by_cases b : ((kp >>> (a &&& 31)) &&& 1).toInt = 0
    · rw [hc.2.1 c b, hm.2.1 c (h7.mp b)]
    · rw [hc.2.2 c b, hm.2.2 c (fun h => b (h7.mpr h))]
  · rw [hc.1 c, hm.1 c]
theorem stz_ok {s z mz r mr : Int32} {f mp : Nat → Int32} (h : (¬ (0 ≤ s.toInt ∧ s.toInt ≤ 3) → r = -1) ∧ ((0 ≤ s.toInt ∧ s.toInt ≤ 3) → ¬ sfZ f z = -6 → r = -5) ∧ ((0 ≤ s.toInt ∧ s.toInt ≤ 3) → sfZ f z = -6 → r = ctL f z.toInt.toNat)) (h' : (¬ (0 ≤ s.toInt ∧ s.toInt ≤ 3) → mr = -1) ∧ ((0 ≤ s.toInt ∧ s.toInt ≤ 3) → ¬ sfZ mp mz = -6 → mr = -5) ∧ ((0 ≤ s.toInt ∧ s.toInt ≤ 3) → sfZ mp mz = -6 → mr = ctL mp mz.toInt.toNat)) (ez : z = mz) (ef : f = mp) : r = mr := by
  subst ez ef
  by_cases c : 0 ≤ s.toInt ∧ s.toInt ≤ 3
  · by_cases b : sfZ f z = -6
    · rw [h.2.2 c b, h'.2.2 c b]
    · rw [h.2.1 c b, h'.2.1 c b]
  · rw [h.1 c, h'.1 c]
theorem flt_ok {a z mz r mr : Int32} {f mp : Nat → Int32} (h : (a.toInt = 0 → r = sfZ f z) ∧ (a.toInt = 1 → r = rfZ f 97 100 z) ∧ (a.toInt = 2 → r = rfZ f 49 57 z) ∧ (¬ (0 ≤ a.toInt ∧ a.toInt ≤ 2) → r = -2)) (h' : (a.toInt = 0 → mr = sfZ mp mz) ∧ (a.toInt = 1 → mr = rfZ mp 97 100 mz) ∧ (a.toInt = 2 → mr = rfZ mp 49 57 mz) ∧ (¬ (0 ≤ a.toInt ∧ a.toInt ≤ 2) → mr = -2)) (ez : z = mz) (ef : f = mp) : r = mr := by
  subst ez ef
  by_cases c0 : a.toInt = 0
  · rw [h.1 c0, h'.1 c0]
  by_cases c1 : a.toInt = 1
  · rw [h.2.1 c1, h'.2.1 c1]
  by_cases c2 : a.toInt = 2
  · rw [h.2.2.1 c2, h'.2.2.1 c2]
  rw [h.2.2.2 (by omega), h'.2.2.2 (by omega)]
theorem img_ok {a r mr : Int32} (h : ((0 ≤ a.toInt ∧ a.toInt ≤ 1) → r = 1) ∧ (¬ (0 ≤ a.toInt ∧ a.toInt ≤ 1) → r = -2)) (h' : ((0 ≤ a.toInt ∧ a.toInt ≤ 1) → mr = 1) ∧ (¬ (0 ≤ a.toInt ∧ a.toInt ≤ 1) → mr = -2)) : r = mr := by
  by_cases c : 0 ≤ a.toInt ∧ a.toInt ≤ 1
  · rw [h.1 c, h'.1 c]
  · rw [h.2 c, h'.2 c]
theorem WOk.z {f : Nat → Int32} : WOk f 0 := fun j hj => by
  rw [t0_] at hj
  omega
