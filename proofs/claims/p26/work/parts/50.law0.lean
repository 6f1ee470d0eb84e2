/-! THE CLAIM OUT OF ONE WALK OF THE LAW'S BODY. Your part is whole_start (and what it stands on); all else here is the same for every law, but numbers. -/
def R_law : String := "StoryNestLaw"
def lw_P (b : Addr) (xs : List Int32) (args : Array Value) (s : State) : Prop := args = #[.ref b] ∧ s.IntsAt b xs ∧ xs.length ≤ 2560 ∧ (Jvm.Cond.and given_1 narrow_1).before args s = true
def lw_Q (_ : Array Value) (s : State) (o : Outcome) (t : State) : Prop := o = .returned (some (.int 1)) ∧ Framed s o t [] 600000 7302249
def lw_Z (below : List Frame) (a : Array Value) (s : State) : State → Prop := fun t => ∃ o, t.status = .running ∧ Ended t below o ∧ lw_Q a s o t
/-- the law's own end, with 1 on the stack, nothing written that was there before, its room as the claim has it -/
theorem lw_ret {p : Program} {l : Launch} {e : Env} {s : State} {m : MethodId} {below : List Frame} {meth : Method} {c : Code} {b : Nat} (hx : p.tables.exec = Jvm.exec) (hb : c.code = code) (hr : meth.sig.returnType = ret) (hlocks : meth.locks = false) {pc : Nat} {H : Heap} {ls : Array Slot} (hdg : decode code pc = .ok (.ireturn, 1)) : W p l e room_1 s m #[Value.ref b] below meth c H [] 600000 7302249 (lw_Z below #[Value.ref b] s) (F0 m pc ls [.int 1]) := by
  intro T hT X
  obtain ⟨fs, hret, hrun, hended, hW, hframe⟩ := X.leave (v := some (.int 1)) (hlocks := hlocks) (fun h => by rw [hr] at h; cases h)
  have hmeth' : T.vm.method? m = some meth := X.method'
  refine ⟨T.setFrames fs, ?_, .returned (some (.int 1)), hrun, hended, rfl, ⟨_, rfl⟩, hW, hframe⟩
  jvm_step X.here [X.here.top, hx, hb, hdg, hmeth', hr, ret, narrow_b1]
  (try refine ⟨rfl, ?_⟩); (try refine ⟨rfl, ?_⟩)
  first | (intro acts; rw [hret _ acts rfl rfl rfl]) | rw [hret _ _ rfl rfl rfl]
  exact Steps.refl _
/-- what holds at the law's entry: the machine, the code, the tables' words (any of lw_tbl by 'hts w (by decide +kernel)'), the script of L ints xs at the cell b, what the Statement gives of the start (any of its parts by flat_of_before) -/
def lw_At (p : Program) (s : State) (m : MethodId) (meth : Method) (c : Code) (b L : Nat) (xs : Nat → Int32) : Prop :=
  p.tables.exec = Jvm.exec ∧ c.code = code ∧ meth.sig.returnType = ret ∧ c.maxLocals = 4 ∧ s.vm.findClass R_law = some m.cls ∧ (∀ w ∈ lw_tbl, w.before #[Value.ref b] s = true) ∧ va_X b L xs s s.heap ∧ b < s.heap.size ∧ meth.locks = false ∧ (Jvm.Cond.and given_1 narrow_1).before #[Value.ref b] s = true
theorem tn_0 : Cond.fieldLinkNest RX8 42 "StoryNest$Pad" "size" "I" "StoryNest" ∈ lw_tbl := List.mem_append_right _ (List.mem_append_left _ (List.mem_of_getElem? (i := 30) rfl))
theorem tn_1 : Cond.fieldLinkNest RX1 45 "StoryNest$Pad" "size" "I" "StoryNest" ∈ lw_tbl := List.mem_append_right _ (List.mem_append_left _ (List.mem_of_getElem? (i := 31) rfl))
theorem tn_2 : Cond.fieldLinkNest RX0 43 "StoryNest$Pad" "size" "I" "StoryNest" ∈ lw_tbl := List.mem_append_right _ (List.mem_append_left _ (List.mem_of_getElem? (i := 32) rfl))
theorem tn_3 : Cond.fieldLinkNest RX9 230 "StoryNest$Pad" "size" "I" "StoryNest" ∈ lw_tbl := List.mem_append_right _ (List.mem_append_left _ (List.mem_of_getElem? (i := 33) rfl))
theorem tn_4 : Cond.fieldLinkNest RX5 54 "StoryNest$Book" "parts" "[I" "StoryNest" ∈ lw_tbl := List.mem_append_right _ (List.mem_append_left _ (List.mem_of_getElem? (i := 47) rfl))
theorem tn_5 : Cond.fieldLinkNest RX3 32 "StoryNest$Book" "parts" "[I" "StoryNest" ∈ lw_tbl := List.mem_append_right _ (List.mem_append_left _ (List.mem_of_getElem? (i := 48) rfl))
theorem tn_6 : Cond.fieldLinkNest RX9 113 "StoryNest$Book" "parts" "[I" "StoryNest" ∈ lw_tbl := List.mem_append_right _ (List.mem_append_left _ (List.mem_of_getElem? (i := 49) rfl))
theorem tn_7 : Cond.fieldLinkNest RX4 91 "StoryNest$Book" "parts" "[I" "StoryNest" ∈ lw_tbl := List.mem_append_right _ (List.mem_append_left _ (List.mem_of_getElem? (i := 50) rfl))
theorem tn_8 : Cond.fieldLinkNest RX3 41 "StoryNest$Book" "gates" "[I" "StoryNest" ∈ lw_tbl := List.mem_append_right _ (List.mem_append_left _ (List.mem_of_getElem? (i := 53) rfl))
theorem tn_9 : Cond.fieldLinkNest RX9 124 "StoryNest$Book" "gates" "[I" "StoryNest" ∈ lw_tbl := List.mem_append_right _ (List.mem_append_left _ (List.mem_of_getElem? (i := 54) rfl))
theorem tn_10 : Cond.fieldLinkNest RX1 89 "StoryNest$Book" "tellers" "[I" "StoryNest" ∈ lw_tbl := List.mem_append_right _ (List.mem_append_left _ (List.mem_of_getElem? (i := 56) rfl))
theorem tn_11 : Cond.fieldLinkNest RX5 65 "StoryNest$Book" "tellers" "[I" "StoryNest" ∈ lw_tbl := List.mem_append_right _ (List.mem_append_left _ (List.mem_of_getElem? (i := 57) rfl))
theorem tn_12 : Cond.fieldLinkNest RX3 38 "StoryNest$Book" "tellers" "[I" "StoryNest" ∈ lw_tbl := List.mem_append_right _ (List.mem_append_left _ (List.mem_of_getElem? (i := 58) rfl))
theorem tn_13 : Cond.fieldLinkNest RX9 130 "StoryNest$Book" "tellers" "[I" "StoryNest" ∈ lw_tbl := List.mem_append_right _ (List.mem_append_left _ (List.mem_of_getElem? (i := 59) rfl))
theorem tn_14 : Cond.fieldLinkNest RX9 133 "StoryNest$Book" "known" "[I" "StoryNest" ∈ lw_tbl := List.mem_append_right _ (List.mem_append_left _ (List.mem_of_getElem? (i := 61) rfl))
theorem tn_15 : Cond.fieldLinkNest RX9 245 "StoryNest$Book" "waits" "[I" "StoryNest" ∈ lw_tbl := List.mem_append_right _ (List.mem_append_left _ (List.mem_of_getElem? (i := 63) rfl))
theorem tn_16 : Cond.fieldLinkNest RX3 61 "StoryNest$Book" "needs" "[I" "StoryNest" ∈ lw_tbl := List.mem_append_right _ (List.mem_append_left _ (List.mem_of_getElem? (i := 65) rfl))
theorem tn_17 : Cond.fieldLinkNest RX7 19 "StoryNest$Book" "waitCount" "I" "StoryNest" ∈ lw_tbl := List.mem_append_right _ (List.mem_append_left _ (List.mem_of_getElem? (i := 67) rfl))
theorem tn_18 : Cond.fieldLinkNest RX9 139 "StoryNest$Book" "waitCount" "I" "StoryNest" ∈ lw_tbl := List.mem_append_right _ (List.mem_append_left _ (List.mem_of_getElem? (i := 68) rfl))
theorem tn_19 : Cond.fieldLinkNest RX3 44 "StoryNest$Book" "law" "I" "StoryNest" ∈ lw_tbl := List.mem_append_right _ (List.mem_append_left _ (List.mem_of_getElem? (i := 70) rfl))
theorem tn_20 : Cond.fieldLinkNest RX9 149 "StoryNest$Book" "law" "I" "StoryNest" ∈ lw_tbl := List.mem_append_right _ (List.mem_append_left _ (List.mem_of_getElem? (i := 71) rfl))
theorem tn_21 : Cond.fieldLinkNest RX1 93 "StoryNest$Book" "breath" "I" "StoryNest" ∈ lw_tbl := List.mem_append_right _ (List.mem_append_left _ (List.mem_of_getElem? (i := 73) rfl))
theorem tn_22 : Cond.fieldLinkNest RX5 81 "StoryNest$Book" "breath" "I" "StoryNest" ∈ lw_tbl := List.mem_append_right _ (List.mem_append_left _ (List.mem_of_getElem? (i := 74) rfl))
theorem tn_23 : Cond.fieldLinkNest RX9 152 "StoryNest$Book" "breath" "I" "StoryNest" ∈ lw_tbl := List.mem_append_right _ (List.mem_append_left _ (List.mem_of_getElem? (i := 75) rfl))
theorem tn_24 : Cond.fieldLinkNest RX1 78 "StoryNest$Moment" "night" "I" "StoryNest" ∈ lw_tbl := List.mem_append_right _ (List.mem_append_left _ (List.mem_of_getElem? (i := 111) rfl))
theorem tn_25 : Cond.fieldLinkNest RX1 66 "StoryNest$Moment" "open" "I" "StoryNest" ∈ lw_tbl := List.mem_append_right _ (List.mem_append_left _ (List.mem_of_getElem? (i := 113) rfl))
theorem tn_26 : Cond.fieldLinkNest RX9 158 "StoryNest$Evening" "place" "I" "StoryNest" ∈ lw_tbl := List.mem_append_right _ (List.mem_append_left _ (List.mem_of_getElem? (i := 138) rfl))
theorem tn_27 : Cond.fieldLinkNest RX9 161 "StoryNest$Evening" "why" "I" "StoryNest" ∈ lw_tbl := List.mem_append_right _ (List.mem_append_left _ (List.mem_of_getElem? (i := 140) rfl))
theorem tn_28 : Cond.fieldLinkNest RX9 167 "StoryNest$Evening" "open" "I" "StoryNest" ∈ lw_tbl := List.mem_append_right _ (List.mem_append_left _ (List.mem_of_getElem? (i := 142) rfl))
theorem tn_29 : Cond.fieldLinkNest RX9 170 "StoryNest$Evening" "deep" "I" "StoryNest" ∈ lw_tbl := List.mem_append_right _ (List.mem_append_left _ (List.mem_of_getElem? (i := 144) rfl))
theorem tn_30 : Cond.fieldLinkNest RX9 173 "StoryNest$Evening" "minutes" "I" "StoryNest" ∈ lw_tbl := List.mem_append_right _ (List.mem_append_left _ (List.mem_of_getElem? (i := 146) rfl))
theorem tn_31 : Cond.fieldLinkNest RX8 33 "StoryNest$Nights" "nights" "[I" "StoryNest" ∈ lw_tbl := List.mem_append_right _ (List.mem_append_left _ (List.mem_of_getElem? (i := 175) rfl))
theorem tn_32 : Cond.fieldLinkNest RX2 41 "StoryNest$Nights" "nights" "[I" "StoryNest" ∈ lw_tbl := List.mem_append_right _ (List.mem_append_left _ (List.mem_of_getElem? (i := 176) rfl))
theorem tn_33 : Cond.fieldLinkNest RX2 33 "StoryNest$Nights" "worth" "[J" "StoryNest" ∈ lw_tbl := List.mem_append_right _ (List.mem_append_left _ (List.mem_of_getElem? (i := 179) rfl))
theorem tn_34 : Cond.fieldLinkNest RX5 41 "StoryNest$Nights" "worth" "[J" "StoryNest" ∈ lw_tbl := List.mem_append_right _ (List.mem_append_left _ (List.mem_of_getElem? (i := 180) rfl))
theorem tn_35 : Cond.fieldLinkNest RX8 49 "StoryNest$Nights" "worth" "[J" "StoryNest" ∈ lw_tbl := List.mem_append_right _ (List.mem_append_left _ (List.mem_of_getElem? (i := 181) rfl))
theorem tn_36 : Cond.fieldLinkNest RX5 27 "StoryNest$Nights" "size" "I" "StoryNest" ∈ lw_tbl := List.mem_append_right _ (List.mem_append_left _ (List.mem_of_getElem? (i := 184) rfl))
theorem tn_37 : Cond.fieldLinkNest RX2 15 "StoryNest$Nights" "size" "I" "StoryNest" ∈ lw_tbl := List.mem_append_right _ (List.mem_append_left _ (List.mem_of_getElem? (i := 185) rfl))
theorem tn_38 : Cond.fieldLinkNest RX8 29 "StoryNest$Nights" "size" "I" "StoryNest" ∈ lw_tbl := List.mem_append_right _ (List.mem_append_left _ (List.mem_of_getElem? (i := 186) rfl))
theorem tn_39 : Cond.fieldLinkNest RX5 51 "StoryNest$Nights" "set" "I" "StoryNest" ∈ lw_tbl := List.mem_append_right _ (List.mem_append_left _ (List.mem_of_getElem? (i := 189) rfl))
theorem tn_40 : Cond.methodLinkNest RX9 9 yX6_init "StoryNest" ∈ lw_tbl := List.mem_append_right _ (List.mem_append_left _ (List.mem_of_getElem? (i := 24) rfl))
theorem tn_41 : Cond.methodLinkNest RX6 23 yX9_isIn "StoryNest" ∈ lw_tbl := List.mem_append_right _ (List.mem_append_right _ (List.mem_append_left _ (List.mem_of_getElem? (i := 99) rfl)))
theorem tn_42 : Cond.methodLinkNest RX0 56 yX9_isIn "StoryNest" ∈ lw_tbl := List.mem_append_right _ (List.mem_append_right _ (List.mem_append_left _ (List.mem_of_getElem? (i := 151) rfl)))
theorem tn_43 : Cond.methodLinkNest RX1 54 yX9_isStory "StoryNest" ∈ lw_tbl := List.mem_append_right _ (List.mem_append_right _ (List.mem_append_left _ (List.mem_of_getElem? (i := 212) rfl)))
theorem tn_44 : Cond.methodLinkNest RX4 84 yX9_isIn "StoryNest" ∈ lw_tbl := List.mem_append_right _ (List.mem_append_right _ (List.mem_append_right _ (List.mem_append_left _ (List.mem_of_getElem? (i := 74) rfl))))
theorem tn_45 : Cond.methodLinkNest RX5 101 yX9_isIn "StoryNest" ∈ lw_tbl := List.mem_append_right _ (List.mem_append_right _ (List.mem_append_right _ (List.mem_append_left _ (List.mem_of_getElem? (i := 134) rfl))))
theorem tn_46 : Cond.methodLinkNest RX8 68 yX9_isIn "StoryNest" ∈ lw_tbl := List.mem_append_right _ (List.mem_append_right _ (List.mem_append_right _ (List.mem_append_left _ (List.mem_of_getElem? (i := 215) rfl))))
theorem nwl_in : ∀ w ∈ nwl, w ∈ lw_tbl := by
  intro w hw
  simp only [nwl, List.mem_cons, List.not_mem_nil, or_false] at hw
  rcases hw with rfl | rfl | rfl | rfl | rfl | rfl | rfl | rfl | rfl | rfl | rfl | rfl | rfl | rfl | rfl | rfl | rfl | rfl | rfl | rfl | rfl | rfl | rfl | rfl | rfl | rfl | rfl | rfl | rfl | rfl | rfl | rfl | rfl | rfl | rfl | rfl | rfl | rfl | rfl | rfl | rfl | rfl | rfl | rfl | rfl | rfl | rfl
  · exact tn_0
  · exact tn_1
  · exact tn_2
  · exact tn_3
  · exact tn_4
  · exact tn_5
  · exact tn_6
  · exact tn_7
  · exact tn_8
  · exact tn_9
  · exact tn_10
  · exact tn_11
  · exact tn_12
  · exact tn_13
  · exact tn_14
  · exact tn_15
  · exact tn_16
  · exact tn_17
  · exact tn_18
  · exact tn_19
  · exact tn_20
  · exact tn_21
  · exact tn_22
  · exact tn_23
  · exact tn_24
  · exact tn_25
  · exact tn_26
  · exact tn_27
  · exact tn_28
  · exact tn_29
  · exact tn_30
  · exact tn_31
  · exact tn_32
  · exact tn_33
  · exact tn_34
  · exact tn_35
  · exact tn_36
  · exact tn_37
  · exact tn_38
  · exact tn_39
  · exact tn_40
  · exact tn_41
  · exact tn_42
  · exact tn_43
  · exact tn_44
  · exact tn_45
  · exact tn_46
theorem ao_in : Cond.arrayOver (.object "StoryNest$Book") ∈ lw_tbl := List.mem_append_right _ (List.mem_append_left _ (List.mem_of_getElem? (i := 97) rfl))
theorem nwl_tab : ∀ w ∈ nwl, w.onTables = true := by
  intro w hw
  rcases nwl_kind w hw with ⟨a, i, b, n, d, h, rfl⟩ | ⟨a, i, x, h, rfl⟩ <;> rfl
theorem tys_of {s : State} {args : Array Value} (hts : ∀ w ∈ wsL_law, w.before args s = true) (ha : va_AO "StoryNest$Book" s) : ∃ cI cJ cZ cB : ClassId, ∀ (k : Nat) (q : ClassId × FieldType), [(cI, FieldType.int), (cJ, .long), (cZ, .boolean), (cB, .object "StoryNest$Book")][k]? = some q → ArrOfT s q.1 q.2 ∧ va_RA s q.1 q.2 := by
  obtain ⟨cI, kI, mI, fI, gI, hI⟩ := Cond.arrayClass_spec (hts _ wd_49)
  obtain ⟨cJ, kJ, mJ, fJ, gJ, hJ⟩ := Cond.arrayClass_spec (hts _ wd_84)
  obtain ⟨cZ, kZ, mZ, fZ, gZ, hZ⟩ := Cond.arrayClass_spec (hts _ wd_96)
  obtain ⟨comp, cB, kB, f1, f2, f3, f4, f5⟩ := Cond.arrayOver_spec ha
  refine ⟨cI, cJ, cZ, cB, fun k q hk => ?_⟩
  match k, hk with
  | 0, hk => cases hk; exact ⟨fun n z => ⟨fun k h => (by cases h), kI, gI, mI, hI⟩, fI⟩
  | 1, hk => cases hk; exact ⟨fun n z => ⟨fun k h => (by cases h), kJ, gJ, mJ, hJ⟩, fJ⟩
  | 2, hk => cases hk; exact ⟨fun n z => ⟨fun k h => (by cases h), kZ, gZ, mZ, hZ⟩, fZ⟩
  | 3, hk => cases hk; exact ⟨fun n z => ⟨fun k h => (by cases h), kB, f3, comp, f4⟩, kB, comp, f3, f4, f1, f5⟩
  | k + 4, hk => simp at hk
theorem u_all {s : State} {args : Array Value} (hts : ∀ w ∈ wsL_law, w.before args s = true) : ∃ D : va_G, ∀ (k : Nat) (q : vw_C), vwCl[k]? = some q → u_Kn s q.1 q.2.1 q.2.2 (D.1 k) (D.2 k) := by
  obtain ⟨c0, i0, k0⟩ := u_known (C := RX0) (T := TX0) (N := 10) (n := 10) hts inlX0 (hts _ wd_17)
  obtain ⟨c1, i1, k1⟩ := u_known (C := RX1) (T := TX1) (N := 8) (n := 8) hts inlX1 (hts _ wd_23)
  obtain ⟨c2, i2, k2⟩ := u_known (C := RX2) (T := TX2) (N := 1) (n := 1) hts inlX2 (hts _ wd_35)
  obtain ⟨c3, i3, k3⟩ := u_known (C := RX3) (T := TX3) (N := 7) (n := 7) hts inlX3 (hts _ wd_70)
  obtain ⟨c4, i4, k4⟩ := u_known (C := RX4) (T := TX4) (N := 10) (n := 10) hts inlX4 (hts _ wd_27)
  obtain ⟨c5, i5, k5⟩ := u_known (C := RX5) (T := TX5) (N := 4) (n := 4) hts inlX5 (hts _ wd_31)
  obtain ⟨c6, i6, k6⟩ := u_known (C := RX6) (T := TX6) (N := 2) (n := 2) hts inlX6 (hts _ wd_13)
  obtain ⟨c7, i7, k7⟩ := u_known (C := RX7) (T := TX7) (N := 1) (n := 1) hts inlX7 (hts _ wd_43)
  obtain ⟨c8, i8, k8⟩ := u_known (C := RX8) (T := TX8) (N := 4) (n := 4) hts inlX8 (hts _ wd_39)
  obtain ⟨c9, i9, k9⟩ := u_known (C := RX9) (T := TX9) (N := 10) (n := 10) hts inlX9 (hts _ wd_1)
  obtain ⟨c10, i10, k10⟩ := u_known (C := RX10) (T := TX10) (N := 30) (n := 30) hts inlX10 (hts _ wd_4)
  refine ⟨(fun k => if k = 0 then c0 else if k = 1 then c1 else if k = 2 then c2 else if k = 3 then c3 else if k = 4 then c4 else if k = 5 then c5 else if k = 6 then c6 else if k = 7 then c7 else if k = 8 then c8 else if k = 9 then c9 else c10, fun k => if k = 0 then i0 else if k = 1 then i1 else if k = 2 then i2 else if k = 3 then i3 else if k = 4 then i4 else if k = 5 then i5 else if k = 6 then i6 else if k = 7 then i7 else if k = 8 then i8 else if k = 9 then i9 else i10), ?_⟩
  intro k q hq
  match k, hq with
  | 0, hq => cases hq; exact k0
  | 1, hq => cases hq; exact k1
  | 2, hq => cases hq; exact k2
  | 3, hq => cases hq; exact k3
  | 4, hq => cases hq; exact k4
  | 5, hq => cases hq; exact k5
  | 6, hq => cases hq; exact k6
  | 7, hq => cases hq; exact k7
  | 8, hq => cases hq; exact k8
  | 9, hq => cases hq; exact k9
  | 10, hq => cases hq; exact k10
  | k + 11, hq => simp [vwCl] at hq
section XS
variable {X : Cx} {cc : ByteArray} {nL : Nat} {own : String} {rm : Room} {ws : va_W} {lv : List (Nat × Value)} {st : List Value} {pc k n : Nat}
theorem x_sld (C : Ok X cc nL own rm) {b L : Nat} {sc : Nat → Int32} (hX : va_X b L sc (xs X) (xs X).heap) (hbl : b < (xs X).heap.size) (hbA : ¬ xA X b) {i : Int32} (hd : decode cc pc = .ok (.iaload, 1)) (hin : vp_in i L) (kk : V X nL ws lv (.int (sc i.toNatClampNeg) :: st) (pc + 1) k n) : V X nL ws lv (.int i :: .ref b :: st) pc k n :=
  fun H locs ls hP hD hS hl => va_sld C.hx C.hb hX hbl hbA hS hin hd (kk H locs ls hP hD hS hl)
theorem x_slen (C : Ok X cc nL own rm) {b L : Nat} {sc : Nat → Int32} (hX : va_X b L sc (xs X) (xs X).heap) (hbl : b < (xs X).heap.size) (hbA : ¬ xA X b) (hd : decode cc pc = .ok (.arraylength, 1)) (kk : V X nL ws lv (.int (Int32.ofNat L) :: st) (pc + 1) k n) : V X nL ws lv (.ref b :: st) pc k n :=
  fun H locs ls hP hD hS hl => va_slen C.hx C.hb hX hbl hbA hS hd (kk H locs ls hP hD hS hl)
end XS
def SY (x z : Int32) (f : Nat → Int32) (r z2 : Int32) (f2 : Nat → Int32) : Prop := (¬ (33 ≤ x.toInt ∧ x.toInt ≤ 126) ∧ r = -2 ∧ z2 = z ∧ f2 = f) ∨ ((33 ≤ x.toInt ∧ x.toInt ≤ 126) ∧ z.toInt = 30 ∧ r = -4 ∧ z2 = z ∧ f2 = f) ∨ ((33 ≤ x.toInt ∧ x.toInt ≤ 126) ∧ z.toInt < 30 ∧ r = z + 1 ∧ z2 = z + 1 ∧ f2 = upd f z.toNatClampNeg x)
theorem say_ok {x z mz r z2 mr mz2 : Int32} {f mp f2 mp2 : Nat → Int32} (h : SY x z f r z2 f2) (h' : SY x mz mp mr mz2 mp2) (hz : 0 ≤ z.toInt ∧ z.toInt ≤ 30) (ez : z = mz) (ef : f = mp) : (0 ≤ z2.toInt ∧ z2.toInt ≤ 30) ∧ z2 = mz2 ∧ f2 = mp2 ∧ r = mr := by
  subst ez ef
  have := t1_
  unfold SY at h h'
  rcases h with ⟨a, rfl, rfl, rfl⟩ | ⟨a, a1, rfl, rfl, rfl⟩ | ⟨a, a1, rfl, rfl, rfl⟩ <;> rcases h' with ⟨b, rfl, rfl, rfl⟩ | ⟨b, b1, rfl, rfl, rfl⟩ | ⟨b, b1, rfl, rfl, rfl⟩
  · exact ⟨hz, rfl, rfl, rfl⟩
  · exact absurd b a
  · exact absurd b a
  · exact absurd a b
  · exact ⟨hz, rfl, rfl, rfl⟩
  · exfalso; omega
  · exact absurd a b
  · exfalso; omega
  · have := i_add (x := z) (y := 1) (by omega) (by omega)
    exact ⟨by omega, rfl, rfl, rfl⟩
theorem sto_ok {s z mz z2 mz2 : Int32} {f mp : Nat → Int32} (h : (¬ ((0 ≤ s.toInt ∧ s.toInt ≤ 3) ∧ sfZ f z = -6) ∧ z2 = z) ∨ (((0 ≤ s.toInt ∧ s.toInt ≤ 3) ∧ sfZ f z = -6) ∧ z2 = 0)) (h' : (¬ ((0 ≤ s.toInt ∧ s.toInt ≤ 3) ∧ sfZ mp mz = -6) ∧ mz2 = mz) ∨ (((0 ≤ s.toInt ∧ s.toInt ≤ 3) ∧ sfZ mp mz = -6) ∧ mz2 = 0)) (hz : 0 ≤ z.toInt ∧ z.toInt ≤ 30) (ez : z = mz) (ef : f = mp) : (0 ≤ z2.toInt ∧ z2.toInt ≤ 30) ∧ z2 = mz2 := by
  subst ez ef
  rcases h with ⟨a, rfl⟩ | ⟨a, rfl⟩ <;> rcases h' with ⟨b, rfl⟩ | ⟨b, rfl⟩
  · exact ⟨hz, rfl⟩
  · exact absurd b a
  · exact absurd a b
  · exact ⟨by decide, rfl⟩
/-- which images are kept -/
def RK (kp : Int32) (ik : Nat → Int32) : Prop := (0 ≤ kp.toInt ∧ kp.toInt ≤ 3) ∧ ∀ a : Int32, (0 ≤ a.toInt ∧ a.toInt ≤ 1) → (((kp >>> (a &&& 31)) &&& 1).toInt = 0 ↔ (ik a.toNatClampNeg).toInt = 0)
theorem RK.z : RK 0 (fun _ => 0) := ⟨by decide, fun a ha => ⟨fun _ => t0_, fun _ => by
  obtain ⟨j, hj, rfl⟩ : ∃ j : Nat, j < 2 ∧ a = nI j := ⟨a.toInt.toNat, by omega, nI_self ha.1⟩
  have h9 : ∀ j : Fin 2, (((0 : Int32) >>> (nI j.val &&& 31)) &&& 1).toInt = 0 := by decide
  exact h9 ⟨j, hj⟩⟩⟩
theorem RK.img {kp a kp2 : Int32} {ik ik2 : Nat → Int32} (h : RK kp ik) (hc : ((0 ≤ a.toInt ∧ a.toInt ≤ 1) → kp2 = kp ||| ((1 : Int32) <<< (a &&& 31))) ∧ (¬ (0 ≤ a.toInt ∧ a.toInt ≤ 1) → kp2 = kp)) (hm : ((0 ≤ a.toInt ∧ a.toInt ≤ 1) → ik2 = upd ik (Int32.toNatClampNeg a) 1) ∧ (¬ (0 ≤ a.toInt ∧ a.toInt ≤ 1) → ik2 = ik)) : RK kp2 ik2 := by
  by_cases c : 0 ≤ a.toInt ∧ a.toInt ≤ 1
  · rw [hc.1 c, hm.1 c]
    obtain ⟨i, hi, e1⟩ : ∃ i : Nat, i < 4 ∧ kp = nI i := ⟨kp.toInt.toNat, by have := h.1; omega, nI_self h.1.1⟩
    obtain ⟨j, hj, e2⟩ : ∃ j : Nat, j < 2 ∧ a = nI j := ⟨a.toInt.toNat, by omega, nI_self c.1⟩
    have h8 : ∀ i : Fin 4, ∀ j : Fin 2, 0 ≤ (nI i.val ||| ((1 : Int32) <<< (nI j.val &&& 31))).toInt ∧ (nI i.val ||| ((1 : Int32) <<< (nI j.val &&& 31))).toInt ≤ 3 := by decide
    have h9 : ∀ i : Fin 4, ∀ j k : Fin 2, (((nI i.val ||| ((1 : Int32) <<< (nI j.val &&& 31))) >>> (nI k.val &&& 31)) &&& 1).toInt = if k = j then 1 else ((nI i.val >>> (nI k.val &&& 31)) &&& 1).toInt := by decide
    refine ⟨by rw [e1, e2]; exact h8 ⟨i, hi⟩ ⟨j, hj⟩, fun b hb => ?_⟩
    obtain ⟨k, hk, e3⟩ : ∃ k : Nat, k < 2 ∧ b = nI k := ⟨b.toInt.toNat, by omega, nI_self hb.1⟩
    have h7 := h.2 b hb
    have h6 := h9 ⟨i, hi⟩ ⟨j, hj⟩ ⟨k, hk⟩
    rw [e1, e3] at h7
    rw [e1, e2, e3, upd_eq, nI_clamp (show k < 2 ^ 31 by omega), nI_clamp (show j < 2 ^ 31 by omega)]
    rw [nI_clamp (show k < 2 ^ 31 by omega)] at h7
    by_cases q : k = j
    · subst q
      rw [if_pos rfl] at h6
      rw [if_pos rfl, t1_]
      have h6 : (((nI i ||| ((1 : Int32) <<< (nI k &&& 31))) >>> (nI k &&& 31)) &&& 1).toInt = 1 := h6
      omega
    · rw [if_neg (fun h => q (Fin.mk.inj h))] at h6
      rw [if_neg q, ← h7]
      have h6 : (((nI i ||| ((1 : Int32) <<< (nI j &&& 31))) >>> (nI k &&& 31)) &&& 1).toInt = ((nI i >>> (nI k &&& 31)) &&& 1).toInt := h6
      rw [h6]
  · rw [hc.2 c, hm.2 c]; exact h
theorem res_ok {kp a r mr : Int32} {ik : Nat → Int32} (h : RK kp ik) (hc : (¬ (0 ≤ a.toInt ∧ a.toInt ≤ 1) → r = -2) ∧ ((0 ≤ a.toInt ∧ a.toInt ≤ 1) → ((kp >>> (a &&& 31)) &&& 1).toInt = 0 → r = -3) ∧ ((0 ≤ a.toInt ∧ a.toInt ≤ 1) → ¬ ((kp >>> (a &&& 31)) &&& 1).toInt = 0 → r = 1)) (hm : (¬ (0 ≤ a.toInt ∧ a.toInt ≤ 1) → mr = -2) ∧ ((0 ≤ a.toInt ∧ a.toInt ≤ 1) → (ik (Int32.toNatClampNeg a)).toInt = 0 → mr = -3) ∧ ((0 ≤ a.toInt ∧ a.toInt ≤ 1) → ¬ (ik (Int32.toNatClampNeg a)).toInt = 0 → mr = 1)) : r = mr := by
  by_cases c : 0 ≤ a.toInt ∧ a.toInt ≤ 1
  · have h7 := h.2 a c
    by_cases b : ((kp >>> (a &&& 31)) &&& 1).toInt = 0
    · rw [hc.2.1 c b, hm.2.1 c (h7.mp b)]
    · rw [hc.2.2 c b, hm.2.2 c (fun h => b (h7.mpr h))]
  · rw [hc.1 c, hm.1 c]
theorem stz_ok {s z mz r mr : Int32} {f mp : Nat → Int32} (h : (¬ (0 ≤ s.toInt ∧ s.toInt ≤ 3) → r = -1) ∧ ((0 ≤ s.toInt ∧ s.toInt ≤ 3) → ¬ sfZ f z = -6 → r = -5) ∧ ((0 ≤ s.toInt ∧ s.toInt ≤ 3) → sfZ f z = -6 → r = ctL f z.toInt.toNat)) (h' : (¬ (0 ≤ s.toInt ∧ s.toInt ≤ 3) → mr = -1) ∧ ((0 ≤ s.toInt ∧ s.toInt ≤ 3) → ¬ sfZ mp mz = -6 → mr = -5) ∧ ((0 ≤ s.toInt ∧ s.toInt ≤ 3) → sfZ mp mz = -6 → mr = ctL mp mz.toInt.toNat)) (ez : z = mz) (ef : f = mp) : r = mr := by
  subst ez ef
  by_cases c : 0 ≤ s.toInt ∧ s.toInt ≤ 3
  · by_cases b : sfZ f z = -6
    · rw [h.2.2 c b, h'.2.2 c b]
    · rw [h.2.1 c b, h'.2.1 c b]
  · rw [h.1 c, h'.1 c]
theorem flt_ok {a z mz r mr : Int32} {f mp : Nat → Int32} (h : (a.toInt = 0 → r = sfZ f z) ∧ (a.toInt = 1 → r = rfZ f 97 100 z) ∧ (a.toInt = 2 → r = rfZ f 49 57 z) ∧ (¬ (0 ≤ a.toInt ∧ a.toInt ≤ 2) → r = -2)) (h' : (a.toInt = 0 → mr = sfZ mp mz) ∧ (a.toInt = 1 → mr = rfZ mp 97 100 mz) ∧ (a.toInt = 2 → mr = rfZ mp 49 57 mz) ∧ (¬ (0 ≤ a.toInt ∧ a.toInt ≤ 2) → mr = -2)) (ez : z = mz) (ef : f = mp) : r = mr := by
  subst ez ef
  by_cases c0 : a.toInt = 0
  · rw [h.1 c0, h'.1 c0]
  by_cases c1 : a.toInt = 1
  · rw [h.2.1 c1, h'.2.1 c1]
  by_cases c2 : a.toInt = 2
  · rw [h.2.2.1 c2, h'.2.2.1 c2]
  rw [h.2.2.2 (by omega), h'.2.2.2 (by omega)]
/-- kept from omega -/
def Hid (P : Prop) : Prop := P
/-! THE TWO BOOKS -/
def BM (pa mi ga te kn wa : Nat → Int32) (wc la br : Int32) (ma mm mg mt mk wf wp wt : Nat → Int32) (mw ml mb : Int32) : Prop := (EQn 4 pa ma ∧ EQn 16 mi mm ∧ EQn 4 ga mg ∧ EQn 4 te mt ∧ EQn 4 kn mk) ∧ (wc = mw ∧ la = ml ∧ br = mb) ∧ ∀ j : Nat, (j : Int) < mw.toInt → wa j = 100 * wf j + 10 * wp j + wt j
/-- the same of an image, and the row in which the reference keeps it -/
def BK (pa mi ga te kn wa : Nat → Int32) (wc la br : Int32) (kt : Nat → Int32) (b : Nat) : Prop := BM pa mi ga te kn wa wc la br (fun j => kt (b + 3 + 4 * j)) (fun j => kt (b + 19 + 1 * j)) (fun j => kt (b + 4 + 4 * j)) (fun j => kt (b + 5 + 4 * j)) (fun j => kt (b + 6 + 4 * j)) (fun j => kt (b + 35 + 3 * j)) (fun j => kt (b + 36 + 3 * j)) (fun j => kt (b + 37 + 3 * j)) (kt b) (kt (b + 1)) (kt (b + 2))
def IBk (kp a : Int32) (pa mi ga te kn wa : Nat → Int32) (wc la br : Int32) (kt : Nat → Int32) (b : Nat) : Prop := ¬ ((kp >>> (a &&& 31)) &&& 1).toInt = 0 → BK pa mi ga te kn wa wc la br kt b
theorem enc_i {a b c : Int32} (ha : 0 ≤ a.toInt ∧ a.toInt ≤ 3) (hb : 0 ≤ b.toInt ∧ b.toInt ≤ 3) (hc : 0 ≤ c.toInt ∧ c.toInt ≤ 3) : (100 * a + 10 * b + c).toInt = 100 * a.toInt + 10 * b.toInt + c.toInt := by
  have := i_mull (x := 100) (y := a) (d := 100) (by decide) (by omega) (by omega)
  have := i_mull (x := 10) (y := b) (d := 10) (by decide) (by omega) (by omega)
  have := i_add (x := 100 * a) (y := 10 * b) (by omega) (by omega)
  have := i_add (x := 100 * a + 10 * b) (y := c) (by omega) (by omega)
  omega
section BMs
variable {pa mi ga te kn wa : Nat → Int32} {wc la br : Int32} {ma mm mg mt mk wf wp wt : Nat → Int32} {mw ml mb : Int32}
theorem BM.congr {pa' mi' ga' te' kn' wa' : Nat → Int32} {wc' la' br' : Int32} (h : BM pa mi ga te kn wa wc la br ma mm mg mt mk wf wp wt mw ml mb) (he : EQB pa' mi' ga' te' kn' wa' wc' la' br' pa mi ga te kn wa wc la br) (hw : mw.toInt ≤ 6) : BM pa' mi' ga' te' kn' wa' wc' la' br' ma mm mg mt mk wf wp wt mw ml mb := by
  obtain ⟨⟨h1, h2, h3, h4, h5⟩, ⟨h6, h7, h8⟩, h9⟩ := h
  obtain ⟨e1, e2, e3, e4, e5, e6, e7, e8, e9⟩ := he
  exact ⟨⟨fun j hj => (e1 j hj).trans (h1 j hj), fun j hj => (e2 j hj).trans (h2 j hj), fun j hj => (e3 j hj).trans (h3 j hj), fun j hj => (e4 j hj).trans (h4 j hj), fun j hj => (e5 j hj).trans (h5 j hj)⟩, ⟨e7.trans h6, e8.trans h7, e9.trans h8⟩, fun j hj => (e6 j (by omega)).trans (h9 j hj)⟩
theorem BM.right {ma' mm' mg' mt' mk' wf' wp' wt' : Nat → Int32} {mw' ml' mb' : Int32} (h : BM pa mi ga te kn wa wc la br ma mm mg mt mk wf wp wt mw ml mb) (e1 : EQn 4 ma ma') (e2 : EQn 16 mm mm') (e3 : EQn 4 mg mg') (e4 : EQn 4 mt mt') (e5 : EQn 4 mk mk') (e6 : EQn 6 wf wf') (e7 : EQn 6 wp wp') (e8 : EQn 6 wt wt') (e9 : mw = mw') (e10 : ml = ml') (e11 : mb = mb') (hw : mw.toInt ≤ 6) : BM pa mi ga te kn wa wc la br ma' mm' mg' mt' mk' wf' wp' wt' mw' ml' mb' := by
  obtain ⟨⟨h1, h2, h3, h4, h5⟩, ⟨h6, h7, h8⟩, h9⟩ := h
  subst e9 e10 e11
  exact ⟨⟨fun j hj => (h1 j hj).trans (e1 j hj), fun j hj => (h2 j hj).trans (e2 j hj), fun j hj => (h3 j hj).trans (e3 j hj), fun j hj => (h4 j hj).trans (e4 j hj), fun j hj => (h5 j hj).trans (e5 j hj)⟩, ⟨h6, h7, h8⟩, fun j hj => by rw [h9 j hj, e6 j (by omega), e7 j (by omega), e8 j (by omega)]⟩
theorem BM.tel {te2 mt2 : Nat → Int32} (h : BM pa mi ga te kn wa wc la br ma mm mg mt mk wf wp wt mw ml mb) (e : EQn 4 te2 mt2) : BM pa mi ga te2 kn wa wc la br ma mm mg mt2 mk wf wp wt mw ml mb := ⟨⟨h.1.1, h.1.2.1, h.1.2.2.1, e, h.1.2.2.2.2⟩, h.2⟩
theorem BM.kno {kn2 mk2 : Nat → Int32} (h : BM pa mi ga te kn wa wc la br ma mm mg mt mk wf wp wt mw ml mb) (e : EQn 4 kn2 mk2) : BM pa mi ga te kn2 wa wc la br ma mm mg mt mk2 wf wp wt mw ml mb := ⟨⟨h.1.1, h.1.2.1, h.1.2.2.1, h.1.2.2.2.1, e⟩, h.2⟩
theorem BM.se {a b r la2 br2 mr ml2 mb2 : Int32} (h : BM pa mi ga te kn wa wc la br ma mm mg mt mk wf wp wt mw ml mb) (hc : SE a b la br r la2 br2) (hm : SE a b ml mb mr ml2 mb2) : r = mr ∧ BM pa mi ga te kn wa wc la2 br2 ma mm mg mt mk wf wp wt mw ml2 mb2 := by
  obtain ⟨h1, ⟨h6, h7, h8⟩, h9⟩ := h
  subst h7 h8
  have e := hc.eq hm
  exact ⟨e.1, h1, ⟨h6, e.2.1, e.2.2⟩, h9⟩
theorem BM.ab {s x r mr : Int32} (h : BM pa mi ga te kn wa wc la br ma mm mg mt mk wf wp wt mw ml mb) (hc : AB pa mi ga s x r) (hm : AB ma mm mg s x mr) : r = mr := hc.eq h.1.1 h.1.2.1 h.1.2.2.1 hm
theorem BM.wait {s p o r wc2 mr mw2 : Int32} {wa2 wf2 wp2 wt2 : Nat → Int32} (h : BM pa mi ga te kn wa wc la br ma mm mg mt mk wf wp wt mw ml mb) (hmw : 0 ≤ mw.toInt ∧ mw.toInt ≤ 6) (hp : POk ma) (hf : SOk wf) (hq : SOk wp) (ht : SOk wt) (hc : WC pa s p o wc wa (EX (fun y => wa (Int32.toNatClampNeg y) = 100 * s + 10 * p + o) wc) r wc2 wa2) (hm : WM ma s p o mw wf wp wt (EX (fun y => (wf (Int32.toNatClampNeg y)).toInt = s.toInt ∧ (wp (Int32.toNatClampNeg y)).toInt = p.toInt ∧ (wt (Int32.toNatClampNeg y)).toInt = o.toInt) mw) mr mw2 wf2 wp2 wt2) : r = mr ∧ BM pa mi ga te kn wa2 wc2 la br ma mm mg mt mk wf2 wp2 wt2 mw2 ml mb := by
  obtain ⟨h1, ⟨h6, h7, h8⟩, h9⟩ := h
  subst h6
  have hok : ∀ (hs : 0 ≤ s.toInt ∧ s.toInt ≤ 3), pa (Int32.toNatClampNeg s) = ma (Int32.toNatClampNeg s) := fun hs => h1.1 _ (cl3 hs)
  by_cases c : (((0 ≤ s.toInt ∧ s.toInt ≤ 3) ∧ (0 ≤ o.toInt ∧ o.toInt ≤ 3) ∧ ¬ s.toInt = o.toInt) ∧ 0 ≤ p.toInt ∧ p.toInt < (ma (Int32.toNatClampNeg s)).toInt)
  · have c' : (((0 ≤ s.toInt ∧ s.toInt ≤ 3) ∧ (0 ≤ o.toInt ∧ o.toInt ≤ 3) ∧ ¬ s.toInt = o.toInt) ∧ 0 ≤ p.toInt ∧ p.toInt < (pa (Int32.toNatClampNeg s)).toInt) := by rw [hok c.1.1]; exact c
    have hp4 := hp _ (cl3 c.1.1)
    have hE : EX (fun y => wa (Int32.toNatClampNeg y) = 100 * s + 10 * p + o) wc ↔ EX (fun y => (wf (Int32.toNatClampNeg y)).toInt = s.toInt ∧ (wp (Int32.toNatClampNeg y)).toInt = p.toInt ∧ (wt (Int32.toNatClampNeg y)).toInt = o.toInt) wc := by
      have e1 := enc_i (a := s) (b := p) (c := o) c.1.1 (by omega) c.1.2.1
      constructor
      · rintro ⟨y, y0, y1, y2⟩
        have y2 : wa (Int32.toNatClampNeg y) = 100 * s + 10 * p + o := y2
        have hk : Int32.toNatClampNeg y < 6 := by show y.toInt.toNat < 6; omega
        rw [h9 _ (by show (y.toInt.toNat : Int) < _; omega)] at y2
        have e2 := congrArg Int32.toInt y2
        have a1 := hf _ hk
        have a2 := hq _ hk
        have a3 := ht _ hk
        rw [e1, enc_i a1 a2 a3] at e2
        exact ⟨y, y0, y1, by omega, by omega, by omega⟩
      · rintro ⟨y, y0, y1, y2, y3, y4⟩
        refine ⟨y, y0, y1, ?_⟩
        show wa (Int32.toNatClampNeg y) = 100 * s + 10 * p + o
        rw [h9 _ (by show (y.toInt.toNat : Int) < _; omega), i_eq.mpr y2, i_eq.mpr y3, i_eq.mpr y4]
    rcases hc with ⟨b, _⟩ | ⟨_, hc⟩
    · exact absurd c' b
    rcases hm with ⟨b, _⟩ | ⟨_, hm⟩
    · exact absurd c b
    rcases hc with ⟨x, er, ew, ea⟩ | ⟨x, x1, er, ew, ea⟩ | ⟨x, x1, er, ew, ea⟩ <;> rcases hm with ⟨y, fr, fw, f1, f2, f3⟩ | ⟨y, y1, fr, fw, f1, f2, f3⟩ | ⟨y, y1, fr, fw, f1, f2, f3⟩
    · rw [er, ew, ea, fr, fw, f1, f2, f3]; exact ⟨rfl, h1, ⟨rfl, h7, h8⟩, h9⟩
    · exact absurd (hE.mp x) y
    · exact absurd (hE.mp x) y
    · exact absurd (hE.mpr y) x
    · rw [er, ew, ea, fr, fw, f1, f2, f3]; exact ⟨rfl, h1, ⟨rfl, h7, h8⟩, h9⟩
    · exfalso; omega
    · exact absurd (hE.mpr y) x
    · exfalso; omega
    · rw [er, ew, ea, fr, fw, f1, f2, f3]
      refine ⟨rfl, h1, ⟨rfl, h7, h8⟩, fun j hj => ?_⟩
      have := t1_
      have e := i_add (x := wc) (y := 1) (by omega) (by omega)
      rw [upd_eq, upd_eq, upd_eq, upd_eq]
      by_cases q : j = Int32.toNatClampNeg wc
      · rw [if_pos q, if_pos q, if_pos q, if_pos q]
      · have : ¬ j = wc.toInt.toNat := q
        rw [if_neg q, if_neg q, if_neg q, if_neg q]
        exact h9 j (by omega)
  · have c' : ¬ (((0 ≤ s.toInt ∧ s.toInt ≤ 3) ∧ (0 ≤ o.toInt ∧ o.toInt ≤ 3) ∧ ¬ s.toInt = o.toInt) ∧ 0 ≤ p.toInt ∧ p.toInt < (pa (Int32.toNatClampNeg s)).toInt) := fun q => c (by rw [← hok q.1.1]; exact q)
    rcases hc with ⟨_, er, ew, ea⟩ | ⟨b, _⟩
    · rcases hm with ⟨_, fr, fw, f1, f2, f3⟩ | ⟨b, _⟩
      · rw [er, ew, ea, fr, fw, f1, f2, f3]; exact ⟨rfl, h1, ⟨rfl, h7, h8⟩, h9⟩
      · exact absurd b c
    · exact absurd b c'
theorem BM.drop {a r wc2 mr mw2 : Int32} {wa2 wf2 wp2 wt2 : Nat → Int32} (h : BM pa mi ga te kn wa wc la br ma mm mg mt mk wf wp wt mw ml mb) (hmw : 0 ≤ mw.toInt ∧ mw.toInt ≤ 6) (hc : DR a wc wa r wc2 wa2) (hf : DR a mw wf mr mw2 wf2) (hp : DR a mw wp mr mw2 wp2) (ht : DR a mw wt mr mw2 wt2) : r = mr ∧ BM pa mi ga te kn wa2 wc2 la br ma mm mg mt mk wf2 wp2 wt2 mw2 ml mb := by
  obtain ⟨h1, ⟨h6, h7, h8⟩, h9⟩ := h
  subst h6
  rcases hc with ⟨x, er, ew, ea⟩ | ⟨x, rfl, rfl, hs⟩
  · rcases hf with ⟨_, fr, fw, f1⟩ | ⟨y, _⟩
    · rcases hp with ⟨_, _, _, f2⟩ | ⟨y, _⟩
      · rcases ht with ⟨_, _, _, f3⟩ | ⟨y, _⟩
        · rw [er, ew, ea, fr, fw, f1, f2, f3]; exact ⟨rfl, h1, ⟨rfl, h7, h8⟩, h9⟩
        · exact absurd y x
      · exact absurd y x
    · exact absurd y x
  · rcases hf with ⟨y, _⟩ | ⟨_, rfl, rfl, s1⟩
    · exact absurd x y
    rcases hp with ⟨y, _⟩ | ⟨_, _, _, s2⟩
    · exact absurd x y
    rcases ht with ⟨y, _⟩ | ⟨_, _, _, s3⟩
    · exact absurd x y
    have := t1_
    have e := i_sub (x := wc) (y := 1) (by omega) (by omega)
    refine ⟨rfl, h1, ⟨rfl, h7, h8⟩, fun j hj => ?_⟩
    rw [hs j hj, s1 j hj, s2 j hj, s3 j hj]
    refine h9 _ ?_
    by_cases c : (j : Int) < a.toInt
    · rw [if_pos c]; omega
    · rw [if_neg c]; omega
/-- by which waits go with parts of a story -/
theorem BM.flt {s c : Int32} {wc2 mw2 : Int32} {wa2 wf2 wp2 wt2 : Nat → Int32} (h : BM pa mi ga te kn wa wc la br ma mm mg mt mk wf wp wt mw ml mb) (hmw : 0 ≤ mw.toInt ∧ mw.toInt ≤ 6) (hf : SOk wf) (hq : SOk wp) (ht : SOk wt) (fc : FL (wk wa s c) wc wa wc2 wa2) (f1 : FL (mkK wf wp s c) mw wf mw2 wf2) (f2 : FL (mkK wf wp s c) mw wp mw2 wp2) (f3 : FL (mkK wf wp s c) mw wt mw2 wt2) : wc2 = mw2 ∧ ∀ j : Nat, (j : Int) < mw2.toInt → wa2 j = 100 * wf2 j + 10 * wp2 j + wt2 j := by
  obtain ⟨h1, ⟨h6, h7, h8⟩, h9⟩ := h
  subst h6
  have hK : ∀ j : Nat, (j : Int) < wc.toInt → wk wa s c j = mkK wf wp s c j := fun j hj => by
    unfold wk mkK
    have e := enc_i (hf j (by omega)) (hq j (by omega)) (ht j (by omega))
    have a1 := hf j (by omega)
    have a2 := hq j (by omega)
    have a3 := ht j (by omega)
    rw [h9 j hj, e, show (100 * (wf j).toInt + 10 * (wp j).toInt + (wt j).toInt) / 100 = (wf j).toInt by omega, show (100 * (wf j).toInt + 10 * (wp j).toInt + (wt j).toInt) / 10 % 10 = (wp j).toInt by omega]
  have hk : ∀ n : Nat, (n : Int) ≤ wc.toInt → kc (wk wa s c) n = kc (mkK wf wp s c) n := fun n hn => kc_congr n fun j hj => hK j (by omega)
  refine ⟨i_eq.mpr (by rw [fc.1, f1.1, hk _ (by omega)]), fun i hi => ?_⟩
  rw [f1.1] at hi
  obtain ⟨j, j1, j2, j3⟩ := kc_ex (K := mkK wf wp s c) (i := i) wc.toInt.toNat (by omega)
  have b1 := f1.2 j (by omega) j2
  have b2 := f2.2 j (by omega) j2
  have b3 := f3.2 j (by omega) j2
  have b0 := fc.2 j (by omega) (by rw [hK j (by omega)]; exact j2)
  rw [hk j (by omega)] at b0
  rw [j3] at b0 b1 b2 b3
  rw [b0, b1, b2, b3]
  exact h9 j (by omega)
end BMs
section BM2
variable {pa mi ga te kn wa : Nat → Int32} {wc la br : Int32} {ma mm mg mt mk wf wp wt : Nat → Int32} {mw ml mb : Int32}
theorem BM.story {s z mz wc2 mw2 : Int32} {f mp pa2 mi2 ga2 wa2 ma2 mm2 mg2 wf2 wp2 wt2 : Nat → Int32} (h : BM pa mi ga te kn wa wc la br ma mm mg mt mk wf wp wt mw ml mb) (hmw : 0 ≤ mw.toInt ∧ mw.toInt ≤ 6) (hf : SOk wf) (hq : SOk wp) (ht : SOk wt) (ez : z = mz) (ef : f = mp)
    (hc : (¬ ((0 ≤ s.toInt ∧ s.toInt ≤ 3) ∧ sfZ f z = -6) → pa2 = pa ∧ mi2 = mi ∧ ga2 = ga ∧ wa2 = wa ∧ wc2 = wc) ∧ (((0 ≤ s.toInt ∧ s.toInt ≤ 3) ∧ sfZ f z = -6) → pa2 = upd pa (Int32.toNatClampNeg s) (ctL f z.toInt.toNat) ∧ mi2 = wrM f (4 * s.toInt).toNat mi z.toInt.toNat ∧ ga2 = upd ga (Int32.toNatClampNeg s) (wrB f z.toInt.toNat) ∧ FL (wk wa s (ctL f z.toInt.toNat)) wc wa wc2 wa2))
    (hm : (¬ ((0 ≤ s.toInt ∧ s.toInt ≤ 3) ∧ sfZ mp mz = -6) → ma2 = ma ∧ mm2 = mm ∧ mg2 = mg ∧ wf2 = wf ∧ wp2 = wp ∧ wt2 = wt ∧ mw2 = mw) ∧ (((0 ≤ s.toInt ∧ s.toInt ≤ 3) ∧ sfZ mp mz = -6) → (∀ j : Nat, ma2 j = upd ma (Int32.toNatClampNeg s) (ctL mp mz.toInt.toNat) j) ∧ mm2 = wrM mp (4 * s.toInt).toNat mm mz.toInt.toNat ∧ (∀ j : Nat, mg2 j = upd mg (Int32.toNatClampNeg s) (wrB mp mz.toInt.toNat) j) ∧ FL (mkK wf wp s (ctL mp mz.toInt.toNat)) mw wf mw2 wf2 ∧ FL (mkK wf wp s (ctL mp mz.toInt.toNat)) mw wp mw2 wp2 ∧ FL (mkK wf wp s (ctL mp mz.toInt.toNat)) mw wt mw2 wt2)) :
    BM pa2 mi2 ga2 te kn wa2 wc2 la br ma2 mm2 mg2 mt mk wf2 wp2 wt2 mw2 ml mb := by
  subst ez ef
  by_cases c : (0 ≤ s.toInt ∧ s.toInt ≤ 3) ∧ sfZ f z = -6
  · obtain ⟨rfl, rfl, rfl, fc⟩ := hc.2 c
    obtain ⟨m1, rfl, m3, f1, f2, f3⟩ := hm.2 c
    have e := h.flt hmw hf hq ht fc f1 f2 f3
    obtain ⟨⟨h1, h2, h3, h4, h5⟩, ⟨h6, h7, h8⟩, h9⟩ := h
    exact ⟨⟨fun j hj => by rw [m1 j]; exact EQn.upd h1 j hj, wrM_congr h2 _, fun j hj => by rw [m3 j]; exact EQn.upd h3 j hj, h4, h5⟩, ⟨e.1, h7, h8⟩, e.2⟩
  · obtain ⟨rfl, rfl, rfl, rfl, rfl⟩ := hc.1 c
    obtain ⟨rfl, rfl, rfl, rfl, rfl, rfl, rfl⟩ := hm.1 c
    exact h
theorem BK.new {pa' mi' ga' te' kn' wa' kt : Nat → Int32} {wc' la' br' : Int32} {b : Nat} (h : BM pa mi ga te kn wa wc la br ma mm mg mt mk wf wp wt mw ml mb) (he : EQB pa' mi' ga' te' kn' wa' wc' la' br' pa mi ga te kn wa wc la br) (hw : mw.toInt ≤ 6) : BK pa' mi' ga' te' kn' wa' wc' la' br' (kw kt b (fo ma mm mg mt mk wf wp wt mw ml mb) 53) b := by
  have k : ∀ o : Nat, o < 53 → kw kt b (fo ma mm mg mt mk wf wp wt mw ml mb) 53 (b + o) = fo ma mm mg mt mk wf wp wt mw ml mb o := fun o ho => kw_in ho
  refine (h.congr he hw).right (fun j hj => ?_) (fun j hj => ?_) (fun j hj => ?_) (fun j hj => ?_) (fun j hj => ?_) (fun j hj => ?_) (fun j hj => ?_) (fun j hj => ?_) ?_ ?_ ?_ hw
  · show _ = kw kt b _ 53 (b + 3 + 4 * j); rw [Nat.add_assoc, k (3 + 4 * j) (by omega), fo_ma hj]
  · show _ = kw kt b _ 53 (b + 19 + 1 * j); rw [Nat.add_assoc, Nat.one_mul, k (19 + j) (by omega), fo_mm hj]
  · show _ = kw kt b _ 53 (b + 4 + 4 * j); rw [Nat.add_assoc, k (4 + 4 * j) (by omega), fo_mg hj]
  · show _ = kw kt b _ 53 (b + 5 + 4 * j); rw [Nat.add_assoc, k (5 + 4 * j) (by omega), fo_mt hj]
  · show _ = kw kt b _ 53 (b + 6 + 4 * j); rw [Nat.add_assoc, k (6 + 4 * j) (by omega), fo_mk hj]
  · show _ = kw kt b _ 53 (b + 35 + 3 * j); rw [Nat.add_assoc, k (35 + 3 * j) (by omega), fo_wf hj]
  · show _ = kw kt b _ 53 (b + 36 + 3 * j); rw [Nat.add_assoc, k (36 + 3 * j) (by omega), fo_wp hj]
  · show _ = kw kt b _ 53 (b + 37 + 3 * j); rw [Nat.add_assoc, k (37 + 3 * j) (by omega), fo_wt hj]
  · exact (k 0 (by omega)).symm
  · exact (k 1 (by omega)).symm
  · exact (k 2 (by omega)).symm
theorem BK.old {pa' mi' ga' te' kn' wa' kt kt2 : Nat → Int32} {wc' la' br' : Int32} {b : Nat} (h : BK pa mi ga te kn wa wc la br kt b) (he : EQB pa' mi' ga' te' kn' wa' wc' la' br' pa mi ga te kn wa wc la br) (hw : (kt b).toInt ≤ 6) (hk : ∀ o : Nat, o < 53 → kt2 (b + o) = kt (b + o)) : BK pa' mi' ga' te' kn' wa' wc' la' br' kt2 b := by
  have h' : BM pa mi ga te kn wa wc la br _ _ _ _ _ _ _ _ _ _ _ := h
  refine (h'.congr he hw).right (fun j hj => ?_) (fun j hj => ?_) (fun j hj => ?_) (fun j hj => ?_) (fun j hj => ?_) (fun j hj => ?_) (fun j hj => ?_) (fun j hj => ?_) ?_ ?_ ?_ hw
  · show kt (b + 3 + 4 * j) = kt2 (b + 3 + 4 * j); rw [Nat.add_assoc, hk (3 + 4 * j) (by omega)]
  · show kt (b + 19 + 1 * j) = kt2 (b + 19 + 1 * j); rw [Nat.add_assoc, hk (19 + 1 * j) (by omega)]
  · show kt (b + 4 + 4 * j) = kt2 (b + 4 + 4 * j); rw [Nat.add_assoc, hk (4 + 4 * j) (by omega)]
  · show kt (b + 5 + 4 * j) = kt2 (b + 5 + 4 * j); rw [Nat.add_assoc, hk (5 + 4 * j) (by omega)]
  · show kt (b + 6 + 4 * j) = kt2 (b + 6 + 4 * j); rw [Nat.add_assoc, hk (6 + 4 * j) (by omega)]
  · show kt (b + 35 + 3 * j) = kt2 (b + 35 + 3 * j); rw [Nat.add_assoc, hk (35 + 3 * j) (by omega)]
  · show kt (b + 36 + 3 * j) = kt2 (b + 36 + 3 * j); rw [Nat.add_assoc, hk (36 + 3 * j) (by omega)]
  · show kt (b + 37 + 3 * j) = kt2 (b + 37 + 3 * j); rw [Nat.add_assoc, hk (37 + 3 * j) (by omega)]
  · exact (hk 0 (by omega)).symm
  · exact (hk 1 (by omega)).symm
  · exact (hk 2 (by omega)).symm
theorem BK.out {ma2 mm2 mg2 mt2 mk2 wf2 wp2 wt2 kt : Nat → Int32} {mw2 ml2 mb2 : Int32} {b : Nat} (h : BK pa mi ga te kn wa wc la br kt b) (hw : (kt b).toInt ≤ 6) (v : VW kt (b + 3) 4 ma2 4 ∧ VW kt (b + 4) 4 mg2 4 ∧ VW kt (b + 5) 4 mt2 4 ∧ VW kt (b + 6) 4 mk2 4 ∧ VW kt (b + 19) 1 mm2 16 ∧ VW kt (b + 35) 3 wf2 6 ∧ VW kt (b + 36) 3 wp2 6 ∧ VW kt (b + 37) 3 wt2 6 ∧ mw2 = kt b ∧ ml2 = kt (b + 1) ∧ mb2 = kt (b + 2)) : BM pa mi ga te kn wa wc la br ma2 mm2 mg2 mt2 mk2 wf2 wp2 wt2 mw2 ml2 mb2 := by
  have h' : BM pa mi ga te kn wa wc la br _ _ _ _ _ _ _ _ _ _ _ := h
  obtain ⟨v1, v2, v3, v4, v5, v6, v7, v8, v9, v10, v11⟩ := v
  exact h'.right (fun j hj => (v1 j (by omega)).symm) (fun j hj => (v5 j (by omega)).symm) (fun j hj => (v2 j (by omega)).symm) (fun j hj => (v3 j (by omega)).symm) (fun j hj => (v4 j (by omega)).symm) (fun j hj => (v6 j (by omega)).symm) (fun j hj => (v7 j (by omega)).symm) (fun j hj => (v8 j (by omega)).symm) v9.symm v10.symm v11.symm hw
end BM2
theorem kp_bit {kp a b : Int32} (hk : 0 ≤ kp.toInt ∧ kp.toInt ≤ 3) (ha : 0 ≤ a.toInt ∧ a.toInt ≤ 1) (hb : 0 ≤ b.toInt ∧ b.toInt ≤ 1) (hn : ¬ b.toInt = a.toInt) : (((kp ||| ((1 : Int32) <<< (a &&& 31))) >>> (b &&& 31)) &&& 1).toInt = ((kp >>> (b &&& 31)) &&& 1).toInt := by
  obtain ⟨i, hi, e1⟩ : ∃ i : Nat, i < 4 ∧ kp = nI i := ⟨kp.toInt.toNat, by omega, nI_self hk.1⟩
  obtain ⟨j, hj, e2⟩ : ∃ j : Nat, j < 2 ∧ a = nI j := ⟨a.toInt.toNat, by omega, nI_self ha.1⟩
  obtain ⟨k, hk2, e3⟩ : ∃ k : Nat, k < 2 ∧ b = nI k := ⟨b.toInt.toNat, by omega, nI_self hb.1⟩
  have h9 : ∀ i : Fin 4, ∀ j k : Fin 2, ¬ k = j → (((nI i.val ||| ((1 : Int32) <<< (nI j.val &&& 31))) >>> (nI k.val &&& 31)) &&& 1).toInt = ((nI i.val >>> (nI k.val &&& 31)) &&& 1).toInt := by decide
  have q : ¬ k = j := fun h => hn (by rw [e2, e3, h])
  rw [e1, e2, e3]
  exact h9 ⟨i, hi⟩ ⟨j, hj⟩ ⟨k, hk2⟩ (fun h => q (Fin.mk.inj h))
/-- an image, when one is kept -/
theorem IBk.img {kp a kp2 n : Int32} {b : Nat} {pa mi ga te kn wa pi mii gi ti ki wi pj mj gj tj kj wj ma mm mg mt mk wf wp wt kt kt2 : Nat → Int32} {wc la br wci lai bri wcj laj brj mw ml mb : Int32} (hn : (n.toInt = 0 ∧ b = 0) ∨ (n.toInt = 1 ∧ b = 60)) (h : IBk kp n pi mii gi ti ki wi wci lai bri kt b) (hkp : 0 ≤ kp.toInt ∧ kp.toInt ≤ 3) (hK : KOk kt) (bm : BM pa mi ga te kn wa wc la br ma mm mg mt mk wf wp wt mw ml mb) (hw : mw.toInt ≤ 6)
    (hc : ((0 ≤ a.toInt ∧ a.toInt ≤ 1) → kp2 = kp ||| ((1 : Int32) <<< (a &&& 31))) ∧ (¬ (0 ≤ a.toInt ∧ a.toInt ≤ 1) → kp2 = kp)) (h1 : a.toInt = n.toInt → EQB pj mj gj tj kj wj wcj laj brj pa mi ga te kn wa wc la br) (h2 : ¬ a.toInt = n.toInt → EQB pj mj gj tj kj wj wcj laj brj pi mii gi ti ki wi wci lai bri) (k1 : (0 ≤ a.toInt ∧ a.toInt ≤ 1) → kt2 = kw kt (60 * a.toInt).toNat (fo ma mm mg mt mk wf wp wt mw ml mb) 53) (k2 : ¬ (0 ≤ a.toInt ∧ a.toInt ≤ 1) → kt2 = kt) : IBk kp2 n pj mj gj tj kj wj wcj laj brj kt2 b := by
  intro hb
  have hk6 : (kt b).toInt ≤ 6 := by
    rcases hn with ⟨_, e⟩ | ⟨_, e⟩
    · rw [e]; exact ((hK 0 0 (by omega) (by omega)).1 rfl).2
    · rw [e]; exact ((hK 1 0 (by omega) (by omega)).1 rfl).2
  by_cases c : a.toInt = n.toInt
  · have ca : 0 ≤ a.toInt ∧ a.toInt ≤ 1 := by omega
    rw [k1 ca, show (60 * a.toInt).toNat = b by omega]
    exact BK.new bm (h1 c) hw
  · by_cases ca : 0 ≤ a.toInt ∧ a.toInt ≤ 1
    · rw [hc.1 ca, kp_bit hkp ca (by omega) (by omega)] at hb
      rw [k1 ca]
      exact (h hb).old (h2 c) hk6 fun o ho => kw_out (by omega)
    · rw [hc.2 ca] at hb
      rw [k2 ca]
      exact (h hb).old (h2 c) hk6 fun o ho => rfl
theorem IBk.z {n : Int32} {b : Nat} {pi mii gi ti ki wi kt : Nat → Int32} {wci lai bri : Int32} (hn : 0 ≤ n.toInt ∧ n.toInt ≤ 1) : IBk 0 n pi mii gi ti ki wi wci lai bri kt b := fun h => by
  obtain ⟨j, hj, e⟩ : ∃ j : Nat, j < 2 ∧ n = nI j := ⟨n.toInt.toNat, by omega, nI_self hn.1⟩
  have h9 : ∀ j : Fin 2, (((0 : Int32) >>> (nI j.val &&& 31)) &&& 1).toInt = 0 := by decide
  rw [e] at h
  exact absurd (h9 ⟨j, hj⟩) h
theorem img_kok {a : Int32} {ma mm mg mt mk wf wp wt kt kt2 : Nat → Int32} {mw ml mb : Int32} (h : KOk kt) (hmw : 0 ≤ mw.toInt ∧ mw.toInt ≤ 6) (hpa : POk ma) (hte : TOk mt) (hmm : MOk mm) (hwf : SOk wf) (hwp : SOk wp) (hwt : SOk wt) (k1 : (0 ≤ a.toInt ∧ a.toInt ≤ 1) → kt2 = kw kt (60 * a.toInt).toNat (fo ma mm mg mt mk wf wp wt mw ml mb) 53) (k2 : ¬ (0 ≤ a.toInt ∧ a.toInt ≤ 1) → kt2 = kt) : KOk kt2 := by
  by_cases c : 0 ≤ a.toInt ∧ a.toInt ≤ 1
  · rw [k1 c]
    exact KOk.kw h (by omega) fun o ho => fo_ok hmw hpa hte hmm hwf hwp hwt ho
  · rw [k2 c]; exact h
theorem vw_ok {kt ma2 mg2 mt2 mk2 mm2 wf2 wp2 wt2 : Nat → Int32} {mw2 ml2 mb2 : Int32} {b : Nat} (h : KOk kt) (hb : b = 0 ∨ b = 60) (v : VW kt (b + 3) 4 ma2 4 ∧ VW kt (b + 4) 4 mg2 4 ∧ VW kt (b + 5) 4 mt2 4 ∧ VW kt (b + 6) 4 mk2 4 ∧ VW kt (b + 19) 1 mm2 16 ∧ VW kt (b + 35) 3 wf2 6 ∧ VW kt (b + 36) 3 wp2 6 ∧ VW kt (b + 37) 3 wt2 6 ∧ mw2 = kt b ∧ ml2 = kt (b + 1) ∧ mb2 = kt (b + 2)) : (0 ≤ mw2.toInt ∧ mw2.toInt ≤ 6) ∧ POk ma2 ∧ TOk mt2 ∧ MOk mm2 ∧ SOk wf2 ∧ SOk wp2 ∧ SOk wt2 := by
  obtain ⟨v1, v2, v3, v4, v5, v6, v7, v8, v9, v10, v11⟩ := v
  obtain ⟨m, hm, e⟩ : ∃ m : Nat, m < 2 ∧ b = 60 * m := by
    rcases hb with e | e
    · exact ⟨0, by omega, by omega⟩
    · exact ⟨1, by omega, by omega⟩
  have k : ∀ o : Nat, o < 53 → okv o (kt (b + o)) := fun o ho => by rw [e]; exact h m o hm ho
  refine ⟨by rw [v9]; exact (k 0 (by omega)).1 rfl, fun j hj => ?_, fun j hj => ?_, fun j hj => ?_, fun j hj => ?_, fun j hj => ?_, fun j hj => ?_⟩
  · rw [v1 j (by omega), Nat.add_assoc]; exact (k (3 + 4 * j) (by omega)).2.1 (by omega)
  · rw [v3 j (by omega), Nat.add_assoc]; exact (k (5 + 4 * j) (by omega)).2.2.1 (by omega)
  · rw [v5 j (by omega), Nat.add_assoc, Nat.one_mul]; exact (k (19 + j) (by omega)).2.2.2.1 (by omega)
  · rw [v6 j (by omega), Nat.add_assoc]; exact (k (35 + 3 * j) (by omega)).2.2.2.2 (by omega)
  · rw [v7 j (by omega), Nat.add_assoc]; exact (k (36 + 3 * j) (by omega)).2.2.2.2 (by omega)
  · rw [v8 j (by omega), Nat.add_assoc]; exact (k (37 + 3 * j) (by omega)).2.2.2.2 (by omega)
theorem img_l {a : Int32} {P Q R S : Prop} (h0 : a.toInt = 0 → P ∧ Q) (h1 : a.toInt = 1 → R ∧ S) (h2 : ¬ (0 ≤ a.toInt ∧ a.toInt ≤ 1) → S ∧ Q) : (¬ a.toInt = 0 → S) ∧ (¬ a.toInt = 1 → Q) := by
  refine ⟨fun c => ?_, fun c => ?_⟩
  · by_cases c1 : a.toInt = 1
    · exact (h1 c1).2
    · exact (h2 (by omega)).1
  · by_cases c1 : a.toInt = 0
    · exact (h0 c1).2
    · exact (h2 (by omega)).2
theorem res_bm {kp a : Int32} {ik pa mi ga te kn wa p2 m2 g2 t2 k2 w2 p3 m3 g3 t3 k3 w3 p4 m4 g4 t4 k4 w4 ma mm mg mt mk wf wp wt kt ma2 mm2 mg2 mt2 mk2 wf2 wp2 wt2 : Nat → Int32} {wc la br wc2 la2 br2 wc3 la3 br3 wc4 la4 br4 mw ml mb mw2 ml2 mb2 : Int32} (rk : RK kp ik) (hK : KOk kt) (bm : BM pa mi ga te kn wa wc la br ma mm mg mt mk wf wp wt mw ml mb) (ib0 : IBk kp 0 p2 m2 g2 t2 k2 w2 wc2 la2 br2 kt 0) (ib1 : IBk kp 1 p3 m3 g3 t3 k3 w3 wc3 la3 br3 kt 60) (hmw : 0 ≤ mw.toInt ∧ mw.toInt ≤ 6) (hpa : POk ma) (hte : TOk mt) (hmm : MOk mm) (hwf : SOk wf) (hwp : SOk wp) (hwt : SOk wt)
    (c0 : a.toInt = 0 → ¬ ((kp >>> (a &&& 31)) &&& 1).toInt = 0 → EQB p4 m4 g4 t4 k4 w4 wc4 la4 br4 p2 m2 g2 t2 k2 w2 wc2 la2 br2) (c1 : a.toInt = 1 → ¬ ((kp >>> (a &&& 31)) &&& 1).toInt = 0 → EQB p4 m4 g4 t4 k4 w4 wc4 la4 br4 p3 m3 g3 t3 k3 w3 wc3 la3 br3) (c2 : ¬ ((0 ≤ a.toInt ∧ a.toInt ≤ 1) ∧ ¬ ((kp >>> (a &&& 31)) &&& 1).toInt = 0) → EQB p4 m4 g4 t4 k4 w4 wc4 la4 br4 pa mi ga te kn wa wc la br)
    (q1 : ((0 ≤ a.toInt ∧ a.toInt ≤ 1) ∧ ¬ (ik (Int32.toNatClampNeg a)).toInt = 0) → VW kt ((60 * a.toInt).toNat + 3) 4 ma2 4 ∧ VW kt ((60 * a.toInt).toNat + 4) 4 mg2 4 ∧ VW kt ((60 * a.toInt).toNat + 5) 4 mt2 4 ∧ VW kt ((60 * a.toInt).toNat + 6) 4 mk2 4 ∧ VW kt ((60 * a.toInt).toNat + 19) 1 mm2 16 ∧ VW kt ((60 * a.toInt).toNat + 35) 3 wf2 6 ∧ VW kt ((60 * a.toInt).toNat + 36) 3 wp2 6 ∧ VW kt ((60 * a.toInt).toNat + 37) 3 wt2 6 ∧ mw2 = kt (60 * a.toInt).toNat ∧ ml2 = kt ((60 * a.toInt).toNat + 1) ∧ mb2 = kt ((60 * a.toInt).toNat + 2))
    (q2 : ¬ ((0 ≤ a.toInt ∧ a.toInt ≤ 1) ∧ ¬ (ik (Int32.toNatClampNeg a)).toInt = 0) → ma2 = ma ∧ mg2 = mg ∧ mt2 = mt ∧ mk2 = mk ∧ mm2 = mm ∧ wf2 = wf ∧ wp2 = wp ∧ wt2 = wt ∧ mw2 = mw ∧ ml2 = ml ∧ mb2 = mb) :
    ((0 ≤ mw2.toInt ∧ mw2.toInt ≤ 6) ∧ POk ma2 ∧ TOk mt2 ∧ MOk mm2 ∧ SOk wf2 ∧ SOk wp2 ∧ SOk wt2) ∧ BM p4 m4 g4 t4 k4 w4 wc4 la4 br4 ma2 mm2 mg2 mt2 mk2 wf2 wp2 wt2 mw2 ml2 mb2 := by
  by_cases c : (0 ≤ a.toInt ∧ a.toInt ≤ 1) ∧ ¬ ((kp >>> (a &&& 31)) &&& 1).toInt = 0
  · have v := q1 ⟨c.1, fun h => c.2 ((rk.2 a c.1).mpr h)⟩
    refine ⟨vw_ok hK (by omega) v, ?_⟩
    rcases (show a.toInt = 0 ∨ a.toInt = 1 by omega) with e | e
    · have ea : a = 0 := i_eq.mpr (by rw [e, t0_])
      rw [show (60 * a.toInt).toNat = 0 by omega] at v
      have k6 : (kt 0).toInt ≤ 6 := ((hK 0 0 (by omega) (by omega)).1 rfl).2
      have b : BK p2 m2 g2 t2 k2 w2 wc2 la2 br2 kt 0 := ib0 (by rw [← ea]; exact c.2)
      exact (BK.out b k6 v).congr (c0 e c.2) (by rw [v.2.2.2.2.2.2.2.2.1]; exact k6)
    · have ea : a = 1 := i_eq.mpr (by rw [e, t1_])
      rw [show (60 * a.toInt).toNat = 60 by omega] at v
      have k6 : (kt 60).toInt ≤ 6 := ((hK 1 0 (by omega) (by omega)).1 rfl).2
      have b : BK p3 m3 g3 t3 k3 w3 wc3 la3 br3 kt 60 := ib1 (by have h9 := c.2; rw [ea] at h9; exact h9)
      exact (BK.out b k6 v).congr (c1 e c.2) (by rw [v.2.2.2.2.2.2.2.2.1]; exact k6)
  · obtain ⟨rfl, rfl, rfl, rfl, rfl, rfl, rfl, rfl, rfl, rfl, rfl⟩ := q2 (fun h => c ⟨h.1, fun h9 => h.2 ((rk.2 a h.1).mp h9)⟩)
    exact ⟨⟨hmw, hpa, hte, hmm, hwf, hwp, hwt⟩, bm.congr (c2 c) hmw.2⟩
theorem td_ok {x r mr z mz wc la br mw ml mb : Int32} {te kn wa mt mk wf wp wt pa mi ga ma mm mg : Nat → Int32} (bm : BM pa mi ga te kn wa wc la br ma mm mg mt mk wf wp wt mw ml mb) (ez : z = mz) (h : (((10 ≤ x.toInt ∧ x.toInt ≤ 13) ∧ r = te (x.toInt - 10).toNat) ∨ ((20 ≤ x.toInt ∧ x.toInt ≤ 23) ∧ r = kn (x.toInt - 20).toNat) ∨ ((30 ≤ x.toInt ∧ x.toInt ≤ 35) ∧ x.toInt - 30 < wc.toInt ∧ r = wa (x.toInt - 30).toNat) ∨ ((30 ≤ x.toInt ∧ x.toInt ≤ 35) ∧ ¬ x.toInt - 30 < wc.toInt ∧ r = -6) ∨ (x.toInt = 0 ∧ r = z) ∨ (x.toInt = 1 ∧ r = wc) ∨ (x.toInt = 2 ∧ r = la) ∨ (x.toInt = 3 ∧ r = br) ∨ (¬ ((0 ≤ x.toInt ∧ x.toInt ≤ 3) ∨ (10 ≤ x.toInt ∧ x.toInt ≤ 13) ∨ (20 ≤ x.toInt ∧ x.toInt ≤ 23) ∨ (30 ≤ x.toInt ∧ x.toInt ≤ 35)) ∧ r = -2))) (h' : (((10 ≤ x.toInt ∧ x.toInt ≤ 13) ∧ mr = mt (x.toInt - 10).toNat) ∨ ((20 ≤ x.toInt ∧ x.toInt ≤ 23) ∧ mr = mk (x.toInt - 20).toNat) ∨ ((30 ≤ x.toInt ∧ x.toInt ≤ 35) ∧ x.toInt - 30 < mw.toInt ∧ mr = 100 * wf (x.toInt - 30).toNat + 10 * wp (x.toInt - 30).toNat + wt (x.toInt - 30).toNat) ∨ ((30 ≤ x.toInt ∧ x.toInt ≤ 35) ∧ ¬ x.toInt - 30 < mw.toInt ∧ mr = -6) ∨ (x.toInt = 0 ∧ mr = mz) ∨ (x.toInt = 1 ∧ mr = mw) ∨ (x.toInt = 2 ∧ mr = ml) ∨ (x.toInt = 3 ∧ mr = mb) ∨ (¬ ((0 ≤ x.toInt ∧ x.toInt ≤ 3) ∨ (10 ≤ x.toInt ∧ x.toInt ≤ 13) ∨ (20 ≤ x.toInt ∧ x.toInt ≤ 23) ∨ (30 ≤ x.toInt ∧ x.toInt ≤ 35)) ∧ mr = -2))) : r = mr := by
  obtain ⟨⟨h1, h2, h3, h4, h5⟩, ⟨h6, h7, h8⟩, h9⟩ := bm
  subst h6 h7 h8 ez
  rcases h with ⟨a, rfl⟩ | ⟨a, rfl⟩ | ⟨a, a1, rfl⟩ | ⟨a, a1, rfl⟩ | ⟨a, rfl⟩ | ⟨a, rfl⟩ | ⟨a, rfl⟩ | ⟨a, rfl⟩ | ⟨a, rfl⟩ <;> rcases h' with ⟨b, rfl⟩ | ⟨b, rfl⟩ | ⟨b, b1, rfl⟩ | ⟨b, b1, rfl⟩ | ⟨b, rfl⟩ | ⟨b, rfl⟩ | ⟨b, rfl⟩ | ⟨b, rfl⟩ | ⟨b, rfl⟩ <;> first | rfl | exact h4 _ (by omega) | exact h5 _ (by omega) | exact h9 _ (by omega) | (exfalso; omega)
theorem INI.bm {pa mi te kn ga wa ma mm mt mk mg wf wp wt : Nat → Int32} (h : INI pa mi te kn 4) (h' : INI ma mm mt mk 4) (hg : EQn 4 ga mg) : BM pa mi ga te kn wa 0 0 0 ma mm mg mt mk wf wp wt 0 0 0 := by
  refine ⟨⟨fun j hj => ?_, fun j hj => ?_, hg, fun j hj => ?_, fun j hj => ?_⟩, ⟨rfl, rfl, rfl⟩, fun j hj => ?_⟩
  · rw [(h.2 j (by omega)).1, (h'.2 j (by omega)).1]
  · rw [h.1 j hj, h'.1 j hj]
  · rw [(h.2 j (by omega)).2.1, (h'.2 j (by omega)).2.1]
  · rw [(h.2 j (by omega)).2.2, (h'.2 j (by omega)).2.2]
  · rw [t0_] at hj; omega
/-! LEVEL 3: the books give what is needed; judge, evening, left -/
theorem ns_fb {wa wf wp wt : Nat → Int32} (hf : SOk wf) (hp : SOk wp) (ht : SOk wt) : ∀ n : Nat, n ≤ 6 → (∀ j : Nat, j < n → wa j = 100 * wf j + 10 * wp j + wt j) → ∀ s p : Nat, s < 4 → p < 4 → FB (nsF wa n (4 * s + p)) (fun t => ∃ w : Nat, w < n ∧ wf w = nI s ∧ wp w = nI p ∧ wt w = nI t) := by
  intro n
  induction n with
  | zero => intro _ _ s p _ _; exact FB.z.iff fun t _ => ⟨fun h => h.elim, fun ⟨w, hw, _⟩ => absurd hw (Nat.not_lt_zero _)⟩
  | succ n ih =>
    intro hn hw s p hs hp2
    have h1 := ih (by omega) (fun j hj => hw j (by omega))
    have a := hf n (by omega)
    have b := hp n (by omega)
    have c := ht n (by omega)
    have e := enc_i a b c
    rw [← hw n (by omega)] at e
    have e1 : ((wa n).toInt / 100 * 4 + (wa n).toInt / 10 % 10).toNat = 4 * (wf n).toInt.toNat + (wp n).toInt.toNat := by omega
    have e2 : nI ((wa n).toInt % 10).toNat = wt n := by rw [show (wa n).toInt % 10 = (wt n).toInt by omega]; exact (nI_sl c.1).symm
    rw [nsF, e1, e2, upd_eq]
    by_cases d : 4 * s + p = 4 * (wf n).toInt.toNat + (wp n).toInt.toNat
    · rw [if_pos d, ← d]
      have h2 := (h1 s p hs hp2).on (j := (wt n).toInt.toNat) (by omega)
      rw [← nI_sl c.1] at h2
      have ef : wf n = nI s := by rw [show s = (wf n).toInt.toNat by omega]; exact nI_sl a.1
      have ep : wp n = nI p := by rw [show p = (wp n).toInt.toNat by omega]; exact nI_sl b.1
      refine h2.iff fun t h9 => ?_
      constructor
      · rintro (q | ⟨w, q, q2⟩)
        · exact ⟨n, by omega, ef, ep, by rw [q]; exact nI_sl c.1⟩
        · exact ⟨w, by omega, q2⟩
      · rintro ⟨w, q1, q2, q3, q4⟩
        by_cases cw : w = n
        · left
          rw [cw] at q4
          have h6 := congrArg Int32.toInt q4
          rw [nI_toInt (by omega)] at h6
          omega
        · exact Or.inr ⟨w, by omega, q2, q3, q4⟩
    · rw [if_neg d]
      refine (h1 s p hs hp2).iff fun t h9 => ?_
      constructor
      · rintro ⟨w, q, q2⟩
        exact ⟨w, by omega, q2⟩
      · rintro ⟨w, q1, q2, q3, q4⟩
        have : ¬ w = n := fun cw => by
          rw [cw] at q2 q3
          have h6 := congrArg Int32.toInt q2
          have h7 := congrArg Int32.toInt q3
          rw [nI_toInt (by omega)] at h6 h7
          omega
        exact ⟨w, by omega, q2, q3, q4⟩
/-- what a book of the class holds by itself -/
theorem BM.sb {pa mi ga te kn wa ne ma mm mg mt mk wf wp wt : Nat → Int32} {wc la br mw ml mb : Int32} (h : BM pa mi ga te kn wa wc la br ma mm mg mt mk wf wp wt mw ml mb) (hb : BKI wa wc ne la) (hT : TOk te) (hmw : 0 ≤ mw.toInt ∧ mw.toInt ≤ 6) (hf : SOk wf) (hp : SOk wp) (ht : SOk wt) : SB pa ga te ne ma mg mt wf wp wt la mw := by
  obtain ⟨⟨h1, h2, h3, h4, h5⟩, ⟨h6, h7, h8⟩, h9⟩ := h
  refine ⟨h1, h3, h4, hT, hb.2, hmw, ht, fun s p hs hp2 => ?_⟩
  rw [hb.1 (4 * s + p) (by omega), h6]
  refine (ns_fb hf hp ht mw.toInt.toNat (by omega) (fun j hj => h9 j (by omega)) s p hs hp2).iff fun t _ => ?_
  constructor
  · rintro ⟨w, q, q2⟩
    exact ⟨w, by omega, q2⟩
  · rintro ⟨w, q, q2⟩
    exact ⟨w, by omega, q2⟩
section JU
variable {pa mi ga te kn wa ne ma mm mg mt mk wf wp wt co f mp : Nat → Int32} {wc la br mw ml mb z mz : Int32}
/-- all that both books need for an evening -/
def EVB (pa mi ga te kn wa ne ma mm mg mt mk wf wp wt co f mp : Nat → Int32) (wc la br mw ml mb z mz : Int32) : Prop := BM pa mi ga te kn wa wc la br ma mm mg mt mk wf wp wt mw ml mb ∧ BKI wa wc ne la ∧ TOk te ∧ (0 ≤ mw.toInt ∧ mw.toInt ≤ 6) ∧ SOk wf ∧ SOk wp ∧ SOk wt ∧ POk ma ∧ co 0 = 0 ∧ z = mz ∧ f = mp ∧ (0 ≤ z.toInt ∧ z.toInt ≤ 30)
theorem EVB.eq (e : EVB pa mi ga te kn wa ne ma mm mg mt mk wf wp wt co f mp wc la br mw ml mb z mz) (hr : rfZ f 97 100 z = -6) {r ep ew eo ed em op bp by0 dp tk : Int32} (h : JDG pa ga te mi ne la br f z.toInt.toNat r ep ew eo ed em) (h' : GEV ma mg mt mm wf wp wt mw ml mb co mp mz.toInt.toNat op bp by0 dp tk) :
    (r.toInt = 1 ∧ (bp = -6 ∧ by0 = -6) ∧ (eo = setI op ∧ ed = dp ∧ em = tk) ∧ ∃ tl : Nat → Int32, Gd ma tl op) ∨ (r.toInt = 0 ∧ 0 ≤ bp.toInt ∧ ep = bp ∧ ew = by0) := by
  obtain ⟨bm, hb, hT, hmw, hf, hp, ht, hpa, h0, ez, ef, hz⟩ := e
  have sb := bm.sb hb hT hmw hf hp ht
  obtain ⟨⟨h1, h2, h3, h4, h5⟩, ⟨h6, h7, h8⟩, h9⟩ := bm
  subst ez ef h7 h8
  have fr := FR_of (f := f) (lo := 97) (hi := 100) (z := z) hr.symm hz (by rw [tm6_]; omega)
  exact eve_eq sb h2 hpa h0 (fun k hk => fr.2 k (by omega)) h h'
theorem EVB.judge (e : EVB pa mi ga te kn wa ne ma mm mg mt mk wf wp wt co f mp wc la br mw ml mb z mz) {x r mr ep2 ew2 eo2 ed2 em2 op2 bp2 by2 dp2 tk2 : Int32} (h : (¬ (0 ≤ x.toInt ∧ x.toInt ≤ 1) ∧ r = -2) ∨ ((0 ≤ x.toInt ∧ x.toInt ≤ 1) ∧ ((¬ rfZ f 97 100 z = -6 ∧ r = -5) ∨ (rfZ f 97 100 z = -6 ∧ ∃ g : Int32, JDG pa ga te mi ne la br f z.toInt.toNat g ep2 ew2 eo2 ed2 em2 ∧ ((g.toInt = 1 ∧ r = -6) ∨ (g.toInt = 0 ∧ x.toInt = 0 ∧ r = ep2) ∨ (g.toInt = 0 ∧ x.toInt = 1 ∧ r = ew2)))))) (h' : (¬ (0 ≤ x.toInt ∧ x.toInt ≤ 1) ∧ mr = -2) ∨ ((0 ≤ x.toInt ∧ x.toInt ≤ 1) ∧ ((¬ rfZ mp 97 100 mz = -6 ∧ mr = -5) ∨ (rfZ mp 97 100 mz = -6 ∧ GEV ma mg mt mm wf wp wt mw ml mb co mp mz.toInt.toNat op2 bp2 by2 dp2 tk2 ∧ ((x.toInt = 0 ∧ mr = bp2) ∨ (x.toInt = 1 ∧ mr = by2)))))) : r = mr := by
  have ez := e.2.2.2.2.2.2.2.2.2.1
  have ef := e.2.2.2.2.2.2.2.2.2.2.1
  rcases h with ⟨a, h⟩ | ⟨a, h⟩ <;> rcases h' with ⟨b, h'⟩ | ⟨b, h'⟩
  · rw [h, h']
  · exact absurd b a
  · exact absurd a b
  · rcases h with ⟨c, h⟩ | ⟨c, g, jd, h⟩ <;> rcases h' with ⟨d, h'⟩ | ⟨d, ge, h'⟩
    · rw [h, h']
    · rw [← ez, ← ef] at d; exact absurd d c
    · rw [← ez, ← ef] at d; exact absurd c d
    · rcases e.eq c jd ge with ⟨q1, ⟨q2, q3⟩, _⟩ | ⟨q1, q2, q3, q4⟩
      · rcases h with ⟨u, v⟩ | ⟨u, _⟩ | ⟨u, _⟩
        · rcases h' with ⟨_, w⟩ | ⟨_, w⟩
          · rw [v, w, q2]
          · rw [v, w, q3]
        · exfalso; omega
        · exfalso; omega
      · rcases h with ⟨u, v⟩ | ⟨u, u2, v⟩ | ⟨u, u2, v⟩
        · exfalso; omega
        · rcases h' with ⟨w2, w⟩ | ⟨w2, w⟩
          · rw [v, w, q3]
          · exfalso; omega
        · rcases h' with ⟨w2, w⟩ | ⟨w2, w⟩
          · exfalso; omega
          · rw [v, w, q4]
theorem EVB.evening (e : EVB pa mi ga te kn wa ne ma mm mg mt mk wf wp wt co f mp wc la br mw ml mb z mz) {x r mr ep2 ew2 eo2 ed2 em2 op2 bp2 by2 dp2 tk2 : Int32} (h : (¬ (0 ≤ x.toInt ∧ x.toInt ≤ 2) ∧ r = -2) ∨ ((0 ≤ x.toInt ∧ x.toInt ≤ 2) ∧ ((¬ rfZ f 97 100 z = -6 ∧ r = -5) ∨ (rfZ f 97 100 z = -6 ∧ ∃ g : Int32, JDG pa ga te mi ne la br f z.toInt.toNat g ep2 ew2 eo2 ed2 em2 ∧ ((g.toInt = 0 ∧ r = -3) ∨ (g.toInt = 1 ∧ x.toInt = 0 ∧ r = eo2) ∨ (g.toInt = 1 ∧ x.toInt = 1 ∧ r = ed2) ∨ (g.toInt = 1 ∧ x.toInt = 2 ∧ r = em2)))))) (h' : (¬ (0 ≤ x.toInt ∧ x.toInt ≤ 2) ∧ mr = -2) ∨ ((0 ≤ x.toInt ∧ x.toInt ≤ 2) ∧ ((¬ rfZ mp 97 100 mz = -6 ∧ mr = -5) ∨ (rfZ mp 97 100 mz = -6 ∧ GEV ma mg mt mm wf wp wt mw ml mb co mp mz.toInt.toNat op2 bp2 by2 dp2 tk2 ∧ ((0 ≤ bp2.toInt ∧ mr = -3) ∨ (bp2.toInt < 0 ∧ x.toInt = 0 ∧ mr = setI op2) ∨ (bp2.toInt < 0 ∧ x.toInt = 1 ∧ mr = dp2) ∨ (bp2.toInt < 0 ∧ x.toInt = 2 ∧ mr = tk2)))))) : r = mr := by
  have ez := e.2.2.2.2.2.2.2.2.2.1
  have ef := e.2.2.2.2.2.2.2.2.2.2.1
  rcases h with ⟨a, h⟩ | ⟨a, h⟩ <;> rcases h' with ⟨b, h'⟩ | ⟨b, h'⟩
  · rw [h, h']
  · exact absurd b a
  · exact absurd a b
  · rcases h with ⟨c, h⟩ | ⟨c, g, jd, h⟩ <;> rcases h' with ⟨d, h'⟩ | ⟨d, ge, h'⟩
    · rw [h, h']
    · rw [← ez, ← ef] at d; exact absurd d c
    · rw [← ez, ← ef] at d; exact absurd c d
    · rcases e.eq c jd ge with ⟨q1, ⟨q2, q3⟩, ⟨q4, q5, q6⟩, _⟩ | ⟨q1, q2, q3, q4⟩
      · rw [q2, tm6_] at h'
        rcases h with ⟨u, _⟩ | ⟨_, u, v⟩ | ⟨_, u, v⟩ | ⟨_, u, v⟩
        · exfalso; omega
        · rcases h' with ⟨w2, _⟩ | ⟨_, w2, w⟩ | ⟨_, w2, w⟩ | ⟨_, w2, w⟩
          · exfalso; omega
          · rw [v, w, q4]
          · exfalso; omega
          · exfalso; omega
        · rcases h' with ⟨w2, _⟩ | ⟨_, w2, w⟩ | ⟨_, w2, w⟩ | ⟨_, w2, w⟩
          · exfalso; omega
          · exfalso; omega
          · rw [v, w, q5]
          · exfalso; omega
        · rcases h' with ⟨w2, _⟩ | ⟨_, w2, w⟩ | ⟨_, w2, w⟩ | ⟨_, w2, w⟩
          · exfalso; omega
          · exfalso; omega
          · exfalso; omega
          · rw [v, w, q6]
      · rcases h with ⟨u, v⟩ | ⟨u, _⟩ | ⟨u, _⟩ | ⟨u, _⟩
        · rcases h' with ⟨_, w⟩ | ⟨w2, _⟩ | ⟨w2, _⟩ | ⟨w2, _⟩
          · rw [v, w]
          · exfalso; omega
          · exfalso; omega
          · exfalso; omega
        · exfalso; omega
        · exfalso; omega
        · exfalso; omega
theorem tb_btn {te : Nat → Int32} {t : Int32} : ∀ n : Nat, tbF te t n = btn (fun k => decide (te k = t)) n := by
  intro n
  induction n with
  | zero => rfl
  | succ n ih =>
    rw [tbF, btn]
    by_cases c : te n = t
    · rw [if_pos c, show decide (te n = t) = true from decide_eq_true c, if_pos rfl, ih]
    · rw [if_neg c, show decide (te n = t) = false from decide_eq_false c, ih]
      exact (or0 _).symm
theorem cl_btn {te kn : Nat → Int32} {eo t x : Int32} : ∀ n : Nat, clF te kn eo t x n = btn (fun k => decide ((¬ nI k = t ∧ x &&& (kn k ^^^ (-1)) = 0) ∧ tbF te (nI k) 4 &&& eo = 0)) n := by
  intro n
  induction n with
  | zero => rfl
  | succ n ih =>
    rw [clF, btn]
    by_cases c : (¬ nI n = t ∧ x &&& (kn n ^^^ (-1)) = 0) ∧ tbF te (nI n) 4 &&& eo = 0
    · rw [if_pos c, ih, if_pos (decide_eq_true c)]
    · rw [if_neg c, ih, if_neg (fun h => c (of_decide_eq_true h))]
      exact (or0 _).symm
theorem lf_eq {tl : Nat → Int32} {op t : Int32} (ht : ∀ j : Nat, j < 4 → te j = mt j) (hG : Gd ma tl op) : tbF te t 4 &&& setI op = btn (lfP mt op t) 4 := by
  rw [tb_btn, hG.2.2, btn_and]
  refine btn_cg 4 fun k hk => ?_
  show (decide (te k = t) && opn ma tl k) = lfP mt op t k
  have b := gd_b1 hG hk
  unfold lfP
  by_cases c : opn ma tl k = true
  · rw [c, Bool.and_true]
    refine decide_eq_decide.mpr ?_
    rw [ht k hk]
    exact ⟨fun h => ⟨b.mpr c, by rw [h]⟩, fun h => i_eq.mpr h.2⟩
  · rw [Bool.eq_false_iff.mpr c, Bool.and_false]
    exact (decide_eq_false (fun h => c (b.mp h.1))).symm
theorem ho_eq {tl : Nat → Int32} {op : Int32} {k : Nat} (hk : k < 4) (ht : ∀ j : Nat, j < 4 → te j = mt j) (hG : Gd ma tl op) : (tbF te (nI k) 4 &&& setI op = 0) ↔ ¬ HO mt op (nI k) := by
  rw [tb_btn, hG.2.2, btn_and, btn_0]
  unfold HO
  constructor
  · rintro q ⟨y, h1, h2, h3, h4⟩
    rw [t4_] at h2
    have ey : y = nI y.toInt.toNat := nI_sl h1
    rw [ey] at h3
    have q1 : (decide (te y.toInt.toNat = nI k) && opn ma tl y.toInt.toNat) = false := q y.toInt.toNat (by omega)
    rw [(gd_b1 hG (by omega)).mp h3, Bool.and_true] at q1
    have h4 : (mt y.toInt.toNat).toInt = (nI k).toInt := h4
    exact absurd (by rw [ht _ (by omega)]; exact i_eq.mpr h4) (of_decide_eq_false q1)
  · intro q i hi
    show (decide (te i = nI k) && opn ma tl i) = false
    by_cases o1 : opn ma tl i = true
    · rw [o1, Bool.and_true]
      refine decide_eq_false fun h => q ⟨nI i, ?_, ?_, (gd_b1 hG hi).mpr o1, ?_⟩
      · rw [nI_toInt (by omega)]; omega
      · rw [nI_toInt (by omega), t4_]; omega
      · rw [nI_clamp (show i < 2 ^ 31 by omega), ← ht i hi, h]
    · rw [Bool.eq_false_iff.mpr o1, Bool.and_false]
theorem EVB.left (e : EVB pa mi ga te kn wa ne ma mm mg mt mk wf wp wt co f mp wc la br mw ml mb z mz) {t x r mr ep2 ew2 eo2 ed2 em2 op2 bp2 by2 dp2 tk2 : Int32} (h : (¬ (0 ≤ t.toInt ∧ t.toInt ≤ 3) ∧ r = -1) ∨ ((0 ≤ t.toInt ∧ t.toInt ≤ 3) ∧ ((¬ (0 ≤ x.toInt ∧ x.toInt ≤ 1) ∧ r = -2) ∨ ((0 ≤ x.toInt ∧ x.toInt ≤ 1) ∧ ((¬ rfZ f 97 100 z = -6 ∧ r = -5) ∨ (rfZ f 97 100 z = -6 ∧ ∃ g : Int32, JDG pa ga te mi ne la br f z.toInt.toNat g ep2 ew2 eo2 ed2 em2 ∧ ((g.toInt = 0 ∧ r = -3) ∨ (g.toInt = 1 ∧ x.toInt = 0 ∧ r = tbF te t 4 &&& eo2) ∨ (g.toInt = 1 ∧ x.toInt = 1 ∧ r = clF te kn eo2 t (tbF te t 4 &&& eo2) 4)))))))) (h' : (¬ (0 ≤ t.toInt ∧ t.toInt ≤ 3) ∧ mr = -1) ∨ ((0 ≤ t.toInt ∧ t.toInt ≤ 3) ∧ ((¬ (0 ≤ x.toInt ∧ x.toInt ≤ 1) ∧ mr = -2) ∨ ((0 ≤ x.toInt ∧ x.toInt ≤ 1) ∧ ((¬ rfZ mp 97 100 mz = -6 ∧ mr = -5) ∨ (rfZ mp 97 100 mz = -6 ∧ GEV ma mg mt mm wf wp wt mw ml mb co mp mz.toInt.toNat op2 bp2 by2 dp2 tk2 ∧ RowI op2 ∧ ((0 ≤ bp2.toInt ∧ mr = -3) ∨ (bp2.toInt < 0 ∧ x.toInt = 0 ∧ mr = btn (lfP mt op2 t) 4) ∨ (bp2.toInt < 0 ∧ x.toInt = 1 ∧ TBS mr (fun k => ¬ (k : Int) = t.toInt ∧ (btn (lfP mt op2 t) 4 &&& (mk k ^^^ (-1))).toInt = 0 ∧ ¬ HO mt op2 (nI k)))))))))) : r = mr := by
  have ez := e.2.2.2.2.2.2.2.2.2.1
  have ef := e.2.2.2.2.2.2.2.2.2.2.1
  have ht : ∀ j : Nat, j < 4 → te j = mt j := e.1.1.2.2.2.1
  have hk9 : ∀ j : Nat, j < 4 → kn j = mk j := e.1.1.2.2.2.2
  rcases h with ⟨a, h⟩ | ⟨a, h⟩ <;> rcases h' with ⟨b, h'⟩ | ⟨b, h'⟩
  · rw [h, h']
  · exact absurd b a
  · exact absurd a b
  rcases h with ⟨a2, h⟩ | ⟨a2, h⟩ <;> rcases h' with ⟨b2, h'⟩ | ⟨b2, h'⟩
  · rw [h, h']
  · exact absurd b2 a2
  · exact absurd a2 b2
  rcases h with ⟨c, h⟩ | ⟨c, g, jd, h⟩ <;> rcases h' with ⟨d, h'⟩ | ⟨d, ge, _, h'⟩
  · rw [h, h']
  · rw [← ez, ← ef] at d; exact absurd d c
  · rw [← ez, ← ef] at d; exact absurd c d
  rcases e.eq c jd ge with ⟨q1, ⟨q2, q3⟩, ⟨q4, q5, q6⟩, tl, hG⟩ | ⟨q1, q2, q3, q4⟩
  · rw [q2, tm6_] at h'
    rcases h with ⟨u, _⟩ | ⟨_, u, v⟩ | ⟨_, u, v⟩
    · exfalso; omega
    · rcases h' with ⟨w2, _⟩ | ⟨_, w2, w⟩ | ⟨_, w2, w⟩
      · exfalso; omega
      · rw [v, w, q4, lf_eq ht hG]
      · exfalso; omega
    · rcases h' with ⟨w2, _⟩ | ⟨_, w2, w⟩ | ⟨_, w2, p, w3, w4⟩
      · exfalso; omega
      · exfalso; omega
      · rw [v, w4, q4, lf_eq ht hG, cl_btn]
        refine btn_cg 4 fun k hk => ?_
        show decide _ = p k
        have ek : (nI k).toInt = (k : Int) := nI_toInt (by omega)
        have z0 : ∀ y : Int32, y = 0 ↔ y.toInt = 0 := fun y => ⟨fun h => by rw [h]; exact t0_, fun h => i_eq.mpr (h.trans t0_.symm)⟩
        have k1 := w3 k hk
        have k2 := ho_eq (k := k) hk ht hG
        by_cases pk : p k = true
        · rw [pk]
          obtain ⟨g1, g2, g3⟩ := k1.mp pk
          refine decide_eq_true ⟨⟨fun h => g1 (by rw [← h, ek]), ?_⟩, k2.mpr g3⟩
          rw [hk9 k hk]; exact (z0 _).mpr g2
        · rw [Bool.eq_false_iff.mpr pk]
          refine decide_eq_false fun h => pk (k1.mpr ⟨fun h9 => h.1.1 (i_eq.mpr (by rw [ek]; exact h9)), ?_, k2.mp h.2⟩)
          rw [← hk9 k hk]; exact (z0 _).mp h.1.2
  · rcases h with ⟨u, v⟩ | ⟨u, _⟩ | ⟨u, _⟩
    · rcases h' with ⟨_, w⟩ | ⟨w2, _⟩ | ⟨w2, _⟩
      · rw [v, w]
      · exfalso; omega
      · exfalso; omega
    · exfalso; omega
    · exfalso; omega
end JU
/-! LEVEL 4: a set has an evening iff it has no ring of waits -/
section RG
variable {ma mg mt wf wp wt wa co ro : Nat → Int32} {mw ml se dr : Int32} {wy : Nat → Int64}
/-- a story is of a set -/
def Inb (a : Int32) (t : Nat) : Prop := ¬ (a >>> (nI t &&& 31)) &&& 1 = 0
theorem inb_1 {a : Int32} {t : Nat} (h : Inb a t) : ((a >>> (nI t &&& 31)) &&& 1).toInt = 1 := by
  rcases i_and1 (a >>> (nI t &&& 31)) with e | e
  · exact absurd (i_eq.mpr (e.trans t0_.symm)) h
  · exact e
theorem inb_n {a : Int32} {t : Nat} (h : ¬ Inb a t) : ((a >>> (nI t &&& 31)) &&& 1).toInt = 0 := by
  rcases i_and1 (a >>> (nI t &&& 31)) with e | e
  · exact e
  · exact absurd (fun h9 => by rw [h9, t0_] at e; omega) h
theorem inb_b1 {a : Int32} {t : Nat} : bit1 a (nI t) ↔ Inb a t := ⟨fun h h9 => by unfold bit1 at h; rw [h9, t0_] at h; omega, fun h => inb_1 h⟩
/-- the waits that count -/
def ND (dr : Int32) (w : Nat) : Prop := (dr >>> (nI w &&& 31)) &&& 1 = 0
def Wt (wf wt : Nat → Int32) (mw dr : Int32) (s o w : Nat) : Prop := (w : Int) < mw.toInt ∧ ND dr w ∧ wf w = nI s ∧ wt w = nI o
def WB (wa wf wp wt ma : Nat → Int32) (mw : Int32) : Prop := (0 ≤ mw.toInt ∧ mw.toInt ≤ 6) ∧ (SOk wf) ∧ (SOk wp) ∧ (SOk wt) ∧ (∀ j : Nat, (j : Int) < mw.toInt → wa j = 100 * wf j + 10 * wp j + wt j) ∧ (∀ j : Nat, (j : Int) < mw.toInt → (wp j).toInt < (ma (wf j).toInt.toNat).toInt)
theorem WB.hw (h : WB wa wf wp wt ma mw) : 0 ≤ mw.toInt ∧ mw.toInt ≤ 6 := h.1
theorem WB.hf (h : WB wa wf wp wt ma mw) : SOk wf := h.2.1
theorem WB.hp (h : WB wa wf wp wt ma mw) : SOk wp := h.2.2.1
theorem WB.ht (h : WB wa wf wp wt ma mw) : SOk wt := h.2.2.2.1
theorem WB.he (h : WB wa wf wp wt ma mw) : ∀ j : Nat, (j : Int) < mw.toInt → wa j = 100 * wf j + 10 * wp j + wt j := h.2.2.2.2.1
theorem WB.hm (h : WB wa wf wp wt ma mw) : ∀ j : Nat, (j : Int) < mw.toInt → (wp j).toInt < (ma (wf j).toInt.toNat).toInt := h.2.2.2.2.2
theorem wt_fb (b : WB wa wf wp wt ma mw) {a : Int32} : ∀ n : Nat, (n : Int) ≤ mw.toInt → FB (wtS wa a dr n) (fun t => Inb a t ∧ ∃ o w : Nat, (w < n ∧ o < 4) ∧ Wt wf wt mw dr t o w ∧ Inb a o) := by
  intro n
  induction n with
  | zero => intro _; exact FB.z.iff fun t _ => ⟨fun h => h.elim, fun ⟨_, o, w, ⟨h, _⟩, _⟩ => absurd h (Nat.not_lt_zero _)⟩
  | succ n ih =>
    intro hn
    have h1 := ih (by omega)
    have hw := b.hw
    have f := b.hf n (by omega)
    have p := b.hp n (by omega)
    have t := b.ht n (by omega)
    have e := enc_i f p t
    rw [← b.he n (by omega)] at e
    have e1 : nI ((wa n).toInt / 100).toNat = wf n := by rw [show (wa n).toInt / 100 = (wf n).toInt by omega]; exact (nI_sl f.1).symm
    have e2 : nI ((wa n).toInt % 10).toNat = wt n := by rw [show (wa n).toInt % 10 = (wt n).toInt by omega]; exact (nI_sl t.1).symm
    have ef : wf n = nI (wf n).toInt.toNat := nI_sl f.1
    have et : wt n = nI (wt n).toInt.toNat := nI_sl t.1
    rw [wtS, e1, e2]
    by_cases c : ((dr >>> (nI n &&& 31)) &&& 1 = 0 ∧ ¬ (a >>> (wt n &&& 31)) &&& 1 = 0) ∧ ¬ (a >>> (wf n &&& 31)) &&& 1 = 0
    · rw [if_pos c]
      have h2 := h1.on (j := (wf n).toInt.toNat) (by omega)
      rw [← ef] at h2
      refine h2.iff fun t9 ht => ?_
      have cf : Inb a (wf n).toInt.toNat := by unfold Inb; rw [← ef]; exact c.2
      have ct : Inb a (wt n).toInt.toNat := by unfold Inb; rw [← et]; exact c.1.2
      constructor
      · rintro (q | ⟨q0, o, w, ⟨q1, q2⟩, q3, q4⟩)
        · rw [q]
          exact ⟨cf, (wt n).toInt.toNat, n, ⟨by omega, by omega⟩, ⟨by omega, c.1.1, ef, et⟩, ct⟩
        · exact ⟨q0, o, w, ⟨by omega, q2⟩, q3, q4⟩
      · rintro ⟨q0, o, w, ⟨q1, q2⟩, q3, q4⟩
        by_cases cw : w = n
        · left
          have q5 := q3.2.2.1
          rw [cw] at q5
          have h6 := congrArg Int32.toInt q5
          rw [nI_toInt (by omega)] at h6
          omega
        · exact Or.inr ⟨q0, o, w, ⟨by omega, q2⟩, q3, q4⟩
    · rw [if_neg c]
      refine h1.iff fun t9 ht => ?_
      constructor
      · rintro ⟨q0, o, w, ⟨q1, q2⟩, q3⟩
        exact ⟨q0, o, w, ⟨by omega, q2⟩, q3⟩
      · rintro ⟨q0, o, w, ⟨q1, q2⟩, q3, q4⟩
        have : ¬ w = n := fun cw => c (by
          obtain ⟨z1, z2, z3, z4⟩ := q3
          rw [cw] at z2 z3 z4
          refine ⟨⟨z2, ?_⟩, ?_⟩
          · rw [z4]; exact q4
          · rw [z3]; exact q0)
        exact ⟨q0, o, w, ⟨by omega, q2⟩, q3, q4⟩
theorem rg_in (b : WB wa wf wp wt ma mw) {k t : Nat} (ht : t < 4) : Inb (rgI wa mw.toInt.toNat dr se (k + 1)) t ↔ Inb (rgI wa mw.toInt.toNat dr se k) t ∧ ∃ o w : Nat, o < 4 ∧ Wt wf wt mw dr t o w ∧ Inb (rgI wa mw.toInt.toNat dr se k) o := by
  have hw := b.hw
  have h := wt_fb (dr := dr) b (a := rgI wa mw.toInt.toNat dr se k) mw.toInt.toNat (by omega)
  rw [rgI]
  unfold Inb at *
  rw [h.b0 ht, Classical.not_not]
  constructor
  · rintro ⟨q0, o, w, ⟨q1, q2⟩, q3, q4⟩
    exact ⟨q0, o, w, q2, q3, q4⟩
  · rintro ⟨q0, o, w, q2, q3, q4⟩
    exact ⟨q0, o, w, ⟨by have := q3.1; omega, q2⟩, q3, q4⟩
/-- a ring: stories each of which waits for one of them -/
def RNG (wf wt : Nat → Int32) (mw dr se : Int32) (U : Nat → Prop) : Prop := (∃ t : Nat, t < 4 ∧ U t) ∧ (∀ t : Nat, t < 4 → U t → Inb se t) ∧ ∀ t : Nat, t < 4 → U t → ∃ o w : Nat, o < 4 ∧ Wt wf wt mw dr t o w ∧ U o
theorem rg_of (b : WB wa wf wp wt ma mw) {U : Nat → Prop} (h : RNG wf wt mw dr se U) : ∀ k t : Nat, t < 4 → U t → Inb (rgI wa mw.toInt.toNat dr se k) t := by
  intro k
  induction k with
  | zero => intro t ht hu; exact h.2.1 t ht hu
  | succ k ih =>
    intro t ht hu
    obtain ⟨o, w, ho, q, hU⟩ := h.2.2 t ht hu
    exact (rg_in b ht).mpr ⟨ih t ht hu, o, w, ho, q, ih o ho hU⟩
theorem in_0 : ∀ t : Fin 4, ¬ Inb 0 t.val := by
  intro t h
  have h9 : ∀ t : Fin 4, ((0 : Int32) >>> (nI t.val &&& 31)) &&& 1 = 0 := by decide
  exact h (h9 t)
theorem sub_all : ∀ x y : Fin 16, (∀ t : Fin 4, ¬ (nI y.val >>> (nI t.val &&& 31)) &&& 1 = 0 → ¬ (nI x.val >>> (nI t.val &&& 31)) &&& 1 = 0) → nI y.val = nI x.val ∨ (onesF (nI y.val)).toInt < (onesF (nI x.val)).toInt := by decide +kernel
theorem pc_4 : ∀ x : Fin 16, (onesF (nI x.val)).toInt ≤ 4 ∧ 0 ≤ (onesF (nI x.val)).toInt ∧ ((onesF (nI x.val)).toInt = 0 → nI x.val = 0) ∧ (¬ nI x.val = 0 → ∃ t : Fin 4, ¬ (nI x.val >>> (nI t.val &&& 31)) &&& 1 = 0) := by decide +kernel
theorem rg_rng (b : WB wa wf wp wt ma mw) (hs : 0 ≤ se.toInt ∧ se.toInt < 16) : ∀ k : Nat, ∃ v : Nat, v < 16 ∧ rgI wa mw.toInt.toNat dr se k = nI v := by
  intro k
  have hw := b.hw
  cases k with
  | zero => exact ⟨se.toInt.toNat, by omega, nI_sl hs.1⟩
  | succ k =>
    have h := (wt_fb (dr := dr) b (a := rgI wa mw.toInt.toNat dr se k) mw.toInt.toNat (by omega)).1
    exact ⟨(rgI wa mw.toInt.toNat dr se (k + 1)).toInt.toNat, by rw [rgI]; omega, nI_sl (by rw [rgI]; exact h.1)⟩
theorem rg_st {n k m : Nat} {d a : Int32} (h : rgI wa n d a (k + 1) = rgI wa n d a k) : rgI wa n d a (k + m) = rgI wa n d a k := by
  induction m with
  | zero => rfl
  | succ m ih =>
    rw [show k + (m + 1) = (k + m) + 1 from rfl, rgI, ih]
    rw [rgI] at h
    exact h
/-- what is left is a ring -/
theorem rg_to (b : WB wa wf wp wt ma mw) (hs : 0 ≤ se.toInt ∧ se.toInt < 16) (h : ¬ rgI wa mw.toInt.toNat dr se 4 = 0) : ∃ U : Nat → Prop, RNG wf wt mw dr se U := by
  have down : ∀ k : Nat, rgI wa mw.toInt.toNat dr se (k + 1) = rgI wa mw.toInt.toNat dr se k ∨ (onesF (rgI wa mw.toInt.toNat dr se (k + 1))).toInt < (onesF (rgI wa mw.toInt.toNat dr se k)).toInt := fun k => by
    obtain ⟨v, hv, e⟩ := rg_rng (dr := dr) b hs k
    obtain ⟨u, hu, e'⟩ := rg_rng (dr := dr) b hs (k + 1)
    have q := sub_all ⟨v, hv⟩ ⟨u, hu⟩ (fun t ht => by
      have h1 : Inb (rgI wa mw.toInt.toNat dr se (k + 1)) t.val := by rw [e']; exact ht
      have h2 := ((rg_in b t.isLt).mp h1).1
      rw [e] at h2
      exact h2)
    rw [e, e']
    exact q
  have fix : ∃ k : Nat, k ≤ 3 ∧ rgI wa mw.toInt.toNat dr se (k + 1) = rgI wa mw.toInt.toNat dr se k := by
    by_cases c0 : rgI wa mw.toInt.toNat dr se (0 + 1) = rgI wa mw.toInt.toNat dr se 0
    · exact ⟨0, by omega, c0⟩
    by_cases c1 : rgI wa mw.toInt.toNat dr se (1 + 1) = rgI wa mw.toInt.toNat dr se 1
    · exact ⟨1, by omega, c1⟩
    by_cases c2 : rgI wa mw.toInt.toNat dr se (2 + 1) = rgI wa mw.toInt.toNat dr se 2
    · exact ⟨2, by omega, c2⟩
    by_cases c3 : rgI wa mw.toInt.toNat dr se (3 + 1) = rgI wa mw.toInt.toNat dr se 3
    · exact ⟨3, by omega, c3⟩
    exfalso
    have d0 := (down 0).resolve_left c0
    have d1 := (down 1).resolve_left c1
    have d2 := (down 2).resolve_left c2
    have d3 := (down 3).resolve_left c3
    obtain ⟨v, hv, e⟩ := rg_rng (dr := dr) b hs 0
    obtain ⟨u, hu, e'⟩ := rg_rng (dr := dr) b hs 4
    have p0 := (pc_4 ⟨v, hv⟩).1
    have p4 : 0 ≤ (onesF (nI u)).toInt ∧ ((onesF (nI u)).toInt = 0 → nI u = 0) := ⟨(pc_4 ⟨u, hu⟩).2.1, (pc_4 ⟨u, hu⟩).2.2.1⟩
    rw [e] at d0
    have d3 : (onesF (rgI wa mw.toInt.toNat dr se 4)).toInt < (onesF (rgI wa mw.toInt.toNat dr se 3)).toInt := d3
    rw [e'] at d3 h
    have d1 : (onesF (rgI wa mw.toInt.toNat dr se 2)).toInt < (onesF (rgI wa mw.toInt.toNat dr se 1)).toInt := d1
    have d2 : (onesF (rgI wa mw.toInt.toNat dr se 3)).toInt < (onesF (rgI wa mw.toInt.toNat dr se 2)).toInt := d2
    have d0 : (onesF (rgI wa mw.toInt.toNat dr se 1)).toInt < (onesF (nI v)).toInt := d0
    have p0 : (onesF (nI v)).toInt ≤ 4 := p0
    exact h (p4.2 (by have := p4.1; omega))
  obtain ⟨k, hk, ek⟩ := fix
  have e4 : rgI wa mw.toInt.toNat dr se 4 = rgI wa mw.toInt.toNat dr se k := by
    have := rg_st (m := 4 - k) ek
    rw [show k + (4 - k) = 4 by omega] at this
    exact this
  rw [e4] at h
  have up : ∀ k t : Nat, t < 4 → Inb (rgI wa mw.toInt.toNat dr se k) t → Inb se t := by
    intro k
    induction k with
    | zero => intro t _ h; exact h
    | succ k ih => intro t ht h; exact ih t ht ((rg_in b ht).mp h).1
  refine ⟨Inb (rgI wa mw.toInt.toNat dr se k), ?_, fun t ht hu => up k t ht hu, fun t ht hu => ?_⟩
  · obtain ⟨v, hv, e⟩ := rg_rng (dr := dr) b hs k
    rw [e] at h
    obtain ⟨t, ht⟩ := (pc_4 ⟨v, hv⟩).2.2.2 h
    exact ⟨t.val, t.isLt, by rw [e]; exact ht⟩
  · have h2 : Inb (rgI wa mw.toInt.toNat dr se (k + 1)) t := by rw [ek]; exact hu
    exact ((rg_in b ht).mp h2).2
/-! a ring: no evening -/
theorem tds_nx (hR : RT co ro) {st s : Int32} (h0 : 0 ≤ st.toInt) (hG : GS ma co st) (hs : 0 ≤ s.toInt ∧ s.toInt ≤ 3) {dp : Int32} (h : ¬ (nxF ma mg mt wf wp wt mw ml co ro st s se dp dr).toInt < 0) :
    (whyF ma mg mt wf wp wt mw ml (tds st) (opS co st) s se dr = -6 ∧ nxF ma mg mt wf wp wt mw ml co ro st s se dp dr = stF ro (upd (tds st) s.toNatClampNeg (tds st s.toNatClampNeg + 1)) (o2F ma (tds st) (opS co st) s)) ∧ (∀ j : Nat, j < 4 → tds (nxF ma mg mt wf wp wt mw ml co ro st s se dp dr) j = upd (tds st) s.toNatClampNeg (tds st s.toNatClampNeg + 1) j) ∧ opS co (nxF ma mg mt wf wp wt mw ml co ro st s se dp dr) = o2F ma (tds st) (opS co st) s := by
  revert h
  unfold nxF
  by_cases h1 : ((se >>> (s &&& 31)) &&& 1).toInt = 0
  · rw [ifc_t h1, tm6_]; omega
  rw [ifc_f h1]
  by_cases h2 : 0 ≤ (whyF ma mg mt wf wp wt mw ml (tds st) (opS co st) s se dr).toInt
  · rw [ifc_t h2, tm6_]; omega
  rw [ifc_f h2]
  by_cases h3 : dp.toInt < (onesF (setI (o1F (tds st) (opS co st) s))).toInt
  · rw [ifc_t h3, tm6_]; omega
  rw [ifc_f h3]
  intro _
  have hn := whyF_out h2
  have hT := hG.tell hs hn
  have hk := st_ok hR hT
  exact ⟨⟨(whyF_v ..).resolve_right h2, rfl⟩, hk.2.1, hk.2.2⟩
theorem iw_no {tl : Nat → Int32} {o s : Int32} (h : IW ma wf wp wt mw tl s se dr) : ¬ whyF ma mg mt wf wp wt mw ml tl o s se dr = -6 := by
  unfold whyF
  by_cases h1 : (tl s.toNatClampNeg).toInt = (ma s.toNatClampNeg).toInt
  · rw [ifc_t h1]; decide
  rw [ifc_f h1]
  by_cases h2 : 0 < (tl s.toNatClampNeg).toInt
  · rw [ifc_t h2]
    by_cases h3 : MayP ml o s
    · rw [ifc_t h3, ifc_t h]; decide
    · rw [ifc_f h3]; decide
  · rw [ifc_f h2]
    by_cases h3 : MB mg tl ml o
    · rw [ifc_t h3]
      by_cases h5 : HO mt o (mt s.toNatClampNeg)
      · rw [ifc_t h5]; decide
      · rw [ifc_f h5, ifc_t h]; decide
    · rw [ifc_f h3]; decide
theorem sw_0 {nx : Int32 → Int32} {w : Nat → Int64} : ∀ n : Nat, (∀ j : Nat, j < n → ¬ (nx (nI j)).toInt < 0 → w (nx (nI j)).toNatClampNeg = 0) → swF nx w n = 0 := by
  intro n
  induction n with
  | zero => intro _; rfl
  | succ n ih =>
    intro h
    rw [swF, ih (fun j hj => h j (by omega))]
    by_cases c : (nx (nI n)).toInt < 0
    · rw [if_pos c]; rfl
    · rw [if_neg c, h n (by omega) c]; rfl
def RIV (wf wp wt : Nat → Int32) (mw dr : Int32) (U : Nat → Prop) (tl : Nat → Int32) : Prop := ∀ t : Nat, t < 4 → U t → ∃ o w : Nat, o < 4 ∧ Wt wf wt mw dr t o w ∧ U o ∧ (tl t).toInt ≤ (wp w).toInt
theorem ring_0 (b : WB wa wf wp wt ma mw) (hR : RT co ro) (hp : POk ma) {U : Nat → Prop} (hU : RNG wf wt mw dr se U) {dp : Int32} (hW : WFX ma mg mt wf wp wt mw ml co ro se dp dr wy) : ∀ (m : Nat) (st : Int32), 0 ≤ st.toInt → st.toInt < 40625 → 16 - sm st < (m : Int) → RIV wf wp wt mw dr U (tds st) → wy st.toNatClampNeg = 0 := by
  intro m
  induction m with
  | zero => intro st h0 _ h2 _; have := sm_rng h0; omega
  | succ m ih =>
    intro st h0 h1 h2 hI
    have hw := b.hw
    rw [hW st h0 h1]
    unfold wsF
    by_cases c1 : CB ma (tds st) (opS co st) se
    · rw [ifc_t c1]
      have hG := c1.gd hp hR.1 h0
      have notout : ∀ t : Nat, t < 4 → U t → (tds st t).toInt < (ma t).toInt := fun t ht hu => by
        obtain ⟨o, w, q1, q2, q3, q4⟩ := hI t ht hu
        have q5 := b.hm w q2.1
        have q6 := q2.2.2.1
        have h6 := congrArg Int32.toInt q6
        rw [nI_toInt (by omega)] at h6
        rw [show (wf w).toInt.toNat = t by omega] at q5
        omega
      by_cases c2 : WH ma (tds st) se
      · exfalso
        obtain ⟨t, ht, hu⟩ := hU.1
        have et : (nI t).toInt = (t : Int) := nI_toInt (by omega)
        have e4 := t4_
        have q : ((se >>> (nI t &&& 31)) &&& 1).toInt = 0 ∨ (tds st (nI t).toNatClampNeg).toInt = (ma (nI t).toNatClampNeg).toInt := c2 (nI t) (by omega) (by omega)
        have n := notout t ht hu
        rw [nI_clamp (show t < 2 ^ 31 by omega)] at q
        rcases q with q | q
        · have := inb_1 (hU.2.1 t ht hu); omega
        · omega
      · rw [ifc_f c2]
        refine sw_0 4 fun j hj hn => ?_
        have ej : (nI j).toInt = (j : Int) := nI_toInt (by omega)
        have cj : Int32.toNatClampNeg (nI j) = j := nI_clamp (show j < 2 ^ 31 by omega)
        have k := nx_ok hR h0 hG (show 0 ≤ (nI j).toInt ∧ (nI j).toInt ≤ 3 by omega) hn
        have k2 := tds_nx hR h0 hG (show 0 ≤ (nI j).toInt ∧ (nI j).toInt ≤ 3 by omega) hn
        refine ih _ k.1.1 k.1.2 (by have := k.2.2; omega) fun t ht hu => ?_
        obtain ⟨o, w, q1, q2, q3, q4⟩ := hI t ht hu
        refine ⟨o, w, q1, q2, q3, ?_⟩
        rw [k2.2.1 t ht, cj, upd_eq]
        by_cases c : t = j
        · rw [if_pos c]
          subst c
          have g := hG.1 t ht
          have t1 := t1_
          have ad := i_add (x := tds st t) (y := 1) (by omega) (by omega)
          by_cases c3 : (tds st t).toInt = (wp w).toInt
          · exfalso
            refine iw_no (mg := mg) (mt := mt) (ml := ml) (o := opS co st) ?_ k2.1.1
            have ew : (nI w).toInt = (w : Int) := nI_toInt (by have := q2.1; omega)
            have cw : Int32.toNatClampNeg (nI w) = w := nI_clamp (show w < 2 ^ 31 by have := q2.1; omega)
            refine ⟨nI w, by omega, by have := q2.1; omega, ⟨?_, ?_⟩, ?_, ?_, ?_⟩
            · have := q2.2.1; unfold ND at this; rw [this]; exact t0_
            · rw [cw, q2.2.2.2]; exact inb_1 (hU.2.1 o q1 q3)
            · rw [cw, q2.2.2.1]
            · rw [cw, cj]; exact c3.symm
            · rw [cw, q2.2.2.2, nI_clamp (show o < 2 ^ 31 by omega)]
              have := notout o q1 q3
              omega
          · omega
        · rw [if_neg c]; exact q4
    · rw [ifc_f c1]
end RG
/-! no ring: an evening, one story behind the other -/
section RG2
variable {ma mg mt wf wp wt wa co ro : Nat → Int32} {mw ml se dr : Int32} {wy : Nat → Int64}
theorem l_add {x y : Int64} (h1 : -9223372036854775808 ≤ x.toInt + y.toInt) (h2 : x.toInt + y.toInt < 9223372036854775808) : (x + y).toInt = x.toInt + y.toInt := by
  rw [Int64.toInt_add]
  exact Int.bmod_eq_of_le (by omega) (by omega)
theorem l1_ : (1 : Int64).toInt = 1 := by decide
theorem sw_bd {nx : Int32 → Int32} {w : Nat → Int64} {B : Int} (hB : 0 ≤ B) (hB2 : B ≤ 4294967296) : ∀ n : Nat, n ≤ 4 → (∀ j : Nat, j < n → ¬ (nx (nI j)).toInt < 0 → 0 ≤ (w (nx (nI j)).toNatClampNeg).toInt ∧ (w (nx (nI j)).toNatClampNeg).toInt ≤ B) → (0 ≤ (swF nx w n).toInt ∧ (swF nx w n).toInt ≤ (n : Int) * B) ∧ ∀ j : Nat, j < n → ¬ (nx (nI j)).toInt < 0 → (w (nx (nI j)).toNatClampNeg).toInt ≤ (swF nx w n).toInt := by
  intro n
  induction n with
  | zero => intro _ _; refine ⟨?_, fun j hj => absurd hj (Nat.not_lt_zero _)⟩; rw [swF, l0_]; omega
  | succ n ih =>
    intro hn h
    obtain ⟨h1, h2⟩ := ih (by omega) (fun j hj => h j (by omega))
    have hm : (n : Int) * B ≤ 4 * B := Int.mul_le_mul_of_nonneg_right (by omega) hB
    have hs : ((n + 1 : Nat) : Int) * B = (n : Int) * B + B := by rw [Int.natCast_add, Int.add_mul, Int.natCast_one, Int.one_mul]
    rw [swF, hs]
    by_cases c : (nx (nI n)).toInt < 0
    · rw [if_pos c, Int64.add_zero]
      refine ⟨by omega, fun j hj hn2 => ?_⟩
      by_cases e : j = n
      · rw [e] at hn2; exact absurd c hn2
      · exact h2 j (by omega) hn2
    · rw [if_neg c]
      have q := h n (by omega) c
      have a := l_add (x := swF nx w n) (y := w (nx (nI n)).toNatClampNeg) (by omega) (by omega)
      refine ⟨by omega, fun j hj hn2 => ?_⟩
      by_cases e : j = n
      · rw [e]; omega
      · have := h2 j (by omega) hn2; omega
def bd (k : Nat) : Int := ((4 ^ k : Nat) : Int)
theorem bd_s (k : Nat) : bd (k + 1) = 4 * bd k := by unfold bd; rw [Nat.pow_succ]; omega
theorem bd_1 (k : Nat) : 1 ≤ bd k := by
  induction k with
  | zero => decide
  | succ k ih => rw [bd_s]; omega
theorem bd_le {k : Nat} (h : k ≤ 16) : bd k ≤ 4294967296 := by
  unfold bd
  have := Nat.pow_le_pow_right (n := 4) (by omega) h
  have e : 4 ^ 16 = 4294967296 := by decide
  omega
theorem ws_bd (hR : RT co ro) (hp : POk ma) {dp : Int32} (hW : WFX ma mg mt wf wp wt mw ml co ro se dp dr wy) : ∀ (m : Nat) (st : Int32), 0 ≤ st.toInt → st.toInt < 40625 → 16 - sm st < (m : Int) → 0 ≤ (wy st.toNatClampNeg).toInt ∧ (wy st.toNatClampNeg).toInt ≤ bd (16 - sm st).toNat := by
  intro m
  induction m with
  | zero => intro st h0 _ h2; have := sm_rng h0; omega
  | succ m ih =>
    intro st h0 h1 h2
    have hs := sm_rng h0
    rw [hW st h0 h1]
    have b1 := bd_1 (16 - sm st).toNat
    unfold wsF
    by_cases c1 : CB ma (tds st) (opS co st) se
    · rw [ifc_t c1]
      have hG := c1.gd hp hR.1 h0
      by_cases c2 : WH ma (tds st) se
      · rw [ifc_t c2, l1_]; omega
      · rw [ifc_f c2]
        by_cases c3 : sm st = 16
        · rw [sw_0 4 (fun j hj hn => by
            have ej : (nI j).toInt = (j : Int) := nI_toInt (by omega)
            have k := nx_ok hR h0 hG (show 0 ≤ (nI j).toInt ∧ (nI j).toInt ≤ 3 by omega) hn
            have := sm_rng k.1.1
            omega), l0_]
          omega
        · have e : (16 - sm st).toNat = (16 - (sm st + 1)).toNat + 1 := by omega
          have q := (sw_bd (nx := fun s => nxF ma mg mt wf wp wt mw ml co ro st s se dp dr) (w := wy) (B := bd (16 - (sm st + 1)).toNat) (by have := bd_1 (16 - (sm st + 1)).toNat; omega) (bd_le (by omega)) 4 (Nat.le_refl 4) (fun j hj hn => by
            have ej : (nI j).toInt = (j : Int) := nI_toInt (by omega)
            have k := nx_ok hR h0 hG (show 0 ≤ (nI j).toInt ∧ (nI j).toInt ≤ 3 by omega) hn
            have i := ih _ k.1.1 k.1.2 (by have := k.2.2; omega)
            rw [k.2.2] at i
            exact i)).1
          rw [e, bd_s]
          exact ⟨q.1, by have := q.2; omega⟩
    · rw [ifc_f c1, l0_]; omega
def SAT (wf wt ma : Nat → Int32) (mw dr se : Int32) (tl : Nat → Int32) (s : Nat) : Prop := ∀ o w : Nat, o < 4 → Wt wf wt mw dr s o w → Inb se o → (tl o).toInt = (ma o).toInt
theorem no_iw (b : WB wa wf wp wt ma mw) {tl : Nat → Int32} {s : Nat} (h : SAT wf wt ma mw dr se tl s) : ¬ IW ma wf wp wt mw tl (nI s) se dr := by
  rintro ⟨y, h1, h2, ⟨h3, h4⟩, h5, h6, h7⟩
  have hw := b.hw
  have ey : y = nI y.toInt.toNat := nI_sl h1
  have t := b.ht y.toInt.toNat (by omega)
  have et : wt y.toInt.toNat = nI (wt y.toInt.toNat).toInt.toNat := nI_sl t.1
  have h4 : ((se >>> (wt y.toInt.toNat &&& 31)) &&& 1).toInt = 1 := h4
  have h7 : ¬ (tl (wt y.toInt.toNat).toInt.toNat).toInt = (ma (wt y.toInt.toNat).toInt.toNat).toInt := h7
  refine h7 (h _ y.toInt.toNat (by omega) ⟨by omega, ?_, i_eq.mpr h5, et⟩ ?_)
  · unfold ND; rw [← ey]; exact i_eq.mpr (h3.trans t0_.symm)
  · unfold Inb; rw [← et]; intro h9; rw [h9, t0_] at h4; omega
def chkS (c : Nat) : Bool := !rowN c || (List.range 4).all fun j => !(setI (nI c) == (1 : Int32) <<< (nI j &&& 31)) || (lastI (nI c) == nI j && (nI c - nI c / 5 * 5 - 1 == nI j))
set_option maxRecDepth 100000 in
theorem chkS_all : ∀ c : Nat, c < 625 → chkS c = true := by decide +kernel
theorem may_one {o : Int32} {j : Nat} (h : RowI o) (hj : j < 4) (hs : setI o = (1 : Int32) <<< (nI j &&& 31)) : MayP ml o (nI j) := by
  obtain ⟨c, hc, hr, rfl⟩ := h
  have h1 := chkS_all c hc
  rw [chkS, Bool.or_eq_true] at h1
  rcases h1 with h1 | h1
  · rw [rowN, hr] at h1; exact absurd h1 (by decide)
  · have h2 := List.all_eq_true.mp h1 j (List.mem_range.mpr hj)
    rw [Bool.or_eq_true] at h2
    rcases h2 with h2 | h2
    · rw [hs] at h2; simp at h2
    · simp only [Bool.and_eq_true, beq_iff_eq] at h2
      unfold MayP
      rw [h2.1, h2.2]
      by_cases c2 : ml.toInt = 2
      · exact Or.inl c2
      · by_cases c0 : ml.toInt = 0
        · exact Or.inr (Or.inl ⟨c0, rfl⟩)
        · exact Or.inr (Or.inr ⟨c2, c0, rfl⟩)
theorem btn_one : ∀ s : Fin 4, btn (fun k => decide (k = s.val)) 4 = (1 : Int32) <<< (nI s.val &&& 31) := by decide +kernel
theorem bit_or : ∀ s : Fin 4, (0 ||| (1 : Int32) <<< (nI s.val &&& 31)) = (1 : Int32) <<< (nI s.val &&& 31) ∧ ((1 : Int32) <<< (nI s.val &&& 31) ||| (1 : Int32) <<< (nI s.val &&& 31)) = (1 : Int32) <<< (nI s.val &&& 31) ∧ (onesF ((1 : Int32) <<< (nI s.val &&& 31))).toInt = 1 := by decide +kernel
/-- a story that waits for nothing more can come: alone -/
theorem come (b : WB wa wf wp wt ma mw) (hR : RT co ro) {st : Int32} (h0 : 0 ≤ st.toInt) (hG : GS ma co st) {s : Nat} (hs : s < 4) (hi : Inb se s) (hn : ¬ (tds st s).toInt = (ma s).toInt) (hS : SAT wf wt ma mw dr se (tds st) s) (ho : ∀ j : Nat, j < 4 → ¬ j = s → opn ma (tds st) j = false) : ¬ (nxF ma mg mt wf wp wt mw ml co ro st (nI s) se 4 dr).toInt < 0 := by
  have cs : Int32.toNatClampNeg (nI s) = s := nI_clamp (show s < 2 ^ 31 by omega)
  have es : (nI s).toInt = (s : Int) := nI_toInt (by omega)
  have e4 := t4_
  have g := hG.1 s hs
  have hw := no_iw b hS
  have n1 : ¬ (tds st (nI s).toNatClampNeg).toInt = (ma (nI s).toNatClampNeg).toInt := by rw [cs]; exact hn
  have on := hG.one (s := nI s) ⟨by omega, by omega⟩ n1
  have bo : (0 ||| (1 : Int32) <<< (nI s &&& 31)) = (1 : Int32) <<< (nI s &&& 31) ∧ ((1 : Int32) <<< (nI s &&& 31) ||| (1 : Int32) <<< (nI s &&& 31)) = (1 : Int32) <<< (nI s &&& 31) ∧ (onesF ((1 : Int32) <<< (nI s &&& 31))).toInt = 1 := bit_or ⟨s, hs⟩
  have key : whyF ma mg mt wf wp wt mw ml (tds st) (opS co st) (nI s) se dr = -6 ∧ setI (o1F (tds st) (opS co st) (nI s)) = (1 : Int32) <<< (nI s &&& 31) := by
    by_cases c : 0 < (tds st s).toInt
    · have e : setI (opS co st) = (1 : Int32) <<< (nI s &&& 31) := by
        rw [hG.2.2, ← btn_one ⟨s, hs⟩]
        refine btn_cg 4 fun k hk => ?_
        show opn ma (tds st) k = decide (k = s)
        by_cases d : k = s
        · rw [d, opn_t (by omega)]; exact (decide_eq_true rfl).symm
        · rw [ho k hk d]; exact (decide_eq_false d).symm
      refine ⟨(whyF_6 n1 (by rw [cs]; exact c) (may_one hG.2.1 hs e) hw).symm, ?_⟩
      rw [on.2, e]; exact bo.2.1
    · have e : setI (opS co st) = 0 := by
        rw [hG.2.2, btn_0]
        intro k hk
        by_cases d : k = s
        · rw [d]; exact opn_f (by omega)
        · exact ho k hk d
      have z : (opS co st).toInt = 0 := by
        obtain ⟨c9, hc, hr, e9⟩ := hG.2.1
        rw [e9] at e ⊢
        rw [((rowR hc hr).2).mp e]; exact t0_
      have hh : ¬ HO mt (opS co st) (mt (nI s).toNatClampNeg) := by
        rintro ⟨y, h1, h2, h3, _⟩
        rw [t4_] at h2
        rw [e, nI_sl h1] at h3
        exact in_0 ⟨y.toInt.toNat, by omega⟩ (inb_b1.mp h3)
      refine ⟨(whyF_6b n1 (by rw [cs]; exact c) (Or.inl z) hh hw).symm, ?_⟩
      rw [on.2, e]; exact bo.1
  unfold nxF
  have i1 := inb_1 hi
  rw [ifc_f (by omega), key.1, ifc_f (by rw [tm6_]; omega), key.2, ifc_f (by have := bo.2.2; omega)]
  have hk := st_ok hR (hG.tell (s := nI s) ⟨by omega, by omega⟩ n1)
  omega
theorem eve_ex (b : WB wa wf wp wt ma mw) (hR : RT co ro) (hp : POk ma) (hno : ∀ U : Nat → Prop, ¬ RNG wf wt mw dr se U) (hW : WFX ma mg mt wf wp wt mw ml co ro se 4 dr wy) : ∀ (m : Nat) (st : Int32), 0 ≤ st.toInt → st.toInt < 40625 → 16 - sm st < (m : Int) → GS ma co st → (∀ j : Nat, j < 4 → ¬ Inb se j → (tds st j).toInt = 0) → ((∀ j : Nat, j < 4 → opn ma (tds st) j = false) ∨ ∃ s : Nat, s < 4 ∧ Inb se s ∧ opn ma (tds st) s = true ∧ (∀ j : Nat, j < 4 → ¬ j = s → opn ma (tds st) j = false) ∧ SAT wf wt ma mw dr se (tds st) s) → 0 < (wy st.toNatClampNeg).toInt := by
  intro m
  induction m with
  | zero => intro st h0 _ h2 _ _ _; have := sm_rng h0; omega
  | succ m ih =>
    intro st h0 h1 h2 hG hl hc
    have hs9 := sm_rng h0
    have c1 : CB ma (tds st) (opS co st) se := by
      refine ⟨fun y y0 y4 => ?_, hG.2.2.symm⟩
      rw [t4_] at y4
      have ey : y = nI y.toInt.toNat := nI_sl y0
      have g := hG.1 y.toInt.toNat (by omega)
      by_cases c : Inb se y.toInt.toNat
      · left; refine ⟨?_, g.2.1⟩; rw [ey]; exact inb_b1.mpr c
      · right; refine ⟨fun h => c ?_, ?_⟩
        · rw [ey] at h; exact inb_b1.mp h
        · have := hl y.toInt.toNat (by omega) c
          show (tds st y.toInt.toNat).toInt ≤ 0
          omega
    by_cases c2 : WH ma (tds st) se
    · rw [hW st h0 h1]; unfold wsF; rw [ifc_t c1, ifc_t c2, l1_]; omega
    -- the story that comes next
    have pick : ∃ s : Nat, s < 4 ∧ Inb se s ∧ ¬ (tds st s).toInt = (ma s).toInt ∧ SAT wf wt ma mw dr se (tds st) s ∧ ∀ j : Nat, j < 4 → ¬ j = s → opn ma (tds st) j = false := by
      rcases hc with hc | ⟨s, q1, q2, q3, q4, q5⟩
      · have ne : ∃ t : Nat, t < 4 ∧ (Inb se t ∧ ¬ (tds st t).toInt = (ma t).toInt) := by
          refine Classical.byContradiction fun h9 => c2 fun y y0 y4 => ?_
          rw [t4_] at y4
          have ey : y = nI y.toInt.toNat := nI_sl y0
          by_cases c : Inb se y.toInt.toNat
          · right
            refine Classical.byContradiction fun h8 => h9 ⟨y.toInt.toNat, by omega, c, h8⟩
          · left
            have := inb_n c
            rw [← ey] at this
            exact this
        refine Classical.byContradiction fun h9 => hno (fun t => Inb se t ∧ ¬ (tds st t).toInt = (ma t).toInt) ⟨ne, fun t _ hu => hu.1, fun t ht hu => ?_⟩
        refine Classical.byContradiction fun h8 => h9 ⟨t, ht, hu.1, hu.2, fun o w ho hw hi => ?_, fun j hj _ => hc j hj⟩
        exact Classical.byContradiction fun h7 => h8 ⟨o, w, ho, hw, hi, h7⟩
      · refine ⟨s, q1, q2, ?_, q5, q4⟩
        have := of_decide_eq_true q3
        omega
    obtain ⟨s, hs, hi, hn, hS, ho⟩ := pick
    have cs : Int32.toNatClampNeg (nI s) = s := nI_clamp (show s < 2 ^ 31 by omega)
    have es : (nI s).toInt = (s : Int) := nI_toInt (by omega)
    have g := hG.1 s hs
    have nx := come (mg := mg) (mt := mt) (ml := ml) b hR h0 hG hs hi hn hS ho
    have k := nx_ok hR h0 hG (show 0 ≤ (nI s).toInt ∧ (nI s).toInt ≤ 3 by omega) nx
    have k2 := tds_nx hR h0 hG (show 0 ≤ (nI s).toInt ∧ (nI s).toInt ≤ 3 by omega) nx
    rw [cs] at k2
    have t1 := t1_
    have ad := i_add (x := tds st s) (y := 1) (by omega) (by omega)
    have ts : tds (nxF ma mg mt wf wp wt mw ml co ro st (nI s) se 4 dr) s = tds st s + 1 := by rw [k2.2.1 s hs, upd_eq, if_pos rfl]
    have tj : ∀ j : Nat, j < 4 → ¬ j = s → tds (nxF ma mg mt wf wp wt mw ml co ro st (nI s) se 4 dr) j = tds st j := fun j hj hne => by rw [k2.2.1 j hj, upd_eq, if_neg hne]
    have oj : ∀ j : Nat, j < 4 → ¬ j = s → opn ma (tds (nxF ma mg mt wf wp wt mw ml co ro st (nI s) se 4 dr)) j = false := fun j hj hne => by
      have := ho j hj hne
      unfold opn at this ⊢
      rw [tj j hj hne]; exact this
    have pos : 0 < (wy (nxF ma mg mt wf wp wt mw ml co ro st (nI s) se 4 dr).toNatClampNeg).toInt := by
      refine ih _ k.1.1 k.1.2 (by have := k.2.2; omega) k.2.1 (fun j hj hni => ?_) ?_
      · have hne : ¬ j = s := fun h => hni (by rw [h]; exact hi)
        rw [tj j hj hne]; exact hl j hj hni
      · by_cases c : (tds st s).toInt + 1 = (ma s).toInt
        · left
          intro j hj
          by_cases e : j = s
          · rw [e]; refine opn_f ?_; rw [ts]; omega
          · exact oj j hj e
        · right
          refine ⟨s, hs, hi, opn_t (by rw [ts]; omega), oj, fun o w ho2 hw2 hi2 => ?_⟩
          have q := hS o w ho2 hw2 hi2
          have hne : ¬ o = s := fun h => hn (by rw [← h]; exact q)
          rw [tj o ho2 hne]; exact q
    have fin := (sw_bd (nx := fun s => nxF ma mg mt wf wp wt mw ml co ro st s se 4 dr) (w := wy) (B := 4294967296) (by omega) (by omega) 4 (Nat.le_refl 4) (fun j hj hn => by
      have ej : (nI j).toInt = (j : Int) := nI_toInt (by omega)
      have k := nx_ok hR h0 hG (show 0 ≤ (nI j).toInt ∧ (nI j).toInt ≤ 3 by omega) hn
      have q := ws_bd hR hp hW 17 _ k.1.1 k.1.2 (by have := sm_rng k.1.1; omega)
      have := bd_le (k := (16 - sm (nxF ma mg mt wf wp wt mw ml co ro st (nI j) se 4 dr)).toNat) (by have := sm_rng k.1.1; omega)
      omega)).2 s hs nx
    rw [hW st h0 h1]
    unfold wsF
    rw [ifc_t c1, ifc_f c2]
    omega
theorem ring_iff (b : WB wa wf wp wt ma mw) (hR : RT co ro) (hp : POk ma) (hs : 0 ≤ se.toInt ∧ se.toInt < 16) (hW : WFX ma mg mt wf wp wt mw ml co ro se 4 dr wy) : (rgI wa mw.toInt.toNat dr se 4 = 0 ∧ 0 < (wy 0).toInt) ∨ (¬ rgI wa mw.toInt.toNat dr se 4 = 0 ∧ wy 0 = 0) := by
  have z0 : (0 : Int32).toInt = 0 := t0_
  have s0 : sm 0 = 0 := by unfold sm; rw [tds0 0 (by omega), tds0 1 (by omega), tds0 2 (by omega), tds0 3 (by omega)]; rfl
  have hG : GS ma co 0 := GS.z hp hR.2.1
  have o0 : ∀ j : Nat, j < 4 → opn ma (tds 0) j = false := fun j hj => opn_f (by rw [tds0 j hj]; omega)
  by_cases c : rgI wa mw.toInt.toNat dr se 4 = 0
  · left
    refine ⟨c, ?_⟩
    have hno : ∀ U : Nat → Prop, ¬ RNG wf wt mw dr se U := fun U hU => by
      obtain ⟨t, ht, hu⟩ := hU.1
      have := rg_of b hU 4 t ht hu
      rw [c] at this
      exact in_0 ⟨t, ht⟩ this
    exact eve_ex b hR hp hno hW 17 0 (by omega) (by omega) (by omega) hG (fun j hj _ => tds0 j hj) (Or.inl o0)
  · right
    refine ⟨c, ?_⟩
    obtain ⟨U, hU⟩ := rg_to b hs c
    refine ring_0 b hR hp hU hW 17 0 (by omega) (by omega) (by omega) fun t ht hu => ?_
    obtain ⟨o, w, q1, q2, q3⟩ := hU.2.2 t ht hu
    refine ⟨o, w, q1, q2, q3, ?_⟩
    rw [tds0 t ht]
    have hw := b.hw
    exact (b.hp w (by have := q2.1; omega)).1
theorem bc_64 : ∀ d : Fin 64, bcF (nI d.val) = onesF (nI d.val) := by decide +kernel
theorem pc_eq {d : Nat} (h : d < 64) : pcB d = pcO d := by unfold pcB pcO; rw [show bcF (nI d) = onesF (nI d) from bc_64 ⟨d, h⟩]
/-- all waits dropped: no ring -/
theorem all_d : ∀ n : Fin 7, ∀ w : Fin 6, w.val < n.val → ¬ (nI (2 ^ n.val - 1) >>> (nI w.val &&& 31)) &&& 1 = 0 := by decide +kernel
theorem wt_all {a d : Int32} : ∀ n : Nat, (∀ w : Nat, w < n → ¬ (d >>> (nI w &&& 31)) &&& 1 = 0) → wtS wa a d n = 0 := by
  intro n
  induction n with
  | zero => intro _; rfl
  | succ n ih => intro h; rw [wtS, if_neg (fun q => h n (by omega) q.1.1)]; exact ih fun w hw => h w (by omega)
theorem rings_ok (b : WB wa wf wp wt ma mw) (hR : RT co ro) (hp : POk ma) {r mr : Int32} (h : RBS r (fun k => ¬ rgI wa mw.toInt.toNat 0 (nI k) 4 = 0) (fun k => rgI wa mw.toInt.toNat 0 (nI k) 4 = 0)) (h' : RBS mr (fun k => ∃ wy : Nat → Int64, WFX ma mg mt wf wp wt mw ml co ro (nI k) 4 0 wy ∧ wy 0 = 0) (fun k => ∃ wy : Nat → Int64, WFX ma mg mt wf wp wt mw ml co ro (nI k) 4 0 wy ∧ ¬ wy 0 = 0)) : r = mr := by
  refine h.eq h' fun k k1 k2 => ?_
  have ek : (nI k).toInt = (k : Int) := nI_toInt (by omega)
  constructor
  · rintro ⟨a, wy, c, d⟩
    rcases ring_iff b hR hp (by omega) c with q | q
    · exact a q.1
    · exact d q.2
  · rintro ⟨a, wy, c, d⟩
    rcases ring_iff b hR hp (by omega) c with q | q
    · have := q.2; rw [d, l0_] at this; omega
    · exact q.1 a
theorem drop_ok (b : WB wa wf wp wt ma mw) (hR : RT co ro) (hp : POk ma) {r mr : Int32} (hs : 0 ≤ se.toInt ∧ se.toInt < 16) (h : FDI wa mw.toInt.toNat se r (-1)) (h' : RDI (fun d wy => WFX ma mg mt wf wp wt mw ml co ro se 4 d wy) mr ((2 ^ mw.toInt.toNat : Nat) : Int)) : r = mr := by
  have hw := b.hw
  have p64 : 2 ^ mw.toInt.toNat ≤ 64 := Nat.pow_le_pow_right (n := 2) (by omega) (show mw.toInt.toNat ≤ 6 by omega)
  have p1 : 1 ≤ 2 ^ mw.toInt.toNat := Nat.two_pow_pos _
  have all0 : rgI wa mw.toInt.toNat (nI (2 ^ mw.toInt.toNat - 1)) se 4 = 0 := by
    show wtS wa _ _ _ = 0
    exact wt_all _ fun w hwn => all_d ⟨mw.toInt.toNat, by omega⟩ ⟨w, by omega⟩ hwn
  have yes : ∀ d : Nat, EVD (fun d wy => WFX ma mg mt wf wp wt mw ml co ro se 4 d wy) (nI d) → rgI wa mw.toInt.toNat (nI d) se 4 = 0 := by
    rintro d ⟨wy, q1, q2⟩
    rcases ring_iff b hR hp hs q1 with q | q
    · exact q.1
    · rw [q.2] at q2; exact absurd q2 (by omega)
  have no : ∀ d : Nat, NVD (fun d wy => WFX ma mg mt wf wp wt mw ml co ro se 4 d wy) (nI d) → ¬ rgI wa mw.toInt.toNat (nI d) se 4 = 0 := by
    rintro d ⟨wy, q1, q2⟩
    rcases ring_iff b hR hp hs q1 with q | q
    · rw [l0_] at q2; exact absurd q.2 q2
    · exact q.1
  obtain ⟨x, x1, x2, x3, x4⟩ := h
  have xr : rgI wa mw.toInt.toNat (nI x) se 4 = 0 := by
    rcases x3 with q | q
    · rw [q]; exact all0
    · exact q
  rcases h' with ⟨_, q⟩ | ⟨y, y1, y2, y3, y4⟩
  · exact absurd all0 (no _ (q (2 ^ mw.toInt.toNat - 1) (by omega)))
  · have a := x4 y (by omega) (by omega) (yes y y3)
    have c := (y4 x (by omega)).resolve_left (fun q => no x q xr)
    have ex := pc_eq (d := x) (by omega)
    have ey := pc_eq (d := y) (by omega)
    unfold LEX at a
    unfold LXO at c
    have : x = y := by omega
    rw [x2, y2, this]
end RG2
/-! LEVEL 4: a wait's part is one of its story; rings, waits to drop: the same answers -/
def WPC (pa wa : Nat → Int32) (wc : Int32) : Prop := ∀ j : Nat, (j : Int) < wc.toInt → (wa j).toInt / 10 % 10 < (pa ((wa j).toInt / 100).toNat).toInt
theorem WPC.z {pa wa : Nat → Int32} : WPC pa wa 0 := fun j hj => by rw [t0_] at hj; omega
theorem WPC.story {s c wc wc2 : Int32} {A M G : Prop} {M2 G2 : Prop} {pa wa pa2 wa2 : Nat → Int32} (h : WPC pa wa wc) (hwc : 0 ≤ wc.toInt ∧ wc.toInt ≤ 6) (hw : WOk wa wc) (hA : A → 0 ≤ s.toInt ∧ s.toInt ≤ 3) (hc : (¬ A → pa2 = pa ∧ M ∧ G ∧ wa2 = wa ∧ wc2 = wc) ∧ (A → pa2 = upd pa (Int32.toNatClampNeg s) c ∧ M2 ∧ G2 ∧ FL (wk wa s c) wc wa wc2 wa2)) : WPC pa2 wa2 wc2 := by
  by_cases a : A
  · obtain ⟨e1, _, _, f1, f2⟩ := hc.2 a
    have hs := hA a
    intro i hi
    obtain ⟨j, hj, hK, ej⟩ := kc_ex (K := wk wa s c) (i := i) wc.toInt.toNat (by omega)
    have hjc : (j : Int) < wc.toInt := by omega
    have e := f2 j hjc hK
    rw [ej] at e
    have q := h j hjc
    have o := hw j hjc
    unfold wo at o
    have k := of_decide_eq_true hK
    have ec : Int32.toNatClampNeg s = s.toInt.toNat := rfl
    rw [e, e1, upd_eq, ec]
    by_cases d : ((wa j).toInt / 100).toNat = s.toInt.toNat
    · rw [if_pos d]; omega
    · rw [if_neg d]; exact q
  · obtain ⟨rfl, _, _, rfl, rfl⟩ := hc.1 a
    exact h
theorem WPC.wait {pa wa wa2 : Nat → Int32} {s p o wc r wc2 : Int32} {E : Prop} (h : WPC pa wa wc) (hpa : POk pa) (hwc : 0 ≤ wc.toInt ∧ wc.toInt ≤ 6) (hc : WC pa s p o wc wa E r wc2 wa2) : WPC pa wa2 wc2 := by
  rcases hc with ⟨_, _, e1, e2⟩ | ⟨a, ⟨_, _, e1, e2⟩ | ⟨_, _, _, e1, e2⟩ | ⟨_, _, _, e1, e2⟩⟩
  · rw [e1, e2]; exact h
  · rw [e1, e2]; exact h
  · rw [e1, e2]; exact h
  · rw [e1, e2]
    have t1 := t1_
    have ad := i_add (x := wc) (y := 1) (by omega) (by omega)
    have ps := hpa (Int32.toNatClampNeg s) (by show s.toInt.toNat < 4; omega)
    have en := enc_i (a := s) (b := p) (c := o) (by omega) (by omega) (by omega)
    intro j hj
    rw [upd_eq]
    by_cases c : j = Int32.toNatClampNeg wc
    · rw [if_pos c, en]
      have : ((100 * s.toInt + 10 * p.toInt + o.toInt) / 100).toNat = Int32.toNatClampNeg s := by show _ = s.toInt.toNat; omega
      rw [this]
      omega
    · rw [if_neg c]
      have : ¬ j = wc.toInt.toNat := c
      exact h j (by omega)
theorem WPC.drop {pa wa wa2 : Nat → Int32} {a wc r wc2 : Int32} (h : WPC pa wa wc) (hwc : 0 ≤ wc.toInt ∧ wc.toInt ≤ 6) (hc : DR a wc wa r wc2 wa2) : WPC pa wa2 wc2 := by
  rcases hc with ⟨_, _, e1, e2⟩ | ⟨a1, _, e1, e2⟩
  · rw [e1, e2]; exact h
  · rw [e1]
    have t1 := t1_
    have sb := i_sub (x := wc) (y := 1) (by omega) (by omega)
    intro j hj
    rw [e2 j hj]
    by_cases c : (j : Int) < a.toInt
    · rw [if_pos c]; exact h j (by omega)
    · rw [if_neg c]; exact h (j + 1) (by omega)
theorem WPC.congr {pa mi ga te kn wa pa' mi' ga' te' kn' wa' : Nat → Int32} {wc la br wc' la' br' : Int32} (h : WPC pa' wa' wc') (hwc : 0 ≤ wc'.toInt ∧ wc'.toInt ≤ 6) (hw : WOk wa' wc') (e : EQB pa mi ga te kn wa wc la br pa' mi' ga' te' kn' wa' wc' la' br') : WPC pa wa wc := by
  obtain ⟨e1, _, _, _, _, e6, e7, _, _⟩ := e
  subst e7
  intro j hj
  have o := hw j hj
  unfold wo at o
  rw [e6 j (by omega), e1 _ (by omega)]
  exact h j hj
theorem WPC.res {kp a : Int32} {pa mi ga te kn wa p2 m2 g2 t2 k2 w2 p3 m3 g3 t3 k3 w3 p4 m4 g4 t4 k4 w4 : Nat → Int32} {wc la br wc2 la2 br2 wc3 la3 br3 wc4 la4 br4 : Int32} (h1 : WPC pa wa wc) (h2 : WPC p2 w2 wc2) (h3 : WPC p3 w3 wc3) (b1 : BOk pa te wa wc) (b2 : BOk p2 t2 w2 wc2) (b3 : BOk p3 t3 w3 wc3)
    (c0 : a.toInt = 0 → ¬ ((kp >>> (a &&& 31)) &&& 1).toInt = 0 → EQB p4 m4 g4 t4 k4 w4 wc4 la4 br4 p2 m2 g2 t2 k2 w2 wc2 la2 br2) (c1 : a.toInt = 1 → ¬ ((kp >>> (a &&& 31)) &&& 1).toInt = 0 → EQB p4 m4 g4 t4 k4 w4 wc4 la4 br4 p3 m3 g3 t3 k3 w3 wc3 la3 br3) (c2 : ¬ ((0 ≤ a.toInt ∧ a.toInt ≤ 1) ∧ ¬ ((kp >>> (a &&& 31)) &&& 1).toInt = 0) → EQB p4 m4 g4 t4 k4 w4 wc4 la4 br4 pa mi ga te kn wa wc la br) : WPC p4 w4 wc4 := by
  by_cases c : (0 ≤ a.toInt ∧ a.toInt ≤ 1) ∧ ¬ ((kp >>> (a &&& 31)) &&& 1).toInt = 0
  · by_cases d : a.toInt = 0
    · exact h2.congr b2.2.1 b2.2.2.1 (c0 d c.2)
    · exact h3.congr b3.2.1 b3.2.2.1 (c1 (by omega) c.2)
  · exact h1.congr b1.2.1 b1.2.2.1 (c2 c)
theorem WPC.img {a : Int32} {P Q R S : Prop} {p4 w4 p5 w5 : Nat → Int32} {wc4 wc5 : Int32} (i0 : P → WPC p4 w4 wc4) (i1 : R → WPC p5 w5 wc5) (i2 : S → WPC p4 w4 wc4) (i3 : Q → WPC p5 w5 wc5) (h0 : a.toInt = 0 → P ∧ Q) (h1 : a.toInt = 1 → R ∧ S) (h2 : ¬ (0 ≤ a.toInt ∧ a.toInt ≤ 1) → S ∧ Q) : WPC p4 w4 wc4 ∧ WPC p5 w5 wc5 := by
  by_cases c0 : a.toInt = 0
  · exact ⟨i0 (h0 c0).1, i3 (h0 c0).2⟩
  · by_cases c1 : a.toInt = 1
    · exact ⟨i2 (h1 c1).2, i1 (h1 c1).1⟩
    · exact ⟨i2 (h2 (by omega)).1, i3 (h2 (by omega)).2⟩
theorem BM.wb {pa mi ga te kn wa ma mm mg mt mk wf wp wt : Nat → Int32} {wc la br mw ml mb : Int32} (h : BM pa mi ga te kn wa wc la br ma mm mg mt mk wf wp wt mw ml mb) (hq : WPC pa wa wc) (hmw : 0 ≤ mw.toInt ∧ mw.toInt ≤ 6) (hf : SOk wf) (hp : SOk wp) (ht : SOk wt) : WB wa wf wp wt ma mw := by
  obtain ⟨⟨h1, h2, h3, h4, h5⟩, ⟨h6, h7, h8⟩, h9⟩ := h
  subst h6
  refine ⟨hmw, hf, hp, ht, h9, fun j hj => ?_⟩
  have a := hf j (by omega)
  have b := hp j (by omega)
  have c := ht j (by omega)
  have e := enc_i a b c
  rw [← h9 j hj] at e
  have q := hq j hj
  rw [show (wa j).toInt / 100 = (wf j).toInt by omega, h1 _ (by omega)] at q
  omega
theorem BM.rings {pa mi ga te kn wa ma mm mg mt mk wf wp wt co ro : Nat → Int32} {wc la br mw ml mb r mr : Int32} (h : BM pa mi ga te kn wa wc la br ma mm mg mt mk wf wp wt mw ml mb) (hq : WPC pa wa wc) (hmw : 0 ≤ mw.toInt ∧ mw.toInt ≤ 6) (hf : SOk wf) (hp : SOk wp) (ht : SOk wt) (hR : RT co ro) (hpa : POk ma) (hc : RBS r (fun k => ¬ rgI wa wc.toInt.toNat 0 (nI k) 4 = 0) (fun k => rgI wa wc.toInt.toNat 0 (nI k) 4 = 0)) (hm : RBS mr (fun k => ∃ wy : Nat → Int64, WFX ma mg mt wf wp wt mw ml co ro (nI k) 4 0 wy ∧ wy 0 = 0) (fun k => ∃ wy : Nat → Int64, WFX ma mg mt wf wp wt mw ml co ro (nI k) 4 0 wy ∧ ¬ wy 0 = 0)) : r = mr := by
  have b := h.wb hq hmw hf hp ht
  obtain ⟨_, ⟨h6, _, _⟩, _⟩ := h
  rw [h6] at hc
  exact rings_ok b hR hpa hc hm
theorem BM.dropped {pa mi ga te kn wa ma mm mg mt mk wf wp wt co ro : Nat → Int32} {wc la br mw ml mb a r mr : Int32} (h : BM pa mi ga te kn wa wc la br ma mm mg mt mk wf wp wt mw ml mb) (hq : WPC pa wa wc) (hmw : 0 ≤ mw.toInt ∧ mw.toInt ≤ 6) (hf : SOk wf) (hp : SOk wp) (ht : SOk wt) (hR : RT co ro) (hpa : POk ma) (hc : (¬ (1 ≤ a.toInt ∧ a.toInt ≤ 15) ∧ r = -2) ∨ ((1 ≤ a.toInt ∧ a.toInt ≤ 15) ∧ FDI wa wc.toInt.toNat a r (-1))) (hm : (¬ (1 ≤ a.toInt ∧ a.toInt ≤ 15) ∧ mr = -2) ∨ ((1 ≤ a.toInt ∧ a.toInt ≤ 15) ∧ RDI (fun d wy => WFX ma mg mt wf wp wt mw ml co ro a 4 d wy) mr ((2 ^ mw.toInt.toNat : Nat) : Int))) : r = mr := by
  have b := h.wb hq hmw hf hp ht
  obtain ⟨_, ⟨h6, _, _⟩, _⟩ := h
  rw [h6] at hc
  rcases hc with ⟨x, hc⟩ | ⟨x, hc⟩ <;> rcases hm with ⟨y, hm⟩ | ⟨y, hm⟩
  · rw [hc, hm]
  · exact absurd y x
  · exact absurd x y
  · exact drop_ok b hR hpa (by omega) hc hm
/-! LEVEL 5: all evenings by which a set is told out: the same number -/
theorem SB.self {pa ga te ne ma mg mt wf wp wt : Nat → Int32} {la mw : Int32} (h : SB pa ga te ne ma mg mt wf wp wt la mw) : SB pa ga te ne pa ga te wf wp wt la mw := ⟨fun _ _ => rfl, fun _ _ => rfl, fun _ _ => rfl, h.hT, h.hl, h.hw, h.hv, h.hn⟩
section GK
variable {pa ga te ne na nx pa2 ga2 te2 ne2 : Nat → Int32} {la la2 nt nt2 nd nz : Int32}
theorem gr_story (h : nt.toInt = 0 ∨ GRF pa ga te ne la nt nd na nx nz.toInt.toNat) (e : nt2 = 0 ∨ (nt2 = nt ∧ pa2 = pa ∧ ga2 = ga ∧ ne2 = ne)) : nt2.toInt = 0 ∨ GRF pa2 ga2 te ne2 la nt2 nd na nx nz.toInt.toNat := by
  rcases e with e | ⟨e, e1, e2, e3⟩
  · left; rw [e]; exact t0_
  · rw [e, e1, e2, e3]; exact h
theorem gr_te (h : nt.toInt = 0 ∨ GRF pa ga te ne la nt nd na nx nz.toInt.toNat) (e : nt2 = 0 ∨ (nt2 = nt ∧ te2 = te)) : nt2.toInt = 0 ∨ GRF pa ga te2 ne la nt2 nd na nx nz.toInt.toNat := by
  rcases e with e | ⟨e, e1⟩
  · left; rw [e]; exact t0_
  · rw [e, e1]; exact h
theorem gr_la (h : nt.toInt = 0 ∨ GRF pa ga te ne la nt nd na nx nz.toInt.toNat) (e : nt2 = 0 ∨ (nt2 = nt ∧ la2 = la)) : nt2.toInt = 0 ∨ GRF pa ga te ne la2 nt2 nd na nx nz.toInt.toNat := by
  rcases e with e | ⟨e, e1⟩
  · left; rw [e]; exact t0_
  · rw [e, e1]; exact h
theorem gr_ne (h : nt.toInt = 0 ∨ GRF pa ga te ne la nt nd na nx nz.toInt.toNat) (e : nt2 = 0 ∨ (nt2 = nt ∧ ne2 = ne)) : nt2.toInt = 0 ∨ GRF pa ga te ne2 la nt2 nd na nx nz.toInt.toNat := by
  rcases e with e | ⟨e, e1⟩
  · left; rw [e]; exact t0_
  · rw [e, e1]; exact h
theorem gr_all (h : nt.toInt = 0 ∨ GRF pa ga te ne la nt nd na nx nz.toInt.toNat) (e : nt2 = 0 ∨ (nt2 = nt ∧ pa2 = pa ∧ ga2 = ga ∧ te2 = te ∧ ne2 = ne ∧ la2 = la)) : nt2.toInt = 0 ∨ GRF pa2 ga2 te2 ne2 la2 nt2 nd na nx nz.toInt.toNat := by
  rcases e with e | ⟨e, e1, e2, e3, e4, e5⟩
  · left; rw [e]; exact t0_
  · rw [e, e1, e2, e3, e4, e5]; exact h
end GK
theorem NR.cg {la o n : Int32} {tl tl2 : Nat → Int32} (h : NR la tl o n) (e : ∀ j : Nat, j < 4 → tl2 j = tl j) : NR la tl2 o n := by
  refine ⟨h.1, fun j hj => by rw [e j hj]; exact h.2.1 j hj, ?_⟩
  have q := h.2.2
  unfold tN at q ⊢
  rw [e 0 (by omega), e 1 (by omega), e 2 (by omega), e 3 (by omega)]
  exact q
section WA
variable {pa ga te ne ma mg mt wf wp wt co ro na nx : Nat → Int32} {la mw se de nz : Int32} {nw wy : Nat → Int64}
/-- a part more: the same on both sides -/
theorem nx_cc (sb : SB pa ga te ne ma mg mt wf wp wt la mw) (hR : RT co ro) (hse : 0 ≤ se.toInt ∧ se.toInt < 16) {st n : Int32} {j : Nat} (h0 : 0 ≤ st.toInt) (hG : GS ma co st) (hN : NR la (tds st) (opS co st) n) (hj : j < 4) : (ccP pa ga te ne la se de n (nI j) ∧ ¬ (nxF ma mg mt wf wp wt mw la co ro st (nI j) se de 0).toInt < 0 ∧ NR la (tds (nxF ma mg mt wf wp wt mw la co ro st (nI j) se de 0)) (opS co (nxF ma mg mt wf wp wt mw la co ro st (nI j) se de 0)) (nxN pa ga te la n (nI j))) ∨ (¬ ccP pa ga te ne la se de n (nI j) ∧ (nxF ma mg mt wf wp wt mw la co ro st (nI j) se de 0).toInt < 0) := by
  have cj : Int32.toNatClampNeg (nI j) = j := nI_clamp (show j < 2 ^ 31 by omega)
  have ej : (nI j).toInt = (j : Int) := nI_toInt (by omega)
  have w := sb.why hG hN hj hse
  by_cases c1 : (se >>> (nI j &&& 31)) &&& 1 = 0
  · refine Or.inr ⟨fun h => h.1.1 c1, ?_⟩
    unfold nxF
    rw [ifc_t (by rw [c1]; exact t0_), tm6_]; omega
  have c1' : ¬ ((se >>> (nI j &&& 31)) &&& 1).toInt = 0 := fun h => c1 (i_eq.mpr (h.trans t0_.symm))
  rcases w with ⟨w1, w2⟩ | ⟨w1, w2, w3⟩
  · have w6 := why6 hj w1
    have hn : ¬ (tds st (nI j).toNatClampNeg).toInt = (ma (nI j).toNatClampNeg).toInt := by rw [cj]; exact w6.1
    have on := hG.one (s := nI j) ⟨by omega, by omega⟩ hn
    have eb : bcF (opC pa ga te n ||| ((1 : Int32) <<< (nI j &&& 31))) = onesF (setI (o1F (tds st) (opS co st) (nI j))) := by rw [sb.op hG hN, ← on.2, bc_set on.1]
    by_cases c3 : de.toInt < (onesF (setI (o1F (tds st) (opS co st) (nI j)))).toInt
    · refine Or.inr ⟨fun h => h.1.2 (by rw [eb]; exact c3), ?_⟩
      unfold nxF
      rw [ifc_f c1', ifc_f (by rw [w1, tm6_]; omega), ifc_t c3, tm6_]; omega
    · have hk := st_ok hR (hG.tell (s := nI j) ⟨by omega, by omega⟩ hn)
      have e : nxF ma mg mt wf wp wt mw la co ro st (nI j) se de 0 = stF ro (upd (tds st) (nI j).toNatClampNeg (tds st (nI j).toNatClampNeg + 1)) (o2F ma (tds st) (opS co st) (nI j)) := by
        unfold nxF
        rw [ifc_f c1', ifc_f (by rw [w1, tm6_]; omega), ifc_f c3]
      refine Or.inl ⟨⟨⟨c1, by rw [eb]; exact c3⟩, w2⟩, by rw [e]; omega, ?_⟩
      rw [e, hk.2.2]
      refine (sb.aft hG hN hj w1).cg fun k hk2 => ?_
      rw [hk.2.1 k hk2, cj]
  · refine Or.inr ⟨fun h => w3 h.2, ?_⟩
    unfold nxF
    rw [ifc_f c1', ifc_t ((whyF_v ..).resolve_left w1), tm6_]; omega
def SLm (se : Int32) (tl : Nat → Int32) : Prop := ∀ j : Nat, j < 4 → ¬ Inb se j → (tl j).toInt = 0
theorem cb_of {st : Int32} (hG : GS ma co st) (hl : SLm se (tds st)) : CB ma (tds st) (opS co st) se := by
  refine ⟨fun y y0 y4 => ?_, hG.2.2.symm⟩
  rw [t4_] at y4
  have ey : y = nI y.toInt.toNat := nI_sl y0
  have g := hG.1 y.toInt.toNat (by omega)
  by_cases c : Inb se y.toInt.toNat
  · left; refine ⟨?_, g.2.1⟩; rw [ey]; exact inb_b1.mpr c
  · right; refine ⟨fun h => c ?_, ?_⟩
    · rw [ey] at h; exact inb_b1.mp h
    · have := hl y.toInt.toNat (by omega) c
      show (tds st y.toInt.toNat).toInt ≤ 0
      omega
theorem ao_wh {st : Int32} {i : Nat} (hp : ∀ j : Nat, j < 4 → pa j = ma j) (hG : GS ma co st) (hN : NR la (tds st) (opS co st) (na i)) : AOt pa na se i ↔ WH ma (tds st) se := by
  unfold AOt WH
  constructor
  · intro h y y0 y4
    have q := h y y0 y4
    rw [t4_] at y4
    have ey : y = nI y.toInt.toNat := nI_sl y0
    have g := hG.1 y.toInt.toNat (by omega)
    have q : (se >>> (y &&& 31)) &&& 1 = 0 ∨ ¬ (ptI (na i) y).toInt < (pa y.toInt.toNat).toInt := q
    show ((se >>> (y &&& 31)) &&& 1).toInt = 0 ∨ (tds st y.toInt.toNat).toInt = (ma y.toInt.toNat).toInt
    rcases q with q | q
    · left; rw [q]; exact t0_
    · right
      have e : ptI (na i) y = tds st y.toInt.toNat := by rw [ey, NG.pt hN (by omega), ← ey]
      rw [e, hp _ (by omega)] at q
      omega
  · intro h y y0 y4
    have q := h y y0 y4
    rw [t4_] at y4
    have ey : y = nI y.toInt.toNat := nI_sl y0
    have q : ((se >>> (y &&& 31)) &&& 1).toInt = 0 ∨ (tds st y.toInt.toNat).toInt = (ma y.toInt.toNat).toInt := q
    show (se >>> (y &&& 31)) &&& 1 = 0 ∨ ¬ (ptI (na i) y).toInt < (pa y.toInt.toNat).toInt
    rcases q with q | q
    · left; exact i_eq.mpr (q.trans t0_.symm)
    · right
      have e : ptI (na i) y = tds st y.toInt.toNat := by rw [ey, NG.pt hN (by omega), ← ey]
      rw [e, hp _ (by omega)]
      omega
theorem ways_at (sb : SB pa ga te ne ma mg mt wf wp wt la mw) (hR : RT co ro) (hp : POk ma) (hse : 0 ≤ se.toInt ∧ se.toInt < 16) (g : GRF pa ga te ne la se de na nx nz.toInt.toNat) (w : WGX pa na nx se nz nw (-1)) (hW : WFX ma mg mt wf wp wt mw la co ro se de 0 wy) : ∀ (m i : Nat), nz.toInt.toNat - i < m → i < nz.toInt.toNat → ∀ st : Int32, 0 ≤ st.toInt → st.toInt < 40625 → GS ma co st → SLm se (tds st) → NR la (tds st) (opS co st) (na i) → wy st.toNatClampNeg = nw i := by
  intro m
  induction m with
  | zero => intro i h1 h2; omega
  | succ m ih =>
    intro i h1 h2 st s0 s1 hG hl hN
    have z4 := g.1.1.2.1
    have cb := cb_of hG hl
    have ao := ao_wh (na := na) (se := se) sb.hp hG hN
    rw [hW st s0 s1, w i (by omega) (by omega)]
    unfold wsF aoW
    rw [ifc_t cb]
    by_cases c : WH ma (tds st) se
    · rw [ifc_t c, ifc_t (ao.mpr c)]
      have z : ∀ k : Nat, k ≤ 4 → swC nx nz nw i 1 k = 1 := by
        intro k
        induction k with
        | zero => intro _; rfl
        | succ k ihk =>
          intro hk
          rw [swC, ihk (by omega)]
          have kk : (nI k).toInt = (k : Int) := nI_toInt (by omega)
          have e : nx (4 * i + k) = -6 := by
            rcases g.2 i k (by omega) h2 with ⟨q, _⟩ | ⟨_, q⟩
            · exfalso
              have wh : ((se >>> (nI k &&& 31)) &&& 1).toInt = 0 ∨ (tds st (nI k).toNatClampNeg).toInt = (ma (nI k).toNatClampNeg).toInt := c (nI k) (by omega) (by rw [t4_]; omega)
              rcases wh with u | u
              · exact q.1.1 (i_eq.mpr (u.trans t0_.symm))
              · rcases nx_cc (de := de) sb hR hse s0 hG hN (show k < 4 by omega) with ⟨_, v, _⟩ | ⟨v, _⟩
                · have e9 := (tds_nx hR s0 hG (show 0 ≤ (nI k).toInt ∧ (nI k).toInt ≤ 3 by omega) v).1.1
                  exact (whyF_out (by rw [e9, tm6_]; omega)) u
                · exact v q
            · exact q
          rw [e, if_neg (by rw [tm6_]; omega), Int64.add_zero]
      exact (z 4 (by omega)).symm
    · rw [ifc_f c, ifc_f (fun h => c (ao.mp h))]
      have z : ∀ k : Nat, k ≤ 4 → swF (fun s => nxF ma mg mt wf wp wt mw la co ro st s se de 0) wy k = swC nx nz nw i 0 k := by
        intro k
        induction k with
        | zero => intro _; rfl
        | succ k ihk =>
          intro hk
          rw [swF, swC, ihk (by omega)]
          have kk : (nI k).toInt = (k : Int) := nI_toInt (by omega)
          rcases nx_cc (de := de) sb hR hse s0 hG hN (show k < 4 by omega) with ⟨q1, q2, q3⟩ | ⟨q1, q2⟩
          · rcases g.2 i k (by omega) h2 with ⟨_, i2, ⟨k1, k2⟩, k3, k4⟩ | ⟨q, _⟩
            · have ok := nx_ok hR s0 hG (show 0 ≤ (nI k).toInt ∧ (nI k).toInt ≤ 3 by omega) q2
              have tn := tds_nx hR s0 hG (show 0 ≤ (nI k).toInt ∧ (nI k).toInt ≤ 3 by omega) q2
              have ei : (nI i2).toInt = (i2 : Int) := nI_toInt (by omega)
              rw [if_neg q2, k3, if_pos (by omega), ei]
              rw [← k4] at q3
              have := ih i2 (by omega) k2 _ ok.1.1 ok.1.2 ok.2.1 (fun j hj hni => by
                rw [tn.2.1 j hj, nI_clamp (show k < 2 ^ 31 by omega), upd_eq]
                by_cases e : j = k
                · exfalso; rw [e] at hni; exact hni q1.1.1
                · rw [if_neg e]; exact hl j hj hni) q3
              rw [this]
              rfl
            · exact absurd q1 q
          · rcases g.2 i k (by omega) h2 with ⟨q, _⟩ | ⟨_, q⟩
            · exact absurd q q1
            · rw [if_pos q2, q, if_neg (by rw [tm6_]; omega)]
      exact z 4 (by omega)
theorem ways_0 (sb : SB pa ga te ne ma mg mt wf wp wt la mw) (hR : RT co ro) (hp : POk ma) (hse : 0 ≤ se.toInt ∧ se.toInt < 16) (g : GRF pa ga te ne la se de na nx nz.toInt.toNat) (w : WGX pa na nx se nz nw (-1)) (hW : WFX ma mg mt wf wp wt mw la co ro se de 0 wy) : nw 0 = wy 0 := by
  have b := g.1.1
  refine (ways_at sb hR hp hse g w hW (nz.toInt.toNat + 1) 0 (by omega) (by omega) 0 (by rw [t0_]; omega) (by rw [t0_]; omega) (GS.z hp hR.2.1) (fun j hj _ => tds0 j hj) ?_).symm
  rw [b.2.2]
  exact nr_0 hR.2.1
end WA
theorem ways_ok {pa ga te ne ma mg mt wf wp wt co ro na2 nx2 : Nat → Int32} {la ml mw a b nz2 : Int32} {nw2 wy2 : Nat → Int64} {r mr : Int64} (sb : SB pa ga te ne ma mg mt wf wp wt la mw) (el : la = ml) (hR : RT co ro) (hp : POk ma) (h : (¬ ((1 ≤ a.toInt ∧ a.toInt ≤ 15) ∧ (1 ≤ b.toInt ∧ b.toInt ≤ 4)) ∧ r = -2) ∨ (((1 ≤ a.toInt ∧ a.toInt ≤ 15) ∧ (1 ≤ b.toInt ∧ b.toInt ≤ 4)) ∧ GRF pa ga te ne la a b na2 nx2 nz2.toInt.toNat ∧ WGX pa na2 nx2 a nz2 nw2 (-1) ∧ r = nw2 0)) (h' : (¬ ((1 ≤ a.toInt ∧ a.toInt ≤ 15) ∧ (1 ≤ b.toInt ∧ b.toInt ≤ 4)) ∧ mr = -2) ∨ (((1 ≤ a.toInt ∧ a.toInt ≤ 15) ∧ (1 ≤ b.toInt ∧ b.toInt ≤ 4)) ∧ WFX ma mg mt wf wp wt mw ml co ro a b 0 wy2 ∧ mr = wy2 0)) : r = mr := by
  subst el
  rcases h with ⟨x, h⟩ | ⟨x, g, w, h⟩ <;> rcases h' with ⟨y, h'⟩ | ⟨y, w', h'⟩
  · rw [h, h']
  · exact absurd y x
  · exact absurd x y
  · rw [h, h']
    exact ways_0 sb hR hp (by omega) g w w'
/-! LEVEL 5: what was heard: the same number -/
def HFX (ma mg mt wf wp wt : Nat → Int32) (mw ml : Int32) (co ro mm mp : Nat → Int32) (mz : Int32) (wy : Nat → Int64) : Prop := ∀ st : Int32, 0 ≤ st.toInt → st.toInt < 40625 → wy st.toNatClampNeg = hdF ma mg mt wf wp wt mw ml co ro mm mp mz wy st
theorem in_15 {j : Nat} (hj : j < 4) : Inb 15 j := by
  have h9 : ∀ j : Fin 4, ¬ ((15 : Int32) >>> (nI j.val &&& 31)) &&& 1 = 0 := by decide
  exact h9 ⟨j, hj⟩
theorem pt_sm {la n st : Int32} {co : Nat → Int32} (h0 : 0 ≤ st.toInt) (hN : NR la (tds st) (opS co st) n) : ptA n = tds st 0 + tds st 1 + tds st 2 + tds st 3 ∧ (ptA n).toInt = sm st := by
  have e : ptA n = tds st 0 + tds st 1 + tds st 2 + tds st 3 := by
    unfold ptA
    rw [show (0 : Int32) = nI 0 from rfl, show (1 : Int32) = nI 1 from rfl, show (2 : Int32) = nI 2 from rfl, show (3 : Int32) = nI 3 from rfl, NG.pt hN (by omega), NG.pt hN (by omega), NG.pt hN (by omega), NG.pt hN (by omega)]
  exact ⟨e, by rw [e]; exact told_i h0⟩
section HE
variable {pa ga te ne mi ma mg mt mm wf wp wt co ro na nx f : Nat → Int32} {la mw nz z : Int32} {nw wy : Nat → Int64}
/-- a part more that sounds so: the same on both sides -/
theorem sd_hn (sb : SB pa ga te ne ma mg mt wf wp wt la mw) (hm : ∀ j : Nat, j < 16 → mi j = mm j) (hR : RT co ro) (g : GRF pa ga te ne la 15 4 na nx nz.toInt.toNat) {st : Int32} {i k : Nat} (h0 : 0 ≤ st.toInt) (hi : i < nz.toInt.toNat) (hG : GS ma co st) (hN : NR la (tds st) (opS co st) (na i)) (hk : k < 4) :
    (sdA mi na nx f z nz (nI i) (nI k) (ptA (na i)) = -6 ∧ (hnF ma mg mt wf wp wt mw la co ro mm f z st (nI k)).toInt < 0) ∨ ∃ i2 : Nat, (i < i2 ∧ i2 < nz.toInt.toNat) ∧ sdA mi na nx f z nz (nI i) (nI k) (ptA (na i)) = nI i2 ∧ ¬ (hnF ma mg mt wf wp wt mw la co ro mm f z st (nI k)).toInt < 0 ∧ NR la (tds (hnF ma mg mt wf wp wt mw la co ro mm f z st (nI k))) (opS co (hnF ma mg mt wf wp wt mw la co ro mm f z st (nI k))) (na i2) := by
  have z4 := g.1.1.2.1
  have ei : (nI i).toInt = (i : Int) := nI_toInt (by omega)
  have ek : (nI k).toInt = (k : Int) := nI_toInt (by omega)
  have ci : Int32.toNatClampNeg (nI i) = i := nI_clamp (show i < 2 ^ 31 by omega)
  have ck : Int32.toNatClampNeg (nI k) = k := nI_clamp (show k < 2 ^ 31 by omega)
  have gk := hG.1 k hk
  have pe := pt_sm h0 hN
  have ti := told_i h0
  have ix := nd_ix (a := nI i) (s := nI k) (by omega) (by omega)
  rw [ei, ek] at ix
  have ix : Int32.toNatClampNeg (nI i * 4 + nI k) = 4 * i + k := by rw [ix]; omega
  have nocc : ¬ ccP pa ga te ne la 15 4 (na i) (nI k) → ndA nx nz (nI i) (nI k) = -6 := fun h => by
    rcases g.2 i k hk hi with ⟨q, _⟩ | ⟨_, q⟩
    · exact absurd q h
    · unfold ndA; rw [ix, q, if_neg (by rw [tm6_]; omega)]
  have sd6 : ndA nx nz (nI i) (nI k) = -6 → sdA mi na nx f z nz (nI i) (nI k) (ptA (na i)) = -6 := fun h => by
    unfold sdA
    split
    · exact h
    · rfl
  by_cases c1 : z.toInt ≤ (tds st 0 + tds st 1 + tds st 2 + tds st 3).toInt
  · left
    refine ⟨by unfold sdA; rw [if_neg (fun h => by have := h.1; rw [pe.1] at this; omega)], ?_⟩
    unfold hnF; rw [ifc_t (Or.inl c1), tm6_]; omega
  by_cases c2 : (tds st k).toInt = (ma k).toInt
  · left
    refine ⟨sd6 (nocc fun h => ?_), ?_⟩
    · rcases nx_cc (de := 4) (se := 15) sb hR (by decide) h0 hG hN hk with ⟨_, v, _⟩ | ⟨v, _⟩
      · have e9 := (tds_nx hR h0 hG (show 0 ≤ (nI k).toInt ∧ (nI k).toInt ≤ 3 by omega) v).1.1
        exact (whyF_out (by rw [e9, tm6_]; omega)) (by rw [ck]; exact c2)
      · exact v h
    · unfold hnF; rw [ifc_t (Or.inr (Or.inl (by rw [ck]; exact c2))), tm6_]; omega
  have x4 : 0 ≤ (tds st k).toInt ∧ (tds st k).toInt < 4 := by omega
  have ie := ix_eq hk x4
  have em : mnF mi (nI k) (ptI (na i) (nI k)) = mm (Int32.toNatClampNeg (4 * nI k + tds st (nI k).toNatClampNeg)) := by
    rw [NG.pt hN hk, ck]
    unfold mnF
    rw [if_pos (by omega), ie.1, ie.2]
    exact hm _ (by omega)
  by_cases c3 : (mm (Int32.toNatClampNeg (4 * nI k + tds st (nI k).toNatClampNeg))).toInt = (f (Int32.toNatClampNeg (tds st 0 + tds st 1 + tds st 2 + tds st 3)) - 48).toInt
  · have es : sdA mi na nx f z nz (nI i) (nI k) (ptA (na i)) = ndA nx nz (nI i) (nI k) := by
      unfold sdA
      rw [ci, if_pos ⟨by rw [pe.1]; omega, by rw [em, pe.1]; exact i_eq.mpr c3⟩]
    have eh : hnF ma mg mt wf wp wt mw la co ro mm f z st (nI k) = nxF ma mg mt wf wp wt mw la co ro st (nI k) 15 4 0 := by
      unfold hnF
      rw [ifc_f (fun h => by
        rcases h with h | h | h
        · exact c1 h
        · rw [ck] at h; exact c2 h
        · exact h c3)]
    rw [es, eh]
    rcases nx_cc (de := 4) (se := 15) sb hR (by decide) h0 hG hN hk with ⟨q1, q2, q3⟩ | ⟨q1, q2⟩
    · right
      rcases g.2 i k hk hi with ⟨_, i2, ⟨k1, k2⟩, k3, k4⟩ | ⟨q, _⟩
      · refine ⟨i2, ⟨k1, k2⟩, ?_, q2, by rw [k4]; exact q3⟩
        have e2 : (nI i2).toInt = (i2 : Int) := nI_toInt (by omega)
        unfold ndA; rw [ix, k3, if_pos (by omega)]
      · exact absurd q1 q
    · exact Or.inl ⟨nocc q1, q2⟩
  · left
    refine ⟨?_, ?_⟩
    · unfold sdA
      rw [ci, if_neg (fun h => c3 (by rw [← em, h.2, pe.1]))]
    · unfold hnF; rw [ifc_t (Or.inr (Or.inr c3)), tm6_]; omega
theorem heard_at (sb : SB pa ga te ne ma mg mt wf wp wt la mw) (hm : ∀ j : Nat, j < 16 → mi j = mm j) (hR : RT co ro) (hp : POk ma) (g : GRF pa ga te ne la 15 4 na nx nz.toInt.toNat) (w : HGX mi na nx f z nz nw (-1)) (hW : HFX ma mg mt wf wp wt mw la co ro mm f z wy) : ∀ (m i : Nat), nz.toInt.toNat - i < m → i < nz.toInt.toNat → ∀ st : Int32, 0 ≤ st.toInt → st.toInt < 40625 → GS ma co st → NR la (tds st) (opS co st) (na i) → wy st.toNatClampNeg = nw i := by
  intro m
  induction m with
  | zero => intro i h1 h2; omega
  | succ m ih =>
    intro i h1 h2 st s0 s1 hG hN
    have z4 := g.1.1.2.1
    have cb := cb_of (se := 15) hG (fun j hj h => absurd (in_15 hj) h)
    have pe := pt_sm s0 hN
    rw [hW st s0 s1, w i (by omega) (by omega)]
    have key : ∀ w0 : Int64, ∀ k : Nat, k ≤ 4 → shC mi na nx f z nz (nI i) (ptA (na i)) nw w0 k = w0 + swF (fun s => hnF ma mg mt wf wp wt mw la co ro mm f z st s) wy k := by
      intro w0 k
      induction k with
      | zero => intro _; rw [shC, swF, Int64.add_zero]
      | succ k ihk =>
        intro hk
        rw [shC, swF, ihk (by omega)]
        rcases sd_hn (f := f) (z := z) sb hm hR g s0 h2 hG hN (show k < 4 by omega) with ⟨q1, q2⟩ | ⟨i2, ⟨k1, k2⟩, q1, q2, q3⟩
        · rw [if_pos q1, if_pos q2, Int64.add_assoc]
        · have kk : (nI k).toInt = (k : Int) := nI_toInt (by omega)
          have ok := hn_ok hR s0 hG (show 0 ≤ (nI k).toInt ∧ (nI k).toInt ≤ 3 by omega) q2
          have e2 : (nI i2).toInt = (i2 : Int) := nI_toInt (by omega)
          rw [q1, if_neg (fun h => by rw [h, tm6_] at e2; omega), if_neg q2, ih i2 (by omega) k2 _ ok.1.1 ok.1.2 ok.2.1 q3, nI_clamp (show i2 < 2 ^ 31 by omega), Int64.add_assoc]
    rw [key _ 4 (Nat.le_refl 4)]
    by_cases c1 : sm st = z.toInt
    · rw [← hd_1 cb c1]
      have e0 : hgW na z i = 1 := if_pos (i_eq.mpr (pe.2.trans c1))
      rw [e0, sw_0 4 (fun j hj hn => by
        exfalso
        refine hn ?_
        unfold hnF
        rw [ifc_t (Or.inl (by rw [told_i s0]; omega)), tm6_]; omega)]
      rfl
    · have e0 : hgW na z i = 0 := if_neg (fun h => c1 (by rw [← pe.2, h]))
      rw [e0, Int64.zero_add]
      by_cases c2 : sm st < z.toInt
      · exact (hd_s cb c2).symm
      · rw [← hd_b c1 c2]
        exact (sw_0 4 (fun j hj hn => by
          exfalso
          refine hn ?_
          unfold hnF
          rw [ifc_t (Or.inl (by rw [told_i s0]; omega)), tm6_]; omega)).symm
end HE
theorem heard_ok {pa mi ga te kn wa ne ma mm mg mt mk wf wp wt co ro na2 nx2 f mp : Nat → Int32} {wc la br ml mb mw z mz nz2 : Int32} {nw2 wy2 : Nat → Int64} {r mr : Int64} (bm : BM pa mi ga te kn wa wc la br ma mm mg mt mk wf wp wt mw ml mb) (sb : SB pa ga te ne ma mg mt wf wp wt la mw) (hR : RT co ro) (hp : POk ma) (ez : z = mz) (ef : f = mp) (h : (¬ rfZ f 49 57 z = -6 ∧ r = -5) ∨ (rfZ f 49 57 z = -6 ∧ GRF pa ga te ne la 15 4 na2 nx2 nz2.toInt.toNat ∧ HGX mi na2 nx2 f z nz2 nw2 (-1) ∧ r = nw2 0)) (h' : (¬ rfZ mp 49 57 mz = -6 ∧ mr = -5) ∨ (rfZ mp 49 57 mz = -6 ∧ (∀ st : Int32, 0 ≤ st.toInt → st.toInt < 40625 → wy2 st.toNatClampNeg = hdF ma mg mt wf wp wt mw ml co ro mm mp mz wy2 st) ∧ mr = wy2 0)) : r = mr := by
  obtain ⟨⟨h1, h2, h3, h4, h5⟩, ⟨h6, h7, h8⟩, h9⟩ := bm
  subst h7 ez ef
  rcases h with ⟨x, h⟩ | ⟨x, g, w, h⟩ <;> rcases h' with ⟨y, h'⟩ | ⟨y, w', h'⟩
  · rw [h, h']
  · exact absurd y x
  · exact absurd x y
  · rw [h, h']
    have b := g.1.1
    refine (heard_at sb h2 hR hp g w w' (nz2.toInt.toNat + 1) 0 (by omega) (by omega) 0 (by rw [t0_]; omega) (by rw [t0_]; omega) (GS.z hp hR.2.1) ?_).symm
    rw [b.2.2]
    exact nr_0 hR.2.1
/-! LEVEL 6: the first evening that was heard: the same -/
section FI
variable {pa ga te ne mi ma mg mt mm wf wp wt co ro na nx f : Nat → Int32} {la mw ml nz z mz : Int32} {mp : Nat → Int32} {nw wy : Nat → Int64}
theorem hd_bd (hR : RT co ro) (hp : POk ma) (hW : HFX ma mg mt wf wp wt mw ml co ro mm mp mz wy) : ∀ (m : Nat) (st : Int32), 0 ≤ st.toInt → st.toInt < 40625 → 16 - sm st < (m : Int) → 0 ≤ (wy st.toNatClampNeg).toInt ∧ (wy st.toNatClampNeg).toInt ≤ bd (16 - sm st).toNat := by
  intro m
  induction m with
  | zero => intro st h0 _ h2; have := sm_rng h0; omega
  | succ m ih =>
    intro st h0 h1 h2
    have hs := sm_rng h0
    rw [hW st h0 h1]
    have b1 := bd_1 (16 - sm st).toNat
    by_cases c1 : CB ma (tds st) (opS co st) 15
    · have hG := c1.gd hp hR.1 h0
      by_cases c2 : sm st = mz.toInt
      · rw [← hd_1 c1 c2, l1_]; omega
      · by_cases c4 : sm st < mz.toInt
        · rw [← hd_s c1 c4]
          by_cases c3 : sm st = 16
          · rw [sw_0 4 (fun j hj hn => by
              have ej : (nI j).toInt = (j : Int) := nI_toInt (by omega)
              have k := hn_ok hR h0 hG (show 0 ≤ (nI j).toInt ∧ (nI j).toInt ≤ 3 by omega) hn
              have := sm_rng k.1.1
              omega), l0_]
            omega
          · have e : (16 - sm st).toNat = (16 - (sm st + 1)).toNat + 1 := by omega
            have q := (sw_bd (nx := fun s => hnF ma mg mt wf wp wt mw ml co ro mm mp mz st s) (w := wy) (B := bd (16 - (sm st + 1)).toNat) (by have := bd_1 (16 - (sm st + 1)).toNat; omega) (bd_le (by omega)) 4 (Nat.le_refl 4) (fun j hj hn => by
              have ej : (nI j).toInt = (j : Int) := nI_toInt (by omega)
              have k := hn_ok hR h0 hG (show 0 ≤ (nI j).toInt ∧ (nI j).toInt ≤ 3 by omega) hn
              have i := ih _ k.1.1 k.1.2 (by have := k.2.2; omega)
              rw [k.2.2] at i
              exact i)).1
            rw [e, bd_s]
            exact ⟨q.1, by have := q.2; omega⟩
        · rw [← hd_b c2 c4, l0_]; omega
    · rw [← hd_0 c1, l0_]; omega
/-- at a night and its stand: the same stories can come -/
theorem ok_eq (sb : SB pa ga te ne ma mg mt wf wp wt la mw) (hm : ∀ j : Nat, j < 16 → mi j = mm j) (hR : RT co ro) (hp : POk ma) (g : GRF pa ga te ne la 15 4 na nx nz.toInt.toNat) (w : HGX mi na nx f z nz nw (-1)) (hW : HFX ma mg mt wf wp wt mw la co ro mm f z wy) {st t : Int32} {i : Nat} (s0 : 0 ≤ st.toInt) (hi : i < nz.toInt.toNat) (hG : GS ma co st) (hN : NR la (tds st) (opS co st) (na i)) (ht : t.toInt = sm st) {k : Nat} (hk : k < 4) : okV mi na nx f z nz nw (nI i) t k = okR ma mg mt wf wp wt mw la co ro mm f z wy st k ∧ (okV mi na nx f z nz nw (nI i) t k = true → ∃ i2 : Nat, i2 < nz.toInt.toNat ∧ ndA nx nz (nI i) (nI k) = nI i2 ∧ NR la (tds (hnF ma mg mt wf wp wt mw la co ro mm f z st (nI k))) (opS co (hnF ma mg mt wf wp wt mw la co ro mm f z st (nI k))) (na i2)) := by
  have z4 := g.1.1.2.1
  have kk : (nI k).toInt = (k : Int) := nI_toInt (by omega)
  have pe := pt_sm s0 hN
  have et : t = ptA (na i) := i_eq.mpr (ht.trans pe.2.symm)
  unfold okV okR
  rw [et]
  rcases sd_hn (f := f) (z := z) sb hm hR g s0 hi hG hN hk with ⟨q1, q2⟩ | ⟨i2, ⟨k1, k2⟩, q1, q2, q3⟩
  · refine ⟨?_, fun h => absurd q1 (of_decide_eq_true h).1⟩
    exact Eq.trans (decide_eq_false fun h => h.1 q1) (Eq.symm (decide_eq_false fun h => h.1 q2))
  · have ok := hn_ok hR s0 hG (show 0 ≤ (nI k).toInt ∧ (nI k).toInt ≤ 3 by omega) q2
    have e2 : (nI i2).toInt = (i2 : Int) := nI_toInt (by omega)
    have ew := heard_at sb hm hR hp g w hW (nz.toInt.toNat + 1) i2 (by omega) k2 _ ok.1.1 ok.1.2 ok.2.1 q3
    have nn := (hd_bd hR hp hW 17 _ ok.1.1 ok.1.2 (by have := sm_rng ok.1.1; omega)).1
    have n6 : ¬ nI i2 = -6 := fun h => by rw [h, tm6_] at e2; omega
    have l0 := l0_
    rw [ew] at nn
    rw [q1, nI_clamp (show i2 < 2 ^ 31 by omega), ew]
    refine ⟨decide_eq_decide.mpr ⟨fun h => ⟨q2, fun h9 => by have := h.2; omega⟩, fun h => ⟨n6, by have := h.2; omega⟩⟩, fun _ => ⟨i2, k2, ?_, q3⟩⟩
    rcases sd_rng (mi := mi) (na := na) (nx := nx) (f := f) (z := z) (nz := nz) (a := nI i) (s := nI k) (t := ptA (na i)) with q | ⟨q, _, _⟩
    · exact absurd (q1.symm.trans q) n6
    · exact q.symm.trans q1
theorem first_at (sb : SB pa ga te ne ma mg mt wf wp wt la mw) (hm : ∀ j : Nat, j < 16 → mi j = mm j) (hR : RT co ro) (hp : POk ma) (g : GRF pa ga te ne la 15 4 na nx nz.toInt.toNat) (w : HGX mi na nx f z nz nw (-1)) (hW : HFX ma mg mt wf wp wt mw la co ro mm f z wy) {x : Int32} (hz : z.toInt ≤ 30) (hx : 0 ≤ x.toInt ∧ x.toInt < z.toInt) : ∀ (m : Nat) (i : Nat) (st t : Int32), (x.toInt - t.toInt).toNat < m → t.toInt ≤ x.toInt → i < nz.toInt.toNat → (0 ≤ st.toInt ∧ st.toInt < 40625) → GS ma co st → NR la (tds st) (opS co st) (na i) → t.toInt = sm st → ¬ (wy st.toNatClampNeg).toInt = 0 →
    flV (fun a t => fs4 (okV mi na nx f z nz nw a t)) (fun a s => ndA nx nz a s) x (z.toInt - t.toInt).toNat (nI i) t = frV (fun st => okR ma mg mt wf wp wt mw la co ro mm f z wy st) (fun st s => hnF ma mg mt wf wp wt mw la co ro mm f z st s) x (x.toInt + 1 - t.toInt).toNat st t := by
  intro m
  induction m with
  | zero => intro i st t h1; omega
  | succ m ih =>
    intro i st t h1 h2 hi hst hG hN ht hn
    have z4 := g.1.1.2.1
    have sr := sm_rng hst.1
    have t1 := t1_
    have ad := i_add (x := t) (y := 1) (by omega) (by omega)
    have e2 : (nI i).toInt = (i : Int) := nI_toInt (by omega)
    have n6 : ¬ nI i = -6 := fun h => by rw [h, tm6_] at e2; omega
    have cg := fs4_cg (fun k hk => (ok_eq sb hm hR hp g w hW hst.1 hi hG hN ht hk).1)
    obtain ⟨y, y1, y2, y3, y4⟩ := hd_ex (hW st hst.1 hst.2) hn (by omega)
    rw [t0_] at y1
    have ey : y = nI y.toInt.toNat := nI_sl y1
    have oky : okR ma mg mt wf wp wt mw la co ro mm f z wy st y.toInt.toNat = true := by
      unfold okR; rw [← ey]; exact decide_eq_true ⟨y3, y4⟩
    rcases fs4_v (okR ma mg mt wf wp wt mw la co ro mm f z wy st) with ⟨_, q⟩ | ⟨s, s4, es, so, _⟩
    · rw [q y.toInt.toNat (by omega)] at oky; exact absurd oky (by decide)
    · have k := ok_eq sb hm hR hp g w hW hst.1 hi hG hN ht s4
      obtain ⟨i2, j1, j2, j3⟩ := k.2 (k.1.trans so)
      have ss : (nI s).toInt = (s : Int) := nI_toInt (by omega)
      have s6 : ¬ nI s = -6 := fun h => by rw [h, tm6_] at ss; omega
      have od := of_decide_eq_true so
      have hk := hn_ok hR hst.1 hG (show 0 ≤ (nI s).toInt ∧ (nI s).toInt ≤ 3 by omega) od.1
      rw [show (z.toInt - t.toInt).toNat = (z.toInt - (t + 1).toInt).toNat + 1 by omega, show (x.toInt + 1 - t.toInt).toNat = (x.toInt + 1 - (t + 1).toInt).toNat + 1 by omega, flV, frV, if_neg n6]
      show (if fs4 (okV mi na nx f z nz nw (nI i) t) = -6 then (-6 : Int32) else if t = x then 97 + fs4 (okV mi na nx f z nz nw (nI i) t) else flV _ _ x _ (ndA nx nz (nI i) (fs4 (okV mi na nx f z nz nw (nI i) t))) (t + 1)) = (if t = x then 97 + fs4 (okR ma mg mt wf wp wt mw la co ro mm f z wy st) else frV _ _ x _ (hnF ma mg mt wf wp wt mw la co ro mm f z st (fs4 (okR ma mg mt wf wp wt mw la co ro mm f z wy st))) (t + 1))
      rw [cg, es, if_neg s6]
      by_cases c : t = x
      · rw [if_pos c, if_pos c]
      · rw [if_neg c, if_neg c, j2]
        have : ¬ t.toInt = x.toInt := fun h => c (i_eq.mpr h)
        exact ih i2 _ (t + 1) (by omega) (by omega) j1 hk.1 hk.2.1 j3 (by have := hk.2.2; omega) od.2
end FI
theorem first_ok {pa mi ga te kn wa ne ma mm mg mt mk wf wp wt co ro na2 nx2 f mp : Nat → Int32} {wc la br ml mb mw z mz nz2 i r mr : Int32} {nw2 wy2 : Nat → Int64} (bm : BM pa mi ga te kn wa wc la br ma mm mg mt mk wf wp wt mw ml mb) (sb : SB pa ga te ne ma mg mt wf wp wt la mw) (hR : RT co ro) (hp : POk ma) (hz : 0 ≤ z.toInt ∧ z.toInt ≤ 30) (ez : z = mz) (ef : f = mp) (h : (¬ rfZ f 49 57 z = -6 ∧ r = -5) ∨ (rfZ f 49 57 z = -6 ∧ GRF pa ga te ne la 15 4 na2 nx2 nz2.toInt.toNat ∧ ((¬ (0 ≤ i.toInt ∧ i.toInt < z.toInt) ∧ r = -6) ∨ ((0 ≤ i.toInt ∧ i.toInt < z.toInt) ∧ HGX mi na2 nx2 f z nz2 nw2 (-1) ∧ ((nw2 0 = 0 ∧ r = -6) ∨ (¬ nw2 0 = 0 ∧ r = flV (fun a t => fs4 (okV mi na2 nx2 f z nz2 nw2 a t)) (fun a s => ndA nx2 nz2 a s) i z.toInt.toNat 0 0)))))) (h' : (¬ rfZ mp 49 57 mz = -6 ∧ mr = -5) ∨ (rfZ mp 49 57 mz = -6 ∧ (∀ st : Int32, 0 ≤ st.toInt → st.toInt < 40625 → wy2 st.toNatClampNeg = hdF ma mg mt wf wp wt mw ml co ro mm mp mz wy2 st) ∧ (((wy2 0 = 0 ∨ ¬ (0 ≤ i.toInt ∧ i.toInt < mz.toInt)) ∧ mr = -6) ∨ ((¬ wy2 0 = 0 ∧ 0 ≤ i.toInt ∧ i.toInt < mz.toInt) ∧ mr = frV (fun st => okR ma mg mt wf wp wt mw ml co ro mm mp mz wy2 st) (fun st s => hnF ma mg mt wf wp wt mw ml co ro mm mp mz st s) i (i.toInt + 1).toNat 0 0)))) : r = mr := by
  obtain ⟨⟨h1, h2, h3, h4, h5⟩, ⟨h6, h7, h8⟩, h9⟩ := bm
  subst h7 ez ef
  rcases h with ⟨x, h⟩ | ⟨x, g, h⟩ <;> rcases h' with ⟨y, h'⟩ | ⟨y, w', h'⟩
  · rw [h, h']
  · exact absurd y x
  · exact absurd x y
  · have b := g.1.1
    rcases h with ⟨u, h⟩ | ⟨u, w, h⟩
    · rcases h' with ⟨_, h'⟩ | ⟨v, _⟩
      · rw [h, h']
      · exact absurd v.2 u
    · have n0 := nr_0 (la := la) hR.2.1
      have e0 : wy2 (Int32.toNatClampNeg 0) = nw2 0 := heard_at sb h2 hR hp g w w' (nz2.toInt.toNat + 1) 0 (by omega) (by omega) 0 (by rw [t0_]; omega) (by rw [t0_]; omega) (GS.z hp hR.2.1) (by rw [b.2.2]; exact n0)
      have e0 : wy2 0 = nw2 0 := e0
      rcases h with ⟨v, h⟩ | ⟨v, h⟩ <;> rcases h' with ⟨q, h'⟩ | ⟨q, h'⟩
      · rw [h, h']
      · exact absurd (e0.trans v) q.1
      · rcases q with q | q
        · exact absurd (e0.symm.trans q) v
        · exact absurd u q
      · rw [h, h']
        have s0 : sm 0 = 0 := by unfold sm; rw [tds0 0 (by omega), tds0 1 (by omega), tds0 2 (by omega), tds0 3 (by omega)]; rfl
        have := first_at sb h2 hR hp g w w' (x := i) hz.2 u ((i.toInt - (0 : Int32).toInt).toNat + 1) 0 0 0 (by omega) (by rw [t0_]; omega) (by omega) ⟨by rw [t0_]; omega, by rw [t0_]; omega⟩ (GS.z hp hR.2.1) (by rw [b.2.2]; exact n0) (by rw [t0_, s0]) (fun h => q.1 (Int64.toInt_inj.mp (h.trans l0_.symm)))
        rw [t0_, Int.sub_zero, Int.sub_zero] at this
        exact this
theorem img_ok {a r mr : Int32} (h : ((0 ≤ a.toInt ∧ a.toInt ≤ 1) → r = 1) ∧ (¬ (0 ≤ a.toInt ∧ a.toInt ≤ 1) → r = -2)) (h' : ((0 ≤ a.toInt ∧ a.toInt ≤ 1) → mr = 1) ∧ (¬ (0 ≤ a.toInt ∧ a.toInt ≤ 1) → mr = -2)) : r = mr := by
  by_cases c : 0 ≤ a.toInt ∧ a.toInt ≤ 1
  · rw [h.1 c, h'.1 c]
  · rw [h.2 c, h'.2 c]
theorem WOk.z {f : Nat → Int32} : WOk f 0 := fun j hj => by
  rw [t0_] at hj
  omega
