/-! THE CLAIM OUT OF ONE WALK OF THE LAW'S BODY. Your part is whole_start (and what it stands on); all else here is the same for every law, but numbers. -/
def R_law : String := "StoryNestLaw"
def lw_P (b : Addr) (xs : List Int32) (args : Array Value) (s : State) : Prop := args = #[.ref b] ∧ s.IntsAt b xs ∧ xs.length ≤ 2560 ∧ (Jvm.Cond.and given_1 narrow_1).before args s = true
def lw_Q (_ : Array Value) (s : State) (o : Outcome) (t : State) : Prop := o = .returned (some (.int 1)) ∧ Framed s o t [] 600000 7302249
def lw_Z (below : List Frame) (a : Array Value) (s : State) : State → Prop := fun t => ∃ o, t.status = .running ∧ Ended t below o ∧ lw_Q a s o t
/-- the law's own end, with 1 on the stack, nothing written that was there before, its room as the claim has it -/
theorem lw_ret {p : Program} {l : Launch} {e : Env} {s : State} {m : MethodId} {below : List Frame} {meth : Method} {c : Code} {b : Nat} (hx : p.tables.exec = Jvm.exec) (hb : c.code = code) (hr : meth.sig.returnType = ret) (hlocks : meth.locks = false) {pc : Nat} {H : Heap} {ls : Array Slot} (hdg : decode code pc = .ok (.ireturn, 1)) : W p l e room_1 s m #[Value.ref b] below meth c H [] 600000 7302249 (lw_Z below #[Value.ref b] s) (F0 m pc ls [.int 1]) := by
  intro T hT X
  obtain ⟨fs, hret, hrun, hended, hW, hframe⟩ := X.leave (v := some (.int 1)) (hlocks := hlocks) (fun h => by rw [hr] at h; cases h)
  have hmeth' : T.vm.method? m = some meth := X.method'
  refine ⟨T.setFrames fs, ?_, .returned (some (.int 1)), hrun, hended, rfl, ⟨_, rfl⟩, hW, hframe⟩
  jvm_step X.here [X.here.top, hx, hb, hdg, hmeth', hr, ret, narrow_b1]
  (try refine ⟨rfl, ?_⟩); (try refine ⟨rfl, ?_⟩)
  first | (intro acts; rw [hret _ acts rfl rfl rfl]) | rw [hret _ _ rfl rfl rfl]
  exact Steps.refl _
/-- what holds at the law's entry: the machine, the code, the tables' words (any of lw_tbl by 'hts w (by decide +kernel)'), the script of L ints xs at the cell b, what the Statement gives of the start (any of its parts by flat_of_before) -/
def lw_At (p : Program) (s : State) (m : MethodId) (meth : Method) (c : Code) (b L : Nat) (xs : Nat → Int32) : Prop :=
  p.tables.exec = Jvm.exec ∧ c.code = code ∧ meth.sig.returnType = ret ∧ c.maxLocals = 4 ∧ s.vm.findClass R_law = some m.cls ∧ (∀ w ∈ lw_tbl, w.before #[Value.ref b] s = true) ∧ va_X b L xs s s.heap ∧ b < s.heap.size ∧ meth.locks = false ∧ (Jvm.Cond.and given_1 narrow_1).before #[Value.ref b] s = true
theorem tn_0 : Cond.fieldLinkNest RX8 42 "StoryNest$Pad" "size" "I" "StoryNest" ∈ lw_tbl := List.mem_append_right _ (List.mem_append_left _ (List.mem_of_getElem? (i := 30) rfl))
theorem tn_1 : Cond.fieldLinkNest RX1 45 "StoryNest$Pad" "size" "I" "StoryNest" ∈ lw_tbl := List.mem_append_right _ (List.mem_append_left _ (List.mem_of_getElem? (i := 31) rfl))
theorem tn_2 : Cond.fieldLinkNest RX0 43 "StoryNest$Pad" "size" "I" "StoryNest" ∈ lw_tbl := List.mem_append_right _ (List.mem_append_left _ (List.mem_of_getElem? (i := 32) rfl))
theorem tn_3 : Cond.fieldLinkNest RX9 230 "StoryNest$Pad" "size" "I" "StoryNest" ∈ lw_tbl := List.mem_append_right _ (List.mem_append_left _ (List.mem_of_getElem? (i := 33) rfl))
theorem tn_4 : Cond.fieldLinkNest RX5 54 "StoryNest$Book" "parts" "[I" "StoryNest" ∈ lw_tbl := List.mem_append_right _ (List.mem_append_left _ (List.mem_of_getElem? (i := 47) rfl))
theorem tn_5 : Cond.fieldLinkNest RX3 32 "StoryNest$Book" "parts" "[I" "StoryNest" ∈ lw_tbl := List.mem_append_right _ (List.mem_append_left _ (List.mem_of_getElem? (i := 48) rfl))
theorem tn_6 : Cond.fieldLinkNest RX9 113 "StoryNest$Book" "parts" "[I" "StoryNest" ∈ lw_tbl := List.mem_append_right _ (List.mem_append_left _ (List.mem_of_getElem? (i := 49) rfl))
theorem tn_7 : Cond.fieldLinkNest RX4 91 "StoryNest$Book" "parts" "[I" "StoryNest" ∈ lw_tbl := List.mem_append_right _ (List.mem_append_left _ (List.mem_of_getElem? (i := 50) rfl))
theorem tn_8 : Cond.fieldLinkNest RX3 41 "StoryNest$Book" "gates" "[I" "StoryNest" ∈ lw_tbl := List.mem_append_right _ (List.mem_append_left _ (List.mem_of_getElem? (i := 53) rfl))
theorem tn_9 : Cond.fieldLinkNest RX9 124 "StoryNest$Book" "gates" "[I" "StoryNest" ∈ lw_tbl := List.mem_append_right _ (List.mem_append_left _ (List.mem_of_getElem? (i := 54) rfl))
theorem tn_10 : Cond.fieldLinkNest RX1 89 "StoryNest$Book" "tellers" "[I" "StoryNest" ∈ lw_tbl := List.mem_append_right _ (List.mem_append_left _ (List.mem_of_getElem? (i := 56) rfl))
theorem tn_11 : Cond.fieldLinkNest RX5 65 "StoryNest$Book" "tellers" "[I" "StoryNest" ∈ lw_tbl := List.mem_append_right _ (List.mem_append_left _ (List.mem_of_getElem? (i := 57) rfl))
theorem tn_12 : Cond.fieldLinkNest RX3 38 "StoryNest$Book" "tellers" "[I" "StoryNest" ∈ lw_tbl := List.mem_append_right _ (List.mem_append_left _ (List.mem_of_getElem? (i := 58) rfl))
theorem tn_13 : Cond.fieldLinkNest RX9 130 "StoryNest$Book" "tellers" "[I" "StoryNest" ∈ lw_tbl := List.mem_append_right _ (List.mem_append_left _ (List.mem_of_getElem? (i := 59) rfl))
theorem tn_14 : Cond.fieldLinkNest RX9 133 "StoryNest$Book" "known" "[I" "StoryNest" ∈ lw_tbl := List.mem_append_right _ (List.mem_append_left _ (List.mem_of_getElem? (i := 61) rfl))
theorem tn_15 : Cond.fieldLinkNest RX9 245 "StoryNest$Book" "waits" "[I" "StoryNest" ∈ lw_tbl := List.mem_append_right _ (List.mem_append_left _ (List.mem_of_getElem? (i := 63) rfl))
theorem tn_16 : Cond.fieldLinkNest RX3 61 "StoryNest$Book" "needs" "[I" "StoryNest" ∈ lw_tbl := List.mem_append_right _ (List.mem_append_left _ (List.mem_of_getElem? (i := 65) rfl))
theorem tn_17 : Cond.fieldLinkNest RX7 19 "StoryNest$Book" "waitCount" "I" "StoryNest" ∈ lw_tbl := List.mem_append_right _ (List.mem_append_left _ (List.mem_of_getElem? (i := 67) rfl))
theorem tn_18 : Cond.fieldLinkNest RX9 139 "StoryNest$Book" "waitCount" "I" "StoryNest" ∈ lw_tbl := List.mem_append_right _ (List.mem_append_left _ (List.mem_of_getElem? (i := 68) rfl))
theorem tn_19 : Cond.fieldLinkNest RX3 44 "StoryNest$Book" "law" "I" "StoryNest" ∈ lw_tbl := List.mem_append_right _ (List.mem_append_left _ (List.mem_of_getElem? (i := 70) rfl))
theorem tn_20 : Cond.fieldLinkNest RX9 149 "StoryNest$Book" "law" "I" "StoryNest" ∈ lw_tbl := List.mem_append_right _ (List.mem_append_left _ (List.mem_of_getElem? (i := 71) rfl))
theorem tn_21 : Cond.fieldLinkNest RX1 93 "StoryNest$Book" "breath" "I" "StoryNest" ∈ lw_tbl := List.mem_append_right _ (List.mem_append_left _ (List.mem_of_getElem? (i := 73) rfl))
theorem tn_22 : Cond.fieldLinkNest RX5 81 "StoryNest$Book" "breath" "I" "StoryNest" ∈ lw_tbl := List.mem_append_right _ (List.mem_append_left _ (List.mem_of_getElem? (i := 74) rfl))
theorem tn_23 : Cond.fieldLinkNest RX9 152 "StoryNest$Book" "breath" "I" "StoryNest" ∈ lw_tbl := List.mem_append_right _ (List.mem_append_left _ (List.mem_of_getElem? (i := 75) rfl))
theorem tn_24 : Cond.fieldLinkNest RX1 78 "StoryNest$Moment" "night" "I" "StoryNest" ∈ lw_tbl := List.mem_append_right _ (List.mem_append_left _ (List.mem_of_getElem? (i := 111) rfl))
theorem tn_25 : Cond.fieldLinkNest RX1 66 "StoryNest$Moment" "open" "I" "StoryNest" ∈ lw_tbl := List.mem_append_right _ (List.mem_append_left _ (List.mem_of_getElem? (i := 113) rfl))
theorem tn_26 : Cond.fieldLinkNest RX9 158 "StoryNest$Evening" "place" "I" "StoryNest" ∈ lw_tbl := List.mem_append_right _ (List.mem_append_left _ (List.mem_of_getElem? (i := 138) rfl))
theorem tn_27 : Cond.fieldLinkNest RX9 161 "StoryNest$Evening" "why" "I" "StoryNest" ∈ lw_tbl := List.mem_append_right _ (List.mem_append_left _ (List.mem_of_getElem? (i := 140) rfl))
theorem tn_28 : Cond.fieldLinkNest RX9 167 "StoryNest$Evening" "open" "I" "StoryNest" ∈ lw_tbl := List.mem_append_right _ (List.mem_append_left _ (List.mem_of_getElem? (i := 142) rfl))
theorem tn_29 : Cond.fieldLinkNest RX9 170 "StoryNest$Evening" "deep" "I" "StoryNest" ∈ lw_tbl := List.mem_append_right _ (List.mem_append_left _ (List.mem_of_getElem? (i := 144) rfl))
theorem tn_30 : Cond.fieldLinkNest RX9 173 "StoryNest$Evening" "minutes" "I" "StoryNest" ∈ lw_tbl := List.mem_append_right _ (List.mem_append_left _ (List.mem_of_getElem? (i := 146) rfl))
theorem tn_31 : Cond.fieldLinkNest RX8 33 "StoryNest$Nights" "nights" "[I" "StoryNest" ∈ lw_tbl := List.mem_append_right _ (List.mem_append_left _ (List.mem_of_getElem? (i := 175) rfl))
theorem tn_32 : Cond.fieldLinkNest RX2 41 "StoryNest$Nights" "nights" "[I" "StoryNest" ∈ lw_tbl := List.mem_append_right _ (List.mem_append_left _ (List.mem_of_getElem? (i := 176) rfl))
theorem tn_33 : Cond.fieldLinkNest RX2 33 "StoryNest$Nights" "worth" "[J" "StoryNest" ∈ lw_tbl := List.mem_append_right _ (List.mem_append_left _ (List.mem_of_getElem? (i := 179) rfl))
theorem tn_34 : Cond.fieldLinkNest RX5 41 "StoryNest$Nights" "worth" "[J" "StoryNest" ∈ lw_tbl := List.mem_append_right _ (List.mem_append_left _ (List.mem_of_getElem? (i := 180) rfl))
theorem tn_35 : Cond.fieldLinkNest RX8 49 "StoryNest$Nights" "worth" "[J" "StoryNest" ∈ lw_tbl := List.mem_append_right _ (List.mem_append_left _ (List.mem_of_getElem? (i := 181) rfl))
theorem tn_36 : Cond.fieldLinkNest RX5 27 "StoryNest$Nights" "size" "I" "StoryNest" ∈ lw_tbl := List.mem_append_right _ (List.mem_append_left _ (List.mem_of_getElem? (i := 184) rfl))
theorem tn_37 : Cond.fieldLinkNest RX2 15 "StoryNest$Nights" "size" "I" "StoryNest" ∈ lw_tbl := List.mem_append_right _ (List.mem_append_left _ (List.mem_of_getElem? (i := 185) rfl))
theorem tn_38 : Cond.fieldLinkNest RX8 29 "StoryNest$Nights" "size" "I" "StoryNest" ∈ lw_tbl := List.mem_append_right _ (List.mem_append_left _ (List.mem_of_getElem? (i := 186) rfl))
theorem tn_39 : Cond.fieldLinkNest RX5 51 "StoryNest$Nights" "set" "I" "StoryNest" ∈ lw_tbl := List.mem_append_right _ (List.mem_append_left _ (List.mem_of_getElem? (i := 189) rfl))
theorem tn_40 : Cond.methodLinkNest RX9 9 yX6_init "StoryNest" ∈ lw_tbl := List.mem_append_right _ (List.mem_append_left _ (List.mem_of_getElem? (i := 24) rfl))
theorem tn_41 : Cond.methodLinkNest RX6 23 yX9_isIn "StoryNest" ∈ lw_tbl := List.mem_append_right _ (List.mem_append_right _ (List.mem_append_left _ (List.mem_of_getElem? (i := 99) rfl)))
theorem tn_42 : Cond.methodLinkNest RX0 56 yX9_isIn "StoryNest" ∈ lw_tbl := List.mem_append_right _ (List.mem_append_right _ (List.mem_append_left _ (List.mem_of_getElem? (i := 151) rfl)))
theorem tn_43 : Cond.methodLinkNest RX1 54 yX9_isStory "StoryNest" ∈ lw_tbl := List.mem_append_right _ (List.mem_append_right _ (List.mem_append_left _ (List.mem_of_getElem? (i := 212) rfl)))
theorem tn_44 : Cond.methodLinkNest RX4 84 yX9_isIn "StoryNest" ∈ lw_tbl := List.mem_append_right _ (List.mem_append_right _ (List.mem_append_right _ (List.mem_append_left _ (List.mem_of_getElem? (i := 74) rfl))))
theorem tn_45 : Cond.methodLinkNest RX5 101 yX9_isIn "StoryNest" ∈ lw_tbl := List.mem_append_right _ (List.mem_append_right _ (List.mem_append_right _ (List.mem_append_left _ (List.mem_of_getElem? (i := 134) rfl))))
theorem tn_46 : Cond.methodLinkNest RX8 68 yX9_isIn "StoryNest" ∈ lw_tbl := List.mem_append_right _ (List.mem_append_right _ (List.mem_append_right _ (List.mem_append_left _ (List.mem_of_getElem? (i := 215) rfl))))
theorem nwl_in : ∀ w ∈ nwl, w ∈ lw_tbl := by
  intro w hw
  simp only [nwl, List.mem_cons, List.not_mem_nil, or_false] at hw
  rcases hw with rfl | rfl | rfl | rfl | rfl | rfl | rfl | rfl | rfl | rfl | rfl | rfl | rfl | rfl | rfl | rfl | rfl | rfl | rfl | rfl | rfl | rfl | rfl | rfl | rfl | rfl | rfl | rfl | rfl | rfl | rfl | rfl | rfl | rfl | rfl | rfl | rfl | rfl | rfl | rfl | rfl | rfl | rfl | rfl | rfl | rfl | rfl
  · exact tn_0
  · exact tn_1
  · exact tn_2
  · exact tn_3
  · exact tn_4
  · exact tn_5
  · exact tn_6
  · exact tn_7
  · exact tn_8
  · exact tn_9
  · exact tn_10
  · exact tn_11
  · exact tn_12
  · exact tn_13
  · exact tn_14
  · exact tn_15
  · exact tn_16
  · exact tn_17
  · exact tn_18
  · exact tn_19
  · exact tn_20
  · exact tn_21
  · exact tn_22
  · exact tn_23
  · exact tn_24
  · exact tn_25
  · exact tn_26
  · exact tn_27
  · exact tn_28
  · exact tn_29
  · exact tn_30
  · exact tn_31
  · exact tn_32
  · exact tn_33
  · exact tn_34
  · exact tn_35
  · exact tn_36
  · exact tn_37
  · exact tn_38
  · exact tn_39
  · exact tn_40
  · exact tn_41
  · exact tn_42
  · exact tn_43
  · exact tn_44
  · exact tn_45
  · exact tn_46
theorem ao_in : Cond.arrayOver (.object "StoryNest$Book") ∈ lw_tbl := List.mem_append_right _ (List.mem_append_left _ (List.mem_of_getElem? (i := 97) rfl))
theorem nwl_tab : ∀ w ∈ nwl, w.onTables = true := by
  intro w hw
  rcases nwl_kind w hw with ⟨a, i, b, n, d, h, rfl⟩ | ⟨a, i, x, h, rfl⟩ <;> rfl
theorem tys_of {s : State} {args : Array Value} (hts : ∀ w ∈ wsL_law, w.before args s = true) (ha : va_AO "StoryNest$Book" s) : ∃ cI cJ cZ cB : ClassId, ∀ (k : Nat) (q : ClassId × FieldType), [(cI, FieldType.int), (cJ, .long), (cZ, .boolean), (cB, .object "StoryNest$Book")][k]? = some q → ArrOfT s q.1 q.2 ∧ va_RA s q.1 q.2 := by
  obtain ⟨cI, kI, mI, fI, gI, hI⟩ := Cond.arrayClass_spec (hts _ wd_49)
  obtain ⟨cJ, kJ, mJ, fJ, gJ, hJ⟩ := Cond.arrayClass_spec (hts _ wd_84)
  obtain ⟨cZ, kZ, mZ, fZ, gZ, hZ⟩ := Cond.arrayClass_spec (hts _ wd_96)
  obtain ⟨comp, cB, kB, f1, f2, f3, f4, f5⟩ := Cond.arrayOver_spec ha
  refine ⟨cI, cJ, cZ, cB, fun k q hk => ?_⟩
  match k, hk with
  | 0, hk => cases hk; exact ⟨fun n z => ⟨fun k h => (by cases h), kI, gI, mI, hI⟩, fI⟩
  | 1, hk => cases hk; exact ⟨fun n z => ⟨fun k h => (by cases h), kJ, gJ, mJ, hJ⟩, fJ⟩
  | 2, hk => cases hk; exact ⟨fun n z => ⟨fun k h => (by cases h), kZ, gZ, mZ, hZ⟩, fZ⟩
  | 3, hk => cases hk; exact ⟨fun n z => ⟨fun k h => (by cases h), kB, f3, comp, f4⟩, kB, comp, f3, f4, f1, f5⟩
  | k + 4, hk => simp at hk
theorem u_all {s : State} {args : Array Value} (hts : ∀ w ∈ wsL_law, w.before args s = true) : ∃ D : va_G, ∀ (k : Nat) (q : vw_C), vwCl[k]? = some q → u_Kn s q.1 q.2.1 q.2.2 (D.1 k) (D.2 k) := by
  obtain ⟨c0, i0, k0⟩ := u_known (C := RX0) (T := TX0) (N := 10) (n := 10) hts inlX0 (hts _ wd_17)
  obtain ⟨c1, i1, k1⟩ := u_known (C := RX1) (T := TX1) (N := 8) (n := 8) hts inlX1 (hts _ wd_23)
  obtain ⟨c2, i2, k2⟩ := u_known (C := RX2) (T := TX2) (N := 1) (n := 1) hts inlX2 (hts _ wd_35)
  obtain ⟨c3, i3, k3⟩ := u_known (C := RX3) (T := TX3) (N := 7) (n := 7) hts inlX3 (hts _ wd_70)
  obtain ⟨c4, i4, k4⟩ := u_known (C := RX4) (T := TX4) (N := 10) (n := 10) hts inlX4 (hts _ wd_27)
  obtain ⟨c5, i5, k5⟩ := u_known (C := RX5) (T := TX5) (N := 4) (n := 4) hts inlX5 (hts _ wd_31)
  obtain ⟨c6, i6, k6⟩ := u_known (C := RX6) (T := TX6) (N := 2) (n := 2) hts inlX6 (hts _ wd_13)
  obtain ⟨c7, i7, k7⟩ := u_known (C := RX7) (T := TX7) (N := 1) (n := 1) hts inlX7 (hts _ wd_43)
  obtain ⟨c8, i8, k8⟩ := u_known (C := RX8) (T := TX8) (N := 4) (n := 4) hts inlX8 (hts _ wd_39)
  obtain ⟨c9, i9, k9⟩ := u_known (C := RX9) (T := TX9) (N := 10) (n := 10) hts inlX9 (hts _ wd_1)
  obtain ⟨c10, i10, k10⟩ := u_known (C := RX10) (T := TX10) (N := 30) (n := 30) hts inlX10 (hts _ wd_4)
  refine ⟨(fun k => if k = 0 then c0 else if k = 1 then c1 else if k = 2 then c2 else if k = 3 then c3 else if k = 4 then c4 else if k = 5 then c5 else if k = 6 then c6 else if k = 7 then c7 else if k = 8 then c8 else if k = 9 then c9 else c10, fun k => if k = 0 then i0 else if k = 1 then i1 else if k = 2 then i2 else if k = 3 then i3 else if k = 4 then i4 else if k = 5 then i5 else if k = 6 then i6 else if k = 7 then i7 else if k = 8 then i8 else if k = 9 then i9 else i10), ?_⟩
  intro k q hq
  match k, hq with
  | 0, hq => cases hq; exact k0
  | 1, hq => cases hq; exact k1
  | 2, hq => cases hq; exact k2
  | 3, hq => cases hq; exact k3
  | 4, hq => cases hq; exact k4
  | 5, hq => cases hq; exact k5
  | 6, hq => cases hq; exact k6
  | 7, hq => cases hq; exact k7
  | 8, hq => cases hq; exact k8
  | 9, hq => cases hq; exact k9
  | 10, hq => cases hq; exact k10
  | k + 11, hq => simp [vwCl] at hq
section XS
variable {X : Cx} {cc : ByteArray} {nL : Nat} {own : String} {rm : Room} {ws : va_W} {lv : List (Nat × Value)} {st : List Value} {pc k n : Nat}
theorem x_sld (C : Ok X cc nL own rm) {b L : Nat} {sc : Nat → Int32} (hX : va_X b L sc (xs X) (xs X).heap) (hbl : b < (xs X).heap.size) (hbA : ¬ xA X b) {i : Int32} (hd : decode cc pc = .ok (.iaload, 1)) (hin : vp_in i L) (kk : V X nL ws lv (.int (sc i.toNatClampNeg) :: st) (pc + 1) k n) : V X nL ws lv (.int i :: .ref b :: st) pc k n :=
  fun H locs ls hP hD hS hl => va_sld C.hx C.hb hX hbl hbA hS hin hd (kk H locs ls hP hD hS hl)
theorem x_slen (C : Ok X cc nL own rm) {b L : Nat} {sc : Nat → Int32} (hX : va_X b L sc (xs X) (xs X).heap) (hbl : b < (xs X).heap.size) (hbA : ¬ xA X b) (hd : decode cc pc = .ok (.arraylength, 1)) (kk : V X nL ws lv (.int (Int32.ofNat L) :: st) (pc + 1) k n) : V X nL ws lv (.ref b :: st) pc k n :=
  fun H locs ls hP hD hS hl => va_slen C.hx C.hb hX hbl hbA hS hd (kk H locs ls hP hD hS hl)
end XS
def SY (x z : Int32) (f : Nat → Int32) (r z2 : Int32) (f2 : Nat → Int32) : Prop := (¬ (33 ≤ x.toInt ∧ x.toInt ≤ 126) ∧ r = -2 ∧ z2 = z ∧ f2 = f) ∨ ((33 ≤ x.toInt ∧ x.toInt ≤ 126) ∧ z.toInt = 30 ∧ r = -4 ∧ z2 = z ∧ f2 = f) ∨ ((33 ≤ x.toInt ∧ x.toInt ≤ 126) ∧ z.toInt < 30 ∧ r = z + 1 ∧ z2 = z + 1 ∧ f2 = upd f z.toNatClampNeg x)
theorem say_ok {x z mz r z2 mr mz2 : Int32} {f mp f2 mp2 : Nat → Int32} (h : SY x z f r z2 f2) (h' : SY x mz mp mr mz2 mp2) (hz : 0 ≤ z.toInt ∧ z.toInt ≤ 30) (ez : z = mz) (ef : f = mp) : (0 ≤ z2.toInt ∧ z2.toInt ≤ 30) ∧ z2 = mz2 ∧ f2 = mp2 ∧ r = mr := by
  subst ez ef
  have := t1_
  unfold SY at h h'
  rcases h with ⟨a, rfl, rfl, rfl⟩ | ⟨a, a1, rfl, rfl, rfl⟩ | ⟨a, a1, rfl, rfl, rfl⟩ <;> rcases h' with ⟨b, rfl, rfl, rfl⟩ | ⟨b, b1, rfl, rfl, rfl⟩ | ⟨b, b1, rfl, rfl, rfl⟩
  · exact ⟨hz, rfl, rfl, rfl⟩
  · exact absurd b a
  · exact absurd b a
  · exact absurd a b
  · exact ⟨hz, rfl, rfl, rfl⟩
  · exfalso; omega
  · exact absurd a b
  · exfalso; omega
  · have := i_add (x := z) (y := 1) (by omega) (by omega)
    exact ⟨by omega, rfl, rfl, rfl⟩
theorem sto_ok {s z mz z2 mz2 : Int32} {f mp : Nat → Int32} (h : (¬ ((0 ≤ s.toInt ∧ s.toInt ≤ 3) ∧ sfZ f z = -6) ∧ z2 = z) ∨ (((0 ≤ s.toInt ∧ s.toInt ≤ 3) ∧ sfZ f z = -6) ∧ z2 = 0)) (h' : (¬ ((0 ≤ s.toInt ∧ s.toInt ≤ 3) ∧ sfZ mp mz = -6) ∧ mz2 = mz) ∨ (((0 ≤ s.toInt ∧ s.toInt ≤ 3) ∧ sfZ mp mz = -6) ∧ mz2 = 0)) (hz : 0 ≤ z.toInt ∧ z.toInt ≤ 30) (ez : z = mz) (ef : f = mp) : (0 ≤ z2.toInt ∧ z2.toInt ≤ 30) ∧ z2 = mz2 := by
  subst ez ef
  rcases h with ⟨a, rfl⟩ | ⟨a, rfl⟩ <;> rcases h' with ⟨b, rfl⟩ | ⟨b, rfl⟩
  · exact ⟨hz, rfl⟩
  · exact absurd b a
  · exact absurd a b
  · exact ⟨by decide, rfl⟩
/-- which images are kept -/
def RK (kp : Int32) (ik : Nat → Int32) : Prop := (0 ≤ kp.toInt ∧ kp.toInt ≤ 3) ∧ ∀ a : Int32, (0 ≤ a.toInt ∧ a.toInt ≤ 1) → (((kp >>> (a &&& 31)) &&& 1).toInt = 0 ↔ (ik a.toNatClampNeg).toInt = 0)
theorem RK.z : RK 0 (fun _ => 0) := ⟨by decide, fun a ha => ⟨fun _ => t0_, fun _ => by
  obtain ⟨j, hj, rfl⟩ : ∃ j : Nat, j < 2 ∧ a = nI j := ⟨a.toInt.toNat, by omega, nI_self ha.1⟩
  have h9 : ∀ j : Fin 2, (((0 : Int32) >>> (nI j.val &&& 31)) &&& 1).toInt = 0 := by decide
  exact h9 ⟨j, hj⟩⟩⟩
theorem RK.img {kp a kp2 : Int32} {ik ik2 : Nat → Int32} (h : RK kp ik) (hc : ((0 ≤ a.toInt ∧ a.toInt ≤ 1) → kp2 = kp ||| ((1 : Int32) <<< (a &&& 31))) ∧ (¬ (0 ≤ a.toInt ∧ a.toInt ≤ 1) → kp2 = kp)) (hm : ((0 ≤ a.toInt ∧ a.toInt ≤ 1) → ik2 = upd ik (Int32.toNatClampNeg a) 1) ∧ (¬ (0 ≤ a.toInt ∧ a.toInt ≤ 1) → ik2 = ik)) : RK kp2 ik2 := by
  by_cases c : 0 ≤ a.toInt ∧ a.toInt ≤ 1
  · rw [hc.1 c, hm.1 c]
    obtain ⟨i, hi, e1⟩ : ∃ i : Nat, i < 4 ∧ kp = nI i := ⟨kp.toInt.toNat, by have := h.1; omega, nI_self h.1.1⟩
    obtain ⟨j, hj, e2⟩ : ∃ j : Nat, j < 2 ∧ a = nI j := ⟨a.toInt.toNat, by omega, nI_self c.1⟩
    have h8 : ∀ i : Fin 4, ∀ j : Fin 2, 0 ≤ (nI i.val ||| ((1 : Int32) <<< (nI j.val &&& 31))).toInt ∧ (nI i.val ||| ((1 : Int32) <<< (nI j.val &&& 31))).toInt ≤ 3 := by decide
    have h9 : ∀ i : Fin 4, ∀ j k : Fin 2, (((nI i.val ||| ((1 : Int32) <<< (nI j.val &&& 31))) >>> (nI k.val &&& 31)) &&& 1).toInt = if k = j then 1 else ((nI i.val >>> (nI k.val &&& 31)) &&& 1).toInt := by decide
    refine ⟨by rw [e1, e2]; exact h8 ⟨i, hi⟩ ⟨j, hj⟩, fun b hb => ?_⟩
    obtain ⟨k, hk, e3⟩ : ∃ k : Nat, k < 2 ∧ b = nI k := ⟨b.toInt.toNat, by omega, nI_self hb.1⟩
    have h7 := h.2 b hb
    have h6 := h9 ⟨i, hi⟩ ⟨j, hj⟩ ⟨k, hk⟩
    rw [e1, e3] at h7
    rw [e1, e2, e3, upd_eq, nI_clamp (show k < 2 ^ 31 by omega), nI_clamp (show j < 2 ^ 31 by omega)]
    rw [nI_clamp (show k < 2 ^ 31 by omega)] at h7
    by_cases q : k = j
    · subst q
      rw [if_pos rfl] at h6
      rw [if_pos rfl, t1_]
      have h6 : (((nI i ||| ((1 : Int32) <<< (nI k &&& 31))) >>> (nI k &&& 31)) &&& 1).toInt = 1 := h6
      omega
    · rw [if_neg (fun h => q (Fin.mk.inj h))] at h6
      rw [if_neg q, ← h7]
      have h6 : (((nI i ||| ((1 : Int32) <<< (nI j &&& 31))) >>> (nI k &&& 31)) &&& 1).toInt = ((nI i >>> (nI k &&& 31)) &&& 1).toInt := h6
      rw [h6]
  · rw [hc.2 c, hm.2 c]; exact h
theorem res_ok {kp a r mr : Int32} {ik : Nat → Int32} (h : RK kp ik) (hc : (¬ (0 ≤ a.toInt ∧ a.toInt ≤ 1) → r = -2) ∧ ((0 ≤ a.toInt ∧ a.toInt ≤ 1) → ((kp >>> (a &&& 31)) &&& 1).toInt = 0 → r = -3) ∧ ((0 ≤ a.toInt ∧ a.toInt ≤ 1) → ¬ ((kp >>> (a &&& 31)) &&& 1).toInt = 0 → r = 1)) (hm : (¬ (0 ≤ a.toInt ∧ a.toInt ≤ 1) → mr = -2) ∧ ((0 ≤ a.toInt ∧ a.toInt ≤ 1) → (ik (Int32.toNatClampNeg a)).toInt = 0 → mr = -3) ∧ ((0 ≤ a.toInt ∧ a.toInt ≤ 1) → ¬ (ik (Int32.toNatClampNeg a)).toInt = 0 → mr = 1)) : r = mr := by
  by_cases c : 0 ≤ a.toInt ∧ a.toInt ≤ 1
  · have h7 := h.2 a c
    by_cases b : ((kp >>> (a &&& 31)) &&& 1).toInt = 0
    · rw [hc.2.1 c b, hm.2.1 c (h7.mp b)]
    · rw [hc.2.2 c b, hm.2.2 c (fun h => b (h7.mpr h))]
  · rw [hc.1 c, hm.1 c]
theorem stz_ok {s z mz r mr : Int32} {f mp : Nat → Int32} (h : (¬ (0 ≤ s.toInt ∧ s.toInt ≤ 3) → r = -1) ∧ ((0 ≤ s.toInt ∧ s.toInt ≤ 3) → ¬ sfZ f z = -6 → r = -5) ∧ ((0 ≤ s.toInt ∧ s.toInt ≤ 3) → sfZ f z = -6 → r = ctL f z.toInt.toNat)) (h' : (¬ (0 ≤ s.toInt ∧ s.toInt ≤ 3) → mr = -1) ∧ ((0 ≤ s.toInt ∧ s.toInt ≤ 3) → ¬ sfZ mp mz = -6 → mr = -5) ∧ ((0 ≤ s.toInt ∧ s.toInt ≤ 3) → sfZ mp mz = -6 → mr = ctL mp mz.toInt.toNat)) (ez : z = mz) (ef : f = mp) : r = mr := by
  subst ez ef
  by_cases c : 0 ≤ s.toInt ∧ s.toInt ≤ 3
  · by_cases b : sfZ f z = -6
    · rw [h.2.2 c b, h'.2.2 c b]
    · rw [h.2.1 c b, h'.2.1 c b]
  · rw [h.1 c, h'.1 c]
theorem flt_ok {a z mz r mr : Int32} {f mp : Nat → Int32} (h : (a.toInt = 0 → r = sfZ f z) ∧ (a.toInt = 1 → r = rfZ f 97 100 z) ∧ (a.toInt = 2 → r = rfZ f 49 57 z) ∧ (¬ (0 ≤ a.toInt ∧ a.toInt ≤ 2) → r = -2)) (h' : (a.toInt = 0 → mr = sfZ mp mz) ∧ (a.toInt = 1 → mr = rfZ mp 97 100 mz) ∧ (a.toInt = 2 → mr = rfZ mp 49 57 mz) ∧ (¬ (0 ≤ a.toInt ∧ a.toInt ≤ 2) → mr = -2)) (ez : z = mz) (ef : f = mp) : r = mr := by
  subst ez ef
  by_cases c0 : a.toInt = 0
  · rw [h.1 c0, h'.1 c0]
  by_cases c1 : a.toInt = 1
  · rw [h.2.1 c1, h'.2.1 c1]
  by_cases c2 : a.toInt = 2
  · rw [h.2.2.1 c2, h'.2.2.1 c2]
  rw [h.2.2.2 (by omega), h'.2.2.2 (by omega)]
/-- kept from omega -/
def Hid (P : Prop) : Prop := P
/-! THE TWO BOOKS -/
def BM (pa mi ga te kn wa : Nat → Int32) (wc la br : Int32) (ma mm mg mt mk wf wp wt : Nat → Int32) (mw ml mb : Int32) : Prop := (EQn 4 pa ma ∧ EQn 16 mi mm ∧ EQn 4 ga mg ∧ EQn 4 te mt ∧ EQn 4 kn mk) ∧ (wc = mw ∧ la = ml ∧ br = mb) ∧ ∀ j : Nat, (j : Int) < mw.toInt → wa j = 100 * wf j + 10 * wp j + wt j
/-- the same of an image, and the row in which the reference keeps it -/
def BK (pa mi ga te kn wa : Nat → Int32) (wc la br : Int32) (kt : Nat → Int32) (b : Nat) : Prop := BM pa mi ga te kn wa wc la br (fun j => kt (b + 3 + 4 * j)) (fun j => kt (b + 19 + 1 * j)) (fun j => kt (b + 4 + 4 * j)) (fun j => kt (b + 5 + 4 * j)) (fun j => kt (b + 6 + 4 * j)) (fun j => kt (b + 35 + 3 * j)) (fun j => kt (b + 36 + 3 * j)) (fun j => kt (b + 37 + 3 * j)) (kt b) (kt (b + 1)) (kt (b + 2))
def IBk (kp a : Int32) (pa mi ga te kn wa : Nat → Int32) (wc la br : Int32) (kt : Nat → Int32) (b : Nat) : Prop := ¬ ((kp >>> (a &&& 31)) &&& 1).toInt = 0 → BK pa mi ga te kn wa wc la br kt b
theorem enc_i {a b c : Int32} (ha : 0 ≤ a.toInt ∧ a.toInt ≤ 3) (hb : 0 ≤ b.toInt ∧ b.toInt ≤ 3) (hc : 0 ≤ c.toInt ∧ c.toInt ≤ 3) : (100 * a + 10 * b + c).toInt = 100 * a.toInt + 10 * b.toInt + c.toInt := by
  have := i_mull (x := 100) (y := a) (d := 100) (by decide) (by omega) (by omega)
  have := i_mull (x := 10) (y := b) (d := 10) (by decide) (by omega) (by omega)
  have := i_add (x := 100 * a) (y := 10 * b) (by omega) (by omega)
  have := i_add (x := 100 * a + 10 * b) (y := c) (by omega) (by omega)
  omega
section BMs
variable {pa mi ga te kn wa : Nat → Int32} {wc la br : Int32} {ma mm mg mt mk wf wp wt : Nat → Int32} {mw ml mb : Int32}
theorem BM.congr {pa' mi' ga' te' kn' wa' : Nat → Int32} {wc' la' br' : Int32} (h : BM pa mi ga te kn wa wc la br ma mm mg mt mk wf wp wt mw ml mb) (he : EQB pa' mi' ga' te' kn' wa' wc' la' br' pa mi ga te kn wa wc la br) (hw : mw.toInt ≤ 6) : BM pa' mi' ga' te' kn' wa' wc' la' br' ma mm mg mt mk wf wp wt mw ml mb := by
  obtain ⟨⟨h1, h2, h3, h4, h5⟩, ⟨h6, h7, h8⟩, h9⟩ := h
  obtain ⟨e1, e2, e3, e4, e5, e6, e7, e8, e9⟩ := he
  exact ⟨⟨fun j hj => (e1 j hj).trans (h1 j hj), fun j hj => (e2 j hj).trans (h2 j hj), fun j hj => (e3 j hj).trans (h3 j hj), fun j hj => (e4 j hj).trans (h4 j hj), fun j hj => (e5 j hj).trans (h5 j hj)⟩, ⟨e7.trans h6, e8.trans h7, e9.trans h8⟩, fun j hj => (e6 j (by omega)).trans (h9 j hj)⟩
theorem BM.right {ma' mm' mg' mt' mk' wf' wp' wt' : Nat → Int32} {mw' ml' mb' : Int32} (h : BM pa mi ga te kn wa wc la br ma mm mg mt mk wf wp wt mw ml mb) (e1 : EQn 4 ma ma') (e2 : EQn 16 mm mm') (e3 : EQn 4 mg mg') (e4 : EQn 4 mt mt') (e5 : EQn 4 mk mk') (e6 : EQn 6 wf wf') (e7 : EQn 6 wp wp') (e8 : EQn 6 wt wt') (e9 : mw = mw') (e10 : ml = ml') (e11 : mb = mb') (hw : mw.toInt ≤ 6) : BM pa mi ga te kn wa wc la br ma' mm' mg' mt' mk' wf' wp' wt' mw' ml' mb' := by
  obtain ⟨⟨h1, h2, h3, h4, h5⟩, ⟨h6, h7, h8⟩, h9⟩ := h
  subst e9 e10 e11
  exact ⟨⟨fun j hj => (h1 j hj).trans (e1 j hj), fun j hj => (h2 j hj).trans (e2 j hj), fun j hj => (h3 j hj).trans (e3 j hj), fun j hj => (h4 j hj).trans (e4 j hj), fun j hj => (h5 j hj).trans (e5 j hj)⟩, ⟨h6, h7, h8⟩, fun j hj => by rw [h9 j hj, e6 j (by omega), e7 j (by omega), e8 j (by omega)]⟩
theorem BM.tel {te2 mt2 : Nat → Int32} (h : BM pa mi ga te kn wa wc la br ma mm mg mt mk wf wp wt mw ml mb) (e : EQn 4 te2 mt2) : BM pa mi ga te2 kn wa wc la br ma mm mg mt2 mk wf wp wt mw ml mb := ⟨⟨h.1.1, h.1.2.1, h.1.2.2.1, e, h.1.2.2.2.2⟩, h.2⟩
theorem BM.kno {kn2 mk2 : Nat → Int32} (h : BM pa mi ga te kn wa wc la br ma mm mg mt mk wf wp wt mw ml mb) (e : EQn 4 kn2 mk2) : BM pa mi ga te kn2 wa wc la br ma mm mg mt mk2 wf wp wt mw ml mb := ⟨⟨h.1.1, h.1.2.1, h.1.2.2.1, h.1.2.2.2.1, e⟩, h.2⟩
theorem BM.se {a b r la2 br2 mr ml2 mb2 : Int32} (h : BM pa mi ga te kn wa wc la br ma mm mg mt mk wf wp wt mw ml mb) (hc : SE a b la br r la2 br2) (hm : SE a b ml mb mr ml2 mb2) : r = mr ∧ BM pa mi ga te kn wa wc la2 br2 ma mm mg mt mk wf wp wt mw ml2 mb2 := by
  obtain ⟨h1, ⟨h6, h7, h8⟩, h9⟩ := h
  subst h7 h8
  have e := hc.eq hm
  exact ⟨e.1, h1, ⟨h6, e.2.1, e.2.2⟩, h9⟩
theorem BM.ab {s x r mr : Int32} (h : BM pa mi ga te kn wa wc la br ma mm mg mt mk wf wp wt mw ml mb) (hc : AB pa mi ga s x r) (hm : AB ma mm mg s x mr) : r = mr := hc.eq h.1.1 h.1.2.1 h.1.2.2.1 hm
theorem BM.wait {s p o r wc2 mr mw2 : Int32} {wa2 wf2 wp2 wt2 : Nat → Int32} (h : BM pa mi ga te kn wa wc la br ma mm mg mt mk wf wp wt mw ml mb) (hmw : 0 ≤ mw.toInt ∧ mw.toInt ≤ 6) (hp : POk ma) (hf : SOk wf) (hq : SOk wp) (ht : SOk wt) (hc : WC pa s p o wc wa (EX (fun y => wa (Int32.toNatClampNeg y) = 100 * s + 10 * p + o) wc) r wc2 wa2) (hm : WM ma s p o mw wf wp wt (EX (fun y => (wf (Int32.toNatClampNeg y)).toInt = s.toInt ∧ (wp (Int32.toNatClampNeg y)).toInt = p.toInt ∧ (wt (Int32.toNatClampNeg y)).toInt = o.toInt) mw) mr mw2 wf2 wp2 wt2) : r = mr ∧ BM pa mi ga te kn wa2 wc2 la br ma mm mg mt mk wf2 wp2 wt2 mw2 ml mb := by
  obtain ⟨h1, ⟨h6, h7, h8⟩, h9⟩ := h
  subst h6
  have hok : ∀ (hs : 0 ≤ s.toInt ∧ s.toInt ≤ 3), pa (Int32.toNatClampNeg s) = ma (Int32.toNatClampNeg s) := fun hs => h1.1 _ (cl3 hs)
  by_cases c : (((0 ≤ s.toInt ∧ s.toInt ≤ 3) ∧ (0 ≤ o.toInt ∧ o.toInt ≤ 3) ∧ ¬ s.toInt = o.toInt) ∧ 0 ≤ p.toInt ∧ p.toInt < (ma (Int32.toNatClampNeg s)).toInt)
  · have c' : (((0 ≤ s.toInt ∧ s.toInt ≤ 3) ∧ (0 ≤ o.toInt ∧ o.toInt ≤ 3) ∧ ¬ s.toInt = o.toInt) ∧ 0 ≤ p.toInt ∧ p.toInt < (pa (Int32.toNatClampNeg s)).toInt) := by rw [hok c.1.1]; exact c
    have hp4 := hp _ (cl3 c.1.1)
    have hE : EX (fun y => wa (Int32.toNatClampNeg y) = 100 * s + 10 * p + o) wc ↔ EX (fun y => (wf (Int32.toNatClampNeg y)).toInt = s.toInt ∧ (wp (Int32.toNatClampNeg y)).toInt = p.toInt ∧ (wt (Int32.toNatClampNeg y)).toInt = o.toInt) wc := by
      have e1 := enc_i (a := s) (b := p) (c := o) c.1.1 (by omega) c.1.2.1
      constructor
      · rintro ⟨y, y0, y1, y2⟩
        have y2 : wa (Int32.toNatClampNeg y) = 100 * s + 10 * p + o := y2
        have hk : Int32.toNatClampNeg y < 6 := by show y.toInt.toNat < 6; omega
        rw [h9 _ (by show (y.toInt.toNat : Int) < _; omega)] at y2
        have e2 := congrArg Int32.toInt y2
        have a1 := hf _ hk
        have a2 := hq _ hk
        have a3 := ht _ hk
        rw [e1, enc_i a1 a2 a3] at e2
        exact ⟨y, y0, y1, by omega, by omega, by omega⟩
      · rintro ⟨y, y0, y1, y2, y3, y4⟩
        refine ⟨y, y0, y1, ?_⟩
        show wa (Int32.toNatClampNeg y) = 100 * s + 10 * p + o
        rw [h9 _ (by show (y.toInt.toNat : Int) < _; omega), i_eq.mpr y2, i_eq.mpr y3, i_eq.mpr y4]
    rcases hc with ⟨b, _⟩ | ⟨_, hc⟩
    · exact absurd c' b
    rcases hm with ⟨b, _⟩ | ⟨_, hm⟩
    · exact absurd c b
    rcases hc with ⟨x, er, ew, ea⟩ | ⟨x, x1, er, ew, ea⟩ | ⟨x, x1, er, ew, ea⟩ <;> rcases hm with ⟨y, fr, fw, f1, f2, f3⟩ | ⟨y, y1, fr, fw, f1, f2, f3⟩ | ⟨y, y1, fr, fw, f1, f2, f3⟩
    · rw [er, ew, ea, fr, fw, f1, f2, f3]; exact ⟨rfl, h1, ⟨rfl, h7, h8⟩, h9⟩
    · exact absurd (hE.mp x) y
    · exact absurd (hE.mp x) y
    · exact absurd (hE.mpr y) x
    · rw [er, ew, ea, fr, fw, f1, f2, f3]; exact ⟨rfl, h1, ⟨rfl, h7, h8⟩, h9⟩
    · exfalso; omega
    · exact absurd (hE.mpr y) x
    · exfalso; omega
    · rw [er, ew, ea, fr, fw, f1, f2, f3]
      refine ⟨rfl, h1, ⟨rfl, h7, h8⟩, fun j hj => ?_⟩
      have := t1_
      have e := i_add (x := wc) (y := 1) (by omega) (by omega)
      rw [upd_eq, upd_eq, upd_eq, upd_eq]
      by_cases q : j = Int32.toNatClampNeg wc
      · rw [if_pos q, if_pos q, if_pos q, if_pos q]
      · have : ¬ j = wc.toInt.toNat := q
        rw [if_neg q, if_neg q, if_neg q, if_neg q]
        exact h9 j (by omega)
  · have c' : ¬ (((0 ≤ s.toInt ∧ s.toInt ≤ 3) ∧ (0 ≤ o.toInt ∧ o.toInt ≤ 3) ∧ ¬ s.toInt = o.toInt) ∧ 0 ≤ p.toInt ∧ p.toInt < (pa (Int32.toNatClampNeg s)).toInt) := fun q => c (by rw [← hok q.1.1]; exact q)
    rcases hc with ⟨_, er, ew, ea⟩ | ⟨b, _⟩
    · rcases hm with ⟨_, fr, fw, f1, f2, f3⟩ | ⟨b, _⟩
      · rw [er, ew, ea, fr, fw, f1, f2, f3]; exact ⟨rfl, h1, ⟨rfl, h7, h8⟩, h9⟩
      · exact absurd b c
    · exact absurd b c'
theorem BM.drop {a r wc2 mr mw2 : Int32} {wa2 wf2 wp2 wt2 : Nat → Int32} (h : BM pa mi ga te kn wa wc la br ma mm mg mt mk wf wp wt mw ml mb) (hmw : 0 ≤ mw.toInt ∧ mw.toInt ≤ 6) (hc : DR a wc wa r wc2 wa2) (hf : DR a mw wf mr mw2 wf2) (hp : DR a mw wp mr mw2 wp2) (ht : DR a mw wt mr mw2 wt2) : r = mr ∧ BM pa mi ga te kn wa2 wc2 la br ma mm mg mt mk wf2 wp2 wt2 mw2 ml mb := by
  obtain ⟨h1, ⟨h6, h7, h8⟩, h9⟩ := h
  subst h6
  rcases hc with ⟨x, er, ew, ea⟩ | ⟨x, rfl, rfl, hs⟩
  · rcases hf with ⟨_, fr, fw, f1⟩ | ⟨y, _⟩
    · rcases hp with ⟨_, _, _, f2⟩ | ⟨y, _⟩
      · rcases ht with ⟨_, _, _, f3⟩ | ⟨y, _⟩
        · rw [er, ew, ea, fr, fw, f1, f2, f3]; exact ⟨rfl, h1, ⟨rfl, h7, h8⟩, h9⟩
        · exact absurd y x
      · exact absurd y x
    · exact absurd y x
  · rcases hf with ⟨y, _⟩ | ⟨_, rfl, rfl, s1⟩
    · exact absurd x y
    rcases hp with ⟨y, _⟩ | ⟨_, _, _, s2⟩
    · exact absurd x y
    rcases ht with ⟨y, _⟩ | ⟨_, _, _, s3⟩
    · exact absurd x y
    have := t1_
    have e := i_sub (x := wc) (y := 1) (by omega) (by omega)
    refine ⟨rfl, h1, ⟨rfl, h7, h8⟩, fun j hj => ?_⟩
    rw [hs j hj, s1 j hj, s2 j hj, s3 j hj]
    refine h9 _ ?_
    by_cases c : (j : Int) < a.toInt
    · rw [if_pos c]; omega
    · rw [if_neg c]; omega
/-- by which waits go with parts of a story -/
theorem BM.flt {s c : Int32} {wc2 mw2 : Int32} {wa2 wf2 wp2 wt2 : Nat → Int32} (h : BM pa mi ga te kn wa wc la br ma mm mg mt mk wf wp wt mw ml mb) (hmw : 0 ≤ mw.toInt ∧ mw.toInt ≤ 6) (hf : SOk wf) (hq : SOk wp) (ht : SOk wt) (fc : FL (wk wa s c) wc wa wc2 wa2) (f1 : FL (mkK wf wp s c) mw wf mw2 wf2) (f2 : FL (mkK wf wp s c) mw wp mw2 wp2) (f3 : FL (mkK wf wp s c) mw wt mw2 wt2) : wc2 = mw2 ∧ ∀ j : Nat, (j : Int) < mw2.toInt → wa2 j = 100 * wf2 j + 10 * wp2 j + wt2 j := by
  obtain ⟨h1, ⟨h6, h7, h8⟩, h9⟩ := h
  subst h6
  have hK : ∀ j : Nat, (j : Int) < wc.toInt → wk wa s c j = mkK wf wp s c j := fun j hj => by
    unfold wk mkK
    have e := enc_i (hf j (by omega)) (hq j (by omega)) (ht j (by omega))
    have a1 := hf j (by omega)
    have a2 := hq j (by omega)
    have a3 := ht j (by omega)
    rw [h9 j hj, e, show (100 * (wf j).toInt + 10 * (wp j).toInt + (wt j).toInt) / 100 = (wf j).toInt by omega, show (100 * (wf j).toInt + 10 * (wp j).toInt + (wt j).toInt) / 10 % 10 = (wp j).toInt by omega]
  have hk : ∀ n : Nat, (n : Int) ≤ wc.toInt → kc (wk wa s c) n = kc (mkK wf wp s c) n := fun n hn => kc_congr n fun j hj => hK j (by omega)
  refine ⟨i_eq.mpr (by rw [fc.1, f1.1, hk _ (by omega)]), fun i hi => ?_⟩
  rw [f1.1] at hi
  obtain ⟨j, j1, j2, j3⟩ := kc_ex (K := mkK wf wp s c) (i := i) wc.toInt.toNat (by omega)
  have b1 := f1.2 j (by omega) j2
  have b2 := f2.2 j (by omega) j2
  have b3 := f3.2 j (by omega) j2
  have b0 := fc.2 j (by omega) (by rw [hK j (by omega)]; exact j2)
  rw [hk j (by omega)] at b0
  rw [j3] at b0 b1 b2 b3
  rw [b0, b1, b2, b3]
  exact h9 j (by omega)
end BMs
section BM2
variable {pa mi ga te kn wa : Nat → Int32} {wc la br : Int32} {ma mm mg mt mk wf wp wt : Nat → Int32} {mw ml mb : Int32}
theorem BM.story {s z mz wc2 mw2 : Int32} {f mp pa2 mi2 ga2 wa2 ma2 mm2 mg2 wf2 wp2 wt2 : Nat → Int32} (h : BM pa mi ga te kn wa wc la br ma mm mg mt mk wf wp wt mw ml mb) (hmw : 0 ≤ mw.toInt ∧ mw.toInt ≤ 6) (hf : SOk wf) (hq : SOk wp) (ht : SOk wt) (ez : z = mz) (ef : f = mp)
    (hc : (¬ ((0 ≤ s.toInt ∧ s.toInt ≤ 3) ∧ sfZ f z = -6) → pa2 = pa ∧ mi2 = mi ∧ ga2 = ga ∧ wa2 = wa ∧ wc2 = wc) ∧ (((0 ≤ s.toInt ∧ s.toInt ≤ 3) ∧ sfZ f z = -6) → pa2 = upd pa (Int32.toNatClampNeg s) (ctL f z.toInt.toNat) ∧ mi2 = wrM f (4 * s.toInt).toNat mi z.toInt.toNat ∧ ga2 = upd ga (Int32.toNatClampNeg s) (wrB f z.toInt.toNat) ∧ FL (wk wa s (ctL f z.toInt.toNat)) wc wa wc2 wa2))
    (hm : (¬ ((0 ≤ s.toInt ∧ s.toInt ≤ 3) ∧ sfZ mp mz = -6) → ma2 = ma ∧ mm2 = mm ∧ mg2 = mg ∧ wf2 = wf ∧ wp2 = wp ∧ wt2 = wt ∧ mw2 = mw) ∧ (((0 ≤ s.toInt ∧ s.toInt ≤ 3) ∧ sfZ mp mz = -6) → (∀ j : Nat, ma2 j = upd ma (Int32.toNatClampNeg s) (ctL mp mz.toInt.toNat) j) ∧ mm2 = wrM mp (4 * s.toInt).toNat mm mz.toInt.toNat ∧ (∀ j : Nat, mg2 j = upd mg (Int32.toNatClampNeg s) (wrB mp mz.toInt.toNat) j) ∧ FL (mkK wf wp s (ctL mp mz.toInt.toNat)) mw wf mw2 wf2 ∧ FL (mkK wf wp s (ctL mp mz.toInt.toNat)) mw wp mw2 wp2 ∧ FL (mkK wf wp s (ctL mp mz.toInt.toNat)) mw wt mw2 wt2)) :
    BM pa2 mi2 ga2 te kn wa2 wc2 la br ma2 mm2 mg2 mt mk wf2 wp2 wt2 mw2 ml mb := by
  subst ez ef
  by_cases c : (0 ≤ s.toInt ∧ s.toInt ≤ 3) ∧ sfZ f z = -6
  · obtain ⟨rfl, rfl, rfl, fc⟩ := hc.2 c
    obtain ⟨m1, rfl, m3, f1, f2, f3⟩ := hm.2 c
    have e := h.flt hmw hf hq ht fc f1 f2 f3
    obtain ⟨⟨h1, h2, h3, h4, h5⟩, ⟨h6, h7, h8⟩, h9⟩ := h
    exact ⟨⟨fun j hj => by rw [m1 j]; exact EQn.upd h1 j hj, wrM_congr h2 _, fun j hj => by rw [m3 j]; exact EQn.upd h3 j hj, h4, h5⟩, ⟨e.1, h7, h8⟩, e.2⟩
  · obtain ⟨rfl, rfl, rfl, rfl, rfl⟩ := hc.1 c
    obtain ⟨rfl, rfl, rfl, rfl, rfl, rfl, rfl⟩ := hm.1 c
    exact h
theorem BK.new {pa' mi' ga' te' kn' wa' kt : Nat → Int32} {wc' la' br' : Int32} {b : Nat} (h : BM pa mi ga te kn wa wc la br ma mm mg mt mk wf wp wt mw ml mb) (he : EQB pa' mi' ga' te' kn' wa' wc' la' br' pa mi ga te kn wa wc la br) (hw : mw.toInt ≤ 6) : BK pa' mi' ga' te' kn' wa' wc' la' br' (kw kt b (fo ma mm mg mt mk wf wp wt mw ml mb) 53) b := by
  have k : ∀ o : Nat, o < 53 → kw kt b (fo ma mm mg mt mk wf wp wt mw ml mb) 53 (b + o) = fo ma mm mg mt mk wf wp wt mw ml mb o := fun o ho => kw_in ho
  refine (h.congr he hw).right (fun j hj => ?_) (fun j hj => ?_) (fun j hj => ?_) (fun j hj => ?_) (fun j hj => ?_) (fun j hj => ?_) (fun j hj => ?_) (fun j hj => ?_) ?_ ?_ ?_ hw
  · show _ = kw kt b _ 53 (b + 3 + 4 * j); rw [Nat.add_assoc, k (3 + 4 * j) (by omega), fo_ma hj]
  · show _ = kw kt b _ 53 (b + 19 + 1 * j); rw [Nat.add_assoc, Nat.one_mul, k (19 + j) (by omega), fo_mm hj]
  · show _ = kw kt b _ 53 (b + 4 + 4 * j); rw [Nat.add_assoc, k (4 + 4 * j) (by omega), fo_mg hj]
  · show _ = kw kt b _ 53 (b + 5 + 4 * j); rw [Nat.add_assoc, k (5 + 4 * j) (by omega), fo_mt hj]
  · show _ = kw kt b _ 53 (b + 6 + 4 * j); rw [Nat.add_assoc, k (6 + 4 * j) (by omega), fo_mk hj]
  · show _ = kw kt b _ 53 (b + 35 + 3 * j); rw [Nat.add_assoc, k (35 + 3 * j) (by omega), fo_wf hj]
  · show _ = kw kt b _ 53 (b + 36 + 3 * j); rw [Nat.add_assoc, k (36 + 3 * j) (by omega), fo_wp hj]
  · show _ = kw kt b _ 53 (b + 37 + 3 * j); rw [Nat.add_assoc, k (37 + 3 * j) (by omega), fo_wt hj]
  · exact (k 0 (by omega)).symm
  · exact (k 1 (by omega)).symm
  · exact (k 2 (by omega)).symm
theorem BK.old {pa' mi' ga' te' kn' wa' kt kt2 : Nat → Int32} {wc' la' br' : Int32} {b : Nat} (h : BK pa mi ga te kn wa wc la br kt b) (he : EQB pa' mi' ga' te' kn' wa' wc' la' br' pa mi ga te kn wa wc la br) (hw : (kt b).toInt ≤ 6) (hk : ∀ o : Nat, o < 53 → kt2 (b + o) = kt (b + o)) : BK pa' mi' ga' te' kn' wa' wc' la' br' kt2 b := by
  have h' : BM pa mi ga te kn wa wc la br _ _ _ _ _ _ _ _ _ _ _ := h
  refine (h'.congr he hw).right (fun j hj => ?_) (fun j hj => ?_) (fun j hj => ?_) (fun j hj => ?_) (fun j hj => ?_) (fun j hj => ?_) (fun j hj => ?_) (fun j hj => ?_) ?_ ?_ ?_ hw
  · show kt (b + 3 + 4 * j) = kt2 (b + 3 + 4 * j); rw [Nat.add_assoc, hk (3 + 4 * j) (by omega)]
  · show kt (b + 19 + 1 * j) = kt2 (b + 19 + 1 * j); rw [Nat.add_assoc, hk (19 + 1 * j) (by omega)]
  · show kt (b + 4 + 4 * j) = kt2 (b + 4 + 4 * j); rw [Nat.add_assoc, hk (4 + 4 * j) (by omega)]
  · show kt (b + 5 + 4 * j) = kt2 (b + 5 + 4 * j); rw [Nat.add_assoc, hk (5 + 4 * j) (by omega)]
  · show kt (b + 6 + 4 * j) = kt2 (b + 6 + 4 * j); rw [Nat.add_assoc, hk (6 + 4 * j) (by omega)]
  · show kt (b + 35 + 3 * j) = kt2 (b + 35 + 3 * j); rw [Nat.add_assoc, hk (35 + 3 * j) (by omega)]
  · show kt (b + 36 + 3 * j) = kt2 (b + 36 + 3 * j); rw [Nat.add_assoc, hk (36 + 3 * j) (by omega)]
  · show kt (b + 37 + 3 * j) = kt2 (b + 37 + 3 * j); rw [Nat.add_assoc, hk (37 + 3 * j) (by omega)]
  · exact (hk 0 (by omega)).symm
  · exact (hk 1 (by omega)).symm
  · exact (hk 2 (by omega)).symm
theorem BK.out {ma2 mm2 mg2 mt2 mk2 wf2 wp2 wt2 kt : Nat → Int32} {mw2 ml2 mb2 : Int32} {b : Nat} (h : BK pa mi ga te kn wa wc la br kt b) (hw : (kt b).toInt ≤ 6) (v : VW kt (b + 3) 4 ma2 4 ∧ VW kt (b + 4) 4 mg2 4 ∧ VW kt (b + 5) 4 mt2 4 ∧ VW kt (b + 6) 4 mk2 4 ∧ VW kt (b + 19) 1 mm2 16 ∧ VW kt (b + 35) 3 wf2 6 ∧ VW kt (b + 36) 3 wp2 6 ∧ VW kt (b + 37) 3 wt2 6 ∧ mw2 = kt b ∧ ml2 = kt (b + 1) ∧ mb2 = kt (b + 2)) : BM pa mi ga te kn wa wc la br ma2 mm2 mg2 mt2 mk2 wf2 wp2 wt2 mw2 ml2 mb2 := by
  have h' : BM pa mi ga te kn wa wc la br _ _ _ _ _ _ _ _ _ _ _ := h
  obtain ⟨v1, v2, v3, v4, v5, v6, v7, v8, v9, v10, v11⟩ := v
  exact h'.right (fun j hj => (v1 j (by omega)).symm) (fun j hj => (v5 j (by omega)).symm) (fun j hj => (v2 j (by omega)).symm) (fun j hj => (v3 j (by omega)).symm) (fun j hj => (v4 j (by omega)).symm) (fun j hj => (v6 j (by omega)).symm) (fun j hj => (v7 j (by omega)).symm) (fun j hj => (v8 j (by omega)).symm) v9.symm v10.symm v11.symm hw
end BM2
theorem kp_bit {kp a b : Int32} (hk : 0 ≤ kp.toInt ∧ kp.toInt ≤ 3) (ha : 0 ≤ a.toInt ∧ a.toInt ≤ 1) (hb : 0 ≤ b.toInt ∧ b.toInt ≤ 1) (hn : ¬ b.toInt = a.toInt) : (((kp ||| ((1 : Int32) <<< (a &&& 31))) >>> (b &&& 31)) &&& 1).toInt = ((kp >>> (b &&& 31)) &&& 1).toInt := by
  obtain ⟨i, hi, e1⟩ : ∃ i : Nat, i < 4 ∧ kp = nI i := ⟨kp.toInt.toNat, by omega, nI_self hk.1⟩
  obtain ⟨j, hj, e2⟩ : ∃ j : Nat, j < 2 ∧ a = nI j := ⟨a.toInt.toNat, by omega, nI_self ha.1⟩
  obtain ⟨k, hk2, e3⟩ : ∃ k : Nat, k < 2 ∧ b = nI k := ⟨b.toInt.toNat, by omega, nI_self hb.1⟩
  have h9 : ∀ i : Fin 4, ∀ j k : Fin 2, ¬ k = j → (((nI i.val ||| ((1 : Int32) <<< (nI j.val &&& 31))) >>> (nI k.val &&& 31)) &&& 1).toInt = ((nI i.val >>> (nI k.val &&& 31)) &&& 1).toInt := by decide
  have q : ¬ k = j := fun h => hn (by rw [e2, e3, h])
  rw [e1, e2, e3]
  exact h9 ⟨i, hi⟩ ⟨j, hj⟩ ⟨k, hk2⟩ (fun h => q (Fin.mk.inj h))
/-- an image, when one is kept -/
theorem IBk.img {kp a kp2 n : Int32} {b : Nat} {pa mi ga te kn wa pi mii gi ti ki wi pj mj gj tj kj wj ma mm mg mt mk wf wp wt kt kt2 : Nat → Int32} {wc la br wci lai bri wcj laj brj mw ml mb : Int32} (hn : (n.toInt = 0 ∧ b = 0) ∨ (n.toInt = 1 ∧ b = 60)) (h : IBk kp n pi mii gi ti ki wi wci lai bri kt b) (hkp : 0 ≤ kp.toInt ∧ kp.toInt ≤ 3) (hK : KOk kt) (bm : BM pa mi ga te kn wa wc la br ma mm mg mt mk wf wp wt mw ml mb) (hw : mw.toInt ≤ 6)
    (hc : ((0 ≤ a.toInt ∧ a.toInt ≤ 1) → kp2 = kp ||| ((1 : Int32) <<< (a &&& 31))) ∧ (¬ (0 ≤ a.toInt ∧ a.toInt ≤ 1) → kp2 = kp)) (h1 : a.toInt = n.toInt → EQB pj mj gj tj kj wj wcj laj brj pa mi ga te kn wa wc la br) (h2 : ¬ a.toInt = n.toInt → EQB pj mj gj tj kj wj wcj laj brj pi mii gi ti ki wi wci lai bri) (k1 : (0 ≤ a.toInt ∧ a.toInt ≤ 1) → kt2 = kw kt (60 * a.toInt).toNat (fo ma mm mg mt mk wf wp wt mw ml mb) 53) (k2 : ¬ (0 ≤ a.toInt ∧ a.toInt ≤ 1) → kt2 = kt) : IBk kp2 n pj mj gj tj kj wj wcj laj brj kt2 b := by
  intro hb
  have hk6 : (kt b).toInt ≤ 6 := by
    rcases hn with ⟨_, e⟩ | ⟨_, e⟩
    · rw [e]; exact ((hK 0 0 (by omega) (by omega)).1 rfl).2
    · rw [e]; exact ((hK 1 0 (by omega) (by omega)).1 rfl).2
  by_cases c : a.toInt = n.toInt
  · have ca : 0 ≤ a.toInt ∧ a.toInt ≤ 1 := by omega
    rw [k1 ca, show (60 * a.toInt).toNat = b by omega]
    exact BK.new bm (h1 c) hw
  · by_cases ca : 0 ≤ a.toInt ∧ a.toInt ≤ 1
    · rw [hc.1 ca, kp_bit hkp ca (by omega) (by omega)] at hb
      rw [k1 ca]
      exact (h hb).old (h2 c) hk6 fun o ho => kw_out (by omega)
    · rw [hc.2 ca] at hb
      rw [k2 ca]
      exact (h hb).old (h2 c) hk6 fun o ho => rfl
theorem IBk.z {n : Int32} {b : Nat} {pi mii gi ti ki wi kt : Nat → Int32} {wci lai bri : Int32} (hn : 0 ≤ n.toInt ∧ n.toInt ≤ 1) : IBk 0 n pi mii gi ti ki wi wci lai bri kt b := fun h => by
  obtain ⟨j, hj, e⟩ : ∃ j : Nat, j < 2 ∧ n = nI j := ⟨n.toInt.toNat, by omega, nI_self hn.1⟩
  have h9 : ∀ j : Fin 2, (((0 : Int32) >>> (nI j.val &&& 31)) &&& 1).toInt = 0 := by decide
  rw [e] at h
  exact absurd (h9 ⟨j, hj⟩) h
theorem img_kok {a : Int32} {ma mm mg mt mk wf wp wt kt kt2 : Nat → Int32} {mw ml mb : Int32} (h : KOk kt) (hmw : 0 ≤ mw.toInt ∧ mw.toInt ≤ 6) (hpa : POk ma) (hte : TOk mt) (hmm : MOk mm) (hwf : SOk wf) (hwp : SOk wp) (hwt : SOk wt) (k1 : (0 ≤ a.toInt ∧ a.toInt ≤ 1) → kt2 = kw kt (60 * a.toInt).toNat (fo ma mm mg mt mk wf wp wt mw ml mb) 53) (k2 : ¬ (0 ≤ a.toInt ∧ a.toInt ≤ 1) → kt2 = kt) : KOk kt2 := by
  by_cases c : 0 ≤ a.toInt ∧ a.toInt ≤ 1
  · rw [k1 c]
    exact KOk.kw h (by omega) fun o ho => fo_ok hmw hpa hte hmm hwf hwp hwt ho
  · rw [k2 c]; exact h
theorem vw_ok {kt ma2 mg2 mt2 mk2 mm2 wf2 wp2 wt2 : Nat → Int32} {mw2 ml2 mb2 : Int32} {b : Nat} (h : KOk kt) (hb : b = 0 ∨ b = 60) (v : VW kt (b + 3) 4 ma2 4 ∧ VW kt (b + 4) 4 mg2 4 ∧ VW kt (b + 5) 4 mt2 4 ∧ VW kt (b + 6) 4 mk2 4 ∧ VW kt (b + 19) 1 mm2 16 ∧ VW kt (b + 35) 3 wf2 6 ∧ VW kt (b + 36) 3 wp2 6 ∧ VW kt (b + 37) 3 wt2 6 ∧ mw2 = kt b ∧ ml2 = kt (b + 1) ∧ mb2 = kt (b + 2)) : (0 ≤ mw2.toInt ∧ mw2.toInt ≤ 6) ∧ POk ma2 ∧ TOk mt2 ∧ MOk mm2 ∧ SOk wf2 ∧ SOk wp2 ∧ SOk wt2 := by
  obtain ⟨v1, v2, v3, v4, v5, v6, v7, v8, v9, v10, v11⟩ := v
  obtain ⟨m, hm, e⟩ : ∃ m : Nat, m < 2 ∧ b = 60 * m := by
    rcases hb with e | e
    · exact ⟨0, by omega, by omega⟩
    · exact ⟨1, by omega, by omega⟩
  have k : ∀ o : Nat, o < 53 → okv o (kt (b + o)) := fun o ho => by rw [e]; exact h m o hm ho
  refine ⟨by rw [v9]; exact (k 0 (by omega)).1 rfl, fun j hj => ?_, fun j hj => ?_, fun j hj => ?_, fun j hj => ?_, fun j hj => ?_, fun j hj => ?_⟩
  · rw [v1 j (by omega), Nat.add_assoc]; exact (k (3 + 4 * j) (by omega)).2.1 (by omega)
  · rw [v3 j (by omega), Nat.add_assoc]; exact (k (5 + 4 * j) (by omega)).2.2.1 (by omega)
  · rw [v5 j (by omega), Nat.add_assoc, Nat.one_mul]; exact (k (19 + j) (by omega)).2.2.2.1 (by omega)
  · rw [v6 j (by omega), Nat.add_assoc]; exact (k (35 + 3 * j) (by omega)).2.2.2.2 (by omega)
  · rw [v7 j (by omega), Nat.add_assoc]; exact (k (36 + 3 * j) (by omega)).2.2.2.2 (by omega)
  · rw [v8 j (by omega), Nat.add_assoc]; exact (k (37 + 3 * j) (by omega)).2.2.2.2 (by omega)
theorem img_l {a : Int32} {P Q R S : Prop} (h0 : a.toInt = 0 → P ∧ Q) (h1 : a.toInt = 1 → R ∧ S) (h2 : ¬ (0 ≤ a.toInt ∧ a.toInt ≤ 1) → S ∧ Q) : (¬ a.toInt = 0 → S) ∧ (¬ a.toInt = 1 → Q) := by
  refine ⟨fun c => ?_, fun c => ?_⟩
  · by_cases c1 : a.toInt = 1
    · exact (h1 c1).2
    · exact (h2 (by omega)).1
  · by_cases c1 : a.toInt = 0
    · exact (h0 c1).2
    · exact (h2 (by omega)).2
theorem res_bm {kp a : Int32} {ik pa mi ga te kn wa p2 m2 g2 t2 k2 w2 p3 m3 g3 t3 k3 w3 p4 m4 g4 t4 k4 w4 ma mm mg mt mk wf wp wt kt ma2 mm2 mg2 mt2 mk2 wf2 wp2 wt2 : Nat → Int32} {wc la br wc2 la2 br2 wc3 la3 br3 wc4 la4 br4 mw ml mb mw2 ml2 mb2 : Int32} (rk : RK kp ik) (hK : KOk kt) (bm : BM pa mi ga te kn wa wc la br ma mm mg mt mk wf wp wt mw ml mb) (ib0 : IBk kp 0 p2 m2 g2 t2 k2 w2 wc2 la2 br2 kt 0) (ib1 : IBk kp 1 p3 m3 g3 t3 k3 w3 wc3 la3 br3 kt 60) (hmw : 0 ≤ mw.toInt ∧ mw.toInt ≤ 6) (hpa : POk ma) (hte : TOk mt) (hmm : MOk mm) (hwf : SOk wf) (hwp : SOk wp) (hwt : SOk wt)
    (c0 : a.toInt = 0 → ¬ ((kp >>> (a &&& 31)) &&& 1).toInt = 0 → EQB p4 m4 g4 t4 k4 w4 wc4 la4 br4 p2 m2 g2 t2 k2 w2 wc2 la2 br2) (c1 : a.toInt = 1 → ¬ ((kp >>> (a &&& 31)) &&& 1).toInt = 0 → EQB p4 m4 g4 t4 k4 w4 wc4 la4 br4 p3 m3 g3 t3 k3 w3 wc3 la3 br3) (c2 : ¬ ((0 ≤ a.toInt ∧ a.toInt ≤ 1) ∧ ¬ ((kp >>> (a &&& 31)) &&& 1).toInt = 0) → EQB p4 m4 g4 t4 k4 w4 wc4 la4 br4 pa mi ga te kn wa wc la br)
    (q1 : ((0 ≤ a.toInt ∧ a.toInt ≤ 1) ∧ ¬ (ik (Int32.toNatClampNeg a)).toInt = 0) → VW kt ((60 * a.toInt).toNat + 3) 4 ma2 4 ∧ VW kt ((60 * a.toInt).toNat + 4) 4 mg2 4 ∧ VW kt ((60 * a.toInt).toNat + 5) 4 mt2 4 ∧ VW kt ((60 * a.toInt).toNat + 6) 4 mk2 4 ∧ VW kt ((60 * a.toInt).toNat + 19) 1 mm2 16 ∧ VW kt ((60 * a.toInt).toNat + 35) 3 wf2 6 ∧ VW kt ((60 * a.toInt).toNat + 36) 3 wp2 6 ∧ VW kt ((60 * a.toInt).toNat + 37) 3 wt2 6 ∧ mw2 = kt (60 * a.toInt).toNat ∧ ml2 = kt ((60 * a.toInt).toNat + 1) ∧ mb2 = kt ((60 * a.toInt).toNat + 2))
    (q2 : ¬ ((0 ≤ a.toInt ∧ a.toInt ≤ 1) ∧ ¬ (ik (Int32.toNatClampNeg a)).toInt = 0) → ma2 = ma ∧ mg2 = mg ∧ mt2 = mt ∧ mk2 = mk ∧ mm2 = mm ∧ wf2 = wf ∧ wp2 = wp ∧ wt2 = wt ∧ mw2 = mw ∧ ml2 = ml ∧ mb2 = mb) :
    ((0 ≤ mw2.toInt ∧ mw2.toInt ≤ 6) ∧ POk ma2 ∧ TOk mt2 ∧ MOk mm2 ∧ SOk wf2 ∧ SOk wp2 ∧ SOk wt2) ∧ BM p4 m4 g4 t4 k4 w4 wc4 la4 br4 ma2 mm2 mg2 mt2 mk2 wf2 wp2 wt2 mw2 ml2 mb2 := by
  by_cases c : (0 ≤ a.toInt ∧ a.toInt ≤ 1) ∧ ¬ ((kp >>> (a &&& 31)) &&& 1).toInt = 0
  · have v := q1 ⟨c.1, fun h => c.2 ((rk.2 a c.1).mpr h)⟩
    refine ⟨vw_ok hK (by omega) v, ?_⟩
    rcases (show a.toInt = 0 ∨ a.toInt = 1 by omega) with e | e
    · have ea : a = 0 := i_eq.mpr (by rw [e, t0_])
      rw [show (60 * a.toInt).toNat = 0 by omega] at v
      have k6 : (kt 0).toInt ≤ 6 := ((hK 0 0 (by omega) (by omega)).1 rfl).2
      have b : BK p2 m2 g2 t2 k2 w2 wc2 la2 br2 kt 0 := ib0 (by rw [← ea]; exact c.2)
      exact (BK.out b k6 v).congr (c0 e c.2) (by rw [v.2.2.2.2.2.2.2.2.1]; exact k6)
    · have ea : a = 1 := i_eq.mpr (by rw [e, t1_])
      rw [show (60 * a.toInt).toNat = 60 by omega] at v
      have k6 : (kt 60).toInt ≤ 6 := ((hK 1 0 (by omega) (by omega)).1 rfl).2
      have b : BK p3 m3 g3 t3 k3 w3 wc3 la3 br3 kt 60 := ib1 (by have h9 := c.2; rw [ea] at h9; exact h9)
      exact (BK.out b k6 v).congr (c1 e c.2) (by rw [v.2.2.2.2.2.2.2.2.1]; exact k6)
  · obtain ⟨rfl, rfl, rfl, rfl, rfl, rfl, rfl, rfl, rfl, rfl, rfl⟩ := q2 (fun h => c ⟨h.1, fun h9 => h.2 ((rk.2 a h.1).mp h9)⟩)
    exact ⟨⟨hmw, hpa, hte, hmm, hwf, hwp, hwt⟩, bm.congr (c2 c) hmw.2⟩
theorem td_ok {x r mr z mz wc la br mw ml mb : Int32} {te kn wa mt mk wf wp wt pa mi ga ma mm mg : Nat → Int32} (bm : BM pa mi ga te kn wa wc la br ma mm mg mt mk wf wp wt mw ml mb) (ez : z = mz) (h : (((10 ≤ x.toInt ∧ x.toInt ≤ 13) ∧ r = te (x.toInt - 10).toNat) ∨ ((20 ≤ x.toInt ∧ x.toInt ≤ 23) ∧ r = kn (x.toInt - 20).toNat) ∨ ((30 ≤ x.toInt ∧ x.toInt ≤ 35) ∧ x.toInt - 30 < wc.toInt ∧ r = wa (x.toInt - 30).toNat) ∨ ((30 ≤ x.toInt ∧ x.toInt ≤ 35) ∧ ¬ x.toInt - 30 < wc.toInt ∧ r = -6) ∨ (x.toInt = 0 ∧ r = z) ∨ (x.toInt = 1 ∧ r = wc) ∨ (x.toInt = 2 ∧ r = la) ∨ (x.toInt = 3 ∧ r = br) ∨ (¬ ((0 ≤ x.toInt ∧ x.toInt ≤ 3) ∨ (10 ≤ x.toInt ∧ x.toInt ≤ 13) ∨ (20 ≤ x.toInt ∧ x.toInt ≤ 23) ∨ (30 ≤ x.toInt ∧ x.toInt ≤ 35)) ∧ r = -2))) (h' : (((10 ≤ x.toInt ∧ x.toInt ≤ 13) ∧ mr = mt (x.toInt - 10).toNat) ∨ ((20 ≤ x.toInt ∧ x.toInt ≤ 23) ∧ mr = mk (x.toInt - 20).toNat) ∨ ((30 ≤ x.toInt ∧ x.toInt ≤ 35) ∧ x.toInt - 30 < mw.toInt ∧ mr = 100 * wf (x.toInt - 30).toNat + 10 * wp (x.toInt - 30).toNat + wt (x.toInt - 30).toNat) ∨ ((30 ≤ x.toInt ∧ x.toInt ≤ 35) ∧ ¬ x.toInt - 30 < mw.toInt ∧ mr = -6) ∨ (x.toInt = 0 ∧ mr = mz) ∨ (x.toInt = 1 ∧ mr = mw) ∨ (x.toInt = 2 ∧ mr = ml) ∨ (x.toInt = 3 ∧ mr = mb) ∨ (¬ ((0 ≤ x.toInt ∧ x.toInt ≤ 3) ∨ (10 ≤ x.toInt ∧ x.toInt ≤ 13) ∨ (20 ≤ x.toInt ∧ x.toInt ≤ 23) ∨ (30 ≤ x.toInt ∧ x.toInt ≤ 35)) ∧ mr = -2))) : r = mr := by
  obtain ⟨⟨h1, h2, h3, h4, h5⟩, ⟨h6, h7, h8⟩, h9⟩ := bm
  subst h6 h7 h8 ez
  rcases h with ⟨a, rfl⟩ | ⟨a, rfl⟩ | ⟨a, a1, rfl⟩ | ⟨a, a1, rfl⟩ | ⟨a, rfl⟩ | ⟨a, rfl⟩ | ⟨a, rfl⟩ | ⟨a, rfl⟩ | ⟨a, rfl⟩ <;> rcases h' with ⟨b, rfl⟩ | ⟨b, rfl⟩ | ⟨b, b1, rfl⟩ | ⟨b, b1, rfl⟩ | ⟨b, rfl⟩ | ⟨b, rfl⟩ | ⟨b, rfl⟩ | ⟨b, rfl⟩ | ⟨b, rfl⟩ <;> first | rfl | exact h4 _ (by omega) | exact h5 _ (by omega) | exact h9 _ (by omega) | (exfalso; omega)
theorem INI.bm {pa mi te kn ga wa ma mm mt mk mg wf wp wt : Nat → Int32} (h : INI pa mi te kn 4) (h' : INI ma mm mt mk 4) (hg : EQn 4 ga mg) : BM pa mi ga te kn wa 0 0 0 ma mm mg mt mk wf wp wt 0 0 0 := by
  refine ⟨⟨fun j hj => ?_, fun j hj => ?_, hg, fun j hj => ?_, fun j hj => ?_⟩, ⟨rfl, rfl, rfl⟩, fun j hj => ?_⟩
  · rw [(h.2 j (by omega)).1, (h'.2 j (by omega)).1]
  · rw [h.1 j hj, h'.1 j hj]
  · rw [(h.2 j (by omega)).2.1, (h'.2 j (by omega)).2.1]
  · rw [(h.2 j (by omega)).2.2, (h'.2 j (by omega)).2.2]
  · rw [t0_] at hj; omega
theorem img_ok {a r mr : Int32} (h : ((0 ≤ a.toInt ∧ a.toInt ≤ 1) → r = 1) ∧ (¬ (0 ≤ a.toInt ∧ a.toInt ≤ 1) → r = -2)) (h' : ((0 ≤ a.toInt ∧ a.toInt ≤ 1) → mr = 1) ∧ (¬ (0 ≤ a.toInt ∧ a.toInt ≤ 1) → mr = -2)) : r = mr := by
  by_cases c : 0 ≤ a.toInt ∧ a.toInt ≤ 1
  · rw [h.1 c, h'.1 c]
  · rw [h.2 c, h'.2 c]
theorem WOk.z {f : Nat → Int32} : WOk f 0 := fun j hj => by
  rw [t0_] at hj
  omega
