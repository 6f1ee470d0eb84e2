section XR2
variable {X : Cx} {cc : ByteArray} {nL : Nat} {own : String} {rm : Room} {ws : va_W} {lv : List (Nat × Value)} {st : List Value} {pc k n : Nat}
theorem x_aald (C : Ok X cc nL own rm) (q0 t0 : Nat) {a : Nat} {cA : ClassId} {Cl : String} {N : Nat} {f : Nat → Option Nat} {i : Int32} {b : Nat} (hd : decode cc pc = .ok (.aaload, 1)) (ht : (xt X)[t0]? = some (cA, .object Cl)) (ha : ws[q0]? = some (a, .inl (cA, N, .inr (.inr (.inr (.inr f)))))) (hin : vp_in i N) (hv : f i.toNatClampNeg = some b) (kk : V X nL ws lv (.ref b :: st) (pc + 1) k n) : V X nL ws lv (.int i :: .ref a :: st) pc k n :=
  fun H locs ls hP hD hS hl => va_aldq C.hx C.hb C.hK hP q0 t0 ha ht hin hd (by rw [hv]; exact kk H locs ls hP hD hS hl)
theorem x_tswOut (C : Ok X cc nL own rm) {dflt lo hi : Int} {offs : Array Int} {len : Nat} {x : Int32} (tgt : Nat) (hd : decode cc pc = .ok (.tableswitch dflt lo hi offs, len)) (h : x.toInt < lo ∨ hi < x.toInt) (ht : (pc : Int) + dflt = (tgt : Int)) (kk : V X nL ws lv st tgt k n) : V X nL ws lv (.int x :: st) pc k n :=
  fun H locs ls hP hD hS hl => lv_tableOut C.hx C.hb hd h ht (kk H locs ls hP hD hS hl)
theorem x_tswIn (C : Ok X cc nL own rm) {dflt lo hi : Int} {offs : Array Int} {len : Nat} {x : Int32} {off : Int} (tgt : Nat) (hd : decode cc pc = .ok (.tableswitch dflt lo hi offs, len)) (h1 : ¬ x.toInt < lo) (h2 : ¬ hi < x.toInt) (ho : offs[(x.toInt - lo).toNat]? = some off) (ht : (pc : Int) + off = (tgt : Int)) (kk : V X nL ws lv st tgt k n) : V X nL ws lv (.int x :: st) pc k n :=
  fun H locs ls hP hD hS hl => lv_tableIn C.hx C.hb hd h1 h2 ho ht (kk H locs ls hP hD hS hl)
theorem x_lsw (C : Ok X cc nL own rm) {dflt : Int} {ps : Array (Int × Int)} {len : Nat} {x : Int32} {off : Int} (tgt : Nat) (hd : decode cc pc = .ok (.lookupswitch dflt ps, len)) (hp : (ps.toList.zip (ps.toList.drop 1)).all (fun (a, next) => a.1 < next.1) = true) (ho : Op.lookupswitch.offset ps.toList dflt x.toInt = off) (ht : (pc : Int) + off = (tgt : Int)) (kk : V X nL ws lv st tgt k n) : V X nL ws lv (.int x :: st) pc k n :=
  fun H locs ls hP hD hS hl => lv_lookup C.hx C.hb hd hp ho ht (kk H locs ls hP hD hS hl)
theorem lsw_no {ps : List (Int × Int)} {d x : Int} (h : ∀ q ∈ ps, ¬ x = q.1) : Op.lookupswitch.offset ps d x = d := by
  induction ps with
  | nil => rfl
  | cons a l ih =>
    have h1 := h a List.mem_cons_self
    have h2 := ih (fun q hq => h q (List.mem_cons_of_mem _ hq))
    obtain ⟨u, v⟩ := a
    simp only [Op.lookupswitch.offset]
    rw [if_neg (by first | exact h1 | exact fun e => h1 e.symm | simpa using h1 | (intro e; exact h1 (by simpa using e)) | (intro e; exact h1 (by simpa using e.symm)))]
    exact h2
end XR2
