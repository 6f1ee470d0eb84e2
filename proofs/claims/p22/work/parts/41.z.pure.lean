/-! LEVEL 6: the reference's first evening -/
noncomputable def okR (ma mg mt wf wp wt : Nat → Int32) (mw ml : Int32) (co ro mm mp : Nat → Int32) (mz : Int32) (wy : Nat → Int64) (st : Int32) (k : Nat) : Bool := decide (¬ (hnF ma mg mt wf wp wt mw ml co ro mm mp mz st (nI k)).toInt < 0 ∧ ¬ (wy (Int32.toNatClampNeg (hnF ma mg mt wf wp wt mw ml co ro mm mp mz st (nI k)))).toInt = 0)
def frV (p : Int32 → Nat → Bool) (nt : Int32 → Int32 → Int32) (i : Int32) : Nat → Int32 → Int32 → Int32
  | 0, _, _ => -6
  | n + 1, st, k => if k = i then 97 + fs4 (p st) else frV p nt i n (nt st (fs4 (p st))) (k + 1)
/-- where the walk stands -/
def FRI (p : Int32 → Nat → Bool) (nt : Int32 → Int32 → Int32) (i T st s k : Int32) : Prop := (k.toInt ≤ i.toInt ∧ frV p nt i (i.toInt + 1 - k.toInt).toNat st k = T) ∨ (k.toInt = i.toInt + 1 ∧ 97 + s = T)
theorem FRI.z {p : Int32 → Nat → Bool} {nt : Int32 → Int32 → Int32} {i s : Int32} (h : 0 ≤ i.toInt) : FRI p nt i (frV p nt i (i.toInt + 1).toNat 0 0) 0 s 0 := Or.inl ⟨by rw [t0_]; exact h, by rw [t0_, Int.sub_zero]⟩
theorem FRI.go {p : Int32 → Nat → Bool} {nt : Int32 → Int32 → Int32} {i T st s0 s k k2 st2 : Int32} (h : FRI p nt i T st s0 k) (hk : k.toInt ≤ i.toInt) (h2 : k2.toInt = k.toInt + 1) (e2 : k2 = k + 1) (hs : fs4 (p st) = s) (hn : st2 = nt st s) : FRI p nt i T st2 s k2 := by
  rcases h with ⟨_, h⟩ | ⟨h, _⟩
  · rw [show (i.toInt + 1 - k.toInt).toNat = (i.toInt + 1 - k2.toInt).toNat + 1 by omega, frV, hs] at h
    by_cases c : k = i
    · rw [if_pos c] at h
      exact Or.inr ⟨by rw [h2, c], h⟩
    · rw [if_neg c, ← hn, ← e2] at h
      have : ¬ k.toInt = i.toInt := fun q => c (i_eq.mpr q)
      exact Or.inl ⟨by omega, h⟩
  · omega
theorem FRI.out {p : Int32 → Nat → Bool} {nt : Int32 → Int32 → Int32} {i T st s k : Int32} (h : FRI p nt i T st s k) (hk : i.toInt < k.toInt) : 97 + s = T := by
  rcases h with ⟨h, _⟩ | ⟨_, h⟩
  · omega
  · exact h
/-! LEVEL 7: the reference's reached stands -/
noncomputable def okS (ma mg mt wf wp wt : Nat → Int32) (mw ml : Int32) (co ro mm mp : Nat → Int32) (mz : Int32) (wy : Nat → Int64) (st : Int32) (k : Nat) : Bool := decide (¬ (hnF ma mg mt wf wp wt mw ml co ro mm mp mz st (nI k)).toInt < 0 ∧ (0 : Int64).toInt < (wy (Int32.toNatClampNeg (hnF ma mg mt wf wp wt mw ml co ro mm mp mz st (nI k)))).toInt)
def RCR (HN : Int32 → Int32 → Int32) (OKs : Int32 → Nat → Bool) (P : Int) (st : Int32) : Prop := ∀ Q : Int32 → Prop, Q 0 → (∀ (u : Int32) (k : Nat), Q u → (0 ≤ u.toInt ∧ u.toInt < 40625) → sm u ≤ P → k < 4 → OKs u k = true → Q (HN u (nI k))) → Q st
theorem RCR.z {HN : Int32 → Int32 → Int32} {OKs : Int32 → Nat → Bool} {P : Int} : RCR HN OKs P 0 := fun _ h _ => h
theorem RCR.go {HN : Int32 → Int32 → Int32} {OKs : Int32 → Nat → Bool} {P : Int} {u : Int32} {k : Nat} (h : RCR HN OKs P u) (hu : 0 ≤ u.toInt ∧ u.toInt < 40625) (hp : sm u ≤ P) (hk : k < 4) (ho : OKs u k = true) : RCR HN OKs P (HN u (nI k)) := fun Q h0 hs => hs u k (h Q h0 hs) hu hp hk ho
def PRC (al b : Int) (sk : Nat) (u : Int32) (k : Nat) : Prop := sm u < al ∨ (sm u = al ∧ u.toInt < b) ∨ (sm u = al ∧ u.toInt = b ∧ k < sk)
/-- the marks as far as a stand and a story of it -/
def SRI (HN : Int32 → Int32 → Int32) (OKs : Int32 → Nat → Bool) (P : Int) (ir : Nat → Int32) (al b : Int) (sk : Nat) (g : Int32) : Prop :=
  ¬ (ir 0).toInt = 0 ∧ (∀ u : Int32, 0 ≤ u.toInt → u.toInt < 40625 → ¬ (ir u.toNatClampNeg).toInt = 0 → RCR HN OKs P u) ∧ (∀ (u : Int32) (k : Nat), 0 ≤ u.toInt → u.toInt < 40625 → k < 4 → PRC al b sk u k → ¬ (ir u.toNatClampNeg).toInt = 0 → sm u ≤ P → OKs u k = true → ¬ (ir (HN u (nI k)).toNatClampNeg).toInt = 0) ∧ ∃ p : Nat → Bool, (∀ s : Nat, s < 4 → (p s = true ↔ ∃ u : Int32, (0 ≤ u.toInt ∧ u.toInt < 40625) ∧ PRC al b sk u s ∧ ¬ (ir u.toNatClampNeg).toInt = 0 ∧ sm u = P ∧ OKs u s = true)) ∧ g = btn p 4
section SR
variable {HN : Int32 → Int32 → Int32} {OKs : Int32 → Nat → Bool} {P al b : Int} {ir : Nat → Int32} {sk : Nat} {g : Int32}
theorem SRI.ini (h0 : ¬ (ir 0).toInt = 0) (hz : ∀ u : Int32, 0 ≤ u.toInt → u.toInt < 40625 → ¬ u.toInt = 0 → (ir u.toNatClampNeg).toInt = 0) (ha : al = 0) (hb : b = 0) : SRI HN OKs P ir al b 0 0 := by
  subst ha hb
  refine ⟨h0, fun u u0 u1 hm => ?_, fun u k u0 u1 _ hp => ?_, fun _ => false, fun s hs => ⟨fun h => absurd (show false = true from h) (by decide), ?_⟩, by decide +kernel⟩
  · by_cases c : u.toInt = 0
    · rw [i_eq.mpr (c.trans t0_.symm)]; exact RCR.z
    · exact absurd (hz u u0 u1 c) hm
  · have := sm_rng u0; rcases hp with hp | hp | hp <;> omega
  · rintro ⟨u, u0, hp, _⟩
    have := sm_rng u0.1; rcases hp with hp | hp | hp <;> omega
/-- nothing more is taken in -/
theorem SRI.same {al2 b2 : Int} {sk2 : Nat} (h : SRI HN OKs P ir al b sk g) (hq : ∀ (u : Int32) (k : Nat), 0 ≤ u.toInt → u.toInt < 40625 → k < 4 → (PRC al b sk u k → PRC al2 b2 sk2 u k) ∧ (PRC al2 b2 sk2 u k → PRC al b sk u k ∨ (ir u.toNatClampNeg).toInt = 0 ∨ OKs u k = false)) : SRI HN OKs P ir al2 b2 sk2 g := by
  obtain ⟨a, c, d, p, e, f⟩ := h
  have key : ∀ (u : Int32) (k : Nat), 0 ≤ u.toInt → u.toInt < 40625 → k < 4 → PRC al2 b2 sk2 u k → ¬ (ir u.toNatClampNeg).toInt = 0 → OKs u k = true → PRC al b sk u k := fun u k u0 u1 hk hp hm ho => by
    rcases (hq u k u0 u1 hk).2 hp with q | q | q
    · exact q
    · exact absurd q hm
    · rw [q] at ho; exact absurd ho (by decide)
  refine ⟨a, c, fun u k u0 u1 hk hp hm hs ho => d u k u0 u1 hk (key u k u0 u1 hk hp hm ho) hm hs ho, p, fun s hs => (e s hs).trans ⟨?_, ?_⟩, f⟩
  · rintro ⟨u, u0, q1, q2⟩
    exact ⟨u, u0, (hq u s u0.1 u0.2 hs).1 q1, q2⟩
  · rintro ⟨u, u0, q1, q2, q3, q4⟩
    exact ⟨u, u0, key u s u0.1 u0.2 hs q1 q2 q4, q2, q3, q4⟩
/-- a story that can come is taken in -/
theorem SRI.take {st w : Int32} {g2 : Int32} (h : SRI HN OKs P ir al b sk g) (hst : 0 ≤ st.toInt ∧ st.toInt < 40625) (hb : st.toInt = b) (hs : sm st = al) (hP : al ≤ P) (hm : ¬ (ir st.toNatClampNeg).toInt = 0) (hk : sk < 4) (ho : OKs st sk = true) (hw : w = HN st (nI sk)) (hwr : 0 ≤ w.toInt ∧ w.toInt < 40625) (hws : sm w = al + 1) (hg : (al = P ∧ g2 = g ||| ((1 : Int32) <<< (nI sk &&& 31))) ∨ (¬ al = P ∧ g2 = g ||| 0)) : SRI HN OKs P (upd ir w.toNatClampNeg 1) al b (sk + 1) g2 := by
  obtain ⟨a, c, d, p, e, f⟩ := h
  have up : ∀ q : Nat, ¬ (ir q).toInt = 0 → ¬ (upd ir w.toNatClampNeg 1 q).toInt = 0 := fun q hq => by
    rw [upd_eq]
    by_cases z : q = w.toNatClampNeg
    · rw [if_pos z, t1_]; omega
    · rw [if_neg z]; exact hq
  have low : ∀ u : Int32, 0 ≤ u.toInt → u.toInt < 40625 → sm u ≤ al → ¬ (upd ir w.toNatClampNeg 1 u.toNatClampNeg).toInt = 0 → ¬ (ir u.toNatClampNeg).toInt = 0 := fun u u0 u1 hu q => by
    rw [upd_eq] at q
    by_cases z : u.toNatClampNeg = w.toNatClampNeg
    · have := cl_inj u0 hwr.1 z
      rw [this] at hu; omega
    · rw [if_neg z] at q; exact q
  have prl : ∀ (u : Int32) (k : Nat), PRC al b (sk + 1) u k → sm u ≤ al := fun u k hp => by rcases hp with hp | hp | hp <;> omega
  have pr : ∀ (u : Int32) (k : Nat), 0 ≤ u.toInt → PRC al b (sk + 1) u k → PRC al b sk u k ∨ (u = st ∧ k = sk) := fun u k u0 hp => by
    rcases hp with hp | hp | ⟨h1, h2, h3⟩
    · exact Or.inl (Or.inl hp)
    · exact Or.inl (Or.inr (Or.inl hp))
    · by_cases z : k = sk
      · exact Or.inr ⟨i_eq.mpr (h2.trans hb.symm), z⟩
      · exact Or.inl (Or.inr (Or.inr ⟨h1, h2, by omega⟩))
  have pl : ∀ (u : Int32) (k : Nat), PRC al b sk u k → PRC al b (sk + 1) u k := fun u k hp => by
    rcases hp with hp | hp | hp
    · exact Or.inl hp
    · exact Or.inr (Or.inl hp)
    · exact Or.inr (Or.inr ⟨hp.1, hp.2.1, by omega⟩)
  refine ⟨up 0 a, fun u u0 u1 q => ?_, fun u k u0 u1 k4 hp q hsu hok => ?_, ?_⟩
  · rw [upd_eq] at q
    by_cases z : u.toNatClampNeg = w.toNatClampNeg
    · rw [cl_inj u0 hwr.1 z, hw]
      exact (c st hst.1 hst.2 hm).go hst (by omega) hk ho
    · rw [if_neg z] at q; exact c u u0 u1 q
  · rcases pr u k u0 hp with q2 | ⟨q2, q3⟩
    · exact up _ (d u k u0 u1 k4 q2 (low u u0 u1 (prl u k hp) q) hsu hok)
    · rw [q2, q3, ← hw, upd_eq, if_pos rfl, t1_]; omega
  · rcases hg with ⟨hP2, hg⟩ | ⟨hP2, hg⟩
    · refine ⟨fun k => if k = sk then true else p k, fun s hs4 => ?_, ?_⟩
      · show (if s = sk then true else p s) = true ↔ _
        by_cases z : s = sk
        · rw [if_pos z]
          refine ⟨fun _ => ⟨st, hst, Or.inr (Or.inr ⟨hs, hb, by omega⟩), up _ hm, by omega, by rw [z]; exact ho⟩, fun _ => rfl⟩
        · rw [if_neg z, e s hs4]
          constructor
          · rintro ⟨u, u0, q1, q2, q3⟩
            exact ⟨u, u0, pl u s q1, up _ q2, q3⟩
          · rintro ⟨u, u0, q1, q2, q3, q4⟩
            rcases pr u s u0.1 q1 with q5 | ⟨_, q5⟩
            · exact ⟨u, u0, q5, low u u0.1 u0.2 (prl u s q1) q2, q3, q4⟩
            · exact absurd q5 z
      · rw [hg, f]
        exact btn_on p _ hk fun i hi => rfl
    · refine ⟨p, fun s hs4 => (e s hs4).trans ⟨?_, ?_⟩, by rw [hg, or0]; exact f⟩
      · rintro ⟨u, u0, q1, q2, q3⟩
        exact ⟨u, u0, pl u s q1, up _ q2, q3⟩
      · rintro ⟨u, u0, q1, q2, q3, q4⟩
        rcases pr u s u0.1 q1 with q5 | ⟨q5, _⟩
        · exact ⟨u, u0, q5, low u u0.1 u0.2 (prl u s q1) q2, q3, q4⟩
        · rw [q5, hs] at q3; exact absurd q3 hP2
theorem SRI.out (h : SRI HN OKs P ir al b sk g) (ha : P < al) (hr : ∀ (u : Int32) (k : Nat), 0 ≤ u.toInt → u.toInt < 40625 → k < 4 → RCR HN OKs P u → OKs u k = true → 0 ≤ (HN u (nI k)).toInt ∧ (HN u (nI k)).toInt < 40625) : TBS g (fun s => ∃ u : Int32, (0 ≤ u.toInt ∧ u.toInt < 40625) ∧ RCR HN OKs P u ∧ sm u = P ∧ OKs u s = true) := by
  obtain ⟨a, c, d, p, e, f⟩ := h
  refine ⟨p, fun s hs => (e s hs).trans ⟨?_, ?_⟩, f⟩
  · rintro ⟨u, u0, q1, q2, q3, q4⟩
    exact ⟨u, u0, c u u0.1 u0.2 q2, q3, q4⟩
  · rintro ⟨u, u0, q1, q2, q3⟩
    have w := q1 (fun v => (0 ≤ v.toInt ∧ v.toInt < 40625) ∧ RCR HN OKs P v ∧ ¬ (ir v.toNatClampNeg).toInt = 0) ⟨⟨by rw [t0_]; omega, by rw [t0_]; omega⟩, RCR.z, a⟩ (fun v k ⟨z1, z2, z3⟩ _ z4 z5 z6 => ⟨hr v k z1.1 z1.2 z5 z2 z6, z2.go z1 z4 z5 z6, d v k z1.1 z1.2 z5 (Or.inl (by omega)) z3 z4 z6⟩)
    exact ⟨u, u0, Or.inl (by omega), w.2.2, q2, q3⟩
end SR
section SR2
variable {HN : Int32 → Int32 → Int32} {OKs : Int32 → Nat → Bool} {P al al2 b b2 : Int} {ir : Nat → Int32} {sk sk2 : Nat} {g : Int32}
theorem SRI.bb (h : SRI HN OKs P ir al b sk g) (e : b2 = b) (e2 : sk2 = sk) : SRI HN OKs P ir al b2 sk2 g := by subst e e2; exact h
theorem SRI.pass {st : Int32} (h : SRI HN OKs P ir al b sk g) (hb : st.toInt = b) (ho : OKs st sk = false) (hk : sk2 = sk + 1) : SRI HN OKs P ir al b sk2 g := by
  subst hk
  refine h.same fun u k u0 u1 k4 => ⟨fun q => ?_, fun q => ?_⟩
  · rcases q with q | q | q
    · exact Or.inl q
    · exact Or.inr (Or.inl q)
    · exact Or.inr (Or.inr ⟨q.1, q.2.1, by omega⟩)
  · rcases q with q | q | ⟨q1, q2, q3⟩
    · exact Or.inl (Or.inl q)
    · exact Or.inl (Or.inr (Or.inl q))
    · by_cases z : k = sk
      · right; right; rw [z, i_eq.mpr (q2.trans hb.symm)]; exact ho
      · exact Or.inl (Or.inr (Or.inr ⟨q1, q2, by omega⟩))
theorem SRI.stand (h : SRI HN OKs P ir al b sk g) (hs : 4 ≤ sk) (hb : b2 = b + 1) : SRI HN OKs P ir al b2 0 g := by
  subst hb
  refine h.same fun u k u0 u1 k4 => ⟨fun q => ?_, fun q => ?_⟩
  · rcases q with q | q | q
    · exact Or.inl q
    · exact Or.inr (Or.inl ⟨q.1, by omega⟩)
    · exact Or.inr (Or.inl ⟨q.1, by omega⟩)
  · rcases q with q | q | q
    · exact Or.inl (Or.inl q)
    · by_cases z : u.toInt = b
      · exact Or.inl (Or.inr (Or.inr ⟨q.1, z, by omega⟩))
      · exact Or.inl (Or.inr (Or.inl ⟨q.1, by omega⟩))
    · omega
theorem SRI.un {st : Int32} (h : SRI HN OKs P ir al b sk g) (hst : st.toInt = b) (hm : (ir st.toNatClampNeg).toInt = 0) (hb : b2 = b + 1) : SRI HN OKs P ir al b2 0 g := by
  subst hb
  refine h.same fun u k u0 u1 k4 => ⟨fun q => ?_, fun q => ?_⟩
  · rcases q with q | q | q
    · exact Or.inl q
    · exact Or.inr (Or.inl ⟨q.1, by omega⟩)
    · exact Or.inr (Or.inl ⟨q.1, by omega⟩)
  · rcases q with q | q | q
    · exact Or.inl (Or.inl q)
    · by_cases z : u.toInt = b
      · right; left; rw [i_eq.mpr (z.trans hst.symm)]; exact hm
      · exact Or.inl (Or.inr (Or.inl ⟨q.1, by omega⟩))
    · omega
theorem SRI.rows {n r : Int} (h : SRI HN OKs P ir al (65 * n + r) 0 g) (h0 : 0 ≤ n) (hr : 0 ≤ r ∧ r ≤ 65) (hn : ¬ fs n = al) (hb : b2 = 65 * n + 65) : SRI HN OKs P ir al b2 0 g := by
  subst hb
  refine h.same fun u k u0 u1 k4 => ⟨fun q => ?_, fun q => ?_⟩
  · rcases q with q | q | q
    · exact Or.inl q
    · exact Or.inr (Or.inl ⟨q.1, by omega⟩)
    · omega
  · left
    rcases q with q | q | q
    · exact Or.inl q
    · by_cases z : u.toInt < 65 * n + r
      · exact Or.inr (Or.inl ⟨q.1, z⟩)
      · have := sm_at (a := u) (n := n) (r := u.toInt - 65 * n) h0 (by omega) (by omega)
        omega
    · omega
theorem SRI.next (h : SRI HN OKs P ir al b 0 g) (hb : 40625 ≤ b) (ha : al2 = al + 1) : SRI HN OKs P ir al2 0 0 g := by
  subst ha
  refine h.same fun u k u0 u1 k4 => ⟨fun q => ?_, fun q => ?_⟩
  · rcases q with q | q | q
    · exact Or.inl (by omega)
    · exact Or.inl (by omega)
    · omega
  · left
    rcases q with q | q | q
    · by_cases z : sm u < al
      · exact Or.inl z
      · exact Or.inr (Or.inl ⟨by omega, by omega⟩)
    · omega
    · omega
end SR2
theorem rch_ini {ma co ir : Nat → Int32} (hp : POk ma) (h0 : co 0 = 0) (h : ∀ q : Nat, (q : Int) < 40625 → ir q = if q = 0 then 1 else 0) : RCH ma co ir 40625 := fun st s0 s1 hn => by
  have e : st.toNatClampNeg = st.toInt.toNat := rfl
  rw [h st.toNatClampNeg (by rw [e]; omega)] at hn
  by_cases c : st.toNatClampNeg = 0
  · have : st = 0 := i_eq.mpr (by rw [t0_]; omega)
    rw [this]; exact GS.z hp h0
  · rw [if_neg c, t0_] at hn; exact absurd rfl hn
section OS
variable {ma mg mt wf wp wt co ro mm mp : Nat → Int32} {mw ml mz st x r : Int32} {wy : Nat → Int64}
theorem okS_t (h0 : 0 ≤ x.toInt) (e : r = hnF ma mg mt wf wp wt mw ml co ro mm mp mz st x) (h1 : ¬ r.toInt < 0) (h2 : ¬ (wy (Int32.toNatClampNeg r)).toInt ≤ (0 : Int64).toInt) : okS ma mg mt wf wp wt mw ml co ro mm mp mz wy st x.toInt.toNat = true := by
  unfold okS
  rw [← nI_sl h0, ← e]
  exact decide_eq_true ⟨h1, by omega⟩
theorem okS_f (h0 : 0 ≤ x.toInt) (e : r = hnF ma mg mt wf wp wt mw ml co ro mm mp mz st x) (h : r.toInt < 0 ∨ (wy (Int32.toNatClampNeg r)).toInt ≤ (0 : Int64).toInt) : okS ma mg mt wf wp wt mw ml co ro mm mp mz wy st x.toInt.toNat = false := by
  unfold okS
  rw [← nI_sl h0, ← e]
  refine decide_eq_false fun q => ?_
  rcases h with h | h
  · exact q.1 h
  · have := q.2; omega
end OS
theorem rcr_gs {ma mg mt wf wp wt co ro mm mp : Nat → Int32} {mw ml mz u : Int32} {wy : Nat → Int64} {P : Int} (hp : POk ma) (hR : RT co ro) (h : RCR (fun st s => hnF ma mg mt wf wp wt mw ml co ro mm mp mz st s) (fun st => okS ma mg mt wf wp wt mw ml co ro mm mp mz wy st) P u) : GS ma co u :=
  h (fun v => GS ma co v) (GS.z hp hR.2.1) (fun v k hv hv2 _ hk ho => (hn_ok hR hv2.1 hv (by have : (nI k).toInt = (k : Int) := nI_toInt (by omega); omega) (of_decide_eq_true ho).1).2.1)
