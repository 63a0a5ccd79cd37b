/-! what stands before and after each call of the law -/
def lw_I (L : Nat) (xs : Nat → Int32) (k : Nat) (h : jx_H) (W : cw) (g : Nat → Option jx_E) (nx s : Nat) (X : Nat → Option jx_E) (R : rf_R) (B D U x : Nat) (T : tv) : Prop := (h = ju (hc W g nx s) X) ∧ (78 ≤ nx) ∧ (∀ a, nx ≤ a → g a = none) ∧ (∀ a, 56 ≤ a → a < 78 → g a = none) ∧ (∀ a, ¬ (56 ≤ a ∧ a < 78) → X a = none) ∧ (g 0 = some (.inl (98, L, .inl xs))) ∧ (rf_At 56 R h) ∧ (kn_at W g B D x T) ∧ (tls T (R.1 0)) ∧ (R.2.2.1 2 = nI B) ∧ (R.2.2.1 3 = nI D) ∧ (R.2.2.1 4 = nI U) ∧ (W.2.2.1 1 3 = nI U) ∧ (D + U ≤ 200) ∧ (rg W g R B (D + U)) ∧ (∃ a, a ≤ 40 ∧ W.2.2.1 1 9 = nI a ∧ R.2.2.1 39 = nI a) ∧ (∀ w : Int32, (if 0 ≤ w.toInt ∧ w.toInt ≤ 3 then W.2.1 34 w.toNatClampNeg else -1) = rf_fin R w) ∧ (R.2.2.1 6 = nI 0) ∧ (R.1 28 0 = 0) ∧ (nx ≤ 78 + 100 * k) ∧ (s ≤ k1_s + kz129 + 400 * k)
theorem lw_I.eh {L : Nat} {xs : Nat → Int32} {k : Nat} {h : jx_H} {W : cw} {g : Nat → Option jx_E} {nx s : Nat} {X : Nat → Option jx_E} {R : rf_R} {B D U x : Nat} {T : tv} (I : lw_I L xs k h W g nx s X R B D U x T) : h = ju (hc W g nx s) X := I.1
theorem lw_I.nx78 {L : Nat} {xs : Nat → Int32} {k : Nat} {h : jx_H} {W : cw} {g : Nat → Option jx_E} {nx s : Nat} {X : Nat → Option jx_E} {R : rf_R} {B D U x : Nat} {T : tv} (I : lw_I L xs k h W g nx s X R B D U x T) : 78 ≤ nx := I.2.1
theorem lw_I.free {L : Nat} {xs : Nat → Int32} {k : Nat} {h : jx_H} {W : cw} {g : Nat → Option jx_E} {nx s : Nat} {X : Nat → Option jx_E} {R : rf_R} {B D U x : Nat} {T : tv} (I : lw_I L xs k h W g nx s X R B D U x T) : ∀ a, nx ≤ a → g a = none := I.2.2.1
theorem lw_I.hole {L : Nat} {xs : Nat → Int32} {k : Nat} {h : jx_H} {W : cw} {g : Nat → Option jx_E} {nx s : Nat} {X : Nat → Option jx_E} {R : rf_R} {B D U x : Nat} {T : tv} (I : lw_I L xs k h W g nx s X R B D U x T) : ∀ a, 56 ≤ a → a < 78 → g a = none := I.2.2.2.1
theorem lw_I.only {L : Nat} {xs : Nat → Int32} {k : Nat} {h : jx_H} {W : cw} {g : Nat → Option jx_E} {nx s : Nat} {X : Nat → Option jx_E} {R : rf_R} {B D U x : Nat} {T : tv} (I : lw_I L xs k h W g nx s X R B D U x T) : ∀ a, ¬ (56 ≤ a ∧ a < 78) → X a = none := I.2.2.2.2.1
theorem lw_I.script {L : Nat} {xs : Nat → Int32} {k : Nat} {h : jx_H} {W : cw} {g : Nat → Option jx_E} {nx s : Nat} {X : Nat → Option jx_E} {R : rf_R} {B D U x : Nat} {T : tv} (I : lw_I L xs k h W g nx s X R B D U x T) : g 0 = some (.inl (98, L, .inl xs)) := I.2.2.2.2.2.1
theorem lw_I.at_ {L : Nat} {xs : Nat → Int32} {k : Nat} {h : jx_H} {W : cw} {g : Nat → Option jx_E} {nx s : Nat} {X : Nat → Option jx_E} {R : rf_R} {B D U x : Nat} {T : tv} (I : lw_I L xs k h W g nx s X R B D U x T) : rf_At 56 R h := I.2.2.2.2.2.2.1
theorem lw_I.now {L : Nat} {xs : Nat → Int32} {k : Nat} {h : jx_H} {W : cw} {g : Nat → Option jx_E} {nx s : Nat} {X : Nat → Option jx_E} {R : rf_R} {B D U x : Nat} {T : tv} (I : lw_I L xs k h W g nx s X R B D U x T) : kn_at W g B D x T := I.2.2.2.2.2.2.2.1
theorem lw_I.tl {L : Nat} {xs : Nat → Int32} {k : Nat} {h : jx_H} {W : cw} {g : Nat → Option jx_E} {nx s : Nat} {X : Nat → Option jx_E} {R : rf_R} {B D U x : Nat} {T : tv} (I : lw_I L xs k h W g nx s X R B D U x T) : tls T (R.1 0) := I.2.2.2.2.2.2.2.2.1
theorem lw_I.e2 {L : Nat} {xs : Nat → Int32} {k : Nat} {h : jx_H} {W : cw} {g : Nat → Option jx_E} {nx s : Nat} {X : Nat → Option jx_E} {R : rf_R} {B D U x : Nat} {T : tv} (I : lw_I L xs k h W g nx s X R B D U x T) : R.2.2.1 2 = nI B := I.2.2.2.2.2.2.2.2.2.1
theorem lw_I.e3 {L : Nat} {xs : Nat → Int32} {k : Nat} {h : jx_H} {W : cw} {g : Nat → Option jx_E} {nx s : Nat} {X : Nat → Option jx_E} {R : rf_R} {B D U x : Nat} {T : tv} (I : lw_I L xs k h W g nx s X R B D U x T) : R.2.2.1 3 = nI D := I.2.2.2.2.2.2.2.2.2.2.1
theorem lw_I.e4 {L : Nat} {xs : Nat → Int32} {k : Nat} {h : jx_H} {W : cw} {g : Nat → Option jx_E} {nx s : Nat} {X : Nat → Option jx_E} {R : rf_R} {B D U x : Nat} {T : tv} (I : lw_I L xs k h W g nx s X R B D U x T) : R.2.2.1 4 = nI U := I.2.2.2.2.2.2.2.2.2.2.2.1
theorem lw_I.eU {L : Nat} {xs : Nat → Int32} {k : Nat} {h : jx_H} {W : cw} {g : Nat → Option jx_E} {nx s : Nat} {X : Nat → Option jx_E} {R : rf_R} {B D U x : Nat} {T : tv} (I : lw_I L xs k h W g nx s X R B D U x T) : W.2.2.1 1 3 = nI U := I.2.2.2.2.2.2.2.2.2.2.2.2.1
theorem lw_I.hU {L : Nat} {xs : Nat → Int32} {k : Nat} {h : jx_H} {W : cw} {g : Nat → Option jx_E} {nx s : Nat} {X : Nat → Option jx_E} {R : rf_R} {B D U x : Nat} {T : tv} (I : lw_I L xs k h W g nx s X R B D U x T) : D + U ≤ 200 := I.2.2.2.2.2.2.2.2.2.2.2.2.2.1
theorem lw_I.ring {L : Nat} {xs : Nat → Int32} {k : Nat} {h : jx_H} {W : cw} {g : Nat → Option jx_E} {nx s : Nat} {X : Nat → Option jx_E} {R : rf_R} {B D U x : Nat} {T : tv} (I : lw_I L xs k h W g nx s X R B D U x T) : rg W g R B (D + U) := I.2.2.2.2.2.2.2.2.2.2.2.2.2.2.1
theorem lw_I.asked {L : Nat} {xs : Nat → Int32} {k : Nat} {h : jx_H} {W : cw} {g : Nat → Option jx_E} {nx s : Nat} {X : Nat → Option jx_E} {R : rf_R} {B D U x : Nat} {T : tv} (I : lw_I L xs k h W g nx s X R B D U x T) : ∃ a, a ≤ 40 ∧ W.2.2.1 1 9 = nI a ∧ R.2.2.1 39 = nI a := I.2.2.2.2.2.2.2.2.2.2.2.2.2.2.2.1
theorem lw_I.found {L : Nat} {xs : Nat → Int32} {k : Nat} {h : jx_H} {W : cw} {g : Nat → Option jx_E} {nx s : Nat} {X : Nat → Option jx_E} {R : rf_R} {B D U x : Nat} {T : tv} (I : lw_I L xs k h W g nx s X R B D U x T) : ∀ w : Int32, (if 0 ≤ w.toInt ∧ w.toInt ≤ 3 then W.2.1 34 w.toNatClampNeg else -1) = rf_fin R w := I.2.2.2.2.2.2.2.2.2.2.2.2.2.2.2.2.1
theorem lw_I.e6 {L : Nat} {xs : Nat → Int32} {k : Nat} {h : jx_H} {W : cw} {g : Nat → Option jx_E} {nx s : Nat} {X : Nat → Option jx_E} {R : rf_R} {B D U x : Nat} {T : tv} (I : lw_I L xs k h W g nx s X R B D U x T) : R.2.2.1 6 = nI 0 := I.2.2.2.2.2.2.2.2.2.2.2.2.2.2.2.2.2.1
theorem lw_I.e28 {L : Nat} {xs : Nat → Int32} {k : Nat} {h : jx_H} {W : cw} {g : Nat → Option jx_E} {nx s : Nat} {X : Nat → Option jx_E} {R : rf_R} {B D U x : Nat} {T : tv} (I : lw_I L xs k h W g nx s X R B D U x T) : R.1 28 0 = 0 := I.2.2.2.2.2.2.2.2.2.2.2.2.2.2.2.2.2.2.1
theorem lw_I.cells {L : Nat} {xs : Nat → Int32} {k : Nat} {h : jx_H} {W : cw} {g : Nat → Option jx_E} {nx s : Nat} {X : Nat → Option jx_E} {R : rf_R} {B D U x : Nat} {T : tv} (I : lw_I L xs k h W g nx s X R B D U x T) : nx ≤ 78 + 100 * k := I.2.2.2.2.2.2.2.2.2.2.2.2.2.2.2.2.2.2.2.1
theorem lw_I.slots {L : Nat} {xs : Nat → Int32} {k : Nat} {h : jx_H} {W : cw} {g : Nat → Option jx_E} {nx s : Nat} {X : Nat → Option jx_E} {R : rf_R} {B D U x : Nat} {T : tv} (I : lw_I L xs k h W g nx s X R B D U x T) : s ≤ k1_s + kz129 + 400 * k := I.2.2.2.2.2.2.2.2.2.2.2.2.2.2.2.2.2.2.2.2
def lw_K (L : Nat) (xs : Nat → Int32) (k : Nat) (h : jx_H) : Prop := ∃ W g nx s X R B D U x T, lw_I L xs k h W g nx s X R B D U x T
def lw_C (P : Nat → jx_H → Prop) (L : Nat) (xs : Nat → Int32) (k : Nat) (h : jx_H) (mc mr : Nat) (args : List Value) (ty : Bool) : Prop := ∃ (v : Value) (h2 h3 : jx_H), ((ty = true ∧ ∃ x : Int32, v = .int x) ∨ (ty = false ∧ ∃ x : Int64, v = .long x)) ∧ jx_T mc 0 (jx_ent mc (.ref 1 :: args)) [] h (some v) h2 ∧ lw_sc L xs h2 ∧ jx_T mr 0 (jx_ent mr (.ref 56 :: args)) [] h2 (some v) h3 ∧ P (k + 1) h3
section
variable {L : Nat} {xs : Nat → Int32} {k : Nat} {h : jx_H} {W : cw} {g : Nat → Option jx_E} {nx s : Nat} {X : Nat → Option jx_E} {R : rf_R} {B D U x : Nat} {T : tv}
theorem ju_0 {W : cw} {g X : Nat → Option jx_E} {nx s a : Nat} (ha : 35 ≤ a ∨ a = 0) : (ju (hc W g nx s) X).2.2 a = match g a with | some e => some e | none => X a := by
  show (match (if 1 ≤ a ∧ a < 35 then (cw_list W)[a - 1]? else g a) with | some e => some e | none => X a) = _
  rw [if_neg (by omega)]
theorem lw_I.sc (I : lw_I L xs k h W g nx s X R B D U x T) : lw_sc L xs h := by
  refine ⟨?_, ?_, ⟨_, I.at_.1⟩⟩
  · rw [I.eh, ju_0 (Or.inr rfl), I.script]
  · rw [I.eh]
    exact ⟨_, rfl⟩
theorem lw_K.sc (p : lw_K L xs k h) : lw_sc L xs h := by
  obtain ⟨W, g, nx, s, X, R, B, D, U, x, T, I⟩ := p
  exact I.sc
theorem lw_K.mono (p : lw_K L xs k h) : lw_K L xs (k + 1) h := by
  obtain ⟨W, g, nx, s, X, R, B, D, U, x, T, I⟩ := p
  exact ⟨W, g, nx, s, X, R, B, D, U, x, T, ⟨I.eh, I.nx78, I.free, I.hole, I.only, I.script, I.at_, I.now, I.tl, I.e2, I.e3, I.e4, I.eU, I.hU, I.ring, I.asked, I.found, I.e6, I.e28, by have := I.cells; omega, by have := I.slots; omega⟩⟩
theorem lw_K.room (p : lw_K L xs k h) (hk : k ≤ 512) : h.1 ≤ 600001 ∧ h.2.1 ≤ 7302250 := by
  obtain ⟨W, g, nx, s, X, R, B, D, U, x, T, I⟩ := p
  have h1 := I.cells
  have h2 := I.slots
  have h3 : k1_s + kz129 ≤ 600000 := by decide
  rw [I.eh]
  show nx ≤ 600001 ∧ s ≤ 7302250
  omega
/-- the class runs as if the reference weren't there -/
theorem lw_I.cls (I : lw_I L xs k h W g nx s X R B D U x T) {m pc : Nat} {ls st : List Value} {v : Option Value} {W2 : cw} {g2 : Nat → Option jx_E} {nx2 s2 : Nat} (t : jx_T m pc ls st (hc W g nx s) v (hc W2 g2 nx2 s2)) : jx_T m pc ls st h v (ju (hc W2 g2 nx2 s2) X) ∧ (∀ a, 56 ≤ a → a < 78 → g2 a = none) ∧ rf_At 56 R (ju (hc W2 g2 nx2 s2) X) := by
  have hn := I.nx78
  have ho : ∀ a, 56 ≤ a → a < 78 → g2 a = none := by
    intro a h1 h2
    have := t.dm a (by show a < nx; omega) (by rw [hc_out (by omega)]; exact I.hole a h1 h2)
    rw [hc_out (by omega)] at this
    exact this
  refine ⟨by rw [I.eh]; exact t.ju X, ho, ?_⟩
  have key : ∀ a, 56 ≤ a → a < 78 → (ju (hc W2 g2 nx2 s2) X).2.2 a = h.2.2 a := by
    intro a h1 h2
    rw [I.eh, ju_0 (by omega), ju_0 (by omega), ho a h1 h2, I.hole a h1 h2]
  refine ⟨by rw [key 56 (by decide) (by decide)]; exact I.at_.1, fun q hq => ?_⟩
  have hb : q.2.1 < 22 := by
    have : ∀ q ∈ rf_tab, q.2.1 < 22 := by decide
    exact this q hq
  rw [key (56 + q.2.1) (by omega) (by omega)]
  exact I.at_.2 q hq
/-- the reference runs and keeps all else -/
theorem lw_ref {W : cw} {g : Nat → Option jx_E} {nx s : Nat} {X : Nat → Option jx_E} {R R2 : rf_R} {m : Nat} {vs : List Value} {v : Option Value} (hole : ∀ a, 56 ≤ a → a < 78 → g a = none) (only : ∀ a, ¬ (56 ≤ a ∧ a < 78) → X a = none) (H : rf_At 56 R (ju (hc W g nx s) X)) (c : rf_C m 56 vs R v R2) : ∃ X2, jx_T m 0 (jx_ent m vs) [] (ju (hc W g nx s) X) v (ju (hc W g nx s) X2) ∧ (∀ a, ¬ (56 ≤ a ∧ a < 78) → X2 a = none) ∧ rf_At 56 R2 (ju (hc W g nx s) X2) := by
  obtain ⟨h2, t, a2, f⟩ := c _ H
  have e : h2 = ju (hc W g nx s) (fun a => if 56 ≤ a ∧ a < 78 then h2.2.2 a else none) := by
    refine Prod.ext f.1 (Prod.ext f.2.1 (funext fun a => ?_))
    show h2.2.2 a = match (hc W g nx s).2.2 a with | some e => some e | none => if 56 ≤ a ∧ a < 78 then h2.2.2 a else none
    by_cases y : 56 ≤ a ∧ a < 78
    · rw [hc_out (by omega), hole a y.1 y.2, if_pos y]
    · rw [f.2.2 a (by omega)]
      show (match (hc W g nx s).2.2 a with | some e => some e | none => X a) = _
      rw [only a y, if_neg y]
  refine ⟨fun a => if 56 ≤ a ∧ a < 78 then h2.2.2 a else none, ?_, fun a ha => if_neg ha, ?_⟩
  · rw [← e]
    exact t
  · rw [← e]
    exact a2
/-- both refuse -/
theorem lw_no (I : lw_I L xs k h W g nx s X R B D U x T) {mc mr : Nat} {args : List Value} {v : Int32} (t : jx_T mc 0 (jx_ent mc (.ref 1 :: args)) [] (hc W g nx s) (some (.int v)) (hc W g nx s)) (c : rf_C mr 56 (.ref 56 :: args) R (some (.int v)) R) : lw_C (lw_K L xs) L xs k h mc mr args true := by
  obtain ⟨t1, -, -⟩ := I.cls t
  rw [← I.eh] at t1
  have A := I.at_
  rw [I.eh] at A
  obtain ⟨X2, t2, o2, A2⟩ := lw_ref I.hole I.only A c
  rw [← I.eh] at t2
  exact ⟨.int v, h, _, Or.inl ⟨rfl, v, rfl⟩, t1, I.sc, t2, W, g, nx, s, X2, R, B, D, U, x, T, ⟨rfl, I.nx78, I.free, I.hole, o2, I.script, A2, I.now, I.tl, I.e2, I.e3, I.e4, I.eU, I.hU, I.ring, I.asked, I.found, I.e6, I.e28, by have := I.cells; omega, by have := I.slots; omega⟩⟩
end
