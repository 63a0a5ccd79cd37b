/-! the reference: meets -/
def rf_kM (R R2 : rf_R) : Prop := R2.1 = R.1 ∧ R2.2.1 = R.2.1 ∧ R2.2.2.1 = R.2.2.1 ∧ ∀ k, (k < 13 ∨ 19 ≤ k) → R2.2.2.2 k = R.2.2.2 k
theorem rf_kM.rf {R : rf_R} : rf_kM R R := ⟨rfl, rfl, rfl, fun _ _ => rfl⟩
theorem rf_kM.tr {R R2 R3 : rf_R} (a : rf_kM R R2) (b : rf_kM R2 R3) : rf_kM R R3 := ⟨b.1.trans a.1, b.2.1.trans a.2.1, b.2.2.1.trans a.2.2.1, fun k h => (b.2.2.2 k h).trans (a.2.2.2 k h)⟩
theorem rf_kM.J {R R2 : rf_R} (a : rf_kM R R2) : rf_J R R2 := ⟨by rw [a.1], by rw [a.1], fun k _ => by rw [a.2.2.1], fun k h => a.2.2.2 k (Or.inr h), by rw [a.1]⟩
theorem rf_kM.L {R : rf_R} {k : Nat} {x : Int64} (h : 13 ≤ k ∧ k < 19) : rf_kM R (rf_sL R k x) := ⟨rfl, rfl, rfl, fun j hj => if_neg (by omega)⟩
theorem rf_kM.S {R : rf_R} {q : Int64 × Int64 × Int64 × Int64} : rf_kM R (rf_set4 R q) := (((rf_kM.L (by decide)).tr (rf_kM.L (by decide))).tr (rf_kM.L (by decide))).tr (rf_kM.L (by decide))
abbrev m4 : Type := Int64 × Int64 × Int64 × Int64
def ms_n (p q : m4) : Int64 := (p.1 - q.1) * p.2.2.1 * q.2.2.1 - p.2.1 * q.2.2.1 + q.2.1 * p.2.2.1
def ms_d (p q : m4) : Int64 := p.2.2.1 * q.2.2.1
def ms_a (p q : m4) (fi : Bool) (ab : Int64 × Int64) : Int64 × Int64 := if fi = true ∨ ms_n p q * ab.2 < ab.1 * ms_d p q then (ms_n p q, ms_d p q) else ab
def ms_1 (p q : m4) : Int64 := if q.2.2.2 < p.2.2.2 then q.2.2.2 else p.2.2.2
def ms_s (p q : m4) (rem : Int64) : Int64 := if ms_1 p q < 1 ∨ rem < ms_1 p q then rem else ms_1 p q
def ms_lp (N : Nat → Int32) (h c : Nat) (hg cg heat : Int64) : Nat → Int64 → Bool → Int64 × Int64 → Int64 × Int64
  | 0, _, _, ab => ab
  | d + 1, at_, fi, ab => if at_ < heat then ms_lp N h c hg cg heat d (at_ + ms_s (pl_at N h (hg + at_)) (pl_at N c (cg + at_)) (heat - at_)) false (ms_a (pl_at N h (hg + at_)) (pl_at N c (cg + at_)) fi ab) else ms_a (pl_at N h (hg + at_)) (pl_at N c (cg + at_)) fi ab
theorem ms_s_in (p q : m4) {rem : Int64} (h : 0 < rem.toInt) : 1 ≤ (ms_s p q rem).toInt ∧ (ms_s p q rem).toInt ≤ rem.toInt := by
  unfold ms_s
  split
  · omega
  · rename_i z
    have h1 : ¬ ms_1 p q < 1 := fun y => z (Or.inl y)
    have h2 : ¬ rem < ms_1 p q := fun y => z (Or.inr y)
    rw [Int64.lt_iff_toInt_lt] at h1 h2
    have : (1 : Int64).toInt = 1 := by decide
    omega
theorem rc_meets_loop (r : Nat) (R : rf_R) (a c : Nat) (ha : a < 12) (hc : c < 12) (pa : rf_sp (R.1 0) a ≤ 8) (pc : rf_sp (R.1 0) c ≤ 8) (ea : R.1 0 (2 + 24 * a + 4) = nI (rf_sp (R.1 0) a)) (ec : R.1 0 (2 + 24 * c + 4) = nI (rf_sp (R.1 0) c)) (hg cg heat : Int64) (hh : heat.toInt < 2 ^ 40) : ∀ (d : Nat) (at_ : Int64) (fi : Bool) (ab : Int64 × Int64) (R1 : rf_R) (u13 u14 u15 u16 u17 u18 u19 u20 u21 u22 u23 u24 : Value), 0 ≤ at_.toInt → at_.toInt ≤ heat.toInt → heat.toInt - at_.toInt < d → rf_kM R R1 → (fi = false → R1.2.2.2 17 = ab.1 ∧ R1.2.2.2 18 = ab.2) → ∃ R2, (rf_kM R R2 ∧ R2.2.2.2 17 = (ms_lp (R.1 0) a c hg cg heat d at_ fi ab).1 ∧ R2.2.2.2 18 = (ms_lp (R.1 0) a c hg cg heat d at_ fi ab).2) ∧ ∀ h, rf_At r R1 h → rf_G r 184 9 [.ref r, .int (nI a), .long hg, .retAddr 0, .int (nI c), .long cg, .retAddr 0, .long heat, .retAddr 0, .long at_, .retAddr 0, .int (if fi = true then 1 else 0), .int 1, u13, u14, u15, u16, u17, u18, u19, u20, u21, u22, u23, u24] [] h none R2 := by
  intro d
  induction d with
  | zero =>
    intro at_ fi ab R1 u13 u14 u15 u16 u17 u18 u19 u20 u21 u22 u23 u24 h0 h1 h2
    omega
  | succ d ih =>
    intro at_ fi ab R1 u13 u14 u15 u16 u17 u18 u19 u20 u21 u22 u23 u24 h0 h1 h2 kM hf
    have eN : R1.1 0 = R.1 0 := by rw [kM.1]
    obtain ⟨p, hp⟩ : ∃ p, p = pl_at (R.1 0) a (hg + at_) := ⟨_, rfl⟩
    obtain ⟨q, hq⟩ : ∃ q, q = pl_at (R.1 0) c (cg + at_) := ⟨_, rfl⟩
    have c1 := rc_place r R1 a ha (by rw [eN]; exact pa) (by rw [eN]; exact ea) (hg + at_)
    rw [eN, ← hp] at c1
    have c2 := rc_place r (rf_set4 R1 p) c hc (by rw [show (rf_set4 R1 p).1 0 = R.1 0 from eN]; exact pc) (by rw [show (rf_set4 R1 p).1 0 = R.1 0 from eN]; exact ec) (cg + at_)
    rw [show (rf_set4 R1 p).1 0 = R.1 0 from eN, ← hq, rf_set4_2] at c2
    have kS : rf_kM R (rf_set4 R1 q) := kM.tr rf_kM.S
    have eu : ms_lp (R.1 0) a c hg cg heat (d + 1) at_ fi ab = if at_ < heat then ms_lp (R.1 0) a c hg cg heat d (at_ + ms_s p q (heat - at_)) false (ms_a p q fi ab) else ms_a p q fi ab := by
      rw [hp, hq]
      rfl
    rw [eu]
    generalize ms_lp (R.1 0) a c hg cg heat = LP at ih
    -- behind the choice of the least
    have t135 : ∀ R3, rf_kM R R3 → R3.2.2.2 16 = q.2.2.2 → R3.2.2.2 17 = (ms_a p q fi ab).1 → R3.2.2.2 18 = (ms_a p q fi ab).2 → ∃ R2, (rf_kM R R2 ∧ R2.2.2.2 17 = (if at_ < heat then LP d (at_ + ms_s p q (heat - at_)) false (ms_a p q fi ab) else ms_a p q fi ab).1 ∧ R2.2.2.2 18 = (if at_ < heat then LP d (at_ + ms_s p q (heat - at_)) false (ms_a p q fi ab) else ms_a p q fi ab).2) ∧ ∀ h, rf_At r R3 h → rf_G r 184 135 [.ref r, .int (nI a), .long hg, .retAddr 0, .int (nI c), .long cg, .retAddr 0, .long heat, .retAddr 0, .long at_, .retAddr 0, .int (if fi = true then 1 else 0), .int 1, .long p.1, .retAddr 0, .long p.2.1, .retAddr 0, .long p.2.2.1, .retAddr 0, .long p.2.2.2, .retAddr 0, .long (ms_n p q), .retAddr 0, .long (ms_d p q), .retAddr 0] [] h none R2 := by
      intro R3 k3 e16 e17 e18
      -- from 194 on
      have tl : ∀ (m : Int32) (R2 : rf_R), (∀ h, rf_At r R3 h → rf_G r 184 9 [.ref r, .int (nI a), .long hg, .retAddr 0, .int (nI c), .long cg, .retAddr 0, .long heat, .retAddr 0, .long (at_ + ms_s p q (heat - at_)), .retAddr 0, .int 0, .int m, .long p.1, .retAddr 0, .long p.2.1, .retAddr 0, .long p.2.2.1, .retAddr 0, .long (ms_s p q (heat - at_)), .retAddr 0, .long (ms_n p q), .retAddr 0, .long (ms_d p q), .retAddr 0] [] h none R2) → ∀ h, rf_At r R3 h → rf_G r 184 153 [.ref r, .int (nI a), .long hg, .retAddr 0, .int (nI c), .long cg, .retAddr 0, .long heat, .retAddr 0, .long at_, .retAddr 0, .int 0, .int m, .long p.1, .retAddr 0, .long p.2.1, .retAddr 0, .long p.2.2.1, .retAddr 0, .long p.2.2.2, .retAddr 0, .long (ms_n p q), .retAddr 0, .long (ms_d p q), .retAddr 0] [] h none R2 := by
        intro m R2 g h H
        have t169 : ∀ h, rf_At r R3 h → rf_G r 184 169 [.ref r, .int (nI a), .long hg, .retAddr 0, .int (nI c), .long cg, .retAddr 0, .long heat, .retAddr 0, .long at_, .retAddr 0, .int 0, .int m, .long p.1, .retAddr 0, .long p.2.1, .retAddr 0, .long p.2.2.1, .retAddr 0, .long (ms_1 p q), .retAddr 0, .long (ms_n p q), .retAddr 0, .long (ms_d p q), .retAddr 0] [] h none R2 := by
          intro h H
          unfold ms_s at g
          have t187 : (ms_1 p q < 1 ∨ heat - at_ < ms_1 p q) → ∀ h, rf_At r R3 h → rf_G r 184 187 [.ref r, .int (nI a), .long hg, .retAddr 0, .int (nI c), .long cg, .retAddr 0, .long heat, .retAddr 0, .long at_, .retAddr 0, .int 0, .int m, .long p.1, .retAddr 0, .long p.2.1, .retAddr 0, .long p.2.2.1, .retAddr 0, .long (ms_1 p q), .retAddr 0, .long (ms_n p q), .retAddr 0, .long (ms_d p q), .retAddr 0] [] h none R2 := by
            intro z h H
            rw [if_pos z] at g
            refine rf_G.step (pc' := 189) (st' := [_]) rfl rfl ?_
            refine rf_G.step (pc' := 191) (st' := [_, _]) rfl rfl ?_
            refine rf_G.step (pc' := 192) (st' := [_]) rfl rfl ?_
            refine rf_G.step (pc' := 194) (ls' := [_, _, _, _, _, _, _, _, _, _, _, _, _, _, _, _, _, _, _, _, _, _, _, _, _]) (st' := []) rfl rfl ?_
            refine rf_G.step (pc' := 196) (st' := [_]) rfl rfl ?_
            refine rf_G.step (pc' := 198) (st' := [_, _]) rfl rfl ?_
            refine rf_G.step (pc' := 199) (st' := [_]) rfl rfl ?_
            refine rf_G.step (pc' := 201) (ls' := [_, _, _, _, _, _, _, _, _, _, _, _, _, _, _, _, _, _, _, _, _, _, _, _, _]) (st' := []) rfl rfl ?_
            refine rf_G.step (pc' := 9) (st' := []) rfl rfl ?_
            exact g h H
          refine rf_G.step (pc' := 171) (st' := [_]) rfl rfl ?_
          refine rf_G.step (pc' := 172) (st' := [_, _]) rfl rfl ?_
          refine rf_G.step (pc' := 173) (st' := [_]) rfl rfl ?_
          by_cases z1 : ms_1 p q < 1
          · refine rf_G.br rfl (jx_br_lt _ _) (fun _ => ?_) (fun zq => absurd ((lg_cmp_lt0 _ _).mpr z1) zq)
            exact t187 (Or.inl z1) h H
          · refine rf_G.br rfl (jx_br_lt _ _) (fun zq => absurd zq (fun y => z1 ((lg_cmp_lt0 _ _).mp y))) (fun _ => ?_)
            refine rf_G.step (pc' := 178) (st' := [_]) rfl rfl ?_
            refine rf_G.step (pc' := 180) (st' := [_, _]) rfl rfl ?_
            refine rf_G.step (pc' := 182) (st' := [_, _, _]) rfl rfl ?_
            refine rf_G.step (pc' := 183) (st' := [_, _]) rfl rfl ?_
            refine rf_G.step (pc' := 184) (st' := [_]) rfl rfl ?_
            by_cases z2 : heat - at_ < ms_1 p q
            · refine rf_G.br rfl (jx_br_le _ _) (fun zq => absurd zq (Int32.not_le.mpr ((lg_cmp_gt0 _ _).mpr z2))) (fun _ => ?_)
              exact t187 (Or.inr z2) h H
            · refine rf_G.br rfl (jx_br_le _ _) (fun _ => ?_) (fun zq => absurd (Int32.not_lt.mp (fun y => z2 ((lg_cmp_gt0 _ _).mp y))) zq)
              rw [if_neg (fun y => y.elim z1 z2)] at g
              refine rf_G.step (pc' := 196) (st' := [_]) rfl rfl ?_
              refine rf_G.step (pc' := 198) (st' := [_, _]) rfl rfl ?_
              refine rf_G.step (pc' := 199) (st' := [_]) rfl rfl ?_
              refine rf_G.step (pc' := 201) (ls' := [_, _, _, _, _, _, _, _, _, _, _, _, _, _, _, _, _, _, _, _, _, _, _, _, _]) (st' := []) rfl rfl ?_
              refine rf_G.step (pc' := 9) (st' := []) rfl rfl ?_
              exact g h H
        unfold ms_1 at t169
        refine rf_G.step (pc' := 154) (st' := [_]) rfl rfl ?_
        refine rf_G.get H rfl rfl ?_
        rw [e16]
        refine rf_G.step (pc' := 159) (st' := [_, _]) rfl rfl ?_
        refine rf_G.step (pc' := 160) (st' := [_]) rfl rfl ?_
        by_cases z : q.2.2.2 < p.2.2.2
        · rw [if_pos z] at t169
          refine rf_G.br rfl (jx_br_ge _ _) (fun zq => absurd zq (Int32.not_le.mpr ((lg_cmp_lt0 _ _).mpr z))) (fun _ => ?_)
          refine rf_G.step (pc' := 164) (st' := [_]) rfl rfl ?_
          refine rf_G.get H rfl rfl ?_
          rw [e16]
          refine rf_G.step (pc' := 169) (ls' := [_, _, _, _, _, _, _, _, _, _, _, _, _, _, _, _, _, _, _, _, _, _, _, _, _]) (st' := []) rfl rfl ?_
          exact t169 h H
        · rw [if_neg z] at t169
          refine rf_G.br rfl (jx_br_ge _ _) (fun _ => ?_) (fun zq => absurd (Int32.not_lt.mp (fun y => z ((lg_cmp_lt0 _ _).mp y))) zq)
          exact t169 h H
      by_cases hl : at_ < heat
      · have hl2 := Int64.lt_iff_toInt_lt.mp hl
        have er : (heat - at_).toInt = heat.toInt - at_.toInt := by
          rw [Int64.toInt_sub]
          exact Int.bmod_eq_of_le (by omega) (by omega)
        obtain ⟨s1, s2⟩ := ms_s_in p q (rem := heat - at_) (by omega)
        have ea2 : (at_ + ms_s p q (heat - at_)).toInt = at_.toInt + (ms_s p q (heat - at_)).toInt := by
          rw [Int64.toInt_add]
          exact Int.bmod_eq_of_le (by omega) (by omega)
        obtain ⟨R2, f, g⟩ := ih (at_ + ms_s p q (heat - at_)) false (ms_a p q fi ab) R3 (.long p.1) (.retAddr 0) (.long p.2.1) (.retAddr 0) (.long p.2.2.1) (.retAddr 0) (.long (ms_s p q (heat - at_))) (.retAddr 0) (.long (ms_n p q)) (.retAddr 0) (.long (ms_d p q)) (.retAddr 0) (by omega) (by omega) (by omega) k3 (fun _ => ⟨e17, e18⟩)
        refine ⟨R2, by rw [if_pos hl]; exact f, fun h H => ?_⟩
        refine rf_G.step (pc' := 136) (st' := [_]) rfl rfl ?_
        refine rf_G.step (pc' := 138) (ls' := [_, _, _, _, _, _, _, _, _, _, _, _, _, _, _, _, _, _, _, _, _, _, _, _, _]) (st' := []) rfl rfl ?_
        refine rf_G.step (pc' := 140) (st' := [_]) rfl rfl ?_
        refine rf_G.step (pc' := 142) (st' := [_, _]) rfl rfl ?_
        refine rf_G.step (pc' := 143) (st' := [_]) rfl rfl ?_
        refine rf_G.br rfl (jx_br_ge _ _) (fun zq => absurd zq (Int32.not_le.mpr ((lg_cmp_lt0 _ _).mpr hl))) (fun _ => ?_)
        refine rf_G.step (pc' := 147) (st' := [_]) rfl rfl ?_
        refine rf_G.step (pc' := 151) (st' := [_]) rfl rfl ?_
        refine rf_G.step (pc' := 153) (ls' := [_, _, _, _, _, _, _, _, _, _, _, _, _, _, _, _, _, _, _, _, _, _, _, _, _]) (st' := []) rfl rfl ?_
        exact tl 1 R2 g h H
      · refine ⟨R3, by rw [if_neg hl]; exact ⟨k3, e17, e18⟩, fun h H => ?_⟩
        refine rf_G.step (pc' := 136) (st' := [_]) rfl rfl ?_
        refine rf_G.step (pc' := 138) (ls' := [_, _, _, _, _, _, _, _, _, _, _, _, _, _, _, _, _, _, _, _, _, _, _, _, _]) (st' := []) rfl rfl ?_
        refine rf_G.step (pc' := 140) (st' := [_]) rfl rfl ?_
        refine rf_G.step (pc' := 142) (st' := [_, _]) rfl rfl ?_
        refine rf_G.step (pc' := 143) (st' := [_]) rfl rfl ?_
        refine rf_G.br rfl (jx_br_ge _ _) (fun _ => ?_) (fun zq => absurd (Int32.not_lt.mp (fun y => hl ((lg_cmp_lt0 _ _).mp y))) zq)
        refine rf_G.step (pc' := 151) (st' := [_]) rfl rfl ?_
        refine rf_G.step (pc' := 153) (ls' := [_, _, _, _, _, _, _, _, _, _, _, _, _, _, _, _, _, _, _, _, _, _, _, _, _]) (st' := []) rfl rfl ?_
        refine tl 0 R3 (fun h H => ?_) h H
        refine rf_G.step (pc' := 11) (st' := [_]) rfl rfl ?_
        refine rf_G.br rfl (jx_br_eq _ _) (fun _ => ?_) (fun zq => absurd (rfl) zq)
        exact rf_G.ret H rfl rfl
    -- the choice
    have t100 : ∃ R2, (rf_kM R R2 ∧ R2.2.2.2 17 = (if at_ < heat then LP d (at_ + ms_s p q (heat - at_)) false (ms_a p q fi ab) else ms_a p q fi ab).1 ∧ R2.2.2.2 18 = (if at_ < heat then LP d (at_ + ms_s p q (heat - at_)) false (ms_a p q fi ab) else ms_a p q fi ab).2) ∧ ∀ h, rf_At r (rf_set4 R1 q) h → rf_G r 184 100 [.ref r, .int (nI a), .long hg, .retAddr 0, .int (nI c), .long cg, .retAddr 0, .long heat, .retAddr 0, .long at_, .retAddr 0, .int (if fi = true then 1 else 0), .int 1, .long p.1, .retAddr 0, .long p.2.1, .retAddr 0, .long p.2.2.1, .retAddr 0, .long p.2.2.2, .retAddr 0, .long (ms_n p q), .retAddr 0, .long (ms_d p q), .retAddr 0] [] h none R2 := by
      have take : ∀ R2, (∀ h, rf_At r (rf_sL (rf_sL (rf_set4 R1 q) 17 (ms_n p q)) 18 (ms_d p q)) h → rf_G r 184 135 [.ref r, .int (nI a), .long hg, .retAddr 0, .int (nI c), .long cg, .retAddr 0, .long heat, .retAddr 0, .long at_, .retAddr 0, .int (if fi = true then 1 else 0), .int 1, .long p.1, .retAddr 0, .long p.2.1, .retAddr 0, .long p.2.2.1, .retAddr 0, .long p.2.2.2, .retAddr 0, .long (ms_n p q), .retAddr 0, .long (ms_d p q), .retAddr 0] [] h none R2) → ∀ h, rf_At r (rf_set4 R1 q) h → rf_G r 184 123 [.ref r, .int (nI a), .long hg, .retAddr 0, .int (nI c), .long cg, .retAddr 0, .long heat, .retAddr 0, .long at_, .retAddr 0, .int (if fi = true then 1 else 0), .int 1, .long p.1, .retAddr 0, .long p.2.1, .retAddr 0, .long p.2.2.1, .retAddr 0, .long p.2.2.2, .retAddr 0, .long (ms_n p q), .retAddr 0, .long (ms_d p q), .retAddr 0] [] h none R2 := by
        intro R2 g h H
        refine rf_G.step (pc' := 124) (st' := [_]) rfl rfl ?_
        refine rf_G.step (pc' := 126) (st' := [_, _]) rfl rfl ?_
        refine rf_G.putL H rfl rfl (by decide) rfl (fun h H => ?_)
        refine rf_G.step (pc' := 130) (st' := [_]) rfl rfl ?_
        refine rf_G.step (pc' := 132) (st' := [_, _]) rfl rfl ?_
        refine rf_G.putL H rfl rfl (by decide) rfl (fun h H => ?_)
        exact g h H
      have k5 : rf_kM R (rf_sL (rf_sL (rf_set4 R1 q) 17 (ms_n p q)) 18 (ms_d p q)) := (kS.tr (rf_kM.L (by decide))).tr (rf_kM.L (by decide))
      by_cases z : fi = true ∨ ms_n p q * ab.2 < ab.1 * ms_d p q
      · have em : ms_a p q fi ab = (ms_n p q, ms_d p q) := if_pos z
        obtain ⟨R2, f, g⟩ := t135 _ k5 rfl (by rw [em]; rfl) (by rw [em]; rfl)
        refine ⟨R2, f, fun h H => ?_⟩
        refine rf_G.step (pc' := 102) (st' := [_]) rfl rfl ?_
        cases fi with
        | true =>
          refine rf_G.brn rfl (fun _ => ?_) (fun zq => absurd zq (by decide))
          exact take R2 g h H
        | false =>
          have z1 := z.resolve_left (by decide)
          rw [← (hf rfl).1, ← (hf rfl).2] at z1
          refine rf_G.brn rfl (fun zq => absurd (rfl) zq) (fun _ => ?_)
          refine rf_G.step (pc' := 107) (st' := [_]) rfl rfl ?_
          refine rf_G.step (pc' := 108) (st' := [_, _]) rfl rfl ?_
          refine rf_G.get H rfl rfl ?_
          refine rf_G.step (pc' := 112) (st' := [_]) rfl rfl ?_
          refine rf_G.step (pc' := 113) (st' := [_, _]) rfl rfl ?_
          refine rf_G.get H rfl rfl ?_
          refine rf_G.step (pc' := 118) (st' := [_, _, _]) rfl rfl ?_
          refine rf_G.step (pc' := 119) (st' := [_, _]) rfl rfl ?_
          refine rf_G.step (pc' := 120) (st' := [_]) rfl rfl ?_
          refine rf_G.br rfl (jx_br_ge _ _) (fun zq => absurd zq (Int32.not_le.mpr ((lg_cmp_lt0 _ _).mpr z1))) (fun _ => ?_)
          exact take R2 g h H
      · have em : ms_a p q fi ab = ab := if_neg z
        have z0 : fi = false := by
          cases fi
          · rfl
          · exact absurd (Or.inl rfl) z
        obtain ⟨R2, f, g⟩ := t135 _ kS rfl (by rw [em]; exact (hf z0).1) (by rw [em]; exact (hf z0).2)
        have z1 : ¬ ms_n p q * ab.2 < ab.1 * ms_d p q := fun y => z (Or.inr y)
        rw [← (hf z0).1, ← (hf z0).2] at z1
        refine ⟨R2, f, fun h H => ?_⟩
        refine rf_G.step (pc' := 102) (st' := [_]) rfl rfl ?_
        subst z0
        refine rf_G.brn rfl (fun zq => absurd (rfl) zq) (fun _ => ?_)
        refine rf_G.step (pc' := 107) (st' := [_]) rfl rfl ?_
        refine rf_G.step (pc' := 108) (st' := [_, _]) rfl rfl ?_
        refine rf_G.get H rfl rfl ?_
        refine rf_G.step (pc' := 112) (st' := [_]) rfl rfl ?_
        refine rf_G.step (pc' := 113) (st' := [_, _]) rfl rfl ?_
        refine rf_G.get H rfl rfl ?_
        refine rf_G.step (pc' := 118) (st' := [_, _, _]) rfl rfl ?_
        refine rf_G.step (pc' := 119) (st' := [_, _]) rfl rfl ?_
        refine rf_G.step (pc' := 120) (st' := [_]) rfl rfl ?_
        refine rf_G.br rfl (jx_br_ge _ _) (fun _ => ?_) (fun zq => absurd (Int32.not_lt.mp (fun y => z1 ((lg_cmp_lt0 _ _).mp y))) zq)
        exact g h H
    obtain ⟨R2, f, g⟩ := t100
    refine ⟨R2, f, fun h H => ?_⟩
    refine rf_G.step (pc' := 11) (st' := [_]) rfl rfl ?_
    refine rf_G.br rfl (jx_br_eq _ _) (fun zq => absurd zq (by decide)) (fun _ => ?_)
    refine rf_G.step (pc' := 15) (st' := [_]) rfl rfl ?_
    refine rf_G.step (pc' := 16) (st' := [_, _]) rfl rfl ?_
    refine rf_G.step (pc' := 17) (st' := [_, _, _]) rfl rfl ?_
    refine rf_G.step (pc' := 19) (st' := [_, _, _, _]) rfl rfl ?_
    refine rf_G.step (pc' := 20) (st' := [_, _, _]) rfl rfl ?_
    refine rf_G.v2V H rfl (by decide) rfl ⟨Nat.le_of_ble_eq_true rfl, rfl⟩ (Nat.le_of_ble_eq_true rfl) (c1) (fun h H => ?_)
    refine rf_G.step (pc' := 24) (st' := [_]) rfl rfl ?_
    refine rf_G.get H rfl rfl ?_
    refine rf_G.step (pc' := 29) (ls' := [_, _, _, _, _, _, _, _, _, _, _, _, _, _, _, _, _, _, _, _, _, _, _, _, _]) (st' := []) rfl rfl ?_
    refine rf_G.step (pc' := 30) (st' := [_]) rfl rfl ?_
    refine rf_G.get H rfl rfl ?_
    refine rf_G.step (pc' := 35) (ls' := [_, _, _, _, _, _, _, _, _, _, _, _, _, _, _, _, _, _, _, _, _, _, _, _, _]) (st' := []) rfl rfl ?_
    refine rf_G.step (pc' := 36) (st' := [_]) rfl rfl ?_
    refine rf_G.get H rfl rfl ?_
    refine rf_G.step (pc' := 41) (ls' := [_, _, _, _, _, _, _, _, _, _, _, _, _, _, _, _, _, _, _, _, _, _, _, _, _]) (st' := []) rfl rfl ?_
    refine rf_G.step (pc' := 42) (st' := [_]) rfl rfl ?_
    refine rf_G.get H rfl rfl ?_
    refine rf_G.step (pc' := 47) (ls' := [_, _, _, _, _, _, _, _, _, _, _, _, _, _, _, _, _, _, _, _, _, _, _, _, _]) (st' := []) rfl rfl ?_
    refine rf_G.step (pc' := 48) (st' := [_]) rfl rfl ?_
    refine rf_G.step (pc' := 50) (st' := [_, _]) rfl rfl ?_
    refine rf_G.step (pc' := 52) (st' := [_, _, _]) rfl rfl ?_
    refine rf_G.step (pc' := 54) (st' := [_, _, _, _]) rfl rfl ?_
    refine rf_G.step (pc' := 55) (st' := [_, _, _]) rfl rfl ?_
    refine rf_G.v2V H rfl (by decide) rfl ⟨Nat.le_of_ble_eq_true rfl, rfl⟩ (Nat.le_of_ble_eq_true rfl) (c2) (fun h H => ?_)
    refine rf_G.step (pc' := 60) (st' := [_]) rfl rfl ?_
    refine rf_G.step (pc' := 61) (st' := [_, _]) rfl rfl ?_
    refine rf_G.get H rfl rfl ?_
    refine rf_G.step (pc' := 65) (st' := [_]) rfl rfl ?_
    refine rf_G.step (pc' := 67) (st' := [_, _]) rfl rfl ?_
    refine rf_G.step (pc' := 68) (st' := [_]) rfl rfl ?_
    refine rf_G.step (pc' := 69) (st' := [_, _]) rfl rfl ?_
    refine rf_G.get H rfl rfl ?_
    refine rf_G.step (pc' := 73) (st' := [_]) rfl rfl ?_
    refine rf_G.step (pc' := 75) (st' := [_, _]) rfl rfl ?_
    refine rf_G.step (pc' := 76) (st' := [_, _, _]) rfl rfl ?_
    refine rf_G.get H rfl rfl ?_
    refine rf_G.step (pc' := 80) (st' := [_, _]) rfl rfl ?_
    refine rf_G.step (pc' := 81) (st' := [_]) rfl rfl ?_
    refine rf_G.step (pc' := 82) (st' := [_, _]) rfl rfl ?_
    refine rf_G.get H rfl rfl ?_
    refine rf_G.step (pc' := 87) (st' := [_, _, _]) rfl rfl ?_
    refine rf_G.step (pc' := 88) (st' := [_, _]) rfl rfl ?_
    refine rf_G.step (pc' := 89) (st' := [_]) rfl rfl ?_
    refine rf_G.step (pc' := 91) (ls' := [_, _, _, _, _, _, _, _, _, _, _, _, _, _, _, _, _, _, _, _, _, _, _, _, _]) (st' := []) rfl rfl ?_
    refine rf_G.step (pc' := 93) (st' := [_]) rfl rfl ?_
    refine rf_G.step (pc' := 94) (st' := [_, _]) rfl rfl ?_
    refine rf_G.get H rfl rfl ?_
    refine rf_G.step (pc' := 98) (st' := [_]) rfl rfl ?_
    refine rf_G.step (pc' := 100) (ls' := [_, _, _, _, _, _, _, _, _, _, _, _, _, _, _, _, _, _, _, _, _, _, _, _, _]) (st' := []) rfl rfl ?_
    exact g h H
/-- the least distance of a meeting -/
def ms_at (N : Nat → Int32) (h c : Nat) (hg cg heat : Int64) : Int64 × Int64 := ms_lp N h c hg cg heat (heat.toInt.toNat + 1) 0 true (0, 0)
theorem rc_meets (r : Nat) (R : rf_R) (a c : Nat) (ha : a < 12) (hc : c < 12) (pa : rf_sp (R.1 0) a ≤ 8) (pc : rf_sp (R.1 0) c ≤ 8) (ea : R.1 0 (2 + 24 * a + 4) = nI (rf_sp (R.1 0) a)) (ec : R.1 0 (2 + 24 * c + 4) = nI (rf_sp (R.1 0) c)) (hg cg heat : Int64) (h0 : 0 ≤ heat.toInt) (hh : heat.toInt < 2 ^ 40) : ∃ R2, rf_C 184 r [.ref r, .int (nI a), .long hg, .int (nI c), .long cg, .long heat] R none R2 ∧ rf_kM R R2 ∧ R2.2.2.2 17 = (ms_at (R.1 0) a c hg cg heat).1 ∧ R2.2.2.2 18 = (ms_at (R.1 0) a c hg cg heat).2 := by
  obtain ⟨R2, f, g⟩ := rc_meets_loop r R a c ha hc pa pc ea ec hg cg heat hh (heat.toInt.toNat + 1) 0 true (0, 0) R (.retAddr 0) (.retAddr 0) (.retAddr 0) (.retAddr 0) (.retAddr 0) (.retAddr 0) (.retAddr 0) (.retAddr 0) (.retAddr 0) (.retAddr 0) (.retAddr 0) (.retAddr 0) (by decide) h0 (by rw [show (0 : Int64).toInt = 0 from by decide]; omega) rf_kM.rf (fun y => absurd y (by decide))
  refine ⟨R2, ?_, f⟩
  intro h H
  show rf_G r 184 0 [.ref r, .int (nI a), .long hg, .retAddr 0, .int (nI c), .long cg, .retAddr 0, .long heat, .retAddr 0, .retAddr 0, .retAddr 0, .retAddr 0, .retAddr 0, .retAddr 0, .retAddr 0, .retAddr 0, .retAddr 0, .retAddr 0, .retAddr 0, .retAddr 0, .retAddr 0, .retAddr 0, .retAddr 0, .retAddr 0, .retAddr 0] [] h _ _
  refine rf_G.step (pc' := 1) (st' := [_]) rfl rfl ?_
  refine rf_G.step (pc' := 3) (ls' := [_, _, _, _, _, _, _, _, _, _, _, _, _, _, _, _, _, _, _, _, _, _, _, _, _]) (st' := []) rfl rfl ?_
  refine rf_G.step (pc' := 4) (st' := [_]) rfl rfl ?_
  refine rf_G.step (pc' := 6) (ls' := [_, _, _, _, _, _, _, _, _, _, _, _, _, _, _, _, _, _, _, _, _, _, _, _, _]) (st' := []) rfl rfl ?_
  refine rf_G.step (pc' := 7) (st' := [_]) rfl rfl ?_
  refine rf_G.step (pc' := 9) (ls' := [_, _, _, _, _, _, _, _, _, _, _, _, _, _, _, _, _, _, _, _, _, _, _, _, _]) (st' := []) rfl rfl ?_
  exact g h H
