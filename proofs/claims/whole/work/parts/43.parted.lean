/-! the reference: item, parted -/
theorem bt_and (a b : Nat) : nI a &&& nI b = nI (a &&& b) := by
  unfold nI
  apply Int32.toBitVec_inj.mp
  simp [BitVec.ofNat_and]
theorem bt_xor (a b : Nat) : nI a ^^^ nI b = nI (a ^^^ b) := by
  unfold nI
  apply Int32.toBitVec_inj.mp
  simp [BitVec.ofNat_xor]
theorem bt_31 {k : Nat} (hk : k < 32) : nI k &&& 31 = nI k := by
  rw [rf_lit 31, bt_and]
  rw [show k &&& 31 = k % 2 ^ 5 from Nat.and_two_pow_sub_one_eq_mod k 5, Nat.mod_eq_of_lt (by omega)]
theorem bt_shl {k : Nat} (hk : k < 16) : (1 : Int32) <<< (nI k &&& 31) = nI (2 ^ k) := (by decide : ∀ k : Fin 16, (1 : Int32) <<< (nI k.1 &&& 31) = nI (2 ^ k.1)) ⟨k, hk⟩
theorem bt_sm {k : Nat} (hk : k < 16) : ((nI k).toBitVec.smod 32).toNat = k := (by decide : ∀ k : Fin 16, ((nI k.1).toBitVec.smod 32).toNat = k.1) ⟨k, hk⟩
theorem bt_shr {m k : Nat} (hm : m < 2 ^ 31) (hk : k < 16) : nI m >>> (nI k &&& 31) = nI (m >>> k) := by
  rw [bt_31 (by omega)]
  apply Int32.toInt_inj.mp
  have h1 : m >>> k < 2 ^ 31 := Nat.lt_of_le_of_lt (Nat.shiftRight_le m k) hm
  rw [nI_toInt h1]
  show ((nI m).toBitVec.sshiftRight' ((nI k).toBitVec.smod 32)).toInt = _
  unfold BitVec.sshiftRight'
  rw [bt_sm hk, BitVec.toInt_sshiftRight]
  have e := nI_toInt hm
  rw [show (nI m).toBitVec.toInt = (nI m).toInt from rfl, e]
  rfl
theorem bt_test {m k : Nat} (hm : m < 2 ^ 31) (hk : k < 16) : (nI m >>> (nI k &&& 31)) &&& 1 = if m.testBit k then 1 else 0 := by
  rw [bt_shr hm hk, rf_lit 1, bt_and]
  unfold Nat.testBit
  rw [Nat.and_comm]
  rcases Nat.mod_two_eq_zero_or_one (m >>> k) with h | h
  · rw [Nat.one_and_eq_mod_two, h]
    rfl
  · rw [Nat.one_and_eq_mod_two, h]
    rfl
theorem bt_lt {m k : Nat} (h : m.testBit k = true) : m ^^^ 2 ^ k < m := by
  have h1 : m ^^^ 2 ^ k ≤ m := Nat.le_of_testBit (fun i hi => by
    by_cases e : k = i
    · rw [← e]
      exact h
    · rw [Nat.testBit_xor, Nat.testBit_two_pow_of_ne e] at hi
      simpa using hi)
  refine Nat.lt_of_le_of_ne h1 (fun q => ?_)
  have : (m ^^^ 2 ^ k).testBit k = true := by rw [q]; exact h
  rw [Nat.testBit_xor, h, Nat.testBit_two_pow_self] at this
  exact absurd this (by decide)
def fw_add (l : List Int64) (v : Int64) : List Int64 := if v = 0 then l else l ++ [v]
theorem fw_len (l : List Int64) (v : Int64) : (fw_add l v).length ≤ l.length + 1 := by
  unfold fw_add
  split <;> simp
def rf_Its (R : rf_R) (l : List Int64) : Prop := R.2.2.1 25 = nI l.length ∧ ∀ k, k < l.length → R.2.1 26 k = l.getD k 0
def rf_kI (R R2 : rf_R) : Prop := R2.1 = R.1 ∧ (∀ k, k ≠ 26 → R2.2.1 k = R.2.1 k) ∧ (∀ k, k ≠ 25 → R2.2.2.1 k = R.2.2.1 k) ∧ R2.2.2.2 = R.2.2.2
theorem rf_kI.rf {R : rf_R} : rf_kI R R := ⟨rfl, fun _ _ => rfl, fun _ _ => rfl, rfl⟩
theorem rf_kI.tr {R R2 R3 : rf_R} (a : rf_kI R R2) (b : rf_kI R2 R3) : rf_kI R R3 := ⟨b.1.trans a.1, fun k h => (b.2.1 k h).trans (a.2.1 k h), fun k h => (b.2.2.1 k h).trans (a.2.2.1 k h), b.2.2.2.trans a.2.2.2⟩
theorem rf_kI.J {R R2 : rf_R} (a : rf_kI R R2) : rf_J R R2 := ⟨by rw [a.1], by rw [a.1], fun k h => a.2.2.1 k (by omega), fun k _ => by rw [a.2.2.2], by rw [a.1]⟩
theorem rc_item (r : Nat) (R : rf_R) (l : List Int64) (hl : l.length < 14) (I : rf_Its R l) (v : Int64) : ∃ R2, rf_C 192 r [.ref r, .long v] R none R2 ∧ rf_kI R R2 ∧ rf_Its R2 (fw_add l v) := by
  unfold fw_add
  by_cases hv : v = 0
  · refine ⟨R, ?_, rf_kI.rf, by rw [if_pos hv]; exact I⟩
    intro h H
    show rf_G r 192 0 [.ref r, .long v, .retAddr 0] [] h _ _
    refine rf_G.step (pc' := 1) (st' := [_]) rfl rfl ?_
    refine rf_G.step (pc' := 2) (st' := [_, _]) rfl rfl ?_
    refine rf_G.step (pc' := 3) (st' := [_]) rfl rfl ?_
    refine rf_G.brn rfl (fun z => absurd ((lg_cmp_eq0 _ _).mpr hv) z) (fun _ => ?_)
    exact rf_G.ret H rfl rfl
  · refine ⟨rf_sI (rf_sB R 26 (vp_updL (R.2.1 26) l.length v)) 25 (nI (l.length + 1)), ?_, ⟨rfl, fun k h => if_neg h, fun k h => if_neg h, rfl⟩, ?_⟩
    · have e : ∀ f, (rf_sB R 26 f).2.2.1 25 = nI l.length := fun _ => I.1
      intro h H
      show rf_G r 192 0 [.ref r, .long v, .retAddr 0] [] h _ _
      refine rf_G.step (pc' := 1) (st' := [_]) rfl rfl ?_
      refine rf_G.step (pc' := 2) (st' := [_, _]) rfl rfl ?_
      refine rf_G.step (pc' := 3) (st' := [_]) rfl rfl ?_
      refine rf_G.brn rfl (fun _ => ?_) (fun z => absurd z (fun q => hv ((lg_cmp_eq0 _ _).mp q)))
      refine rf_G.step (pc' := 8) (st' := [_]) rfl rfl ?_
      refine rf_G.get H rfl rfl ?_
      refine rf_G.step (pc' := 12) (st' := [_, _]) rfl rfl ?_
      refine rf_G.get H rfl rfl ?_
      rw [I.1]
      refine rf_G.step (pc' := 16) (st' := [_, _, _]) rfl rfl ?_
      refine rf_G.last H 26 10 14 (by decide) rfl (rf_ix (by omega) (by decide)) (fun h H => ?_)
      rw [nI_clamp (by omega)] at H
      refine rf_G.step (pc' := 18) (st' := [_]) rfl rfl ?_
      refine rf_G.step (pc' := 19) (st' := [_, _]) rfl rfl ?_
      refine rf_G.get H rfl rfl ?_
      rw [e]
      refine rf_G.step (pc' := 23) (st' := [_, _, _]) rfl rfl ?_
      refine rf_G.step (pc' := 24) (st' := [_, _]) rfl rfl ?_
      rw [nI_1]
      refine rf_G.putI H rfl rfl (by decide) rfl (fun h H => ?_)
      exact rf_G.ret H rfl rfl
    · rw [if_neg hv]
      refine ⟨by rw [List.length_append]; rfl, fun k hk => ?_⟩
      rw [List.length_append] at hk
      show vp_updL (R.2.1 26) l.length v k = _
      unfold vp_updL
      by_cases h : k = l.length
      · rw [if_pos h, h]
        simp [List.getD_eq_getElem?_getD]
      · have hk2 : k < l.length := by
          simp at hk
          omega
        rw [if_neg h, I.2 k hk2]
        simp [List.getD_eq_getElem?_getD, List.getElem?_append, hk2]
/-- one mask: its sum, the best of those with one less -/
def pt_in (l : List Int64) (T : Nat → Int32) (m : Nat) : Nat → Int64 × Int32
  | 0 => (0, 0)
  | k + 1 => if m.testBit k = true then ((pt_in l T m k).1 + l.getD k 0, if T (m ^^^ 2 ^ k) ≤ (pt_in l T m k).2 then (pt_in l T m k).2 else T (m ^^^ 2 ^ k)) else pt_in l T m k
/-- the table once the masks below m are done -/
def pt_t (l : List Int64) : Nat → Nat → Int32
  | 0 => fun _ => 0
  | m + 1 => fun j => if j = m then (if m = 0 then 0 else (pt_in l (pt_t l m) m l.length).2 + (if (pt_in l (pt_t l m) m l.length).1 = 0 then 1 else 0)) else pt_t l m j
def pt_ans (l : List Int64) : Int32 := if l.length = 0 then 0 else nI l.length - pt_t l (2 ^ l.length) (2 ^ l.length - 1)
def rf_kP (R R2 : rf_R) : Prop := (∀ k, k ≠ 28 → R2.1 k = R.1 k) ∧ (∀ k, k ≠ 27 → R2.2.1 k = R.2.1 k) ∧ R2.2.2 = R.2.2
theorem rf_kP.rf {R : rf_R} : rf_kP R R := ⟨fun _ _ => rfl, fun _ _ => rfl, rfl⟩
theorem rf_kP.tr {R R2 R3 : rf_R} (a : rf_kP R R2) (b : rf_kP R2 R3) : rf_kP R R3 := ⟨fun k h => (b.1 k h).trans (a.1 k h), fun k h => (b.2.1 k h).trans (a.2.1 k h), b.2.2.trans a.2.2⟩
theorem rf_kP.A {R : rf_R} (f : Nat → Int32) : rf_kP R (rf_sA R 28 f) := ⟨fun _ h => if_neg h, fun _ _ => rfl, rfl⟩
theorem rf_kP.B {R : rf_R} (f : Nat → Int64) : rf_kP R (rf_sB R 27 f) := ⟨fun _ _ => rfl, fun _ h => if_neg h, rfl⟩
theorem rf_kP.it {R R2 : rf_R} {l : List Int64} (a : rf_kP R R2) (I : rf_Its R l) : rf_Its R2 l := ⟨by rw [a.2.2]; exact I.1, fun k hk => by rw [a.2.1 26 (by decide)]; exact I.2 k hk⟩
theorem pt_inner (r : Nat) (R : rf_R) (l : List Int64) (hl : l.length ≤ 14) (I : rf_Its R l) (m : Nat) (hm : m < 2 ^ l.length) (T : Nat → Int32) (v : Option Value) (Fin : rf_R → Prop)
    (K : ∀ R1 u, rf_kP R R1 → (∀ j, j < m → R1.1 28 j = T j) → R1.2.1 27 m = (pt_in l T m l.length).1 → R1.1 28 m = (pt_in l T m l.length).2 → ∃ R2, Fin R2 ∧ ∀ h, rf_At r R1 h → rf_G r 193 110 [.ref r, .int (nI (2 ^ l.length)), .int (nI m), .int (nI l.length), u] [] h v R2) :
    ∀ d k, k + d = l.length → ∀ R1 u, rf_kP R R1 → (∀ j, j < m → R1.1 28 j = T j) → R1.2.1 27 m = (pt_in l T m k).1 → R1.1 28 m = (pt_in l T m k).2 → ∃ R2, Fin R2 ∧ ∀ h, rf_At r R1 h → rf_G r 193 30 [.ref r, .int (nI (2 ^ l.length)), .int (nI m), .int (nI k), u] [] h v R2 := by
  have h14 : 2 ^ l.length ≤ 2 ^ 14 := Nat.pow_le_pow_right (by decide) hl
  have hm2 : m < 16384 := by omega
  intro d
  induction d with
  | zero =>
    intro k hk R1 u kp t s b
    obtain rfl : k = l.length := by omega
    obtain ⟨R2, f, g⟩ := K R1 u kp t s b
    refine ⟨R2, f, fun h H => ?_⟩
    refine rf_G.step (pc' := 31) (st' := [_]) rfl rfl ?_
    refine rf_G.step (pc' := 32) (st' := [_, _]) rfl rfl ?_
    refine rf_G.get H rfl rfl ?_
    rw [(kp.it I).1]
    refine rf_G.bc rfl (jx_br_ge _ _) (fun _ => ?_) (fun z => absurd (Int32.le_refl _) z)
    exact g h H
  | succ d ih =>
    intro k hk R1 u kp t s b
    by_cases hb : m.testBit k = true
    · have hx := bt_lt hb
      have e1 : (pt_in l T m (k + 1)).1 = R1.2.1 27 m + R1.2.1 26 k := by
        rw [s, (kp.it I).2 k (by omega)]
        conv => lhs; unfold pt_in
        rw [if_pos hb]
      have e2 : (pt_in l T m (k + 1)).2 = if R1.1 28 (m ^^^ 2 ^ k) ≤ R1.1 28 m then R1.1 28 m else R1.1 28 (m ^^^ 2 ^ k) := by
        rw [b, t _ hx]
        conv => lhs; unfold pt_in
        rw [if_pos hb]
      have nx : ∀ X, X = (if R1.1 28 (m ^^^ 2 ^ k) ≤ R1.1 28 m then R1.1 28 m else R1.1 28 (m ^^^ 2 ^ k)) → ∃ R2, Fin R2 ∧ ∀ h, rf_At r (rf_sA (rf_sB R1 27 (vp_updL (R1.2.1 27) m (R1.2.1 27 m + R1.2.1 26 k))) 28 (upd (R1.1 28) m X)) h → rf_G r 193 30 [.ref r, .int (nI (2 ^ l.length)), .int (nI m), .int (nI (k + 1)), .int (R1.1 28 (m ^^^ 2 ^ k))] [] h v R2 := by
        intro X hX
        refine ih (k + 1) (by omega) _ _ (kp.tr ((rf_kP.B _).tr (rf_kP.A _))) (fun j hj => ?_) ?_ ?_
        · show upd (R1.1 28) m X j = _
          unfold upd
          rw [if_neg (by omega)]
          exact t j hj
        · rw [e1]
          show vp_updL (R1.2.1 27) m _ m = _
          unfold vp_updL
          rw [if_pos rfl]
        · rw [e2, ← hX]
          show upd (R1.1 28) m X m = _
          unfold upd
          rw [if_pos rfl]
      obtain ⟨R2, f, g⟩ := nx _ rfl
      refine ⟨R2, f, fun h H => ?_⟩
      refine rf_G.step (pc' := 31) (st' := [_]) rfl rfl ?_
      refine rf_G.step (pc' := 32) (st' := [_, _]) rfl rfl ?_
      refine rf_G.get H rfl rfl ?_
      rw [(kp.it I).1]
      refine rf_G.bc rfl (jx_br_ge _ _) (fun z => absurd z (nI_ge (by omega) (by omega))) (fun _ => ?_)
      refine rf_G.step (pc' := 39) (st' := [_]) rfl rfl ?_
      refine rf_G.step (pc' := 40) (st' := [_, _]) rfl rfl ?_
      refine rf_G.step (pc' := 41) (st' := [_]) rfl rfl ?_
      refine rf_G.step (pc' := 42) (st' := [_, _]) rfl rfl ?_
      refine rf_G.step (pc' := 43) (st' := [_]) rfl rfl ?_
      rw [bt_test (by omega) (by omega), if_pos hb]
      refine rf_G.brn rfl (fun _ => ?_) (fun z => absurd z (by decide))
      refine rf_G.step (pc' := 50) (st' := [_]) rfl rfl ?_
      refine rf_G.get H rfl rfl ?_
      refine rf_G.step (pc' := 54) (st' := [_, _]) rfl rfl ?_
      refine rf_G.step (pc' := 55) (st' := [_, _, _, _]) rfl rfl ?_
      refine rf_G.lald H 27 11 16384 (by decide) rfl (rf_ix (by omega) (by decide)) ?_
      refine rf_G.step (pc' := 57) (st' := [_, _, _, _]) rfl rfl ?_
      refine rf_G.get H rfl rfl ?_
      refine rf_G.step (pc' := 61) (st' := [_, _, _, _, _]) rfl rfl ?_
      refine rf_G.lald H 26 10 14 (by decide) rfl (rf_ix (by omega) (by decide)) ?_
      rw [nI_clamp (by omega), nI_clamp (by omega)]
      refine rf_G.step (pc' := 63) (st' := [_, _, _]) rfl rfl ?_
      refine rf_G.last H 27 11 16384 (by decide) rfl (rf_ix (by omega) (by decide)) (fun h H => ?_)
      rw [nI_clamp (by omega)] at H
      refine rf_G.step (pc' := 65) (st' := [_]) rfl rfl ?_
      refine rf_G.get H rfl rfl ?_
      refine rf_G.step (pc' := 69) (st' := [_, _]) rfl rfl ?_
      refine rf_G.step (pc' := 70) (st' := [_, _, _]) rfl rfl ?_
      refine rf_G.step (pc' := 71) (st' := [_, _, _, _]) rfl rfl ?_
      refine rf_G.step (pc' := 72) (st' := [_, _, _]) rfl rfl ?_
      rw [bt_shl (by omega)]
      refine rf_G.step (pc' := 73) (st' := [_, _]) rfl rfl ?_
      rw [bt_xor]
      refine rf_G.iald H 28 12 16384 (by decide) rfl (rf_ix (by omega) (by decide)) ?_
      rw [nI_clamp (by omega)]
      refine rf_G.step (pc' := 76) (ls' := [_, _, _, _, _]) (st' := []) rfl rfl ?_
      refine rf_G.step (pc' := 77) (st' := [_]) rfl rfl ?_
      refine rf_G.get H rfl rfl ?_
      refine rf_G.step (pc' := 81) (st' := [_, _]) rfl rfl ?_
      refine rf_G.step (pc' := 83) (st' := [_, _, _]) rfl rfl ?_
      refine rf_G.step (pc' := 84) (st' := [_, _, _, _]) rfl rfl ?_
      refine rf_G.get H rfl rfl ?_
      refine rf_G.step (pc' := 88) (st' := [_, _, _, _, _]) rfl rfl ?_
      refine rf_G.iald H 28 12 16384 (by decide) rfl (rf_ix (by omega) (by decide)) ?_
      rw [nI_clamp (by omega)]
      refine rf_G.bc rfl (jx_br_le _ _) (fun y => ?_) (fun y => ?_)
      · rw [if_pos (show R1.1 28 (m ^^^ 2 ^ k) ≤ R1.1 28 m from y)] at g
        refine rf_G.step (pc' := 98) (st' := [_, _, _]) rfl rfl ?_
        refine rf_G.get H rfl rfl ?_
        refine rf_G.step (pc' := 102) (st' := [_, _, _, _]) rfl rfl ?_
        refine rf_G.iald H 28 12 16384 (by decide) rfl (rf_ix (by omega) (by decide)) ?_
        rw [nI_clamp (by omega)]
        refine rf_G.iast H 28 12 16384 (by decide) rfl (rf_ix (by omega) (by decide)) (fun h H => ?_)
        rw [nI_clamp (by omega)] at H
        refine rf_G.step (pc' := 107) (ls' := [_, _, _, _, _]) (st' := []) rfl rfl ?_
        refine rf_G.step (pc' := 30) (st' := []) rfl rfl ?_
        rw [nI_1]
        exact g h H
      · rw [if_neg (show ¬ R1.1 28 (m ^^^ 2 ^ k) ≤ R1.1 28 m from y)] at g
        refine rf_G.step (pc' := 94) (st' := [_, _, _]) rfl rfl ?_
        refine rf_G.step (pc' := 103) (st' := [_, _, _]) rfl rfl ?_
        refine rf_G.iast H 28 12 16384 (by decide) rfl (rf_ix (by omega) (by decide)) (fun h H => ?_)
        rw [nI_clamp (by omega)] at H
        refine rf_G.step (pc' := 107) (ls' := [_, _, _, _, _]) (st' := []) rfl rfl ?_
        refine rf_G.step (pc' := 30) (st' := []) rfl rfl ?_
        rw [nI_1]
        exact g h H
    · have e1 : pt_in l T m (k + 1) = pt_in l T m k := by
        conv => lhs; unfold pt_in
        rw [if_neg hb]
      rw [← e1] at s b
      obtain ⟨R2, f, g⟩ := ih (k + 1) (by omega) R1 u kp t s b
      refine ⟨R2, f, fun h H => ?_⟩
      refine rf_G.step (pc' := 31) (st' := [_]) rfl rfl ?_
      refine rf_G.step (pc' := 32) (st' := [_, _]) rfl rfl ?_
      refine rf_G.get H rfl rfl ?_
      rw [(kp.it I).1]
      refine rf_G.bc rfl (jx_br_ge _ _) (fun z => absurd z (nI_ge (by omega) (by omega))) (fun _ => ?_)
      refine rf_G.step (pc' := 39) (st' := [_]) rfl rfl ?_
      refine rf_G.step (pc' := 40) (st' := [_, _]) rfl rfl ?_
      refine rf_G.step (pc' := 41) (st' := [_]) rfl rfl ?_
      refine rf_G.step (pc' := 42) (st' := [_, _]) rfl rfl ?_
      refine rf_G.step (pc' := 43) (st' := [_]) rfl rfl ?_
      rw [bt_test (by omega) (by omega), if_neg hb]
      refine rf_G.brn rfl (fun z => absurd (rfl) z) (fun _ => ?_)
      refine rf_G.step (pc' := 104) (st' := []) rfl rfl ?_
      refine rf_G.step (pc' := 107) (ls' := [_, _, _, _, _]) (st' := []) rfl rfl ?_
      refine rf_G.step (pc' := 30) (st' := []) rfl rfl ?_
      rw [nI_1]
      exact g h H
theorem pt_t0 (l : List Int64) : ∀ m, pt_t l m 0 = 0
  | 0 => rfl
  | m + 1 => by
    unfold pt_t
    by_cases h : (0 : Nat) = m
    · rw [if_pos h, if_pos h.symm]
    · rw [if_neg h]
      exact pt_t0 l m
theorem rc_parted (r : Nat) (R : rf_R) (l : List Int64) (hl : l.length ≤ 14) (I : rf_Its R l) (h0 : R.1 28 0 = 0) : ∃ R2, rf_C 193 r [.ref r] R (some (.int (pt_ans l))) R2 ∧ rf_kP R R2 ∧ R2.1 28 0 = 0 := by
  have h14 : 2 ^ l.length ≤ 2 ^ 14 := Nat.pow_le_pow_right (by decide) hl
  have hp : 0 < 2 ^ l.length := Nat.two_pow_pos _
  have outer : ∀ d m, m + d = 2 ^ l.length → 1 ≤ m → ∀ R1 u3 u4, rf_kP R R1 → (∀ j, j < m → R1.1 28 j = pt_t l m j) → ∃ R2, (rf_kP R R2 ∧ R2.1 28 0 = 0) ∧ ∀ h, rf_At r R1 h → rf_G r 193 9 [.ref r, .int (nI (2 ^ l.length)), .int (nI m), u3, u4] [] h (some (.int (pt_ans l))) R2 := by
    intro d
    induction d with
    | zero =>
      intro m hm h1 R1 u3 u4 kp t
      refine ⟨R1, ⟨kp, by rw [t 0 (by omega), pt_t0]⟩, fun h H => ?_⟩
      obtain rfl : m = 2 ^ l.length := by omega
      refine rf_G.step (pc' := 10) (st' := [_]) rfl rfl ?_
      refine rf_G.step (pc' := 11) (st' := [_, _]) rfl rfl ?_
      refine rf_G.bc rfl (jx_br_ge _ _) (fun _ => ?_) (fun z => absurd (Int32.le_refl _) z)
      refine rf_G.step (pc' := 142) (st' := [_]) rfl rfl ?_
      refine rf_G.get H rfl rfl ?_
      rw [(kp.it I).1]
      unfold pt_ans
      by_cases hz : l.length = 0
      · rw [if_pos hz]
        refine rf_G.brn rfl (fun z => absurd ((nI_z (by omega)).mpr hz) z) (fun _ => ?_)
        refine rf_G.step (pc' := 149) (st' := [_]) rfl rfl ?_
        refine rf_G.step (pc' := 165) (st' := [_]) rfl rfl ?_
        exact rf_G.ret H rfl rfl
      · rw [if_neg hz]
        refine rf_G.brn rfl (fun _ => ?_) (fun z => absurd z (fun q => hz ((nI_z (by omega)).mp q)))
        refine rf_G.step (pc' := 153) (st' := [_]) rfl rfl ?_
        refine rf_G.get H rfl rfl ?_
        rw [(kp.it I).1]
        refine rf_G.step (pc' := 157) (st' := [_, _]) rfl rfl ?_
        refine rf_G.get H rfl rfl ?_
        refine rf_G.step (pc' := 161) (st' := [_, _, _]) rfl rfl ?_
        refine rf_G.step (pc' := 162) (st' := [_, _, _, _]) rfl rfl ?_
        refine rf_G.step (pc' := 163) (st' := [_, _, _]) rfl rfl ?_
        rw [show nI (2 ^ l.length) - 1 = nI (2 ^ l.length - 1) by
          obtain ⟨j, hj⟩ : ∃ j, 2 ^ l.length = j + 1 := ⟨2 ^ l.length - 1, by omega⟩
          rw [hj, nI_pred]; rfl]
        refine rf_G.iald H 28 12 16384 (by decide) rfl (rf_ix (by omega) (by decide)) ?_
        rw [nI_clamp (by omega), t _ (by omega)]
        refine rf_G.step (pc' := 165) (st' := [_]) rfl rfl ?_
        exact rf_G.ret H rfl rfl
    | succ d ih =>
      intro m hm h1 R1 u3 u4 kp t
      have K : ∀ R2 u, rf_kP R R2 → (∀ j, j < m → R2.1 28 j = pt_t l m j) → R2.2.1 27 m = (pt_in l (pt_t l m) m l.length).1 → R2.1 28 m = (pt_in l (pt_t l m) m l.length).2 → ∃ R3, (rf_kP R R3 ∧ R3.1 28 0 = 0) ∧ ∀ h, rf_At r R2 h → rf_G r 193 110 [.ref r, .int (nI (2 ^ l.length)), .int (nI m), .int (nI l.length), u] [] h (some (.int (pt_ans l))) R3 := by
        intro R2 u k2 t2 s2 b2
        obtain ⟨R3, f, g⟩ := ih (m + 1) (by omega) (by omega) (rf_sA R2 28 (upd (R2.1 28) m (R2.1 28 m + (if R2.2.1 27 m = 0 then 1 else 0)))) (.int (nI l.length)) u (k2.tr (rf_kP.A _)) (fun j hj => by
          show upd (R2.1 28) m _ j = (if j = m then (if m = 0 then 0 else (pt_in l (pt_t l m) m l.length).2 + (if (pt_in l (pt_t l m) m l.length).1 = 0 then 1 else 0)) else pt_t l m j)
          unfold upd
          by_cases h : j = m
          · have hm0 : ¬ m = 0 := Nat.ne_of_gt h1
            rw [if_pos h, if_pos h, if_neg hm0, s2, b2]
          · rw [if_neg h, if_neg h]
            exact t2 j (by omega))
        refine ⟨R3, f, fun h H => ?_⟩
        refine rf_G.step (pc' := 111) (st' := [_]) rfl rfl ?_
        refine rf_G.get H rfl rfl ?_
        refine rf_G.step (pc' := 115) (st' := [_, _]) rfl rfl ?_
        refine rf_G.step (pc' := 116) (st' := [_, _, _, _]) rfl rfl ?_
        refine rf_G.iald H 28 12 16384 (by decide) rfl (rf_ix (by omega) (by decide)) ?_
        refine rf_G.step (pc' := 118) (st' := [_, _, _, _]) rfl rfl ?_
        refine rf_G.get H rfl rfl ?_
        refine rf_G.step (pc' := 122) (st' := [_, _, _, _, _]) rfl rfl ?_
        refine rf_G.lald H 27 11 16384 (by decide) rfl (rf_ix (by omega) (by decide)) ?_
        refine rf_G.step (pc' := 124) (st' := [_, _, _, _, _]) rfl rfl ?_
        refine rf_G.step (pc' := 125) (st' := [_, _, _, _]) rfl rfl ?_
        rw [nI_clamp (by omega)]
        by_cases hz : R2.2.1 27 m = 0
        · rw [if_pos hz] at g
          refine rf_G.brn rfl (fun z => absurd ((lg_cmp_eq0 _ _).mpr hz) z) (fun _ => ?_)
          refine rf_G.step (pc' := 129) (st' := [_, _, _, _]) rfl rfl ?_
          refine rf_G.step (pc' := 133) (st' := [_, _, _, _]) rfl rfl ?_
          refine rf_G.step (pc' := 134) (st' := [_, _, _]) rfl rfl ?_
          refine rf_G.iast H 28 12 16384 (by decide) rfl (rf_ix (by omega) (by decide)) (fun h H => ?_)
          rw [nI_clamp (by omega)] at H
          refine rf_G.step (pc' := 138) (ls' := [_, _, _, _, _]) (st' := []) rfl rfl ?_
          refine rf_G.step (pc' := 9) (st' := []) rfl rfl ?_
          rw [nI_1]
          exact g h H
        · rw [if_neg hz] at g
          refine rf_G.brn rfl (fun _ => ?_) (fun z => absurd z (fun q => hz ((lg_cmp_eq0 _ _).mp q)))
          refine rf_G.step (pc' := 133) (st' := [_, _, _, _]) rfl rfl ?_
          refine rf_G.step (pc' := 134) (st' := [_, _, _]) rfl rfl ?_
          refine rf_G.iast H 28 12 16384 (by decide) rfl (rf_ix (by omega) (by decide)) (fun h H => ?_)
          rw [nI_clamp (by omega)] at H
          refine rf_G.step (pc' := 138) (ls' := [_, _, _, _, _]) (st' := []) rfl rfl ?_
          refine rf_G.step (pc' := 9) (st' := []) rfl rfl ?_
          rw [nI_1]
          exact g h H
      obtain ⟨R2, f, g⟩ := pt_inner r R l hl I m (by omega) (pt_t l m) (some (.int (pt_ans l))) (fun R3 => rf_kP R R3 ∧ R3.1 28 0 = 0) K l.length 0 (by omega) (rf_sA (rf_sB R1 27 (vp_updL (R1.2.1 27) m 0)) 28 (upd (R1.1 28) m 0)) u4 (kp.tr ((rf_kP.B _).tr (rf_kP.A _))) (fun j hj => by
        show upd (R1.1 28) m 0 j = _
        unfold upd
        rw [if_neg (by omega)]
        exact t j hj) (by
        show vp_updL (R1.2.1 27) m 0 m = _
        unfold vp_updL
        rw [if_pos rfl]
        rfl) (by
        show upd (R1.1 28) m 0 m = _
        unfold upd
        rw [if_pos rfl]
        rfl)
      refine ⟨R2, f, fun h H => ?_⟩
      refine rf_G.step (pc' := 10) (st' := [_]) rfl rfl ?_
      refine rf_G.step (pc' := 11) (st' := [_, _]) rfl rfl ?_
      refine rf_G.bc rfl (jx_br_ge _ _) (fun z => absurd z (nI_ge (by omega) (by omega))) (fun _ => ?_)
      refine rf_G.step (pc' := 15) (st' := [_]) rfl rfl ?_
      refine rf_G.get H rfl rfl ?_
      refine rf_G.step (pc' := 19) (st' := [_, _]) rfl rfl ?_
      refine rf_G.step (pc' := 20) (st' := [_, _, _]) rfl rfl ?_
      refine rf_G.last H 27 11 16384 (by decide) rfl (rf_ix (by omega) (by decide)) (fun h H => ?_)
      refine rf_G.step (pc' := 22) (st' := [_]) rfl rfl ?_
      refine rf_G.get H rfl rfl ?_
      refine rf_G.step (pc' := 26) (st' := [_, _]) rfl rfl ?_
      refine rf_G.step (pc' := 27) (st' := [_, _, _]) rfl rfl ?_
      refine rf_G.iast H 28 12 16384 (by decide) rfl (rf_ix (by omega) (by decide)) (fun h H => ?_)
      rw [nI_clamp (by omega)] at H
      refine rf_G.step (pc' := 29) (st' := [_]) rfl rfl ?_
      refine rf_G.step (pc' := 30) (ls' := [_, _, _, _, _]) (st' := []) rfl rfl ?_
      exact g h H
  obtain ⟨R2, f, g⟩ := outer (2 ^ l.length - 1) 1 (by omega) (by omega) R (.retAddr 0) (.retAddr 0) rf_kP.rf (fun j hj => by
    obtain rfl : j = 0 := by omega
    rw [h0, pt_t0])
  refine ⟨R2, ?_, f⟩
  intro h H
  show rf_G r 193 0 [.ref r, .retAddr 0, .retAddr 0, .retAddr 0, .retAddr 0] [] h _ _
  refine rf_G.step (pc' := 1) (st' := [_]) rfl rfl ?_
  refine rf_G.step (pc' := 2) (st' := [_, _]) rfl rfl ?_
  refine rf_G.get H rfl rfl ?_
  rw [I.1]
  refine rf_G.step (pc' := 6) (st' := [_]) rfl rfl ?_
  rw [bt_shl (by omega)]
  refine rf_G.step (pc' := 7) (ls' := [_, _, _, _, _]) (st' := []) rfl rfl ?_
  refine rf_G.step (pc' := 8) (st' := [_]) rfl rfl ?_
  refine rf_G.step (pc' := 9) (ls' := [_, _, _, _, _]) (st' := []) rfl rfl ?_
  exact g h H
