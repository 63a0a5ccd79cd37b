/-! the works: bits; forbidden pairs; count -/
def bc_u (x k : Int32) : Int32 := (x.toUInt32 >>> (k.toUInt32 &&& Int32.toUInt32 31)).toInt32
def bc_1 (x : Int32) : Int32 := x - (bc_u x 1 &&& 1431655765)
def bc_2 (x : Int32) : Int32 := (x &&& 858993459) + (bc_u x 2 &&& 858993459)
def bc_3 (x : Int32) : Int32 := (x + bc_u x 4) &&& 252645135
def bc_4 (x : Int32) : Int32 := x + bc_u x 8
def bc_5 (x : Int32) : Int32 := x + bc_u x 16
def bc_e (x : Int32) : Int32 := bc_5 (bc_4 (bc_3 (bc_2 (bc_1 x)))) &&& 63
/-- how many of the first k bits stand -/
def bc_p (m : Nat) : Nat → Nat
  | 0 => 0
  | k + 1 => bc_p m k + (if m.testBit k then 1 else 0)
theorem bc_all : ∀ a : Fin 64, ∀ b : Fin 64, bc_e (nI (64 * a.1 + b.1)) = nI (bc_p (64 * a.1 + b.1) 12) := by decide +kernel
theorem bc_is {m : Nat} (h : m < 4096) : bc_e (nI m) = nI (bc_p m 12) := by
  have := bc_all ⟨m / 64, by omega⟩ ⟨m % 64, by omega⟩
  dsimp only at this
  rw [show 64 * (m / 64) + m % 64 = m by omega] at this
  exact this
theorem kc_bitE (h : jx_H) (x : Int32) : jx_T 205 0 (jx_ent 205 [.int x]) [] h (some (.int (bc_e x))) h := by
  show jx_T 205 0 [.int x] [] _ _ _
  unfold bc_e
  refine jx_T.step (pc' := 1) (st' := [_]) rfl rfl ?_
  refine jx_T.step (pc' := 2) (st' := [_, _]) rfl rfl ?_
  refine jx_T.step (pc' := 3) (st' := [_, _, _]) rfl rfl ?_
  refine jx_T.step (pc' := 4) (st' := [_, _]) rfl rfl ?_
  refine jx_T.step (pc' := 7) (st' := [_, _, _]) rfl rfl ?_
  refine jx_T.step (pc' := 8) (st' := [_, _]) rfl rfl ?_
  refine jx_T.step (pc' := 9) (st' := [_]) rfl rfl ?_
  show jx_T 205 9 [.int x] [.int (bc_1 x)] _ _ _
  generalize bc_1 x = a
  refine jx_T.step (pc' := 10) (ls' := [_]) (st' := []) rfl rfl ?_
  refine jx_T.step (pc' := 11) (st' := [_]) rfl rfl ?_
  refine jx_T.step (pc' := 14) (st' := [_, _]) rfl rfl ?_
  refine jx_T.step (pc' := 15) (st' := [_]) rfl rfl ?_
  refine jx_T.step (pc' := 16) (st' := [_, _]) rfl rfl ?_
  refine jx_T.step (pc' := 17) (st' := [_, _, _]) rfl rfl ?_
  refine jx_T.step (pc' := 18) (st' := [_, _]) rfl rfl ?_
  refine jx_T.step (pc' := 21) (st' := [_, _, _]) rfl rfl ?_
  refine jx_T.step (pc' := 22) (st' := [_, _]) rfl rfl ?_
  refine jx_T.step (pc' := 23) (st' := [_]) rfl rfl ?_
  show jx_T 205 23 [.int a] [.int (bc_2 a)] _ _ _
  generalize bc_2 a = b
  refine jx_T.step (pc' := 24) (ls' := [_]) (st' := []) rfl rfl ?_
  refine jx_T.step (pc' := 25) (st' := [_]) rfl rfl ?_
  refine jx_T.step (pc' := 26) (st' := [_, _]) rfl rfl ?_
  refine jx_T.step (pc' := 27) (st' := [_, _, _]) rfl rfl ?_
  refine jx_T.step (pc' := 28) (st' := [_, _]) rfl rfl ?_
  refine jx_T.step (pc' := 29) (st' := [_]) rfl rfl ?_
  refine jx_T.step (pc' := 32) (st' := [_, _]) rfl rfl ?_
  refine jx_T.step (pc' := 33) (st' := [_]) rfl rfl ?_
  show jx_T 205 33 [.int b] [.int (bc_3 b)] _ _ _
  generalize bc_3 b = c
  refine jx_T.step (pc' := 34) (ls' := [_]) (st' := []) rfl rfl ?_
  refine jx_T.step (pc' := 35) (st' := [_]) rfl rfl ?_
  refine jx_T.step (pc' := 36) (st' := [_, _]) rfl rfl ?_
  refine jx_T.step (pc' := 38) (st' := [_, _, _]) rfl rfl ?_
  refine jx_T.step (pc' := 39) (st' := [_, _]) rfl rfl ?_
  refine jx_T.step (pc' := 40) (st' := [_]) rfl rfl ?_
  show jx_T 205 40 [.int c] [.int (bc_4 c)] _ _ _
  generalize bc_4 c = d
  refine jx_T.step (pc' := 41) (ls' := [_]) (st' := []) rfl rfl ?_
  refine jx_T.step (pc' := 42) (st' := [_]) rfl rfl ?_
  refine jx_T.step (pc' := 43) (st' := [_, _]) rfl rfl ?_
  refine jx_T.step (pc' := 45) (st' := [_, _, _]) rfl rfl ?_
  refine jx_T.step (pc' := 46) (st' := [_, _]) rfl rfl ?_
  refine jx_T.step (pc' := 47) (st' := [_]) rfl rfl ?_
  show jx_T 205 47 [.int d] [.int (bc_5 d)] _ _ _
  generalize bc_5 d = e
  refine jx_T.step (pc' := 48) (ls' := [_]) (st' := []) rfl rfl ?_
  refine jx_T.step (pc' := 49) (st' := [_]) rfl rfl ?_
  refine jx_T.step (pc' := 51) (st' := [_, _]) rfl rfl ?_
  refine jx_T.step (pc' := 52) (st' := [_]) rfl rfl ?_
  exact jx_T.ret rfl rfl
theorem kc_bitCount (h : jx_H) {m : Nat} (hm : m < 4096) : jx_T 205 0 (jx_ent 205 [.int (nI m)]) [] h (some (.int (nI (bc_p m 12)))) h := by
  rw [← bc_is hm]
  exact kc_bitE h _
theorem bc_le (m : Nat) : ∀ k, bc_p m k ≤ k
  | 0 => Nat.le_refl _
  | k + 1 => by
    unfold bc_p
    have := bc_le m k
    split <;> omega
def pf_s (m : Nat → Nat) : Nat → Nat
  | 0 => 0
  | k + 1 => pf_s m k + bc_p (m k) 12
section
variable {W : cw} {g : Nat → Option jx_E} {x : Nat} {T : tv} (nx s : Nat)
theorem kc_isForb (im : im_sta g x T) (a : Nat) (ha : a < 12) (c : Int32) : jx_T 78 0 (jx_ent 78 [.ref x, .int (nI a), .int c]) [] (hc W g nx s) (some (.int (rf_o ((T.2.2.2.2.2 a >>> (c &&& 31)) &&& 1 = 1)))) (hc W g nx s) := by
  obtain ⟨s1, s2, s3, s4, f1, f2, f3, p1, p2, p3, p4, p5, p6, p7, p8⟩ := im
  show jx_T 78 0 [.ref x, .int (nI a), .int c] [] _ _ _
  refine jx_T.step (pc' := 1) (st' := [_]) rfl rfl ?_
  refine cl.br rfl (jx_br_lt _ _) (fun zq => absurd zq (nI_pos (by omega))) (fun _ => ?_)
  refine jx_T.step (pc' := 5) (st' := [_]) rfl rfl ?_
  refine jx_T.step (pc' := 7) (st' := [_, _]) rfl rfl ?_
  rw [rf_lit 12]
  refine cl.bc rfl (jx_br_ge _ _) (fun zq => absurd zq (nI_ge ha (by omega))) (fun _ => ?_)
  refine jx_T.step (pc' := 11) (st' := [_]) rfl rfl ?_
  refine cl.geti (p1).1 (p1).2 rfl rfl ?_
  refine jx_T.step (pc' := 15) (st' := [_, _]) rfl rfl ?_
  refine cl.ialdi (p8).1 (p8).2 rfl (rf_ix ha (by decide)) ?_
  rw [nI_clamp (by omega)]
  refine jx_T.step (pc' := 17) (st' := [_, _]) rfl rfl ?_
  refine jx_T.step (pc' := 18) (st' := [_]) rfl rfl ?_
  refine jx_T.step (pc' := 19) (st' := [_, _]) rfl rfl ?_
  refine jx_T.step (pc' := 20) (st' := [_]) rfl rfl ?_
  refine jx_T.step (pc' := 21) (st' := [_, _]) rfl rfl ?_
  by_cases z : (T.2.2.2.2.2 a >>> (c &&& 31)) &&& 1 = 1
  · rw [rf_ot z]
    refine cl.bcn rfl (fun zq => absurd (z) zq) (fun _ => ?_)
    refine jx_T.step (pc' := 25) (st' := [_]) rfl rfl ?_
    refine jx_T.step (pc' := 29) (st' := [_]) rfl rfl ?_
    exact jx_T.ret rfl rfl
  · rw [rf_of z]
    refine cl.bcn rfl (fun _ => ?_) (fun zq => absurd zq (z))
    refine jx_T.step (pc' := 29) (st' := [_]) rfl rfl ?_
    exact jx_T.ret rfl rfl
theorem kc_pairs (im : im_sta g x T) (m : Nat → Nat) (hm : ∀ i, i < 12 → T.2.2.2.2.2 i = nI (m i) ∧ m i < 4096) : jx_T 77 0 (jx_ent 77 [.ref x]) [] (hc W g nx s) (some (.int (nI (pf_s m 12)))) (hc W g nx s) := by
  obtain ⟨s1, s2, s3, s4, f1, f2, f3, p1, p2, p3, p4, p5, p6, p7, p8⟩ := im
  have loop : ∀ d k, k + d = 12 → jx_T 77 4 [.ref x, .int (nI (pf_s m k)), .int (nI k)] [] (hc W g nx s) (some (.int (nI (pf_s m 12)))) (hc W g nx s) := by
    intro d
    induction d with
    | zero =>
      intro k hk
      obtain rfl : k = 12 := by omega
      refine jx_T.step (pc' := 5) (st' := [_]) rfl rfl ?_
      refine jx_T.step (pc' := 7) (st' := [_, _]) rfl rfl ?_
      refine cl.bc rfl (jx_br_ge _ _) (fun _ => ?_) (fun zq => absurd (by decide) zq)
      refine jx_T.step (pc' := 29) (st' := [_]) rfl rfl ?_
      exact jx_T.ret rfl rfl
    | succ d ih =>
      intro k hk
      have hmk := hm k (by omega)
      refine jx_T.step (pc' := 5) (st' := [_]) rfl rfl ?_
      refine jx_T.step (pc' := 7) (st' := [_, _]) rfl rfl ?_
      rw [rf_lit 12]
      refine cl.bc rfl (jx_br_ge _ _) (fun zq => absurd zq (nI_ge (by omega) (by omega))) (fun _ => ?_)
      refine jx_T.step (pc' := 11) (st' := [_]) rfl rfl ?_
      refine jx_T.step (pc' := 12) (st' := [_, _]) rfl rfl ?_
      refine cl.geti (p1).1 (p1).2 rfl rfl ?_
      refine jx_T.step (pc' := 16) (st' := [_, _, _]) rfl rfl ?_
      refine cl.ialdi (p8).1 (p8).2 rfl (rf_ix (by omega) (by decide)) ?_
      rw [nI_clamp (by omega), hmk.1]
      refine cl.s1I rfl (by decide) rfl (Nat.le_of_ble_eq_true rfl) (Nat.le_of_ble_eq_true rfl) (kc_bitCount _ hmk.2) ?_
      refine jx_T.step (pc' := 21) (st' := [_]) rfl rfl ?_
      rw [nI_add]
      refine jx_T.step (pc' := 22) (ls' := [_, _, _]) (st' := []) rfl rfl ?_
      refine jx_T.step (pc' := 25) (ls' := [_, _, _]) (st' := []) rfl rfl ?_
      refine jx_T.step (pc' := 4) (st' := []) rfl rfl ?_
      rw [nI_1]
      exact ih (k + 1) (by omega)
  show jx_T 77 0 [.ref x, .retAddr 0, .retAddr 0] [] _ _ _
  refine jx_T.step (pc' := 1) (st' := [_]) rfl rfl ?_
  refine jx_T.step (pc' := 2) (ls' := [_, _, _]) (st' := []) rfl rfl ?_
  refine jx_T.step (pc' := 3) (st' := [_]) rfl rfl ?_
  refine jx_T.step (pc' := 4) (ls' := [_, _, _]) (st' := []) rfl rfl ?_
  exact loop 12 0 (by omega)
def tv_cnt (W : cw) (T : tv) (m : Nat → Nat) (w : Int32) : Int32 := if w = 0 then nI T.2.1 else if w = 1 then T.1 else if w = 2 then W.2.2.1 1 2 else if w = 3 then W.2.2.1 1 3 else if w = 4 then nI (pf_s m 12) else if 5 ≤ w.toInt ∧ w.toInt ≤ 8 then nI (T.2.2.2.2.1 (w - 5).toNatClampNeg).1 else -1
theorem kc_count (n : cl_now W g x T) (m : Nat → Nat) (hm : ∀ i, i < 12 → T.2.2.2.2.2 i = nI (m i) ∧ m i < 4096) (w : Int32) : jx_T 111 0 (jx_ent 111 [.ref 1, .int w]) [] (hc W g nx s) (some (.int (tv_cnt W T m w))) (hc W g nx s) := by
  have cn := kc_now nx s n
  have cp := kc_pairs (W := W) nx s n.2.1 m hm
  obtain ⟨s1, s2, s3, s4, f1, f2, f3, p1, p2, p3, p4, p5, p6, p7, p8⟩ := n.2.1
  show jx_T 111 0 [.ref 1, .int w] [] _ _ _
  refine jx_T.step (pc' := 1) (st' := [_]) rfl rfl ?_
  by_cases hw : 0 ≤ w.toInt ∧ w.toInt ≤ 4
  · obtain ⟨k, hk, rfl⟩ := rf_nI (n := 4) hw (by decide)
    match k, hk with
    | 0, _ =>
      refine cl.swI (tgt := 36) (o := 35) rfl (by decide) (by decide) (by decide) ?_
      refine jx_T.step (pc' := 37) (st' := [_]) rfl rfl ?_
      refine cl.v0I (hc_fix 1 (by decide) (cw_c1 _)) rfl (by decide) rfl ⟨Nat.le_of_ble_eq_true rfl, rfl⟩ (Nat.le_of_ble_eq_true rfl) (cn) ?_
      refine cl.geti (p1).1 (p1).2 rfl rfl ?_
      exact jx_T.ret rfl rfl
    | 1, _ =>
      refine cl.swI (tgt := 44) (o := 43) rfl (by decide) (by decide) (by decide) ?_
      refine jx_T.step (pc' := 45) (st' := [_]) rfl rfl ?_
      refine cl.v0I (hc_fix 1 (by decide) (cw_c1 _)) rfl (by decide) rfl ⟨Nat.le_of_ble_eq_true rfl, rfl⟩ (Nat.le_of_ble_eq_true rfl) (cn) ?_
      refine cl.geti (p1).1 (p1).2 rfl rfl ?_
      exact jx_T.ret rfl rfl
    | 2, _ =>
      refine cl.swI (tgt := 52) (o := 51) rfl (by decide) (by decide) (by decide) ?_
      refine jx_T.step (pc' := 53) (st' := [_]) rfl rfl ?_
      refine cl.get 1 (by decide) rfl (cw_c1 _) rfl ?_
      exact jx_T.ret rfl rfl
    | 3, _ =>
      refine cl.swI (tgt := 57) (o := 56) rfl (by decide) (by decide) (by decide) ?_
      refine jx_T.step (pc' := 58) (st' := [_]) rfl rfl ?_
      refine cl.get 1 (by decide) rfl (cw_c1 _) rfl ?_
      exact jx_T.ret rfl rfl
    | 4, _ =>
      refine cl.swI (tgt := 62) (o := 61) rfl (by decide) (by decide) (by decide) ?_
      refine jx_T.step (pc' := 63) (st' := [_]) rfl rfl ?_
      refine cl.v0I (hc_fix 1 (by decide) (cw_c1 _)) rfl (by decide) rfl ⟨Nat.le_of_ble_eq_true rfl, rfl⟩ (Nat.le_of_ble_eq_true rfl) (cn) ?_
      refine cl.v0I (hc_imm (p1).1 (p1).2) rfl (by decide) rfl ⟨Nat.le_of_ble_eq_true rfl, rfl⟩ (Nat.le_of_ble_eq_true rfl) (cp) ?_
      exact jx_T.ret rfl rfl
  · have e0 : ∀ j : Nat, j ≤ 4 → ¬ w = nI j := fun j hj q => hw (by rw [q, nI_toInt (by omega)]; omega)
    have e : tv_cnt W T m w = if 5 ≤ w.toInt ∧ w.toInt ≤ 8 then nI (T.2.2.2.2.1 (w - 5).toNatClampNeg).1 else -1 := by
      unfold tv_cnt
      rw [if_neg (show ¬ w = 0 from e0 0 (by omega)), if_neg (show ¬ w = 1 from e0 1 (by omega)), if_neg (show ¬ w = 2 from e0 2 (by omega)), if_neg (show ¬ w = 3 from e0 3 (by omega)), if_neg (show ¬ w = 4 from e0 4 (by omega))]
    rw [e]
    refine cl.swO (tgt := 70) rfl hw (by decide) ?_
    refine jx_T.step (pc' := 71) (st' := [_]) rfl rfl ?_
    refine jx_T.step (pc' := 72) (st' := [_, _]) rfl rfl ?_
    refine jx_T.step (pc' := 74) (st' := [_, _, _]) rfl rfl ?_
    refine cl.s3I rfl (by decide) rfl (Nat.le_of_ble_eq_true rfl) (Nat.le_of_ble_eq_true rfl) (kc_within _ _ _ _) ?_
    by_cases z : 5 ≤ w.toInt ∧ w.toInt ≤ 8
    · rw [if_pos z]
      refine cl.br rfl (jx_br_eq _ _) (fun zq => absurd zq (fun q => (rf_o_0 _).mp q z)) (fun _ => ?_)
      obtain ⟨k, hk, rfl⟩ := rf_nI (x := w) (n := 8) ⟨by omega, z.2⟩ (by decide)
      rw [nI_toInt (by omega)] at z
      obtain ⟨y, ey, iy⟩ := p7 (k - 5) (by omega)
      obtain ⟨b1, b2, b3, i0, -⟩ := iy
      rw [rf_lit 5, rf_nsub (by omega), nI_clamp (by omega)]
      refine jx_T.step (pc' := 81) (st' := [_]) rfl rfl ?_
      refine cl.v0I (hc_fix 1 (by decide) (cw_c1 _)) rfl (by decide) rfl ⟨Nat.le_of_ble_eq_true rfl, rfl⟩ (Nat.le_of_ble_eq_true rfl) (cn) ?_
      refine cl.geti (p1).1 (p1).2 rfl rfl ?_
      refine jx_T.step (pc' := 88) (st' := [_, _]) rfl rfl ?_
      refine jx_T.step (pc' := 89) (st' := [_, _, _]) rfl rfl ?_
      rw [rf_lit 5]
      refine jx_T.step (pc' := 90) (st' := [_, _]) rfl rfl ?_
      rw [rf_nsub (by omega)]
      refine cl.aaldi (p6).1 (p6).2 rfl (by decide) (rf_ix (by omega) (by decide)) ?_
      rw [nI_clamp (by omega), ey]
      refine cl.geti (i0).1 (i0).2 rfl rfl ?_
      refine jx_T.step (pc' := 98) (st' := [_]) rfl rfl ?_
      exact jx_T.ret rfl rfl
    · rw [if_neg z]
      refine cl.br rfl (jx_br_eq _ _) (fun _ => ?_) (fun zq => absurd ((rf_o_0 _).mpr z) zq)
      refine jx_T.step (pc' := 98) (st' := [_]) rfl rfl ?_
      exact jx_T.ret rfl rfl
end
