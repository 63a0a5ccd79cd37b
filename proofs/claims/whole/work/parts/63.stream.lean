/-! a stream of the works, as its object tells it -/
abbrev sv : Type := Int32 × Int32 × Int32 × Int32 × Int32 × Int32 × Int32 × Nat × (Nat → Int32) × (Nat → Int32)
def sv_hot (S : sv) : Int32 := S.2.1
def sv_hotter (S : sv) : Int32 := S.2.2.2.2.2.1
def sv_am (S : sv) : Int32 := S.2.2.2.2.2.2.1
def sv_n (S : sv) : Nat := S.2.2.2.2.2.2.2.1
def sv_fd (S : sv) : Nat → Int32 := S.2.2.2.2.2.2.2.2.1
def sv_ff (S : sv) : Nat → Int32 := S.2.2.2.2.2.2.2.2.2
def sv_fs (S : sv) (ad af : Nat) : List Value := [.int S.1, .int (sv_hot S), .int S.2.2.1, .int S.2.2.2.1, .int S.2.2.2.2.1, .int (sv_hotter S), .int (sv_am S), .ref ad, .ref af]
def im_str (g : Nat → Option jx_E) (a : Nat) (S : sv) : Prop := ∃ ad af, (35 ≤ a ∧ g a = some (.inr (10, sv_fs S ad af))) ∧ (35 ≤ ad ∧ g ad = some (.inl (0, sv_n S, .inl (sv_fd S)))) ∧ (35 ≤ af ∧ g af = some (.inl (0, sv_n S, .inl (sv_ff S))))
section
variable {g : Nat → Option jx_E} {a : Nat} {S : sv} (W : cw) (nx s : Nat)
theorem kc_isBought (im : im_str g a S) : jx_T 80 0 (jx_ent 80 [.ref a]) [] (hc W g nx s) (some (.int (rf_o (S.1 = 3 ∨ S.1 = 4)))) (hc W g nx s) := by
  obtain ⟨ad, af, h1, h2, h3⟩ := im
  show jx_T 80 0 [.ref a] [] _ _ _
  refine jx_T.step (pc' := 1) (st' := [_]) rfl rfl ?_
  refine cl.geti (h1).1 (h1).2 rfl rfl ?_
  refine jx_T.step (pc' := 5) (st' := [_, _]) rfl rfl ?_
  by_cases z : S.1 = 3
  · rw [rf_ot (Or.inl z)]
    refine cl.bc rfl (jx_br_eq _ _) (fun _ => ?_) (fun zq => absurd (z) zq)
    refine jx_T.step (pc' := 17) (st' := [_]) rfl rfl ?_
    refine jx_T.step (pc' := 21) (st' := [_]) rfl rfl ?_
    exact jx_T.ret rfl rfl
  · refine cl.bc rfl (jx_br_eq _ _) (fun zq => absurd zq (z)) (fun _ => ?_)
    refine jx_T.step (pc' := 9) (st' := [_]) rfl rfl ?_
    refine cl.geti (h1).1 (h1).2 rfl rfl ?_
    refine jx_T.step (pc' := 13) (st' := [_, _]) rfl rfl ?_
    by_cases y : S.1 = 4
    · rw [rf_ot (Or.inr y)]
      refine cl.bcn rfl (fun zq => absurd (y) zq) (fun _ => ?_)
      refine jx_T.step (pc' := 17) (st' := [_]) rfl rfl ?_
      refine jx_T.step (pc' := 21) (st' := [_]) rfl rfl ?_
      exact jx_T.ret rfl rfl
    · rw [rf_of (fun q => q.elim z y)]
      refine cl.bcn rfl (fun _ => ?_) (fun zq => absurd zq (y))
      refine jx_T.step (pc' := 21) (st' := [_]) rfl rfl ?_
      exact jx_T.ret rfl rfl
theorem kc_isOf (im : im_str g a S) (w : Int32) : jx_T 81 0 (jx_ent 81 [.ref a, .int w]) [] (hc W g nx s) (some (.int (rf_o (¬ (S.1 = 3 ∨ S.1 = 4) ∧ (w = 3 ∨ w = S.2.2.1))))) (hc W g nx s) := by
  have cb := kc_isBought W nx s im
  obtain ⟨ad, af, h1, h2, h3⟩ := im
  show jx_T 81 0 [.ref a, .int w] [] _ _ _
  refine jx_T.step (pc' := 1) (st' := [_]) rfl rfl ?_
  refine cl.v0I (hc_imm (h1).1 (h1).2) rfl (by decide) rfl ⟨Nat.le_of_ble_eq_true rfl, rfl⟩ (Nat.le_of_ble_eq_true rfl) (cb) ?_
  by_cases z : S.1 = 3 ∨ S.1 = 4
  · rw [rf_of (P := ¬ (S.1 = 3 ∨ S.1 = 4) ∧ (w = 3 ∨ w = S.2.2.1)) (fun q => q.1 z)]
    refine cl.brn rfl (fun _ => ?_) (fun zq => absurd zq (fun q => (rf_o_0 _).mp q z))
    refine jx_T.step (pc' := 25) (st' := [_]) rfl rfl ?_
    exact jx_T.ret rfl rfl
  · refine cl.brn rfl (fun zq => absurd ((rf_o_0 _).mpr z) zq) (fun _ => ?_)
    refine jx_T.step (pc' := 8) (st' := [_]) rfl rfl ?_
    refine jx_T.step (pc' := 9) (st' := [_, _]) rfl rfl ?_
    by_cases y : w = 3
    · rw [rf_ot ⟨z, Or.inl y⟩]
      refine cl.bc rfl (jx_br_eq _ _) (fun _ => ?_) (fun zq => absurd (y) zq)
      refine jx_T.step (pc' := 21) (st' := [_]) rfl rfl ?_
      refine jx_T.step (pc' := 25) (st' := [_]) rfl rfl ?_
      exact jx_T.ret rfl rfl
    · refine cl.bc rfl (jx_br_eq _ _) (fun zq => absurd zq (y)) (fun _ => ?_)
      refine jx_T.step (pc' := 13) (st' := [_]) rfl rfl ?_
      refine jx_T.step (pc' := 14) (st' := [_, _]) rfl rfl ?_
      refine cl.geti (h1).1 (h1).2 rfl rfl ?_
      by_cases x : w = S.2.2.1
      · rw [rf_ot ⟨z, Or.inr x⟩]
        refine cl.bcn rfl (fun zq => absurd (x) zq) (fun _ => ?_)
        refine jx_T.step (pc' := 21) (st' := [_]) rfl rfl ?_
        refine jx_T.step (pc' := 25) (st' := [_]) rfl rfl ?_
        exact jx_T.ret rfl rfl
      · rw [rf_of (fun q => q.2.elim y x)]
        refine cl.bcn rfl (fun _ => ?_) (fun zq => absurd zq (x))
        refine jx_T.step (pc' := 25) (st' := [_]) rfl rfl ?_
        exact jx_T.ret rfl rfl
def sv_top (S : sv) (gap : Int32) : Int32 := if sv_hot S = 0 then sv_hotter S else sv_hotter S - gap
theorem kc_topLevel (im : im_str g a S) (gap : Int32) : jx_T 82 0 (jx_ent 82 [.ref a, .int gap]) [] (hc W g nx s) (some (.int (sv_top S gap))) (hc W g nx s) := by
  obtain ⟨ad, af, h1, h2, h3⟩ := im
  show jx_T 82 0 [.ref a, .int gap] [] _ _ _
  unfold sv_top
  refine jx_T.step (pc' := 1) (st' := [_]) rfl rfl ?_
  refine cl.geti (h1).1 (h1).2 rfl rfl ?_
  by_cases z : sv_hot S = 0
  · rw [if_pos z]
    refine cl.br rfl (jx_br_eq _ _) (fun _ => ?_) (fun zq => absurd (z) zq)
    refine jx_T.step (pc' := 17) (st' := [_]) rfl rfl ?_
    refine cl.geti (h1).1 (h1).2 rfl rfl ?_
    exact jx_T.ret rfl rfl
  · rw [if_neg z]
    refine cl.br rfl (jx_br_eq _ _) (fun zq => absurd zq (z)) (fun _ => ?_)
    refine jx_T.step (pc' := 8) (st' := [_]) rfl rfl ?_
    refine cl.geti (h1).1 (h1).2 rfl rfl ?_
    refine jx_T.step (pc' := 12) (st' := [_, _]) rfl rfl ?_
    refine jx_T.step (pc' := 13) (st' := [_]) rfl rfl ?_
    refine jx_T.step (pc' := 20) (st' := [_]) rfl rfl ?_
    exact jx_T.ret rfl rfl
theorem kc_standsAt (im : im_str g a S) (hn : sv_n S ≤ 8) (gap lv : Int32) : jx_T 83 0 (jx_ent 83 [.ref a, .int gap, .int lv]) [] (hc W g nx s) (some (.int (rf_o (sv_n S = 0 ∧ sv_top S gap = lv)))) (hc W g nx s) := by
  have ct := kc_topLevel W nx s im gap
  obtain ⟨ad, af, h1, h2, h3⟩ := im
  show jx_T 83 0 [.ref a, .int gap, .int lv] [] _ _ _
  refine jx_T.step (pc' := 1) (st' := [_]) rfl rfl ?_
  refine cl.geti (h1).1 (h1).2 rfl rfl ?_
  refine cl.aleni (h2).1 (h2).2 rfl (Or.inl (by decide)) ?_
  by_cases z : sv_n S = 0
  · refine cl.brn rfl (fun zq => absurd ((nI_z (by omega)).mpr z) zq) (fun _ => ?_)
    refine jx_T.step (pc' := 9) (st' := [_]) rfl rfl ?_
    refine jx_T.step (pc' := 10) (st' := [_, _]) rfl rfl ?_
    refine cl.v1I (hc_imm (h1).1 (h1).2) rfl (by decide) rfl ⟨Nat.le_of_ble_eq_true rfl, rfl⟩ (Nat.le_of_ble_eq_true rfl) (ct) ?_
    refine jx_T.step (pc' := 14) (st' := [_, _]) rfl rfl ?_
    by_cases y : sv_top S gap = lv
    · rw [rf_ot ⟨z, y⟩]
      refine cl.bcn rfl (fun zq => absurd (y) zq) (fun _ => ?_)
      refine jx_T.step (pc' := 18) (st' := [_]) rfl rfl ?_
      refine jx_T.step (pc' := 22) (st' := [_]) rfl rfl ?_
      exact jx_T.ret rfl rfl
    · rw [rf_of (fun q => y q.2)]
      refine cl.bcn rfl (fun _ => ?_) (fun zq => absurd zq (y))
      refine jx_T.step (pc' := 22) (st' := [_]) rfl rfl ?_
      exact jx_T.ret rfl rfl
  · rw [rf_of (fun q => z q.1)]
    refine cl.brn rfl (fun _ => ?_) (fun zq => absurd zq (fun q => z ((nI_z (by omega)).mp q)))
    refine jx_T.step (pc' := 22) (st' := [_]) rfl rfl ?_
    exact jx_T.ret rfl rfl
/-- the level below so many spans -/
def sv_lv (S : sv) (gap : Int32) : Nat → Int32
  | 0 => sv_top S gap
  | j + 1 => sv_lv S gap j - sv_fd S j
def sv_fl (S : sv) (gap lv : Int32) : Nat → Nat → Int32
  | 0, _ => 0
  | d + 1, i => if lv ≤ sv_lv S gap (i + 1) then sv_fl S gap lv d (i + 1) else sv_ff S i
def sv_fb (S : sv) (gap lv : Int32) : Int32 := if lv ≤ sv_top S gap then sv_fl S gap lv (sv_n S) 0 else 0
theorem kc_flowBelow (im : im_str g a S) (hn : sv_n S ≤ 8) (gap lv : Int32) : jx_T 84 0 (jx_ent 84 [.ref a, .int gap, .int lv]) [] (hc W g nx s) (some (.int (sv_fb S gap lv))) (hc W g nx s) := by
  have ct := kc_topLevel W nx s im gap
  obtain ⟨ad, af, h1, h2, h3⟩ := im
  have loop : ∀ d i, i + d = sv_n S → jx_T 84 16 [.ref a, .int gap, .int lv, .int (sv_lv S gap i), .int (nI i)] [] (hc W g nx s) (some (.int (sv_fl S gap lv d i))) (hc W g nx s) := by
    intro d
    induction d with
    | zero =>
      intro i hi
      refine jx_T.step (pc' := 18) (st' := [_]) rfl rfl ?_
      refine jx_T.step (pc' := 19) (st' := [_, _]) rfl rfl ?_
      refine cl.geti (h1).1 (h1).2 rfl rfl ?_
      refine cl.aleni (h2).1 (h2).2 rfl (Or.inl (by decide)) ?_
      rw [show i = sv_n S by omega]
      refine cl.bc rfl (jx_br_ge _ _) (fun _ => ?_) (fun zq => absurd (Int32.le_refl _) zq)
      refine jx_T.step (pc' := 56) (st' := [_]) rfl rfl ?_
      exact jx_T.ret rfl rfl
    | succ d ih =>
      intro i hi
      refine jx_T.step (pc' := 18) (st' := [_]) rfl rfl ?_
      refine jx_T.step (pc' := 19) (st' := [_, _]) rfl rfl ?_
      refine cl.geti (h1).1 (h1).2 rfl rfl ?_
      refine cl.aleni (h2).1 (h2).2 rfl (Or.inl (by decide)) ?_
      refine cl.bc rfl (jx_br_ge _ _) (fun zq => absurd zq (nI_ge (by omega) (by omega))) (fun _ => ?_)
      refine jx_T.step (pc' := 27) (st' := [_]) rfl rfl ?_
      refine jx_T.step (pc' := 28) (st' := [_, _]) rfl rfl ?_
      refine cl.geti (h1).1 (h1).2 rfl rfl ?_
      refine jx_T.step (pc' := 33) (st' := [_, _, _]) rfl rfl ?_
      refine cl.ialdi (h2).1 (h2).2 rfl (rf_ix (by omega) (by omega)) ?_
      rw [nI_clamp (by omega)]
      refine jx_T.step (pc' := 35) (st' := [_]) rfl rfl ?_
      refine jx_T.step (pc' := 36) (ls' := [_, _, _, _, _]) (st' := []) rfl rfl ?_
      refine jx_T.step (pc' := 37) (st' := [_]) rfl rfl ?_
      refine jx_T.step (pc' := 38) (st' := [_, _]) rfl rfl ?_
      unfold sv_fl
      by_cases z : lv ≤ sv_lv S gap (i + 1)
      · rw [if_pos z]
        refine cl.bc rfl (jx_br_le _ _) (fun _ => ?_) (fun zq => absurd (z) zq)
        refine jx_T.step (pc' := 52) (ls' := [_, _, _, _, _]) (st' := []) rfl rfl ?_
        refine jx_T.step (pc' := 16) (st' := []) rfl rfl ?_
        rw [nI_1]
        exact ih (i + 1) (by omega)
      · rw [if_neg z]
        refine cl.bc rfl (jx_br_le _ _) (fun zq => absurd zq (z)) (fun _ => ?_)
        refine jx_T.step (pc' := 42) (st' := [_]) rfl rfl ?_
        refine cl.geti (h1).1 (h1).2 rfl rfl ?_
        refine jx_T.step (pc' := 47) (st' := [_, _]) rfl rfl ?_
        refine cl.ialdi (h3).1 (h3).2 rfl (rf_ix (by omega) (by omega)) ?_
        rw [nI_clamp (by omega)]
        exact jx_T.ret rfl rfl
  show jx_T 84 0 [.ref a, .int gap, .int lv, .retAddr 0, .retAddr 0] [] _ _ _
  unfold sv_fb
  refine jx_T.step (pc' := 1) (st' := [_]) rfl rfl ?_
  refine jx_T.step (pc' := 2) (st' := [_, _]) rfl rfl ?_
  refine cl.v1I (hc_imm (h1).1 (h1).2) rfl (by decide) rfl ⟨Nat.le_of_ble_eq_true rfl, rfl⟩ (Nat.le_of_ble_eq_true rfl) (ct) ?_
  refine jx_T.step (pc' := 6) (ls' := [_, _, _, _, _]) (st' := []) rfl rfl ?_
  refine jx_T.step (pc' := 7) (st' := [_]) rfl rfl ?_
  refine jx_T.step (pc' := 8) (st' := [_, _]) rfl rfl ?_
  by_cases z : lv ≤ sv_top S gap
  · rw [if_pos z]
    refine cl.bc rfl (jx_br_le _ _) (fun _ => ?_) (fun zq => absurd (z) zq)
    refine jx_T.step (pc' := 14) (st' := [_]) rfl rfl ?_
    refine jx_T.step (pc' := 16) (ls' := [_, _, _, _, _]) (st' := []) rfl rfl ?_
    exact loop (sv_n S) 0 (by omega)
  · rw [if_neg z]
    refine cl.bc rfl (jx_br_le _ _) (fun zq => absurd zq (z)) (fun _ => ?_)
    refine jx_T.step (pc' := 12) (st' := [_]) rfl rfl ?_
    exact jx_T.ret rfl rfl
def sv_of (S : sv) (f : Nat → Int32) (i : Int32) : Int32 := if 0 ≤ i.toInt ∧ i.toInt < sv_n S then f i.toNatClampNeg else 0
theorem kc_flowOfSpan (im : im_str g a S) (hn : sv_n S ≤ 8) (i : Int32) : jx_T 86 0 (jx_ent 86 [.ref a, .int i]) [] (hc W g nx s) (some (.int (sv_of S (sv_ff S) i))) (hc W g nx s) := by
  obtain ⟨ad, af, h1, h2, h3⟩ := im
  show jx_T 86 0 [.ref a, .int i] [] _ _ _
  unfold sv_of
  refine jx_T.step (pc' := 1) (st' := [_]) rfl rfl ?_
  by_cases z : i < 0
  · rw [if_neg (fun q => by have := (rf_lt0 i).mp z; omega)]
    refine cl.br rfl (jx_br_lt _ _) (fun _ => ?_) (fun zq => absurd (z) zq)
    refine jx_T.step (pc' := 23) (st' := [_]) rfl rfl ?_
    exact jx_T.ret rfl rfl
  · refine cl.br rfl (jx_br_lt _ _) (fun zq => absurd zq (z)) (fun _ => ?_)
    obtain ⟨j, hj, rfl⟩ := rf_nn z
    rw [nI_toInt hj, nI_clamp hj]
    refine jx_T.step (pc' := 5) (st' := [_]) rfl rfl ?_
    refine jx_T.step (pc' := 6) (st' := [_, _]) rfl rfl ?_
    refine cl.geti (h1).1 (h1).2 rfl rfl ?_
    refine cl.aleni (h3).1 (h3).2 rfl (Or.inl (by decide)) ?_
    by_cases y : j < sv_n S
    · rw [if_pos (by omega)]
      refine cl.bc rfl (jx_br_ge _ _) (fun zq => absurd zq (nI_ge y (by omega))) (fun _ => ?_)
      refine jx_T.step (pc' := 14) (st' := [_]) rfl rfl ?_
      refine cl.geti (h1).1 (h1).2 rfl rfl ?_
      refine jx_T.step (pc' := 18) (st' := [_, _]) rfl rfl ?_
      refine cl.ialdi (h3).1 (h3).2 rfl (rf_ix y (by omega)) ?_
      rw [nI_clamp hj]
      refine jx_T.step (pc' := 23) (st' := [_]) rfl rfl ?_
      exact jx_T.ret rfl rfl
    · rw [if_neg (by omega)]
      refine cl.bc rfl (jx_br_ge _ _) (fun _ => ?_) (fun zq => absurd (nI_le (by omega) hj) zq)
      refine jx_T.step (pc' := 23) (st' := [_]) rfl rfl ?_
      exact jx_T.ret rfl rfl
theorem kc_heatOfSpan (im : im_str g a S) (hn : sv_n S ≤ 8) (i : Int32) : jx_T 87 0 (jx_ent 87 [.ref a, .int i]) [] (hc W g nx s) (some (.long ((sv_of S (sv_fd S) i).toInt64 * (sv_of S (sv_ff S) i).toInt64))) (hc W g nx s) := by
  have cf := kc_flowOfSpan W nx s im hn i
  obtain ⟨ad, af, h1, h2, h3⟩ := im
  show jx_T 87 0 [.ref a, .int i] [] _ _ _
  refine jx_T.step (pc' := 1) (st' := [_]) rfl rfl ?_
  by_cases z : i < 0
  · have e : sv_of S (sv_fd S) i = 0 := if_neg (fun q => by have := (rf_lt0 i).mp z; omega)
    rw [e, show (0 : Int32).toInt64 = 0 from rfl, Int64.zero_mul]
    refine cl.br rfl (jx_br_lt _ _) (fun _ => ?_) (fun zq => absurd (z) zq)
    refine jx_T.step (pc' := 31) (st' := [_]) rfl rfl ?_
    exact jx_T.ret rfl rfl
  · refine cl.br rfl (jx_br_lt _ _) (fun zq => absurd zq (z)) (fun _ => ?_)
    obtain ⟨j, hj, rfl⟩ := rf_nn z
    refine jx_T.step (pc' := 5) (st' := [_]) rfl rfl ?_
    refine jx_T.step (pc' := 6) (st' := [_, _]) rfl rfl ?_
    refine cl.geti (h1).1 (h1).2 rfl rfl ?_
    refine cl.aleni (h2).1 (h2).2 rfl (Or.inl (by decide)) ?_
    by_cases y : j < sv_n S
    · have e : sv_of S (sv_fd S) (nI j) = sv_fd S j := by
        unfold sv_of
        rw [nI_toInt hj, nI_clamp hj, if_pos (by omega)]
      rw [e]
      refine cl.bc rfl (jx_br_ge _ _) (fun zq => absurd zq (nI_ge y (by omega))) (fun _ => ?_)
      refine jx_T.step (pc' := 14) (st' := [_]) rfl rfl ?_
      refine cl.geti (h1).1 (h1).2 rfl rfl ?_
      refine jx_T.step (pc' := 18) (st' := [_, _]) rfl rfl ?_
      refine cl.ialdi (h2).1 (h2).2 rfl (rf_ix y (by omega)) ?_
      rw [nI_clamp hj]
      refine jx_T.step (pc' := 20) (st' := [_]) rfl rfl ?_
      refine jx_T.step (pc' := 21) (st' := [_, _]) rfl rfl ?_
      refine jx_T.step (pc' := 22) (st' := [_, _, _]) rfl rfl ?_
      refine cl.v1I (hc_imm (h1).1 (h1).2) rfl (by decide) rfl ⟨Nat.le_of_ble_eq_true rfl, rfl⟩ (Nat.le_of_ble_eq_true rfl) (cf) ?_
      refine jx_T.step (pc' := 26) (st' := [_, _]) rfl rfl ?_
      refine jx_T.step (pc' := 27) (st' := [_]) rfl rfl ?_
      refine jx_T.step (pc' := 31) (st' := [_]) rfl rfl ?_
      exact jx_T.ret rfl rfl
    · have e : sv_of S (sv_fd S) (nI j) = 0 := by
        unfold sv_of
        rw [nI_toInt hj, if_neg (by omega)]
      rw [e, show (0 : Int32).toInt64 = 0 from rfl, Int64.zero_mul]
      refine cl.bc rfl (jx_br_ge _ _) (fun _ => ?_) (fun zq => absurd (nI_le (by omega) hj) zq)
      refine jx_T.step (pc' := 31) (st' := [_]) rfl rfl ?_
      exact jx_T.ret rfl rfl
theorem kc_maxL (h : jx_H) (x y : Int64) : jx_T 211 0 (jx_ent 211 [.long x, .long y]) [] h (some (.long (if x < y then y else x))) h := by
  show jx_T 211 0 [.long x, .retAddr 0, .long y, .retAddr 0] [] _ _ _
  refine jx_T.step (pc' := 1) (st' := [_]) rfl rfl ?_
  refine jx_T.step (pc' := 2) (st' := [_, _]) rfl rfl ?_
  refine jx_T.step (pc' := 3) (st' := [_]) rfl rfl ?_
  by_cases z : x < y
  · rw [if_pos z]
    refine cl.br rfl (jx_br_lt _ _) (fun _ => ?_) (fun zq => absurd ((lg_cmp_lt0 _ _).mpr z) zq)
    refine jx_T.step (pc' := 11) (st' := [_]) rfl rfl ?_
    exact jx_T.ret rfl rfl
  · rw [if_neg z]
    refine cl.br rfl (jx_br_lt _ _) (fun zq => absurd zq (fun q => z ((lg_cmp_lt0 _ _).mp q))) (fun _ => ?_)
    refine jx_T.step (pc' := 7) (st' := [_]) rfl rfl ?_
    refine jx_T.step (pc' := 11) (st' := [_]) rfl rfl ?_
    exact jx_T.ret rfl rfl
theorem kc_minL (h : jx_H) (x y : Int64) : jx_T 210 0 (jx_ent 210 [.long x, .long y]) [] h (some (.long (if y < x then y else x))) h := by
  show jx_T 210 0 [.long x, .retAddr 0, .long y, .retAddr 0] [] _ _ _
  refine jx_T.step (pc' := 1) (st' := [_]) rfl rfl ?_
  refine jx_T.step (pc' := 2) (st' := [_, _]) rfl rfl ?_
  refine jx_T.step (pc' := 3) (st' := [_]) rfl rfl ?_
  by_cases z : y < x
  · rw [if_pos z]
    refine cl.br rfl (jx_br_gt _ _) (fun _ => ?_) (fun zq => absurd ((lg_cmp_gt0 _ _).mpr z) zq)
    refine jx_T.step (pc' := 11) (st' := [_]) rfl rfl ?_
    exact jx_T.ret rfl rfl
  · rw [if_neg z]
    refine cl.br rfl (jx_br_gt _ _) (fun zq => absurd zq (fun q => z ((lg_cmp_gt0 _ _).mp q))) (fun _ => ?_)
    refine jx_T.step (pc' := 7) (st' := [_]) rfl rfl ?_
    refine jx_T.step (pc' := 11) (st' := [_]) rfl rfl ?_
    exact jx_T.ret rfl rfl
theorem kc_min (h : jx_H) (x y : Int32) : jx_T 208 0 (jx_ent 208 [.int x, .int y]) [] h (some (.int (if y < x then y else x))) h := by
  show jx_T 208 0 [.int x, .int y] [] _ _ _
  refine jx_T.step (pc' := 1) (st' := [_]) rfl rfl ?_
  refine jx_T.step (pc' := 2) (st' := [_, _]) rfl rfl ?_
  by_cases z : y < x
  · rw [if_pos z]
    refine cl.bc rfl (jx_br_gt _ _) (fun _ => ?_) (fun zq => absurd (z) zq)
    refine jx_T.step (pc' := 10) (st' := [_]) rfl rfl ?_
    exact jx_T.ret rfl rfl
  · rw [if_neg z]
    refine cl.bc rfl (jx_br_gt _ _) (fun zq => absurd zq (z)) (fun _ => ?_)
    refine jx_T.step (pc' := 6) (st' := [_]) rfl rfl ?_
    refine jx_T.step (pc' := 10) (st' := [_]) rfl rfl ?_
    exact jx_T.ret rfl rfl
theorem kc_max (h : jx_H) (x y : Int32) : jx_T 209 0 (jx_ent 209 [.int x, .int y]) [] h (some (.int (if x < y then y else x))) h := by
  show jx_T 209 0 [.int x, .int y] [] _ _ _
  refine jx_T.step (pc' := 1) (st' := [_]) rfl rfl ?_
  refine jx_T.step (pc' := 2) (st' := [_, _]) rfl rfl ?_
  by_cases z : x < y
  · rw [if_pos z]
    refine cl.bc rfl (jx_br_lt _ _) (fun _ => ?_) (fun zq => absurd (z) zq)
    refine jx_T.step (pc' := 10) (st' := [_]) rfl rfl ?_
    exact jx_T.ret rfl rfl
  · rw [if_neg z]
    refine cl.bc rfl (jx_br_lt _ _) (fun zq => absurd zq (z)) (fun _ => ?_)
    refine jx_T.step (pc' := 6) (st' := [_]) rfl rfl ?_
    refine jx_T.step (pc' := 10) (st' := [_]) rfl rfl ?_
    exact jx_T.ret rfl rfl
theorem kc_abs (h : jx_H) (x : Int32) : jx_T 207 0 (jx_ent 207 [.int x]) [] h (some (.int (if 0 ≤ x then x else -x))) h := by
  show jx_T 207 0 [.int x] [] _ _ _
  refine jx_T.step (pc' := 1) (st' := [_]) rfl rfl ?_
  by_cases z : 0 ≤ x
  · rw [if_pos z]
    refine cl.br rfl (jx_br_ge _ _) (fun _ => ?_) (fun zq => absurd (z) zq)
    refine jx_T.step (pc' := 10) (st' := [_]) rfl rfl ?_
    exact jx_T.ret rfl rfl
  · rw [if_neg z]
    refine cl.br rfl (jx_br_ge _ _) (fun zq => absurd zq (z)) (fun _ => ?_)
    refine jx_T.step (pc' := 5) (st' := [_]) rfl rfl ?_
    refine jx_T.step (pc' := 6) (st' := [_]) rfl rfl ?_
    refine jx_T.step (pc' := 10) (st' := [_]) rfl rfl ?_
    exact jx_T.ret rfl rfl
def sv_ha (S : sv) (lv : Int64) : Nat → Nat → Int64 → Int64 → Int64
  | 0, _, _, sum => sum
  | d + 1, i, t, sum => if lv < t then sv_ha S lv d (i + 1) (t - (sv_fd S i).toInt64) (sum + (sv_ff S i).toInt64 * (t - (if t - (sv_fd S i).toInt64 < lv then lv else t - (sv_fd S i).toInt64))) else sum
def sv_hb (S : sv) (gap lv fl : Int32) : Int64 := if sv_n S = 0 then (if lv.toInt64 < (sv_top S gap).toInt64 ∨ (¬ fl = 0 ∧ (sv_top S gap).toInt64 = lv.toInt64) then (sv_am S).toInt64 else 0) else sv_ha S lv.toInt64 (sv_n S) 0 (sv_top S gap).toInt64 0
theorem kc_heatAbove (im : im_str g a S) (hn : sv_n S ≤ 8) (gap lv fl : Int32) : jx_T 85 0 (jx_ent 85 [.ref a, .int gap, .int lv, .int fl]) [] (hc W g nx s) (some (.long (sv_hb S gap lv fl))) (hc W g nx s) := by
  have ct := kc_topLevel W nx s im gap
  obtain ⟨ad, af, h1, h2, h3⟩ := im
  have loop : ∀ d i t sum (u9 u10 : Value), i + d = sv_n S → jx_T 85 52 [.ref a, .int gap, .int lv, .int fl, .long t, .retAddr 0, .long sum, .retAddr 0, .int (nI i), u9, u10] [] (hc W g nx s) (some (.long (sv_ha S lv.toInt64 d i t sum))) (hc W g nx s) := by
    intro d
    induction d with
    | zero =>
      intro i t sum u9 u10 hi
      refine jx_T.step (pc' := 54) (st' := [_]) rfl rfl ?_
      refine jx_T.step (pc' := 55) (st' := [_, _]) rfl rfl ?_
      refine cl.geti (h1).1 (h1).2 rfl rfl ?_
      refine cl.aleni (h2).1 (h2).2 rfl (Or.inl (by decide)) ?_
      rw [show i = sv_n S by omega]
      refine cl.bc rfl (jx_br_ge _ _) (fun _ => ?_) (fun zq => absurd (Int32.le_refl _) zq)
      refine jx_T.step (pc' := 119) (st' := [_]) rfl rfl ?_
      exact jx_T.ret rfl rfl
    | succ d ih =>
      intro i t sum u9 u10 hi
      unfold sv_ha
      refine jx_T.step (pc' := 54) (st' := [_]) rfl rfl ?_
      refine jx_T.step (pc' := 55) (st' := [_, _]) rfl rfl ?_
      refine cl.geti (h1).1 (h1).2 rfl rfl ?_
      refine cl.aleni (h2).1 (h2).2 rfl (Or.inl (by decide)) ?_
      refine cl.bc rfl (jx_br_ge _ _) (fun zq => absurd zq (nI_ge (by omega) (by omega))) (fun _ => ?_)
      refine jx_T.step (pc' := 64) (st' := [_]) rfl rfl ?_
      refine jx_T.step (pc' := 65) (st' := [_, _]) rfl rfl ?_
      refine jx_T.step (pc' := 66) (st' := [_, _]) rfl rfl ?_
      refine jx_T.step (pc' := 67) (st' := [_]) rfl rfl ?_
      by_cases z : lv.toInt64 < t
      · rw [if_pos z]
        refine cl.br rfl (jx_br_le _ _) (fun zq => absurd zq (Int32.not_le.mpr ((lg_cmp_gt0 _ _).mpr z))) (fun _ => ?_)
        refine jx_T.step (pc' := 72) (st' := [_]) rfl rfl ?_
        refine jx_T.step (pc' := 73) (st' := [_, _]) rfl rfl ?_
        refine cl.geti (h1).1 (h1).2 rfl rfl ?_
        refine jx_T.step (pc' := 78) (st' := [_, _, _]) rfl rfl ?_
        refine cl.ialdi (h2).1 (h2).2 rfl (rf_ix (by omega) (by omega)) ?_
        rw [nI_clamp (by omega)]
        refine jx_T.step (pc' := 80) (st' := [_, _]) rfl rfl ?_
        refine jx_T.step (pc' := 81) (st' := [_]) rfl rfl ?_
        refine jx_T.step (pc' := 83) (ls' := [_, _, _, _, _, _, _, _, _, _, _]) (st' := []) rfl rfl ?_
        refine jx_T.step (pc' := 85) (st' := [_]) rfl rfl ?_
        refine jx_T.step (pc' := 86) (st' := [_, _]) rfl rfl ?_
        refine cl.geti (h1).1 (h1).2 rfl rfl ?_
        refine jx_T.step (pc' := 91) (st' := [_, _, _]) rfl rfl ?_
        refine cl.ialdi (h3).1 (h3).2 rfl (rf_ix (by omega) (by omega)) ?_
        rw [nI_clamp (by omega)]
        refine jx_T.step (pc' := 93) (st' := [_, _]) rfl rfl ?_
        refine jx_T.step (pc' := 95) (st' := [_, _, _]) rfl rfl ?_
        refine jx_T.step (pc' := 97) (st' := [_, _, _, _]) rfl rfl ?_
        refine jx_T.step (pc' := 98) (st' := [_, _, _, _, _]) rfl rfl ?_
        refine jx_T.step (pc' := 99) (st' := [_, _, _, _, _]) rfl rfl ?_
        refine cl.s2I rfl (by decide) rfl (Nat.le_of_ble_eq_true rfl) (Nat.le_of_ble_eq_true rfl) (kc_maxL _ _ _) ?_
        refine jx_T.step (pc' := 103) (st' := [_, _, _]) rfl rfl ?_
        refine jx_T.step (pc' := 104) (st' := [_, _]) rfl rfl ?_
        refine jx_T.step (pc' := 105) (st' := [_]) rfl rfl ?_
        refine jx_T.step (pc' := 107) (ls' := [_, _, _, _, _, _, _, _, _, _, _]) (st' := []) rfl rfl ?_
        refine jx_T.step (pc' := 109) (st' := [_]) rfl rfl ?_
        refine jx_T.step (pc' := 111) (ls' := [_, _, _, _, _, _, _, _, _, _, _]) (st' := []) rfl rfl ?_
        refine jx_T.step (pc' := 114) (ls' := [_, _, _, _, _, _, _, _, _, _, _]) (st' := []) rfl rfl ?_
        refine jx_T.step (pc' := 52) (st' := []) rfl rfl ?_
        rw [nI_1]
        exact ih (i + 1) _ _ _ _ (by omega)
      · rw [if_neg z]
        refine cl.br rfl (jx_br_le _ _) (fun _ => ?_) (fun zq => absurd (Int32.not_lt.mp (fun q => z ((lg_cmp_gt0 _ _).mp q))) zq)
        refine jx_T.step (pc' := 119) (st' := [_]) rfl rfl ?_
        exact jx_T.ret rfl rfl
  show jx_T 85 0 [.ref a, .int gap, .int lv, .int fl, .retAddr 0, .retAddr 0, .retAddr 0, .retAddr 0, .retAddr 0, .retAddr 0, .retAddr 0] [] _ _ _
  unfold sv_hb
  refine jx_T.step (pc' := 1) (st' := [_]) rfl rfl ?_
  refine jx_T.step (pc' := 2) (st' := [_, _]) rfl rfl ?_
  refine cl.v1I (hc_imm (h1).1 (h1).2) rfl (by decide) rfl ⟨Nat.le_of_ble_eq_true rfl, rfl⟩ (Nat.le_of_ble_eq_true rfl) (ct) ?_
  refine jx_T.step (pc' := 6) (st' := [_]) rfl rfl ?_
  refine jx_T.step (pc' := 8) (ls' := [_, _, _, _, _, _, _, _, _, _, _]) (st' := []) rfl rfl ?_
  refine jx_T.step (pc' := 9) (st' := [_]) rfl rfl ?_
  refine cl.geti (h1).1 (h1).2 rfl rfl ?_
  refine cl.aleni (h2).1 (h2).2 rfl (Or.inl (by decide)) ?_
  by_cases z : sv_n S = 0
  · rw [if_pos z]
    refine cl.brn rfl (fun zq => absurd ((nI_z (by omega)).mpr z) zq) (fun _ => ?_)
    refine jx_T.step (pc' := 18) (st' := [_]) rfl rfl ?_
    refine jx_T.step (pc' := 19) (st' := [_, _]) rfl rfl ?_
    refine jx_T.step (pc' := 20) (st' := [_, _]) rfl rfl ?_
    refine jx_T.step (pc' := 21) (st' := [_]) rfl rfl ?_
    by_cases y : lv.toInt64 < (sv_top S gap).toInt64
    · rw [if_pos (Or.inl y)]
      refine cl.br rfl (jx_br_gt _ _) (fun _ => ?_) (fun zq => absurd ((lg_cmp_gt0 _ _).mpr y) zq)
      refine jx_T.step (pc' := 37) (st' := [_]) rfl rfl ?_
      refine cl.geti (h1).1 (h1).2 rfl rfl ?_
      refine jx_T.step (pc' := 41) (st' := [_]) rfl rfl ?_
      refine jx_T.step (pc' := 45) (st' := [_]) rfl rfl ?_
      exact jx_T.ret rfl rfl
    · refine cl.br rfl (jx_br_gt _ _) (fun zq => absurd zq (fun q => y ((lg_cmp_gt0 _ _).mp q))) (fun _ => ?_)
      refine jx_T.step (pc' := 25) (st' := [_]) rfl rfl ?_
      by_cases x : fl = 0
      · rw [if_neg (fun q => q.elim y (fun q => q.1 x))]
        refine cl.br rfl (jx_br_eq _ _) (fun _ => ?_) (fun zq => absurd (x) zq)
        refine jx_T.step (pc' := 45) (st' := [_]) rfl rfl ?_
        exact jx_T.ret rfl rfl
      · refine cl.br rfl (jx_br_eq _ _) (fun zq => absurd zq (x)) (fun _ => ?_)
        refine jx_T.step (pc' := 30) (st' := [_]) rfl rfl ?_
        refine jx_T.step (pc' := 31) (st' := [_, _]) rfl rfl ?_
        refine jx_T.step (pc' := 32) (st' := [_, _]) rfl rfl ?_
        refine jx_T.step (pc' := 33) (st' := [_]) rfl rfl ?_
        by_cases w : (sv_top S gap).toInt64 = lv.toInt64
        · rw [if_pos (Or.inr ⟨x, w⟩)]
          refine cl.brn rfl (fun zq => absurd ((lg_cmp_eq0 _ _).mpr w) zq) (fun _ => ?_)
          refine jx_T.step (pc' := 37) (st' := [_]) rfl rfl ?_
          refine cl.geti (h1).1 (h1).2 rfl rfl ?_
          refine jx_T.step (pc' := 41) (st' := [_]) rfl rfl ?_
          refine jx_T.step (pc' := 45) (st' := [_]) rfl rfl ?_
          exact jx_T.ret rfl rfl
        · rw [if_neg (fun q => q.elim y (fun q => w q.2))]
          refine cl.brn rfl (fun _ => ?_) (fun zq => absurd zq (fun q => w ((lg_cmp_eq0 _ _).mp q)))
          refine jx_T.step (pc' := 45) (st' := [_]) rfl rfl ?_
          exact jx_T.ret rfl rfl
  · rw [if_neg z]
    refine cl.brn rfl (fun _ => ?_) (fun zq => absurd zq (fun q => z ((nI_z (by omega)).mp q)))
    refine jx_T.step (pc' := 47) (st' := [_]) rfl rfl ?_
    refine jx_T.step (pc' := 49) (ls' := [_, _, _, _, _, _, _, _, _, _, _]) (st' := []) rfl rfl ?_
    refine jx_T.step (pc' := 50) (st' := [_]) rfl rfl ?_
    refine jx_T.step (pc' := 52) (ls' := [_, _, _, _, _, _, _, _, _, _, _]) (st' := []) rfl rfl ?_
    exact loop (sv_n S) 0 _ 0 _ _ (by omega)
end
