/-! acts of the reference: plain, bought, forbid -/
theorem rc_plain_1 (r : Nat) (R : rf_R) (w a b q : Int32) (hw : ¬ (0 ≤ w.toInt ∧ w.toInt ≤ 2)) : rf_C 144 r [.ref r, .int w, .int a, .int b, .int q] R (some (.int 1)) R := by
  intro h H
  show rf_G r 144 0 [.ref r, .int w, .int a, .int b, .int q, .retAddr 0] [] h _ _
  refine rf_G.step (pc' := 1) (st' := [_]) rfl rfl ?_
  refine rf_G.step (pc' := 2) (st' := [_]) rfl rfl ?_
  refine rf_G.step (pc' := 3) (st' := [_, _]) rfl rfl ?_
  refine rf_G.step (pc' := 6) (st' := [_, _, _]) rfl rfl ?_
  refine rf_G.s3 rfl (by decide) rfl (Nat.le_of_ble_eq_true rfl) (Nat.le_of_ble_eq_true rfl) (fun h => rc_inI _ _ _ h) ?_
  rw [rf_w]
  refine rf_G.brn rfl (fun z => absurd ((rf_o_0 _).mpr hw) z) (fun _ => ?_)
  refine rf_G.step (pc' := 13) (st' := [_]) rfl rfl ?_
  exact rf_G.ret H rfl rfl
theorem rc_plain_2 (r : Nat) (R : rf_R) (w a b q : Int32) (hw : 0 ≤ w.toInt ∧ w.toInt ≤ 2) (eM : R.1 0 0 = nI 12) : rf_C 144 r [.ref r, .int w, .int a, .int b, .int q] R (some (.int 2)) R := by
  intro h H
  show rf_G r 144 0 [.ref r, .int w, .int a, .int b, .int q, .retAddr 0] [] h _ _
  refine rf_G.step (pc' := 1) (st' := [_]) rfl rfl ?_
  refine rf_G.step (pc' := 2) (st' := [_]) rfl rfl ?_
  refine rf_G.step (pc' := 3) (st' := [_, _]) rfl rfl ?_
  refine rf_G.step (pc' := 6) (st' := [_, _, _]) rfl rfl ?_
  refine rf_G.s3 rfl (by decide) rfl (Nat.le_of_ble_eq_true rfl) (Nat.le_of_ble_eq_true rfl) (fun h => rc_inI _ _ _ h) ?_
  rw [rf_w]
  refine rf_G.brn rfl (fun _ => ?_) (fun z => absurd hw ((rf_o_0 _).mp z))
  refine rf_G.step (pc' := 15) (st' := [_]) rfl rfl ?_
  refine rf_G.get H rfl rfl ?_
  refine rf_G.step (pc' := 19) (st' := [_, _]) rfl rfl ?_
  refine rf_G.iald H 0 1 822 (by decide) rfl (rf_ix (n := 0) (by decide) (by decide)) ?_
  refine rf_G.step (pc' := 22) (st' := [_, _]) rfl rfl ?_
  rw [show R.1 0 (Int32.toNatClampNeg 0) = nI 12 from eM]
  refine rf_G.bcn rfl (fun z => absurd rfl z) (fun _ => ?_)
  refine rf_G.step (pc' := 26) (st' := [_]) rfl rfl ?_
  exact rf_G.ret H rfl rfl
theorem rc_plain_3 (r : Nat) (R : rf_R) (w a b q : Int32) (M : Nat) (hM : M < 12) (eM : R.1 0 0 = nI M) (hw : 0 ≤ w.toInt ∧ w.toInt ≤ 2) (hb : ¬ ((0 ≤ a.toInt ∧ a.toInt ≤ 2000) ∧ (0 ≤ b.toInt ∧ b.toInt ≤ 2000) ∧ ¬ a = b ∧ (1 ≤ q.toInt ∧ q.toInt ≤ 1000))) : rf_C 144 r [.ref r, .int w, .int a, .int b, .int q] R (some (.int 3)) R := by
  intro h H
  show rf_G r 144 0 [.ref r, .int w, .int a, .int b, .int q, .retAddr 0] [] h _ _
  refine rf_G.step (pc' := 1) (st' := [_]) rfl rfl ?_
  refine rf_G.step (pc' := 2) (st' := [_]) rfl rfl ?_
  refine rf_G.step (pc' := 3) (st' := [_, _]) rfl rfl ?_
  refine rf_G.step (pc' := 6) (st' := [_, _, _]) rfl rfl ?_
  refine rf_G.s3 rfl (by decide) rfl (Nat.le_of_ble_eq_true rfl) (Nat.le_of_ble_eq_true rfl) (fun h => rc_inI _ _ _ h) ?_
  rw [rf_w]
  refine rf_G.brn rfl (fun _ => ?_) (fun z => absurd hw ((rf_o_0 _).mp z))
  refine rf_G.step (pc' := 15) (st' := [_]) rfl rfl ?_
  refine rf_G.get H rfl rfl ?_
  refine rf_G.step (pc' := 19) (st' := [_, _]) rfl rfl ?_
  refine rf_G.iald H 0 1 822 (by decide) rfl (rf_ix (n := 0) (by decide) (by decide)) ?_
  refine rf_G.step (pc' := 22) (st' := [_, _]) rfl rfl ?_
  rw [show R.1 0 (Int32.toNatClampNeg 0) = nI M from eM]
  refine rf_G.bcn rfl (fun _ => ?_) (fun z => absurd z (rf_n12 hM))
  refine rf_G.step (pc' := 28) (st' := [_]) rfl rfl ?_
  refine rf_G.step (pc' := 29) (st' := [_]) rfl rfl ?_
  refine rf_G.step (pc' := 30) (st' := [_, _]) rfl rfl ?_
  refine rf_G.step (pc' := 33) (st' := [_, _, _]) rfl rfl ?_
  refine rf_G.s3 rfl (by decide) rfl (Nat.le_of_ble_eq_true rfl) (Nat.le_of_ble_eq_true rfl) (fun h => rc_inI _ _ _ h) ?_
  rw [rf_w]
  refine rf_G.br rfl (jx_br_eq _ _) (fun _ => ?_) (fun z => ?_)
  · refine rf_G.step (pc' := 70) (st' := [_]) rfl rfl ?_
    exact rf_G.ret H rfl rfl
  · have z1 := Decidable.not_not.mp (fun y => z ((rf_o_0 _).mpr y))
    refine rf_G.step (pc' := 40) (st' := [_]) rfl rfl ?_
    refine rf_G.step (pc' := 41) (st' := [_]) rfl rfl ?_
    refine rf_G.step (pc' := 42) (st' := [_, _]) rfl rfl ?_
    refine rf_G.step (pc' := 45) (st' := [_, _, _]) rfl rfl ?_
    refine rf_G.s3 rfl (by decide) rfl (Nat.le_of_ble_eq_true rfl) (Nat.le_of_ble_eq_true rfl) (fun h => rc_inI _ _ _ h) ?_
    rw [rf_w]
    refine rf_G.br rfl (jx_br_eq _ _) (fun _ => ?_) (fun y => ?_)
    · refine rf_G.step (pc' := 70) (st' := [_]) rfl rfl ?_
      exact rf_G.ret H rfl rfl
    · have y1 := Decidable.not_not.mp (fun u => y ((rf_o_0 _).mpr u))
      refine rf_G.step (pc' := 52) (st' := [_]) rfl rfl ?_
      refine rf_G.step (pc' := 53) (st' := [_, _]) rfl rfl ?_
      refine rf_G.bc rfl (jx_br_eq _ _) (fun _ => ?_) (fun u => ?_)
      · refine rf_G.step (pc' := 70) (st' := [_]) rfl rfl ?_
        exact rf_G.ret H rfl rfl
      · refine rf_G.step (pc' := 58) (st' := [_]) rfl rfl ?_
        refine rf_G.step (pc' := 59) (st' := [_]) rfl rfl ?_
        refine rf_G.step (pc' := 60) (st' := [_, _]) rfl rfl ?_
        refine rf_G.step (pc' := 63) (st' := [_, _, _]) rfl rfl ?_
        refine rf_G.s3 rfl (by decide) rfl (Nat.le_of_ble_eq_true rfl) (Nat.le_of_ble_eq_true rfl) (fun h => rc_inI _ _ _ h) ?_
        rw [rf_w]
        refine rf_G.brn rfl (fun t => absurd ((rf_o_0 _).mpr (fun s => hb ⟨z1, y1, u, s⟩)) t) (fun _ => ?_)
        refine rf_G.step (pc' := 70) (st' := [_]) rfl rfl ?_
        exact rf_G.ret H rfl rfl
def rf_plN (N : Nat → Int32) (M : Nat) (w a b q : Int32) : Nat → Int32 := upd (upd (upd (upd (rf_bg N M 0 (rf_o (b < a)) w a) (2 + 24 * M + 4) 1) (2 + 24 * M + 6) (if b < a then a - b else b - a)) (2 + 24 * M + 7) q) 0 (nI (M + 1))
theorem rc_plain (r : Nat) (R : rf_R) (B D : Nat) (hB : B < 201) (hD : D ≤ 200) (e2 : R.2.2.1 2 = nI B) (e3 : R.2.2.1 3 = nI D) (w a b q : Int32) (M : Nat) (hM : M < 12) (eM : R.1 0 0 = nI M) (hw : 0 ≤ w.toInt ∧ w.toInt ≤ 2) (ha : 0 ≤ a.toInt ∧ a.toInt ≤ 2000) (hb : 0 ≤ b.toInt ∧ b.toInt ≤ 2000) (hab : ¬ a = b) (hq : 1 ≤ q.toInt ∧ q.toInt ≤ 1000) : rf_C 144 r [.ref r, .int w, .int a, .int b, .int q] R (some (.int 0)) (rf_acts (rf_sA R 0 (rf_plN (R.1 0) M w a b q)) B D) := by
  have tail2 : ∀ h, rf_At r (rf_sA R 0 (upd (upd (rf_bg (R.1 0) M 0 (rf_o (b < a)) w a) (2 + 24 * M + 4) 1) (2 + 24 * M + 6) (if b < a then a - b else b - a))) h → rf_G r 144 124 [.ref r, .int w, .int a, .int b, .int q, .int (nI (2 + 24 * M))] [] h (some (.int 0)) (rf_acts (rf_sA R 0 (rf_plN (R.1 0) M w a b q)) B D) := by
    intro h H
    refine rf_G.step (pc' := 125) (st' := [_]) rfl rfl ?_
    refine rf_G.get H rfl rfl ?_
    refine rf_G.step (pc' := 130) (st' := [_, _]) rfl rfl ?_
    refine rf_G.step (pc' := 132) (st' := [_, _, _]) rfl rfl ?_
    refine rf_G.step (pc' := 133) (st' := [_, _]) rfl rfl ?_
    rw [show nI (2 + 24 * M) + 7 = nI (2 + 24 * M + 7) by rw [rf_lit 7, nI_add]]
    refine rf_G.step (pc' := 135) (st' := [_, _, _]) rfl rfl ?_
    refine rf_G.iast H 0 1 822 (by decide) rfl (rf_ix (by omega) (by decide)) (fun h H => ?_)
    rw [nI_clamp (by omega), rf_sA_sA, rf_sA_at] at H
    have e0 : (rf_sA R 0 (upd (upd (upd (rf_bg (R.1 0) M 0 (rf_o (b < a)) w a) (2 + 24 * M + 4) 1) (2 + 24 * M + 6) (if b < a then a - b else b - a)) (2 + 24 * M + 7) q)).1 0 0 = nI M := by
      rw [rf_sA_at, rf_up_ne (by omega), rf_up_ne (by omega), rf_up_ne (by omega), rf_bg_0]
      exact eM
    have key := rc_comes r (rf_sA R 0 _) B D M hB hD e2 e3 e0
    rw [rf_sA_sA, rf_sA_at] at key
    refine rf_G.step (pc' := 137) (st' := [_]) rfl rfl ?_
    refine rf_G.v0I H rfl (by decide) rfl ⟨Nat.le_of_ble_eq_true rfl, rfl⟩ (Nat.le_of_ble_eq_true rfl) (key) (fun h H => ?_)
    exact rf_G.ret H rfl rfl
  have tail1 : ∀ h, rf_At r R h → rf_G r 144 83 [.ref r, .int w, .int a, .int b, .int q, .retAddr 0] [.int (rf_o (b < a)), .int 0, .ref r] h (some (.int 0)) (rf_acts (rf_sA R 0 (rf_plN (R.1 0) M w a b q)) B D) := by
    intro h H
    refine rf_G.step (pc' := 84) (st' := [_, _, _, _]) rfl rfl ?_
    refine rf_G.step (pc' := 85) (st' := [_, _, _, _, _]) rfl rfl ?_
    refine rf_G.v4I H rfl (by decide) rfl ⟨Nat.le_of_ble_eq_true rfl, rfl⟩ (Nat.le_of_ble_eq_true rfl) (rc_begins r R M hM eM 0 (rf_o (b < a)) w a) (fun h H => ?_)
    refine rf_G.step (pc' := 90) (ls' := [_, _, _, _, _, _]) (st' := []) rfl rfl ?_
    refine rf_G.step (pc' := 91) (st' := [_]) rfl rfl ?_
    refine rf_G.get H rfl rfl ?_
    refine rf_G.step (pc' := 96) (st' := [_, _]) rfl rfl ?_
    refine rf_G.step (pc' := 97) (st' := [_, _, _]) rfl rfl ?_
    refine rf_G.step (pc' := 98) (st' := [_, _]) rfl rfl ?_
    rw [show nI (2 + 24 * M) + 4 = nI (2 + 24 * M + 4) by rw [rf_lit 4, nI_add]]
    refine rf_G.step (pc' := 99) (st' := [_, _, _]) rfl rfl ?_
    refine rf_G.iast H 0 1 822 (by decide) rfl (rf_ix (by omega) (by decide)) (fun h H => ?_)
    rw [nI_clamp (by omega), rf_sA_sA, rf_sA_at] at H
    refine rf_G.step (pc' := 101) (st' := [_]) rfl rfl ?_
    refine rf_G.get H rfl rfl ?_
    refine rf_G.step (pc' := 106) (st' := [_, _]) rfl rfl ?_
    refine rf_G.step (pc' := 108) (st' := [_, _, _]) rfl rfl ?_
    refine rf_G.step (pc' := 109) (st' := [_, _]) rfl rfl ?_
    rw [show nI (2 + 24 * M) + 6 = nI (2 + 24 * M + 6) by rw [rf_lit 6, nI_add]]
    refine rf_G.step (pc' := 110) (st' := [_, _, _]) rfl rfl ?_
    refine rf_G.step (pc' := 111) (st' := [_, _, _, _]) rfl rfl ?_
    refine rf_G.bc rfl (jx_br_le _ _) (fun z => ?_) (fun z => ?_)
    · have z1 : ¬ b < a := Int32.not_lt.mpr z
      refine rf_G.step (pc' := 121) (st' := [_, _, _]) rfl rfl ?_
      refine rf_G.step (pc' := 122) (st' := [_, _, _, _]) rfl rfl ?_
      refine rf_G.step (pc' := 123) (st' := [_, _, _]) rfl rfl ?_
      refine rf_G.iast H 0 1 822 (by decide) rfl (rf_ix (by omega) (by decide)) (fun h H => ?_)
      rw [nI_clamp (by omega), rf_sA_sA, rf_sA_at] at H
      exact tail2 h (by rw [if_neg z1]; exact H)
    · have z1 : b < a := Int32.not_le.mp z
      refine rf_G.step (pc' := 115) (st' := [_, _, _]) rfl rfl ?_
      refine rf_G.step (pc' := 116) (st' := [_, _, _, _]) rfl rfl ?_
      refine rf_G.step (pc' := 117) (st' := [_, _, _]) rfl rfl ?_
      refine rf_G.step (pc' := 123) (st' := [_, _, _]) rfl rfl ?_
      refine rf_G.iast H 0 1 822 (by decide) rfl (rf_ix (by omega) (by decide)) (fun h H => ?_)
      rw [nI_clamp (by omega), rf_sA_sA, rf_sA_at] at H
      exact tail2 h (by rw [if_pos z1]; exact H)
  intro h H
  show rf_G r 144 0 [.ref r, .int w, .int a, .int b, .int q, .retAddr 0] [] h _ _
  refine rf_G.step (pc' := 1) (st' := [_]) rfl rfl ?_
  refine rf_G.step (pc' := 2) (st' := [_]) rfl rfl ?_
  refine rf_G.step (pc' := 3) (st' := [_, _]) rfl rfl ?_
  refine rf_G.step (pc' := 6) (st' := [_, _, _]) rfl rfl ?_
  refine rf_G.s3 rfl (by decide) rfl (Nat.le_of_ble_eq_true rfl) (Nat.le_of_ble_eq_true rfl) (fun h => rc_inI _ _ _ h) ?_
  rw [rf_w]
  refine rf_G.brn rfl (fun _ => ?_) (fun z => absurd hw ((rf_o_0 _).mp z))
  refine rf_G.step (pc' := 15) (st' := [_]) rfl rfl ?_
  refine rf_G.get H rfl rfl ?_
  refine rf_G.step (pc' := 19) (st' := [_, _]) rfl rfl ?_
  refine rf_G.iald H 0 1 822 (by decide) rfl (rf_ix (n := 0) (by decide) (by decide)) ?_
  refine rf_G.step (pc' := 22) (st' := [_, _]) rfl rfl ?_
  rw [show R.1 0 (Int32.toNatClampNeg 0) = nI M from eM]
  refine rf_G.bcn rfl (fun _ => ?_) (fun z => absurd z (rf_n12 hM))
  refine rf_G.step (pc' := 28) (st' := [_]) rfl rfl ?_
  refine rf_G.step (pc' := 29) (st' := [_]) rfl rfl ?_
  refine rf_G.step (pc' := 30) (st' := [_, _]) rfl rfl ?_
  refine rf_G.step (pc' := 33) (st' := [_, _, _]) rfl rfl ?_
  refine rf_G.s3 rfl (by decide) rfl (Nat.le_of_ble_eq_true rfl) (Nat.le_of_ble_eq_true rfl) (fun h => rc_inI _ _ _ h) ?_
  rw [rf_w]
  refine rf_G.br rfl (jx_br_eq _ _) (fun z => absurd ha ((rf_o_0 _).mp z)) (fun _ => ?_)
  refine rf_G.step (pc' := 40) (st' := [_]) rfl rfl ?_
  refine rf_G.step (pc' := 41) (st' := [_]) rfl rfl ?_
  refine rf_G.step (pc' := 42) (st' := [_, _]) rfl rfl ?_
  refine rf_G.step (pc' := 45) (st' := [_, _, _]) rfl rfl ?_
  refine rf_G.s3 rfl (by decide) rfl (Nat.le_of_ble_eq_true rfl) (Nat.le_of_ble_eq_true rfl) (fun h => rc_inI _ _ _ h) ?_
  rw [rf_w]
  refine rf_G.br rfl (jx_br_eq _ _) (fun z => absurd hb ((rf_o_0 _).mp z)) (fun _ => ?_)
  refine rf_G.step (pc' := 52) (st' := [_]) rfl rfl ?_
  refine rf_G.step (pc' := 53) (st' := [_, _]) rfl rfl ?_
  refine rf_G.bc rfl (jx_br_eq _ _) (fun z => absurd z hab) (fun _ => ?_)
  refine rf_G.step (pc' := 58) (st' := [_]) rfl rfl ?_
  refine rf_G.step (pc' := 59) (st' := [_]) rfl rfl ?_
  refine rf_G.step (pc' := 60) (st' := [_, _]) rfl rfl ?_
  refine rf_G.step (pc' := 63) (st' := [_, _, _]) rfl rfl ?_
  refine rf_G.s3 rfl (by decide) rfl (Nat.le_of_ble_eq_true rfl) (Nat.le_of_ble_eq_true rfl) (fun h => rc_inI _ _ _ h) ?_
  rw [rf_w]
  refine rf_G.brn rfl (fun _ => ?_) (fun z => absurd hq ((rf_o_0 _).mp z))
  refine rf_G.step (pc' := 72) (st' := [_]) rfl rfl ?_
  refine rf_G.step (pc' := 73) (st' := [_, _]) rfl rfl ?_
  refine rf_G.step (pc' := 74) (st' := [_, _, _]) rfl rfl ?_
  refine rf_G.step (pc' := 75) (st' := [_, _, _, _]) rfl rfl ?_
  refine rf_G.bc rfl (jx_br_le _ _) (fun z => ?_) (fun z => ?_)
  · refine rf_G.step (pc' := 83) (st' := [_, _, _]) rfl rfl ?_
    have t := tail1 h H
    rw [rf_of (show ¬ b < a from Int32.not_lt.mpr z)] at t
    exact t
  · refine rf_G.step (pc' := 79) (st' := [_, _, _]) rfl rfl ?_
    refine rf_G.step (pc' := 83) (st' := [_, _, _]) rfl rfl ?_
    have t := tail1 h H
    rw [rf_ot (show b < a from Int32.not_le.mp z)] at t
    exact t
theorem rc_bought_2 (r : Nat) (R : rf_R) (g t q : Int32) (eM : R.1 0 0 = nI 12) : rf_C 149 r [.ref r, .int g, .int t, .int q] R (some (.int 2)) R := by
  intro h H
  show rf_G r 149 0 [.ref r, .int g, .int t, .int q, .retAddr 0] [] h _ _
  refine rf_G.step (pc' := 1) (st' := [_]) rfl rfl ?_
  refine rf_G.get H rfl rfl ?_
  refine rf_G.step (pc' := 5) (st' := [_, _]) rfl rfl ?_
  refine rf_G.iald H 0 1 822 (by decide) rfl (rf_ix (n := 0) (by decide) (by decide)) ?_
  refine rf_G.step (pc' := 8) (st' := [_, _]) rfl rfl ?_
  rw [show R.1 0 (Int32.toNatClampNeg 0) = nI 12 from eM]
  refine rf_G.bcn rfl (fun z => absurd rfl z) (fun _ => ?_)
  refine rf_G.step (pc' := 12) (st' := [_]) rfl rfl ?_
  exact rf_G.ret H rfl rfl
theorem rc_bought_3 (r : Nat) (R : rf_R) (g t q : Int32) (M : Nat) (hM : M < 12) (eM : R.1 0 0 = nI M) (hb : ¬ ((0 ≤ t.toInt ∧ t.toInt ≤ 2000) ∧ (1 ≤ q.toInt ∧ q.toInt ≤ 1000))) : rf_C 149 r [.ref r, .int g, .int t, .int q] R (some (.int 3)) R := by
  intro h H
  show rf_G r 149 0 [.ref r, .int g, .int t, .int q, .retAddr 0] [] h _ _
  refine rf_G.step (pc' := 1) (st' := [_]) rfl rfl ?_
  refine rf_G.get H rfl rfl ?_
  refine rf_G.step (pc' := 5) (st' := [_, _]) rfl rfl ?_
  refine rf_G.iald H 0 1 822 (by decide) rfl (rf_ix (n := 0) (by decide) (by decide)) ?_
  refine rf_G.step (pc' := 8) (st' := [_, _]) rfl rfl ?_
  rw [show R.1 0 (Int32.toNatClampNeg 0) = nI M from eM]
  refine rf_G.bcn rfl (fun _ => ?_) (fun z => absurd z (rf_n12 hM))
  refine rf_G.step (pc' := 14) (st' := [_]) rfl rfl ?_
  refine rf_G.step (pc' := 15) (st' := [_]) rfl rfl ?_
  refine rf_G.step (pc' := 16) (st' := [_, _]) rfl rfl ?_
  refine rf_G.step (pc' := 19) (st' := [_, _, _]) rfl rfl ?_
  refine rf_G.s3 rfl (by decide) rfl (Nat.le_of_ble_eq_true rfl) (Nat.le_of_ble_eq_true rfl) (fun h => rc_inI _ _ _ h) ?_
  rw [rf_w]
  refine rf_G.br rfl (jx_br_eq _ _) (fun _ => ?_) (fun z => ?_)
  · refine rf_G.step (pc' := 38) (st' := [_]) rfl rfl ?_
    exact rf_G.ret H rfl rfl
  · have z1 := Decidable.not_not.mp (fun y => z ((rf_o_0 _).mpr y))
    refine rf_G.step (pc' := 26) (st' := [_]) rfl rfl ?_
    refine rf_G.step (pc' := 27) (st' := [_]) rfl rfl ?_
    refine rf_G.step (pc' := 28) (st' := [_, _]) rfl rfl ?_
    refine rf_G.step (pc' := 31) (st' := [_, _, _]) rfl rfl ?_
    refine rf_G.s3 rfl (by decide) rfl (Nat.le_of_ble_eq_true rfl) (Nat.le_of_ble_eq_true rfl) (fun h => rc_inI _ _ _ h) ?_
    rw [rf_w]
    refine rf_G.brn rfl (fun y => absurd ((rf_o_0 _).mpr (fun u => hb ⟨z1, u⟩)) y) (fun _ => ?_)
    refine rf_G.step (pc' := 38) (st' := [_]) rfl rfl ?_
    exact rf_G.ret H rfl rfl
def rf_boN (N : Nat → Int32) (M : Nat) (g t q : Int32) : Nat → Int32 := upd (upd (rf_bg N M (if g = 0 then 4 else 3) g (-1) t) (2 + 24 * M + 5) q) 0 (nI (M + 1))
theorem rc_bought (r : Nat) (R : rf_R) (B D : Nat) (hB : B < 201) (hD : D ≤ 200) (e2 : R.2.2.1 2 = nI B) (e3 : R.2.2.1 3 = nI D) (g t q : Int32) (M : Nat) (hM : M < 12) (eM : R.1 0 0 = nI M) (ht : 0 ≤ t.toInt ∧ t.toInt ≤ 2000) (hq : 1 ≤ q.toInt ∧ q.toInt ≤ 1000) : rf_C 149 r [.ref r, .int g, .int t, .int q] R (some (.int 0)) (rf_acts (rf_sA R 0 (rf_boN (R.1 0) M g t q)) B D) := by
  have tail : ∀ h, rf_At r R h → rf_G r 149 49 [.ref r, .int g, .int t, .int q, .retAddr 0] [.int (if g = 0 then 4 else 3), .ref r] h (some (.int 0)) (rf_acts (rf_sA R 0 (rf_boN (R.1 0) M g t q)) B D) := by
    intro h H
    refine rf_G.step (pc' := 50) (st' := [_, _, _]) rfl rfl ?_
    refine rf_G.step (pc' := 51) (st' := [_, _, _, _]) rfl rfl ?_
    refine rf_G.step (pc' := 52) (st' := [_, _, _, _, _]) rfl rfl ?_
    refine rf_G.v4I H rfl (by decide) rfl ⟨Nat.le_of_ble_eq_true rfl, rfl⟩ (Nat.le_of_ble_eq_true rfl) (rc_begins r R M hM eM (if g = 0 then 4 else 3) g (-1) t) (fun h H => ?_)
    refine rf_G.step (pc' := 57) (ls' := [_, _, _, _, _]) (st' := []) rfl rfl ?_
    refine rf_G.step (pc' := 58) (st' := [_]) rfl rfl ?_
    refine rf_G.get H rfl rfl ?_
    refine rf_G.step (pc' := 63) (st' := [_, _]) rfl rfl ?_
    refine rf_G.step (pc' := 64) (st' := [_, _, _]) rfl rfl ?_
    refine rf_G.step (pc' := 65) (st' := [_, _]) rfl rfl ?_
    rw [show nI (2 + 24 * M) + 5 = nI (2 + 24 * M + 5) by rw [rf_lit 5, nI_add]]
    refine rf_G.step (pc' := 66) (st' := [_, _, _]) rfl rfl ?_
    refine rf_G.iast H 0 1 822 (by decide) rfl (rf_ix (by omega) (by decide)) (fun h H => ?_)
    rw [nI_clamp (by omega), rf_sA_sA, rf_sA_at] at H
    have e0 : (rf_sA R 0 (upd (rf_bg (R.1 0) M (if g = 0 then 4 else 3) g (-1) t) (2 + 24 * M + 5) q)).1 0 0 = nI M := by
      rw [rf_sA_at, rf_up_ne (by omega), rf_bg_0]
      exact eM
    have key := rc_comes r (rf_sA R 0 _) B D M hB hD e2 e3 e0
    rw [rf_sA_sA, rf_sA_at] at key
    refine rf_G.step (pc' := 68) (st' := [_]) rfl rfl ?_
    refine rf_G.v0I H rfl (by decide) rfl ⟨Nat.le_of_ble_eq_true rfl, rfl⟩ (Nat.le_of_ble_eq_true rfl) (key) (fun h H => ?_)
    exact rf_G.ret H rfl rfl
  intro h H
  show rf_G r 149 0 [.ref r, .int g, .int t, .int q, .retAddr 0] [] h _ _
  refine rf_G.step (pc' := 1) (st' := [_]) rfl rfl ?_
  refine rf_G.get H rfl rfl ?_
  refine rf_G.step (pc' := 5) (st' := [_, _]) rfl rfl ?_
  refine rf_G.iald H 0 1 822 (by decide) rfl (rf_ix (n := 0) (by decide) (by decide)) ?_
  refine rf_G.step (pc' := 8) (st' := [_, _]) rfl rfl ?_
  rw [show R.1 0 (Int32.toNatClampNeg 0) = nI M from eM]
  refine rf_G.bcn rfl (fun _ => ?_) (fun z => absurd z (rf_n12 hM))
  refine rf_G.step (pc' := 14) (st' := [_]) rfl rfl ?_
  refine rf_G.step (pc' := 15) (st' := [_]) rfl rfl ?_
  refine rf_G.step (pc' := 16) (st' := [_, _]) rfl rfl ?_
  refine rf_G.step (pc' := 19) (st' := [_, _, _]) rfl rfl ?_
  refine rf_G.s3 rfl (by decide) rfl (Nat.le_of_ble_eq_true rfl) (Nat.le_of_ble_eq_true rfl) (fun h => rc_inI _ _ _ h) ?_
  rw [rf_w]
  refine rf_G.br rfl (jx_br_eq _ _) (fun z => absurd ht ((rf_o_0 _).mp z)) (fun _ => ?_)
  refine rf_G.step (pc' := 26) (st' := [_]) rfl rfl ?_
  refine rf_G.step (pc' := 27) (st' := [_]) rfl rfl ?_
  refine rf_G.step (pc' := 28) (st' := [_, _]) rfl rfl ?_
  refine rf_G.step (pc' := 31) (st' := [_, _, _]) rfl rfl ?_
  refine rf_G.s3 rfl (by decide) rfl (Nat.le_of_ble_eq_true rfl) (Nat.le_of_ble_eq_true rfl) (fun h => rc_inI _ _ _ h) ?_
  rw [rf_w]
  refine rf_G.brn rfl (fun _ => ?_) (fun z => absurd hq ((rf_o_0 _).mp z))
  refine rf_G.step (pc' := 40) (st' := [_]) rfl rfl ?_
  refine rf_G.step (pc' := 41) (st' := [_, _]) rfl rfl ?_
  refine rf_G.br rfl (jx_br_eq _ _) (fun z => ?_) (fun z => ?_)
  · refine rf_G.step (pc' := 49) (st' := [_, _]) rfl rfl ?_
    have t1 := tail h H
    rw [if_pos z] at t1
    exact t1
  · refine rf_G.step (pc' := 45) (st' := [_, _]) rfl rfl ?_
    refine rf_G.step (pc' := 49) (st' := [_, _]) rfl rfl ?_
    have t1 := tail h H
    rw [if_neg z] at t1
    exact t1
