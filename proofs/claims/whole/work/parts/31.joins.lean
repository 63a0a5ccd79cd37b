/-! the reference's levels: joins -/
/-- the first place from k on, d to go, whose level isn't above v -/
def rf_pos (f : Nat → Int32) (v : Int32) : Nat → Nat → Nat
  | 0, k => k
  | d + 1, k => if v < f k then rf_pos f v d (k + 1) else k
theorem rf_pos_le (f : Nat → Int32) (v : Int32) : ∀ (d k : Nat), rf_pos f v d k ≤ k + d
  | 0, k => Nat.le_refl k
  | d + 1, k => by
    unfold rf_pos
    split
    · have := rf_pos_le f v d (k + 1)
      omega
    · omega
/-- those from i on moved by one place -/
def rf_sh (f : Nat → Int32) (n i : Nat) : Nat → Int32 := fun j => if i < j ∧ j ≤ n then f (j - 1) else f j
theorem rf_sh_n (f : Nat → Int32) (n : Nat) : rf_sh f n n = f := by
  funext j
  unfold rf_sh
  rw [if_neg (by omega)]
theorem rf_sh_s (f : Nat → Int32) (n i : Nat) (hi : i + 1 ≤ n) : upd (rf_sh f n (i + 1)) (i + 1) (rf_sh f n (i + 1) i) = rf_sh f n i := by
  funext j
  unfold upd rf_sh
  by_cases h : j = i + 1
  · subst h
    rw [if_pos rfl, if_neg (by omega), if_pos (by omega)]
    rfl
  · rw [if_neg h]
    by_cases h2 : i + 1 < j ∧ j ≤ n
    · rw [if_pos h2, if_pos (by omega)]
    · rw [if_neg h2, if_neg (by omega)]
def rf_jn (R : rf_R) (n : Nat) (v : Int32) : rf_R := if rf_pos (R.1 9) v n 0 < n ∧ R.1 9 (rf_pos (R.1 9) v n 0) = v then R else rf_sI (rf_sA R 9 (upd (rf_sh (R.1 9) n (rf_pos (R.1 9) v n 0)) (rf_pos (R.1 9) v n 0) v)) 10 (nI (n + 1))
theorem rc_joins (r : Nat) (R : rf_R) (n : Nat) (hn : n < 130) (en : R.2.2.1 10 = nI n) (v : Int32) : rf_C 164 r [.ref r, .int v] R none (rf_jn R n v) := by
  have hk := rf_pos_le (R.1 9) v n 0
  rw [Nat.zero_add] at hk
  have ins : ∀ h (x : Value), ¬ (rf_pos (R.1 9) v n 0 < n ∧ R.1 9 (rf_pos (R.1 9) v n 0) = v) → rf_At r R h → rf_G r 164 45 [.ref r, .int v, .int (nI (rf_pos (R.1 9) v n 0)), x] [] h none (rf_jn R n v) := by
    intro h x hno H
    unfold rf_jn
    rw [if_neg hno]
    generalize rf_pos (R.1 9) v n 0 = k at hk hno
    have loop : ∀ (d i : Nat), i = k + d → i ≤ n → ∀ h, rf_At r (rf_sA R 9 (rf_sh (R.1 9) n i)) h → rf_G r 164 50 [.ref r, .int v, .int (nI k), .int (nI i)] [] h none (rf_sI (rf_sA R 9 (upd (rf_sh (R.1 9) n k) k v)) 10 (nI (n + 1))) := by
      intro d
      induction d with
      | zero =>
        intro i hi hin h H
        obtain rfl : i = k := by omega
        refine rf_G.step (pc' := 51) (st' := [_]) rfl rfl ?_
        refine rf_G.step (pc' := 52) (st' := [_, _]) rfl rfl ?_
        refine rf_G.bc rfl (jx_br_le _ _) (fun _ => ?_) (fun q => absurd (Int32.le_refl _) q)
        refine rf_G.step (pc' := 76) (st' := [_]) rfl rfl ?_
        refine rf_G.get H rfl rfl ?_
        refine rf_G.step (pc' := 80) (st' := [_, _]) rfl rfl ?_
        refine rf_G.step (pc' := 81) (st' := [_, _, _]) rfl rfl ?_
        refine rf_G.iast H 9 6 130 (by decide) rfl (rf_ix (by omega) (by decide)) (fun h H => ?_)
        rw [nI_clamp (by omega), rf_sA_sA, rf_sA_at] at H
        refine rf_G.step (pc' := 83) (st' := [_]) rfl rfl ?_
        refine rf_G.step (pc' := 84) (st' := [_, _]) rfl rfl ?_
        refine rf_G.get H rfl rfl ?_
        rw [show (rf_sA R 9 (upd (rf_sh (R.1 9) n i) i v)).2.2.1 10 = nI n from en]
        refine rf_G.step (pc' := 88) (st' := [_, _, _]) rfl rfl ?_
        refine rf_G.step (pc' := 89) (st' := [_, _]) rfl rfl ?_
        rw [nI_1]
        refine rf_G.putI H rfl rfl (by decide) rfl (fun h H => ?_)
        exact rf_G.ret H rfl rfl
      | succ d ih =>
        intro i hi hin h H
        obtain ⟨j, rfl⟩ : ∃ j, i = j + 1 := ⟨i - 1, by omega⟩
        refine rf_G.step (pc' := 51) (st' := [_]) rfl rfl ?_
        refine rf_G.step (pc' := 52) (st' := [_, _]) rfl rfl ?_
        refine rf_G.bc rfl (jx_br_le _ _) (fun q => absurd q (nI_ge (by omega) (by omega))) (fun _ => ?_)
        refine rf_G.step (pc' := 56) (st' := [_]) rfl rfl ?_
        refine rf_G.get H rfl rfl ?_
        refine rf_G.step (pc' := 60) (st' := [_, _]) rfl rfl ?_
        refine rf_G.step (pc' := 61) (st' := [_, _, _]) rfl rfl ?_
        refine rf_G.get H rfl rfl ?_
        refine rf_G.step (pc' := 65) (st' := [_, _, _, _]) rfl rfl ?_
        refine rf_G.step (pc' := 66) (st' := [_, _, _, _, _]) rfl rfl ?_
        refine rf_G.step (pc' := 67) (st' := [_, _, _, _]) rfl rfl ?_
        rw [nI_pred]
        refine rf_G.iald H 9 6 130 (by decide) rfl (rf_ix (by omega) (by decide)) ?_
        rw [nI_clamp (by omega)]
        refine rf_G.iast H 9 6 130 (by decide) rfl (rf_ix (by omega) (by decide)) (fun h H => ?_)
        rw [nI_clamp (by omega), rf_sA_sA, rf_sA_at, rf_sh_s _ _ _ (by omega)] at H
        refine rf_G.step (pc' := 72) (ls' := [_, _, _, _]) (st' := []) rfl rfl ?_
        refine rf_G.step (pc' := 50) (st' := []) rfl rfl ?_
        rw [pk_m1]
        exact ih j (by omega) (by omega) h H
    refine rf_G.step (pc' := 46) (st' := [_]) rfl rfl ?_
    refine rf_G.get H rfl rfl ?_
    rw [en]
    refine rf_G.step (pc' := 50) (ls' := [_, _, _, _]) (st' := []) rfl rfl ?_
    exact loop (n - k) n (by omega) (Nat.le_refl n) h (by rw [rf_sh_n, rf_sA_id]; exact H)
  have mid : ∀ h, rf_At r R h → rf_G r 164 26 [.ref r, .int v, .int (nI (rf_pos (R.1 9) v n 0)), .retAddr 0] [] h none (rf_jn R n v) := by
    intro h H
    refine rf_G.step (pc' := 27) (st' := [_]) rfl rfl ?_
    refine rf_G.step (pc' := 28) (st' := [_, _]) rfl rfl ?_
    refine rf_G.get H rfl rfl ?_
    rw [en]
    refine rf_G.bc rfl (jx_br_ge _ _) (fun q => ?_) (fun q => ?_)
    · exact ins h _ (fun z => absurd q (nI_ge z.1 (by omega))) H
    · have q1 : rf_pos (R.1 9) v n 0 < n := by
        rcases Nat.lt_or_ge (rf_pos (R.1 9) v n 0) n with y | y
        · exact y
        · exact absurd (nI_le y (by omega)) q
      refine rf_G.step (pc' := 35) (st' := [_]) rfl rfl ?_
      refine rf_G.get H rfl rfl ?_
      refine rf_G.step (pc' := 39) (st' := [_, _]) rfl rfl ?_
      refine rf_G.iald H 9 6 130 (by decide) rfl (rf_ix (by omega) (by decide)) ?_
      refine rf_G.step (pc' := 41) (st' := [_, _]) rfl rfl ?_
      rw [nI_clamp (by omega)]
      refine rf_G.bcn rfl (fun z => ?_) (fun z => ?_)
      · exact ins h _ (fun y => z y.2) H
      · unfold rf_jn
        rw [if_pos ⟨q1, z⟩]
        exact rf_G.ret H rfl rfl
  have find : ∀ (d k : Nat), k + d = n → rf_pos (R.1 9) v d k = rf_pos (R.1 9) v n 0 → ∀ h, rf_At r R h → rf_G r 164 2 [.ref r, .int v, .int (nI k), .retAddr 0] [] h none (rf_jn R n v) := by
    intro d
    induction d with
    | zero =>
      intro k hkd hp h H
      have e : k = rf_pos (R.1 9) v n 0 := by rw [← hp]; rfl
      refine rf_G.step (pc' := 3) (st' := [_]) rfl rfl ?_
      refine rf_G.step (pc' := 4) (st' := [_, _]) rfl rfl ?_
      refine rf_G.get H rfl rfl ?_
      rw [en]
      refine rf_G.bc rfl (jx_br_ge _ _) (fun _ => ?_) (fun q => absurd (nI_le (by omega) (by omega)) q)
      rw [e]
      exact mid h H
    | succ d ih =>
      intro k hkd hp h H
      refine rf_G.step (pc' := 3) (st' := [_]) rfl rfl ?_
      refine rf_G.step (pc' := 4) (st' := [_, _]) rfl rfl ?_
      refine rf_G.get H rfl rfl ?_
      rw [en]
      refine rf_G.bc rfl (jx_br_ge _ _) (fun q => absurd q (nI_ge (by omega) (by omega))) (fun _ => ?_)
      refine rf_G.step (pc' := 11) (st' := [_]) rfl rfl ?_
      refine rf_G.get H rfl rfl ?_
      refine rf_G.step (pc' := 15) (st' := [_, _]) rfl rfl ?_
      refine rf_G.iald H 9 6 130 (by decide) rfl (rf_ix (by omega) (by decide)) ?_
      refine rf_G.step (pc' := 17) (st' := [_, _]) rfl rfl ?_
      rw [nI_clamp (by omega)]
      have hu : rf_pos (R.1 9) v (d + 1) k = if v < R.1 9 k then rf_pos (R.1 9) v d (k + 1) else k := rfl
      rw [hu] at hp
      refine rf_G.bc rfl (jx_br_le _ _) (fun q => ?_) (fun q => ?_)
      · rw [if_neg (Int32.not_lt.mpr q)] at hp
        have hp2 : k = rf_pos (R.1 9) v n 0 := hp
        rw [hp2]
        exact mid h H
      · rw [if_pos (Int32.not_le.mp q)] at hp
        refine rf_G.step (pc' := 23) (ls' := [_, _, _, _]) (st' := []) rfl rfl ?_
        refine rf_G.step (pc' := 2) (st' := []) rfl rfl ?_
        rw [nI_1]
        exact ih (k + 1) (by omega) hp h H
  intro h H
  show rf_G r 164 0 [.ref r, .int v, .retAddr 0, .retAddr 0] [] h _ _
  refine rf_G.step (pc' := 1) (st' := [_]) rfl rfl ?_
  refine rf_G.step (pc' := 2) (ls' := [_, _, _, _]) (st' := []) rfl rfl ?_
  exact find n 0 (by omega) rfl h H
