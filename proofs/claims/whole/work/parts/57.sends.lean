/-! the reference: finds whole, sends, left -/
theorem rc_find_out (r : Nat) (R : rf_R) (F : Nat → Option Int) (H : List hA) (ρ : Nat → Int64) (wf : sp_wf H) (g : rf_HG R H ρ) (hF : ∀ v, v < 2882 → R.2.1 35 v = sp_rep (F v)) (sm : ∀ v x, F v = some x → -2 ^ 45 ≤ x ∧ x ≤ 2 ^ 45) :
    ∀ (d k : Nat) (V : List Nat) (R1 : rf_R) (u3 u4 u5 : Value), k + d = 2883 → k ≤ V.length → rf_kF R R1 → fd_I R1 F H ρ V → (∀ j, j < k → ∀ i, i ∈ hg_adj H (V.reverse.getD j 0) → fd_ok F H ρ i → (H.getD i hd).2.1 ∈ V) → fd_X r R F H ρ 35 [.ref r, .int (nI V.length), .int (nI k), u3, u4, u5] R1 := by
  intro d
  induction d with
  | zero =>
    intro k V R1 u3 u4 u5 hk hkV kF I dn
    have hV : V.length ≤ 2882 := sp_len 2882 V (fd_nd I.2.2.1).1 (fun v hv => ((fd_nd I.2.2.1).2.1 v hv).1)
    omega
  | succ d ih =>
    intro k V R1 u3 u4 u5 hk hkV kF I dn
    have hV : V.length ≤ 2882 := sp_len 2882 V (fd_nd I.2.2.1).1 (fun v hv => ((fd_nd I.2.2.1).2.1 v hv).1)
    by_cases e : k = V.length
    · refine ⟨0, R1, ⟨kF, Or.inr ⟨rfl, V, I.2.2.2.2, I.2.2.2.1, (fd_nd I.2.2.1).2.1, fun i hi ht => ?_⟩⟩, fun h H => ?_⟩
      · have h1 : (H.getD i hd).1 ∈ V.reverse := List.mem_reverse.mpr ht
        obtain ⟨j, hj, hj2⟩ := List.getElem_of_mem h1
        rw [List.length_reverse] at hj
        refine dn j (by omega) i (hg_mem.mpr ⟨hi.1, ?_⟩) hi
        rw [← hj2]
        simp [List.getD_eq_getElem?_getD, hj]
      · rw [e]
        refine rf_G.step (pc' := 36) (st' := [_]) rfl rfl ?_
        refine rf_G.step (pc' := 37) (st' := [_, _]) rfl rfl ?_
        refine rf_G.bc rfl (jx_br_ge _ _) (fun _ => ?_) (fun zq => absurd (Int32.le_refl _) zq)
        refine rf_G.step (pc' := 179) (st' := [_]) rfl rfl ?_
        exact rf_G.ret H rfl rfl
    · have hk2 : k < V.length := by omega
      have haV : V.reverse.getD k 0 ∈ V := by
        rw [← List.mem_reverse, List.getD_eq_getElem?_getD, List.getElem?_eq_getElem (by rw [List.length_reverse]; exact hk2)]
        exact List.getElem_mem _
      have hw := I.1 k hk2
      have ha := ((fd_nd I.2.2.1).2.1 _ haV).1
      have e34 : R1.1 34 = R.1 34 := kF.1 34 (by decide) (by decide)
      generalize hav : V.reverse.getD k 0 = a at *
      obtain ⟨v, R2, f, gg⟩ := rc_find_in r R F H ρ wf g hF sm k (by omega) a ha (hg_adj H a) (R.1 34 a) V R1 u5 (fun i hi => hi) haV kF I (fun i hi => Or.inl hi) (g.2.2 a ha) (fun V2 R2 x2 u5 h1 h2 h3 h4 h5 => by
        obtain ⟨W, rfl⟩ := h2
        have hl : (W ++ V).length = W.length + V.length := List.length_append
        obtain ⟨v, R3, f, gg⟩ := ih (k + 1) (W ++ V) R2 (.int (nI a)) (.int x2) u5 (by omega) (by omega) h3 h4 (fun j hj i hi ok => by
          have ej : (W ++ V).reverse.getD j 0 = V.reverse.getD j 0 := by
            rw [List.reverse_append, List.getD_eq_getElem?_getD, List.getD_eq_getElem?_getD, List.getElem?_append_left (by rw [List.length_reverse]; omega)]
          rw [ej] at hi
          by_cases q : j = k
          · rw [q, hav] at hi
            exact h5 i hi ok
          · exact List.mem_append_right _ (dn j (by omega) i hi ok))
        refine ⟨v, R3, f, fun h H => ?_⟩
        refine rf_G.step (pc' := 175) (ls' := [_, _, _, _, _, _]) (st' := []) rfl rfl ?_
        refine rf_G.step (pc' := 35) (st' := []) rfl rfl ?_
        rw [nI_1]
        exact gg h H)
      refine ⟨v, R2, f, fun h H => ?_⟩
      refine rf_G.step (pc' := 36) (st' := [_]) rfl rfl ?_
      refine rf_G.step (pc' := 37) (st' := [_, _]) rfl rfl ?_
      refine rf_G.bc rfl (jx_br_ge _ _) (fun zq => absurd zq (nI_ge hk2 (by omega))) (fun _ => ?_)
      refine rf_G.step (pc' := 41) (st' := [_]) rfl rfl ?_
      refine rf_G.get H rfl rfl ?_
      refine rf_G.step (pc' := 45) (st' := [_, _]) rfl rfl ?_
      refine rf_G.iald H 38 21 2882 (by decide) rfl (rf_ix (by omega) (by decide)) ?_
      rw [nI_clamp (by omega), hw]
      refine rf_G.step (pc' := 47) (ls' := [_, _, _, _, _, _]) (st' := []) rfl rfl ?_
      refine rf_G.step (pc' := 48) (st' := [_]) rfl rfl ?_
      refine rf_G.get H rfl rfl ?_
      refine rf_G.step (pc' := 52) (st' := [_, _]) rfl rfl ?_
      refine rf_G.iald H 34 17 2882 (by decide) rfl (rf_ix (by omega) (by decide)) ?_
      rw [nI_clamp (by omega), e34]
      refine rf_G.step (pc' := 55) (ls' := [_, _, _, _, _, _]) (st' := []) rfl rfl ?_
      exact gg h H
theorem rc_finds (r : Nat) (R : rf_R) (F : Nat → Option Int) (H : List hA) (ρ : Nat → Int64) (wf : sp_wf H) (g : rf_HG R H ρ) (hF : ∀ v, v < 2882 → R.2.1 35 v = sp_rep (F v)) (sm : ∀ v x, F v = some x → -2 ^ 45 ≤ x ∧ x ≤ 2 ^ 45) (h0 : F 2880 = some 0) : ∃ v R2, rf_C 201 r [.ref r] R (some (.int v)) R2 ∧ fd_post R F H ρ v R2 := by
  have clear : ∀ d k R1, k + d = 2882 → rf_kF R R1 → (∀ j, j < k → R1.1 36 j = -1) → fd_X r R F H ρ 2 [.ref r, .int (nI k), .retAddr 0, .retAddr 0, .retAddr 0, .retAddr 0] R1 := by
    intro d
    induction d with
    | zero =>
      intro k R1 hk kF hz
      obtain rfl : k = 2882 := by omega
      obtain ⟨v, R2, f, gg⟩ := rc_find_out r R F H ρ wf g hF sm 2883 0 [2880] (rf_sA R1 38 (upd (R1.1 38) 0 2880)) (.retAddr 0) (.retAddr 0) (.retAddr 0) (by omega) (by simp) (kF.tr (rf_kF.A (Or.inr rfl))) ⟨fun j hj => by
        obtain rfl : j = 0 := Nat.lt_one_iff.mp hj
        rfl, fun v hv _ => hz v hv, ⟨trivial, by simp, by decide, ⟨0, h0⟩, Or.inl rfl⟩, by decide, by decide⟩ (fun j hj => absurd hj (by omega))
      refine ⟨v, R2, f, fun h H => ?_⟩
      refine rf_G.step (pc' := 3) (st' := [_]) rfl rfl ?_
      refine rf_G.step (pc' := 6) (st' := [_, _]) rfl rfl ?_
      refine rf_G.bc rfl (jx_br_ge _ _) (fun _ => ?_) (fun zq => absurd (Int32.le_refl _) zq)
      refine rf_G.step (pc' := 23) (st' := [_]) rfl rfl ?_
      refine rf_G.step (pc' := 24) (ls' := [_, _, _, _, _, _]) (st' := []) rfl rfl ?_
      refine rf_G.step (pc' := 25) (st' := [_]) rfl rfl ?_
      refine rf_G.get H rfl rfl ?_
      refine rf_G.step (pc' := 29) (st' := [_, _]) rfl rfl ?_
      refine rf_G.step (pc' := 32) (st' := [_, _, _]) rfl rfl ?_
      refine rf_G.iast H 38 21 2882 (by decide) rfl (rf_ix (n := 0) (by decide) (by decide)) (fun h H => ?_)
      refine rf_G.step (pc' := 34) (st' := [_]) rfl rfl ?_
      refine rf_G.step (pc' := 35) (ls' := [_, _, _, _, _, _]) (st' := []) rfl rfl ?_
      exact gg h H
    | succ d ih =>
      intro k R1 hk kF hz
      obtain ⟨v, R2, f, gg⟩ := ih (k + 1) (rf_sA R1 36 (upd (R1.1 36) k (-1))) (by omega) (kF.tr (rf_kF.A (Or.inl rfl))) (fun j hj => by
        show upd (R1.1 36) k (-1) j = -1
        unfold upd
        by_cases e : j = k
        · rw [if_pos e]
        · rw [if_neg e]
          exact hz j (by omega))
      refine ⟨v, R2, f, fun h H => ?_⟩
      refine rf_G.step (pc' := 3) (st' := [_]) rfl rfl ?_
      refine rf_G.step (pc' := 6) (st' := [_, _]) rfl rfl ?_
      rw [rf_lit 2882]
      refine rf_G.bc rfl (jx_br_ge _ _) (fun zq => absurd zq (nI_ge (by omega) (by omega))) (fun _ => ?_)
      refine rf_G.step (pc' := 10) (st' := [_]) rfl rfl ?_
      refine rf_G.get H rfl rfl ?_
      refine rf_G.step (pc' := 14) (st' := [_, _]) rfl rfl ?_
      refine rf_G.step (pc' := 15) (st' := [_, _, _]) rfl rfl ?_
      refine rf_G.iast H 36 19 2882 (by decide) rfl (rf_ix (by omega) (by decide)) (fun h H => ?_)
      rw [nI_clamp (by omega)] at H
      refine rf_G.step (pc' := 19) (ls' := [_, _, _, _, _, _]) (st' := []) rfl rfl ?_
      refine rf_G.step (pc' := 2) (st' := []) rfl rfl ?_
      rw [nI_1]
      exact gg h H
  obtain ⟨v, R2, f, gg⟩ := clear 2882 0 R (by omega) rf_kF.rf (fun j hj => absurd hj (by omega))
  refine ⟨v, R2, ?_, f⟩
  intro h H
  show rf_G r 201 0 [.ref r, .retAddr 0, .retAddr 0, .retAddr 0, .retAddr 0, .retAddr 0] [] h _ _
  refine rf_G.step (pc' := 1) (st' := [_]) rfl rfl ?_
  refine rf_G.step (pc' := 2) (ls' := [_, _, _, _, _, _]) (st' := []) rfl rfl ?_
  exact gg h H
/-- the least room of a way -/
def sd_min (ρ : Nat → Int64) : Int64 → List Nat → Int64
  | m, [] => m
  | m, i :: l => sd_min ρ (if ρ i < m then ρ i else m) l
def sd_one (ρ : Nat → Int64) (δ : Int64) (i : Nat) : Nat → Int64 := vp_updL (vp_updL ρ i (ρ i - δ)) (i ^^^ 1) (vp_updL ρ i (ρ i - δ) (i ^^^ 1) + δ)
def sd_up (δ : Int64) : (Nat → Int64) → List Nat → Nat → Int64
  | ρ, [] => ρ
  | ρ, i :: l => sd_up δ (sd_one ρ δ i) l
def sd_pair (H : List hA) : Prop := ∀ i, i < H.length → i ^^^ 1 < H.length ∧ (H.getD (i ^^^ 1) hd).2.1 = (H.getD i hd).1
def rf_kR (R R2 : rf_R) : Prop := R2.1 = R.1 ∧ (∀ k, k ≠ 33 → R2.2.1 k = R.2.1 k) ∧ R2.2.2 = R.2.2
theorem rf_kR.J {R R2 : rf_R} (a : rf_kR R R2) : rf_J R R2 := ⟨by rw [a.1], by rw [a.1], fun k _ => by rw [a.2.2], fun k _ => by rw [a.2.2], by rw [a.1]⟩
theorem rc_sends (r : Nat) (R : rf_R) (F : Nat → Option Int) (H : List hA) (ρ : Nat → Int64) (wf : sp_wf H) (hp : sd_pair H) (g : rf_HG R H ρ) (l : List Nat) (p : bp F H ρ (R.1 36) 2881 l) : ∃ R2, rf_C 202 r [.ref r] R (some (.long (sd_min ρ 1125899906842624 l))) R2 ∧ rf_kR R R2 ∧ rf_HG R2 H (sd_up (sd_min ρ 1125899906842624 l) ρ l) := by
  have hlen := wf.1
  have x1 : ∀ i : Nat, nI i ^^^ 1 = nI (i ^^^ 1) := fun i => by rw [rf_lit 1, bt_xor]
  -- the rooms go down and up
  have loop2 : ∀ (δ : Int64) (l : List Nat) (b : Nat) (ρ' : Nat → Int64) (R1 : rf_R), b < 2882 → bp F H ρ (R.1 36) b l → rf_kR R R1 → (∀ i, i < H.length → R1.2.1 33 i = ρ' i) → ∃ R2, (rf_kR R R2 ∧ ∀ i, i < H.length → R2.2.1 33 i = sd_up δ ρ' l i) ∧ ∀ h, rf_At r R1 h → rf_G r 202 64 [.ref r, .long δ, .retAddr 0, .int (nI b)] [] h (some (.long δ)) R2 := by
    intro δ l
    induction l with
    | nil =>
      intro b ρ' R1 hb p k1 e
      refine ⟨R1, ⟨k1, e⟩, fun h H => ?_⟩
      refine rf_G.step (pc' := 65) (st' := [_]) rfl rfl ?_
      refine rf_G.step (pc' := 68) (st' := [_, _]) rfl rfl ?_
      refine rf_G.bc rfl (jx_br_eq _ _) (fun _ => ?_) (fun zq => absurd (congrArg nI (show b = 2880 from p)) zq)
      refine rf_G.step (pc' := 121) (st' := [_]) rfl rfl ?_
      exact rf_G.ret H rfl rfl
    | cons i l ih =>
      intro b ρ' R1 hb p k1 e
      obtain ⟨p1, p2, p3, p4, p5⟩ := p
      have hi := p3.1
      obtain ⟨q1, q2⟩ := hp i hi
      obtain ⟨w1, w2, -⟩ := wf.2 i hi
      have e36 : ∀ f, (rf_sB R1 33 f).1 36 b = nI i := fun f => by rw [show (rf_sB R1 33 f).1 = R.1 from k1.1]; exact p2
      have e36b : ∀ f f2, (rf_sB (rf_sB R1 33 f) 33 f2).1 36 b = nI i := fun f f2 => by rw [show (rf_sB (rf_sB R1 33 f) 33 f2).1 = R.1 from k1.1]; exact p2
      have e36c : R1.1 36 b = nI i := by rw [k1.1]; exact p2
      have e30 : ∀ f f2, (rf_sB (rf_sB R1 33 f) 33 f2).1 30 (i ^^^ 1) = nI (H.getD i hd).1 := fun f f2 => by rw [show (rf_sB (rf_sB R1 33 f) 33 f2).1 = R.1 from k1.1, (g.2.1 _ q1).1, q2]
      obtain ⟨R2, f, gg⟩ := ih (H.getD i hd).1 (sd_one ρ' δ i) (rf_sB (rf_sB R1 33 (vp_updL (R1.2.1 33) i (R1.2.1 33 i - δ))) 33 (vp_updL (vp_updL (R1.2.1 33) i (R1.2.1 33 i - δ)) (i ^^^ 1) (vp_updL (R1.2.1 33) i (R1.2.1 33 i - δ) (i ^^^ 1) + δ))) w1 p5 ⟨k1.1, fun k hk => by
        show (if k = 33 then _ else if k = 33 then _ else R1.2.1 k) = _
        rw [if_neg hk, if_neg hk]
        exact k1.2.1 k hk, k1.2.2⟩ (fun j hj => by
        show vp_updL (vp_updL (R1.2.1 33) i (R1.2.1 33 i - δ)) (i ^^^ 1) (vp_updL (R1.2.1 33) i (R1.2.1 33 i - δ) (i ^^^ 1) + δ) j = _
        unfold sd_one vp_updL
        rw [e i hi, e (i ^^^ 1) q1, e j hj])
      refine ⟨R2, f, fun h H => ?_⟩
      refine rf_G.step (pc' := 65) (st' := [_]) rfl rfl ?_
      refine rf_G.step (pc' := 68) (st' := [_, _]) rfl rfl ?_
      refine rf_G.bc rfl (jx_br_eq _ _) (fun zq => absurd zq (fun q => p1 ((nI_inj (by omega) (by decide)).mp q))) (fun _ => ?_)
      refine rf_G.step (pc' := 72) (st' := [_]) rfl rfl ?_
      refine rf_G.get H rfl rfl ?_
      refine rf_G.step (pc' := 76) (st' := [_, _]) rfl rfl ?_
      refine rf_G.get H rfl rfl ?_
      refine rf_G.step (pc' := 80) (st' := [_, _, _]) rfl rfl ?_
      refine rf_G.iald H 36 19 2882 (by decide) rfl (rf_ix (by omega) (by decide)) ?_
      rw [nI_clamp (by omega), e36c]
      refine rf_G.step (pc' := 82) (st' := [_, _, _, _]) rfl rfl ?_
      refine rf_G.lald H 33 16 48000 (by decide) rfl (rf_ix (by omega) (by decide)) ?_
      refine rf_G.step (pc' := 84) (st' := [_, _, _, _]) rfl rfl ?_
      refine rf_G.step (pc' := 85) (st' := [_, _, _]) rfl rfl ?_
      rw [nI_clamp (by omega)]
      refine rf_G.last H 33 16 48000 (by decide) rfl (rf_ix (by omega) (by decide)) (fun h H => ?_)
      rw [nI_clamp (by omega)] at H
      refine rf_G.step (pc' := 87) (st' := [_]) rfl rfl ?_
      refine rf_G.get H rfl rfl ?_
      refine rf_G.step (pc' := 91) (st' := [_, _]) rfl rfl ?_
      refine rf_G.get H rfl rfl ?_
      refine rf_G.step (pc' := 95) (st' := [_, _, _]) rfl rfl ?_
      refine rf_G.iald H 36 19 2882 (by decide) rfl (rf_ix (by omega) (by decide)) ?_
      rw [nI_clamp (by omega), e36]
      refine rf_G.step (pc' := 97) (st' := [_, _, _]) rfl rfl ?_
      refine rf_G.step (pc' := 98) (st' := [_, _]) rfl rfl ?_
      rw [x1]
      refine rf_G.step (pc' := 99) (st' := [_, _, _, _]) rfl rfl ?_
      refine rf_G.lald H 33 16 48000 (by decide) rfl (rf_ix (by omega) (by decide)) ?_
      refine rf_G.step (pc' := 101) (st' := [_, _, _, _]) rfl rfl ?_
      refine rf_G.step (pc' := 102) (st' := [_, _, _]) rfl rfl ?_
      rw [nI_clamp (by omega)]
      refine rf_G.last H 33 16 48000 (by decide) rfl (rf_ix (by omega) (by decide)) (fun h H => ?_)
      rw [nI_clamp (by omega)] at H
      refine rf_G.step (pc' := 104) (st' := [_]) rfl rfl ?_
      refine rf_G.get H rfl rfl ?_
      refine rf_G.step (pc' := 108) (st' := [_, _]) rfl rfl ?_
      refine rf_G.get H rfl rfl ?_
      refine rf_G.step (pc' := 112) (st' := [_, _, _]) rfl rfl ?_
      refine rf_G.iald H 36 19 2882 (by decide) rfl (rf_ix (by omega) (by decide)) ?_
      rw [nI_clamp (by omega), e36b]
      refine rf_G.step (pc' := 114) (st' := [_, _, _]) rfl rfl ?_
      refine rf_G.step (pc' := 115) (st' := [_, _]) rfl rfl ?_
      rw [x1]
      refine rf_G.iald H 30 13 48000 (by decide) rfl (rf_ix (by omega) (by decide)) ?_
      rw [nI_clamp (by omega), e30]
      refine rf_G.step (pc' := 117) (ls' := [_, _, _, _]) (st' := []) rfl rfl ?_
      refine rf_G.step (pc' := 64) (st' := []) rfl rfl ?_
      exact gg h H
  obtain ⟨δ, hδ⟩ : ∃ δ, δ = sd_min ρ 1125899906842624 l := ⟨_, rfl⟩
  rw [← hδ]
  obtain ⟨R2, ⟨k2, f2⟩, gg⟩ := loop2 δ l 2881 ρ R (by decide) p ⟨rfl, fun _ _ => rfl, rfl⟩ (fun i hi => (g.2.1 i hi).2.2)
  refine ⟨R2, ?_, k2, ⟨by rw [k2.2.2]; exact g.1, fun i hi => ⟨by rw [k2.1]; exact (g.2.1 i hi).1, by rw [k2.1]; exact (g.2.1 i hi).2.1, f2 i hi⟩, fun v hv => by rw [k2.1]; exact g.2.2 v hv⟩⟩
  have loop1 : ∀ (l : List Nat) (b : Nat) (m : Int64), b < 2882 → bp F H ρ (R.1 36) b l → sd_min ρ m l = δ → ∀ h, rf_At r R h → rf_G r 202 8 [.ref r, .long m, .retAddr 0, .int (nI b)] [] h (some (.long δ)) R2 := by
    intro l
    induction l with
    | nil =>
      intro b m hb p e h H
      have e : m = δ := e
      subst e
      refine rf_G.step (pc' := 9) (st' := [_]) rfl rfl ?_
      refine rf_G.step (pc' := 12) (st' := [_, _]) rfl rfl ?_
      refine rf_G.bc rfl (jx_br_eq _ _) (fun _ => ?_) (fun zq => absurd (congrArg nI (show b = 2880 from p)) zq)
      refine rf_G.step (pc' := 63) (st' := [_]) rfl rfl ?_
      refine rf_G.step (pc' := 64) (ls' := [_, _, _, _]) (st' := []) rfl rfl ?_
      exact gg h H
    | cons i l ih =>
      intro b m hb p e h H0
      obtain ⟨p1, p2, p3, p4, p5⟩ := p
      have hi := p3.1
      obtain ⟨q1, q2⟩ := hp i hi
      obtain ⟨w1, w2, -⟩ := wf.2 i hi
      have e33 := (g.2.1 i hi).2.2
      have e30 : R.1 30 (i ^^^ 1) = nI (H.getD i hd).1 := by rw [(g.2.1 _ q1).1, q2]
      have e : sd_min ρ (if ρ i < m then ρ i else m) l = δ := e
      have nx := ih (H.getD i hd).1 (if ρ i < m then ρ i else m) w1 p5 e
      have t43 : ∀ h, rf_At r R h → rf_G r 202 43 [.ref r, .long (if ρ i < m then ρ i else m), .retAddr 0, .int (nI b)] [] h (some (.long δ)) R2 := by
        intro h H
        refine rf_G.step (pc' := 44) (st' := [_]) rfl rfl ?_
        refine rf_G.get H rfl rfl ?_
        refine rf_G.step (pc' := 48) (st' := [_, _]) rfl rfl ?_
        refine rf_G.get H rfl rfl ?_
        refine rf_G.step (pc' := 52) (st' := [_, _, _]) rfl rfl ?_
        refine rf_G.iald H 36 19 2882 (by decide) rfl (rf_ix (by omega) (by decide)) ?_
        rw [nI_clamp (by omega), p2]
        refine rf_G.step (pc' := 54) (st' := [_, _, _]) rfl rfl ?_
        refine rf_G.step (pc' := 55) (st' := [_, _]) rfl rfl ?_
        rw [x1]
        refine rf_G.iald H 30 13 48000 (by decide) rfl (rf_ix (by omega) (by decide)) ?_
        rw [nI_clamp (by omega), e30]
        refine rf_G.step (pc' := 57) (ls' := [_, _, _, _]) (st' := []) rfl rfl ?_
        refine rf_G.step (pc' := 8) (st' := []) rfl rfl ?_
        exact nx h H
      have H := H0
      refine rf_G.step (pc' := 9) (st' := [_]) rfl rfl ?_
      refine rf_G.step (pc' := 12) (st' := [_, _]) rfl rfl ?_
      refine rf_G.bc rfl (jx_br_eq _ _) (fun zq => absurd zq (fun q => p1 ((nI_inj (by omega) (by decide)).mp q))) (fun _ => ?_)
      refine rf_G.step (pc' := 16) (st' := [_]) rfl rfl ?_
      refine rf_G.get H rfl rfl ?_
      refine rf_G.step (pc' := 20) (st' := [_, _]) rfl rfl ?_
      refine rf_G.get H rfl rfl ?_
      refine rf_G.step (pc' := 24) (st' := [_, _, _]) rfl rfl ?_
      refine rf_G.iald H 36 19 2882 (by decide) rfl (rf_ix (by omega) (by decide)) ?_
      rw [nI_clamp (by omega), p2]
      refine rf_G.lald H 33 16 48000 (by decide) rfl (rf_ix (by omega) (by decide)) ?_
      rw [nI_clamp (by omega), e33]
      refine rf_G.step (pc' := 27) (st' := [_, _]) rfl rfl ?_
      refine rf_G.step (pc' := 28) (st' := [_]) rfl rfl ?_
      by_cases z : ρ i < m
      · rw [if_pos z] at t43
        refine rf_G.br rfl (jx_br_ge _ _) (fun zq => absurd zq (Int32.not_le.mpr ((lg_cmp_lt0 _ _).mpr z))) (fun _ => ?_)
        refine rf_G.step (pc' := 32) (st' := [_]) rfl rfl ?_
        refine rf_G.get H rfl rfl ?_
        refine rf_G.step (pc' := 36) (st' := [_, _]) rfl rfl ?_
        refine rf_G.get H rfl rfl ?_
        refine rf_G.step (pc' := 40) (st' := [_, _, _]) rfl rfl ?_
        refine rf_G.iald H 36 19 2882 (by decide) rfl (rf_ix (by omega) (by decide)) ?_
        rw [nI_clamp (by omega), p2]
        refine rf_G.lald H 33 16 48000 (by decide) rfl (rf_ix (by omega) (by decide)) ?_
        rw [nI_clamp (by omega), e33]
        refine rf_G.step (pc' := 43) (ls' := [_, _, _, _]) (st' := []) rfl rfl ?_
        exact t43 h H
      · rw [if_neg z] at t43
        refine rf_G.br rfl (jx_br_ge _ _) (fun _ => ?_) (fun zq => absurd (Int32.not_lt.mp (fun q => z ((lg_cmp_lt0 _ _).mp q))) zq)
        exact t43 h H
  intro h H
  show rf_G r 202 0 [.ref r, .retAddr 0, .retAddr 0, .retAddr 0] [] h _ _
  refine rf_G.step (pc' := 3) (st' := [_]) rfl rfl ?_
  refine rf_G.step (pc' := 4) (ls' := [_, _, _, _]) (st' := []) rfl rfl ?_
  refine rf_G.step (pc' := 7) (st' := [_]) rfl rfl ?_
  refine rf_G.step (pc' := 8) (ls' := [_, _, _, _]) (st' := []) rfl rfl ?_
  exact loop1 l 2881 1125899906842624 (by decide) p hδ.symm h H
/-- a must that is not met -/
def lf_b (H : List hA) (ρ : Nat → Int64) : Nat → Nat → Bool
  | 0, _ => false
  | d + 1, i => if (H.getD i hd).2.2 = -1000000 ∧ 0 < ρ i then true else lf_b H ρ d (i + 2)
theorem rc_left (r : Nat) (R : rf_R) (H : List hA) (ρ : Nat → Int64) (wf : sp_wf H) (g : rf_HG R H ρ) (n : Nat) (hn : H.length = 2 * n) : rf_C 203 r [.ref r] R (some (.int (rf_o (lf_b H ρ n 0 = true)))) R := by
  have hlen := wf.1
  have loop : ∀ d e, e + d = n → ∀ h, rf_At r R h → rf_G r 203 2 [.ref r, .int (nI (2 * e))] [] h (some (.int (rf_o (lf_b H ρ d (2 * e) = true)))) R := by
    intro d
    induction d with
    | zero =>
      intro e he h H0
      have en : R.2.2.1 29 = nI (2 * e) := by rw [g.1, hn, show e = n by omega]
      have H := H0
      rw [rf_of (by unfold lf_b; decide)]
      refine rf_G.step (pc' := 3) (st' := [_]) rfl rfl ?_
      refine rf_G.step (pc' := 4) (st' := [_, _]) rfl rfl ?_
      refine rf_G.get H rfl rfl ?_
      rw [en]
      refine rf_G.bc rfl (jx_br_ge _ _) (fun _ => ?_) (fun zq => absurd (Int32.le_refl _) zq)
      refine rf_G.step (pc' := 42) (st' := [_]) rfl rfl ?_
      exact rf_G.ret H rfl rfl
    | succ d ih =>
      intro e he h H0
      have en : R.2.2.1 29 = nI (2 * n) := by rw [g.1, hn]
      obtain ⟨t1, t2, t3⟩ := g.2.1 (2 * e) (by omega)
      have nx := ih (e + 1) (by omega)
      have t35 : ¬ ((H.getD (2 * e) hd).2.2 = -1000000 ∧ 0 < ρ (2 * e)) → ∀ h, rf_At r R h → rf_G r 203 35 [.ref r, .int (nI (2 * e))] [] h (some (.int (rf_o (lf_b H ρ (d + 1) (2 * e) = true)))) R := by
        intro q h H0
        have eu : lf_b H ρ (d + 1) (2 * e) = lf_b H ρ d (2 * (e + 1)) := by
          conv => lhs; unfold lf_b
          rw [if_neg q]
          rfl
        rw [eu]
        have H := H0
        refine rf_G.step (pc' := 38) (ls' := [_, _]) (st' := []) rfl rfl ?_
        refine rf_G.step (pc' := 2) (st' := []) rfl rfl ?_
        rw [show nI (2 * e) + 2 = nI (2 * (e + 1)) by rw [rf_lit 2, nI_add]; rfl]
        exact nx h H
      have yes : ((H.getD (2 * e) hd).2.2 = -1000000 ∧ 0 < ρ (2 * e)) → rf_o (lf_b H ρ (d + 1) (2 * e) = true) = 1 := by
        intro q
        refine rf_ot ?_
        unfold lf_b
        rw [if_pos q]
      generalize (H.getD (2 * e) hd).2.2 = c at t2 t35 yes
      have H := H0
      refine rf_G.step (pc' := 3) (st' := [_]) rfl rfl ?_
      refine rf_G.step (pc' := 4) (st' := [_, _]) rfl rfl ?_
      refine rf_G.get H rfl rfl ?_
      rw [en]
      refine rf_G.bc rfl (jx_br_ge _ _) (fun zq => absurd zq (nI_ge (by omega) (by omega))) (fun _ => ?_)
      refine rf_G.step (pc' := 11) (st' := [_]) rfl rfl ?_
      refine rf_G.get H rfl rfl ?_
      refine rf_G.step (pc' := 15) (st' := [_, _]) rfl rfl ?_
      refine rf_G.iald H 32 15 48000 (by decide) rfl (rf_ix (by omega) (by decide)) ?_
      refine rf_G.step (pc' := 19) (st' := [_, _]) rfl rfl ?_
      rw [nI_clamp (by omega), t2]
      by_cases z1 : c = -1000000
      · refine rf_G.bcn rfl (fun zq => absurd (z1) zq) (fun _ => ?_)
        refine rf_G.step (pc' := 23) (st' := [_]) rfl rfl ?_
        refine rf_G.get H rfl rfl ?_
        refine rf_G.step (pc' := 27) (st' := [_, _]) rfl rfl ?_
        refine rf_G.lald H 33 16 48000 (by decide) rfl (rf_ix (by omega) (by decide)) ?_
        refine rf_G.step (pc' := 29) (st' := [_, _]) rfl rfl ?_
        refine rf_G.step (pc' := 30) (st' := [_]) rfl rfl ?_
        rw [nI_clamp (by omega), t3]
        by_cases z2 : 0 < ρ (2 * e)
        · rw [yes ⟨z1, z2⟩]
          refine rf_G.br rfl (jx_br_le _ _) (fun zq => absurd zq (Int32.not_le.mpr ((lg_cmp_gt0 _ _).mpr z2))) (fun _ => ?_)
          refine rf_G.step (pc' := 34) (st' := [_]) rfl rfl ?_
          exact rf_G.ret H rfl rfl
        · refine rf_G.br rfl (jx_br_le _ _) (fun _ => ?_) (fun zq => absurd (Int32.not_lt.mp (fun q => z2 ((lg_cmp_gt0 _ _).mp q))) zq)
          exact t35 (fun q => z2 q.2) h H
      · refine rf_G.bcn rfl (fun _ => ?_) (fun zq => absurd zq (z1))
        exact t35 (fun q => z1 q.1) h H
  intro h H
  show rf_G r 203 0 [.ref r, .retAddr 0] [] h _ _
  refine rf_G.step (pc' := 1) (st' := [_]) rfl rfl ?_
  refine rf_G.step (pc' := 2) (ls' := [_, _]) (st' := []) rfl rfl ?_
  exact loop n 0 (by omega) h H
