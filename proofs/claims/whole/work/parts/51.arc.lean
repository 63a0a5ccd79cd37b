/-! the reference: half, arc, has -/
abbrev hA : Type := Nat × Nat × Int32
def hd : hA := (0, 0, 0)
def hg_adj (H : List hA) (a : Nat) : List Nat := ((List.range H.length).filter (fun i => decide ((H.getD i hd).1 = a))).reverse
def ch (nx : Nat → Int32) : Int32 → List Nat → Prop
  | x, [] => x = -1
  | x, i :: l => x = nI i ∧ ch nx (nx i) l
theorem ch_congr {f g : Nat → Int32} : ∀ {l : List Nat} {x : Int32}, (∀ i, i ∈ l → f i = g i) → ch f x l → ch g x l
  | [], _, _, h => h
  | i :: l, x, e, h => ⟨h.1, by
    rw [← e i (List.mem_cons_self ..)]
    exact ch_congr (fun j hj => e j (List.mem_cons_of_mem _ hj)) h.2⟩
theorem hg_lt {H : List hA} {a i : Nat} (h : i ∈ hg_adj H a) : i < H.length := by
  unfold hg_adj at h
  rw [List.mem_reverse, List.mem_filter, List.mem_range] at h
  exact h.1
theorem hg_app (H : List hA) (x : hA) (a : Nat) : hg_adj (H ++ [x]) a = if x.1 = a then H.length :: hg_adj H a else hg_adj H a := by
  unfold hg_adj
  rw [List.length_append, List.length_singleton, List.range_succ, List.filter_append, List.reverse_append]
  have e1 : (List.range H.length).filter (fun i => decide (((H ++ [x]).getD i hd).1 = a)) = (List.range H.length).filter (fun i => decide ((H.getD i hd).1 = a)) := by
    refine List.filter_congr (fun i hi => ?_)
    have hi2 := List.mem_range.mp hi
    simp [List.getD_eq_getElem?_getD, List.getElem?_append, hi2]
  rw [e1]
  have e2 : ((H ++ [x]).getD H.length hd) = x := by simp [List.getD_eq_getElem?_getD]
  rw [List.filter_cons, List.filter_nil, e2]
  by_cases h : x.1 = a
  · rw [if_pos h, if_pos (decide_eq_true h)]
    rfl
  · rw [if_neg h, if_neg (by rw [decide_eq_false h]; decide)]
    rfl
def rf_HG (R : rf_R) (H : List hA) (ρ : Nat → Int64) : Prop := R.2.2.1 29 = nI H.length ∧ (∀ i, i < H.length → R.1 30 i = nI (H.getD i hd).2.1 ∧ R.1 32 i = (H.getD i hd).2.2 ∧ R.2.1 33 i = ρ i) ∧ ∀ a, a < 2882 → ch (R.1 31) (R.1 34 a) (hg_adj H a)
def rf_kG (R R2 : rf_R) : Prop := (∀ k, (k < 30 ∨ 35 ≤ k) → R2.1 k = R.1 k) ∧ (∀ k, k ≠ 33 → R2.2.1 k = R.2.1 k) ∧ (∀ k, k ≠ 29 → R2.2.2.1 k = R.2.2.1 k) ∧ R2.2.2.2 = R.2.2.2
theorem rf_kG.rf {R : rf_R} : rf_kG R R := ⟨fun _ _ => rfl, fun _ _ => rfl, fun _ _ => rfl, rfl⟩
theorem rf_kG.tr {R R2 R3 : rf_R} (a : rf_kG R R2) (b : rf_kG R2 R3) : rf_kG R R3 := ⟨fun k h => (b.1 k h).trans (a.1 k h), fun k h => (b.2.1 k h).trans (a.2.1 k h), fun k h => (b.2.2.1 k h).trans (a.2.2.1 k h), b.2.2.2.trans a.2.2.2⟩
theorem rf_kG.J {R R2 : rf_R} (a : rf_kG R R2) : rf_J R R2 := ⟨a.1 0 (by decide), a.1 1 (by decide), fun k h => a.2.2.1 k (by omega), fun k _ => by rw [a.2.2.2], by rw [a.1 28 (by decide)]⟩
def rf_hlR (R : rf_R) (n a b : Nat) (room : Int64) (cost : Int32) : rf_R := rf_sI (rf_sA (rf_sA (rf_sA (rf_sB (rf_sA R 30 (upd (R.1 30) n (nI b))) 33 (vp_updL (R.2.1 33) n room)) 32 (upd (R.1 32) n cost)) 31 (upd (R.1 31) n (R.1 34 a))) 34 (upd (R.1 34) a (nI n))) 29 (nI (n + 1))
theorem rc_half (r : Nat) (R : rf_R) (K : List hA) (ρ ρ2 : Nat → Int64) (g : rf_HG R K ρ) (hn : K.length < 48000) (a b : Nat) (ha : a < 2882) (room : Int64) (cost : Int32) (h1 : ∀ i, i < K.length → ρ2 i = ρ i) (h2 : ρ2 K.length = room) : ∃ R2, rf_C 198 r [.ref r, .int (nI a), .int (nI b), .long room, .int cost] R none R2 ∧ rf_kG R R2 ∧ rf_HG R2 (K ++ [(a, b, cost)]) ρ2 := by
  refine ⟨rf_hlR R K.length a b room cost, ?_, ?_, ?_⟩
  · intro h H
    show rf_G r 198 0 [.ref r, .int (nI a), .int (nI b), .long room, .retAddr 0, .int cost] [] h _ _
    have e0 : R.2.2.1 29 = nI K.length := g.1
    have eA : ∀ (R : rf_R) k f j, (rf_sA R k f).2.2.1 j = R.2.2.1 j := fun _ _ _ _ => rfl
    have eB : ∀ (R : rf_R) k f j, (rf_sB R k f).2.2.1 j = R.2.2.1 j := fun _ _ _ _ => rfl
    unfold rf_hlR
    generalize K.length = n at *
    refine rf_G.step (pc' := 1) (st' := [_]) rfl rfl ?_
    refine rf_G.get H rfl rfl ?_
    refine rf_G.step (pc' := 5) (st' := [_, _]) rfl rfl ?_
    refine rf_G.get H rfl rfl ?_
    simp only [eA, eB, e0]
    refine rf_G.step (pc' := 9) (st' := [_, _, _]) rfl rfl ?_
    refine rf_G.iast H 30 13 48000 (by decide) rfl (rf_ix (by omega) (by decide)) (fun h H => ?_)
    rw [nI_clamp (by omega)] at H
    refine rf_G.step (pc' := 11) (st' := [_]) rfl rfl ?_
    refine rf_G.get H rfl rfl ?_
    refine rf_G.step (pc' := 15) (st' := [_, _]) rfl rfl ?_
    refine rf_G.get H rfl rfl ?_
    simp only [eA, eB, e0]
    refine rf_G.step (pc' := 19) (st' := [_, _, _]) rfl rfl ?_
    refine rf_G.last H 33 16 48000 (by decide) rfl (rf_ix (by omega) (by decide)) (fun h H => ?_)
    rw [nI_clamp (by omega)] at H
    refine rf_G.step (pc' := 21) (st' := [_]) rfl rfl ?_
    refine rf_G.get H rfl rfl ?_
    refine rf_G.step (pc' := 25) (st' := [_, _]) rfl rfl ?_
    refine rf_G.get H rfl rfl ?_
    simp only [eA, eB, e0]
    refine rf_G.step (pc' := 30) (st' := [_, _, _]) rfl rfl ?_
    refine rf_G.iast H 32 15 48000 (by decide) rfl (rf_ix (by omega) (by decide)) (fun h H => ?_)
    rw [nI_clamp (by omega)] at H
    refine rf_G.step (pc' := 32) (st' := [_]) rfl rfl ?_
    refine rf_G.get H rfl rfl ?_
    refine rf_G.step (pc' := 36) (st' := [_, _]) rfl rfl ?_
    refine rf_G.get H rfl rfl ?_
    simp only [eA, eB, e0]
    refine rf_G.step (pc' := 40) (st' := [_, _, _]) rfl rfl ?_
    refine rf_G.get H rfl rfl ?_
    refine rf_G.step (pc' := 44) (st' := [_, _, _, _]) rfl rfl ?_
    refine rf_G.iald H 34 17 2882 (by decide) rfl (rf_ix (by omega) (by decide)) ?_
    rw [nI_clamp (by omega)]
    refine rf_G.iast H 31 14 48000 (by decide) rfl (rf_ix (by omega) (by decide)) (fun h H => ?_)
    rw [nI_clamp (by omega)] at H
    refine rf_G.step (pc' := 47) (st' := [_]) rfl rfl ?_
    refine rf_G.get H rfl rfl ?_
    refine rf_G.step (pc' := 51) (st' := [_, _]) rfl rfl ?_
    refine rf_G.step (pc' := 52) (st' := [_, _, _]) rfl rfl ?_
    refine rf_G.get H rfl rfl ?_
    simp only [eA, eB, e0]
    refine rf_G.iast H 34 17 2882 (by decide) rfl (rf_ix (by omega) (by decide)) (fun h H => ?_)
    rw [nI_clamp (by omega)] at H
    refine rf_G.step (pc' := 57) (st' := [_]) rfl rfl ?_
    refine rf_G.step (pc' := 58) (st' := [_, _]) rfl rfl ?_
    refine rf_G.get H rfl rfl ?_
    simp only [eA, eB, e0]
    refine rf_G.step (pc' := 62) (st' := [_, _, _]) rfl rfl ?_
    refine rf_G.step (pc' := 63) (st' := [_, _]) rfl rfl ?_
    rw [nI_1]
    refine rf_G.putI H rfl rfl (by decide) rfl (fun h H => ?_)
    exact rf_G.ret H rfl rfl
  · refine ⟨fun k hk => ?_, fun k hk => if_neg hk, fun k hk => if_neg hk, rfl⟩
    show (if k = 34 then _ else if k = 31 then _ else if k = 32 then _ else if k = 30 then _ else R.1 k) = R.1 k
    rw [if_neg (by omega), if_neg (by omega), if_neg (by omega), if_neg (by omega)]
  · refine ⟨?_, fun i hi => ?_, fun x hx => ?_⟩
    · rw [List.length_append, List.length_singleton]
      rfl
    · rw [List.length_append, List.length_singleton] at hi
      show upd (R.1 30) K.length (nI b) i = _ ∧ upd (R.1 32) K.length cost i = _ ∧ vp_updL (R.2.1 33) K.length room i = _
      unfold upd vp_updL
      by_cases e : i = K.length
      · rw [if_pos e, if_pos e, if_pos e, e, h2]
        simp [List.getD_eq_getElem?_getD]
      · have hi2 : i < K.length := by omega
        obtain ⟨g1, g2, g3⟩ := g.2.1 i hi2
        rw [if_neg e, if_neg e, if_neg e, g1, g2, g3, h1 i hi2]
        simp [List.getD_eq_getElem?_getD, List.getElem?_append, hi2]
    · show ch (upd (R.1 31) K.length (R.1 34 a)) (upd (R.1 34) a (nI K.length) x) _
      rw [hg_app]
      have c0 : ∀ y, y < 2882 → ch (upd (R.1 31) K.length (R.1 34 a)) (R.1 34 y) (hg_adj K y) := fun y hy => ch_congr (fun i hi => (rf_up_ne (by have := hg_lt hi; omega)).symm) (g.2.2 y hy)
      by_cases e : a = x
      · subst e
        rw [if_pos rfl, rf_up_eq]
        refine ⟨rfl, ?_⟩
        rw [rf_up_eq]
        exact c0 a ha
      · rw [if_neg e, rf_up_ne (fun q => e q.symm)]
        exact c0 x hx
abbrev gA : Type := Nat × Nat × Int64 × Int32
def gd : gA := (0, 0, 0, 0)
def hv : List gA → List hA
  | [] => []
  | x :: l => (x.1, x.2.1, x.2.2.2) :: (x.2.1, x.1, -x.2.2.2) :: hv l
def hv_r (A : List gA) (i : Nat) : Int64 := if i % 2 = 0 then (A.getD (i / 2) gd).2.2.1 else 0
theorem hv_len : ∀ A : List gA, (hv A).length = 2 * A.length
  | [] => rfl
  | x :: l => by
    show (hv l).length + 1 + 1 = 2 * (l.length + 1)
    rw [hv_len l]
    omega
theorem hv_app : ∀ (A : List gA) (x : gA), hv (A ++ [x]) = hv A ++ [(x.1, x.2.1, x.2.2.2)] ++ [(x.2.1, x.1, -x.2.2.2)]
  | [], _ => rfl
  | y :: l, x => by
    show _ :: _ :: hv (l ++ [x]) = _
    rw [hv_app l x]
    rfl
theorem hv_r_lt (A : List gA) (x : gA) (i : Nat) (h : i < 2 * A.length) : hv_r (A ++ [x]) i = hv_r A i := by
  unfold hv_r
  have : i / 2 < A.length := by omega
  simp [List.getD_eq_getElem?_getD, List.getElem?_append, this]
theorem hv_r_0 (A : List gA) (x : gA) : hv_r (A ++ [x]) (2 * A.length) = x.2.2.1 := by
  unfold hv_r
  rw [if_pos (by omega), show 2 * A.length / 2 = A.length by omega]
  simp [List.getD_eq_getElem?_getD]
theorem hv_r_1 (A : List gA) (i : Nat) : hv_r A (2 * i + 1) = 0 := if_neg (by omega)
theorem rc_arc (r : Nat) (R : rf_R) (A : List gA) (g : rf_HG R (hv A) (hv_r A)) (hn : A.length < 23999) (a b : Nat) (ha : a < 2882) (hb : b < 2882) (room : Int64) (cost : Int32) : ∃ R2, rf_C 197 r [.ref r, .int (nI a), .int (nI b), .long room, .int cost] R none R2 ∧ rf_kG R R2 ∧ rf_HG R2 (hv (A ++ [(a, b, room, cost)])) (hv_r (A ++ [(a, b, room, cost)])) := by
  have hl := hv_len A
  obtain ⟨R1, c1, k1, g1⟩ := rc_half r R (hv A) (hv_r A) (hv_r (A ++ [(a, b, room, cost)])) g (by omega) a b ha room cost (fun i hi => hv_r_lt A _ i (by omega)) (by rw [hl]; exact hv_r_0 A _)
  have hl2 : (hv A ++ [(a, b, cost)]).length = 2 * A.length + 1 := by rw [List.length_append, hl]; rfl
  obtain ⟨R2, c2, k2, g2⟩ := rc_half r R1 (hv A ++ [(a, b, cost)]) (hv_r (A ++ [(a, b, room, cost)])) (hv_r (A ++ [(a, b, room, cost)])) g1 (by omega) b a hb 0 (-cost) (fun i hi => rfl) (by rw [hl2]; exact hv_r_1 _ _)
  refine ⟨R2, ?_, k1.tr k2, by rw [hv_app]; exact g2⟩
  intro h H
  show rf_G r 197 0 [.ref r, .int (nI a), .int (nI b), .long room, .retAddr 0, .int cost] [] h _ _
  refine rf_G.step (pc' := 1) (st' := [_]) rfl rfl ?_
  refine rf_G.step (pc' := 2) (st' := [_, _]) rfl rfl ?_
  refine rf_G.step (pc' := 3) (st' := [_, _, _]) rfl rfl ?_
  refine rf_G.step (pc' := 4) (st' := [_, _, _, _]) rfl rfl ?_
  refine rf_G.step (pc' := 6) (st' := [_, _, _, _, _]) rfl rfl ?_
  refine rf_G.v4V H rfl (by decide) rfl ⟨Nat.le_of_ble_eq_true rfl, rfl⟩ (Nat.le_of_ble_eq_true rfl) (c1) (fun h H => ?_)
  refine rf_G.step (pc' := 10) (st' := [_]) rfl rfl ?_
  refine rf_G.step (pc' := 11) (st' := [_, _]) rfl rfl ?_
  refine rf_G.step (pc' := 12) (st' := [_, _, _]) rfl rfl ?_
  refine rf_G.step (pc' := 13) (st' := [_, _, _, _]) rfl rfl ?_
  refine rf_G.step (pc' := 15) (st' := [_, _, _, _, _]) rfl rfl ?_
  refine rf_G.step (pc' := 16) (st' := [_, _, _, _, _]) rfl rfl ?_
  refine rf_G.v4V H rfl (by decide) rfl ⟨Nat.le_of_ble_eq_true rfl, rfl⟩ (Nat.le_of_ble_eq_true rfl) (c2) (fun h H => ?_)
  exact rf_G.ret H rfl rfl
