/-! the reference's graph as pairs of arcs; a push -/
def pT (A : List gA) (i : Nat) : Nat := ((hv A).getD i hd).1
def pY (A : List gA) (i : Nat) : Nat := ((hv A).getD i hd).2.1
def pC (A : List gA) (i : Nat) : Int := ((hv A).getD i hd).2.2.toInt
def pcap (A : List gA) (e : Nat) : Int := (A.getD e gd).2.2.1.toInt
def pr (ρ : Nat → Int64) (i : Nat) : Int := (ρ i).toInt
def pr_wf (A : List gA) : Prop := A.length ≤ 11880 ∧ ∀ e, e < A.length → (A.getD e gd).1 < 2882 ∧ (A.getD e gd).2.1 < 2882 ∧ (-1000000 ≤ (A.getD e gd).2.2.2.toInt ∧ (A.getD e gd).2.2.2.toInt ≤ 1000000) ∧ (0 ≤ (A.getD e gd).2.2.1.toInt ∧ (A.getD e gd).2.2.1.toInt ≤ 2 ^ 50)
theorem hv_get : ∀ (A : List gA) (e : Nat), e < A.length → (hv A).getD (2 * e) hd = ((A.getD e gd).1, (A.getD e gd).2.1, (A.getD e gd).2.2.2) ∧ (hv A).getD (2 * e + 1) hd = ((A.getD e gd).2.1, (A.getD e gd).1, -(A.getD e gd).2.2.2)
  | [], e, h => absurd h (by simp)
  | x :: l, 0, _ => ⟨rfl, rfl⟩
  | x :: l, e + 1, h => by
    have := hv_get l e (by rw [List.length_cons] at h; omega)
    rw [show 2 * (e + 1) = 2 * e + 1 + 1 by omega]
    exact this
theorem rf_neg {c : Int32} (h : -1000000 ≤ c.toInt ∧ c.toInt ≤ 1000000) : (-c).toInt = -c.toInt := by
  rw [Int32.toInt_neg]
  exact Int.bmod_eq_of_le (by omega) (by omega)
theorem pr_pair {A : List gA} (wf : pr_wf A) : fl_pair A.length (pT A) (pY A) (pC A) := by
  intro e he
  obtain ⟨h1, h2⟩ := hv_get A e he
  unfold pT pY pC
  rw [h1, h2]
  exact ⟨rfl, rfl, rf_neg (wf.2 e he).2.2.1⟩
theorem pr_half {A : List gA} {i : Nat} (h : i < 2 * A.length) : ∃ e, e < A.length ∧ (i = 2 * e ∨ i = 2 * e + 1) := ⟨i / 2, by omega, by omega⟩
theorem pr_sp {A : List gA} (wf : pr_wf A) : sp_wf (hv A) := by
  refine ⟨by rw [hv_len]; have := wf.1; omega, fun i hi => ?_⟩
  rw [hv_len] at hi
  obtain ⟨e, he, q⟩ := pr_half hi
  obtain ⟨h1, h2⟩ := hv_get A e he
  obtain ⟨g1, g2, g3, -⟩ := wf.2 e he
  rcases q with rfl | rfl
  · rw [h1]
    exact ⟨g1, g2, g3⟩
  · rw [h2]
    have := rf_neg g3
    exact ⟨g2, g1, by dsimp only; omega, by dsimp only; omega⟩
theorem pr_sd {A : List gA} : sd_pair (hv A) := by
  intro i hi
  rw [hv_len] at hi
  obtain ⟨e, he, q⟩ := pr_half hi
  obtain ⟨h1, h2⟩ := hv_get A e he
  rw [hv_len]
  rcases q with rfl | rfl
  · rw [fl_x0, h1, h2]
    exact ⟨by omega, rfl⟩
  · rw [fl_x1, h1, h2]
    exact ⟨by omega, rfl⟩
theorem pr_z {x : Int64} : x.toInt = 0 ↔ x = 0 := by
  constructor
  · intro h
    exact Int64.toInt_inj.mp (h.trans (by decide))
  · intro h
    rw [h]
    decide
theorem pr_pot {A : List gA} {ρ : Nat → Int64} {p : Nat → Int} : sp_pot (hv A) ρ p ↔ fl_pv A.length (pT A) (pY A) (pC A) (pr ρ) p := by
  constructor
  · intro h i hi hr
    exact h i (by rw [hv_len]; exact hi) (fun q => hr (pr_z.mpr q))
  · intro h i hi hr
    rw [hv_len] at hi
    exact h i hi (fun q => hr (pr_z.mp q))
theorem pr_le {A : List gA} (wf : pr_wf A) {ρ : Nat → Int64} (ok : fl_ok A.length (pcap A) (pr ρ)) {i : Nat} (hi : i < 2 * A.length) : 0 ≤ pr ρ i ∧ pr ρ i + pr ρ (i ^^^ 1) ≤ 2 ^ 50 ∧ 0 ≤ pr ρ (i ^^^ 1) ∧ i ^^^ 1 < 2 * A.length := by
  obtain ⟨e, he, q⟩ := pr_half hi
  obtain ⟨h1, h2, h3⟩ := ok e he
  have h4 := (wf.2 e he).2.2.2.2
  have h5 : pcap A e ≤ 2 ^ 50 := h4
  rcases q with rfl | rfl
  · rw [fl_x0]
    omega
  · rw [fl_x1]
    omega
theorem pr_one {A : List gA} (wf : pr_wf A) {ρ : Nat → Int64} (ok : fl_ok A.length (pcap A) (pr ρ)) {δ : Int64} (hδ : 0 ≤ δ.toInt) {i : Nat} (hi : i < 2 * A.length) (hd : δ.toInt ≤ pr ρ i) : ∀ j, j < 2 * A.length → pr (sd_one ρ δ i) j = fl_one (pr ρ) δ.toInt i j := by
  intro j hj
  obtain ⟨g1, g2, g3, g4⟩ := pr_le wf ok hi
  have hne : ¬ i ^^^ 1 = i := by
    obtain ⟨e, he, q⟩ := pr_half hi
    rcases q with rfl | rfl
    · rw [fl_x0]
      omega
    · rw [fl_x1]
      omega
  unfold pr sd_one fl_one vp_updL
  unfold pr at g1 g2 g3 hd
  by_cases e1 : j = i ^^^ 1
  · rw [if_pos e1, if_neg hne, if_neg (by rw [e1]; exact hne), if_pos e1, Int64.toInt_add, e1]
    exact Int.bmod_eq_of_le (by omega) (by omega)
  · rw [if_neg e1]
    by_cases e2 : j = i
    · rw [if_pos e2, if_pos e2, Int64.toInt_sub]
      exact Int.bmod_eq_of_le (by omega) (by omega)
    · rw [if_neg e2, if_neg e2, if_neg e1]
theorem fl_ok_congr {m : Nat} {cap r r2 : Nat → Int} (h : ∀ j, j < 2 * m → r j = r2 j) (ok : fl_ok m cap r) : fl_ok m cap r2 := by
  intro e he
  rw [← h (2 * e) (by omega), ← h (2 * e + 1) (by omega)]
  exact ok e he
theorem fl_wt_congr {m : Nat} {w r r2 : Nat → Int} (h : ∀ j, j < 2 * m → r j = r2 j) : fl_wt m w r = fl_wt m w r2 := fl_sum_congr m (fun e he => by rw [h (2 * e + 1) (by omega)])
theorem fl_pv_congr {m : Nat} {T Y : Nat → Nat} {C r r2 p : Nat → Int} (h : ∀ j, j < 2 * m → r j = r2 j) (pv : fl_pv m T Y C r p) : fl_pv m T Y C r2 p := fun i hi hr => pv i hi (by rw [h i hi]; exact hr)
theorem fl_one_congr {m : Nat} {r r2 : Nat → Int} (h : ∀ j, j < 2 * m → r j = r2 j) {δ : Int} {i : Nat} (hi : i < 2 * m) : ∀ j, j < 2 * m → fl_one r δ i j = fl_one r2 δ i j := by
  intro j hj
  unfold fl_one
  rw [h i hi, h j hj]
theorem fl_up_congr {m : Nat} {δ : Int} : ∀ (l : List Nat) {r r2 : Nat → Int}, (∀ i, i ∈ l → i < 2 * m) → (∀ j, j < 2 * m → r j = r2 j) → ∀ j, j < 2 * m → fl_up δ r l j = fl_up δ r2 l j
  | [], _, _, _, h => h
  | i :: l, _, _, hl, h => fl_up_congr l (fun j hj => hl j (List.mem_cons_of_mem _ hj)) (fl_one_congr h (hl i (List.mem_cons_self ..)))
theorem pr_up {A : List gA} (wf : pr_wf A) {δ : Int64} (hδ : 0 ≤ δ.toInt) : ∀ (l : List Nat) {ρ : Nat → Int64}, l.Nodup → (∀ i, i ∈ l → i < 2 * A.length ∧ δ.toInt ≤ pr ρ i) → fl_ok A.length (pcap A) (pr ρ) → ∀ j, j < 2 * A.length → pr (sd_up δ ρ l) j = fl_up δ.toInt (pr ρ) l j
  | [], _, _, _, _ => fun _ _ => rfl
  | i :: l, ρ, hn, hl, ok => by
    obtain ⟨n1, n2⟩ := List.nodup_cons.mp hn
    obtain ⟨h1, h2⟩ := hl i (List.mem_cons_self ..)
    have e1 := pr_one wf ok hδ h1 h2
    have ok2 : fl_ok A.length (pcap A) (pr (sd_one ρ δ i)) := fl_ok_congr (fun j hj => (e1 j hj).symm) (fl_one_ok hδ h2 ok)
    intro j hj
    refine (pr_up wf hδ l (ρ := sd_one ρ δ i) n2 (fun k hk => ?_) ok2 j hj).trans (fl_up_congr l (fun k hk => (hl k (List.mem_cons_of_mem _ hk)).1) e1 j hj)
    obtain ⟨g1, g2⟩ := hl k (List.mem_cons_of_mem _ hk)
    refine ⟨g1, ?_⟩
    rw [e1 k g1]
    have := fl_one_ge (r := pr ρ) hδ (fun q : k = i => n1 (q ▸ hk))
    omega
theorem sd_min_le (ρ : Nat → Int64) : ∀ (l : List Nat) (m : Int64), (sd_min ρ m l).toInt ≤ m.toInt ∧ ∀ i, i ∈ l → (sd_min ρ m l).toInt ≤ (ρ i).toInt
  | [], m => ⟨Int.le_refl _, fun i hi => absurd hi (by simp)⟩
  | i :: l, m => by
    obtain ⟨h1, h2⟩ := sd_min_le ρ l (if ρ i < m then ρ i else m)
    have h3 : (if ρ i < m then ρ i else m).toInt ≤ m.toInt ∧ (if ρ i < m then ρ i else m).toInt ≤ (ρ i).toInt := by
      by_cases z : ρ i < m
      · rw [if_pos z]
        have := Int64.lt_iff_toInt_lt.mp z
        omega
      · rw [if_neg z]
        have := fun q => z (Int64.lt_iff_toInt_lt.mpr q)
        exact ⟨Int.le_refl _, Int.not_lt.mp this⟩
    refine ⟨Int.le_trans h1 h3.1, fun j hj => ?_⟩
    rcases List.mem_cons.mp hj with q | q
    · subst q
      exact Int.le_trans h1 h3.2
    · exact h2 j q
theorem sd_min_pos (ρ : Nat → Int64) : ∀ (l : List Nat) (m : Int64), 0 < m.toInt → (∀ i, i ∈ l → 0 < (ρ i).toInt) → 0 < (sd_min ρ m l).toInt
  | [], m, h, _ => h
  | i :: l, m, h, hl => by
    refine sd_min_pos ρ l _ ?_ (fun j hj => hl j (List.mem_cons_of_mem _ hj))
    split
    · exact hl i (List.mem_cons_self ..)
    · exact h
/-- labels that hold: no way leads from a reached node to one that is not -/
def pr_fv (A : List gA) (ρ : Nat → Int64) (F : Nat → Option Int) : Prop := ∀ i, i < 2 * A.length → ¬ pr ρ i = 0 → ∀ x, F (pT A i) = some x → ∃ y, F (pY A i) = some y ∧ y ≤ x + pC A i
theorem pr_fv_of {A : List gA} (wf : pr_wf A) {ρ : Nat → Int64} {p : Nat → Int} (po : sp_pot (hv A) ρ p) {F : Nat → Option Int} (hF : ∀ v x, F v = some x ↔ sp_D (sp_adj (hv A) ρ) 2880 v x) : pr_fv A ρ F := by
  intro i hi hr x hx
  have ok := sp_adj_ok (pr_sp wf) po (s := 2880) (by decide)
  obtain ⟨⟨k, hk⟩, hm⟩ := (hF _ x).mp hx
  have hadj : (pY A i, pC A i) ∈ sp_adj (hv A) ρ (pT A i) := sp_adj_mem.mpr ⟨i, by rw [hv_len]; exact hi, rfl, fun q => hr (pr_z.mpr q), rfl⟩
  have hw : sp_W (sp_adj (hv A) ρ) 2880 (k + 1) (pY A i) (x + pC A i) := ⟨_, x, _, hk, hadj, rfl⟩
  obtain ⟨y, hy⟩ := sp_D_ex ok hw
  exact ⟨y, (hF _ y).mpr hy, hy.2 _ _ hw⟩
/-- what is known of a flow in the rooms, and of what it cost -/
def pr_ok (A : List gA) (ρ : Nat → Int64) (D : Int) (c : Int64) : Prop := fl_ok A.length (pcap A) (pr ρ) ∧ fl_div A.length (pT A) (pY A) (pr ρ) 2880 2881 D ∧ c = Int64.ofInt (fl_cost A.length (pC A) (pr ρ))
theorem bp_way {F : Nat → Option Int} {A : List gA} {ρ : Nat → Int64} {cb : Nat → Int32} : ∀ {l : List Nat} {b : Nat}, bp F (hv A) ρ cb b l → fl_way (pT A) (pY A) 2880 b l ∧ ∀ i, i ∈ l → i < 2 * A.length ∧ ¬ pr ρ i = 0 ∧ ∃ x, F (pT A i) = some x ∧ F (pY A i) = some (x + pC A i)
  | [], _, h => ⟨h, fun i hi => absurd hi (by simp)⟩
  | i :: l, b, h => by
    obtain ⟨h1, h2, h3, h4, h5⟩ := h
    obtain ⟨g1, g2⟩ := bp_way h5
    refine ⟨⟨h4, g1⟩, fun j hj => ?_⟩
    rcases List.mem_cons.mp hj with q | q
    · subst q
      exact ⟨by rw [← hv_len]; exact h3.1, fun q => h3.2.1 (pr_z.mp q), h3.2.2⟩
    · exact g2 j q
theorem pr_push {A : List gA} (wf : pr_wf A) {ρ : Nat → Int64} {D : Int} {c : Int64} (ok : pr_ok A ρ D c) {F : Nat → Option Int} {P : Nat → Int} (hP : ∀ v x, F v = some x → P v = x) (pv : fl_pv A.length (pT A) (pY A) (pC A) (pr ρ) P) (fv : pr_fv A ρ F) {cb : Nat → Int32} {l : List Nat} {t : Int} (h0 : F 2880 = some 0) (ht : F 2881 = some t) (b : bp F (hv A) ρ cb 2881 l) (nd : (l.map (fun i => ((hv A).getD i hd).2.1)).Nodup) : 0 < (sd_min ρ 1125899906842624 l).toInt ∧ pr_ok A (sd_up (sd_min ρ 1125899906842624 l) ρ l) (D + (sd_min ρ 1125899906842624 l).toInt) (c + Int64.ofInt t * sd_min ρ 1125899906842624 l) ∧ fl_pv A.length (pT A) (pY A) (pC A) (pr (sd_up (sd_min ρ 1125899906842624 l) ρ l)) P ∧ pr_fv A (sd_up (sd_min ρ 1125899906842624 l) ρ l) F := by
  obtain ⟨w1, w2⟩ := bp_way b
  obtain ⟨o1, o2, o3⟩ := ok
  have ln : l.Nodup := (List.pairwise_map.mp nd).imp (fun h q => h (by rw [q]))
  have pos : ∀ i, i ∈ l → 0 < (ρ i).toInt := by
    intro i hi
    obtain ⟨g1, g2, -⟩ := w2 i hi
    have := (pr_le wf o1 g1).1
    unfold pr at this g2
    omega
  have m1 := sd_min_pos ρ l 1125899906842624 (by decide) pos
  have m2 := (sd_min_le ρ l 1125899906842624).2
  generalize sd_min ρ 1125899906842624 l = δ at *
  have hd0 : 0 ≤ δ.toInt := by omega
  have hl : ∀ i, i ∈ l → i < 2 * A.length ∧ δ.toInt ≤ pr ρ i := fun i hi => ⟨(w2 i hi).1, m2 i hi⟩
  have e := pr_up wf hd0 l ln hl o1
  have tight : ∀ i, i ∈ l → P (pY A i) = P (pT A i) + pC A i := by
    intro i hi
    obtain ⟨-, -, x, q1, q2⟩ := w2 i hi
    rw [hP _ _ q1, hP _ _ q2]
  have hpr := pr_pair wf
  refine ⟨m1, ⟨?_, ?_, ?_⟩, ?_, ?_⟩
  · exact fl_ok_congr (fun j hj => (e j hj).symm) (fl_up_ok hd0 l ln (fun i hi => (hl i hi).2) o1)
  · intro p
    rw [fl_wt_congr e, fl_up_wt _ _ l _ (fun i hi => (hl i hi).1), o2 p, fl_way_p hpr p (fun i hi => (hl i hi).1) w1, Int.add_mul]
  · unfold fl_cost
    rw [fl_wt_congr e, fl_up_wt _ _ l _ (fun i hi => (hl i hi).1), fl_way_c hpr P (fun i hi => ⟨(hl i hi).1, tight i hi⟩) w1, hP _ _ ht, hP _ _ h0, Int64.ofInt_add, Int64.ofInt_mul, Int64.ofInt_toInt, o3, Int.sub_zero]
    rw [Int64.mul_comm]
    rfl
  · exact fl_pv_congr (fun j hj => (e j hj).symm) (fl_up_pv hpr m1 l ln (fun i hi => ⟨(hl i hi).1, (hl i hi).2, tight i hi⟩) pv)
  · -- what is reached stays closed
    have nz : ∀ (l : List Nat) (r : Nat → Int), l.Nodup → (∀ i, i ∈ l → i < 2 * A.length ∧ δ.toInt ≤ r i) → ∀ j, ¬ fl_up δ.toInt r l j = 0 → ¬ r j = 0 ∨ ∃ i, i ∈ l ∧ j = i ^^^ 1 := by
      intro l
      induction l with
      | nil => exact fun r _ _ j h => Or.inl h
      | cons i l ih =>
        intro r hn hl j h
        obtain ⟨n1, n2⟩ := List.nodup_cons.mp hn
        have hi := hl i (List.mem_cons_self ..)
        rcases ih (fl_one r δ.toInt i) n2 (fun k hk => by
          have g := hl k (List.mem_cons_of_mem _ hk)
          have := fl_one_ge (r := r) hd0 (fun q : k = i => n1 (q ▸ hk))
          exact ⟨g.1, by omega⟩) j h with q | ⟨k, q1, q2⟩
        · rcases fl_one_nz (by omega) q with q | q
          · exact Or.inl q
          · exact Or.inr ⟨i, List.mem_cons_self .., q⟩
        · exact Or.inr ⟨k, List.mem_cons_of_mem _ q1, q2⟩
    intro j hj hr x hx
    rw [e j hj] at hr
    rcases nz l (pr ρ) ln hl j hr with q | ⟨i, q1, q2⟩
    · exact fv j hj q x hx
    · obtain ⟨g1, -, y, g3, g4⟩ := w2 i q1
      have tj : pT A j = pY A i ∧ pY A j = pT A i ∧ pC A j = -pC A i := by
        subst q2
        obtain ⟨e0, he, q⟩ := pr_half g1
        have hh := hpr e0 he
        rcases q with rfl | rfl
        · rw [fl_x0]
          exact hh
        · rw [fl_x1]
          exact ⟨hh.2.1.symm, hh.1.symm, by omega⟩
      rw [tj.1, g4] at hx
      have := Option.some.inj hx
      have := tj.2.2
      exact ⟨y, by rw [tj.2.1]; exact g3, by omega⟩
