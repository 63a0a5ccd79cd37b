/-! the works' network: how it is built, what its arcs are -/
theorem fb_tst : ∀ c : Fin 12, ∀ a : Fin 64, ∀ b : Fin 64, decide (((nI (64 * a.1 + b.1) >>> (nI c.1 &&& 31)) &&& 1) = 1) = (64 * a.1 + b.1).testBit c.1 := by decide +kernel
theorem fb_at {m c : Nat} (hm : m < 4096) (h : c < 12) : ((nI m >>> (nI c &&& 31)) &&& 1 = 1) ↔ m.testBit c = true := by
  have q := fb_tst ⟨c, h⟩ ⟨m / 64, by omega⟩ ⟨m % 64, by omega⟩
  have e : 64 * (m / 64) + m % 64 = m := by omega
  simp only [e] at q
  rw [← q, decide_eq_true_iff]
section
variable {N : Nat → Int32} {T : tv} {L : List Int32} {w : Int32}
theorem tl_bt3 (t : tls T N) {i : Nat} (hi : i < T.2.1) : (sv_bt (T.2.2.1 i) ↔ 3 ≤ N (2 + 24 * i)) ∧ (sv_hot (T.2.2.1 i) = 0 ↔ ¬ hotB N i = true) ∧ (3 ≤ N (2 + 24 * i) → (hotB N i = true ↔ N (2 + 24 * i) = 3)) := by
  obtain ⟨e, ok⟩ := t.2.1 i hi
  rw [e]
  have e3 : ¬ 3 ≤ N (2 + 24 * i) ↔ N (2 + 24 * i) < 3 := by
    rw [Int32.le_iff_toInt_le, lv_i]
    omega
  have k := tl_k ok
  refine ⟨?_, ?_, fun h => ?_⟩
  · show N (2 + 24 * i) = 3 ∨ N (2 + 24 * i) = 4 ↔ _
    constructor
    · intro q
      by_cases z : 3 ≤ N (2 + 24 * i)
      · exact z
      · exact absurd q (k.mp (e3.mp z))
    · intro q
      by_cases z : N (2 + 24 * i) = 3 ∨ N (2 + 24 * i) = 4
      · exact z
      · exact absurd q (e3.mpr (k.mpr z))
  · show N (2 + 24 * i + 1) = 0 ↔ _
    rw [hotB_t]
    rcases ok.1 with z | z
    · rw [z]
      decide
    · rw [z]
      decide
  · rw [hotB_t]
    obtain ⟨-, -, -, c⟩ := ok
    rcases c with ⟨a, -⟩ | ⟨⟨a, b⟩ | ⟨a, b⟩, -⟩ | ⟨a, -⟩
    · rw [a] at h
      exact absurd h (by decide)
    · rw [a, b]
      decide
    · rw [a, b]
      decide
    · rcases a with a | a <;> rw [a] at h <;> exact absurd h (by decide)
theorem tl_may (t : tls T N) {i j : Nat} (hi : i < T.2.1) (hj : j < T.2.1) (ci : ¬ hotB N i = true) : pz_may T j i ↔ hotB N j = true ∧ gr_may N j i := by
  have hM := t.k.1
  obtain ⟨m, e, hm, hb⟩ := t.2.2.2.2 j (by omega)
  obtain ⟨b1, b2, b3⟩ := tl_bt3 t hi
  obtain ⟨c1, c2, c3⟩ := tl_bt3 t hj
  show ¬ sv_hot (T.2.2.1 j) = 0 ∧ ¬ (sv_bt (T.2.2.1 i) ∧ sv_bt (T.2.2.1 j)) ∧ ¬ ((T.2.2.2.2.2 j >>> (nI i &&& 31)) &&& 1 = 1) ↔ _ ∧ N (2 + 24 * j + 1) = 1 ∧ ¬ N (678 + 12 * j + i) = 1 ∧ ¬ (3 ≤ N (2 + 24 * i) ∧ N (2 + 24 * j) = 3)
  rw [e, fb_at hm (show i < 12 by omega), (hb i (by omega)).1, b1, c1, c2, ← hotB_t]
  constructor
  · rintro ⟨h1, h2, h3⟩
    have hh : hotB N j = true := Decidable.of_not_not h1
    exact ⟨hh, hh, h3, fun q => h2 ⟨q.1, by rw [q.2]; decide⟩⟩
  · rintro ⟨h1, h2, h3, h4⟩
    exact ⟨fun q => q h1, fun q => h4 ⟨q.1, (c3 q.2).mp h1⟩, h3⟩
/-- what heat the works have at a place -/
def hcl (T : tv) (L : List Int32) (w : Int32) (c : Nat) : Int := (pz_h T L w (c / 240) (c % 240 / 2) (c % 240 % 2)).toInt
/-- the places in the order in which they get their nodes -/
def qk_gv (h : Int32) (x : Nat) (c : List Nat) : List Nat := if h = 0 then c else c ++ [x]
def qk_p1 (T : tv) (L : List Int32) (w : Int32) (k l : Nat) (c : List Nat) : Nat → List Nat
  | 0 => c
  | i + 1 => if sv_hot (T.2.2.1 i) = 0 then qk_p1 T L w k l c i else qk_gv (pz_h T L w i k l) (240 * i + (2 * k + l)) (qk_p1 T L w k l c i)
def qk_p2 (T : tv) (L : List Int32) (w : Int32) (k l : Nat) (c : List Nat) : Nat → List Nat
  | 0 => c
  | i + 1 => if sv_hot (T.2.2.1 i) = 0 then qk_gv (pz_h T L w i k l) (240 * i + (2 * k + l)) (qk_p2 T L w k l c i) else qk_p2 T L w k l c i
def qk_pl (T : tv) (L : List Int32) (w : Int32) (k l : Nat) (c : List Nat) : List Nat := qk_p2 T L w k l (qk_p1 T L w k l c T.2.1) T.2.1
def qk_a (T : tv) (L : List Int32) (w : Int32) : Nat → List Nat
  | 0 => []
  | k + 1 => qk_pl T L w k 1 (qk_pl T L w k 0 (qk_a T L w k))
/-- whatever every step of the building keeps -/
theorem pz_run (T : tv) (L : List Int32) (w : Int32) (I1 I2 : Nat → Nat → pz → List Nat → Prop) (h0 : I1 0 0 (4, [], fun _ => none) []) (s1 : ∀ p i Z c, p < 2 * L.length → i < T.2.1 → ¬ sv_hot (T.2.2.1 i) = 0 → I1 p i Z c → I1 p (i + 1) (pz_gv T w i (pz_h T L w i (p / 2) (p % 2)) Z) (qk_gv (pz_h T L w i (p / 2) (p % 2)) (240 * i + p) c)) (s1n : ∀ p i Z c, p < 2 * L.length → i < T.2.1 → sv_hot (T.2.2.1 i) = 0 → I1 p i Z c → I1 p (i + 1) Z c) (s12 : ∀ p Z c, p < 2 * L.length → I1 p T.2.1 Z c → I2 p 0 Z c) (s2 : ∀ p i Z c, p < 2 * L.length → i < T.2.1 → sv_hot (T.2.2.1 i) = 0 → I2 p i Z c → I2 p (i + 1) (pz_tk T w i (pz_h T L w i (p / 2) (p % 2)) Z) (qk_gv (pz_h T L w i (p / 2) (p % 2)) (240 * i + p) c)) (s2n : ∀ p i Z c, p < 2 * L.length → i < T.2.1 → ¬ sv_hot (T.2.2.1 i) = 0 → I2 p i Z c → I2 p (i + 1) Z c) (s21 : ∀ p Z c, p < 2 * L.length → I2 p T.2.1 Z c → I1 (p + 1) 0 Z c) : I1 (2 * L.length) 0 (pz_a T L w L.length) (qk_a T L w L.length) := by
  have p1 : ∀ k l Z c, 2 * k + l < 2 * L.length → l < 2 → I1 (2 * k + l) 0 Z c → ∀ i, i ≤ T.2.1 → I1 (2 * k + l) i (pz_p1 T L w k l Z i) (qk_p1 T L w k l c i) := by
    intro k l Z c hp hl h i
    induction i with
    | zero => exact fun _ => h
    | succ i ih =>
      intro hi
      have ih := ih (by omega)
      unfold pz_p1 qk_p1
      by_cases z : sv_hot (T.2.2.1 i) = 0
      · rw [if_pos z, if_pos z]
        exact s1n _ _ _ _ hp (by omega) z ih
      · rw [if_neg z, if_neg z]
        have q := s1 _ _ _ _ hp (show i < T.2.1 by omega) z ih
        rw [show (2 * k + l) / 2 = k by omega, show (2 * k + l) % 2 = l by omega] at q
        exact q
  have p2 : ∀ k l Z c, 2 * k + l < 2 * L.length → l < 2 → I2 (2 * k + l) 0 Z c → ∀ i, i ≤ T.2.1 → I2 (2 * k + l) i (pz_p2 T L w k l Z i) (qk_p2 T L w k l c i) := by
    intro k l Z c hp hl h i
    induction i with
    | zero => exact fun _ => h
    | succ i ih =>
      intro hi
      have ih := ih (by omega)
      unfold pz_p2 qk_p2
      by_cases z : sv_hot (T.2.2.1 i) = 0
      · rw [if_pos z, if_pos z]
        have q := s2 _ _ _ _ hp (show i < T.2.1 by omega) z ih
        rw [show (2 * k + l) / 2 = k by omega, show (2 * k + l) % 2 = l by omega] at q
        exact q
      · rw [if_neg z, if_neg z]
        exact s2n _ _ _ _ hp (by omega) z ih
  have pl : ∀ k l Z c, 2 * k + l < 2 * L.length → l < 2 → I1 (2 * k + l) 0 Z c → I1 (2 * k + l + 1) 0 (pz_pl T L w k l Z) (qk_pl T L w k l c) := fun k l Z c hp hl h => s21 _ _ _ hp (p2 k l _ _ hp hl (s12 _ _ _ hp (p1 k l Z c hp hl h T.2.1 (Nat.le_refl _))) T.2.1 (Nat.le_refl _))
  have all : ∀ k, k ≤ L.length → I1 (2 * k) 0 (pz_a T L w k) (qk_a T L w k) := by
    intro k
    induction k with
    | zero => exact fun _ => h0
    | succ k ih =>
      intro hk
      have a := pl k 0 _ _ (by omega) (by decide) (ih (by omega))
      exact pl k 1 _ _ (by omega) (by decide) a
  exact all _ (Nat.le_refl _)
/-- the place of a node -/
def cdv (CL : List Nat) (v : Nat) : Nat := if v = 0 ∨ v = 2 then 2880 else if v < 4 then 2881 else CL.getD (v - 4) 0
theorem cdv_new {CL c : List Nat} {x : Nat} (h : c ++ [x] <+: CL) : cdv CL (4 + c.length) = x := by
  obtain ⟨r, rfl⟩ := h
  unfold cdv
  rw [if_neg (by omega), if_neg (by omega), show 4 + c.length - 4 = c.length by omega, List.getD_eq_getElem?_getD, List.append_assoc, List.getElem?_append_right (Nat.le_refl _), Nat.sub_self]
  rfl
theorem pf_l {CL c : List Nat} {x : Nat} (h : c ++ [x] <+: CL) : c <+: CL := by
  obtain ⟨r, e⟩ := h
  exact ⟨[x] ++ r, by rw [← List.append_assoc]; exact e⟩
theorem px_mem {i n : Nat} {lt : Nat → Option Nat} {a : gA} : ∀ k, a ∈ pz_x T w i lt n k → ∃ j x, j < k ∧ pz_may T j i ∧ lt j = some x ∧ a = (x, n, w.toInt64, 0)
  | 0, h => absurd h List.not_mem_nil
  | k + 1, h => by
    unfold pz_x at h
    by_cases z : pz_may T k i
    · rw [if_pos z, List.mem_append] at h
      rcases h with h | h
      · obtain ⟨j, x, h1, h2⟩ := px_mem k h
        exact ⟨j, x, by omega, h2⟩
      · unfold pz_o at h
        cases e : lt k with
        | none =>
          rw [e] at h
          exact absurd h List.not_mem_nil
        | some x =>
          rw [e] at h
          exact ⟨k, x, by omega, z, e, List.mem_singleton.mp h⟩
    · rw [if_neg z] at h
      obtain ⟨j, x, h1, h2⟩ := px_mem k h
      exact ⟨j, x, by omega, h2⟩
theorem ls_px (ψ : gA → Int) (i n : Nat) (lt : Nat → Option Nat) : ∀ k, ls ψ (pz_x T w i lt n k) = fl_sum (fun j => if pz_may T j i then ls ψ (pz_o (lt j) n w) else 0) k
  | 0 => rfl
  | k + 1 => by
    have ih := ls_px ψ i n lt k
    unfold pz_x
    show _ = fl_sum (fun j => if pz_may T j i then ls ψ (pz_o (lt j) n w) else 0) k + (if pz_may T k i then ls ψ (pz_o (lt k) n w) else 0)
    by_cases z : pz_may T k i
    · rw [if_pos z, if_pos z, ls_app, ih]
    · rw [if_neg z, if_neg z, ih, Int.add_zero]
/-- cost of a stream's heat -/
def cst (N : Nat → Int32) (i : Nat) : Int := if 3 ≤ N (2 + 24 * i) then (N (2 + 24 * i + 5)).toInt else 0
/-- what an arc of the works' network is -/
def ca_ok (T : tv) (N : Nat → Int32) (L : List Int32) (w : Int32) (CL : List Nat) (a : gA) : Prop := ty_ok (hotB N) (gr_may N) T.2.1 (2 * L.length) (cdv CL a.1) (cdv CL a.2.1) ∧ ((∃ s p, s < T.2.1 ∧ p < 2 * L.length ∧ hotB N s = true ∧ cdv CL a.2.1 = 240 * s + p ∧ 4 ≤ a.2.1 ∧ a.1 = (if 3 ≤ N (2 + 24 * s) then 2 else 0) ∧ a.2.2.1.toInt = hcl T L w (240 * s + p) ∧ a.2.2.2.toInt = cst N s) ∨ (∃ s p, s < T.2.1 ∧ p < 2 * L.length ∧ ¬ hotB N s = true ∧ cdv CL a.1 = 240 * s + p ∧ 4 ≤ a.1 ∧ a.2.1 = (if 3 ≤ N (2 + 24 * s) then 3 else 1) ∧ a.2.2.1.toInt = hcl T L w (240 * s + p) ∧ a.2.2.2.toInt = cst N s) ∨ (4 ≤ a.1 ∧ 4 ≤ a.2.1 ∧ cdv CL a.1 < 2880 ∧ cdv CL a.2.1 < 2880 ∧ a.2.2.1.toInt = w.toInt ∧ a.2.2.2.toInt = 0))
/-- the latest nodes -/
def lt_ok (N : Nat → Int32) (M p i : Nat) (CL : List Nat) (Z : pz) : Prop := ∀ j x, Z.2.2 j = some x → (4 ≤ x ∧ x < Z.1) ∧ cdv CL x < 2880 ∧ cdv CL x / 240 = j ∧ hotB N j = true ∧ j < M ∧ (cdv CL x % 240 < p ∨ (cdv CL x % 240 = p ∧ j < i))
theorem hcl_at {i p : Nat} (hp : p < 240) : hcl T L w (240 * i + p) = (pz_h T L w i (p / 2) (p % 2)).toInt := by
  unfold hcl
  rw [show (240 * i + p) / 240 = i by omega, show (240 * i + p) % 240 = p by omega]
theorem cdv_02 {CL : List Nat} {v : Nat} (h : v = 0 ∨ v = 2) : cdv CL v = 2880 := if_pos h
theorem cdv_13 {CL : List Nat} {v : Nat} (h : v = 1 ∨ v = 3) : cdv CL v = 2881 := by
  unfold cdv
  rw [if_neg (by omega), if_pos (by omega)]
theorem tl_cst (t : tls T N) {i : Nat} (hi : i < T.2.1) : (if sv_bt (T.2.2.1 i) then sv_am (T.2.2.1 i) else 0).toInt = cst N i := by
  obtain ⟨b1, -, -⟩ := tl_bt3 t hi
  obtain ⟨e, ok⟩ := t.2.1 i hi
  have e3 : ¬ 3 ≤ N (2 + 24 * i) ↔ N (2 + 24 * i) < 3 := by
    rw [Int32.le_iff_toInt_le, lv_i]
    omega
  unfold cst
  by_cases z : 3 ≤ N (2 + 24 * i)
  · rw [if_pos z, if_pos (b1.mpr z), e, tl_am ok, if_neg (fun q => (e3.mpr q) z)]
  · rw [if_neg z, if_neg (fun q => z (b1.mp q))]
    rfl
theorem cls_ty (t : tls T N) (hQ : 2 * L.length ≤ 239) : ∀ CL, qk_a T L w L.length <+: CL → (∀ a, a ∈ (pz_a T L w L.length).2.1 → (a.1 < (pz_a T L w L.length).1 ∧ a.2.1 < (pz_a T L w L.length).1) ∧ ca_ok T N L w CL a) ∧ (pz_a T L w L.length).1 = 4 + (qk_a T L w L.length).length := by
  have hM := t.k.1
  have run := pz_run T L w (fun p i Z c => Z.1 = 4 + c.length ∧ ∀ CL, c <+: CL → (∀ a, a ∈ Z.2.1 → (a.1 < Z.1 ∧ a.2.1 < Z.1) ∧ ca_ok T N L w CL a) ∧ lt_ok N T.2.1 p i CL Z) (fun p i Z c => Z.1 = 4 + c.length ∧ ∀ CL, c <+: CL → (∀ a, a ∈ Z.2.1 → (a.1 < Z.1 ∧ a.2.1 < Z.1) ∧ ca_ok T N L w CL a) ∧ lt_ok N T.2.1 p T.2.1 CL Z) ⟨rfl, fun CL _ => ⟨fun a h => absurd h List.not_mem_nil, fun j x h => absurd h (by intro q; cases q)⟩⟩ ?_ ?_ ?_ ?_ ?_ ?_
  · intro CL hCL
    exact ⟨(run.2 CL hCL).1, run.1⟩
  · rintro p i Z c hp hi hh ⟨hl, H⟩
    obtain ⟨b1, b2, b3⟩ := tl_bt3 t hi
    have hot : hotB N i = true := Decidable.of_not_not (fun q => hh (b2.mpr q))
    have eh : hcl T L w (240 * i + p) = (pz_h T L w i (p / 2) (p % 2)).toInt := hcl_at (by omega)
    unfold pz_gv qk_gv
    by_cases z : pz_h T L w i (p / 2) (p % 2) = 0
    · rw [if_pos z, if_pos z]
      refine ⟨hl, fun CL hc2 => ⟨(H CL hc2).1, fun j x h => ?_⟩⟩
      obtain ⟨q1, q2, q3, q4, q5, q6⟩ := (H CL hc2).2 j x h
      exact ⟨q1, q2, q3, q4, q5, by omega⟩
    · rw [if_neg z, if_neg z]
      refine ⟨by show Z.1 + 1 = 4 + (c ++ [240 * i + p]).length; rw [List.length_append]; show _ = 4 + (c.length + 1); omega, fun CL hc2 => ?_⟩
      obtain ⟨H1, H2⟩ := H CL (pf_l hc2)
      have ev : cdv CL Z.1 = 240 * i + p := by
        rw [hl]
        exact cdv_new hc2
      have nd : (240 * i + p) / 240 = i := by omega
      have nm : (240 * i + p) % 240 = p := by omega
      have es : (if sv_bt (T.2.2.1 i) then 2 else 0 : Nat) = if 3 ≤ N (2 + 24 * i) then 2 else 0 := by
        by_cases y : 3 ≤ N (2 + 24 * i)
        · rw [if_pos y, if_pos (b1.mpr y)]
        · rw [if_neg y, if_neg (fun q => y (b1.mp q))]
      refine ⟨fun a ha => ?_, fun j x h => ?_⟩
      · show (a.1 < Z.1 + 1 ∧ a.2.1 < Z.1 + 1) ∧ _
        rw [List.mem_append, List.mem_append, List.mem_singleton] at ha
        rcases ha with (ha | ha) | ha
        · obtain ⟨g1, g2⟩ := H1 a ha
          exact ⟨by omega, g2⟩
        · rw [ha]
          have s02 : (if sv_bt (T.2.2.1 i) then 2 else 0 : Nat) = 0 ∨ (if sv_bt (T.2.2.1 i) then 2 else 0 : Nat) = 2 := by
            split
            · exact Or.inr rfl
            · exact Or.inl rfl
          refine ⟨⟨by show (if sv_bt (T.2.2.1 i) then 2 else 0 : Nat) < Z.1 + 1; omega, by show Z.1 < Z.1 + 1; omega⟩, ?_, Or.inl ⟨i, p, hi, hp, hot, ev, by show 4 ≤ Z.1; omega, es, ?_, tl_cst t hi⟩⟩
          · show ty_ok _ _ _ _ (cdv CL (if sv_bt (T.2.2.1 i) then 2 else 0)) (cdv CL Z.1)
            rw [cdv_02 s02, ev]
            exact Or.inl ⟨rfl, by omega, by rw [nd]; exact hot, by omega, by omega⟩
          · show ((pz_h T L w i (p / 2) (p % 2)).toInt64).toInt = _
            rw [rf_w, eh]
        · unfold pz_o at ha
          cases e : Z.2.2 i with
          | none =>
            rw [e] at ha
            exact absurd ha List.not_mem_nil
          | some x =>
            rw [e] at ha
            rw [List.mem_singleton.mp ha]
            obtain ⟨q1, q2, q3, q4, q5, q6⟩ := H2 i x e
            refine ⟨⟨by show x < Z.1 + 1; omega, by show Z.1 < Z.1 + 1; omega⟩, ?_, Or.inr (Or.inr ⟨q1.1, by show 4 ≤ Z.1; omega, q2, by show cdv CL Z.1 < 2880; rw [ev]; omega, rf_w w, rfl⟩)⟩
            show ty_ok _ _ _ _ (cdv CL x) (cdv CL Z.1)
            rw [ev]
            refine Or.inr (Or.inr (Or.inl ⟨q2, by omega, by rw [q3]; exact hot, by rw [q3, nd], by omega, ?_, by omega⟩))
            rw [nm]
            omega
      · have h2 : (if j = i then some Z.1 else Z.2.2 j) = some x := h
        by_cases y : j = i
        · rw [if_pos y] at h2
          have ex : x = Z.1 := (Option.some.inj h2).symm
          rw [ex, ev, y]
          exact ⟨⟨by omega, by show Z.1 < Z.1 + 1; omega⟩, by omega, nd, hot, hi, by rw [nm]; omega⟩
        · rw [if_neg y] at h2
          obtain ⟨q1, q2, q3, q4, q5, q6⟩ := H2 j x h2
          exact ⟨⟨q1.1, by show x < Z.1 + 1; omega⟩, q2, q3, q4, q5, by omega⟩
  · rintro p i Z c hp hi hh ⟨hl, H⟩
    refine ⟨hl, fun CL hc2 => ⟨(H CL hc2).1, fun j x h => ?_⟩⟩
    obtain ⟨q1, q2, q3, q4, q5, q6⟩ := (H CL hc2).2 j x h
    exact ⟨q1, q2, q3, q4, q5, by omega⟩
  · exact fun p Z c _ h => h
  · rintro p i Z c hp hi hh ⟨hl, H⟩
    obtain ⟨b1, b2, b3⟩ := tl_bt3 t hi
    have cold := b2.mp hh
    have eh : hcl T L w (240 * i + p) = (pz_h T L w i (p / 2) (p % 2)).toInt := hcl_at (by omega)
    unfold pz_tk qk_gv
    by_cases z : pz_h T L w i (p / 2) (p % 2) = 0
    · rw [if_pos z, if_pos z]
      exact ⟨hl, H⟩
    · rw [if_neg z, if_neg z]
      refine ⟨by show Z.1 + 1 = 4 + (c ++ [240 * i + p]).length; rw [List.length_append]; show _ = 4 + (c.length + 1); omega, fun CL hc2 => ?_⟩
      obtain ⟨H1, H2⟩ := H CL (pf_l hc2)
      have ev : cdv CL Z.1 = 240 * i + p := by
        rw [hl]
        exact cdv_new hc2
      have nd : (240 * i + p) / 240 = i := by omega
      have nm : (240 * i + p) % 240 = p := by omega
      have es : (if sv_bt (T.2.2.1 i) then 3 else 1 : Nat) = if 3 ≤ N (2 + 24 * i) then 3 else 1 := by
        by_cases y : 3 ≤ N (2 + 24 * i)
        · rw [if_pos y, if_pos (b1.mpr y)]
        · rw [if_neg y, if_neg (fun q => y (b1.mp q))]
      refine ⟨fun a ha => ?_, fun j x h => ?_⟩
      · show (a.1 < Z.1 + 1 ∧ a.2.1 < Z.1 + 1) ∧ _
        rw [List.mem_append, List.mem_append, List.mem_singleton] at ha
        rcases ha with (ha | ha) | ha
        · obtain ⟨g1, g2⟩ := H1 a ha
          exact ⟨by omega, g2⟩
        · rw [ha]
          have s13 : (if sv_bt (T.2.2.1 i) then 3 else 1 : Nat) = 1 ∨ (if sv_bt (T.2.2.1 i) then 3 else 1 : Nat) = 3 := by
            split
            · exact Or.inr rfl
            · exact Or.inl rfl
          refine ⟨⟨by show Z.1 < Z.1 + 1; omega, by show (if sv_bt (T.2.2.1 i) then 3 else 1 : Nat) < Z.1 + 1; omega⟩, ?_, Or.inr (Or.inl ⟨i, p, hi, hp, cold, ev, by show 4 ≤ Z.1; omega, es, ?_, tl_cst t hi⟩)⟩
          · show ty_ok _ _ _ _ (cdv CL Z.1) (cdv CL (if sv_bt (T.2.2.1 i) then 3 else 1))
            rw [cdv_13 s13, ev]
            exact Or.inr (Or.inl ⟨by omega, rfl, by rw [nd]; exact cold, by omega, by omega⟩)
          · show ((pz_h T L w i (p / 2) (p % 2)).toInt64).toInt = _
            rw [rf_w, eh]
        · obtain ⟨j, x, h1, h2, h3, rfl⟩ := px_mem _ ha
          obtain ⟨q1, q2, q3, q4, q5, q6⟩ := H2 j x h3
          obtain ⟨m1, m2⟩ := (tl_may t hi h1 cold).mp h2
          refine ⟨⟨by show x < Z.1 + 1; omega, by show Z.1 < Z.1 + 1; omega⟩, ?_, Or.inr (Or.inr ⟨q1.1, by show 4 ≤ Z.1; omega, q2, by show cdv CL Z.1 < 2880; rw [ev]; omega, rf_w w, rfl⟩)⟩
          show ty_ok _ _ _ _ (cdv CL x) (cdv CL Z.1)
          rw [ev]
          refine Or.inr (Or.inr (Or.inr (Or.inl ⟨q2, by omega, by rw [q3]; exact q4, by rw [nd]; exact cold, by rw [q3, nd]; exact m2, ⟨by omega, by omega⟩, ?_, by omega⟩)))
          rw [nm]
          omega
      · obtain ⟨q1, q2, q3, q4, q5, q6⟩ := H2 j x h
        exact ⟨⟨q1.1, by show x < Z.1 + 1; omega⟩, q2, q3, q4, q5, q6⟩
  · exact fun p i Z c _ _ _ h => h
  · rintro p Z c hp ⟨hl, H⟩
    refine ⟨hl, fun CL hc2 => ⟨(H CL hc2).1, fun j x h => ?_⟩⟩
    obtain ⟨q1, q2, q3, q4, q5, q6⟩ := (H CL hc2).2 j x h
    exact ⟨q1, q2, q3, q4, q5, by omega⟩
end
