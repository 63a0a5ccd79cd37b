/-! calls: verdict, closest -/
section
variable {L : Nat} {xs : Nat → Int32} {k : Nat} {h : jx_H} {W : cw} {g : Nat → Option jx_E} {nx s : Nat} {X : Nat → Option jx_E} {R : rf_R} {B D U x : Nat} {T : tv}
/-- a question that tells anew what was found or counts what was asked -/
theorem lw_gen (I : lw_I L xs k h W g nx s X R B D U x T) {mc mr : Nat} {args : List Value} {v : Value} {ty : Bool} (hv2 : (ty = true ∧ ∃ x : Int32, v = .int x) ∨ (ty = false ∧ ∃ x : Int64, v = .long x)) {W2 : cw} {R2 : rf_R} (t : jx_T mc 0 (jx_ent mc (.ref 1 :: args)) [] (hc W g nx s) (some v) (hc W2 g nx s)) (w1 : ∀ y, y ≠ 9 → W2.2.2.1 1 y = W.2.2.1 1 y) (w2 : W2.2.2.2.2.1 = W.2.2.2.2.1) (c : rf_C mr 56 (.ref 56 :: args) R (some v) R2) (r0 : R2.1 0 = R.1 0) (r1 : R2.1 1 = R.1 1) (r2 : ∀ k, k ≤ 6 → R2.2.2.1 k = R.2.2.1 k) (r28 : R2.1 28 0 = R.1 28 0) (as : ∃ a, a ≤ 40 ∧ W2.2.2.1 1 9 = nI a ∧ R2.2.2.1 39 = nI a) (fo : ∀ w : Int32, (if 0 ≤ w.toInt ∧ w.toInt ≤ 3 then W2.2.1 34 w.toNatClampNeg else -1) = rf_fin R2 w) : lw_C (lw_K L xs) L xs k h mc mr args ty := by
  obtain ⟨t1, ho, A1⟩ := I.cls t
  obtain ⟨X2, t2, o2, A2⟩ := lw_ref ho I.only A1 c
  have h1 := I.cells
  have h2 := I.slots
  have sc2 : lw_sc L xs (ju (hc W2 g nx s) X) := ⟨by rw [ju_0 (Or.inr rfl), I.script], ⟨_, rfl⟩, ⟨_, A1.1⟩⟩
  have now2 : kn_at W2 g B D x T := by
    obtain ⟨⟨a, b, c, d, e⟩, i⟩ := I.now
    exact ⟨⟨a, b, by rw [w1 _ (by decide)]; exact c, by rw [w1 _ (by decide)]; exact d, by rw [w2]; exact e⟩, i⟩
  refine ⟨v, _, _, hv2, t1, sc2, t2, W2, g, nx, s, X2, R2, B, D, U, x, T, rfl, I.nx78, I.free, ho, o2, I.script, A2, now2, by rw [r0]; exact I.tl, by rw [r2 2 (by decide)]; exact I.e2, by rw [r2 3 (by decide)]; exact I.e3, by rw [r2 4 (by decide)]; exact I.e4, by rw [w1 _ (by decide)]; exact I.eU, I.hU, fun j hj => ?_, as, fo, by rw [r2 6 (by decide)]; exact I.e6, by rw [r28]; exact I.e28, by omega, by omega⟩
  obtain ⟨y, Tj, b1, b2, b3⟩ := I.ring j hj
  exact ⟨y, Tj, by rw [w2]; exact b1, b2, by rw [r1]; exact b3⟩
end
section
variable {N : Nat → Int32} {T : tv}
/-- flows are never 0 -/
theorem pl_fl {i : Nat} (ok : tl_ok N i) : ∀ d j (t left : Int64), j + d = rf_sp N i → 1 ≤ (pl_lp N i (rf_sp N i) d j t left).2.2.1.toInt ∧ (pl_lp N i (rf_sp N i) d j t left).2.2.1.toInt ≤ 1000
  | 0, j, t, left, _ => by
    show 1 ≤ (1 : Int64).toInt ∧ (1 : Int64).toInt ≤ 1000
    decide
  | d + 1, j, t, left, hj => by
    unfold pl_lp
    obtain ⟨-, ef⟩ := pl_kd ok (j := j) (by omega)
    have zf1 := zf_in ok (j := j) (by omega)
    split
    · show 1 ≤ (pl_f N i (pl_k N i (rf_sp N i) j)).toInt ∧ (pl_f N i (pl_k N i (rf_sp N i) j)).toInt ≤ 1000
      rw [ef, rf_w]
      exact zf1
    · exact pl_fl ok d (j + 1) _ _ (by omega)
theorem pl_fl2 {i : Nat} (ok : tl_ok N i) (x : Int64) : 1 ≤ (pl_at N i x).2.2.1.toInt ∧ (pl_at N i x).2.2.1.toInt ≤ 1000 := by
  unfold pl_at
  split
  · show 1 ≤ (1 : Int64).toInt ∧ (1 : Int64).toInt ≤ 1000
    decide
  · exact pl_fl ok _ 0 _ _ (by omega)
theorem ms_dd {p q : m4} (hp : 1 ≤ p.2.2.1.toInt ∧ p.2.2.1.toInt ≤ 1000) (hq : 1 ≤ q.2.2.1.toInt ∧ q.2.2.1.toInt ≤ 1000) : 1 ≤ (ms_d p q).toInt := by
  have m := mb_i (a := p.2.2.1.toInt) (b := q.2.2.1.toInt) (A := 1000) (B := 1000) (by omega) (by omega)
  have dlo : 1 * 1 ≤ p.2.2.1.toInt * q.2.2.1.toInt := Int.mul_le_mul (by omega) (by omega) (by omega) (by omega)
  unfold ms_d
  rw [Int64.toInt_mul, Int.bmod_eq_of_le (by omega) (by omega)]
  omega
theorem ms_nz {a c : Nat} (oa : tl_ok N a) (oc : tl_ok N c) (x y heat : Int64) : ∀ d (t : Int64) (fi : Bool) (ab : Int64 × Int64), 1 ≤ d → (fi = false → 1 ≤ ab.2.toInt) → 1 ≤ (ms_lp N a c x y heat d t fi ab).2.toInt
  | 0, _, _, _, h, _ => absurd h (by omega)
  | d + 1, t, fi, ab, _, hf => by
    have fr : 1 ≤ (ms_a (pl_at N a (x + t)) (pl_at N c (y + t)) fi ab).2.toInt := by
      unfold ms_a
      by_cases z : fi = true ∨ ms_n (pl_at N a (x + t)) (pl_at N c (y + t)) * ab.2 < ab.1 * ms_d (pl_at N a (x + t)) (pl_at N c (y + t))
      · rw [if_pos z]
        exact ms_dd (pl_fl2 oa _) (pl_fl2 oc _)
      · rw [if_neg z]
        refine hf ?_
        cases fi with
        | true => exact absurd (Or.inl rfl) z
        | false => rfl
    unfold ms_lp
    split
    · cases d with
      | zero => exact fr
      | succ d => exact ms_nz oa oc x y heat (d + 1) _ false _ (by omega) (fun _ => fr)
    · exact fr
theorem gap_i (t : tls T N) : (1000 * T.1).toInt = 1000 * (N 1).toInt ∧ ((N 1).toInt64).toInt = (N 1).toInt := by
  have b := t.1.2.2.2
  rw [t.1.2.2.1] at *
  refine ⟨?_, rf_w _⟩
  rw [Int32.toInt_mul, show (1000 : Int32).toInt = 1000 from rfl]
  exact Int.bmod_eq_of_le (by omega) (by omega)
theorem gap_lt {ab : Int64 × Int64} (h : fr_ok ab) {v gap : Int32} (hg : 1 ≤ gap.toInt ∧ gap.toInt ≤ 200) (e : v.toInt = flq ab) : v < 1000 * gap ↔ ab.1 < gap.toInt64 * ab.2 := by
  obtain ⟨h1, h2⟩ := h
  have m := mb_i (a := gap.toInt) (b := ab.2.toInt) (A := 200) (B := 1000000) (by omega) (by omega)
  have e1 : (1000 * gap).toInt = 1000 * gap.toInt := by
    rw [Int32.toInt_mul, show (1000 : Int32).toInt = 1000 from rfl]
    exact Int.bmod_eq_of_le (by omega) (by omega)
  have e2 : (gap.toInt64 * ab.2).toInt = gap.toInt * ab.2.toInt := by
    rw [Int64.toInt_mul, rf_w]
    exact Int.bmod_eq_of_le (by omega) (by omega)
  rw [lv_i, Int64.lt_iff_toInt_lt, e1, e2, e]
  unfold flq
  rw [Int.ediv_lt_iff_lt_mul (by omega)]
  have e3 : 1000 * gap.toInt * ab.2.toInt = 1000 * (gap.toInt * ab.2.toInt) := Int.mul_assoc _ _ _
  rw [e3]
  omega
/-- a state of what has gone -/
def us_ok (u : Nat → Int64) : Prop := ∀ s, s < 12 → 0 ≤ (u s).toInt ∧ (u s).toInt ≤ 20000000
theorem vd_cs (t : tls T N) (u : Nat → Int64) : ∀ s, s ≤ T.2.1 → cl_s T u s = vd_s N u s
  | 0, _ => rfl
  | s + 1, hs => by
    have ih := vd_cs t u s (by omega)
    obtain ⟨e, ok⟩ := t.2.1 s (by omega)
    have e0 : (T.2.2.1 s).1 = N (2 + 24 * s) := by
      rw [e]
      rfl
    unfold cl_s vd_s
    rw [e0, ih]
    by_cases z : N (2 + 24 * s) < 3
    · have z2 := (tl_k ok).mp z
      have z3 : ¬ 3 ≤ N (2 + 24 * s) := by
        rw [Int32.le_iff_toInt_le]
        rw [lv_i] at z
        omega
      rw [if_neg z2, if_neg z3, e, am_total ok z, show sv_hot (tl_S N s) = N (2 + 24 * s + 1) from rfl]
      rcases ok.1 with q | q
      · have q1 : ¬ N (2 + 24 * s + 1) = 1 := by rw [q]; decide
        rw [if_pos q, if_neg q1]
      · have q1 : ¬ N (2 + 24 * s + 1) = 0 := by rw [q]; decide
        rw [if_neg q1, if_pos q]
    · have z2 : N (2 + 24 * s) = 3 ∨ N (2 + 24 * s) = 4 := by
        by_cases q : N (2 + 24 * s) = 3 ∨ N (2 + 24 * s) = 4
        · exact q
        · exact absurd ((tl_k ok).mpr q) z
      have z3 : 3 ≤ N (2 + 24 * s) := by
        rw [Int32.le_iff_toInt_le]
        rw [lv_i] at z
        omega
      rw [if_pos z2, if_pos z3]
theorem tl_nX {k : Nat} (t : tls T N) (hk : k < 4) {m : Nat} (hm : m < (T.2.2.2.2.1 k).1) : hm_a (T.2.2.2.2.1 k) m = jd_a N k m ∧ hm_c (T.2.2.2.2.1 k) m = jd_c N k m ∧ hm_h (T.2.2.2.2.1 k) m = jd_h N k m ∧ (jd_a N k m < T.2.1 ∧ N (434 + 61 * k + 1 + 3 * m) = nI (jd_a N k m)) ∧ (jd_c N k m < T.2.1 ∧ N (434 + 61 * k + 1 + 3 * m + 1) = nI (jd_c N k m)) ∧ (1 ≤ (N (434 + 61 * k + 1 + 3 * m + 2)).toInt ∧ (N (434 + 61 * k + 1 + 3 * m + 2)).toInt ≤ 100000000) ∧ (N (2 + 24 * jd_a N k m) < 3 ∧ N (2 + 24 * jd_c N k m) < 3) ∧ N (2 + 24 * jd_a N k m + 1) = 1 ∧ N (2 + 24 * jd_c N k m + 1) = 0 := by
  obtain ⟨-, -, c⟩ := t.2.2.2.1 k hk
  have hM := t.k.1
  obtain ⟨⟨c1, c2, c3⟩, c4, x, y, ⟨c5, c6⟩, ⟨c7, c8⟩, c9, c10, c11⟩ := c m hm
  have ea : jd_a N k m = x := by
    unfold jd_a
    rw [c1, c7]
    exact nI_clamp (by omega)
  have ec : jd_c N k m = y := by
    unfold jd_c
    rw [c2, c8]
    exact nI_clamp (by omega)
  refine ⟨?_, ?_, ?_, ?_⟩
  · unfold hm_a jd_a
    rw [c1]
  · unfold hm_c jd_c
    rw [c2]
  · unfold hm_h jd_h
    rw [c3]
  · rw [ea, ec, c1, c2, c3]
    exact ⟨⟨c5, c7⟩, ⟨c6, c8⟩, c4, c9, c10, c11⟩
theorem jd_g_ok {u : Nat → Int64} (h : us_ok u) {a c : Nat} (ha : a < 12) (hc2 : c < 12) (hac : a ≠ c) {x : Int64} (e1 : 0 ≤ (u a + x).toInt ∧ (u a + x).toInt ≤ 20000000) (e2 : 0 ≤ (u c + x).toInt ∧ (u c + x).toInt ≤ 20000000) : us_ok (jd_g u a c x) := by
  intro s hs
  show 0 ≤ (if s = c then (if c = a then u a + x else u c) + x else if s = a then u a + x else u s).toInt ∧ (if s = c then (if c = a then u a + x else u c) + x else if s = a then u a + x else u s).toInt ≤ 20000000
  by_cases z : s = c
  · rw [if_pos z, if_neg (fun q => hac q.symm)]
    exact e2
  · rw [if_neg z]
    by_cases y : s = a
    · rw [if_pos y]
      exact e1
    · rw [if_neg y]
      exact h s hs
theorem hr_jd (t : tls T N) {k : Nat} (hk : k < 4) : ∀ d m (u : Nat → Int64) (ds : Nat → Int32), m + d = (T.2.2.2.2.1 k).1 → us_ok u → (hr_lp T (T.2.2.2.2.1 k) d m u ds).1 = (jd_lp N k d m u).1 ∧ (hr_lp T (T.2.2.2.2.1 k) d m u ds).2.1 = (jd_lp N k d m u).2.1 ∧ (((jd_lp N k d m u).1 = 0 ∧ (jd_lp N k d m u).2.1 = -1 ∧ (hr_lp T (T.2.2.2.2.1 k) d m u ds).2.2.1 = (jd_lp N k d m u).2.2 ∧ (∀ j, j < m → (hr_lp T (T.2.2.2.2.1 k) d m u ds).2.2.2 j = ds j) ∧ ∀ j, m ≤ j → j < (T.2.2.2.2.1 k).1 → (hr_lp T (T.2.2.2.2.1 k) d m u ds).2.2.2 j = cl_q (jd_ms N k j (jd_lp N k (j - m) m u).2.2).1 (jd_ms N k j (jd_lp N k (j - m) m u).2.2).2) ∨ 0 < (jd_lp N k d m u).1)
  | 0, m, u, ds, hm, _ => ⟨rfl, rfl, Or.inl ⟨rfl, rfl, rfl, fun _ _ => rfl, fun j h1 h2 => absurd h2 (by omega)⟩⟩
  | d + 1, m, u, ds, hm, hu => by
    obtain ⟨ea, ec, eh, ⟨a1, a2⟩, ⟨c1, c2⟩, b1, ⟨ka, kc⟩, ha, hcc⟩ := tl_nX t hk (m := m) (by omega)
    have hM := t.k.1
    obtain ⟨sa, oa⟩ := t.2.1 _ a1
    obtain ⟨sc, oc⟩ := t.2.1 _ c1
    have hg := t.k.2.1
    have ne : jd_a N k m ≠ jd_c N k m := fun q => by
      rw [q, hcc] at ha
      exact absurd ha (by decide)
    have ua := hu _ (show jd_a N k m < 12 by omega)
    have uc := hu _ (show jd_c N k m < 12 by omega)
    have eh2 : (jd_h N k m).toInt = (N (434 + 61 * k + 1 + 3 * m + 2)).toInt := rf_w _
    have s1 : (u (jd_a N k m) + jd_h N k m).toInt = (u (jd_a N k m)).toInt + (jd_h N k m).toInt := by
      rw [Int64.toInt_add]
      exact Int.bmod_eq_of_le (by omega) (by omega)
    have s2 : (u (jd_c N k m) + jd_h N k m).toInt = (u (jd_c N k m)).toInt + (jd_h N k m).toInt := by
      rw [Int64.toInt_add]
      exact Int.bmod_eq_of_le (by omega) (by omega)
    have i1 : hm_1 T (T.2.2.2.2.1 k) m u ↔ jd_1 N k m u := by
      show _ ∨ _ ↔ _ ∨ _
      rw [ea, ec, eh, sa, sc, am_total oa ka, am_total oc kc]
    have ta : ((rf_total N (jd_a N k m)).toInt64).toInt = zT N (jd_a N k m) := by
      rw [rf_w, total_i oa hg]
    have tc : ((rf_total N (jd_c N k m)).toInt64).toInt = zT N (jd_c N k m) := by
      rw [rf_w, total_i oc hg]
    by_cases z : jd_1 N k m u
    · have e1 : hr_lp T (T.2.2.2.2.1 k) (d + 1) m u ds = (1, nI m, u, ds) := if_pos (i1.mpr z)
      have e2 : jd_lp N k (d + 1) m u = (1, nI m, u) := if_pos z
      rw [e1, e2]
      exact ⟨rfl, rfl, Or.inr (by show (0 : Int32) < 1; decide)⟩
    · have z2 : ¬ hm_1 T (T.2.2.2.2.1 k) m u := fun q => z (i1.mp q)
      have l1 : (u (jd_a N k m)).toInt + (jd_h N k m).toInt ≤ zT N (jd_a N k m) := by
        have q : ¬ (rf_total N (jd_a N k m)).toInt64 < u (jd_a N k m) + jd_h N k m := fun q => z (Or.inl q)
        rw [Int64.lt_iff_toInt_lt, ta, s1] at q
        omega
      have l2 : (u (jd_c N k m)).toInt + (jd_h N k m).toInt ≤ zT N (jd_c N k m) := by
        have q : ¬ (rf_total N (jd_c N k m)).toInt64 < u (jd_c N k m) + jd_h N k m := fun q => z (Or.inr q)
        rw [Int64.lt_iff_toInt_lt, tc, s2] at q
        omega
      have za := zT_in oa hg
      have zc := zT_in oc hg
      obtain ⟨d1, fr⟩ := ld_at_i oa oc hg ka kc (x := u (jd_a N k m)) (y := u (jd_c N k m)) (heat := jd_h N k m) ua.1 uc.1 (by omega) l1 l2
      have ed : hm_d T (T.2.2.2.2.1 k) m u = ld_at (tl_S N (jd_a N k m)) (tl_S N (jd_c N k m)) (pq_put (tl_S N (jd_a N k m)) (u (jd_a N k m))) (pq_put (tl_S N (jd_c N k m)) (u (jd_c N k m))) (jd_h N k m) := by
        unfold hm_d
        rw [ea, ec, eh, sa, sc]
      rw [← ed] at d1
      have fr2 : fr_ok (jd_ms N k m u) := fr
      have d2 : (hm_d T (T.2.2.2.2.1 k) m u).toInt = flq (jd_ms N k m u) := d1
      have lt := gap_lt fr2 hg d2
      have tg : T.1 = N 1 := t.1.2.2.1.symm
      by_cases y : (jd_ms N k m u).1 < (N 1).toInt64 * (jd_ms N k m u).2
      · have e1 : hr_lp T (T.2.2.2.2.1 k) (d + 1) m u ds = (2, nI m, jd_g u (hm_a (T.2.2.2.2.1 k) m) (hm_c (T.2.2.2.2.1 k) m) (hm_h (T.2.2.2.2.1 k) m), upd ds m (hm_d T (T.2.2.2.2.1 k) m u)) := by
          show (if hm_1 T (T.2.2.2.2.1 k) m u then _ else if hm_d T (T.2.2.2.2.1 k) m u < 1000 * T.1 then _ else _) = _
          rw [if_neg z2, if_pos (by rw [tg]; exact lt.mpr y)]
        have e2 : jd_lp N k (d + 1) m u = (2, nI m, u) := by
          show (if jd_1 N k m u then _ else if (jd_ms N k m u).1 < (N 1).toInt64 * (jd_ms N k m u).2 then _ else _) = _
          rw [if_neg z, if_pos y]
        rw [e1, e2]
        exact ⟨rfl, rfl, Or.inr (by show (0 : Int32) < 2; decide)⟩
      · have e1 : hr_lp T (T.2.2.2.2.1 k) (d + 1) m u ds = hr_lp T (T.2.2.2.2.1 k) d (m + 1) (jd_g u (jd_a N k m) (jd_c N k m) (jd_h N k m)) (upd ds m (hm_d T (T.2.2.2.2.1 k) m u)) := by
          show (if hm_1 T (T.2.2.2.2.1 k) m u then _ else if hm_d T (T.2.2.2.2.1 k) m u < 1000 * T.1 then _ else _) = _
          rw [if_neg z2, if_neg (by rw [tg]; exact fun q => y (lt.mp q)), ea, ec, eh]
        have e2 : ∀ d, jd_lp N k (d + 1) m u = jd_lp N k d (m + 1) (jd_g u (jd_a N k m) (jd_c N k m) (jd_h N k m)) := by
          intro d
          show (if jd_1 N k m u then _ else if (jd_ms N k m u).1 < (N 1).toInt64 * (jd_ms N k m u).2 then _ else _) = _
          rw [if_neg z, if_neg y]
        have hu2 := jd_g_ok hu (show jd_a N k m < 12 by omega) (show jd_c N k m < 12 by omega) ne (x := jd_h N k m) (by omega) (by omega)
        have ih := hr_jd t hk d (m + 1) (jd_g u (jd_a N k m) (jd_c N k m) (jd_h N k m)) (upd ds m (hm_d T (T.2.2.2.2.1 k) m u)) (by omega) hu2
        rw [e1, e2 d]
        obtain ⟨i2, i3, i4⟩ := ih
        refine ⟨i2, i3, i4.imp (fun r => ?_) id⟩
        obtain ⟨r1, r2, r3, r4, r5⟩ := r
        refine ⟨r1, r2, r3, fun j hj => ?_, fun j h1 h2 => ?_⟩
        · rw [r4 j (by omega)]
          exact if_neg (by omega)
        · by_cases q : j = m
          · rw [q, r4 m (by omega), Nat.sub_self]
            show (if m = m then hm_d T (T.2.2.2.2.1 k) m u else ds m) = cl_q (jd_ms N k m u).1 (jd_ms N k m u).2
            rw [if_pos rfl]
            apply Int32.toInt_inj.mp
            rw [d2, cl_q_i fr2]
          · rw [r5 j (by omega) h2, show j - m = j - (m + 1) + 1 by omega, e2]
theorem us_0 : us_ok (fun _ => 0) := fun s _ => by
  show 0 ≤ (0 : Int64).toInt ∧ (0 : Int64).toInt ≤ 20000000
  decide
end
section
variable {L : Nat} {xs : Nat → Int32} {k : Nat} {h : jx_H} {W : cw} {g : Nat → Option jx_E} {nx s : Nat} {X : Nat → Option jx_E} {R : rf_R} {B D U x : Nat} {T : tv}
theorem lw_I.jd (I : lw_I L xs k h W g nx s X R B D U x T) {n : Nat} (hn : n < 4) : (T.2.2.2.2.1 n).1 ≤ 20 ∧ R.1 0 (434 + 61 * n) = nI (T.2.2.2.2.1 n).1 ∧ jd_ok (R.1 0) T.2.1 n (T.2.2.2.2.1 n).1 ∧ hm_ok T (T.2.2.2.2.1 n) := by
  obtain ⟨c1, c2, c3⟩ := I.tl.2.2.2.1 n hn
  refine ⟨c2, c1, fun m hm => ?_, fun m hm => ?_⟩
  · obtain ⟨-, -, -, h1, h2, h3, -⟩ := tl_nX I.tl hn hm
    exact ⟨h1, h2, h3⟩
  · obtain ⟨-, -, a, c, ⟨c5, c6⟩, ⟨c7, c8⟩, -⟩ := c3 m hm
    exact ⟨a, c, c5, c6, c7, c8⟩
theorem op_closest (a b : Int32) : lw_o (lw_K L xs) L xs 122 187 [.int a, .int b] true := by
  intro k h p
  obtain ⟨W, g, nx, s, X, R, B, D, U, x, T, I⟩ := p
  by_cases q : 0 ≤ a.toInt ∧ a.toInt ≤ 3
  · obtain ⟨n, hn, rfl⟩ : ∃ n, n < 4 ∧ a = nI n := lw_ltn (n := 4) (by omega)
    obtain ⟨h1, h2, h3, h4⟩ := I.jd hn
    by_cases z : 0 ≤ b.toInt ∧ b.toInt < (T.2.2.2.2.1 n).1
    · obtain ⟨j, hj, rfl⟩ := lw_ltn z
      obtain ⟨-, -, -, ⟨a1, -⟩, ⟨c1, -⟩, b1, -⟩ := tl_nX I.tl hn hj
      have nz := ms_nz (I.tl.2.1 _ a1).2 (I.tl.2.1 _ c1).2 ((jd_at (R.1 0) n j).2.2 (jd_a (R.1 0) n j)) ((jd_at (R.1 0) n j).2.2 (jd_c (R.1 0) n j)) (jd_h (R.1 0) n j) ((jd_h (R.1 0) n j).toInt.toNat + 1) 0 true (0, 0) (by omega) (fun y => absurd y (by decide))
      obtain ⟨W2, t, f⟩ := kc_closest (nx := nx) (s := s) I.cn n j hn h1 h4 hj
      obtain ⟨R2, r, J⟩ := rc_closest 56 R T.2.1 n _ j I.pre hn h1 h2 h3 hj (fun y => by
        have nz2 : 1 ≤ (jd_ms (R.1 0) n j (jd_at (R.1 0) n j).2.2).2.toInt := nz
        rw [y] at nz2
        exact absurd nz2 (by decide))
      have hh := hr_jd I.tl hn (T.2.2.2.2.1 n).1 0 (fun _ => 0) (W.1 12) (by omega) us_0
      have e : (if (hr_at T (T.2.2.2.2.1 n) (W.1 12)).1 = 0 then (hr_at T (T.2.2.2.2.1 n) (W.1 12)).2.2.2 j else -1) = cl_at (R.1 0) n (T.2.2.2.2.1 n).1 j := by
        obtain ⟨g1, g2, g3⟩ := hh
        unfold cl_at
        have g1' : (hr_at T (T.2.2.2.2.1 n) (W.1 12)).1 = (jd_at (R.1 0) n (T.2.2.2.2.1 n).1).1 := g1
        rw [g1']
        by_cases y : (jd_at (R.1 0) n (T.2.2.2.2.1 n).1).1 = 0
        · rw [if_pos y, if_pos y]
          rcases g3 with g3 | g3
          · exact g3.2.2.2.2 j (Nat.zero_le _) hj
          · have g4 : 0 < (jd_at (R.1 0) n (T.2.2.2.2.1 n).1).1 := g3
            rw [y] at g4
            exact absurd g4 (by decide)
        · rw [if_neg y, if_neg y]
      rw [e] at t
      exact lw_ask I (Or.inl ⟨rfl, _, rfl⟩) t f r J
    · exact lw_no I (kc_closest_k (nx := nx) (s := s) I.cn n hn h1 b z) (rc_closest_k 56 R n _ hn h1 h2 b z)
  · exact lw_no I (kc_closest_no a b q) (rc_closest_no 56 R a b q)
theorem op_verdict (a : Int32) : lw_o (lw_K L xs) L xs 120 181 [.int a] true := by
  intro k h p
  obtain ⟨W, g, nx, s, X, R, B, D, U, x, T, I⟩ := p
  by_cases q : 0 ≤ a.toInt ∧ a.toInt ≤ 3
  · obtain ⟨n, hn, rfl⟩ : ∃ n, n < 4 ∧ a = nI n := lw_ltn (n := 4) (by omega)
    obtain ⟨h1, h2, h3, h4⟩ := I.jd hn
    obtain ⟨W2, t, f, fo⟩ := kc_verdict (nx := nx) (s := s) I.cn n hn h1 h4
    obtain ⟨R2, r, J, te⟩ := rc_verdict 56 R T.2.1 n _ I.pre hn h1 h2 h3
    obtain ⟨g1, g2, g3⟩ := hr_jd I.tl hn (T.2.2.2.2.1 n).1 0 (fun _ => 0) (W.1 12) (by omega) us_0
    have g1' : (hr_at T (T.2.2.2.2.1 n) (W.1 12)).1 = (jd_at (R.1 0) n (T.2.2.2.2.1 n).1).1 := g1
    have g2' : (hr_at T (T.2.2.2.2.1 n) (W.1 12)).2.1 = (jd_at (R.1 0) n (T.2.2.2.2.1 n).1).2.1 := g2
    rw [g1'] at t
    obtain ⟨as1, as2, as3, as4⟩ := I.asked
    refine lw_gen I (Or.inl ⟨rfl, _, rfl⟩) t (fun y _ => f.1 y) f.2 r J.1 J.2.1 (fun k hk => J.2.2.1 k (by omega)) J.2.2.2 ⟨as1, as2, by rw [f.1]; exact as3, by rw [J.2.2.1 39 (by decide)]; exact as4⟩ (fun w => ?_)
    obtain ⟨e1, e2, e3, e4⟩ := te
    unfold rf_fin
    rw [e1, e2, e3, e4]
    have main : ∀ j, j < 4 → W2.2.1 34 j = if j = 0 then (vd_t (R.1 0) T.2.1 n (T.2.2.2.2.1 n).1).1.toInt64 else if j = 1 then (vd_t (R.1 0) T.2.1 n (T.2.2.2.2.1 n).1).2.1 else if j = 2 then (vd_t (R.1 0) T.2.1 n (T.2.2.2.2.1 n).1).2.2.1 else (vd_t (R.1 0) T.2.1 n (T.2.2.2.2.1 n).1).2.2.2 := by
      intro j hj
      rw [fo j hj]
      unfold vt_f vd_t
      rw [g1', g2']
      rcases g3 with ⟨r1, r2, r3, -⟩ | g3
      · have r1' : (jd_at (R.1 0) n (T.2.2.2.2.1 n).1).1 = 0 := r1
        have r2' : (jd_at (R.1 0) n (T.2.2.2.2.1 n).1).2.1 = -1 := r2
        have r3' : (hr_at T (T.2.2.2.2.1 n) (W.1 12)).2.2.1 = (jd_at (R.1 0) n (T.2.2.2.2.1 n).1).2.2 := r3
        rw [r1', r2', r3', vd_cs I.tl _ _ (Nat.le_refl _)]
        rfl
      · have g4 : 0 < (jd_at (R.1 0) n (T.2.2.2.2.1 n).1).1 := g3
        have g5 : ¬ (jd_at (R.1 0) n (T.2.2.2.2.1 n).1).1 = 0 := fun y => by
          rw [y] at g4
          exact absurd g4 (by decide)
        rw [if_neg g5, if_neg g5]
        show _ = if j = 0 then (if 0 < (jd_at (R.1 0) n (T.2.2.2.2.1 n).1).1 then (jd_at (R.1 0) n (T.2.2.2.2.1 n).1).2.1 else -1).toInt64 else if j = 1 then (if 0 < (jd_at (R.1 0) n (T.2.2.2.2.1 n).1).1 then (-1 : Int64) else _) else if j = 2 then (if 0 < (jd_at (R.1 0) n (T.2.2.2.2.1 n).1).1 then (-1 : Int64) else _) else _
        rw [if_pos g4, if_pos g4, if_pos g4]
    by_cases z : 0 ≤ w.toInt ∧ w.toInt ≤ 3
    · obtain ⟨j, hj, rfl⟩ : ∃ j, j < 4 ∧ w = nI j := lw_ltn (n := 4) (by omega)
      rw [if_pos z, nI_clamp (by omega), main j hj]
      match j, hj with
      | 0, _ => rfl
      | 1, _ => rfl
      | 2, _ => rfl
      | 3, _ => rfl
    · rw [if_neg z, if_neg (fun y => z (by rw [y]; decide)), if_neg (fun y => z (by rw [y]; decide)), if_neg (fun y => z (by rw [y]; decide)), if_neg (fun y => z (by rw [y]; decide))]
  · exact lw_no I (kc_verdict_no a q) (rc_verdict_no 56 R a q)
end
