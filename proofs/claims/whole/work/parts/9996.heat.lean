/-! layers, least, cold, pinch, goesOn, both ways -/
theorem ll_lt {L : List Int32} (hs : lv_srt L) {k j : Nat} (h : k < j) (hj : j < L.length) : (L.getD j 0).toInt < (L.getD k 0).toInt := by
  have q := List.pairwise_iff_getElem.mp hs k j (by omega) hj h
  rw [List.getD_eq_getElem?_getD, List.getD_eq_getElem?_getD, List.getElem?_eq_getElem hj, List.getElem?_eq_getElem (show k < L.length by omega)]
  exact (lv_i _ _).mp q
theorem lv_le {L : List Int32} (hs : lv_srt L) {k j : Nat} (h : k ≤ j) (hj : j < L.length) : (L.getD j 0).toInt ≤ (L.getD k 0).toInt := by
  by_cases z : k = j
  · rw [z]
    exact Int.le_refl _
  · have := ll_lt hs (show k < j by omega) hj
    omega
theorem ll_at {L : List Int32} {x : Int32} (hx : x ∈ L) : ∃ p, p < L.length ∧ L.getD p 0 = x := by
  obtain ⟨p, hp, e⟩ := List.getElem_of_mem hx
  refine ⟨p, hp, ?_⟩
  rw [List.getD_eq_getElem?_getD, List.getElem?_eq_getElem hp]
  exact e
theorem lv_in {L : List Int32} {k : Nat} (hk : k < L.length) : L.getD k 0 ∈ L := by
  rw [List.getD_eq_getElem?_getD, List.getElem?_eq_getElem hk]
  exact List.getElem_mem hk
theorem lv_nb {L : List Int32} (hs : lv_srt L) {x : Int32} (hx : x ∈ L) {k : Nat} (hk : k + 1 < L.length) : (L.getD k 0).toInt ≤ x.toInt ∨ x.toInt ≤ (L.getD (k + 1) 0).toInt := by
  obtain ⟨p, hp, e⟩ := ll_at hx
  rw [← e]
  by_cases z : p ≤ k
  · exact Or.inl (lv_le hs z (by omega))
  · exact Or.inr (lv_le hs (by omega) hp)
theorem lv_w_mem {N : Nat → Int32} {w x : Int32} : ∀ M, x ∈ lv_w N w M ↔ ∃ i, i < M ∧ rf_isb N i w = true ∧ x ∈ lv_s N i (rf_sp N i + 1)
  | 0 => ⟨fun q => absurd q List.not_mem_nil, fun ⟨_, h, _⟩ => absurd h (Nat.not_lt_zero _)⟩
  | M + 1 => by
    have ih := lv_w_mem (N := N) (w := w) (x := x) M
    unfold lv_w
    by_cases z : rf_isb N M w = true
    · rw [if_pos z, lv_all_mem, ih]
      constructor
      · rintro (⟨i, h1, h2⟩ | h)
        · exact ⟨i, by omega, h2⟩
        · exact ⟨M, by omega, z, h⟩
      · rintro ⟨i, h1, h2⟩
        by_cases y : i = M
        · rw [y] at h2
          exact Or.inr h2.2
        · exact Or.inl ⟨i, by omega, h2⟩
    · rw [if_neg z, ih]
      constructor
      · rintro ⟨i, h1, h2⟩
        exact ⟨i, by omega, h2⟩
      · rintro ⟨i, h1, h2⟩
        by_cases y : i = M
        · rw [y] at h2
          exact absurd h2.1 z
        · exact ⟨i, by omega, h2⟩
/-- what is asked of a row's streams -/
def tk (N : Nat → Int32) (M : Nat) : Prop := M ≤ 12 ∧ (1 ≤ (N 1).toInt ∧ (N 1).toInt ≤ 200) ∧ ∀ i, i < M → tl_ok N i
theorem tls.k {T : tv} {N : Nat → Int32} (t : tls T N) : tk N T.2.1 := ⟨t.1.2.1, by rw [t.1.2.2.1]; exact t.1.2.2.2, fun i hi => (t.2.1 i hi).2⟩
section
variable {N : Nat → Int32} {M : Nat}
theorem lv_s_z {i : Nat} (ok : tl_ok N i) (hg : 1 ≤ (N 1).toInt ∧ (N 1).toInt ≤ 200) {j : Nat} (hj : j ≤ rf_sp N i) : ∃ x, x ∈ lv_s N i (rf_sp N i + 1) ∧ x.toInt = zl N i j := by
  refine ⟨sv_lv (tl_S N i) (N 1) j, (tl_ls_mem ok _).mp ?_, zl_lv ok hg hj⟩
  exact List.mem_map.mpr ⟨j, List.mem_range'_1.mpr ⟨Nat.zero_le _, by show j < 0 + (rf_sp N i + 1); omega⟩, rfl⟩
theorem z_lv_s {i : Nat} (ok : tl_ok N i) (hg : 1 ≤ (N 1).toInt ∧ (N 1).toInt ≤ 200) {x : Int32} (h : x ∈ lv_s N i (rf_sp N i + 1)) : ∃ j, j ≤ rf_sp N i ∧ x.toInt = zl N i j := by
  obtain ⟨j, hj, e⟩ := List.mem_map.mp ((tl_ls_mem ok x).mpr h)
  have hj2 : j ≤ rf_sp N i := by
    have q := (List.mem_range'_1.mp hj).2
    have q2 : j < 0 + (rf_sp N i + 1) := q
    omega
  exact ⟨j, hj2, by rw [← e]; exact zl_lv ok hg hj2⟩
theorem lv_w_in (k : tk N M) {w x : Int32} (h : x ∈ lv_w N w M) : -200 ≤ x.toInt ∧ x.toInt ≤ 2000 := by
  obtain ⟨i, hi, -, hx⟩ := (lv_w_mem M).mp h
  obtain ⟨j, hj, e⟩ := z_lv_s (k.2.2 i hi) k.2.1 hx
  rw [e]
  exact zl_in (k.2.2 i hi) k.2.1 hj
/-- a list of levels that will do for the streams of w -/
def lv_ok (N : Nat → Int32) (w : Int32) (M : Nat) (L : List Int32) : Prop := lv_srt L ∧ (∀ x, x ∈ L → -200 ≤ x.toInt ∧ x.toInt ≤ 2000) ∧ ∀ x, x ∈ lv_w N w M → x ∈ L
theorem lv_ok_w (k : tk N M) (w : Int32) : lv_ok N w M (lv_w N w M) := ⟨lv_w_srt N w M, fun _ h => lv_w_in k h, fun _ h => h⟩
theorem lv_ok.ins {w : Int32} {L : List Int32} (h : lv_ok N w M L) {v : Int32} (hv2 : -200 ≤ v.toInt ∧ v.toInt ≤ 2000) : lv_ok N w M (lv_ins v L) := ⟨lv_ins_srt h.1, fun x hx => (lv_ins_mem.mp hx).elim (fun q => by rw [q]; exact hv2) (h.2.1 x), fun x hx => lv_ins_mem.mpr (Or.inr (h.2.2 x hx))⟩
theorem lv_ok.nb {w : Int32} {L : List Int32} (h : lv_ok N w M L) (k : tk N M) {i : Nat} (hi : i < M) (hw : rf_isb N i w = true) {p : Nat} (hp : p + 1 < L.length) : ∀ j, j ≤ rf_sp N i → (L.getD p 0).toInt ≤ zl N i j ∨ zl N i j ≤ (L.getD (p + 1) 0).toInt := by
  intro j hj
  obtain ⟨x, hx, e⟩ := lv_s_z (k.2.2 i hi) k.2.1 hj
  rw [← e]
  exact lv_nb h.1 (h.2.2 x ((lv_w_mem M).mpr ⟨i, hi, hw, hx⟩)) hp
def la_I (N : Nat → Int32) (w : Int32) (hi lo : Int) : Nat → Int
  | 0 => 0
  | s + 1 => if rf_isb N s w = true ∧ ¬ N (2 + 24 * s) = 1 then la_I N w hi lo s + (if N (2 + 24 * s + 1) = 1 then zb N s hi lo else -(zb N s hi lo)) else la_I N w hi lo s
theorem bw_i {i : Nat} (ok : tl_ok N i) (hg : 1 ≤ (N 1).toInt ∧ (N 1).toInt ≤ 200) (hi lo : Int32) : (rf_bw N i hi lo (rf_sp N i)).toInt = zb N i hi.toInt lo.toInt ∧ (0 ≤ zb N i hi.toInt lo.toInt ∧ zb N i hi.toInt lo.toInt ≤ 17600000) := by
  obtain ⟨h1, h2, h3⟩ := tl_bw ok hg hi lo (rf_sp N i) (Nat.le_refl _)
  have h8 := ok.2.2.1.2
  rw [bw_zb ok] at h1 h2 h3
  exact ⟨h1, h2, by omega⟩
theorem la_i (k : tk N M) (w hi lo : Int32) : ∀ s, s ≤ M → (rf_la N w hi lo s).toInt = la_I N w hi.toInt lo.toInt s ∧ (-(17600000 * s) ≤ la_I N w hi.toInt lo.toInt s ∧ la_I N w hi.toInt lo.toInt s ≤ 17600000 * s)
  | 0, _ => ⟨rfl, by show -(17600000 * ((0 : Nat) : Int)) ≤ 0 ∧ (0 : Int) ≤ 17600000 * ((0 : Nat) : Int); omega⟩
  | s + 1, hs => by
    obtain ⟨e, b1, b2⟩ := la_i k w hi lo s (by omega)
    have hM := k.1
    obtain ⟨f, c1, c2⟩ := bw_i (k.2.2 s (by omega)) k.2.1 hi lo
    show (if rf_isb N s w = true ∧ ¬ N (2 + 24 * s) = 1 then rf_la N w hi lo s + (if N (2 + 24 * s + 1) = 1 then rf_bw N s hi lo (rf_sp N s) else -(rf_bw N s hi lo (rf_sp N s))) else rf_la N w hi lo s).toInt = (if rf_isb N s w = true ∧ ¬ N (2 + 24 * s) = 1 then la_I N w hi.toInt lo.toInt s + (if N (2 + 24 * s + 1) = 1 then zb N s hi.toInt lo.toInt else -(zb N s hi.toInt lo.toInt)) else la_I N w hi.toInt lo.toInt s) ∧ (_ ≤ (if rf_isb N s w = true ∧ ¬ N (2 + 24 * s) = 1 then la_I N w hi.toInt lo.toInt s + (if N (2 + 24 * s + 1) = 1 then zb N s hi.toInt lo.toInt else -(zb N s hi.toInt lo.toInt)) else la_I N w hi.toInt lo.toInt s) ∧ (if rf_isb N s w = true ∧ ¬ N (2 + 24 * s) = 1 then la_I N w hi.toInt lo.toInt s + (if N (2 + 24 * s + 1) = 1 then zb N s hi.toInt lo.toInt else -(zb N s hi.toInt lo.toInt)) else la_I N w hi.toInt lo.toInt s) ≤ _)
    by_cases z : rf_isb N s w = true ∧ ¬ N (2 + 24 * s) = 1
    · rw [if_pos z, if_pos z]
      by_cases y : N (2 + 24 * s + 1) = 1
      · rw [if_pos y, if_pos y, Int64.toInt_add, e, f, Int.bmod_eq_of_le (by omega) (by omega)]
        exact ⟨rfl, by omega, by omega⟩
      · rw [if_neg y, if_neg y, Int64.toInt_add, Int64.toInt_neg, e, f, Int.bmod_eq_of_le (n := -(zb N s hi.toInt lo.toInt)) (by omega) (by omega), Int.bmod_eq_of_le (by omega) (by omega)]
        exact ⟨rfl, by omega, by omega⟩
    · rw [if_neg z, if_neg z]
      exact ⟨e, by omega, by omega⟩
theorem ad_bw {i : Nat} (ok : tl_ok N i) (hg : 1 ≤ (N 1).toInt ∧ (N 1).toInt ≤ 200) {L : List Int32} (hs : lv_srt L) (hB : ∀ x, x ∈ L → -200 ≤ x.toInt ∧ x.toInt ≤ 2000) {p : Nat} (hp : p + 1 < L.length) (hm : ∀ j, j ≤ rf_sp N i → (L.getD p 0).toInt ≤ zl N i j ∨ zl N i j ≤ (L.getD (p + 1) 0).toInt) : sv_ad (tl_S N i) (N 1) L p = if N (2 + 24 * i + 1) = 1 then rf_bw N i (L.getD p 0) (L.getD (p + 1) 0) (rf_sp N i) else -(rf_bw N i (L.getD p 0) (L.getD (p + 1) 0) (rf_sp N i)) := by
  have hl := ll_lt hs (show p < p + 1 by omega) hp
  have b1 := hB _ (lv_in (L := L) (k := p) (by omega))
  have b2 := hB _ (lv_in hp)
  have F := fb_zb ok hg hl hm
  obtain ⟨B, c1, c2⟩ := bw_i ok hg (L.getD p 0) (L.getD (p + 1) 0)
  have ed : (lv_dp L p).toInt = (L.getD p 0).toInt - (L.getD (p + 1) 0).toInt := by
    unfold lv_dp
    rw [if_pos hp, Int32.toInt_sub]
    exact Int.bmod_eq_of_le (by omega) (by omega)
  have core : (sv_fb (tl_S N i) (N 1) (L.getD p 0)).toInt64 * (lv_dp L p).toInt64 = rf_bw N i (L.getD p 0) (L.getD (p + 1) 0) (rf_sp N i) := by
    apply Int64.toInt_inj.mp
    rw [Int64.toInt_mul, rf_w, rf_w, ed, F, B]
    exact Int.bmod_eq_of_le (by omega) (by omega)
  unfold sv_ad sv_sg
  have e0 : sv_hot (tl_S N i) = N (2 + 24 * i + 1) := rfl
  rw [e0]
  rcases ok.1 with z | z
  · have z1 : ¬ N (2 + 24 * i + 1) = 1 := by rw [z]; decide
    rw [if_pos z, if_neg z1, show ((-1 : Int32)).toInt64 = -1 from rfl, Int64.neg_mul, Int64.one_mul, Int64.neg_mul, core]
  · have z1 : ¬ N (2 + 24 * i + 1) = 0 := by rw [z]; decide
    rw [if_neg z1, if_pos z, show (1 : Int32).toInt64 = 1 from rfl, Int64.one_mul, core]
theorem ad_0 {i : Nat} (h : rf_sp N i = 0) (L : List Int32) (p : Nat) : sv_ad (tl_S N i) (N 1) L p = 0 := by
  have e : sv_fb (tl_S N i) (N 1) (L.getD p 0) = 0 := by
    unfold sv_fb
    rw [show sv_n (tl_S N i) = 0 from h]
    exact ite_self _
  unfold sv_ad
  rw [e, show (0 : Int32).toInt64 = 0 from rfl, Int64.mul_zero, Int64.zero_mul]
theorem cl_la {T : tv} (t : tls T N) {w : Int32} {L : List Int32} (h : lv_ok N w T.2.1 L) {p : Nat} (hp : p + 1 < L.length) : ∀ s, s ≤ T.2.1 → cs_l T w L p s = rf_la N w (L.getD p 0) (L.getD (p + 1) 0) s
  | 0, _ => rfl
  | s + 1, hs => by
    have ih := cl_la t h hp s (by omega)
    obtain ⟨e, ok⟩ := t.2.1 s (by omega)
    unfold cs_l rf_la
    rw [ih, e, ← t.1.2.2.1]
    by_cases z : rf_isb N s w = true
    · have zs := (tl_is ok w).mpr z
      have k3 : N (2 + 24 * s) < 3 := by
        unfold rf_isb at z
        rw [decide_eq_true_iff] at z
        exact z.1
      by_cases y : N (2 + 24 * s) = 1
      · have n0 : rf_sp N s = 0 := (tl_1 ok k3).mpr y
        rw [if_neg (show ¬ (rf_isb N s w = true ∧ ¬ N (2 + 24 * s) = 1) from fun q => q.2 y), ad_0 n0, Int64.add_zero]
        exact ite_self _
      · rw [if_pos (show sv_is (tl_S N s) w ∧ ¬ sv_sd (tl_S N s) (N 1) (L.getD p 0) from ⟨zs, fun q => y ((tl_1 ok k3).mp q.1)⟩), if_pos ⟨z, y⟩, ad_bw ok t.k.2.1 h.1 h.2.1 hp (h.nb t.k (by omega) z hp)]
    · rw [if_neg (fun q => z ((tl_is ok w).mp q.1)), if_neg (fun q => z q.1)]
/-- the works' sums are the reference's -/
theorem hw_su {T : tv} (t : tls T N) {w : Int32} {L : List Int32} (h : lv_ok N w T.2.1 L) (a : Nat → Int64) : (∀ k, k < L.length → hp_su (hp_la N w T.2.1 L) a k + hp_la N w T.2.1 L k = cf_su a (tw_b T w L) k ∧ hp_su (hp_la N w T.2.1 L) a (k + 1) = cf_su a (tw_b T w L) k + a k) ∧ hp_mn (hp_la N w T.2.1 L) a L.length = cf_mn a (tw_b T w L) L.length := by
  have r0 : hp_la N w T.2.1 L 0 = 0 := rfl
  have r1 : ∀ k, k + 1 < L.length → hp_la N w T.2.1 L (k + 1) = tw_b T w L k := by
    intro k hk
    unfold hp_la tw_b
    rw [if_neg (by omega), cl_la t h hk _ (Nat.le_refl _), Nat.add_sub_cancel]
  exact ⟨su_shift r0 r1, mn_shift r0 r1 _ (Nat.le_refl _)⟩
theorem hw_a {T : tv} (t : tls T N) (w : Int32) (L : List Int32) : tw_a T w L = fun k => rf_st N w (L.getD k 0) T.2.1 := by
  funext k
  exact tl_st t rfl T.2.1 (Nat.le_refl _)
theorem hw_v {T : tv} (t : tls T N) (w : Int32) : tw_L T w = hz_L N w T.2.1 ∧ -(cf_mn (tw_a T w (tw_L T w)) (tw_b T w (tw_L T w)) (tw_L T w).length) = hz_v N w T.2.1 ∧ ∀ k, k < (tw_L T w).length → cf_su (tw_a T w (tw_L T w)) (tw_b T w (tw_L T w)) k = hz_ah N w T.2.1 k ∧ cf_su (tw_a T w (tw_L T w)) (tw_b T w (tw_L T w)) k + tw_a T w (tw_L T w) k = hz_be N w T.2.1 k := by
  have eL : tw_L T w = hz_L N w T.2.1 := t.tw w
  have ok := lv_ok_w t.k w
  rw [← t.tw w] at ok
  obtain ⟨h1, h2⟩ := hw_su t ok (tw_a T w (tw_L T w))
  have ea : tw_a T w (tw_L T w) = hp_b N (fun _ => 0) (fun _ => 0) w T.2.1 0 := by
    rw [hw_a t, eL]
    rfl
  have er : hp_la N w T.2.1 (tw_L T w) = hp_a N (fun _ => 0) w T.2.1 0 := by
    rw [eL]
    rfl
  refine ⟨eL, ?_, fun k hk => ?_⟩
  · rw [← h2, ea, er, eL]
    rfl
  · obtain ⟨g1, g2⟩ := h1 k hk
    constructor
    · rw [← g1, er, ea]
      rfl
    · rw [← g2, er, ea]
      rfl
end
