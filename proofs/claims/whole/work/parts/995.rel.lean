/-! what the works' state tells of the reference's row -/
def tl_d (N : Nat → Int32) (i j : Nat) : Int32 := if j < 8 then N (2 + 24 * i + 6 + 2 * j) else 0
def tl_q (N : Nat → Int32) (i j : Nat) : Int32 := if j < 8 then N (2 + 24 * i + 7 + 2 * j) else 0
def tl_S (N : Nat → Int32) (i : Nat) : sv := sn_S (N (2 + 24 * i)) (N (2 + 24 * i + 1)) (N (2 + 24 * i + 2)) (N (2 + 24 * i + 3)) (N (2 + 24 * i + 5)) (rf_sp N i) (tl_d N i) (tl_q N i)
/-- how warm a stream is behind its first j spans -/
def tl_e (N : Nat → Int32) (i : Nat) : Nat → Int
  | 0 => (N (2 + 24 * i + 3)).toInt
  | j + 1 => if N (2 + 24 * i + 1) = 1 then tl_e N i j - (tl_d N i j).toInt else tl_e N i j + (tl_d N i j).toInt
def tl_ok (N : Nat → Int32) (i : Nat) : Prop := (N (2 + 24 * i + 1) = 0 ∨ N (2 + 24 * i + 1) = 1) ∧ (0 ≤ (N (2 + 24 * i + 3)).toInt ∧ (N (2 + 24 * i + 3)).toInt ≤ 2000) ∧ (N (2 + 24 * i + 4) = nI (rf_sp N i) ∧ rf_sp N i ≤ 8) ∧ ((N (2 + 24 * i) = 1 ∧ rf_sp N i = 0 ∧ (1 ≤ (N (2 + 24 * i + 5)).toInt ∧ (N (2 + 24 * i + 5)).toInt ≤ 1000000) ∧ (0 ≤ (N (2 + 24 * i + 2)).toInt ∧ (N (2 + 24 * i + 2)).toInt ≤ 2)) ∨ (((N (2 + 24 * i) = 3 ∧ N (2 + 24 * i + 1) = 1) ∨ (N (2 + 24 * i) = 4 ∧ N (2 + 24 * i + 1) = 0)) ∧ rf_sp N i = 0 ∧ (1 ≤ (N (2 + 24 * i + 5)).toInt ∧ (N (2 + 24 * i + 5)).toInt ≤ 1000) ∧ N (2 + 24 * i + 2) = -1) ∨ ((N (2 + 24 * i) = 0 ∨ N (2 + 24 * i) = 2) ∧ 1 ≤ rf_sp N i ∧ N (2 + 24 * i + 5) = 0 ∧ (0 ≤ (N (2 + 24 * i + 2)).toInt ∧ (N (2 + 24 * i + 2)).toInt ≤ 2) ∧ ∀ j, j < rf_sp N i → 1 ≤ (tl_d N i j).toInt ∧ (1 ≤ (tl_q N i j).toInt ∧ (tl_q N i j).toInt ≤ 1000) ∧ (0 ≤ tl_e N i (j + 1) ∧ tl_e N i (j + 1) ≤ 2000)))
def tl_h (X : Option shv) (N : Nat → Int32) (k : Nat) : Prop := (X = none ∧ N (290 + 18 * k) = -1) ∨ ∃ Y, X = some Y ∧ N (290 + 18 * k) = Y.1 ∧ (0 ≤ Y.1.toInt ∧ Y.1.toInt ≤ 2) ∧ N (290 + 18 * k + 1) = nI Y.2.1 ∧ Y.2.1 ≤ 16 ∧ ∀ j, j < Y.2.1 → Y.2.2 j = N (290 + 18 * k + 2 + j)
def tl_n (X : nev) (N : Nat → Int32) (k M : Nat) : Prop := N (434 + 61 * k) = nI X.1 ∧ X.1 ≤ 20 ∧ ∀ j, j < X.1 → (N (434 + 61 * k + 1 + 3 * j) = X.2.1 j ∧ N (434 + 61 * k + 1 + 3 * j + 1) = X.2.2.1 j ∧ N (434 + 61 * k + 1 + 3 * j + 2) = X.2.2.2 j) ∧ (1 ≤ (X.2.2.2 j).toInt ∧ (X.2.2.2 j).toInt ≤ 100000000) ∧ ∃ a c, (a < M ∧ c < M) ∧ (X.2.1 j = nI a ∧ X.2.2.1 j = nI c) ∧ (N (2 + 24 * a) < 3 ∧ N (2 + 24 * c) < 3) ∧ N (2 + 24 * a + 1) = 1 ∧ N (2 + 24 * c + 1) = 0
def tl_f (w : Int32) (N : Nat → Int32) (a : Nat) : Prop := ∃ m : Nat, w = nI m ∧ m < 4096 ∧ ∀ c, c < 12 → (m.testBit c = true ↔ N (678 + 12 * a + c) = 1) ∧ (N (678 + 12 * a + c) = 0 ∨ N (678 + 12 * a + c) = 1)
def tls (T : tv) (N : Nat → Int32) : Prop := (N 0 = nI T.2.1 ∧ T.2.1 ≤ 12 ∧ N 1 = T.1 ∧ 1 ≤ T.1.toInt ∧ T.1.toInt ≤ 200) ∧ (∀ i, i < T.2.1 → T.2.2.1 i = tl_S N i ∧ tl_ok N i) ∧ (∀ k, k < 8 → tl_h (T.2.2.2.1 k) N k) ∧ (∀ k, k < 4 → tl_n (T.2.2.2.2.1 k) N k T.2.1) ∧ ∀ a, a < 12 → tl_f (T.2.2.2.2.2 a) N a
section
variable {N N2 : Nat → Int32} {i M : Nat}
/-- agreement on a stream's 24 numbers -/
def tl_a (N N2 : Nat → Int32) (i : Nat) : Prop := ∀ c, c < 24 → N2 (2 + 24 * i + c) = N (2 + 24 * i + c)
theorem tl_a.z (h : tl_a N N2 i) : N2 (2 + 24 * i) = N (2 + 24 * i) := h 0 (by decide)
theorem tl_a.sp (h : tl_a N N2 i) : rf_sp N2 i = rf_sp N i := by
  unfold rf_sp
  rw [h 4 (by decide)]
theorem tl_a.d (h : tl_a N N2 i) : tl_d N2 i = tl_d N i := by
  funext j
  unfold tl_d
  by_cases y : j < 8
  · rw [if_pos y, if_pos y, Nat.add_assoc, h (6 + 2 * j) (by omega)]
  · rw [if_neg y, if_neg y]
theorem tl_a.q (h : tl_a N N2 i) : tl_q N2 i = tl_q N i := by
  funext j
  unfold tl_q
  by_cases y : j < 8
  · rw [if_pos y, if_pos y, Nat.add_assoc, h (7 + 2 * j) (by omega)]
  · rw [if_neg y, if_neg y]
theorem tl_a.S (h : tl_a N N2 i) : tl_S N2 i = tl_S N i := by
  unfold tl_S
  rw [h.z, h 1 (by decide), h 2 (by decide), h 3 (by decide), h 5 (by decide), h.sp, h.d, h.q]
theorem tl_a.e (h : tl_a N N2 i) : ∀ j, tl_e N2 i j = tl_e N i j
  | 0 => by unfold tl_e; rw [h 3 (by decide)]
  | j + 1 => by unfold tl_e; rw [h 1 (by decide), h.d, tl_a.e h j]
theorem tl_a.ok (h : tl_a N N2 i) (k : tl_ok N i) : tl_ok N2 i := by
  unfold tl_ok
  rw [h.z, h 1 (by decide), h 2 (by decide), h 3 (by decide), h 4 (by decide), h 5 (by decide), h.sp, h.d, h.q]
  simp only [h.e]
  exact k
theorem tl_h.c {X : Option shv} {k : Nat} (h : ∀ c, c < 18 → N2 (290 + 18 * k + c) = N (290 + 18 * k + c)) (t : tl_h X N k) : tl_h X N2 k := by
  have h0 : N2 (290 + 18 * k) = N (290 + 18 * k) := h 0 (by decide)
  rcases t with ⟨e, z⟩ | ⟨Y, e, a, b, c, d, f⟩
  · exact Or.inl ⟨e, by rw [h0]; exact z⟩
  · exact Or.inr ⟨Y, e, by rw [h0]; exact a, b, by rw [h 1 (by decide)]; exact c, d, fun j hj => by rw [f j hj, Nat.add_assoc, h (2 + j) (by omega)]⟩
theorem tl_n.c {X : nev} {k M2 : Nat} (h : ∀ c, c < 61 → N2 (434 + 61 * k + c) = N (434 + 61 * k + c)) (hM : M ≤ M2) (hs : ∀ i, i < M → N2 (2 + 24 * i) = N (2 + 24 * i) ∧ N2 (2 + 24 * i + 1) = N (2 + 24 * i + 1)) (t : tl_n X N k M) : tl_n X N2 k M2 := by
  obtain ⟨a, b, c⟩ := t
  refine ⟨by rw [show N2 (434 + 61 * k) = N (434 + 61 * k) from h 0 (by decide)]; exact a, b, fun j hj => ?_⟩
  obtain ⟨⟨c1, c2, c3⟩, c4, x, y, ⟨c5, c6⟩, c7, ⟨c8, c9⟩, c10, c11⟩ := c j hj
  have e0 := h (1 + 3 * j) (by omega)
  have e1 := h (1 + 3 * j + 1) (by omega)
  have e2 := h (1 + 3 * j + 2) (by omega)
  simp only [← Nat.add_assoc] at e0 e1 e2
  refine ⟨⟨by rw [e0]; exact c1, by rw [e1]; exact c2, by rw [e2]; exact c3⟩, c4, x, y, ⟨by omega, by omega⟩, c7, ⟨?_, ?_⟩, ?_, ?_⟩
  · rw [(hs x c5).1]
    exact c8
  · rw [(hs y c6).1]
    exact c9
  · rw [(hs x c5).2]
    exact c10
  · rw [(hs y c6).2]
    exact c11
theorem tl_f.c {w : Int32} {a : Nat} (h : ∀ c, c < 12 → N2 (678 + 12 * a + c) = N (678 + 12 * a + c)) (t : tl_f w N a) : tl_f w N2 a := by
  obtain ⟨m, e, b, c⟩ := t
  refine ⟨m, e, b, fun j hj => ?_⟩
  rw [h j hj]
  exact c j hj
theorem tls.c {T : tv} (h : ∀ c, c < 822 → N2 c = N c) (t : tls T N) : tls T N2 := by
  obtain ⟨⟨a1, a2, a3, a4⟩, b, c, d, e⟩ := t
  have ha : ∀ i, i < T.2.1 → tl_a N N2 i := fun i hi c hc => h _ (by omega)
  refine ⟨⟨by rw [h 0 (by decide)]; exact a1, a2, by rw [h 1 (by decide)]; exact a3, a4⟩, fun i hi => ⟨by rw [(ha i hi).S]; exact (b i hi).1, (ha i hi).ok (b i hi).2⟩, fun k hk => (c k hk).c (fun c hc => h _ (by omega)), fun k hk => (d k hk).c (fun c hc => h _ (by omega)) (Nat.le_refl _) (fun i hi => ⟨(ha i hi).z, ha i hi 1 (by decide)⟩), fun a ha => (e a ha).c (fun c hc => h _ (by omega))⟩
/-- a state that tells a row is one the works can ask -/
theorem tls.tvo {T : tv} (t : tls T N) : tv_ok T := by
  refine ⟨t.1.2.1, fun i hi => ?_⟩
  rw [(t.2.1 i hi).1]
  exact (t.2.1 i hi).2.2.2.1.2
end
/-- the rows of both rings -/
def rg (W : cw) (g : Nat → Option jx_E) (R : rf_R) (B n : Nat) : Prop := ∀ j, j ≤ n → ∃ y Tj, W.2.2.2.2.1 ((B + j) % 201) = some y ∧ im_sta g y Tj ∧ tls Tj (fun c => R.1 1 (rf_pl B j + c))
theorem rf_put_at (f k : Nat → Int32) (p q c : Nat) (hc : c < 822) : rf_put f k (p * 822) 822 (q * 822 + c) = if q = p then k c else f (q * 822 + c) := by
  unfold rf_put
  by_cases y : q = p
  · rw [if_pos y, if_pos (by subst y; omega), y, Nat.add_sub_cancel_left]
  · rw [if_neg y, if_neg (by omega)]
