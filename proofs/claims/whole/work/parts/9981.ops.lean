/-! how a row's change keeps what a state tells; first calls -/
section
variable {N N2 : Nat → Int32} {T : tv}
theorem tls.gap {a : Int32} (t : tls T N) (h : ∀ c, ¬ c = 1 → c < 822 → N2 c = N c) (h1 : N2 1 = a) (ha : 1 ≤ a.toInt ∧ a.toInt ≤ 200) : tls (a, T.2) N2 := by
  obtain ⟨⟨a1, a2, a3, a4⟩, b, c, d, e⟩ := t
  have hs : ∀ i, i < T.2.1 → tl_a N N2 i := fun i hi c hc => h _ (by omega) (by omega)
  exact ⟨⟨(h 0 (by decide) (by decide)).trans a1, a2, h1, ha⟩, fun i hi => ⟨by rw [(hs i hi).S]; exact (b i hi).1, (hs i hi).ok (b i hi).2⟩, fun k hk => (c k hk).c (fun c hc => h _ (by omega) (by omega)), fun k hk => (d k hk).c (fun c hc => h _ (by omega) (by omega)) (Nat.le_refl _) (fun i hi => ⟨(hs i hi).z, hs i hi 1 (by decide)⟩), fun a ha => (e a ha).c (fun c hc => h _ (by omega) (by omega))⟩
theorem tls.sheet {k : Nat} {Y : Option shv} (t : tls T N) (h : ∀ c, ¬ (290 + 18 * k ≤ c ∧ c < 290 + 18 * k + 18) → c < 822 → N2 c = N c) (hk : k < 8) (hy : tl_h Y N2 k) : tls (T.1, T.2.1, T.2.2.1, (fun j => if j = k then Y else T.2.2.2.1 j), T.2.2.2.2.1, T.2.2.2.2.2) N2 := by
  obtain ⟨⟨a1, a2, a3, a4⟩, b, c, d, e⟩ := t
  have hs : ∀ i, i < T.2.1 → tl_a N N2 i := fun i hi c hc => h _ (by omega) (by omega)
  refine ⟨⟨(h 0 (by omega) (by decide)).trans a1, a2, (h 1 (by omega) (by decide)).trans a3, a4⟩, fun i hi => ⟨by rw [(hs i hi).S]; exact (b i hi).1, (hs i hi).ok (b i hi).2⟩, fun j hj => ?_, fun k hk => (d k hk).c (fun c hc => h _ (by omega) (by omega)) (Nat.le_refl _) (fun i hi => ⟨(hs i hi).z, hs i hi 1 (by decide)⟩), fun a ha => (e a ha).c (fun c hc => h _ (by omega) (by omega))⟩
  show tl_h (if j = k then Y else T.2.2.2.1 j) N2 j
  by_cases y : j = k
  · rw [if_pos y, y]
    exact hy
  · rw [if_neg y]
    exact (c j hj).c (fun c hc => h _ (by omega) (by omega))
theorem tls.net {k : Nat} {Y : nev} (t : tls T N) (h : ∀ c, ¬ (434 + 61 * k ≤ c ∧ c < 434 + 61 * k + 61) → c < 822 → N2 c = N c) (hk : k < 4) (hy : tl_n Y N2 k T.2.1) : tls (T.1, T.2.1, T.2.2.1, T.2.2.2.1, (fun j => if j = k then Y else T.2.2.2.2.1 j), T.2.2.2.2.2) N2 := by
  obtain ⟨⟨a1, a2, a3, a4⟩, b, c, d, e⟩ := t
  have hs : ∀ i, i < T.2.1 → tl_a N N2 i := fun i hi c hc => h _ (by omega) (by omega)
  refine ⟨⟨(h 0 (by omega) (by decide)).trans a1, a2, (h 1 (by omega) (by decide)).trans a3, a4⟩, fun i hi => ⟨by rw [(hs i hi).S]; exact (b i hi).1, (hs i hi).ok (b i hi).2⟩, fun k hk => (c k hk).c (fun c hc => h _ (by omega) (by omega)), fun j hj => ?_, fun a ha => (e a ha).c (fun c hc => h _ (by omega) (by omega))⟩
  show tl_n (if j = k then Y else T.2.2.2.2.1 j) N2 j T.2.1
  by_cases y : j = k
  · rw [if_pos y, y]
    exact hy
  · rw [if_neg y]
    exact (d j hj).c (fun c hc => h _ (by omega) (by omega)) (Nat.le_refl _) (fun i hi => ⟨(hs i hi).z, hs i hi 1 (by decide)⟩)
theorem tls.forb {a : Nat} {w : Int32} (t : tls T N) (h : ∀ c, ¬ (678 + 12 * a ≤ c ∧ c < 678 + 12 * a + 12) → c < 822 → N2 c = N c) (ha : a < 12) (hy : tl_f w N2 a) : tls (T.1, T.2.1, T.2.2.1, T.2.2.2.1, T.2.2.2.2.1, upd T.2.2.2.2.2 a w) N2 := by
  obtain ⟨⟨a1, a2, a3, a4⟩, b, c, d, e⟩ := t
  have hs : ∀ i, i < T.2.1 → tl_a N N2 i := fun i hi c hc => h _ (by omega) (by omega)
  refine ⟨⟨(h 0 (by omega) (by decide)).trans a1, a2, (h 1 (by omega) (by decide)).trans a3, a4⟩, fun i hi => ⟨by rw [(hs i hi).S]; exact (b i hi).1, (hs i hi).ok (b i hi).2⟩, fun k hk => (c k hk).c (fun c hc => h _ (by omega) (by omega)), fun k hk => (d k hk).c (fun c hc => h _ (by omega) (by omega)) (Nat.le_refl _) (fun i hi => ⟨(hs i hi).z, hs i hi 1 (by decide)⟩), fun j hj => ?_⟩
  show tl_f (if j = a then w else T.2.2.2.2.2 j) N2 j
  by_cases y : j = a
  · rw [if_pos y, y]
    exact hy
  · rw [if_neg y]
    exact (e j hj).c (fun c hc => h _ (by omega) (by omega))
theorem tls.come {S : sv} (t : tls T N) (hM : T.2.1 < 12) (h : ∀ c, ¬ c = 0 → ¬ (2 + 24 * T.2.1 ≤ c ∧ c < 2 + 24 * T.2.1 + 24) → c < 822 → N2 c = N c) (h0 : N2 0 = nI (T.2.1 + 1)) (hS : S = tl_S N2 T.2.1) (ok : tl_ok N2 T.2.1) : tls (T.1, T.2.1 + 1, (fun j => if j = T.2.1 then S else T.2.2.1 j), T.2.2.2.1, T.2.2.2.2.1, T.2.2.2.2.2) N2 := by
  obtain ⟨⟨a1, a2, a3, a4⟩, b, c, d, e⟩ := t
  have hs : ∀ i, i < T.2.1 → tl_a N N2 i := fun i hi c hc => h _ (by omega) (by omega) (by omega)
  refine ⟨⟨h0, hM, (h 1 (by omega) (by omega) (by decide)).trans a3, a4⟩, fun i hi => ?_, fun k hk => (c k hk).c (fun c hc => h _ (by omega) (by omega) (by omega)), fun k hk => (d k hk).c (fun c hc => h _ (by omega) (by omega) (by omega)) (Nat.le_succ _) (fun i hi => ⟨(hs i hi).z, hs i hi 1 (by decide)⟩), fun a ha => (e a ha).c (fun c hc => h _ (by omega) (by omega) (by omega))⟩
  have hi : i < T.2.1 + 1 := hi
  show (if i = T.2.1 then S else T.2.2.1 i) = tl_S N2 i ∧ tl_ok N2 i
  by_cases y : i = T.2.1
  · rw [if_pos y, y]
    exact ⟨hS, ok⟩
  · rw [if_neg y]
    have hi2 : i < T.2.1 := by omega
    exact ⟨by rw [(hs i hi2).S]; exact (b i hi2).1, (hs i hi2).ok (b i hi2).2⟩
end
theorem upd_ne {f : Nat → Int32} {a j : Nat} {w : Int32} (h : ¬ j = a) : upd f a w j = f j := if_neg h
theorem upd_eq {f : Nat → Int32} {a : Nat} {w : Int32} : upd f a w a = w := if_pos rfl
theorem lw_nat {a : Int32} {n : Nat} (h : 0 ≤ a.toInt ∧ a.toInt ≤ n) : ∃ k, k ≤ n ∧ a = nI k := by
  refine ⟨a.toNatClampNeg, ?_, ?_⟩
  · show a.toInt.toNat ≤ n
    omega
  · have h1 := Int32.toInt_lt a
    apply Int32.toInt_inj.mp
    rw [nI_toInt (by show a.toInt.toNat < _; omega)]
    show a.toInt = (a.toInt.toNat : Int)
    omega
section
variable {L : Nat} {xs : Nat → Int32}
theorem op_tear (a : Int32) : lw_o (lw_K L xs) L xs 94 141 [.int a] true := by
  intro k h p
  obtain ⟨W, g, nx, s, X, R, B, D, U, x, T, I⟩ := p
  by_cases q : 0 ≤ a.toInt ∧ a.toInt ≤ 7
  · obtain ⟨c, c7, rfl⟩ := lw_nat (n := 7) q
    have h78 := I.nx78
    obtain ⟨g2, t, e, f, n2⟩ := kc_tear (s := s) (by omega) I.free I.now c (by omega)
    refine lw_act I t e f n2 (rc_tear 56 R B D I.now.1.1 I.now.1.2.1 I.e2 I.e3 c (by omega)) (I.tl.sheet (k := c) (Y := none) (fun j hj _ => upd_ne (by omega)) (by omega) (Or.inl ⟨rfl, upd_eq⟩)) ⟨by omega, by omega⟩ (by omega)
  · exact lw_no I (kc_tear_no a q) (rc_tear_no 56 R a q)
end
