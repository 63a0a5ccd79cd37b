/-! THE CLAIM OUT OF ONE WALK OF THE LAW'S BODY. Your part is whole_start (and what it stands on); all else here is the same for every law, but numbers. -/
def R_law : String := "HeatWorksLaw"
def lw_P (b : Addr) (xs : List Int32) (args : Array Value) (s : State) : Prop := args = #[.ref b] ∧ s.IntsAt b xs ∧ xs.length ≤ 3072 ∧ (Jvm.Cond.and given_1 narrow_1).before args s = true
def lw_Q (_ : Array Value) (s : State) (o : Outcome) (t : State) : Prop := o = .returned (some (.int 1)) ∧ Framed s o t [] 600000 7302250
def lw_Z (below : List Frame) (a : Array Value) (s : State) : State → Prop := fun t => ∃ o, t.status = .running ∧ Ended t below o ∧ lw_Q a s o t
/-- the law's own end, with 1 on the stack, nothing written that was there before, its room as the claim has it -/
theorem lw_ret {p : Program} {l : Launch} {e : Env} {s : State} {m : MethodId} {below : List Frame} {meth : Method} {c : Code} {b : Nat} (hx : p.tables.exec = Jvm.exec) (hb : c.code = code) (hr : meth.sig.returnType = ret) (hlocks : meth.locks = false) {pc : Nat} {H : Heap} {ls : Array Slot} (hdg : decode code pc = .ok (.ireturn, 1)) : W p l e room_1 s m #[Value.ref b] below meth c H [] 600000 7302250 (lw_Z below #[Value.ref b] s) (F0 m pc ls [.int 1]) := by
  intro T hT X
  obtain ⟨fs, hret, hrun, hended, hW, hframe⟩ := X.leave (v := some (.int 1)) (hlocks := hlocks) (fun h => by rw [hr] at h; cases h)
  have hmeth' : T.vm.method? m = some meth := X.method'
  refine ⟨T.setFrames fs, ?_, .returned (some (.int 1)), hrun, hended, rfl, ⟨_, rfl⟩, hW, hframe⟩
  jvm_step X.here [X.here.top, hx, hb, hdg, hmeth', hr, ret, narrow_b1]
  (try refine ⟨rfl, ?_⟩); (try refine ⟨rfl, ?_⟩)
  first | (intro acts; rw [hret _ acts rfl rfl rfl]) | rw [hret _ _ rfl rfl rfl]
  exact Steps.refl _
/-- what holds at the law's entry: the machine, the code, the tables' words (any of lw_tbl by 'hts w (by decide +kernel)'), the script of L ints xs at the cell b, what the Statement gives of the start (any of its parts by flat_of_before) -/
def lw_At (p : Program) (s : State) (m : MethodId) (meth : Method) (c : Code) (b L : Nat) (xs : Nat → Int32) : Prop :=
  p.tables.exec = Jvm.exec ∧ c.code = code ∧ meth.sig.returnType = ret ∧ c.maxLocals = 4 ∧ s.vm.findClass R_law = some m.cls ∧ (∀ w ∈ lw_tbl, w.before #[Value.ref b] s = true) ∧ va_X b L xs s s.heap ∧ b < s.heap.size ∧ meth.locks = false ∧ (Jvm.Cond.and given_1 narrow_1).before #[Value.ref b] s = true
/-- the heap at the law's entry: the script alone -/
def jx_h0 (L : Nat) (xs : Nat → Int32) : jx_H := (1, 0, fun a => if a = 0 then some (.inl (98, L, .inl xs)) else none)
/-- the run that is asked for -/
def jx_Law (L : Nat) (xs : Nat → Int32) : Prop := ∃ (N : Nat) (hE : jx_H), jx_run N 215 0 (jx_ent 215 [.ref 0]) [] (jx_h0 L xs) = some (some (.int 1), hE) ∧ hE.1 ≤ 600001 ∧ hE.2.1 ≤ 7302250
theorem jx_arr_ex {s : State} {args : Array Value} (hts : ∀ w ∈ jx_big, w.before args s = true) (hN : ∀ w ∈ tables_1, jx_isN w = true → va_Nw w s) (t : Nat) : ∃ cA : ClassId, t < 8 → ArrOfT s cA (jx_aty.getD t .int) ∧ va_RA s cA (jx_aty.getD t .int) := by
  by_cases ht : t < 8
  · have h1 := jx_all_at jx_tOk_all (List.mem_range.mpr ht)
    unfold jx_tOk at h1
    obtain ⟨-, h2⟩ := (Bool.and_eq_true_iff).mp h1
    by_cases h4 : t < 4
    · rw [if_pos h4] at h2
      obtain ⟨cA, kA, comp, g1, g2, g3⟩ := Cond.arrayClass_spec (hts _ (jx_wd_in h2))
      refine ⟨cA, fun _ => ⟨fun n z => ⟨fun k h => (by cases h), kA, g2, comp, g3⟩, ?_⟩⟩
      have hno : ∀ C, jx_aty.getD t .int ≠ .object C := by
        match t, h4 with
        | 0, _ => intro C h; cases h
        | 1, _ => intro C h; cases h
        | 2, _ => intro C h; cases h
        | 3, _ => intro C h; cases h
      revert g1 hno
      generalize jx_aty.getD t .int = ty
      intro g1 hno
      cases ty with
      | object C => exact absurd rfl (hno C)
      | _ => exact g1
    · rw [if_neg h4] at h2
      obtain ⟨h3, h5⟩ := (Bool.and_eq_true_iff).mp h2
      obtain ⟨i1, i2⟩ := jx_wn_in h5
      have hao : va_AO (jx_cn (jx_acl.getD t 99)) s := hN _ i1 i2
      obtain ⟨comp, cA, kA, g1, g2, g3, g4, g5⟩ := Cond.arrayOver_spec hao
      refine ⟨cA, fun _ => ?_⟩
      rw [jx_tyO (by omega) ht]
      exact ⟨fun n z => ⟨fun k h => (by cases h), kA, g3, comp, g4⟩, kA, comp, g3, g4, g1, g5⟩
  · exact ⟨0, fun h => absurd h ht⟩
theorem jx_cls_ex {s : State} {args : Array Value} (hts : ∀ w ∈ jx_big, w.before args s = true) (k : Nat) : ∃ d : ClassId × (Nat → Nat), ∀ q : vw_C, jx_cl[k]? = some q → u_Kn s q.1 q.2.1 q.2.2 d.1 d.2 := by
  cases hq : jx_cl[k]? with
  | none => exact ⟨(0, fun _ => 0), fun q h => by cases h⟩
  | some c =>
    obtain ⟨g1, g2, g3, g4, g5, -⟩ := jx_cls hq
    obtain ⟨cC, iS, h⟩ := u_known (C := c.1) (T := c.2.1) (N := c.2.2) hts g5 (hts _ g3)
    exact ⟨(cC, iS), fun q h2 => by cases h2; exact h⟩
theorem jx_law_frames : (jx_mi 215).2.2.2.2.2.1 ≤ room_1.frames ∧ (jx_mi 215).2.2.2.2.2.2 ≤ room_1.locals := by decide +kernel
theorem jx_law_name : ¬ (jx_mi 215).1.name = "<init>" := by decide +kernel
set_option maxHeartbeats 4000000 in
theorem jx_topW {p : Program} {e : Env} {s : State} {m : MethodId} {below : List Frame} {meth : Method} {c : Code} (l : Launch) {b L : Nat} {xs : Nat → Int32} (hrun : jx_Law L xs) (C0 : lw_At p s m meth c b L xs) : W p l e room_1 s m #[Value.ref b] below meth c s.heap [] 0 0 (lw_Z below #[Value.ref b] s) (entryFrame m ([Value.ref b] : List Value).toArray 4) := by
  obtain ⟨hx, hb, hr, hml, hown, hts, hX, hbl, hlocks, hgv⟩ := C0
  obtain ⟨N, hE, hrn, hc1, hc2⟩ := hrun
  have htb : ∀ w ∈ jx_big, w.before #[Value.ref b] s = true := fun w hw => hts w (List.mem_filter.mp hw).1
  have hN : ∀ w ∈ tables_1, jx_isN w = true → va_Nw w s := by
    intro w hw hn
    have h1 := hts w (List.mem_append_right _ hw)
    unfold jx_isN at hn
    split at hn
    · exact va_Nw.of rfl h1
    · exact va_Nw.of rfl h1
    · exact h1
    · cases hn
  obtain ⟨aC, haC⟩ := Classical.axiomOfChoice (jx_arr_ex htb hN)
  obtain ⟨dd, hdd⟩ := Classical.axiomOfChoice (jx_cls_ex htb)
  have hK : va_K (fun k => (dd k).1, fun k => (dd k).2) jx_cl (jx_tys aC) s := by
    refine ⟨fun k q hq => hdd k q hq, fun k q hq => ?_⟩
    have hk : k < 8 := by
      have := (List.getElem?_eq_some_iff.mp hq).1
      simpa [jx_tys] using this
    rw [jx_tys_at aC hk] at hq
    cases hq
    exact haC k hk
  have hn1 : s.heap.size = (s.heap.size - 1) + 1 := by omega
  have hb1 : b ≤ s.heap.size - 1 := by omega
  have C : jx_Ctx p room_1 s m #[Value.ref b] meth c 215 b (s.heap.size - 1) (fun k => (dd k).1, fun k => (dd k).2) aC :=
    ⟨hx, hb, hml, hown, htb, hN, hK, fun h => absurd h jx_law_name, jx_law_frames.1, jx_law_frames.2, hb1, by omega⟩
  have hR : jx_Rep b (s.heap.size - 1) (fun k => (dd k).1, fun k => (dd k).2) aC s (jx_h0 L xs) s.heap := by
    refine ⟨hn1, Nat.one_pos, fun a e he => ?_⟩
    by_cases ha : a = 0
    · subst ha
      have : e = .inl (98, L, .inl xs) := by
        have h1 : (if (0 : Nat) = 0 then some (Sum.inl (98, L, Sum.inl xs)) else none) = some e := he
        simpa using h1.symm
      exact Or.inl ⟨rfl, L, xs, this, hX⟩
    · have h1 : (if a = 0 then some (Sum.inl (98, L, Sum.inl xs)) else none) = some e := he
      rw [if_neg ha] at h1
      cases h1
  have key := jx_sound l hb1 (fun k => (dd k).1, fun k => (dd k).2) aC N 215 0 (jx_ent 215 [.ref 0]) [] (jx_h0 L xs) (some (.int 1)) hE hrn (below := below) (e := e) (Q := lw_Z below #[Value.ref b] s) (k0 := 1) (z0 := 0) C (Nat.le_refl _) (Nat.le_refl _) (by show hE.1 - 1 ≤ 600000; omega) (by show hE.2.1 - 0 ≤ 7302250; omega) (fun pc row ls st arr H locs g1 g2 g3 g4 => by
    refine va_forget (fun q hq => by have := g4.2.2 q hq; omega) ?_
    refine W.widen (k := 600000) (n := 7302250) (by omega) (by omega) ?_
    have hok := jx_rc_ok g1
    have hi := jx_act_res g2
    obtain ⟨i, len, x, y, v⟩ := row
    unfold jx_ok at hok
    obtain ⟨hok2, -⟩ := (Bool.and_eq_true_iff).mp hok
    obtain ⟨hd, hln⟩ := (Bool.and_eq_true_iff).mp hok2
    replace hd := of_decide_eq_true hd
    dsimp only at hd hln
    cases i
    case ireturn =>
      obtain rfl := Nat.eq_of_beq_eq_true hln
      simp only [jx_act] at g2
      split at g2
      · split at g2
        · cases g2
          exact lw_ret hx hb hr hlocks hd
        · cases g2
      · cases g2
    case lreturn =>
      simp only [jx_act] at g2
      split at g2 <;> cases g2
    case areturn =>
      simp only [jx_act] at g2
      split at g2 <;> cases g2
    case return_ =>
      simp only [jx_act] at g2
      split at g2 <;> cases g2
    all_goals cases hi)
  have key2 := key _ s.heap [] (jx_LR.entry b (s.heap.size - 1) 215 [.ref 0] (by decide +kernel)) hR va_S.rf
  rw [lg_entry_eq]
  exact key2
