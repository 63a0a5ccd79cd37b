/-! SOUNDNESS, eighth: a run of the interpreter is a run of the machine -/
theorem jx_run_mono : ∀ (n m pc : Nat) (ls st : List Value) (h : jx_H) (v : Option Value) (h' : jx_H), jx_run n m pc ls st h = some (v, h') → h.1 ≤ h'.1 ∧ h.2.1 ≤ h'.2.1 := by
  intro n
  induction n with
  | zero => intro m pc ls st h v h' hr; simp [jx_run] at hr
  | succ n ih =>
    intro m pc ls st h v h' hr
    unfold jx_run at hr
    split at hr
    · cases hr
    · rename_i row hrow
      split at hr
      · cases hr
      · rename_i pc1 ls1 st1 h1 ha
        have g1 := jx_act_res ha
        have g2 := ih m pc1 ls1 st1 h1 v h' hr
        exact ⟨Nat.le_trans g1.1 g2.1, Nat.le_trans g1.2 g2.2⟩
      · cases hr; exact ⟨Nat.le_refl _, Nat.le_refl _⟩
      · rename_i cal vs rest ha
        split at hr
        · split at hr
          · rename_i v1 h1 hc
            have g1 := ih _ _ _ _ _ _ _ hc
            have g2 := ih _ _ _ _ _ _ _ hr
            exact ⟨Nat.le_trans g1.1 g2.1, Nat.le_trans g1.2 g2.2⟩
          · cases hr
        · cases hr
def jx_S (l : Launch) (b n1 : Nat) (D : va_G) (aC : Nat → ClassId) (n : Nat) : Prop := ∀ (m pc : Nat) (ls st : List Value) (h : jx_H) (v : Option Value) (h' : jx_H), jx_run n m pc ls st h = some (v, h') → ∀ {p : Program} {e : Env} {R : Room} {s : State} {mm : MethodId} {args : Array Value} {below : List Frame} {meth : Method} {c : Code} {Q : State → Prop} {k0 z0 : Nat}, jx_Ctx p R s mm args meth c m b n1 D aC → k0 ≤ h.1 → z0 ≤ h.2.1 → h'.1 - k0 ≤ R.cells → h'.2.1 - z0 ≤ R.slots →
  (∀ (pc : Nat) (row : jx_Row) (ls st : List Value) (arr : Array Slot) (H : Heap) (locs : List Loc), jx_rc m pc = some row → jx_act pc row ls st h' = some (.inr (.inl v)) → jx_Rep b n1 D aC s h' H → va_S (fun q => n1 < q) s.heap H locs → W p l e R s mm args below meth c H locs (h'.1 - k0) (h'.2.1 - z0) Q (F0 mm pc arr (st.map (jx_cv b n1)))) →
  jx_K p l e R s mm args below meth c Q k0 z0 m b n1 D aC pc ls st h
theorem jx_ofW {l : Launch} {y : MethodName} {ws ws' : List Cond} {rm : Room} {Pc : Array Value → State → Prop} {Qc : Array Value → State → Outcome → State → Prop} {mc ms : Nat} {free : Addr → Prop} {cc : ByteArray} {maxL : Nat} {ret : Option FieldType}
    (hy : plainFor y = true) (hw : ws = Cond.code y cc maxL ret :: ws')
    (body : ∀ p e s m args below meth c s₁, BodyLoose p l y (headSpec ws rm) cc maxL ret e s m args below meth c s₁ → c.maxLocals = maxL → Pc args s →
      W p l e (headSpec ws rm).room s m args below meth c s.heap [] 0 0 (MQ below Qc args s mc ms free) (entryFrame m args maxL)) : Met l y ws rm Pc Qc mc ms free := by
  refine MetFree.of_bodySF (code := cc) (maxLocals := maxL) (ret := ret) hy ?_ ?_
  · intro args s m h hn
    obtain ⟨meth, c, h1, h2, h3, h4, h5, h6, -, -⟩ := Cond.code_spec hn (atoms_spec (ws := ws) h _ (by rw [hw]; exact List.mem_cons_self))
    exact ⟨meth, c, h1, h2, h3, h4, h5, h6⟩
  · intro p e s m args below meth c s₁ B hml hP _
    have hh0 : s₁.heap = s.heap := by rw [B.state]; rfl
    obtain ⟨t, a1, o, b1, b2, b3⟩ := body p e s m args below meth c s₁ B hml hP s₁ hh0 (Stand.of_body B)
    exact ⟨t, o, a1, b1, b2, ⟨b3.1, b3.2⟩⟩
theorem jx_plain {m : Nat} (h : m < 216) : plainFor (jx_mi m).1 = true := by
  rcases Nat.lt_or_ge m 215 with q | q
  · obtain ⟨_, _, _, _, h, _⟩ := jx_yok (show m ≤ 214 by omega)
    exact h
  · obtain rfl : m = 215 := by omega
    exact plainFor_of_name (by decide +kernel)
/-- an answer, at a method's end -/
theorem jx_ret {p : Program} {l : Launch} {e : Env} {R : Room} {s : State} {mm : MethodId} {args : Array Value} {below : List Frame} {meth : Method} {c : Code} {m b n1 : Nat} {D : va_G} {aC : Nat → ClassId} {h' : jx_H} {v : Option Value} (hx : p.tables.exec = Jvm.exec) (hb : c.code = (jx_mi m).2.1) (hr : meth.sig.returnType = (jx_mi m).2.2.2.1) (hlocks : meth.locks = false) {pc : Nat} {row : jx_Row} {ls st : List Value} {arr : Array Slot} {H : Heap} {locs : List Loc} {cells slots : Nat} (hrc : jx_rc m pc = some row) (ha : jx_act pc row ls st h' = some (.inr (.inl v))) (hR : jx_Rep b n1 D aC s h' H) (hS : va_S (fun q => n1 < q) s.heap H locs) : W p l e R s mm args below meth c H locs cells slots (MQ below (jx_Qc b n1 D aC v h') args s cells slots (fun q => n1 < q)) (F0 mm pc arr (st.map (jx_cv b n1))) := by
  have hok := jx_rc_ok hrc
  have hi := jx_act_res ha
  obtain ⟨i, len, x, y, vv⟩ := row
  unfold jx_ok at hok
  obtain ⟨hok2, hro⟩ := (Bool.and_eq_true_iff).mp hok
  obtain ⟨hd, hln⟩ := (Bool.and_eq_true_iff).mp hok2
  replace hd := of_decide_eq_true hd
  dsimp only at hd hln
  have hq : ∀ t : State, t.heap = H → s.WarmedH t.vm → jx_Qc b n1 D aC v h' args s (.returned (v.map (jx_cv b n1))) t := fun t ht hW => ⟨rfl, by rw [ht]; exact hR.moved hW.alike, hS.F ht⟩
  cases i
  case ireturn =>
    obtain rfl := Nat.eq_of_beq_eq_true hln
    simp only [jx_act] at ha
    split at ha
    · rename_i a
      split at ha
      · rename_i hc
        cases ha
        rcases (Bool.or_eq_true_iff).mp hro with h1 | h12
        · exact W.iret hx hb (hr.trans (of_decide_eq_true h1)) hq hS.2.2 hd hlocks
        · obtain ⟨h1, h2⟩ := (Bool.and_eq_true_iff).mp h12
          replace h2 := of_decide_eq_true h2
          have hx1 := Nat.eq_of_beq_eq_true h1
          have ha01 : a = 0 ∨ a = 1 := by
            rcases hc with q | q
            · omega
            · exact q
          refine W.zret hx hb (hr.trans h2) ?_ hq hS.2.2 hd hlocks
          rcases ha01 with rfl | rfl <;> decide
      · cases ha
    · cases ha
  case lreturn =>
    obtain rfl := Nat.eq_of_beq_eq_true hln
    simp only [jx_act] at ha
    split at ha
    · cases ha
      exact W.lret hx hb (hr.trans (of_decide_eq_true hro)) hq hS.2.2 hd hlocks
    · cases ha
  case areturn =>
    obtain rfl := Nat.eq_of_beq_eq_true hln
    have hrt := jx_ro_a hro
    obtain ⟨rt, h1, h2⟩ := hrt
    simp only [jx_act] at ha
    split at ha
    · cases ha
      exact W.aret hx hb (hr.trans h1) h2 (Or.inr ⟨_, rfl⟩) hq hS.2.2 hd hlocks
    · cases ha
      exact W.aret hx hb (hr.trans h1) h2 (Or.inl rfl) hq hS.2.2 hd hlocks
    · cases ha
  case return_ =>
    obtain rfl := Nat.eq_of_beq_eq_true hln
    simp only [jx_act] at ha
    split at ha
    · cases ha
      exact W.vret hx hb (hr.trans (of_decide_eq_true hro)) hq hS.2.2 hd hlocks
    · cases ha
  all_goals cases hi
theorem jx_met_of {l : Launch} {b n1 : Nat} {D : va_G} {aC : Nat → ClassId} (hb1 : b ≤ n1) {n : Nat} (hS : jx_S l b n1 D aC n) {m : Nat} (hm : m < 216) {vs : List Value} (hvs : (jx_args vs).length ≤ (jx_mi m).2.2.1) {h : jx_H} {v : Option Value} {h' : jx_H} (hr : jx_run n m 0 (jx_ent m vs) [] h = some (v, h')) : jx_Met l b n1 D aC m vs h v h' := by
  unfold jx_Met
  refine jx_ofW (cc := (jx_mi m).2.1) (maxL := (jx_mi m).2.2.1) (ret := (jx_mi m).2.2.2.1) (jx_plain hm) rfl ?_
  intro p e s mm args below meth c s₁ B hml hv
  obtain ⟨rfl, hR, hK, hN⟩ := hv
  have hts := atoms_spec (ws := jx_ws m) B.pre
  have hown := findClass_of_methodNamed B.named
  rw [jx_own_name hm] at hown
  have C : jx_Ctx p (headSpec (jx_ws m) { frames := (jx_mi m).2.2.2.2.2.1, cells := h'.1 - h.1, slots := h'.2.1 - h.2.1, locals := (jx_mi m).2.2.2.2.2.2 }).room s mm (vs.map (jx_cv b n1)).toArray meth c m b n1 D aC :=
    ⟨B.exec, B.bytes, hml, hown, fun w hw => hts w (List.mem_cons_of_mem _ hw), hN, hK, (fun hn => (name_of_methodNamed B.named B.method).1.trans hn), Nat.le_refl _, Nat.le_refl _, hb1, by rw [hR.1]; have := hR.2.1; omega⟩
  have key := hS m 0 (jx_ent m vs) [] h v h' hr (below := below) (e := e) (Q := MQ below (jx_Qc b n1 D aC v h') (vs.map (jx_cv b n1)).toArray s (h'.1 - h.1) (h'.2.1 - h.2.1) (fun q => n1 < q)) (k0 := h.1) (z0 := h.2.1) C (Nat.le_refl _) (Nat.le_refl _) (Nat.le_refl _) (Nat.le_refl _) (fun pc row ls st arr H locs g1 g2 g3 g4 => jx_ret B.exec B.bytes B.returns B.notSynchronized g1 g2 g3 g4)
  have key2 := key _ s.heap [] (jx_LR.entry b n1 m vs hvs) hR va_S.rf
  rw [Nat.sub_self, Nat.sub_self] at key2
  rw [lg_entry_eq]
  exact key2
theorem jx_sound (l : Launch) {b n1 : Nat} (hb1 : b ≤ n1) (D : va_G) (aC : Nat → ClassId) : ∀ n, jx_S l b n1 D aC n := by
  intro n
  induction n with
  | zero => intro m pc ls st h v h' hr; simp [jx_run] at hr
  | succ n ih =>
    intro m pc ls st h v h' hr p e R s mm args below meth c Q k0 z0 C hk0 hz0 hkR hzR hret
    have hmono := jx_run_mono (n + 1) m pc ls st h v h' hr
    unfold jx_run at hr
    split at hr
    · cases hr
    · rename_i row hrow
      split at hr
      · cases hr
      · rename_i pc1 ls1 st1 h1 ha
        have g1 := jx_act_res ha
        have g2 := jx_run_mono _ _ _ _ _ _ _ _ hr
        exact jx_step C hrow hk0 hz0 (by have := g2.1; omega) (by have := g2.2; omega) ha (ih m pc1 ls1 st1 h1 v h' hr C (Nat.le_trans hk0 g1.1) (Nat.le_trans hz0 g1.2) hkR hzR hret)
      · rename_i v1 ha
        cases hr
        exact fun arr H locs hL hR hS => hret pc row ls st arr H locs hrow ha hR hS
      · rename_i cal vs rest ha
        split at hr
        · rename_i hlen
          split at hr
          · rename_i v1 h1 hc
            have g1 := jx_run_mono _ _ _ _ _ _ _ _ hc
            have g2 := jx_run_mono _ _ _ _ _ _ _ _ hr
            have hcal : cal < 216 := by
              cases n with
              | zero => simp [jx_run] at hc
              | succ n =>
                unfold jx_run at hc
                split at hc
                · cases hc
                · rename_i row2 hrow2
                  exact jx_rc_lt hrow2
            exact jx_call C hrow hk0 hz0 g1.1 g1.2 (by have := g2.1; omega) (by have := g2.2; omega) ha (jx_met_of hb1 ih hcal hlen hc) (ih m (pc + 3) ls (v1.toList ++ rest) h1 v h' hr C (Nat.le_trans hk0 g1.1) (Nat.le_trans hz0 g1.2) hkR hzR hret)
          · cases hr
        · cases hr
