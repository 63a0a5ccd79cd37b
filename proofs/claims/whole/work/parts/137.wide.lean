/-! one call stands over nine places of the stack: its caller has room for that -/
theorem jx_pM68 : jx_pM.all (fun q => !(Nat.beq q.2.2.2.1 68) || Nat.beq q.1 11) = true := by decide +kernel
theorem jx_l46_all : (List.range 216).all (fun m => !(Nat.beq (jx_mi m).2.2.2.2.1 11) || (!(Nat.ble 45 (jx_mi m).2.2.2.2.2.2) || Nat.ble 46 (jx_mi m).2.2.2.2.2.2)) = true := by decide +kernel
theorem jy_n68 : 8 + ((jx_mi 68).2.2.1 + 11) + (jx_mi 68).2.2.2.2.2.2 = 45 := by decide +kernel
theorem jy_n68' : 9 + ((jx_mi 68).2.2.1 + 11) + (jx_mi 68).2.2.2.2.2.2 = 46 := by decide +kernel
theorem jy_c68 {c n x : Nat} (h : (jx_pM.any fun q => Nat.beq q.1 c && Nat.beq q.2.1 n && Nat.beq q.2.2.1 x && Nat.beq q.2.2.2.1 68) = true) : c = 11 := by
  obtain ⟨q, hq, h⟩ := List.any_eq_true.mp h
  have ha := List.all_eq_true.mp jx_pM68 q hq
  simp only [Bool.and_eq_true] at h
  rw [h.2, Bool.not_true, Bool.false_or] at ha
  exact (Nat.eq_of_beq_eq_true h.1.1.1).symm.trans (Nat.eq_of_beq_eq_true ha)
theorem jx_room68 {m pc n x : Nat} {k : Int32} {r : jx_Row} (hrc : jx_rc m pc = some r) (r0 : (jx_pM.any fun q => Nat.beq q.1 (jx_mi m).2.2.2.2.1 && Nat.beq q.2.1 n && Nat.beq q.2.2.1 x && Nat.beq q.2.2.2.1 68) = true) (h4 : jx_callOk m 68 k = true) : 9 + ((jx_mi 68).2.2.1 + 11) + (jx_mi 68).2.2.2.2.2.2 ≤ (jx_mi m).2.2.2.2.2.2 := by
  have hc := jy_c68 r0
  have ha := List.all_eq_true.mp jx_l46_all m (List.mem_range.mpr (jx_rc_lt hrc))
  simp only [jx_callOk, jx_roomOk, Bool.and_eq_true] at h4
  have h45 := Nat.le_of_ble_eq_true h4.1.2.2
  rw [jy_n68] at h45
  have h1 : Nat.beq (jx_mi m).2.2.2.2.1 11 = true := by rw [hc]; rfl
  rw [h1, Nat.ble_eq_true_of_le h45, Bool.not_true, Bool.false_or, Bool.false_or] at ha
  rw [jy_n68']
  exact Nat.le_of_ble_eq_true ha
section JXN
variable {p : Program} {l : Launch} {e : Env} {R : Room} {s : State} {m : MethodId} {args : Array Value} {below : List Frame} {meth : Method} {c : Code} {H : Heap} {locs : List Loc} {cells slots : Nat}
variable {y : MethodName} {bytes cc : ByteArray} {maxL nL mc ms n index : Nat} {ret : Option FieldType} {ws : List Cond} {rm : Room} {Pc : Array Value → State → Prop} {Qc : Array Value → State → Outcome → State → Prop} {free : Addr → Prop} {Ts : List Cond} {own C : String} {b : Addr} {As rest : List Value} {g : JFrame}
/-- a call over at most nine places -/
theorem jx_runV9 (S : CallFix p m c cc nL s args Ts own) (hM : Met l y ws rm Pc Qc mc ms free) (cw : CallW R s args own C index y bytes maxL ret ws rm mc ms n) (h9 : 9 + (maxL + 11) + rm.locals ≤ R.locals) (hp : PreV s H C b Pc As) (hg : g.method = m) (hn : As.length = n) (hsize : g.locals.size = nL) (hstack : g.stack = As.reverse ++ .ref b :: rest) (hW : 2 * g.monitorRoom + (rest.map fun v => v.category).sum ≤ 9) (hdg : decode cc g.pc = .ok (.invokevirtual index, 3)) (hf : cells + mc ≤ R.cells ∧ slots + ms ≤ R.slots) : va_Run p l e R s m args below meth c H locs cells slots mc ms g rest (Qc (Value.ref b :: As).toArray) (free) := by
  obtain ⟨⟨hrc, hrs, hfr, -, hws, hcw, hcode, hini, hy, hlen, hl⟩, hin, hse⟩ := cw
  have hK : Back l R p e below s args y 3 9 (PreOf R mc ms Pc) (PostOf Qc mc ms free) := back_of (bytes := bytes) (maxL := maxL) (ret := ret) hM hp.1 hrc hrs hfr h9 hws hcw (fun a' U hW => word_at hW (Or.inl (by first | rfl | simp [Cond.onTables, Cond.keeps, Cond.steady])) hini)
  obtain ⟨hx, hb, hml, ho, -⟩ := S
  obtain ⟨-, ⟨cellB, hcB, hoB, hclB⟩, hPc⟩ := hp
  intro T hT X
  obtain ⟨v, vm1, ⟨U1, l2, c2, s2⟩, hW1, X1, ⟨g1, mk, t, L, e1, e2, hq, h1, hL, h2, h3⟩, st⟩ := callV X hx (C := C) (bytes := bytes) (maxL := maxL) (ret := ret) ho hl hin hse hcode hy hK (by rw [hT]; exact hcB) hoB hclB hg (hsize.trans hml.symm) (argsL := As) (rest := rest) (fun sig h => hn.trans (hlen sig h)) hstack hW (by rw [hb]; exact hdg) (fun vm1 hW1 => ⟨hf.1, hf.2, hPc (T.setVm vm1) hT hW1⟩)
  dsimp only [Pt.U, Pt.locs, Pt.cells, Pt.slots] at X1 e1 e2 h1 h2 h3 st
  subst h1
  subst h2
  subst h3
  exact ⟨v, (T.setVm vm1).calling g1 mk (Value.ref b :: As).toArray, t, U1, L, hT, X1, hL, e1, e2, hq, st⟩
end JXN
