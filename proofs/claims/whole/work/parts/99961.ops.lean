/-! calls: least cold goesOn pinch -/
section
variable {N : Nat → Int32}
theorem hw_c {T : tv} (t : tls T N) (w : Int32) : ca_c (tw_a T w (tw_L T w)) (tw_b T w (tw_L T w)) (tw_L T w).length = hz_cd N w T.2.1 := by
  obtain ⟨eL, ev, es⟩ := hw_v t w
  have en : (tw_L T w).length = hz_n N w T.2.1 := by
    rw [eL]
    rfl
  unfold ca_c hz_cd
  by_cases z : hz_n N w T.2.1 = 0
  · rw [if_pos (en.trans z), if_pos z]
  · rw [if_neg (fun q => z (en.symm.trans q)), if_neg z, (es _ (by omega)).2, ev, en]
theorem hw_pn {a b ah be : Nat → Int64} {n : Nat} {heat : Int64} {w : Int32} : ∀ d i s, (∀ j, i ≤ j → j < i + d → (ca_p a b n j ↔ rf_ip (ah j) (be j) n j heat)) → ca_pn a b n w d i s = rf_pn ah be n heat w d i s
  | 0, _, _, _ => rfl
  | d + 1, i, s, h => by
    have h1 := fun s => hw_pn (heat := heat) (w := w) d (i + 1) s (fun j h1 h2 => h j (by omega) (by omega))
    unfold ca_pn rf_pn
    by_cases z : ca_p a b n i
    · rw [if_pos z, if_pos ((h i (by omega) (by omega)).mp z), h1]
    · rw [if_neg z, if_neg (fun q => z ((h i (by omega) (by omega)).mpr q)), h1]
theorem hw_p {T : tv} (t : tls T N) (w k : Int32) : tw_p T w k = hz_pa N w T.2.1 k := by
  obtain ⟨eL, ev, es⟩ := hw_v t w
  have ec := hw_c t w
  have en : (tw_L T w).length = hz_n N w T.2.1 := by
    rw [eL]
    rfl
  unfold tw_p hz_pa
  rw [en]
  refine hw_pn _ _ _ (fun j _ hj => ?_)
  obtain ⟨e1, e2⟩ := es j (by omega)
  have ec2 : j = hz_n N w T.2.1 - 1 → hz_cd N w T.2.1 = hz_be N w T.2.1 j + hz_v N w T.2.1 := by
    intro q
    unfold hz_cd
    rw [if_neg (by omega), ← q]
  show (_ ∨ _) ∧ _ ∧ _ ↔ _
  rw [en] at ev ec
  rw [ev, ec, e2, e1]
  constructor
  · rintro ⟨a, b, c⟩
    exact ⟨fun q => q.elim b (fun q => c ⟨q.1, by rw [ec2 q.1]; exact q.2⟩), a.elim Or.inr Or.inl⟩
  · rintro ⟨a, b⟩
    exact ⟨b.elim Or.inr Or.inl, fun q => a (Or.inl q), fun q => a (Or.inr ⟨q.1, by rw [← ec2 q.1]; exact q.2⟩)⟩
end
section
variable {L : Nat} {xs : Nat → Int32} {k : Nat} {h : jx_H} {W : cw} {g : Nat → Option jx_E} {nx s : Nat} {X : Nat → Option jx_E} {R : rf_R} {B D U x : Nat} {T : tv}
theorem op_least (w : Int32) : lw_o (lw_K L xs) L xs 112 157 [.int w] false := by
  intro k h p
  obtain ⟨W, g, nx, s, X, R, B, D, U, x, T, I⟩ := p
  by_cases q : 0 ≤ w.toInt ∧ w.toInt ≤ 3
  · obtain ⟨W2, t, f⟩ := kc_least nx s I.cn w q
    have r := rc_least 56 I.pre w q
    rw [(hw_v I.tl w).2.1] at t
    rw [(hz_heat I.pre w).2.1] at r
    exact lw_ask I (Or.inr ⟨rfl, _, rfl⟩) t f.Q r (rf_hR_J I.pre w)
  · exact lw_ask I (Or.inr ⟨rfl, _, rfl⟩) (kc_least_no nx s w q) kq_f.rf (rc_least_no 56 R w q) rf_J.rf
theorem op_cold (w : Int32) : lw_o (lw_K L xs) L xs 114 168 [.int w] false := by
  intro k h p
  obtain ⟨W, g, nx, s, X, R, B, D, U, x, T, I⟩ := p
  by_cases q : 0 ≤ w.toInt ∧ w.toInt ≤ 3
  · obtain ⟨W2, t, f⟩ := kc_cold nx s I.cn w q
    have r := rc_cold 56 I.pre w q
    rw [hw_c I.tl w] at t
    rw [hz_cold I.pre w] at r
    exact lw_ask I (Or.inr ⟨rfl, _, rfl⟩) t f.Q r (rf_hR_J I.pre w)
  · exact lw_ask I (Or.inr ⟨rfl, _, rfl⟩) (kc_cold_no nx s w q) kq_f.rf (rc_cold_no 56 R w q) rf_J.rf
theorem op_goesOn (w a : Int32) : lw_o (lw_K L xs) L xs 118 171 [.int w, .int a] false := by
  intro k h p
  obtain ⟨W, g, nx, s, X, R, B, D, U, x, T, I⟩ := p
  by_cases q : 0 ≤ w.toInt ∧ w.toInt ≤ 3
  · obtain ⟨W2, t, f⟩ := kc_goesOn nx s I.cn w a q
    have r := rc_goesOn 56 I.pre w a q
    obtain ⟨eL, ev, es⟩ := hw_v I.tl w
    obtain ⟨hn, hv2, hh⟩ := hz_heat I.pre w
    have en : (tw_L T w).length = rf_hn R w T.2.1 0 := by
      rw [hn, eL]
      rfl
    by_cases z : 0 ≤ a.toInt ∧ a.toInt < (tw_L T w).length
    · have z2 : a.toNatClampNeg < (tw_L T w).length := by
        show a.toInt.toNat < _
        omega
      rw [if_pos z] at t
      rw [if_pos (by omega), (hh _ (by omega)).2, hv2] at r
      unfold tw_g at t
      rw [(es _ z2).2, ev] at t
      exact lw_ask I (Or.inr ⟨rfl, _, rfl⟩) t f.Q r (rf_hR_J I.pre w)
    · rw [if_neg z] at t
      rw [if_neg (by omega)] at r
      exact lw_ask I (Or.inr ⟨rfl, _, rfl⟩) t f.Q r (rf_hR_J I.pre w)
  · exact lw_ask I (Or.inr ⟨rfl, _, rfl⟩) (kc_goesOn_no nx s w a q) kq_f.rf (rc_goesOn_no 56 R w a q) rf_J.rf
theorem op_pinch (w a : Int32) : lw_o (lw_K L xs) L xs 115 172 [.int w, .int a] true := by
  intro k h p
  obtain ⟨W, g, nx, s, X, R, B, D, U, x, T, I⟩ := p
  by_cases q : 0 ≤ w.toInt ∧ w.toInt ≤ 3
  · obtain ⟨W2, t, f⟩ := kc_pinch nx s I.cn w a q
    have r := rc_pinch 56 I.pre w a q
    obtain ⟨eL, ev, es⟩ := hw_v I.tl w
    obtain ⟨hn, hv2, hh⟩ := hz_heat I.pre w
    rw [hw_p I.tl w a, eL] at t
    rw [hz_pat I.pre w a] at r
    have hM := I.pre.hM
    have hl : hz_n (R.1 0) w T.2.1 ≤ 110 := by
      rw [← hn]
      have := (rf_las_ok I.pre w).2.2
      have h2 : rf_hn R w T.2.1 0 = (rf_las R w T.2.1 0).2 := rfl
      omega
    rcases rf_pn_in (hz_ah (R.1 0) w T.2.1) (hz_be (R.1 0) w T.2.1) (hz_n (R.1 0) w T.2.1) (hz_v (R.1 0) w T.2.1) a (hz_n (R.1 0) w T.2.1) 0 0 with e | ⟨j, -, hj, e⟩
    · have e2 : hz_pa (R.1 0) w T.2.1 a = -1 := e
      rw [e2, if_pos rfl] at t
      rw [e2, if_pos (by decide)] at r
      exact lw_ask I (Or.inl ⟨rfl, _, rfl⟩) t f.Q r (rf_hR_J I.pre w)
    · have e2 : hz_pa (R.1 0) w T.2.1 a = nI j := e
      have hj2 : (nI j).toInt = j := nI_toInt (by omega)
      rw [e2, if_neg (fun q => by have := congrArg Int32.toInt q; rw [hj2] at this; have h3 : (-1 : Int32).toInt = -1 := rfl; omega), nI_clamp (by omega)] at t
      rw [e2, if_neg (fun q => by have := (lv_i _ _).mp q; rw [hj2] at this; have h3 : (0 : Int32).toInt = 0 := rfl; omega), nI_clamp (by omega), hz_lev I.pre w j (by omega)] at r
      exact lw_ask I (Or.inl ⟨rfl, _, rfl⟩) t f.Q r (rf_hR_J I.pre w)
  · exact lw_no I (kc_pinch_no nx s w a q) (rc_pinch_no 56 R w a q)
end
