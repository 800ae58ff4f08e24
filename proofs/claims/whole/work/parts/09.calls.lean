/-! contracts, and calls by contract -/
def hw_M (l : Launch) (D : va_G) (z : Nat) (q : hw_MI) (d mc ms : Nat) (av : List Value) (K : hw_KM) (n : Nat) (I : hw_IM) (L : hw_LM) (P : hw_PM) (Q : Option Value → hw_S → Prop) : Prop :=
  Met l q.1 (Cond.code q.1 q.2.1 q.2.2.1 q.2.2.2.1 :: hw_T) (hw_rm d mc ms) (fun v U => v = av.toArray ∧ hw_K D U ∧ hw_H D z U K n I L P U.heap) (hw_Q D z Q) mc ms (fun q => z ≤ q)
theorem hw_goodT : ∀ w ∈ hw_T, w ∈ hw_T ∧ ((w.onTables && w.keeps) = true ∨ ∃ ty, w = .arrayClass ty) := fun w h => ⟨h, good_of_word (List.mem_filter.mp h).2⟩
theorem hw_good {q : hw_MI} (ok : hw_ok q) : GoodIn hw_T (Cond.code q.1 q.2.1 q.2.2.1 q.2.2.2.1 :: hw_T) := fun w h => (List.mem_cons.mp h).elim (fun e => e ▸ hw_goodT _ ok.1) (hw_goodT w)
/-- a contract, out of the walk of its body -/
theorem hw_M_of {l : Launch} {D : va_G} {z : Nat} {q : hw_MI} {d mc ms : Nat} {av : List Value} {K : hw_KM} {n : Nat} {I : hw_IM} {L : hw_LM} {P : hw_PM} {Q : Option Value → hw_S → Prop} (o : Nat) (ok : hw_ok q) (ho : hw_nm o = q.1.cls) (hl : (lg_sl av).length ≤ q.2.2.1)
    (k : hw_W l D z false (q.2.2.2.2.2 == 2) o q.2.1 q.2.2.1 q.2.2.2.1 d mc ms Q 0 0 0 K n I L P (hw_en q.2.2.1 av) []) : hw_M l D z q d mc ms av K n I L P Q := by
  refine Met.ofW (cc := q.2.1) (maxL := q.2.2.1) (ret := q.2.2.2.1) ok.2.2.2.2.2.2.2.2.1 rfl ?_
  intro p e s m args below meth c s₁ B hml hv
  obtain ⟨rfl, hK, hH⟩ := hv
  have hts : ∀ w ∈ hw_T, w.before av.toArray s = true := fun w hw => atoms_spec (ws := Cond.code q.1 q.2.1 q.2.2.1 q.2.2.2.1 :: hw_T) B.pre w (List.mem_cons_of_mem _ hw)
  have hown : s.vm.findClass (hw_nm o) = some m.cls := by rw [ho]; exact findClass_of_methodNamed B.named
  rw [lg_entry_eq]
  have hfree : (fun a : Addr => z ≤ a) = (fun a => false = false ∧ z ≤ a) := by funext a; simp
  rw [hfree]
  refine k p e s m av.toArray below meth c s.heap [] _ ⟨B.exec, B.bytes, hml, hown, hts, B.returns, B.notSynchronized, ?_, hK⟩ (fun h => by cases h) hH va_S.rf (hw_L_en hl)
  intro hi
  have hi2 : q.2.2.2.2.2 = 2 := by simpa using hi
  rw [(name_of_methodNamed B.named B.method).1]
  exact (ok.2.2.2.2.2.2.2.2.2 hi2).1
section
variable {l : Launch} {D : va_G} {z : Nat} {lw ini : Bool} {o : Nat} {cc : ByteArray} {nL : Nat} {ret : Option FieldType} {d mc ms : Nat} {Q : Option Value → hw_S → Prop} {pc kc ks : Nat} {K : hw_KM} {n : Nat} {I : hw_IM} {L : hw_LM} {P : hw_PM} {ls : List (Option Value)} {st r : List Value}
  {q : hw_MI} {i d' mc' ms' : Nat} {av : List Value} {Q' : Option Value → hw_S → Prop}
theorem hw_blind : FrameBlind (fun v U => v = av.toArray ∧ hw_K D U ∧ hw_H D z U K n I L P U.heap) := by
  intro a U g mk h
  exact ⟨h.1, hw_K_same (s := U) (U := U.calling g mk a) rfl h.2.1, hw_H_moved (s := U) (U := U.calling g mk a) (Vm.Alike.refl U.vm) h.2.2⟩
theorem hw_after {p : Program} {e : Env} {s : State} {m : MethodId} {args : Array Value} {below : List Frame} {meth : Method} {c : Code} {H : Heap} {locs : List Loc} {la : Array Slot} (hC : hw_C D o cc nL ret ini p s m args meth c) (hw : lw = true → s.heap.size ≤ z) (hS : va_S (fun q => z ≤ q) s.heap H locs) (hL : hw_L la nL ls)
    (hrun : va_Run p l e (hw_rm d mc ms) s m args below meth c H locs kc ks mc' ms' (F0 m pc la st) r (hw_Q D z Q' av.toArray) (fun q => z ≤ q))
    (kk : ∀ rv S, Q' rv S → hw_W l D z lw ini o cc nL ret d mc ms Q (pc + 3) (kc + mc') (ks + ms') S.1 S.2.1 S.2.2.1 S.2.2.2.1 S.2.2.2.2 ls (rv.toList ++ r)) :
    W p l e (hw_rm d mc ms) s m args below meth c H locs kc ks (MQ below (hw_Q D z Q) args s mc ms (fun q => lw = false ∧ z ≤ q)) (F0 m pc la st) := by
  intro T hT X
  obtain ⟨v, st₀, t, T', L', h0, X', hL', e1, e2, ⟨rv, S, hv, hQ, hH', hF⟩, stp⟩ := hrun T hT X
  cases hv
  have hal : t.vm.Alike s.vm := by rw [← e2]; exact X'.warmed.alike.symm
  have hz := hF.1
  have hk := hF.2
  rw [h0] at hz hk
  obtain ⟨t2, a1, b1⟩ := kk v S hQ p e s m args below meth c T'.heap (locs ++ L') la hC hw (by rw [e1]; exact hw_H_moved hal hH')
    ⟨Nat.le_trans hS.1 (by rw [e1]; exact hz), fun q h1 h2 => by rw [e1, hk q (Nat.lt_of_lt_of_le h1 hS.1) h2]; exact hS.2.1 q h1 h2, fun q hq => by
      rcases List.mem_append.mp hq with h | h
      · exact hS.2.2 q h
      · exact hL' q h⟩ hL T' rfl X'
  exact ⟨t2, stp t2 a1, b1⟩
theorem hw_fit (hd1 : d' + 1 ≤ d) {x : Nat} (hx : x ≤ 15) : (hw_rm d' mc' ms').frames + 1 ≤ (hw_rm d mc ms).frames ∧ 8 + (x + 11) + (hw_rm d' mc' ms').locals ≤ (hw_rm d mc ms).locals := by
  refine ⟨hd1, ?_⟩
  show 8 + (x + 11) + (34 * d' + 4) ≤ 34 * d + 4
  omega
theorem hw_lens (ok : hw_ok q) {k : Nat} (hn : k = q.2.2.2.2.1) : ∀ sig, parseMethodDescriptor q.1.desc = some sig → k = sig.parameters.length := by
  intro sig h
  have h2 := ok.2.2.2.2.2.2.1
  rw [h] at h2
  exact hn.trans (Option.some.inj h2).symm
/-- a method of an object -/
theorem hw_callV (hk1 : q.2.2.2.2.2 = 1) (lk : hw_lk o i q.1) (ok : hw_ok q) {a t : Nat} {As : List Value} (hM : hw_M l D z q d' mc' ms' (.ref a :: As) K n I L P Q') (hd : decode cc pc = .ok (.invokevirtual i, 3)) (hst : st = As.reverse ++ .ref a :: r) (hK : K a = some (.inl t)) (hnm : hw_nm t = q.1.cls) (hn : As.length = q.2.2.2.2.1) (hd1 : d' + 1 ≤ d) (hm1 : kc + mc' ≤ mc) (hm2 : ks + ms' ≤ ms) (hr : (r.map fun v => v.category).sum ≤ 8)
    (kk : ∀ rv S, Q' rv S → hw_W l D z lw ini o cc nL ret d mc ms Q (pc + 3) (kc + mc') (ks + ms') S.1 S.2.1 S.2.2.1 S.2.2.2.1 S.2.2.2.2 ls (rv.toList ++ r)) : hw_W l D z lw ini o cc nL ret d mc ms Q pc kc ks K n I L P ls st := by
  intro p e s m args below meth c H locs la hC hw hH hS hL
  subst hst
  refine hw_after (av := .ref a :: As) hC hw hS hL ?_ kk
  obtain ⟨g1, g2, g3, g4, g5, g6, g7, g8, g9, g10⟩ := ok
  have hts := hC.2.2.2.2.1
  have hF := hw_fit (mc := mc) (ms := ms) (mc' := mc') (ms' := ms') hd1 g8
  obtain ⟨hz, u, hu, cell, q1, q2, q3, q4⟩ := hH.2.2 a _ hK
  have hcl : s.vm.findClass q.1.cls = some cell.cls := by
    rw [q2, ← hnm, ← (hw_cls t u hu).2.2.2.2.2]
    exact (hC.2.2.2.2.2.2.2.2.1.1 t u hu).2.1
  have hPre : PreV s H q.1.cls a (fun v U => v = (Value.ref a :: As).toArray ∧ hw_K D U ∧ hw_H D z U K n I L P U.heap) As := ⟨hw_blind, ⟨cell, q1, by rw [q3]; rfl, hcl⟩, fun U hU hW => ⟨rfl, hw_K_warm hW hC.2.2.2.2.2.2.2.2, by rw [hU]; exact hw_H_moved hW.alike hH⟩⟩
  have hws := pay_in hts (hw_good ⟨g1, g2, g3, g4, g5, g6, g7, g8, g9, g10⟩)
  have hlen := hw_lens ⟨g1, g2, g3, g4, g5, g6, g7, g8, g9, g10⟩ rfl
  have hne : q.2.2.2.2.2 ≠ 0 := by omega
  rcases lk with lk | ⟨host, lk⟩
  · exact va_runV (n := q.2.2.2.2.1) ⟨hC.1, hC.2.1, hC.2.2.1, hC.2.2.2.1, hts⟩ hM ⟨⟨rfl, rfl, hF.1, hF.2, hws, List.mem_cons_self, hts _ g1, hts _ g2, g6, hlen, hts _ lk⟩, hts _ (g4 hne), hts _ (g5 hk1)⟩ hPre rfl hn hL.2.1 rfl (lv_room hr) hd ⟨hm1, hm2⟩
  · exact va_runVN (n := q.2.2.2.2.1) ⟨hC.1, hC.2.1, hC.2.2.1, hC.2.2.2.1, hts⟩ hM ⟨⟨⟨rfl, rfl, hF.1, hF.2, hws, List.mem_cons_self⟩, hts _ g1, hts _ g2, g6, hlen, va_Nw.use rfl (hC.2.2.2.2.2.2.2.2.2.1 _ lk)⟩, hts _ (g4 hne), hts _ (g5 hk1)⟩ hPre rfl hn hL.2.1 rfl (lv_room hr) hd ⟨hm1, hm2⟩
/-- a static method -/
theorem hw_callS (hk1 : q.2.2.2.2.2 = 0) (lk : hw_lk o i q.1) (ok : hw_ok q) (hM : hw_M l D z q d' mc' ms' av K n I L P Q') (hd : decode cc pc = .ok (.invokestatic i, 3)) (hst : st = av.reverse ++ r) (hn : av.length = q.2.2.2.2.1) (hd1 : d' + 1 ≤ d) (hm1 : kc + mc' ≤ mc) (hm2 : ks + ms' ≤ ms) (hr : (r.map fun v => v.category).sum ≤ 8)
    (kk : ∀ rv S, Q' rv S → hw_W l D z lw ini o cc nL ret d mc ms Q (pc + 3) (kc + mc') (ks + ms') S.1 S.2.1 S.2.2.1 S.2.2.2.1 S.2.2.2.2 ls (rv.toList ++ r)) : hw_W l D z lw ini o cc nL ret d mc ms Q pc kc ks K n I L P ls st := by
  intro p e s m args below meth c H locs la hC hw hH hS hL
  subst hst
  refine hw_after (av := av) hC hw hS hL ?_ kk
  obtain ⟨g1, g2, g3, g4, g5, g6, g7, g8, g9, g10⟩ := ok
  have hts := hC.2.2.2.2.1
  have hF := hw_fit (mc := mc) (ms := ms) (mc' := mc') (ms' := ms') hd1 g8
  have hPre : PreS s H (fun v U => v = av.toArray ∧ hw_K D U ∧ hw_H D z U K n I L P U.heap) av := ⟨hw_blind, fun U hU hW => ⟨rfl, hw_K_warm hW hC.2.2.2.2.2.2.2.2, by rw [hU]; exact hw_H_moved hW.alike hH⟩⟩
  have hws := pay_in hts (hw_good ⟨g1, g2, g3, g4, g5, g6, g7, g8, g9, g10⟩)
  have hlen := hw_lens ⟨g1, g2, g3, g4, g5, g6, g7, g8, g9, g10⟩ rfl
  rcases lk with lk | ⟨host, lk⟩
  · exact va_runS (n := q.2.2.2.2.1) ⟨hC.1, hC.2.1, hC.2.2.1, hC.2.2.2.1, hts⟩ hM ⟨⟨rfl, rfl, hF.1, hF.2, hws, List.mem_cons_self, hts _ g1, hts _ g2, g6, hlen, hts _ lk⟩, hts _ (g3 hk1)⟩ hPre rfl hn hL.2.1 rfl (lv_room hr) hd ⟨hm1, hm2⟩
  · exact va_runSN (n := q.2.2.2.2.1) ⟨hC.1, hC.2.1, hC.2.2.1, hC.2.2.2.1, hts⟩ hM ⟨⟨⟨rfl, rfl, hF.1, hF.2, hws, List.mem_cons_self⟩, hts _ g1, hts _ g2, g6, hlen, va_Nw.use rfl (hC.2.2.2.2.2.2.2.2.2.1 _ lk)⟩, hts _ (g3 hk1), trivial⟩ hPre rfl hn hL.2.1 rfl (lv_room hr) hd ⟨hm1, hm2⟩
/-- a constructor -/
theorem hw_callI (hk1 : q.2.2.2.2.2 = 2) (lk : hw_lk o i q.1) (ok : hw_ok q) {a : Nat} {As : List Value} (hM : hw_M l D z q d' mc' ms' (.ref a :: As) K n I L P Q') (hd : decode cc pc = .ok (.invokespecial i, 3)) (hst : st = As.reverse ++ .ref a :: r) (hn : As.length = q.2.2.2.2.1) (hd1 : d' + 1 ≤ d) (hm1 : kc + mc' ≤ mc) (hm2 : ks + ms' ≤ ms) (hr : (r.map fun v => v.category).sum ≤ 8)
    (kk : ∀ rv S, Q' rv S → hw_W l D z lw ini o cc nL ret d mc ms Q (pc + 3) (kc + mc') (ks + ms') S.1 S.2.1 S.2.2.1 S.2.2.2.1 S.2.2.2.2 ls (rv.toList ++ r)) : hw_W l D z lw ini o cc nL ret d mc ms Q pc kc ks K n I L P ls st := by
  intro p e s m args below meth c H locs la hC hw hH hS hL
  subst hst
  refine hw_after (av := .ref a :: As) hC hw hS hL ?_ kk
  obtain ⟨g1, g2, g3, g4, g5, g6, g7, g8, g9, g10⟩ := ok
  have hts := hC.2.2.2.2.1
  have hF := hw_fit (mc := mc) (ms := ms) (mc' := mc') (ms' := ms') hd1 g8
  have hPre : PreS s H (fun v U => v = (Value.ref a :: As).toArray ∧ hw_K D U ∧ hw_H D z U K n I L P U.heap) (.ref a :: As) := ⟨hw_blind, fun U hU hW => ⟨rfl, hw_K_warm hW hC.2.2.2.2.2.2.2.2, by rw [hU]; exact hw_H_moved hW.alike hH⟩⟩
  have hws := pay_in hts (hw_good ⟨g1, g2, g3, g4, g5, g6, g7, g8, g9, g10⟩)
  have hlen := hw_lens ⟨g1, g2, g3, g4, g5, g6, g7, g8, g9, g10⟩ rfl
  have hne : q.2.2.2.2.2 ≠ 0 := by omega
  obtain ⟨hini, hrn⟩ := g10 hk1
  obtain ⟨y, bs, nl, rt, np, kd⟩ := q
  dsimp only at *
  subst hrn
  rcases lk with lk | ⟨host, lk⟩
  · exact va_runI (n := np) ⟨hC.1, hC.2.1, hC.2.2.1, hC.2.2.2.1, hts⟩ hM ⟨⟨rfl, rfl, hF.1, hF.2, hws, List.mem_cons_self, hts _ g1, hts _ g2, g6, hlen, hts _ lk⟩, hini, hts _ (g4 hne)⟩ hPre rfl hn hL.2.1 rfl (lv_room hr) hd ⟨hm1, hm2⟩
  · exact va_runIN (n := np) ⟨hC.1, hC.2.1, hC.2.2.1, hC.2.2.2.1, hts⟩ hM ⟨⟨⟨rfl, rfl, hF.1, hF.2, hws, List.mem_cons_self⟩, hts _ g1, hts _ g2, g6, hlen, va_Nw.use rfl (hC.2.2.2.2.2.2.2.2.2.1 _ lk)⟩, hini, hts _ (g4 hne)⟩ hPre rfl hn hL.2.1 rfl (lv_room hr) hd ⟨hm1, hm2⟩
/-- Object's constructor -/
theorem hw_obj (lk : Cond.methodLink (hw_nm o) i objectInit ∈ hw_T) {a : Nat} (hd : decode cc pc = .ok (.invokespecial i, 3)) (hd1 : 1 ≤ d) (hr : (r.map fun v => v.category).sum ≤ 8) (k : hw_W l D z lw ini o cc nL ret d mc ms Q (pc + 3) kc ks K n I L P ls r) : hw_W l D z lw ini o cc nL ret d mc ms Q pc kc ks K n I L P ls (.ref a :: r) := by
  intro p e s m args below meth c H locs la hC hw hH hS hL
  have hts := hC.2.2.2.2.1
  exact W.objInit hC.1 hC.2.1 hC.2.2.2.1 (hts _ lk) (hts _ ok_obj.1) (hts _ ok_obj.2) rfl (by rw [hC.2.2.1]; exact hL.2.1) rfl hd hd1 (by show 2 * 0 + _ + 12 ≤ 34 * d + 4; omega) (k p e s m args below meth c H locs la hC hw hH hS hL)
theorem hw_max (lk : Cond.methodLink (hw_nm o) i Lib.Math.max.name ∈ hw_T) {x y : Int32} (hd : decode cc pc = .ok (.invokestatic i, 3)) (hd1 : 1 ≤ d) (hm1 : kc ≤ mc) (hm2 : ks ≤ ms) (hr : (r.map fun v => v.category).sum ≤ 8) (k : hw_W l D z lw ini o cc nL ret d mc ms Q (pc + 3) kc ks K n I L P ls (.int (if x < y then y else x) :: r)) : hw_W l D z lw ini o cc nL ret d mc ms Q pc kc ks K n I L P ls (.int y :: .int x :: r) := by
  intro p e s m args below meth c H locs la hC hw hH hS hL
  have hts := hC.2.2.2.2.1
  exact va_mmax hC.1 hC.2.1 (by rw [hC.2.2.1]; exact hL.2.1.symm) hC.2.2.2.1 (hts _ lk) (hts _ ok_max.1) (hts _ ok_max.2.1) (hts _ ok_max.2.2) hd1 (by show _ + 13 ≤ 34 * d + 4; omega) hm1 hm2 hd (k p e s m args below meth c H locs la hC hw hH hS hL)
theorem hw_min (lk : Cond.methodLink (hw_nm o) i Lib.Math.min.name ∈ hw_T) {x y : Int32} (hd : decode cc pc = .ok (.invokestatic i, 3)) (hd1 : 1 ≤ d) (hm1 : kc ≤ mc) (hm2 : ks ≤ ms) (hr : (r.map fun v => v.category).sum ≤ 8) (k : hw_W l D z lw ini o cc nL ret d mc ms Q (pc + 3) kc ks K n I L P ls (.int (if y < x then y else x) :: r)) : hw_W l D z lw ini o cc nL ret d mc ms Q pc kc ks K n I L P ls (.int y :: .int x :: r) := by
  intro p e s m args below meth c H locs la hC hw hH hS hL
  have hts := hC.2.2.2.2.1
  exact va_mmin hC.1 hC.2.1 (by rw [hC.2.2.1]; exact hL.2.1.symm) hC.2.2.2.1 (hts _ lk) (hts _ ok_min.1) (hts _ ok_min.2.1) (hts _ ok_min.2.2) hd1 (by show _ + 13 ≤ 34 * d + 4; omega) hm1 hm2 hd (k p e s m args below meth c H locs la hC hw hH hS hL)
end
