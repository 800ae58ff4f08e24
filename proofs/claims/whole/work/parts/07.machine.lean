def hw_C (D : va_G) (o : Nat) (cc : ByteArray) (nL : Nat) (ret : Option FieldType) (ini : Bool) (p : Program) (s : State) (m : MethodId) (args : Array Value) (meth : Method) (c : Code) : Prop :=
  p.tables.exec = Jvm.exec ∧ c.code = cc ∧ c.maxLocals = nL ∧ s.vm.findClass (hw_nm o) = some m.cls ∧ (∀ w ∈ hw_T, w.before args s = true) ∧ meth.sig.returnType = ret ∧ meth.locks = false ∧ (ini = true → meth.name = "<init>") ∧ hw_K D s
def hw_rm (d mc ms : Nat) : Room := { frames := d, cells := mc, slots := ms, locals := 34 * d + 4 }
def hw_Q (D : va_G) (z : Nat) (Q : Option Value → hw_S → Prop) : Array Value → State → Outcome → State → Prop := fun _ st oc t => ∃ (r : Option Value) (S : hw_S), oc = .returned r ∧ Q r S ∧ hw_H D z t S.1 S.2.1 S.2.2.1 S.2.2.2.1 S.2.2.2.2 t.heap ∧ va_F (fun q => z ≤ q) st t
/-- from here, whatever the machine around, the method comes to its end, with Q -/
def hw_W (l : Launch) (D : va_G) (z : Nat) (lw ini : Bool) (o : Nat) (cc : ByteArray) (nL : Nat) (ret : Option FieldType) (d mc ms : Nat) (Q : Option Value → hw_S → Prop) (pc kc ks : Nat) (K : hw_KM) (n : Nat) (I : hw_IM) (L : hw_LM) (P : hw_PM) (ls : List (Option Value)) (st : List Value) : Prop :=
  ∀ (p : Program) (e : Env) (s : State) (m : MethodId) (args : Array Value) (below : List Frame) (meth : Method) (c : Code) (H : Heap) (locs : List Loc) (la : Array Slot), hw_C D o cc nL ret ini p s m args meth c → (lw = true → s.heap.size ≤ z) → hw_H D z s K n I L P H → va_S (fun q => z ≤ q) s.heap H locs → hw_L la nL ls →
    W p l e (hw_rm d mc ms) s m args below meth c H locs kc ks (MQ below (hw_Q D z Q) args s mc ms (fun q => lw = false ∧ z ≤ q)) (F0 m pc la st)
abbrev hw_KK : Type := Nat → Nat → Nat → hw_KM → Nat → hw_IM → hw_LM → hw_PM → List (Option Value) → List Value → Prop
def hw_t (pc : Nat) (off : Int) : Nat := ((pc : Int) + off).toNat
def hw_al : Option hw_Kd → Option Nat
  | some (.inr (.int, k)) => some k
  | some (.inr (.float, k)) => some k
  | _ => none
def hw_an : Option hw_Kd → Option Nat
  | some (.inr (_, k)) => some k
  | _ => none
def hw_b01 (x : Int32) : Prop := x = 0 ∨ x = 1
/-- a field is written: what the heap holds then -/
def hw_put (ty : FieldType) (v : Value) (a k : Nat) (I : hw_IM) (L : hw_LM) (P : hw_PM) (kk : hw_IM → hw_LM → hw_PM → Prop) : Prop := match ty with
  | .int => ∃ x, v = .int x ∧ kk (va_up I a (va_up (I a) k x)) L P
  | .boolean => ∃ x, v = .int x ∧ hw_b01 x ∧ kk (va_up I a (va_up (I a) k x)) L P
  | .long => ∃ x, v = .long x ∧ kk I (va_up L a (va_up (L a) k x)) P
  | .object _ => ∃ x, v = va_rf x ∧ kk I L (va_up P a (va_up (P a) k x))
  | .array _ => ∃ x, v = va_rf x ∧ kk I L (va_up P a (va_up (P a) k x))
  | _ => False
def hw_fin (c k : Nat) : Bool := ((vwCl[c]?).map (fun q => (q.2.1 k).2.2.2)).getD true
def hw_pok (ini : Bool) (o c k : Nat) : Prop := hw_fin c k = false ∨ (ini = true ∧ c = o)
def hw_rok (ret : Option FieldType) (v : Int32) : Prop := match ret with
  | some .int => True
  | some .boolean => hw_b01 v
  | _ => False
def hw_rob (ret : Option FieldType) : Bool := match ret with
  | some (.object _) => true
  | _ => false
def hw_aty : ArrayType → Option (FieldType × Nat)
  | .int => some (.int, 4)
  | .long => some (.long, 8)
  | .boolean => some (.boolean, 1)
  | _ => none
theorem hw_t_eq {pc : Nat} {off : Int} (h : 0 ≤ (pc : Int) + off) : (pc : Int) + off = ((hw_t pc off : Nat) : Int) := by unfold hw_t; omega
theorem hw_bi {v : Int} (h1 : -128 ≤ v) (h2 : v ≤ 127) : (Int8.ofInt v).toInt32 = Int32.ofInt v := by
  apply Int32.toInt_inj.mp
  rw [Int8.toInt_toInt32, Int8.toInt_ofInt_of_le (by omega) (by omega), Int32.toInt_ofInt_of_le (by omega) (by omega)]
theorem hw_si {v : Int} (h1 : -32768 ≤ v) (h2 : v ≤ 32767) : (Int16.ofInt v).toInt32 = Int32.ofInt v := by
  apply Int32.toInt_inj.mp
  rw [Int16.toInt_toInt32, Int16.toInt_ofInt_of_le (by omega) (by omega), Int32.toInt_ofInt_of_le (by omega) (by omega)]
theorem hw_upn {α : Type} {f : Nat → α} {k j : Nat} {v : α} (h : j ≠ k) : va_up f k v j = f j := by simp [va_up, h]
theorem hw_ups {α : Type} {f : Nat → α} {k : Nat} {v : α} : va_up f k v k = v := by simp [va_up]
theorem hw_al_cases {q : Option hw_Kd} {N : Nat} (h : hw_al q = some N) : q = some (.inr (.int, N)) ∨ q = some (.inr (.float, N)) := by
  unfold hw_al at h
  split at h
  · cases h; exact Or.inl rfl
  · cases h; exact Or.inr rfl
  · cases h
theorem hw_an_cases {q : Option hw_Kd} {N : Nat} (h : hw_an q = some N) : ∃ ty, q = some (.inr (ty, N)) := by
  unfold hw_an at h
  split at h
  · cases h; exact ⟨_, rfl⟩
  · cases h
theorem hw_rok_spec {ret : Option FieldType} {v : Int32} (h : hw_rok ret v) : ∃ ty, ret = some ty ∧ narrow ty (.int v) = .int v := by
  unfold hw_rok at h
  split at h
  · exact ⟨_, rfl, rfl⟩
  · refine ⟨_, rfl, ?_⟩
    rcases h with h | h <;> subst h <;> rfl
  · exact h.elim
theorem hw_rob_spec {ret : Option FieldType} (h : hw_rob ret = true) : ∃ C, ret = some (.object C) := by
  unfold hw_rob at h
  split at h
  · exact ⟨_, rfl⟩
  · cases h
theorem hw_rf_or (v : Option Nat) : va_rf v = .null ∨ ∃ a, va_rf v = .ref a := by
  cases v with
  | none => exact Or.inl rfl
  | some a => exact Or.inr ⟨a, rfl⟩
theorem hw_aty_spec {t : ArrayType} {ty : FieldType} {b : Nat} (h : hw_aty t = some (ty, b)) : newarray.typeOf t = ty ∧ Cond.arrayClass (newarray.typeOf t) ∈ hw_T ∧ componentBytes (newarray.typeOf t) ≤ 8 ∧ (∀ (s : State) (cA : ClassId), s.vm.findClass ("[" ++ (newarray.typeOf t).toString) = some cA → va_RA s cA ty) ∧ ty ≠ .float := by
  cases t <;> first | (cases h; done) | skip
  · cases h
    exact ⟨rfl, hw_ac_boolean, by decide, fun s cA h => h, by decide⟩
  · cases h
    exact ⟨rfl, hw_ac_int, by decide, fun s cA h => h, by decide⟩
  · cases h
    exact ⟨rfl, hw_ac_long, by decide, fun s cA h => h, by decide⟩
theorem hw_def_sv {t : ArrayType} {ty : FieldType} {b : Nat} (h : hw_aty t = some (ty, b)) (I : hw_IM) (L : hw_LM) (P : hw_PM) (n j : Nat) : defaultValue (newarray.typeOf t) = hw_sv (va_up I n (fun _ => 0)) (va_up L n (fun _ => 0)) (va_up P n (fun _ => none)) ty n j := by
  cases t <;> first | (cases h; done) | skip
  all_goals (cases h; simp [hw_sv, va_up, newarray.typeOf, defaultValue])
theorem hw_def_ty (ty : FieldType) (h1 : ty ≠ .float) (h2 : ty ≠ .double) (I : hw_IM) (L : hw_LM) (P : hw_PM) (n j : Nat) : defaultValue ty = hw_sv (va_up I n (fun _ => 0)) (va_up L n (fun _ => 0)) (va_up P n (fun _ => none)) ty n j := by
  cases ty <;> first | exact absurd rfl h1 | exact absurd rfl h2 | simp [hw_sv, va_up, defaultValue, va_rf]
theorem hw_ty_ok : ∀ (c : Nat) (q : vw_C), vwCl[c]? = some q → ∀ j, j < q.2.2 → hw_ty c j ≠ .float ∧ hw_ty c j ≠ .double := by
  intro c q h
  match c, h with
  | 0, h => cases h; decide
  | 1, h => cases h; decide
  | 2, h => cases h; decide
  | 3, h => cases h; decide
  | 4, h => cases h; decide
  | 5, h => cases h; decide
  | 6, h => cases h; decide
  | 7, h => cases h; decide
  | 8, h => cases h; decide
  | 9, h => cases h; decide
  | 10, h => cases h; decide
  | 11, h => cases h; decide +kernel
  | c + 12, h => simp [vwCl] at h
theorem hw_def_fld {c : Nat} {q : vw_C} (h : vwCl[c]? = some q) {j : Nat} (hj : j < q.2.2) (I : hw_IM) (L : hw_LM) (P : hw_PM) (n : Nat) : defaultValue (hw_ty c j) = hw_sv (va_up I n (fun _ => 0)) (va_up L n (fun _ => 0)) (va_up P n (fun _ => none)) (hw_ty c j) n j :=
  hw_def_ty _ (hw_ty_ok c q h j hj).1 (hw_ty_ok c q h j hj).2 I L P n j
theorem hw_put_spec {ty : FieldType} {v : Value} {a k : Nat} {I : hw_IM} {L : hw_LM} {P : hw_PM} {kk : hw_IM → hw_LM → hw_PM → Prop} (h : hw_put ty v a k I L P kk) :
    narrow ty v = v ∧ fits ty v = true ∧ ∃ (I1 : hw_IM) (L1 : hw_LM) (P1 : hw_PM), (∀ x, x ≠ a → I1 x = I x) ∧ (∀ x, x ≠ a → L1 x = L x) ∧ (∀ x, x ≠ a → P1 x = P x) ∧ (∀ (t : FieldType) (j : Nat), (j = k → t = ty) → hw_sv I1 L1 P1 t a j = if j = k then v else hw_sv I L P t a j) ∧ kk I1 L1 P1 := by
  unfold hw_put at h
  split at h
  · obtain ⟨x, rfl, h⟩ := h
    refine ⟨rfl, rfl, _, _, _, fun y hy => hw_upn hy, fun _ _ => rfl, fun _ _ => rfl, fun t j ht => ?_, h⟩
    by_cases hj : j = k
    · subst hj; rw [ht rfl]; simp [hw_sv, va_up]
    · rw [if_neg hj]; cases t <;> simp [hw_sv, va_up, hj]
  · obtain ⟨x, rfl, hx, h⟩ := h
    refine ⟨by rcases hx with hx | hx <;> subst hx <;> rfl, by rcases hx with hx | hx <;> subst hx <;> rfl, _, _, _, fun y hy => hw_upn hy, fun _ _ => rfl, fun _ _ => rfl, fun t j ht => ?_, h⟩
    by_cases hj : j = k
    · subst hj; rw [ht rfl]; simp [hw_sv, va_up]
    · rw [if_neg hj]; cases t <;> simp [hw_sv, va_up, hj]
  · obtain ⟨x, rfl, h⟩ := h
    refine ⟨rfl, rfl, _, _, _, fun _ _ => rfl, fun y hy => hw_upn hy, fun _ _ => rfl, fun t j ht => ?_, h⟩
    by_cases hj : j = k
    · subst hj; rw [ht rfl]; simp [hw_sv, va_up]
    · rw [if_neg hj]; cases t <;> simp [hw_sv, va_up, hj]
  · obtain ⟨x, rfl, h⟩ := h
    refine ⟨by cases x <;> rfl, by cases x <;> rfl, _, _, _, fun _ _ => rfl, fun _ _ => rfl, fun y hy => hw_upn hy, fun t j ht => ?_, h⟩
    by_cases hj : j = k
    · subst hj; rw [ht rfl]; simp [hw_sv, va_up]
    · rw [if_neg hj]; cases t <;> simp [hw_sv, va_up, hj]
  · obtain ⟨x, rfl, h⟩ := h
    refine ⟨by cases x <;> rfl, by cases x <;> rfl, _, _, _, fun _ _ => rfl, fun _ _ => rfl, fun y hy => hw_upn hy, fun t j ht => ?_, h⟩
    by_cases hj : j = k
    · subst hj; rw [ht rfl]; simp [hw_sv, va_up]
    · rw [if_neg hj]; cases t <;> simp [hw_sv, va_up, hj]
  · exact h.elim
theorem hw_T1 : ∀ (c : Nat) (q : vw_C), vwCl[c]? = some q → ∀ j, j < q.2.2 → (q.2.1 j).1 = hw_nm c := by
  intro c q h
  match c, h with
  | 0, h => cases h; decide
  | 1, h => cases h; decide
  | 2, h => cases h; decide
  | 3, h => cases h; decide
  | 4, h => cases h; decide
  | 5, h => cases h; decide
  | 6, h => cases h; decide
  | 7, h => cases h; decide
  | 8, h => cases h; decide
  | 9, h => cases h; decide
  | 10, h => cases h; decide
  | 11, h => cases h; decide +kernel
  | c + 12, h => simp [vwCl] at h
theorem hw_cf_eq {s : State} {args : Array Value} {c : Nat} {t : vw_C} {q : Nat} (ht : vwCl[c]? = some t) (hk : q < t.2.2) {cf : ClassId} {kf : Class} {fi : Nat} {f : Field} (hi : s.fieldFound? (t.2.1 q).1 (t.2.1 q).2.1 (t.2.1 q).2.2.1 = some (cf, kf, fi, f)) {mc : ClassId} (hm : s.vm.findClass (hw_nm c) = some mc) (hlay : (Cond.laysFinal t.1 (t.2.1 q).1 (t.2.1 q).2.1 (t.2.1 q).2.2.1).before args s = true) : mc = cf := by
  obtain ⟨_, _, c', _, _, _, -, -, hf', -, -, -, hown2, -⟩ := Cond.laysFinal_spec hlay
  have e1 : c' = cf := by have := hi.symm.trans hf'; simp at this; exact this.1.symm
  rw [hw_T1 c t ht q hk] at hown2
  rw [← e1]
  exact Option.some.inj (hm.symm.trans hown2)

section
variable {l : Launch} {D : va_G} {z : Nat} {lw ini : Bool} {o : Nat} {cc : ByteArray} {nL : Nat} {ret : Option FieldType} {d mc ms : Nat} {Q : Option Value → hw_S → Prop} {pc kc ks : Nat} {K : hw_KM} {n : Nat} {I : hw_IM} {L : hw_LM} {P : hw_PM} {ls : List (Option Value)} {st r : List Value}
theorem hs_iconst {v : Int} (hd : decode cc pc = .ok (.iconst v, 1)) (k : hw_W l D z lw ini o cc nL ret d mc ms Q (pc + 1) kc ks K n I L P ls (.int (Int32.ofInt v) :: st)) : hw_W l D z lw ini o cc nL ret d mc ms Q pc kc ks K n I L P ls (st) := by
  intro p e s m args below meth c H locs la hC hw hH hS hL
  exact lv_iconst hC.1 hC.2.1 hd rfl (k p e s m args below meth c H locs la hC hw hH hS hL)
theorem hs_bipush {v : Int} (hd : decode cc pc = .ok (.bipush v, 2)) (h0 : -128 ≤ v ∧ v ≤ 127) (k : hw_W l D z lw ini o cc nL ret d mc ms Q (pc + 2) kc ks K n I L P ls (.int (Int32.ofInt v) :: st)) : hw_W l D z lw ini o cc nL ret d mc ms Q pc kc ks K n I L P ls (st) := by
  intro p e s m args below meth c H locs la hC hw hH hS hL
  exact lv_bipush hC.1 hC.2.1 hd (hw_bi h0.1 h0.2) (k p e s m args below meth c H locs la hC hw hH hS hL)
theorem hs_sipush {v : Int} (hd : decode cc pc = .ok (.sipush v, 3)) (h0 : -32768 ≤ v ∧ v ≤ 32767) (k : hw_W l D z lw ini o cc nL ret d mc ms Q (pc + 3) kc ks K n I L P ls (.int (Int32.ofInt v) :: st)) : hw_W l D z lw ini o cc nL ret d mc ms Q pc kc ks K n I L P ls (st) := by
  intro p e s m args below meth c H locs la hC hw hH hS hL
  exact lv_sipush hC.1 hC.2.1 hd (hw_si h0.1 h0.2) (k p e s m args below meth c H locs la hC hw hH hS hL)
theorem hs_lconst {v : Fin 2} (hd : decode cc pc = .ok (.lconst v, 1)) (k : hw_W l D z lw ini o cc nL ret d mc ms Q (pc + 1) kc ks K n I L P ls (.long (Int64.ofNat (v : Nat)) :: st)) : hw_W l D z lw ini o cc nL ret d mc ms Q pc kc ks K n I L P ls (st) := by
  intro p e s m args below meth c H locs la hC hw hH hS hL
  exact lv_lconst hC.1 hC.2.1 hd rfl (k p e s m args below meth c H locs la hC hw hH hS hL)
theorem hs_aconst_null  (hd : decode cc pc = .ok (.aconst_null, 1)) (k : hw_W l D z lw ini o cc nL ret d mc ms Q (pc + 1) kc ks K n I L P ls (va_rf none :: st)) : hw_W l D z lw ini o cc nL ret d mc ms Q pc kc ks K n I L P ls (st) := by
  intro p e s m args below meth c H locs la hC hw hH hS hL
  exact lv_null hC.1 hC.2.1 hd  (k p e s m args below meth c H locs la hC hw hH hS hL)
theorem hs_iadd {x y : Int32} (hd : decode cc pc = .ok (.iadd, 1)) (k : hw_W l D z lw ini o cc nL ret d mc ms Q (pc + 1) kc ks K n I L P ls (.int (x + y) :: r)) : hw_W l D z lw ini o cc nL ret d mc ms Q pc kc ks K n I L P ls (.int y :: .int x :: r) := by
  intro p e s m args below meth c H locs la hC hw hH hS hL
  exact lv_iadd hC.1 hC.2.1 hd  (k p e s m args below meth c H locs la hC hw hH hS hL)
theorem hs_isub {x y : Int32} (hd : decode cc pc = .ok (.isub, 1)) (k : hw_W l D z lw ini o cc nL ret d mc ms Q (pc + 1) kc ks K n I L P ls (.int (x - y) :: r)) : hw_W l D z lw ini o cc nL ret d mc ms Q pc kc ks K n I L P ls (.int y :: .int x :: r) := by
  intro p e s m args below meth c H locs la hC hw hH hS hL
  exact lv_isub hC.1 hC.2.1 hd  (k p e s m args below meth c H locs la hC hw hH hS hL)
theorem hs_imul {x y : Int32} (hd : decode cc pc = .ok (.imul, 1)) (k : hw_W l D z lw ini o cc nL ret d mc ms Q (pc + 1) kc ks K n I L P ls (.int (x * y) :: r)) : hw_W l D z lw ini o cc nL ret d mc ms Q pc kc ks K n I L P ls (.int y :: .int x :: r) := by
  intro p e s m args below meth c H locs la hC hw hH hS hL
  exact lv_imul hC.1 hC.2.1 hd  (k p e s m args below meth c H locs la hC hw hH hS hL)
theorem hs_iand {x y : Int32} (hd : decode cc pc = .ok (.iand, 1)) (k : hw_W l D z lw ini o cc nL ret d mc ms Q (pc + 1) kc ks K n I L P ls (.int (x &&& y) :: r)) : hw_W l D z lw ini o cc nL ret d mc ms Q pc kc ks K n I L P ls (.int y :: .int x :: r) := by
  intro p e s m args below meth c H locs la hC hw hH hS hL
  exact lv_iand hC.1 hC.2.1 hd  (k p e s m args below meth c H locs la hC hw hH hS hL)
theorem hs_ior {x y : Int32} (hd : decode cc pc = .ok (.ior, 1)) (k : hw_W l D z lw ini o cc nL ret d mc ms Q (pc + 1) kc ks K n I L P ls (.int (x ||| y) :: r)) : hw_W l D z lw ini o cc nL ret d mc ms Q pc kc ks K n I L P ls (.int y :: .int x :: r) := by
  intro p e s m args below meth c H locs la hC hw hH hS hL
  exact lv_ior hC.1 hC.2.1 hd  (k p e s m args below meth c H locs la hC hw hH hS hL)
theorem hs_ixor {x y : Int32} (hd : decode cc pc = .ok (.ixor, 1)) (k : hw_W l D z lw ini o cc nL ret d mc ms Q (pc + 1) kc ks K n I L P ls (.int (x ^^^ y) :: r)) : hw_W l D z lw ini o cc nL ret d mc ms Q pc kc ks K n I L P ls (.int y :: .int x :: r) := by
  intro p e s m args below meth c H locs la hC hw hH hS hL
  exact lv_ixor hC.1 hC.2.1 hd  (k p e s m args below meth c H locs la hC hw hH hS hL)
theorem hs_ishl {x y : Int32} (hd : decode cc pc = .ok (.ishl, 1)) (k : hw_W l D z lw ini o cc nL ret d mc ms Q (pc + 1) kc ks K n I L P ls (.int (x <<< (y &&& 31)) :: r)) : hw_W l D z lw ini o cc nL ret d mc ms Q pc kc ks K n I L P ls (.int y :: .int x :: r) := by
  intro p e s m args below meth c H locs la hC hw hH hS hL
  exact lv_ishl hC.1 hC.2.1 hd  (k p e s m args below meth c H locs la hC hw hH hS hL)
theorem hs_ishr {x y : Int32} (hd : decode cc pc = .ok (.ishr, 1)) (k : hw_W l D z lw ini o cc nL ret d mc ms Q (pc + 1) kc ks K n I L P ls (.int (x >>> (y &&& 31)) :: r)) : hw_W l D z lw ini o cc nL ret d mc ms Q pc kc ks K n I L P ls (.int y :: .int x :: r) := by
  intro p e s m args below meth c H locs la hC hw hH hS hL
  exact lv_ishr hC.1 hC.2.1 hd  (k p e s m args below meth c H locs la hC hw hH hS hL)
theorem hs_iushr {x y : Int32} (hd : decode cc pc = .ok (.iushr, 1)) (k : hw_W l D z lw ini o cc nL ret d mc ms Q (pc + 1) kc ks K n I L P ls (.int (x.toUInt32 >>> (y.toUInt32 &&& Int32.toUInt32 31)).toInt32 :: r)) : hw_W l D z lw ini o cc nL ret d mc ms Q pc kc ks K n I L P ls (.int y :: .int x :: r) := by
  intro p e s m args below meth c H locs la hC hw hH hS hL
  exact lv_iushr hC.1 hC.2.1 hd rfl (k p e s m args below meth c H locs la hC hw hH hS hL)
theorem hs_idiv {x y : Int32} (hd : decode cc pc = .ok (.idiv, 1)) (h0 : ¬ y = 0) (k : hw_W l D z lw ini o cc nL ret d mc ms Q (pc + 1) kc ks K n I L P ls (.int (x / y) :: r)) : hw_W l D z lw ini o cc nL ret d mc ms Q pc kc ks K n I L P ls (.int y :: .int x :: r) := by
  intro p e s m args below meth c H locs la hC hw hH hS hL
  exact lv_idiv hC.1 hC.2.1 hd h0 (k p e s m args below meth c H locs la hC hw hH hS hL)
theorem hs_irem {x y : Int32} (hd : decode cc pc = .ok (.irem, 1)) (h0 : ¬ y = 0) (k : hw_W l D z lw ini o cc nL ret d mc ms Q (pc + 1) kc ks K n I L P ls (.int (x - x / y * y) :: r)) : hw_W l D z lw ini o cc nL ret d mc ms Q pc kc ks K n I L P ls (.int y :: .int x :: r) := by
  intro p e s m args below meth c H locs la hC hw hH hS hL
  exact lv_irem hC.1 hC.2.1 hd h0 (k p e s m args below meth c H locs la hC hw hH hS hL)
theorem hs_ineg {x : Int32} (hd : decode cc pc = .ok (.ineg, 1)) (k : hw_W l D z lw ini o cc nL ret d mc ms Q (pc + 1) kc ks K n I L P ls (.int (-x) :: r)) : hw_W l D z lw ini o cc nL ret d mc ms Q pc kc ks K n I L P ls (.int x :: r) := by
  intro p e s m args below meth c H locs la hC hw hH hS hL
  exact lv_ineg hC.1 hC.2.1 hd  (k p e s m args below meth c H locs la hC hw hH hS hL)
theorem hs_i2l {x : Int32} (hd : decode cc pc = .ok (.i2l, 1)) (k : hw_W l D z lw ini o cc nL ret d mc ms Q (pc + 1) kc ks K n I L P ls (.long x.toInt64 :: r)) : hw_W l D z lw ini o cc nL ret d mc ms Q pc kc ks K n I L P ls (.int x :: r) := by
  intro p e s m args below meth c H locs la hC hw hH hS hL
  exact lv_i2l hC.1 hC.2.1 hd rfl (k p e s m args below meth c H locs la hC hw hH hS hL)
theorem hs_l2i {x : Int64} (hd : decode cc pc = .ok (.l2i, 1)) (k : hw_W l D z lw ini o cc nL ret d mc ms Q (pc + 1) kc ks K n I L P ls (.int x.toInt32 :: r)) : hw_W l D z lw ini o cc nL ret d mc ms Q pc kc ks K n I L P ls (.long x :: r) := by
  intro p e s m args below meth c H locs la hC hw hH hS hL
  exact lv_l2i hC.1 hC.2.1 hd rfl (k p e s m args below meth c H locs la hC hw hH hS hL)
theorem hs_i2b {x : Int32} (hd : decode cc pc = .ok (.i2b, 1)) (k : hw_W l D z lw ini o cc nL ret d mc ms Q (pc + 1) kc ks K n I L P ls (.int x.toInt8.toInt32 :: r)) : hw_W l D z lw ini o cc nL ret d mc ms Q pc kc ks K n I L P ls (.int x :: r) := by
  intro p e s m args below meth c H locs la hC hw hH hS hL
  exact lv_i2b hC.1 hC.2.1 hd rfl (k p e s m args below meth c H locs la hC hw hH hS hL)
theorem hs_ladd {x y : Int64} (hd : decode cc pc = .ok (.ladd, 1)) (k : hw_W l D z lw ini o cc nL ret d mc ms Q (pc + 1) kc ks K n I L P ls (.long (x + y) :: r)) : hw_W l D z lw ini o cc nL ret d mc ms Q pc kc ks K n I L P ls (.long y :: .long x :: r) := by
  intro p e s m args below meth c H locs la hC hw hH hS hL
  exact lv_ladd hC.1 hC.2.1 hd  (k p e s m args below meth c H locs la hC hw hH hS hL)
theorem hs_lmul {x y : Int64} (hd : decode cc pc = .ok (.lmul, 1)) (k : hw_W l D z lw ini o cc nL ret d mc ms Q (pc + 1) kc ks K n I L P ls (.long (x * y) :: r)) : hw_W l D z lw ini o cc nL ret d mc ms Q pc kc ks K n I L P ls (.long y :: .long x :: r) := by
  intro p e s m args below meth c H locs la hC hw hH hS hL
  exact lv_lmul hC.1 hC.2.1 hd  (k p e s m args below meth c H locs la hC hw hH hS hL)
theorem hs_land {x y : Int64} (hd : decode cc pc = .ok (.land, 1)) (k : hw_W l D z lw ini o cc nL ret d mc ms Q (pc + 1) kc ks K n I L P ls (.long (x &&& y) :: r)) : hw_W l D z lw ini o cc nL ret d mc ms Q pc kc ks K n I L P ls (.long y :: .long x :: r) := by
  intro p e s m args below meth c H locs la hC hw hH hS hL
  exact lv_land hC.1 hC.2.1 hd  (k p e s m args below meth c H locs la hC hw hH hS hL)
theorem hs_lor {x y : Int64} (hd : decode cc pc = .ok (.lor, 1)) (k : hw_W l D z lw ini o cc nL ret d mc ms Q (pc + 1) kc ks K n I L P ls (.long (x ||| y) :: r)) : hw_W l D z lw ini o cc nL ret d mc ms Q pc kc ks K n I L P ls (.long y :: .long x :: r) := by
  intro p e s m args below meth c H locs la hC hw hH hS hL
  exact lv_lor hC.1 hC.2.1 hd  (k p e s m args below meth c H locs la hC hw hH hS hL)
theorem hs_lshl {x : Int64} {y : Int32} (hd : decode cc pc = .ok (.lshl, 1)) (k : hw_W l D z lw ini o cc nL ret d mc ms Q (pc + 1) kc ks K n I L P ls (.long (x <<< (y.toInt64 &&& 63)) :: r)) : hw_W l D z lw ini o cc nL ret d mc ms Q pc kc ks K n I L P ls (.int y :: .long x :: r) := by
  intro p e s m args below meth c H locs la hC hw hH hS hL
  exact lv_lshl hC.1 hC.2.1 hd rfl (k p e s m args below meth c H locs la hC hw hH hS hL)
theorem hs_lcmp {x y : Int64} (hd : decode cc pc = .ok (.lcmp, 1)) (k : hw_W l D z lw ini o cc nL ret d mc ms Q (pc + 1) kc ks K n I L P ls (.int (lg_cmp x y) :: r)) : hw_W l D z lw ini o cc nL ret d mc ms Q pc kc ks K n I L P ls (.long y :: .long x :: r) := by
  intro p e s m args below meth c H locs la hC hw hH hS hL
  exact W.lcmp hC.1 hC.2.1 hd  (k p e s m args below meth c H locs la hC hw hH hS hL)
theorem hs_dup {v : Value} (hd : decode cc pc = .ok (.dup, 1)) (h0 : v.category = 1) (k : hw_W l D z lw ini o cc nL ret d mc ms Q (pc + 1) kc ks K n I L P ls (v :: v :: r)) : hw_W l D z lw ini o cc nL ret d mc ms Q pc kc ks K n I L P ls (v :: r) := by
  intro p e s m args below meth c H locs la hC hw hH hS hL
  exact lv_dup hC.1 hC.2.1 hd h0 (k p e s m args below meth c H locs la hC hw hH hS hL)
theorem hs_dup2 {v w : Value} (hd : decode cc pc = .ok (.dup2, 1)) (h0 : v.category = 1 ∧ w.category = 1) (k : hw_W l D z lw ini o cc nL ret d mc ms Q (pc + 1) kc ks K n I L P ls (v :: w :: v :: w :: r)) : hw_W l D z lw ini o cc nL ret d mc ms Q pc kc ks K n I L P ls (v :: w :: r) := by
  intro p e s m args below meth c H locs la hC hw hH hS hL
  exact lv_dup2_11 hC.1 hC.2.1 hd h0.1 h0.2 (k p e s m args below meth c H locs la hC hw hH hS hL)
theorem hs_ldc {i : Nat} {v : Int32} (hd : decode cc pc = .ok (.ldc i, 2)) (h0 : hw_c o i = some v) (k : hw_W l D z lw ini o cc nL ret d mc ms Q (pc + 2) kc ks K n I L P ls (.int v :: st)) : hw_W l D z lw ini o cc nL ret d mc ms Q pc kc ks K n I L P ls st := by
  intro p e s m args below meth c H locs la hC hw hH hS hL
  exact lv_ldc hC.1 hC.2.1 hC.2.2.2.1 (hC.2.2.2.2.1 _ (hw_c_ok h0)) hd (k p e s m args below meth c H locs la hC hw hH hS hL)
theorem hs_ldc_w {i : Nat} {v : Int32} (hd : decode cc pc = .ok (.ldc_w i, 3)) (h0 : hw_c o i = some v) (k : hw_W l D z lw ini o cc nL ret d mc ms Q (pc + 3) kc ks K n I L P ls (.int v :: st)) : hw_W l D z lw ini o cc nL ret d mc ms Q pc kc ks K n I L P ls st := by
  intro p e s m args below meth c H locs la hC hw hH hS hL
  exact lv_ldcw hC.1 hC.2.1 hC.2.2.2.1 (hC.2.2.2.2.1 _ (hw_c_ok h0)) hd (k p e s m args below meth c H locs la hC hw hH hS hL)
theorem hs_ldc2_w {i : Nat} {v : Int64} (hd : decode cc pc = .ok (.ldc2_w i, 3)) (h0 : hw_cj o i = some v) (k : hw_W l D z lw ini o cc nL ret d mc ms Q (pc + 3) kc ks K n I L P ls (.long v :: st)) : hw_W l D z lw ini o cc nL ret d mc ms Q pc kc ks K n I L P ls st := by
  intro p e s m args below meth c H locs la hC hw hH hS hL
  exact lv_ldc2 hC.1 hC.2.1 hC.2.2.2.1 (hC.2.2.2.2.1 _ (hw_cj_ok h0)) hd (k p e s m args below meth c H locs la hC hw hH hS hL)
theorem hs_iload_n {j : Fin 4} {v : Int32} (hd : decode cc pc = .ok (.iload_n j, 1)) (h0 : ls[(j : Nat)]? = some (some (.int v))) (k : hw_W l D z lw ini o cc nL ret d mc ms Q (pc + 1) kc ks K n I L P ls (.int v :: st)) : hw_W l D z lw ini o cc nL ret d mc ms Q pc kc ks K n I L P ls st := by
  intro p e s m args below meth c H locs la hC hw hH hS hL
  exact lv_iload_n hC.1 hC.2.1 hd rfl (hw_L_at hL h0) (k p e s m args below meth c H locs la hC hw hH hS hL)
theorem hs_iload {j : Nat} {v : Int32} (hd : decode cc pc = .ok (.iload j, 2)) (h0 : ls[j]? = some (some (.int v))) (k : hw_W l D z lw ini o cc nL ret d mc ms Q (pc + 2) kc ks K n I L P ls (.int v :: st)) : hw_W l D z lw ini o cc nL ret d mc ms Q pc kc ks K n I L P ls st := by
  intro p e s m args below meth c H locs la hC hw hH hS hL
  exact lv_iload hC.1 hC.2.1 hd (hw_L_at hL h0) (k p e s m args below meth c H locs la hC hw hH hS hL)
theorem hs_lload_n {j : Fin 4} {v : Int64} (hd : decode cc pc = .ok (.lload_n j, 1)) (h0 : ls[(j : Nat)]? = some (some (.long v))) (k : hw_W l D z lw ini o cc nL ret d mc ms Q (pc + 1) kc ks K n I L P ls (.long v :: st)) : hw_W l D z lw ini o cc nL ret d mc ms Q pc kc ks K n I L P ls st := by
  intro p e s m args below meth c H locs la hC hw hH hS hL
  exact lv_lload_n hC.1 hC.2.1 hd rfl (hw_L_at hL h0) (k p e s m args below meth c H locs la hC hw hH hS hL)
theorem hs_lload {j : Nat} {v : Int64} (hd : decode cc pc = .ok (.lload j, 2)) (h0 : ls[j]? = some (some (.long v))) (k : hw_W l D z lw ini o cc nL ret d mc ms Q (pc + 2) kc ks K n I L P ls (.long v :: st)) : hw_W l D z lw ini o cc nL ret d mc ms Q pc kc ks K n I L P ls st := by
  intro p e s m args below meth c H locs la hC hw hH hS hL
  exact lv_lload hC.1 hC.2.1 hd (hw_L_at hL h0) (k p e s m args below meth c H locs la hC hw hH hS hL)
theorem hs_aload_n {j : Fin 4} {v : Option Nat} (hd : decode cc pc = .ok (.aload_n j, 1)) (h0 : ls[(j : Nat)]? = some (some (va_rf v))) (k : hw_W l D z lw ini o cc nL ret d mc ms Q (pc + 1) kc ks K n I L P ls (va_rf v :: st)) : hw_W l D z lw ini o cc nL ret d mc ms Q pc kc ks K n I L P ls st := by
  intro p e s m args below meth c H locs la hC hw hH hS hL
  cases v with
  | none => exact lv_aload_nN hC.1 hC.2.1 hd rfl (hw_L_at hL h0) (k p e s m args below meth c H locs la hC hw hH hS hL)
  | some x => exact lv_aload_n hC.1 hC.2.1 hd rfl (hw_L_at hL h0) (k p e s m args below meth c H locs la hC hw hH hS hL)
theorem hs_aload {j : Nat} {v : Option Nat} (hd : decode cc pc = .ok (.aload j, 2)) (h0 : ls[j]? = some (some (va_rf v))) (k : hw_W l D z lw ini o cc nL ret d mc ms Q (pc + 2) kc ks K n I L P ls (va_rf v :: st)) : hw_W l D z lw ini o cc nL ret d mc ms Q pc kc ks K n I L P ls st := by
  intro p e s m args below meth c H locs la hC hw hH hS hL
  cases v with
  | none => exact lv_aloadN hC.1 hC.2.1 hd (hw_L_at hL h0) (k p e s m args below meth c H locs la hC hw hH hS hL)
  | some x => exact lv_aload hC.1 hC.2.1 hd (hw_L_at hL h0) (k p e s m args below meth c H locs la hC hw hH hS hL)
theorem hs_istore_n {j : Fin 4} {v : Int32} (hd : decode cc pc = .ok (.istore_n j, 1)) (h0 : (j : Nat) < nL) (k : hw_W l D z lw ini o cc nL ret d mc ms Q (pc + 1) kc ks K n I L P (hw_st ls (j : Nat) (.int v)) r) : hw_W l D z lw ini o cc nL ret d mc ms Q pc kc ks K n I L P ls (.int v :: r) := by
  intro p e s m args below meth c H locs la hC hw hH hS hL
  exact lv_istore_n hC.1 hC.2.1 hd rfl hL.2 h0 rfl (fun la h => k p e s m args below meth c H locs la hC hw hH hS (hw_L_st hL.1 h))
theorem hs_istore {j : Nat} {v : Int32} (hd : decode cc pc = .ok (.istore j, 2)) (h0 : j < nL) (k : hw_W l D z lw ini o cc nL ret d mc ms Q (pc + 2) kc ks K n I L P (hw_st ls j (.int v)) r) : hw_W l D z lw ini o cc nL ret d mc ms Q pc kc ks K n I L P ls (.int v :: r) := by
  intro p e s m args below meth c H locs la hC hw hH hS hL
  exact lv_istore hC.1 hC.2.1 hd hL.2 h0 rfl (fun la h => k p e s m args below meth c H locs la hC hw hH hS (hw_L_st hL.1 h))
theorem hs_astore_n {j : Fin 4} {v : Option Nat} (hd : decode cc pc = .ok (.astore_n j, 1)) (h0 : (j : Nat) < nL) (k : hw_W l D z lw ini o cc nL ret d mc ms Q (pc + 1) kc ks K n I L P (hw_st ls (j : Nat) (va_rf v)) r) : hw_W l D z lw ini o cc nL ret d mc ms Q pc kc ks K n I L P ls (va_rf v :: r) := by
  intro p e s m args below meth c H locs la hC hw hH hS hL
  cases v with
  | none => exact lv_astore_nN hC.1 hC.2.1 hd rfl hL.2 h0 rfl (fun la h => k p e s m args below meth c H locs la hC hw hH hS (hw_L_st hL.1 h))
  | some x => exact lv_astore_n hC.1 hC.2.1 hd rfl hL.2 h0 rfl (fun la h => k p e s m args below meth c H locs la hC hw hH hS (hw_L_st hL.1 h))
theorem hs_astore {j : Nat} {v : Option Nat} (hd : decode cc pc = .ok (.astore j, 2)) (h0 : j < nL) (k : hw_W l D z lw ini o cc nL ret d mc ms Q (pc + 2) kc ks K n I L P (hw_st ls j (va_rf v)) r) : hw_W l D z lw ini o cc nL ret d mc ms Q pc kc ks K n I L P ls (va_rf v :: r) := by
  intro p e s m args below meth c H locs la hC hw hH hS hL
  cases v with
  | none => exact lv_astoreN hC.1 hC.2.1 hd hL.2 h0 rfl (fun la h => k p e s m args below meth c H locs la hC hw hH hS (hw_L_st hL.1 h))
  | some x => exact lv_astore hC.1 hC.2.1 hd hL.2 h0 rfl (fun la h => k p e s m args below meth c H locs la hC hw hH hS (hw_L_st hL.1 h))
theorem hs_lstore_n {j : Fin 4} {v : Int64} (hd : decode cc pc = .ok (.lstore_n j, 1)) (h0 : (j : Nat) + 1 < nL) (k : hw_W l D z lw ini o cc nL ret d mc ms Q (pc + 1) kc ks K n I L P (hw_st2 ls (j : Nat) (.long v)) r) : hw_W l D z lw ini o cc nL ret d mc ms Q pc kc ks K n I L P ls (.long v :: r) := by
  intro p e s m args below meth c H locs la hC hw hH hS hL
  exact lv_lstore_n hC.1 hC.2.1 hd rfl hL.2 h0 rfl (fun la h => k p e s m args below meth c H locs la hC hw hH hS (hw_L_st2 hL.1 h))
theorem hs_iinc {j : Nat} {w : Int} {v : Int32} (hd : decode cc pc = .ok (.iinc j w, 3)) (h0 : ls[j]? = some (some (.int v))) (h1 : j < nL) (k : hw_W l D z lw ini o cc nL ret d mc ms Q (pc + 3) kc ks K n I L P (hw_st ls j (.int (v + Int32.ofInt w))) st) : hw_W l D z lw ini o cc nL ret d mc ms Q pc kc ks K n I L P ls st := by
  intro p e s m args below meth c H locs la hC hw hH hS hL
  obtain ⟨q, hq⟩ := List.getElem?_of_mem ((hw_pl_mem ls 0 j (.int v)).mpr ⟨j, by omega, h0⟩)
  exact lv_iinc hC.1 hC.2.1 hd hL.2 hq rfl h1 rfl (fun la h => k p e s m args below meth c H locs la hC hw hH hS (hw_L_st hL.1 h))
theorem hs_if_eq {x : Int32} {off : Int} (hd : decode cc pc = .ok (.ifCond .eq off, 3)) (h0 : 0 ≤ (pc : Int) + off) (kt : x = 0 → hw_W l D z lw ini o cc nL ret d mc ms Q (hw_t pc off) kc ks K n I L P ls r) (kf : ¬ x = 0 → hw_W l D z lw ini o cc nL ret d mc ms Q (pc + 3) kc ks K n I L P ls r) : hw_W l D z lw ini o cc nL ret d mc ms Q pc kc ks K n I L P ls (.int x :: r) := by
  intro p e s m args below meth c H locs la hC hw hH hS hL
  exact lv_if_eq hC.1 hC.2.1 hd (hw_t_eq h0) (fun q => kt q p e s m args below meth c H locs la hC hw hH hS hL) (fun q => kf q p e s m args below meth c H locs la hC hw hH hS hL)
theorem hs_if_ne {x : Int32} {off : Int} (hd : decode cc pc = .ok (.ifCond .ne off, 3)) (h0 : 0 ≤ (pc : Int) + off) (kt : ¬ x = 0 → hw_W l D z lw ini o cc nL ret d mc ms Q (hw_t pc off) kc ks K n I L P ls r) (kf : x = 0 → hw_W l D z lw ini o cc nL ret d mc ms Q (pc + 3) kc ks K n I L P ls r) : hw_W l D z lw ini o cc nL ret d mc ms Q pc kc ks K n I L P ls (.int x :: r) := by
  intro p e s m args below meth c H locs la hC hw hH hS hL
  exact lv_if_ne hC.1 hC.2.1 hd (hw_t_eq h0) (fun q => kt q p e s m args below meth c H locs la hC hw hH hS hL) (fun q => kf q p e s m args below meth c H locs la hC hw hH hS hL)
theorem hs_if_lt {x : Int32} {off : Int} (hd : decode cc pc = .ok (.ifCond .lt off, 3)) (h0 : 0 ≤ (pc : Int) + off) (kt : x < 0 → hw_W l D z lw ini o cc nL ret d mc ms Q (hw_t pc off) kc ks K n I L P ls r) (kf : ¬ x < 0 → hw_W l D z lw ini o cc nL ret d mc ms Q (pc + 3) kc ks K n I L P ls r) : hw_W l D z lw ini o cc nL ret d mc ms Q pc kc ks K n I L P ls (.int x :: r) := by
  intro p e s m args below meth c H locs la hC hw hH hS hL
  exact lv_if_lt hC.1 hC.2.1 hd (hw_t_eq h0) (fun q => kt q p e s m args below meth c H locs la hC hw hH hS hL) (fun q => kf q p e s m args below meth c H locs la hC hw hH hS hL)
theorem hs_if_ge {x : Int32} {off : Int} (hd : decode cc pc = .ok (.ifCond .ge off, 3)) (h0 : 0 ≤ (pc : Int) + off) (kt : 0 ≤ x → hw_W l D z lw ini o cc nL ret d mc ms Q (hw_t pc off) kc ks K n I L P ls r) (kf : ¬ 0 ≤ x → hw_W l D z lw ini o cc nL ret d mc ms Q (pc + 3) kc ks K n I L P ls r) : hw_W l D z lw ini o cc nL ret d mc ms Q pc kc ks K n I L P ls (.int x :: r) := by
  intro p e s m args below meth c H locs la hC hw hH hS hL
  exact lv_if_ge hC.1 hC.2.1 hd (hw_t_eq h0) (fun q => kt q p e s m args below meth c H locs la hC hw hH hS hL) (fun q => kf q p e s m args below meth c H locs la hC hw hH hS hL)
theorem hs_if_gt {x : Int32} {off : Int} (hd : decode cc pc = .ok (.ifCond .gt off, 3)) (h0 : 0 ≤ (pc : Int) + off) (kt : 0 < x → hw_W l D z lw ini o cc nL ret d mc ms Q (hw_t pc off) kc ks K n I L P ls r) (kf : ¬ 0 < x → hw_W l D z lw ini o cc nL ret d mc ms Q (pc + 3) kc ks K n I L P ls r) : hw_W l D z lw ini o cc nL ret d mc ms Q pc kc ks K n I L P ls (.int x :: r) := by
  intro p e s m args below meth c H locs la hC hw hH hS hL
  exact lv_if_gt hC.1 hC.2.1 hd (hw_t_eq h0) (fun q => kt q p e s m args below meth c H locs la hC hw hH hS hL) (fun q => kf q p e s m args below meth c H locs la hC hw hH hS hL)
theorem hs_if_le {x : Int32} {off : Int} (hd : decode cc pc = .ok (.ifCond .le off, 3)) (h0 : 0 ≤ (pc : Int) + off) (kt : x ≤ 0 → hw_W l D z lw ini o cc nL ret d mc ms Q (hw_t pc off) kc ks K n I L P ls r) (kf : ¬ x ≤ 0 → hw_W l D z lw ini o cc nL ret d mc ms Q (pc + 3) kc ks K n I L P ls r) : hw_W l D z lw ini o cc nL ret d mc ms Q pc kc ks K n I L P ls (.int x :: r) := by
  intro p e s m args below meth c H locs la hC hw hH hS hL
  exact lv_if_le hC.1 hC.2.1 hd (hw_t_eq h0) (fun q => kt q p e s m args below meth c H locs la hC hw hH hS hL) (fun q => kf q p e s m args below meth c H locs la hC hw hH hS hL)
theorem hs_icmp_eq {x y : Int32} {off : Int} (hd : decode cc pc = .ok (.if_icmp .eq off, 3)) (h0 : 0 ≤ (pc : Int) + off) (kt : x = y → hw_W l D z lw ini o cc nL ret d mc ms Q (hw_t pc off) kc ks K n I L P ls r) (kf : ¬ x = y → hw_W l D z lw ini o cc nL ret d mc ms Q (pc + 3) kc ks K n I L P ls r) : hw_W l D z lw ini o cc nL ret d mc ms Q pc kc ks K n I L P ls (.int y :: .int x :: r) := by
  intro p e s m args below meth c H locs la hC hw hH hS hL
  exact lv_icmp_eq hC.1 hC.2.1 hd (hw_t_eq h0) (fun q => kt q p e s m args below meth c H locs la hC hw hH hS hL) (fun q => kf q p e s m args below meth c H locs la hC hw hH hS hL)
theorem hs_icmp_ne {x y : Int32} {off : Int} (hd : decode cc pc = .ok (.if_icmp .ne off, 3)) (h0 : 0 ≤ (pc : Int) + off) (kt : ¬ x = y → hw_W l D z lw ini o cc nL ret d mc ms Q (hw_t pc off) kc ks K n I L P ls r) (kf : x = y → hw_W l D z lw ini o cc nL ret d mc ms Q (pc + 3) kc ks K n I L P ls r) : hw_W l D z lw ini o cc nL ret d mc ms Q pc kc ks K n I L P ls (.int y :: .int x :: r) := by
  intro p e s m args below meth c H locs la hC hw hH hS hL
  exact lv_icmp_ne hC.1 hC.2.1 hd (hw_t_eq h0) (fun q => kt q p e s m args below meth c H locs la hC hw hH hS hL) (fun q => kf q p e s m args below meth c H locs la hC hw hH hS hL)
theorem hs_icmp_lt {x y : Int32} {off : Int} (hd : decode cc pc = .ok (.if_icmp .lt off, 3)) (h0 : 0 ≤ (pc : Int) + off) (kt : x < y → hw_W l D z lw ini o cc nL ret d mc ms Q (hw_t pc off) kc ks K n I L P ls r) (kf : ¬ x < y → hw_W l D z lw ini o cc nL ret d mc ms Q (pc + 3) kc ks K n I L P ls r) : hw_W l D z lw ini o cc nL ret d mc ms Q pc kc ks K n I L P ls (.int y :: .int x :: r) := by
  intro p e s m args below meth c H locs la hC hw hH hS hL
  exact lv_icmp_lt hC.1 hC.2.1 hd (hw_t_eq h0) (fun q => kt q p e s m args below meth c H locs la hC hw hH hS hL) (fun q => kf q p e s m args below meth c H locs la hC hw hH hS hL)
theorem hs_icmp_ge {x y : Int32} {off : Int} (hd : decode cc pc = .ok (.if_icmp .ge off, 3)) (h0 : 0 ≤ (pc : Int) + off) (kt : y ≤ x → hw_W l D z lw ini o cc nL ret d mc ms Q (hw_t pc off) kc ks K n I L P ls r) (kf : ¬ y ≤ x → hw_W l D z lw ini o cc nL ret d mc ms Q (pc + 3) kc ks K n I L P ls r) : hw_W l D z lw ini o cc nL ret d mc ms Q pc kc ks K n I L P ls (.int y :: .int x :: r) := by
  intro p e s m args below meth c H locs la hC hw hH hS hL
  exact lv_icmp_ge hC.1 hC.2.1 hd (hw_t_eq h0) (fun q => kt q p e s m args below meth c H locs la hC hw hH hS hL) (fun q => kf q p e s m args below meth c H locs la hC hw hH hS hL)
theorem hs_icmp_gt {x y : Int32} {off : Int} (hd : decode cc pc = .ok (.if_icmp .gt off, 3)) (h0 : 0 ≤ (pc : Int) + off) (kt : y < x → hw_W l D z lw ini o cc nL ret d mc ms Q (hw_t pc off) kc ks K n I L P ls r) (kf : ¬ y < x → hw_W l D z lw ini o cc nL ret d mc ms Q (pc + 3) kc ks K n I L P ls r) : hw_W l D z lw ini o cc nL ret d mc ms Q pc kc ks K n I L P ls (.int y :: .int x :: r) := by
  intro p e s m args below meth c H locs la hC hw hH hS hL
  exact lv_icmp_gt hC.1 hC.2.1 hd (hw_t_eq h0) (fun q => kt q p e s m args below meth c H locs la hC hw hH hS hL) (fun q => kf q p e s m args below meth c H locs la hC hw hH hS hL)
theorem hs_icmp_le {x y : Int32} {off : Int} (hd : decode cc pc = .ok (.if_icmp .le off, 3)) (h0 : 0 ≤ (pc : Int) + off) (kt : x ≤ y → hw_W l D z lw ini o cc nL ret d mc ms Q (hw_t pc off) kc ks K n I L P ls r) (kf : ¬ x ≤ y → hw_W l D z lw ini o cc nL ret d mc ms Q (pc + 3) kc ks K n I L P ls r) : hw_W l D z lw ini o cc nL ret d mc ms Q pc kc ks K n I L P ls (.int y :: .int x :: r) := by
  intro p e s m args below meth c H locs la hC hw hH hS hL
  exact lv_icmp_le hC.1 hC.2.1 hd (hw_t_eq h0) (fun q => kt q p e s m args below meth c H locs la hC hw hH hS hL) (fun q => kf q p e s m args below meth c H locs la hC hw hH hS hL)
theorem hs_goto {off : Int} (hd : decode cc pc = .ok (.goto off, 3)) (h0 : 0 ≤ (pc : Int) + off) (k : hw_W l D z lw ini o cc nL ret d mc ms Q (hw_t pc off) kc ks K n I L P ls st) : hw_W l D z lw ini o cc nL ret d mc ms Q pc kc ks K n I L P ls st := by
  intro p e s m args below meth c H locs la hC hw hH hS hL
  exact lv_goto hC.1 hC.2.1 hd (hw_t_eq h0) (k p e s m args below meth c H locs la hC hw hH hS hL)
theorem hs_ifnull {off : Int} {v : Option Nat} (hd : decode cc pc = .ok (.ifnull off, 3)) (h0 : 0 ≤ (pc : Int) + off) (kt : v = none → hw_W l D z lw ini o cc nL ret d mc ms Q (hw_t pc off) kc ks K n I L P ls r) (kf : ¬ v = none → hw_W l D z lw ini o cc nL ret d mc ms Q (pc + 3) kc ks K n I L P ls r) : hw_W l D z lw ini o cc nL ret d mc ms Q pc kc ks K n I L P ls (va_rf v :: r) := by
  intro p e s m args below meth c H locs la hC hw hH hS hL
  cases v with
  | none => exact lv_ifnullN hC.1 hC.2.1 hd (hw_t_eq h0) (kt rfl p e s m args below meth c H locs la hC hw hH hS hL)
  | some x => exact lv_ifnull hC.1 hC.2.1 hd (kf (fun q => by cases q) p e s m args below meth c H locs la hC hw hH hS hL)
theorem hs_ifnonnull {off : Int} {v : Option Nat} (hd : decode cc pc = .ok (.ifnonnull off, 3)) (h0 : 0 ≤ (pc : Int) + off) (kt : ¬ v = none → hw_W l D z lw ini o cc nL ret d mc ms Q (hw_t pc off) kc ks K n I L P ls r) (kf : v = none → hw_W l D z lw ini o cc nL ret d mc ms Q (pc + 3) kc ks K n I L P ls r) : hw_W l D z lw ini o cc nL ret d mc ms Q pc kc ks K n I L P ls (va_rf v :: r) := by
  intro p e s m args below meth c H locs la hC hw hH hS hL
  cases v with
  | none => exact lv_ifnonnullN hC.1 hC.2.1 hd (kf rfl p e s m args below meth c H locs la hC hw hH hS hL)
  | some x => exact lv_ifnonnull hC.1 hC.2.1 hd (hw_t_eq h0) (kt (fun q => by cases q) p e s m args below meth c H locs la hC hw hH hS hL)
theorem hs_getfield {i a t q : Nat} (hd : decode cc pc = .ok (.getfield i, 3)) (h0 : hw_f o i = some (t, q)) (h1 : K a = some (.inl t)) (k : hw_W l D z lw ini o cc nL ret d mc ms Q (pc + 3) kc ks K n I L P ls (hw_sv I L P (hw_ty t q) a q :: r)) : hw_W l D z lw ini o cc nL ret d mc ms Q pc kc ks K n I L P ls (.ref a :: r) := by
  intro p e s m args below meth c H locs la hC hw hH hS hL
  obtain ⟨hz, u, hu, cell, q1, q2, q3, q4⟩ := hH.2.2 a _ h1
  obtain ⟨u', hu', hk, hl⟩ := hw_f_ok h0
  cases hu.symm.trans hu'
  obtain ⟨hin, -, -, -, -, -⟩ := hw_cls t u hu
  obtain ⟨hSl, hfc, kC, hkC, hkind⟩ := hC.2.2.2.2.2.2.2.2.1.1 t _ hu
  obtain ⟨cf, kf, fi, f, hi, hsl⟩ := hSl q hk
  have hv : cell.slots[f.slot]? = some (hw_sv I L P (hw_ty t q) a q) := by rw [hsl]; exact q4 q hk
  have hst := (u_facts hfc hkC (u_lays hC.2.2.2.2.1 hin hk) hi).1
  rcases hl with hl | ⟨host, hl⟩
  · exact W.getf hC.1 hC.2.1 hC.2.2.2.1 (hC.2.2.2.2.1 _ hl) hi hst q1 (by rw [q3]; exact fun h => by cases h) hv rfl rfl hd (k p e s m args below meth c H locs la hC hw hH hS hL)
  · exact va_Wgetf hC.1 hC.2.1 hC.2.2.2.1 (va_Nw.use rfl (hC.2.2.2.2.2.2.2.2.2.1 _ hl)) hi hst q1 (by rw [q3]; exact fun h => by cases h) hv rfl rfl hd (k p e s m args below meth c H locs la hC hw hH hS hL)
theorem hs_iaload {i : Int32} {a N : Nat} (hd : decode cc pc = .ok (.iaload, 1)) (h0 : hw_al (K a) = some N) (h1 : vp_in i N) (k : hw_W l D z lw ini o cc nL ret d mc ms Q (pc + 1) kc ks K n I L P ls (.int (I a i.toNatClampNeg) :: r)) : hw_W l D z lw ini o cc nL ret d mc ms Q pc kc ks K n I L P ls (.int i :: .ref a :: r) := by
  intro p e s m args below meth c H locs la hC hw hH hS hL
  have hlt : i.toNatClampNeg < N := Nat.not_le.mp fun q => h1 (Or.inr q)
  rcases hw_al_cases h0 with h2 | h2
  · obtain ⟨hz, cA, g1, g2, g3⟩ := hH.2.2 a _ h2
    exact W.iald (v := .int (I a i.toNatClampNeg)) hC.1 hC.2.1 g3 (g1 _ _) (fun q => by cases q) (by rw [arrV_size]; exact h1) (by rw [arrV_read _ _ hlt]; rfl) rfl rfl hd (k p e s m args below meth c H locs la hC hw hH hS hL)
  · obtain ⟨hz, scr, g1, g2, g3, g4, g5⟩ := hH.2.2 a _ h2
    exact W.iald (v := .int (I a i.toNatClampNeg)) hC.1 hC.2.1 g1 g2 g3 (by rw [g4]; exact h1) (g5 _ hlt) rfl rfl hd (k p e s m args below meth c H locs la hC hw hH hS hL)
theorem hs_baload {i : Int32} {a N : Nat} (hd : decode cc pc = .ok (.baload, 1)) (h0 : K a = some (.inr (.boolean, N))) (h1 : vp_in i N) (k : hw_W l D z lw ini o cc nL ret d mc ms Q (pc + 1) kc ks K n I L P ls (.int (I a i.toNatClampNeg) :: r)) : hw_W l D z lw ini o cc nL ret d mc ms Q pc kc ks K n I L P ls (.int i :: .ref a :: r) := by
  intro p e s m args below meth c H locs la hC hw hH hS hL
  have hlt : i.toNatClampNeg < N := Nat.not_le.mp fun q => h1 (Or.inr q)
  obtain ⟨hz, cA, g1, g2, g3⟩ := hH.2.2 a _ h0
  exact W.zald (v := .int (I a i.toNatClampNeg)) hC.1 hC.2.1 g3 (g1 _ _) (fun q => by cases q) (by rw [arrV_size]; exact h1) (by rw [arrV_read _ _ hlt]; rfl) rfl rfl hd (k p e s m args below meth c H locs la hC hw hH hS hL)
theorem hs_laload {i : Int32} {a N : Nat} (hd : decode cc pc = .ok (.laload, 1)) (h0 : K a = some (.inr (.long, N))) (h1 : vp_in i N) (k : hw_W l D z lw ini o cc nL ret d mc ms Q (pc + 1) kc ks K n I L P ls (.long (L a i.toNatClampNeg) :: r)) : hw_W l D z lw ini o cc nL ret d mc ms Q pc kc ks K n I L P ls (.int i :: .ref a :: r) := by
  intro p e s m args below meth c H locs la hC hw hH hS hL
  have hlt : i.toNatClampNeg < N := Nat.not_le.mp fun q => h1 (Or.inr q)
  obtain ⟨hz, cA, g1, g2, g3⟩ := hH.2.2 a _ h0
  exact W.lald (v := .long (L a i.toNatClampNeg)) hC.1 hC.2.1 g3 (g1 _ _) (fun q => by cases q) (by rw [arrV_size]; exact h1) (by rw [arrV_read _ _ hlt]; rfl) rfl rfl hd (k p e s m args below meth c H locs la hC hw hH hS hL)
theorem hs_aaload {i : Int32} {a N : Nat} {C : String} (hd : decode cc pc = .ok (.aaload, 1)) (h0 : K a = some (.inr (.object C, N))) (h1 : vp_in i N) (k : hw_W l D z lw ini o cc nL ret d mc ms Q (pc + 1) kc ks K n I L P ls (va_rf (P a i.toNatClampNeg) :: r)) : hw_W l D z lw ini o cc nL ret d mc ms Q pc kc ks K n I L P ls (.int i :: .ref a :: r) := by
  intro p e s m args below meth c H locs la hC hw hH hS hL
  have hlt : i.toNatClampNeg < N := Nat.not_le.mp fun q => h1 (Or.inr q)
  obtain ⟨hz, cA, g1, g2, g3⟩ := hH.2.2 a _ h0
  exact W.aald (v := va_rf (P a i.toNatClampNeg)) (ty := .object C) hC.1 hC.2.1 g3 (g1 _ _) rfl (fun q => by cases q) (by rw [arrV_size]; exact h1) (by rw [arrV_read _ _ hlt]; rfl) rfl rfl hd (k p e s m args below meth c H locs la hC hw hH hS hL)
theorem hs_arraylength {a N : Nat} (hd : decode cc pc = .ok (.arraylength, 1)) (h0 : hw_an (K a) = some N) (k : hw_W l D z lw ini o cc nL ret d mc ms Q (pc + 1) kc ks K n I L P ls (.int (Int32.ofNat N) :: r)) : hw_W l D z lw ini o cc nL ret d mc ms Q pc kc ks K n I L P ls (.ref a :: r) := by
  intro p e s m args below meth c H locs la hC hw hH hS hL
  obtain ⟨ty, h2⟩ := hw_an_cases h0
  by_cases hty : ty = .float
  · subst hty
    obtain ⟨hz, scr, g1, g2, g3, g4, g5⟩ := hH.2.2 a _ h2
    exact W.alen (n := Int32.ofNat N) hC.1 hC.2.1 g1 g2 (by rw [g4] <;> rfl) rfl rfl hd (k p e s m args below meth c H locs la hC hw hH hS hL)
  · have h3 := hH.2.2 a _ h2
    rw [hw_cell_arr hty] at h3
    obtain ⟨hz, cA, g1, g2, g3⟩ := h3
    exact W.alen (n := Int32.ofNat N) hC.1 hC.2.1 g3 (g1 _ _) (by rw [arrV_size] <;> rfl) rfl rfl hd (k p e s m args below meth c H locs la hC hw hH hS hL)
theorem hs_iastore {x : Int32} {i : Int32} {a N : Nat} (hd : decode cc pc = .ok (.iastore, 1)) (h0 : K a = some (.inr (.int, N))) (h1 : vp_in i N) (k : hw_W l D z lw ini o cc nL ret d mc ms Q (pc + 1) kc ks K n (va_up I a (va_up (I a) i.toNatClampNeg x)) L P ls r) : hw_W l D z lw ini o cc nL ret d mc ms Q pc kc ks K n I L P ls (.int x :: .int i :: .ref a :: r) := by
  intro p e s m args below meth c H locs la hC hw hH hS hL
  obtain ⟨hz, cA, g1, g2, g3⟩ := hH.2.2 a _ h0
  refine W.iast hC.1 hC.2.1 g3 (g1 _ _) (fun q => by cases q) (by rw [arrV_size]; exact h1) rfl rfl hd fun H1 e1 z1 oq => ?_
  refine k p e s m args below meth c H1 _ la hC hw (hw_H_put hH z1 oq (fun y hy => hw_upn hy) (fun _ _ => rfl) (fun _ _ => rfl) (fun kd hkd => ?_)) (hS.put z1 oq hz) hL
  cases h0.symm.trans hkd
  refine ⟨hz, cA, g1, g2, ?_⟩
  rw [e1, arrV_store]
  congr 2
  funext j
  by_cases hj : j = i.toNatClampNeg
  · subst hj; simp [updV, hw_sv, va_up]
  · simp [updV, hw_sv, va_up, hj]
theorem hs_lastore {x : Int64} {i : Int32} {a N : Nat} (hd : decode cc pc = .ok (.lastore, 1)) (h0 : K a = some (.inr (.long, N))) (h1 : vp_in i N) (k : hw_W l D z lw ini o cc nL ret d mc ms Q (pc + 1) kc ks K n I (va_up L a (va_up (L a) i.toNatClampNeg x)) P ls r) : hw_W l D z lw ini o cc nL ret d mc ms Q pc kc ks K n I L P ls (.long x :: .int i :: .ref a :: r) := by
  intro p e s m args below meth c H locs la hC hw hH hS hL
  obtain ⟨hz, cA, g1, g2, g3⟩ := hH.2.2 a _ h0
  refine W.last hC.1 hC.2.1 g3 (g1 _ _) (fun q => by cases q) (by rw [arrV_size]; exact h1) rfl rfl hd fun H1 e1 z1 oq => ?_
  refine k p e s m args below meth c H1 _ la hC hw (hw_H_put hH z1 oq (fun _ _ => rfl) (fun y hy => hw_upn hy) (fun _ _ => rfl) (fun kd hkd => ?_)) (hS.put z1 oq hz) hL
  cases h0.symm.trans hkd
  refine ⟨hz, cA, g1, g2, ?_⟩
  rw [e1, arrV_store]
  congr 2
  funext j
  by_cases hj : j = i.toNatClampNeg
  · subst hj; simp [updV, hw_sv, va_up]
  · simp [updV, hw_sv, va_up, hj]
theorem hs_bastore {x : Int32} {i : Int32} {a N : Nat} (hd : decode cc pc = .ok (.bastore, 1)) (h0 : K a = some (.inr (.boolean, N))) (h1 : vp_in i N) (h2 : hw_b01 x) (k : hw_W l D z lw ini o cc nL ret d mc ms Q (pc + 1) kc ks K n (va_up I a (va_up (I a) i.toNatClampNeg x)) L P ls r) : hw_W l D z lw ini o cc nL ret d mc ms Q pc kc ks K n I L P ls (.int x :: .int i :: .ref a :: r) := by
  intro p e s m args below meth c H locs la hC hw hH hS hL
  obtain ⟨hz, cA, g1, g2, g3⟩ := hH.2.2 a _ h0
  refine W.zast hC.1 hC.2.1 g3 (g1 _ _) (fun q => by cases q) (by rw [arrV_size]; exact h1) rfl rfl hd fun H1 e1 z1 oq => ?_
  refine k p e s m args below meth c H1 _ la hC hw (hw_H_put hH z1 oq (fun y hy => hw_upn hy) (fun _ _ => rfl) (fun _ _ => rfl) (fun kd hkd => ?_)) (hS.put z1 oq hz) hL
  cases h0.symm.trans hkd
  refine ⟨hz, cA, g1, g2, ?_⟩
  rw [e1, arrV_store]
  congr 2
  funext j
  have hx : narrow .boolean (.int x) = .int x := by rcases h2 with h2 | h2 <;> subst h2 <;> rfl
  by_cases hj : j = i.toNatClampNeg
  · subst hj; simp [updV, hw_sv, va_up, hx]
  · simp [updV, hw_sv, va_up, hj]
theorem hs_aastore {x : Nat} {i : Int32} {a N t : Nat} (hd : decode cc pc = .ok (.aastore, 1)) (h0 : K a = some (.inr (.object (hw_nm t), N))) (hx : K x = some (.inl t)) (h1 : vp_in i N) (k : hw_W l D z lw ini o cc nL ret d mc ms Q (pc + 1) kc ks K n I L (va_up P a (va_up (P a) i.toNatClampNeg (some x))) ls r) : hw_W l D z lw ini o cc nL ret d mc ms Q pc kc ks K n I L P ls (.ref x :: .int i :: .ref a :: r) := by
  intro p e s m args below meth c H locs la hC hw hH hS hL
  have hlt : i.toNatClampNeg < N := Nat.not_le.mp fun q => h1 (Or.inr q)
  have hnn : ¬ i < 0 := fun q => h1 (Or.inl q)
  obtain ⟨hz, cA, g1, g2, g3⟩ := hH.2.2 a _ h0
  obtain ⟨hzx, u, hu, cellV, e1, e2, e3, -⟩ := hH.2.2 x _ hx
  have hcls := (hC.2.2.2.2.2.2.2.2.1.1 t u hu).2
  have hun : u.1 = hw_nm t := (hw_cls t u hu).2.2.2.2.2
  have g2' := g2
  obtain ⟨kA, comp, k1, k2, k3, -⟩ := g2'
  have hcomp : comp = D.1 t := Option.some.inj (k3.symm.trans (by rw [← hun]; exact hcls.1))
  subst hcomp
  obtain ⟨kC, hkC, -⟩ := hcls.2
  refine W.aast hC.1 hC.2.1 g3 (fun q h => by cases h) (fun h => by cases h) k1 k2 rfl hkC ⟨hnn, by rw [arrV_size]; exact hlt⟩ e1 (fun q h => by rw [e3] at h; cases h) (by rw [e2]; exact hkC) (by rw [e2]; exact va_assign hcls) rfl rfl hd fun H1 e1 z1 oq => ?_
  refine k p e s m args below meth c H1 _ la hC hw (hw_H_put hH z1 oq (fun _ _ => rfl) (fun _ _ => rfl) (fun y hy => hw_upn hy) (fun kd hkd => ?_)) (hS.put z1 oq hz) hL
  cases h0.symm.trans hkd
  refine ⟨hz, cA, g1, g2, ?_⟩
  rw [e1, arrV_store]
  congr 2
  funext j
  by_cases hj : j = i.toNatClampNeg
  · subst hj; simp [updV, hw_sv, va_up, va_rf]
  · simp [updV, hw_sv, va_up, hj]
theorem hs_putfield {i a t q : Nat} {v : Value} (hd : decode cc pc = .ok (.putfield i, 3)) (h0 : hw_f o i = some (t, q)) (h1 : K a = some (.inl t)) (h2 : hw_pok ini o t q) (k : hw_put (hw_ty t q) v a q I L P (fun I L P => hw_W l D z lw ini o cc nL ret d mc ms Q (pc + 3) kc ks K n I L P ls r)) : hw_W l D z lw ini o cc nL ret d mc ms Q pc kc ks K n I L P ls (v :: .ref a :: r) := by
  intro p e s m args below meth c H locs la hC hw hH hS hL
  obtain ⟨hz, u, hu, cell, q1, q2, q3, q4⟩ := hH.2.2 a _ h1
  obtain ⟨u', hu', hk, hl⟩ := hw_f_ok h0
  cases hu.symm.trans hu'
  obtain ⟨hin, hty, hnm, -, -, hname⟩ := hw_cls t u hu
  have hap : ∀ x y, x < u.2.2 → y < u.2.2 → x ≠ y → (D.2 t) x ≠ (D.2 t) y := va_apart (own := hw_nm o) hC.2.2.2.2.1 hin (hw_ty t) hty hnm hC.2.2.2.2.2.2.2.2.1 hu
  obtain ⟨hSl, hfc, kC, hkC, hkind⟩ := hC.2.2.2.2.2.2.2.2.1.1 t _ hu
  obtain ⟨cf, kf, fi, f, hi, hsl⟩ := hSl q hk
  have hst := (u_facts hfc hkC (u_lays hC.2.2.2.2.1 hin hk) hi).1
  obtain ⟨hnar, hfit, I1, L1, P1, hI, hL1, hP, hval, kk⟩ := hw_put_spec k
  have hlay := u_lays hC.2.2.2.2.1 hin hk
  obtain ⟨hn2, hf2⟩ := u_fits hfc hkC hkind hlay hi (hty q hk) hnar hfit
  have hfinal : hasFlag f.accessFlags Acc.final = false ∨ (m.cls = cf ∧ meth.name = "<init>") := by
    have hly := hC.2.2.2.2.1 _ (hin _ (u_in_lay hk))
    unfold u_lay at hly
    by_cases hfl : (u.2.1 q).2.2.2 = true
    · rw [if_pos hfl] at hly
      rcases h2 with h2 | ⟨h2, h3⟩
      · unfold hw_fin at h2
        rw [hu] at h2
        simp only [Option.map_some, Option.getD_some] at h2
        rw [hfl] at h2
        cases h2
      · refine Or.inr ⟨?_, hC.2.2.2.2.2.2.2.1 h2⟩
        subst h3
        exact hw_cf_eq hu hk hi hC.2.2.2.1 hly
    · rw [if_neg hfl] at hly
      exact Or.inl (u_store hfc hkC hkind hly hi (hty q hk) hnar hfit).1
  have hlt : f.slot < cell.slots.size := by rw [hsl]; exact k2_hasslot (q4 q hk)
  have fin : ∀ H1 : Heap, H1[a]? = some (cell.setSlot f.slot v) → H1.size = H.size → (∀ x, x ≠ a → H1[x]? = H[x]?) → W p l e (hw_rm d mc ms) s m args below meth c H1 (locs ++ [⟨a, f.slot⟩]) kc ks (MQ below (hw_Q D z Q) args s mc ms (fun q => lw = false ∧ z ≤ q)) (F0 m (pc + 3) la r) := by
    intro H1 e1 z1 oq
    refine kk p e s m args below meth c H1 _ la hC hw (hw_H_put hH z1 oq hI hL1 hP (fun kd hkd => ?_)) (hS.put z1 oq hz) hL
    cases h1.symm.trans hkd
    rw [hsl] at e1
    exact ⟨hz, u, hu, t_OB.to (V := updV (fun j => hw_sv I L P (hw_ty t j) a j) q v) ⟨_, e1, q2, q3, t_set q4 hap hk v⟩ (fun j _ => (hval (hw_ty t j) j (fun e => by rw [e])).symm)⟩
  have ha : a < H.size := (Array.getElem?_eq_some_iff.mp q1).1
  rcases hl with hl | ⟨host, hl⟩
  · refine W.putf hC.1 hC.2.1 hC.2.2.2.1 (hC.2.2.2.2.1 _ hl) hi hst hfinal q1 (by rw [q3]; exact fun h => by cases h) hlt hn2 (by rw [q2, q3]; exact hf2) rfl rfl hd ?_
    exact fin _ (by simp [Array.getElem?_setIfInBounds, ha]) (by simp) (fun x hx => by simp [Array.getElem?_setIfInBounds, Ne.symm hx])
  · refine va_Wputf hC.1 hC.2.1 hC.2.2.2.1 (va_Nw.use rfl (hC.2.2.2.2.2.2.2.2.2.1 _ hl)) hi hst hfinal q1 (by rw [q3]; exact fun h => by cases h) hlt hn2 (by rw [q2, q3]; exact hf2) rfl rfl hd ?_
    exact fin _ (by simp [Array.getElem?_setIfInBounds, ha]) (by simp) (fun x hx => by simp [Array.getElem?_setIfInBounds, Ne.symm hx])
theorem hs_newarray {t : ArrayType} {i : Int32} {ty : FieldType} {b : Nat} (hd : decode cc pc = .ok (.newarray t, 2)) (h0 : hw_aty t = some (ty, b)) (h1 : ¬ i < 0) (h2 : i.toNatClampNeg ≤ 65536) (h3 : kc + 1 ≤ mc) (h4 : ks + i.toNatClampNeg ≤ ms) (k : hw_W l D z lw ini o cc nL ret d mc ms Q (pc + 2) (kc + 1) (ks + i.toNatClampNeg) (va_up K n (some (.inr (ty, i.toNatClampNeg)))) (n + 1) (va_up I n (fun _ => 0)) (va_up L n (fun _ => 0)) (va_up P n (fun _ => none)) ls (.ref n :: r)) : hw_W l D z lw ini o cc nL ret d mc ms Q pc kc ks K n I L P ls (.int i :: r) := by
  intro p e s m args below meth c H locs la hC hw hH hS hL
  obtain ⟨e1, e2, e3, e4, e5⟩ := hw_aty_spec h0
  refine va_newaK hC.1 hC.2.1 (hC.2.2.2.2.1 _ e2) rfl hd rfl h1 rfl (Nat.le_trans (Nat.mul_le_mul h2 e3) (by decide)) h3 h4 hH.1 fun H1 cA g1 z1 o1 hAr hNm => ?_
  have hzn : z ≤ n := hH.2.1
  refine k p e s m args below meth c H1 _ la hC hw (hw_H_push hH z1 o1 (fun y hy => hw_upn hy) (fun y hy => hw_upn hy) (fun y hy => hw_upn hy) ?_) ⟨by rw [z1]; have := hS.1; have := hH.1; omega, fun x q1 q2 => (o1 x (by have := hS.1; have := hH.1; omega)).trans (hS.2.1 x q1 q2), hS.2.2⟩ hL
  rw [hw_cell_arr e5]
  refine ⟨hzn, cA, e1 ▸ hAr, e4 s cA hNm, ?_⟩
  rw [g1]
  congr 2
  funext j
  exact hw_def_sv h0 _ _ _ _ _
theorem hs_new {i t : Nat} {q : vw_C} (hd : decode cc pc = .ok (.new i, 3)) (h0 : hw_k o i = some t) (h1 : vwCl[t]? = some q) (h3 : kc + 1 ≤ mc) (h4 : ks + q.2.2 ≤ ms) (k : hw_W l D z lw ini o cc nL ret d mc ms Q (pc + 3) (kc + 1) (ks + q.2.2) (va_up K n (some (.inl t))) (n + 1) (va_up I n (fun _ => 0)) (va_up L n (fun _ => 0)) (va_up P n (fun _ => none)) ls (.ref n :: st)) : hw_W l D z lw ini o cc nL ret d mc ms Q pc kc ks K n I L P ls st := by
  intro p e s m args below meth c H locs la hC hw hH hS hL
  obtain ⟨hin, hty, hnm, hins, hini, hname⟩ := hw_cls t q h1
  have hKn := hC.2.2.2.2.2.2.2.2.1.1 t _ h1
  have hcl : (Cond.classLink (hw_nm o) i q.1).before args s = true := by rw [hname]; exact hC.2.2.2.2.1 _ (hw_k_ok h0)
  refine W.newcK hC.1 hC.2.1 hC.2.2.2.1 hcl (hC.2.2.2.2.1 _ hins) (hC.2.2.2.2.1 _ hini) rfl hd h3 h4 hKn.2.1 hH.1 fun H1 kC hkC g1 z1 o1 => ?_
  have hzn : z ≤ n := hH.2.1
  refine k p e s m args below meth c H1 _ la hC hw (hw_H_push hH z1 o1 (fun y hy => hw_upn hy) (fun y hy => hw_upn hy) (fun y hy => hw_upn hy) ?_) ⟨by rw [z1]; have := hS.1; have := hH.1; omega, fun x q1 q2 => (o1 x (by have := hS.1; have := hH.1; omega)).trans (hS.2.1 x q1 q2), hS.2.2⟩ hL
  exact ⟨hzn, q, h1, (u_born (hw_ty t) hC.2.2.2.2.1 hin hKn hkC g1 hty).to (fun j hj => hw_def_fld h1 hj _ _ _ _)⟩
theorem hs_anewarray {i t : Nat} {j : Int32} (hd : decode cc pc = .ok (.anewarray i, 3)) (h0 : hw_k o i = some t) (h1 : t = 0) (h5 : ¬ j < 0) (h2 : j.toNatClampNeg ≤ 65536) (h3 : kc + 1 ≤ mc) (h4 : ks + j.toNatClampNeg ≤ ms) (k : hw_W l D z lw ini o cc nL ret d mc ms Q (pc + 3) (kc + 1) (ks + j.toNatClampNeg) (va_up K n (some (.inr (.object (hw_nm t), j.toNatClampNeg)))) (n + 1) (va_up I n (fun _ => 0)) (va_up L n (fun _ => 0)) (va_up P n (fun _ => none)) ls (.ref n :: r)) : hw_W l D z lw ini o cc nL ret d mc ms Q pc kc ks K n I L P ls (.int j :: r) := by
  intro p e s m args below meth c H locs la hC hw hH hS hL
  have hAO : va_AO (hw_nm t) s := by
    subst h1
    exact hC.2.2.2.2.2.2.2.2.2.2
  refine W.anew hC.1 hC.2.1 hC.2.2.2.1 (hC.2.2.2.2.1 _ (hw_k_ok h0)) (va_AO.use hAO) rfl hd rfl h5 (Nat.le_trans (Nat.mul_le_mul_right 4 h2) (by decide)) h3 h4 fun cA kA comp f1 f2 f3 f4 => ?_
  have hzn : z ≤ n := hH.2.1
  have hsz := hH.1
  generalize hH1 : H.push ({ cls := cA, slots := Array.replicate j.toNatClampNeg .null, vm := .none } : Cell) = H1
  have z1 : H1.size = n + 1 := by rw [← hH1, Array.size_push, hsz]
  have g1 : H1[n]? = some (arrV cA j.toNatClampNeg (fun _ => .null)) := by rw [← hH1, ← hsz, Array.getElem?_push_size, ← arrV_new]
  have o1 : ∀ q : Nat, q < n → H1[q]? = H[q]? := fun q hq => by rw [← hH1, Array.getElem?_push, if_neg (Nat.ne_of_lt (by omega))]
  rw [hsz]
  refine k p e s m args below meth c H1 _ la hC hw (hw_H_push hH z1 o1 (fun y hy => hw_upn hy) (fun y hy => hw_upn hy) (fun y hy => hw_upn hy) ?_) ⟨by rw [z1]; have := hS.1; have := hH.1; omega, fun x q1 q2 => (o1 x (by have := hS.1; have := hH.1; omega)).trans (hS.2.1 x q1 q2), hS.2.2⟩ hL
  refine ⟨hzn, cA, fun N w => ⟨(fun k h => by cases h), kA, f2, comp, f3⟩, ⟨kA, comp, f2, f3, f4, f1⟩, ?_⟩
  rw [g1]
  congr 2
  funext j
  simp [hw_sv, va_up, va_rf]
theorem hs_ireturn {v : Int32} (hd : decode cc pc = .ok (.ireturn, 1)) (h0 : hw_rok ret v) (h1 : kc ≤ mc) (h2 : ks ≤ ms) (h3 : Q (some (.int v)) (K, n, I, L, P)) : hw_W l D z lw ini o cc nL ret d mc ms Q pc kc ks K n I L P ls [.int v] := by
  intro p e s m args below meth c H locs la hC hw hH hS hL
  have key : ∀ locs' : List Loc, (∀ q ∈ locs', lw = false ∧ z ≤ q.base) → W p l e (hw_rm d mc ms) s m args below meth c H locs' mc ms (MQ below (hw_Q D z Q) args s mc ms (fun q => lw = false ∧ z ≤ q)) (F0 m pc la [.int v]) := by
    intro locs' hf
    obtain ⟨ty, hr, hn⟩ := hw_rok_spec h0
    exact W.zret hC.1 hC.2.1 (hC.2.2.2.2.2.1.trans hr) hn (fun t ht hv => ⟨_, _, rfl, h3, by rw [ht]; exact hw_H_moved hv.alike hH, hS.F ht⟩) hf hd hC.2.2.2.2.2.2.1
  refine W.widen h1 h2 ?_
  cases lw with
  | false => exact key locs (fun q hq => ⟨rfl, hS.2.2 q hq⟩)
  | true => exact va_forget (fun q hq => Nat.le_trans (hw rfl) (hS.2.2 q hq)) (key [] (fun q hq => by cases hq))
theorem hs_lreturn {v : Int64} (hd : decode cc pc = .ok (.lreturn, 1)) (h0 : ret = some .long) (h1 : kc ≤ mc) (h2 : ks ≤ ms) (h3 : Q (some (.long v)) (K, n, I, L, P)) : hw_W l D z lw ini o cc nL ret d mc ms Q pc kc ks K n I L P ls [.long v] := by
  intro p e s m args below meth c H locs la hC hw hH hS hL
  have key : ∀ locs' : List Loc, (∀ q ∈ locs', lw = false ∧ z ≤ q.base) → W p l e (hw_rm d mc ms) s m args below meth c H locs' mc ms (MQ below (hw_Q D z Q) args s mc ms (fun q => lw = false ∧ z ≤ q)) (F0 m pc la [.long v]) := by
    intro locs' hf
    exact W.lret hC.1 hC.2.1 (hC.2.2.2.2.2.1.trans h0) (fun t ht hv => ⟨_, _, rfl, h3, by rw [ht]; exact hw_H_moved hv.alike hH, hS.F ht⟩) hf hd hC.2.2.2.2.2.2.1
  refine W.widen h1 h2 ?_
  cases lw with
  | false => exact key locs (fun q hq => ⟨rfl, hS.2.2 q hq⟩)
  | true => exact va_forget (fun q hq => Nat.le_trans (hw rfl) (hS.2.2 q hq)) (key [] (fun q hq => by cases hq))
theorem hs_areturn {v : Option Nat} (hd : decode cc pc = .ok (.areturn, 1)) (h0 : hw_rob ret = true) (h1 : kc ≤ mc) (h2 : ks ≤ ms) (h3 : Q (some (va_rf v)) (K, n, I, L, P)) : hw_W l D z lw ini o cc nL ret d mc ms Q pc kc ks K n I L P ls [va_rf v] := by
  intro p e s m args below meth c H locs la hC hw hH hS hL
  have key : ∀ locs' : List Loc, (∀ q ∈ locs', lw = false ∧ z ≤ q.base) → W p l e (hw_rm d mc ms) s m args below meth c H locs' mc ms (MQ below (hw_Q D z Q) args s mc ms (fun q => lw = false ∧ z ≤ q)) (F0 m pc la [va_rf v]) := by
    intro locs' hf
    obtain ⟨C, hr⟩ := hw_rob_spec h0
    exact W.aret hC.1 hC.2.1 (hC.2.2.2.2.2.1.trans hr) (Or.inl ⟨C, rfl⟩) (hw_rf_or v) (fun t ht hv => ⟨_, _, rfl, h3, by rw [ht]; exact hw_H_moved hv.alike hH, hS.F ht⟩) hf hd hC.2.2.2.2.2.2.1
  refine W.widen h1 h2 ?_
  cases lw with
  | false => exact key locs (fun q hq => ⟨rfl, hS.2.2 q hq⟩)
  | true => exact va_forget (fun q hq => Nat.le_trans (hw rfl) (hS.2.2 q hq)) (key [] (fun q hq => by cases hq))
theorem hs_return_  (hd : decode cc pc = .ok (.return_, 1)) (h0 : ret = none) (h1 : kc ≤ mc) (h2 : ks ≤ ms) (h3 : Q none (K, n, I, L, P)) : hw_W l D z lw ini o cc nL ret d mc ms Q pc kc ks K n I L P ls [] := by
  intro p e s m args below meth c H locs la hC hw hH hS hL
  have key : ∀ locs' : List Loc, (∀ q ∈ locs', lw = false ∧ z ≤ q.base) → W p l e (hw_rm d mc ms) s m args below meth c H locs' mc ms (MQ below (hw_Q D z Q) args s mc ms (fun q => lw = false ∧ z ≤ q)) (F0 m pc la []) := by
    intro locs' hf
    exact W.vret hC.1 hC.2.1 (hC.2.2.2.2.2.1.trans h0) (fun t ht hv => ⟨_, _, rfl, h3, by rw [ht]; exact hw_H_moved hv.alike hH, hS.F ht⟩) hf hd hC.2.2.2.2.2.2.1
  refine W.widen h1 h2 ?_
  cases lw with
  | false => exact key locs (fun q hq => ⟨rfl, hS.2.2 q hq⟩)
  | true => exact va_forget (fun q hq => Nat.le_trans (hw rfl) (hS.2.2 q hq)) (key [] (fun q hq => by cases hq))
end
def hw_e (l : Launch) (D : va_G) (z : Nat) (lw ini : Bool) (o : Nat) (cc : ByteArray) (nL : Nat) (ret : Option FieldType) (d mc ms : Nat) (Q : Option Value → hw_S → Prop) (k : hw_KK) (pc kc ks : Nat) (K : hw_KM) (n : Nat) (I : hw_IM) (L : hw_LM) (P : hw_PM) (ls : List (Option Value)) (st : List Value) (i : Instr) (len : Nat) : Prop := match i with
  | .iconst v => len = 1 ∧ k (pc + 1) kc ks K n I L P ls (.int (Int32.ofInt v) :: st)
  | .bipush v => len = 2 ∧ -128 ≤ v ∧ v ≤ 127 ∧ k (pc + 2) kc ks K n I L P ls (.int (Int32.ofInt v) :: st)
  | .sipush v => len = 3 ∧ -32768 ≤ v ∧ v ≤ 32767 ∧ k (pc + 3) kc ks K n I L P ls (.int (Int32.ofInt v) :: st)
  | .lconst v => len = 1 ∧ k (pc + 1) kc ks K n I L P ls (.long (Int64.ofNat (v : Nat)) :: st)
  | .aconst_null => len = 1 ∧ k (pc + 1) kc ks K n I L P ls (va_rf none :: st)
  | .iadd => len = 1 ∧ ∃ x y r, st = .int y :: .int x :: r ∧ k (pc + 1) kc ks K n I L P ls (.int (x + y) :: r)
  | .isub => len = 1 ∧ ∃ x y r, st = .int y :: .int x :: r ∧ k (pc + 1) kc ks K n I L P ls (.int (x - y) :: r)
  | .imul => len = 1 ∧ ∃ x y r, st = .int y :: .int x :: r ∧ k (pc + 1) kc ks K n I L P ls (.int (x * y) :: r)
  | .iand => len = 1 ∧ ∃ x y r, st = .int y :: .int x :: r ∧ k (pc + 1) kc ks K n I L P ls (.int (x &&& y) :: r)
  | .ior => len = 1 ∧ ∃ x y r, st = .int y :: .int x :: r ∧ k (pc + 1) kc ks K n I L P ls (.int (x ||| y) :: r)
  | .ixor => len = 1 ∧ ∃ x y r, st = .int y :: .int x :: r ∧ k (pc + 1) kc ks K n I L P ls (.int (x ^^^ y) :: r)
  | .ishl => len = 1 ∧ ∃ x y r, st = .int y :: .int x :: r ∧ k (pc + 1) kc ks K n I L P ls (.int (x <<< (y &&& 31)) :: r)
  | .ishr => len = 1 ∧ ∃ x y r, st = .int y :: .int x :: r ∧ k (pc + 1) kc ks K n I L P ls (.int (x >>> (y &&& 31)) :: r)
  | .iushr => len = 1 ∧ ∃ x y r, st = .int y :: .int x :: r ∧ k (pc + 1) kc ks K n I L P ls (.int (x.toUInt32 >>> (y.toUInt32 &&& Int32.toUInt32 31)).toInt32 :: r)
  | .idiv => len = 1 ∧ ∃ x y r, st = .int y :: .int x :: r ∧ ¬ y = 0 ∧ k (pc + 1) kc ks K n I L P ls (.int (x / y) :: r)
  | .irem => len = 1 ∧ ∃ x y r, st = .int y :: .int x :: r ∧ ¬ y = 0 ∧ k (pc + 1) kc ks K n I L P ls (.int (x - x / y * y) :: r)
  | .ineg => len = 1 ∧ ∃ x r, st = .int x :: r ∧ k (pc + 1) kc ks K n I L P ls (.int (-x) :: r)
  | .i2l => len = 1 ∧ ∃ x r, st = .int x :: r ∧ k (pc + 1) kc ks K n I L P ls (.long x.toInt64 :: r)
  | .l2i => len = 1 ∧ ∃ x r, st = .long x :: r ∧ k (pc + 1) kc ks K n I L P ls (.int x.toInt32 :: r)
  | .i2b => len = 1 ∧ ∃ x r, st = .int x :: r ∧ k (pc + 1) kc ks K n I L P ls (.int x.toInt8.toInt32 :: r)
  | .ladd => len = 1 ∧ ∃ x y r, st = .long y :: .long x :: r ∧ k (pc + 1) kc ks K n I L P ls (.long (x + y) :: r)
  | .lmul => len = 1 ∧ ∃ x y r, st = .long y :: .long x :: r ∧ k (pc + 1) kc ks K n I L P ls (.long (x * y) :: r)
  | .land => len = 1 ∧ ∃ x y r, st = .long y :: .long x :: r ∧ k (pc + 1) kc ks K n I L P ls (.long (x &&& y) :: r)
  | .lor => len = 1 ∧ ∃ x y r, st = .long y :: .long x :: r ∧ k (pc + 1) kc ks K n I L P ls (.long (x ||| y) :: r)
  | .lshl => len = 1 ∧ ∃ x y r, st = .int y :: .long x :: r ∧ k (pc + 1) kc ks K n I L P ls (.long (x <<< (y.toInt64 &&& 63)) :: r)
  | .lcmp => len = 1 ∧ ∃ x y r, st = .long y :: .long x :: r ∧ k (pc + 1) kc ks K n I L P ls (.int (lg_cmp x y) :: r)
  | .dup => len = 1 ∧ ∃ v r, st = v :: r ∧ v.category = 1 ∧ k (pc + 1) kc ks K n I L P ls (v :: v :: r)
  | .dup2 => len = 1 ∧ ∃ v w r, st = v :: w :: r ∧ v.category = 1 ∧ w.category = 1 ∧ k (pc + 1) kc ks K n I L P ls (v :: w :: v :: w :: r)
  | .ldc i => len = 2 ∧ ∃ v, hw_c o i = some v ∧ k (pc + 2) kc ks K n I L P ls (.int v :: st)
  | .ldc_w i => len = 3 ∧ ∃ v, hw_c o i = some v ∧ k (pc + 3) kc ks K n I L P ls (.int v :: st)
  | .ldc2_w i => len = 3 ∧ ∃ v, hw_cj o i = some v ∧ k (pc + 3) kc ks K n I L P ls (.long v :: st)
  | .iload_n j => len = 1 ∧ ∃ v, ls[(j : Nat)]? = some (some (.int v)) ∧ k (pc + 1) kc ks K n I L P ls (.int v :: st)
  | .iload j => len = 2 ∧ ∃ v, ls[j]? = some (some (.int v)) ∧ k (pc + 2) kc ks K n I L P ls (.int v :: st)
  | .lload_n j => len = 1 ∧ ∃ v, ls[(j : Nat)]? = some (some (.long v)) ∧ k (pc + 1) kc ks K n I L P ls (.long v :: st)
  | .lload j => len = 2 ∧ ∃ v, ls[j]? = some (some (.long v)) ∧ k (pc + 2) kc ks K n I L P ls (.long v :: st)
  | .aload_n j => len = 1 ∧ ∃ v, ls[(j : Nat)]? = some (some (va_rf v)) ∧ k (pc + 1) kc ks K n I L P ls (va_rf v :: st)
  | .aload j => len = 2 ∧ ∃ v, ls[j]? = some (some (va_rf v)) ∧ k (pc + 2) kc ks K n I L P ls (va_rf v :: st)
  | .istore_n j => len = 1 ∧ ∃ v r, st = .int v :: r ∧ (j : Nat) < nL ∧ k (pc + 1) kc ks K n I L P (hw_st ls (j : Nat) (.int v)) r
  | .istore j => len = 2 ∧ ∃ v r, st = .int v :: r ∧ j < nL ∧ k (pc + 2) kc ks K n I L P (hw_st ls j (.int v)) r
  | .astore_n j => len = 1 ∧ ∃ v r, st = va_rf v :: r ∧ (j : Nat) < nL ∧ k (pc + 1) kc ks K n I L P (hw_st ls (j : Nat) (va_rf v)) r
  | .astore j => len = 2 ∧ ∃ v r, st = va_rf v :: r ∧ j < nL ∧ k (pc + 2) kc ks K n I L P (hw_st ls j (va_rf v)) r
  | .lstore_n j => len = 1 ∧ ∃ v r, st = .long v :: r ∧ (j : Nat) + 1 < nL ∧ k (pc + 1) kc ks K n I L P (hw_st2 ls (j : Nat) (.long v)) r
  | .iinc j w => len = 3 ∧ ∃ v, ls[j]? = some (some (.int v)) ∧ j < nL ∧ k (pc + 3) kc ks K n I L P (hw_st ls j (.int (v + Int32.ofInt w))) st
  | .ifCond .eq off => len = 3 ∧ ∃ x r, st = .int x :: r ∧ 0 ≤ (pc : Int) + off ∧ (x = 0 → k (hw_t pc off) kc ks K n I L P ls r) ∧ (¬ x = 0 → k (pc + 3) kc ks K n I L P ls r)
  | .ifCond .ne off => len = 3 ∧ ∃ x r, st = .int x :: r ∧ 0 ≤ (pc : Int) + off ∧ (¬ x = 0 → k (hw_t pc off) kc ks K n I L P ls r) ∧ (x = 0 → k (pc + 3) kc ks K n I L P ls r)
  | .ifCond .lt off => len = 3 ∧ ∃ x r, st = .int x :: r ∧ 0 ≤ (pc : Int) + off ∧ (x < 0 → k (hw_t pc off) kc ks K n I L P ls r) ∧ (¬ x < 0 → k (pc + 3) kc ks K n I L P ls r)
  | .ifCond .ge off => len = 3 ∧ ∃ x r, st = .int x :: r ∧ 0 ≤ (pc : Int) + off ∧ (0 ≤ x → k (hw_t pc off) kc ks K n I L P ls r) ∧ (¬ 0 ≤ x → k (pc + 3) kc ks K n I L P ls r)
  | .ifCond .gt off => len = 3 ∧ ∃ x r, st = .int x :: r ∧ 0 ≤ (pc : Int) + off ∧ (0 < x → k (hw_t pc off) kc ks K n I L P ls r) ∧ (¬ 0 < x → k (pc + 3) kc ks K n I L P ls r)
  | .ifCond .le off => len = 3 ∧ ∃ x r, st = .int x :: r ∧ 0 ≤ (pc : Int) + off ∧ (x ≤ 0 → k (hw_t pc off) kc ks K n I L P ls r) ∧ (¬ x ≤ 0 → k (pc + 3) kc ks K n I L P ls r)
  | .if_icmp .eq off => len = 3 ∧ ∃ x y r, st = .int y :: .int x :: r ∧ 0 ≤ (pc : Int) + off ∧ (x = y → k (hw_t pc off) kc ks K n I L P ls r) ∧ (¬ x = y → k (pc + 3) kc ks K n I L P ls r)
  | .if_icmp .ne off => len = 3 ∧ ∃ x y r, st = .int y :: .int x :: r ∧ 0 ≤ (pc : Int) + off ∧ (¬ x = y → k (hw_t pc off) kc ks K n I L P ls r) ∧ (x = y → k (pc + 3) kc ks K n I L P ls r)
  | .if_icmp .lt off => len = 3 ∧ ∃ x y r, st = .int y :: .int x :: r ∧ 0 ≤ (pc : Int) + off ∧ (x < y → k (hw_t pc off) kc ks K n I L P ls r) ∧ (¬ x < y → k (pc + 3) kc ks K n I L P ls r)
  | .if_icmp .ge off => len = 3 ∧ ∃ x y r, st = .int y :: .int x :: r ∧ 0 ≤ (pc : Int) + off ∧ (y ≤ x → k (hw_t pc off) kc ks K n I L P ls r) ∧ (¬ y ≤ x → k (pc + 3) kc ks K n I L P ls r)
  | .if_icmp .gt off => len = 3 ∧ ∃ x y r, st = .int y :: .int x :: r ∧ 0 ≤ (pc : Int) + off ∧ (y < x → k (hw_t pc off) kc ks K n I L P ls r) ∧ (¬ y < x → k (pc + 3) kc ks K n I L P ls r)
  | .if_icmp .le off => len = 3 ∧ ∃ x y r, st = .int y :: .int x :: r ∧ 0 ≤ (pc : Int) + off ∧ (x ≤ y → k (hw_t pc off) kc ks K n I L P ls r) ∧ (¬ x ≤ y → k (pc + 3) kc ks K n I L P ls r)
  | .goto off => len = 3 ∧ 0 ≤ (pc : Int) + off ∧ (if off < 0 then hw_W l D z lw ini o cc nL ret d mc ms Q (hw_t pc off) kc ks K n I L P ls st else k (hw_t pc off) kc ks K n I L P ls st)
  | .ifnull off => len = 3 ∧ ∃ v r, st = va_rf v :: r ∧ 0 ≤ (pc : Int) + off ∧ (v = none → k (hw_t pc off) kc ks K n I L P ls r) ∧ (¬ v = none → k (pc + 3) kc ks K n I L P ls r)
  | .ifnonnull off => len = 3 ∧ ∃ v r, st = va_rf v :: r ∧ 0 ≤ (pc : Int) + off ∧ (¬ v = none → k (hw_t pc off) kc ks K n I L P ls r) ∧ (v = none → k (pc + 3) kc ks K n I L P ls r)
  | .getfield i => len = 3 ∧ ∃ a r c q, st = .ref a :: r ∧ hw_f o i = some (c, q) ∧ K a = some (.inl c) ∧ k (pc + 3) kc ks K n I L P ls (hw_sv I L P (hw_ty c q) a q :: r)
  | .iaload => len = 1 ∧ ∃ i a r N, st = .int i :: .ref a :: r ∧ hw_al (K a) = some N ∧ vp_in i N ∧ k (pc + 1) kc ks K n I L P ls (.int (I a i.toNatClampNeg) :: r)
  | .baload => len = 1 ∧ ∃ i a r N, st = .int i :: .ref a :: r ∧ K a = some (.inr (.boolean, N)) ∧ vp_in i N ∧ k (pc + 1) kc ks K n I L P ls (.int (I a i.toNatClampNeg) :: r)
  | .laload => len = 1 ∧ ∃ i a r N, st = .int i :: .ref a :: r ∧ K a = some (.inr (.long, N)) ∧ vp_in i N ∧ k (pc + 1) kc ks K n I L P ls (.long (L a i.toNatClampNeg) :: r)
  | .aaload => len = 1 ∧ ∃ i a r N C, st = .int i :: .ref a :: r ∧ K a = some (.inr (.object C, N)) ∧ vp_in i N ∧ k (pc + 1) kc ks K n I L P ls (va_rf (P a i.toNatClampNeg) :: r)
  | .arraylength => len = 1 ∧ ∃ a r N, st = .ref a :: r ∧ hw_an (K a) = some N ∧ k (pc + 1) kc ks K n I L P ls (.int (Int32.ofNat N) :: r)
  | .iastore => len = 1 ∧ ∃ x i a r N, st = .int x :: .int i :: .ref a :: r ∧ K a = some (.inr (.int, N)) ∧ vp_in i N ∧ k (pc + 1) kc ks K n (va_up I a (va_up (I a) i.toNatClampNeg x)) L P ls r
  | .lastore => len = 1 ∧ ∃ x i a r N, st = .long x :: .int i :: .ref a :: r ∧ K a = some (.inr (.long, N)) ∧ vp_in i N ∧ k (pc + 1) kc ks K n I (va_up L a (va_up (L a) i.toNatClampNeg x)) P ls r
  | .bastore => len = 1 ∧ ∃ x i a r N, st = .int x :: .int i :: .ref a :: r ∧ K a = some (.inr (.boolean, N)) ∧ vp_in i N ∧ hw_b01 x ∧ k (pc + 1) kc ks K n (va_up I a (va_up (I a) i.toNatClampNeg x)) L P ls r
  | .aastore => len = 1 ∧ ∃ x i a r N t, st = .ref x :: .int i :: .ref a :: r ∧ K a = some (.inr (.object (hw_nm t), N)) ∧ K x = some (.inl t) ∧ vp_in i N ∧ k (pc + 1) kc ks K n I L (va_up P a (va_up (P a) i.toNatClampNeg (some x))) ls r
  | .putfield i => len = 3 ∧ ∃ v a r c q, st = v :: .ref a :: r ∧ hw_f o i = some (c, q) ∧ K a = some (.inl c) ∧ hw_pok ini o c q ∧ hw_put (hw_ty c q) v a q I L P (fun I L P => k (pc + 3) kc ks K n I L P ls r)
  | .newarray t => len = 2 ∧ ∃ i r ty b, st = .int i :: r ∧ hw_aty t = some (ty, b) ∧ ¬ i < 0 ∧ i.toNatClampNeg ≤ 65536 ∧ kc + 1 ≤ mc ∧ ks + i.toNatClampNeg ≤ ms ∧ k (pc + 2) (kc + 1) (ks + i.toNatClampNeg) (va_up K n (some (.inr (ty, i.toNatClampNeg)))) (n + 1) (va_up I n (fun _ => 0)) (va_up L n (fun _ => 0)) (va_up P n (fun _ => none)) ls (.ref n :: r)
  | .new i => len = 3 ∧ ∃ t q, hw_k o i = some t ∧ vwCl[t]? = some q ∧ kc + 1 ≤ mc ∧ ks + q.2.2 ≤ ms ∧ k (pc + 3) (kc + 1) (ks + q.2.2) (va_up K n (some (.inl t))) (n + 1) (va_up I n (fun _ => 0)) (va_up L n (fun _ => 0)) (va_up P n (fun _ => none)) ls (.ref n :: st)
  | .anewarray i => len = 3 ∧ ∃ t j r, st = .int j :: r ∧ hw_k o i = some t ∧ t = 0 ∧ ¬ j < 0 ∧ j.toNatClampNeg ≤ 65536 ∧ kc + 1 ≤ mc ∧ ks + j.toNatClampNeg ≤ ms ∧ k (pc + 3) (kc + 1) (ks + j.toNatClampNeg) (va_up K n (some (.inr (.object (hw_nm t), j.toNatClampNeg)))) (n + 1) (va_up I n (fun _ => 0)) (va_up L n (fun _ => 0)) (va_up P n (fun _ => none)) ls (.ref n :: r)
  | .ireturn => len = 1 ∧ ∃ v, st = [.int v] ∧ hw_rok ret v ∧ kc ≤ mc ∧ ks ≤ ms ∧ Q (some (.int v)) (K, n, I, L, P)
  | .lreturn => len = 1 ∧ ∃ v, st = [.long v] ∧ ret = some .long ∧ kc ≤ mc ∧ ks ≤ ms ∧ Q (some (.long v)) (K, n, I, L, P)
  | .areturn => len = 1 ∧ ∃ v, st = [va_rf v] ∧ hw_rob ret = true ∧ kc ≤ mc ∧ ks ≤ ms ∧ Q (some (va_rf v)) (K, n, I, L, P)
  | .return_ => len = 1 ∧ st = [] ∧ ret = none ∧ kc ≤ mc ∧ ks ≤ ms ∧ Q none (K, n, I, L, P)
  | _ => hw_W l D z lw ini o cc nL ret d mc ms Q pc kc ks K n I L P ls st
