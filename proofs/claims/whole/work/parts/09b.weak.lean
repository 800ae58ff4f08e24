/-- fewer locals known -/
theorem hw_weak {l : Launch} {D : va_G} {z : Nat} {lw ini : Bool} {o : Nat} {cc : ByteArray} {nL : Nat} {ret : Option FieldType} {d mc ms : Nat} {Q : Option Value → hw_S → Prop} {pc kc ks : Nat} {K : hw_KM} {n : Nat} {I : hw_IM} {L : hw_LM} {P : hw_PM} {ls ls' : List (Option Value)} {st : List Value} (h : ∀ (i : Nat) (v : Value), ls'[i]? = some (some v) → ls[i]? = some (some v)) (k : hw_W l D z lw ini o cc nL ret d mc ms Q pc kc ks K n I L P ls' st) (hl : ls'.length = ls.length := by rfl) : hw_W l D z lw ini o cc nL ret d mc ms Q pc kc ks K n I L P ls st := by
  intro p e s m args below meth c H locs la hC hw hH hS hL
  refine k p e s m args below meth c H locs la hC hw hH hS ⟨hl.trans hL.1, hL.2.1, hL.2.2.1, fun q hq => ?_⟩
  obtain ⟨i, v⟩ := q
  obtain ⟨j, h1, h2⟩ := (hw_pl_mem _ 0 i v).mp hq
  have hij : i = j := by omega
  subst hij
  exact hL.2.2.2 (i, v) ((hw_pl_mem _ 0 i v).mpr ⟨i, by omega, h i v h2⟩)
