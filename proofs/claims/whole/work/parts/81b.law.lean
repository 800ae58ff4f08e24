/-- what holds between two calls: the workbench and the model hold one state -/
def LV (K : hw_KM) (n : Nat) (I : hw_IM) (L : hw_LM) (P : hw_PM) (b N : Nat) (sx : Nat → Int32) (x : Nat) (A : AS) : Prop :=
  AOK A ∧ (∃ ls xs, WB K I L P x A ls xs) ∧ MB K I L P (x + 60) A ∧ x + 92 ≤ n ∧ b < x ∧ K b = some (.inr (.float, N))
def LQ (r : Option Value) (_ : hw_S) : Prop := r = some (.int 1)
theorem MB.same {K : hw_KM} {I I' : hw_IM} {L L' : hw_LM} {P P' : hw_PM} {m : Nat} {A : AS} (g : MB K I L P m A) (h : ∀ y, m ≤ y → y < m + 32 → I' y = I y ∧ L' y = L y ∧ P' y = P y) : MB K I' L' P' m A := by
  have F : ∀ a, a < 32 → I' (m + a) = I (m + a) := fun a ha => (h _ (by omega) (by omega)).1
  have G : ∀ j, I' m j = I m j := fun j => by rw [(h m (by omega) (by omega)).1]
  have hs : MSh K P' m := g.v.sh.keptK (fun _ _ _ => rfl) (h m (by omega) (by omega)).2.2
  have hL := (h (m + 14) (by omega) (by omega)).2.1
  have g2 : MB K I' L' P m A := g.upd (Or.inl ⟨G _, G _, F _ (by decide), F _ (by decide), F _ (by decide), rfl, rfl⟩) (Or.inl ⟨G _, F _ (by decide), rfl⟩) (Or.inl ⟨G _, G _, F _ (by decide), rfl, rfl, rfl⟩) (Or.inl ⟨G _, F _ (by decide), rfl⟩) (Or.inl ⟨G _, F _ (by decide), rfl⟩) (Or.inl ⟨G _, G _, G _, G _, F _ (by decide), F _ (by decide), F _ (by decide), F _ (by decide), rfl⟩) (Or.inl ⟨F _ (by decide), F _ (by decide), hL, rfl, rfl, rfl, rfl⟩)
  exact ⟨⟨hs, g2.v.2⟩, g2.2⟩
theorem LV.both {K : hw_KM} {n : Nat} {I : hw_IM} {L : hw_LM} {P : hw_PM} {b N x : Nat} {sx : Nat → Int32} {A A' : AS} {v : Value} {r : Option Value} {S : hw_S} (h : LV K n I L P b N sx x A) (hA' : AOK A') (w : Wr K n I L P x A' v r S) : ∃ (I' : hw_IM) (L' : hw_LM) (P' : hw_PM), S = (K, n, I', L', P') ∧ r = some v ∧ MB K I' L' P' (x + 60) A ∧ I' b = I b ∧ ∀ (v' : Value) (r' : Option Value) (S' : hw_S), Mr K n I' L' P' (x + 60) A' v' r' S' → r' = some v' ∧ ∃ (K2 : hw_KM) (n2 : Nat) (I2 : hw_IM) (L2 : hw_LM) (P2 : hw_PM), S' = (K2, n2, I2, L2, P2) ∧ LV K2 n2 I2 L2 P2 b N sx x A' := by
  obtain ⟨hA, g, gm, hn, hbx, kb⟩ := h
  obtain ⟨rfl, I', L', P', rfl, ⟨ls, xs, g'⟩, f⟩ := w
  refine ⟨I', L', P', rfl, rfl, gm.same (fun y q1 q2 => f y (by omega)), (f b (by omega)).1, fun v' r' S' w => ?_⟩
  obtain ⟨rfl, K2, n2, I2, L2, P2, rfl, hn2, gm2, f2⟩ := w
  refine ⟨rfl, K2, n2, I2, L2, P2, rfl, hA', ⟨ls, xs, ?_⟩, gm2, by omega, hbx, by rw [(f2 b (by omega)).1]; exact kb⟩
  have g2 : WB K2 I' L' P' x A' ls xs := g'.keptK (fun y q1 q2 => (f2 y (by omega)).1)
  exact g2.hole 0 0 (fun y q1 q2 _ => (f2 y (by omega)).2)
section
variable {l : Launch} {D : va_G} {z : Nat} {lw ini : Bool} {o : Nat} {cc : ByteArray} {nL : Nat} {ret : Option FieldType} {d mc ms : Nat} {Q : Option Value → hw_S → Prop} {pc kc ks : Nat} {K : hw_KM} {n : Nat} {I : hw_IM} {L : hw_LM} {P : hw_PM} {ls : List (Option Value)} {r : List Value}
theorem hs_tableIn {dflt lo hi : Int} {offs : Array Int} {len tgt : Nat} {v : Int32} {off : Int} (hd : decode cc pc = .ok (.tableswitch dflt lo hi offs, len)) (h1 : ¬ v.toInt < lo) (h2 : ¬ hi < v.toInt) (ho : offs[(v.toInt - lo).toNat]? = some off) (ht : (pc : Int) + off = (tgt : Int)) (k : hw_W l D z lw ini o cc nL ret d mc ms Q tgt kc ks K n I L P ls r) : hw_W l D z lw ini o cc nL ret d mc ms Q pc kc ks K n I L P ls (.int v :: r) := by
  intro p e s m args below meth c H locs la hC hw hH hS hL
  exact lv_tableIn hC.1 hC.2.1 hd h1 h2 ho ht (k p e s m args below meth c H locs la hC hw hH hS hL)
theorem hs_tableOut {dflt lo hi : Int} {offs : Array Int} {len tgt : Nat} {v : Int32} (hd : decode cc pc = .ok (.tableswitch dflt lo hi offs, len)) (h : v.toInt < lo ∨ hi < v.toInt) (ht : (pc : Int) + dflt = (tgt : Int)) (k : hw_W l D z lw ini o cc nL ret d mc ms Q tgt kc ks K n I L P ls r) : hw_W l D z lw ini o cc nL ret d mc ms Q pc kc ks K n I L P ls (.int v :: r) := by
  intro p e s m args below meth c H locs la hC hw hH hS hL
  exact lv_tableOut hC.1 hC.2.1 hd h ht (k p e s m args below meth c H locs la hC hw hH hS hL)
end
