def hw_om {α : Type} (x : Option α) (f : α → Prop) : Prop := match x with
  | some v => f v
  | none => False
theorem hw_om_s {α : Type} (v : α) (f : α → Prop) : hw_om (some v) f = f v := rfl
def hw_az : Option hw_Kd → Option Nat
  | some (.inr (.boolean, k)) => some k
  | _ => none
def hw_aj : Option hw_Kd → Option Nat
  | some (.inr (.long, k)) => some k
  | _ => none
def hw_ai : Option hw_Kd → Option Nat
  | some (.inr (.int, k)) => some k
  | _ => none
def hw_ao : Option hw_Kd → Option Nat
  | some (.inr (.object _, k)) => some k
  | _ => none
theorem hw_az_spec {q : Option hw_Kd} {N : Nat} (h : hw_az q = some N) : q = some (.inr (.boolean, N)) := by
  unfold hw_az at h
  split at h
  · cases h; rfl
  · cases h
theorem hw_aj_spec {q : Option hw_Kd} {N : Nat} (h : hw_aj q = some N) : q = some (.inr (.long, N)) := by
  unfold hw_aj at h
  split at h
  · cases h; rfl
  · cases h
theorem hw_ai_spec {q : Option hw_Kd} {N : Nat} (h : hw_ai q = some N) : q = some (.inr (.int, N)) := by
  unfold hw_ai at h
  split at h
  · cases h; rfl
  · cases h
theorem hw_ao_spec {q : Option hw_Kd} {N : Nat} (h : hw_ao q = some N) : ∃ C, q = some (.inr (.object C, N)) := by
  unfold hw_ao at h
  split at h
  · cases h; exact ⟨_, rfl⟩
  · cases h
theorem hw_put_mono {ty : FieldType} {v : Value} {a k : Nat} {I : hw_IM} {L : hw_LM} {P : hw_PM} {f g : hw_IM → hw_LM → hw_PM → Prop} (hfg : ∀ I L P, f I L P → g I L P) (h : hw_put ty v a k I L P f) : hw_put ty v a k I L P g := by
  unfold hw_put at h ⊢
  split at h
  · obtain ⟨x, h1, h2⟩ := h; exact ⟨x, h1, hfg _ _ _ h2⟩
  · obtain ⟨x, h1, h0, h2⟩ := h; exact ⟨x, h1, h0, hfg _ _ _ h2⟩
  · obtain ⟨x, h1, h2⟩ := h; exact ⟨x, h1, hfg _ _ _ h2⟩
  · obtain ⟨x, h1, h2⟩ := h; exact ⟨x, h1, hfg _ _ _ h2⟩
  · obtain ⟨x, h1, h2⟩ := h; exact ⟨x, h1, hfg _ _ _ h2⟩
  · exact h
def hw_d (l : Launch) (D : va_G) (z : Nat) (lw ini : Bool) (o : Nat) (cc : ByteArray) (nL : Nat) (ret : Option FieldType) (d mc ms : Nat) (Q : Option Value → hw_S → Prop) (k : hw_KK) (pc kc ks : Nat) (K : hw_KM) (n : Nat) (I : hw_IM) (L : hw_LM) (P : hw_PM) (ls : List (Option Value)) (st : List Value) (q : Except DecodeError (Instr × Nat)) : Prop := match q with
  | .ok q => hw_e l D z lw ini o cc nL ret d mc ms Q k pc kc ks K n I L P ls st q.1 q.2
  | .error _ => hw_W l D z lw ini o cc nL ret d mc ms Q pc kc ks K n I L P ls st
def hw_x (l : Launch) (D : va_G) (z : Nat) (lw ini : Bool) (o : Nat) (cc : ByteArray) (nL : Nat) (ret : Option FieldType) (d mc ms : Nat) (Q : Option Value → hw_S → Prop) : Nat → hw_KK
  | 0, pc, kc, ks, K, n, I, L, P, ls, st => hw_W l D z lw ini o cc nL ret d mc ms Q pc kc ks K n I L P ls st
  | f + 1, pc, kc, ks, K, n, I, L, P, ls, st => hw_d l D z lw ini o cc nL ret d mc ms Q (hw_x l D z lw ini o cc nL ret d mc ms Q f) pc kc ks K n I L P ls st (decode cc pc)
section
variable {l : Launch} {D : va_G} {z : Nat} {lw ini : Bool} {o : Nat} {cc : ByteArray} {nL : Nat} {ret : Option FieldType} {d mc ms : Nat} {Q : Option Value → hw_S → Prop} {pc kc ks : Nat} {K : hw_KM} {n : Nat} {I : hw_IM} {L : hw_LM} {P : hw_PM} {ls t : List (Option Value)} {st r : List Value} {k : hw_KK}
theorem hw_e_ok (ih : ∀ pc kc ks K n I L P ls st, k pc kc ks K n I L P ls st → hw_W l D z lw ini o cc nL ret d mc ms Q pc kc ks K n I L P ls st) {i : Instr} {len : Nat} (hd : decode cc pc = .ok (i, len)) (h : hw_e l D z lw ini o cc nL ret d mc ms Q k pc kc ks K n I L P ls st i len) : hw_W l D z lw ini o cc nL ret d mc ms Q pc kc ks K n I L P ls st := by
  cases i
  case iconst v => obtain ⟨rfl, h⟩ := h; exact hs_iconst hd (ih _ _ _ _ _ _ _ _ _ _ h)
  case bipush v => obtain ⟨rfl, h1, h2, h⟩ := h; exact hs_bipush hd ⟨h1, h2⟩ (ih _ _ _ _ _ _ _ _ _ _ h)
  case sipush v => obtain ⟨rfl, h1, h2, h⟩ := h; exact hs_sipush hd ⟨h1, h2⟩ (ih _ _ _ _ _ _ _ _ _ _ h)
  case lconst v => obtain ⟨rfl, h⟩ := h; exact hs_lconst hd (ih _ _ _ _ _ _ _ _ _ _ h)
  case aconst_null => obtain ⟨rfl, h⟩ := h; exact hs_aconst_null hd (ih _ _ _ _ _ _ _ _ _ _ h)
  case iadd => obtain ⟨rfl, x, y, r, rfl, h⟩ := h; exact hs_iadd hd (ih _ _ _ _ _ _ _ _ _ _ h)
  case isub => obtain ⟨rfl, x, y, r, rfl, h⟩ := h; exact hs_isub hd (ih _ _ _ _ _ _ _ _ _ _ h)
  case imul => obtain ⟨rfl, x, y, r, rfl, h⟩ := h; exact hs_imul hd (ih _ _ _ _ _ _ _ _ _ _ h)
  case iand => obtain ⟨rfl, x, y, r, rfl, h⟩ := h; exact hs_iand hd (ih _ _ _ _ _ _ _ _ _ _ h)
  case ior => obtain ⟨rfl, x, y, r, rfl, h⟩ := h; exact hs_ior hd (ih _ _ _ _ _ _ _ _ _ _ h)
  case ixor => obtain ⟨rfl, x, y, r, rfl, h⟩ := h; exact hs_ixor hd (ih _ _ _ _ _ _ _ _ _ _ h)
  case ishl => obtain ⟨rfl, x, y, r, rfl, h⟩ := h; exact hs_ishl hd (ih _ _ _ _ _ _ _ _ _ _ h)
  case ishr => obtain ⟨rfl, x, y, r, rfl, h⟩ := h; exact hs_ishr hd (ih _ _ _ _ _ _ _ _ _ _ h)
  case iushr => obtain ⟨rfl, x, y, r, rfl, h⟩ := h; exact hs_iushr hd (ih _ _ _ _ _ _ _ _ _ _ h)
  case ladd => obtain ⟨rfl, x, y, r, rfl, h⟩ := h; exact hs_ladd hd (ih _ _ _ _ _ _ _ _ _ _ h)
  case lmul => obtain ⟨rfl, x, y, r, rfl, h⟩ := h; exact hs_lmul hd (ih _ _ _ _ _ _ _ _ _ _ h)
  case land => obtain ⟨rfl, x, y, r, rfl, h⟩ := h; exact hs_land hd (ih _ _ _ _ _ _ _ _ _ _ h)
  case lor => obtain ⟨rfl, x, y, r, rfl, h⟩ := h; exact hs_lor hd (ih _ _ _ _ _ _ _ _ _ _ h)
  case lshl => obtain ⟨rfl, x, y, r, rfl, h⟩ := h; exact hs_lshl hd (ih _ _ _ _ _ _ _ _ _ _ h)
  case lcmp => obtain ⟨rfl, x, y, r, rfl, h⟩ := h; exact hs_lcmp hd (ih _ _ _ _ _ _ _ _ _ _ h)
  case idiv => obtain ⟨rfl, x, y, r, rfl, h0, h⟩ := h; exact hs_idiv hd h0 (ih _ _ _ _ _ _ _ _ _ _ h)
  case irem => obtain ⟨rfl, x, y, r, rfl, h0, h⟩ := h; exact hs_irem hd h0 (ih _ _ _ _ _ _ _ _ _ _ h)
  case ineg => obtain ⟨rfl, x, r, rfl, h⟩ := h; exact hs_ineg hd (ih _ _ _ _ _ _ _ _ _ _ h)
  case i2l => obtain ⟨rfl, x, r, rfl, h⟩ := h; exact hs_i2l hd (ih _ _ _ _ _ _ _ _ _ _ h)
  case l2i => obtain ⟨rfl, x, r, rfl, h⟩ := h; exact hs_l2i hd (ih _ _ _ _ _ _ _ _ _ _ h)
  case i2b => obtain ⟨rfl, x, r, rfl, h⟩ := h; exact hs_i2b hd (ih _ _ _ _ _ _ _ _ _ _ h)
  case dup => obtain ⟨rfl, v, r, rfl, h0, h⟩ := h; exact hs_dup hd h0 (ih _ _ _ _ _ _ _ _ _ _ h)
  case dup2 => obtain ⟨rfl, v, w, r, rfl, h0, h1, h⟩ := h; exact hs_dup2 hd ⟨h0, h1⟩ (ih _ _ _ _ _ _ _ _ _ _ h)
  case ldc i => obtain ⟨rfl, v, h0, h⟩ := h; exact hs_ldc hd h0 (ih _ _ _ _ _ _ _ _ _ _ h)
  case ldc_w i => obtain ⟨rfl, v, h0, h⟩ := h; exact hs_ldc_w hd h0 (ih _ _ _ _ _ _ _ _ _ _ h)
  case ldc2_w i => obtain ⟨rfl, v, h0, h⟩ := h; exact hs_ldc2_w hd h0 (ih _ _ _ _ _ _ _ _ _ _ h)
  case iload_n j => obtain ⟨rfl, v, h0, h⟩ := h; exact hs_iload_n hd h0 (ih _ _ _ _ _ _ _ _ _ _ h)
  case iload j => obtain ⟨rfl, v, h0, h⟩ := h; exact hs_iload hd h0 (ih _ _ _ _ _ _ _ _ _ _ h)
  case lload_n j => obtain ⟨rfl, v, h0, h⟩ := h; exact hs_lload_n hd h0 (ih _ _ _ _ _ _ _ _ _ _ h)
  case lload j => obtain ⟨rfl, v, h0, h⟩ := h; exact hs_lload hd h0 (ih _ _ _ _ _ _ _ _ _ _ h)
  case aload_n j => obtain ⟨rfl, v, h0, h⟩ := h; exact hs_aload_n hd h0 (ih _ _ _ _ _ _ _ _ _ _ h)
  case aload j => obtain ⟨rfl, v, h0, h⟩ := h; exact hs_aload hd h0 (ih _ _ _ _ _ _ _ _ _ _ h)
  case istore_n j => obtain ⟨rfl, v, r, rfl, h0, h⟩ := h; exact hs_istore_n hd h0 (ih _ _ _ _ _ _ _ _ _ _ h)
  case istore j => obtain ⟨rfl, v, r, rfl, h0, h⟩ := h; exact hs_istore hd h0 (ih _ _ _ _ _ _ _ _ _ _ h)
  case astore_n j => obtain ⟨rfl, v, r, rfl, h0, h⟩ := h; exact hs_astore_n hd h0 (ih _ _ _ _ _ _ _ _ _ _ h)
  case astore j => obtain ⟨rfl, v, r, rfl, h0, h⟩ := h; exact hs_astore hd h0 (ih _ _ _ _ _ _ _ _ _ _ h)
  case lstore_n j => obtain ⟨rfl, v, r, rfl, h0, h⟩ := h; exact hs_lstore_n hd h0 (ih _ _ _ _ _ _ _ _ _ _ h)
  case iinc j w => obtain ⟨rfl, v, h0, h1, h⟩ := h; exact hs_iinc hd h0 h1 (ih _ _ _ _ _ _ _ _ _ _ h)
  case ifCond cnd off =>
    cases cnd
    case eq => obtain ⟨rfl, x, r, rfl, h0, kt, kf⟩ := h; exact hs_if_eq hd h0 (fun q => ih _ _ _ _ _ _ _ _ _ _ (kt q)) (fun q => ih _ _ _ _ _ _ _ _ _ _ (kf q))
    case ne => obtain ⟨rfl, x, r, rfl, h0, kt, kf⟩ := h; exact hs_if_ne hd h0 (fun q => ih _ _ _ _ _ _ _ _ _ _ (kt q)) (fun q => ih _ _ _ _ _ _ _ _ _ _ (kf q))
    case lt => obtain ⟨rfl, x, r, rfl, h0, kt, kf⟩ := h; exact hs_if_lt hd h0 (fun q => ih _ _ _ _ _ _ _ _ _ _ (kt q)) (fun q => ih _ _ _ _ _ _ _ _ _ _ (kf q))
    case ge => obtain ⟨rfl, x, r, rfl, h0, kt, kf⟩ := h; exact hs_if_ge hd h0 (fun q => ih _ _ _ _ _ _ _ _ _ _ (kt q)) (fun q => ih _ _ _ _ _ _ _ _ _ _ (kf q))
    case gt => obtain ⟨rfl, x, r, rfl, h0, kt, kf⟩ := h; exact hs_if_gt hd h0 (fun q => ih _ _ _ _ _ _ _ _ _ _ (kt q)) (fun q => ih _ _ _ _ _ _ _ _ _ _ (kf q))
    case le => obtain ⟨rfl, x, r, rfl, h0, kt, kf⟩ := h; exact hs_if_le hd h0 (fun q => ih _ _ _ _ _ _ _ _ _ _ (kt q)) (fun q => ih _ _ _ _ _ _ _ _ _ _ (kf q))
  case if_icmp cnd off =>
    cases cnd
    case eq => obtain ⟨rfl, x, y, r, rfl, h0, kt, kf⟩ := h; exact hs_icmp_eq hd h0 (fun q => ih _ _ _ _ _ _ _ _ _ _ (kt q)) (fun q => ih _ _ _ _ _ _ _ _ _ _ (kf q))
    case ne => obtain ⟨rfl, x, y, r, rfl, h0, kt, kf⟩ := h; exact hs_icmp_ne hd h0 (fun q => ih _ _ _ _ _ _ _ _ _ _ (kt q)) (fun q => ih _ _ _ _ _ _ _ _ _ _ (kf q))
    case lt => obtain ⟨rfl, x, y, r, rfl, h0, kt, kf⟩ := h; exact hs_icmp_lt hd h0 (fun q => ih _ _ _ _ _ _ _ _ _ _ (kt q)) (fun q => ih _ _ _ _ _ _ _ _ _ _ (kf q))
    case ge => obtain ⟨rfl, x, y, r, rfl, h0, kt, kf⟩ := h; exact hs_icmp_ge hd h0 (fun q => ih _ _ _ _ _ _ _ _ _ _ (kt q)) (fun q => ih _ _ _ _ _ _ _ _ _ _ (kf q))
    case gt => obtain ⟨rfl, x, y, r, rfl, h0, kt, kf⟩ := h; exact hs_icmp_gt hd h0 (fun q => ih _ _ _ _ _ _ _ _ _ _ (kt q)) (fun q => ih _ _ _ _ _ _ _ _ _ _ (kf q))
    case le => obtain ⟨rfl, x, y, r, rfl, h0, kt, kf⟩ := h; exact hs_icmp_le hd h0 (fun q => ih _ _ _ _ _ _ _ _ _ _ (kt q)) (fun q => ih _ _ _ _ _ _ _ _ _ _ (kf q))
  case goto off =>
    obtain ⟨rfl, h0, h⟩ := h
    refine hs_goto hd h0 ?_
    by_cases hq : off < 0
    · rw [if_pos hq] at h; exact h
    · rw [if_neg hq] at h; exact (ih _ _ _ _ _ _ _ _ _ _ h)
  case ifnull off => obtain ⟨rfl, v, r, rfl, h0, kt, kf⟩ := h; exact hs_ifnull hd h0 (fun q => ih _ _ _ _ _ _ _ _ _ _ (kt q)) (fun q => ih _ _ _ _ _ _ _ _ _ _ (kf q))
  case ifnonnull off => obtain ⟨rfl, v, r, rfl, h0, kt, kf⟩ := h; exact hs_ifnonnull hd h0 (fun q => ih _ _ _ _ _ _ _ _ _ _ (kt q)) (fun q => ih _ _ _ _ _ _ _ _ _ _ (kf q))
  case getfield i => obtain ⟨rfl, a, r, c, q, rfl, h0, h1, h⟩ := h; exact hs_getfield hd h0 h1 (ih _ _ _ _ _ _ _ _ _ _ h)
  case iaload => obtain ⟨rfl, i, a, r, N, rfl, h0, h1, h⟩ := h; exact hs_iaload hd h0 h1 (ih _ _ _ _ _ _ _ _ _ _ h)
  case baload => obtain ⟨rfl, i, a, r, N, rfl, h0, h1, h⟩ := h; exact hs_baload hd h0 h1 (ih _ _ _ _ _ _ _ _ _ _ h)
  case laload => obtain ⟨rfl, i, a, r, N, rfl, h0, h1, h⟩ := h; exact hs_laload hd h0 h1 (ih _ _ _ _ _ _ _ _ _ _ h)
  case aaload => obtain ⟨rfl, i, a, r, N, C, rfl, h0, h1, h⟩ := h; exact hs_aaload hd h0 h1 (ih _ _ _ _ _ _ _ _ _ _ h)
  case arraylength => obtain ⟨rfl, a, r, N, rfl, h0, h⟩ := h; exact hs_arraylength hd h0 (ih _ _ _ _ _ _ _ _ _ _ h)
  case iastore => obtain ⟨rfl, x, i, a, r, N, rfl, h0, h1, h⟩ := h; exact hs_iastore hd h0 h1 (ih _ _ _ _ _ _ _ _ _ _ h)
  case lastore => obtain ⟨rfl, x, i, a, r, N, rfl, h0, h1, h⟩ := h; exact hs_lastore hd h0 h1 (ih _ _ _ _ _ _ _ _ _ _ h)
  case bastore => obtain ⟨rfl, x, i, a, r, N, rfl, h0, h1, h2, h⟩ := h; exact hs_bastore hd h0 h1 h2 (ih _ _ _ _ _ _ _ _ _ _ h)
  case aastore => obtain ⟨rfl, x, i, a, r, N, t, rfl, h0, hx, h1, h⟩ := h; exact hs_aastore hd h0 hx h1 (ih _ _ _ _ _ _ _ _ _ _ h)
  case putfield i => obtain ⟨rfl, v, a, r, c, q, rfl, h0, h1, h2, h⟩ := h; exact hs_putfield hd h0 h1 h2 (hw_put_mono (fun _ _ _ h => ih _ _ _ _ _ _ _ _ _ _ h) h)
  case newarray t => obtain ⟨rfl, i, r, ty, b, rfl, h0, h1, h2, h3, h4, h⟩ := h; exact hs_newarray hd h0 h1 h2 h3 h4 (ih _ _ _ _ _ _ _ _ _ _ h)
  case new i => obtain ⟨rfl, t, q, h0, h1, h3, h4, h⟩ := h; exact hs_new hd h0 h1 h3 h4 (ih _ _ _ _ _ _ _ _ _ _ h)
  case anewarray i => obtain ⟨rfl, t, j, r, rfl, h0, h1, h5, h2, h3, h4, h⟩ := h; exact hs_anewarray hd h0 h1 h5 h2 h3 h4 (ih _ _ _ _ _ _ _ _ _ _ h)
  case ireturn => obtain ⟨rfl, v, rfl, h0, h1, h2, h3⟩ := h; exact hs_ireturn hd h0 h1 h2 h3
  case lreturn => obtain ⟨rfl, v, rfl, h0, h1, h2, h3⟩ := h; exact hs_lreturn hd h0 h1 h2 h3
  case areturn => obtain ⟨rfl, v, rfl, h0, h1, h2, h3⟩ := h; exact hs_areturn hd h0 h1 h2 h3
  case return_ => obtain ⟨rfl, rfl, h0, h1, h2, h3⟩ := h; exact hs_return_ hd h0 h1 h2 h3
  all_goals exact h
theorem hw_go : ∀ (f : Nat) {pc kc ks : Nat} {K : hw_KM} {n : Nat} {I : hw_IM} {L : hw_LM} {P : hw_PM} {ls : List (Option Value)} {st : List Value}, hw_x l D z lw ini o cc nL ret d mc ms Q f pc kc ks K n I L P ls st → hw_W l D z lw ini o cc nL ret d mc ms Q pc kc ks K n I L P ls st
  | 0, _, _, _, _, _, _, _, _, _, _, h => h
  | f + 1, pc, kc, ks, K, n, I, L, P, ls, st, h => by
    have h' : hw_d l D z lw ini o cc nL ret d mc ms Q (hw_x l D z lw ini o cc nL ret d mc ms Q f) pc kc ks K n I L P ls st (decode cc pc) := h
    cases hdec : decode cc pc with
    | error e => rw [hdec] at h'; exact h'
    | ok q =>
      rw [hdec] at h'
      obtain ⟨i, len⟩ := q
      exact hw_e_ok (fun _ _ _ _ _ _ _ _ _ _ h => hw_go f h) hdec h'
theorem hx_s {f : Nat} : hw_x l D z lw ini o cc nL ret d mc ms Q (f + 1) pc kc ks K n I L P ls st = hw_d l D z lw ini o cc nL ret d mc ms Q (hw_x l D z lw ini o cc nL ret d mc ms Q f) pc kc ks K n I L P ls st (decode cc pc) := rfl
theorem hx_0 : hw_x l D z lw ini o cc nL ret d mc ms Q 0 pc kc ks K n I L P ls st = hw_W l D z lw ini o cc nL ret d mc ms Q pc kc ks K n I L P ls st := rfl
theorem he_iconst {v : Int} : hw_d l D z lw ini o cc nL ret d mc ms Q k pc kc ks K n I L P ls st (.ok (.iconst v, 1)) = (k (pc + 1) kc ks K n I L P ls (.int (Int32.ofInt v) :: st)) := propext ⟨fun h => by obtain ⟨-, h⟩ := h; exact h, fun h => ⟨rfl, h⟩⟩
theorem he_bipush {v : Int} : hw_d l D z lw ini o cc nL ret d mc ms Q k pc kc ks K n I L P ls st (.ok (.bipush v, 2)) = (-128 ≤ v ∧ v ≤ 127 ∧ k (pc + 2) kc ks K n I L P ls (.int (Int32.ofInt v) :: st)) := propext ⟨fun h => by obtain ⟨-, h⟩ := h; exact h, fun h => ⟨rfl, h⟩⟩
theorem he_sipush {v : Int} : hw_d l D z lw ini o cc nL ret d mc ms Q k pc kc ks K n I L P ls st (.ok (.sipush v, 3)) = (-32768 ≤ v ∧ v ≤ 32767 ∧ k (pc + 3) kc ks K n I L P ls (.int (Int32.ofInt v) :: st)) := propext ⟨fun h => by obtain ⟨-, h⟩ := h; exact h, fun h => ⟨rfl, h⟩⟩
theorem he_lconst_0  : hw_d l D z lw ini o cc nL ret d mc ms Q k pc kc ks K n I L P ls st (.ok (.lconst 0, 1)) = (k (pc + 1) kc ks K n I L P ls (.long 0 :: st)) := propext ⟨fun h => by obtain ⟨-, h⟩ := h; exact h, fun h => ⟨rfl, h⟩⟩
theorem he_lconst_1  : hw_d l D z lw ini o cc nL ret d mc ms Q k pc kc ks K n I L P ls st (.ok (.lconst 1, 1)) = (k (pc + 1) kc ks K n I L P ls (.long 1 :: st)) := propext ⟨fun h => by obtain ⟨-, h⟩ := h; exact h, fun h => ⟨rfl, h⟩⟩
theorem he_aconst_null  : hw_d l D z lw ini o cc nL ret d mc ms Q k pc kc ks K n I L P ls st (.ok (.aconst_null, 1)) = (k (pc + 1) kc ks K n I L P ls (.null :: st)) := propext ⟨fun h => by obtain ⟨-, h⟩ := h; exact h, fun h => ⟨rfl, h⟩⟩
theorem he_iadd {x y : Int32} : hw_d l D z lw ini o cc nL ret d mc ms Q k pc kc ks K n I L P ls (.int y :: .int x :: r) (.ok (.iadd, 1)) = (k (pc + 1) kc ks K n I L P ls (.int (x + y) :: r)) := propext ⟨fun h => by obtain ⟨-, u0, u1, u2, e, h⟩ := h; cases e; exact h, fun h => ⟨rfl, _, _, _, rfl, h⟩⟩
theorem he_isub {x y : Int32} : hw_d l D z lw ini o cc nL ret d mc ms Q k pc kc ks K n I L P ls (.int y :: .int x :: r) (.ok (.isub, 1)) = (k (pc + 1) kc ks K n I L P ls (.int (x - y) :: r)) := propext ⟨fun h => by obtain ⟨-, u0, u1, u2, e, h⟩ := h; cases e; exact h, fun h => ⟨rfl, _, _, _, rfl, h⟩⟩
theorem he_imul {x y : Int32} : hw_d l D z lw ini o cc nL ret d mc ms Q k pc kc ks K n I L P ls (.int y :: .int x :: r) (.ok (.imul, 1)) = (k (pc + 1) kc ks K n I L P ls (.int (x * y) :: r)) := propext ⟨fun h => by obtain ⟨-, u0, u1, u2, e, h⟩ := h; cases e; exact h, fun h => ⟨rfl, _, _, _, rfl, h⟩⟩
theorem he_iand {x y : Int32} : hw_d l D z lw ini o cc nL ret d mc ms Q k pc kc ks K n I L P ls (.int y :: .int x :: r) (.ok (.iand, 1)) = (k (pc + 1) kc ks K n I L P ls (.int (x &&& y) :: r)) := propext ⟨fun h => by obtain ⟨-, u0, u1, u2, e, h⟩ := h; cases e; exact h, fun h => ⟨rfl, _, _, _, rfl, h⟩⟩
theorem he_ior {x y : Int32} : hw_d l D z lw ini o cc nL ret d mc ms Q k pc kc ks K n I L P ls (.int y :: .int x :: r) (.ok (.ior, 1)) = (k (pc + 1) kc ks K n I L P ls (.int (x ||| y) :: r)) := propext ⟨fun h => by obtain ⟨-, u0, u1, u2, e, h⟩ := h; cases e; exact h, fun h => ⟨rfl, _, _, _, rfl, h⟩⟩
theorem he_ixor {x y : Int32} : hw_d l D z lw ini o cc nL ret d mc ms Q k pc kc ks K n I L P ls (.int y :: .int x :: r) (.ok (.ixor, 1)) = (k (pc + 1) kc ks K n I L P ls (.int (x ^^^ y) :: r)) := propext ⟨fun h => by obtain ⟨-, u0, u1, u2, e, h⟩ := h; cases e; exact h, fun h => ⟨rfl, _, _, _, rfl, h⟩⟩
theorem he_ishl {x y : Int32} : hw_d l D z lw ini o cc nL ret d mc ms Q k pc kc ks K n I L P ls (.int y :: .int x :: r) (.ok (.ishl, 1)) = (k (pc + 1) kc ks K n I L P ls (.int (x <<< (y &&& 31)) :: r)) := propext ⟨fun h => by obtain ⟨-, u0, u1, u2, e, h⟩ := h; cases e; exact h, fun h => ⟨rfl, _, _, _, rfl, h⟩⟩
theorem he_ishr {x y : Int32} : hw_d l D z lw ini o cc nL ret d mc ms Q k pc kc ks K n I L P ls (.int y :: .int x :: r) (.ok (.ishr, 1)) = (k (pc + 1) kc ks K n I L P ls (.int (x >>> (y &&& 31)) :: r)) := propext ⟨fun h => by obtain ⟨-, u0, u1, u2, e, h⟩ := h; cases e; exact h, fun h => ⟨rfl, _, _, _, rfl, h⟩⟩
theorem he_iushr {x y : Int32} : hw_d l D z lw ini o cc nL ret d mc ms Q k pc kc ks K n I L P ls (.int y :: .int x :: r) (.ok (.iushr, 1)) = (k (pc + 1) kc ks K n I L P ls (.int (x.toUInt32 >>> (y.toUInt32 &&& Int32.toUInt32 31)).toInt32 :: r)) := propext ⟨fun h => by obtain ⟨-, u0, u1, u2, e, h⟩ := h; cases e; exact h, fun h => ⟨rfl, _, _, _, rfl, h⟩⟩
theorem he_idiv {x y : Int32} : hw_d l D z lw ini o cc nL ret d mc ms Q k pc kc ks K n I L P ls (.int y :: .int x :: r) (.ok (.idiv, 1)) = (¬ y = 0 ∧ k (pc + 1) kc ks K n I L P ls (.int (x / y) :: r)) := propext ⟨fun h => by obtain ⟨-, u0, u1, u2, e, h⟩ := h; cases e; exact h, fun h => ⟨rfl, _, _, _, rfl, h⟩⟩
theorem he_irem {x y : Int32} : hw_d l D z lw ini o cc nL ret d mc ms Q k pc kc ks K n I L P ls (.int y :: .int x :: r) (.ok (.irem, 1)) = (¬ y = 0 ∧ k (pc + 1) kc ks K n I L P ls (.int (x - x / y * y) :: r)) := propext ⟨fun h => by obtain ⟨-, u0, u1, u2, e, h⟩ := h; cases e; exact h, fun h => ⟨rfl, _, _, _, rfl, h⟩⟩
theorem he_ineg {x : Int32} : hw_d l D z lw ini o cc nL ret d mc ms Q k pc kc ks K n I L P ls (.int x :: r) (.ok (.ineg, 1)) = (k (pc + 1) kc ks K n I L P ls (.int (-x) :: r)) := propext ⟨fun h => by obtain ⟨-, u0, u1, e, h⟩ := h; cases e; exact h, fun h => ⟨rfl, _, _, rfl, h⟩⟩
theorem he_i2l {x : Int32} : hw_d l D z lw ini o cc nL ret d mc ms Q k pc kc ks K n I L P ls (.int x :: r) (.ok (.i2l, 1)) = (k (pc + 1) kc ks K n I L P ls (.long x.toInt64 :: r)) := propext ⟨fun h => by obtain ⟨-, u0, u1, e, h⟩ := h; cases e; exact h, fun h => ⟨rfl, _, _, rfl, h⟩⟩
theorem he_l2i {x : Int64} : hw_d l D z lw ini o cc nL ret d mc ms Q k pc kc ks K n I L P ls (.long x :: r) (.ok (.l2i, 1)) = (k (pc + 1) kc ks K n I L P ls (.int x.toInt32 :: r)) := propext ⟨fun h => by obtain ⟨-, u0, u1, e, h⟩ := h; cases e; exact h, fun h => ⟨rfl, _, _, rfl, h⟩⟩
theorem he_i2b {x : Int32} : hw_d l D z lw ini o cc nL ret d mc ms Q k pc kc ks K n I L P ls (.int x :: r) (.ok (.i2b, 1)) = (k (pc + 1) kc ks K n I L P ls (.int x.toInt8.toInt32 :: r)) := propext ⟨fun h => by obtain ⟨-, u0, u1, e, h⟩ := h; cases e; exact h, fun h => ⟨rfl, _, _, rfl, h⟩⟩
theorem he_ladd {x y : Int64} : hw_d l D z lw ini o cc nL ret d mc ms Q k pc kc ks K n I L P ls (.long y :: .long x :: r) (.ok (.ladd, 1)) = (k (pc + 1) kc ks K n I L P ls (.long (x + y) :: r)) := propext ⟨fun h => by obtain ⟨-, u0, u1, u2, e, h⟩ := h; cases e; exact h, fun h => ⟨rfl, _, _, _, rfl, h⟩⟩
theorem he_lmul {x y : Int64} : hw_d l D z lw ini o cc nL ret d mc ms Q k pc kc ks K n I L P ls (.long y :: .long x :: r) (.ok (.lmul, 1)) = (k (pc + 1) kc ks K n I L P ls (.long (x * y) :: r)) := propext ⟨fun h => by obtain ⟨-, u0, u1, u2, e, h⟩ := h; cases e; exact h, fun h => ⟨rfl, _, _, _, rfl, h⟩⟩
theorem he_land {x y : Int64} : hw_d l D z lw ini o cc nL ret d mc ms Q k pc kc ks K n I L P ls (.long y :: .long x :: r) (.ok (.land, 1)) = (k (pc + 1) kc ks K n I L P ls (.long (x &&& y) :: r)) := propext ⟨fun h => by obtain ⟨-, u0, u1, u2, e, h⟩ := h; cases e; exact h, fun h => ⟨rfl, _, _, _, rfl, h⟩⟩
theorem he_lor {x y : Int64} : hw_d l D z lw ini o cc nL ret d mc ms Q k pc kc ks K n I L P ls (.long y :: .long x :: r) (.ok (.lor, 1)) = (k (pc + 1) kc ks K n I L P ls (.long (x ||| y) :: r)) := propext ⟨fun h => by obtain ⟨-, u0, u1, u2, e, h⟩ := h; cases e; exact h, fun h => ⟨rfl, _, _, _, rfl, h⟩⟩
theorem he_lshl {x : Int64} {y : Int32} : hw_d l D z lw ini o cc nL ret d mc ms Q k pc kc ks K n I L P ls (.int y :: .long x :: r) (.ok (.lshl, 1)) = (k (pc + 1) kc ks K n I L P ls (.long (x <<< (y.toInt64 &&& 63)) :: r)) := propext ⟨fun h => by obtain ⟨-, u0, u1, u2, e, h⟩ := h; cases e; exact h, fun h => ⟨rfl, _, _, _, rfl, h⟩⟩
theorem he_lcmp {x y : Int64} : hw_d l D z lw ini o cc nL ret d mc ms Q k pc kc ks K n I L P ls (.long y :: .long x :: r) (.ok (.lcmp, 1)) = (k (pc + 1) kc ks K n I L P ls (.int (lg_cmp x y) :: r)) := propext ⟨fun h => by obtain ⟨-, u0, u1, u2, e, h⟩ := h; cases e; exact h, fun h => ⟨rfl, _, _, _, rfl, h⟩⟩
theorem he_dup_i {x : Int32} : hw_d l D z lw ini o cc nL ret d mc ms Q k pc kc ks K n I L P ls (.int x :: r) (.ok (.dup, 1)) = (k (pc + 1) kc ks K n I L P ls (.int x :: .int x :: r)) := propext ⟨fun h => by obtain ⟨-, u0, u1, e, -, h⟩ := h; cases e; exact h, fun h => ⟨rfl, _, _, rfl, rfl, h⟩⟩
theorem he_dup_r {x : Nat} : hw_d l D z lw ini o cc nL ret d mc ms Q k pc kc ks K n I L P ls (.ref x :: r) (.ok (.dup, 1)) = (k (pc + 1) kc ks K n I L P ls (.ref x :: .ref x :: r)) := propext ⟨fun h => by obtain ⟨-, u0, u1, e, -, h⟩ := h; cases e; exact h, fun h => ⟨rfl, _, _, rfl, rfl, h⟩⟩
theorem he_dup_n  : hw_d l D z lw ini o cc nL ret d mc ms Q k pc kc ks K n I L P ls (.null :: r) (.ok (.dup, 1)) = (k (pc + 1) kc ks K n I L P ls (.null :: .null :: r)) := propext ⟨fun h => by obtain ⟨-, u0, u1, e, -, h⟩ := h; cases e; exact h, fun h => ⟨rfl, _, _, rfl, rfl, h⟩⟩
theorem he_dup2 {x : Int32} {a : Nat} : hw_d l D z lw ini o cc nL ret d mc ms Q k pc kc ks K n I L P ls (.int x :: .ref a :: r) (.ok (.dup2, 1)) = (k (pc + 1) kc ks K n I L P ls (.int x :: .ref a :: .int x :: .ref a :: r)) := propext ⟨fun h => by obtain ⟨-, u0, u1, u2, e, -, -, h⟩ := h; cases e; exact h, fun h => ⟨rfl, _, _, _, rfl, rfl, rfl, h⟩⟩
theorem he_iload_0 {v : Int32} : hw_d l D z lw ini o cc nL ret d mc ms Q k pc kc ks K n I L P (some (.int v) :: t) st (.ok (.iload_n 0, 1)) = (k (pc + 1) kc ks K n I L P (some (.int v) :: t) (.int v :: st)) := propext ⟨fun h => by obtain ⟨-, u, e, h⟩ := h; cases e; exact h, fun h => ⟨rfl, v, rfl, h⟩⟩
theorem he_iload_1 {a0 : Option Value} {v : Int32} : hw_d l D z lw ini o cc nL ret d mc ms Q k pc kc ks K n I L P (a0 :: some (.int v) :: t) st (.ok (.iload_n 1, 1)) = (k (pc + 1) kc ks K n I L P (a0 :: some (.int v) :: t) (.int v :: st)) := propext ⟨fun h => by obtain ⟨-, u, e, h⟩ := h; cases e; exact h, fun h => ⟨rfl, v, rfl, h⟩⟩
theorem he_iload_2 {a0 a1 : Option Value} {v : Int32} : hw_d l D z lw ini o cc nL ret d mc ms Q k pc kc ks K n I L P (a0 :: a1 :: some (.int v) :: t) st (.ok (.iload_n 2, 1)) = (k (pc + 1) kc ks K n I L P (a0 :: a1 :: some (.int v) :: t) (.int v :: st)) := propext ⟨fun h => by obtain ⟨-, u, e, h⟩ := h; cases e; exact h, fun h => ⟨rfl, v, rfl, h⟩⟩
theorem he_iload_3 {a0 a1 a2 : Option Value} {v : Int32} : hw_d l D z lw ini o cc nL ret d mc ms Q k pc kc ks K n I L P (a0 :: a1 :: a2 :: some (.int v) :: t) st (.ok (.iload_n 3, 1)) = (k (pc + 1) kc ks K n I L P (a0 :: a1 :: a2 :: some (.int v) :: t) (.int v :: st)) := propext ⟨fun h => by obtain ⟨-, u, e, h⟩ := h; cases e; exact h, fun h => ⟨rfl, v, rfl, h⟩⟩
theorem he_iload_4 {a0 a1 a2 a3 : Option Value} {v : Int32} : hw_d l D z lw ini o cc nL ret d mc ms Q k pc kc ks K n I L P (a0 :: a1 :: a2 :: a3 :: some (.int v) :: t) st (.ok (.iload 4, 2)) = (k (pc + 2) kc ks K n I L P (a0 :: a1 :: a2 :: a3 :: some (.int v) :: t) (.int v :: st)) := propext ⟨fun h => by obtain ⟨-, u, e, h⟩ := h; cases e; exact h, fun h => ⟨rfl, v, rfl, h⟩⟩
theorem he_iload_5 {a0 a1 a2 a3 a4 : Option Value} {v : Int32} : hw_d l D z lw ini o cc nL ret d mc ms Q k pc kc ks K n I L P (a0 :: a1 :: a2 :: a3 :: a4 :: some (.int v) :: t) st (.ok (.iload 5, 2)) = (k (pc + 2) kc ks K n I L P (a0 :: a1 :: a2 :: a3 :: a4 :: some (.int v) :: t) (.int v :: st)) := propext ⟨fun h => by obtain ⟨-, u, e, h⟩ := h; cases e; exact h, fun h => ⟨rfl, v, rfl, h⟩⟩
theorem he_iload_6 {a0 a1 a2 a3 a4 a5 : Option Value} {v : Int32} : hw_d l D z lw ini o cc nL ret d mc ms Q k pc kc ks K n I L P (a0 :: a1 :: a2 :: a3 :: a4 :: a5 :: some (.int v) :: t) st (.ok (.iload 6, 2)) = (k (pc + 2) kc ks K n I L P (a0 :: a1 :: a2 :: a3 :: a4 :: a5 :: some (.int v) :: t) (.int v :: st)) := propext ⟨fun h => by obtain ⟨-, u, e, h⟩ := h; cases e; exact h, fun h => ⟨rfl, v, rfl, h⟩⟩
theorem he_iload_7 {a0 a1 a2 a3 a4 a5 a6 : Option Value} {v : Int32} : hw_d l D z lw ini o cc nL ret d mc ms Q k pc kc ks K n I L P (a0 :: a1 :: a2 :: a3 :: a4 :: a5 :: a6 :: some (.int v) :: t) st (.ok (.iload 7, 2)) = (k (pc + 2) kc ks K n I L P (a0 :: a1 :: a2 :: a3 :: a4 :: a5 :: a6 :: some (.int v) :: t) (.int v :: st)) := propext ⟨fun h => by obtain ⟨-, u, e, h⟩ := h; cases e; exact h, fun h => ⟨rfl, v, rfl, h⟩⟩
theorem he_iload_8 {a0 a1 a2 a3 a4 a5 a6 a7 : Option Value} {v : Int32} : hw_d l D z lw ini o cc nL ret d mc ms Q k pc kc ks K n I L P (a0 :: a1 :: a2 :: a3 :: a4 :: a5 :: a6 :: a7 :: some (.int v) :: t) st (.ok (.iload 8, 2)) = (k (pc + 2) kc ks K n I L P (a0 :: a1 :: a2 :: a3 :: a4 :: a5 :: a6 :: a7 :: some (.int v) :: t) (.int v :: st)) := propext ⟨fun h => by obtain ⟨-, u, e, h⟩ := h; cases e; exact h, fun h => ⟨rfl, v, rfl, h⟩⟩
theorem he_iload_9 {a0 a1 a2 a3 a4 a5 a6 a7 a8 : Option Value} {v : Int32} : hw_d l D z lw ini o cc nL ret d mc ms Q k pc kc ks K n I L P (a0 :: a1 :: a2 :: a3 :: a4 :: a5 :: a6 :: a7 :: a8 :: some (.int v) :: t) st (.ok (.iload 9, 2)) = (k (pc + 2) kc ks K n I L P (a0 :: a1 :: a2 :: a3 :: a4 :: a5 :: a6 :: a7 :: a8 :: some (.int v) :: t) (.int v :: st)) := propext ⟨fun h => by obtain ⟨-, u, e, h⟩ := h; cases e; exact h, fun h => ⟨rfl, v, rfl, h⟩⟩
theorem he_iload_10 {a0 a1 a2 a3 a4 a5 a6 a7 a8 a9 : Option Value} {v : Int32} : hw_d l D z lw ini o cc nL ret d mc ms Q k pc kc ks K n I L P (a0 :: a1 :: a2 :: a3 :: a4 :: a5 :: a6 :: a7 :: a8 :: a9 :: some (.int v) :: t) st (.ok (.iload 10, 2)) = (k (pc + 2) kc ks K n I L P (a0 :: a1 :: a2 :: a3 :: a4 :: a5 :: a6 :: a7 :: a8 :: a9 :: some (.int v) :: t) (.int v :: st)) := propext ⟨fun h => by obtain ⟨-, u, e, h⟩ := h; cases e; exact h, fun h => ⟨rfl, v, rfl, h⟩⟩
theorem he_lload_0 {v : Int64} : hw_d l D z lw ini o cc nL ret d mc ms Q k pc kc ks K n I L P (some (.long v) :: t) st (.ok (.lload_n 0, 1)) = (k (pc + 1) kc ks K n I L P (some (.long v) :: t) (.long v :: st)) := propext ⟨fun h => by obtain ⟨-, u, e, h⟩ := h; cases e; exact h, fun h => ⟨rfl, v, rfl, h⟩⟩
theorem he_lload_1 {a0 : Option Value} {v : Int64} : hw_d l D z lw ini o cc nL ret d mc ms Q k pc kc ks K n I L P (a0 :: some (.long v) :: t) st (.ok (.lload_n 1, 1)) = (k (pc + 1) kc ks K n I L P (a0 :: some (.long v) :: t) (.long v :: st)) := propext ⟨fun h => by obtain ⟨-, u, e, h⟩ := h; cases e; exact h, fun h => ⟨rfl, v, rfl, h⟩⟩
theorem he_lload_2 {a0 a1 : Option Value} {v : Int64} : hw_d l D z lw ini o cc nL ret d mc ms Q k pc kc ks K n I L P (a0 :: a1 :: some (.long v) :: t) st (.ok (.lload_n 2, 1)) = (k (pc + 1) kc ks K n I L P (a0 :: a1 :: some (.long v) :: t) (.long v :: st)) := propext ⟨fun h => by obtain ⟨-, u, e, h⟩ := h; cases e; exact h, fun h => ⟨rfl, v, rfl, h⟩⟩
theorem he_lload_3 {a0 a1 a2 : Option Value} {v : Int64} : hw_d l D z lw ini o cc nL ret d mc ms Q k pc kc ks K n I L P (a0 :: a1 :: a2 :: some (.long v) :: t) st (.ok (.lload_n 3, 1)) = (k (pc + 1) kc ks K n I L P (a0 :: a1 :: a2 :: some (.long v) :: t) (.long v :: st)) := propext ⟨fun h => by obtain ⟨-, u, e, h⟩ := h; cases e; exact h, fun h => ⟨rfl, v, rfl, h⟩⟩
theorem he_lload_4 {a0 a1 a2 a3 : Option Value} {v : Int64} : hw_d l D z lw ini o cc nL ret d mc ms Q k pc kc ks K n I L P (a0 :: a1 :: a2 :: a3 :: some (.long v) :: t) st (.ok (.lload 4, 2)) = (k (pc + 2) kc ks K n I L P (a0 :: a1 :: a2 :: a3 :: some (.long v) :: t) (.long v :: st)) := propext ⟨fun h => by obtain ⟨-, u, e, h⟩ := h; cases e; exact h, fun h => ⟨rfl, v, rfl, h⟩⟩
theorem he_lload_5 {a0 a1 a2 a3 a4 : Option Value} {v : Int64} : hw_d l D z lw ini o cc nL ret d mc ms Q k pc kc ks K n I L P (a0 :: a1 :: a2 :: a3 :: a4 :: some (.long v) :: t) st (.ok (.lload 5, 2)) = (k (pc + 2) kc ks K n I L P (a0 :: a1 :: a2 :: a3 :: a4 :: some (.long v) :: t) (.long v :: st)) := propext ⟨fun h => by obtain ⟨-, u, e, h⟩ := h; cases e; exact h, fun h => ⟨rfl, v, rfl, h⟩⟩
theorem he_aload_0 {v : Nat} : hw_d l D z lw ini o cc nL ret d mc ms Q k pc kc ks K n I L P (some (.ref v) :: t) st (.ok (.aload_n 0, 1)) = (k (pc + 1) kc ks K n I L P (some (.ref v) :: t) (.ref v :: st)) := propext ⟨fun h => by obtain ⟨-, u, e, h⟩ := h; cases u <;> cases e; exact h, fun h => ⟨rfl, (some v), rfl, h⟩⟩
theorem he_aload_1 {a0 : Option Value} {v : Nat} : hw_d l D z lw ini o cc nL ret d mc ms Q k pc kc ks K n I L P (a0 :: some (.ref v) :: t) st (.ok (.aload_n 1, 1)) = (k (pc + 1) kc ks K n I L P (a0 :: some (.ref v) :: t) (.ref v :: st)) := propext ⟨fun h => by obtain ⟨-, u, e, h⟩ := h; cases u <;> cases e; exact h, fun h => ⟨rfl, (some v), rfl, h⟩⟩
theorem he_aload_2 {a0 a1 : Option Value} {v : Nat} : hw_d l D z lw ini o cc nL ret d mc ms Q k pc kc ks K n I L P (a0 :: a1 :: some (.ref v) :: t) st (.ok (.aload_n 2, 1)) = (k (pc + 1) kc ks K n I L P (a0 :: a1 :: some (.ref v) :: t) (.ref v :: st)) := propext ⟨fun h => by obtain ⟨-, u, e, h⟩ := h; cases u <;> cases e; exact h, fun h => ⟨rfl, (some v), rfl, h⟩⟩
theorem he_aload_3 {a0 a1 a2 : Option Value} {v : Nat} : hw_d l D z lw ini o cc nL ret d mc ms Q k pc kc ks K n I L P (a0 :: a1 :: a2 :: some (.ref v) :: t) st (.ok (.aload_n 3, 1)) = (k (pc + 1) kc ks K n I L P (a0 :: a1 :: a2 :: some (.ref v) :: t) (.ref v :: st)) := propext ⟨fun h => by obtain ⟨-, u, e, h⟩ := h; cases u <;> cases e; exact h, fun h => ⟨rfl, (some v), rfl, h⟩⟩
theorem he_aload_4 {a0 a1 a2 a3 : Option Value} {v : Nat} : hw_d l D z lw ini o cc nL ret d mc ms Q k pc kc ks K n I L P (a0 :: a1 :: a2 :: a3 :: some (.ref v) :: t) st (.ok (.aload 4, 2)) = (k (pc + 2) kc ks K n I L P (a0 :: a1 :: a2 :: a3 :: some (.ref v) :: t) (.ref v :: st)) := propext ⟨fun h => by obtain ⟨-, u, e, h⟩ := h; cases u <;> cases e; exact h, fun h => ⟨rfl, (some v), rfl, h⟩⟩
theorem he_aload_5 {a0 a1 a2 a3 a4 : Option Value} {v : Nat} : hw_d l D z lw ini o cc nL ret d mc ms Q k pc kc ks K n I L P (a0 :: a1 :: a2 :: a3 :: a4 :: some (.ref v) :: t) st (.ok (.aload 5, 2)) = (k (pc + 2) kc ks K n I L P (a0 :: a1 :: a2 :: a3 :: a4 :: some (.ref v) :: t) (.ref v :: st)) := propext ⟨fun h => by obtain ⟨-, u, e, h⟩ := h; cases u <;> cases e; exact h, fun h => ⟨rfl, (some v), rfl, h⟩⟩
theorem he_aload_6 {a0 a1 a2 a3 a4 a5 : Option Value} {v : Nat} : hw_d l D z lw ini o cc nL ret d mc ms Q k pc kc ks K n I L P (a0 :: a1 :: a2 :: a3 :: a4 :: a5 :: some (.ref v) :: t) st (.ok (.aload 6, 2)) = (k (pc + 2) kc ks K n I L P (a0 :: a1 :: a2 :: a3 :: a4 :: a5 :: some (.ref v) :: t) (.ref v :: st)) := propext ⟨fun h => by obtain ⟨-, u, e, h⟩ := h; cases u <;> cases e; exact h, fun h => ⟨rfl, (some v), rfl, h⟩⟩
theorem he_aload_7 {a0 a1 a2 a3 a4 a5 a6 : Option Value} {v : Nat} : hw_d l D z lw ini o cc nL ret d mc ms Q k pc kc ks K n I L P (a0 :: a1 :: a2 :: a3 :: a4 :: a5 :: a6 :: some (.ref v) :: t) st (.ok (.aload 7, 2)) = (k (pc + 2) kc ks K n I L P (a0 :: a1 :: a2 :: a3 :: a4 :: a5 :: a6 :: some (.ref v) :: t) (.ref v :: st)) := propext ⟨fun h => by obtain ⟨-, u, e, h⟩ := h; cases u <;> cases e; exact h, fun h => ⟨rfl, (some v), rfl, h⟩⟩
theorem he_aload_8 {a0 a1 a2 a3 a4 a5 a6 a7 : Option Value} {v : Nat} : hw_d l D z lw ini o cc nL ret d mc ms Q k pc kc ks K n I L P (a0 :: a1 :: a2 :: a3 :: a4 :: a5 :: a6 :: a7 :: some (.ref v) :: t) st (.ok (.aload 8, 2)) = (k (pc + 2) kc ks K n I L P (a0 :: a1 :: a2 :: a3 :: a4 :: a5 :: a6 :: a7 :: some (.ref v) :: t) (.ref v :: st)) := propext ⟨fun h => by obtain ⟨-, u, e, h⟩ := h; cases u <;> cases e; exact h, fun h => ⟨rfl, (some v), rfl, h⟩⟩
theorem he_aload_0n  : hw_d l D z lw ini o cc nL ret d mc ms Q k pc kc ks K n I L P (some (.null) :: t) st (.ok (.aload_n 0, 1)) = (k (pc + 1) kc ks K n I L P (some (.null) :: t) (.null :: st)) := propext ⟨fun h => by obtain ⟨-, u, e, h⟩ := h; cases u <;> cases e; exact h, fun h => ⟨rfl, none, rfl, h⟩⟩
theorem he_aload_1n {a0 : Option Value}  : hw_d l D z lw ini o cc nL ret d mc ms Q k pc kc ks K n I L P (a0 :: some (.null) :: t) st (.ok (.aload_n 1, 1)) = (k (pc + 1) kc ks K n I L P (a0 :: some (.null) :: t) (.null :: st)) := propext ⟨fun h => by obtain ⟨-, u, e, h⟩ := h; cases u <;> cases e; exact h, fun h => ⟨rfl, none, rfl, h⟩⟩
theorem he_aload_2n {a0 a1 : Option Value}  : hw_d l D z lw ini o cc nL ret d mc ms Q k pc kc ks K n I L P (a0 :: a1 :: some (.null) :: t) st (.ok (.aload_n 2, 1)) = (k (pc + 1) kc ks K n I L P (a0 :: a1 :: some (.null) :: t) (.null :: st)) := propext ⟨fun h => by obtain ⟨-, u, e, h⟩ := h; cases u <;> cases e; exact h, fun h => ⟨rfl, none, rfl, h⟩⟩
theorem he_aload_3n {a0 a1 a2 : Option Value}  : hw_d l D z lw ini o cc nL ret d mc ms Q k pc kc ks K n I L P (a0 :: a1 :: a2 :: some (.null) :: t) st (.ok (.aload_n 3, 1)) = (k (pc + 1) kc ks K n I L P (a0 :: a1 :: a2 :: some (.null) :: t) (.null :: st)) := propext ⟨fun h => by obtain ⟨-, u, e, h⟩ := h; cases u <;> cases e; exact h, fun h => ⟨rfl, none, rfl, h⟩⟩
theorem he_aload_4n {a0 a1 a2 a3 : Option Value}  : hw_d l D z lw ini o cc nL ret d mc ms Q k pc kc ks K n I L P (a0 :: a1 :: a2 :: a3 :: some (.null) :: t) st (.ok (.aload 4, 2)) = (k (pc + 2) kc ks K n I L P (a0 :: a1 :: a2 :: a3 :: some (.null) :: t) (.null :: st)) := propext ⟨fun h => by obtain ⟨-, u, e, h⟩ := h; cases u <;> cases e; exact h, fun h => ⟨rfl, none, rfl, h⟩⟩
theorem he_aload_5n {a0 a1 a2 a3 a4 : Option Value}  : hw_d l D z lw ini o cc nL ret d mc ms Q k pc kc ks K n I L P (a0 :: a1 :: a2 :: a3 :: a4 :: some (.null) :: t) st (.ok (.aload 5, 2)) = (k (pc + 2) kc ks K n I L P (a0 :: a1 :: a2 :: a3 :: a4 :: some (.null) :: t) (.null :: st)) := propext ⟨fun h => by obtain ⟨-, u, e, h⟩ := h; cases u <;> cases e; exact h, fun h => ⟨rfl, none, rfl, h⟩⟩
theorem he_aload_6n {a0 a1 a2 a3 a4 a5 : Option Value}  : hw_d l D z lw ini o cc nL ret d mc ms Q k pc kc ks K n I L P (a0 :: a1 :: a2 :: a3 :: a4 :: a5 :: some (.null) :: t) st (.ok (.aload 6, 2)) = (k (pc + 2) kc ks K n I L P (a0 :: a1 :: a2 :: a3 :: a4 :: a5 :: some (.null) :: t) (.null :: st)) := propext ⟨fun h => by obtain ⟨-, u, e, h⟩ := h; cases u <;> cases e; exact h, fun h => ⟨rfl, none, rfl, h⟩⟩
theorem he_aload_7n {a0 a1 a2 a3 a4 a5 a6 : Option Value}  : hw_d l D z lw ini o cc nL ret d mc ms Q k pc kc ks K n I L P (a0 :: a1 :: a2 :: a3 :: a4 :: a5 :: a6 :: some (.null) :: t) st (.ok (.aload 7, 2)) = (k (pc + 2) kc ks K n I L P (a0 :: a1 :: a2 :: a3 :: a4 :: a5 :: a6 :: some (.null) :: t) (.null :: st)) := propext ⟨fun h => by obtain ⟨-, u, e, h⟩ := h; cases u <;> cases e; exact h, fun h => ⟨rfl, none, rfl, h⟩⟩
theorem he_aload_8n {a0 a1 a2 a3 a4 a5 a6 a7 : Option Value}  : hw_d l D z lw ini o cc nL ret d mc ms Q k pc kc ks K n I L P (a0 :: a1 :: a2 :: a3 :: a4 :: a5 :: a6 :: a7 :: some (.null) :: t) st (.ok (.aload 8, 2)) = (k (pc + 2) kc ks K n I L P (a0 :: a1 :: a2 :: a3 :: a4 :: a5 :: a6 :: a7 :: some (.null) :: t) (.null :: st)) := propext ⟨fun h => by obtain ⟨-, u, e, h⟩ := h; cases u <;> cases e; exact h, fun h => ⟨rfl, none, rfl, h⟩⟩
theorem he_istore_0 {v : Int32} : hw_d l D z lw ini o cc nL ret d mc ms Q k pc kc ks K n I L P ls (.int v :: r) (.ok (.istore_n 0, 1)) = (0 < nL ∧ k (pc + 1) kc ks K n I L P (hw_st ls 0 (.int v)) r) := propext ⟨fun h => by obtain ⟨-, u, w, e, h⟩ := h; cases e; exact h, fun h => ⟨rfl, v, _, rfl, h⟩⟩
theorem he_istore_1 {v : Int32} : hw_d l D z lw ini o cc nL ret d mc ms Q k pc kc ks K n I L P ls (.int v :: r) (.ok (.istore_n 1, 1)) = (1 < nL ∧ k (pc + 1) kc ks K n I L P (hw_st ls 1 (.int v)) r) := propext ⟨fun h => by obtain ⟨-, u, w, e, h⟩ := h; cases e; exact h, fun h => ⟨rfl, v, _, rfl, h⟩⟩
theorem he_istore_2 {v : Int32} : hw_d l D z lw ini o cc nL ret d mc ms Q k pc kc ks K n I L P ls (.int v :: r) (.ok (.istore_n 2, 1)) = (2 < nL ∧ k (pc + 1) kc ks K n I L P (hw_st ls 2 (.int v)) r) := propext ⟨fun h => by obtain ⟨-, u, w, e, h⟩ := h; cases e; exact h, fun h => ⟨rfl, v, _, rfl, h⟩⟩
theorem he_istore_3 {v : Int32} : hw_d l D z lw ini o cc nL ret d mc ms Q k pc kc ks K n I L P ls (.int v :: r) (.ok (.istore_n 3, 1)) = (3 < nL ∧ k (pc + 1) kc ks K n I L P (hw_st ls 3 (.int v)) r) := propext ⟨fun h => by obtain ⟨-, u, w, e, h⟩ := h; cases e; exact h, fun h => ⟨rfl, v, _, rfl, h⟩⟩
theorem he_istore_4 {v : Int32} : hw_d l D z lw ini o cc nL ret d mc ms Q k pc kc ks K n I L P ls (.int v :: r) (.ok (.istore 4, 2)) = (4 < nL ∧ k (pc + 2) kc ks K n I L P (hw_st ls 4 (.int v)) r) := propext ⟨fun h => by obtain ⟨-, u, w, e, h⟩ := h; cases e; exact h, fun h => ⟨rfl, v, _, rfl, h⟩⟩
theorem he_istore_5 {v : Int32} : hw_d l D z lw ini o cc nL ret d mc ms Q k pc kc ks K n I L P ls (.int v :: r) (.ok (.istore 5, 2)) = (5 < nL ∧ k (pc + 2) kc ks K n I L P (hw_st ls 5 (.int v)) r) := propext ⟨fun h => by obtain ⟨-, u, w, e, h⟩ := h; cases e; exact h, fun h => ⟨rfl, v, _, rfl, h⟩⟩
theorem he_istore_6 {v : Int32} : hw_d l D z lw ini o cc nL ret d mc ms Q k pc kc ks K n I L P ls (.int v :: r) (.ok (.istore 6, 2)) = (6 < nL ∧ k (pc + 2) kc ks K n I L P (hw_st ls 6 (.int v)) r) := propext ⟨fun h => by obtain ⟨-, u, w, e, h⟩ := h; cases e; exact h, fun h => ⟨rfl, v, _, rfl, h⟩⟩
theorem he_istore_7 {v : Int32} : hw_d l D z lw ini o cc nL ret d mc ms Q k pc kc ks K n I L P ls (.int v :: r) (.ok (.istore 7, 2)) = (7 < nL ∧ k (pc + 2) kc ks K n I L P (hw_st ls 7 (.int v)) r) := propext ⟨fun h => by obtain ⟨-, u, w, e, h⟩ := h; cases e; exact h, fun h => ⟨rfl, v, _, rfl, h⟩⟩
theorem he_istore_8 {v : Int32} : hw_d l D z lw ini o cc nL ret d mc ms Q k pc kc ks K n I L P ls (.int v :: r) (.ok (.istore 8, 2)) = (8 < nL ∧ k (pc + 2) kc ks K n I L P (hw_st ls 8 (.int v)) r) := propext ⟨fun h => by obtain ⟨-, u, w, e, h⟩ := h; cases e; exact h, fun h => ⟨rfl, v, _, rfl, h⟩⟩
theorem he_istore_9 {v : Int32} : hw_d l D z lw ini o cc nL ret d mc ms Q k pc kc ks K n I L P ls (.int v :: r) (.ok (.istore 9, 2)) = (9 < nL ∧ k (pc + 2) kc ks K n I L P (hw_st ls 9 (.int v)) r) := propext ⟨fun h => by obtain ⟨-, u, w, e, h⟩ := h; cases e; exact h, fun h => ⟨rfl, v, _, rfl, h⟩⟩
theorem he_istore_10 {v : Int32} : hw_d l D z lw ini o cc nL ret d mc ms Q k pc kc ks K n I L P ls (.int v :: r) (.ok (.istore 10, 2)) = (10 < nL ∧ k (pc + 2) kc ks K n I L P (hw_st ls 10 (.int v)) r) := propext ⟨fun h => by obtain ⟨-, u, w, e, h⟩ := h; cases e; exact h, fun h => ⟨rfl, v, _, rfl, h⟩⟩
theorem he_astore_0 {v : Nat} : hw_d l D z lw ini o cc nL ret d mc ms Q k pc kc ks K n I L P ls (.ref v :: r) (.ok (.astore_n 0, 1)) = (0 < nL ∧ k (pc + 1) kc ks K n I L P (hw_st ls 0 (.ref v)) r) := propext ⟨fun h => by obtain ⟨-, u, w, e, h⟩ := h; cases u <;> cases e; exact h, fun h => ⟨rfl, (some v), _, rfl, h⟩⟩
theorem he_astore_1 {v : Nat} : hw_d l D z lw ini o cc nL ret d mc ms Q k pc kc ks K n I L P ls (.ref v :: r) (.ok (.astore_n 1, 1)) = (1 < nL ∧ k (pc + 1) kc ks K n I L P (hw_st ls 1 (.ref v)) r) := propext ⟨fun h => by obtain ⟨-, u, w, e, h⟩ := h; cases u <;> cases e; exact h, fun h => ⟨rfl, (some v), _, rfl, h⟩⟩
theorem he_astore_2 {v : Nat} : hw_d l D z lw ini o cc nL ret d mc ms Q k pc kc ks K n I L P ls (.ref v :: r) (.ok (.astore_n 2, 1)) = (2 < nL ∧ k (pc + 1) kc ks K n I L P (hw_st ls 2 (.ref v)) r) := propext ⟨fun h => by obtain ⟨-, u, w, e, h⟩ := h; cases u <;> cases e; exact h, fun h => ⟨rfl, (some v), _, rfl, h⟩⟩
theorem he_astore_3 {v : Nat} : hw_d l D z lw ini o cc nL ret d mc ms Q k pc kc ks K n I L P ls (.ref v :: r) (.ok (.astore_n 3, 1)) = (3 < nL ∧ k (pc + 1) kc ks K n I L P (hw_st ls 3 (.ref v)) r) := propext ⟨fun h => by obtain ⟨-, u, w, e, h⟩ := h; cases u <;> cases e; exact h, fun h => ⟨rfl, (some v), _, rfl, h⟩⟩
theorem he_astore_4 {v : Nat} : hw_d l D z lw ini o cc nL ret d mc ms Q k pc kc ks K n I L P ls (.ref v :: r) (.ok (.astore 4, 2)) = (4 < nL ∧ k (pc + 2) kc ks K n I L P (hw_st ls 4 (.ref v)) r) := propext ⟨fun h => by obtain ⟨-, u, w, e, h⟩ := h; cases u <;> cases e; exact h, fun h => ⟨rfl, (some v), _, rfl, h⟩⟩
theorem he_astore_5 {v : Nat} : hw_d l D z lw ini o cc nL ret d mc ms Q k pc kc ks K n I L P ls (.ref v :: r) (.ok (.astore 5, 2)) = (5 < nL ∧ k (pc + 2) kc ks K n I L P (hw_st ls 5 (.ref v)) r) := propext ⟨fun h => by obtain ⟨-, u, w, e, h⟩ := h; cases u <;> cases e; exact h, fun h => ⟨rfl, (some v), _, rfl, h⟩⟩
theorem he_astore_6 {v : Nat} : hw_d l D z lw ini o cc nL ret d mc ms Q k pc kc ks K n I L P ls (.ref v :: r) (.ok (.astore 6, 2)) = (6 < nL ∧ k (pc + 2) kc ks K n I L P (hw_st ls 6 (.ref v)) r) := propext ⟨fun h => by obtain ⟨-, u, w, e, h⟩ := h; cases u <;> cases e; exact h, fun h => ⟨rfl, (some v), _, rfl, h⟩⟩
theorem he_astore_7 {v : Nat} : hw_d l D z lw ini o cc nL ret d mc ms Q k pc kc ks K n I L P ls (.ref v :: r) (.ok (.astore 7, 2)) = (7 < nL ∧ k (pc + 2) kc ks K n I L P (hw_st ls 7 (.ref v)) r) := propext ⟨fun h => by obtain ⟨-, u, w, e, h⟩ := h; cases u <;> cases e; exact h, fun h => ⟨rfl, (some v), _, rfl, h⟩⟩
theorem he_astore_8 {v : Nat} : hw_d l D z lw ini o cc nL ret d mc ms Q k pc kc ks K n I L P ls (.ref v :: r) (.ok (.astore 8, 2)) = (8 < nL ∧ k (pc + 2) kc ks K n I L P (hw_st ls 8 (.ref v)) r) := propext ⟨fun h => by obtain ⟨-, u, w, e, h⟩ := h; cases u <;> cases e; exact h, fun h => ⟨rfl, (some v), _, rfl, h⟩⟩
theorem he_astore_0n  : hw_d l D z lw ini o cc nL ret d mc ms Q k pc kc ks K n I L P ls (.null :: r) (.ok (.astore_n 0, 1)) = (0 < nL ∧ k (pc + 1) kc ks K n I L P (hw_st ls 0 (.null)) r) := propext ⟨fun h => by obtain ⟨-, u, w, e, h⟩ := h; cases u <;> cases e; exact h, fun h => ⟨rfl, none, _, rfl, h⟩⟩
theorem he_astore_1n  : hw_d l D z lw ini o cc nL ret d mc ms Q k pc kc ks K n I L P ls (.null :: r) (.ok (.astore_n 1, 1)) = (1 < nL ∧ k (pc + 1) kc ks K n I L P (hw_st ls 1 (.null)) r) := propext ⟨fun h => by obtain ⟨-, u, w, e, h⟩ := h; cases u <;> cases e; exact h, fun h => ⟨rfl, none, _, rfl, h⟩⟩
theorem he_astore_2n  : hw_d l D z lw ini o cc nL ret d mc ms Q k pc kc ks K n I L P ls (.null :: r) (.ok (.astore_n 2, 1)) = (2 < nL ∧ k (pc + 1) kc ks K n I L P (hw_st ls 2 (.null)) r) := propext ⟨fun h => by obtain ⟨-, u, w, e, h⟩ := h; cases u <;> cases e; exact h, fun h => ⟨rfl, none, _, rfl, h⟩⟩
theorem he_astore_3n  : hw_d l D z lw ini o cc nL ret d mc ms Q k pc kc ks K n I L P ls (.null :: r) (.ok (.astore_n 3, 1)) = (3 < nL ∧ k (pc + 1) kc ks K n I L P (hw_st ls 3 (.null)) r) := propext ⟨fun h => by obtain ⟨-, u, w, e, h⟩ := h; cases u <;> cases e; exact h, fun h => ⟨rfl, none, _, rfl, h⟩⟩
theorem he_astore_4n  : hw_d l D z lw ini o cc nL ret d mc ms Q k pc kc ks K n I L P ls (.null :: r) (.ok (.astore 4, 2)) = (4 < nL ∧ k (pc + 2) kc ks K n I L P (hw_st ls 4 (.null)) r) := propext ⟨fun h => by obtain ⟨-, u, w, e, h⟩ := h; cases u <;> cases e; exact h, fun h => ⟨rfl, none, _, rfl, h⟩⟩
theorem he_astore_5n  : hw_d l D z lw ini o cc nL ret d mc ms Q k pc kc ks K n I L P ls (.null :: r) (.ok (.astore 5, 2)) = (5 < nL ∧ k (pc + 2) kc ks K n I L P (hw_st ls 5 (.null)) r) := propext ⟨fun h => by obtain ⟨-, u, w, e, h⟩ := h; cases u <;> cases e; exact h, fun h => ⟨rfl, none, _, rfl, h⟩⟩
theorem he_astore_6n  : hw_d l D z lw ini o cc nL ret d mc ms Q k pc kc ks K n I L P ls (.null :: r) (.ok (.astore 6, 2)) = (6 < nL ∧ k (pc + 2) kc ks K n I L P (hw_st ls 6 (.null)) r) := propext ⟨fun h => by obtain ⟨-, u, w, e, h⟩ := h; cases u <;> cases e; exact h, fun h => ⟨rfl, none, _, rfl, h⟩⟩
theorem he_astore_7n  : hw_d l D z lw ini o cc nL ret d mc ms Q k pc kc ks K n I L P ls (.null :: r) (.ok (.astore 7, 2)) = (7 < nL ∧ k (pc + 2) kc ks K n I L P (hw_st ls 7 (.null)) r) := propext ⟨fun h => by obtain ⟨-, u, w, e, h⟩ := h; cases u <;> cases e; exact h, fun h => ⟨rfl, none, _, rfl, h⟩⟩
theorem he_astore_8n  : hw_d l D z lw ini o cc nL ret d mc ms Q k pc kc ks K n I L P ls (.null :: r) (.ok (.astore 8, 2)) = (8 < nL ∧ k (pc + 2) kc ks K n I L P (hw_st ls 8 (.null)) r) := propext ⟨fun h => by obtain ⟨-, u, w, e, h⟩ := h; cases u <;> cases e; exact h, fun h => ⟨rfl, none, _, rfl, h⟩⟩
theorem he_lstore_0 {v : Int64} : hw_d l D z lw ini o cc nL ret d mc ms Q k pc kc ks K n I L P ls (.long v :: r) (.ok (.lstore_n 0, 1)) = (0 + 1 < nL ∧ k (pc + 1) kc ks K n I L P (hw_st2 ls 0 (.long v)) r) := propext ⟨fun h => by obtain ⟨-, u, w, e, h⟩ := h; cases e; exact h, fun h => ⟨rfl, v, _, rfl, h⟩⟩
theorem he_lstore_1 {v : Int64} : hw_d l D z lw ini o cc nL ret d mc ms Q k pc kc ks K n I L P ls (.long v :: r) (.ok (.lstore_n 1, 1)) = (1 + 1 < nL ∧ k (pc + 1) kc ks K n I L P (hw_st2 ls 1 (.long v)) r) := propext ⟨fun h => by obtain ⟨-, u, w, e, h⟩ := h; cases e; exact h, fun h => ⟨rfl, v, _, rfl, h⟩⟩
theorem he_lstore_2 {v : Int64} : hw_d l D z lw ini o cc nL ret d mc ms Q k pc kc ks K n I L P ls (.long v :: r) (.ok (.lstore_n 2, 1)) = (2 + 1 < nL ∧ k (pc + 1) kc ks K n I L P (hw_st2 ls 2 (.long v)) r) := propext ⟨fun h => by obtain ⟨-, u, w, e, h⟩ := h; cases e; exact h, fun h => ⟨rfl, v, _, rfl, h⟩⟩
theorem he_lstore_3 {v : Int64} : hw_d l D z lw ini o cc nL ret d mc ms Q k pc kc ks K n I L P ls (.long v :: r) (.ok (.lstore_n 3, 1)) = (3 + 1 < nL ∧ k (pc + 1) kc ks K n I L P (hw_st2 ls 3 (.long v)) r) := propext ⟨fun h => by obtain ⟨-, u, w, e, h⟩ := h; cases e; exact h, fun h => ⟨rfl, v, _, rfl, h⟩⟩
theorem he_iinc_0 {v : Int32} {w : Int} : hw_d l D z lw ini o cc nL ret d mc ms Q k pc kc ks K n I L P (some (.int v) :: t) st (.ok (.iinc 0 w, 3)) = (0 < nL ∧ k (pc + 3) kc ks K n I L P (hw_st (some (.int v) :: t) 0 (.int (v + Int32.ofInt w))) st) := propext ⟨fun h => by obtain ⟨-, u, e, h⟩ := h; cases e; exact h, fun h => ⟨rfl, v, rfl, h⟩⟩
theorem he_iinc_1 {a0 : Option Value} {v : Int32} {w : Int} : hw_d l D z lw ini o cc nL ret d mc ms Q k pc kc ks K n I L P (a0 :: some (.int v) :: t) st (.ok (.iinc 1 w, 3)) = (1 < nL ∧ k (pc + 3) kc ks K n I L P (hw_st (a0 :: some (.int v) :: t) 1 (.int (v + Int32.ofInt w))) st) := propext ⟨fun h => by obtain ⟨-, u, e, h⟩ := h; cases e; exact h, fun h => ⟨rfl, v, rfl, h⟩⟩
theorem he_iinc_2 {a0 a1 : Option Value} {v : Int32} {w : Int} : hw_d l D z lw ini o cc nL ret d mc ms Q k pc kc ks K n I L P (a0 :: a1 :: some (.int v) :: t) st (.ok (.iinc 2 w, 3)) = (2 < nL ∧ k (pc + 3) kc ks K n I L P (hw_st (a0 :: a1 :: some (.int v) :: t) 2 (.int (v + Int32.ofInt w))) st) := propext ⟨fun h => by obtain ⟨-, u, e, h⟩ := h; cases e; exact h, fun h => ⟨rfl, v, rfl, h⟩⟩
theorem he_iinc_3 {a0 a1 a2 : Option Value} {v : Int32} {w : Int} : hw_d l D z lw ini o cc nL ret d mc ms Q k pc kc ks K n I L P (a0 :: a1 :: a2 :: some (.int v) :: t) st (.ok (.iinc 3 w, 3)) = (3 < nL ∧ k (pc + 3) kc ks K n I L P (hw_st (a0 :: a1 :: a2 :: some (.int v) :: t) 3 (.int (v + Int32.ofInt w))) st) := propext ⟨fun h => by obtain ⟨-, u, e, h⟩ := h; cases e; exact h, fun h => ⟨rfl, v, rfl, h⟩⟩
theorem he_iinc_4 {a0 a1 a2 a3 : Option Value} {v : Int32} {w : Int} : hw_d l D z lw ini o cc nL ret d mc ms Q k pc kc ks K n I L P (a0 :: a1 :: a2 :: a3 :: some (.int v) :: t) st (.ok (.iinc 4 w, 3)) = (4 < nL ∧ k (pc + 3) kc ks K n I L P (hw_st (a0 :: a1 :: a2 :: a3 :: some (.int v) :: t) 4 (.int (v + Int32.ofInt w))) st) := propext ⟨fun h => by obtain ⟨-, u, e, h⟩ := h; cases e; exact h, fun h => ⟨rfl, v, rfl, h⟩⟩
theorem he_iinc_5 {a0 a1 a2 a3 a4 : Option Value} {v : Int32} {w : Int} : hw_d l D z lw ini o cc nL ret d mc ms Q k pc kc ks K n I L P (a0 :: a1 :: a2 :: a3 :: a4 :: some (.int v) :: t) st (.ok (.iinc 5 w, 3)) = (5 < nL ∧ k (pc + 3) kc ks K n I L P (hw_st (a0 :: a1 :: a2 :: a3 :: a4 :: some (.int v) :: t) 5 (.int (v + Int32.ofInt w))) st) := propext ⟨fun h => by obtain ⟨-, u, e, h⟩ := h; cases e; exact h, fun h => ⟨rfl, v, rfl, h⟩⟩
theorem he_iinc_6 {a0 a1 a2 a3 a4 a5 : Option Value} {v : Int32} {w : Int} : hw_d l D z lw ini o cc nL ret d mc ms Q k pc kc ks K n I L P (a0 :: a1 :: a2 :: a3 :: a4 :: a5 :: some (.int v) :: t) st (.ok (.iinc 6 w, 3)) = (6 < nL ∧ k (pc + 3) kc ks K n I L P (hw_st (a0 :: a1 :: a2 :: a3 :: a4 :: a5 :: some (.int v) :: t) 6 (.int (v + Int32.ofInt w))) st) := propext ⟨fun h => by obtain ⟨-, u, e, h⟩ := h; cases e; exact h, fun h => ⟨rfl, v, rfl, h⟩⟩
theorem he_iinc_7 {a0 a1 a2 a3 a4 a5 a6 : Option Value} {v : Int32} {w : Int} : hw_d l D z lw ini o cc nL ret d mc ms Q k pc kc ks K n I L P (a0 :: a1 :: a2 :: a3 :: a4 :: a5 :: a6 :: some (.int v) :: t) st (.ok (.iinc 7 w, 3)) = (7 < nL ∧ k (pc + 3) kc ks K n I L P (hw_st (a0 :: a1 :: a2 :: a3 :: a4 :: a5 :: a6 :: some (.int v) :: t) 7 (.int (v + Int32.ofInt w))) st) := propext ⟨fun h => by obtain ⟨-, u, e, h⟩ := h; cases e; exact h, fun h => ⟨rfl, v, rfl, h⟩⟩
theorem he_iinc_8 {a0 a1 a2 a3 a4 a5 a6 a7 : Option Value} {v : Int32} {w : Int} : hw_d l D z lw ini o cc nL ret d mc ms Q k pc kc ks K n I L P (a0 :: a1 :: a2 :: a3 :: a4 :: a5 :: a6 :: a7 :: some (.int v) :: t) st (.ok (.iinc 8 w, 3)) = (8 < nL ∧ k (pc + 3) kc ks K n I L P (hw_st (a0 :: a1 :: a2 :: a3 :: a4 :: a5 :: a6 :: a7 :: some (.int v) :: t) 8 (.int (v + Int32.ofInt w))) st) := propext ⟨fun h => by obtain ⟨-, u, e, h⟩ := h; cases e; exact h, fun h => ⟨rfl, v, rfl, h⟩⟩
theorem he_iinc_9 {a0 a1 a2 a3 a4 a5 a6 a7 a8 : Option Value} {v : Int32} {w : Int} : hw_d l D z lw ini o cc nL ret d mc ms Q k pc kc ks K n I L P (a0 :: a1 :: a2 :: a3 :: a4 :: a5 :: a6 :: a7 :: a8 :: some (.int v) :: t) st (.ok (.iinc 9 w, 3)) = (9 < nL ∧ k (pc + 3) kc ks K n I L P (hw_st (a0 :: a1 :: a2 :: a3 :: a4 :: a5 :: a6 :: a7 :: a8 :: some (.int v) :: t) 9 (.int (v + Int32.ofInt w))) st) := propext ⟨fun h => by obtain ⟨-, u, e, h⟩ := h; cases e; exact h, fun h => ⟨rfl, v, rfl, h⟩⟩
theorem he_iinc_10 {a0 a1 a2 a3 a4 a5 a6 a7 a8 a9 : Option Value} {v : Int32} {w : Int} : hw_d l D z lw ini o cc nL ret d mc ms Q k pc kc ks K n I L P (a0 :: a1 :: a2 :: a3 :: a4 :: a5 :: a6 :: a7 :: a8 :: a9 :: some (.int v) :: t) st (.ok (.iinc 10 w, 3)) = (10 < nL ∧ k (pc + 3) kc ks K n I L P (hw_st (a0 :: a1 :: a2 :: a3 :: a4 :: a5 :: a6 :: a7 :: a8 :: a9 :: some (.int v) :: t) 10 (.int (v + Int32.ofInt w))) st) := propext ⟨fun h => by obtain ⟨-, u, e, h⟩ := h; cases e; exact h, fun h => ⟨rfl, v, rfl, h⟩⟩
theorem he_if_eq {x : Int32} {off : Int} : hw_d l D z lw ini o cc nL ret d mc ms Q k pc kc ks K n I L P ls (.int x :: r) (.ok (.ifCond .eq off, 3)) = (0 ≤ (pc : Int) + off ∧ (x = 0 → k (hw_t pc off) kc ks K n I L P ls r) ∧ (¬ x = 0 → k (pc + 3) kc ks K n I L P ls r)) := propext ⟨fun h => by obtain ⟨-, u0, u1, e, h⟩ := h; cases e; exact h, fun h => ⟨rfl, _, _, rfl, h⟩⟩
theorem he_if_ne {x : Int32} {off : Int} : hw_d l D z lw ini o cc nL ret d mc ms Q k pc kc ks K n I L P ls (.int x :: r) (.ok (.ifCond .ne off, 3)) = (0 ≤ (pc : Int) + off ∧ (¬ x = 0 → k (hw_t pc off) kc ks K n I L P ls r) ∧ (x = 0 → k (pc + 3) kc ks K n I L P ls r)) := propext ⟨fun h => by obtain ⟨-, u0, u1, e, h⟩ := h; cases e; exact h, fun h => ⟨rfl, _, _, rfl, h⟩⟩
theorem he_if_lt {x : Int32} {off : Int} : hw_d l D z lw ini o cc nL ret d mc ms Q k pc kc ks K n I L P ls (.int x :: r) (.ok (.ifCond .lt off, 3)) = (0 ≤ (pc : Int) + off ∧ (x < 0 → k (hw_t pc off) kc ks K n I L P ls r) ∧ (¬ x < 0 → k (pc + 3) kc ks K n I L P ls r)) := propext ⟨fun h => by obtain ⟨-, u0, u1, e, h⟩ := h; cases e; exact h, fun h => ⟨rfl, _, _, rfl, h⟩⟩
theorem he_if_ge {x : Int32} {off : Int} : hw_d l D z lw ini o cc nL ret d mc ms Q k pc kc ks K n I L P ls (.int x :: r) (.ok (.ifCond .ge off, 3)) = (0 ≤ (pc : Int) + off ∧ (0 ≤ x → k (hw_t pc off) kc ks K n I L P ls r) ∧ (¬ 0 ≤ x → k (pc + 3) kc ks K n I L P ls r)) := propext ⟨fun h => by obtain ⟨-, u0, u1, e, h⟩ := h; cases e; exact h, fun h => ⟨rfl, _, _, rfl, h⟩⟩
theorem he_if_gt {x : Int32} {off : Int} : hw_d l D z lw ini o cc nL ret d mc ms Q k pc kc ks K n I L P ls (.int x :: r) (.ok (.ifCond .gt off, 3)) = (0 ≤ (pc : Int) + off ∧ (0 < x → k (hw_t pc off) kc ks K n I L P ls r) ∧ (¬ 0 < x → k (pc + 3) kc ks K n I L P ls r)) := propext ⟨fun h => by obtain ⟨-, u0, u1, e, h⟩ := h; cases e; exact h, fun h => ⟨rfl, _, _, rfl, h⟩⟩
theorem he_if_le {x : Int32} {off : Int} : hw_d l D z lw ini o cc nL ret d mc ms Q k pc kc ks K n I L P ls (.int x :: r) (.ok (.ifCond .le off, 3)) = (0 ≤ (pc : Int) + off ∧ (x ≤ 0 → k (hw_t pc off) kc ks K n I L P ls r) ∧ (¬ x ≤ 0 → k (pc + 3) kc ks K n I L P ls r)) := propext ⟨fun h => by obtain ⟨-, u0, u1, e, h⟩ := h; cases e; exact h, fun h => ⟨rfl, _, _, rfl, h⟩⟩
theorem he_icmp_eq {x y : Int32} {off : Int} : hw_d l D z lw ini o cc nL ret d mc ms Q k pc kc ks K n I L P ls (.int y :: .int x :: r) (.ok (.if_icmp .eq off, 3)) = (0 ≤ (pc : Int) + off ∧ (x = y → k (hw_t pc off) kc ks K n I L P ls r) ∧ (¬ x = y → k (pc + 3) kc ks K n I L P ls r)) := propext ⟨fun h => by obtain ⟨-, u0, u1, u2, e, h⟩ := h; cases e; exact h, fun h => ⟨rfl, _, _, _, rfl, h⟩⟩
theorem he_icmp_ne {x y : Int32} {off : Int} : hw_d l D z lw ini o cc nL ret d mc ms Q k pc kc ks K n I L P ls (.int y :: .int x :: r) (.ok (.if_icmp .ne off, 3)) = (0 ≤ (pc : Int) + off ∧ (¬ x = y → k (hw_t pc off) kc ks K n I L P ls r) ∧ (x = y → k (pc + 3) kc ks K n I L P ls r)) := propext ⟨fun h => by obtain ⟨-, u0, u1, u2, e, h⟩ := h; cases e; exact h, fun h => ⟨rfl, _, _, _, rfl, h⟩⟩
theorem he_icmp_lt {x y : Int32} {off : Int} : hw_d l D z lw ini o cc nL ret d mc ms Q k pc kc ks K n I L P ls (.int y :: .int x :: r) (.ok (.if_icmp .lt off, 3)) = (0 ≤ (pc : Int) + off ∧ (x < y → k (hw_t pc off) kc ks K n I L P ls r) ∧ (¬ x < y → k (pc + 3) kc ks K n I L P ls r)) := propext ⟨fun h => by obtain ⟨-, u0, u1, u2, e, h⟩ := h; cases e; exact h, fun h => ⟨rfl, _, _, _, rfl, h⟩⟩
theorem he_icmp_ge {x y : Int32} {off : Int} : hw_d l D z lw ini o cc nL ret d mc ms Q k pc kc ks K n I L P ls (.int y :: .int x :: r) (.ok (.if_icmp .ge off, 3)) = (0 ≤ (pc : Int) + off ∧ (y ≤ x → k (hw_t pc off) kc ks K n I L P ls r) ∧ (¬ y ≤ x → k (pc + 3) kc ks K n I L P ls r)) := propext ⟨fun h => by obtain ⟨-, u0, u1, u2, e, h⟩ := h; cases e; exact h, fun h => ⟨rfl, _, _, _, rfl, h⟩⟩
theorem he_icmp_gt {x y : Int32} {off : Int} : hw_d l D z lw ini o cc nL ret d mc ms Q k pc kc ks K n I L P ls (.int y :: .int x :: r) (.ok (.if_icmp .gt off, 3)) = (0 ≤ (pc : Int) + off ∧ (y < x → k (hw_t pc off) kc ks K n I L P ls r) ∧ (¬ y < x → k (pc + 3) kc ks K n I L P ls r)) := propext ⟨fun h => by obtain ⟨-, u0, u1, u2, e, h⟩ := h; cases e; exact h, fun h => ⟨rfl, _, _, _, rfl, h⟩⟩
theorem he_icmp_le {x y : Int32} {off : Int} : hw_d l D z lw ini o cc nL ret d mc ms Q k pc kc ks K n I L P ls (.int y :: .int x :: r) (.ok (.if_icmp .le off, 3)) = (0 ≤ (pc : Int) + off ∧ (x ≤ y → k (hw_t pc off) kc ks K n I L P ls r) ∧ (¬ x ≤ y → k (pc + 3) kc ks K n I L P ls r)) := propext ⟨fun h => by obtain ⟨-, u0, u1, u2, e, h⟩ := h; cases e; exact h, fun h => ⟨rfl, _, _, _, rfl, h⟩⟩
theorem he_goto {off : Int} : hw_d l D z lw ini o cc nL ret d mc ms Q k pc kc ks K n I L P ls st (.ok (.goto off, 3)) = (0 ≤ (pc : Int) + off ∧ (if off < 0 then hw_W l D z lw ini o cc nL ret d mc ms Q (hw_t pc off) kc ks K n I L P ls st else k (hw_t pc off) kc ks K n I L P ls st)) := propext ⟨fun h => by exact h.2, fun h => ⟨rfl, h⟩⟩
theorem he_ifnull_n {off : Int} : hw_d l D z lw ini o cc nL ret d mc ms Q k pc kc ks K n I L P ls (.null :: r) (.ok (.ifnull off, 3)) = (0 ≤ (pc : Int) + off ∧ k (hw_t pc off) kc ks K n I L P ls r) := propext ⟨fun h => by obtain ⟨-, u, w, e, h0, h1, h2⟩ := h; cases u <;> cases e; exact ⟨h0, h1 rfl⟩, fun h => ⟨rfl, none, _, rfl, h.1, fun _ => h.2, fun q => absurd rfl q⟩⟩
theorem he_ifnull_r {off : Int} {a : Nat} : hw_d l D z lw ini o cc nL ret d mc ms Q k pc kc ks K n I L P ls (.ref a :: r) (.ok (.ifnull off, 3)) = (0 ≤ (pc : Int) + off ∧ k (pc + 3) kc ks K n I L P ls r) := propext ⟨fun h => by obtain ⟨-, u, w, e, h0, h1, h2⟩ := h; cases u <;> cases e; exact ⟨h0, h2 (fun q => by cases q)⟩, fun h => ⟨rfl, some a, _, rfl, h.1, (fun q => by cases q), fun _ => h.2⟩⟩
theorem he_ifnonnull_n {off : Int} : hw_d l D z lw ini o cc nL ret d mc ms Q k pc kc ks K n I L P ls (.null :: r) (.ok (.ifnonnull off, 3)) = (0 ≤ (pc : Int) + off ∧ k (pc + 3) kc ks K n I L P ls r) := propext ⟨fun h => by obtain ⟨-, u, w, e, h0, h1, h2⟩ := h; cases u <;> cases e; exact ⟨h0, h2 rfl⟩, fun h => ⟨rfl, none, _, rfl, h.1, fun q => absurd rfl q, fun _ => h.2⟩⟩
theorem he_ifnonnull_r {off : Int} {a : Nat} : hw_d l D z lw ini o cc nL ret d mc ms Q k pc kc ks K n I L P ls (.ref a :: r) (.ok (.ifnonnull off, 3)) = (0 ≤ (pc : Int) + off ∧ k (hw_t pc off) kc ks K n I L P ls r) := propext ⟨fun h => by obtain ⟨-, u, w, e, h0, h1, h2⟩ := h; cases u <;> cases e; exact ⟨h0, h1 (fun q => by cases q)⟩, fun h => ⟨rfl, some a, _, rfl, h.1, fun _ => h.2, (fun q => by cases q)⟩⟩
theorem he_ldc {i : Nat} : hw_d l D z lw ini o cc nL ret d mc ms Q k pc kc ks K n I L P ls st (.ok (.ldc i, 2)) = hw_om (hw_c o i) (fun v => k (pc + 2) kc ks K n I L P ls (.int v :: st)) := propext ⟨fun h => by
    obtain ⟨-, v, h0, h⟩ := h
    skip
    rw [h0]
    exact h, fun h => by
    cases hf : hw_c o i with
    | none => rw [hf] at h; exact h.elim
    | some v =>
      rw [hf] at h
      exact ⟨rfl, v, hf, h⟩⟩
theorem he_ldc_w {i : Nat} : hw_d l D z lw ini o cc nL ret d mc ms Q k pc kc ks K n I L P ls st (.ok (.ldc_w i, 3)) = hw_om (hw_c o i) (fun v => k (pc + 3) kc ks K n I L P ls (.int v :: st)) := propext ⟨fun h => by
    obtain ⟨-, v, h0, h⟩ := h
    skip
    rw [h0]
    exact h, fun h => by
    cases hf : hw_c o i with
    | none => rw [hf] at h; exact h.elim
    | some v =>
      rw [hf] at h
      exact ⟨rfl, v, hf, h⟩⟩
theorem he_ldc2_w {i : Nat} : hw_d l D z lw ini o cc nL ret d mc ms Q k pc kc ks K n I L P ls st (.ok (.ldc2_w i, 3)) = hw_om (hw_cj o i) (fun v => k (pc + 3) kc ks K n I L P ls (.long v :: st)) := propext ⟨fun h => by
    obtain ⟨-, v, h0, h⟩ := h
    skip
    rw [h0]
    exact h, fun h => by
    cases hf : hw_cj o i with
    | none => rw [hf] at h; exact h.elim
    | some v =>
      rw [hf] at h
      exact ⟨rfl, v, hf, h⟩⟩
theorem he_getfield {i a : Nat} : hw_d l D z lw ini o cc nL ret d mc ms Q k pc kc ks K n I L P ls (.ref a :: r) (.ok (.getfield i, 3)) = hw_om (hw_f o i) (fun v => K a = some (.inl v.1) ∧ k (pc + 3) kc ks K n I L P ls (hw_sv I L P (hw_ty v.1 v.2) a v.2 :: r)) := propext ⟨fun h => by
    obtain ⟨-, u0, u1, c, q, e, h0, h⟩ := h
    cases e
    rw [h0]
    exact h, fun h => by
    cases hf : hw_f o i with
    | none => rw [hf] at h; exact h.elim
    | some v =>
      rw [hf] at h
      exact ⟨rfl, a, r, v.1, v.2, rfl, hf, h⟩⟩
theorem he_putfield {i a : Nat} {v : Value} : hw_d l D z lw ini o cc nL ret d mc ms Q k pc kc ks K n I L P ls (v :: .ref a :: r) (.ok (.putfield i, 3)) = hw_om (hw_f o i) (fun w => K a = some (.inl w.1) ∧ hw_pok ini o w.1 w.2 ∧ hw_put (hw_ty w.1 w.2) v a w.2 I L P (fun I L P => k (pc + 3) kc ks K n I L P ls r)) := propext ⟨fun h => by
    obtain ⟨-, u0, u1, u2, c, q, e, h0, h⟩ := h
    cases e
    rw [h0]
    exact h, fun h => by
    cases hf : hw_f o i with
    | none => rw [hf] at h; exact h.elim
    | some v_ =>
      rw [hf] at h
      exact ⟨rfl, _, _, _, v_.1, v_.2, rfl, hf, h⟩⟩
theorem he_iaload {i : Int32} {a : Nat} : hw_d l D z lw ini o cc nL ret d mc ms Q k pc kc ks K n I L P ls (.int i :: .ref a :: r) (.ok (.iaload, 1)) = hw_om (hw_al (K a)) (fun N => vp_in i N ∧ k (pc + 1) kc ks K n I L P ls (.int (I a i.toNatClampNeg) :: r)) := propext ⟨fun h => by
    obtain ⟨-, u0, u1, u2, N, e, h0, h⟩ := h
    cases e
    rw [h0]
    exact h, fun h => by
    cases hf : hw_al (K a) with
    | none => rw [hf] at h; exact h.elim
    | some v =>
      rw [hf] at h
      exact ⟨rfl, _, _, _, v, rfl, hf, h⟩⟩
theorem he_arraylength {a : Nat} : hw_d l D z lw ini o cc nL ret d mc ms Q k pc kc ks K n I L P ls (.ref a :: r) (.ok (.arraylength, 1)) = hw_om (hw_an (K a)) (fun N => k (pc + 1) kc ks K n I L P ls (.int (Int32.ofNat N) :: r)) := propext ⟨fun h => by
    obtain ⟨-, u0, u1, N, e, h0, h⟩ := h
    cases e
    rw [h0]
    exact h, fun h => by
    cases hf : hw_an (K a) with
    | none => rw [hf] at h; exact h.elim
    | some v =>
      rw [hf] at h
      exact ⟨rfl, _, _, v, rfl, hf, h⟩⟩
theorem he_baload {i : Int32} {a : Nat} : hw_d l D z lw ini o cc nL ret d mc ms Q k pc kc ks K n I L P ls (.int i :: .ref a :: r) (.ok (.baload, 1)) = hw_om (hw_az (K a)) (fun N => vp_in i N ∧ k (pc + 1) kc ks K n I L P ls (.int (I a i.toNatClampNeg) :: r)) := propext ⟨fun h => by
    obtain ⟨-, u0, u1, u2, N, e, h0, h⟩ := h
    cases e
    rw [h0]
    exact h, fun h => by
    cases hf : hw_az (K a) with
    | none => rw [hf] at h; exact h.elim
    | some v =>
      rw [hf] at h
      exact ⟨rfl, _, _, _, v, rfl, hw_az_spec hf, h⟩⟩
theorem he_laload {i : Int32} {a : Nat} : hw_d l D z lw ini o cc nL ret d mc ms Q k pc kc ks K n I L P ls (.int i :: .ref a :: r) (.ok (.laload, 1)) = hw_om (hw_aj (K a)) (fun N => vp_in i N ∧ k (pc + 1) kc ks K n I L P ls (.long (L a i.toNatClampNeg) :: r)) := propext ⟨fun h => by
    obtain ⟨-, u0, u1, u2, N, e, h0, h⟩ := h
    cases e
    rw [h0]
    exact h, fun h => by
    cases hf : hw_aj (K a) with
    | none => rw [hf] at h; exact h.elim
    | some v =>
      rw [hf] at h
      exact ⟨rfl, _, _, _, v, rfl, hw_aj_spec hf, h⟩⟩
theorem he_iastore {x i : Int32} {a : Nat} : hw_d l D z lw ini o cc nL ret d mc ms Q k pc kc ks K n I L P ls (.int x :: .int i :: .ref a :: r) (.ok (.iastore, 1)) = hw_om (hw_ai (K a)) (fun N => vp_in i N ∧ k (pc + 1) kc ks K n (va_up I a (va_up (I a) i.toNatClampNeg x)) L P ls r) := propext ⟨fun h => by
    obtain ⟨-, u0, u1, u2, u3, N, e, h0, h⟩ := h
    cases e
    rw [h0]
    exact h, fun h => by
    cases hf : hw_ai (K a) with
    | none => rw [hf] at h; exact h.elim
    | some v =>
      rw [hf] at h
      exact ⟨rfl, _, _, _, _, v, rfl, hw_ai_spec hf, h⟩⟩
theorem he_lastore {x : Int64} {i : Int32} {a : Nat} : hw_d l D z lw ini o cc nL ret d mc ms Q k pc kc ks K n I L P ls (.long x :: .int i :: .ref a :: r) (.ok (.lastore, 1)) = hw_om (hw_aj (K a)) (fun N => vp_in i N ∧ k (pc + 1) kc ks K n I (va_up L a (va_up (L a) i.toNatClampNeg x)) P ls r) := propext ⟨fun h => by
    obtain ⟨-, u0, u1, u2, u3, N, e, h0, h⟩ := h
    cases e
    rw [h0]
    exact h, fun h => by
    cases hf : hw_aj (K a) with
    | none => rw [hf] at h; exact h.elim
    | some v =>
      rw [hf] at h
      exact ⟨rfl, _, _, _, _, v, rfl, hw_aj_spec hf, h⟩⟩
theorem he_bastore {x i : Int32} {a : Nat} : hw_d l D z lw ini o cc nL ret d mc ms Q k pc kc ks K n I L P ls (.int x :: .int i :: .ref a :: r) (.ok (.bastore, 1)) = hw_om (hw_az (K a)) (fun N => vp_in i N ∧ hw_b01 x ∧ k (pc + 1) kc ks K n (va_up I a (va_up (I a) i.toNatClampNeg x)) L P ls r) := propext ⟨fun h => by
    obtain ⟨-, u0, u1, u2, u3, N, e, h0, h⟩ := h
    cases e
    rw [h0]
    exact h, fun h => by
    cases hf : hw_az (K a) with
    | none => rw [hf] at h; exact h.elim
    | some v =>
      rw [hf] at h
      exact ⟨rfl, _, _, _, _, v, rfl, hw_az_spec hf, h⟩⟩
theorem he_aaload {i : Int32} {a : Nat} : hw_d l D z lw ini o cc nL ret d mc ms Q k pc kc ks K n I L P ls (.int i :: .ref a :: r) (.ok (.aaload, 1)) = hw_om (hw_ao (K a)) (fun N => vp_in i N ∧ k (pc + 1) kc ks K n I L P ls (va_rf (P a i.toNatClampNeg) :: r)) := propext ⟨fun h => by
    obtain ⟨-, u0, u1, u2, N, C, e, h0, h⟩ := h
    cases e
    rw [h0]
    exact h, fun h => by
    cases hf : hw_ao (K a) with
    | none => rw [hf] at h; exact h.elim
    | some v =>
      rw [hf] at h
      obtain ⟨C, hC⟩ := hw_ao_spec hf
      exact ⟨rfl, _, _, _, v, C, rfl, hC, h⟩⟩
theorem he_aastore {x : Nat} {i : Int32} {a : Nat} : hw_d l D z lw ini o cc nL ret d mc ms Q k pc kc ks K n I L P ls (.ref x :: .int i :: .ref a :: r) (.ok (.aastore, 1)) = (∃ N w, K a = some (.inr (.object (hw_nm w), N)) ∧ K x = some (.inl w) ∧ vp_in i N ∧ k (pc + 1) kc ks K n I L (va_up P a (va_up (P a) i.toNatClampNeg (some x))) ls r) := propext ⟨fun h => by obtain ⟨-, u0, u1, u2, u3, N, w, e, h⟩ := h; cases e; exact ⟨N, w, h⟩, fun h => (by obtain ⟨N, w, h⟩ := h; exact ⟨rfl, _, _, _, _, N, w, rfl, h⟩)⟩
theorem he_newarray {w : ArrayType} {i : Int32} : hw_d l D z lw ini o cc nL ret d mc ms Q k pc kc ks K n I L P ls (.int i :: r) (.ok (.newarray w, 2)) = hw_om (hw_aty w) (fun v => ¬ i < 0 ∧ i.toNatClampNeg ≤ 65536 ∧ kc + 1 ≤ mc ∧ ks + i.toNatClampNeg ≤ ms ∧ k (pc + 2) (kc + 1) (ks + i.toNatClampNeg) (va_up K n (some (.inr (v.1, i.toNatClampNeg)))) (n + 1) (va_up I n (fun _ => 0)) (va_up L n (fun _ => 0)) (va_up P n (fun _ => none)) ls (.ref n :: r)) := propext ⟨fun h => by
    obtain ⟨-, u0, u1, ty, b, e, h0, h⟩ := h
    cases e
    rw [h0]
    exact h, fun h => by
    cases hf : hw_aty w with
    | none => rw [hf] at h; exact h.elim
    | some v =>
      rw [hf] at h
      exact ⟨rfl, _, _, v.1, v.2, rfl, hf, h⟩⟩
theorem he_new {i : Nat} : hw_d l D z lw ini o cc nL ret d mc ms Q k pc kc ks K n I L P ls st (.ok (.new i, 3)) = hw_om (hw_k o i) (fun w => hw_om (vwCl[w]?) (fun q => kc + 1 ≤ mc ∧ ks + q.2.2 ≤ ms ∧ k (pc + 3) (kc + 1) (ks + q.2.2) (va_up K n (some (.inl w))) (n + 1) (va_up I n (fun _ => 0)) (va_up L n (fun _ => 0)) (va_up P n (fun _ => none)) ls (.ref n :: st))) := propext ⟨fun h => by
    obtain ⟨-, w, q, h0, h1, h⟩ := h
    rw [h0]
    show hw_om (vwCl[w]?) _
    rw [h1]
    exact h, fun h => by
    cases hf : hw_k o i with
    | none => rw [hf] at h; exact h.elim
    | some w =>
      rw [hf] at h
      have h : hw_om (vwCl[w]?) _ := h
      cases hg : vwCl[w]? with
      | none => rw [hg] at h; exact h.elim
      | some q =>
        rw [hg] at h
        exact ⟨rfl, w, q, hf, hg, h⟩⟩
theorem he_anewarray {i : Nat} {j : Int32} : hw_d l D z lw ini o cc nL ret d mc ms Q k pc kc ks K n I L P ls (.int j :: r) (.ok (.anewarray i, 3)) = hw_om (hw_k o i) (fun w => w = 0 ∧ ¬ j < 0 ∧ j.toNatClampNeg ≤ 65536 ∧ kc + 1 ≤ mc ∧ ks + j.toNatClampNeg ≤ ms ∧ k (pc + 3) (kc + 1) (ks + j.toNatClampNeg) (va_up K n (some (.inr (.object (hw_nm w), j.toNatClampNeg)))) (n + 1) (va_up I n (fun _ => 0)) (va_up L n (fun _ => 0)) (va_up P n (fun _ => none)) ls (.ref n :: r)) := propext ⟨fun h => by
    obtain ⟨-, w, u0, u1, e, h0, h⟩ := h
    cases e
    rw [h0]
    exact h, fun h => by
    cases hf : hw_k o i with
    | none => rw [hf] at h; exact h.elim
    | some w =>
      rw [hf] at h
      exact ⟨rfl, w, _, _, rfl, hf, h⟩⟩
theorem he_ireturn {v : Int32} : hw_d l D z lw ini o cc nL ret d mc ms Q k pc kc ks K n I L P ls [.int v] (.ok (.ireturn, 1)) = (hw_rok ret v ∧ kc ≤ mc ∧ ks ≤ ms ∧ Q (some (.int v)) (K, n, I, L, P)) := propext ⟨fun h => by obtain ⟨-, u, e, h⟩ := h; cases e; exact h, fun h => ⟨rfl, v, rfl, h⟩⟩
theorem he_lreturn {v : Int64} : hw_d l D z lw ini o cc nL ret d mc ms Q k pc kc ks K n I L P ls [.long v] (.ok (.lreturn, 1)) = (ret = some .long ∧ kc ≤ mc ∧ ks ≤ ms ∧ Q (some (.long v)) (K, n, I, L, P)) := propext ⟨fun h => by obtain ⟨-, u, e, h⟩ := h; cases e; exact h, fun h => ⟨rfl, v, rfl, h⟩⟩
theorem he_areturn_r {v : Nat} : hw_d l D z lw ini o cc nL ret d mc ms Q k pc kc ks K n I L P ls [.ref v] (.ok (.areturn, 1)) = (hw_rob ret = true ∧ kc ≤ mc ∧ ks ≤ ms ∧ Q (some (.ref v)) (K, n, I, L, P)) := propext ⟨fun h => by obtain ⟨-, u, e, h⟩ := h; cases u <;> cases e; exact h, fun h => ⟨rfl, some v, rfl, h⟩⟩
theorem he_areturn_n  : hw_d l D z lw ini o cc nL ret d mc ms Q k pc kc ks K n I L P ls [.null] (.ok (.areturn, 1)) = (hw_rob ret = true ∧ kc ≤ mc ∧ ks ≤ ms ∧ Q (some .null) (K, n, I, L, P)) := propext ⟨fun h => by obtain ⟨-, u, e, h⟩ := h; cases u <;> cases e; exact h, fun h => ⟨rfl, none, rfl, h⟩⟩
theorem he_return  : hw_d l D z lw ini o cc nL ret d mc ms Q k pc kc ks K n I L P ls [] (.ok (.return_, 1)) = (ret = none ∧ kc ≤ mc ∧ ks ≤ ms ∧ Q none (K, n, I, L, P)) := propext ⟨fun h => by exact h.2.2, fun h => ⟨rfl, rfl, h⟩⟩
theorem he_invokevirtual {i : Nat} : hw_d l D z lw ini o cc nL ret d mc ms Q k pc kc ks K n I L P ls st (.ok (.invokevirtual i, 3)) = (hw_W l D z lw ini o cc nL ret d mc ms Q pc kc ks K n I L P ls st) := propext ⟨fun h => by exact h, fun h => h⟩
theorem he_invokestatic {i : Nat} : hw_d l D z lw ini o cc nL ret d mc ms Q k pc kc ks K n I L P ls st (.ok (.invokestatic i, 3)) = (hw_W l D z lw ini o cc nL ret d mc ms Q pc kc ks K n I L P ls st) := propext ⟨fun h => by exact h, fun h => h⟩
theorem he_invokespecial {i : Nat} : hw_d l D z lw ini o cc nL ret d mc ms Q k pc kc ks K n I L P ls st (.ok (.invokespecial i, 3)) = (hw_W l D z lw ini o cc nL ret d mc ms Q pc kc ks K n I L P ls st) := propext ⟨fun h => by exact h, fun h => h⟩
end
theorem hw_sv_i (I : hw_IM) (L : hw_LM) (P : hw_PM) (a k : Nat) : hw_sv I L P .int a k = .int (I a k) := rfl
theorem hw_sv_z (I : hw_IM) (L : hw_LM) (P : hw_PM) (a k : Nat) : hw_sv I L P .boolean a k = .int (I a k) := rfl
theorem hw_sv_j (I : hw_IM) (L : hw_LM) (P : hw_PM) (a k : Nat) : hw_sv I L P .long a k = .long (L a k) := rfl
theorem hw_sv_o (I : hw_IM) (L : hw_LM) (P : hw_PM) (C : String) (a k : Nat) : hw_sv I L P (.object C) a k = va_rf (P a k) := rfl
theorem hw_sv_a (I : hw_IM) (L : hw_LM) (P : hw_PM) (t : FieldType) (a k : Nat) : hw_sv I L P (.array t) a k = va_rf (P a k) := rfl
theorem hw_rf_s (a : Nat) : va_rf (some a) = .ref a := rfl
theorem hw_rf_n : va_rf none = .null := rfl
theorem hw_put_i (x : Int32) (a k : Nat) (I : hw_IM) (L : hw_LM) (P : hw_PM) (f : hw_IM → hw_LM → hw_PM → Prop) : hw_put .int (.int x) a k I L P f = f (va_up I a (va_up (I a) k x)) L P := propext ⟨fun h => by obtain ⟨y, e, h⟩ := h; cases e; exact h, fun h => ⟨x, rfl, h⟩⟩
theorem hw_put_z (x : Int32) (a k : Nat) (I : hw_IM) (L : hw_LM) (P : hw_PM) (f : hw_IM → hw_LM → hw_PM → Prop) : hw_put .boolean (.int x) a k I L P f = (hw_b01 x ∧ f (va_up I a (va_up (I a) k x)) L P) := propext ⟨fun h => by obtain ⟨y, e, h⟩ := h; cases e; exact h, fun h => ⟨x, rfl, h⟩⟩
theorem hw_put_j (x : Int64) (a k : Nat) (I : hw_IM) (L : hw_LM) (P : hw_PM) (f : hw_IM → hw_LM → hw_PM → Prop) : hw_put .long (.long x) a k I L P f = f I (va_up L a (va_up (L a) k x)) P := propext ⟨fun h => by obtain ⟨y, e, h⟩ := h; cases e; exact h, fun h => ⟨x, rfl, h⟩⟩
theorem hw_put_o (x : Nat) (C : String) (a k : Nat) (I : hw_IM) (L : hw_LM) (P : hw_PM) (f : hw_IM → hw_LM → hw_PM → Prop) : hw_put (.object C) (.ref x) a k I L P f = f I L (va_up P a (va_up (P a) k (some x))) := propext ⟨fun h => by obtain ⟨y, e, h⟩ := h; cases y <;> cases e; exact h, fun h => ⟨some x, rfl, h⟩⟩
theorem hw_put_a (x : Nat) (t : FieldType) (a k : Nat) (I : hw_IM) (L : hw_LM) (P : hw_PM) (f : hw_IM → hw_LM → hw_PM → Prop) : hw_put (.array t) (.ref x) a k I L P f = f I L (va_up P a (va_up (P a) k (some x))) := propext ⟨fun h => by obtain ⟨y, e, h⟩ := h; cases y <;> cases e; exact h, fun h => ⟨some x, rfl, h⟩⟩
theorem hw_b01_0 : hw_b01 0 = True := propext ⟨fun _ => trivial, fun _ => Or.inl rfl⟩
theorem hw_b01_1 : hw_b01 1 = True := propext ⟨fun _ => trivial, fun _ => Or.inr rfl⟩
theorem hw_rok_i (v : Int32) : hw_rok (some .int) v = True := rfl
theorem hw_rok_z (v : Int32) : hw_rok (some .boolean) v = hw_b01 v := rfl
theorem hw_rob_o (C : String) : (hw_rob (some (.object C)) = true) = True := propext ⟨fun _ => trivial, fun _ => rfl⟩
theorem hw_al_i (k : Nat) : hw_al (some (.inr (.int, k))) = some k := rfl
theorem hw_al_f (k : Nat) : hw_al (some (.inr (.float, k))) = some k := rfl
theorem hw_an_a (t : FieldType) (k : Nat) : hw_an (some (.inr (t, k))) = some k := rfl
theorem hw_az_z (k : Nat) : hw_az (some (.inr (.boolean, k))) = some k := rfl
theorem hw_aj_j (k : Nat) : hw_aj (some (.inr (.long, k))) = some k := rfl
theorem hw_ai_i (k : Nat) : hw_ai (some (.inr (.int, k))) = some k := rfl
theorem hw_ao_o (C : String) (k : Nat) : hw_ao (some (.inr (.object C, k))) = some k := rfl
theorem hw_vw : vwCl[0]? = some (RX0, TX0, 4) ∧ vwCl[1]? = some (RX1, TX1, 3) ∧ vwCl[2]? = some (RX2, TX2, 4) ∧ vwCl[3]? = some (RX3, TX3, 4) ∧ vwCl[4]? = some (RX4, TX4, 2) ∧ vwCl[5]? = some (RX5, TX5, 2) ∧ vwCl[6]? = some (RX6, TX6, 5) ∧ vwCl[7]? = some (RX7, TX7, 1) ∧ vwCl[8]? = some (RX8, TX8, 5) ∧ vwCl[9]? = some (RX9, TX9, 4) ∧ vwCl[10]? = some (RX10, TX10, 15) ∧ vwCl[11]? = some (RX11, TX11, 53) := ⟨rfl, rfl, rfl, rfl, rfl, rfl, rfl, rfl, rfl, rfl, rfl, rfl⟩
theorem hw_aty_i : hw_aty .int = some (.int, 4) := rfl
theorem hw_aty_j : hw_aty .long = some (.long, 8) := rfl
theorem hw_aty_z : hw_aty .boolean = some (.boolean, 1) := rfl
theorem hw_st_0 (x : Option Value) (t : List (Option Value)) (v : Value) : hw_st (x :: t) 0 v = some v :: t := rfl
theorem hw_st_1i (x : Int32) (t : List (Option Value)) (v : Value) : hw_st (some (.int x) :: t) 1 v = some (.int x) :: hw_st t 0 v := rfl
theorem hw_st_1r (x : Nat) (t : List (Option Value)) (v : Value) : hw_st (some (.ref x) :: t) 1 v = some (.ref x) :: hw_st t 0 v := rfl
theorem hw_st_1n (t : List (Option Value)) (v : Value) : hw_st (some .null :: t) 1 v = some .null :: hw_st t 0 v := rfl
theorem hw_st_1j (x : Int64) (t : List (Option Value)) (v : Value) : hw_st (some (.long x) :: t) 1 v = none :: hw_st t 0 v := rfl
theorem hw_st_1u (t : List (Option Value)) (v : Value) : hw_st (none :: t) 1 v = none :: hw_st t 0 v := rfl
theorem hw_st_k (x : Option Value) (t : List (Option Value)) (k : Nat) (v : Value) : hw_st (x :: t) (k + 2) v = x :: hw_st t (k + 1) v := rfl
theorem hw_tp (a b : Nat) : hw_t a (OfNat.ofNat b) = a + b := by unfold hw_t; simp [OfNat.ofNat]; omega
theorem ft_0 : hw_ty 0 0 = .array .long ∧ hw_ty 0 1 = .boolean ∧ hw_ty 0 2 = .int ∧ hw_ty 0 3 = .int := ⟨rfl, rfl, rfl, rfl⟩
theorem fpf_0 : hw_pok true 0 0 0 = True := propext ⟨fun _ => trivial, fun _ => Or.inr ⟨rfl, rfl⟩⟩
theorem fp_0 (ini : Bool) (o : Nat) : hw_pok ini o 0 1 = True ∧ hw_pok ini o 0 2 = True ∧ hw_pok ini o 0 3 = True := ⟨propext ⟨fun _ => trivial, fun _ => Or.inl rfl⟩, propext ⟨fun _ => trivial, fun _ => Or.inl rfl⟩, propext ⟨fun _ => trivial, fun _ => Or.inl rfl⟩⟩
theorem ft_1 : hw_ty 1 0 = .object "HornRuleWorkbench$IntRow" ∧ hw_ty 1 1 = .object "HornRuleWorkbench$IntRow" ∧ hw_ty 1 2 = .int := ⟨rfl, rfl, rfl⟩
theorem fpf_1 : hw_pok true 1 1 0 = True ∧ hw_pok true 1 1 1 = True := ⟨propext ⟨fun _ => trivial, fun _ => Or.inr ⟨rfl, rfl⟩⟩, propext ⟨fun _ => trivial, fun _ => Or.inr ⟨rfl, rfl⟩⟩⟩
theorem fp_1 (ini : Bool) (o : Nat) : hw_pok ini o 1 2 = True := propext ⟨fun _ => trivial, fun _ => Or.inl rfl⟩
theorem ft_2 : hw_ty 2 0 = .object "HornRuleWorkbench$IntRow" ∧ hw_ty 2 1 = .object "HornRuleWorkbench$IntRow" ∧ hw_ty 2 2 = .object "HornRuleWorkbench$IntRow" ∧ hw_ty 2 3 = .object "HornRuleWorkbench$IntRow" := ⟨rfl, rfl, rfl, rfl⟩
theorem fpf_2 : hw_pok true 2 2 0 = True ∧ hw_pok true 2 2 1 = True ∧ hw_pok true 2 2 2 = True ∧ hw_pok true 2 2 3 = True := ⟨propext ⟨fun _ => trivial, fun _ => Or.inr ⟨rfl, rfl⟩⟩, propext ⟨fun _ => trivial, fun _ => Or.inr ⟨rfl, rfl⟩⟩, propext ⟨fun _ => trivial, fun _ => Or.inr ⟨rfl, rfl⟩⟩, propext ⟨fun _ => trivial, fun _ => Or.inr ⟨rfl, rfl⟩⟩⟩
theorem ft_3 : hw_ty 3 0 = .object "HornRuleWorkbench$IntRow" ∧ hw_ty 3 1 = .object "HornRuleWorkbench$IntRow" ∧ hw_ty 3 2 = .int ∧ hw_ty 3 3 = .int := ⟨rfl, rfl, rfl, rfl⟩
theorem fpf_3 : hw_pok true 3 3 0 = True ∧ hw_pok true 3 3 1 = True := ⟨propext ⟨fun _ => trivial, fun _ => Or.inr ⟨rfl, rfl⟩⟩, propext ⟨fun _ => trivial, fun _ => Or.inr ⟨rfl, rfl⟩⟩⟩
theorem fp_3 (ini : Bool) (o : Nat) : hw_pok ini o 3 2 = True ∧ hw_pok ini o 3 3 = True := ⟨propext ⟨fun _ => trivial, fun _ => Or.inl rfl⟩, propext ⟨fun _ => trivial, fun _ => Or.inl rfl⟩⟩
theorem ft_4 : hw_ty 4 0 = .array .int ∧ hw_ty 4 1 = .int := ⟨rfl, rfl⟩
theorem fpf_4 : hw_pok true 4 4 0 = True := propext ⟨fun _ => trivial, fun _ => Or.inr ⟨rfl, rfl⟩⟩
theorem fp_4 (ini : Bool) (o : Nat) : hw_pok ini o 4 1 = True := propext ⟨fun _ => trivial, fun _ => Or.inl rfl⟩
theorem ft_5 : hw_ty 5 0 = .object "HornRuleWorkbench$IntRow" ∧ hw_ty 5 1 = .object "HornRuleWorkbench$IntRow" := ⟨rfl, rfl⟩
theorem fpf_5 : hw_pok true 5 5 0 = True ∧ hw_pok true 5 5 1 = True := ⟨propext ⟨fun _ => trivial, fun _ => Or.inr ⟨rfl, rfl⟩⟩, propext ⟨fun _ => trivial, fun _ => Or.inr ⟨rfl, rfl⟩⟩⟩
theorem ft_6 : hw_ty 6 0 = .object "HornRuleWorkbench$IntRow" ∧ hw_ty 6 1 = .object "HornRuleWorkbench$IntRow" ∧ hw_ty 6 2 = .object "HornRuleWorkbench$IntRow" ∧ hw_ty 6 3 = .object "HornRuleWorkbench$IntRow" ∧ hw_ty 6 4 = .int := ⟨rfl, rfl, rfl, rfl, rfl⟩
theorem fpf_6 : hw_pok true 6 6 0 = True ∧ hw_pok true 6 6 1 = True ∧ hw_pok true 6 6 2 = True ∧ hw_pok true 6 6 3 = True := ⟨propext ⟨fun _ => trivial, fun _ => Or.inr ⟨rfl, rfl⟩⟩, propext ⟨fun _ => trivial, fun _ => Or.inr ⟨rfl, rfl⟩⟩, propext ⟨fun _ => trivial, fun _ => Or.inr ⟨rfl, rfl⟩⟩, propext ⟨fun _ => trivial, fun _ => Or.inr ⟨rfl, rfl⟩⟩⟩
theorem fp_6 (ini : Bool) (o : Nat) : hw_pok ini o 6 4 = True := propext ⟨fun _ => trivial, fun _ => Or.inl rfl⟩
theorem ft_7 : hw_ty 7 0 = .object "HornRuleWorkbench$IntRow" := rfl
theorem fpf_7 : hw_pok true 7 7 0 = True := propext ⟨fun _ => trivial, fun _ => Or.inr ⟨rfl, rfl⟩⟩
theorem ft_8 : hw_ty 8 0 = .object "HornRuleWorkbench$RuleList" ∧ hw_ty 8 1 = .int ∧ hw_ty 8 2 = .int ∧ hw_ty 8 3 = .int ∧ hw_ty 8 4 = .boolean := ⟨rfl, rfl, rfl, rfl, rfl⟩
theorem fpf_8 : hw_pok true 8 8 0 = True := propext ⟨fun _ => trivial, fun _ => Or.inr ⟨rfl, rfl⟩⟩
theorem fp_8 (ini : Bool) (o : Nat) : hw_pok ini o 8 1 = True ∧ hw_pok ini o 8 2 = True ∧ hw_pok ini o 8 3 = True ∧ hw_pok ini o 8 4 = True := ⟨propext ⟨fun _ => trivial, fun _ => Or.inl rfl⟩, propext ⟨fun _ => trivial, fun _ => Or.inl rfl⟩, propext ⟨fun _ => trivial, fun _ => Or.inl rfl⟩, propext ⟨fun _ => trivial, fun _ => Or.inl rfl⟩⟩
theorem ft_9 : hw_ty 9 0 = .boolean ∧ hw_ty 9 1 = .int ∧ hw_ty 9 2 = .object "HornRuleWorkbench$RuleList" ∧ hw_ty 9 3 = .object "HornRuleWorkbench$IntRow" := ⟨rfl, rfl, rfl, rfl⟩
theorem fpf_9 : hw_pok true 9 9 2 = True ∧ hw_pok true 9 9 3 = True := ⟨propext ⟨fun _ => trivial, fun _ => Or.inr ⟨rfl, rfl⟩⟩, propext ⟨fun _ => trivial, fun _ => Or.inr ⟨rfl, rfl⟩⟩⟩
theorem fp_9 (ini : Bool) (o : Nat) : hw_pok ini o 9 0 = True ∧ hw_pok ini o 9 1 = True := ⟨propext ⟨fun _ => trivial, fun _ => Or.inl rfl⟩, propext ⟨fun _ => trivial, fun _ => Or.inl rfl⟩⟩
theorem ft_10 : hw_ty 10 0 = .int ∧ hw_ty 10 1 = .object "HornRuleWorkbench$RuleList" ∧ hw_ty 10 2 = .object "HornRuleWorkbench$IntRow" ∧ hw_ty 10 3 = .object "HornRuleWorkbench$ClosureTable" ∧ hw_ty 10 4 = .object "HornRuleWorkbench$Lattice" ∧ hw_ty 10 5 = .object "HornRuleWorkbench$Learner" ∧ hw_ty 10 6 = .object "HornRuleWorkbench$Exploration" ∧ hw_ty 10 7 = .boolean ∧ hw_ty 10 8 = .boolean ∧ hw_ty 10 9 = .object "HornRuleWorkbench$History" ∧ hw_ty 10 10 = .object "HornRuleWorkbench$Snapshot" ∧ hw_ty 10 11 = .object "HornRuleWorkbench$IntRow" ∧ hw_ty 10 12 = .object "HornRuleWorkbench$IntRow" ∧ hw_ty 10 13 = .object "HornRuleWorkbench$RuleParser" ∧ hw_ty 10 14 = .array (.object "HornRuleWorkbench$Buffer") := ⟨rfl, rfl, rfl, rfl, rfl, rfl, rfl, rfl, rfl, rfl, rfl, rfl, rfl, rfl, rfl⟩
theorem fpf_10 : hw_pok true 10 10 1 = True ∧ hw_pok true 10 10 2 = True ∧ hw_pok true 10 10 3 = True ∧ hw_pok true 10 10 4 = True ∧ hw_pok true 10 10 5 = True ∧ hw_pok true 10 10 6 = True ∧ hw_pok true 10 10 9 = True ∧ hw_pok true 10 10 10 = True ∧ hw_pok true 10 10 11 = True ∧ hw_pok true 10 10 12 = True ∧ hw_pok true 10 10 13 = True ∧ hw_pok true 10 10 14 = True := ⟨propext ⟨fun _ => trivial, fun _ => Or.inr ⟨rfl, rfl⟩⟩, propext ⟨fun _ => trivial, fun _ => Or.inr ⟨rfl, rfl⟩⟩, propext ⟨fun _ => trivial, fun _ => Or.inr ⟨rfl, rfl⟩⟩, propext ⟨fun _ => trivial, fun _ => Or.inr ⟨rfl, rfl⟩⟩, propext ⟨fun _ => trivial, fun _ => Or.inr ⟨rfl, rfl⟩⟩, propext ⟨fun _ => trivial, fun _ => Or.inr ⟨rfl, rfl⟩⟩, propext ⟨fun _ => trivial, fun _ => Or.inr ⟨rfl, rfl⟩⟩, propext ⟨fun _ => trivial, fun _ => Or.inr ⟨rfl, rfl⟩⟩, propext ⟨fun _ => trivial, fun _ => Or.inr ⟨rfl, rfl⟩⟩, propext ⟨fun _ => trivial, fun _ => Or.inr ⟨rfl, rfl⟩⟩, propext ⟨fun _ => trivial, fun _ => Or.inr ⟨rfl, rfl⟩⟩, propext ⟨fun _ => trivial, fun _ => Or.inr ⟨rfl, rfl⟩⟩⟩
theorem fp_10 (ini : Bool) (o : Nat) : hw_pok ini o 10 0 = True ∧ hw_pok ini o 10 7 = True ∧ hw_pok ini o 10 8 = True := ⟨propext ⟨fun _ => trivial, fun _ => Or.inl rfl⟩, propext ⟨fun _ => trivial, fun _ => Or.inl rfl⟩, propext ⟨fun _ => trivial, fun _ => Or.inl rfl⟩⟩
theorem ft_11 : hw_ty 11 0 = .int ∧ hw_ty 11 1 = .int ∧ hw_ty 11 2 = .array .int ∧ hw_ty 11 3 = .array .int ∧ hw_ty 11 4 = .array .int ∧ hw_ty 11 5 = .int ∧ hw_ty 11 6 = .array .int ∧ hw_ty 11 7 = .int ∧ hw_ty 11 8 = .int ∧ hw_ty 11 9 = .array .int ∧ hw_ty 11 10 = .int ∧ hw_ty 11 11 = .array .int ∧ hw_ty 11 12 = .int ∧ hw_ty 11 13 = .array .int ∧ hw_ty 11 14 = .boolean ∧ hw_ty 11 15 = .int ∧ hw_ty 11 16 = .int ∧ hw_ty 11 17 = .array .int ∧ hw_ty 11 18 = .array .int ∧ hw_ty 11 19 = .array .int ∧ hw_ty 11 20 = .int ∧ hw_ty 11 21 = .array .int ∧ hw_ty 11 22 = .array .int ∧ hw_ty 11 23 = .array .int ∧ hw_ty 11 24 = .array .long ∧ hw_ty 11 25 = .int ∧ hw_ty 11 26 = .array .int ∧ hw_ty 11 27 = .array .boolean ∧ hw_ty 11 28 = .array .int ∧ hw_ty 11 29 = .int ∧ hw_ty 11 30 = .array .int ∧ hw_ty 11 31 = .int ∧ hw_ty 11 32 = .array .int ∧ hw_ty 11 33 = .int ∧ hw_ty 11 34 = .array .int ∧ hw_ty 11 35 = .int ∧ hw_ty 11 36 = .array .int ∧ hw_ty 11 37 = .array .int ∧ hw_ty 11 38 = .int ∧ hw_ty 11 39 = .int ∧ hw_ty 11 40 = .array .int ∧ hw_ty 11 41 = .int ∧ hw_ty 11 42 = .array .int ∧ hw_ty 11 43 = .int ∧ hw_ty 11 44 = .array .int ∧ hw_ty 11 45 = .int ∧ hw_ty 11 46 = .array .int ∧ hw_ty 11 47 = .array .int ∧ hw_ty 11 48 = .array .int ∧ hw_ty 11 49 = .int ∧ hw_ty 11 50 = .array .int ∧ hw_ty 11 51 = .array .int ∧ hw_ty 11 52 = .array .long := ⟨rfl, rfl, rfl, rfl, rfl, rfl, rfl, rfl, rfl, rfl, rfl, rfl, rfl, rfl, rfl, rfl, rfl, rfl, rfl, rfl, rfl, rfl, rfl, rfl, rfl, rfl, rfl, rfl, rfl, rfl, rfl, rfl, rfl, rfl, rfl, rfl, rfl, rfl, rfl, rfl, rfl, rfl, rfl, rfl, rfl, rfl, rfl, rfl, rfl, rfl, rfl, rfl, rfl⟩
theorem fpf_11 : hw_pok true 11 11 2 = True ∧ hw_pok true 11 11 3 = True ∧ hw_pok true 11 11 4 = True ∧ hw_pok true 11 11 6 = True ∧ hw_pok true 11 11 9 = True ∧ hw_pok true 11 11 11 = True ∧ hw_pok true 11 11 13 = True ∧ hw_pok true 11 11 17 = True ∧ hw_pok true 11 11 18 = True ∧ hw_pok true 11 11 19 = True ∧ hw_pok true 11 11 21 = True ∧ hw_pok true 11 11 22 = True ∧ hw_pok true 11 11 23 = True ∧ hw_pok true 11 11 24 = True ∧ hw_pok true 11 11 26 = True ∧ hw_pok true 11 11 27 = True ∧ hw_pok true 11 11 28 = True ∧ hw_pok true 11 11 30 = True ∧ hw_pok true 11 11 32 = True ∧ hw_pok true 11 11 34 = True ∧ hw_pok true 11 11 36 = True ∧ hw_pok true 11 11 37 = True ∧ hw_pok true 11 11 40 = True ∧ hw_pok true 11 11 42 = True ∧ hw_pok true 11 11 44 = True ∧ hw_pok true 11 11 46 = True ∧ hw_pok true 11 11 47 = True ∧ hw_pok true 11 11 48 = True ∧ hw_pok true 11 11 50 = True ∧ hw_pok true 11 11 51 = True ∧ hw_pok true 11 11 52 = True := ⟨propext ⟨fun _ => trivial, fun _ => Or.inr ⟨rfl, rfl⟩⟩, propext ⟨fun _ => trivial, fun _ => Or.inr ⟨rfl, rfl⟩⟩, propext ⟨fun _ => trivial, fun _ => Or.inr ⟨rfl, rfl⟩⟩, propext ⟨fun _ => trivial, fun _ => Or.inr ⟨rfl, rfl⟩⟩, propext ⟨fun _ => trivial, fun _ => Or.inr ⟨rfl, rfl⟩⟩, propext ⟨fun _ => trivial, fun _ => Or.inr ⟨rfl, rfl⟩⟩, propext ⟨fun _ => trivial, fun _ => Or.inr ⟨rfl, rfl⟩⟩, propext ⟨fun _ => trivial, fun _ => Or.inr ⟨rfl, rfl⟩⟩, propext ⟨fun _ => trivial, fun _ => Or.inr ⟨rfl, rfl⟩⟩, propext ⟨fun _ => trivial, fun _ => Or.inr ⟨rfl, rfl⟩⟩, propext ⟨fun _ => trivial, fun _ => Or.inr ⟨rfl, rfl⟩⟩, propext ⟨fun _ => trivial, fun _ => Or.inr ⟨rfl, rfl⟩⟩, propext ⟨fun _ => trivial, fun _ => Or.inr ⟨rfl, rfl⟩⟩, propext ⟨fun _ => trivial, fun _ => Or.inr ⟨rfl, rfl⟩⟩, propext ⟨fun _ => trivial, fun _ => Or.inr ⟨rfl, rfl⟩⟩, propext ⟨fun _ => trivial, fun _ => Or.inr ⟨rfl, rfl⟩⟩, propext ⟨fun _ => trivial, fun _ => Or.inr ⟨rfl, rfl⟩⟩, propext ⟨fun _ => trivial, fun _ => Or.inr ⟨rfl, rfl⟩⟩, propext ⟨fun _ => trivial, fun _ => Or.inr ⟨rfl, rfl⟩⟩, propext ⟨fun _ => trivial, fun _ => Or.inr ⟨rfl, rfl⟩⟩, propext ⟨fun _ => trivial, fun _ => Or.inr ⟨rfl, rfl⟩⟩, propext ⟨fun _ => trivial, fun _ => Or.inr ⟨rfl, rfl⟩⟩, propext ⟨fun _ => trivial, fun _ => Or.inr ⟨rfl, rfl⟩⟩, propext ⟨fun _ => trivial, fun _ => Or.inr ⟨rfl, rfl⟩⟩, propext ⟨fun _ => trivial, fun _ => Or.inr ⟨rfl, rfl⟩⟩, propext ⟨fun _ => trivial, fun _ => Or.inr ⟨rfl, rfl⟩⟩, propext ⟨fun _ => trivial, fun _ => Or.inr ⟨rfl, rfl⟩⟩, propext ⟨fun _ => trivial, fun _ => Or.inr ⟨rfl, rfl⟩⟩, propext ⟨fun _ => trivial, fun _ => Or.inr ⟨rfl, rfl⟩⟩, propext ⟨fun _ => trivial, fun _ => Or.inr ⟨rfl, rfl⟩⟩, propext ⟨fun _ => trivial, fun _ => Or.inr ⟨rfl, rfl⟩⟩⟩
theorem fp_11 (ini : Bool) (o : Nat) : hw_pok ini o 11 0 = True ∧ hw_pok ini o 11 1 = True ∧ hw_pok ini o 11 5 = True ∧ hw_pok ini o 11 7 = True ∧ hw_pok ini o 11 8 = True ∧ hw_pok ini o 11 10 = True ∧ hw_pok ini o 11 12 = True ∧ hw_pok ini o 11 14 = True ∧ hw_pok ini o 11 15 = True ∧ hw_pok ini o 11 16 = True ∧ hw_pok ini o 11 20 = True ∧ hw_pok ini o 11 25 = True ∧ hw_pok ini o 11 29 = True ∧ hw_pok ini o 11 31 = True ∧ hw_pok ini o 11 33 = True ∧ hw_pok ini o 11 35 = True ∧ hw_pok ini o 11 38 = True ∧ hw_pok ini o 11 39 = True ∧ hw_pok ini o 11 41 = True ∧ hw_pok ini o 11 43 = True ∧ hw_pok ini o 11 45 = True ∧ hw_pok ini o 11 49 = True := ⟨propext ⟨fun _ => trivial, fun _ => Or.inl rfl⟩, propext ⟨fun _ => trivial, fun _ => Or.inl rfl⟩, propext ⟨fun _ => trivial, fun _ => Or.inl rfl⟩, propext ⟨fun _ => trivial, fun _ => Or.inl rfl⟩, propext ⟨fun _ => trivial, fun _ => Or.inl rfl⟩, propext ⟨fun _ => trivial, fun _ => Or.inl rfl⟩, propext ⟨fun _ => trivial, fun _ => Or.inl rfl⟩, propext ⟨fun _ => trivial, fun _ => Or.inl rfl⟩, propext ⟨fun _ => trivial, fun _ => Or.inl rfl⟩, propext ⟨fun _ => trivial, fun _ => Or.inl rfl⟩, propext ⟨fun _ => trivial, fun _ => Or.inl rfl⟩, propext ⟨fun _ => trivial, fun _ => Or.inl rfl⟩, propext ⟨fun _ => trivial, fun _ => Or.inl rfl⟩, propext ⟨fun _ => trivial, fun _ => Or.inl rfl⟩, propext ⟨fun _ => trivial, fun _ => Or.inl rfl⟩, propext ⟨fun _ => trivial, fun _ => Or.inl rfl⟩, propext ⟨fun _ => trivial, fun _ => Or.inl rfl⟩, propext ⟨fun _ => trivial, fun _ => Or.inl rfl⟩, propext ⟨fun _ => trivial, fun _ => Or.inl rfl⟩, propext ⟨fun _ => trivial, fun _ => Or.inl rfl⟩, propext ⟨fun _ => trivial, fun _ => Or.inl rfl⟩, propext ⟨fun _ => trivial, fun _ => Or.inl rfl⟩⟩
